set_option maxRecDepth 20000 in
theorem ggX0_read_X0_forget : GoodIn wsX0_read wsX0_forget := goodIn_r _ [7, 8, 9, 65, 66, 67, 68] (by decide +kernel) (by decide +kernel)
set_option maxRecDepth 20000 in
theorem gX0_read_X0_forget : GoodIn wsX0_read (wsV RX0 27 RX0 yX0_forget wsX0_forget) := goodIn_app (goodIn_of _ (by decide +kernel)) ggX0_read_X0_forget
set_option maxRecDepth 20000 in
theorem ggX0_read_X0_readLine : GoodIn wsX0_read wsX0_readLine := goodIn_r _ [13, 2, 14, 8, 9, 1, 15, 16, 17, 18, 19, 20, 21, 22, 23, 24, 25, 26, 27, 28, 29, 30, 31, 32, 33, 34, 35, 36, 37, 38, 39, 40, 41, 42, 43, 44, 45, 46, 47, 48, 49, 50, 51, 56, 57, 58, 59, 60, 61, 62, 63, 64, 65, 66, 67, 68] (by decide +kernel) (by decide +kernel)
set_option maxRecDepth 20000 in
theorem gX0_read_X0_readLine : GoodIn wsX0_read (wsV RX0 38 RX0 yX0_readLine wsX0_readLine) := goodIn_app (goodIn_of _ (by decide +kernel)) ggX0_read_X0_readLine
set_option maxRecDepth 20000 in
theorem ggX0_read_X7_takeEnd : GoodIn wsX0_read wsX7_takeEnd := goodIn_r _ [55, 25, 22, 31, 18, 19, 20, 21, 23, 24, 56, 57, 58, 59, 60, 61, 62, 63, 64] (by decide +kernel) (by decide +kernel)
set_option maxRecDepth 20000 in
theorem gX0_read_X7_takeEnd : GoodIn wsX0_read (wsV RX0 42 RX7 yX7_takeEnd wsX7_takeEnd) := goodIn_app (goodIn_of _ (by decide +kernel)) ggX0_read_X7_takeEnd
set_option maxRecDepth 20000 in
theorem ggX0_readLine_X7_wrong : GoodIn wsX0_readLine wsX7_wrong := goodIn_r _ [12, 13, 14, 15, 16, 43, 44, 45, 46, 47, 48, 49, 50, 51] (by decide +kernel) (by decide +kernel)
set_option maxRecDepth 20000 in
theorem gX0_readLine_X7_wrong : GoodIn wsX0_readLine (wsV RX0 49 RX7 yX7_wrong wsX7_wrong) := goodIn_app (goodIn_of _ (by decide +kernel)) ggX0_readLine_X7_wrong
set_option maxRecDepth 20000 in
theorem ggX0_readLine_X7_takeNumber : GoodIn wsX0_readLine wsX7_takeNumber := goodIn_r _ [20, 16, 21, 22, 9, 10, 11, 12, 13, 14, 15, 23, 24, 25, 26, 27, 28, 29, 30, 31, 32, 33, 34, 43, 44, 45, 46, 47, 48, 49, 50, 51] (by decide +kernel) (by decide +kernel)
set_option maxRecDepth 20000 in
theorem gX0_readLine_X7_takeNumber : GoodIn wsX0_readLine (wsV RX0 53 RX7 yX7_takeNumber wsX7_takeNumber) := goodIn_app (goodIn_of _ (by decide +kernel)) ggX0_readLine_X7_takeNumber
set_option maxRecDepth 20000 in
theorem ggX0_readLine_X7_takeSign : GoodIn wsX0_readLine wsX7_takeSign := goodIn_r _ [38, 39, 40, 41, 11, 42, 16, 29, 14, 23, 24, 25, 26, 13, 27, 28, 21, 30, 31, 32, 33, 34, 22, 9, 10, 12, 15, 43, 44, 45, 46, 47, 48, 49, 50, 51] (by decide +kernel) (by decide +kernel)
set_option maxRecDepth 20000 in
theorem gX0_readLine_X7_takeSign : GoodIn wsX0_readLine (wsV RX0 57 RX7 yX7_takeSign wsX7_takeSign) := goodIn_app (goodIn_of _ (by decide +kernel)) ggX0_readLine_X7_takeSign
set_option maxRecDepth 20000 in
theorem ggX0_depths_X0_depthsShowing : GoodIn wsX0_depths wsX0_depthsShowing := goodIn_r _ [9, 2, 10, 11, 12, 13, 14, 15, 16, 17, 18, 19, 20, 21, 26, 27, 28, 29, 30, 31, 32, 33] (by decide +kernel) (by decide +kernel)
set_option maxRecDepth 20000 in
theorem gX0_depths_X0_depthsShowing : GoodIn wsX0_depths (va_wsS RX0 62 yX0_depthsShowing wsX0_depthsShowing) := goodIn_app (goodIn_of _ (by decide +kernel)) ggX0_depths_X0_depthsShowing
set_option maxRecDepth 20000 in
theorem ggX0_depthsShowing_X2_outsideOf : GoodIn wsX0_depthsShowing wsX2_outsideOf := goodIn_r _ [7, 8, 9, 10, 11, 6, 12, 13, 14, 15, 16, 17, 18, 19, 20, 21] (by decide +kernel) (by decide +kernel)
set_option maxRecDepth 20000 in
theorem gX0_depthsShowing_X2_outsideOf : GoodIn wsX0_depthsShowing (wsV RX0 71 RX2 yX2_outsideOf wsX2_outsideOf) := goodIn_app (goodIn_of _ (by decide +kernel)) ggX0_depthsShowing_X2_outsideOf
set_option maxRecDepth 20000 in
theorem ggX0_nextLook_X0_depths : GoodIn wsX0_nextLook wsX0_depths := goodIn_r _ [7, 1, 8, 9, 10, 11, 12, 13, 6, 14, 2, 15, 16, 17, 18, 19, 20, 21, 22, 23, 24, 25, 40, 41, 42, 43, 44, 45, 46, 47, 48, 49, 50, 51] (by decide +kernel) (by decide +kernel)
set_option maxRecDepth 20000 in
theorem gX0_nextLook_X0_depths : GoodIn wsX0_nextLook (wsV RX0 74 RX0 yX0_depths wsX0_depths) := goodIn_app (goodIn_of _ (by decide +kernel)) ggX0_nextLook_X0_depths
set_option maxRecDepth 20000 in
theorem ggX0_nextLook_X0_leftAtWorst : GoodIn wsX0_nextLook wsX0_leftAtWorst := goodIn_r _ [28, 29, 30, 31, 32, 33, 34, 35, 36, 37, 38, 39] (by decide +kernel) (by decide +kernel)
set_option maxRecDepth 20000 in
theorem gX0_nextLook_X0_leftAtWorst : GoodIn wsX0_nextLook (va_wsS RX0 77 yX0_leftAtWorst wsX0_leftAtWorst) := goodIn_app (goodIn_of _ (by decide +kernel)) ggX0_nextLook_X0_leftAtWorst
set_option maxRecDepth 20000 in
theorem ggX0_leftAtWorst_J6_bitCount_0f7a4 : GoodIn wsX0_leftAtWorst wsJ6_bitCount_0f7a4 := goodIn_r _ [8, 9, 10, 11] (by decide +kernel) (by decide +kernel)
set_option maxRecDepth 20000 in
theorem gX0_leftAtWorst_J6_bitCount_0f7a4 : GoodIn wsX0_leftAtWorst (va_wsS RX0 80 yJ6_bitCount_0f7a4 wsJ6_bitCount_0f7a4) := goodIn_app (goodIn_of _ (by decide +kernel)) ggX0_leftAtWorst_J6_bitCount_0f7a4
set_option maxRecDepth 20000 in
theorem ggX1_cellsHaving_X2_outsideOf : GoodIn wsX1_cellsHaving wsX2_outsideOf := goodIn_r _ [5, 6, 7, 8, 9, 4, 10, 11, 12, 13, 14, 15, 16, 17, 18, 19] (by decide +kernel) (by decide +kernel)
set_option maxRecDepth 20000 in
theorem gX1_cellsHaving_X2_outsideOf : GoodIn wsX1_cellsHaving (wsV RX1 24 RX2 yX2_outsideOf wsX2_outsideOf) := goodIn_app (goodIn_of _ (by decide +kernel)) ggX1_cellsHaving_X2_outsideOf
set_option maxRecDepth 20000 in
theorem ggX1_cellsShowing_X2_shown : GoodIn wsX1_cellsShowing wsX2_shown := goodIn_r _ [5, 6, 7, 8, 9, 10, 11, 12, 13, 14, 15] (by decide +kernel) (by decide +kernel)
set_option maxRecDepth 20000 in
theorem gX1_cellsShowing_X2_shown : GoodIn wsX1_cellsShowing (wsV RX1 30 RX2 yX2_shown wsX2_shown) := goodIn_app (goodIn_of _ (by decide +kernel)) ggX1_cellsShowing_X2_shown
set_option maxRecDepth 20000 in
theorem ggX1_costOf_X2_outsideOf : GoodIn wsX1_costOf wsX2_outsideOf := goodIn_r _ [5, 6, 7, 8, 9, 4, 10, 11, 12, 13, 14, 15, 16, 17, 18, 19] (by decide +kernel) (by decide +kernel)
set_option maxRecDepth 20000 in
theorem gX1_costOf_X2_outsideOf : GoodIn wsX1_costOf (wsV RX1 24 RX2 yX2_outsideOf wsX2_outsideOf) := goodIn_app (goodIn_of _ (by decide +kernel)) ggX1_costOf_X2_outsideOf
set_option maxRecDepth 20000 in
theorem ggX1_bestDay_X2_behind : GoodIn wsX1_bestDay wsX2_behind := goodIn_r _ [6, 7, 8, 19, 20, 21, 22, 23, 24, 25, 26] (by decide +kernel) (by decide +kernel)
set_option maxRecDepth 20000 in
theorem gX1_bestDay_X2_behind : GoodIn wsX1_bestDay (wsV RX1 36 RX2 yX2_behind wsX2_behind) := goodIn_app (goodIn_of _ (by decide +kernel)) ggX1_bestDay_X2_behind
set_option maxRecDepth 20000 in
theorem ggX1_bestDay_X1_costOf : GoodIn wsX1_bestDay wsX1_costOf := goodIn_r _ [13, 14, 15, 16, 5, 17, 7, 18, 3, 4, 6, 8, 19, 20, 21, 22, 23, 24, 25, 26] (by decide +kernel) (by decide +kernel)
set_option maxRecDepth 20000 in
theorem gX1_bestDay_X1_costOf : GoodIn wsX1_bestDay (wsV RX1 39 RX1 yX1_costOf wsX1_costOf) := goodIn_app (goodIn_of _ (by decide +kernel)) ggX1_bestDay_X1_costOf
set_option maxRecDepth 20000 in
theorem ggX1_countSeams_X1_isSeam : GoodIn wsX1_countSeams wsX1_isSeam := goodIn_r _ [4, 5, 6, 7, 8, 9, 10, 11, 12, 13, 14, 15, 16, 17, 18, 19] (by decide +kernel) (by decide +kernel)
set_option maxRecDepth 20000 in
theorem gX1_countSeams_X1_isSeam : GoodIn wsX1_countSeams (va_wsS RX1 43 yX1_isSeam wsX1_isSeam) := goodIn_app (goodIn_of _ (by decide +kernel)) ggX1_countSeams_X1_isSeam
set_option maxRecDepth 20000 in
theorem ggX1_isSeam_X2_shown : GoodIn wsX1_isSeam wsX2_shown := goodIn_r _ [5, 6, 7, 8, 9, 10, 11, 12, 13, 14, 15] (by decide +kernel) (by decide +kernel)
set_option maxRecDepth 20000 in
theorem gX1_isSeam_X2_shown : GoodIn wsX1_isSeam (wsV RX1 30 RX2 yX2_shown wsX2_shown) := goodIn_app (goodIn_of _ (by decide +kernel)) ggX1_isSeam_X2_shown
set_option maxRecDepth 20000 in
theorem ggX1_markFilms_J7_fill_53178 : GoodIn wsX1_markFilms wsJ7_fill_53178 := goodIn_r _ [6] (by decide +kernel) (by decide +kernel)
set_option maxRecDepth 20000 in
theorem gX1_markFilms_J7_fill_53178 : GoodIn wsX1_markFilms (va_wsS RX1 47 yJ7_fill_53178 wsJ7_fill_53178) := goodIn_app (goodIn_of _ (by decide +kernel)) ggX1_markFilms_J7_fill_53178
set_option maxRecDepth 20000 in
theorem ggX1_markFilms_X2_behind : GoodIn wsX1_markFilms wsX2_behind := goodIn_r _ [11, 12, 13, 18, 19, 20, 21, 22, 23, 24, 25] (by decide +kernel) (by decide +kernel)
set_option maxRecDepth 20000 in
theorem gX1_markFilms_X2_behind : GoodIn wsX1_markFilms (wsV RX1 36 RX2 yX2_behind wsX2_behind) := goodIn_app (goodIn_of _ (by decide +kernel)) ggX1_markFilms_X2_behind
set_option maxRecDepth 20000 in
theorem ggX1_countDaysShown_X1_markFilms : GoodIn wsX1_countDaysShown wsX1_markFilms := goodIn_r _ [6, 1, 7, 8, 9, 10, 11, 12, 13, 14, 15, 16, 17, 18, 19, 20, 21, 22, 23, 24, 25, 26, 27, 28, 29, 30] (by decide +kernel) (by decide +kernel)
set_option maxRecDepth 20000 in
theorem gX1_countDaysShown_X1_markFilms : GoodIn wsX1_countDaysShown (wsV RX1 53 RX1 yX1_markFilms wsX1_markFilms) := goodIn_app (goodIn_of _ (by decide +kernel)) ggX1_countDaysShown_X1_markFilms
set_option maxRecDepth 20000 in
theorem ggX1_earliest_X1_markFilms : GoodIn wsX1_earliest wsX1_markFilms := goodIn_r _ [6, 1, 7, 8, 9, 10, 11, 12, 13, 14, 15, 16, 17, 18, 19, 20, 21, 22, 23, 24, 25, 26, 27, 28, 29, 30] (by decide +kernel) (by decide +kernel)
set_option maxRecDepth 20000 in
theorem gX1_earliest_X1_markFilms : GoodIn wsX1_earliest (wsV RX1 53 RX1 yX1_markFilms wsX1_markFilms) := goodIn_app (goodIn_of _ (by decide +kernel)) ggX1_earliest_X1_markFilms
set_option maxRecDepth 20000 in
theorem ggX1_latestHidden_X1_markFilms : GoodIn wsX1_latestHidden wsX1_markFilms := goodIn_r _ [6, 1, 7, 8, 9, 10, 11, 12, 13, 14, 15, 16, 17, 18, 19, 20, 21, 22, 23, 24, 25, 26, 27, 28, 29, 30] (by decide +kernel) (by decide +kernel)
set_option maxRecDepth 20000 in
theorem gX1_latestHidden_X1_markFilms : GoodIn wsX1_latestHidden (wsV RX1 53 RX1 yX1_markFilms wsX1_markFilms) := goodIn_app (goodIn_of _ (by decide +kernel)) ggX1_latestHidden_X1_markFilms
set_option maxRecDepth 20000 in
theorem ggX1_sameCells_X2_shown : GoodIn wsX1_sameCells wsX2_shown := goodIn_r _ [5, 6, 7, 8, 9, 10, 11, 12, 13, 14, 15] (by decide +kernel) (by decide +kernel)
set_option maxRecDepth 20000 in
theorem gX1_sameCells_X2_shown : GoodIn wsX1_sameCells (wsV RX1 30 RX2 yX2_shown wsX2_shown) := goodIn_app (goodIn_of _ (by decide +kernel)) ggX1_sameCells_X2_shown
set_option maxRecDepth 20000 in
theorem ggX1_findPatch_X2_shown : GoodIn wsX1_findPatch wsX2_shown := goodIn_r _ [7, 8, 9, 30, 31, 32, 33, 34, 35, 36, 37] (by decide +kernel) (by decide +kernel)
set_option maxRecDepth 20000 in
theorem gX1_findPatch_X2_shown : GoodIn wsX1_findPatch (wsV RX1 30 RX2 yX2_shown wsX2_shown) := goodIn_app (goodIn_of _ (by decide +kernel)) ggX1_findPatch_X2_shown
set_option maxRecDepth 20000 in
theorem ggX1_findPatch_X1_cellsShowing : GoodIn wsX1_findPatch wsX1_cellsShowing := goodIn_r _ [14, 3, 4, 5, 6, 7, 8, 9, 30, 31, 32, 33, 34, 35, 36, 37] (by decide +kernel) (by decide +kernel)
set_option maxRecDepth 20000 in
theorem gX1_findPatch_X1_cellsShowing : GoodIn wsX1_findPatch (wsV RX1 64 RX1 yX1_cellsShowing wsX1_cellsShowing) := goodIn_app (goodIn_of _ (by decide +kernel)) ggX1_findPatch_X1_cellsShowing
set_option maxRecDepth 20000 in
theorem ggX1_findPatch_X1_spread : GoodIn wsX1_findPatch wsX1_spread := goodIn_r _ [17, 18] (by decide +kernel) (by decide +kernel)
set_option maxRecDepth 20000 in
theorem gX1_findPatch_X1_spread : GoodIn wsX1_findPatch (va_wsS RX1 67 yX1_spread wsX1_spread) := goodIn_app (goodIn_of _ (by decide +kernel)) ggX1_findPatch_X1_spread
set_option maxRecDepth 20000 in
theorem ggX1_findPatch_J6_bitCount_0f7a4 : GoodIn wsX1_findPatch wsJ6_bitCount_0f7a4 := goodIn_r _ [22, 23, 24, 25] (by decide +kernel) (by decide +kernel)
set_option maxRecDepth 20000 in
theorem gX1_findPatch_J6_bitCount_0f7a4 : GoodIn wsX1_findPatch (va_wsS RX1 70 yJ6_bitCount_0f7a4 wsJ6_bitCount_0f7a4) := goodIn_app (goodIn_of _ (by decide +kernel)) ggX1_findPatch_J6_bitCount_0f7a4
set_option maxRecDepth 20000 in
theorem ggX1_fewestCircles_X1_circleAt : GoodIn wsX1_fewestCircles wsX1_circleAt := goodIn_r _ [5, 6, 7, 8, 9] (by decide +kernel) (by decide +kernel)
set_option maxRecDepth 20000 in
theorem gX1_fewestCircles_X1_circleAt : GoodIn wsX1_fewestCircles (va_wsS RX1 76 yX1_circleAt wsX1_circleAt) := goodIn_app (goodIn_of _ (by decide +kernel)) ggX1_fewestCircles_X1_circleAt
set_option maxRecDepth 20000 in
theorem ggX1_fewestCircles_X1_pickCircles : GoodIn wsX1_fewestCircles wsX1_pickCircles := goodIn_r _ [13, 1, 10, 11, 12, 4, 14, 15, 16, 17] (by decide +kernel) (by decide +kernel)
set_option maxRecDepth 20000 in
theorem gX1_fewestCircles_X1_pickCircles : GoodIn wsX1_fewestCircles (wsV RX1 80 RX1 yX1_pickCircles wsX1_pickCircles) := goodIn_app (goodIn_of _ (by decide +kernel)) ggX1_fewestCircles_X1_pickCircles
set_option maxRecDepth 20000 in
theorem ggX1_pickCircles_X1_pickCircles : GoodIn wsX1_pickCircles wsX1_pickCircles := goodIn_r _ [0, 1, 2, 3, 4, 5, 6, 7, 8, 9] (by decide +kernel) (by decide +kernel)
set_option maxRecDepth 20000 in
theorem gX1_pickCircles_X1_pickCircles : GoodIn wsX1_pickCircles (wsV RX1 80 RX1 yX1_pickCircles wsX1_pickCircles) := goodIn_app (goodIn_of _ (by decide +kernel)) ggX1_pickCircles_X1_pickCircles
set_option maxRecDepth 20000 in
theorem ggX1_shareOf_X2_filmsOn : GoodIn wsX1_shareOf wsX2_filmsOn := goodIn_r _ [6, 7, 8, 9, 10, 11, 12, 13, 14, 15] (by decide +kernel) (by decide +kernel)
set_option maxRecDepth 20000 in
theorem gX1_shareOf_X2_filmsOn : GoodIn wsX1_shareOf (wsV RX1 84 RX2 yX2_filmsOn wsX2_filmsOn) := goodIn_app (goodIn_of _ (by decide +kernel)) ggX1_shareOf_X2_filmsOn
set_option maxRecDepth 20000 in
theorem ggX2_forget_J7_fill_53178 : GoodIn wsX2_forget wsJ7_fill_53178 := goodIn_r _ [11] (by decide +kernel) (by decide +kernel)
set_option maxRecDepth 20000 in
theorem gX2_forget_J7_fill_53178 : GoodIn wsX2_forget (va_wsS RX2 21 yJ7_fill_53178 wsJ7_fill_53178) := goodIn_app (goodIn_of _ (by decide +kernel)) ggX2_forget_J7_fill_53178
set_option maxRecDepth 20000 in
theorem ggX2_outsideOf_X2_behind : GoodIn wsX2_outsideOf wsX2_behind := goodIn_r _ [6, 1, 7, 8, 9, 10, 11, 12, 13, 14, 15] (by decide +kernel) (by decide +kernel)
set_option maxRecDepth 20000 in
theorem gX2_outsideOf_X2_behind : GoodIn wsX2_outsideOf (wsV RX2 49 RX2 yX2_behind wsX2_behind) := goodIn_app (goodIn_of _ (by decide +kernel)) ggX2_outsideOf_X2_behind
set_option maxRecDepth 20000 in
theorem ggX2_filmsOnAll_X2_filmsOn : GoodIn wsX2_filmsOnAll wsX2_filmsOn := goodIn_r _ [5, 6, 7, 8, 9, 10, 11, 12, 13, 14] (by decide +kernel) (by decide +kernel)
set_option maxRecDepth 20000 in
theorem gX2_filmsOnAll_X2_filmsOn : GoodIn wsX2_filmsOnAll (wsV RX2 53 RX2 yX2_filmsOn wsX2_filmsOn) := goodIn_app (goodIn_of _ (by decide +kernel)) ggX2_filmsOnAll_X2_filmsOn
set_option maxRecDepth 20000 in
theorem ggX2_filmsOf_X2_outsideOf : GoodIn wsX2_filmsOf wsX2_outsideOf := goodIn_r _ [5, 6, 7, 8, 9, 4, 10, 11, 12, 13, 14, 15, 16, 17, 18, 19] (by decide +kernel) (by decide +kernel)
set_option maxRecDepth 20000 in
theorem gX2_filmsOf_X2_outsideOf : GoodIn wsX2_filmsOf (wsV RX2 57 RX2 yX2_outsideOf wsX2_outsideOf) := goodIn_app (goodIn_of _ (by decide +kernel)) ggX2_filmsOf_X2_outsideOf
set_option maxRecDepth 20000 in
theorem ggX2_wipe_X2_wipeCell : GoodIn wsX2_wipe wsX2_wipeCell := goodIn_r _ [10, 11, 1, 12, 13, 14, 15, 9, 16, 17, 18, 19, 20, 21, 22, 23, 24, 25] (by decide +kernel) (by decide +kernel)
set_option maxRecDepth 20000 in
theorem gX2_wipe_X2_wipeCell : GoodIn wsX2_wipe (wsV RX2 65 RX2 yX2_wipeCell wsX2_wipeCell) := goodIn_app (goodIn_of _ (by decide +kernel)) ggX2_wipe_X2_wipeCell
set_option maxRecDepth 20000 in
theorem ggX2_wipeCell_X2_behind : GoodIn wsX2_wipeCell wsX2_behind := goodIn_r _ [8, 2, 9, 10, 11, 12, 13, 14, 15, 16, 17] (by decide +kernel) (by decide +kernel)
set_option maxRecDepth 20000 in
theorem gX2_wipeCell_X2_behind : GoodIn wsX2_wipeCell (wsV RX2 49 RX2 yX2_behind wsX2_behind) := goodIn_app (goodIn_of _ (by decide +kernel)) ggX2_wipeCell_X2_behind
set_option maxRecDepth 20000 in
theorem ggX2_rinse_J7_fill_53178 : GoodIn wsX2_rinse wsJ7_fill_53178 := goodIn_r _ [6] (by decide +kernel) (by decide +kernel)
set_option maxRecDepth 20000 in
theorem gX2_rinse_J7_fill_53178 : GoodIn wsX2_rinse (va_wsS RX2 21 yJ7_fill_53178 wsJ7_fill_53178) := goodIn_app (goodIn_of _ (by decide +kernel)) ggX2_rinse_J7_fill_53178
set_option maxRecDepth 20000 in
theorem ggX2_smash_X2_isBroken : GoodIn wsX2_smash wsX2_isBroken := goodIn_r _ [7, 1, 8, 9, 10, 11, 12, 13, 14, 15] (by decide +kernel) (by decide +kernel)
set_option maxRecDepth 20000 in
theorem gX2_smash_X2_isBroken : GoodIn wsX2_smash (wsV RX2 69 RX2 yX2_isBroken wsX2_isBroken) := goodIn_app (goodIn_of _ (by decide +kernel)) ggX2_smash_X2_isBroken
set_option maxRecDepth 20000 in
theorem ggX3_init_X3_forget : GoodIn wsX3_init wsX3_forget := goodIn_r _ [11, 5, 12, 13, 14, 15] (by decide +kernel) (by decide +kernel)
set_option maxRecDepth 20000 in
theorem gX3_init_X3_forget : GoodIn wsX3_init (wsV RX3 18 RX3 yX3_forget wsX3_forget) := goodIn_app (goodIn_of _ (by decide +kernel)) ggX3_init_X3_forget
set_option maxRecDepth 20000 in
theorem ggX3_read_X3_readSum : GoodIn wsX3_read wsX3_readSum := goodIn_r _ [6, 7, 8, 9, 5, 10, 11, 12, 13, 14, 15, 16, 17, 18, 19, 20, 21, 22, 23, 24, 25, 26, 27, 28, 29, 30, 31, 32, 33, 34, 1, 35, 36, 37, 38, 39, 2, 3, 4, 40, 41, 42, 43, 44, 45, 46, 47, 48, 49, 50, 51, 52, 53, 54, 55, 56, 57, 58, 59, 60, 61, 62, 63, 64, 65, 66, 67, 68, 69, 70, 71, 72, 73, 74, 75, 76, 77, 78, 79, 80, 81, 82, 83, 84, 85, 86, 87, 88, 89, 90, 91, 92, 93, 94, 95, 96, 97, 98, 99, 100, 101, 102, 103, 104, 105, 106, 107, 108, 109, 110, 111, 112, 113, 114, 115, 116, 117, 118, 119, 120, 121, 126, 127, 128, 129, 130, 131, 132, 133, 134, 135, 136, 137] (by decide +kernel) (by decide +kernel)
set_option maxRecDepth 20000 in
theorem gX3_read_X3_readSum : GoodIn wsX3_read (wsV RX3 25 RX3 yX3_readSum wsX3_readSum) := goodIn_app (goodIn_of _ (by decide +kernel)) ggX3_read_X3_readSum
set_option maxRecDepth 20000 in
theorem ggX3_read_X7_takeEnd : GoodIn wsX3_read wsX7_takeEnd := goodIn_r _ [125, 15, 22, 46, 47, 48, 13, 49, 17, 50, 129, 130, 131, 132, 133, 134, 135, 136, 137] (by decide +kernel) (by decide +kernel)
set_option maxRecDepth 20000 in
theorem gX3_read_X7_takeEnd : GoodIn wsX3_read (wsV RX3 29 RX7 yX7_takeEnd wsX7_takeEnd) := goodIn_app (goodIn_of _ (by decide +kernel)) ggX3_read_X7_takeEnd
set_option maxRecDepth 20000 in
theorem ggX3_readSum_X3_readProduct : GoodIn wsX3_readSum wsX3_readProduct := goodIn_r _ [51, 52, 53, 54, 4, 5, 6, 7, 8, 9, 10, 11, 12, 13, 14, 15, 16, 17, 18, 19, 20, 21, 22, 23, 24, 25, 26, 27, 28, 29, 30, 31, 32, 33, 34, 35, 36, 37, 38, 39, 40, 41, 42, 43, 44, 45, 46, 47, 48, 49, 50, 0, 1, 2, 3, 55, 56, 57, 58, 59, 60, 61, 62, 63, 64, 65, 66, 67, 68, 69, 70, 71, 72, 73, 74, 75, 76, 77, 78, 79, 80, 81, 82, 83, 84, 85, 86, 87, 88, 89, 90, 91, 92, 93, 94, 95, 96, 97, 98, 99, 100, 101, 102, 103, 104, 105, 106, 107, 108, 109, 110, 111, 112, 113, 114, 115, 116, 117, 118, 119, 120, 121, 122, 123, 124, 125, 126, 127, 128, 129, 130, 131, 132] (by decide +kernel) (by decide +kernel)
set_option maxRecDepth 20000 in
theorem gX3_readSum_X3_readProduct : GoodIn wsX3_readSum (wsV RX3 35 RX3 yX3_readProduct wsX3_readProduct) := goodIn_app (goodIn_of _ (by decide +kernel)) ggX3_readSum_X3_readProduct
set_option maxRecDepth 20000 in
theorem ggX3_readSum_X7_isSign : GoodIn wsX3_readSum wsX7_isSign := goodIn_r _ [9, 10, 11, 12, 124, 125, 126, 127, 128, 129, 130, 131, 132] (by decide +kernel) (by decide +kernel)
set_option maxRecDepth 20000 in
theorem gX3_readSum_X7_isSign : GoodIn wsX3_readSum (wsV RX3 38 RX7 yX7_isSign wsX7_isSign) := goodIn_app (goodIn_of _ (by decide +kernel)) ggX3_readSum_X7_isSign
set_option maxRecDepth 20000 in
theorem ggX3_readSum_X7_step : GoodIn wsX3_readSum wsX7_step := goodIn_r _ [16, 17, 18, 12, 19, 11, 20, 21, 10, 22, 23, 24, 25, 124, 125, 126, 127, 128, 129, 130, 131, 132] (by decide +kernel) (by decide +kernel)
set_option maxRecDepth 20000 in
theorem gX3_readSum_X7_step : GoodIn wsX3_readSum (wsV RX3 42 RX7 yX7_step wsX7_step) := goodIn_app (goodIn_of _ (by decide +kernel)) ggX3_readSum_X7_step
set_option maxRecDepth 20000 in
theorem ggX3_readSum_X3_put : GoodIn wsX3_readSum wsX3_put := goodIn_r _ [29, 30, 31, 121, 122, 123] (by decide +kernel) (by decide +kernel)
set_option maxRecDepth 20000 in
theorem gX3_readSum_X3_put : GoodIn wsX3_readSum (wsV RX3 45 RX3 yX3_put wsX3_put) := goodIn_app (goodIn_of _ (by decide +kernel)) ggX3_readSum_X3_put
set_option maxRecDepth 20000 in
theorem ggX3_readProduct_X3_readUnit : GoodIn wsX3_readProduct wsX3_readUnit := goodIn_r _ [55, 56, 57, 58, 59, 8, 60, 10, 20, 45, 46, 47, 48, 17, 12, 49, 44, 14, 15, 16, 18, 19, 11, 21, 22, 23, 24, 25, 26, 27, 28, 4, 29, 30, 31, 61, 62, 63, 64, 65, 66, 67, 68, 69, 70, 71, 72, 73, 74, 75, 76, 77, 78, 79, 80, 81, 82, 83, 84, 85, 86, 87, 88, 89, 90, 91, 92, 93, 94, 95, 96, 97, 98, 99, 100, 101, 102, 103, 104, 105, 106, 107, 108, 109, 110, 111, 112, 113, 114, 115, 116, 13, 5, 6, 7, 9, 117, 118, 119, 120, 32, 33, 34, 35, 36, 37, 38, 39, 40, 41, 42, 43, 50, 0, 1, 2, 3, 51, 52, 53, 54, 121, 122, 123, 124, 125, 126, 127, 128, 129, 130, 131, 132] (by decide +kernel) (by decide +kernel)
set_option maxRecDepth 20000 in
theorem gX3_readProduct_X3_readUnit : GoodIn wsX3_readProduct (wsV RX3 49 RX3 yX3_readUnit wsX3_readUnit) := goodIn_app (goodIn_of _ (by decide +kernel)) ggX3_readProduct_X3_readUnit
set_option maxRecDepth 20000 in
theorem ggX3_readProduct_X7_isSign : GoodIn wsX3_readProduct wsX7_isSign := goodIn_r _ [9, 10, 11, 12, 124, 125, 126, 127, 128, 129, 130, 131, 132] (by decide +kernel) (by decide +kernel)
set_option maxRecDepth 20000 in
theorem gX3_readProduct_X7_isSign : GoodIn wsX3_readProduct (wsV RX3 38 RX7 yX7_isSign wsX7_isSign) := goodIn_app (goodIn_of _ (by decide +kernel)) ggX3_readProduct_X7_isSign
set_option maxRecDepth 20000 in
theorem ggX3_readProduct_X7_step : GoodIn wsX3_readProduct wsX7_step := goodIn_r _ [16, 17, 18, 12, 19, 11, 20, 21, 10, 22, 23, 24, 25, 124, 125, 126, 127, 128, 129, 130, 131, 132] (by decide +kernel) (by decide +kernel)
set_option maxRecDepth 20000 in
theorem gX3_readProduct_X7_step : GoodIn wsX3_readProduct (wsV RX3 42 RX7 yX7_step wsX7_step) := goodIn_app (goodIn_of _ (by decide +kernel)) ggX3_readProduct_X7_step
set_option maxRecDepth 20000 in
theorem ggX3_readProduct_X3_put : GoodIn wsX3_readProduct wsX3_put := goodIn_r _ [29, 30, 31, 121, 122, 123] (by decide +kernel) (by decide +kernel)
set_option maxRecDepth 20000 in
theorem gX3_readProduct_X3_put : GoodIn wsX3_readProduct (wsV RX3 45 RX3 yX3_put wsX3_put) := goodIn_app (goodIn_of _ (by decide +kernel)) ggX3_readProduct_X3_put
set_option maxRecDepth 20000 in
theorem ggX3_readUnit_X7_takeNumber : GoodIn wsX3_readUnit wsX7_takeNumber := goodIn_r _ [6, 7, 8, 9, 10, 11, 5, 12, 13, 14, 15, 16, 17, 18, 19, 20, 21, 22, 23, 24, 25, 26, 27, 124, 125, 126, 127, 128, 129, 130, 131, 132] (by decide +kernel) (by decide +kernel)
set_option maxRecDepth 20000 in
theorem gX3_readUnit_X7_takeNumber : GoodIn wsX3_readUnit (wsV RX3 55 RX7 yX7_takeNumber wsX7_takeNumber) := goodIn_app (goodIn_of _ (by decide +kernel)) ggX3_readUnit_X7_takeNumber
set_option maxRecDepth 20000 in
theorem ggX3_readUnit_X3_put : GoodIn wsX3_readUnit wsX3_put := goodIn_r _ [32, 33, 34, 121, 122, 123] (by decide +kernel) (by decide +kernel)
set_option maxRecDepth 20000 in
theorem gX3_readUnit_X3_put : GoodIn wsX3_readUnit (wsV RX3 45 RX3 yX3_put wsX3_put) := goodIn_app (goodIn_of _ (by decide +kernel)) ggX3_readUnit_X3_put
set_option maxRecDepth 20000 in
theorem ggX3_readUnit_X7_isWord : GoodIn wsX3_readUnit wsX7_isWord := goodIn_r _ [38, 7, 20, 14, 22, 39, 40, 41, 42, 43, 44, 45, 46, 47, 48, 49, 50, 51, 52, 53, 54, 55, 56, 57, 58, 59, 60, 61, 62, 63, 64, 65, 66, 67, 68, 69, 70, 71, 72, 73, 74, 75, 76, 77, 78, 79, 80, 81, 82, 83, 84, 85, 86, 87, 124, 125, 126, 127, 128, 129, 130, 131, 132] (by decide +kernel) (by decide +kernel)
set_option maxRecDepth 20000 in
theorem gX3_readUnit_X7_isWord : GoodIn wsX3_readUnit (wsV RX3 61 RX7 yX7_isWord wsX7_isWord) := goodIn_app (goodIn_of _ (by decide +kernel)) ggX3_readUnit_X7_isWord
set_option maxRecDepth 20000 in
theorem ggX3_readUnit_X3_nameOf : GoodIn wsX3_readUnit wsX3_nameOf := goodIn_r _ [90, 35, 36, 37, 5, 38, 7, 20, 14, 22, 39, 40, 41, 42, 43, 44, 45, 46, 47, 48, 49, 50, 51, 52, 53, 54, 55, 56, 57, 58, 59, 60, 61, 62, 63, 64, 65, 66, 67, 68, 69, 70, 71, 72, 73, 74, 75, 76, 77, 78, 79, 80, 81, 82, 83, 84, 85, 86, 87, 124, 125, 126, 127, 128, 129, 130, 131, 132] (by decide +kernel) (by decide +kernel)
set_option maxRecDepth 20000 in
theorem gX3_readUnit_X3_nameOf : GoodIn wsX3_readUnit (va_wsS RX3 67 yX3_nameOf wsX3_nameOf) := goodIn_app (goodIn_of _ (by decide +kernel)) ggX3_readUnit_X3_nameOf
set_option maxRecDepth 20000 in
theorem ggX3_readUnit_X7_step : GoodIn wsX3_readUnit wsX7_step := goodIn_r _ [19, 13, 20, 14, 21, 22, 8, 23, 7, 24, 25, 26, 27, 124, 125, 126, 127, 128, 129, 130, 131, 132] (by decide +kernel) (by decide +kernel)
set_option maxRecDepth 20000 in
theorem gX3_readUnit_X7_step : GoodIn wsX3_readUnit (wsV RX3 42 RX7 yX7_step wsX7_step) := goodIn_app (goodIn_of _ (by decide +kernel)) ggX3_readUnit_X7_step
set_option maxRecDepth 20000 in
theorem ggX3_readUnit_X7_isSign : GoodIn wsX3_readUnit wsX7_isSign := goodIn_r _ [95, 7, 22, 14, 124, 125, 126, 127, 128, 129, 130, 131, 132] (by decide +kernel) (by decide +kernel)
set_option maxRecDepth 20000 in
theorem gX3_readUnit_X7_isSign : GoodIn wsX3_readUnit (wsV RX3 38 RX7 yX7_isSign wsX7_isSign) := goodIn_app (goodIn_of _ (by decide +kernel)) ggX3_readUnit_X7_isSign
set_option maxRecDepth 20000 in
theorem ggX3_readUnit_X7_wrong : GoodIn wsX3_readUnit wsX7_wrong := goodIn_r _ [12, 13, 14, 15, 7, 124, 125, 126, 127, 128, 129, 130, 131, 132] (by decide +kernel) (by decide +kernel)
set_option maxRecDepth 20000 in
theorem gX3_readUnit_X7_wrong : GoodIn wsX3_readUnit (wsV RX3 71 RX7 yX7_wrong wsX7_wrong) := goodIn_app (goodIn_of _ (by decide +kernel)) ggX3_readUnit_X7_wrong
set_option maxRecDepth 20000 in
theorem ggX3_readUnit_X3_readOpened : GoodIn wsX3_readUnit wsX3_readOpened := goodIn_r _ [100, 101, 102, 103, 31, 28, 29, 30, 32, 33, 34, 104, 105, 106, 107, 108, 109, 5, 110, 111, 93, 94, 95, 7, 22, 14, 16, 17, 18, 19, 13, 20, 21, 8, 23, 24, 25, 26, 27, 9, 10, 11, 12, 15, 112, 113, 114, 115, 116, 92, 91, 117, 118, 119, 120, 0, 1, 2, 3, 4, 6, 35, 36, 37, 38, 39, 40, 41, 42, 43, 44, 45, 46, 47, 48, 49, 50, 51, 52, 53, 54, 55, 56, 57, 58, 59, 60, 61, 62, 63, 64, 65, 66, 67, 68, 69, 70, 71, 72, 73, 74, 75, 76, 77, 78, 79, 80, 81, 82, 83, 84, 85, 86, 87, 88, 89, 90, 96, 97, 98, 99, 121, 122, 123, 124, 125, 126, 127, 128, 129, 130, 131, 132] (by decide +kernel) (by decide +kernel)
set_option maxRecDepth 20000 in
theorem gX3_readUnit_X3_readOpened : GoodIn wsX3_readUnit (wsV RX3 74 RX3 yX3_readOpened wsX3_readOpened) := goodIn_app (goodIn_of _ (by decide +kernel)) ggX3_readUnit_X3_readOpened
set_option maxRecDepth 20000 in
theorem ggX3_readOpened_X3_readPair : GoodIn wsX3_readOpened wsX3_readPair := goodIn_r _ [44, 14, 15, 16, 17, 18, 19, 20, 21, 22, 23, 24, 25, 26, 27, 28, 29, 30, 31, 32, 33, 34, 35, 36, 37, 38, 39, 40, 41, 42, 43, 11, 12, 13, 4, 0, 1, 2, 3, 5, 6, 7, 8, 9, 10, 45, 46, 47, 48, 49, 50, 51, 52, 53, 54, 55, 56, 57, 58, 59, 60, 61, 62, 63, 64, 65, 66, 67, 68, 69, 70, 71, 72, 73, 74, 75, 76, 77, 78, 79, 80, 81, 82, 83, 84, 85, 86, 87, 88, 89, 90, 91, 92, 93, 94, 95, 96, 97, 98, 99, 100, 101, 102, 103, 104, 105, 106, 107, 108, 109, 110, 111, 112, 113, 114, 115, 116, 117, 118, 119, 120, 121, 122, 123, 124, 125, 126, 127, 128, 129, 130, 131, 132] (by decide +kernel) (by decide +kernel)
set_option maxRecDepth 20000 in
theorem gX3_readOpened_X3_readPair : GoodIn wsX3_readOpened (wsV RX3 78 RX3 yX3_readPair wsX3_readPair) := goodIn_app (goodIn_of _ (by decide +kernel)) ggX3_readOpened_X3_readPair
set_option maxRecDepth 20000 in
theorem ggX3_readOpened_X3_put : GoodIn wsX3_readOpened wsX3_put := goodIn_r _ [8, 9, 10, 121, 122, 123] (by decide +kernel) (by decide +kernel)
set_option maxRecDepth 20000 in
theorem gX3_readOpened_X3_put : GoodIn wsX3_readOpened (wsV RX3 45 RX3 yX3_put wsX3_put) := goodIn_app (goodIn_of _ (by decide +kernel)) ggX3_readOpened_X3_put
set_option maxRecDepth 20000 in
theorem ggX3_readOpened_X3_readSum : GoodIn wsX3_readOpened wsX3_readSum := goodIn_r _ [51, 52, 53, 54, 4, 49, 20, 21, 17, 22, 23, 24, 25, 50, 27, 28, 29, 30, 31, 32, 33, 34, 35, 36, 37, 38, 5, 6, 7, 8, 9, 10, 0, 1, 2, 3, 11, 12, 13, 14, 15, 16, 18, 19, 26, 39, 40, 41, 42, 43, 44, 45, 46, 47, 48, 55, 56, 57, 58, 59, 60, 61, 62, 63, 64, 65, 66, 67, 68, 69, 70, 71, 72, 73, 74, 75, 76, 77, 78, 79, 80, 81, 82, 83, 84, 85, 86, 87, 88, 89, 90, 91, 92, 93, 94, 95, 96, 97, 98, 99, 100, 101, 102, 103, 104, 105, 106, 107, 108, 109, 110, 111, 112, 113, 114, 115, 116, 117, 118, 119, 120, 121, 122, 123, 124, 125, 126, 127, 128, 129, 130, 131, 132] (by decide +kernel) (by decide +kernel)
set_option maxRecDepth 20000 in
theorem gX3_readOpened_X3_readSum : GoodIn wsX3_readOpened (wsV RX3 25 RX3 yX3_readSum wsX3_readSum) := goodIn_app (goodIn_of _ (by decide +kernel)) ggX3_readOpened_X3_readSum
set_option maxRecDepth 20000 in
theorem ggX3_readOpened_X7_takeSign : GoodIn wsX3_readOpened wsX7_takeSign := goodIn_r _ [18, 19, 20, 21, 17, 22, 23, 24, 25, 26, 27, 28, 29, 30, 31, 32, 33, 34, 35, 36, 37, 38, 39, 40, 41, 42, 43, 124, 125, 126, 127, 128, 129, 130, 131, 132] (by decide +kernel) (by decide +kernel)
set_option maxRecDepth 20000 in
theorem gX3_readOpened_X7_takeSign : GoodIn wsX3_readOpened (wsV RX3 81 RX7 yX7_takeSign wsX7_takeSign) := goodIn_app (goodIn_of _ (by decide +kernel)) ggX3_readOpened_X7_takeSign
set_option maxRecDepth 20000 in
theorem ggX3_readPair_X7_takeSign : GoodIn wsX3_readPair wsX7_takeSign := goodIn_r _ [5, 6, 7, 8, 4, 9, 10, 11, 12, 13, 14, 15, 16, 17, 18, 19, 20, 21, 22, 23, 24, 25, 26, 27, 28, 29, 30, 124, 125, 126, 127, 128, 129, 130, 131, 132] (by decide +kernel) (by decide +kernel)
set_option maxRecDepth 20000 in
theorem gX3_readPair_X7_takeSign : GoodIn wsX3_readPair (wsV RX3 81 RX7 yX7_takeSign wsX7_takeSign) := goodIn_app (goodIn_of _ (by decide +kernel)) ggX3_readPair_X7_takeSign
set_option maxRecDepth 20000 in
theorem ggX3_readPair_X3_readSum : GoodIn wsX3_readPair wsX3_readSum := goodIn_r _ [51, 52, 53, 54, 34, 49, 7, 8, 4, 9, 10, 11, 12, 50, 14, 15, 16, 17, 18, 19, 20, 21, 22, 23, 24, 25, 39, 40, 41, 42, 43, 44, 35, 36, 37, 38, 31, 32, 33, 1, 2, 3, 5, 6, 13, 26, 27, 28, 29, 30, 0, 45, 46, 47, 48, 55, 56, 57, 58, 59, 60, 61, 62, 63, 64, 65, 66, 67, 68, 69, 70, 71, 72, 73, 74, 75, 76, 77, 78, 79, 80, 81, 82, 83, 84, 85, 86, 87, 88, 89, 90, 91, 92, 93, 94, 95, 96, 97, 98, 99, 100, 101, 102, 103, 104, 105, 106, 107, 108, 109, 110, 111, 112, 113, 114, 115, 116, 117, 118, 119, 120, 121, 122, 123, 124, 125, 126, 127, 128, 129, 130, 131, 132] (by decide +kernel) (by decide +kernel)
set_option maxRecDepth 20000 in
theorem gX3_readPair_X3_readSum : GoodIn wsX3_readPair (wsV RX3 25 RX3 yX3_readSum wsX3_readSum) := goodIn_app (goodIn_of _ (by decide +kernel)) ggX3_readPair_X3_readSum
set_option maxRecDepth 20000 in
theorem ggX3_nameOf_X7_isWord : GoodIn wsX3_nameOf wsX7_isWord := goodIn_r _ [5, 6, 7, 8, 9, 10, 11, 12, 13, 14, 15, 16, 17, 18, 19, 20, 21, 22, 23, 24, 25, 26, 27, 28, 29, 30, 31, 32, 33, 34, 35, 36, 37, 38, 39, 40, 41, 42, 43, 44, 45, 46, 47, 48, 49, 50, 51, 52, 53, 54, 55, 56, 57, 58, 59, 60, 61, 62, 63, 64, 65, 66, 67] (by decide +kernel) (by decide +kernel)
set_option maxRecDepth 20000 in
theorem gX3_nameOf_X7_isWord : GoodIn wsX3_nameOf (wsV RX3 61 RX7 yX7_isWord wsX7_isWord) := goodIn_app (goodIn_of _ (by decide +kernel)) ggX3_nameOf_X7_isWord
set_option maxRecDepth 20000 in
theorem ggX4_init_X2_init : GoodIn wsX4_init wsX2_init := goodIn_r _ [10, 11, 2, 3, 12, 13, 14, 15, 16, 17, 18, 19, 20, 21, 22, 23] (by decide +kernel) (by decide +kernel)
set_option maxRecDepth 20000 in
theorem gX4_init_X2_init_n11 : GoodIn wsX4_init (wsX2_init) := ggX4_init_X2_init
set_option maxRecDepth 20000 in
theorem ggX4_forget_X2_forget : GoodIn wsX4_forget wsX2_forget := goodIn_r _ [7, 8, 9, 10, 11, 12, 13, 14, 15, 16, 17, 18, 22, 23, 24, 25, 26, 27, 28, 29] (by decide +kernel) (by decide +kernel)
set_option maxRecDepth 20000 in
theorem gX4_forget_X2_forget : GoodIn wsX4_forget (wsV RX4 22 RX2 yX2_forget wsX2_forget) := goodIn_app (goodIn_of _ (by decide +kernel)) ggX4_forget_X2_forget
set_option maxRecDepth 20000 in
theorem ggX4_keep_X4_slot : GoodIn wsX4_keep wsX4_slot := goodIn_r _ [7, 8, 9, 10, 11, 12, 13, 14, 15, 16, 17, 18, 19, 20, 34, 35, 36, 37, 38, 39, 40, 41, 42, 43, 44] (by decide +kernel) (by decide +kernel)
set_option maxRecDepth 20000 in
theorem gX4_keep_X4_slot : GoodIn wsX4_keep (wsV RX4 29 RX4 yX4_slot wsX4_slot) := goodIn_app (goodIn_of _ (by decide +kernel)) ggX4_keep_X4_slot
set_option maxRecDepth 20000 in
theorem ggX4_keep_X2_copy : GoodIn wsX4_keep wsX2_copy := goodIn_r _ [24, 18, 25, 26, 27, 28, 19, 20, 29, 30, 31, 32, 33, 37, 38, 39, 40, 41, 42, 43, 44] (by decide +kernel) (by decide +kernel)
set_option maxRecDepth 20000 in
theorem gX4_keep_X2_copy : GoodIn wsX4_keep (wsV RX4 33 RX2 yX2_copy wsX2_copy) := goodIn_app (goodIn_of _ (by decide +kernel)) ggX4_keep_X2_copy
set_option maxRecDepth 20000 in
theorem ggX4_goBack_X4_slot : GoodIn wsX4_goBack wsX4_slot := goodIn_r _ [7, 8, 9, 10, 11, 12, 13, 14, 15, 16, 17, 18, 19, 20, 34, 35, 36, 37, 38, 39, 40, 41, 42, 43, 44] (by decide +kernel) (by decide +kernel)
set_option maxRecDepth 20000 in
theorem gX4_goBack_X4_slot : GoodIn wsX4_goBack (wsV RX4 29 RX4 yX4_slot wsX4_slot) := goodIn_app (goodIn_of _ (by decide +kernel)) ggX4_goBack_X4_slot
set_option maxRecDepth 20000 in
theorem ggX4_goBack_X2_copy : GoodIn wsX4_goBack wsX2_copy := goodIn_r _ [24, 18, 25, 26, 27, 28, 19, 20, 29, 30, 31, 32, 33, 37, 38, 39, 40, 41, 42, 43, 44] (by decide +kernel) (by decide +kernel)
set_option maxRecDepth 20000 in
theorem gX4_goBack_X2_copy : GoodIn wsX4_goBack (wsV RX4 33 RX2 yX2_copy wsX2_copy) := goodIn_app (goodIn_of _ (by decide +kernel)) ggX4_goBack_X2_copy
set_option maxRecDepth 20000 in
theorem ggX4_copy_X2_copy : GoodIn wsX4_copy wsX2_copy := goodIn_r _ [7, 8, 9, 10, 11, 12, 13, 14, 15, 16, 17, 18, 19, 37, 38, 39, 40, 41, 42, 43, 44] (by decide +kernel) (by decide +kernel)
set_option maxRecDepth 20000 in
theorem gX4_copy_X2_copy : GoodIn wsX4_copy (wsV RX4 33 RX2 yX2_copy wsX2_copy) := goodIn_app (goodIn_of _ (by decide +kernel)) ggX4_copy_X2_copy
set_option maxRecDepth 20000 in
theorem ggX4_copy_X4_slot : GoodIn wsX4_copy wsX4_slot := goodIn_r _ [24, 25, 26, 27, 6, 28, 29, 30, 31, 32, 33, 8, 13, 14, 34, 35, 36, 37, 38, 39, 40, 41, 42, 43, 44] (by decide +kernel) (by decide +kernel)
set_option maxRecDepth 20000 in
theorem gX4_copy_X4_slot : GoodIn wsX4_copy (wsV RX4 29 RX4 yX4_slot wsX4_slot) := goodIn_app (goodIn_of _ (by decide +kernel)) ggX4_copy_X4_slot
set_option maxRecDepth 20000 in
theorem ggX4_slot_X2_init : GoodIn wsX4_slot wsX2_init := goodIn_r _ [6, 7, 8, 9, 10, 11, 12, 13, 17, 18, 19, 20, 21, 22, 23, 24] (by decide +kernel) (by decide +kernel)
set_option maxRecDepth 20000 in
theorem gX4_slot_X2_init_n11 : GoodIn wsX4_slot (wsX2_init) := ggX4_slot_X2_init
set_option maxRecDepth 20000 in
theorem ggX5_walkFreely_J7_fill_53178 : GoodIn wsX5_walkFreely wsJ7_fill_53178 := goodIn_r _ [6] (by decide +kernel) (by decide +kernel)
set_option maxRecDepth 20000 in
theorem gX5_walkFreely_J7_fill_53178 : GoodIn wsX5_walkFreely (va_wsS RX5 16 yJ7_fill_53178 wsJ7_fill_53178) := goodIn_app (goodIn_of _ (by decide +kernel)) ggX5_walkFreely_J7_fill_53178
set_option maxRecDepth 20000 in
theorem ggX5_walkFreely_X5_walk : GoodIn wsX5_walkFreely wsX5_walk := goodIn_r _ [11, 12, 13, 14, 15, 16, 17, 18, 19, 20, 21, 22, 23, 10, 24, 25, 26, 27, 28, 29, 30, 31, 32, 1, 33, 34, 35, 36, 37, 38, 39, 40, 41, 42, 43, 44, 45, 46, 47, 48] (by decide +kernel) (by decide +kernel)
set_option maxRecDepth 20000 in
theorem gX5_walkFreely_X5_walk : GoodIn wsX5_walkFreely (wsV RX5 22 RX5 yX5_walk wsX5_walk) := goodIn_app (goodIn_of _ (by decide +kernel)) ggX5_walkFreely_X5_walk
set_option maxRecDepth 20000 in
theorem ggX5_walkInTime_J7_fill_53178 : GoodIn wsX5_walkInTime wsJ7_fill_53178 := goodIn_r _ [11] (by decide +kernel) (by decide +kernel)
set_option maxRecDepth 20000 in
theorem gX5_walkInTime_J7_fill_53178 : GoodIn wsX5_walkInTime (va_wsS RX5 16 yJ7_fill_53178 wsJ7_fill_53178) := goodIn_app (goodIn_of _ (by decide +kernel)) ggX5_walkInTime_J7_fill_53178
set_option maxRecDepth 20000 in
theorem ggX5_walkInTime_X6_part : GoodIn wsX5_walkInTime wsX6_part := goodIn_r _ [16, 17, 39, 40, 41, 42, 43, 44, 45, 46, 47, 48, 49, 50, 51] (by decide +kernel) (by decide +kernel)
set_option maxRecDepth 20000 in
theorem gX5_walkInTime_X6_part : GoodIn wsX5_walkInTime (wsV RX5 32 RX6 yX6_part wsX6_part) := goodIn_app (goodIn_of _ (by decide +kernel)) ggX5_walkInTime_X6_part
set_option maxRecDepth 20000 in
theorem ggX5_walkInTime_X5_walk : GoodIn wsX5_walkInTime wsX5_walk := goodIn_r _ [22, 23, 24, 3, 12, 13, 14, 15, 16, 17, 25, 26, 27, 21, 28, 29, 30, 31, 6, 32, 33, 34, 35, 1, 36, 37, 38, 39, 40, 41, 42, 43, 44, 45, 46, 47, 48, 49, 50, 51] (by decide +kernel) (by decide +kernel)
set_option maxRecDepth 20000 in
theorem gX5_walkInTime_X5_walk : GoodIn wsX5_walkInTime (wsV RX5 22 RX5 yX5_walk wsX5_walk) := goodIn_app (goodIn_of _ (by decide +kernel)) ggX5_walkInTime_X5_walk
set_option maxRecDepth 20000 in
theorem ggX5_walk_X6_part : GoodIn wsX5_walk wsX6_part := goodIn_r _ [8, 9, 27, 28, 29, 30, 31, 32, 33, 34, 35, 36, 37, 38, 39] (by decide +kernel) (by decide +kernel)
set_option maxRecDepth 20000 in
theorem gX5_walk_X6_part : GoodIn wsX5_walk (wsV RX5 32 RX6 yX6_part wsX6_part) := goodIn_app (goodIn_of _ (by decide +kernel)) ggX5_walk_X6_part
set_option maxRecDepth 20000 in
theorem ggX5_walk_X5_goOn : GoodIn wsX5_walk wsX5_goOn := goodIn_r _ [14, 1, 2, 15, 16, 17, 18, 19, 20, 21, 22, 23, 10, 11, 12, 13, 24, 25, 26, 27, 28, 29, 30, 31, 32, 33, 34, 35, 36, 37, 38, 39] (by decide +kernel) (by decide +kernel)
set_option maxRecDepth 20000 in
theorem gX5_walk_X5_goOn : GoodIn wsX5_walk (wsV RX5 47 RX5 yX5_goOn wsX5_goOn) := goodIn_app (goodIn_of _ (by decide +kernel)) ggX5_walk_X5_goOn
set_option maxRecDepth 20000 in
theorem ggX5_goOn_X5_goOn : GoodIn wsX5_goOn wsX5_goOn := goodIn_r _ [0, 1, 2, 3, 4, 5, 6, 7, 8, 9, 10, 11, 12, 13, 14, 15, 16, 17, 18, 19, 20, 21, 22, 23, 24, 25, 26, 27, 28, 29, 30, 31] (by decide +kernel) (by decide +kernel)
set_option maxRecDepth 20000 in
theorem gX5_goOn_X5_goOn : GoodIn wsX5_goOn (wsV RX5 47 RX5 yX5_goOn wsX5_goOn) := goodIn_app (goodIn_of _ (by decide +kernel)) ggX5_goOn_X5_goOn
set_option maxRecDepth 20000 in
theorem ggX6_init_X6_forget : GoodIn wsX6_init wsX6_forget := goodIn_r _ [16, 17, 18, 19, 20, 21, 22, 10, 23, 24, 25, 26, 27, 28, 29, 30, 31, 32, 33, 34, 35, 36, 37, 38, 39] (by decide +kernel) (by decide +kernel)
set_option maxRecDepth 20000 in
theorem gX6_init_X6_forget : GoodIn wsX6_init (wsV RX6 33 RX6 yX6_forget wsX6_forget) := goodIn_app (goodIn_of _ (by decide +kernel)) ggX6_init_X6_forget
set_option maxRecDepth 20000 in
theorem ggX6_cellOf_X10_cellAt : GoodIn wsX6_cellOf wsX10_cellAt := goodIn_r _ [4] (by decide +kernel) (by decide +kernel)
set_option maxRecDepth 20000 in
theorem gX6_cellOf_X10_cellAt_n36 : GoodIn wsX6_cellOf (wsX10_cellAt) := ggX6_cellOf_X10_cellAt
set_option maxRecDepth 20000 in
theorem ggX6_read_X6_forget : GoodIn wsX6_read wsX6_forget := goodIn_r _ [7, 8, 9, 10, 11, 12, 13, 14, 15, 16, 17, 18, 150, 151, 152, 153, 154, 155, 156, 157, 158, 159, 160, 161, 162] (by decide +kernel) (by decide +kernel)
set_option maxRecDepth 20000 in
theorem gX6_read_X6_forget : GoodIn wsX6_read (wsV RX6 33 RX6 yX6_forget wsX6_forget) := goodIn_app (goodIn_of _ (by decide +kernel)) ggX6_read_X6_forget
set_option maxRecDepth 20000 in
theorem ggX6_read_X6_readClause : GoodIn wsX6_read wsX6_readClause := goodIn_r _ [22, 23, 24, 6, 25, 26, 27, 28, 29, 30, 31, 32, 33, 34, 35, 36, 37, 38, 39, 40, 41, 42, 43, 44, 45, 46, 47, 48, 49, 50, 51, 52, 53, 54, 55, 56, 57, 58, 59, 60, 61, 62, 63, 64, 65, 66, 67, 68, 69, 70, 71, 72, 73, 74, 75, 76, 77, 78, 79, 80, 81, 82, 83, 84, 85, 86, 87, 88, 89, 90, 91, 92, 93, 8, 9, 10, 94, 95, 96, 97, 98, 99, 100, 101, 102, 103, 104, 105, 106, 107, 108, 14, 11, 12, 13, 109, 110, 111, 112, 113, 114, 115, 116, 117, 118, 119, 120, 121, 122, 123, 124, 125, 126, 127, 128, 129, 130, 131, 132, 133, 134, 135, 136, 141, 142, 143, 144, 145, 146, 147, 148, 149, 150, 151, 152, 153, 154, 155, 156, 157, 158, 159, 160, 161, 162] (by decide +kernel) (by decide +kernel)
set_option maxRecDepth 20000 in
theorem gX6_read_X6_readClause : GoodIn wsX6_read (wsV RX6 49 RX6 yX6_readClause wsX6_readClause) := goodIn_app (goodIn_of _ (by decide +kernel)) ggX6_read_X6_readClause
set_option maxRecDepth 20000 in
theorem ggX6_read_X7_takeEnd : GoodIn wsX6_read wsX7_takeEnd := goodIn_r _ [140, 31, 88, 122, 85, 86, 29, 87, 33, 89, 141, 142, 143, 144, 145, 146, 147, 148, 149] (by decide +kernel) (by decide +kernel)
set_option maxRecDepth 20000 in
theorem gX6_read_X7_takeEnd : GoodIn wsX6_read (wsV RX6 53 RX7 yX7_takeEnd wsX7_takeEnd) := goodIn_app (goodIn_of _ (by decide +kernel)) ggX6_read_X7_takeEnd
set_option maxRecDepth 20000 in
theorem ggX6_forget_J7_fill_53178 : GoodIn wsX6_forget wsJ7_fill_53178 := goodIn_r _ [11] (by decide +kernel) (by decide +kernel)
set_option maxRecDepth 20000 in
theorem gX6_forget_J7_fill_53178 : GoodIn wsX6_forget (va_wsS RX6 75 yJ7_fill_53178 wsJ7_fill_53178) := goodIn_app (goodIn_of _ (by decide +kernel)) ggX6_forget_J7_fill_53178
set_option maxRecDepth 20000 in
theorem ggX6_readClause_X6_clauseOf : GoodIn wsX6_readClause wsX6_clauseOf := goodIn_r _ [4, 5, 6, 7, 8, 9, 10, 11, 12, 13, 14, 15, 16, 17, 18, 19, 20, 21, 22, 23, 24, 25, 26, 27, 28, 29, 30, 31, 32, 33, 34, 35, 36, 37, 38, 39, 40, 41, 42, 43, 44, 45, 46, 47, 48, 49, 50, 51, 52, 53, 54, 55, 56, 57, 58, 59, 60, 61, 62, 123, 124, 125, 126, 127, 128, 129, 130, 131] (by decide +kernel) (by decide +kernel)
set_option maxRecDepth 20000 in
theorem gX6_readClause_X6_clauseOf : GoodIn wsX6_readClause (va_wsS RX6 81 yX6_clauseOf wsX6_clauseOf) := goodIn_app (goodIn_of _ (by decide +kernel)) ggX6_readClause_X6_clauseOf
set_option maxRecDepth 20000 in
theorem ggX6_readClause_X7_wrong : GoodIn wsX6_readClause wsX7_wrong := goodIn_r _ [66, 67, 12, 68, 10, 123, 124, 125, 126, 127, 128, 129, 130, 131] (by decide +kernel) (by decide +kernel)
set_option maxRecDepth 20000 in
theorem gX6_readClause_X7_wrong : GoodIn wsX6_readClause (wsV RX6 85 RX7 yX7_wrong wsX7_wrong) := goodIn_app (goodIn_of _ (by decide +kernel)) ggX6_readClause_X7_wrong
set_option maxRecDepth 20000 in
theorem ggX6_readClause_X6_isFull : GoodIn wsX6_readClause wsX6_isFull := goodIn_r _ [72, 73, 74, 75, 132, 133, 134, 135, 136, 137, 138, 139, 140, 141, 142, 143, 144] (by decide +kernel) (by decide +kernel)
set_option maxRecDepth 20000 in
theorem gX6_readClause_X6_isFull : GoodIn wsX6_readClause (wsV RX6 89 RX6 yX6_isFull wsX6_isFull) := goodIn_app (goodIn_of _ (by decide +kernel)) ggX6_readClause_X6_isFull
set_option maxRecDepth 20000 in
theorem ggX6_readClause_X7_step : GoodIn wsX6_readClause wsX7_step := goodIn_r _ [79, 67, 11, 12, 80, 13, 81, 82, 10, 83, 84, 85, 86, 123, 124, 125, 126, 127, 128, 129, 130, 131] (by decide +kernel) (by decide +kernel)
set_option maxRecDepth 20000 in
theorem gX6_readClause_X7_step : GoodIn wsX6_readClause (wsV RX6 93 RX7 yX7_step wsX7_step) := goodIn_app (goodIn_of _ (by decide +kernel)) ggX6_readClause_X7_step
set_option maxRecDepth 20000 in
theorem ggX6_readClause_X6_readNumbers : GoodIn wsX6_readClause wsX6_readNumbers := goodIn_r _ [90, 91, 74, 92, 93, 94, 95, 96, 97, 3, 98, 99, 73, 100, 101, 102, 103, 104, 105, 106, 8, 107, 10, 81, 108, 64, 65, 66, 67, 12, 68, 109, 77, 78, 79, 11, 80, 13, 82, 83, 84, 85, 86, 110, 111, 112, 113, 75, 114, 132, 133, 134, 135, 136, 137, 138, 139, 140, 141, 142, 143, 144, 123, 124, 125, 126, 127, 128, 129, 130, 131] (by decide +kernel) (by decide +kernel)
set_option maxRecDepth 20000 in
theorem gX6_readClause_X6_readNumbers : GoodIn wsX6_readClause (wsV RX6 96 RX6 yX6_readNumbers wsX6_readNumbers) := goodIn_app (goodIn_of _ (by decide +kernel)) ggX6_readClause_X6_readNumbers
set_option maxRecDepth 20000 in
theorem ggX6_readClause_X7_takeSign : GoodIn wsX6_readClause wsX7_takeSign := goodIn_r _ [118, 119, 120, 121, 8, 122, 10, 13, 12, 109, 77, 78, 79, 67, 11, 80, 81, 82, 83, 84, 85, 86, 108, 64, 65, 66, 68, 123, 124, 125, 126, 127, 128, 129, 130, 131] (by decide +kernel) (by decide +kernel)
set_option maxRecDepth 20000 in
theorem gX6_readClause_X7_takeSign : GoodIn wsX6_readClause (wsV RX6 99 RX7 yX7_takeSign wsX7_takeSign) := goodIn_app (goodIn_of _ (by decide +kernel)) ggX6_readClause_X7_takeSign
set_option maxRecDepth 20000 in
theorem ggX6_clauseOf_X7_isWord : GoodIn wsX6_clauseOf wsX7_isWord := goodIn_r _ [5, 6, 7, 8, 9, 10, 11, 12, 13, 14, 15, 16, 17, 18, 19, 20, 21, 22, 23, 24, 25, 26, 27, 28, 29, 30, 31, 32, 33, 34, 35, 36, 37, 38, 39, 40, 41, 42, 43, 44, 45, 46, 47, 48, 49, 50, 51, 52, 53, 54, 55, 56, 57, 58, 59, 60, 61, 62, 63, 64, 65, 66, 67] (by decide +kernel) (by decide +kernel)
set_option maxRecDepth 20000 in
theorem gX6_clauseOf_X7_isWord : GoodIn wsX6_clauseOf (wsV RX6 105 RX7 yX7_isWord wsX7_isWord) := goodIn_app (goodIn_of _ (by decide +kernel)) ggX6_clauseOf_X7_isWord
set_option maxRecDepth 20000 in
theorem ggX6_readNumbers_X6_readPane : GoodIn wsX6_readNumbers wsX6_readPane := goodIn_r _ [10, 11, 12, 13, 14, 15, 16, 17, 18, 19, 20, 21, 22, 23, 24, 25, 26, 27, 28, 29, 30, 31, 32, 33, 34, 35, 36, 37, 38, 39, 40, 41, 42, 49, 50, 51, 52, 53, 54, 55, 56, 57, 58, 59, 60, 61, 62, 63, 64, 65, 66, 67, 68, 69, 70] (by decide +kernel) (by decide +kernel)
set_option maxRecDepth 20000 in
theorem gX6_readNumbers_X6_readPane : GoodIn wsX6_readNumbers (wsV RX6 115 RX6 yX6_readPane wsX6_readPane) := goodIn_app (goodIn_of _ (by decide +kernel)) ggX6_readNumbers_X6_readPane
set_option maxRecDepth 20000 in
theorem ggX6_readNumbers_X7_takeNumber : GoodIn wsX6_readNumbers wsX7_takeNumber := goodIn_r _ [21, 22, 23, 24, 25, 26, 20, 27, 28, 29, 30, 31, 32, 33, 34, 35, 36, 37, 38, 39, 40, 41, 42, 62, 63, 64, 65, 66, 67, 68, 69, 70] (by decide +kernel) (by decide +kernel)
set_option maxRecDepth 20000 in
theorem gX6_readNumbers_X7_takeNumber : GoodIn wsX6_readNumbers (wsV RX6 119 RX7 yX7_takeNumber wsX7_takeNumber) := goodIn_app (goodIn_of _ (by decide +kernel)) ggX6_readNumbers_X7_takeNumber
set_option maxRecDepth 20000 in
theorem ggX6_readNumbers_X6_readOrder : GoodIn wsX6_readNumbers wsX6_readOrder := goodIn_r _ [46, 47, 12, 48, 11, 13, 17, 18, 19, 20, 21, 22, 23, 24, 25, 26, 27, 28, 29, 30, 31, 32, 33, 34, 35, 36, 37, 38, 39, 40, 41, 42, 49, 50, 51, 52, 53, 54, 55, 56, 57, 58, 59, 60, 61, 62, 63, 64, 65, 66, 67, 68, 69, 70] (by decide +kernel) (by decide +kernel)
set_option maxRecDepth 20000 in
theorem gX6_readNumbers_X6_readOrder : GoodIn wsX6_readNumbers (wsV RX6 123 RX6 yX6_readOrder wsX6_readOrder) := goodIn_app (goodIn_of _ (by decide +kernel)) ggX6_readNumbers_X6_readOrder
set_option maxRecDepth 20000 in
theorem ggX6_readPane_X7_takeNumber : GoodIn wsX6_readPane wsX7_takeNumber := goodIn_r _ [11, 12, 13, 14, 15, 16, 10, 17, 18, 19, 20, 21, 22, 23, 24, 25, 26, 27, 28, 29, 30, 31, 32, 46, 47, 48, 49, 50, 51, 52, 53, 54] (by decide +kernel) (by decide +kernel)
set_option maxRecDepth 20000 in
theorem gX6_readPane_X7_takeNumber : GoodIn wsX6_readPane (wsV RX6 119 RX7 yX7_takeNumber wsX7_takeNumber) := goodIn_app (goodIn_of _ (by decide +kernel)) ggX6_readPane_X7_takeNumber
set_option maxRecDepth 20000 in
theorem ggX6_readOrder_X7_takeNumber : GoodIn wsX6_readOrder wsX7_takeNumber := goodIn_r _ [10, 11, 12, 13, 14, 15, 9, 16, 17, 18, 19, 20, 21, 22, 23, 24, 25, 26, 27, 28, 29, 30, 31, 45, 46, 47, 48, 49, 50, 51, 52, 53] (by decide +kernel) (by decide +kernel)
set_option maxRecDepth 20000 in
theorem gX6_readOrder_X7_takeNumber : GoodIn wsX6_readOrder (wsV RX6 119 RX7 yX7_takeNumber wsX7_takeNumber) := goodIn_app (goodIn_of _ (by decide +kernel)) ggX6_readOrder_X7_takeNumber
set_option maxRecDepth 20000 in
theorem ggX7_begin_X7_step : GoodIn wsX7_begin wsX7_step := goodIn_r _ [9, 3, 2, 10, 1, 11, 12, 13, 14, 15, 16, 17, 18, 19, 20, 21, 22, 23, 24, 25, 26, 27] (by decide +kernel) (by decide +kernel)
set_option maxRecDepth 20000 in
theorem gX7_begin_X7_step : GoodIn wsX7_begin (wsV RX7 31 RX7 yX7_step wsX7_step) := goodIn_app (goodIn_of _ (by decide +kernel)) ggX7_begin_X7_step
set_option maxRecDepth 20000 in
theorem ggX7_isWord_J0_length_8abf5 : GoodIn wsX7_isWord wsJ0_length_8abf5 := goodIn_r _ [9, 10, 11, 12, 13, 8, 14, 15, 16] (by decide +kernel) (by decide +kernel)
set_option maxRecDepth 20000 in
theorem gX7_isWord_J0_length_8abf5 : GoodIn wsX7_isWord (wsV RX7 50 RJ0 yJ0_length_8abf5 wsJ0_length_8abf5) := goodIn_app (goodIn_of _ (by decide +kernel)) ggX7_isWord_J0_length_8abf5
set_option maxRecDepth 20000 in
theorem ggX7_isWord_J0_charAt_5068e : GoodIn wsX7_isWord wsJ0_charAt_5068e := goodIn_r _ [20, 10, 21, 22, 23, 8, 24, 15, 16, 25, 26, 27, 28, 29, 30, 31, 32, 33, 34, 35, 36, 37, 38, 39, 40, 41, 42, 43, 44, 45, 46, 47, 48, 49, 50, 51, 52, 53] (by decide +kernel) (by decide +kernel)
set_option maxRecDepth 20000 in
theorem gX7_isWord_J0_charAt_5068e : GoodIn wsX7_isWord (wsV RX7 55 RJ0 yJ0_charAt_5068e wsJ0_charAt_5068e) := goodIn_app (goodIn_of _ (by decide +kernel)) ggX7_isWord_J0_charAt_5068e
set_option maxRecDepth 20000 in
theorem ggX7_takeSign_X7_isSign : GoodIn wsX7_takeSign wsX7_isSign := goodIn_r _ [5, 6, 7, 8, 27, 28, 29, 30, 31, 32, 33, 34, 35] (by decide +kernel) (by decide +kernel)
set_option maxRecDepth 20000 in
theorem gX7_takeSign_X7_isSign : GoodIn wsX7_takeSign (wsV RX7 59 RX7 yX7_isSign wsX7_isSign) := goodIn_app (goodIn_of _ (by decide +kernel)) ggX7_takeSign_X7_isSign
set_option maxRecDepth 20000 in
theorem ggX7_takeSign_X7_step : GoodIn wsX7_takeSign wsX7_step := goodIn_r _ [12, 13, 14, 8, 15, 7, 16, 17, 6, 18, 19, 20, 21, 27, 28, 29, 30, 31, 32, 33, 34, 35] (by decide +kernel) (by decide +kernel)
set_option maxRecDepth 20000 in
theorem gX7_takeSign_X7_step : GoodIn wsX7_takeSign (wsV RX7 31 RX7 yX7_step wsX7_step) := goodIn_app (goodIn_of _ (by decide +kernel)) ggX7_takeSign_X7_step
set_option maxRecDepth 20000 in
theorem ggX7_takeSign_X7_wrong : GoodIn wsX7_takeSign wsX7_wrong := goodIn_r _ [25, 13, 8, 26, 6, 27, 28, 29, 30, 31, 32, 33, 34, 35] (by decide +kernel) (by decide +kernel)
set_option maxRecDepth 20000 in
theorem gX7_takeSign_X7_wrong : GoodIn wsX7_takeSign (wsV RX7 63 RX7 yX7_wrong wsX7_wrong) := goodIn_app (goodIn_of _ (by decide +kernel)) ggX7_takeSign_X7_wrong
set_option maxRecDepth 20000 in
theorem ggX7_takeNumber_X7_wrong : GoodIn wsX7_takeNumber wsX7_wrong := goodIn_r _ [7, 8, 9, 10, 1, 23, 24, 25, 26, 27, 28, 29, 30, 31] (by decide +kernel) (by decide +kernel)
set_option maxRecDepth 20000 in
theorem gX7_takeNumber_X7_wrong : GoodIn wsX7_takeNumber (wsV RX7 63 RX7 yX7_wrong wsX7_wrong) := goodIn_app (goodIn_of _ (by decide +kernel)) ggX7_takeNumber_X7_wrong
set_option maxRecDepth 20000 in
theorem ggX7_takeNumber_X7_step : GoodIn wsX7_takeNumber wsX7_step := goodIn_r _ [14, 8, 15, 9, 16, 17, 2, 18, 1, 19, 20, 21, 22, 23, 24, 25, 26, 27, 28, 29, 30, 31] (by decide +kernel) (by decide +kernel)
set_option maxRecDepth 20000 in
theorem gX7_takeNumber_X7_step : GoodIn wsX7_takeNumber (wsV RX7 31 RX7 yX7_step wsX7_step) := goodIn_app (goodIn_of _ (by decide +kernel)) ggX7_takeNumber_X7_step
set_option maxRecDepth 20000 in
theorem ggX7_takeEnd_X7_wrong : GoodIn wsX7_takeEnd wsX7_wrong := goodIn_r _ [7, 2, 8, 9, 1, 10, 11, 12, 13, 14, 15, 16, 17, 18] (by decide +kernel) (by decide +kernel)
set_option maxRecDepth 20000 in
theorem gX7_takeEnd_X7_wrong : GoodIn wsX7_takeEnd (wsV RX7 63 RX7 yX7_wrong wsX7_wrong) := goodIn_app (goodIn_of _ (by decide +kernel)) ggX7_takeEnd_X7_wrong
set_option maxRecDepth 20000 in
theorem ggX8_init_X2_init : GoodIn wsX8_init wsX2_init := goodIn_r _ [12, 13, 2, 3, 8, 14, 15, 16, 17, 18, 19, 20, 21, 22, 23, 24] (by decide +kernel) (by decide +kernel)
set_option maxRecDepth 20000 in
theorem gX8_init_X2_init_n11 : GoodIn wsX8_init (wsX2_init) := ggX8_init_X2_init
set_option maxRecDepth 20000 in
theorem ggX8_passDay_X8_judgeOrders : GoodIn wsX8_passDay wsX8_judgeOrders := goodIn_r _ [8, 9, 1, 10, 11, 12, 13, 14, 15, 16, 17, 18, 19, 20, 21, 22, 23, 24, 25, 26, 27, 28, 29, 30, 82, 83, 84, 85, 86, 87, 88, 89, 90, 91, 92, 93, 94, 74, 75, 76, 77, 78, 79, 80, 81] (by decide +kernel) (by decide +kernel)
set_option maxRecDepth 20000 in
theorem gX8_passDay_X8_judgeOrders : GoodIn wsX8_passDay (va_wsS RX8 31 yX8_judgeOrders wsX8_judgeOrders) := goodIn_app (goodIn_of _ (by decide +kernel)) ggX8_passDay_X8_judgeOrders
set_option maxRecDepth 20000 in
theorem ggX8_passDay_X2_wash : GoodIn wsX8_passDay wsX2_wash := goodIn_r _ [34, 29, 35, 36, 37, 38, 74, 75, 76, 77, 78, 79, 80, 81] (by decide +kernel) (by decide +kernel)
set_option maxRecDepth 20000 in
theorem gX8_passDay_X2_wash : GoodIn wsX8_passDay (wsV RX8 46 RX2 yX2_wash wsX2_wash) := goodIn_app (goodIn_of _ (by decide +kernel)) ggX8_passDay_X2_wash
set_option maxRecDepth 20000 in
theorem ggX8_passDay_X8_settleOn : GoodIn wsX8_passDay wsX8_settleOn := goodIn_r _ [42, 43, 1, 2, 44, 45, 46, 47, 48, 27, 49, 50, 51, 52, 53, 7, 54, 55, 56, 24, 25, 26, 28, 29, 30, 57, 58, 59, 60, 61, 62, 63, 64, 65, 66, 67, 68, 69, 70, 71, 72, 73, 95, 96, 97, 98, 99, 100, 74, 75, 76, 77, 78, 79, 80, 81, 82, 83, 84, 85, 86, 87, 88, 89, 90, 91, 92, 93, 94, 101, 102, 103] (by decide +kernel) (by decide +kernel)
set_option maxRecDepth 20000 in
theorem gX8_passDay_X8_settleOn : GoodIn wsX8_passDay (wsV RX8 50 RX8 yX8_settleOn wsX8_settleOn) := goodIn_app (goodIn_of _ (by decide +kernel)) ggX8_passDay_X8_settleOn
set_option maxRecDepth 20000 in
theorem ggX8_judgeOrders_X6_part : GoodIn wsX8_judgeOrders wsX6_part := goodIn_r _ [8, 9, 24, 25, 26, 27, 28, 29, 30, 31, 32, 33, 34, 35, 36] (by decide +kernel) (by decide +kernel)
set_option maxRecDepth 20000 in
theorem gX8_judgeOrders_X6_part : GoodIn wsX8_judgeOrders (wsV RX8 57 RX6 yX6_part wsX6_part) := goodIn_app (goodIn_of _ (by decide +kernel)) ggX8_judgeOrders_X6_part
set_option maxRecDepth 20000 in
theorem ggX8_judgeOrders_X6_cellOf : GoodIn wsX8_judgeOrders wsX6_cellOf := goodIn_r _ [13, 9, 14, 15, 16, 24, 25, 26, 27, 28, 29, 30, 31, 32, 33, 34, 35, 36] (by decide +kernel) (by decide +kernel)
set_option maxRecDepth 20000 in
theorem gX8_judgeOrders_X6_cellOf : GoodIn wsX8_judgeOrders (wsV RX8 60 RX6 yX6_cellOf wsX6_cellOf) := goodIn_app (goodIn_of _ (by decide +kernel)) ggX8_judgeOrders_X6_cellOf
set_option maxRecDepth 20000 in
theorem ggX8_judgeOrders_X2_shown : GoodIn wsX8_judgeOrders wsX2_shown := goodIn_r _ [21, 22, 23, 37, 38, 39, 40, 41, 42, 43, 44] (by decide +kernel) (by decide +kernel)
set_option maxRecDepth 20000 in
theorem gX8_judgeOrders_X2_shown : GoodIn wsX8_judgeOrders (wsV RX8 64 RX2 yX2_shown wsX2_shown) := goodIn_app (goodIn_of _ (by decide +kernel)) ggX8_judgeOrders_X2_shown
set_option maxRecDepth 20000 in
theorem ggX8_settleOn_X2_isBroken : GoodIn wsX8_settleOn wsX2_isBroken := goodIn_r _ [10, 11, 48, 49, 50, 51, 52, 53, 54, 55] (by decide +kernel) (by decide +kernel)
set_option maxRecDepth 20000 in
theorem gX8_settleOn_X2_isBroken : GoodIn wsX8_settleOn (wsV RX8 70 RX2 yX2_isBroken wsX2_isBroken) := goodIn_app (goodIn_of _ (by decide +kernel)) ggX8_settleOn_X2_isBroken
set_option maxRecDepth 20000 in
theorem ggX8_settleOn_X8_lawHolds : GoodIn wsX8_settleOn wsX8_lawHolds := goodIn_r _ [16, 1, 17, 18, 19, 20, 21, 9, 22, 23, 24, 25, 26, 27, 28, 29, 30, 31, 32, 42, 43, 44, 45, 46, 47, 56, 57, 58, 59, 60, 61, 62, 63, 64, 65, 66, 67, 68, 48, 49, 50, 51, 52, 53, 54, 55, 69, 70, 71] (by decide +kernel) (by decide +kernel)
set_option maxRecDepth 20000 in
theorem gX8_settleOn_X8_lawHolds : GoodIn wsX8_settleOn (wsV RX8 77 RX8 yX8_lawHolds wsX8_lawHolds) := goodIn_app (goodIn_of _ (by decide +kernel)) ggX8_settleOn_X8_lawHolds
set_option maxRecDepth 20000 in
theorem ggX8_settleOn_X2_settle : GoodIn wsX8_settleOn wsX2_settle := goodIn_r _ [36, 23, 24, 37, 38, 39, 40, 41, 48, 49, 50, 51, 52, 53, 54, 55] (by decide +kernel) (by decide +kernel)
set_option maxRecDepth 20000 in
theorem gX8_settleOn_X2_settle : GoodIn wsX8_settleOn (wsV RX8 84 RX2 yX2_settle wsX2_settle) := goodIn_app (goodIn_of _ (by decide +kernel)) ggX8_settleOn_X2_settle
set_option maxRecDepth 20000 in
theorem ggX8_lawHolds_X2_shown : GoodIn wsX8_lawHolds wsX2_shown := goodIn_r _ [8, 9, 10, 38, 39, 40, 41, 42, 43, 44, 45] (by decide +kernel) (by decide +kernel)
set_option maxRecDepth 20000 in
theorem gX8_lawHolds_X2_shown : GoodIn wsX8_lawHolds (wsV RX8 64 RX2 yX2_shown wsX2_shown) := goodIn_app (goodIn_of _ (by decide +kernel)) ggX8_lawHolds_X2_shown
set_option maxRecDepth 20000 in
theorem ggX8_lawHolds_X3_valueFor : GoodIn wsX8_lawHolds wsX3_valueFor := goodIn_r _ [15, 16, 17, 18, 46, 47, 48] (by decide +kernel) (by decide +kernel)
set_option maxRecDepth 20000 in
theorem gX8_lawHolds_X3_valueFor : GoodIn wsX8_lawHolds (wsV RX8 94 RX3 yX3_valueFor wsX3_valueFor) := goodIn_app (goodIn_of _ (by decide +kernel)) ggX8_lawHolds_X3_valueFor
set_option maxRecDepth 20000 in
theorem ggX8_wouldSettle_X8_lawHolds : GoodIn wsX8_wouldSettle wsX8_lawHolds := goodIn_r _ [7, 1, 8, 9, 10, 11, 12, 13, 14, 15, 16, 17, 18, 19, 20, 21, 22, 23, 24, 25, 26, 27, 28, 29, 30, 39, 40, 41, 42, 43, 44, 45, 46, 47, 48, 49, 50, 51, 31, 32, 33, 34, 35, 36, 37, 38, 52, 53, 54] (by decide +kernel) (by decide +kernel)
set_option maxRecDepth 20000 in
theorem gX8_wouldSettle_X8_lawHolds : GoodIn wsX8_wouldSettle (wsV RX8 77 RX8 yX8_lawHolds wsX8_lawHolds) := goodIn_app (goodIn_of _ (by decide +kernel)) ggX8_wouldSettle_X8_lawHolds
set_option maxRecDepth 20000 in
theorem ggX8_foresee_X2_copy : GoodIn wsX8_foresee wsX2_copy := goodIn_r _ [10, 11, 12, 13, 14, 15, 16, 17, 18, 19, 20, 21, 22, 71, 72, 73, 74, 75, 76, 77, 78] (by decide +kernel) (by decide +kernel)
set_option maxRecDepth 20000 in
theorem gX8_foresee_X2_copy : GoodIn wsX8_foresee (wsV RX8 98 RX2 yX2_copy wsX2_copy) := goodIn_app (goodIn_of _ (by decide +kernel)) ggX8_foresee_X2_copy
set_option maxRecDepth 20000 in
theorem ggX8_foresee_X2_wash : GoodIn wsX8_foresee wsX2_wash := goodIn_r _ [26, 16, 27, 28, 29, 30, 71, 72, 73, 74, 75, 76, 77, 78] (by decide +kernel) (by decide +kernel)
set_option maxRecDepth 20000 in
theorem gX8_foresee_X2_wash : GoodIn wsX8_foresee (wsV RX8 46 RX2 yX2_wash wsX2_wash) := goodIn_app (goodIn_of _ (by decide +kernel)) ggX8_foresee_X2_wash
set_option maxRecDepth 20000 in
theorem ggX8_foresee_X8_settleOn : GoodIn wsX8_foresee wsX8_settleOn := goodIn_r _ [35, 36, 2, 4, 37, 38, 39, 40, 41, 9, 42, 21, 43, 44, 45, 34, 46, 47, 48, 49, 50, 51, 52, 16, 11, 53, 54, 55, 56, 57, 58, 59, 60, 61, 62, 63, 64, 12, 13, 14, 15, 19, 65, 66, 67, 68, 69, 70, 71, 72, 73, 74, 75, 76, 77, 78, 79, 80, 81, 82, 83, 84, 85, 86, 87, 88, 89, 90, 91, 92, 93, 94] (by decide +kernel) (by decide +kernel)
set_option maxRecDepth 20000 in
theorem gX8_foresee_X8_settleOn : GoodIn wsX8_foresee (wsV RX8 50 RX8 yX8_settleOn wsX8_settleOn) := goodIn_app (goodIn_of _ (by decide +kernel)) ggX8_foresee_X8_settleOn
set_option maxRecDepth 20000 in
theorem ggX8_drawDecade_X2_filmsOn : GoodIn wsX8_drawDecade wsX2_filmsOn := goodIn_r _ [11, 12, 19, 20, 21, 22, 23, 24, 25, 26] (by decide +kernel) (by decide +kernel)
set_option maxRecDepth 20000 in
theorem gX8_drawDecade_X2_filmsOn : GoodIn wsX8_drawDecade (wsV RX8 112 RX2 yX2_filmsOn wsX2_filmsOn) := goodIn_app (goodIn_of _ (by decide +kernel)) ggX8_drawDecade_X2_filmsOn
set_option maxRecDepth 20000 in
theorem ggX9_read_X9_readSteps : GoodIn wsX9_read wsX9_readSteps := goodIn_r _ [6, 7, 8, 9, 10, 5, 11, 12, 13, 14, 15, 16, 17, 18, 19, 20, 21, 22, 23, 24, 25, 26, 27, 28, 29, 30, 31, 32, 33, 34, 35, 36, 37, 38, 39, 40, 41, 1, 42, 43, 44, 45, 46, 47, 48, 49, 50, 51, 52, 53, 54, 55, 56, 57, 58, 59, 60, 61, 62, 63, 64, 65, 66, 67, 68, 69, 70, 71, 72, 73, 74, 75, 76, 77, 78, 79, 80, 81, 82, 83, 84, 85, 86, 87, 88, 89, 90, 91, 92, 93, 94, 95, 96, 97, 98, 99, 100, 101, 102, 103, 104, 105, 106, 2, 3, 4, 107, 108, 109, 110, 111, 112, 113, 114, 115, 116, 117, 122, 123, 124, 125, 126, 127, 128, 129, 130, 131, 132, 133, 134, 135, 136, 137, 138, 139, 140, 141, 142, 143, 144, 145, 146, 147, 148, 149, 150, 151, 152, 153, 154, 155, 156] (by decide +kernel) (by decide +kernel)
set_option maxRecDepth 20000 in
theorem gX9_read_X9_readSteps : GoodIn wsX9_read (wsV RX9 45 RX9 yX9_readSteps wsX9_readSteps) := goodIn_app (goodIn_of _ (by decide +kernel)) ggX9_read_X9_readSteps
set_option maxRecDepth 20000 in
theorem ggX9_read_X7_takeEnd : GoodIn wsX9_read wsX7_takeEnd := goodIn_r _ [121, 20, 27, 36, 37, 38, 14, 39, 22, 40, 135, 136, 137, 138, 139, 140, 141, 142, 143] (by decide +kernel) (by decide +kernel)
set_option maxRecDepth 20000 in
theorem gX9_read_X7_takeEnd : GoodIn wsX9_read (wsV RX9 49 RX7 yX7_takeEnd wsX7_takeEnd) := goodIn_app (goodIn_of _ (by decide +kernel)) ggX9_read_X7_takeEnd
set_option maxRecDepth 20000 in
theorem ggX9_readSteps_X9_readStep : GoodIn wsX9_readSteps wsX9_readStep := goodIn_r _ [36, 37, 38, 39, 40, 41, 42, 5, 43, 44, 45, 46, 9, 47, 15, 23, 17, 16, 48, 49, 50, 51, 52, 53, 54, 55, 56, 57, 58, 59, 60, 61, 62, 63, 64, 65, 66, 67, 68, 69, 70, 71, 72, 73, 74, 75, 76, 77, 78, 79, 80, 81, 82, 83, 84, 85, 86, 87, 88, 89, 90, 91, 92, 93, 94, 95, 96, 97, 32, 33, 34, 22, 35, 98, 19, 20, 21, 24, 25, 26, 27, 28, 29, 30, 99, 100, 101, 102, 31, 18, 6, 7, 8, 10, 11, 12, 13, 14, 103, 104, 105, 106, 107, 108, 109, 110, 111, 112, 113, 114, 115, 116, 0, 1, 2, 3, 4, 117, 118, 119, 120, 121, 122, 123, 124, 125, 126, 127, 128, 129, 130, 131, 132, 133, 134, 135, 136, 137, 138, 139, 140, 141, 142, 143, 144, 145, 146, 147, 148, 149, 150, 151] (by decide +kernel) (by decide +kernel)
set_option maxRecDepth 20000 in
theorem gX9_readSteps_X9_readStep : GoodIn wsX9_readSteps (wsV RX9 57 RX9 yX9_readStep wsX9_readStep) := goodIn_app (goodIn_of _ (by decide +kernel)) ggX9_readSteps_X9_readStep
set_option maxRecDepth 20000 in
theorem ggX9_readSteps_X7_takeSign : GoodIn wsX9_readSteps wsX7_takeSign := goodIn_r _ [10, 11, 12, 13, 9, 14, 15, 16, 17, 18, 19, 20, 21, 22, 23, 24, 25, 26, 27, 28, 29, 30, 31, 32, 33, 34, 35, 130, 131, 132, 133, 134, 135, 136, 137, 138] (by decide +kernel) (by decide +kernel)
set_option maxRecDepth 20000 in
theorem gX9_readSteps_X7_takeSign : GoodIn wsX9_readSteps (wsV RX9 60 RX7 yX7_takeSign wsX7_takeSign) := goodIn_app (goodIn_of _ (by decide +kernel)) ggX9_readSteps_X7_takeSign
set_option maxRecDepth 20000 in
theorem ggX9_readStep_X9_kindOf : GoodIn wsX9_readStep wsX9_kindOf := goodIn_r _ [8, 9, 10, 11, 12, 13, 14, 15, 16, 17, 18, 19, 20, 21, 22, 23, 24, 25, 26, 27, 28, 29, 30, 31, 32, 33, 34, 35, 36, 37, 38, 39, 40, 41, 42, 43, 44, 45, 46, 47, 48, 49, 50, 51, 52, 53, 54, 55, 56, 57, 58, 59, 60, 61, 62, 63, 64, 65, 66, 130, 131, 132, 133, 134, 135, 136, 137, 138] (by decide +kernel) (by decide +kernel)
set_option maxRecDepth 20000 in
theorem gX9_readStep_X9_kindOf : GoodIn wsX9_readStep (va_wsS RX9 64 yX9_kindOf wsX9_kindOf) := goodIn_app (goodIn_of _ (by decide +kernel)) ggX9_readStep_X9_kindOf
set_option maxRecDepth 20000 in
theorem ggX9_readStep_X7_wrong : GoodIn wsX9_readStep wsX7_wrong := goodIn_r _ [70, 71, 16, 72, 14, 130, 131, 132, 133, 134, 135, 136, 137, 138] (by decide +kernel) (by decide +kernel)
set_option maxRecDepth 20000 in
theorem gX9_readStep_X7_wrong : GoodIn wsX9_readStep (wsV RX9 68 RX7 yX7_wrong wsX7_wrong) := goodIn_app (goodIn_of _ (by decide +kernel)) ggX9_readStep_X7_wrong
set_option maxRecDepth 20000 in
theorem ggX9_readStep_X7_step : GoodIn wsX9_readStep wsX7_step := goodIn_r _ [76, 71, 15, 16, 77, 17, 78, 79, 14, 80, 81, 82, 83, 130, 131, 132, 133, 134, 135, 136, 137, 138] (by decide +kernel) (by decide +kernel)
set_option maxRecDepth 20000 in
theorem gX9_readStep_X7_step : GoodIn wsX9_readStep (wsV RX9 72 RX7 yX7_step wsX7_step) := goodIn_app (goodIn_of _ (by decide +kernel)) ggX9_readStep_X7_step
set_option maxRecDepth 20000 in
theorem ggX9_readStep_X7_takeNumber : GoodIn wsX9_readStep wsX7_takeNumber := goodIn_r _ [87, 14, 78, 88, 68, 69, 12, 70, 71, 16, 72, 89, 74, 75, 76, 15, 77, 17, 79, 80, 81, 82, 83, 130, 131, 132, 133, 134, 135, 136, 137, 138] (by decide +kernel) (by decide +kernel)
set_option maxRecDepth 20000 in
theorem gX9_readStep_X7_takeNumber : GoodIn wsX9_readStep (wsV RX9 75 RX7 yX7_takeNumber wsX7_takeNumber) := goodIn_app (goodIn_of _ (by decide +kernel)) ggX9_readStep_X7_takeNumber
set_option maxRecDepth 20000 in
theorem ggX9_readStep_X7_takeSign : GoodIn wsX9_readStep wsX7_takeSign := goodIn_r _ [93, 94, 95, 96, 12, 97, 14, 17, 16, 89, 74, 75, 76, 71, 15, 77, 78, 79, 80, 81, 82, 83, 88, 68, 69, 70, 72, 130, 131, 132, 133, 134, 135, 136, 137, 138] (by decide +kernel) (by decide +kernel)
set_option maxRecDepth 20000 in
theorem gX9_readStep_X7_takeSign : GoodIn wsX9_readStep (wsV RX9 60 RX7 yX7_takeSign wsX7_takeSign) := goodIn_app (goodIn_of _ (by decide +kernel)) ggX9_readStep_X7_takeSign
set_option maxRecDepth 20000 in
theorem ggX9_readStep_X9_readSteps : GoodIn wsX9_readStep wsX9_readSteps := goodIn_r _ [112, 113, 114, 115, 116, 7, 90, 91, 92, 12, 93, 94, 95, 96, 97, 14, 17, 16, 89, 74, 75, 76, 71, 15, 77, 78, 79, 80, 81, 82, 83, 88, 68, 69, 70, 72, 0, 1, 2, 3, 4, 5, 6, 8, 9, 10, 11, 13, 18, 19, 20, 21, 22, 23, 24, 25, 26, 27, 28, 29, 30, 31, 32, 33, 34, 35, 36, 37, 38, 39, 40, 41, 42, 43, 44, 45, 46, 47, 48, 49, 50, 51, 52, 53, 54, 55, 56, 57, 58, 59, 60, 61, 62, 63, 64, 65, 66, 67, 73, 84, 85, 86, 87, 98, 99, 100, 101, 102, 103, 104, 105, 106, 107, 108, 109, 110, 111, 117, 118, 119, 120, 121, 122, 123, 124, 125, 126, 127, 128, 129, 130, 131, 132, 133, 134, 135, 136, 137, 138, 139, 140, 141, 142, 143, 144, 145, 146, 147, 148, 149, 150, 151] (by decide +kernel) (by decide +kernel)
set_option maxRecDepth 20000 in
theorem gX9_readStep_X9_readSteps : GoodIn wsX9_readStep (wsV RX9 45 RX9 yX9_readSteps wsX9_readSteps) := goodIn_app (goodIn_of _ (by decide +kernel)) ggX9_readStep_X9_readSteps
set_option maxRecDepth 20000 in
theorem ggX9_readStep_X9_readPlace : GoodIn wsX9_readStep wsX9_readPlace := goodIn_r _ [104, 2, 105, 106, 107, 108, 109, 110, 111, 3, 84, 85, 86, 12, 87, 14, 78, 88, 68, 69, 70, 71, 16, 72, 89, 74, 75, 76, 15, 77, 17, 79, 80, 81, 82, 83, 117, 118, 119, 120, 121, 122, 123, 124, 125, 126, 127, 128, 129, 139, 140, 141, 142, 143, 144, 145, 146, 147, 148, 149, 150, 151, 130, 131, 132, 133, 134, 135, 136, 137, 138] (by decide +kernel) (by decide +kernel)
set_option maxRecDepth 20000 in
theorem gX9_readStep_X9_readPlace : GoodIn wsX9_readStep (wsV RX9 79 RX9 yX9_readPlace wsX9_readPlace) := goodIn_app (goodIn_of _ (by decide +kernel)) ggX9_readStep_X9_readPlace
set_option maxRecDepth 20000 in
theorem ggX9_readPlace_X7_takeNumber : GoodIn wsX9_readPlace wsX7_takeNumber := goodIn_r _ [14, 15, 16, 17, 18, 19, 13, 20, 21, 22, 23, 24, 25, 26, 27, 28, 29, 30, 31, 32, 33, 34, 35, 62, 63, 64, 65, 66, 67, 68, 69, 70] (by decide +kernel) (by decide +kernel)
set_option maxRecDepth 20000 in
theorem gX9_readPlace_X7_takeNumber : GoodIn wsX9_readPlace (wsV RX9 75 RX7 yX7_takeNumber wsX7_takeNumber) := goodIn_app (goodIn_of _ (by decide +kernel)) ggX9_readPlace_X7_takeNumber
set_option maxRecDepth 20000 in
theorem ggX9_kindOf_X7_isWord : GoodIn wsX9_kindOf wsX7_isWord := goodIn_r _ [5, 6, 7, 8, 9, 10, 11, 12, 13, 14, 15, 16, 17, 18, 19, 20, 21, 22, 23, 24, 25, 26, 27, 28, 29, 30, 31, 32, 33, 34, 35, 36, 37, 38, 39, 40, 41, 42, 43, 44, 45, 46, 47, 48, 49, 50, 51, 52, 53, 54, 55, 56, 57, 58, 59, 60, 61, 62, 63, 64, 65, 66, 67] (by decide +kernel) (by decide +kernel)
set_option maxRecDepth 20000 in
theorem gX9_kindOf_X7_isWord : GoodIn wsX9_kindOf (wsV RX9 95 RX7 yX7_isWord wsX7_isWord) := goodIn_app (goodIn_of _ (by decide +kernel)) ggX9_kindOf_X7_isWord
set_option maxRecDepth 20000 in
theorem ggX9_doAll_X9_doSteps : GoodIn wsX9_doAll wsX9_doSteps := goodIn_r _ [9, 1, 10, 2, 3, 11, 12, 13, 14, 8, 15, 16, 17, 18, 19, 20, 21, 22, 23, 24, 25, 26, 27, 28, 29, 30, 31, 32, 33, 34, 35, 36, 37, 38, 39, 40, 41, 42, 43, 44, 45, 46, 47, 48, 49, 50, 51, 52, 53, 54, 55, 56, 57, 58, 59, 60, 61, 62, 63, 64, 65, 66, 67, 68, 69, 70, 71, 72, 73, 74, 75, 76, 77, 78, 79, 80, 81, 82, 83, 84, 85, 86, 87, 88, 89, 90, 91, 92, 93, 94, 95, 96, 97, 98, 99, 100, 101, 102, 103, 104, 105, 106, 107, 108, 109, 110, 111, 112, 113, 114, 115, 116, 117, 118, 119, 120, 121, 122, 123, 124, 125, 126, 127, 128, 129, 130, 131, 132, 133, 134, 135, 136, 137, 138, 5, 6, 7, 139, 140, 141, 142, 143, 144, 145, 146, 147, 148, 149, 150, 151, 152, 153, 154, 155, 156, 157, 158, 159, 160, 161, 162, 163, 164, 165, 166, 167, 168, 169, 170, 171, 172, 173, 174, 175, 176, 177, 178, 179, 180, 181] (by decide +kernel) (by decide +kernel)
set_option maxRecDepth 20000 in
theorem gX9_doAll_X9_doSteps : GoodIn wsX9_doAll (wsV RX9 120 RX9 yX9_doSteps wsX9_doSteps) := goodIn_app (goodIn_of _ (by decide +kernel)) ggX9_doAll_X9_doSteps
set_option maxRecDepth 20000 in
theorem ggX9_doSteps_X9_doAgain : GoodIn wsX9_doSteps wsX9_doAgain := goodIn_r _ [133, 17, 1, 5, 134, 135, 136, 9, 0, 2, 3, 4, 6, 7, 8, 10, 11, 12, 13, 14, 15, 16, 18, 19, 20, 21, 22, 23, 24, 25, 26, 27, 28, 29, 30, 31, 32, 33, 34, 35, 36, 37, 38, 39, 40, 41, 42, 43, 44, 45, 46, 47, 48, 49, 50, 51, 52, 53, 54, 55, 56, 57, 58, 59, 60, 61, 62, 63, 64, 65, 66, 67, 68, 69, 70, 71, 72, 73, 74, 75, 76, 77, 78, 79, 80, 81, 82, 83, 84, 85, 86, 87, 88, 89, 90, 91, 92, 93, 94, 95, 96, 97, 98, 99, 100, 101, 102, 103, 104, 105, 106, 107, 108, 109, 110, 111, 112, 113, 114, 115, 116, 117, 118, 119, 120, 121, 122, 123, 124, 125, 126, 127, 128, 129, 130, 131, 132, 137, 138, 139, 140, 141, 142, 143, 144, 145, 146, 147, 148, 149, 150, 151, 152, 153, 154, 155, 156, 157, 158, 159, 160, 161, 162, 163, 164, 165, 166, 167, 168, 169, 170, 171, 172, 173, 174, 175, 176, 177, 178, 179] (by decide +kernel) (by decide +kernel)
set_option maxRecDepth 20000 in
theorem gX9_doSteps_X9_doAgain : GoodIn wsX9_doSteps (wsV RX9 124 RX9 yX9_doAgain wsX9_doAgain) := goodIn_app (goodIn_of _ (by decide +kernel)) ggX9_doSteps_X9_doAgain
set_option maxRecDepth 20000 in
theorem ggX9_doSteps_X9_isDone : GoodIn wsX9_doSteps wsX9_isDone := goodIn_r _ [13, 14, 2, 15, 16, 17, 18, 19, 20, 21, 22, 23, 24, 25, 26, 27, 28, 29, 30, 31, 32, 33, 34, 35, 36, 37, 38, 39, 40, 41, 42, 43, 44, 45, 46, 47, 48, 49, 50, 51, 52, 53, 54, 55, 56, 57, 58, 59, 60, 61, 62, 63, 64, 65, 66, 67, 68, 69, 70, 71, 72, 73, 74, 75, 76, 77, 78, 79, 80, 81, 82, 83, 84, 85, 86, 87, 88, 89, 90, 91, 92, 93, 94, 95, 96, 97, 98, 99, 100, 101, 102, 103, 104, 105, 106, 107, 108, 109, 110, 111, 112, 113, 114, 115, 116, 117, 118, 119, 120, 121, 122, 123, 124, 125, 126, 127, 128, 129, 130, 131, 132, 137, 138, 139, 140, 141, 142, 143, 144, 145, 146, 147, 148, 149, 150, 151, 152, 153, 154, 155, 156, 157, 158, 159, 160, 161, 162, 163, 164, 165, 166, 167, 168, 169, 170, 171, 172, 173, 174, 175, 176, 177, 178, 179] (by decide +kernel) (by decide +kernel)
set_option maxRecDepth 20000 in
theorem gX9_doSteps_X9_isDone : GoodIn wsX9_doSteps (wsV RX9 128 RX9 yX9_isDone wsX9_isDone) := goodIn_app (goodIn_of _ (by decide +kernel)) ggX9_doSteps_X9_isDone
set_option maxRecDepth 20000 in
theorem ggX9_doAgain_X9_doSteps : GoodIn wsX9_doAgain wsX9_doSteps := goodIn_r _ [8, 2, 9, 10, 11, 3, 12, 13, 14, 7, 15, 16, 17, 18, 19, 20, 21, 1, 22, 23, 24, 25, 26, 27, 28, 29, 30, 31, 32, 33, 34, 35, 36, 37, 38, 39, 40, 41, 42, 43, 44, 45, 46, 47, 48, 49, 50, 51, 52, 53, 54, 55, 56, 57, 58, 59, 60, 61, 62, 63, 64, 65, 66, 67, 68, 69, 70, 71, 72, 73, 74, 75, 76, 77, 78, 79, 80, 81, 82, 83, 84, 85, 86, 87, 88, 89, 90, 91, 92, 93, 94, 95, 96, 97, 98, 99, 100, 101, 102, 103, 104, 105, 106, 107, 108, 109, 110, 111, 112, 113, 114, 115, 116, 117, 118, 119, 120, 121, 122, 123, 124, 125, 126, 127, 128, 129, 130, 131, 132, 133, 134, 135, 136, 0, 4, 5, 6, 137, 138, 139, 140, 141, 142, 143, 144, 145, 146, 147, 148, 149, 150, 151, 152, 153, 154, 155, 156, 157, 158, 159, 160, 161, 162, 163, 164, 165, 166, 167, 168, 169, 170, 171, 172, 173, 174, 175, 176, 177, 178, 179] (by decide +kernel) (by decide +kernel)
set_option maxRecDepth 20000 in
theorem gX9_doAgain_X9_doSteps : GoodIn wsX9_doAgain (wsV RX9 120 RX9 yX9_doSteps wsX9_doSteps) := goodIn_app (goodIn_of _ (by decide +kernel)) ggX9_doAgain_X9_doSteps
set_option maxRecDepth 20000 in
theorem ggX9_isDone_X2_wipe : GoodIn wsX9_isDone wsX2_wipe := goodIn_r _ [14, 15, 16, 17, 18, 19, 20, 21, 22, 13, 23, 24, 25, 26, 27, 28, 29, 30, 147, 148, 149, 150, 151, 152, 153, 154] (by decide +kernel) (by decide +kernel)
set_option maxRecDepth 20000 in
theorem gX9_isDone_X2_wipe : GoodIn wsX9_isDone (wsV RX9 135 RX2 yX2_wipe wsX2_wipe) := goodIn_app (goodIn_of _ (by decide +kernel)) ggX9_isDone_X2_wipe
set_option maxRecDepth 20000 in
theorem ggX9_isDone_X1_circleAt : GoodIn wsX9_isDone wsX1_circleAt := goodIn_r _ [34, 35, 36, 18, 37] (by decide +kernel) (by decide +kernel)
set_option maxRecDepth 20000 in
theorem gX9_isDone_X1_circleAt : GoodIn wsX9_isDone (va_wsS RX9 140 yX1_circleAt wsX1_circleAt) := goodIn_app (goodIn_of _ (by decide +kernel)) ggX9_isDone_X1_circleAt
set_option maxRecDepth 20000 in
theorem ggX9_isDone_X8_passDay : GoodIn wsX9_isDone wsX8_passDay := goodIn_r _ [42, 43, 44, 45, 46, 47, 48, 41, 49, 50, 51, 52, 53, 54, 55, 56, 57, 58, 59, 60, 61, 62, 63, 64, 65, 66, 67, 13, 68, 15, 30, 69, 70, 71, 72, 16, 17, 18, 19, 73, 74, 75, 76, 77, 78, 79, 80, 81, 82, 83, 84, 85, 86, 87, 88, 89, 90, 91, 92, 93, 94, 95, 96, 97, 98, 99, 100, 101, 102, 103, 104, 105, 106, 107, 147, 148, 149, 150, 151, 152, 153, 154, 134, 135, 136, 137, 138, 139, 140, 141, 142, 143, 144, 145, 146, 155, 156, 157, 158, 159, 160, 161, 162, 163] (by decide +kernel) (by decide +kernel)
set_option maxRecDepth 20000 in
theorem gX9_isDone_X8_passDay : GoodIn wsX9_isDone (wsV RX9 146 RX8 yX8_passDay wsX8_passDay) := goodIn_app (goodIn_of _ (by decide +kernel)) ggX9_isDone_X8_passDay
set_option maxRecDepth 20000 in
theorem ggX9_isDone_X2_rinse : GoodIn wsX9_isDone wsX2_rinse := goodIn_r _ [111, 25, 24, 112, 113, 114, 115, 147, 148, 149, 150, 151, 152, 153, 154] (by decide +kernel) (by decide +kernel)
set_option maxRecDepth 20000 in
theorem gX9_isDone_X2_rinse : GoodIn wsX9_isDone (wsV RX9 152 RX2 yX2_rinse wsX2_rinse) := goodIn_app (goodIn_of _ (by decide +kernel)) ggX9_isDone_X2_rinse
set_option maxRecDepth 20000 in
theorem ggX9_isDone_X2_smash : GoodIn wsX9_isDone wsX2_smash := goodIn_r _ [119, 84, 15, 120, 81, 82, 13, 83, 147, 148, 149, 150, 151, 152, 153, 154] (by decide +kernel) (by decide +kernel)
set_option maxRecDepth 20000 in
theorem gX9_isDone_X2_smash : GoodIn wsX9_isDone (wsV RX9 154 RX2 yX2_smash wsX2_smash) := goodIn_app (goodIn_of _ (by decide +kernel)) ggX9_isDone_X2_smash
set_option maxRecDepth 20000 in
theorem ggX10_init_X7_init : GoodIn wsX10_init wsX7_init := goodIn_r _ [48, 49, 2, 3, 50, 51, 52, 137, 138, 139, 140, 141, 142, 143, 144, 145] (by decide +kernel) (by decide +kernel)
set_option maxRecDepth 20000 in
theorem gX10_init_X7_init_n9 : GoodIn wsX10_init (wsX7_init) := ggX10_init_X7_init
set_option maxRecDepth 20000 in
theorem ggX10_init_X6_init : GoodIn wsX10_init wsX6_init := goodIn_r _ [55, 56, 2, 3, 45, 57, 58, 59, 60, 61, 62, 63, 64, 65, 66, 10, 67, 68, 69, 70, 71, 72, 73, 74, 75, 76, 77, 162, 163, 164, 165, 166, 167, 168, 169, 170, 171, 172, 173, 174] (by decide +kernel) (by decide +kernel)
set_option maxRecDepth 20000 in
theorem gX10_init_X6_init : GoodIn wsX10_init (wsX6_init) := ggX10_init_X6_init
set_option maxRecDepth 20000 in
theorem ggX10_init_X3_init : GoodIn wsX10_init wsX3_init := goodIn_r _ [80, 81, 2, 3, 45, 82, 83, 84, 85, 86, 15, 87, 88, 175, 176, 177] (by decide +kernel) (by decide +kernel)
set_option maxRecDepth 20000 in
theorem gX10_init_X3_init : GoodIn wsX10_init (wsX3_init) := ggX10_init_X3_init
set_option maxRecDepth 20000 in
theorem ggX10_init_X0_init : GoodIn wsX10_init wsX0_init := goodIn_r _ [90, 91, 2, 3, 45, 92, 93, 178, 179, 180, 181] (by decide +kernel) (by decide +kernel)
set_option maxRecDepth 20000 in
theorem gX10_init_X0_init_n38 : GoodIn wsX10_init (wsX0_init) := ggX10_init_X0_init
set_option maxRecDepth 20000 in
theorem ggX10_init_X1_init : GoodIn wsX10_init wsX1_init := goodIn_r _ [95, 96, 2, 3, 45, 97, 98, 182, 183, 184, 185] (by decide +kernel) (by decide +kernel)
set_option maxRecDepth 20000 in
theorem gX10_init_X1_init_n48 : GoodIn wsX10_init (wsX1_init) := ggX10_init_X1_init
set_option maxRecDepth 20000 in
theorem ggX10_init_X5_init : GoodIn wsX10_init wsX5_init := goodIn_r _ [100, 101, 2, 3, 45, 102, 186, 187, 188] (by decide +kernel) (by decide +kernel)
set_option maxRecDepth 20000 in
theorem gX10_init_X5_init_n55 : GoodIn wsX10_init (wsX5_init) := ggX10_init_X5_init
set_option maxRecDepth 20000 in
theorem ggX10_init_X4_init : GoodIn wsX10_init wsX4_init := goodIn_r _ [104, 105, 2, 3, 106, 107, 108, 109, 110, 111, 112, 113, 45, 114, 115, 116, 211, 212, 213, 214, 215, 216, 217, 218, 189, 190, 191] (by decide +kernel) (by decide +kernel)
set_option maxRecDepth 20000 in
theorem gX10_init_X4_init_n62 : GoodIn wsX10_init (wsX4_init) := ggX10_init_X4_init
set_option maxRecDepth 20000 in
theorem ggX10_init_X8_init : GoodIn wsX10_init wsX8_init := goodIn_r _ [118, 119, 2, 3, 120, 107, 108, 121, 45, 122, 123, 111, 112, 113, 114, 115, 116, 211, 212, 213, 214, 215, 216, 217, 218, 192, 193, 194, 195, 196, 197] (by decide +kernel) (by decide +kernel)
set_option maxRecDepth 20000 in
theorem gX10_init_X8_init_n69 : GoodIn wsX10_init (wsX8_init) := ggX10_init_X8_init
set_option maxRecDepth 20000 in
theorem ggX10_init_X9_init : GoodIn wsX10_init wsX9_init := goodIn_r _ [126, 127, 2, 3, 45, 128, 129, 130, 131, 132, 133, 134, 135, 136, 198, 199, 200, 201, 202, 203, 204, 205, 206, 207, 208, 209, 210] (by decide +kernel) (by decide +kernel)
set_option maxRecDepth 20000 in
theorem gX10_init_X9_init : GoodIn wsX10_init (wsX9_init) := ggX10_init_X9_init
set_option maxRecDepth 20000 in
theorem ggX10_feed_X7_hasRoom : GoodIn wsX10_feed wsX7_hasRoom := goodIn_r _ [7, 8, 30, 31, 32, 33, 34, 35, 36, 37, 38] (by decide +kernel) (by decide +kernel)
set_option maxRecDepth 20000 in
theorem gX10_feed_X7_hasRoom : GoodIn wsX10_feed (wsV RX10 95 RX7 yX7_hasRoom wsX7_hasRoom) := goodIn_app (goodIn_of _ (by decide +kernel)) ggX10_feed_X7_hasRoom
set_option maxRecDepth 20000 in
theorem ggX10_feed_X7_put : GoodIn wsX10_feed wsX7_put := goodIn_r _ [12, 8, 13, 30, 31, 32, 33, 34, 35, 36, 37, 38] (by decide +kernel) (by decide +kernel)
set_option maxRecDepth 20000 in
theorem gX10_feed_X7_put : GoodIn wsX10_feed (wsV RX10 99 RX7 yX7_put wsX7_put) := goodIn_app (goodIn_of _ (by decide +kernel)) ggX10_feed_X7_put
set_option maxRecDepth 20000 in
theorem ggX10_street_X10_beginText : GoodIn wsX10_street wsX10_beginText := goodIn_ca (goodIn_r _ [16, 2, 3, 17, 18, 19, 15, 20, 21, 22, 23, 24, 25, 26, 27, 28, 29, 30, 31, 32, 33, 34, 35, 36, 37, 38, 39, 40, 41, 42, 43, 44, 45, 206, 207, 208, 209, 210, 211, 212, 213, 214, 215, 216, 217, 218, 219, 220, 221, 222, 223, 224, 225, 226, 227, 228, 229, 230] (by decide +kernel) (by decide +kernel)) (goodIn_sub (fun _ h => List.mem_cons_of_mem _ (List.mem_append_right _ h)) (by decide +kernel))
set_option maxRecDepth 20000 in
theorem gX10_street_X10_beginText : GoodIn wsX10_street (wsV RX10 107 RX10 yX10_beginText wsX10_beginText) := goodIn_app (goodIn_of _ (by decide +kernel)) ggX10_street_X10_beginText
set_option maxRecDepth 20000 in
theorem ggX10_street_X6_read : GoodIn wsX10_street wsX6_read := goodIn_r _ [50, 51, 52, 53, 54, 55, 49, 56, 57, 58, 59, 60, 61, 62, 63, 64, 65, 66, 67, 68, 69, 70, 71, 72, 73, 74, 75, 76, 77, 27, 78, 41, 30, 37, 38, 79, 80, 81, 82, 83, 84, 85, 86, 87, 88, 89, 90, 91, 92, 93, 94, 95, 96, 97, 98, 99, 100, 101, 102, 103, 104, 105, 106, 107, 108, 109, 110, 111, 112, 113, 114, 115, 116, 117, 118, 119, 120, 121, 122, 123, 124, 125, 126, 127, 128, 129, 130, 131, 31, 32, 132, 133, 134, 135, 136, 34, 35, 36, 29, 39, 40, 42, 43, 44, 45, 137, 138, 139, 140, 141, 142, 143, 144, 145, 146, 147, 148, 149, 150, 151, 152, 153, 154, 33, 155, 156, 157, 158, 159, 160, 161, 162, 163, 164, 165, 166, 167, 168, 169, 170, 171, 222, 223, 224, 225, 226, 227, 228, 229, 230, 231, 232, 233, 234, 235, 236, 237, 238, 239, 240, 241, 242, 243] (by decide +kernel) (by decide +kernel)
set_option maxRecDepth 20000 in
theorem gX10_street_X6_read : GoodIn wsX10_street (wsV RX10 111 RX6 yX6_read wsX6_read) := goodIn_app (goodIn_of _ (by decide +kernel)) ggX10_street_X6_read
set_option maxRecDepth 20000 in
theorem ggX10_street_X3_forget : GoodIn wsX10_street wsX3_forget := goodIn_r _ [176, 177, 178, 244, 245, 246] (by decide +kernel) (by decide +kernel)
set_option maxRecDepth 20000 in
theorem gX10_street_X3_forget : GoodIn wsX10_street (wsV RX10 118 RX3 yX3_forget wsX3_forget) := goodIn_app (goodIn_of _ (by decide +kernel)) ggX10_street_X3_forget
set_option maxRecDepth 20000 in
theorem ggX10_street_X0_forget : GoodIn wsX10_street wsX0_forget := goodIn_r _ [183, 184, 185, 247, 248, 249, 250] (by decide +kernel) (by decide +kernel)
set_option maxRecDepth 20000 in
theorem gX10_street_X0_forget : GoodIn wsX10_street (wsV RX10 121 RX0 yX0_forget wsX0_forget) := goodIn_app (goodIn_of _ (by decide +kernel)) ggX10_street_X0_forget
set_option maxRecDepth 20000 in
theorem ggX10_street_X4_forget : GoodIn wsX10_street wsX4_forget := goodIn_r _ [190, 191, 192, 193, 194, 195, 196, 197, 198, 199, 200, 201, 202, 203, 204, 205, 65, 66, 67, 251, 252, 253, 254, 255, 256, 257, 258, 259, 260, 261] (by decide +kernel) (by decide +kernel)
set_option maxRecDepth 20000 in
theorem gX10_street_X4_forget : GoodIn wsX10_street (wsV RX10 122 RX4 yX4_forget wsX4_forget) := goodIn_app (goodIn_of _ (by decide +kernel)) ggX10_street_X4_forget
set_option maxRecDepth 20000 in
theorem ggX10_law_X10_beginText : GoodIn wsX10_law wsX10_beginText := goodIn_ca (goodIn_r _ [10, 2, 3, 11, 12, 13, 9, 14, 15, 16, 17, 18, 19, 20, 21, 22, 23, 24, 25, 26, 27, 28, 29, 30, 31, 32, 33, 34, 35, 36, 37, 38, 39, 151, 152, 153, 154, 155, 156, 157, 158, 159, 160, 161, 162, 163, 164, 165, 166, 167, 168, 169, 170, 171, 172, 173, 174, 175] (by decide +kernel) (by decide +kernel)) (goodIn_sub (fun _ h => List.mem_cons_of_mem _ (List.mem_append_right _ h)) (by decide +kernel))
set_option maxRecDepth 20000 in
theorem gX10_law_X10_beginText : GoodIn wsX10_law (wsV RX10 107 RX10 yX10_beginText wsX10_beginText) := goodIn_app (goodIn_of _ (by decide +kernel)) ggX10_law_X10_beginText
set_option maxRecDepth 20000 in
theorem ggX10_law_X3_read : GoodIn wsX10_law wsX3_read := goodIn_r _ [44, 45, 46, 47, 48, 43, 49, 50, 51, 52, 53, 54, 55, 21, 56, 35, 32, 31, 57, 28, 29, 30, 25, 24, 23, 33, 34, 36, 37, 38, 39, 58, 59, 60, 61, 62, 63, 64, 65, 66, 67, 68, 69, 70, 71, 27, 72, 73, 74, 75, 26, 76, 77, 78, 79, 80, 81, 82, 83, 84, 85, 86, 87, 88, 89, 90, 91, 92, 93, 94, 95, 96, 97, 98, 99, 100, 101, 102, 103, 104, 105, 106, 107, 108, 109, 110, 111, 112, 113, 114, 115, 116, 117, 118, 119, 120, 121, 122, 123, 124, 125, 126, 127, 128, 129, 130, 131, 132, 133, 134, 135, 136, 137, 138, 139, 140, 141, 142, 143, 144, 145, 146, 147, 148, 149, 150, 176, 177, 178, 167, 168, 169, 170, 171, 172, 173, 174, 175] (by decide +kernel) (by decide +kernel)
set_option maxRecDepth 20000 in
theorem gX10_law_X3_read : GoodIn wsX10_law (wsV RX10 132 RX3 yX3_read wsX3_read) := goodIn_app (goodIn_of _ (by decide +kernel)) ggX10_law_X3_read
set_option maxRecDepth 20000 in
theorem ggX10_work_X10_beginText : GoodIn wsX10_work wsX10_beginText := goodIn_ca (goodIn_r _ [16, 3, 4, 17, 18, 19, 15, 20, 21, 22, 23, 24, 25, 26, 27, 28, 29, 30, 31, 32, 33, 34, 35, 36, 37, 38, 39, 40, 41, 42, 43, 44, 45, 310, 311, 312, 313, 314, 315, 316, 317, 318, 319, 320, 321, 322, 323, 324, 325, 329, 330, 331, 332, 333, 334, 335, 336, 337] (by decide +kernel) (by decide +kernel)) (goodIn_sub (fun _ h => List.mem_cons_of_mem _ (List.mem_append_right _ h)) (by decide +kernel))
set_option maxRecDepth 20000 in
theorem gX10_work_X10_beginText : GoodIn wsX10_work (wsV RX10 107 RX10 yX10_beginText wsX10_beginText) := goodIn_app (goodIn_of _ (by decide +kernel)) ggX10_work_X10_beginText
set_option maxRecDepth 20000 in
theorem ggX10_work_X9_read : GoodIn wsX10_work wsX9_read := goodIn_r _ [50, 51, 52, 53, 54, 49, 55, 56, 57, 58, 59, 60, 61, 62, 27, 63, 64, 65, 66, 67, 41, 38, 37, 33, 34, 35, 36, 31, 30, 29, 39, 40, 42, 43, 44, 45, 68, 69, 70, 71, 32, 72, 73, 74, 75, 76, 77, 78, 79, 80, 81, 82, 83, 84, 85, 86, 87, 88, 89, 90, 91, 92, 93, 94, 95, 96, 97, 98, 99, 100, 101, 102, 103, 104, 105, 106, 107, 108, 109, 110, 111, 112, 113, 114, 115, 116, 117, 118, 119, 120, 121, 122, 123, 124, 125, 126, 127, 128, 129, 130, 131, 132, 133, 134, 135, 136, 137, 138, 139, 140, 141, 142, 143, 144, 145, 146, 147, 148, 149, 150, 151, 152, 338, 339, 340, 341, 342, 343, 344, 345, 346, 347, 348, 349, 350, 329, 330, 331, 332, 333, 334, 335, 336, 337, 351, 352, 353, 354, 355, 356, 357, 358, 359, 360, 361, 362, 363] (by decide +kernel) (by decide +kernel)
set_option maxRecDepth 20000 in
theorem gX10_work_X9_read : GoodIn wsX10_work (wsV RX10 136 RX9 yX9_read wsX9_read) := goodIn_app (goodIn_of _ (by decide +kernel)) ggX10_work_X9_read
set_option maxRecDepth 20000 in
theorem ggX10_work_X4_keep : GoodIn wsX10_work wsX4_keep := goodIn_r _ [157, 158, 159, 160, 161, 162, 156, 163, 164, 165, 166, 167, 168, 169, 170, 171, 172, 173, 174, 175, 176, 177, 178, 179, 180, 181, 182, 183, 184, 185, 186, 187, 188, 189, 326, 327, 328, 364, 365, 366, 367, 368, 369, 370, 371] (by decide +kernel) (by decide +kernel)
set_option maxRecDepth 20000 in
theorem gX10_work_X4_keep : GoodIn wsX10_work (wsV RX10 139 RX4 yX4_keep wsX4_keep) := goodIn_app (goodIn_of _ (by decide +kernel)) ggX10_work_X4_keep
set_option maxRecDepth 20000 in
theorem ggX10_work_X9_doAll : GoodIn wsX10_work wsX9_doAll := goodIn_r _ [193, 194, 195, 196, 51, 197, 198, 199, 49, 200, 73, 75, 201, 202, 203, 204, 205, 206, 207, 143, 208, 209, 74, 144, 146, 148, 210, 211, 212, 213, 167, 214, 175, 215, 216, 44, 217, 218, 219, 220, 221, 176, 185, 222, 223, 224, 225, 174, 226, 227, 228, 229, 230, 231, 232, 233, 234, 235, 236, 237, 238, 239, 240, 241, 242, 243, 244, 245, 246, 247, 248, 249, 250, 251, 252, 253, 254, 255, 256, 257, 15, 258, 259, 260, 261, 262, 263, 264, 265, 266, 267, 268, 269, 270, 271, 272, 273, 274, 275, 276, 277, 188, 278, 279, 280, 281, 282, 283, 284, 285, 286, 287, 288, 289, 290, 291, 292, 293, 294, 295, 181, 182, 183, 184, 186, 296, 297, 298, 299, 300, 301, 302, 303, 304, 305, 306, 307, 308, 309, 338, 339, 340, 341, 342, 343, 344, 345, 346, 347, 348, 349, 350, 351, 352, 353, 354, 355, 356, 357, 358, 359, 360, 361, 362, 363, 364, 365, 366, 367, 368, 369, 370, 371, 372, 373, 374, 375, 376, 377, 378, 379, 380] (by decide +kernel) (by decide +kernel)
set_option maxRecDepth 20000 in
theorem gX10_work_X9_doAll : GoodIn wsX10_work (wsV RX10 142 RX9 yX9_doAll wsX9_doAll) := goodIn_app (goodIn_of _ (by decide +kernel)) ggX10_work_X9_doAll
set_option maxRecDepth 20000 in
theorem ggX10_book_X10_beginText : GoodIn wsX10_book wsX10_beginText := goodIn_ca (goodIn_r _ [11, 2, 3, 12, 13, 14, 10, 15, 16, 17, 18, 19, 20, 21, 22, 23, 24, 25, 26, 27, 28, 29, 30, 31, 32, 33, 34, 35, 36, 37, 38, 39, 40, 82, 83, 84, 85, 86, 87, 88, 89, 90, 91, 92, 93, 94, 95, 96, 97, 98, 99, 100, 101, 102, 103, 104, 105, 106] (by decide +kernel) (by decide +kernel)) (goodIn_sub (fun _ h => List.mem_cons_of_mem _ (List.mem_append_right _ h)) (by decide +kernel))
set_option maxRecDepth 20000 in
theorem gX10_book_X10_beginText : GoodIn wsX10_book (wsV RX10 107 RX10 yX10_beginText wsX10_beginText) := goodIn_app (goodIn_of _ (by decide +kernel)) ggX10_book_X10_beginText
set_option maxRecDepth 20000 in
theorem ggX10_book_X0_read : GoodIn wsX10_book wsX0_read := goodIn_r _ [45, 46, 47, 48, 49, 50, 44, 51, 52, 53, 54, 55, 56, 57, 58, 59, 60, 61, 62, 63, 22, 64, 26, 32, 27, 36, 65, 66, 67, 68, 34, 69, 28, 29, 30, 31, 25, 24, 33, 35, 37, 38, 39, 40, 70, 71, 72, 73, 74, 75, 76, 77, 78, 79, 80, 81, 98, 99, 100, 101, 102, 103, 104, 105, 106, 107, 108, 109, 110] (by decide +kernel) (by decide +kernel)
set_option maxRecDepth 20000 in
theorem gX10_book_X0_read : GoodIn wsX10_book (wsV RX10 152 RX0 yX0_read wsX0_read) := goodIn_app (goodIn_of _ (by decide +kernel)) ggX10_book_X0_read
set_option maxRecDepth 20000 in
theorem ggX10_undo_X4_goBack : GoodIn wsX10_undo wsX4_goBack := goodIn_r _ [8, 9, 10, 11, 12, 13, 7, 14, 15, 16, 17, 18, 19, 20, 21, 22, 23, 24, 25, 26, 27, 28, 29, 30, 31, 32, 33, 34, 35, 36, 37, 38, 39, 40, 57, 58, 59, 60, 61, 62, 63, 64, 65, 66, 67] (by decide +kernel) (by decide +kernel)
set_option maxRecDepth 20000 in
theorem gX10_undo_X4_goBack : GoodIn wsX10_undo (wsV RX10 159 RX4 yX4_goBack wsX4_goBack) := goodIn_app (goodIn_of _ (by decide +kernel)) ggX10_undo_X4_goBack
set_option maxRecDepth 20000 in
theorem ggX10_told_X10_needWhat : GoodIn wsX10_told wsX10_needWhat := goodIn_ca (goodIn_r _ [17, 18, 19, 20, 16, 21, 22, 23, 24, 35, 36, 37, 38, 39, 40, 41, 42, 43, 44, 45, 46, 47, 48, 49, 50] (by decide +kernel) (by decide +kernel)) (goodIn_sub (fun _ h => List.mem_cons_of_mem _ (List.mem_append_right _ h)) (by decide +kernel))
set_option maxRecDepth 20000 in
theorem gX10_told_X10_needWhat : GoodIn wsX10_told (wsV RX10 162 RX10 yX10_needWhat wsX10_needWhat) := goodIn_app (goodIn_of _ (by decide +kernel)) ggX10_told_X10_needWhat
set_option maxRecDepth 20000 in
theorem ggX10_told_X2_filmsOnAll : GoodIn wsX10_told wsX2_filmsOnAll := goodIn_r _ [29, 30, 31, 32, 28, 33, 34, 67, 68, 69, 70, 71, 72, 73, 74] (by decide +kernel) (by decide +kernel)
set_option maxRecDepth 20000 in
theorem gX10_told_X2_filmsOnAll : GoodIn wsX10_told (wsV RX10 176 RX2 yX2_filmsOnAll wsX2_filmsOnAll) := goodIn_app (goodIn_of _ (by decide +kernel)) ggX10_told_X2_filmsOnAll
set_option maxRecDepth 20000 in
theorem ggX10_pane_X10_needPane : GoodIn wsX10_pane wsX10_needPane := goodIn_ca (goodIn_r _ [12, 13, 14, 1, 15, 16, 38, 39, 40, 41, 42, 43, 44, 45, 46, 47, 48, 49, 50, 51, 52, 53, 54, 55, 56, 57, 58, 59, 60, 61, 62, 63, 64, 65, 66] (by decide +kernel) (by decide +kernel)) (goodIn_sub (fun _ h => List.mem_cons_of_mem _ (List.mem_append_left _ (List.mem_append_right _ h))) (by decide +kernel))
set_option maxRecDepth 20000 in
theorem gX10_pane_X10_needPane : GoodIn wsX10_pane (wsV RX10 186 RX10 yX10_needPane wsX10_needPane) := goodIn_app (goodIn_of _ (by decide +kernel)) ggX10_pane_X10_needPane
set_option maxRecDepth 20000 in
theorem ggX10_pane_X10_needWhat : GoodIn wsX10_pane wsX10_needWhat := goodIn_ca (goodIn_r _ [20, 21, 22, 23, 11, 24, 25, 26, 16, 38, 39, 40, 41, 42, 43, 44, 45, 46, 47, 48, 49, 50, 51, 52, 53] (by decide +kernel) (by decide +kernel)) (goodIn_sub (fun _ h => List.mem_cons_of_mem _ (List.mem_append_right _ h)) (by decide +kernel))
set_option maxRecDepth 20000 in
theorem gX10_pane_X10_needWhat : GoodIn wsX10_pane (wsV RX10 162 RX10 yX10_needWhat wsX10_needWhat) := goodIn_app (goodIn_of _ (by decide +kernel)) ggX10_pane_X10_needWhat
set_option maxRecDepth 20000 in
theorem ggX10_pane_X2_filmsOn : GoodIn wsX10_pane wsX2_filmsOn := goodIn_r _ [31, 32, 70, 71, 72, 73, 74, 75, 76, 77] (by decide +kernel) (by decide +kernel)
set_option maxRecDepth 20000 in
theorem gX10_pane_X2_filmsOn : GoodIn wsX10_pane (wsV RX10 201 RX2 yX2_filmsOn wsX2_filmsOn) := goodIn_app (goodIn_of _ (by decide +kernel)) ggX10_pane_X2_filmsOn
set_option maxRecDepth 20000 in
theorem ggX10_pane_X2_isBroken : GoodIn wsX10_pane wsX2_isBroken := goodIn_r _ [36, 37, 70, 71, 72, 73, 74, 75, 76, 77] (by decide +kernel) (by decide +kernel)
set_option maxRecDepth 20000 in
theorem gX10_pane_X2_isBroken : GoodIn wsX10_pane (wsV RX10 205 RX2 yX2_isBroken wsX2_isBroken) := goodIn_app (goodIn_of _ (by decide +kernel)) ggX10_pane_X2_isBroken
set_option maxRecDepth 20000 in
theorem ggX10_shows_X10_needCell : GoodIn wsX10_shows wsX10_needCell := goodIn_ca (goodIn_ca (goodIn_r _ [7, 8, 9, 10, 11, 12, 13, 14, 15, 16, 6, 17, 18, 19, 20, 21, 22, 23, 31, 32, 33, 34, 35, 36, 37, 38, 39, 40, 41, 42, 43, 44, 45, 46, 50, 51, 52, 53, 54, 55, 56, 57, 58, 59, 60, 61, 62] (by decide +kernel) (by decide +kernel)) (goodIn_sub (fun _ h => List.mem_cons_of_mem _ (List.mem_append_left _ (List.mem_append_right _ h))) (by decide +kernel))) (goodIn_sub (fun _ h => List.mem_cons_of_mem _ (List.mem_append_right _ h)) (by decide +kernel))
set_option maxRecDepth 20000 in
theorem gX10_shows_X10_needCell : GoodIn wsX10_shows (wsV RX10 209 RX10 yX10_needCell wsX10_needCell) := goodIn_app (goodIn_of _ (by decide +kernel)) ggX10_shows_X10_needCell
set_option maxRecDepth 20000 in
theorem ggX10_shows_X2_shown : GoodIn wsX10_shows wsX2_shown := goodIn_r _ [28, 29, 30, 63, 64, 65, 66, 67, 68, 69, 70] (by decide +kernel) (by decide +kernel)
set_option maxRecDepth 20000 in
theorem gX10_shows_X2_shown : GoodIn wsX10_shows (wsV RX10 213 RX2 yX2_shown wsX2_shown) := goodIn_app (goodIn_of _ (by decide +kernel)) ggX10_shows_X2_shown
set_option maxRecDepth 20000 in
theorem ggX10_deep_X10_needCell : GoodIn wsX10_deep wsX10_needCell := goodIn_ca (goodIn_ca (goodIn_r _ [8, 9, 10, 11, 12, 13, 14, 15, 16, 17, 7, 18, 19, 20, 21, 22, 23, 24, 25, 26, 27, 28, 29, 30, 31, 32, 33, 34, 35, 36, 37, 38, 39, 40, 52, 53, 54, 55, 56, 57, 58, 59, 60, 61, 62, 63, 64] (by decide +kernel) (by decide +kernel)) (goodIn_sub (fun _ h => List.mem_cons_of_mem _ (List.mem_append_left _ (List.mem_append_right _ h))) (by decide +kernel))) (goodIn_sub (fun _ h => List.mem_cons_of_mem _ (List.mem_append_right _ h)) (by decide +kernel))
set_option maxRecDepth 20000 in
theorem gX10_deep_X10_needCell : GoodIn wsX10_deep (wsV RX10 209 RX10 yX10_needCell wsX10_needCell) := goodIn_app (goodIn_of _ (by decide +kernel)) ggX10_deep_X10_needCell
set_option maxRecDepth 20000 in
theorem ggX10_film_X10_needCell : GoodIn wsX10_film wsX10_needCell := goodIn_ca (goodIn_ca (goodIn_r _ [7, 8, 9, 10, 11, 12, 13, 14, 15, 16, 6, 17, 18, 19, 20, 21, 22, 23, 31, 32, 33, 34, 35, 36, 37, 38, 39, 40, 41, 42, 43, 44, 45, 46, 50, 51, 52, 53, 54, 55, 56, 57, 58, 59, 60, 61, 62] (by decide +kernel) (by decide +kernel)) (goodIn_sub (fun _ h => List.mem_cons_of_mem _ (List.mem_append_left _ (List.mem_append_right _ h))) (by decide +kernel))) (goodIn_sub (fun _ h => List.mem_cons_of_mem _ (List.mem_append_right _ h)) (by decide +kernel))
set_option maxRecDepth 20000 in
theorem gX10_film_X10_needCell : GoodIn wsX10_film (wsV RX10 209 RX10 yX10_needCell wsX10_needCell) := goodIn_app (goodIn_of _ (by decide +kernel)) ggX10_film_X10_needCell
set_option maxRecDepth 20000 in
theorem ggX10_film_X2_behind : GoodIn wsX10_film wsX2_behind := goodIn_r _ [28, 29, 30, 63, 64, 65, 66, 67, 68, 69, 70] (by decide +kernel) (by decide +kernel)
set_option maxRecDepth 20000 in
theorem gX10_film_X2_behind : GoodIn wsX10_film (wsV RX10 219 RX2 yX2_behind wsX2_behind) := goodIn_app (goodIn_of _ (by decide +kernel)) ggX10_film_X2_behind
set_option maxRecDepth 20000 in
theorem ggX10_films_X10_need : GoodIn wsX10_films wsX10_need := goodIn_ca (goodIn_r _ [8, 9, 10, 11, 31, 32, 33, 34, 35, 36, 37, 38, 39, 40, 41, 42, 43, 44, 45, 46] (by decide +kernel) (by decide +kernel)) (goodIn_sub (fun _ h => List.mem_cons_of_mem _ (List.mem_append_right _ h)) (by decide +kernel))
set_option maxRecDepth 20000 in
theorem gX10_films_X10_need : GoodIn wsX10_films (wsV RX10 223 RX10 yX10_need wsX10_need) := goodIn_app (goodIn_of _ (by decide +kernel)) ggX10_films_X10_need
set_option maxRecDepth 20000 in
theorem ggX10_films_X10_needWhat : GoodIn wsX10_films wsX10_needWhat := goodIn_ca (goodIn_r _ [15, 4, 5, 6, 7, 8, 9, 10, 11, 31, 32, 33, 34, 35, 36, 37, 38, 39, 40, 41, 42, 43, 44, 45, 46] (by decide +kernel) (by decide +kernel)) (goodIn_sub (fun _ h => List.mem_cons_of_mem _ (List.mem_append_right _ h)) (by decide +kernel))
set_option maxRecDepth 20000 in
theorem gX10_films_X10_needWhat : GoodIn wsX10_films (wsV RX10 162 RX10 yX10_needWhat wsX10_needWhat) := goodIn_app (goodIn_of _ (by decide +kernel)) ggX10_films_X10_needWhat
set_option maxRecDepth 20000 in
theorem ggX10_films_X2_filmsOf : GoodIn wsX10_films wsX2_filmsOf := goodIn_r _ [20, 21, 22, 23, 19, 24, 25, 26, 27, 28, 29, 30, 50, 51, 52, 53, 54, 55, 56, 57] (by decide +kernel) (by decide +kernel)
set_option maxRecDepth 20000 in
theorem gX10_films_X2_filmsOf : GoodIn wsX10_films (wsV RX10 230 RX2 yX2_filmsOf wsX2_filmsOf) := goodIn_app (goodIn_of _ (by decide +kernel)) ggX10_films_X2_filmsOf
set_option maxRecDepth 20000 in
theorem ggX10_have_X10_needPane : GoodIn wsX10_have wsX10_needPane := goodIn_ca (goodIn_r _ [8, 9, 10, 11, 12, 13, 36, 37, 38, 39, 40, 41, 42, 43, 44, 45, 46, 47, 48, 49, 50, 51, 55, 56, 57, 58, 59, 60, 61, 62, 63, 64, 65, 66, 67] (by decide +kernel) (by decide +kernel)) (goodIn_sub (fun _ h => List.mem_cons_of_mem _ (List.mem_append_left _ (List.mem_append_right _ h))) (by decide +kernel))
set_option maxRecDepth 20000 in
theorem gX10_have_X10_needPane : GoodIn wsX10_have (wsV RX10 186 RX10 yX10_needPane wsX10_needPane) := goodIn_app (goodIn_of _ (by decide +kernel)) ggX10_have_X10_needPane
set_option maxRecDepth 20000 in
theorem ggX10_have_X10_need : GoodIn wsX10_have wsX10_need := goodIn_ca (goodIn_r _ [17, 18, 19, 13, 36, 37, 38, 39, 40, 41, 42, 43, 44, 45, 46, 47, 48, 49, 50, 51] (by decide +kernel) (by decide +kernel)) (goodIn_sub (fun _ h => List.mem_cons_of_mem _ (List.mem_append_right _ h)) (by decide +kernel))
set_option maxRecDepth 20000 in
theorem gX10_have_X10_need : GoodIn wsX10_have (wsV RX10 223 RX10 yX10_need wsX10_need) := goodIn_app (goodIn_of _ (by decide +kernel)) ggX10_have_X10_need
set_option maxRecDepth 20000 in
theorem ggX10_have_X1_cellsHaving : GoodIn wsX10_have wsX1_cellsHaving := goodIn_r _ [24, 25, 26, 27, 28, 29, 30, 31, 32, 33, 34, 35, 68, 69, 70, 71, 72, 73, 74, 75] (by decide +kernel) (by decide +kernel)
set_option maxRecDepth 20000 in
theorem gX10_have_X1_cellsHaving : GoodIn wsX10_have (wsV RX10 233 RX1 yX1_cellsHaving wsX1_cellsHaving) := goodIn_app (goodIn_of _ (by decide +kernel)) ggX10_have_X1_cellsHaving
set_option maxRecDepth 20000 in
theorem ggX10_showing_X10_needPane : GoodIn wsX10_showing wsX10_needPane := goodIn_ca (goodIn_r _ [10, 11, 12, 4, 13, 14, 33, 34, 35, 36, 37, 38, 39, 40, 41, 42, 43, 44, 45, 46, 47, 48, 52, 53, 54, 55, 56, 57, 58, 59, 60, 61, 62, 63, 64] (by decide +kernel) (by decide +kernel)) (goodIn_sub (fun _ h => List.mem_cons_of_mem _ (List.mem_append_left _ (List.mem_append_right _ h))) (by decide +kernel))
set_option maxRecDepth 20000 in
theorem gX10_showing_X10_needPane : GoodIn wsX10_showing (wsV RX10 186 RX10 yX10_needPane wsX10_needPane) := goodIn_app (goodIn_of _ (by decide +kernel)) ggX10_showing_X10_needPane
set_option maxRecDepth 20000 in
theorem ggX10_showing_X10_need : GoodIn wsX10_showing wsX10_need := goodIn_ca (goodIn_r _ [18, 19, 20, 14, 33, 34, 35, 36, 37, 38, 39, 40, 41, 42, 43, 44, 45, 46, 47, 48] (by decide +kernel) (by decide +kernel)) (goodIn_sub (fun _ h => List.mem_cons_of_mem _ (List.mem_append_right _ h)) (by decide +kernel))
set_option maxRecDepth 20000 in
theorem gX10_showing_X10_need : GoodIn wsX10_showing (wsV RX10 223 RX10 yX10_need wsX10_need) := goodIn_app (goodIn_of _ (by decide +kernel)) ggX10_showing_X10_need
set_option maxRecDepth 20000 in
theorem ggX10_showing_X1_cellsShowing : GoodIn wsX10_showing wsX1_cellsShowing := goodIn_r _ [25, 26, 27, 28, 29, 30, 31, 32, 65, 66, 67, 68, 69, 70, 71, 72] (by decide +kernel) (by decide +kernel)
set_option maxRecDepth 20000 in
theorem gX10_showing_X1_cellsShowing : GoodIn wsX10_showing (wsV RX10 240 RX1 yX1_cellsShowing wsX1_cellsShowing) := goodIn_app (goodIn_of _ (by decide +kernel)) ggX10_showing_X1_cellsShowing
set_option maxRecDepth 20000 in
theorem ggX10_settles_X10_needCell : GoodIn wsX10_settles wsX10_needCell := goodIn_ca (goodIn_ca (goodIn_r _ [11, 12, 13, 5, 14, 15, 16, 17, 18, 19, 10, 20, 21, 22, 23, 24, 25, 26, 60, 61, 62, 63, 64, 65, 66, 67, 68, 69, 70, 71, 72, 73, 74, 75, 87, 88, 89, 90, 91, 92, 93, 94, 95, 96, 97, 98, 99] (by decide +kernel) (by decide +kernel)) (goodIn_sub (fun _ h => List.mem_cons_of_mem _ (List.mem_append_left _ (List.mem_append_right _ h))) (by decide +kernel))) (goodIn_sub (fun _ h => List.mem_cons_of_mem _ (List.mem_append_right _ h)) (by decide +kernel))
set_option maxRecDepth 20000 in
theorem gX10_settles_X10_needCell : GoodIn wsX10_settles (wsV RX10 209 RX10 yX10_needCell wsX10_needCell) := goodIn_app (goodIn_of _ (by decide +kernel)) ggX10_settles_X10_needCell
set_option maxRecDepth 20000 in
theorem ggX10_settles_X2_isBroken : GoodIn wsX10_settles wsX2_isBroken := goodIn_r _ [31, 32, 79, 80, 81, 82, 83, 84, 85, 86] (by decide +kernel) (by decide +kernel)
set_option maxRecDepth 20000 in
theorem gX10_settles_X2_isBroken : GoodIn wsX10_settles (wsV RX10 205 RX2 yX2_isBroken wsX2_isBroken) := goodIn_app (goodIn_of _ (by decide +kernel)) ggX10_settles_X2_isBroken
set_option maxRecDepth 20000 in
theorem ggX10_settles_X8_wouldSettle : GoodIn wsX10_settles wsX8_wouldSettle := goodIn_r _ [37, 38, 39, 40, 41, 42, 36, 43, 44, 45, 46, 47, 48, 30, 49, 50, 51, 52, 53, 54, 55, 56, 57, 58, 59, 100, 101, 102, 103, 104, 105, 79, 80, 81, 82, 83, 84, 85, 86, 87, 88, 89, 90, 91, 92, 93, 94, 95, 96, 97, 98, 99, 106, 107, 108] (by decide +kernel) (by decide +kernel)
set_option maxRecDepth 20000 in
theorem gX10_settles_X8_wouldSettle : GoodIn wsX10_settles (wsV RX10 244 RX8 yX8_wouldSettle wsX8_wouldSettle) := goodIn_app (goodIn_of _ (by decide +kernel)) ggX10_settles_X8_wouldSettle
set_option maxRecDepth 20000 in
theorem ggX10_order_X10_needOrder : GoodIn wsX10_order wsX10_needOrder := goodIn_ca (goodIn_r _ [6, 7, 8, 1, 9, 10, 56, 57, 58, 59, 60, 61, 62, 63, 64, 65, 66, 67, 68, 69, 70, 71, 72, 73, 74, 75, 76, 77, 78, 79, 80, 81, 82, 83, 84] (by decide +kernel) (by decide +kernel)) (goodIn_sub (fun _ h => List.mem_cons_of_mem _ (List.mem_append_left _ (List.mem_append_right _ h))) (by decide +kernel))
set_option maxRecDepth 20000 in
theorem gX10_order_X10_needOrder : GoodIn wsX10_order (wsV RX10 248 RX10 yX10_needOrder wsX10_needOrder) := goodIn_app (goodIn_of _ (by decide +kernel)) ggX10_order_X10_needOrder
set_option maxRecDepth 20000 in
theorem ggX10_order_X10_needWhat : GoodIn wsX10_order wsX10_needWhat := goodIn_ca (goodIn_r _ [14, 15, 16, 17, 5, 18, 19, 20, 10, 56, 57, 58, 59, 60, 61, 62, 63, 64, 65, 66, 67, 68, 69, 70, 71] (by decide +kernel) (by decide +kernel)) (goodIn_sub (fun _ h => List.mem_cons_of_mem _ (List.mem_append_right _ h)) (by decide +kernel))
set_option maxRecDepth 20000 in
theorem gX10_order_X10_needWhat : GoodIn wsX10_order (wsV RX10 162 RX10 yX10_needWhat wsX10_needWhat) := goodIn_app (goodIn_of _ (by decide +kernel)) ggX10_order_X10_needWhat
set_option maxRecDepth 20000 in
theorem ggX10_order_X10_orderState : GoodIn wsX10_order wsX10_orderState := goodIn_r _ [24, 25, 26, 1, 27, 28, 29, 30, 31, 32, 33, 34, 35, 5, 36, 37, 38, 39, 40, 41, 42, 43, 44, 45, 46, 47, 48, 49, 50, 51, 52, 53, 54, 55, 56, 57, 58, 59, 60, 61, 62, 63, 64, 65, 66, 67, 68, 69, 70, 71, 85, 86, 87, 88, 89, 90, 91, 92, 93, 94, 95, 72, 73, 74, 75, 76, 77, 78, 79, 80, 81, 82, 83, 84] (by decide +kernel) (by decide +kernel)
set_option maxRecDepth 20000 in
theorem gX10_order_X10_orderState : GoodIn wsX10_order (wsV RX10 251 RX10 yX10_orderState wsX10_orderState) := goodIn_app (goodIn_of _ (by decide +kernel)) ggX10_order_X10_orderState
set_option maxRecDepth 20000 in
theorem ggX10_order_X6_part : GoodIn wsX10_order wsX6_part := goodIn_r _ [40, 34, 72, 73, 74, 75, 76, 77, 78, 79, 80, 81, 82, 83, 84] (by decide +kernel) (by decide +kernel)
set_option maxRecDepth 20000 in
theorem gX10_order_X6_part : GoodIn wsX10_order (wsV RX10 254 RX6 yX6_part wsX6_part) := goodIn_app (goodIn_of _ (by decide +kernel)) ggX10_order_X6_part
set_option maxRecDepth 20000 in
theorem ggX10_needs_X10_needOrder : GoodIn wsX10_needs wsX10_needOrder := goodIn_ca (goodIn_r _ [8, 9, 10, 3, 11, 12, 36, 37, 38, 39, 40, 41, 42, 43, 44, 45, 46, 47, 48, 49, 50, 51, 55, 56, 57, 58, 59, 60, 61, 62, 63, 64, 65, 66, 67] (by decide +kernel) (by decide +kernel)) (goodIn_sub (fun _ h => List.mem_cons_of_mem _ (List.mem_append_right _ h)) (by decide +kernel))
set_option maxRecDepth 20000 in
theorem gX10_needs_X10_needOrder : GoodIn wsX10_needs (wsV RX10 248 RX10 yX10_needOrder wsX10_needOrder) := goodIn_app (goodIn_of _ (by decide +kernel)) ggX10_needs_X10_needOrder
set_option maxRecDepth 20000 in
theorem ggX10_needs_X6_cellOf : GoodIn wsX10_needs wsX6_cellOf := goodIn_r _ [17, 18, 19, 7, 20, 55, 56, 57, 58, 59, 60, 61, 62, 63, 64, 65, 66, 67] (by decide +kernel) (by decide +kernel)
set_option maxRecDepth 20000 in
theorem gX10_needs_X6_cellOf : GoodIn wsX10_needs (wsV RX10 257 RX6 yX6_cellOf wsX6_cellOf) := goodIn_app (goodIn_of _ (by decide +kernel)) ggX10_needs_X6_cellOf
set_option maxRecDepth 20000 in
theorem ggX10_needs_X6_part : GoodIn wsX10_needs wsX6_part := goodIn_r _ [24, 18, 55, 56, 57, 58, 59, 60, 61, 62, 63, 64, 65, 66, 67] (by decide +kernel) (by decide +kernel)
set_option maxRecDepth 20000 in
theorem gX10_needs_X6_part : GoodIn wsX10_needs (wsV RX10 254 RX6 yX6_part wsX6_part) := goodIn_app (goodIn_of _ (by decide +kernel)) ggX10_needs_X6_part
set_option maxRecDepth 20000 in
theorem ggX10_needs_X2_outsideOf : GoodIn wsX10_needs wsX2_outsideOf := goodIn_r _ [29, 30, 31, 32, 33, 28, 34, 35, 68, 69, 70, 71, 72, 73, 74, 75] (by decide +kernel) (by decide +kernel)
set_option maxRecDepth 20000 in
theorem gX10_needs_X2_outsideOf : GoodIn wsX10_needs (wsV RX10 260 RX2 yX2_outsideOf wsX2_outsideOf) := goodIn_app (goodIn_of _ (by decide +kernel)) ggX10_needs_X2_outsideOf
set_option maxRecDepth 20000 in
theorem ggX10_lost_X10_orderState : GoodIn wsX10_lost wsX10_orderState := goodIn_r _ [7, 8, 9, 1, 10, 11, 12, 13, 14, 15, 16, 17, 18, 6, 19, 20, 21, 22, 23, 24, 25, 26, 27, 28, 29, 30, 31, 32, 33, 34, 35, 36, 37, 38, 39, 40, 41, 42, 43, 44, 45, 46, 47, 48, 49, 50, 51, 52, 53, 54, 68, 69, 70, 71, 72, 73, 74, 75, 76, 77, 78, 55, 56, 57, 58, 59, 60, 61, 62, 63, 64, 65, 66, 67] (by decide +kernel) (by decide +kernel)
set_option maxRecDepth 20000 in
theorem gX10_lost_X10_orderState : GoodIn wsX10_lost (wsV RX10 251 RX10 yX10_orderState wsX10_orderState) := goodIn_app (goodIn_of _ (by decide +kernel)) ggX10_lost_X10_orderState
set_option maxRecDepth 20000 in
theorem ggX10_cost_X10_needPane : GoodIn wsX10_cost wsX10_needPane := goodIn_ca (goodIn_r _ [8, 9, 10, 11, 12, 13, 41, 42, 43, 44, 45, 46, 47, 48, 49, 50, 51, 52, 53, 54, 55, 56, 60, 61, 62, 63, 64, 65, 66, 67, 68, 69, 70, 71, 72] (by decide +kernel) (by decide +kernel)) (goodIn_sub (fun _ h => List.mem_cons_of_mem _ (List.mem_append_left _ (List.mem_append_right _ h))) (by decide +kernel))
set_option maxRecDepth 20000 in
theorem gX10_cost_X10_needPane : GoodIn wsX10_cost (wsV RX10 186 RX10 yX10_needPane wsX10_needPane) := goodIn_app (goodIn_of _ (by decide +kernel)) ggX10_cost_X10_needPane
set_option maxRecDepth 20000 in
theorem ggX10_cost_X10_needCells : GoodIn wsX10_cost wsX10_needCells := goodIn_ca (goodIn_r _ [17, 11, 18, 19, 20, 21, 7, 22, 23, 24, 13, 41, 42, 43, 44, 45, 46, 47, 48, 49, 50, 51, 52, 53, 54, 55, 56, 60, 61, 62, 63, 64, 65, 66, 67, 68, 69, 70, 71, 72] (by decide +kernel) (by decide +kernel)) (goodIn_sub (fun _ h => List.mem_cons_of_mem _ (List.mem_append_right _ h)) (by decide +kernel))
set_option maxRecDepth 20000 in
theorem gX10_cost_X10_needCells : GoodIn wsX10_cost (wsV RX10 263 RX10 yX10_needCells wsX10_needCells) := goodIn_app (goodIn_of _ (by decide +kernel)) ggX10_cost_X10_needCells
set_option maxRecDepth 20000 in
theorem ggX10_cost_X10_need : GoodIn wsX10_cost wsX10_need := goodIn_ca (goodIn_r _ [22, 23, 24, 13, 41, 42, 43, 44, 45, 46, 47, 48, 49, 50, 51, 52, 53, 54, 55, 56] (by decide +kernel) (by decide +kernel)) (goodIn_sub (fun _ h => List.mem_cons_of_mem _ (List.mem_append_right _ h)) (by decide +kernel))
set_option maxRecDepth 20000 in
theorem gX10_cost_X10_need : GoodIn wsX10_cost (wsV RX10 223 RX10 yX10_need wsX10_need) := goodIn_app (goodIn_of _ (by decide +kernel)) ggX10_cost_X10_need
set_option maxRecDepth 20000 in
theorem ggX10_cost_X1_costOf : GoodIn wsX10_cost wsX1_costOf := goodIn_r _ [29, 30, 31, 32, 33, 34, 35, 36, 37, 38, 39, 40, 73, 74, 75, 76, 77, 78, 79, 80] (by decide +kernel) (by decide +kernel)
set_option maxRecDepth 20000 in
theorem gX10_cost_X1_costOf : GoodIn wsX10_cost (wsV RX10 266 RX1 yX1_costOf wsX1_costOf) := goodIn_app (goodIn_of _ (by decide +kernel)) ggX10_cost_X1_costOf
set_option maxRecDepth 20000 in
theorem ggX10_view_X10_needPane : GoodIn wsX10_view wsX10_needPane := goodIn_ca (goodIn_r _ [8, 9, 10, 11, 12, 13, 52, 53, 54, 55, 56, 57, 58, 59, 60, 61, 62, 63, 64, 65, 66, 67, 71, 72, 73, 74, 75, 76, 77, 78, 79, 80, 81, 82, 83] (by decide +kernel) (by decide +kernel)) (goodIn_sub (fun _ h => List.mem_cons_of_mem _ (List.mem_append_left _ (List.mem_append_right _ h))) (by decide +kernel))
set_option maxRecDepth 20000 in
theorem gX10_view_X10_needPane : GoodIn wsX10_view (wsV RX10 186 RX10 yX10_needPane wsX10_needPane) := goodIn_app (goodIn_of _ (by decide +kernel)) ggX10_view_X10_needPane
set_option maxRecDepth 20000 in
theorem ggX10_view_X10_needCells : GoodIn wsX10_view wsX10_needCells := goodIn_ca (goodIn_r _ [17, 11, 18, 19, 20, 21, 7, 22, 23, 24, 13, 52, 53, 54, 55, 56, 57, 58, 59, 60, 61, 62, 63, 64, 65, 66, 67, 71, 72, 73, 74, 75, 76, 77, 78, 79, 80, 81, 82, 83] (by decide +kernel) (by decide +kernel)) (goodIn_sub (fun _ h => List.mem_cons_of_mem _ (List.mem_append_right _ h)) (by decide +kernel))
set_option maxRecDepth 20000 in
theorem gX10_view_X10_needCells : GoodIn wsX10_view (wsV RX10 263 RX10 yX10_needCells wsX10_needCells) := goodIn_app (goodIn_of _ (by decide +kernel)) ggX10_view_X10_needCells
set_option maxRecDepth 20000 in
theorem ggX10_view_X10_needWhat : GoodIn wsX10_view wsX10_needWhat := goodIn_ca (goodIn_r _ [28, 19, 20, 21, 7, 22, 23, 24, 13, 52, 53, 54, 55, 56, 57, 58, 59, 60, 61, 62, 63, 64, 65, 66, 67] (by decide +kernel) (by decide +kernel)) (goodIn_sub (fun _ h => List.mem_cons_of_mem _ (List.mem_append_right _ h)) (by decide +kernel))
set_option maxRecDepth 20000 in
theorem gX10_view_X10_needWhat : GoodIn wsX10_view (wsV RX10 162 RX10 yX10_needWhat wsX10_needWhat) := goodIn_app (goodIn_of _ (by decide +kernel)) ggX10_view_X10_needWhat
set_option maxRecDepth 20000 in
theorem ggX10_view_X1_bestDay : GoodIn wsX10_view wsX1_bestDay := goodIn_r _ [33, 34, 35, 36, 37, 38, 39, 40, 41, 42, 43, 44, 32, 45, 46, 47, 48, 49, 50, 84, 85, 86, 87, 88, 89, 90, 91] (by decide +kernel) (by decide +kernel)
set_option maxRecDepth 20000 in
theorem gX10_view_X1_bestDay : GoodIn wsX10_view (wsV RX10 269 RX1 yX1_bestDay wsX1_bestDay) := goodIn_app (goodIn_of _ (by decide +kernel)) ggX10_view_X1_bestDay
set_option maxRecDepth 20000 in
theorem ggX10_view_X1_costOf : GoodIn wsX10_view wsX1_costOf := goodIn_r _ [45, 46, 47, 48, 38, 49, 40, 50, 36, 37, 39, 41, 84, 85, 86, 87, 88, 89, 90, 91] (by decide +kernel) (by decide +kernel)
set_option maxRecDepth 20000 in
theorem gX10_view_X1_costOf : GoodIn wsX10_view (wsV RX10 266 RX1 yX1_costOf wsX1_costOf) := goodIn_app (goodIn_of _ (by decide +kernel)) ggX10_view_X1_costOf
set_option maxRecDepth 20000 in
theorem ggX10_seams_X10_needPane : GoodIn wsX10_seams wsX10_needPane := goodIn_ca (goodIn_r _ [10, 11, 12, 4, 13, 14, 30, 31, 32, 33, 34, 35, 36, 37, 38, 39, 40, 41, 42, 43, 44, 45, 49, 50, 51, 52, 53, 54, 55, 56, 57, 58, 59, 60, 61] (by decide +kernel) (by decide +kernel)) (goodIn_sub (fun _ h => List.mem_cons_of_mem _ (List.mem_append_right _ h)) (by decide +kernel))
set_option maxRecDepth 20000 in
theorem gX10_seams_X10_needPane : GoodIn wsX10_seams (wsV RX10 186 RX10 yX10_needPane wsX10_needPane) := goodIn_app (goodIn_of _ (by decide +kernel)) ggX10_seams_X10_needPane
set_option maxRecDepth 20000 in
theorem ggX10_seams_X1_countSeams : GoodIn wsX10_seams wsX1_countSeams := goodIn_r _ [19, 20, 21, 18, 22, 23, 24, 25, 26, 27, 28, 29, 62, 63, 64, 65, 66, 67, 68, 69] (by decide +kernel) (by decide +kernel)
set_option maxRecDepth 20000 in
theorem gX10_seams_X1_countSeams : GoodIn wsX10_seams (wsV RX10 272 RX1 yX1_countSeams wsX1_countSeams) := goodIn_app (goodIn_of _ (by decide +kernel)) ggX10_seams_X1_countSeams
set_option maxRecDepth 20000 in
theorem ggX10_sights_X10_needPane : GoodIn wsX10_sights wsX10_needPane := goodIn_ca (goodIn_r _ [8, 9, 10, 11, 12, 13, 36, 37, 38, 39, 40, 41, 42, 43, 44, 45, 46, 47, 48, 49, 50, 51, 55, 56, 57, 58, 59, 60, 61, 62, 63, 64, 65, 66, 67] (by decide +kernel) (by decide +kernel)) (goodIn_sub (fun _ h => List.mem_cons_of_mem _ (List.mem_append_right _ h)) (by decide +kernel))
set_option maxRecDepth 20000 in
theorem gX10_sights_X10_needPane : GoodIn wsX10_sights (wsV RX10 186 RX10 yX10_needPane wsX10_needPane) := goodIn_app (goodIn_of _ (by decide +kernel)) ggX10_sights_X10_needPane
set_option maxRecDepth 20000 in
theorem ggX10_sights_X1_countDaysShown : GoodIn wsX10_sights wsX1_countDaysShown := goodIn_r _ [18, 19, 20, 21, 22, 17, 23, 24, 25, 26, 27, 28, 29, 30, 31, 32, 33, 34, 35, 68, 69, 70, 71, 72, 73, 74, 75, 76, 77, 78, 79] (by decide +kernel) (by decide +kernel)
set_option maxRecDepth 20000 in
theorem gX10_sights_X1_countDaysShown : GoodIn wsX10_sights (wsV RX10 275 RX1 yX1_countDaysShown wsX1_countDaysShown) := goodIn_app (goodIn_of _ (by decide +kernel)) ggX10_sights_X1_countDaysShown
set_option maxRecDepth 20000 in
theorem ggX10_alike_X10_needPane : GoodIn wsX10_alike wsX10_needPane := goodIn_ca (goodIn_r _ [10, 11, 12, 4, 13, 14, 27, 28, 29, 30, 31, 32, 33, 34, 35, 36, 37, 38, 39, 40, 41, 42, 46, 47, 48, 49, 50, 51, 52, 53, 54, 55, 56, 57, 58] (by decide +kernel) (by decide +kernel)) (goodIn_sub (fun _ h => List.mem_cons_of_mem _ (List.mem_append_right _ h)) (by decide +kernel))
set_option maxRecDepth 20000 in
theorem gX10_alike_X10_needPane : GoodIn wsX10_alike (wsV RX10 186 RX10 yX10_needPane wsX10_needPane) := goodIn_app (goodIn_of _ (by decide +kernel)) ggX10_alike_X10_needPane
set_option maxRecDepth 20000 in
theorem ggX10_alike_X1_sameCells : GoodIn wsX10_alike wsX1_sameCells := goodIn_r _ [19, 20, 21, 22, 23, 24, 25, 26, 59, 60, 61, 62, 63, 64, 65, 66] (by decide +kernel) (by decide +kernel)
set_option maxRecDepth 20000 in
theorem gX10_alike_X1_sameCells : GoodIn wsX10_alike (wsV RX10 279 RX1 yX1_sameCells wsX1_sameCells) := goodIn_app (goodIn_of _ (by decide +kernel)) ggX10_alike_X1_sameCells
set_option maxRecDepth 20000 in
theorem ggX10_oldest_X10_needPane : GoodIn wsX10_oldest wsX10_needPane := goodIn_ca (goodIn_r _ [8, 9, 10, 11, 12, 13, 50, 51, 52, 53, 54, 55, 56, 57, 58, 59, 60, 61, 62, 63, 64, 65, 69, 70, 71, 72, 73, 74, 75, 76, 77, 78, 79, 80, 81] (by decide +kernel) (by decide +kernel)) (goodIn_sub (fun _ h => List.mem_cons_of_mem _ (List.mem_append_left _ (List.mem_append_right _ h))) (by decide +kernel))
set_option maxRecDepth 20000 in
theorem gX10_oldest_X10_needPane : GoodIn wsX10_oldest (wsV RX10 186 RX10 yX10_needPane wsX10_needPane) := goodIn_app (goodIn_of _ (by decide +kernel)) ggX10_oldest_X10_needPane
set_option maxRecDepth 20000 in
theorem ggX10_oldest_X10_needWhat : GoodIn wsX10_oldest wsX10_needWhat := goodIn_ca (goodIn_r _ [17, 18, 19, 20, 7, 21, 22, 23, 13, 50, 51, 52, 53, 54, 55, 56, 57, 58, 59, 60, 61, 62, 63, 64, 65] (by decide +kernel) (by decide +kernel)) (goodIn_sub (fun _ h => List.mem_cons_of_mem _ (List.mem_append_right _ h)) (by decide +kernel))
set_option maxRecDepth 20000 in
theorem gX10_oldest_X10_needWhat : GoodIn wsX10_oldest (wsV RX10 162 RX10 yX10_needWhat wsX10_needWhat) := goodIn_app (goodIn_of _ (by decide +kernel)) ggX10_oldest_X10_needWhat
set_option maxRecDepth 20000 in
theorem ggX10_oldest_X1_earliest : GoodIn wsX10_oldest wsX1_earliest := goodIn_r _ [28, 29, 30, 31, 32, 27, 33, 34, 35, 36, 37, 38, 39, 40, 41, 42, 43, 44, 45, 82, 83, 84, 85, 86, 87, 88, 89, 90, 91, 92, 93] (by decide +kernel) (by decide +kernel)
set_option maxRecDepth 20000 in
theorem gX10_oldest_X1_earliest : GoodIn wsX10_oldest (wsV RX10 282 RX1 yX1_earliest wsX1_earliest) := goodIn_app (goodIn_of _ (by decide +kernel)) ggX10_oldest_X1_earliest
set_option maxRecDepth 20000 in
theorem ggX10_oldest_X1_latestHidden : GoodIn wsX10_oldest wsX1_latestHidden := goodIn_r _ [49, 29, 30, 31, 32, 27, 33, 34, 35, 36, 37, 38, 39, 40, 41, 42, 43, 44, 45, 82, 83, 84, 85, 86, 87, 88, 89, 90, 91, 92, 93] (by decide +kernel) (by decide +kernel)
set_option maxRecDepth 20000 in
theorem gX10_oldest_X1_latestHidden : GoodIn wsX10_oldest (wsV RX10 285 RX1 yX1_latestHidden wsX1_latestHidden) := goodIn_app (goodIn_of _ (by decide +kernel)) ggX10_oldest_X1_latestHidden
set_option maxRecDepth 20000 in
theorem ggX10_thick_X2_thickest : GoodIn wsX10_thick wsX2_thickest := goodIn_r _ [7, 8, 28, 29, 30, 31, 32, 33, 34, 35] (by decide +kernel) (by decide +kernel)
set_option maxRecDepth 20000 in
theorem gX10_thick_X2_thickest : GoodIn wsX10_thick (wsV RX10 288 RX2 yX2_thickest wsX2_thickest) := goodIn_app (goodIn_of _ (by decide +kernel)) ggX10_thick_X2_thickest
set_option maxRecDepth 20000 in
theorem ggX10_patch_X10_needPane : GoodIn wsX10_patch wsX10_needPane := goodIn_ca (goodIn_r _ [12, 13, 14, 4, 15, 16, 56, 57, 58, 59, 60, 61, 62, 63, 64, 65, 66, 67, 68, 69, 70, 71, 75, 76, 77, 78, 79, 80, 81, 82, 83, 84, 85, 86, 87] (by decide +kernel) (by decide +kernel)) (goodIn_sub (fun _ h => List.mem_cons_of_mem _ (List.mem_append_left _ (List.mem_append_right _ h))) (by decide +kernel))
set_option maxRecDepth 20000 in
theorem gX10_patch_X10_needPane : GoodIn wsX10_patch (wsV RX10 186 RX10 yX10_needPane wsX10_needPane) := goodIn_app (goodIn_of _ (by decide +kernel)) ggX10_patch_X10_needPane
set_option maxRecDepth 20000 in
theorem ggX10_patch_X10_needWhat : GoodIn wsX10_patch wsX10_needWhat := goodIn_ca (goodIn_r _ [20, 21, 22, 23, 11, 24, 25, 26, 16, 56, 57, 58, 59, 60, 61, 62, 63, 64, 65, 66, 67, 68, 69, 70, 71] (by decide +kernel) (by decide +kernel)) (goodIn_sub (fun _ h => List.mem_cons_of_mem _ (List.mem_append_right _ h)) (by decide +kernel))
set_option maxRecDepth 20000 in
theorem gX10_patch_X10_needWhat : GoodIn wsX10_patch (wsV RX10 162 RX10 yX10_needWhat wsX10_needWhat) := goodIn_app (goodIn_of _ (by decide +kernel)) ggX10_patch_X10_needWhat
set_option maxRecDepth 20000 in
theorem ggX10_patch_X1_findPatch : GoodIn wsX10_patch wsX1_findPatch := goodIn_r _ [31, 32, 33, 34, 35, 36, 37, 38, 39, 40, 41, 42, 43, 30, 44, 45, 46, 47, 48, 49, 50, 51, 52, 53, 54, 55, 88, 89, 90, 91, 92, 93, 94, 95, 96, 97, 98, 99] (by decide +kernel) (by decide +kernel)
set_option maxRecDepth 20000 in
theorem gX10_patch_X1_findPatch : GoodIn wsX10_patch (wsV RX10 291 RX1 yX1_findPatch wsX1_findPatch) := goodIn_app (goodIn_of _ (by decide +kernel)) ggX10_patch_X1_findPatch
set_option maxRecDepth 20000 in
theorem ggX10_tells_X10_needPane : GoodIn wsX10_tells wsX10_needPane := goodIn_ca (goodIn_r _ [10, 11, 12, 4, 13, 14, 40, 41, 42, 43, 44, 45, 46, 47, 48, 49, 50, 51, 52, 53, 54, 55, 59, 60, 61, 62, 63, 64, 65, 66, 67, 68, 69, 70, 71] (by decide +kernel) (by decide +kernel)) (goodIn_sub (fun _ h => List.mem_cons_of_mem _ (List.mem_append_right _ h)) (by decide +kernel))
set_option maxRecDepth 20000 in
theorem gX10_tells_X10_needPane : GoodIn wsX10_tells (wsV RX10 186 RX10 yX10_needPane wsX10_needPane) := goodIn_app (goodIn_of _ (by decide +kernel)) ggX10_tells_X10_needPane
set_option maxRecDepth 20000 in
theorem ggX10_tells_X0_depths : GoodIn wsX10_tells wsX0_depths := goodIn_r _ [19, 20, 21, 22, 23, 24, 25, 26, 18, 27, 28, 29, 30, 31, 32, 33, 34, 35, 36, 37, 38, 39, 72, 73, 74, 75, 76, 77, 78, 79, 80, 81, 82, 83] (by decide +kernel) (by decide +kernel)
set_option maxRecDepth 20000 in
theorem gX10_tells_X0_depths : GoodIn wsX10_tells (wsV RX10 301 RX0 yX0_depths wsX0_depths) := goodIn_app (goodIn_of _ (by decide +kernel)) ggX10_tells_X0_depths
set_option maxRecDepth 20000 in
theorem ggX10_look_X10_needPane : GoodIn wsX10_look wsX10_needPane := goodIn_ca (goodIn_r _ [10, 11, 12, 4, 13, 14, 68, 69, 70, 71, 72, 73, 74, 75, 76, 77, 78, 79, 80, 81, 82, 83, 87, 88, 89, 90, 91, 92, 93, 94, 95, 96, 97, 98, 99] (by decide +kernel) (by decide +kernel)) (goodIn_sub (fun _ h => List.mem_cons_of_mem _ (List.mem_append_left _ (List.mem_append_right _ h))) (by decide +kernel))
set_option maxRecDepth 20000 in
theorem gX10_look_X10_needPane : GoodIn wsX10_look (wsV RX10 186 RX10 yX10_needPane wsX10_needPane) := goodIn_app (goodIn_of _ (by decide +kernel)) ggX10_look_X10_needPane
set_option maxRecDepth 20000 in
theorem ggX10_look_X10_needWhat : GoodIn wsX10_look wsX10_needWhat := goodIn_ca (goodIn_r _ [18, 19, 20, 21, 9, 22, 23, 24, 14, 68, 69, 70, 71, 72, 73, 74, 75, 76, 77, 78, 79, 80, 81, 82, 83] (by decide +kernel) (by decide +kernel)) (goodIn_sub (fun _ h => List.mem_cons_of_mem _ (List.mem_append_right _ h)) (by decide +kernel))
set_option maxRecDepth 20000 in
theorem gX10_look_X10_needWhat : GoodIn wsX10_look (wsV RX10 162 RX10 yX10_needWhat wsX10_needWhat) := goodIn_app (goodIn_of _ (by decide +kernel)) ggX10_look_X10_needWhat
set_option maxRecDepth 20000 in
theorem ggX10_look_X0_nextLook : GoodIn wsX10_look wsX0_nextLook := goodIn_r _ [29, 30, 31, 32, 33, 34, 28, 35, 36, 37, 38, 39, 40, 41, 42, 43, 44, 45, 46, 47, 48, 49, 50, 51, 52, 53, 54, 55, 56, 57, 58, 59, 60, 61, 62, 63, 64, 65, 66, 67, 100, 101, 102, 103, 104, 105, 106, 107, 108, 109, 110, 111] (by decide +kernel) (by decide +kernel)
set_option maxRecDepth 20000 in
theorem gX10_look_X0_nextLook : GoodIn wsX10_look (wsV RX10 304 RX0 yX0_nextLook wsX0_nextLook) := goodIn_app (goodIn_of _ (by decide +kernel)) ggX10_look_X0_nextLook
set_option maxRecDepth 20000 in
theorem ggX10_cover_X10_needPane : GoodIn wsX10_cover wsX10_needPane := goodIn_ca (goodIn_r _ [8, 9, 10, 2, 11, 12, 44, 45, 46, 47, 48, 49, 50, 51, 52, 53, 54, 55, 56, 57, 58, 59, 60, 61, 62, 63, 64, 65, 66, 67, 68, 69, 70, 71, 72] (by decide +kernel) (by decide +kernel)) (goodIn_sub (fun _ h => List.mem_cons_of_mem _ (List.mem_append_left _ (List.mem_append_right _ h))) (by decide +kernel))
set_option maxRecDepth 20000 in
theorem gX10_cover_X10_needPane : GoodIn wsX10_cover (wsV RX10 186 RX10 yX10_needPane wsX10_needPane) := goodIn_app (goodIn_of _ (by decide +kernel)) ggX10_cover_X10_needPane
set_option maxRecDepth 20000 in
theorem ggX10_cover_X10_needCells : GoodIn wsX10_cover wsX10_needCells := goodIn_ca (goodIn_r _ [16, 2, 3, 17, 18, 19, 7, 20, 21, 22, 12, 44, 45, 46, 47, 48, 49, 50, 51, 52, 53, 54, 55, 56, 57, 58, 59, 60, 61, 62, 63, 64, 65, 66, 67, 68, 69, 70, 71, 72] (by decide +kernel) (by decide +kernel)) (goodIn_sub (fun _ h => List.mem_cons_of_mem _ (List.mem_append_right _ h)) (by decide +kernel))
set_option maxRecDepth 20000 in
theorem gX10_cover_X10_needCells : GoodIn wsX10_cover (wsV RX10 263 RX10 yX10_needCells wsX10_needCells) := goodIn_app (goodIn_of _ (by decide +kernel)) ggX10_cover_X10_needCells
set_option maxRecDepth 20000 in
theorem ggX10_cover_X10_need : GoodIn wsX10_cover wsX10_need := goodIn_ca (goodIn_r _ [20, 21, 22, 12, 44, 45, 46, 47, 48, 49, 50, 51, 52, 53, 54, 55, 56, 57, 58, 59] (by decide +kernel) (by decide +kernel)) (goodIn_sub (fun _ h => List.mem_cons_of_mem _ (List.mem_append_right _ h)) (by decide +kernel))
set_option maxRecDepth 20000 in
theorem gX10_cover_X10_need : GoodIn wsX10_cover (wsV RX10 223 RX10 yX10_need wsX10_need) := goodIn_app (goodIn_of _ (by decide +kernel)) ggX10_cover_X10_need
set_option maxRecDepth 20000 in
theorem ggX10_cover_X10_needWhat : GoodIn wsX10_cover wsX10_needWhat := goodIn_ca (goodIn_r _ [26, 17, 18, 19, 7, 20, 21, 22, 12, 44, 45, 46, 47, 48, 49, 50, 51, 52, 53, 54, 55, 56, 57, 58, 59] (by decide +kernel) (by decide +kernel)) (goodIn_sub (fun _ h => List.mem_cons_of_mem _ (List.mem_append_right _ h)) (by decide +kernel))
set_option maxRecDepth 20000 in
theorem gX10_cover_X10_needWhat : GoodIn wsX10_cover (wsV RX10 162 RX10 yX10_needWhat wsX10_needWhat) := goodIn_app (goodIn_of _ (by decide +kernel)) ggX10_cover_X10_needWhat
set_option maxRecDepth 20000 in
theorem ggX10_cover_X1_fewestCircles : GoodIn wsX10_cover wsX1_fewestCircles := goodIn_r _ [31, 32, 33, 34, 30, 35, 36, 37, 38, 39, 40, 41, 42, 43, 73, 74, 75, 76] (by decide +kernel) (by decide +kernel)
set_option maxRecDepth 20000 in
theorem gX10_cover_X1_fewestCircles : GoodIn wsX10_cover (wsV RX10 308 RX1 yX1_fewestCircles wsX1_fewestCircles) := goodIn_app (goodIn_of _ (by decide +kernel)) ggX10_cover_X1_fewestCircles
set_option maxRecDepth 20000 in
theorem ggX10_game_X10_needPane : GoodIn wsX10_game wsX10_needPane := goodIn_ca (goodIn_r _ [8, 9, 10, 11, 12, 13, 30, 31, 32, 33, 34, 35, 36, 37, 38, 39, 40, 41, 42, 43, 44, 45, 49, 50, 51, 52, 53, 54, 55, 56, 57, 58, 59, 60, 61] (by decide +kernel) (by decide +kernel)) (goodIn_sub (fun _ h => List.mem_cons_of_mem _ (List.mem_append_left _ (List.mem_append_right _ h))) (by decide +kernel))
set_option maxRecDepth 20000 in
theorem gX10_game_X10_needPane : GoodIn wsX10_game (wsV RX10 186 RX10 yX10_needPane wsX10_needPane) := goodIn_app (goodIn_of _ (by decide +kernel)) ggX10_game_X10_needPane
set_option maxRecDepth 20000 in
theorem ggX10_game_X10_need : GoodIn wsX10_game wsX10_need := goodIn_ca (goodIn_r _ [17, 18, 19, 13, 30, 31, 32, 33, 34, 35, 36, 37, 38, 39, 40, 41, 42, 43, 44, 45] (by decide +kernel) (by decide +kernel)) (goodIn_sub (fun _ h => List.mem_cons_of_mem _ (List.mem_append_right _ h)) (by decide +kernel))
set_option maxRecDepth 20000 in
theorem gX10_game_X10_need : GoodIn wsX10_game (wsV RX10 223 RX10 yX10_need wsX10_need) := goodIn_app (goodIn_of _ (by decide +kernel)) ggX10_game_X10_need
set_option maxRecDepth 20000 in
theorem ggX10_game_X10_needWhat : GoodIn wsX10_game wsX10_needWhat := goodIn_ca (goodIn_r _ [23, 14, 15, 16, 7, 17, 18, 19, 13, 30, 31, 32, 33, 34, 35, 36, 37, 38, 39, 40, 41, 42, 43, 44, 45] (by decide +kernel) (by decide +kernel)) (goodIn_sub (fun _ h => List.mem_cons_of_mem _ (List.mem_append_right _ h)) (by decide +kernel))
set_option maxRecDepth 20000 in
theorem gX10_game_X10_needWhat : GoodIn wsX10_game (wsV RX10 162 RX10 yX10_needWhat wsX10_needWhat) := goodIn_app (goodIn_of _ (by decide +kernel)) ggX10_game_X10_needWhat
set_option maxRecDepth 20000 in
theorem ggX10_game_X1_winningCells : GoodIn wsX10_game wsX1_winningCells := goodIn_r _ [28, 29, 62, 63, 64, 65, 66, 67, 68, 69] (by decide +kernel) (by decide +kernel)
set_option maxRecDepth 20000 in
theorem gX10_game_X1_winningCells : GoodIn wsX10_game (wsV RX10 312 RX1 yX1_winningCells wsX1_winningCells) := goodIn_app (goodIn_of _ (by decide +kernel)) ggX10_game_X1_winningCells
set_option maxRecDepth 20000 in
theorem ggX10_round_X10_needOrders : GoodIn wsX10_round wsX10_needOrders := goodIn_ca (goodIn_r _ [9, 2, 10, 11, 12, 13, 8, 14, 15, 16, 17, 58, 59, 60, 61, 62, 63, 64, 65, 66, 67, 68, 69, 70, 71, 72, 73, 77, 78, 79, 80, 81, 82, 83, 84, 85, 86, 87, 88, 89] (by decide +kernel) (by decide +kernel)) (goodIn_sub (fun _ h => List.mem_cons_of_mem _ (List.mem_append_right _ h)) (by decide +kernel))
set_option maxRecDepth 20000 in
theorem gX10_round_X10_needOrders : GoodIn wsX10_round (wsV RX10 315 RX10 yX10_needOrders wsX10_needOrders) := goodIn_app (goodIn_of _ (by decide +kernel)) ggX10_round_X10_needOrders
set_option maxRecDepth 20000 in
theorem ggX10_round_X10_needWhat : GoodIn wsX10_round wsX10_needWhat := goodIn_ca (goodIn_r _ [21, 11, 12, 13, 8, 14, 15, 16, 17, 58, 59, 60, 61, 62, 63, 64, 65, 66, 67, 68, 69, 70, 71, 72, 73] (by decide +kernel) (by decide +kernel)) (goodIn_sub (fun _ h => List.mem_cons_of_mem _ (List.mem_append_right _ h)) (by decide +kernel))
set_option maxRecDepth 20000 in
theorem gX10_round_X10_needWhat : GoodIn wsX10_round (wsV RX10 162 RX10 yX10_needWhat wsX10_needWhat) := goodIn_app (goodIn_of _ (by decide +kernel)) ggX10_round_X10_needWhat
set_option maxRecDepth 20000 in
theorem ggX10_round_X5_walkFreely : GoodIn wsX10_round wsX5_walkFreely := goodIn_r _ [26, 27, 28, 29, 30, 31, 32, 33, 34, 35, 25, 36, 37, 38, 39, 40, 41, 42, 43, 44, 45, 46, 47, 48, 49, 50, 51, 52, 53, 54, 55, 56, 57, 74, 75, 76, 77, 78, 79, 80, 81, 82, 83, 84, 85, 86, 87, 88, 89] (by decide +kernel) (by decide +kernel)
set_option maxRecDepth 20000 in
theorem gX10_round_X5_walkFreely : GoodIn wsX10_round (wsV RX10 318 RX5 yX5_walkFreely wsX5_walkFreely) := goodIn_app (goodIn_of _ (by decide +kernel)) ggX10_round_X5_walkFreely
set_option maxRecDepth 20000 in
theorem ggX10_by_X10_needOrders : GoodIn wsX10_by wsX10_needOrders := goodIn_ca (goodIn_r _ [11, 2, 12, 13, 14, 15, 10, 16, 17, 18, 19, 59, 60, 61, 62, 63, 64, 65, 66, 67, 68, 69, 70, 71, 72, 73, 74, 89, 90, 91, 92, 93, 94, 95, 96, 97, 98, 99, 100, 101] (by decide +kernel) (by decide +kernel)) (goodIn_sub (fun _ h => List.mem_cons_of_mem _ (List.mem_append_right _ h)) (by decide +kernel))
set_option maxRecDepth 20000 in
theorem gX10_by_X10_needOrders : GoodIn wsX10_by (wsV RX10 315 RX10 yX10_needOrders wsX10_needOrders) := goodIn_app (goodIn_of _ (by decide +kernel)) ggX10_by_X10_needOrders
set_option maxRecDepth 20000 in
theorem ggX10_by_X10_need : GoodIn wsX10_by wsX10_need := goodIn_ca (goodIn_r _ [16, 17, 18, 19, 59, 60, 61, 62, 63, 64, 65, 66, 67, 68, 69, 70, 71, 72, 73, 74] (by decide +kernel) (by decide +kernel)) (goodIn_sub (fun _ h => List.mem_cons_of_mem _ (List.mem_append_right _ h)) (by decide +kernel))
set_option maxRecDepth 20000 in
theorem gX10_by_X10_need : GoodIn wsX10_by (wsV RX10 223 RX10 yX10_need wsX10_need) := goodIn_app (goodIn_of _ (by decide +kernel)) ggX10_by_X10_need
set_option maxRecDepth 20000 in
theorem ggX10_by_X5_walkInTime : GoodIn wsX10_by wsX5_walkInTime := goodIn_r _ [24, 25, 26, 27, 28, 29, 30, 31, 32, 33, 34, 35, 36, 37, 38, 39, 40, 41, 42, 43, 44, 23, 45, 46, 47, 48, 49, 50, 51, 52, 53, 54, 55, 56, 57, 58, 86, 87, 88, 89, 90, 91, 92, 93, 94, 95, 96, 97, 98, 99, 100, 101] (by decide +kernel) (by decide +kernel)
set_option maxRecDepth 20000 in
theorem gX10_by_X5_walkInTime : GoodIn wsX10_by (wsV RX10 328 RX5 yX5_walkInTime wsX5_walkInTime) := goodIn_app (goodIn_of _ (by decide +kernel)) ggX10_by_X5_walkInTime
set_option maxRecDepth 20000 in
theorem ggX10_share_X10_needCell : GoodIn wsX10_share wsX10_needCell := goodIn_ca (goodIn_ca (goodIn_r _ [8, 9, 10, 11, 12, 13, 14, 15, 16, 17, 7, 18, 19, 20, 21, 22, 23, 24, 43, 44, 45, 46, 47, 48, 49, 50, 51, 52, 53, 54, 55, 56, 57, 58, 62, 63, 64, 65, 66, 67, 68, 69, 70, 71, 72, 73, 74] (by decide +kernel) (by decide +kernel)) (goodIn_sub (fun _ h => List.mem_cons_of_mem _ (List.mem_append_left _ (List.mem_append_left _ (List.mem_append_right _ h)))) (by decide +kernel))) (goodIn_sub (fun _ h => List.mem_cons_of_mem _ (List.mem_append_left _ (List.mem_append_right _ h))) (by decide +kernel))
set_option maxRecDepth 20000 in
theorem gX10_share_X10_needCell : GoodIn wsX10_share (wsV RX10 209 RX10 yX10_needCell wsX10_needCell) := goodIn_app (goodIn_of _ (by decide +kernel)) ggX10_share_X10_needCell
set_option maxRecDepth 20000 in
theorem ggX10_share_X10_need : GoodIn wsX10_share wsX10_need := goodIn_ca (goodIn_r _ [28, 29, 30, 14, 43, 44, 45, 46, 47, 48, 49, 50, 51, 52, 53, 54, 55, 56, 57, 58] (by decide +kernel) (by decide +kernel)) (goodIn_sub (fun _ h => List.mem_cons_of_mem _ (List.mem_append_right _ h)) (by decide +kernel))
set_option maxRecDepth 20000 in
theorem gX10_share_X10_need : GoodIn wsX10_share (wsV RX10 223 RX10 yX10_need wsX10_need) := goodIn_app (goodIn_of _ (by decide +kernel)) ggX10_share_X10_need
set_option maxRecDepth 20000 in
theorem ggX10_share_X1_shareOf : GoodIn wsX10_share wsX1_shareOf := goodIn_r _ [35, 36, 37, 38, 39, 40, 41, 42, 75, 76, 77, 78, 79, 80, 81, 82] (by decide +kernel) (by decide +kernel)
set_option maxRecDepth 20000 in
theorem gX10_share_X1_shareOf : GoodIn wsX10_share (wsV RX10 332 RX1 yX1_shareOf wsX1_shareOf) := goodIn_app (goodIn_of _ (by decide +kernel)) ggX10_share_X1_shareOf
set_option maxRecDepth 20000 in
theorem ggX10_ahead_X10_needPane : GoodIn wsX10_ahead wsX10_needPane := goodIn_ca (goodIn_r _ [13, 14, 15, 4, 16, 17, 127, 128, 129, 130, 131, 132, 133, 134, 135, 136, 137, 138, 139, 140, 141, 142, 152, 153, 154, 155, 156, 157, 158, 159, 160, 161, 162, 163, 164] (by decide +kernel) (by decide +kernel)) (goodIn_sub (fun _ h => List.mem_cons_of_mem _ (List.mem_append_left _ (List.mem_append_right _ h))) (by decide +kernel))
set_option maxRecDepth 20000 in
theorem gX10_ahead_X10_needPane : GoodIn wsX10_ahead (wsV RX10 186 RX10 yX10_needPane wsX10_needPane) := goodIn_app (goodIn_of _ (by decide +kernel)) ggX10_ahead_X10_needPane
set_option maxRecDepth 20000 in
theorem ggX10_ahead_X10_need : GoodIn wsX10_ahead wsX10_need := goodIn_ca (goodIn_r _ [21, 22, 23, 17, 127, 128, 129, 130, 131, 132, 133, 134, 135, 136, 137, 138, 139, 140, 141, 142] (by decide +kernel) (by decide +kernel)) (goodIn_sub (fun _ h => List.mem_cons_of_mem _ (List.mem_append_right _ h)) (by decide +kernel))
set_option maxRecDepth 20000 in
theorem gX10_ahead_X10_need : GoodIn wsX10_ahead (wsV RX10 223 RX10 yX10_need wsX10_need) := goodIn_app (goodIn_of _ (by decide +kernel)) ggX10_ahead_X10_need
set_option maxRecDepth 20000 in
theorem ggX10_ahead_X10_needWhat : GoodIn wsX10_ahead wsX10_needWhat := goodIn_ca (goodIn_r _ [27, 18, 19, 20, 12, 21, 22, 23, 17, 127, 128, 129, 130, 131, 132, 133, 134, 135, 136, 137, 138, 139, 140, 141, 142] (by decide +kernel) (by decide +kernel)) (goodIn_sub (fun _ h => List.mem_cons_of_mem _ (List.mem_append_right _ h)) (by decide +kernel))
set_option maxRecDepth 20000 in
theorem gX10_ahead_X10_needWhat : GoodIn wsX10_ahead (wsV RX10 162 RX10 yX10_needWhat wsX10_needWhat) := goodIn_app (goodIn_of _ (by decide +kernel)) ggX10_ahead_X10_needWhat
set_option maxRecDepth 20000 in
theorem ggX10_ahead_X8_foresee : GoodIn wsX10_ahead wsX8_foresee := goodIn_r _ [32, 33, 34, 35, 36, 37, 38, 39, 40, 41, 42, 43, 44, 45, 46, 47, 48, 49, 50, 51, 52, 53, 54, 55, 56, 57, 58, 59, 60, 61, 62, 63, 64, 65, 31, 66, 67, 68, 69, 70, 71, 72, 73, 74, 75, 76, 77, 78, 79, 80, 81, 82, 83, 84, 85, 86, 87, 88, 89, 90, 91, 92, 93, 94, 95, 146, 147, 148, 149, 150, 151, 165, 166, 167, 168, 169, 170, 171, 172, 152, 153, 154, 155, 156, 157, 158, 159, 160, 161, 162, 163, 164, 173, 174, 175] (by decide +kernel) (by decide +kernel)
set_option maxRecDepth 20000 in
theorem gX10_ahead_X8_foresee : GoodIn wsX10_ahead (wsV RX10 335 RX8 yX8_foresee wsX8_foresee) := goodIn_app (goodIn_of _ (by decide +kernel)) ggX10_ahead_X8_foresee
set_option maxRecDepth 20000 in
theorem ggX10_ahead_X2_filmsOn : GoodIn wsX10_ahead wsX2_filmsOn := goodIn_r _ [99, 48, 165, 166, 167, 168, 169, 170, 171, 172] (by decide +kernel) (by decide +kernel)
set_option maxRecDepth 20000 in
theorem gX10_ahead_X2_filmsOn : GoodIn wsX10_ahead (wsV RX10 201 RX2 yX2_filmsOn wsX2_filmsOn) := goodIn_app (goodIn_of _ (by decide +kernel)) ggX10_ahead_X2_filmsOn
set_option maxRecDepth 20000 in
theorem ggX10_ahead_X1_countSeams : GoodIn wsX10_ahead wsX1_countSeams := goodIn_r _ [104, 105, 106, 103, 107, 108, 81, 82, 41, 83, 48, 43, 165, 166, 167, 168, 169, 170, 171, 172] (by decide +kernel) (by decide +kernel)
set_option maxRecDepth 20000 in
theorem gX10_ahead_X1_countSeams : GoodIn wsX10_ahead (wsV RX10 272 RX1 yX1_countSeams wsX1_countSeams) := goodIn_app (goodIn_of _ (by decide +kernel)) ggX10_ahead_X1_countSeams
set_option maxRecDepth 20000 in
theorem ggX10_ahead_X1_countDaysShown : GoodIn wsX10_ahead wsX1_countDaysShown := goodIn_r _ [112, 113, 114, 115, 116, 103, 117, 118, 119, 120, 121, 122, 123, 124, 125, 41, 126, 48, 43, 176, 177, 178, 179, 165, 166, 167, 168, 169, 170, 171, 172] (by decide +kernel) (by decide +kernel)
set_option maxRecDepth 20000 in
theorem gX10_ahead_X1_countDaysShown : GoodIn wsX10_ahead (wsV RX10 275 RX1 yX1_countDaysShown wsX1_countDaysShown) := goodIn_app (goodIn_of _ (by decide +kernel)) ggX10_ahead_X1_countDaysShown
set_option maxRecDepth 20000 in
theorem ggX10_decade_X10_needDecade : GoodIn wsX10_decade wsX10_needDecade := goodIn_ca (goodIn_r _ [15, 16, 17, 18, 14, 19, 20, 21, 22, 114, 115, 116, 117, 118, 119, 120, 121, 122, 123, 124, 125, 126, 127, 128, 129] (by decide +kernel) (by decide +kernel)) (goodIn_sub (fun _ h => List.mem_cons_of_mem _ (List.mem_append_right _ h)) (by decide +kernel))
set_option maxRecDepth 20000 in
theorem gX10_decade_X10_needDecade : GoodIn wsX10_decade (wsV RX10 342 RX10 yX10_needDecade wsX10_needDecade) := goodIn_app (goodIn_of _ (by decide +kernel)) ggX10_decade_X10_needDecade
set_option maxRecDepth 20000 in
theorem ggX10_decade_X10_needWhat : GoodIn wsX10_decade wsX10_needWhat := goodIn_ca (goodIn_r _ [26, 16, 17, 18, 14, 19, 20, 21, 22, 114, 115, 116, 117, 118, 119, 120, 121, 122, 123, 124, 125, 126, 127, 128, 129] (by decide +kernel) (by decide +kernel)) (goodIn_sub (fun _ h => List.mem_cons_of_mem _ (List.mem_append_right _ h)) (by decide +kernel))
set_option maxRecDepth 20000 in
theorem gX10_decade_X10_needWhat : GoodIn wsX10_decade (wsV RX10 162 RX10 yX10_needWhat wsX10_needWhat) := goodIn_app (goodIn_of _ (by decide +kernel)) ggX10_decade_X10_needWhat
set_option maxRecDepth 20000 in
theorem ggX10_decade_X8_foresee : GoodIn wsX10_decade wsX8_foresee := goodIn_r _ [31, 32, 33, 34, 35, 36, 37, 38, 39, 40, 41, 42, 43, 44, 45, 46, 47, 48, 49, 50, 51, 52, 53, 54, 55, 56, 57, 58, 59, 60, 61, 62, 63, 64, 30, 65, 66, 67, 68, 69, 70, 71, 72, 73, 74, 75, 76, 77, 78, 79, 80, 81, 82, 83, 84, 85, 86, 87, 88, 89, 90, 91, 92, 93, 94, 154, 155, 156, 157, 158, 159, 146, 147, 148, 149, 150, 151, 152, 153, 133, 134, 135, 136, 137, 138, 139, 140, 141, 142, 143, 144, 145, 160, 161, 162] (by decide +kernel) (by decide +kernel)
set_option maxRecDepth 20000 in
theorem gX10_decade_X8_foresee : GoodIn wsX10_decade (wsV RX10 335 RX8 yX8_foresee wsX8_foresee) := goodIn_app (goodIn_of _ (by decide +kernel)) ggX10_decade_X8_foresee
set_option maxRecDepth 20000 in
theorem ggX10_decade_X8_drawDecade : GoodIn wsX10_decade wsX8_drawDecade := goodIn_r _ [98, 99, 100, 101, 36, 102, 32, 103, 104, 105, 40, 106, 47, 154, 155, 156, 157, 158, 159, 146, 147, 148, 149, 150, 151, 152, 153] (by decide +kernel) (by decide +kernel)
set_option maxRecDepth 20000 in
theorem gX10_decade_X8_drawDecade : GoodIn wsX10_decade (wsV RX10 348 RX8 yX8_drawDecade wsX8_drawDecade) := goodIn_app (goodIn_of _ (by decide +kernel)) ggX10_decade_X8_drawDecade
set_option maxRecDepth 20000 in
theorem ggX10_decade_J6_bitCount_0f7a4 : GoodIn wsX10_decade wsJ6_bitCount_0f7a4 := goodIn_r _ [110, 111, 112, 113] (by decide +kernel) (by decide +kernel)
set_option maxRecDepth 20000 in
theorem gX10_decade_J6_bitCount_0f7a4 : GoodIn wsX10_decade (va_wsS RX10 358 yJ6_bitCount_0f7a4 wsJ6_bitCount_0f7a4) := goodIn_app (goodIn_of _ (by decide +kernel)) ggX10_decade_J6_bitCount_0f7a4
set_option maxRecDepth 20000 in
theorem ggX10_span_X10_need : GoodIn wsX10_span wsX10_need := goodIn_ca (goodIn_r _ [22, 23, 24, 25, 111, 112, 113, 114, 115, 116, 117, 118, 119, 120, 121, 122, 123, 124, 125, 126] (by decide +kernel) (by decide +kernel)) (goodIn_sub (fun _ h => List.mem_cons_of_mem _ (List.mem_append_right _ h)) (by decide +kernel))
set_option maxRecDepth 20000 in
theorem gX10_span_X10_need : GoodIn wsX10_span (wsV RX10 223 RX10 yX10_need wsX10_need) := goodIn_app (goodIn_of _ (by decide +kernel)) ggX10_span_X10_need
set_option maxRecDepth 20000 in
theorem ggX10_span_X10_needDecade : GoodIn wsX10_span wsX10_needDecade := goodIn_ca (goodIn_r _ [29, 18, 19, 20, 21, 22, 23, 24, 25, 111, 112, 113, 114, 115, 116, 117, 118, 119, 120, 121, 122, 123, 124, 125, 126] (by decide +kernel) (by decide +kernel)) (goodIn_sub (fun _ h => List.mem_cons_of_mem _ (List.mem_append_right _ h)) (by decide +kernel))
set_option maxRecDepth 20000 in
theorem gX10_span_X10_needDecade : GoodIn wsX10_span (wsV RX10 342 RX10 yX10_needDecade wsX10_needDecade) := goodIn_app (goodIn_of _ (by decide +kernel)) ggX10_span_X10_needDecade
set_option maxRecDepth 20000 in
theorem ggX10_span_X10_needWhat : GoodIn wsX10_span wsX10_needWhat := goodIn_ca (goodIn_r _ [33, 18, 19, 20, 21, 22, 23, 24, 25, 111, 112, 113, 114, 115, 116, 117, 118, 119, 120, 121, 122, 123, 124, 125, 126] (by decide +kernel) (by decide +kernel)) (goodIn_sub (fun _ h => List.mem_cons_of_mem _ (List.mem_append_right _ h)) (by decide +kernel))
set_option maxRecDepth 20000 in
theorem gX10_span_X10_needWhat : GoodIn wsX10_span (wsV RX10 162 RX10 yX10_needWhat wsX10_needWhat) := goodIn_app (goodIn_of _ (by decide +kernel)) ggX10_span_X10_needWhat
set_option maxRecDepth 20000 in
theorem ggX10_span_X8_foresee : GoodIn wsX10_span wsX8_foresee := goodIn_r _ [38, 39, 40, 41, 42, 43, 44, 45, 46, 47, 48, 49, 50, 51, 52, 53, 54, 55, 56, 57, 58, 59, 60, 61, 62, 63, 64, 65, 11, 12, 13, 66, 67, 68, 37, 69, 70, 71, 72, 73, 74, 75, 76, 77, 78, 79, 80, 81, 82, 83, 84, 85, 86, 87, 88, 89, 90, 91, 92, 93, 94, 95, 96, 97, 98, 151, 152, 153, 154, 155, 156, 143, 144, 145, 146, 147, 148, 149, 150, 127, 128, 129, 130, 131, 132, 133, 134, 135, 136, 137, 138, 139, 157, 158, 159] (by decide +kernel) (by decide +kernel)
set_option maxRecDepth 20000 in
theorem gX10_span_X8_foresee : GoodIn wsX10_span (wsV RX10 335 RX8 yX8_foresee wsX8_foresee) := goodIn_app (goodIn_of _ (by decide +kernel)) ggX10_span_X8_foresee
set_option maxRecDepth 20000 in
theorem ggX10_span_X8_drawDecade : GoodIn wsX10_span wsX8_drawDecade := goodIn_r _ [102, 103, 104, 105, 43, 106, 39, 107, 108, 109, 47, 110, 54, 151, 152, 153, 154, 155, 156, 143, 144, 145, 146, 147, 148, 149, 150] (by decide +kernel) (by decide +kernel)
set_option maxRecDepth 20000 in
theorem gX10_span_X8_drawDecade : GoodIn wsX10_span (wsV RX10 348 RX8 yX8_drawDecade wsX8_drawDecade) := goodIn_app (goodIn_of _ (by decide +kernel)) ggX10_span_X8_drawDecade
set_option maxRecDepth 20000 in
theorem ggX10_image_X4_init : GoodIn wsX10_image wsX4_init := goodIn_r _ [8, 9, 10, 11, 12, 13, 14, 15, 16, 17, 18, 19, 20, 21, 22, 23, 65, 66, 67, 68, 69, 70, 71, 72, 62, 63, 64] (by decide +kernel) (by decide +kernel)
set_option maxRecDepth 20000 in
theorem gX10_image_X4_init_n62 : GoodIn wsX10_image (wsX4_init) := ggX10_image_X4_init
set_option maxRecDepth 20000 in
theorem ggX10_image_X4_copy : GoodIn wsX10_image wsX4_copy := goodIn_r _ [27, 15, 28, 29, 30, 31, 14, 32, 21, 33, 34, 35, 36, 22, 23, 37, 38, 39, 40, 41, 42, 43, 44, 5, 45, 16, 12, 13, 17, 18, 19, 10, 11, 20, 62, 63, 64, 65, 66, 67, 68, 69, 70, 71, 72] (by decide +kernel) (by decide +kernel)
set_option maxRecDepth 20000 in
theorem gX10_image_X4_copy : GoodIn wsX10_image (wsV RX10 375 RX4 yX4_copy wsX4_copy) := goodIn_app (goodIn_of _ (by decide +kernel)) ggX10_image_X4_copy
set_option maxRecDepth 20000 in
theorem ggX10_restore_X4_copy : GoodIn wsX10_restore wsX4_copy := goodIn_r _ [9, 10, 11, 12, 13, 14, 15, 16, 17, 18, 19, 20, 21, 22, 23, 24, 25, 26, 27, 28, 29, 30, 31, 8, 32, 33, 34, 35, 36, 37, 38, 39, 40, 41, 58, 59, 60, 61, 62, 63, 64, 65, 66, 67, 68] (by decide +kernel) (by decide +kernel)
set_option maxRecDepth 20000 in
theorem gX10_restore_X4_copy : GoodIn wsX10_restore (wsV RX10 375 RX4 yX4_copy wsX4_copy) := goodIn_app (goodIn_of _ (by decide +kernel)) ggX10_restore_X4_copy
set_option maxRecDepth 20000 in
theorem ggX10_beginText_X10_need : GoodIn wsX10_beginText wsX10_need := goodIn_ca (goodIn_r _ [7, 8, 9, 10, 33, 34, 35, 36, 37, 38, 39, 40, 41, 42, 43, 44, 45, 46, 47, 48] (by decide +kernel) (by decide +kernel)) (goodIn_sub (fun _ h => List.mem_cons_of_mem _ (List.mem_append_right _ h)) (by decide +kernel))
set_option maxRecDepth 20000 in
theorem gX10_beginText_X10_need : GoodIn wsX10_beginText (wsV RX10 223 RX10 yX10_need wsX10_need) := goodIn_app (goodIn_of _ (by decide +kernel)) ggX10_beginText_X10_need
set_option maxRecDepth 20000 in
theorem ggX10_beginText_X7_begin : GoodIn wsX10_beginText wsX7_begin := goodIn_r _ [15, 16, 17, 18, 19, 20, 21, 22, 14, 23, 24, 25, 26, 27, 28, 29, 30, 31, 32, 49, 50, 51, 52, 53, 54, 55, 56, 57] (by decide +kernel) (by decide +kernel)
set_option maxRecDepth 20000 in
theorem gX10_beginText_X7_begin : GoodIn wsX10_beginText (wsV RX10 379 RX7 yX7_begin wsX7_begin) := goodIn_app (goodIn_of _ (by decide +kernel)) ggX10_beginText_X7_begin
set_option maxRecDepth 20000 in
theorem ggX10_orderState_X6_cellOf : GoodIn wsX10_orderState wsX6_cellOf := goodIn_r _ [10, 11, 12, 13, 14, 61, 62, 63, 64, 65, 66, 67, 68, 69, 70, 71, 72, 73] (by decide +kernel) (by decide +kernel)
set_option maxRecDepth 20000 in
theorem gX10_orderState_X6_cellOf : GoodIn wsX10_orderState (wsV RX10 257 RX6 yX6_cellOf wsX6_cellOf) := goodIn_app (goodIn_of _ (by decide +kernel)) ggX10_orderState_X6_cellOf
set_option maxRecDepth 20000 in
theorem ggX10_orderState_X6_part : GoodIn wsX10_orderState wsX6_part := goodIn_r _ [18, 11, 61, 62, 63, 64, 65, 66, 67, 68, 69, 70, 71, 72, 73] (by decide +kernel) (by decide +kernel)
set_option maxRecDepth 20000 in
theorem gX10_orderState_X6_part : GoodIn wsX10_orderState (wsV RX10 254 RX6 yX6_part wsX6_part) := goodIn_app (goodIn_of _ (by decide +kernel)) ggX10_orderState_X6_part
set_option maxRecDepth 20000 in
theorem ggX10_orderState_X2_shown : GoodIn wsX10_orderState wsX2_shown := goodIn_r _ [23, 24, 25, 53, 54, 55, 56, 57, 58, 59, 60] (by decide +kernel) (by decide +kernel)
set_option maxRecDepth 20000 in
theorem gX10_orderState_X2_shown : GoodIn wsX10_orderState (wsV RX10 213 RX2 yX2_shown wsX2_shown) := goodIn_app (goodIn_of _ (by decide +kernel)) ggX10_orderState_X2_shown
set_option maxRecDepth 20000 in
theorem ggX10_orderState_X2_outsideOf : GoodIn wsX10_orderState wsX2_outsideOf := goodIn_r _ [29, 24, 30, 31, 32, 22, 33, 25, 53, 54, 55, 56, 57, 58, 59, 60] (by decide +kernel) (by decide +kernel)
set_option maxRecDepth 20000 in
theorem gX10_orderState_X2_outsideOf : GoodIn wsX10_orderState (wsV RX10 260 RX2 yX2_outsideOf wsX2_outsideOf) := goodIn_app (goodIn_of _ (by decide +kernel)) ggX10_orderState_X2_outsideOf
set_option maxRecDepth 20000 in
theorem ggX10_needWhat_X10_need : GoodIn wsX10_needWhat wsX10_need := goodIn_ca (goodIn_r _ [5, 6, 7, 8, 9, 10, 11, 12, 13, 14, 15, 16, 17, 18, 19, 20, 21, 22, 23, 24] (by decide +kernel) (by decide +kernel)) (goodIn_sub (fun _ h => List.mem_cons_of_mem _ (List.mem_append_right _ h)) (by decide +kernel))
set_option maxRecDepth 20000 in
theorem gX10_needWhat_X10_need : GoodIn wsX10_needWhat (wsV RX10 223 RX10 yX10_need wsX10_need) := goodIn_app (goodIn_of _ (by decide +kernel)) ggX10_needWhat_X10_need
set_option maxRecDepth 20000 in
theorem ggX10_needCells_X10_need : GoodIn wsX10_needCells wsX10_need := goodIn_ca (goodIn_r _ [7, 8, 9, 10, 11, 12, 13, 14, 15, 16, 17, 18, 19, 20, 21, 22, 23, 24, 25, 26] (by decide +kernel) (by decide +kernel)) (goodIn_sub (fun _ h => List.mem_cons_of_mem _ (List.mem_append_right _ h)) (by decide +kernel))
set_option maxRecDepth 20000 in
theorem gX10_needCells_X10_need : GoodIn wsX10_needCells (wsV RX10 223 RX10 yX10_need wsX10_need) := goodIn_app (goodIn_of _ (by decide +kernel)) ggX10_needCells_X10_need
set_option maxRecDepth 20000 in
theorem ggX10_needOrders_X10_need : GoodIn wsX10_needOrders wsX10_need := goodIn_ca (goodIn_r _ [7, 8, 9, 10, 11, 12, 13, 14, 15, 16, 17, 18, 19, 20, 21, 22, 23, 24, 25, 26] (by decide +kernel) (by decide +kernel)) (goodIn_sub (fun _ h => List.mem_cons_of_mem _ (List.mem_append_right _ h)) (by decide +kernel))
set_option maxRecDepth 20000 in
theorem gX10_needOrders_X10_need : GoodIn wsX10_needOrders (wsV RX10 223 RX10 yX10_need wsX10_need) := goodIn_app (goodIn_of _ (by decide +kernel)) ggX10_needOrders_X10_need
set_option maxRecDepth 20000 in
theorem ggX10_needDecade_X10_need : GoodIn wsX10_needDecade wsX10_need := goodIn_ca (goodIn_r _ [5, 6, 7, 8, 9, 10, 11, 12, 13, 14, 15, 16, 17, 18, 19, 20, 21, 22, 23, 24] (by decide +kernel) (by decide +kernel)) (goodIn_sub (fun _ h => List.mem_cons_of_mem _ (List.mem_append_right _ h)) (by decide +kernel))
set_option maxRecDepth 20000 in
theorem gX10_needDecade_X10_need : GoodIn wsX10_needDecade (wsV RX10 223 RX10 yX10_need wsX10_need) := goodIn_app (goodIn_of _ (by decide +kernel)) ggX10_needDecade_X10_need
set_option maxRecDepth 20000 in
theorem ggX10_needCell_X10_needPane : GoodIn wsX10_needCell wsX10_needPane := goodIn_ca (goodIn_r _ [11, 12, 13, 3, 14, 6, 18, 19, 20, 21, 22, 23, 24, 25, 26, 27, 28, 29, 30, 31, 32, 33, 34, 35, 36, 37, 38, 39, 40, 41, 42, 43, 44, 45, 46] (by decide +kernel) (by decide +kernel)) (goodIn_sub (fun _ h => List.mem_cons_of_mem _ (List.mem_append_right _ h)) (by decide +kernel))
set_option maxRecDepth 20000 in
theorem gX10_needCell_X10_needPane : GoodIn wsX10_needCell (wsV RX10 186 RX10 yX10_needPane wsX10_needPane) := goodIn_app (goodIn_of _ (by decide +kernel)) ggX10_needCell_X10_needPane
set_option maxRecDepth 20000 in
theorem ggX10_needCell_X10_cellAt : GoodIn wsX10_needCell wsX10_cellAt := goodIn_r _ [17] (by decide +kernel) (by decide +kernel)
set_option maxRecDepth 20000 in
theorem gX10_needCell_X10_cellAt : GoodIn wsX10_needCell (va_wsS RX10 394 yX10_cellAt wsX10_cellAt) := goodIn_app (goodIn_of _ (by decide +kernel)) ggX10_needCell_X10_cellAt
set_option maxRecDepth 20000 in
theorem ggX11_init_X11_tellsNothing : GoodIn wsX11_init wsX11_tellsNothing := goodIn_r _ [32, 8, 45, 46, 47, 48, 49, 50, 51, 52, 53, 54, 55, 56, 57, 58, 59, 60, 61, 62, 63, 64, 65, 66, 67, 68, 69, 70, 71, 72, 73, 74, 75, 76, 77, 78, 79, 80, 81, 82, 83, 84, 85, 86, 87, 88] (by decide +kernel) (by decide +kernel)
set_option maxRecDepth 20000 in
theorem gX11_init_X11_tellsNothing : GoodIn wsX11_init (wsV RX11 79 RX11 yX11_tellsNothing wsX11_tellsNothing) := goodIn_app (goodIn_of _ (by decide +kernel)) ggX11_init_X11_tellsNothing
set_option maxRecDepth 20000 in
theorem ggX11_init_X11_stands : GoodIn wsX11_init wsX11_stands := goodIn_r _ [36, 9, 8, 11, 12, 15, 16, 13, 14, 24, 37, 38, 39, 40, 41, 42, 43, 31, 44, 45, 46, 47, 48, 49, 50, 51, 52, 53, 54, 55, 56, 57, 58, 59, 60, 61, 62, 63, 64, 65, 66, 67, 68, 69, 70, 71, 72, 73, 74, 75, 76, 77, 78, 79, 80, 81, 82, 83, 84, 85, 86, 87, 88] (by decide +kernel) (by decide +kernel)
set_option maxRecDepth 20000 in
theorem gX11_init_X11_stands : GoodIn wsX11_init (wsV RX11 82 RX11 yX11_stands wsX11_stands) := goodIn_app (goodIn_of _ (by decide +kernel)) ggX11_init_X11_stands
set_option maxRecDepth 20000 in
theorem ggX11_blanks_X11_byteAt : GoodIn wsX11_blanks wsX11_byteAt := goodIn_r _ [6, 7, 8, 9, 10, 11, 12, 13, 14, 15, 16, 17, 18, 19, 20, 21, 22, 23, 24, 25, 26, 27, 28, 29, 30, 31, 32, 33, 34, 35, 36, 37, 38, 39, 40, 41, 42, 43, 44, 45, 46, 47, 48, 49, 50, 51, 52] (by decide +kernel) (by decide +kernel)
set_option maxRecDepth 20000 in
theorem gX11_blanks_X11_byteAt : GoodIn wsX11_blanks (wsV RX11 97 RX11 yX11_byteAt wsX11_byteAt) := goodIn_app (goodIn_of _ (by decide +kernel)) ggX11_blanks_X11_byteAt
set_option maxRecDepth 20000 in
theorem ggX11_number_X11_blanks : GoodIn wsX11_number wsX11_blanks := goodIn_r _ [8, 2, 9, 10, 11, 7, 12, 13, 14, 26, 27, 28, 29, 30, 31, 32, 33, 34, 35, 36, 37, 38, 39, 40, 41, 42, 43, 44, 45, 46, 47, 48, 49, 50, 51, 52, 53, 54, 55, 56, 57, 58, 59, 60, 61, 62, 63, 64, 65, 66, 67, 68, 69] (by decide +kernel) (by decide +kernel)
set_option maxRecDepth 20000 in
theorem gX11_number_X11_blanks : GoodIn wsX11_number (wsV RX11 107 RX11 yX11_blanks wsX11_blanks) := goodIn_app (goodIn_of _ (by decide +kernel)) ggX11_number_X11_blanks
set_option maxRecDepth 20000 in
theorem ggX11_number_X11_byteAt : GoodIn wsX11_number wsX11_byteAt := goodIn_r _ [12, 13, 14, 26, 27, 28, 29, 30, 31, 32, 33, 34, 35, 36, 37, 38, 39, 40, 41, 42, 43, 44, 45, 46, 47, 48, 49, 50, 51, 52, 53, 54, 55, 56, 57, 58, 59, 60, 61, 62, 63, 64, 65, 66, 67, 68, 69] (by decide +kernel) (by decide +kernel)
set_option maxRecDepth 20000 in
theorem gX11_number_X11_byteAt : GoodIn wsX11_number (wsV RX11 97 RX11 yX11_byteAt wsX11_byteAt) := goodIn_app (goodIn_of _ (by decide +kernel)) ggX11_number_X11_byteAt
set_option maxRecDepth 20000 in
theorem ggX11_number_X11_isDigit : GoodIn wsX11_number wsX11_isDigit := goodIn_r _ [17] (by decide +kernel) (by decide +kernel)
set_option maxRecDepth 20000 in
theorem gX11_number_X11_isDigit : GoodIn wsX11_number (va_wsS RX11 110 yX11_isDigit wsX11_isDigit) := goodIn_app (goodIn_of _ (by decide +kernel)) ggX11_number_X11_isDigit
set_option maxRecDepth 20000 in
theorem ggX11_number_X11_wrong : GoodIn wsX11_number wsX11_wrong := goodIn_r _ [21, 1, 22, 26, 27, 28, 29, 30, 31, 32, 33, 34, 35, 36, 37, 38, 39, 40, 41, 42, 43, 44, 45, 46, 47, 48, 49, 50, 51, 52, 53, 54, 55, 56, 57, 58, 59, 60, 61, 62, 63, 64, 65, 66, 67, 68, 69] (by decide +kernel) (by decide +kernel)
set_option maxRecDepth 20000 in
theorem gX11_number_X11_wrong : GoodIn wsX11_number (wsV RX11 114 RX11 yX11_wrong wsX11_wrong) := goodIn_app (goodIn_of _ (by decide +kernel)) ggX11_number_X11_wrong
set_option maxRecDepth 20000 in
theorem ggX11_number_X11_in : GoodIn wsX11_number wsX11_in := goodIn_r _ [25] (by decide +kernel) (by decide +kernel)
set_option maxRecDepth 20000 in
theorem gX11_number_X11_in : GoodIn wsX11_number (va_wsS RX11 119 yX11_in wsX11_in) := goodIn_app (goodIn_of _ (by decide +kernel)) ggX11_number_X11_in
set_option maxRecDepth 20000 in
theorem ggX11_wordHere_X11_blanks : GoodIn wsX11_wordHere wsX11_blanks := goodIn_r _ [6, 1, 7, 8, 9, 5, 10, 11, 12, 16, 17, 18, 19, 20, 21, 22, 23, 24, 25, 26, 27, 28, 29, 30, 31, 32, 33, 34, 35, 36, 37, 38, 39, 40, 41, 42, 43, 44, 45, 46, 47, 48, 49, 50, 51, 52, 53, 54, 55, 56, 57, 58, 59] (by decide +kernel) (by decide +kernel)
set_option maxRecDepth 20000 in
theorem gX11_wordHere_X11_blanks : GoodIn wsX11_wordHere (wsV RX11 107 RX11 yX11_blanks wsX11_blanks) := goodIn_app (goodIn_of _ (by decide +kernel)) ggX11_wordHere_X11_blanks
set_option maxRecDepth 20000 in
theorem ggX11_wordHere_X11_byteAt : GoodIn wsX11_wordHere wsX11_byteAt := goodIn_r _ [10, 11, 12, 16, 17, 18, 19, 20, 21, 22, 23, 24, 25, 26, 27, 28, 29, 30, 31, 32, 33, 34, 35, 36, 37, 38, 39, 40, 41, 42, 43, 44, 45, 46, 47, 48, 49, 50, 51, 52, 53, 54, 55, 56, 57, 58, 59] (by decide +kernel) (by decide +kernel)
set_option maxRecDepth 20000 in
theorem gX11_wordHere_X11_byteAt : GoodIn wsX11_wordHere (wsV RX11 97 RX11 yX11_byteAt wsX11_byteAt) := goodIn_app (goodIn_of _ (by decide +kernel)) ggX11_wordHere_X11_byteAt
set_option maxRecDepth 20000 in
theorem ggX11_wordHere_X11_isSmall : GoodIn wsX11_wordHere wsX11_isSmall := goodIn_r _ [15] (by decide +kernel) (by decide +kernel)
set_option maxRecDepth 20000 in
theorem gX11_wordHere_X11_isSmall : GoodIn wsX11_wordHere (va_wsS RX11 123 yX11_isSmall wsX11_isSmall) := goodIn_app (goodIn_of _ (by decide +kernel)) ggX11_wordHere_X11_isSmall
set_option maxRecDepth 20000 in
theorem ggX11_isWord_X11_wordHere : GoodIn wsX11_isWord wsX11_wordHere := goodIn_r _ [6, 7, 8, 9, 10, 5, 11, 12, 13, 14, 15, 16, 17, 18, 19, 20, 24, 25, 26, 27, 28, 29, 30, 31, 32, 33, 34, 35, 36, 37, 38, 39, 40, 41, 42, 43, 44, 45, 46, 47, 48, 49, 50, 51, 52, 53, 54, 55, 56, 57, 58, 59, 60, 61, 62, 63, 64, 65, 66, 67] (by decide +kernel) (by decide +kernel)
set_option maxRecDepth 20000 in
theorem gX11_isWord_X11_wordHere : GoodIn wsX11_isWord (wsV RX11 126 RX11 yX11_wordHere wsX11_wordHere) := goodIn_app (goodIn_of _ (by decide +kernel)) ggX11_isWord_X11_wordHere
set_option maxRecDepth 20000 in
theorem ggX11_isWord_X11_six : GoodIn wsX11_isWord wsX11_six := goodIn_r _ [23] (by decide +kernel) (by decide +kernel)
set_option maxRecDepth 20000 in
theorem gX11_isWord_X11_six : GoodIn wsX11_isWord (va_wsS RX11 130 yX11_six wsX11_six) := goodIn_app (goodIn_of _ (by decide +kernel)) ggX11_isWord_X11_six
set_option maxRecDepth 20000 in
theorem ggX11_skipWord_X11_byteAt : GoodIn wsX11_skipWord wsX11_byteAt := goodIn_r _ [6, 7, 8, 12, 13, 14, 15, 16, 17, 18, 19, 20, 21, 22, 23, 24, 25, 26, 27, 28, 29, 30, 31, 32, 33, 34, 35, 36, 37, 38, 39, 40, 41, 42, 43, 44, 45, 46, 47, 48, 49, 50, 51, 52, 53, 54, 55] (by decide +kernel) (by decide +kernel)
set_option maxRecDepth 20000 in
theorem gX11_skipWord_X11_byteAt : GoodIn wsX11_skipWord (wsV RX11 97 RX11 yX11_byteAt wsX11_byteAt) := goodIn_app (goodIn_of _ (by decide +kernel)) ggX11_skipWord_X11_byteAt
set_option maxRecDepth 20000 in
theorem ggX11_skipWord_X11_isSmall : GoodIn wsX11_skipWord wsX11_isSmall := goodIn_r _ [11] (by decide +kernel) (by decide +kernel)
set_option maxRecDepth 20000 in
theorem gX11_skipWord_X11_isSmall : GoodIn wsX11_skipWord (va_wsS RX11 123 yX11_isSmall wsX11_isSmall) := goodIn_app (goodIn_of _ (by decide +kernel)) ggX11_skipWord_X11_isSmall
set_option maxRecDepth 20000 in
theorem ggX11_takes_X11_isWord : GoodIn wsX11_takes wsX11_isWord := goodIn_r _ [5, 6, 7, 8, 9, 4, 10, 11, 12, 13, 14, 15, 16, 17, 18, 19, 20, 21, 22, 23, 24, 25, 26, 27, 32, 33, 34, 35, 36, 37, 38, 39, 40, 41, 42, 43, 44, 45, 46, 47, 48, 49, 50, 51, 52, 53, 54, 55, 56, 57, 58, 59, 60, 61, 62, 63, 64, 65, 66, 67, 68, 69, 70, 71, 72, 73, 74, 75] (by decide +kernel) (by decide +kernel)
set_option maxRecDepth 20000 in
theorem gX11_takes_X11_isWord : GoodIn wsX11_takes (wsV RX11 134 RX11 yX11_isWord wsX11_isWord) := goodIn_app (goodIn_of _ (by decide +kernel)) ggX11_takes_X11_isWord
set_option maxRecDepth 20000 in
theorem ggX11_takes_X11_skipWord : GoodIn wsX11_takes wsX11_skipWord := goodIn_r _ [31, 11, 16, 17, 18, 4, 19, 20, 21, 22, 23, 24, 32, 33, 34, 35, 36, 37, 38, 39, 40, 41, 42, 43, 44, 45, 46, 47, 48, 49, 50, 51, 52, 53, 54, 55, 56, 57, 58, 59, 60, 61, 62, 63, 64, 65, 66, 67, 68, 69, 70, 71, 72, 73, 74, 75] (by decide +kernel) (by decide +kernel)
set_option maxRecDepth 20000 in
theorem gX11_takes_X11_skipWord : GoodIn wsX11_takes (wsV RX11 138 RX11 yX11_skipWord wsX11_skipWord) := goodIn_app (goodIn_of _ (by decide +kernel)) ggX11_takes_X11_skipWord
set_option maxRecDepth 20000 in
theorem ggX11_sign_X11_blanks : GoodIn wsX11_sign wsX11_blanks := goodIn_r _ [7, 2, 8, 9, 10, 6, 11, 12, 13, 19, 20, 21, 22, 23, 24, 25, 26, 27, 28, 29, 30, 31, 32, 33, 34, 35, 36, 37, 38, 39, 40, 41, 42, 43, 44, 45, 46, 47, 48, 49, 50, 51, 52, 53, 54, 55, 56, 57, 58, 59, 60, 61, 62] (by decide +kernel) (by decide +kernel)
set_option maxRecDepth 20000 in
theorem gX11_sign_X11_blanks : GoodIn wsX11_sign (wsV RX11 107 RX11 yX11_blanks wsX11_blanks) := goodIn_app (goodIn_of _ (by decide +kernel)) ggX11_sign_X11_blanks
set_option maxRecDepth 20000 in
theorem ggX11_sign_X11_byteAt : GoodIn wsX11_sign wsX11_byteAt := goodIn_r _ [11, 12, 13, 19, 20, 21, 22, 23, 24, 25, 26, 27, 28, 29, 30, 31, 32, 33, 34, 35, 36, 37, 38, 39, 40, 41, 42, 43, 44, 45, 46, 47, 48, 49, 50, 51, 52, 53, 54, 55, 56, 57, 58, 59, 60, 61, 62] (by decide +kernel) (by decide +kernel)
set_option maxRecDepth 20000 in
theorem gX11_sign_X11_byteAt : GoodIn wsX11_sign (wsV RX11 97 RX11 yX11_byteAt wsX11_byteAt) := goodIn_app (goodIn_of _ (by decide +kernel)) ggX11_sign_X11_byteAt
set_option maxRecDepth 20000 in
theorem ggX11_sign_X11_wrong : GoodIn wsX11_sign wsX11_wrong := goodIn_r _ [17, 1, 18, 19, 20, 21, 22, 23, 24, 25, 26, 27, 28, 29, 30, 31, 32, 33, 34, 35, 36, 37, 38, 39, 40, 41, 42, 43, 44, 45, 46, 47, 48, 49, 50, 51, 52, 53, 54, 55, 56, 57, 58, 59, 60, 61, 62] (by decide +kernel) (by decide +kernel)
set_option maxRecDepth 20000 in
theorem gX11_sign_X11_wrong : GoodIn wsX11_sign (wsV RX11 114 RX11 yX11_wrong wsX11_wrong) := goodIn_app (goodIn_of _ (by decide +kernel)) ggX11_sign_X11_wrong
set_option maxRecDepth 20000 in
theorem ggX11_takesSign_X11_blanks : GoodIn wsX11_takesSign wsX11_blanks := goodIn_r _ [7, 2, 8, 9, 10, 6, 11, 12, 13, 14, 15, 16, 17, 18, 19, 20, 21, 22, 23, 24, 25, 26, 27, 28, 29, 30, 31, 32, 33, 34, 35, 36, 37, 38, 39, 40, 41, 42, 43, 44, 45, 46, 47, 48, 49, 50, 51, 52, 53, 54, 55, 56, 57] (by decide +kernel) (by decide +kernel)
set_option maxRecDepth 20000 in
theorem gX11_takesSign_X11_blanks : GoodIn wsX11_takesSign (wsV RX11 107 RX11 yX11_blanks wsX11_blanks) := goodIn_app (goodIn_of _ (by decide +kernel)) ggX11_takesSign_X11_blanks
set_option maxRecDepth 20000 in
theorem ggX11_takesSign_X11_byteAt : GoodIn wsX11_takesSign wsX11_byteAt := goodIn_r _ [11, 12, 13, 14, 15, 16, 17, 18, 19, 20, 21, 22, 23, 24, 25, 26, 27, 28, 29, 30, 31, 32, 33, 34, 35, 36, 37, 38, 39, 40, 41, 42, 43, 44, 45, 46, 47, 48, 49, 50, 51, 52, 53, 54, 55, 56, 57] (by decide +kernel) (by decide +kernel)
set_option maxRecDepth 20000 in
theorem gX11_takesSign_X11_byteAt : GoodIn wsX11_takesSign (wsV RX11 97 RX11 yX11_byteAt wsX11_byteAt) := goodIn_app (goodIn_of _ (by decide +kernel)) ggX11_takesSign_X11_byteAt
set_option maxRecDepth 20000 in
theorem ggX11_starts_X11_blanks : GoodIn wsX11_starts wsX11_blanks := goodIn_r _ [12, 3, 13, 14, 15, 11, 16, 2, 17, 18, 19, 20, 21, 22, 23, 24, 25, 26, 27, 28, 29, 30, 31, 32, 33, 34, 35, 36, 37, 38, 39, 40, 41, 42, 43, 44, 45, 46, 47, 48, 49, 50, 51, 52, 53, 54, 55, 56, 57, 58, 59, 60, 61] (by decide +kernel) (by decide +kernel)
set_option maxRecDepth 20000 in
theorem gX11_starts_X11_blanks : GoodIn wsX11_starts (wsV RX11 107 RX11 yX11_blanks wsX11_blanks) := goodIn_app (goodIn_of _ (by decide +kernel)) ggX11_starts_X11_blanks
set_option maxRecDepth 20000 in
theorem ggX11_kindHere_X11_isWord : GoodIn wsX11_kindHere wsX11_isWord := goodIn_r _ [5, 6, 7, 8, 9, 4, 10, 11, 12, 13, 14, 15, 16, 17, 18, 19, 20, 21, 22, 23, 24, 25, 26, 27, 28, 29, 30, 31, 32, 33, 34, 35, 36, 37, 38, 39, 40, 41, 42, 43, 44, 45, 46, 47, 48, 49, 50, 51, 52, 53, 54, 55, 56, 57, 58, 59, 60, 61, 62, 63, 64, 65, 66, 67, 68, 69, 70, 71] (by decide +kernel) (by decide +kernel)
set_option maxRecDepth 20000 in
theorem gX11_kindHere_X11_isWord : GoodIn wsX11_kindHere (wsV RX11 134 RX11 yX11_isWord wsX11_isWord) := goodIn_app (goodIn_of _ (by decide +kernel)) ggX11_kindHere_X11_isWord
set_option maxRecDepth 20000 in
theorem ggX11_clause_X11_kindHere : GoodIn wsX11_clause wsX11_kindHere := goodIn_r _ [12, 13, 14, 15, 11, 16, 4, 17, 18, 19, 20, 1, 21, 22, 23, 24, 25, 26, 27, 28, 29, 30, 31, 32, 33, 34, 35, 36, 61, 62, 63, 64, 65, 66, 67, 68, 69, 70, 71, 72, 73, 74, 75, 76, 77, 78, 79, 80, 81, 82, 83, 84, 85, 86, 87, 88, 89, 90, 91, 92, 93, 94, 95, 96, 97, 98, 99, 100, 101, 102, 103, 104] (by decide +kernel) (by decide +kernel)
set_option maxRecDepth 20000 in
theorem gX11_clause_X11_kindHere : GoodIn wsX11_clause (wsV RX11 147 RX11 yX11_kindHere wsX11_kindHere) := goodIn_app (goodIn_of _ (by decide +kernel)) ggX11_clause_X11_kindHere
set_option maxRecDepth 20000 in
theorem ggX11_clause_X11_wrong : GoodIn wsX11_clause wsX11_wrong := goodIn_r _ [40, 4, 41, 61, 62, 63, 64, 65, 66, 67, 68, 69, 70, 71, 72, 73, 74, 75, 76, 77, 78, 79, 80, 81, 82, 83, 84, 85, 86, 87, 88, 89, 90, 91, 92, 93, 94, 95, 96, 97, 98, 99, 100, 101, 102, 103, 104] (by decide +kernel) (by decide +kernel)
set_option maxRecDepth 20000 in
theorem gX11_clause_X11_wrong : GoodIn wsX11_clause (wsV RX11 114 RX11 yX11_wrong wsX11_wrong) := goodIn_app (goodIn_of _ (by decide +kernel)) ggX11_clause_X11_wrong
set_option maxRecDepth 20000 in
theorem ggX11_clause_X11_skipWord : GoodIn wsX11_clause wsX11_skipWord := goodIn_r _ [45, 1, 25, 26, 27, 11, 28, 29, 30, 31, 32, 33, 61, 62, 63, 64, 65, 66, 67, 68, 69, 70, 71, 72, 73, 74, 75, 76, 77, 78, 79, 80, 81, 82, 83, 84, 85, 86, 87, 88, 89, 90, 91, 92, 93, 94, 95, 96, 97, 98, 99, 100, 101, 102, 103, 104] (by decide +kernel) (by decide +kernel)
set_option maxRecDepth 20000 in
theorem gX11_clause_X11_skipWord : GoodIn wsX11_clause (wsV RX11 138 RX11 yX11_skipWord wsX11_skipWord) := goodIn_app (goodIn_of _ (by decide +kernel)) ggX11_clause_X11_skipWord
set_option maxRecDepth 20000 in
theorem ggX11_clause_X11_number : GoodIn wsX11_clause wsX11_number := goodIn_r _ [49, 4, 1, 50, 21, 22, 23, 11, 24, 25, 26, 27, 28, 29, 30, 51, 52, 53, 37, 38, 39, 40, 41, 54, 55, 56, 61, 62, 63, 64, 65, 66, 67, 68, 69, 70, 71, 72, 73, 74, 75, 76, 77, 78, 79, 80, 81, 82, 83, 84, 85, 86, 87, 88, 89, 90, 91, 92, 93, 94, 95, 96, 97, 98, 99, 100, 101, 102, 103, 104] (by decide +kernel) (by decide +kernel)
set_option maxRecDepth 20000 in
theorem gX11_clause_X11_number : GoodIn wsX11_clause (wsV RX11 150 RX11 yX11_number wsX11_number) := goodIn_app (goodIn_of _ (by decide +kernel)) ggX11_clause_X11_number
set_option maxRecDepth 20000 in
theorem ggX11_clause_X11_sign : GoodIn wsX11_clause wsX11_sign := goodIn_r _ [60, 4, 1, 21, 22, 23, 11, 24, 25, 26, 27, 28, 29, 30, 37, 38, 39, 40, 41, 61, 62, 63, 64, 65, 66, 67, 68, 69, 70, 71, 72, 73, 74, 75, 76, 77, 78, 79, 80, 81, 82, 83, 84, 85, 86, 87, 88, 89, 90, 91, 92, 93, 94, 95, 96, 97, 98, 99, 100, 101, 102, 103, 104] (by decide +kernel) (by decide +kernel)
set_option maxRecDepth 20000 in
theorem gX11_clause_X11_sign : GoodIn wsX11_clause (wsV RX11 154 RX11 yX11_sign wsX11_sign) := goodIn_app (goodIn_of _ (by decide +kernel)) ggX11_clause_X11_sign
set_option maxRecDepth 20000 in
theorem ggX11_street_X11_in : GoodIn wsX11_street wsX11_in := goodIn_r _ [11] (by decide +kernel) (by decide +kernel)
set_option maxRecDepth 20000 in
theorem gX11_street_X11_in : GoodIn wsX11_street (va_wsS RX11 119 yX11_in wsX11_in) := goodIn_app (goodIn_of _ (by decide +kernel)) ggX11_street_X11_in
set_option maxRecDepth 20000 in
theorem ggX11_street_X11_bad : GoodIn wsX11_street wsX11_bad := goodIn_r _ [15, 1, 16, 103, 104, 105, 106, 107, 108, 109, 110, 111, 112, 113, 114, 115, 116, 117, 118, 119, 120, 121, 122, 123, 124, 125, 126, 127, 128, 129, 130, 131, 132, 133, 134, 135, 136, 137, 138, 139, 140, 141, 142, 143, 144, 145, 146] (by decide +kernel) (by decide +kernel)
set_option maxRecDepth 20000 in
theorem gX11_street_X11_bad : GoodIn wsX11_street (wsV RX11 158 RX11 yX11_bad wsX11_bad) := goodIn_app (goodIn_of _ (by decide +kernel)) ggX11_street_X11_bad
set_option maxRecDepth 20000 in
theorem ggX11_street_X11_starts : GoodIn wsX11_street wsX11_starts := goodIn_r _ [20, 2, 5, 4, 3, 21, 22, 23, 24, 25, 26, 10, 27, 28, 29, 30, 31, 32, 103, 104, 105, 106, 107, 108, 109, 110, 111, 112, 113, 114, 115, 116, 117, 118, 119, 120, 121, 122, 123, 124, 125, 126, 127, 128, 129, 130, 131, 132, 133, 134, 135, 136, 137, 138, 139, 140, 141, 142, 143, 144, 145, 146] (by decide +kernel) (by decide +kernel)
set_option maxRecDepth 20000 in
theorem gX11_street_X11_starts : GoodIn wsX11_street (wsV RX11 162 RX11 yX11_starts wsX11_starts) := goodIn_app (goodIn_of _ (by decide +kernel)) ggX11_street_X11_starts
set_option maxRecDepth 20000 in
theorem ggX11_street_X11_tellsNothing : GoodIn wsX11_street wsX11_tellsNothing := goodIn_r _ [36, 37, 103, 104, 105, 106, 107, 108, 109, 110, 111, 112, 113, 114, 115, 116, 117, 118, 119, 120, 121, 122, 123, 124, 125, 126, 127, 128, 129, 130, 131, 132, 133, 134, 135, 136, 137, 138, 139, 140, 141, 142, 143, 144, 145, 146] (by decide +kernel) (by decide +kernel)
set_option maxRecDepth 20000 in
theorem gX11_street_X11_tellsNothing : GoodIn wsX11_street (wsV RX11 79 RX11 yX11_tellsNothing wsX11_tellsNothing) := goodIn_app (goodIn_of _ (by decide +kernel)) ggX11_street_X11_tellsNothing
set_option maxRecDepth 20000 in
theorem ggX11_street_X11_clause : GoodIn wsX11_street wsX11_clause := goodIn_r _ [41, 4, 22, 37, 3, 42, 43, 44, 45, 46, 47, 10, 48, 49, 50, 51, 52, 53, 54, 55, 56, 24, 25, 26, 27, 28, 29, 30, 31, 5, 32, 57, 58, 59, 60, 61, 62, 63, 64, 65, 66, 21, 67, 68, 69, 70, 71, 72, 73, 74, 75, 76, 77, 78, 8, 9, 11, 79, 80, 81, 82, 103, 104, 105, 106, 107, 108, 109, 110, 111, 112, 113, 114, 115, 116, 117, 118, 119, 120, 121, 122, 123, 124, 125, 126, 127, 128, 129, 130, 131, 132, 133, 134, 135, 136, 137, 138, 139, 140, 141, 142, 143, 144, 145, 146] (by decide +kernel) (by decide +kernel)
set_option maxRecDepth 20000 in
theorem gX11_street_X11_clause : GoodIn wsX11_street (wsV RX11 165 RX11 yX11_clause wsX11_clause) := goodIn_app (goodIn_of _ (by decide +kernel)) ggX11_street_X11_clause
set_option maxRecDepth 20000 in
theorem ggX11_street_X11_blanks : GoodIn wsX11_street wsX11_blanks := goodIn_r _ [27, 4, 28, 29, 30, 10, 31, 5, 32, 103, 104, 105, 106, 107, 108, 109, 110, 111, 112, 113, 114, 115, 116, 117, 118, 119, 120, 121, 122, 123, 124, 125, 126, 127, 128, 129, 130, 131, 132, 133, 134, 135, 136, 137, 138, 139, 140, 141, 142, 143, 144, 145, 146] (by decide +kernel) (by decide +kernel)
set_option maxRecDepth 20000 in
theorem gX11_street_X11_blanks : GoodIn wsX11_street (wsV RX11 107 RX11 yX11_blanks wsX11_blanks) := goodIn_app (goodIn_of _ (by decide +kernel)) ggX11_street_X11_blanks
set_option maxRecDepth 20000 in
theorem ggX11_street_X11_ends : GoodIn wsX11_street wsX11_ends := goodIn_r _ [86, 21, 6, 3, 103, 104, 105, 106, 107, 108, 109, 110, 111, 112, 113, 114, 115, 116, 117, 118, 119, 120, 121, 122, 123, 124, 125, 126, 127, 128, 129, 130, 131, 132, 133, 134, 135, 136, 137, 138, 139, 140, 141, 142, 143, 144, 145, 146] (by decide +kernel) (by decide +kernel)
set_option maxRecDepth 20000 in
theorem gX11_street_X11_ends : GoodIn wsX11_street (wsV RX11 168 RX11 yX11_ends wsX11_ends) := goodIn_app (goodIn_of _ (by decide +kernel)) ggX11_street_X11_ends
set_option maxRecDepth 20000 in
theorem ggX11_street_X11_stands : GoodIn wsX11_street wsX11_stands := goodIn_r _ [90, 7, 37, 42, 91, 43, 92, 44, 93, 94, 95, 96, 97, 98, 99, 100, 101, 10, 102, 103, 104, 105, 106, 107, 108, 109, 110, 111, 112, 113, 114, 115, 116, 117, 118, 119, 120, 121, 122, 123, 124, 125, 126, 127, 128, 129, 130, 131, 132, 133, 134, 135, 136, 137, 138, 139, 140, 141, 142, 143, 144, 145, 146] (by decide +kernel) (by decide +kernel)
set_option maxRecDepth 20000 in
theorem gX11_street_X11_stands : GoodIn wsX11_street (wsV RX11 82 RX11 yX11_stands wsX11_stands) := goodIn_app (goodIn_of _ (by decide +kernel)) ggX11_street_X11_stands
set_option maxRecDepth 20000 in
theorem ggX11_stands_X11_lays : GoodIn wsX11_stands wsX11_lays := goodIn_r _ [18] (by decide +kernel) (by decide +kernel)
set_option maxRecDepth 20000 in
theorem gX11_stands_X11_lays : GoodIn wsX11_stands (va_wsS RX11 171 yX11_lays wsX11_lays) := goodIn_app (goodIn_of _ (by decide +kernel)) ggX11_stands_X11_lays
set_option maxRecDepth 20000 in
theorem ggX11_opens_X11_wrong : GoodIn wsX11_opens wsX11_wrong := goodIn_r _ [8, 1, 9, 10, 11, 12, 13, 14, 15, 16, 17, 18, 19, 20, 21, 22, 23, 24, 25, 26, 27, 28, 29, 30, 31, 32, 33, 34, 35, 36, 37, 38, 39, 40, 41, 42, 43, 44, 45, 46, 47, 48, 49, 50, 51, 52, 53] (by decide +kernel) (by decide +kernel)
set_option maxRecDepth 20000 in
theorem gX11_opens_X11_wrong : GoodIn wsX11_opens (wsV RX11 114 RX11 yX11_wrong wsX11_wrong) := goodIn_app (goodIn_of _ (by decide +kernel)) ggX11_opens_X11_wrong
set_option maxRecDepth 20000 in
theorem ggX11_sum_X11_product : GoodIn wsX11_sum wsX11_product := goodIn_r _ [82, 1, 83, 84, 85, 5, 6, 7, 8, 9, 10, 11, 12, 13, 14, 15, 16, 17, 18, 19, 20, 21, 22, 23, 24, 25, 26, 27, 28, 29, 30, 31, 32, 33, 34, 35, 36, 37, 38, 39, 40, 41, 42, 43, 44, 45, 46, 47, 48, 49, 50, 51, 52, 53, 54, 55, 56, 57, 58, 59, 60, 61, 62, 63, 64, 65, 66, 67, 68, 69, 70, 71, 72, 73, 74, 75, 76, 77, 78, 79, 80, 81, 0, 2, 3, 4, 86, 87, 88, 89, 90, 91, 92, 93, 94, 95, 96, 97, 98, 99, 100, 101, 102, 103, 104, 105, 106, 107, 108, 109, 110, 111, 112, 113, 114, 115, 116, 117, 118, 119, 120, 121, 122, 123, 124, 125, 126, 127, 128, 129] (by decide +kernel) (by decide +kernel)
set_option maxRecDepth 20000 in
theorem gX11_sum_X11_product : GoodIn wsX11_sum (wsV RX11 193 RX11 yX11_product wsX11_product) := goodIn_app (goodIn_of _ (by decide +kernel)) ggX11_sum_X11_product
set_option maxRecDepth 20000 in
theorem ggX11_sum_X11_takesSign : GoodIn wsX11_sum wsX11_takesSign := goodIn_r _ [9, 1, 10, 11, 12, 13, 5, 14, 15, 16, 17, 18, 19, 20, 86, 87, 88, 89, 90, 91, 92, 93, 94, 95, 96, 97, 98, 99, 100, 101, 102, 103, 104, 105, 106, 107, 108, 109, 110, 111, 112, 113, 114, 115, 116, 117, 118, 119, 120, 121, 122, 123, 124, 125, 126, 127, 128, 129] (by decide +kernel) (by decide +kernel)
set_option maxRecDepth 20000 in
theorem gX11_sum_X11_takesSign : GoodIn wsX11_sum (wsV RX11 196 RX11 yX11_takesSign wsX11_takesSign) := goodIn_app (goodIn_of _ (by decide +kernel)) ggX11_sum_X11_takesSign
set_option maxRecDepth 20000 in
theorem ggX11_sum_X11_notes : GoodIn wsX11_sum wsX11_notes := goodIn_r _ [24, 1, 25, 26, 86, 87, 88, 89, 90, 91, 92, 93, 94, 95, 96, 97, 98, 99, 100, 101, 102, 103, 104, 105, 106, 107, 108, 109, 110, 111, 112, 113, 114, 115, 116, 117, 118, 119, 120, 121, 122, 123, 124, 125, 126, 127, 128, 129] (by decide +kernel) (by decide +kernel)
set_option maxRecDepth 20000 in
theorem gX11_sum_X11_notes : GoodIn wsX11_sum (wsV RX11 199 RX11 yX11_notes wsX11_notes) := goodIn_app (goodIn_of _ (by decide +kernel)) ggX11_sum_X11_notes
set_option maxRecDepth 20000 in
theorem ggX11_product_X11_one : GoodIn wsX11_product wsX11_one := goodIn_r _ [27, 1, 28, 10, 11, 12, 13, 5, 14, 15, 16, 17, 18, 19, 20, 29, 30, 31, 32, 33, 34, 35, 36, 37, 38, 39, 40, 41, 42, 43, 44, 45, 46, 47, 48, 49, 50, 51, 52, 53, 54, 55, 56, 57, 58, 59, 60, 61, 62, 21, 22, 23, 24, 25, 26, 63, 64, 65, 66, 67, 68, 69, 70, 71, 72, 73, 74, 75, 76, 77, 78, 79, 80, 81, 0, 2, 3, 4, 6, 7, 8, 9, 82, 83, 84, 85, 86, 87, 88, 89, 90, 91, 92, 93, 94, 95, 96, 97, 98, 99, 100, 101, 102, 103, 104, 105, 106, 107, 108, 109, 110, 111, 112, 113, 114, 115, 116, 117, 118, 119, 120, 121, 122, 123, 124, 125, 126, 127, 128, 129] (by decide +kernel) (by decide +kernel)
set_option maxRecDepth 20000 in
theorem gX11_product_X11_one : GoodIn wsX11_product (wsV RX11 202 RX11 yX11_one wsX11_one) := goodIn_app (goodIn_of _ (by decide +kernel)) ggX11_product_X11_one
set_option maxRecDepth 20000 in
theorem ggX11_product_X11_takesSign : GoodIn wsX11_product wsX11_takesSign := goodIn_r _ [9, 1, 10, 11, 12, 13, 5, 14, 15, 16, 17, 18, 19, 20, 86, 87, 88, 89, 90, 91, 92, 93, 94, 95, 96, 97, 98, 99, 100, 101, 102, 103, 104, 105, 106, 107, 108, 109, 110, 111, 112, 113, 114, 115, 116, 117, 118, 119, 120, 121, 122, 123, 124, 125, 126, 127, 128, 129] (by decide +kernel) (by decide +kernel)
set_option maxRecDepth 20000 in
theorem gX11_product_X11_takesSign : GoodIn wsX11_product (wsV RX11 196 RX11 yX11_takesSign wsX11_takesSign) := goodIn_app (goodIn_of _ (by decide +kernel)) ggX11_product_X11_takesSign
set_option maxRecDepth 20000 in
theorem ggX11_product_X11_notes : GoodIn wsX11_product wsX11_notes := goodIn_r _ [24, 1, 25, 26, 86, 87, 88, 89, 90, 91, 92, 93, 94, 95, 96, 97, 98, 99, 100, 101, 102, 103, 104, 105, 106, 107, 108, 109, 110, 111, 112, 113, 114, 115, 116, 117, 118, 119, 120, 121, 122, 123, 124, 125, 126, 127, 128, 129] (by decide +kernel) (by decide +kernel)
set_option maxRecDepth 20000 in
theorem gX11_product_X11_notes : GoodIn wsX11_product (wsV RX11 199 RX11 yX11_notes wsX11_notes) := goodIn_app (goodIn_of _ (by decide +kernel)) ggX11_product_X11_notes
set_option maxRecDepth 20000 in
theorem ggX11_knownHere_X11_takes : GoodIn wsX11_knownHere wsX11_takes := goodIn_r _ [5, 6, 7, 8, 4, 9, 10, 11, 12, 13, 14, 15, 16, 17, 18, 19, 20, 21, 22, 23, 24, 25, 26, 27, 28, 29, 30, 31, 32, 33, 34, 35, 36, 37, 38, 39, 40, 41, 42, 43, 44, 45, 46, 47, 48, 49, 50, 51, 52, 53, 54, 55, 56, 57, 58, 59, 60, 61, 62, 63, 64, 65, 66, 67, 68, 69, 70, 71, 72, 73, 74, 75, 76, 77, 78, 79] (by decide +kernel) (by decide +kernel)
set_option maxRecDepth 20000 in
theorem gX11_knownHere_X11_takes : GoodIn wsX11_knownHere (wsV RX11 205 RX11 yX11_takes wsX11_takes) := goodIn_app (goodIn_of _ (by decide +kernel)) ggX11_knownHere_X11_takes
set_option maxRecDepth 20000 in
theorem ggX11_one_X11_blanks : GoodIn wsX11_one wsX11_blanks := goodIn_r _ [8, 3, 9, 10, 11, 7, 12, 13, 14, 86, 87, 88, 89, 90, 91, 92, 93, 94, 95, 96, 97, 98, 99, 100, 101, 102, 103, 104, 105, 106, 107, 108, 109, 110, 111, 112, 113, 114, 115, 116, 117, 118, 119, 120, 121, 122, 123, 124, 125, 126, 127, 128, 129] (by decide +kernel) (by decide +kernel)
set_option maxRecDepth 20000 in
theorem gX11_one_X11_blanks : GoodIn wsX11_one (wsV RX11 107 RX11 yX11_blanks wsX11_blanks) := goodIn_app (goodIn_of _ (by decide +kernel)) ggX11_one_X11_blanks
set_option maxRecDepth 20000 in
theorem ggX11_one_X11_isWord : GoodIn wsX11_one wsX11_isWord := goodIn_r _ [18, 1, 19, 20, 21, 7, 22, 3, 4, 5, 6, 8, 9, 10, 11, 12, 13, 14, 23, 24, 25, 26, 27, 28, 86, 87, 88, 89, 90, 91, 92, 93, 94, 95, 96, 97, 98, 99, 100, 101, 102, 103, 104, 105, 106, 107, 108, 109, 110, 111, 112, 113, 114, 115, 116, 117, 118, 119, 120, 121, 122, 123, 124, 125, 126, 127, 128, 129] (by decide +kernel) (by decide +kernel)
set_option maxRecDepth 20000 in
theorem gX11_one_X11_isWord : GoodIn wsX11_one (wsV RX11 134 RX11 yX11_isWord wsX11_isWord) := goodIn_app (goodIn_of _ (by decide +kernel)) ggX11_one_X11_isWord
set_option maxRecDepth 20000 in
theorem ggX11_one_X11_opens : GoodIn wsX11_one wsX11_opens := goodIn_r _ [32, 1, 2, 3, 33, 34, 35, 7, 36, 37, 86, 87, 88, 89, 90, 91, 92, 93, 94, 95, 96, 97, 98, 99, 100, 101, 102, 103, 104, 105, 106, 107, 108, 109, 110, 111, 112, 113, 114, 115, 116, 117, 118, 119, 120, 121, 122, 123, 124, 125, 126, 127, 128, 129] (by decide +kernel) (by decide +kernel)
set_option maxRecDepth 20000 in
theorem gX11_one_X11_opens : GoodIn wsX11_one (wsV RX11 208 RX11 yX11_opens wsX11_opens) := goodIn_app (goodIn_of _ (by decide +kernel)) ggX11_one_X11_opens
set_option maxRecDepth 20000 in
theorem ggX11_one_X11_skipWord : GoodIn wsX11_one wsX11_skipWord := goodIn_r _ [41, 3, 9, 10, 11, 7, 12, 13, 14, 23, 24, 25, 86, 87, 88, 89, 90, 91, 92, 93, 94, 95, 96, 97, 98, 99, 100, 101, 102, 103, 104, 105, 106, 107, 108, 109, 110, 111, 112, 113, 114, 115, 116, 117, 118, 119, 120, 121, 122, 123, 124, 125, 126, 127, 128, 129] (by decide +kernel) (by decide +kernel)
set_option maxRecDepth 20000 in
theorem gX11_one_X11_skipWord : GoodIn wsX11_one (wsV RX11 138 RX11 yX11_skipWord wsX11_skipWord) := goodIn_app (goodIn_of _ (by decide +kernel)) ggX11_one_X11_skipWord
set_option maxRecDepth 20000 in
theorem ggX11_one_X11_sign : GoodIn wsX11_one wsX11_sign := goodIn_r _ [45, 1, 3, 4, 5, 6, 7, 8, 9, 10, 11, 12, 13, 14, 33, 34, 35, 36, 37, 86, 87, 88, 89, 90, 91, 92, 93, 94, 95, 96, 97, 98, 99, 100, 101, 102, 103, 104, 105, 106, 107, 108, 109, 110, 111, 112, 113, 114, 115, 116, 117, 118, 119, 120, 121, 122, 123, 124, 125, 126, 127, 128, 129] (by decide +kernel) (by decide +kernel)
set_option maxRecDepth 20000 in
theorem gX11_one_X11_sign : GoodIn wsX11_one (wsV RX11 154 RX11 yX11_sign wsX11_sign) := goodIn_app (goodIn_of _ (by decide +kernel)) ggX11_one_X11_sign
set_option maxRecDepth 20000 in
theorem ggX11_one_X11_sum : GoodIn wsX11_one wsX11_sum := goodIn_r _ [82, 1, 83, 84, 85, 7, 78, 79, 80, 81, 3, 4, 5, 6, 8, 9, 10, 11, 12, 13, 14, 49, 50, 51, 52, 53, 54, 0, 2, 15, 16, 17, 18, 19, 20, 21, 22, 23, 24, 25, 26, 27, 28, 29, 30, 31, 32, 33, 34, 35, 36, 37, 38, 39, 40, 41, 42, 43, 44, 45, 46, 47, 48, 55, 56, 57, 58, 59, 60, 61, 62, 63, 64, 65, 66, 67, 68, 69, 70, 71, 72, 73, 74, 75, 76, 77, 86, 87, 88, 89, 90, 91, 92, 93, 94, 95, 96, 97, 98, 99, 100, 101, 102, 103, 104, 105, 106, 107, 108, 109, 110, 111, 112, 113, 114, 115, 116, 117, 118, 119, 120, 121, 122, 123, 124, 125, 126, 127, 128, 129] (by decide +kernel) (by decide +kernel)
set_option maxRecDepth 20000 in
theorem gX11_one_X11_sum : GoodIn wsX11_one (wsV RX11 212 RX11 yX11_sum wsX11_sum) := goodIn_app (goodIn_of _ (by decide +kernel)) ggX11_one_X11_sum
set_option maxRecDepth 20000 in
theorem ggX11_one_X11_notes : GoodIn wsX11_one wsX11_notes := goodIn_r _ [52, 1, 53, 54, 86, 87, 88, 89, 90, 91, 92, 93, 94, 95, 96, 97, 98, 99, 100, 101, 102, 103, 104, 105, 106, 107, 108, 109, 110, 111, 112, 113, 114, 115, 116, 117, 118, 119, 120, 121, 122, 123, 124, 125, 126, 127, 128, 129] (by decide +kernel) (by decide +kernel)
set_option maxRecDepth 20000 in
theorem gX11_one_X11_notes : GoodIn wsX11_one (wsV RX11 199 RX11 yX11_notes wsX11_notes) := goodIn_app (goodIn_of _ (by decide +kernel)) ggX11_one_X11_notes
set_option maxRecDepth 20000 in
theorem ggX11_one_X11_byteAt : GoodIn wsX11_one wsX11_byteAt := goodIn_r _ [12, 13, 14, 86, 87, 88, 89, 90, 91, 92, 93, 94, 95, 96, 97, 98, 99, 100, 101, 102, 103, 104, 105, 106, 107, 108, 109, 110, 111, 112, 113, 114, 115, 116, 117, 118, 119, 120, 121, 122, 123, 124, 125, 126, 127, 128, 129] (by decide +kernel) (by decide +kernel)
set_option maxRecDepth 20000 in
theorem gX11_one_X11_byteAt : GoodIn wsX11_one (wsV RX11 97 RX11 yX11_byteAt wsX11_byteAt) := goodIn_app (goodIn_of _ (by decide +kernel)) ggX11_one_X11_byteAt
set_option maxRecDepth 20000 in
theorem ggX11_one_X11_knownHere : GoodIn wsX11_one wsX11_knownHere := goodIn_r _ [58, 59, 60, 61, 7, 62, 15, 16, 17, 18, 1, 19, 20, 21, 22, 3, 4, 5, 6, 8, 9, 10, 11, 12, 13, 14, 23, 24, 25, 26, 27, 28, 38, 39, 40, 41, 86, 87, 88, 89, 90, 91, 92, 93, 94, 95, 96, 97, 98, 99, 100, 101, 102, 103, 104, 105, 106, 107, 108, 109, 110, 111, 112, 113, 114, 115, 116, 117, 118, 119, 120, 121, 122, 123, 124, 125, 126, 127, 128, 129] (by decide +kernel) (by decide +kernel)
set_option maxRecDepth 20000 in
theorem gX11_one_X11_knownHere : GoodIn wsX11_one (wsV RX11 215 RX11 yX11_knownHere wsX11_knownHere) := goodIn_app (goodIn_of _ (by decide +kernel)) ggX11_one_X11_knownHere
set_option maxRecDepth 20000 in
theorem ggX11_one_X11_number : GoodIn wsX11_one wsX11_number := goodIn_r _ [66, 1, 3, 67, 4, 5, 6, 7, 8, 9, 10, 11, 12, 13, 14, 68, 69, 70, 33, 34, 35, 36, 37, 71, 72, 73, 86, 87, 88, 89, 90, 91, 92, 93, 94, 95, 96, 97, 98, 99, 100, 101, 102, 103, 104, 105, 106, 107, 108, 109, 110, 111, 112, 113, 114, 115, 116, 117, 118, 119, 120, 121, 122, 123, 124, 125, 126, 127, 128, 129] (by decide +kernel) (by decide +kernel)
set_option maxRecDepth 20000 in
theorem gX11_one_X11_number : GoodIn wsX11_one (wsV RX11 150 RX11 yX11_number wsX11_number) := goodIn_app (goodIn_of _ (by decide +kernel)) ggX11_one_X11_number
set_option maxRecDepth 20000 in
theorem ggX11_law_X11_in : GoodIn wsX11_law wsX11_in := goodIn_r _ [14] (by decide +kernel) (by decide +kernel)
set_option maxRecDepth 20000 in
theorem gX11_law_X11_in : GoodIn wsX11_law (va_wsS RX11 119 yX11_in wsX11_in) := goodIn_app (goodIn_of _ (by decide +kernel)) ggX11_law_X11_in
set_option maxRecDepth 20000 in
theorem ggX11_law_X11_bad : GoodIn wsX11_law wsX11_bad := goodIn_r _ [18, 1, 19, 109, 110, 111, 112, 113, 114, 115, 116, 117, 118, 119, 120, 121, 122, 123, 124, 125, 126, 127, 128, 129, 130, 131, 132, 133, 134, 135, 136, 137, 138, 139, 140, 141, 142, 143, 144, 145, 146, 147, 148, 149, 150, 151, 152] (by decide +kernel) (by decide +kernel)
set_option maxRecDepth 20000 in
theorem gX11_law_X11_bad : GoodIn wsX11_law (wsV RX11 158 RX11 yX11_bad wsX11_bad) := goodIn_app (goodIn_of _ (by decide +kernel)) ggX11_law_X11_bad
set_option maxRecDepth 20000 in
theorem ggX11_law_X11_starts : GoodIn wsX11_law wsX11_starts := goodIn_r _ [23, 2, 6, 5, 4, 24, 25, 26, 27, 28, 29, 13, 30, 31, 32, 33, 34, 35, 109, 110, 111, 112, 113, 114, 115, 116, 117, 118, 119, 120, 121, 122, 123, 124, 125, 126, 127, 128, 129, 130, 131, 132, 133, 134, 135, 136, 137, 138, 139, 140, 141, 142, 143, 144, 145, 146, 147, 148, 149, 150, 151, 152] (by decide +kernel) (by decide +kernel)
set_option maxRecDepth 20000 in
theorem gX11_law_X11_starts : GoodIn wsX11_law (wsV RX11 162 RX11 yX11_starts wsX11_starts) := goodIn_app (goodIn_of _ (by decide +kernel)) ggX11_law_X11_starts
set_option maxRecDepth 20000 in
theorem ggX11_law_X11_sum : GoodIn wsX11_law wsX11_sum := goodIn_r _ [39, 4, 40, 41, 42, 13, 43, 44, 45, 46, 5, 27, 28, 29, 30, 31, 32, 33, 34, 6, 35, 47, 48, 49, 50, 9, 3, 51, 26, 52, 53, 54, 55, 56, 57, 58, 59, 60, 61, 62, 63, 64, 65, 66, 67, 68, 69, 70, 71, 72, 73, 24, 74, 75, 76, 77, 78, 79, 80, 81, 36, 37, 38, 82, 83, 84, 85, 86, 87, 88, 89, 90, 91, 92, 93, 94, 95, 96, 97, 11, 12, 14, 98, 99, 100, 101, 109, 110, 111, 112, 113, 114, 115, 116, 117, 118, 119, 120, 121, 122, 123, 124, 125, 126, 127, 128, 129, 130, 131, 132, 133, 134, 135, 136, 137, 138, 139, 140, 141, 142, 143, 144, 145, 146, 147, 148, 149, 150, 151, 152] (by decide +kernel) (by decide +kernel)
set_option maxRecDepth 20000 in
theorem gX11_law_X11_sum : GoodIn wsX11_law (wsV RX11 212 RX11 yX11_sum wsX11_sum) := goodIn_app (goodIn_of _ (by decide +kernel)) ggX11_law_X11_sum
set_option maxRecDepth 20000 in
theorem ggX11_law_X11_blanks : GoodIn wsX11_law wsX11_blanks := goodIn_r _ [30, 5, 31, 32, 33, 13, 34, 6, 35, 109, 110, 111, 112, 113, 114, 115, 116, 117, 118, 119, 120, 121, 122, 123, 124, 125, 126, 127, 128, 129, 130, 131, 132, 133, 134, 135, 136, 137, 138, 139, 140, 141, 142, 143, 144, 145, 146, 147, 148, 149, 150, 151, 152] (by decide +kernel) (by decide +kernel)
set_option maxRecDepth 20000 in
theorem gX11_law_X11_blanks : GoodIn wsX11_law (wsV RX11 107 RX11 yX11_blanks wsX11_blanks) := goodIn_app (goodIn_of _ (by decide +kernel)) ggX11_law_X11_blanks
set_option maxRecDepth 20000 in
theorem ggX11_law_X11_wrong : GoodIn wsX11_law wsX11_wrong := goodIn_r _ [73, 4, 24, 109, 110, 111, 112, 113, 114, 115, 116, 117, 118, 119, 120, 121, 122, 123, 124, 125, 126, 127, 128, 129, 130, 131, 132, 133, 134, 135, 136, 137, 138, 139, 140, 141, 142, 143, 144, 145, 146, 147, 148, 149, 150, 151, 152] (by decide +kernel) (by decide +kernel)
set_option maxRecDepth 20000 in
theorem gX11_law_X11_wrong : GoodIn wsX11_law (wsV RX11 114 RX11 yX11_wrong wsX11_wrong) := goodIn_app (goodIn_of _ (by decide +kernel)) ggX11_law_X11_wrong
set_option maxRecDepth 20000 in
theorem ggX11_law_X11_ends : GoodIn wsX11_law wsX11_ends := goodIn_r _ [105, 24, 7, 4, 109, 110, 111, 112, 113, 114, 115, 116, 117, 118, 119, 120, 121, 122, 123, 124, 125, 126, 127, 128, 129, 130, 131, 132, 133, 134, 135, 136, 137, 138, 139, 140, 141, 142, 143, 144, 145, 146, 147, 148, 149, 150, 151, 152] (by decide +kernel) (by decide +kernel)
set_option maxRecDepth 20000 in
theorem gX11_law_X11_ends : GoodIn wsX11_law (wsV RX11 168 RX11 yX11_ends wsX11_ends) := goodIn_app (goodIn_of _ (by decide +kernel)) ggX11_law_X11_ends
set_option maxRecDepth 20000 in
theorem ggX11_law_X11_lays : GoodIn wsX11_law wsX11_lays := goodIn_r _ [108] (by decide +kernel) (by decide +kernel)
set_option maxRecDepth 20000 in
theorem gX11_law_X11_lays : GoodIn wsX11_law (va_wsS RX11 171 yX11_lays wsX11_lays) := goodIn_app (goodIn_of _ (by decide +kernel)) ggX11_law_X11_lays
set_option maxRecDepth 20000 in
theorem ggX11_worked_X11_less : GoodIn wsX11_worked wsX11_less := goodIn_r _ [4] (by decide +kernel) (by decide +kernel)
set_option maxRecDepth 20000 in
theorem gX11_worked_X11_less : GoodIn wsX11_worked (va_wsS RX11 218 yX11_less wsX11_less) := goodIn_app (goodIn_of _ (by decide +kernel)) ggX11_worked_X11_less
set_option maxRecDepth 20000 in
theorem ggX11_worked_X11_more : GoodIn wsX11_worked wsX11_more := goodIn_r _ [7] (by decide +kernel) (by decide +kernel)
set_option maxRecDepth 20000 in
theorem gX11_worked_X11_more : GoodIn wsX11_worked (va_wsS RX11 221 yX11_more wsX11_more) := goodIn_app (goodIn_of _ (by decide +kernel)) ggX11_worked_X11_more
set_option maxRecDepth 20000 in
theorem ggX11_byLaw_X11_worked : GoodIn wsX11_byLaw wsX11_worked := goodIn_r _ [8, 9, 10, 7, 11, 12, 13, 14] (by decide +kernel) (by decide +kernel)
set_option maxRecDepth 20000 in
theorem gX11_byLaw_X11_worked : GoodIn wsX11_byLaw (va_wsS RX11 224 yX11_worked wsX11_worked) := goodIn_app (goodIn_of _ (by decide +kernel)) ggX11_byLaw_X11_worked
set_option maxRecDepth 20000 in
theorem ggX11_stepHere_X11_isWord : GoodIn wsX11_stepHere wsX11_isWord := goodIn_r _ [5, 6, 7, 8, 9, 4, 10, 11, 12, 13, 14, 15, 16, 17, 18, 19, 20, 21, 22, 23, 24, 25, 26, 27, 28, 29, 30, 31, 32, 33, 34, 35, 36, 37, 38, 39, 40, 41, 42, 43, 44, 45, 46, 47, 48, 49, 50, 51, 52, 53, 54, 55, 56, 57, 58, 59, 60, 61, 62, 63, 64, 65, 66, 67, 68, 69, 70, 71] (by decide +kernel) (by decide +kernel)
set_option maxRecDepth 20000 in
theorem gX11_stepHere_X11_isWord : GoodIn wsX11_stepHere (wsV RX11 134 RX11 yX11_isWord wsX11_isWord) := goodIn_app (goodIn_of _ (by decide +kernel)) ggX11_stepHere_X11_isWord
set_option maxRecDepth 20000 in
theorem ggX11_readsStep_X11_stepHere : GoodIn wsX11_readsStep wsX11_stepHere := goodIn_r _ [12, 13, 14, 15, 11, 16, 2, 17, 18, 19, 20, 1, 21, 22, 23, 24, 25, 26, 27, 28, 29, 30, 31, 32, 33, 34, 35, 36, 68, 69, 70, 71, 72, 73, 74, 75, 76, 77, 78, 79, 80, 81, 82, 83, 84, 85, 86, 87, 88, 89, 90, 91, 92, 93, 94, 95, 96, 97, 98, 99, 100, 101, 102, 103, 104, 105, 106, 107, 108, 109, 110, 111] (by decide +kernel) (by decide +kernel)
set_option maxRecDepth 20000 in
theorem gX11_readsStep_X11_stepHere : GoodIn wsX11_readsStep (wsV RX11 228 RX11 yX11_stepHere wsX11_stepHere) := goodIn_app (goodIn_of _ (by decide +kernel)) ggX11_readsStep_X11_stepHere
set_option maxRecDepth 20000 in
theorem ggX11_readsStep_X11_wrong : GoodIn wsX11_readsStep wsX11_wrong := goodIn_r _ [40, 2, 41, 68, 69, 70, 71, 72, 73, 74, 75, 76, 77, 78, 79, 80, 81, 82, 83, 84, 85, 86, 87, 88, 89, 90, 91, 92, 93, 94, 95, 96, 97, 98, 99, 100, 101, 102, 103, 104, 105, 106, 107, 108, 109, 110, 111] (by decide +kernel) (by decide +kernel)
set_option maxRecDepth 20000 in
theorem gX11_readsStep_X11_wrong : GoodIn wsX11_readsStep (wsV RX11 114 RX11 yX11_wrong wsX11_wrong) := goodIn_app (goodIn_of _ (by decide +kernel)) ggX11_readsStep_X11_wrong
set_option maxRecDepth 20000 in
theorem ggX11_readsStep_X11_opens : GoodIn wsX11_readsStep wsX11_opens := goodIn_r _ [45, 2, 7, 1, 37, 38, 39, 11, 40, 41, 68, 69, 70, 71, 72, 73, 74, 75, 76, 77, 78, 79, 80, 81, 82, 83, 84, 85, 86, 87, 88, 89, 90, 91, 92, 93, 94, 95, 96, 97, 98, 99, 100, 101, 102, 103, 104, 105, 106, 107, 108, 109, 110, 111] (by decide +kernel) (by decide +kernel)
set_option maxRecDepth 20000 in
theorem gX11_readsStep_X11_opens : GoodIn wsX11_readsStep (wsV RX11 208 RX11 yX11_opens wsX11_opens) := goodIn_app (goodIn_of _ (by decide +kernel)) ggX11_readsStep_X11_opens
set_option maxRecDepth 20000 in
theorem ggX11_readsStep_X11_skipWord : GoodIn wsX11_readsStep wsX11_skipWord := goodIn_r _ [49, 1, 25, 26, 27, 11, 28, 29, 30, 31, 32, 33, 68, 69, 70, 71, 72, 73, 74, 75, 76, 77, 78, 79, 80, 81, 82, 83, 84, 85, 86, 87, 88, 89, 90, 91, 92, 93, 94, 95, 96, 97, 98, 99, 100, 101, 102, 103, 104, 105, 106, 107, 108, 109, 110, 111] (by decide +kernel) (by decide +kernel)
set_option maxRecDepth 20000 in
theorem gX11_readsStep_X11_skipWord : GoodIn wsX11_readsStep (wsV RX11 138 RX11 yX11_skipWord wsX11_skipWord) := goodIn_app (goodIn_of _ (by decide +kernel)) ggX11_readsStep_X11_skipWord
set_option maxRecDepth 20000 in
theorem ggX11_readsStep_X11_number : GoodIn wsX11_readsStep wsX11_number := goodIn_r _ [53, 2, 1, 54, 21, 22, 23, 11, 24, 25, 26, 27, 28, 29, 30, 55, 56, 57, 37, 38, 39, 40, 41, 58, 59, 60, 68, 69, 70, 71, 72, 73, 74, 75, 76, 77, 78, 79, 80, 81, 82, 83, 84, 85, 86, 87, 88, 89, 90, 91, 92, 93, 94, 95, 96, 97, 98, 99, 100, 101, 102, 103, 104, 105, 106, 107, 108, 109, 110, 111] (by decide +kernel) (by decide +kernel)
set_option maxRecDepth 20000 in
theorem gX11_readsStep_X11_number : GoodIn wsX11_readsStep (wsV RX11 150 RX11 yX11_number wsX11_number) := goodIn_app (goodIn_of _ (by decide +kernel)) ggX11_readsStep_X11_number
set_option maxRecDepth 20000 in
theorem ggX11_readsStep_X11_sign : GoodIn wsX11_readsStep wsX11_sign := goodIn_r _ [64, 2, 1, 21, 22, 23, 11, 24, 25, 26, 27, 28, 29, 30, 37, 38, 39, 40, 41, 68, 69, 70, 71, 72, 73, 74, 75, 76, 77, 78, 79, 80, 81, 82, 83, 84, 85, 86, 87, 88, 89, 90, 91, 92, 93, 94, 95, 96, 97, 98, 99, 100, 101, 102, 103, 104, 105, 106, 107, 108, 109, 110, 111] (by decide +kernel) (by decide +kernel)
set_option maxRecDepth 20000 in
theorem gX11_readsStep_X11_sign : GoodIn wsX11_readsStep (wsV RX11 154 RX11 yX11_sign wsX11_sign) := goodIn_app (goodIn_of _ (by decide +kernel)) ggX11_readsStep_X11_sign
set_option maxRecDepth 20000 in
theorem ggX11_readsStep_X11_blanks : GoodIn wsX11_readsStep wsX11_blanks := goodIn_r _ [24, 1, 25, 26, 27, 11, 28, 29, 30, 68, 69, 70, 71, 72, 73, 74, 75, 76, 77, 78, 79, 80, 81, 82, 83, 84, 85, 86, 87, 88, 89, 90, 91, 92, 93, 94, 95, 96, 97, 98, 99, 100, 101, 102, 103, 104, 105, 106, 107, 108, 109, 110, 111] (by decide +kernel) (by decide +kernel)
set_option maxRecDepth 20000 in
theorem gX11_readsStep_X11_blanks : GoodIn wsX11_readsStep (wsV RX11 107 RX11 yX11_blanks wsX11_blanks) := goodIn_app (goodIn_of _ (by decide +kernel)) ggX11_readsStep_X11_blanks
set_option maxRecDepth 20000 in
theorem ggX11_readsStep_X11_byteAt : GoodIn wsX11_readsStep wsX11_byteAt := goodIn_r _ [28, 29, 30, 68, 69, 70, 71, 72, 73, 74, 75, 76, 77, 78, 79, 80, 81, 82, 83, 84, 85, 86, 87, 88, 89, 90, 91, 92, 93, 94, 95, 96, 97, 98, 99, 100, 101, 102, 103, 104, 105, 106, 107, 108, 109, 110, 111] (by decide +kernel) (by decide +kernel)
set_option maxRecDepth 20000 in
theorem gX11_readsStep_X11_byteAt : GoodIn wsX11_readsStep (wsV RX11 97 RX11 yX11_byteAt wsX11_byteAt) := goodIn_app (goodIn_of _ (by decide +kernel)) ggX11_readsStep_X11_byteAt
set_option maxRecDepth 20000 in
theorem ggX11_readsStep_X11_readsStep : GoodIn wsX11_readsStep wsX11_readsStep := goodIn_r _ [0, 1, 2, 3, 4, 5, 6, 7, 8, 9, 10, 11, 12, 13, 14, 15, 16, 17, 18, 19, 20, 21, 22, 23, 24, 25, 26, 27, 28, 29, 30, 31, 32, 33, 34, 35, 36, 37, 38, 39, 40, 41, 42, 43, 44, 45, 46, 47, 48, 49, 50, 51, 52, 53, 54, 55, 56, 57, 58, 59, 60, 61, 62, 63, 64, 65, 66, 67, 68, 69, 70, 71, 72, 73, 74, 75, 76, 77, 78, 79, 80, 81, 82, 83, 84, 85, 86, 87, 88, 89, 90, 91, 92, 93, 94, 95, 96, 97, 98, 99, 100, 101, 102, 103, 104, 105, 106, 107, 108, 109, 110, 111] (by decide +kernel) (by decide +kernel)
set_option maxRecDepth 20000 in
theorem gX11_readsStep_X11_readsStep : GoodIn wsX11_readsStep (wsV RX11 234 RX11 yX11_readsStep wsX11_readsStep) := goodIn_app (goodIn_of _ (by decide +kernel)) ggX11_readsStep_X11_readsStep
set_option maxRecDepth 20000 in
theorem ggX11_book_X11_in : GoodIn wsX11_book wsX11_in := goodIn_r _ [13] (by decide +kernel) (by decide +kernel)
set_option maxRecDepth 20000 in
theorem gX11_book_X11_in : GoodIn wsX11_book (va_wsS RX11 119 yX11_in wsX11_in) := goodIn_app (goodIn_of _ (by decide +kernel)) ggX11_book_X11_in
set_option maxRecDepth 20000 in
theorem ggX11_book_X11_bad : GoodIn wsX11_book wsX11_bad := goodIn_r _ [17, 1, 18, 58, 59, 60, 61, 62, 63, 64, 65, 66, 67, 68, 69, 70, 71, 72, 73, 74, 75, 76, 77, 78, 79, 80, 81, 82, 83, 84, 85, 86, 87, 88, 89, 90, 91, 92, 93, 94, 95, 96, 97, 98, 99, 100, 101] (by decide +kernel) (by decide +kernel)
set_option maxRecDepth 20000 in
theorem gX11_book_X11_bad : GoodIn wsX11_book (wsV RX11 158 RX11 yX11_bad wsX11_bad) := goodIn_app (goodIn_of _ (by decide +kernel)) ggX11_book_X11_bad
set_option maxRecDepth 20000 in
theorem ggX11_book_X11_starts : GoodIn wsX11_book wsX11_starts := goodIn_r _ [22, 2, 5, 4, 3, 23, 24, 25, 26, 27, 28, 12, 29, 30, 31, 32, 33, 34, 58, 59, 60, 61, 62, 63, 64, 65, 66, 67, 68, 69, 70, 71, 72, 73, 74, 75, 76, 77, 78, 79, 80, 81, 82, 83, 84, 85, 86, 87, 88, 89, 90, 91, 92, 93, 94, 95, 96, 97, 98, 99, 100, 101] (by decide +kernel) (by decide +kernel)
set_option maxRecDepth 20000 in
theorem gX11_book_X11_starts : GoodIn wsX11_book (wsV RX11 162 RX11 yX11_starts wsX11_starts) := goodIn_app (goodIn_of _ (by decide +kernel)) ggX11_book_X11_starts
set_option maxRecDepth 20000 in
theorem ggX11_book_X11_number : GoodIn wsX11_book wsX11_number := goodIn_r _ [38, 3, 4, 39, 26, 27, 28, 12, 29, 30, 31, 32, 33, 5, 34, 40, 41, 42, 43, 44, 45, 46, 23, 10, 11, 13, 58, 59, 60, 61, 62, 63, 64, 65, 66, 67, 68, 69, 70, 71, 72, 73, 74, 75, 76, 77, 78, 79, 80, 81, 82, 83, 84, 85, 86, 87, 88, 89, 90, 91, 92, 93, 94, 95, 96, 97, 98, 99, 100, 101] (by decide +kernel) (by decide +kernel)
set_option maxRecDepth 20000 in
theorem gX11_book_X11_number : GoodIn wsX11_book (wsV RX11 150 RX11 yX11_number wsX11_number) := goodIn_app (goodIn_of _ (by decide +kernel)) ggX11_book_X11_number
set_option maxRecDepth 20000 in
theorem ggX11_book_X11_wrong : GoodIn wsX11_book wsX11_wrong := goodIn_r _ [46, 3, 23, 58, 59, 60, 61, 62, 63, 64, 65, 66, 67, 68, 69, 70, 71, 72, 73, 74, 75, 76, 77, 78, 79, 80, 81, 82, 83, 84, 85, 86, 87, 88, 89, 90, 91, 92, 93, 94, 95, 96, 97, 98, 99, 100, 101] (by decide +kernel) (by decide +kernel)
set_option maxRecDepth 20000 in
theorem gX11_book_X11_wrong : GoodIn wsX11_book (wsV RX11 114 RX11 yX11_wrong wsX11_wrong) := goodIn_app (goodIn_of _ (by decide +kernel)) ggX11_book_X11_wrong
set_option maxRecDepth 20000 in
theorem ggX11_book_X11_blanks : GoodIn wsX11_book wsX11_blanks := goodIn_r _ [29, 4, 30, 31, 32, 12, 33, 5, 34, 58, 59, 60, 61, 62, 63, 64, 65, 66, 67, 68, 69, 70, 71, 72, 73, 74, 75, 76, 77, 78, 79, 80, 81, 82, 83, 84, 85, 86, 87, 88, 89, 90, 91, 92, 93, 94, 95, 96, 97, 98, 99, 100, 101] (by decide +kernel) (by decide +kernel)
set_option maxRecDepth 20000 in
theorem gX11_book_X11_blanks : GoodIn wsX11_book (wsV RX11 107 RX11 yX11_blanks wsX11_blanks) := goodIn_app (goodIn_of _ (by decide +kernel)) ggX11_book_X11_blanks
set_option maxRecDepth 20000 in
theorem ggX11_book_X11_sign : GoodIn wsX11_book wsX11_sign := goodIn_r _ [50, 3, 4, 26, 27, 28, 12, 29, 30, 31, 32, 33, 5, 34, 43, 44, 45, 46, 23, 58, 59, 60, 61, 62, 63, 64, 65, 66, 67, 68, 69, 70, 71, 72, 73, 74, 75, 76, 77, 78, 79, 80, 81, 82, 83, 84, 85, 86, 87, 88, 89, 90, 91, 92, 93, 94, 95, 96, 97, 98, 99, 100, 101] (by decide +kernel) (by decide +kernel)
set_option maxRecDepth 20000 in
theorem gX11_book_X11_sign : GoodIn wsX11_book (wsV RX11 154 RX11 yX11_sign wsX11_sign) := goodIn_app (goodIn_of _ (by decide +kernel)) ggX11_book_X11_sign
set_option maxRecDepth 20000 in
theorem ggX11_book_X11_ends : GoodIn wsX11_book wsX11_ends := goodIn_r _ [54, 23, 7, 3, 58, 59, 60, 61, 62, 63, 64, 65, 66, 67, 68, 69, 70, 71, 72, 73, 74, 75, 76, 77, 78, 79, 80, 81, 82, 83, 84, 85, 86, 87, 88, 89, 90, 91, 92, 93, 94, 95, 96, 97, 98, 99, 100, 101] (by decide +kernel) (by decide +kernel)
set_option maxRecDepth 20000 in
theorem gX11_book_X11_ends : GoodIn wsX11_book (wsV RX11 168 RX11 yX11_ends wsX11_ends) := goodIn_app (goodIn_of _ (by decide +kernel)) ggX11_book_X11_ends
set_option maxRecDepth 20000 in
theorem ggX11_book_X11_lays : GoodIn wsX11_book wsX11_lays := goodIn_r _ [57] (by decide +kernel) (by decide +kernel)
set_option maxRecDepth 20000 in
theorem gX11_book_X11_lays : GoodIn wsX11_book (va_wsS RX11 171 yX11_lays wsX11_lays) := goodIn_app (goodIn_of _ (by decide +kernel)) ggX11_book_X11_lays
set_option maxRecDepth 20000 in
theorem ggX11_isCell_X11_in : GoodIn wsX11_isCell wsX11_in := goodIn_r _ [5] (by decide +kernel) (by decide +kernel)
set_option maxRecDepth 20000 in
theorem gX11_isCell_X11_in : GoodIn wsX11_isCell (va_wsS RX11 119 yX11_in wsX11_in) := goodIn_app (goodIn_of _ (by decide +kernel)) ggX11_isCell_X11_in
set_option maxRecDepth 20000 in
theorem ggX11_isOf_X11_isCell : GoodIn wsX11_isOf wsX11_isCell := goodIn_r _ [5, 6, 7, 8, 4, 9, 10, 11, 12, 13, 14, 15, 16, 17, 18, 19, 20, 21, 22, 23, 24, 25, 26, 27, 28, 29, 30, 31, 32, 33, 34, 35, 36, 37, 38, 39, 40, 41, 42, 43, 44, 45, 46, 47, 48, 49, 50, 51, 52, 53] (by decide +kernel) (by decide +kernel)
set_option maxRecDepth 20000 in
theorem gX11_isOf_X11_isCell : GoodIn wsX11_isOf (wsV RX11 237 RX11 yX11_isCell wsX11_isCell) := goodIn_app (goodIn_of _ (by decide +kernel)) ggX11_isOf_X11_isCell
set_option maxRecDepth 20000 in
theorem ggX11_onAll_X11_onPane : GoodIn wsX11_onAll wsX11_onPane := goodIn_r _ [5] (by decide +kernel) (by decide +kernel)
set_option maxRecDepth 20000 in
theorem gX11_onAll_X11_onPane : GoodIn wsX11_onAll (va_wsS RX11 240 yX11_onPane wsX11_onPane) := goodIn_app (goodIn_of _ (by decide +kernel)) ggX11_onAll_X11_onPane
set_option maxRecDepth 20000 in
theorem ggX11_takesOff_X11_less : GoodIn wsX11_takesOff wsX11_less := goodIn_r _ [4] (by decide +kernel) (by decide +kernel)
set_option maxRecDepth 20000 in
theorem gX11_takesOff_X11_less : GoodIn wsX11_takesOff (va_wsS RX11 218 yX11_less wsX11_less) := goodIn_app (goodIn_of _ (by decide +kernel)) ggX11_takesOff_X11_less
set_option maxRecDepth 20000 in
theorem ggX11_takesOff_X11_filmOf : GoodIn wsX11_takesOff wsX11_filmOf := goodIn_r _ [7] (by decide +kernel) (by decide +kernel)
set_option maxRecDepth 20000 in
theorem gX11_takesOff_X11_filmOf : GoodIn wsX11_takesOff (va_wsS RX11 244 yX11_filmOf wsX11_filmOf) := goodIn_app (goodIn_of _ (by decide +kernel)) ggX11_takesOff_X11_filmOf
set_option maxRecDepth 20000 in
theorem ggX11_wipes_X11_isOf : GoodIn wsX11_wipes wsX11_isOf := goodIn_r _ [5, 6, 7, 8, 4, 9, 10, 11, 12, 13, 26, 27, 28, 29, 30, 31, 32, 33, 34, 35, 36, 37, 38, 39, 40, 41, 42, 43, 44, 45, 46, 47, 48, 49, 50, 51, 52, 53, 54, 55, 56, 57, 58, 59, 60, 61, 62, 63, 64, 65, 66, 67, 68, 69] (by decide +kernel) (by decide +kernel)
set_option maxRecDepth 20000 in
theorem gX11_wipes_X11_isOf : GoodIn wsX11_wipes (wsV RX11 248 RX11 yX11_isOf wsX11_isOf) := goodIn_app (goodIn_of _ (by decide +kernel)) ggX11_wipes_X11_isOf
set_option maxRecDepth 20000 in
theorem ggX11_wipes_X11_far : GoodIn wsX11_wipes wsX11_far := goodIn_r _ [16] (by decide +kernel) (by decide +kernel)
set_option maxRecDepth 20000 in
theorem gX11_wipes_X11_far : GoodIn wsX11_wipes (va_wsS RX11 252 yX11_far wsX11_far) := goodIn_app (goodIn_of _ (by decide +kernel)) ggX11_wipes_X11_far
set_option maxRecDepth 20000 in
theorem ggX11_wipes_X11_takesOff : GoodIn wsX11_wipes wsX11_takesOff := goodIn_r _ [19, 20, 21, 4, 22, 23, 24, 25] (by decide +kernel) (by decide +kernel)
set_option maxRecDepth 20000 in
theorem gX11_wipes_X11_takesOff : GoodIn wsX11_wipes (va_wsS RX11 255 yX11_takesOff wsX11_takesOff) := goodIn_app (goodIn_of _ (by decide +kernel)) ggX11_wipes_X11_takesOff
set_option maxRecDepth 20000 in
theorem ggX11_isSettling_X11_has : GoodIn wsX11_isSettling wsX11_has := goodIn_r _ [6] (by decide +kernel) (by decide +kernel)
set_option maxRecDepth 20000 in
theorem gX11_isSettling_X11_has : GoodIn wsX11_isSettling (va_wsS RX11 259 yX11_has wsX11_has) := goodIn_app (goodIn_of _ (by decide +kernel)) ggX11_isSettling_X11_has
set_option maxRecDepth 20000 in
theorem ggX11_isSettling_X11_filmOf : GoodIn wsX11_isSettling wsX11_filmOf := goodIn_r _ [9] (by decide +kernel) (by decide +kernel)
set_option maxRecDepth 20000 in
theorem gX11_isSettling_X11_filmOf : GoodIn wsX11_isSettling (va_wsS RX11 244 yX11_filmOf wsX11_filmOf) := goodIn_app (goodIn_of _ (by decide +kernel)) ggX11_isSettling_X11_filmOf
set_option maxRecDepth 20000 in
theorem ggX11_isSettling_X11_byLaw : GoodIn wsX11_isSettling wsX11_byLaw := goodIn_r _ [13, 14, 15, 16, 1, 17, 18, 5, 19, 20, 21, 22, 23, 24, 25, 26, 27, 28, 29, 30, 31, 32, 33, 34, 35, 36, 37, 38, 39, 40, 41, 42, 43, 44, 45, 46, 47, 48, 49, 50, 51, 52, 53, 54, 55, 56, 57, 58, 59, 60, 61, 62, 63, 64, 65, 66, 67, 68, 69] (by decide +kernel) (by decide +kernel)
set_option maxRecDepth 20000 in
theorem gX11_isSettling_X11_byLaw : GoodIn wsX11_isSettling (wsV RX11 262 RX11 yX11_byLaw wsX11_byLaw) := goodIn_app (goodIn_of _ (by decide +kernel)) ggX11_isSettling_X11_byLaw
set_option maxRecDepth 20000 in
theorem ggX11_dayEnds_X11_isShown : GoodIn wsX11_dayEnds wsX11_isShown := goodIn_r _ [7, 2, 8, 9, 6, 10, 11, 12, 13, 14, 15, 16, 65, 66, 67, 68, 69, 70, 71, 72, 73, 74, 75, 76, 77, 78, 79, 80, 81, 82, 83, 84, 85, 86, 87, 88, 89, 90, 91, 92, 93, 94, 95, 96, 97, 98, 99, 100, 101, 102, 103, 104, 105, 106, 107, 108] (by decide +kernel) (by decide +kernel)
set_option maxRecDepth 20000 in
theorem gX11_dayEnds_X11_isShown : GoodIn wsX11_dayEnds (wsV RX11 265 RX11 yX11_isShown wsX11_isShown) := goodIn_app (goodIn_of _ (by decide +kernel)) ggX11_dayEnds_X11_isShown
set_option maxRecDepth 20000 in
theorem ggX11_dayEnds_X11_rainOn : GoodIn wsX11_dayEnds wsX11_rainOn := goodIn_r _ [20, 1, 21, 65, 66, 67, 68, 69, 70, 71, 72, 73, 74, 75, 76, 77, 78, 79, 80, 81, 82, 83, 84, 85, 86, 87, 88, 89, 90, 91, 92, 93, 94, 95, 96, 97, 98, 99, 100, 101, 102, 103, 104, 105, 106, 107, 108] (by decide +kernel) (by decide +kernel)
set_option maxRecDepth 20000 in
theorem gX11_dayEnds_X11_rainOn : GoodIn wsX11_dayEnds (wsV RX11 269 RX11 yX11_rainOn wsX11_rainOn) := goodIn_app (goodIn_of _ (by decide +kernel)) ggX11_dayEnds_X11_rainOn
set_option maxRecDepth 20000 in
theorem ggX11_dayEnds_X11_takesOff : GoodIn wsX11_dayEnds wsX11_takesOff := goodIn_r _ [24, 25, 26, 6, 27, 14, 15, 16] (by decide +kernel) (by decide +kernel)
set_option maxRecDepth 20000 in
theorem gX11_dayEnds_X11_takesOff : GoodIn wsX11_dayEnds (va_wsS RX11 255 yX11_takesOff wsX11_takesOff) := goodIn_app (goodIn_of _ (by decide +kernel)) ggX11_dayEnds_X11_takesOff
set_option maxRecDepth 20000 in
theorem ggX11_dayEnds_X11_isOf : GoodIn wsX11_dayEnds wsX11_isOf := goodIn_r _ [31, 32, 33, 34, 6, 35, 36, 37, 38, 39, 65, 66, 67, 68, 69, 70, 71, 72, 73, 74, 75, 76, 77, 78, 79, 80, 81, 82, 83, 84, 85, 86, 87, 88, 89, 90, 91, 92, 93, 94, 95, 96, 97, 98, 99, 100, 101, 102, 103, 104, 105, 106, 107, 108] (by decide +kernel) (by decide +kernel)
set_option maxRecDepth 20000 in
theorem gX11_dayEnds_X11_isOf : GoodIn wsX11_dayEnds (wsV RX11 248 RX11 yX11_isOf wsX11_isOf) := goodIn_app (goodIn_of _ (by decide +kernel)) ggX11_dayEnds_X11_isOf
set_option maxRecDepth 20000 in
theorem ggX11_dayEnds_X11_isSettling : GoodIn wsX11_dayEnds wsX11_isSettling := goodIn_r _ [43, 44, 36, 45, 46, 6, 47, 14, 15, 16, 48, 49, 50, 51, 52, 53, 54, 55, 56, 57, 25, 26, 27, 58, 59, 60, 65, 66, 67, 68, 69, 70, 71, 72, 73, 74, 75, 76, 77, 78, 79, 80, 81, 82, 83, 84, 85, 86, 87, 88, 89, 90, 91, 92, 93, 94, 95, 96, 97, 98, 99, 100, 101, 102, 103, 104, 105, 106, 107, 108] (by decide +kernel) (by decide +kernel)
set_option maxRecDepth 20000 in
theorem gX11_dayEnds_X11_isSettling : GoodIn wsX11_dayEnds (wsV RX11 272 RX11 yX11_isSettling wsX11_isSettling) := goodIn_app (goodIn_of _ (by decide +kernel)) ggX11_dayEnds_X11_isSettling
set_option maxRecDepth 20000 in
theorem ggX11_dayEnds_X11_filmsOver : GoodIn wsX11_dayEnds wsX11_filmsOver := goodIn_r _ [64, 1, 65, 66, 67, 68, 69, 70, 71, 72, 73, 74, 75, 76, 77, 78, 79, 80, 81, 82, 83, 84, 85, 86, 87, 88, 89, 90, 91, 92, 93, 94, 95, 96, 97, 98, 99, 100, 101, 102, 103, 104, 105, 106, 107, 108] (by decide +kernel) (by decide +kernel)
set_option maxRecDepth 20000 in
theorem gX11_dayEnds_X11_filmsOver : GoodIn wsX11_dayEnds (wsV RX11 276 RX11 yX11_filmsOver wsX11_filmsOver) := goodIn_app (goodIn_of _ (by decide +kernel)) ggX11_dayEnds_X11_filmsOver
set_option maxRecDepth 20000 in
theorem ggX11_breaks_X11_has : GoodIn wsX11_breaks wsX11_has := goodIn_r _ [4] (by decide +kernel) (by decide +kernel)
set_option maxRecDepth 20000 in
theorem gX11_breaks_X11_has : GoodIn wsX11_breaks (va_wsS RX11 259 yX11_has wsX11_has) := goodIn_app (goodIn_of _ (by decide +kernel)) ggX11_breaks_X11_has
set_option maxRecDepth 20000 in
theorem ggX11_does_X11_wipes : GoodIn wsX11_does wsX11_wipes := goodIn_r _ [5, 6, 7, 8, 4, 9, 10, 11, 12, 13, 14, 15, 16, 17, 18, 19, 20, 21, 22, 23, 24, 25, 26, 27, 28, 29, 82, 83, 84, 85, 86, 87, 88, 89, 90, 91, 92, 93, 94, 95, 96, 97, 98, 99, 100, 101, 102, 103, 104, 105, 106, 107, 108, 109, 110, 111, 112, 113, 114, 115, 116, 117, 118, 119, 120, 121, 122, 123, 124, 125] (by decide +kernel) (by decide +kernel)
set_option maxRecDepth 20000 in
theorem gX11_does_X11_wipes : GoodIn wsX11_does (wsV RX11 280 RX11 yX11_wipes wsX11_wipes) := goodIn_app (goodIn_of _ (by decide +kernel)) ggX11_does_X11_wipes
set_option maxRecDepth 20000 in
theorem ggX11_does_X11_dayEnds : GoodIn wsX11_does wsX11_dayEnds := goodIn_r _ [33, 34, 35, 36, 37, 38, 4, 39, 40, 41, 42, 43, 44, 45, 27, 28, 29, 46, 47, 48, 49, 50, 21, 22, 23, 24, 25, 26, 6, 7, 8, 9, 10, 11, 12, 13, 14, 15, 16, 17, 51, 52, 53, 54, 55, 56, 57, 58, 59, 60, 61, 62, 63, 64, 65, 66, 67, 68, 69, 70, 71, 72, 73, 74, 75, 82, 83, 84, 85, 86, 87, 88, 89, 90, 91, 92, 93, 94, 95, 96, 97, 98, 99, 100, 101, 102, 103, 104, 105, 106, 107, 108, 109, 110, 111, 112, 113, 114, 115, 116, 117, 118, 119, 120, 121, 122, 123, 124, 125] (by decide +kernel) (by decide +kernel)
set_option maxRecDepth 20000 in
theorem gX11_does_X11_dayEnds : GoodIn wsX11_does (wsV RX11 284 RX11 yX11_dayEnds wsX11_dayEnds) := goodIn_app (goodIn_of _ (by decide +kernel)) ggX11_does_X11_dayEnds
set_option maxRecDepth 20000 in
theorem ggX11_does_X11_onRag : GoodIn wsX11_does wsX11_onRag := goodIn_r _ [78] (by decide +kernel) (by decide +kernel)
set_option maxRecDepth 20000 in
theorem gX11_does_X11_onRag : GoodIn wsX11_does (va_wsS RX11 288 yX11_onRag wsX11_onRag) := goodIn_app (goodIn_of _ (by decide +kernel)) ggX11_does_X11_onRag
set_option maxRecDepth 20000 in
theorem ggX11_does_X11_breaks : GoodIn wsX11_does wsX11_breaks := goodIn_r _ [81, 56, 57, 4, 58] (by decide +kernel) (by decide +kernel)
set_option maxRecDepth 20000 in
theorem gX11_does_X11_breaks : GoodIn wsX11_does (va_wsS RX11 292 yX11_breaks wsX11_breaks) := goodIn_app (goodIn_of _ (by decide +kernel)) ggX11_does_X11_breaks
set_option maxRecDepth 20000 in
theorem ggX11_goes_X11_goes : GoodIn wsX11_goes wsX11_goes := goodIn_r _ [0, 1, 2, 3, 4, 5, 6, 7, 8, 9, 10, 11, 12, 13, 14, 15, 16, 17, 18, 19, 20, 21, 22, 23, 24, 25, 26, 27, 28, 29, 30, 31, 32, 33, 34, 35, 36, 37, 38, 39, 40, 41, 42, 43, 44, 45, 46, 47, 48, 49, 50, 51, 52, 53, 54, 55, 56, 57, 58, 59, 60, 61, 62, 63, 64, 65, 66, 67, 68, 69, 70, 71, 72, 73, 74, 75, 76, 77, 78, 79, 80, 81, 82, 83, 84, 85, 86, 87, 88, 89, 90, 91, 92, 93, 94, 95, 96, 97, 98, 99, 100, 101, 102, 103, 104, 105, 106, 107, 108, 109, 110, 111, 112, 113, 114, 115, 116, 117, 118, 119, 120, 121, 122, 123, 124, 125, 126, 127, 128, 129, 130, 131, 132, 133, 134, 135, 136, 137] (by decide +kernel) (by decide +kernel)
set_option maxRecDepth 20000 in
theorem gX11_goes_X11_goes : GoodIn wsX11_goes (wsV RX11 298 RX11 yX11_goes wsX11_goes) := goodIn_app (goodIn_of _ (by decide +kernel)) ggX11_goes_X11_goes
set_option maxRecDepth 20000 in
theorem ggX11_goes_X11_does : GoodIn wsX11_goes wsX11_does := goodIn_r _ [13, 14, 15, 16, 9, 17, 18, 19, 20, 21, 22, 23, 24, 25, 26, 27, 28, 29, 30, 31, 32, 33, 34, 35, 36, 37, 38, 39, 40, 41, 42, 43, 44, 45, 46, 47, 48, 49, 50, 51, 52, 53, 54, 55, 56, 57, 58, 59, 60, 61, 62, 63, 64, 65, 66, 67, 68, 69, 70, 71, 72, 73, 74, 75, 76, 77, 78, 79, 80, 81, 82, 83, 84, 85, 86, 87, 88, 89, 90, 91, 92, 93, 94, 95, 96, 97, 98, 99, 100, 101, 102, 103, 104, 105, 106, 107, 108, 109, 110, 111, 112, 113, 114, 115, 116, 117, 118, 119, 120, 121, 122, 123, 124, 125, 126, 127, 128, 129, 130, 131, 132, 133, 134, 135, 136, 137] (by decide +kernel) (by decide +kernel)
set_option maxRecDepth 20000 in
theorem gX11_goes_X11_does : GoodIn wsX11_goes (wsV RX11 301 RX11 yX11_does wsX11_does) := goodIn_app (goodIn_of _ (by decide +kernel)) ggX11_goes_X11_does
set_option maxRecDepth 20000 in
theorem ggX11_work_X11_in : GoodIn wsX11_work wsX11_in := goodIn_r _ [17] (by decide +kernel) (by decide +kernel)
set_option maxRecDepth 20000 in
theorem gX11_work_X11_in : GoodIn wsX11_work (va_wsS RX11 119 yX11_in wsX11_in) := goodIn_app (goodIn_of _ (by decide +kernel)) ggX11_work_X11_in
set_option maxRecDepth 20000 in
theorem ggX11_work_X11_bad : GoodIn wsX11_work wsX11_bad := goodIn_r _ [21, 1, 22, 178, 179, 180, 181, 182, 183, 184, 185, 186, 187, 188, 189, 190, 191, 192, 193, 194, 195, 196, 197, 198, 199, 200, 201, 202, 203, 204, 205, 206, 207, 208, 209, 210, 211, 212, 213, 214, 215, 216, 217, 218, 219, 220, 221] (by decide +kernel) (by decide +kernel)
set_option maxRecDepth 20000 in
theorem gX11_work_X11_bad : GoodIn wsX11_work (wsV RX11 158 RX11 yX11_bad wsX11_bad) := goodIn_app (goodIn_of _ (by decide +kernel)) ggX11_work_X11_bad
set_option maxRecDepth 20000 in
theorem ggX11_work_X11_starts : GoodIn wsX11_work wsX11_starts := goodIn_r _ [26, 2, 8, 7, 6, 27, 28, 29, 30, 31, 32, 16, 33, 34, 35, 36, 37, 38, 178, 179, 180, 181, 182, 183, 184, 185, 186, 187, 188, 189, 190, 191, 192, 193, 194, 195, 196, 197, 198, 199, 200, 201, 202, 203, 204, 205, 206, 207, 208, 209, 210, 211, 212, 213, 214, 215, 216, 217, 218, 219, 220, 221] (by decide +kernel) (by decide +kernel)
set_option maxRecDepth 20000 in
theorem gX11_work_X11_starts : GoodIn wsX11_work (wsV RX11 162 RX11 yX11_starts wsX11_starts) := goodIn_app (goodIn_of _ (by decide +kernel)) ggX11_work_X11_starts
set_option maxRecDepth 20000 in
theorem ggX11_work_X11_readsStep : GoodIn wsX11_work wsX11_readsStep := goodIn_r _ [42, 7, 6, 43, 5, 44, 45, 29, 46, 47, 48, 16, 49, 50, 51, 52, 53, 54, 55, 56, 57, 30, 31, 32, 33, 34, 35, 36, 37, 8, 38, 58, 59, 60, 61, 62, 63, 64, 65, 66, 67, 27, 68, 69, 70, 71, 72, 73, 74, 75, 76, 77, 78, 79, 80, 81, 82, 83, 14, 15, 17, 84, 85, 86, 87, 39, 40, 41, 178, 179, 180, 181, 182, 183, 184, 185, 186, 187, 188, 189, 190, 191, 192, 193, 194, 195, 196, 197, 198, 199, 200, 201, 202, 203, 204, 205, 206, 207, 208, 209, 210, 211, 212, 213, 214, 215, 216, 217, 218, 219, 220, 221] (by decide +kernel) (by decide +kernel)
set_option maxRecDepth 20000 in
theorem gX11_work_X11_readsStep : GoodIn wsX11_work (wsV RX11 234 RX11 yX11_readsStep wsX11_readsStep) := goodIn_app (goodIn_of _ (by decide +kernel)) ggX11_work_X11_readsStep
set_option maxRecDepth 20000 in
theorem ggX11_work_X11_blanks : GoodIn wsX11_work wsX11_blanks := goodIn_r _ [33, 7, 34, 35, 36, 16, 37, 8, 38, 178, 179, 180, 181, 182, 183, 184, 185, 186, 187, 188, 189, 190, 191, 192, 193, 194, 195, 196, 197, 198, 199, 200, 201, 202, 203, 204, 205, 206, 207, 208, 209, 210, 211, 212, 213, 214, 215, 216, 217, 218, 219, 220, 221] (by decide +kernel) (by decide +kernel)
set_option maxRecDepth 20000 in
theorem gX11_work_X11_blanks : GoodIn wsX11_work (wsV RX11 107 RX11 yX11_blanks wsX11_blanks) := goodIn_app (goodIn_of _ (by decide +kernel)) ggX11_work_X11_blanks
set_option maxRecDepth 20000 in
theorem ggX11_work_X11_ends : GoodIn wsX11_work wsX11_ends := goodIn_r _ [91, 27, 4, 6, 178, 179, 180, 181, 182, 183, 184, 185, 186, 187, 188, 189, 190, 191, 192, 193, 194, 195, 196, 197, 198, 199, 200, 201, 202, 203, 204, 205, 206, 207, 208, 209, 210, 211, 212, 213, 214, 215, 216, 217, 218, 219, 220, 221] (by decide +kernel) (by decide +kernel)
set_option maxRecDepth 20000 in
theorem gX11_work_X11_ends : GoodIn wsX11_work (wsV RX11 168 RX11 yX11_ends wsX11_ends) := goodIn_app (goodIn_of _ (by decide +kernel)) ggX11_work_X11_ends
set_option maxRecDepth 20000 in
theorem ggX11_work_X11_copies : GoodIn wsX11_work wsX11_copies := goodIn_r _ [94] (by decide +kernel) (by decide +kernel)
set_option maxRecDepth 20000 in
theorem gX11_work_X11_copies : GoodIn wsX11_work (va_wsS RX11 308 yX11_copies wsX11_copies) := goodIn_app (goodIn_of _ (by decide +kernel)) ggX11_work_X11_copies
set_option maxRecDepth 20000 in
theorem ggX11_work_X11_goes : GoodIn wsX11_work wsX11_goes := goodIn_r _ [98, 11, 43, 9, 12, 13, 95, 96, 97, 16, 99, 100, 101, 102, 103, 104, 105, 106, 107, 108, 109, 110, 111, 112, 113, 114, 45, 14, 15, 17, 115, 116, 117, 118, 119, 120, 121, 122, 123, 124, 125, 126, 127, 128, 129, 130, 44, 131, 132, 133, 134, 135, 136, 137, 138, 139, 140, 141, 142, 143, 144, 145, 146, 147, 148, 149, 150, 151, 152, 153, 154, 155, 156, 157, 158, 159, 160, 161, 162, 163, 164, 165, 166, 167, 168, 169, 170, 171, 172, 173, 174, 175, 176, 177, 178, 179, 180, 181, 182, 183, 184, 185, 186, 187, 188, 189, 190, 191, 192, 193, 194, 195, 196, 197, 198, 199, 200, 201, 202, 203, 204, 205, 206, 207, 208, 209, 210, 211, 212, 213, 214, 215, 216, 217, 218, 219, 220, 221] (by decide +kernel) (by decide +kernel)
set_option maxRecDepth 20000 in
theorem gX11_work_X11_goes : GoodIn wsX11_work (wsV RX11 298 RX11 yX11_goes wsX11_goes) := goodIn_app (goodIn_of _ (by decide +kernel)) ggX11_work_X11_goes
set_option maxRecDepth 20000 in
theorem ggX11_undo_X11_copies : GoodIn wsX11_undo wsX11_copies := goodIn_r _ [9] (by decide +kernel) (by decide +kernel)
set_option maxRecDepth 20000 in
theorem gX11_undo_X11_copies : GoodIn wsX11_undo (va_wsS RX11 308 yX11_copies wsX11_copies) := goodIn_app (goodIn_of _ (by decide +kernel)) ggX11_undo_X11_copies
set_option maxRecDepth 20000 in
theorem ggX11_told_X11_in : GoodIn wsX11_told wsX11_in := goodIn_r _ [9] (by decide +kernel) (by decide +kernel)
set_option maxRecDepth 20000 in
theorem gX11_told_X11_in : GoodIn wsX11_told (va_wsS RX11 119 yX11_in wsX11_in) := goodIn_app (goodIn_of _ (by decide +kernel)) ggX11_told_X11_in
set_option maxRecDepth 20000 in
theorem ggX11_told_X11_bad : GoodIn wsX11_told wsX11_bad := goodIn_r _ [13, 1, 14, 25, 26, 27, 28, 29, 30, 31, 32, 33, 34, 35, 36, 37, 38, 39, 40, 41, 42, 43, 44, 45, 46, 47, 48, 49, 50, 51, 52, 53, 54, 55, 56, 57, 58, 59, 60, 61, 62, 63, 64, 65, 66, 67, 68] (by decide +kernel) (by decide +kernel)
set_option maxRecDepth 20000 in
theorem gX11_told_X11_bad : GoodIn wsX11_told (wsV RX11 158 RX11 yX11_bad wsX11_bad) := goodIn_app (goodIn_of _ (by decide +kernel)) ggX11_told_X11_bad
set_option maxRecDepth 20000 in
theorem ggX11_told_X11_onAll : GoodIn wsX11_told wsX11_onAll := goodIn_r _ [18, 2, 19, 20, 8, 21, 25, 26, 27, 28, 29, 30, 31, 32, 33, 34, 35, 36, 37, 38, 39, 40, 41, 42, 43, 44, 45, 46, 47, 48, 49, 50, 51, 52, 53, 54, 55, 56, 57, 58, 59, 60, 61, 62, 63, 64, 65, 66, 67, 68] (by decide +kernel) (by decide +kernel)
set_option maxRecDepth 20000 in
theorem gX11_told_X11_onAll : GoodIn wsX11_told (wsV RX11 312 RX11 yX11_onAll wsX11_onAll) := goodIn_app (goodIn_of _ (by decide +kernel)) ggX11_told_X11_onAll
set_option maxRecDepth 20000 in
theorem ggX11_told_X11_onRag : GoodIn wsX11_told wsX11_onRag := goodIn_r _ [24] (by decide +kernel) (by decide +kernel)
set_option maxRecDepth 20000 in
theorem gX11_told_X11_onRag : GoodIn wsX11_told (va_wsS RX11 288 yX11_onRag wsX11_onRag) := goodIn_app (goodIn_of _ (by decide +kernel)) ggX11_told_X11_onRag
set_option maxRecDepth 20000 in
theorem ggX11_isPane_X11_in : GoodIn wsX11_isPane wsX11_in := goodIn_r _ [5] (by decide +kernel) (by decide +kernel)
set_option maxRecDepth 20000 in
theorem gX11_isPane_X11_in : GoodIn wsX11_isPane (va_wsS RX11 119 yX11_in wsX11_in) := goodIn_app (goodIn_of _ (by decide +kernel)) ggX11_isPane_X11_in
set_option maxRecDepth 20000 in
theorem ggX11_isOrder_X11_in : GoodIn wsX11_isOrder wsX11_in := goodIn_r _ [5] (by decide +kernel) (by decide +kernel)
set_option maxRecDepth 20000 in
theorem gX11_isOrder_X11_in : GoodIn wsX11_isOrder (va_wsS RX11 119 yX11_in wsX11_in) := goodIn_app (goodIn_of _ (by decide +kernel)) ggX11_isOrder_X11_in
set_option maxRecDepth 20000 in
theorem ggX11_pane_X11_isPane : GoodIn wsX11_pane wsX11_isPane := goodIn_r _ [8, 9, 10, 11, 7, 12, 21, 22, 23, 24, 25, 26, 27, 28, 29, 30, 31, 32, 33, 34, 35, 36, 37, 38, 39, 40, 41, 42, 43, 44, 45, 46, 47, 48, 49, 50, 51, 52, 53, 54, 55, 56, 57, 58, 59, 60, 61, 62, 63, 64] (by decide +kernel) (by decide +kernel)
set_option maxRecDepth 20000 in
theorem gX11_pane_X11_isPane : GoodIn wsX11_pane (wsV RX11 315 RX11 yX11_isPane wsX11_isPane) := goodIn_app (goodIn_of _ (by decide +kernel)) ggX11_pane_X11_isPane
set_option maxRecDepth 20000 in
theorem ggX11_pane_X11_bad : GoodIn wsX11_pane wsX11_bad := goodIn_r _ [16, 1, 17, 21, 22, 23, 24, 25, 26, 27, 28, 29, 30, 31, 32, 33, 34, 35, 36, 37, 38, 39, 40, 41, 42, 43, 44, 45, 46, 47, 48, 49, 50, 51, 52, 53, 54, 55, 56, 57, 58, 59, 60, 61, 62, 63, 64] (by decide +kernel) (by decide +kernel)
set_option maxRecDepth 20000 in
theorem gX11_pane_X11_bad : GoodIn wsX11_pane (wsV RX11 158 RX11 yX11_bad wsX11_bad) := goodIn_app (goodIn_of _ (by decide +kernel)) ggX11_pane_X11_bad
set_option maxRecDepth 20000 in
theorem ggX11_pane_X11_in : GoodIn wsX11_pane wsX11_in := goodIn_r _ [12] (by decide +kernel) (by decide +kernel)
set_option maxRecDepth 20000 in
theorem gX11_pane_X11_in : GoodIn wsX11_pane (va_wsS RX11 119 yX11_in wsX11_in) := goodIn_app (goodIn_of _ (by decide +kernel)) ggX11_pane_X11_in
set_option maxRecDepth 20000 in
theorem ggX11_pane_X11_onPane : GoodIn wsX11_pane wsX11_onPane := goodIn_r _ [20] (by decide +kernel) (by decide +kernel)
set_option maxRecDepth 20000 in
theorem gX11_pane_X11_onPane : GoodIn wsX11_pane (va_wsS RX11 240 yX11_onPane wsX11_onPane) := goodIn_app (goodIn_of _ (by decide +kernel)) ggX11_pane_X11_onPane
set_option maxRecDepth 20000 in
theorem ggX11_noCell_X11_isPane : GoodIn wsX11_noCell wsX11_isPane := goodIn_r _ [5, 6, 7, 8, 4, 9, 21, 22, 23, 24, 25, 26, 27, 28, 29, 30, 31, 32, 33, 34, 35, 36, 37, 38, 39, 40, 41, 42, 43, 44, 45, 46, 47, 48, 49, 50, 51, 52, 53, 54, 55, 56, 57, 58, 59, 60, 61, 62, 63, 64] (by decide +kernel) (by decide +kernel)
set_option maxRecDepth 20000 in
theorem gX11_noCell_X11_isPane : GoodIn wsX11_noCell (wsV RX11 315 RX11 yX11_isPane wsX11_isPane) := goodIn_app (goodIn_of _ (by decide +kernel)) ggX11_noCell_X11_isPane
set_option maxRecDepth 20000 in
theorem ggX11_noCell_X11_bad : GoodIn wsX11_noCell wsX11_bad := goodIn_r _ [13, 14, 15, 21, 22, 23, 24, 25, 26, 27, 28, 29, 30, 31, 32, 33, 34, 35, 36, 37, 38, 39, 40, 41, 42, 43, 44, 45, 46, 47, 48, 49, 50, 51, 52, 53, 54, 55, 56, 57, 58, 59, 60, 61, 62, 63, 64] (by decide +kernel) (by decide +kernel)
set_option maxRecDepth 20000 in
theorem gX11_noCell_X11_bad : GoodIn wsX11_noCell (wsV RX11 158 RX11 yX11_bad wsX11_bad) := goodIn_app (goodIn_of _ (by decide +kernel)) ggX11_noCell_X11_bad
set_option maxRecDepth 20000 in
theorem ggX11_noCell_X11_isCell : GoodIn wsX11_noCell wsX11_isCell := goodIn_r _ [19, 20, 7, 8, 4, 9, 21, 22, 23, 24, 25, 26, 27, 28, 29, 30, 31, 32, 33, 34, 35, 36, 37, 38, 39, 40, 41, 42, 43, 44, 45, 46, 47, 48, 49, 50, 51, 52, 53, 54, 55, 56, 57, 58, 59, 60, 61, 62, 63, 64] (by decide +kernel) (by decide +kernel)
set_option maxRecDepth 20000 in
theorem gX11_noCell_X11_isCell : GoodIn wsX11_noCell (wsV RX11 237 RX11 yX11_isCell wsX11_isCell) := goodIn_app (goodIn_of _ (by decide +kernel)) ggX11_noCell_X11_isCell
set_option maxRecDepth 20000 in
theorem ggX11_shows_X11_noCell : GoodIn wsX11_shows wsX11_noCell := goodIn_r _ [7, 8, 9, 10, 6, 11, 12, 13, 14, 15, 16, 17, 18, 19, 1, 20, 21, 22, 23, 24, 25, 32, 33, 34, 35, 36, 37, 38, 39, 40, 41, 42, 43, 44, 45, 46, 47, 48, 49, 50, 51, 52, 53, 54, 55, 56, 57, 58, 59, 60, 61, 62, 63, 64, 65, 66, 67, 68, 69, 70, 71, 72, 73, 74, 75] (by decide +kernel) (by decide +kernel)
set_option maxRecDepth 20000 in
theorem gX11_shows_X11_noCell : GoodIn wsX11_shows (wsV RX11 318 RX11 yX11_noCell wsX11_noCell) := goodIn_app (goodIn_of _ (by decide +kernel)) ggX11_shows_X11_noCell
set_option maxRecDepth 20000 in
theorem ggX11_shows_X11_cellOf : GoodIn wsX11_shows wsX11_cellOf := goodIn_r _ [28] (by decide +kernel) (by decide +kernel)
set_option maxRecDepth 20000 in
theorem gX11_shows_X11_cellOf : GoodIn wsX11_shows (va_wsS RX11 321 yX11_cellOf wsX11_cellOf) := goodIn_app (goodIn_of _ (by decide +kernel)) ggX11_shows_X11_cellOf
set_option maxRecDepth 20000 in
theorem ggX11_shows_X11_filmOf : GoodIn wsX11_shows wsX11_filmOf := goodIn_r _ [31] (by decide +kernel) (by decide +kernel)
set_option maxRecDepth 20000 in
theorem gX11_shows_X11_filmOf : GoodIn wsX11_shows (va_wsS RX11 244 yX11_filmOf wsX11_filmOf) := goodIn_app (goodIn_of _ (by decide +kernel)) ggX11_shows_X11_filmOf
set_option maxRecDepth 20000 in
theorem ggX11_deep_X11_noCell : GoodIn wsX11_deep wsX11_noCell := goodIn_r _ [7, 8, 9, 10, 6, 11, 12, 13, 14, 15, 16, 17, 18, 19, 1, 20, 21, 22, 23, 24, 25, 29, 30, 31, 32, 33, 34, 35, 36, 37, 38, 39, 40, 41, 42, 43, 44, 45, 46, 47, 48, 49, 50, 51, 52, 53, 54, 55, 56, 57, 58, 59, 60, 61, 62, 63, 64, 65, 66, 67, 68, 69, 70, 71, 72] (by decide +kernel) (by decide +kernel)
set_option maxRecDepth 20000 in
theorem gX11_deep_X11_noCell : GoodIn wsX11_deep (wsV RX11 318 RX11 yX11_noCell wsX11_noCell) := goodIn_app (goodIn_of _ (by decide +kernel)) ggX11_deep_X11_noCell
set_option maxRecDepth 20000 in
theorem ggX11_deep_X11_cellOf : GoodIn wsX11_deep wsX11_cellOf := goodIn_r _ [28] (by decide +kernel) (by decide +kernel)
set_option maxRecDepth 20000 in
theorem gX11_deep_X11_cellOf : GoodIn wsX11_deep (va_wsS RX11 321 yX11_cellOf wsX11_cellOf) := goodIn_app (goodIn_of _ (by decide +kernel)) ggX11_deep_X11_cellOf
set_option maxRecDepth 20000 in
theorem ggX11_film_X11_noCell : GoodIn wsX11_film wsX11_noCell := goodIn_r _ [7, 8, 9, 10, 6, 11, 12, 13, 14, 15, 16, 17, 18, 19, 1, 20, 21, 22, 23, 24, 25, 32, 33, 34, 35, 36, 37, 38, 39, 40, 41, 42, 43, 44, 45, 46, 47, 48, 49, 50, 51, 52, 53, 54, 55, 56, 57, 58, 59, 60, 61, 62, 63, 64, 65, 66, 67, 68, 69, 70, 71, 72, 73, 74, 75] (by decide +kernel) (by decide +kernel)
set_option maxRecDepth 20000 in
theorem gX11_film_X11_noCell : GoodIn wsX11_film (wsV RX11 318 RX11 yX11_noCell wsX11_noCell) := goodIn_app (goodIn_of _ (by decide +kernel)) ggX11_film_X11_noCell
set_option maxRecDepth 20000 in
theorem ggX11_film_X11_cellOf : GoodIn wsX11_film wsX11_cellOf := goodIn_r _ [28] (by decide +kernel) (by decide +kernel)
set_option maxRecDepth 20000 in
theorem gX11_film_X11_cellOf : GoodIn wsX11_film (va_wsS RX11 321 yX11_cellOf wsX11_cellOf) := goodIn_app (goodIn_of _ (by decide +kernel)) ggX11_film_X11_cellOf
set_option maxRecDepth 20000 in
theorem ggX11_film_X11_filmOf : GoodIn wsX11_film wsX11_filmOf := goodIn_r _ [31] (by decide +kernel) (by decide +kernel)
set_option maxRecDepth 20000 in
theorem gX11_film_X11_filmOf : GoodIn wsX11_film (va_wsS RX11 244 yX11_filmOf wsX11_filmOf) := goodIn_app (goodIn_of _ (by decide +kernel)) ggX11_film_X11_filmOf
set_option maxRecDepth 20000 in
theorem ggX11_films_X11_in : GoodIn wsX11_films wsX11_in := goodIn_r _ [7] (by decide +kernel) (by decide +kernel)
set_option maxRecDepth 20000 in
theorem gX11_films_X11_in : GoodIn wsX11_films (va_wsS RX11 119 yX11_in wsX11_in) := goodIn_app (goodIn_of _ (by decide +kernel)) ggX11_films_X11_in
set_option maxRecDepth 20000 in
theorem ggX11_films_X11_bad : GoodIn wsX11_films wsX11_bad := goodIn_r _ [11, 1, 12, 16, 17, 18, 19, 20, 21, 22, 23, 24, 25, 26, 27, 28, 29, 30, 31, 32, 33, 34, 35, 36, 37, 38, 39, 40, 41, 42, 43, 44, 45, 46, 47, 48, 49, 50, 51, 52, 53, 54, 55, 56, 57, 58, 59] (by decide +kernel) (by decide +kernel)
set_option maxRecDepth 20000 in
theorem gX11_films_X11_bad : GoodIn wsX11_films (wsV RX11 158 RX11 yX11_bad wsX11_bad) := goodIn_app (goodIn_of _ (by decide +kernel)) ggX11_films_X11_bad
set_option maxRecDepth 20000 in
theorem ggX11_films_X11_onCell : GoodIn wsX11_films wsX11_onCell := goodIn_r _ [15] (by decide +kernel) (by decide +kernel)
set_option maxRecDepth 20000 in
theorem gX11_films_X11_onCell : GoodIn wsX11_films (va_wsS RX11 324 yX11_onCell wsX11_onCell) := goodIn_app (goodIn_of _ (by decide +kernel)) ggX11_films_X11_onCell
set_option maxRecDepth 20000 in
theorem ggX11_have_X11_isPane : GoodIn wsX11_have wsX11_isPane := goodIn_r _ [7, 8, 9, 10, 6, 11, 20, 21, 22, 23, 24, 25, 26, 27, 28, 29, 30, 31, 32, 33, 34, 35, 36, 37, 38, 39, 40, 41, 42, 43, 44, 45, 46, 47, 48, 49, 50, 51, 52, 53, 54, 55, 56, 57, 58, 59, 60, 61, 62, 63] (by decide +kernel) (by decide +kernel)
set_option maxRecDepth 20000 in
theorem gX11_have_X11_isPane : GoodIn wsX11_have (wsV RX11 315 RX11 yX11_isPane wsX11_isPane) := goodIn_app (goodIn_of _ (by decide +kernel)) ggX11_have_X11_isPane
set_option maxRecDepth 20000 in
theorem ggX11_have_X11_bad : GoodIn wsX11_have wsX11_bad := goodIn_r _ [15, 1, 16, 20, 21, 22, 23, 24, 25, 26, 27, 28, 29, 30, 31, 32, 33, 34, 35, 36, 37, 38, 39, 40, 41, 42, 43, 44, 45, 46, 47, 48, 49, 50, 51, 52, 53, 54, 55, 56, 57, 58, 59, 60, 61, 62, 63] (by decide +kernel) (by decide +kernel)
set_option maxRecDepth 20000 in
theorem gX11_have_X11_bad : GoodIn wsX11_have (wsV RX11 158 RX11 yX11_bad wsX11_bad) := goodIn_app (goodIn_of _ (by decide +kernel)) ggX11_have_X11_bad
set_option maxRecDepth 20000 in
theorem ggX11_have_X11_in : GoodIn wsX11_have wsX11_in := goodIn_r _ [11] (by decide +kernel) (by decide +kernel)
set_option maxRecDepth 20000 in
theorem gX11_have_X11_in : GoodIn wsX11_have (va_wsS RX11 119 yX11_in wsX11_in) := goodIn_app (goodIn_of _ (by decide +kernel)) ggX11_have_X11_in
set_option maxRecDepth 20000 in
theorem ggX11_have_X11_onCell : GoodIn wsX11_have wsX11_onCell := goodIn_r _ [19] (by decide +kernel) (by decide +kernel)
set_option maxRecDepth 20000 in
theorem gX11_have_X11_onCell : GoodIn wsX11_have (va_wsS RX11 324 yX11_onCell wsX11_onCell) := goodIn_app (goodIn_of _ (by decide +kernel)) ggX11_have_X11_onCell
set_option maxRecDepth 20000 in
theorem ggX11_showing_X11_isPane : GoodIn wsX11_showing wsX11_isPane := goodIn_r _ [7, 8, 9, 10, 6, 11, 29, 30, 31, 32, 33, 34, 35, 36, 37, 38, 39, 40, 41, 42, 43, 44, 45, 46, 47, 48, 49, 50, 51, 52, 53, 54, 55, 56, 57, 58, 59, 60, 61, 62, 63, 64, 65, 66, 67, 68, 69, 70, 71, 72] (by decide +kernel) (by decide +kernel)
set_option maxRecDepth 20000 in
theorem gX11_showing_X11_isPane : GoodIn wsX11_showing (wsV RX11 315 RX11 yX11_isPane wsX11_isPane) := goodIn_app (goodIn_of _ (by decide +kernel)) ggX11_showing_X11_isPane
set_option maxRecDepth 20000 in
theorem ggX11_showing_X11_bad : GoodIn wsX11_showing wsX11_bad := goodIn_r _ [15, 1, 16, 29, 30, 31, 32, 33, 34, 35, 36, 37, 38, 39, 40, 41, 42, 43, 44, 45, 46, 47, 48, 49, 50, 51, 52, 53, 54, 55, 56, 57, 58, 59, 60, 61, 62, 63, 64, 65, 66, 67, 68, 69, 70, 71, 72] (by decide +kernel) (by decide +kernel)
set_option maxRecDepth 20000 in
theorem gX11_showing_X11_bad : GoodIn wsX11_showing (wsV RX11 158 RX11 yX11_bad wsX11_bad) := goodIn_app (goodIn_of _ (by decide +kernel)) ggX11_showing_X11_bad
set_option maxRecDepth 20000 in
theorem ggX11_showing_X11_in : GoodIn wsX11_showing wsX11_in := goodIn_r _ [11] (by decide +kernel) (by decide +kernel)
set_option maxRecDepth 20000 in
theorem gX11_showing_X11_in : GoodIn wsX11_showing (va_wsS RX11 119 yX11_in wsX11_in) := goodIn_app (goodIn_of _ (by decide +kernel)) ggX11_showing_X11_in
set_option maxRecDepth 20000 in
theorem ggX11_showing_X11_isOf : GoodIn wsX11_showing wsX11_isOf := goodIn_r _ [20, 21, 22, 23, 6, 24, 25, 9, 10, 11, 29, 30, 31, 32, 33, 34, 35, 36, 37, 38, 39, 40, 41, 42, 43, 44, 45, 46, 47, 48, 49, 50, 51, 52, 53, 54, 55, 56, 57, 58, 59, 60, 61, 62, 63, 64, 65, 66, 67, 68, 69, 70, 71, 72] (by decide +kernel) (by decide +kernel)
set_option maxRecDepth 20000 in
theorem gX11_showing_X11_isOf : GoodIn wsX11_showing (wsV RX11 248 RX11 yX11_isOf wsX11_isOf) := goodIn_app (goodIn_of _ (by decide +kernel)) ggX11_showing_X11_isOf
set_option maxRecDepth 20000 in
theorem ggX11_showing_X11_filmOf : GoodIn wsX11_showing wsX11_filmOf := goodIn_r _ [28] (by decide +kernel) (by decide +kernel)
set_option maxRecDepth 20000 in
theorem gX11_showing_X11_filmOf : GoodIn wsX11_showing (va_wsS RX11 244 yX11_filmOf wsX11_filmOf) := goodIn_app (goodIn_of _ (by decide +kernel)) ggX11_showing_X11_filmOf
set_option maxRecDepth 20000 in
theorem ggX11_settles_X11_noCell : GoodIn wsX11_settles wsX11_noCell := goodIn_r _ [7, 8, 9, 10, 6, 11, 12, 13, 14, 15, 16, 17, 18, 19, 1, 20, 21, 22, 23, 24, 25, 53, 54, 55, 56, 57, 58, 59, 60, 61, 62, 63, 64, 65, 66, 67, 68, 69, 70, 71, 72, 73, 74, 75, 76, 77, 78, 79, 80, 81, 82, 83, 84, 85, 86, 87, 88, 89, 90, 91, 92, 93, 94, 95, 96] (by decide +kernel) (by decide +kernel)
set_option maxRecDepth 20000 in
theorem gX11_settles_X11_noCell : GoodIn wsX11_settles (wsV RX11 318 RX11 yX11_noCell wsX11_noCell) := goodIn_app (goodIn_of _ (by decide +kernel)) ggX11_settles_X11_noCell
set_option maxRecDepth 20000 in
theorem ggX11_settles_X11_isSettling : GoodIn wsX11_settles wsX11_isSettling := goodIn_r _ [29, 30, 25, 31, 32, 6, 33, 34, 35, 36, 37, 38, 39, 40, 41, 42, 43, 44, 45, 46, 47, 48, 49, 50, 51, 52, 53, 54, 55, 56, 57, 58, 59, 60, 61, 62, 63, 64, 65, 66, 67, 68, 69, 70, 71, 72, 73, 74, 75, 76, 77, 78, 79, 80, 81, 82, 83, 84, 85, 86, 87, 88, 89, 90, 91, 92, 93, 94, 95, 96] (by decide +kernel) (by decide +kernel)
set_option maxRecDepth 20000 in
theorem gX11_settles_X11_isSettling : GoodIn wsX11_settles (wsV RX11 272 RX11 yX11_isSettling wsX11_isSettling) := goodIn_app (goodIn_of _ (by decide +kernel)) ggX11_settles_X11_isSettling
set_option maxRecDepth 20000 in
theorem ggX11_cellOfOrder_X11_cellOf : GoodIn wsX11_cellOfOrder wsX11_cellOf := goodIn_r _ [4] (by decide +kernel) (by decide +kernel)
set_option maxRecDepth 20000 in
theorem gX11_cellOfOrder_X11_cellOf : GoodIn wsX11_cellOfOrder (va_wsS RX11 321 yX11_cellOf wsX11_cellOf) := goodIn_app (goodIn_of _ (by decide +kernel)) ggX11_cellOfOrder_X11_cellOf
set_option maxRecDepth 20000 in
theorem ggX11_isShown_X11_cellOfOrder : GoodIn wsX11_isShown wsX11_cellOfOrder := goodIn_r _ [5, 6, 7, 4, 8] (by decide +kernel) (by decide +kernel)
set_option maxRecDepth 20000 in
theorem gX11_isShown_X11_cellOfOrder : GoodIn wsX11_isShown (va_wsS RX11 327 yX11_cellOfOrder wsX11_cellOfOrder) := goodIn_app (goodIn_of _ (by decide +kernel)) ggX11_isShown_X11_cellOfOrder
set_option maxRecDepth 20000 in
theorem ggX11_isShown_X11_filmOf : GoodIn wsX11_isShown wsX11_filmOf := goodIn_r _ [11] (by decide +kernel) (by decide +kernel)
set_option maxRecDepth 20000 in
theorem gX11_isShown_X11_filmOf : GoodIn wsX11_isShown (va_wsS RX11 244 yX11_filmOf wsX11_filmOf) := goodIn_app (goodIn_of _ (by decide +kernel)) ggX11_isShown_X11_filmOf
set_option maxRecDepth 20000 in
theorem ggX11_stateOf_X11_has : GoodIn wsX11_stateOf wsX11_has := goodIn_r _ [6] (by decide +kernel) (by decide +kernel)
set_option maxRecDepth 20000 in
theorem gX11_stateOf_X11_has : GoodIn wsX11_stateOf (va_wsS RX11 259 yX11_has wsX11_has) := goodIn_app (goodIn_of _ (by decide +kernel)) ggX11_stateOf_X11_has
set_option maxRecDepth 20000 in
theorem ggX11_stateOf_X11_isShown : GoodIn wsX11_stateOf wsX11_isShown := goodIn_r _ [10, 2, 11, 12, 5, 13, 14, 15, 16, 17, 18, 19, 23, 24, 25, 26, 27, 28, 29, 30, 31, 32, 33, 34, 35, 36, 37, 38, 39, 40, 41, 42, 43, 44, 45, 46, 47, 48, 49, 50, 51, 52, 53, 54, 55, 56, 57, 58, 59, 60, 61, 62, 63, 64, 65, 66] (by decide +kernel) (by decide +kernel)
set_option maxRecDepth 20000 in
theorem gX11_stateOf_X11_isShown : GoodIn wsX11_stateOf (wsV RX11 265 RX11 yX11_isShown wsX11_isShown) := goodIn_app (goodIn_of _ (by decide +kernel)) ggX11_stateOf_X11_isShown
set_option maxRecDepth 20000 in
theorem ggX11_stateOf_X11_cellOfOrder : GoodIn wsX11_stateOf wsX11_cellOfOrder := goodIn_r _ [13, 14, 15, 5, 16] (by decide +kernel) (by decide +kernel)
set_option maxRecDepth 20000 in
theorem gX11_stateOf_X11_cellOfOrder : GoodIn wsX11_stateOf (va_wsS RX11 327 yX11_cellOfOrder wsX11_cellOfOrder) := goodIn_app (goodIn_of _ (by decide +kernel)) ggX11_stateOf_X11_cellOfOrder
set_option maxRecDepth 20000 in
theorem ggX11_stateOf_X11_onCell : GoodIn wsX11_stateOf wsX11_onCell := goodIn_r _ [22] (by decide +kernel) (by decide +kernel)
set_option maxRecDepth 20000 in
theorem gX11_stateOf_X11_onCell : GoodIn wsX11_stateOf (va_wsS RX11 324 yX11_onCell wsX11_onCell) := goodIn_app (goodIn_of _ (by decide +kernel)) ggX11_stateOf_X11_onCell
set_option maxRecDepth 20000 in
theorem ggX11_order_X11_isOrder : GoodIn wsX11_order wsX11_isOrder := goodIn_r _ [7, 8, 9, 10, 6, 11, 41, 42, 43, 44, 45, 46, 47, 48, 49, 50, 51, 52, 53, 54, 55, 56, 57, 58, 59, 60, 61, 62, 63, 64, 65, 66, 67, 68, 69, 70, 71, 72, 73, 74, 75, 76, 77, 78, 79, 80, 81, 82, 83, 84] (by decide +kernel) (by decide +kernel)
set_option maxRecDepth 20000 in
theorem gX11_order_X11_isOrder : GoodIn wsX11_order (wsV RX11 330 RX11 yX11_isOrder wsX11_isOrder) := goodIn_app (goodIn_of _ (by decide +kernel)) ggX11_order_X11_isOrder
set_option maxRecDepth 20000 in
theorem ggX11_order_X11_bad : GoodIn wsX11_order wsX11_bad := goodIn_r _ [15, 1, 16, 41, 42, 43, 44, 45, 46, 47, 48, 49, 50, 51, 52, 53, 54, 55, 56, 57, 58, 59, 60, 61, 62, 63, 64, 65, 66, 67, 68, 69, 70, 71, 72, 73, 74, 75, 76, 77, 78, 79, 80, 81, 82, 83, 84] (by decide +kernel) (by decide +kernel)
set_option maxRecDepth 20000 in
theorem gX11_order_X11_bad : GoodIn wsX11_order (wsV RX11 158 RX11 yX11_bad wsX11_bad) := goodIn_app (goodIn_of _ (by decide +kernel)) ggX11_order_X11_bad
set_option maxRecDepth 20000 in
theorem ggX11_order_X11_in : GoodIn wsX11_order wsX11_in := goodIn_r _ [11] (by decide +kernel) (by decide +kernel)
set_option maxRecDepth 20000 in
theorem gX11_order_X11_in : GoodIn wsX11_order (va_wsS RX11 119 yX11_in wsX11_in) := goodIn_app (goodIn_of _ (by decide +kernel)) ggX11_order_X11_in
set_option maxRecDepth 20000 in
theorem ggX11_order_X11_stateOf : GoodIn wsX11_order wsX11_stateOf := goodIn_r _ [20, 21, 2, 22, 23, 6, 24, 25, 26, 27, 28, 29, 30, 31, 32, 33, 34, 35, 36, 37, 38, 39, 40, 41, 42, 43, 44, 45, 46, 47, 48, 49, 50, 51, 52, 53, 54, 55, 56, 57, 58, 59, 60, 61, 62, 63, 64, 65, 66, 67, 68, 69, 70, 71, 72, 73, 74, 75, 76, 77, 78, 79, 80, 81, 82, 83, 84] (by decide +kernel) (by decide +kernel)
set_option maxRecDepth 20000 in
theorem gX11_order_X11_stateOf : GoodIn wsX11_order (wsV RX11 333 RX11 yX11_stateOf wsX11_stateOf) := goodIn_app (goodIn_of _ (by decide +kernel)) ggX11_order_X11_stateOf
set_option maxRecDepth 20000 in
theorem ggX11_outsideOf_X11_filmOf : GoodIn wsX11_outsideOf wsX11_filmOf := goodIn_r _ [4] (by decide +kernel) (by decide +kernel)
set_option maxRecDepth 20000 in
theorem gX11_outsideOf_X11_filmOf : GoodIn wsX11_outsideOf (va_wsS RX11 244 yX11_filmOf wsX11_filmOf) := goodIn_app (goodIn_of _ (by decide +kernel)) ggX11_outsideOf_X11_filmOf
set_option maxRecDepth 20000 in
theorem ggX11_needs_X11_isOrder : GoodIn wsX11_needs wsX11_isOrder := goodIn_r _ [8, 9, 10, 11, 7, 12, 30, 31, 32, 33, 34, 35, 36, 37, 38, 39, 40, 41, 42, 43, 44, 45, 46, 47, 48, 49, 50, 51, 52, 53, 54, 55, 56, 57, 58, 59, 60, 61, 62, 63, 64, 65, 66, 67, 68, 69, 70, 71, 72, 73] (by decide +kernel) (by decide +kernel)
set_option maxRecDepth 20000 in
theorem gX11_needs_X11_isOrder : GoodIn wsX11_needs (wsV RX11 330 RX11 yX11_isOrder wsX11_isOrder) := goodIn_app (goodIn_of _ (by decide +kernel)) ggX11_needs_X11_isOrder
set_option maxRecDepth 20000 in
theorem ggX11_needs_X11_bad : GoodIn wsX11_needs wsX11_bad := goodIn_r _ [16, 1, 17, 30, 31, 32, 33, 34, 35, 36, 37, 38, 39, 40, 41, 42, 43, 44, 45, 46, 47, 48, 49, 50, 51, 52, 53, 54, 55, 56, 57, 58, 59, 60, 61, 62, 63, 64, 65, 66, 67, 68, 69, 70, 71, 72, 73] (by decide +kernel) (by decide +kernel)
set_option maxRecDepth 20000 in
theorem gX11_needs_X11_bad : GoodIn wsX11_needs (wsV RX11 158 RX11 yX11_bad wsX11_bad) := goodIn_app (goodIn_of _ (by decide +kernel)) ggX11_needs_X11_bad
set_option maxRecDepth 20000 in
theorem ggX11_needs_X11_cellOfOrder : GoodIn wsX11_needs wsX11_cellOfOrder := goodIn_r _ [20, 21, 22, 7, 23] (by decide +kernel) (by decide +kernel)
set_option maxRecDepth 20000 in
theorem gX11_needs_X11_cellOfOrder : GoodIn wsX11_needs (va_wsS RX11 327 yX11_cellOfOrder wsX11_cellOfOrder) := goodIn_app (goodIn_of _ (by decide +kernel)) ggX11_needs_X11_cellOfOrder
set_option maxRecDepth 20000 in
theorem ggX11_needs_X11_outsideOf : GoodIn wsX11_needs wsX11_outsideOf := goodIn_r _ [26, 27, 28, 7, 29] (by decide +kernel) (by decide +kernel)
set_option maxRecDepth 20000 in
theorem gX11_needs_X11_outsideOf : GoodIn wsX11_needs (va_wsS RX11 336 yX11_outsideOf wsX11_outsideOf) := goodIn_app (goodIn_of _ (by decide +kernel)) ggX11_needs_X11_outsideOf
set_option maxRecDepth 20000 in
theorem ggX11_lost_X11_stateOf : GoodIn wsX11_lost wsX11_stateOf := goodIn_r _ [7, 8, 9, 10, 11, 6, 12, 13, 14, 15, 16, 17, 18, 19, 20, 21, 22, 23, 24, 25, 26, 27, 28, 29, 30, 31, 32, 33, 34, 35, 36, 37, 38, 39, 40, 41, 42, 43, 44, 45, 46, 47, 48, 49, 50, 51, 52, 53, 54, 55, 56, 57, 58, 59, 60, 61, 62, 63, 64, 65, 66, 67, 68, 69, 70, 71, 72] (by decide +kernel) (by decide +kernel)
set_option maxRecDepth 20000 in
theorem gX11_lost_X11_stateOf : GoodIn wsX11_lost (wsV RX11 333 RX11 yX11_stateOf wsX11_stateOf) := goodIn_app (goodIn_of _ (by decide +kernel)) ggX11_lost_X11_stateOf
set_option maxRecDepth 20000 in
theorem ggX11_cellsOf_X11_isOf : GoodIn wsX11_cellsOf wsX11_isOf := goodIn_r _ [5, 6, 7, 8, 4, 9, 10, 11, 12, 13, 14, 15, 16, 17, 18, 19, 20, 21, 22, 23, 24, 25, 26, 27, 28, 29, 30, 31, 32, 33, 34, 35, 36, 37, 38, 39, 40, 41, 42, 43, 44, 45, 46, 47, 48, 49, 50, 51, 52, 53, 54, 55, 56, 57] (by decide +kernel) (by decide +kernel)
set_option maxRecDepth 20000 in
theorem gX11_cellsOf_X11_isOf : GoodIn wsX11_cellsOf (wsV RX11 248 RX11 yX11_isOf wsX11_isOf) := goodIn_app (goodIn_of _ (by decide +kernel)) ggX11_cellsOf_X11_isOf
set_option maxRecDepth 20000 in
theorem ggX11_areCells_X11_cellsOf : GoodIn wsX11_areCells wsX11_cellsOf := goodIn_r _ [5, 6, 7, 8, 4, 9, 10, 11, 12, 13, 14, 15, 16, 17, 18, 19, 20, 21, 22, 23, 24, 25, 26, 27, 28, 29, 30, 31, 32, 33, 34, 35, 36, 37, 38, 39, 40, 41, 42, 43, 44, 45, 46, 47, 48, 49, 50, 51, 52, 53, 54, 55, 56, 57, 58, 59, 60, 61] (by decide +kernel) (by decide +kernel)
set_option maxRecDepth 20000 in
theorem gX11_areCells_X11_cellsOf : GoodIn wsX11_areCells (wsV RX11 339 RX11 yX11_cellsOf wsX11_cellsOf) := goodIn_app (goodIn_of _ (by decide +kernel)) ggX11_areCells_X11_cellsOf
set_option maxRecDepth 20000 in
theorem ggX11_costOf_X11_has : GoodIn wsX11_costOf wsX11_has := goodIn_r _ [5] (by decide +kernel) (by decide +kernel)
set_option maxRecDepth 20000 in
theorem gX11_costOf_X11_has : GoodIn wsX11_costOf (va_wsS RX11 259 yX11_has wsX11_has) := goodIn_app (goodIn_of _ (by decide +kernel)) ggX11_costOf_X11_has
set_option maxRecDepth 20000 in
theorem ggX11_costOf_X11_outsideOf : GoodIn wsX11_costOf wsX11_outsideOf := goodIn_r _ [8, 9, 10, 4, 11] (by decide +kernel) (by decide +kernel)
set_option maxRecDepth 20000 in
theorem gX11_costOf_X11_outsideOf : GoodIn wsX11_costOf (va_wsS RX11 336 yX11_outsideOf wsX11_outsideOf) := goodIn_app (goodIn_of _ (by decide +kernel)) ggX11_costOf_X11_outsideOf
set_option maxRecDepth 20000 in
theorem ggX11_cost_X11_isPane : GoodIn wsX11_cost wsX11_isPane := goodIn_r _ [6, 7, 8, 9, 5, 10, 47, 48, 49, 50, 51, 52, 53, 54, 55, 56, 57, 58, 59, 60, 61, 62, 63, 64, 65, 66, 67, 68, 69, 70, 71, 72, 73, 74, 75, 76, 77, 78, 79, 80, 81, 82, 83, 84, 85, 86, 87, 88, 89, 90] (by decide +kernel) (by decide +kernel)
set_option maxRecDepth 20000 in
theorem gX11_cost_X11_isPane : GoodIn wsX11_cost (wsV RX11 315 RX11 yX11_isPane wsX11_isPane) := goodIn_app (goodIn_of _ (by decide +kernel)) ggX11_cost_X11_isPane
set_option maxRecDepth 20000 in
theorem ggX11_cost_X11_bad : GoodIn wsX11_cost wsX11_bad := goodIn_r _ [14, 1, 15, 47, 48, 49, 50, 51, 52, 53, 54, 55, 56, 57, 58, 59, 60, 61, 62, 63, 64, 65, 66, 67, 68, 69, 70, 71, 72, 73, 74, 75, 76, 77, 78, 79, 80, 81, 82, 83, 84, 85, 86, 87, 88, 89, 90] (by decide +kernel) (by decide +kernel)
set_option maxRecDepth 20000 in
theorem gX11_cost_X11_bad : GoodIn wsX11_cost (wsV RX11 158 RX11 yX11_bad wsX11_bad) := goodIn_app (goodIn_of _ (by decide +kernel)) ggX11_cost_X11_bad
set_option maxRecDepth 20000 in
theorem ggX11_cost_X11_areCells : GoodIn wsX11_cost wsX11_areCells := goodIn_r _ [19, 20, 21, 22, 5, 23, 24, 25, 26, 27, 28, 29, 30, 31, 32, 8, 9, 10, 47, 48, 49, 50, 51, 52, 53, 54, 55, 56, 57, 58, 59, 60, 61, 62, 63, 64, 65, 66, 67, 68, 69, 70, 71, 72, 73, 74, 75, 76, 77, 78, 79, 80, 81, 82, 83, 84, 85, 86, 87, 88, 89, 90] (by decide +kernel) (by decide +kernel)
set_option maxRecDepth 20000 in
theorem gX11_cost_X11_areCells : GoodIn wsX11_cost (wsV RX11 342 RX11 yX11_areCells wsX11_areCells) := goodIn_app (goodIn_of _ (by decide +kernel)) ggX11_cost_X11_areCells
set_option maxRecDepth 20000 in
theorem ggX11_cost_X11_in : GoodIn wsX11_cost wsX11_in := goodIn_r _ [10] (by decide +kernel) (by decide +kernel)
set_option maxRecDepth 20000 in
theorem gX11_cost_X11_in : GoodIn wsX11_cost (va_wsS RX11 119 yX11_in wsX11_in) := goodIn_app (goodIn_of _ (by decide +kernel)) ggX11_cost_X11_in
set_option maxRecDepth 20000 in
theorem ggX11_cost_X11_costOf : GoodIn wsX11_cost wsX11_costOf := goodIn_r _ [36, 37, 38, 39, 5, 40, 41, 42, 43, 44, 45, 46, 47, 48, 49, 50, 51, 52, 53, 54, 55, 56, 57, 58, 59, 60, 61, 62, 63, 64, 65, 66, 67, 68, 69, 70, 71, 72, 73, 74, 75, 76, 77, 78, 79, 80, 81, 82, 83, 84, 85, 86, 87, 88, 89, 90] (by decide +kernel) (by decide +kernel)
set_option maxRecDepth 20000 in
theorem gX11_cost_X11_costOf : GoodIn wsX11_cost (wsV RX11 345 RX11 yX11_costOf wsX11_costOf) := goodIn_app (goodIn_of _ (by decide +kernel)) ggX11_cost_X11_costOf
set_option maxRecDepth 20000 in
theorem ggX11_view_X11_isPane : GoodIn wsX11_view wsX11_isPane := goodIn_r _ [6, 7, 8, 9, 5, 10, 47, 48, 49, 50, 51, 52, 53, 54, 55, 56, 57, 58, 59, 60, 61, 62, 63, 64, 65, 66, 67, 68, 69, 70, 71, 72, 73, 74, 75, 76, 77, 78, 79, 80, 81, 82, 83, 84, 85, 86, 87, 88, 89, 90] (by decide +kernel) (by decide +kernel)
set_option maxRecDepth 20000 in
theorem gX11_view_X11_isPane : GoodIn wsX11_view (wsV RX11 315 RX11 yX11_isPane wsX11_isPane) := goodIn_app (goodIn_of _ (by decide +kernel)) ggX11_view_X11_isPane
set_option maxRecDepth 20000 in
theorem ggX11_view_X11_bad : GoodIn wsX11_view wsX11_bad := goodIn_r _ [14, 1, 15, 47, 48, 49, 50, 51, 52, 53, 54, 55, 56, 57, 58, 59, 60, 61, 62, 63, 64, 65, 66, 67, 68, 69, 70, 71, 72, 73, 74, 75, 76, 77, 78, 79, 80, 81, 82, 83, 84, 85, 86, 87, 88, 89, 90] (by decide +kernel) (by decide +kernel)
set_option maxRecDepth 20000 in
theorem gX11_view_X11_bad : GoodIn wsX11_view (wsV RX11 158 RX11 yX11_bad wsX11_bad) := goodIn_app (goodIn_of _ (by decide +kernel)) ggX11_view_X11_bad
set_option maxRecDepth 20000 in
theorem ggX11_view_X11_areCells : GoodIn wsX11_view wsX11_areCells := goodIn_r _ [19, 20, 21, 22, 5, 23, 24, 25, 26, 27, 28, 29, 30, 31, 32, 8, 9, 10, 47, 48, 49, 50, 51, 52, 53, 54, 55, 56, 57, 58, 59, 60, 61, 62, 63, 64, 65, 66, 67, 68, 69, 70, 71, 72, 73, 74, 75, 76, 77, 78, 79, 80, 81, 82, 83, 84, 85, 86, 87, 88, 89, 90] (by decide +kernel) (by decide +kernel)
set_option maxRecDepth 20000 in
theorem gX11_view_X11_areCells : GoodIn wsX11_view (wsV RX11 342 RX11 yX11_areCells wsX11_areCells) := goodIn_app (goodIn_of _ (by decide +kernel)) ggX11_view_X11_areCells
set_option maxRecDepth 20000 in
theorem ggX11_view_X11_in : GoodIn wsX11_view wsX11_in := goodIn_r _ [10] (by decide +kernel) (by decide +kernel)
set_option maxRecDepth 20000 in
theorem gX11_view_X11_in : GoodIn wsX11_view (va_wsS RX11 119 yX11_in wsX11_in) := goodIn_app (goodIn_of _ (by decide +kernel)) ggX11_view_X11_in
set_option maxRecDepth 20000 in
theorem ggX11_view_X11_costOf : GoodIn wsX11_view wsX11_costOf := goodIn_r _ [36, 37, 38, 39, 5, 40, 41, 42, 43, 44, 45, 46, 47, 48, 49, 50, 51, 52, 53, 54, 55, 56, 57, 58, 59, 60, 61, 62, 63, 64, 65, 66, 67, 68, 69, 70, 71, 72, 73, 74, 75, 76, 77, 78, 79, 80, 81, 82, 83, 84, 85, 86, 87, 88, 89, 90] (by decide +kernel) (by decide +kernel)
set_option maxRecDepth 20000 in
theorem gX11_view_X11_costOf : GoodIn wsX11_view (wsV RX11 345 RX11 yX11_costOf wsX11_costOf) := goodIn_app (goodIn_of _ (by decide +kernel)) ggX11_view_X11_costOf
set_option maxRecDepth 20000 in
theorem ggX11_seamsOf_X11_filmOf : GoodIn wsX11_seamsOf wsX11_filmOf := goodIn_r _ [4] (by decide +kernel) (by decide +kernel)
set_option maxRecDepth 20000 in
theorem gX11_seamsOf_X11_filmOf : GoodIn wsX11_seamsOf (va_wsS RX11 244 yX11_filmOf wsX11_filmOf) := goodIn_app (goodIn_of _ (by decide +kernel)) ggX11_seamsOf_X11_filmOf
set_option maxRecDepth 20000 in
theorem ggX11_seamsOf_X11_isOf : GoodIn wsX11_seamsOf wsX11_isOf := goodIn_r _ [8, 9, 10, 11, 3, 12, 13, 14, 15, 16, 17, 18, 19, 20, 21, 22, 23, 24, 25, 26, 27, 28, 29, 30, 31, 32, 33, 34, 35, 36, 37, 38, 39, 40, 41, 42, 43, 44, 45, 46, 47, 48, 49, 50, 51, 52, 53, 54, 55, 56, 57, 58, 59, 60] (by decide +kernel) (by decide +kernel)
set_option maxRecDepth 20000 in
theorem gX11_seamsOf_X11_isOf : GoodIn wsX11_seamsOf (wsV RX11 248 RX11 yX11_isOf wsX11_isOf) := goodIn_app (goodIn_of _ (by decide +kernel)) ggX11_seamsOf_X11_isOf
set_option maxRecDepth 20000 in
theorem ggX11_seamsOf_X11_isCell : GoodIn wsX11_seamsOf wsX11_isCell := goodIn_r _ [12, 13, 14, 15, 3, 16, 17, 18, 19, 20, 21, 22, 23, 24, 25, 26, 27, 28, 29, 30, 31, 32, 33, 34, 35, 36, 37, 38, 39, 40, 41, 42, 43, 44, 45, 46, 47, 48, 49, 50, 51, 52, 53, 54, 55, 56, 57, 58, 59, 60] (by decide +kernel) (by decide +kernel)
set_option maxRecDepth 20000 in
theorem gX11_seamsOf_X11_isCell : GoodIn wsX11_seamsOf (wsV RX11 237 RX11 yX11_isCell wsX11_isCell) := goodIn_app (goodIn_of _ (by decide +kernel)) ggX11_seamsOf_X11_isCell
set_option maxRecDepth 20000 in
theorem ggX11_seams_X11_isPane : GoodIn wsX11_seams wsX11_isPane := goodIn_r _ [7, 8, 9, 10, 6, 11, 33, 34, 35, 36, 37, 38, 39, 40, 41, 42, 43, 44, 45, 46, 47, 48, 49, 50, 51, 52, 53, 54, 55, 56, 57, 58, 59, 60, 61, 62, 63, 64, 65, 66, 67, 68, 69, 70, 71, 72, 73, 74, 75, 76] (by decide +kernel) (by decide +kernel)
set_option maxRecDepth 20000 in
theorem gX11_seams_X11_isPane : GoodIn wsX11_seams (wsV RX11 315 RX11 yX11_isPane wsX11_isPane) := goodIn_app (goodIn_of _ (by decide +kernel)) ggX11_seams_X11_isPane
set_option maxRecDepth 20000 in
theorem ggX11_seams_X11_bad : GoodIn wsX11_seams wsX11_bad := goodIn_r _ [15, 1, 16, 33, 34, 35, 36, 37, 38, 39, 40, 41, 42, 43, 44, 45, 46, 47, 48, 49, 50, 51, 52, 53, 54, 55, 56, 57, 58, 59, 60, 61, 62, 63, 64, 65, 66, 67, 68, 69, 70, 71, 72, 73, 74, 75, 76] (by decide +kernel) (by decide +kernel)
set_option maxRecDepth 20000 in
theorem gX11_seams_X11_bad : GoodIn wsX11_seams (wsV RX11 158 RX11 yX11_bad wsX11_bad) := goodIn_app (goodIn_of _ (by decide +kernel)) ggX11_seams_X11_bad
set_option maxRecDepth 20000 in
theorem ggX11_seams_X11_seamsOf : GoodIn wsX11_seams wsX11_seamsOf := goodIn_r _ [20, 21, 22, 6, 23, 24, 25, 26, 27, 28, 29, 30, 31, 32, 9, 10, 11, 33, 34, 35, 36, 37, 38, 39, 40, 41, 42, 43, 44, 45, 46, 47, 48, 49, 50, 51, 52, 53, 54, 55, 56, 57, 58, 59, 60, 61, 62, 63, 64, 65, 66, 67, 68, 69, 70, 71, 72, 73, 74, 75, 76] (by decide +kernel) (by decide +kernel)
set_option maxRecDepth 20000 in
theorem gX11_seams_X11_seamsOf : GoodIn wsX11_seams (wsV RX11 348 RX11 yX11_seamsOf wsX11_seamsOf) := goodIn_app (goodIn_of _ (by decide +kernel)) ggX11_seams_X11_seamsOf
set_option maxRecDepth 20000 in
theorem ggX11_sightsOf_X11_filmOf : GoodIn wsX11_sightsOf wsX11_filmOf := goodIn_r _ [4] (by decide +kernel) (by decide +kernel)
set_option maxRecDepth 20000 in
theorem gX11_sightsOf_X11_filmOf : GoodIn wsX11_sightsOf (va_wsS RX11 244 yX11_filmOf wsX11_filmOf) := goodIn_app (goodIn_of _ (by decide +kernel)) ggX11_sightsOf_X11_filmOf
set_option maxRecDepth 20000 in
theorem ggX11_sights_X11_isPane : GoodIn wsX11_sights wsX11_isPane := goodIn_r _ [7, 8, 9, 10, 6, 11, 23, 24, 25, 26, 27, 28, 29, 30, 31, 32, 33, 34, 35, 36, 37, 38, 39, 40, 41, 42, 43, 44, 45, 46, 47, 48, 49, 50, 51, 52, 53, 54, 55, 56, 57, 58, 59, 60, 61, 62, 63, 64, 65, 66] (by decide +kernel) (by decide +kernel)
set_option maxRecDepth 20000 in
theorem gX11_sights_X11_isPane : GoodIn wsX11_sights (wsV RX11 315 RX11 yX11_isPane wsX11_isPane) := goodIn_app (goodIn_of _ (by decide +kernel)) ggX11_sights_X11_isPane
set_option maxRecDepth 20000 in
theorem ggX11_sights_X11_bad : GoodIn wsX11_sights wsX11_bad := goodIn_r _ [15, 1, 16, 23, 24, 25, 26, 27, 28, 29, 30, 31, 32, 33, 34, 35, 36, 37, 38, 39, 40, 41, 42, 43, 44, 45, 46, 47, 48, 49, 50, 51, 52, 53, 54, 55, 56, 57, 58, 59, 60, 61, 62, 63, 64, 65, 66] (by decide +kernel) (by decide +kernel)
set_option maxRecDepth 20000 in
theorem gX11_sights_X11_bad : GoodIn wsX11_sights (wsV RX11 158 RX11 yX11_bad wsX11_bad) := goodIn_app (goodIn_of _ (by decide +kernel)) ggX11_sights_X11_bad
set_option maxRecDepth 20000 in
theorem ggX11_sights_X11_sightsOf : GoodIn wsX11_sights wsX11_sightsOf := goodIn_r _ [19, 20, 21, 6, 22] (by decide +kernel) (by decide +kernel)
set_option maxRecDepth 20000 in
theorem gX11_sights_X11_sightsOf : GoodIn wsX11_sights (va_wsS RX11 351 yX11_sightsOf wsX11_sightsOf) := goodIn_app (goodIn_of _ (by decide +kernel)) ggX11_sights_X11_sightsOf
set_option maxRecDepth 20000 in
theorem ggX11_alike_X11_isPane : GoodIn wsX11_alike wsX11_isPane := goodIn_r _ [7, 8, 9, 10, 6, 11, 29, 30, 31, 32, 33, 34, 35, 36, 37, 38, 39, 40, 41, 42, 43, 44, 45, 46, 47, 48, 49, 50, 51, 52, 53, 54, 55, 56, 57, 58, 59, 60, 61, 62, 63, 64, 65, 66, 67, 68, 69, 70, 71, 72] (by decide +kernel) (by decide +kernel)
set_option maxRecDepth 20000 in
theorem gX11_alike_X11_isPane : GoodIn wsX11_alike (wsV RX11 315 RX11 yX11_isPane wsX11_isPane) := goodIn_app (goodIn_of _ (by decide +kernel)) ggX11_alike_X11_isPane
set_option maxRecDepth 20000 in
theorem ggX11_alike_X11_bad : GoodIn wsX11_alike wsX11_bad := goodIn_r _ [15, 1, 16, 29, 30, 31, 32, 33, 34, 35, 36, 37, 38, 39, 40, 41, 42, 43, 44, 45, 46, 47, 48, 49, 50, 51, 52, 53, 54, 55, 56, 57, 58, 59, 60, 61, 62, 63, 64, 65, 66, 67, 68, 69, 70, 71, 72] (by decide +kernel) (by decide +kernel)
set_option maxRecDepth 20000 in
theorem gX11_alike_X11_bad : GoodIn wsX11_alike (wsV RX11 158 RX11 yX11_bad wsX11_bad) := goodIn_app (goodIn_of _ (by decide +kernel)) ggX11_alike_X11_bad
set_option maxRecDepth 20000 in
theorem ggX11_alike_X11_isOf : GoodIn wsX11_alike wsX11_isOf := goodIn_r _ [20, 21, 22, 23, 6, 24, 25, 9, 10, 11, 29, 30, 31, 32, 33, 34, 35, 36, 37, 38, 39, 40, 41, 42, 43, 44, 45, 46, 47, 48, 49, 50, 51, 52, 53, 54, 55, 56, 57, 58, 59, 60, 61, 62, 63, 64, 65, 66, 67, 68, 69, 70, 71, 72] (by decide +kernel) (by decide +kernel)
set_option maxRecDepth 20000 in
theorem gX11_alike_X11_isOf : GoodIn wsX11_alike (wsV RX11 248 RX11 yX11_isOf wsX11_isOf) := goodIn_app (goodIn_of _ (by decide +kernel)) ggX11_alike_X11_isOf
set_option maxRecDepth 20000 in
theorem ggX11_alike_X11_filmOf : GoodIn wsX11_alike wsX11_filmOf := goodIn_r _ [28] (by decide +kernel) (by decide +kernel)
set_option maxRecDepth 20000 in
theorem gX11_alike_X11_filmOf : GoodIn wsX11_alike (va_wsS RX11 244 yX11_filmOf wsX11_filmOf) := goodIn_app (goodIn_of _ (by decide +kernel)) ggX11_alike_X11_filmOf
set_option maxRecDepth 20000 in
theorem ggX11_oldest_X11_isPane : GoodIn wsX11_oldest wsX11_isPane := goodIn_r _ [7, 8, 9, 10, 6, 11, 23, 24, 25, 26, 27, 28, 29, 30, 31, 32, 33, 34, 35, 36, 37, 38, 39, 40, 41, 42, 43, 44, 45, 46, 47, 48, 49, 50, 51, 52, 53, 54, 55, 56, 57, 58, 59, 60, 61, 62, 63, 64, 65, 66] (by decide +kernel) (by decide +kernel)
set_option maxRecDepth 20000 in
theorem gX11_oldest_X11_isPane : GoodIn wsX11_oldest (wsV RX11 315 RX11 yX11_isPane wsX11_isPane) := goodIn_app (goodIn_of _ (by decide +kernel)) ggX11_oldest_X11_isPane
set_option maxRecDepth 20000 in
theorem ggX11_oldest_X11_bad : GoodIn wsX11_oldest wsX11_bad := goodIn_r _ [15, 1, 16, 23, 24, 25, 26, 27, 28, 29, 30, 31, 32, 33, 34, 35, 36, 37, 38, 39, 40, 41, 42, 43, 44, 45, 46, 47, 48, 49, 50, 51, 52, 53, 54, 55, 56, 57, 58, 59, 60, 61, 62, 63, 64, 65, 66] (by decide +kernel) (by decide +kernel)
set_option maxRecDepth 20000 in
theorem gX11_oldest_X11_bad : GoodIn wsX11_oldest (wsV RX11 158 RX11 yX11_bad wsX11_bad) := goodIn_app (goodIn_of _ (by decide +kernel)) ggX11_oldest_X11_bad
set_option maxRecDepth 20000 in
theorem ggX11_oldest_X11_in : GoodIn wsX11_oldest wsX11_in := goodIn_r _ [11] (by decide +kernel) (by decide +kernel)
set_option maxRecDepth 20000 in
theorem gX11_oldest_X11_in : GoodIn wsX11_oldest (va_wsS RX11 119 yX11_in wsX11_in) := goodIn_app (goodIn_of _ (by decide +kernel)) ggX11_oldest_X11_in
set_option maxRecDepth 20000 in
theorem ggX11_oldest_X11_onCell : GoodIn wsX11_oldest wsX11_onCell := goodIn_r _ [19] (by decide +kernel) (by decide +kernel)
set_option maxRecDepth 20000 in
theorem gX11_oldest_X11_onCell : GoodIn wsX11_oldest (va_wsS RX11 324 yX11_onCell wsX11_onCell) := goodIn_app (goodIn_of _ (by decide +kernel)) ggX11_oldest_X11_onCell
set_option maxRecDepth 20000 in
theorem ggX11_oldest_X11_filmOf : GoodIn wsX11_oldest wsX11_filmOf := goodIn_r _ [22] (by decide +kernel) (by decide +kernel)
set_option maxRecDepth 20000 in
theorem gX11_oldest_X11_filmOf : GoodIn wsX11_oldest (va_wsS RX11 244 yX11_filmOf wsX11_filmOf) := goodIn_app (goodIn_of _ (by decide +kernel)) ggX11_oldest_X11_filmOf
set_option maxRecDepth 20000 in
theorem ggX11_patchOf_X11_filmOf : GoodIn wsX11_patchOf wsX11_filmOf := goodIn_r _ [5] (by decide +kernel) (by decide +kernel)
set_option maxRecDepth 20000 in
theorem gX11_patchOf_X11_filmOf : GoodIn wsX11_patchOf (va_wsS RX11 244 yX11_filmOf wsX11_filmOf) := goodIn_app (goodIn_of _ (by decide +kernel)) ggX11_patchOf_X11_filmOf
set_option maxRecDepth 20000 in
theorem ggX11_patchOf_X11_isOf : GoodIn wsX11_patchOf wsX11_isOf := goodIn_r _ [9, 10, 11, 12, 4, 13, 14, 15, 16, 17, 24, 25, 26, 27, 28, 29, 30, 31, 32, 33, 34, 35, 36, 37, 38, 39, 40, 41, 42, 43, 44, 45, 46, 47, 48, 49, 50, 51, 52, 53, 54, 55, 56, 57, 58, 59, 60, 61, 62, 63, 64, 65, 66, 67] (by decide +kernel) (by decide +kernel)
set_option maxRecDepth 20000 in
theorem gX11_patchOf_X11_isOf : GoodIn wsX11_patchOf (wsV RX11 248 RX11 yX11_isOf wsX11_isOf) := goodIn_app (goodIn_of _ (by decide +kernel)) ggX11_patchOf_X11_isOf
set_option maxRecDepth 20000 in
theorem ggX11_patchOf_X11_has : GoodIn wsX11_patchOf wsX11_has := goodIn_r _ [20] (by decide +kernel) (by decide +kernel)
set_option maxRecDepth 20000 in
theorem gX11_patchOf_X11_has : GoodIn wsX11_patchOf (va_wsS RX11 259 yX11_has wsX11_has) := goodIn_app (goodIn_of _ (by decide +kernel)) ggX11_patchOf_X11_has
set_option maxRecDepth 20000 in
theorem ggX11_patchOf_X11_far : GoodIn wsX11_patchOf wsX11_far := goodIn_r _ [23] (by decide +kernel) (by decide +kernel)
set_option maxRecDepth 20000 in
theorem gX11_patchOf_X11_far : GoodIn wsX11_patchOf (va_wsS RX11 252 yX11_far wsX11_far) := goodIn_app (goodIn_of _ (by decide +kernel)) ggX11_patchOf_X11_far
set_option maxRecDepth 20000 in
theorem ggX11_patch_X11_isPane : GoodIn wsX11_patch wsX11_isPane := goodIn_r _ [7, 8, 9, 10, 6, 11, 39, 40, 41, 42, 43, 44, 45, 46, 47, 48, 49, 50, 51, 52, 53, 54, 55, 56, 57, 58, 59, 60, 61, 62, 63, 64, 65, 66, 67, 68, 69, 70, 71, 72, 73, 74, 75, 76, 77, 78, 79, 80, 81, 82] (by decide +kernel) (by decide +kernel)
set_option maxRecDepth 20000 in
theorem gX11_patch_X11_isPane : GoodIn wsX11_patch (wsV RX11 315 RX11 yX11_isPane wsX11_isPane) := goodIn_app (goodIn_of _ (by decide +kernel)) ggX11_patch_X11_isPane
set_option maxRecDepth 20000 in
theorem ggX11_patch_X11_bad : GoodIn wsX11_patch wsX11_bad := goodIn_r _ [15, 1, 16, 39, 40, 41, 42, 43, 44, 45, 46, 47, 48, 49, 50, 51, 52, 53, 54, 55, 56, 57, 58, 59, 60, 61, 62, 63, 64, 65, 66, 67, 68, 69, 70, 71, 72, 73, 74, 75, 76, 77, 78, 79, 80, 81, 82] (by decide +kernel) (by decide +kernel)
set_option maxRecDepth 20000 in
theorem gX11_patch_X11_bad : GoodIn wsX11_patch (wsV RX11 158 RX11 yX11_bad wsX11_bad) := goodIn_app (goodIn_of _ (by decide +kernel)) ggX11_patch_X11_bad
set_option maxRecDepth 20000 in
theorem ggX11_patch_X11_in : GoodIn wsX11_patch wsX11_in := goodIn_r _ [11] (by decide +kernel) (by decide +kernel)
set_option maxRecDepth 20000 in
theorem gX11_patch_X11_in : GoodIn wsX11_patch (va_wsS RX11 119 yX11_in wsX11_in) := goodIn_app (goodIn_of _ (by decide +kernel)) ggX11_patch_X11_in
set_option maxRecDepth 20000 in
theorem ggX11_patch_X11_filmOf : GoodIn wsX11_patch wsX11_filmOf := goodIn_r _ [19] (by decide +kernel) (by decide +kernel)
set_option maxRecDepth 20000 in
theorem gX11_patch_X11_filmOf : GoodIn wsX11_patch (va_wsS RX11 244 yX11_filmOf wsX11_filmOf) := goodIn_app (goodIn_of _ (by decide +kernel)) ggX11_patch_X11_filmOf
set_option maxRecDepth 20000 in
theorem ggX11_patch_X11_patchOf : GoodIn wsX11_patch wsX11_patchOf := goodIn_r _ [23, 2, 17, 18, 6, 19, 24, 25, 26, 27, 28, 29, 30, 31, 32, 9, 10, 11, 33, 34, 35, 36, 37, 38, 39, 40, 41, 42, 43, 44, 45, 46, 47, 48, 49, 50, 51, 52, 53, 54, 55, 56, 57, 58, 59, 60, 61, 62, 63, 64, 65, 66, 67, 68, 69, 70, 71, 72, 73, 74, 75, 76, 77, 78, 79, 80, 81, 82] (by decide +kernel) (by decide +kernel)
set_option maxRecDepth 20000 in
theorem gX11_patch_X11_patchOf : GoodIn wsX11_patch (wsV RX11 354 RX11 yX11_patchOf wsX11_patchOf) := goodIn_app (goodIn_of _ (by decide +kernel)) ggX11_patch_X11_patchOf
set_option maxRecDepth 20000 in
theorem ggX11_isToldBy_X11_isCell : GoodIn wsX11_isToldBy wsX11_isCell := goodIn_r _ [8, 9, 10, 11, 7, 12, 19, 20, 21, 22, 23, 24, 25, 26, 27, 28, 29, 30, 31, 32, 33, 34, 35, 36, 37, 38, 39, 40, 41, 42, 43, 44, 45, 46, 47, 48, 49, 50, 51, 52, 53, 54, 55, 56, 57, 58, 59, 60, 61, 62] (by decide +kernel) (by decide +kernel)
set_option maxRecDepth 20000 in
theorem gX11_isToldBy_X11_isCell : GoodIn wsX11_isToldBy (wsV RX11 237 RX11 yX11_isCell wsX11_isCell) := goodIn_app (goodIn_of _ (by decide +kernel)) ggX11_isToldBy_X11_isCell
set_option maxRecDepth 20000 in
theorem ggX11_isToldBy_X11_cellOf : GoodIn wsX11_isToldBy wsX11_cellOf := goodIn_r _ [15] (by decide +kernel) (by decide +kernel)
set_option maxRecDepth 20000 in
theorem gX11_isToldBy_X11_cellOf : GoodIn wsX11_isToldBy (va_wsS RX11 321 yX11_cellOf wsX11_cellOf) := goodIn_app (goodIn_of _ (by decide +kernel)) ggX11_isToldBy_X11_cellOf
set_option maxRecDepth 20000 in
theorem ggX11_isToldBy_X11_filmOf : GoodIn wsX11_isToldBy wsX11_filmOf := goodIn_r _ [18] (by decide +kernel) (by decide +kernel)
set_option maxRecDepth 20000 in
theorem gX11_isToldBy_X11_filmOf : GoodIn wsX11_isToldBy (va_wsS RX11 244 yX11_filmOf wsX11_filmOf) := goodIn_app (goodIn_of _ (by decide +kernel)) ggX11_isToldBy_X11_filmOf
set_option maxRecDepth 20000 in
theorem ggX11_depthsOf_X11_isToldBy : GoodIn wsX11_depthsOf wsX11_isToldBy := goodIn_r _ [5, 6, 7, 8, 9, 10, 11, 4, 12, 13, 14, 15, 16, 17, 18, 19, 20, 21, 22, 23, 24, 25, 26, 27, 28, 29, 30, 31, 32, 33, 34, 35, 36, 37, 38, 39, 40, 41, 42, 43, 44, 45, 46, 47, 48, 49, 50, 51, 52, 53, 54, 55, 56, 57, 58, 59, 60, 61, 62, 63, 64, 65, 66] (by decide +kernel) (by decide +kernel)
set_option maxRecDepth 20000 in
theorem gX11_depthsOf_X11_isToldBy : GoodIn wsX11_depthsOf (wsV RX11 357 RX11 yX11_isToldBy wsX11_isToldBy) := goodIn_app (goodIn_of _ (by decide +kernel)) ggX11_depthsOf_X11_isToldBy
set_option maxRecDepth 20000 in
theorem ggX11_tells_X11_isPane : GoodIn wsX11_tells wsX11_isPane := goodIn_r _ [6, 7, 8, 9, 5, 10, 38, 39, 40, 41, 42, 43, 44, 45, 46, 47, 48, 49, 50, 51, 52, 53, 54, 55, 56, 57, 58, 59, 60, 61, 62, 63, 64, 65, 66, 67, 68, 69, 70, 71, 72, 73, 74, 75, 76, 77, 78, 79, 80, 81] (by decide +kernel) (by decide +kernel)
set_option maxRecDepth 20000 in
theorem gX11_tells_X11_isPane : GoodIn wsX11_tells (wsV RX11 315 RX11 yX11_isPane wsX11_isPane) := goodIn_app (goodIn_of _ (by decide +kernel)) ggX11_tells_X11_isPane
set_option maxRecDepth 20000 in
theorem ggX11_tells_X11_bad : GoodIn wsX11_tells wsX11_bad := goodIn_r _ [14, 1, 15, 38, 39, 40, 41, 42, 43, 44, 45, 46, 47, 48, 49, 50, 51, 52, 53, 54, 55, 56, 57, 58, 59, 60, 61, 62, 63, 64, 65, 66, 67, 68, 69, 70, 71, 72, 73, 74, 75, 76, 77, 78, 79, 80, 81] (by decide +kernel) (by decide +kernel)
set_option maxRecDepth 20000 in
theorem gX11_tells_X11_bad : GoodIn wsX11_tells (wsV RX11 158 RX11 yX11_bad wsX11_bad) := goodIn_app (goodIn_of _ (by decide +kernel)) ggX11_tells_X11_bad
set_option maxRecDepth 20000 in
theorem ggX11_tells_X11_depthsOf : GoodIn wsX11_tells wsX11_depthsOf := goodIn_r _ [19, 20, 21, 22, 5, 23, 24, 25, 26, 27, 28, 29, 30, 31, 8, 9, 10, 32, 33, 34, 35, 36, 37, 38, 39, 40, 41, 42, 43, 44, 45, 46, 47, 48, 49, 50, 51, 52, 53, 54, 55, 56, 57, 58, 59, 60, 61, 62, 63, 64, 65, 66, 67, 68, 69, 70, 71, 72, 73, 74, 75, 76, 77, 78, 79, 80, 81] (by decide +kernel) (by decide +kernel)
set_option maxRecDepth 20000 in
theorem gX11_tells_X11_depthsOf : GoodIn wsX11_tells (wsV RX11 360 RX11 yX11_depthsOf wsX11_depthsOf) := goodIn_app (goodIn_of _ (by decide +kernel)) ggX11_tells_X11_depthsOf
set_option maxRecDepth 20000 in
theorem ggX11_worstOf_X11_has : GoodIn wsX11_worstOf wsX11_has := goodIn_r _ [5] (by decide +kernel) (by decide +kernel)
set_option maxRecDepth 20000 in
theorem gX11_worstOf_X11_has : GoodIn wsX11_worstOf (va_wsS RX11 259 yX11_has wsX11_has) := goodIn_app (goodIn_of _ (by decide +kernel)) ggX11_worstOf_X11_has
set_option maxRecDepth 20000 in
theorem ggX11_worstOf_X11_filmOf : GoodIn wsX11_worstOf wsX11_filmOf := goodIn_r _ [8] (by decide +kernel) (by decide +kernel)
set_option maxRecDepth 20000 in
theorem gX11_worstOf_X11_filmOf : GoodIn wsX11_worstOf (va_wsS RX11 244 yX11_filmOf wsX11_filmOf) := goodIn_app (goodIn_of _ (by decide +kernel)) ggX11_worstOf_X11_filmOf
set_option maxRecDepth 20000 in
theorem ggX11_worstOf_X11_more : GoodIn wsX11_worstOf wsX11_more := goodIn_r _ [11] (by decide +kernel) (by decide +kernel)
set_option maxRecDepth 20000 in
theorem gX11_worstOf_X11_more : GoodIn wsX11_worstOf (va_wsS RX11 221 yX11_more wsX11_more) := goodIn_app (goodIn_of _ (by decide +kernel)) ggX11_worstOf_X11_more
set_option maxRecDepth 20000 in
theorem ggX11_look_X11_isPane : GoodIn wsX11_look wsX11_isPane := goodIn_r _ [6, 7, 8, 9, 5, 10, 56, 57, 58, 59, 60, 61, 62, 63, 64, 65, 66, 67, 68, 69, 70, 71, 72, 73, 74, 75, 76, 77, 78, 79, 80, 81, 82, 83, 84, 85, 86, 87, 88, 89, 90, 91, 92, 93, 94, 95, 96, 97, 98, 99] (by decide +kernel) (by decide +kernel)
set_option maxRecDepth 20000 in
theorem gX11_look_X11_isPane : GoodIn wsX11_look (wsV RX11 315 RX11 yX11_isPane wsX11_isPane) := goodIn_app (goodIn_of _ (by decide +kernel)) ggX11_look_X11_isPane
set_option maxRecDepth 20000 in
theorem ggX11_look_X11_bad : GoodIn wsX11_look wsX11_bad := goodIn_r _ [14, 1, 15, 56, 57, 58, 59, 60, 61, 62, 63, 64, 65, 66, 67, 68, 69, 70, 71, 72, 73, 74, 75, 76, 77, 78, 79, 80, 81, 82, 83, 84, 85, 86, 87, 88, 89, 90, 91, 92, 93, 94, 95, 96, 97, 98, 99] (by decide +kernel) (by decide +kernel)
set_option maxRecDepth 20000 in
theorem gX11_look_X11_bad : GoodIn wsX11_look (wsV RX11 158 RX11 yX11_bad wsX11_bad) := goodIn_app (goodIn_of _ (by decide +kernel)) ggX11_look_X11_bad
set_option maxRecDepth 20000 in
theorem ggX11_look_X11_in : GoodIn wsX11_look wsX11_in := goodIn_r _ [10] (by decide +kernel) (by decide +kernel)
set_option maxRecDepth 20000 in
theorem gX11_look_X11_in : GoodIn wsX11_look (va_wsS RX11 119 yX11_in wsX11_in) := goodIn_app (goodIn_of _ (by decide +kernel)) ggX11_look_X11_in
set_option maxRecDepth 20000 in
theorem ggX11_look_X11_depthsOf : GoodIn wsX11_look wsX11_depthsOf := goodIn_r _ [19, 20, 21, 22, 5, 23, 24, 25, 26, 27, 28, 29, 30, 31, 8, 9, 10, 32, 33, 34, 35, 36, 37, 56, 57, 58, 59, 60, 61, 62, 63, 64, 65, 66, 67, 68, 69, 70, 71, 72, 73, 74, 75, 76, 77, 78, 79, 80, 81, 82, 83, 84, 85, 86, 87, 88, 89, 90, 91, 92, 93, 94, 95, 96, 97, 98, 99] (by decide +kernel) (by decide +kernel)
set_option maxRecDepth 20000 in
theorem gX11_look_X11_depthsOf : GoodIn wsX11_look (wsV RX11 360 RX11 yX11_depthsOf wsX11_depthsOf) := goodIn_app (goodIn_of _ (by decide +kernel)) ggX11_look_X11_depthsOf
set_option maxRecDepth 20000 in
theorem ggX11_look_X11_isOf : GoodIn wsX11_look wsX11_isOf := goodIn_r _ [41, 27, 28, 29, 5, 30, 31, 8, 9, 10, 56, 57, 58, 59, 60, 61, 62, 63, 64, 65, 66, 67, 68, 69, 70, 71, 72, 73, 74, 75, 76, 77, 78, 79, 80, 81, 82, 83, 84, 85, 86, 87, 88, 89, 90, 91, 92, 93, 94, 95, 96, 97, 98, 99] (by decide +kernel) (by decide +kernel)
set_option maxRecDepth 20000 in
theorem gX11_look_X11_isOf : GoodIn wsX11_look (wsV RX11 248 RX11 yX11_isOf wsX11_isOf) := goodIn_app (goodIn_of _ (by decide +kernel)) ggX11_look_X11_isOf
set_option maxRecDepth 20000 in
theorem ggX11_look_X11_isInBook : GoodIn wsX11_look wsX11_isInBook := goodIn_r _ [45, 24, 25, 56, 57, 58, 59, 60, 61, 62, 63, 64, 65, 66, 67, 68, 69, 70, 71, 72, 73, 74, 75, 76, 77, 78, 79, 80, 81, 82, 83, 84, 85, 86, 87, 88, 89, 90, 91, 92, 93, 94, 95, 96, 97, 98, 99] (by decide +kernel) (by decide +kernel)
set_option maxRecDepth 20000 in
theorem gX11_look_X11_isInBook : GoodIn wsX11_look (wsV RX11 363 RX11 yX11_isInBook wsX11_isInBook) := goodIn_app (goodIn_of _ (by decide +kernel)) ggX11_look_X11_isInBook
set_option maxRecDepth 20000 in
theorem ggX11_look_X11_worstOf : GoodIn wsX11_look wsX11_worstOf := goodIn_r _ [49, 26, 50, 51, 5, 52, 35, 36, 37, 53, 54, 55, 56, 57, 58, 59, 60, 61, 62, 63, 64, 65, 66, 67, 68, 69, 70, 71, 72, 73, 74, 75, 76, 77, 78, 79, 80, 81, 82, 83, 84, 85, 86, 87, 88, 89, 90, 91, 92, 93, 94, 95, 96, 97, 98, 99] (by decide +kernel) (by decide +kernel)
set_option maxRecDepth 20000 in
theorem gX11_look_X11_worstOf : GoodIn wsX11_look (wsV RX11 366 RX11 yX11_worstOf wsX11_worstOf) := goodIn_app (goodIn_of _ (by decide +kernel)) ggX11_look_X11_worstOf
set_option maxRecDepth 20000 in
theorem ggX11_circleOf_X11_isOf : GoodIn wsX11_circleOf wsX11_isOf := goodIn_r _ [5, 6, 7, 8, 4, 9, 10, 11, 12, 13, 17, 18, 19, 20, 21, 22, 23, 24, 25, 26, 27, 28, 29, 30, 31, 32, 33, 34, 35, 36, 37, 38, 39, 40, 41, 42, 43, 44, 45, 46, 47, 48, 49, 50, 51, 52, 53, 54, 55, 56, 57, 58, 59, 60] (by decide +kernel) (by decide +kernel)
set_option maxRecDepth 20000 in
theorem gX11_circleOf_X11_isOf : GoodIn wsX11_circleOf (wsV RX11 248 RX11 yX11_isOf wsX11_isOf) := goodIn_app (goodIn_of _ (by decide +kernel)) ggX11_circleOf_X11_isOf
set_option maxRecDepth 20000 in
theorem ggX11_circleOf_X11_far : GoodIn wsX11_circleOf wsX11_far := goodIn_r _ [16] (by decide +kernel) (by decide +kernel)
set_option maxRecDepth 20000 in
theorem gX11_circleOf_X11_far : GoodIn wsX11_circleOf (va_wsS RX11 252 yX11_far wsX11_far) := goodIn_app (goodIn_of _ (by decide +kernel)) ggX11_circleOf_X11_far
set_option maxRecDepth 20000 in
theorem ggX11_covers_X11_isOf : GoodIn wsX11_covers wsX11_isOf := goodIn_r _ [6, 7, 8, 9, 5, 10, 11, 12, 13, 14, 25, 26, 27, 28, 29, 30, 31, 32, 33, 34, 35, 36, 37, 38, 39, 40, 41, 42, 43, 44, 45, 46, 47, 48, 49, 50, 51, 52, 53, 54, 55, 56, 57, 58, 59, 60, 61, 62, 63, 64, 65, 66, 67, 68] (by decide +kernel) (by decide +kernel)
set_option maxRecDepth 20000 in
theorem gX11_covers_X11_isOf : GoodIn wsX11_covers (wsV RX11 248 RX11 yX11_isOf wsX11_isOf) := goodIn_app (goodIn_of _ (by decide +kernel)) ggX11_covers_X11_isOf
set_option maxRecDepth 20000 in
theorem ggX11_covers_X11_circleOf : GoodIn wsX11_covers wsX11_circleOf := goodIn_r _ [18, 2, 3, 4, 5, 6, 7, 8, 9, 10, 11, 12, 13, 14, 19, 20, 21, 25, 26, 27, 28, 29, 30, 31, 32, 33, 34, 35, 36, 37, 38, 39, 40, 41, 42, 43, 44, 45, 46, 47, 48, 49, 50, 51, 52, 53, 54, 55, 56, 57, 58, 59, 60, 61, 62, 63, 64, 65, 66, 67, 68] (by decide +kernel) (by decide +kernel)
set_option maxRecDepth 20000 in
theorem gX11_covers_X11_circleOf : GoodIn wsX11_covers (wsV RX11 372 RX11 yX11_circleOf wsX11_circleOf) := goodIn_app (goodIn_of _ (by decide +kernel)) ggX11_covers_X11_circleOf
set_option maxRecDepth 20000 in
theorem ggX11_covers_X11_covers : GoodIn wsX11_covers wsX11_covers := goodIn_r _ [0, 1, 2, 3, 4, 5, 6, 7, 8, 9, 10, 11, 12, 13, 14, 15, 16, 17, 18, 19, 20, 21, 22, 23, 24, 25, 26, 27, 28, 29, 30, 31, 32, 33, 34, 35, 36, 37, 38, 39, 40, 41, 42, 43, 44, 45, 46, 47, 48, 49, 50, 51, 52, 53, 54, 55, 56, 57, 58, 59, 60, 61, 62, 63, 64, 65, 66, 67, 68] (by decide +kernel) (by decide +kernel)
set_option maxRecDepth 20000 in
theorem gX11_covers_X11_covers : GoodIn wsX11_covers (wsV RX11 375 RX11 yX11_covers wsX11_covers) := goodIn_app (goodIn_of _ (by decide +kernel)) ggX11_covers_X11_covers
set_option maxRecDepth 20000 in
theorem ggX11_cover_X11_isPane : GoodIn wsX11_cover wsX11_isPane := goodIn_r _ [7, 8, 9, 10, 6, 11, 45, 46, 47, 48, 49, 50, 51, 52, 53, 54, 55, 56, 57, 58, 59, 60, 61, 62, 63, 64, 65, 66, 67, 68, 69, 70, 71, 72, 73, 74, 75, 76, 77, 78, 79, 80, 81, 82, 83, 84, 85, 86, 87, 88] (by decide +kernel) (by decide +kernel)
set_option maxRecDepth 20000 in
theorem gX11_cover_X11_isPane : GoodIn wsX11_cover (wsV RX11 315 RX11 yX11_isPane wsX11_isPane) := goodIn_app (goodIn_of _ (by decide +kernel)) ggX11_cover_X11_isPane
set_option maxRecDepth 20000 in
theorem ggX11_cover_X11_bad : GoodIn wsX11_cover wsX11_bad := goodIn_r _ [15, 1, 16, 45, 46, 47, 48, 49, 50, 51, 52, 53, 54, 55, 56, 57, 58, 59, 60, 61, 62, 63, 64, 65, 66, 67, 68, 69, 70, 71, 72, 73, 74, 75, 76, 77, 78, 79, 80, 81, 82, 83, 84, 85, 86, 87, 88] (by decide +kernel) (by decide +kernel)
set_option maxRecDepth 20000 in
theorem gX11_cover_X11_bad : GoodIn wsX11_cover (wsV RX11 158 RX11 yX11_bad wsX11_bad) := goodIn_app (goodIn_of _ (by decide +kernel)) ggX11_cover_X11_bad
set_option maxRecDepth 20000 in
theorem ggX11_cover_X11_areCells : GoodIn wsX11_cover wsX11_areCells := goodIn_r _ [20, 21, 22, 23, 6, 24, 25, 26, 27, 28, 29, 30, 31, 32, 33, 9, 10, 11, 45, 46, 47, 48, 49, 50, 51, 52, 53, 54, 55, 56, 57, 58, 59, 60, 61, 62, 63, 64, 65, 66, 67, 68, 69, 70, 71, 72, 73, 74, 75, 76, 77, 78, 79, 80, 81, 82, 83, 84, 85, 86, 87, 88] (by decide +kernel) (by decide +kernel)
set_option maxRecDepth 20000 in
theorem gX11_cover_X11_areCells : GoodIn wsX11_cover (wsV RX11 342 RX11 yX11_areCells wsX11_areCells) := goodIn_app (goodIn_of _ (by decide +kernel)) ggX11_cover_X11_areCells
set_option maxRecDepth 20000 in
theorem ggX11_cover_X11_in : GoodIn wsX11_cover wsX11_in := goodIn_r _ [11] (by decide +kernel) (by decide +kernel)
set_option maxRecDepth 20000 in
theorem gX11_cover_X11_in : GoodIn wsX11_cover (va_wsS RX11 119 yX11_in wsX11_in) := goodIn_app (goodIn_of _ (by decide +kernel)) ggX11_cover_X11_in
set_option maxRecDepth 20000 in
theorem ggX11_cover_X11_covers : GoodIn wsX11_cover wsX11_covers := goodIn_r _ [37, 2, 25, 26, 27, 6, 28, 29, 30, 31, 32, 33, 9, 10, 11, 38, 39, 40, 41, 42, 43, 44, 34, 35, 36, 45, 46, 47, 48, 49, 50, 51, 52, 53, 54, 55, 56, 57, 58, 59, 60, 61, 62, 63, 64, 65, 66, 67, 68, 69, 70, 71, 72, 73, 74, 75, 76, 77, 78, 79, 80, 81, 82, 83, 84, 85, 86, 87, 88] (by decide +kernel) (by decide +kernel)
set_option maxRecDepth 20000 in
theorem gX11_cover_X11_covers : GoodIn wsX11_cover (wsV RX11 375 RX11 yX11_covers wsX11_covers) := goodIn_app (goodIn_of _ (by decide +kernel)) ggX11_cover_X11_covers
set_option maxRecDepth 20000 in
theorem ggX11_game_X11_isPane : GoodIn wsX11_game wsX11_isPane := goodIn_r _ [7, 8, 9, 10, 6, 11, 17, 18, 19, 20, 21, 22, 23, 24, 25, 26, 27, 28, 29, 30, 31, 32, 33, 34, 35, 36, 37, 38, 39, 40, 41, 42, 43, 44, 45, 46, 47, 48, 49, 50, 51, 52, 53, 54, 55, 56, 57, 58, 59, 60] (by decide +kernel) (by decide +kernel)
set_option maxRecDepth 20000 in
theorem gX11_game_X11_isPane : GoodIn wsX11_game (wsV RX11 315 RX11 yX11_isPane wsX11_isPane) := goodIn_app (goodIn_of _ (by decide +kernel)) ggX11_game_X11_isPane
set_option maxRecDepth 20000 in
theorem ggX11_game_X11_bad : GoodIn wsX11_game wsX11_bad := goodIn_r _ [15, 1, 16, 17, 18, 19, 20, 21, 22, 23, 24, 25, 26, 27, 28, 29, 30, 31, 32, 33, 34, 35, 36, 37, 38, 39, 40, 41, 42, 43, 44, 45, 46, 47, 48, 49, 50, 51, 52, 53, 54, 55, 56, 57, 58, 59, 60] (by decide +kernel) (by decide +kernel)
set_option maxRecDepth 20000 in
theorem gX11_game_X11_bad : GoodIn wsX11_game (wsV RX11 158 RX11 yX11_bad wsX11_bad) := goodIn_app (goodIn_of _ (by decide +kernel)) ggX11_game_X11_bad
set_option maxRecDepth 20000 in
theorem ggX11_game_X11_in : GoodIn wsX11_game wsX11_in := goodIn_r _ [11] (by decide +kernel) (by decide +kernel)
set_option maxRecDepth 20000 in
theorem gX11_game_X11_in : GoodIn wsX11_game (va_wsS RX11 119 yX11_in wsX11_in) := goodIn_app (goodIn_of _ (by decide +kernel)) ggX11_game_X11_in
set_option maxRecDepth 20000 in
theorem ggX11_wayTo_X11_far : GoodIn wsX11_wayTo wsX11_far := goodIn_r _ [6] (by decide +kernel) (by decide +kernel)
set_option maxRecDepth 20000 in
theorem gX11_wayTo_X11_far : GoodIn wsX11_wayTo (va_wsS RX11 252 yX11_far wsX11_far) := goodIn_app (goodIn_of _ (by decide +kernel)) ggX11_wayTo_X11_far
set_option maxRecDepth 20000 in
theorem ggX11_rounds_X11_has : GoodIn wsX11_rounds wsX11_has := goodIn_r _ [7] (by decide +kernel) (by decide +kernel)
set_option maxRecDepth 20000 in
theorem gX11_rounds_X11_has : GoodIn wsX11_rounds (va_wsS RX11 259 yX11_has wsX11_has) := goodIn_app (goodIn_of _ (by decide +kernel)) ggX11_rounds_X11_has
set_option maxRecDepth 20000 in
theorem ggX11_rounds_X11_wayTo : GoodIn wsX11_rounds wsX11_wayTo := goodIn_r _ [11, 3, 12, 13, 14, 6, 15, 19, 20, 21, 22, 23, 24, 25, 26, 27, 28, 29, 30, 31, 32, 33, 34, 35, 36, 37, 38, 39, 40, 41, 42, 43, 44, 45, 46, 47, 48, 49, 50, 51, 52, 53, 54, 55, 56, 57, 58, 59, 60, 61, 62] (by decide +kernel) (by decide +kernel)
set_option maxRecDepth 20000 in
theorem gX11_rounds_X11_wayTo : GoodIn wsX11_rounds (wsV RX11 384 RX11 yX11_wayTo wsX11_wayTo) := goodIn_app (goodIn_of _ (by decide +kernel)) ggX11_rounds_X11_wayTo
set_option maxRecDepth 20000 in
theorem ggX11_rounds_X11_rounds : GoodIn wsX11_rounds wsX11_rounds := goodIn_r _ [0, 1, 2, 3, 4, 5, 6, 7, 8, 9, 10, 11, 12, 13, 14, 15, 16, 17, 18, 19, 20, 21, 22, 23, 24, 25, 26, 27, 28, 29, 30, 31, 32, 33, 34, 35, 36, 37, 38, 39, 40, 41, 42, 43, 44, 45, 46, 47, 48, 49, 50, 51, 52, 53, 54, 55, 56, 57, 58, 59, 60, 61, 62] (by decide +kernel) (by decide +kernel)
set_option maxRecDepth 20000 in
theorem gX11_rounds_X11_rounds : GoodIn wsX11_rounds (wsV RX11 387 RX11 yX11_rounds wsX11_rounds) := goodIn_app (goodIn_of _ (by decide +kernel)) ggX11_rounds_X11_rounds
set_option maxRecDepth 20000 in
theorem ggX11_areOrders_X11_in : GoodIn wsX11_areOrders wsX11_in := goodIn_r _ [5] (by decide +kernel) (by decide +kernel)
set_option maxRecDepth 20000 in
theorem gX11_areOrders_X11_in : GoodIn wsX11_areOrders (va_wsS RX11 119 yX11_in wsX11_in) := goodIn_app (goodIn_of _ (by decide +kernel)) ggX11_areOrders_X11_in
set_option maxRecDepth 20000 in
theorem ggX11_panesOf_X11_has : GoodIn wsX11_panesOf wsX11_has := goodIn_r _ [6] (by decide +kernel) (by decide +kernel)
set_option maxRecDepth 20000 in
theorem gX11_panesOf_X11_has : GoodIn wsX11_panesOf (va_wsS RX11 259 yX11_has wsX11_has) := goodIn_app (goodIn_of _ (by decide +kernel)) ggX11_panesOf_X11_has
set_option maxRecDepth 20000 in
theorem ggX11_round_X11_areOrders : GoodIn wsX11_round wsX11_areOrders := goodIn_r _ [8, 9, 10, 11, 7, 12, 38, 39, 40, 41, 42, 43, 44, 45, 46, 47, 48, 49, 50, 51, 52, 53, 54, 55, 56, 57, 58, 59, 60, 61, 62, 63, 64, 65, 66, 67, 68, 69, 70, 71, 72, 73, 74, 75, 76, 77, 78, 79, 80, 81] (by decide +kernel) (by decide +kernel)
set_option maxRecDepth 20000 in
theorem gX11_round_X11_areOrders : GoodIn wsX11_round (wsV RX11 391 RX11 yX11_areOrders wsX11_areOrders) := goodIn_app (goodIn_of _ (by decide +kernel)) ggX11_round_X11_areOrders
set_option maxRecDepth 20000 in
theorem ggX11_round_X11_in : GoodIn wsX11_round wsX11_in := goodIn_r _ [12] (by decide +kernel) (by decide +kernel)
set_option maxRecDepth 20000 in
theorem gX11_round_X11_in : GoodIn wsX11_round (va_wsS RX11 119 yX11_in wsX11_in) := goodIn_app (goodIn_of _ (by decide +kernel)) ggX11_round_X11_in
set_option maxRecDepth 20000 in
theorem ggX11_round_X11_bad : GoodIn wsX11_round wsX11_bad := goodIn_r _ [16, 1, 17, 38, 39, 40, 41, 42, 43, 44, 45, 46, 47, 48, 49, 50, 51, 52, 53, 54, 55, 56, 57, 58, 59, 60, 61, 62, 63, 64, 65, 66, 67, 68, 69, 70, 71, 72, 73, 74, 75, 76, 77, 78, 79, 80, 81] (by decide +kernel) (by decide +kernel)
set_option maxRecDepth 20000 in
theorem gX11_round_X11_bad : GoodIn wsX11_round (wsV RX11 158 RX11 yX11_bad wsX11_bad) := goodIn_app (goodIn_of _ (by decide +kernel)) ggX11_round_X11_bad
set_option maxRecDepth 20000 in
theorem ggX11_round_X11_panesOf : GoodIn wsX11_round wsX11_panesOf := goodIn_r _ [21, 9, 22, 23, 24, 7, 25, 38, 39, 40, 41, 42, 43, 44, 45, 46, 47, 48, 49, 50, 51, 52, 53, 54, 55, 56, 57, 58, 59, 60, 61, 62, 63, 64, 65, 66, 67, 68, 69, 70, 71, 72, 73, 74, 75, 76, 77, 78, 79, 80, 81] (by decide +kernel) (by decide +kernel)
set_option maxRecDepth 20000 in
theorem gX11_round_X11_panesOf : GoodIn wsX11_round (wsV RX11 394 RX11 yX11_panesOf wsX11_panesOf) := goodIn_app (goodIn_of _ (by decide +kernel)) ggX11_round_X11_panesOf
set_option maxRecDepth 20000 in
theorem ggX11_round_X11_rounds : GoodIn wsX11_round wsX11_rounds := goodIn_r _ [29, 2, 3, 9, 23, 24, 7, 25, 30, 31, 32, 33, 34, 35, 36, 37, 26, 27, 28, 38, 39, 40, 41, 42, 43, 44, 45, 46, 47, 48, 49, 50, 51, 52, 53, 54, 55, 56, 57, 58, 59, 60, 61, 62, 63, 64, 65, 66, 67, 68, 69, 70, 71, 72, 73, 74, 75, 76, 77, 78, 79, 80, 81] (by decide +kernel) (by decide +kernel)
set_option maxRecDepth 20000 in
theorem gX11_round_X11_rounds : GoodIn wsX11_round (wsV RX11 387 RX11 yX11_rounds wsX11_rounds) := goodIn_app (goodIn_of _ (by decide +kernel)) ggX11_round_X11_rounds
set_option maxRecDepth 20000 in
theorem ggX11_isInTime_X11_has : GoodIn wsX11_isInTime wsX11_has := goodIn_r _ [7] (by decide +kernel) (by decide +kernel)
set_option maxRecDepth 20000 in
theorem gX11_isInTime_X11_has : GoodIn wsX11_isInTime (va_wsS RX11 259 yX11_has wsX11_has) := goodIn_app (goodIn_of _ (by decide +kernel)) ggX11_isInTime_X11_has
set_option maxRecDepth 20000 in
theorem ggX11_isInTime_X11_wayTo : GoodIn wsX11_isInTime wsX11_wayTo := goodIn_r _ [11, 1, 12, 13, 14, 6, 15, 19, 20, 21, 22, 23, 24, 25, 26, 27, 28, 29, 30, 31, 32, 33, 34, 35, 36, 37, 38, 39, 40, 41, 42, 43, 44, 45, 46, 47, 48, 49, 50, 51, 52, 53, 54, 55, 56, 57, 58, 59, 60, 61, 62] (by decide +kernel) (by decide +kernel)
set_option maxRecDepth 20000 in
theorem gX11_isInTime_X11_wayTo : GoodIn wsX11_isInTime (wsV RX11 384 RX11 yX11_wayTo wsX11_wayTo) := goodIn_app (goodIn_of _ (by decide +kernel)) ggX11_isInTime_X11_wayTo
set_option maxRecDepth 20000 in
theorem ggX11_isInTime_X11_isInTime : GoodIn wsX11_isInTime wsX11_isInTime := goodIn_r _ [0, 1, 2, 3, 4, 5, 6, 7, 8, 9, 10, 11, 12, 13, 14, 15, 16, 17, 18, 19, 20, 21, 22, 23, 24, 25, 26, 27, 28, 29, 30, 31, 32, 33, 34, 35, 36, 37, 38, 39, 40, 41, 42, 43, 44, 45, 46, 47, 48, 49, 50, 51, 52, 53, 54, 55, 56, 57, 58, 59, 60, 61, 62] (by decide +kernel) (by decide +kernel)
set_option maxRecDepth 20000 in
theorem gX11_isInTime_X11_isInTime : GoodIn wsX11_isInTime (wsV RX11 397 RX11 yX11_isInTime wsX11_isInTime) := goodIn_app (goodIn_of _ (by decide +kernel)) ggX11_isInTime_X11_isInTime
set_option maxRecDepth 20000 in
theorem ggX11_by_X11_areOrders : GoodIn wsX11_by wsX11_areOrders := goodIn_r _ [9, 2, 10, 11, 8, 12, 37, 38, 39, 40, 41, 42, 43, 44, 45, 46, 47, 48, 49, 50, 51, 52, 53, 54, 55, 56, 57, 58, 59, 60, 61, 62, 63, 64, 65, 66, 67, 68, 69, 70, 71, 72, 73, 74, 75, 76, 77, 78, 79, 80] (by decide +kernel) (by decide +kernel)
set_option maxRecDepth 20000 in
theorem gX11_by_X11_areOrders : GoodIn wsX11_by (wsV RX11 391 RX11 yX11_areOrders wsX11_areOrders) := goodIn_app (goodIn_of _ (by decide +kernel)) ggX11_by_X11_areOrders
set_option maxRecDepth 20000 in
theorem ggX11_by_X11_in : GoodIn wsX11_by wsX11_in := goodIn_r _ [12] (by decide +kernel) (by decide +kernel)
set_option maxRecDepth 20000 in
theorem gX11_by_X11_in : GoodIn wsX11_by (va_wsS RX11 119 yX11_in wsX11_in) := goodIn_app (goodIn_of _ (by decide +kernel)) ggX11_by_X11_in
set_option maxRecDepth 20000 in
theorem ggX11_by_X11_bad : GoodIn wsX11_by wsX11_bad := goodIn_r _ [16, 1, 17, 37, 38, 39, 40, 41, 42, 43, 44, 45, 46, 47, 48, 49, 50, 51, 52, 53, 54, 55, 56, 57, 58, 59, 60, 61, 62, 63, 64, 65, 66, 67, 68, 69, 70, 71, 72, 73, 74, 75, 76, 77, 78, 79, 80] (by decide +kernel) (by decide +kernel)
set_option maxRecDepth 20000 in
theorem gX11_by_X11_bad : GoodIn wsX11_by (wsV RX11 158 RX11 yX11_bad wsX11_bad) := goodIn_app (goodIn_of _ (by decide +kernel)) ggX11_by_X11_bad
set_option maxRecDepth 20000 in
theorem ggX11_by_X11_has : GoodIn wsX11_by wsX11_has := goodIn_r _ [20] (by decide +kernel) (by decide +kernel)
set_option maxRecDepth 20000 in
theorem gX11_by_X11_has : GoodIn wsX11_by (va_wsS RX11 259 yX11_has wsX11_has) := goodIn_app (goodIn_of _ (by decide +kernel)) ggX11_by_X11_has
set_option maxRecDepth 20000 in
theorem ggX11_by_X11_panesOf : GoodIn wsX11_by wsX11_panesOf := goodIn_r _ [24, 2, 3, 18, 19, 8, 20, 37, 38, 39, 40, 41, 42, 43, 44, 45, 46, 47, 48, 49, 50, 51, 52, 53, 54, 55, 56, 57, 58, 59, 60, 61, 62, 63, 64, 65, 66, 67, 68, 69, 70, 71, 72, 73, 74, 75, 76, 77, 78, 79, 80] (by decide +kernel) (by decide +kernel)
set_option maxRecDepth 20000 in
theorem gX11_by_X11_panesOf : GoodIn wsX11_by (wsV RX11 394 RX11 yX11_panesOf wsX11_panesOf) := goodIn_app (goodIn_of _ (by decide +kernel)) ggX11_by_X11_panesOf
set_option maxRecDepth 20000 in
theorem ggX11_by_X11_isInTime : GoodIn wsX11_by wsX11_isInTime := goodIn_r _ [28, 2, 3, 4, 18, 19, 8, 20, 29, 30, 31, 32, 33, 34, 35, 36, 25, 26, 27, 37, 38, 39, 40, 41, 42, 43, 44, 45, 46, 47, 48, 49, 50, 51, 52, 53, 54, 55, 56, 57, 58, 59, 60, 61, 62, 63, 64, 65, 66, 67, 68, 69, 70, 71, 72, 73, 74, 75, 76, 77, 78, 79, 80] (by decide +kernel) (by decide +kernel)
set_option maxRecDepth 20000 in
theorem gX11_by_X11_isInTime : GoodIn wsX11_by (wsV RX11 397 RX11 yX11_isInTime wsX11_isInTime) := goodIn_app (goodIn_of _ (by decide +kernel)) ggX11_by_X11_isInTime
set_option maxRecDepth 20000 in
theorem ggX11_share_X11_noCell : GoodIn wsX11_share wsX11_noCell := goodIn_r _ [7, 8, 9, 10, 6, 11, 12, 13, 14, 15, 16, 17, 18, 19, 1, 20, 21, 22, 23, 24, 25, 32, 33, 34, 35, 36, 37, 38, 39, 40, 41, 42, 43, 44, 45, 46, 47, 48, 49, 50, 51, 52, 53, 54, 55, 56, 57, 58, 59, 60, 61, 62, 63, 64, 65, 66, 67, 68, 69, 70, 71, 72, 73, 74, 75] (by decide +kernel) (by decide +kernel)
set_option maxRecDepth 20000 in
theorem gX11_share_X11_noCell : GoodIn wsX11_share (wsV RX11 318 RX11 yX11_noCell wsX11_noCell) := goodIn_app (goodIn_of _ (by decide +kernel)) ggX11_share_X11_noCell
set_option maxRecDepth 20000 in
theorem ggX11_share_X11_in : GoodIn wsX11_share wsX11_in := goodIn_r _ [15] (by decide +kernel) (by decide +kernel)
set_option maxRecDepth 20000 in
theorem gX11_share_X11_in : GoodIn wsX11_share (va_wsS RX11 119 yX11_in wsX11_in) := goodIn_app (goodIn_of _ (by decide +kernel)) ggX11_share_X11_in
set_option maxRecDepth 20000 in
theorem ggX11_share_X11_bad : GoodIn wsX11_share wsX11_bad := goodIn_r _ [19, 1, 20, 32, 33, 34, 35, 36, 37, 38, 39, 40, 41, 42, 43, 44, 45, 46, 47, 48, 49, 50, 51, 52, 53, 54, 55, 56, 57, 58, 59, 60, 61, 62, 63, 64, 65, 66, 67, 68, 69, 70, 71, 72, 73, 74, 75] (by decide +kernel) (by decide +kernel)
set_option maxRecDepth 20000 in
theorem gX11_share_X11_bad : GoodIn wsX11_share (wsV RX11 158 RX11 yX11_bad wsX11_bad) := goodIn_app (goodIn_of _ (by decide +kernel)) ggX11_share_X11_bad
set_option maxRecDepth 20000 in
theorem ggX11_share_X11_onPane : GoodIn wsX11_share wsX11_onPane := goodIn_r _ [28] (by decide +kernel) (by decide +kernel)
set_option maxRecDepth 20000 in
theorem gX11_share_X11_onPane : GoodIn wsX11_share (va_wsS RX11 240 yX11_onPane wsX11_onPane) := goodIn_app (goodIn_of _ (by decide +kernel)) ggX11_share_X11_onPane
set_option maxRecDepth 20000 in
theorem ggX11_share_X11_cellOf : GoodIn wsX11_share wsX11_cellOf := goodIn_r _ [31] (by decide +kernel) (by decide +kernel)
set_option maxRecDepth 20000 in
theorem gX11_share_X11_cellOf : GoodIn wsX11_share (va_wsS RX11 321 yX11_cellOf wsX11_cellOf) := goodIn_app (goodIn_of _ (by decide +kernel)) ggX11_share_X11_cellOf
set_option maxRecDepth 20000 in
theorem ggX11_ahead_X11_isPane : GoodIn wsX11_ahead wsX11_isPane := goodIn_r _ [8, 9, 10, 11, 7, 12, 94, 95, 96, 97, 98, 99, 100, 101, 102, 103, 104, 105, 106, 107, 108, 109, 110, 111, 112, 113, 114, 115, 116, 117, 118, 119, 120, 121, 122, 123, 124, 125, 126, 127, 128, 129, 130, 131, 132, 133, 134, 135, 136, 137] (by decide +kernel) (by decide +kernel)
set_option maxRecDepth 20000 in
theorem gX11_ahead_X11_isPane : GoodIn wsX11_ahead (wsV RX11 315 RX11 yX11_isPane wsX11_isPane) := goodIn_app (goodIn_of _ (by decide +kernel)) ggX11_ahead_X11_isPane
set_option maxRecDepth 20000 in
theorem ggX11_ahead_X11_bad : GoodIn wsX11_ahead wsX11_bad := goodIn_r _ [16, 1, 17, 94, 95, 96, 97, 98, 99, 100, 101, 102, 103, 104, 105, 106, 107, 108, 109, 110, 111, 112, 113, 114, 115, 116, 117, 118, 119, 120, 121, 122, 123, 124, 125, 126, 127, 128, 129, 130, 131, 132, 133, 134, 135, 136, 137] (by decide +kernel) (by decide +kernel)
set_option maxRecDepth 20000 in
theorem gX11_ahead_X11_bad : GoodIn wsX11_ahead (wsV RX11 158 RX11 yX11_bad wsX11_bad) := goodIn_app (goodIn_of _ (by decide +kernel)) ggX11_ahead_X11_bad
set_option maxRecDepth 20000 in
theorem ggX11_ahead_X11_in : GoodIn wsX11_ahead wsX11_in := goodIn_r _ [12] (by decide +kernel) (by decide +kernel)
set_option maxRecDepth 20000 in
theorem gX11_ahead_X11_in : GoodIn wsX11_ahead (va_wsS RX11 119 yX11_in wsX11_in) := goodIn_app (goodIn_of _ (by decide +kernel)) ggX11_ahead_X11_in
set_option maxRecDepth 20000 in
theorem ggX11_ahead_X11_copies : GoodIn wsX11_ahead wsX11_copies := goodIn_r _ [20] (by decide +kernel) (by decide +kernel)
set_option maxRecDepth 20000 in
theorem gX11_ahead_X11_copies : GoodIn wsX11_ahead (va_wsS RX11 308 yX11_copies wsX11_copies) := goodIn_app (goodIn_of _ (by decide +kernel)) ggX11_ahead_X11_copies
set_option maxRecDepth 20000 in
theorem ggX11_ahead_X11_dayEnds : GoodIn wsX11_ahead wsX11_dayEnds := goodIn_r _ [24, 9, 25, 26, 27, 28, 7, 29, 30, 31, 32, 33, 34, 35, 36, 37, 38, 39, 40, 41, 42, 43, 44, 45, 46, 47, 48, 49, 50, 51, 52, 53, 54, 55, 56, 57, 58, 10, 11, 12, 59, 60, 61, 62, 63, 64, 65, 66, 67, 68, 69, 70, 71, 72, 73, 74, 75, 76, 77, 78, 79, 80, 81, 82, 83, 94, 95, 96, 97, 98, 99, 100, 101, 102, 103, 104, 105, 106, 107, 108, 109, 110, 111, 112, 113, 114, 115, 116, 117, 118, 119, 120, 121, 122, 123, 124, 125, 126, 127, 128, 129, 130, 131, 132, 133, 134, 135, 136, 137] (by decide +kernel) (by decide +kernel)
set_option maxRecDepth 20000 in
theorem gX11_ahead_X11_dayEnds : GoodIn wsX11_ahead (wsV RX11 284 RX11 yX11_dayEnds wsX11_dayEnds) := goodIn_app (goodIn_of _ (by decide +kernel)) ggX11_ahead_X11_dayEnds
set_option maxRecDepth 20000 in
theorem ggX11_ahead_X11_onPane : GoodIn wsX11_ahead wsX11_onPane := goodIn_r _ [86] (by decide +kernel) (by decide +kernel)
set_option maxRecDepth 20000 in
theorem gX11_ahead_X11_onPane : GoodIn wsX11_ahead (va_wsS RX11 240 yX11_onPane wsX11_onPane) := goodIn_app (goodIn_of _ (by decide +kernel)) ggX11_ahead_X11_onPane
set_option maxRecDepth 20000 in
theorem ggX11_ahead_X11_seamsOf : GoodIn wsX11_ahead wsX11_seamsOf := goodIn_r _ [90, 36, 37, 7, 38, 50, 51, 52, 53, 54, 55, 56, 57, 58, 10, 11, 12, 94, 95, 96, 97, 98, 99, 100, 101, 102, 103, 104, 105, 106, 107, 108, 109, 110, 111, 112, 113, 114, 115, 116, 117, 118, 119, 120, 121, 122, 123, 124, 125, 126, 127, 128, 129, 130, 131, 132, 133, 134, 135, 136, 137] (by decide +kernel) (by decide +kernel)
set_option maxRecDepth 20000 in
theorem gX11_ahead_X11_seamsOf : GoodIn wsX11_ahead (wsV RX11 348 RX11 yX11_seamsOf wsX11_seamsOf) := goodIn_app (goodIn_of _ (by decide +kernel)) ggX11_ahead_X11_seamsOf
set_option maxRecDepth 20000 in
theorem ggX11_ahead_X11_sightsOf : GoodIn wsX11_ahead wsX11_sightsOf := goodIn_r _ [93, 36, 37, 7, 38] (by decide +kernel) (by decide +kernel)
set_option maxRecDepth 20000 in
theorem gX11_ahead_X11_sightsOf : GoodIn wsX11_ahead (va_wsS RX11 351 yX11_sightsOf wsX11_sightsOf) := goodIn_app (goodIn_of _ (by decide +kernel)) ggX11_ahead_X11_sightsOf
set_option maxRecDepth 20000 in
theorem ggX11_decades_X11_copies : GoodIn wsX11_decades wsX11_copies := goodIn_r _ [9] (by decide +kernel) (by decide +kernel)
set_option maxRecDepth 20000 in
theorem gX11_decades_X11_copies : GoodIn wsX11_decades (va_wsS RX11 308 yX11_copies wsX11_copies) := goodIn_app (goodIn_of _ (by decide +kernel)) ggX11_decades_X11_copies
set_option maxRecDepth 20000 in
theorem ggX11_decades_X11_has : GoodIn wsX11_decades wsX11_has := goodIn_r _ [12] (by decide +kernel) (by decide +kernel)
set_option maxRecDepth 20000 in
theorem gX11_decades_X11_has : GoodIn wsX11_decades (va_wsS RX11 259 yX11_has wsX11_has) := goodIn_app (goodIn_of _ (by decide +kernel)) ggX11_decades_X11_has
set_option maxRecDepth 20000 in
theorem ggX11_decades_X11_breaks : GoodIn wsX11_decades wsX11_breaks := goodIn_r _ [15, 10, 11, 8, 12] (by decide +kernel) (by decide +kernel)
set_option maxRecDepth 20000 in
theorem gX11_decades_X11_breaks : GoodIn wsX11_decades (va_wsS RX11 292 yX11_breaks wsX11_breaks) := goodIn_app (goodIn_of _ (by decide +kernel)) ggX11_decades_X11_breaks
set_option maxRecDepth 20000 in
theorem ggX11_decades_X11_dayEnds : GoodIn wsX11_decades wsX11_dayEnds := goodIn_r _ [19, 4, 20, 21, 22, 23, 8, 24, 25, 26, 27, 28, 29, 30, 31, 32, 33, 34, 35, 36, 37, 38, 39, 40, 41, 42, 43, 44, 45, 46, 47, 48, 49, 50, 51, 52, 53, 54, 55, 56, 57, 58, 59, 60, 61, 10, 11, 12, 62, 63, 64, 65, 66, 67, 68, 69, 70, 71, 72, 73, 74, 75, 76, 77, 78, 79, 80, 81, 82, 83, 84, 85, 86, 87, 88, 89, 90, 91, 92, 93, 94, 95, 96, 97, 98, 99, 100, 101, 102, 103, 104, 105, 106, 107, 108, 109, 110, 111, 112, 113, 114, 115, 116, 117, 118, 119, 120, 121, 122] (by decide +kernel) (by decide +kernel)
set_option maxRecDepth 20000 in
theorem gX11_decades_X11_dayEnds : GoodIn wsX11_decades (wsV RX11 284 RX11 yX11_dayEnds wsX11_dayEnds) := goodIn_app (goodIn_of _ (by decide +kernel)) ggX11_decades_X11_dayEnds
set_option maxRecDepth 20000 in
theorem ggX11_decade_X11_in : GoodIn wsX11_decade wsX11_in := goodIn_r _ [7] (by decide +kernel) (by decide +kernel)
set_option maxRecDepth 20000 in
theorem gX11_decade_X11_in : GoodIn wsX11_decade (va_wsS RX11 119 yX11_in wsX11_in) := goodIn_app (goodIn_of _ (by decide +kernel)) ggX11_decade_X11_in
set_option maxRecDepth 20000 in
theorem ggX11_decade_X11_bad : GoodIn wsX11_decade wsX11_bad := goodIn_r _ [11, 1, 12, 99, 100, 101, 102, 103, 104, 105, 106, 107, 108, 109, 110, 111, 112, 113, 114, 115, 116, 117, 118, 119, 120, 121, 122, 123, 124, 125, 126, 127, 128, 129, 130, 131, 132, 133, 134, 135, 136, 137, 138, 139, 140, 141, 142] (by decide +kernel) (by decide +kernel)
set_option maxRecDepth 20000 in
theorem gX11_decade_X11_bad : GoodIn wsX11_decade (wsV RX11 158 RX11 yX11_bad wsX11_bad) := goodIn_app (goodIn_of _ (by decide +kernel)) ggX11_decade_X11_bad
set_option maxRecDepth 20000 in
theorem ggX11_decade_X11_decades : GoodIn wsX11_decade wsX11_decades := goodIn_r _ [16, 3, 2, 17, 18, 19, 20, 21, 6, 22, 23, 24, 25, 26, 27, 28, 29, 30, 31, 32, 33, 34, 35, 36, 37, 38, 39, 40, 41, 42, 43, 44, 45, 46, 47, 48, 49, 50, 51, 52, 53, 54, 55, 56, 57, 58, 59, 60, 61, 62, 63, 64, 65, 66, 4, 5, 7, 67, 68, 69, 70, 71, 72, 73, 74, 75, 76, 77, 78, 79, 80, 81, 82, 83, 84, 85, 86, 87, 88, 99, 100, 101, 102, 103, 104, 105, 106, 107, 108, 109, 110, 111, 112, 113, 114, 115, 116, 117, 118, 119, 120, 121, 122, 123, 124, 125, 126, 127, 128, 129, 130, 131, 132, 133, 134, 135, 136, 137, 138, 139, 140, 141, 142] (by decide +kernel) (by decide +kernel)
set_option maxRecDepth 20000 in
theorem gX11_decade_X11_decades : GoodIn wsX11_decade (wsV RX11 405 RX11 yX11_decades wsX11_decades) := goodIn_app (goodIn_of _ (by decide +kernel)) ggX11_decade_X11_decades
set_option maxRecDepth 20000 in
theorem ggX11_decade_X11_onAll : GoodIn wsX11_decade wsX11_onAll := goodIn_r _ [92, 18, 93, 94, 6, 95, 99, 100, 101, 102, 103, 104, 105, 106, 107, 108, 109, 110, 111, 112, 113, 114, 115, 116, 117, 118, 119, 120, 121, 122, 123, 124, 125, 126, 127, 128, 129, 130, 131, 132, 133, 134, 135, 136, 137, 138, 139, 140, 141, 142] (by decide +kernel) (by decide +kernel)
set_option maxRecDepth 20000 in
theorem gX11_decade_X11_onAll : GoodIn wsX11_decade (wsV RX11 312 RX11 yX11_onAll wsX11_onAll) := goodIn_app (goodIn_of _ (by decide +kernel)) ggX11_decade_X11_onAll
set_option maxRecDepth 20000 in
theorem ggX11_decade_X11_ones : GoodIn wsX11_decade wsX11_ones := goodIn_r _ [98] (by decide +kernel) (by decide +kernel)
set_option maxRecDepth 20000 in
theorem gX11_decade_X11_ones : GoodIn wsX11_decade (va_wsS RX11 409 yX11_ones wsX11_ones) := goodIn_app (goodIn_of _ (by decide +kernel)) ggX11_decade_X11_ones
set_option maxRecDepth 20000 in
theorem ggX11_span_X11_in : GoodIn wsX11_span wsX11_in := goodIn_r _ [6] (by decide +kernel) (by decide +kernel)
set_option maxRecDepth 20000 in
theorem gX11_span_X11_in : GoodIn wsX11_span (va_wsS RX11 119 yX11_in wsX11_in) := goodIn_app (goodIn_of _ (by decide +kernel)) ggX11_span_X11_in
set_option maxRecDepth 20000 in
theorem ggX11_span_X11_isPane : GoodIn wsX11_span wsX11_isPane := goodIn_r _ [10, 11, 3, 4, 5, 6, 100, 101, 102, 103, 104, 105, 106, 107, 108, 109, 110, 111, 112, 113, 114, 115, 116, 117, 118, 119, 120, 121, 122, 123, 124, 125, 126, 127, 128, 129, 130, 131, 132, 133, 134, 135, 136, 137, 138, 139, 140, 141, 142, 143] (by decide +kernel) (by decide +kernel)
set_option maxRecDepth 20000 in
theorem gX11_span_X11_isPane : GoodIn wsX11_span (wsV RX11 315 RX11 yX11_isPane wsX11_isPane) := goodIn_app (goodIn_of _ (by decide +kernel)) ggX11_span_X11_isPane
set_option maxRecDepth 20000 in
theorem ggX11_span_X11_bad : GoodIn wsX11_span wsX11_bad := goodIn_r _ [15, 1, 16, 100, 101, 102, 103, 104, 105, 106, 107, 108, 109, 110, 111, 112, 113, 114, 115, 116, 117, 118, 119, 120, 121, 122, 123, 124, 125, 126, 127, 128, 129, 130, 131, 132, 133, 134, 135, 136, 137, 138, 139, 140, 141, 142, 143] (by decide +kernel) (by decide +kernel)
set_option maxRecDepth 20000 in
theorem gX11_span_X11_bad : GoodIn wsX11_span (wsV RX11 158 RX11 yX11_bad wsX11_bad) := goodIn_app (goodIn_of _ (by decide +kernel)) ggX11_span_X11_bad
set_option maxRecDepth 20000 in
theorem ggX11_span_X11_decades : GoodIn wsX11_span wsX11_decades := goodIn_r _ [20, 21, 2, 22, 11, 23, 24, 25, 5, 26, 27, 28, 29, 30, 31, 32, 33, 34, 35, 36, 37, 38, 39, 40, 41, 42, 43, 44, 45, 46, 47, 48, 49, 50, 51, 52, 53, 54, 55, 56, 57, 58, 59, 60, 61, 62, 63, 64, 65, 66, 67, 68, 69, 70, 3, 4, 6, 71, 72, 73, 74, 75, 76, 77, 78, 79, 80, 81, 82, 83, 84, 85, 86, 87, 88, 89, 90, 91, 92, 100, 101, 102, 103, 104, 105, 106, 107, 108, 109, 110, 111, 112, 113, 114, 115, 116, 117, 118, 119, 120, 121, 122, 123, 124, 125, 126, 127, 128, 129, 130, 131, 132, 133, 134, 135, 136, 137, 138, 139, 140, 141, 142, 143] (by decide +kernel) (by decide +kernel)
set_option maxRecDepth 20000 in
theorem gX11_span_X11_decades : GoodIn wsX11_span (wsV RX11 405 RX11 yX11_decades wsX11_decades) := goodIn_app (goodIn_of _ (by decide +kernel)) ggX11_span_X11_decades
set_option maxRecDepth 20000 in
theorem ggX11_span_X11_onAll : GoodIn wsX11_span wsX11_onAll := goodIn_r _ [96, 11, 97, 98, 5, 99, 100, 101, 102, 103, 104, 105, 106, 107, 108, 109, 110, 111, 112, 113, 114, 115, 116, 117, 118, 119, 120, 121, 122, 123, 124, 125, 126, 127, 128, 129, 130, 131, 132, 133, 134, 135, 136, 137, 138, 139, 140, 141, 142, 143] (by decide +kernel) (by decide +kernel)
set_option maxRecDepth 20000 in
theorem gX11_span_X11_onAll : GoodIn wsX11_span (wsV RX11 312 RX11 yX11_onAll wsX11_onAll) := goodIn_app (goodIn_of _ (by decide +kernel)) ggX11_span_X11_onAll
set_option maxRecDepth 20000 in
theorem ggX11_span_X11_less : GoodIn wsX11_span wsX11_less := goodIn_r _ [61] (by decide +kernel) (by decide +kernel)
set_option maxRecDepth 20000 in
theorem gX11_span_X11_less : GoodIn wsX11_span (va_wsS RX11 218 yX11_less wsX11_less) := goodIn_app (goodIn_of _ (by decide +kernel)) ggX11_span_X11_less
set_option maxRecDepth 20000 in
theorem ggX11_span_X11_more : GoodIn wsX11_span wsX11_more := goodIn_r _ [88] (by decide +kernel) (by decide +kernel)
set_option maxRecDepth 20000 in
theorem gX11_span_X11_more : GoodIn wsX11_span (va_wsS RX11 221 yX11_more wsX11_more) := goodIn_app (goodIn_of _ (by decide +kernel)) ggX11_span_X11_more
set_option maxRecDepth 20000 in
theorem ggX11_span_X11_has : GoodIn wsX11_span wsX11_has := goodIn_r _ [29] (by decide +kernel) (by decide +kernel)
set_option maxRecDepth 20000 in
theorem gX11_span_X11_has : GoodIn wsX11_span (va_wsS RX11 259 yX11_has wsX11_has) := goodIn_app (goodIn_of _ (by decide +kernel)) ggX11_span_X11_has
set_option maxRecDepth 20000 in
theorem ggX11_putsAll_X11_puts : GoodIn wsX11_putsAll wsX11_puts := goodIn_r _ [9, 1, 10, 11, 12, 13, 14, 15, 16, 17, 18, 19, 20, 21, 22, 23, 24, 25, 26, 27, 28, 29, 30, 31, 32, 33, 34, 35, 36, 37, 38, 39, 40, 41, 42, 43, 44, 45, 46, 47, 48, 49, 50, 51, 52, 53] (by decide +kernel) (by decide +kernel)
set_option maxRecDepth 20000 in
theorem gX11_putsAll_X11_puts : GoodIn wsX11_putsAll (wsV RX11 415 RX11 yX11_puts wsX11_puts) := goodIn_app (goodIn_of _ (by decide +kernel)) ggX11_putsAll_X11_puts
set_option maxRecDepth 20000 in
theorem ggX11_image_X11_putsAll : GoodIn wsX11_image wsX11_putsAll := goodIn_r _ [8, 9, 10, 11, 12, 13, 14, 15, 7, 16, 17, 18, 19, 20, 21, 22, 23, 24, 25, 26, 27, 28, 29, 30, 31, 32, 33, 34, 35, 36, 37, 38, 39, 40, 41, 42, 43, 44, 45, 46, 47, 48, 49, 50, 51, 52, 53, 54, 55, 56, 57, 58, 59, 60] (by decide +kernel) (by decide +kernel)
set_option maxRecDepth 20000 in
theorem gX11_image_X11_putsAll : GoodIn wsX11_image (wsV RX11 419 RX11 yX11_putsAll wsX11_putsAll) := goodIn_app (goodIn_of _ (by decide +kernel)) ggX11_image_X11_putsAll
set_option maxRecDepth 20000 in
theorem ggX11_restore_X11_putsAll : GoodIn wsX11_restore wsX11_putsAll := goodIn_r _ [9, 10, 11, 12, 13, 14, 15, 16, 8, 17, 18, 19, 20, 21, 22, 23, 24, 25, 26, 27, 28, 29, 30, 31, 32, 33, 34, 35, 36, 37, 38, 39, 40, 41, 42, 43, 44, 45, 46, 47, 48, 49, 50, 51, 52, 53, 54, 55, 56, 57, 58, 59, 60, 61] (by decide +kernel) (by decide +kernel)
set_option maxRecDepth 20000 in
theorem gX11_restore_X11_putsAll : GoodIn wsX11_restore (wsV RX11 419 RX11 yX11_putsAll wsX11_putsAll) := goodIn_app (goodIn_of _ (by decide +kernel)) ggX11_restore_X11_putsAll
set_option maxRecDepth 20000 in
theorem ggX11_status_X11_in : GoodIn wsX11_status wsX11_in := goodIn_r _ [6] (by decide +kernel) (by decide +kernel)
set_option maxRecDepth 20000 in
theorem gX11_status_X11_in : GoodIn wsX11_status (va_wsS RX11 119 yX11_in wsX11_in) := goodIn_app (goodIn_of _ (by decide +kernel)) ggX11_status_X11_in
set_option maxRecDepth 20000 in
theorem ggJ0_length_8abf5_J0_coder_7d493 : GoodIn wsJ0_length_8abf5 wsJ0_coder_7d493 := goodIn_r _ [6, 7, 8] (by decide +kernel) (by decide +kernel)
set_option maxRecDepth 20000 in
theorem gJ0_length_8abf5_J0_coder_7d493 : GoodIn wsJ0_length_8abf5 (wsV RJ0 335 RJ0 yJ0_coder_7d493 wsJ0_coder_7d493) := goodIn_app (goodIn_of _ (by decide +kernel)) ggJ0_length_8abf5_J0_coder_7d493
set_option maxRecDepth 20000 in
theorem ggJ0_charAt_5068e_J0_isLatin1_aae02 : GoodIn wsJ0_charAt_5068e wsJ0_isLatin1_aae02 := goodIn_r _ [6, 7, 8] (by decide +kernel) (by decide +kernel)
set_option maxRecDepth 20000 in
theorem gJ0_charAt_5068e_J0_isLatin1_aae02 : GoodIn wsJ0_charAt_5068e (wsV RJ0 492 RJ0 yJ0_isLatin1_aae02 wsJ0_isLatin1_aae02) := goodIn_app (goodIn_of _ (by decide +kernel)) ggJ0_charAt_5068e_J0_isLatin1_aae02
set_option maxRecDepth 20000 in
theorem ggJ0_charAt_5068e_J1_charAt_3b067 : GoodIn wsJ0_charAt_5068e wsJ1_charAt_3b067 := goodIn_r _ [12, 13, 14, 5, 15, 16, 17, 18, 19, 20] (by decide +kernel) (by decide +kernel)
set_option maxRecDepth 20000 in
theorem gJ0_charAt_5068e_J1_charAt_3b067 : GoodIn wsJ0_charAt_5068e (va_wsS RJ0 495 yJ1_charAt_3b067 wsJ1_charAt_3b067) := goodIn_app (goodIn_of _ (by decide +kernel)) ggJ0_charAt_5068e_J1_charAt_3b067
set_option maxRecDepth 20000 in
theorem ggJ0_charAt_5068e_J2_charAt_3b067 : GoodIn wsJ0_charAt_5068e wsJ2_charAt_3b067 := goodIn_r _ [24, 25, 26, 23, 27, 28, 29, 30, 31, 14, 5, 15, 16, 17, 18, 19, 20, 32, 33, 34, 35, 36, 37] (by decide +kernel) (by decide +kernel)
set_option maxRecDepth 20000 in
theorem gJ0_charAt_5068e_J2_charAt_3b067 : GoodIn wsJ0_charAt_5068e (va_wsS RJ0 498 yJ2_charAt_3b067 wsJ2_charAt_3b067) := goodIn_app (goodIn_of _ (by decide +kernel)) ggJ0_charAt_5068e_J2_charAt_3b067
set_option maxRecDepth 20000 in
theorem ggJ0_checkIndex_df160_J3_checkIndex_8e157 : GoodIn wsJ0_checkIndex_df160 wsJ3_checkIndex_8e157 := goodIn_r _ [5] (by decide +kernel) (by decide +kernel)
set_option maxRecDepth 20000 in
theorem gJ0_checkIndex_df160_J3_checkIndex_8e157 : GoodIn wsJ0_checkIndex_df160 (va_wsS RJ0 1059 yJ3_checkIndex_8e157 wsJ3_checkIndex_8e157) := goodIn_app (goodIn_of _ (by decide +kernel)) ggJ0_checkIndex_df160_J3_checkIndex_8e157
set_option maxRecDepth 20000 in
theorem ggJ1_charAt_3b067_J0_checkIndex_df160 : GoodIn wsJ1_charAt_3b067 wsJ0_checkIndex_df160 := goodIn_r _ [4, 5, 6, 7, 8, 9] (by decide +kernel) (by decide +kernel)
set_option maxRecDepth 20000 in
theorem gJ1_charAt_3b067_J0_checkIndex_df160 : GoodIn wsJ1_charAt_3b067 (va_wsS RJ1 9 yJ0_checkIndex_df160 wsJ0_checkIndex_df160) := goodIn_app (goodIn_of _ (by decide +kernel)) ggJ1_charAt_3b067_J0_checkIndex_df160
set_option maxRecDepth 20000 in
theorem ggJ2_getChar_3b067_J2_length_9d52b : GoodIn wsJ2_getChar_3b067 wsJ2_length_9d52b := goodIn_r _ [7] (by decide +kernel) (by decide +kernel)
set_option maxRecDepth 20000 in
theorem gJ2_getChar_3b067_J2_length_9d52b : GoodIn wsJ2_getChar_3b067 (va_wsS RJ2 48 yJ2_length_9d52b wsJ2_length_9d52b) := goodIn_app (goodIn_of _ (by decide +kernel)) ggJ2_getChar_3b067_J2_length_9d52b
set_option maxRecDepth 20000 in
theorem ggJ2_charAt_3b067_J2_checkIndex_2214a : GoodIn wsJ2_charAt_3b067 wsJ2_checkIndex_2214a := goodIn_r _ [4, 5, 6, 3, 7, 8, 9, 10, 11, 12, 13, 14, 15, 16] (by decide +kernel) (by decide +kernel)
set_option maxRecDepth 20000 in
theorem gJ2_charAt_3b067_J2_checkIndex_2214a : GoodIn wsJ2_charAt_3b067 (va_wsS RJ2 67 yJ2_checkIndex_2214a wsJ2_checkIndex_2214a) := goodIn_app (goodIn_of _ (by decide +kernel)) ggJ2_charAt_3b067_J2_checkIndex_2214a
set_option maxRecDepth 20000 in
theorem ggJ2_charAt_3b067_J2_getChar_3b067 : GoodIn wsJ2_charAt_3b067 wsJ2_getChar_3b067 := goodIn_r _ [19, 20, 21, 22, 5, 6, 3, 7] (by decide +kernel) (by decide +kernel)
set_option maxRecDepth 20000 in
theorem gJ2_charAt_3b067_J2_getChar_3b067 : GoodIn wsJ2_charAt_3b067 (va_wsS RJ2 71 yJ2_getChar_3b067 wsJ2_getChar_3b067) := goodIn_app (goodIn_of _ (by decide +kernel)) ggJ2_charAt_3b067_J2_getChar_3b067
set_option maxRecDepth 20000 in
theorem ggJ2_checkIndex_2214a_J2_length_9d52b : GoodIn wsJ2_checkIndex_2214a wsJ2_length_9d52b := goodIn_r _ [4] (by decide +kernel) (by decide +kernel)
set_option maxRecDepth 20000 in
theorem gJ2_checkIndex_2214a_J2_length_9d52b : GoodIn wsJ2_checkIndex_2214a (va_wsS RJ2 48 yJ2_length_9d52b wsJ2_length_9d52b) := goodIn_app (goodIn_of _ (by decide +kernel)) ggJ2_checkIndex_2214a_J2_length_9d52b
set_option maxRecDepth 20000 in
theorem ggJ2_checkIndex_2214a_J0_checkIndex_df160 : GoodIn wsJ2_checkIndex_2214a wsJ0_checkIndex_df160 := goodIn_r _ [8, 9, 10, 11, 12, 13] (by decide +kernel) (by decide +kernel)
set_option maxRecDepth 20000 in
theorem gJ2_checkIndex_2214a_J0_checkIndex_df160 : GoodIn wsJ2_checkIndex_2214a (va_wsS RJ2 414 yJ0_checkIndex_df160 wsJ0_checkIndex_df160) := goodIn_app (goodIn_of _ (by decide +kernel)) ggJ2_checkIndex_2214a_J0_checkIndex_df160
set_option maxRecDepth 20000 in
theorem ggL_street_X10_street : GoodIn wsL_street wsX10_street := goodIn_ca (goodIn_r _ [6, 7, 8, 9, 10, 11, 12, 13, 14, 15, 16, 17, 18, 19, 20, 5, 21, 22, 23, 24, 25, 26, 27, 28, 29, 30, 31, 32, 33, 34, 35, 36, 37, 38, 39, 40, 41, 42, 43, 44, 45, 46, 47, 48, 49, 50, 51, 52, 53, 54, 55, 56, 57, 58, 59, 60, 61, 62, 63, 64, 65, 66, 67, 68, 69, 70, 71, 72, 73, 74, 75, 76, 77, 78, 79, 80, 81, 82, 83, 84, 85, 86, 87, 88, 89, 90, 91, 92, 93, 94, 95, 96, 97, 98, 99, 100, 101, 102, 103, 104, 105, 106, 107, 108, 109, 110, 111, 112, 113, 114, 115, 116, 117, 118, 119, 120, 121, 122, 123, 124, 125, 126, 127, 128, 129, 130, 131, 132, 133, 134, 135, 136, 137, 138, 139, 140, 141, 142, 143, 144, 145, 146, 147, 148, 149, 150, 151, 152, 153, 154, 155, 156, 157, 158, 159, 160, 161, 162, 163, 164, 165, 166, 167, 168, 169, 170, 171, 172, 173, 174, 175, 176, 177, 178, 179, 180, 181, 182, 183, 184, 185, 186, 187, 188, 189, 190, 191, 192, 193, 194, 195, 196, 197, 198, 199, 200, 201, 202, 203, 204, 205, 206, 207, 208, 209, 210, 211, 212, 213, 214, 215, 216, 217, 218, 219, 220, 221, 222, 223, 224, 225, 226, 227, 228, 229, 230, 231, 232, 233, 234, 235, 236, 237, 238, 239, 240, 241, 242, 243, 244, 245, 246, 247, 248, 249, 250, 251, 252, 253, 254, 255, 256, 257, 258, 259, 260, 261, 262, 263, 264, 265, 266] (by decide +kernel) (by decide +kernel)) (goodIn_sub (fun _ h => List.mem_cons_of_mem _ (List.mem_append_right _ h)) (by decide +kernel))
set_option maxRecDepth 20000 in
theorem gL_street_X10_street : GoodIn wsL_street (wsV RL 7 RX10 yX10_street wsX10_street) := goodIn_app (goodIn_of _ (by decide +kernel)) ggL_street_X10_street
set_option maxRecDepth 20000 in
theorem ggL_law_X10_law : GoodIn wsL_law wsX10_law := goodIn_ca (goodIn_r _ [6, 7, 8, 9, 10, 11, 12, 13, 14, 5, 15, 16, 17, 18, 19, 20, 21, 22, 23, 24, 25, 26, 27, 28, 29, 30, 31, 32, 33, 34, 35, 36, 37, 38, 39, 40, 41, 42, 43, 44, 45, 46, 47, 48, 49, 50, 51, 52, 53, 54, 55, 56, 57, 58, 59, 60, 61, 62, 63, 64, 65, 66, 67, 68, 69, 70, 71, 72, 73, 74, 75, 76, 77, 78, 79, 80, 81, 82, 83, 84, 85, 86, 87, 88, 89, 90, 91, 92, 93, 94, 95, 96, 97, 98, 99, 100, 101, 102, 103, 104, 105, 106, 107, 108, 109, 110, 111, 112, 113, 114, 115, 116, 117, 118, 119, 120, 121, 122, 123, 124, 125, 126, 127, 128, 129, 130, 131, 132, 133, 134, 135, 136, 137, 138, 139, 140, 141, 142, 143, 144, 145, 146, 147, 148, 149, 150, 151, 152, 153, 154, 155, 156, 157, 158, 159, 160, 161, 162, 163, 164, 165, 166, 167, 168, 169, 170, 171, 172, 173, 174, 175, 176, 177, 178, 179, 180, 181, 182, 183] (by decide +kernel) (by decide +kernel)) (goodIn_sub (fun _ h => List.mem_cons_of_mem _ (List.mem_append_right _ h)) (by decide +kernel))
set_option maxRecDepth 20000 in
theorem gL_law_X10_law : GoodIn wsL_law (wsV RL 15 RX10 yX10_law wsX10_law) := goodIn_app (goodIn_of _ (by decide +kernel)) ggL_law_X10_law
set_option maxRecDepth 20000 in
theorem ggL_work_X10_work : GoodIn wsL_work wsX10_work := goodIn_ca (goodIn_r _ [6, 7, 8, 9, 10, 11, 12, 13, 14, 15, 16, 17, 18, 19, 20, 5, 21, 22, 23, 24, 25, 26, 27, 28, 29, 30, 31, 32, 33, 34, 35, 36, 37, 38, 39, 40, 41, 42, 43, 44, 45, 46, 47, 48, 49, 50, 51, 52, 53, 54, 55, 56, 57, 58, 59, 60, 61, 62, 63, 64, 65, 66, 67, 68, 69, 70, 71, 72, 73, 74, 75, 76, 77, 78, 79, 80, 81, 82, 83, 84, 85, 86, 87, 88, 89, 90, 91, 92, 93, 94, 95, 96, 97, 98, 99, 100, 101, 102, 103, 104, 105, 106, 107, 108, 109, 110, 111, 112, 113, 114, 115, 116, 117, 118, 119, 120, 121, 122, 123, 124, 125, 126, 127, 128, 129, 130, 131, 132, 133, 134, 135, 136, 137, 138, 139, 140, 141, 142, 143, 144, 145, 146, 147, 148, 149, 150, 151, 152, 153, 154, 155, 156, 157, 158, 159, 160, 161, 162, 163, 164, 165, 166, 167, 168, 169, 170, 171, 172, 173, 174, 175, 176, 177, 178, 179, 180, 181, 182, 183, 184, 185, 186, 187, 188, 189, 190, 191, 192, 193, 194, 195, 196, 197, 198, 199, 200, 201, 202, 203, 204, 205, 206, 207, 208, 209, 210, 211, 212, 213, 214, 215, 216, 217, 218, 219, 220, 221, 222, 223, 224, 225, 226, 227, 228, 229, 230, 231, 232, 233, 234, 235, 236, 237, 238, 239, 240, 241, 242, 243, 244, 245, 246, 247, 248, 249, 250, 251, 252, 253, 254, 255, 256, 257, 258, 259, 260, 261, 262, 263, 264, 265, 266, 267, 268, 269, 270, 271, 272, 273, 274, 275, 276, 277, 278, 279, 280, 281, 282, 283, 284, 285, 286, 287, 288, 289, 290, 291, 292, 293, 294, 295, 296, 297, 298, 299, 300, 301, 302, 303, 304, 305, 306, 307, 308, 309, 310, 311, 312, 313, 314, 315, 316, 317, 318, 319, 320, 321, 322, 323, 324, 325, 326, 327, 328, 329, 330, 331, 332, 333, 334, 335, 336, 337, 338, 339, 340, 341, 342, 343, 344, 345, 346, 347, 348, 349, 350, 351, 352, 353, 354, 355, 356, 357, 358, 359, 360, 361, 362, 363, 364, 365, 366, 367, 368, 369, 370, 371, 372, 373, 374, 375, 376, 377, 378, 379, 380, 381, 382, 383, 384, 385] (by decide +kernel) (by decide +kernel)) (goodIn_sub (fun _ h => List.mem_cons_of_mem _ (List.mem_append_right _ h)) (by decide +kernel))
set_option maxRecDepth 20000 in
theorem gL_work_X10_work : GoodIn wsL_work (wsV RL 18 RX10 yX10_work wsX10_work) := goodIn_app (goodIn_of _ (by decide +kernel)) ggL_work_X10_work
set_option maxRecDepth 20000 in
theorem ggL_book_X10_book : GoodIn wsL_book wsX10_book := goodIn_ca (goodIn_r _ [6, 7, 8, 9, 10, 11, 12, 13, 14, 15, 5, 16, 17, 18, 19, 20, 21, 22, 23, 24, 25, 26, 27, 28, 29, 30, 31, 32, 33, 34, 35, 36, 37, 38, 39, 40, 41, 42, 43, 44, 45, 46, 47, 48, 49, 50, 51, 52, 53, 54, 55, 56, 57, 58, 59, 60, 61, 62, 63, 64, 65, 66, 67, 68, 69, 70, 71, 72, 73, 74, 75, 76, 77, 78, 79, 80, 81, 82, 83, 84, 85, 86, 87, 88, 89, 90, 91, 92, 93, 94, 95, 96, 97, 98, 99, 100, 101, 102, 103, 104, 105, 106, 107, 108, 109, 110, 111, 112, 113, 114, 115] (by decide +kernel) (by decide +kernel)) (goodIn_sub (fun _ h => List.mem_cons_of_mem _ (List.mem_append_right _ h)) (by decide +kernel))
set_option maxRecDepth 20000 in
theorem gL_book_X10_book : GoodIn wsL_book (wsV RL 21 RX10 yX10_book wsX10_book) := goodIn_app (goodIn_of _ (by decide +kernel)) ggL_book_X10_book
set_option maxRecDepth 20000 in
theorem ggL_told_X10_told : GoodIn wsL_told wsX10_told := goodIn_ca (goodIn_r _ [6, 7, 8, 9, 10, 11, 12, 13, 14, 15, 16, 17, 18, 19, 20, 21, 5, 22, 23, 24, 25, 26, 27, 28, 29, 30, 31, 32, 33, 34, 35, 36, 37, 38, 39, 40, 41, 42, 43, 44, 45, 46, 47, 48, 49, 50, 51, 52, 53, 54, 55, 56, 57, 58, 59, 60, 61, 62, 63, 64, 65, 66, 67, 68, 69, 70, 71, 72, 73, 74, 75, 76, 77, 78, 79, 80, 81, 82, 83] (by decide +kernel) (by decide +kernel)) (goodIn_sub (fun _ h => List.mem_cons_of_mem _ (List.mem_append_right _ h)) (by decide +kernel))
set_option maxRecDepth 20000 in
theorem gL_told_X10_told : GoodIn wsL_told (wsV RL 24 RX10 yX10_told wsX10_told) := goodIn_app (goodIn_of _ (by decide +kernel)) ggL_told_X10_told
set_option maxRecDepth 20000 in
theorem ggL_pane_X10_pane : GoodIn wsL_pane wsX10_pane := goodIn_ca (goodIn_ca (goodIn_r _ [7, 8, 9, 10, 11, 12, 13, 14, 15, 16, 17, 6, 18, 19, 20, 21, 22, 23, 24, 25, 26, 27, 28, 29, 30, 31, 32, 33, 34, 35, 36, 37, 38, 39, 40, 41, 42, 43, 44, 45, 46, 47, 48, 49, 50, 51, 52, 53, 54, 55, 56, 57, 58, 59, 60, 61, 62, 63, 64, 65, 66, 67, 68, 69, 70, 71, 72, 73, 74, 75, 76, 77, 78, 79, 80, 81, 82, 83] (by decide +kernel) (by decide +kernel)) (goodIn_sub (fun _ h => List.mem_cons_of_mem _ (List.mem_append_left _ (List.mem_append_right _ h))) (by decide +kernel))) (goodIn_sub (fun _ h => List.mem_cons_of_mem _ (List.mem_append_right _ h)) (by decide +kernel))
set_option maxRecDepth 20000 in
theorem gL_pane_X10_pane : GoodIn wsL_pane (wsV RL 27 RX10 yX10_pane wsX10_pane) := goodIn_app (goodIn_of _ (by decide +kernel)) ggL_pane_X10_pane
set_option maxRecDepth 20000 in
theorem ggL_shows_X10_shows : GoodIn wsL_shows wsX10_shows := goodIn_ca (goodIn_ca (goodIn_r _ [7, 8, 9, 10, 11, 12, 6, 13, 14, 15, 16, 17, 18, 19, 20, 21, 22, 23, 24, 25, 26, 27, 28, 29, 30, 31, 32, 33, 34, 35, 36, 37, 38, 39, 40, 41, 42, 43, 44, 45, 46, 47, 48, 49, 50, 51, 52, 53, 54, 55, 56, 57, 58, 59, 60, 61, 62, 63, 64, 65, 66, 67, 68, 69, 70, 71, 72, 73, 74, 75, 76] (by decide +kernel) (by decide +kernel)) (goodIn_sub (fun _ h => List.mem_cons_of_mem _ (List.mem_append_left _ (List.mem_append_right _ h))) (by decide +kernel))) (goodIn_sub (fun _ h => List.mem_cons_of_mem _ (List.mem_append_right _ h)) (by decide +kernel))
set_option maxRecDepth 20000 in
theorem gL_shows_X10_shows : GoodIn wsL_shows (wsV RL 33 RX10 yX10_shows wsX10_shows) := goodIn_app (goodIn_of _ (by decide +kernel)) ggL_shows_X10_shows
set_option maxRecDepth 20000 in
theorem ggL_deep_X10_deep : GoodIn wsL_deep wsX10_deep := goodIn_ca (goodIn_ca (goodIn_r _ [7, 8, 9, 10, 11, 12, 13, 6, 14, 15, 16, 17, 18, 19, 20, 21, 22, 23, 24, 25, 26, 27, 28, 29, 30, 31, 32, 33, 34, 35, 36, 37, 38, 39, 40, 41, 42, 43, 44, 45, 46, 47, 48, 49, 50, 51, 52, 53, 54, 55, 56, 57, 58, 59, 60, 61, 62, 63, 64, 65, 66, 67, 68, 69, 70] (by decide +kernel) (by decide +kernel)) (goodIn_sub (fun _ h => List.mem_cons_of_mem _ (List.mem_append_left _ (List.mem_append_right _ h))) (by decide +kernel))) (goodIn_sub (fun _ h => List.mem_cons_of_mem _ (List.mem_append_right _ h)) (by decide +kernel))
set_option maxRecDepth 20000 in
theorem gL_deep_X10_deep : GoodIn wsL_deep (wsV RL 39 RX10 yX10_deep wsX10_deep) := goodIn_app (goodIn_of _ (by decide +kernel)) ggL_deep_X10_deep
set_option maxRecDepth 20000 in
theorem ggL_film_X10_film : GoodIn wsL_film wsX10_film := goodIn_ca (goodIn_ca (goodIn_r _ [7, 8, 9, 10, 11, 12, 6, 13, 14, 15, 16, 17, 18, 19, 20, 21, 22, 23, 24, 25, 26, 27, 28, 29, 30, 31, 32, 33, 34, 35, 36, 37, 38, 39, 40, 41, 42, 43, 44, 45, 46, 47, 48, 49, 50, 51, 52, 53, 54, 55, 56, 57, 58, 59, 60, 61, 62, 63, 64, 65, 66, 67, 68, 69, 70, 71, 72, 73, 74, 75, 76] (by decide +kernel) (by decide +kernel)) (goodIn_sub (fun _ h => List.mem_cons_of_mem _ (List.mem_append_left _ (List.mem_append_right _ h))) (by decide +kernel))) (goodIn_sub (fun _ h => List.mem_cons_of_mem _ (List.mem_append_right _ h)) (by decide +kernel))
set_option maxRecDepth 20000 in
theorem gL_film_X10_film : GoodIn wsL_film (wsV RL 42 RX10 yX10_film wsX10_film) := goodIn_app (goodIn_of _ (by decide +kernel)) ggL_film_X10_film
set_option maxRecDepth 20000 in
theorem ggL_films_X10_films : GoodIn wsL_films wsX10_films := goodIn_ca (goodIn_r _ [6, 7, 8, 9, 10, 11, 12, 5, 13, 14, 15, 16, 17, 18, 19, 20, 21, 22, 23, 24, 25, 26, 27, 28, 29, 30, 31, 32, 33, 34, 35, 36, 37, 38, 39, 40, 41, 42, 43, 44, 45, 46, 47, 48, 49, 50, 51, 52, 53, 54, 55, 56, 57, 58, 59, 60, 61, 62] (by decide +kernel) (by decide +kernel)) (goodIn_sub (fun _ h => List.mem_cons_of_mem _ (List.mem_append_right _ h)) (by decide +kernel))
set_option maxRecDepth 20000 in
theorem gL_films_X10_films : GoodIn wsL_films (wsV RL 46 RX10 yX10_films wsX10_films) := goodIn_app (goodIn_of _ (by decide +kernel)) ggL_films_X10_films
set_option maxRecDepth 20000 in
theorem ggL_have_X10_have : GoodIn wsL_have wsX10_have := goodIn_ca (goodIn_ca (goodIn_r _ [7, 8, 9, 10, 11, 12, 13, 6, 14, 15, 16, 17, 18, 19, 20, 21, 22, 23, 24, 25, 26, 27, 28, 29, 30, 31, 32, 33, 34, 35, 36, 37, 38, 39, 40, 41, 42, 43, 44, 45, 46, 47, 48, 49, 50, 51, 52, 53, 54, 55, 56, 57, 58, 59, 60, 61, 62, 63, 64, 65, 66, 67, 68, 69, 70, 71, 72, 73, 74, 75, 76, 77, 78, 79, 80, 81] (by decide +kernel) (by decide +kernel)) (goodIn_sub (fun _ h => List.mem_cons_of_mem _ (List.mem_append_left _ (List.mem_append_right _ h))) (by decide +kernel))) (goodIn_sub (fun _ h => List.mem_cons_of_mem _ (List.mem_append_right _ h)) (by decide +kernel))
set_option maxRecDepth 20000 in
theorem gL_have_X10_have : GoodIn wsL_have (wsV RL 49 RX10 yX10_have wsX10_have) := goodIn_app (goodIn_of _ (by decide +kernel)) ggL_have_X10_have
set_option maxRecDepth 20000 in
theorem ggL_showing_X10_showing : GoodIn wsL_showing wsX10_showing := goodIn_ca (goodIn_ca (goodIn_r _ [7, 8, 9, 10, 11, 12, 13, 14, 15, 6, 16, 17, 18, 19, 20, 21, 22, 23, 24, 25, 26, 27, 28, 29, 30, 31, 32, 33, 34, 35, 36, 37, 38, 39, 40, 41, 42, 43, 44, 45, 46, 47, 48, 49, 50, 51, 52, 53, 54, 55, 56, 57, 58, 59, 60, 61, 62, 63, 64, 65, 66, 67, 68, 69, 70, 71, 72, 73, 74, 75, 76, 77, 78] (by decide +kernel) (by decide +kernel)) (goodIn_sub (fun _ h => List.mem_cons_of_mem _ (List.mem_append_left _ (List.mem_append_right _ h))) (by decide +kernel))) (goodIn_sub (fun _ h => List.mem_cons_of_mem _ (List.mem_append_right _ h)) (by decide +kernel))
set_option maxRecDepth 20000 in
theorem gL_showing_X10_showing : GoodIn wsL_showing (wsV RL 52 RX10 yX10_showing wsX10_showing) := goodIn_app (goodIn_of _ (by decide +kernel)) ggL_showing_X10_showing
set_option maxRecDepth 20000 in
theorem ggL_settles_X10_settles : GoodIn wsL_settles wsX10_settles := goodIn_ca (goodIn_ca (goodIn_r _ [7, 8, 9, 10, 11, 12, 13, 14, 15, 16, 6, 17, 18, 19, 20, 21, 22, 23, 24, 25, 26, 27, 28, 29, 30, 31, 32, 33, 34, 35, 36, 37, 38, 39, 40, 41, 42, 43, 44, 45, 46, 47, 48, 49, 50, 51, 52, 53, 54, 55, 56, 57, 58, 59, 60, 61, 62, 63, 64, 65, 66, 67, 68, 69, 70, 71, 72, 73, 74, 75, 76, 77, 78, 79, 80, 81, 82, 83, 84, 85, 86, 87, 88, 89, 90, 91, 92, 93, 94, 95, 96, 97, 98, 99, 100, 101, 102, 103, 104, 105, 106, 107, 108, 109, 110, 111, 112, 113, 114] (by decide +kernel) (by decide +kernel)) (goodIn_sub (fun _ h => List.mem_cons_of_mem _ (List.mem_append_left _ (List.mem_append_right _ h))) (by decide +kernel))) (goodIn_sub (fun _ h => List.mem_cons_of_mem _ (List.mem_append_right _ h)) (by decide +kernel))
set_option maxRecDepth 20000 in
theorem gL_settles_X10_settles : GoodIn wsL_settles (wsV RL 55 RX10 yX10_settles wsX10_settles) := goodIn_app (goodIn_of _ (by decide +kernel)) ggL_settles_X10_settles
set_option maxRecDepth 20000 in
theorem ggL_order_X10_order : GoodIn wsL_order wsX10_order := goodIn_ca (goodIn_ca (goodIn_r _ [7, 8, 9, 10, 11, 6, 12, 13, 14, 15, 16, 17, 18, 19, 20, 21, 22, 23, 24, 25, 26, 27, 28, 29, 30, 31, 32, 33, 34, 35, 36, 37, 38, 39, 40, 41, 42, 43, 44, 45, 46, 47, 48, 49, 50, 51, 52, 53, 54, 55, 56, 57, 58, 59, 60, 61, 62, 63, 64, 65, 66, 67, 68, 69, 70, 71, 72, 73, 74, 75, 76, 77, 78, 79, 80, 81, 82, 83, 84, 85, 86, 87, 88, 89, 90, 91, 92, 93, 94, 95, 96, 97, 98, 99, 100, 101] (by decide +kernel) (by decide +kernel)) (goodIn_sub (fun _ h => List.mem_cons_of_mem _ (List.mem_append_left _ (List.mem_append_right _ h))) (by decide +kernel))) (goodIn_sub (fun _ h => List.mem_cons_of_mem _ (List.mem_append_right _ h)) (by decide +kernel))
set_option maxRecDepth 20000 in
theorem gL_order_X10_order : GoodIn wsL_order (wsV RL 59 RX10 yX10_order wsX10_order) := goodIn_app (goodIn_of _ (by decide +kernel)) ggL_order_X10_order
set_option maxRecDepth 20000 in
theorem ggL_needs_X10_needs : GoodIn wsL_needs wsX10_needs := goodIn_ca (goodIn_r _ [6, 7, 8, 9, 10, 11, 12, 5, 13, 14, 15, 16, 17, 18, 19, 20, 21, 22, 23, 24, 25, 26, 27, 28, 29, 30, 31, 32, 33, 34, 35, 36, 37, 38, 39, 40, 41, 42, 43, 44, 45, 46, 47, 48, 49, 50, 51, 52, 53, 54, 55, 56, 57, 58, 59, 60, 61, 62, 63, 64, 65, 66, 67, 68, 69, 70, 71, 72, 73, 74, 75, 76, 77, 78, 79, 80] (by decide +kernel) (by decide +kernel)) (goodIn_sub (fun _ h => List.mem_cons_of_mem _ (List.mem_append_right _ h)) (by decide +kernel))
set_option maxRecDepth 20000 in
theorem gL_needs_X10_needs : GoodIn wsL_needs (wsV RL 62 RX10 yX10_needs wsX10_needs) := goodIn_app (goodIn_of _ (by decide +kernel)) ggL_needs_X10_needs
set_option maxRecDepth 20000 in
theorem ggL_cost_X10_cost : GoodIn wsL_cost wsX10_cost := goodIn_ca (goodIn_ca (goodIn_r _ [7, 8, 9, 10, 11, 12, 13, 6, 14, 15, 16, 17, 18, 19, 20, 21, 22, 23, 24, 25, 26, 27, 28, 29, 30, 31, 32, 33, 34, 35, 36, 37, 38, 39, 40, 41, 42, 43, 44, 45, 46, 47, 48, 49, 50, 51, 52, 53, 54, 55, 56, 57, 58, 59, 60, 61, 62, 63, 64, 65, 66, 67, 68, 69, 70, 71, 72, 73, 74, 75, 76, 77, 78, 79, 80, 81, 82, 83, 84, 85, 86] (by decide +kernel) (by decide +kernel)) (goodIn_sub (fun _ h => List.mem_cons_of_mem _ (List.mem_append_left _ (List.mem_append_right _ h))) (by decide +kernel))) (goodIn_sub (fun _ h => List.mem_cons_of_mem _ (List.mem_append_right _ h)) (by decide +kernel))
set_option maxRecDepth 20000 in
theorem gL_cost_X10_cost : GoodIn wsL_cost (wsV RL 65 RX10 yX10_cost wsX10_cost) := goodIn_app (goodIn_of _ (by decide +kernel)) ggL_cost_X10_cost
set_option maxRecDepth 20000 in
theorem ggL_view_X10_view : GoodIn wsL_view wsX10_view := goodIn_ca (goodIn_ca (goodIn_r _ [7, 8, 9, 10, 11, 12, 13, 6, 14, 15, 16, 17, 18, 19, 20, 21, 22, 23, 24, 25, 26, 27, 28, 29, 30, 31, 32, 33, 34, 35, 36, 37, 38, 39, 40, 41, 42, 43, 44, 45, 46, 47, 48, 49, 50, 51, 52, 53, 54, 55, 56, 57, 58, 59, 60, 61, 62, 63, 64, 65, 66, 67, 68, 69, 70, 71, 72, 73, 74, 75, 76, 77, 78, 79, 80, 81, 82, 83, 84, 85, 86, 87, 88, 89, 90, 91, 92, 93, 94, 95, 96, 97] (by decide +kernel) (by decide +kernel)) (goodIn_sub (fun _ h => List.mem_cons_of_mem _ (List.mem_append_left _ (List.mem_append_right _ h))) (by decide +kernel))) (goodIn_sub (fun _ h => List.mem_cons_of_mem _ (List.mem_append_right _ h)) (by decide +kernel))
set_option maxRecDepth 20000 in
theorem gL_view_X10_view : GoodIn wsL_view (wsV RL 68 RX10 yX10_view wsX10_view) := goodIn_app (goodIn_of _ (by decide +kernel)) ggL_view_X10_view
set_option maxRecDepth 20000 in
theorem ggL_seams_X10_seams : GoodIn wsL_seams wsX10_seams := goodIn_ca (goodIn_r _ [6, 7, 8, 9, 10, 11, 12, 13, 14, 5, 15, 16, 17, 18, 19, 20, 21, 22, 23, 24, 25, 26, 27, 28, 29, 30, 31, 32, 33, 34, 35, 36, 37, 38, 39, 40, 41, 42, 43, 44, 45, 46, 47, 48, 49, 50, 51, 52, 53, 54, 55, 56, 57, 58, 59, 60, 61, 62, 63, 64, 65, 66, 67, 68, 69, 70, 71, 72, 73, 74] (by decide +kernel) (by decide +kernel)) (goodIn_sub (fun _ h => List.mem_cons_of_mem _ (List.mem_append_right _ h)) (by decide +kernel))
set_option maxRecDepth 20000 in
theorem gL_seams_X10_seams : GoodIn wsL_seams (wsV RL 71 RX10 yX10_seams wsX10_seams) := goodIn_app (goodIn_of _ (by decide +kernel)) ggL_seams_X10_seams
set_option maxRecDepth 20000 in
theorem ggL_sights_X10_sights : GoodIn wsL_sights wsX10_sights := goodIn_ca (goodIn_r _ [6, 7, 8, 9, 10, 11, 12, 5, 13, 14, 15, 16, 17, 18, 19, 20, 21, 22, 23, 24, 25, 26, 27, 28, 29, 30, 31, 32, 33, 34, 35, 36, 37, 38, 39, 40, 41, 42, 43, 44, 45, 46, 47, 48, 49, 50, 51, 52, 53, 54, 55, 56, 57, 58, 59, 60, 61, 62, 63, 64, 65, 66, 67, 68, 69, 70, 71, 72, 73, 74, 75, 76, 77, 78, 79, 80, 81, 82, 83, 84] (by decide +kernel) (by decide +kernel)) (goodIn_sub (fun _ h => List.mem_cons_of_mem _ (List.mem_append_right _ h)) (by decide +kernel))
set_option maxRecDepth 20000 in
theorem gL_sights_X10_sights : GoodIn wsL_sights (wsV RL 74 RX10 yX10_sights wsX10_sights) := goodIn_app (goodIn_of _ (by decide +kernel)) ggL_sights_X10_sights
set_option maxRecDepth 20000 in
theorem ggL_alike_X10_alike : GoodIn wsL_alike wsX10_alike := goodIn_ca (goodIn_r _ [6, 7, 8, 9, 10, 11, 12, 13, 14, 5, 15, 16, 17, 18, 19, 20, 21, 22, 23, 24, 25, 26, 27, 28, 29, 30, 31, 32, 33, 34, 35, 36, 37, 38, 39, 40, 41, 42, 43, 44, 45, 46, 47, 48, 49, 50, 51, 52, 53, 54, 55, 56, 57, 58, 59, 60, 61, 62, 63, 64, 65, 66, 67, 68, 69, 70, 71] (by decide +kernel) (by decide +kernel)) (goodIn_sub (fun _ h => List.mem_cons_of_mem _ (List.mem_append_right _ h)) (by decide +kernel))
set_option maxRecDepth 20000 in
theorem gL_alike_X10_alike : GoodIn wsL_alike (wsV RL 77 RX10 yX10_alike wsX10_alike) := goodIn_app (goodIn_of _ (by decide +kernel)) ggL_alike_X10_alike
set_option maxRecDepth 20000 in
theorem ggL_oldest_X10_oldest : GoodIn wsL_oldest wsX10_oldest := goodIn_ca (goodIn_ca (goodIn_r _ [7, 8, 9, 10, 11, 12, 13, 6, 14, 15, 16, 17, 18, 19, 20, 21, 22, 23, 24, 25, 26, 27, 28, 29, 30, 31, 32, 33, 34, 35, 36, 37, 38, 39, 40, 41, 42, 43, 44, 45, 46, 47, 48, 49, 50, 51, 52, 53, 54, 55, 56, 57, 58, 59, 60, 61, 62, 63, 64, 65, 66, 67, 68, 69, 70, 71, 72, 73, 74, 75, 76, 77, 78, 79, 80, 81, 82, 83, 84, 85, 86, 87, 88, 89, 90, 91, 92, 93, 94, 95, 96, 97, 98, 99] (by decide +kernel) (by decide +kernel)) (goodIn_sub (fun _ h => List.mem_cons_of_mem _ (List.mem_append_left _ (List.mem_append_right _ h))) (by decide +kernel))) (goodIn_sub (fun _ h => List.mem_cons_of_mem _ (List.mem_append_right _ h)) (by decide +kernel))
set_option maxRecDepth 20000 in
theorem gL_oldest_X10_oldest : GoodIn wsL_oldest (wsV RL 80 RX10 yX10_oldest wsX10_oldest) := goodIn_app (goodIn_of _ (by decide +kernel)) ggL_oldest_X10_oldest
set_option maxRecDepth 20000 in
theorem ggL_patch_X10_patch : GoodIn wsL_patch wsX10_patch := goodIn_ca (goodIn_ca (goodIn_r _ [7, 8, 9, 10, 11, 12, 13, 14, 15, 16, 17, 6, 18, 19, 20, 21, 22, 23, 24, 25, 26, 27, 28, 29, 30, 31, 32, 33, 34, 35, 36, 37, 38, 39, 40, 41, 42, 43, 44, 45, 46, 47, 48, 49, 50, 51, 52, 53, 54, 55, 56, 57, 58, 59, 60, 61, 62, 63, 64, 65, 66, 67, 68, 69, 70, 71, 72, 73, 74, 75, 76, 77, 78, 79, 80, 81, 82, 83, 84, 85, 86, 87, 88, 89, 90, 91, 92, 93, 94, 95, 96, 97, 98, 99, 100, 101, 102, 103, 104, 105] (by decide +kernel) (by decide +kernel)) (goodIn_sub (fun _ h => List.mem_cons_of_mem _ (List.mem_append_left _ (List.mem_append_right _ h))) (by decide +kernel))) (goodIn_sub (fun _ h => List.mem_cons_of_mem _ (List.mem_append_right _ h)) (by decide +kernel))
set_option maxRecDepth 20000 in
theorem gL_patch_X10_patch : GoodIn wsL_patch (wsV RL 83 RX10 yX10_patch wsX10_patch) := goodIn_app (goodIn_of _ (by decide +kernel)) ggL_patch_X10_patch
set_option maxRecDepth 20000 in
theorem ggL_tells_X10_tells : GoodIn wsL_tells wsX10_tells := goodIn_ca (goodIn_r _ [6, 7, 8, 9, 10, 11, 12, 13, 14, 5, 15, 16, 17, 18, 19, 20, 21, 22, 23, 24, 25, 26, 27, 28, 29, 30, 31, 32, 33, 34, 35, 36, 37, 38, 39, 40, 41, 42, 43, 44, 45, 46, 47, 48, 49, 50, 51, 52, 53, 54, 55, 56, 57, 58, 59, 60, 61, 62, 63, 64, 65, 66, 67, 68, 69, 70, 71, 72, 73, 74, 75, 76, 77, 78, 79, 80, 81, 82, 83, 84, 85, 86, 87, 88] (by decide +kernel) (by decide +kernel)) (goodIn_sub (fun _ h => List.mem_cons_of_mem _ (List.mem_append_right _ h)) (by decide +kernel))
set_option maxRecDepth 20000 in
theorem gL_tells_X10_tells : GoodIn wsL_tells (wsV RL 86 RX10 yX10_tells wsX10_tells) := goodIn_app (goodIn_of _ (by decide +kernel)) ggL_tells_X10_tells
set_option maxRecDepth 20000 in
theorem ggL_look_X10_look : GoodIn wsL_look wsX10_look := goodIn_ca (goodIn_ca (goodIn_r _ [7, 8, 9, 10, 11, 12, 13, 14, 15, 6, 16, 17, 18, 19, 20, 21, 22, 23, 24, 25, 26, 27, 28, 29, 30, 31, 32, 33, 34, 35, 36, 37, 38, 39, 40, 41, 42, 43, 44, 45, 46, 47, 48, 49, 50, 51, 52, 53, 54, 55, 56, 57, 58, 59, 60, 61, 62, 63, 64, 65, 66, 67, 68, 69, 70, 71, 72, 73, 74, 75, 76, 77, 78, 79, 80, 81, 82, 83, 84, 85, 86, 87, 88, 89, 90, 91, 92, 93, 94, 95, 96, 97, 98, 99, 100, 101, 102, 103, 104, 105, 106, 107, 108, 109, 110, 111, 112, 113, 114, 115, 116, 117] (by decide +kernel) (by decide +kernel)) (goodIn_sub (fun _ h => List.mem_cons_of_mem _ (List.mem_append_left _ (List.mem_append_right _ h))) (by decide +kernel))) (goodIn_sub (fun _ h => List.mem_cons_of_mem _ (List.mem_append_right _ h)) (by decide +kernel))
set_option maxRecDepth 20000 in
theorem gL_look_X10_look : GoodIn wsL_look (wsV RL 89 RX10 yX10_look wsX10_look) := goodIn_app (goodIn_of _ (by decide +kernel)) ggL_look_X10_look
set_option maxRecDepth 20000 in
theorem ggL_cover_X10_cover : GoodIn wsL_cover wsX10_cover := goodIn_ca (goodIn_ca (goodIn_r _ [7, 8, 9, 10, 11, 12, 13, 6, 14, 15, 16, 17, 18, 19, 20, 21, 22, 23, 24, 25, 26, 27, 28, 29, 30, 31, 32, 33, 34, 35, 36, 37, 38, 39, 40, 41, 42, 43, 44, 45, 46, 47, 48, 49, 50, 51, 52, 53, 54, 55, 56, 57, 58, 59, 60, 61, 62, 63, 64, 65, 66, 67, 68, 69, 70, 71, 72, 73, 74, 75, 76, 77, 78, 79, 80, 81, 82] (by decide +kernel) (by decide +kernel)) (goodIn_sub (fun _ h => List.mem_cons_of_mem _ (List.mem_append_left _ (List.mem_append_right _ h))) (by decide +kernel))) (goodIn_sub (fun _ h => List.mem_cons_of_mem _ (List.mem_append_right _ h)) (by decide +kernel))
set_option maxRecDepth 20000 in
theorem gL_cover_X10_cover : GoodIn wsL_cover (wsV RL 92 RX10 yX10_cover wsX10_cover) := goodIn_app (goodIn_of _ (by decide +kernel)) ggL_cover_X10_cover
set_option maxRecDepth 20000 in
theorem ggL_game_X10_game : GoodIn wsL_game wsX10_game := goodIn_ca (goodIn_ca (goodIn_r _ [7, 8, 9, 10, 11, 12, 13, 6, 14, 15, 16, 17, 18, 19, 20, 21, 22, 23, 24, 25, 26, 27, 28, 29, 30, 31, 32, 33, 34, 35, 36, 37, 38, 39, 40, 41, 42, 43, 44, 45, 46, 47, 48, 49, 50, 51, 52, 53, 54, 55, 56, 57, 58, 59, 60, 61, 62, 63, 64, 65, 66, 67, 68, 69, 70, 71, 72, 73, 74, 75] (by decide +kernel) (by decide +kernel)) (goodIn_sub (fun _ h => List.mem_cons_of_mem _ (List.mem_append_left _ (List.mem_append_right _ h))) (by decide +kernel))) (goodIn_sub (fun _ h => List.mem_cons_of_mem _ (List.mem_append_right _ h)) (by decide +kernel))
set_option maxRecDepth 20000 in
theorem gL_game_X10_game : GoodIn wsL_game (wsV RL 95 RX10 yX10_game wsX10_game) := goodIn_app (goodIn_of _ (by decide +kernel)) ggL_game_X10_game
set_option maxRecDepth 20000 in
theorem ggL_round_X10_round : GoodIn wsL_round wsX10_round := goodIn_ca (goodIn_r _ [6, 7, 8, 9, 10, 11, 12, 13, 5, 14, 15, 16, 17, 18, 19, 20, 21, 22, 23, 24, 25, 26, 27, 28, 29, 30, 31, 32, 33, 34, 35, 36, 37, 38, 39, 40, 41, 42, 43, 44, 45, 46, 47, 48, 49, 50, 51, 52, 53, 54, 55, 56, 57, 58, 59, 60, 61, 62, 63, 64, 65, 66, 67, 68, 69, 70, 71, 72, 73, 74, 75, 76, 77, 78, 79, 80, 81, 82, 83, 84, 85, 86, 87, 88, 89, 90, 91, 92, 93, 94] (by decide +kernel) (by decide +kernel)) (goodIn_sub (fun _ h => List.mem_cons_of_mem _ (List.mem_append_right _ h)) (by decide +kernel))
set_option maxRecDepth 20000 in
theorem gL_round_X10_round : GoodIn wsL_round (wsV RL 98 RX10 yX10_round wsX10_round) := goodIn_app (goodIn_of _ (by decide +kernel)) ggL_round_X10_round
set_option maxRecDepth 20000 in
theorem ggL_by_X10_by : GoodIn wsL_by wsX10_by := goodIn_ca (goodIn_r _ [6, 7, 8, 9, 10, 11, 12, 13, 14, 15, 5, 16, 17, 18, 19, 20, 21, 22, 23, 24, 25, 26, 27, 28, 29, 30, 31, 32, 33, 34, 35, 36, 37, 38, 39, 40, 41, 42, 43, 44, 45, 46, 47, 48, 49, 50, 51, 52, 53, 54, 55, 56, 57, 58, 59, 60, 61, 62, 63, 64, 65, 66, 67, 68, 69, 70, 71, 72, 73, 74, 75, 76, 77, 78, 79, 80, 81, 82, 83, 84, 85, 86, 87, 88, 89, 90, 91, 92, 93, 94, 95, 96, 97, 98, 99, 100, 101, 102, 103, 104, 105, 106] (by decide +kernel) (by decide +kernel)) (goodIn_sub (fun _ h => List.mem_cons_of_mem _ (List.mem_append_right _ h)) (by decide +kernel))
set_option maxRecDepth 20000 in
theorem gL_by_X10_by : GoodIn wsL_by (wsV RL 101 RX10 yX10_by wsX10_by) := goodIn_app (goodIn_of _ (by decide +kernel)) ggL_by_X10_by
set_option maxRecDepth 20000 in
theorem ggL_share_X10_share : GoodIn wsL_share wsX10_share := goodIn_ca (goodIn_ca (goodIn_ca (goodIn_r _ [8, 9, 10, 11, 12, 13, 14, 7, 15, 16, 17, 18, 19, 20, 21, 22, 23, 24, 25, 26, 27, 28, 29, 30, 31, 32, 33, 34, 35, 36, 37, 38, 39, 40, 41, 42, 43, 44, 45, 46, 47, 48, 49, 50, 51, 52, 53, 54, 55, 56, 57, 58, 59, 60, 61, 62, 63, 64, 65, 66, 67, 68, 69, 70, 71, 72, 73, 74, 75, 76, 77, 78, 79, 80, 81, 82, 83, 84, 85, 86, 87, 88, 89] (by decide +kernel) (by decide +kernel)) (goodIn_sub (fun _ h => List.mem_cons_of_mem _ (List.mem_append_left _ (List.mem_append_left _ (List.mem_append_right _ h)))) (by decide +kernel))) (goodIn_sub (fun _ h => List.mem_cons_of_mem _ (List.mem_append_left _ (List.mem_append_right _ h))) (by decide +kernel))) (goodIn_sub (fun _ h => List.mem_cons_of_mem _ (List.mem_append_right _ h)) (by decide +kernel))
set_option maxRecDepth 20000 in
theorem gL_share_X10_share : GoodIn wsL_share (wsV RL 105 RX10 yX10_share wsX10_share) := goodIn_app (goodIn_of _ (by decide +kernel)) ggL_share_X10_share
set_option maxRecDepth 20000 in
theorem ggL_ahead_X10_ahead : GoodIn wsL_ahead wsX10_ahead := goodIn_ca (goodIn_ca (goodIn_r _ [7, 8, 9, 10, 11, 12, 13, 14, 15, 16, 17, 18, 6, 19, 20, 21, 22, 23, 24, 25, 26, 27, 28, 29, 30, 31, 32, 33, 34, 35, 36, 37, 38, 39, 40, 41, 42, 43, 44, 45, 46, 47, 48, 49, 50, 51, 52, 53, 54, 55, 56, 57, 58, 59, 60, 61, 62, 63, 64, 65, 66, 67, 68, 69, 70, 71, 72, 73, 74, 75, 76, 77, 78, 79, 80, 81, 82, 83, 84, 85, 86, 87, 88, 89, 90, 91, 92, 93, 94, 95, 96, 97, 98, 99, 100, 101, 102, 103, 104, 105, 106, 107, 108, 109, 110, 111, 112, 113, 114, 115, 116, 117, 118, 119, 120, 121, 122, 123, 124, 125, 126, 127, 128, 129, 130, 131, 132, 133, 134, 135, 136, 137, 138, 139, 140, 141, 142, 143, 144, 145, 146, 147, 148, 149, 150, 151, 152, 153, 154, 155, 156, 157, 158, 159, 160, 161, 162, 163, 164, 165, 166, 167, 168, 169, 170, 171, 172, 173, 174, 175, 176, 177, 178, 179, 180, 181, 182, 183, 184, 185] (by decide +kernel) (by decide +kernel)) (goodIn_sub (fun _ h => List.mem_cons_of_mem _ (List.mem_append_left _ (List.mem_append_right _ h))) (by decide +kernel))) (goodIn_sub (fun _ h => List.mem_cons_of_mem _ (List.mem_append_right _ h)) (by decide +kernel))
set_option maxRecDepth 20000 in
theorem gL_ahead_X10_ahead : GoodIn wsL_ahead (wsV RL 108 RX10 yX10_ahead wsX10_ahead) := goodIn_app (goodIn_of _ (by decide +kernel)) ggL_ahead_X10_ahead
set_option maxRecDepth 20000 in
theorem ggL_decade_X10_decade : GoodIn wsL_decade wsX10_decade := goodIn_ca (goodIn_r _ [6, 7, 8, 9, 10, 11, 12, 13, 14, 15, 16, 17, 18, 19, 5, 20, 21, 22, 23, 24, 25, 26, 27, 28, 29, 30, 31, 32, 33, 34, 35, 36, 37, 38, 39, 40, 41, 42, 43, 44, 45, 46, 47, 48, 49, 50, 51, 52, 53, 54, 55, 56, 57, 58, 59, 60, 61, 62, 63, 64, 65, 66, 67, 68, 69, 70, 71, 72, 73, 74, 75, 76, 77, 78, 79, 80, 81, 82, 83, 84, 85, 86, 87, 88, 89, 90, 91, 92, 93, 94, 95, 96, 97, 98, 99, 100, 101, 102, 103, 104, 105, 106, 107, 108, 109, 110, 111, 112, 113, 114, 115, 116, 117, 118, 119, 120, 121, 122, 123, 124, 125, 126, 127, 128, 129, 130, 131, 132, 133, 134, 135, 136, 137, 138, 139, 140, 141, 142, 143, 144, 145, 146, 147, 148, 149, 150, 151, 152, 153, 154, 155, 156, 157, 158, 159, 160, 161, 162, 163, 164, 165, 166, 167] (by decide +kernel) (by decide +kernel)) (goodIn_sub (fun _ h => List.mem_cons_of_mem _ (List.mem_append_right _ h)) (by decide +kernel))
set_option maxRecDepth 20000 in
theorem gL_decade_X10_decade : GoodIn wsL_decade (wsV RL 111 RX10 yX10_decade wsX10_decade) := goodIn_app (goodIn_of _ (by decide +kernel)) ggL_decade_X10_decade
set_option maxRecDepth 20000 in
theorem ggL_span_X10_span : GoodIn wsL_span wsX10_span := goodIn_ca (goodIn_r _ [6, 7, 8, 9, 10, 11, 12, 13, 14, 15, 16, 17, 18, 19, 20, 21, 22, 23, 24, 25, 26, 5, 27, 28, 29, 30, 31, 32, 33, 34, 35, 36, 37, 38, 39, 40, 41, 42, 43, 44, 45, 46, 47, 48, 49, 50, 51, 52, 53, 54, 55, 56, 57, 58, 59, 60, 61, 62, 63, 64, 65, 66, 67, 68, 69, 70, 71, 72, 73, 74, 75, 76, 77, 78, 79, 80, 81, 82, 83, 84, 85, 86, 87, 88, 89, 90, 91, 92, 93, 94, 95, 96, 97, 98, 99, 100, 101, 102, 103, 104, 105, 106, 107, 108, 109, 110, 111, 112, 113, 114, 115, 116, 117, 118, 119, 120, 121, 122, 123, 124, 125, 126, 127, 128, 129, 130, 131, 132, 133, 134, 135, 136, 137, 138, 139, 140, 141, 142, 143, 144, 145, 146, 147, 148, 149, 150, 151, 152, 153, 154, 155, 156, 157, 158, 159, 160, 161, 162, 163, 164] (by decide +kernel) (by decide +kernel)) (goodIn_sub (fun _ h => List.mem_cons_of_mem _ (List.mem_append_right _ h)) (by decide +kernel))
set_option maxRecDepth 20000 in
theorem gL_span_X10_span : GoodIn wsL_span (wsV RL 114 RX10 yX10_span wsX10_span) := goodIn_app (goodIn_of _ (by decide +kernel)) ggL_span_X10_span
set_option maxRecDepth 20000 in
theorem ggL_law__X10_init : GoodIn wsL_law_ wsX10_init := goodIn_r _ [9, 10, 11, 12, 13, 14, 15, 16, 17, 18, 19, 20, 21, 22, 23, 24, 25, 26, 27, 28, 29, 30, 31, 32, 33, 34, 35, 36, 37, 38, 39, 40, 41, 42, 43, 44, 45, 46, 47, 48, 49, 50, 51, 52, 53, 54, 55, 56, 57, 58, 59, 60, 61, 62, 63, 64, 65, 66, 67, 68, 69, 70, 71, 72, 73, 74, 75, 76, 77, 78, 79, 80, 81, 82, 83, 84, 85, 86, 87, 88, 89, 90, 91, 92, 93, 94, 95, 96, 97, 98, 99, 100, 101, 102, 103, 104, 105, 106, 107, 108, 109, 110, 111, 112, 113, 114, 115, 116, 117, 118, 119, 120, 121, 122, 123, 124, 125, 126, 127, 128, 129, 130, 131, 132, 133, 134, 135, 136, 137, 138, 139, 140, 141, 142, 143, 144, 145, 1624, 1625, 1626, 1627, 1628, 1629, 1630, 1631, 1632, 1564, 1565, 1566, 1567, 1568, 1569, 1570, 1571, 1572, 1573, 1574, 1575, 1576, 1577, 1578, 1579, 1633, 1634, 1635, 1636, 1637, 1638, 1639, 1640, 1641, 1642, 1643, 1644, 1645, 1646, 1647, 1648, 1649, 1650, 1651, 1652, 1653, 1654, 1655, 1656, 1657, 1658, 1659, 1660, 1661, 1662, 1663, 1664, 1665, 1666, 1667, 1668, 1669, 1670, 1671, 1672, 1673, 1674, 1675, 1676, 1677, 1678, 1679, 1680, 1681, 1682, 1683, 1684, 1685, 1686, 1687, 1688, 1689] (by decide +kernel) (by decide +kernel)
set_option maxRecDepth 20000 in
theorem gL_law__X10_init : GoodIn wsL_law_ (wsX10_init) := ggL_law__X10_init
set_option maxRecDepth 20000 in
theorem ggL_law__X11_init : GoodIn wsL_law_ wsX11_init := goodIn_r _ [148, 149, 11, 12, 150, 54, 151, 152, 153, 154, 155, 156, 157, 158, 159, 160, 161, 162, 163, 164, 165, 166, 167, 168, 169, 170, 171, 172, 173, 174, 175, 5, 176, 177, 178, 179, 180, 181, 182, 183, 184, 185, 186, 187, 188, 1580, 1581, 1582, 1583, 1584, 1585, 1586, 1587, 1588, 1589, 1590, 1591, 1592, 1593, 1594, 1595, 1596, 1597, 1598, 1599, 1600, 1601, 1602, 1603, 1604, 1605, 1606, 1607, 1608, 1609, 1610, 1611, 1612, 1613, 1614, 1615, 1616, 1617, 1618, 1619, 1620, 1621, 1622, 1623] (by decide +kernel) (by decide +kernel)
set_option maxRecDepth 20000 in
theorem gL_law__X11_init : GoodIn wsL_law_ (wsX11_init) := ggL_law__X11_init
set_option maxRecDepth 20000 in
theorem ggL_law__X10_feed : GoodIn wsL_law_ wsX10_feed := goodIn_r _ [192, 16, 193, 194, 195, 196, 15, 197, 198, 199, 200, 201, 202, 60, 1564, 1565, 1566, 1567, 1568, 1569, 1570, 1571, 1572, 1573, 1574, 1575, 1576, 1577, 1578, 1579, 1624, 1625, 1626, 1627, 1628, 1629, 1630, 1631, 1632] (by decide +kernel) (by decide +kernel)
set_option maxRecDepth 20000 in
theorem gL_law__X10_feed : GoodIn wsL_law_ (wsV RL 122 RX10 yX10_feed wsX10_feed) := goodIn_app (goodIn_of _ (by decide +kernel)) ggL_law__X10_feed
set_option maxRecDepth 20000 in
theorem ggL_law__X11_feed : GoodIn wsL_law_ wsX11_feed := goodIn_r _ [206, 207, 208, 151, 1580, 1581, 1582, 1583, 1584, 1585, 1586, 1587, 1588, 1589, 1590, 1591, 1592, 1593, 1594, 1595, 1596, 1597, 1598, 1599, 1600, 1601, 1602, 1603, 1604, 1605, 1606, 1607, 1608, 1609, 1610, 1611, 1612, 1613, 1614, 1615, 1616, 1617, 1618, 1619, 1620, 1621, 1622, 1623] (by decide +kernel) (by decide +kernel)
set_option maxRecDepth 20000 in
theorem gL_law__X11_feed : GoodIn wsL_law_ (wsV RL 126 RX11 yX11_feed wsX11_feed) := goodIn_app (goodIn_of _ (by decide +kernel)) ggL_law__X11_feed
set_option maxRecDepth 20000 in
theorem ggL_law__L_street : GoodIn wsL_law_ wsL_street := goodIn_ca (goodIn_r _ [212, 213, 214, 215, 216, 2, 217, 21, 16, 193, 218, 20, 25, 30, 43, 219, 220, 221, 222, 223, 224, 225, 226, 227, 228, 229, 230, 231, 55, 232, 233, 234, 15, 235, 236, 237, 238, 61, 239, 240, 241, 242, 243, 60, 244, 245, 246, 247, 248, 249, 250, 251, 252, 253, 19, 254, 255, 256, 73, 74, 75, 76, 77, 78, 79, 80, 81, 82, 71, 83, 84, 85, 86, 257, 258, 259, 260, 261, 262, 263, 264, 265, 266, 267, 268, 269, 270, 271, 272, 273, 274, 275, 276, 277, 278, 279, 280, 281, 282, 283, 284, 285, 286, 287, 288, 289, 290, 291, 292, 293, 294, 295, 296, 297, 298, 299, 300, 301, 302, 303, 304, 305, 306, 307, 308, 309, 310, 311, 312, 313, 314, 315, 316, 317, 318, 319, 320, 321, 322, 323, 324, 325, 326, 327, 328, 329, 330, 331, 332, 333, 66, 67, 68, 69, 70, 334, 335, 336, 337, 338, 339, 340, 341, 342, 72, 343, 344, 345, 346, 347, 348, 349, 350, 351, 352, 353, 354, 355, 94, 95, 24, 96, 91, 97, 356, 357, 358, 29, 359, 360, 361, 362, 363, 364, 42, 365, 118, 366, 367, 368, 369, 117, 370, 124, 125, 371, 372, 373, 374, 375, 376, 1564, 1565, 1566, 1567, 1568, 1569, 1570, 1571, 1572, 1573, 1574, 1575, 1576, 1577, 1578, 1579, 1624, 1625, 1626, 1627, 1628, 1629, 1630, 1631, 1632, 1633, 1634, 1635, 1636, 1637, 1638, 1639, 1640, 1641, 1642, 1643, 1644, 1645, 1646, 1647, 1648, 1649, 1650, 1651, 1652, 1660, 1661, 1662, 1682, 1683, 1684, 1685, 1686, 1687, 1688, 1689] (by decide +kernel) (by decide +kernel)) (goodIn_sub (fun _ h => List.mem_append_left _ (List.mem_append_left _ (List.mem_append_right _ h))) (by decide +kernel))
set_option maxRecDepth 20000 in
theorem gL_law__L_street : GoodIn wsL_law_ (va_wsS RL 127 yL_street wsL_street) := goodIn_app (goodIn_of _ (by decide +kernel)) ggL_law__L_street
set_option maxRecDepth 20000 in
theorem ggL_law__X11_street : GoodIn wsL_law_ wsX11_street := goodIn_r _ [380, 207, 208, 381, 382, 383, 150, 154, 384, 385, 5, 386, 387, 388, 389, 390, 152, 391, 392, 393, 394, 395, 396, 397, 398, 399, 400, 401, 402, 403, 404, 405, 151, 173, 174, 175, 176, 153, 406, 407, 408, 409, 156, 160, 158, 410, 411, 412, 413, 414, 415, 416, 417, 418, 419, 420, 421, 422, 423, 424, 425, 426, 427, 428, 429, 430, 431, 432, 433, 434, 435, 436, 437, 438, 439, 440, 441, 442, 443, 444, 445, 446, 447, 448, 449, 450, 451, 177, 178, 179, 180, 157, 161, 159, 169, 181, 182, 183, 184, 185, 186, 187, 188, 1580, 1581, 1582, 1583, 1584, 1585, 1586, 1587, 1588, 1589, 1590, 1591, 1592, 1593, 1594, 1595, 1596, 1597, 1598, 1599, 1600, 1601, 1602, 1603, 1604, 1605, 1606, 1607, 1608, 1609, 1610, 1611, 1612, 1613, 1614, 1615, 1616, 1617, 1618, 1619, 1620, 1621, 1622, 1623] (by decide +kernel) (by decide +kernel)
set_option maxRecDepth 20000 in
theorem gL_law__X11_street : GoodIn wsL_law_ (wsV RL 132 RX11 yX11_street wsX11_street) := goodIn_app (goodIn_of _ (by decide +kernel)) ggL_law__X11_street
set_option maxRecDepth 20000 in
theorem ggL_law__X11_thrown : GoodIn wsL_law_ wsX11_thrown := goodIn_r _ [455, 207, 1580, 1581, 1582, 1583, 1584, 1585, 1586, 1587, 1588, 1589, 1590, 1591, 1592, 1593, 1594, 1595, 1596, 1597, 1598, 1599, 1600, 1601, 1602, 1603, 1604, 1605, 1606, 1607, 1608, 1609, 1610, 1611, 1612, 1613, 1614, 1615, 1616, 1617, 1618, 1619, 1620, 1621, 1622, 1623] (by decide +kernel) (by decide +kernel)
set_option maxRecDepth 20000 in
theorem gL_law__X11_thrown : GoodIn wsL_law_ (wsV RL 133 RX11 yX11_thrown wsX11_thrown) := goodIn_app (goodIn_of _ (by decide +kernel)) ggL_law__X11_thrown
set_option maxRecDepth 20000 in
theorem ggL_law__L_law : GoodIn wsL_law_ wsL_law := goodIn_ca (goodIn_r _ [458, 213, 459, 460, 461, 2, 462, 26, 16, 193, 218, 25, 222, 223, 224, 225, 226, 227, 228, 229, 230, 231, 55, 232, 233, 234, 15, 235, 236, 237, 238, 61, 239, 240, 241, 242, 243, 60, 244, 245, 246, 247, 248, 249, 250, 463, 464, 465, 24, 466, 97, 467, 468, 469, 470, 471, 472, 473, 474, 348, 349, 350, 475, 476, 477, 478, 479, 91, 480, 481, 482, 483, 484, 344, 345, 346, 347, 338, 318, 319, 320, 485, 486, 487, 488, 489, 490, 491, 492, 335, 336, 337, 493, 265, 266, 267, 268, 269, 270, 271, 272, 273, 274, 275, 276, 277, 278, 279, 280, 281, 282, 283, 284, 285, 286, 287, 288, 289, 290, 291, 292, 293, 294, 295, 296, 297, 298, 299, 300, 301, 302, 303, 304, 305, 306, 307, 308, 309, 310, 311, 312, 313, 314, 315, 316, 494, 495, 496, 497, 498, 499, 500, 501, 352, 353, 354, 1564, 1565, 1566, 1567, 1568, 1569, 1570, 1571, 1572, 1573, 1574, 1575, 1576, 1577, 1578, 1579, 1624, 1625, 1626, 1627, 1628, 1629, 1630, 1631, 1632, 1646, 1647, 1648] (by decide +kernel) (by decide +kernel)) (goodIn_sub (fun _ h => List.mem_append_left _ (List.mem_append_left _ (List.mem_append_right _ h))) (by decide +kernel))
set_option maxRecDepth 20000 in
theorem gL_law__L_law : GoodIn wsL_law_ (va_wsS RL 137 yL_law wsL_law) := goodIn_app (goodIn_of _ (by decide +kernel)) ggL_law__L_law
set_option maxRecDepth 20000 in
theorem ggL_law__X11_law : GoodIn wsL_law_ wsX11_law := goodIn_r _ [505, 207, 208, 506, 381, 382, 383, 150, 181, 163, 162, 384, 385, 5, 386, 387, 388, 389, 390, 152, 391, 392, 393, 394, 395, 396, 397, 398, 399, 400, 401, 402, 403, 404, 405, 151, 507, 508, 509, 510, 511, 512, 513, 514, 515, 516, 517, 518, 519, 520, 521, 522, 414, 415, 416, 417, 418, 419, 420, 421, 422, 423, 424, 425, 426, 427, 523, 524, 525, 526, 428, 429, 430, 431, 432, 433, 434, 435, 444, 445, 446, 447, 527, 528, 529, 530, 531, 532, 533, 534, 436, 437, 438, 439, 440, 441, 442, 443, 535, 536, 537, 538, 448, 449, 450, 451, 186, 187, 188, 1580, 1581, 1582, 1583, 1584, 1585, 1586, 1587, 1588, 1589, 1590, 1591, 1592, 1593, 1594, 1595, 1596, 1597, 1598, 1599, 1600, 1601, 1602, 1603, 1604, 1605, 1606, 1607, 1608, 1609, 1610, 1611, 1612, 1613, 1614, 1615, 1616, 1617, 1618, 1619, 1620, 1621, 1622, 1623] (by decide +kernel) (by decide +kernel)
set_option maxRecDepth 20000 in
theorem gL_law__X11_law : GoodIn wsL_law_ (wsV RL 139 RX11 yX11_law wsX11_law) := goodIn_app (goodIn_of _ (by decide +kernel)) ggL_law__X11_law
set_option maxRecDepth 20000 in
theorem ggL_law__L_work : GoodIn wsL_law_ wsL_work := goodIn_ca (goodIn_r _ [541, 213, 542, 543, 544, 2, 545, 43, 546, 16, 193, 52, 20, 218, 25, 547, 220, 548, 222, 223, 224, 225, 226, 227, 228, 229, 230, 231, 55, 232, 233, 234, 15, 235, 236, 237, 238, 61, 239, 240, 241, 242, 243, 60, 244, 245, 246, 247, 248, 249, 250, 549, 550, 551, 50, 552, 553, 554, 555, 556, 557, 558, 559, 560, 561, 562, 344, 345, 346, 347, 348, 349, 350, 338, 318, 319, 320, 563, 137, 142, 143, 564, 565, 566, 567, 265, 266, 267, 268, 269, 270, 271, 272, 273, 274, 275, 276, 277, 278, 279, 280, 281, 282, 283, 284, 285, 286, 287, 288, 289, 290, 291, 292, 293, 294, 295, 296, 297, 298, 299, 300, 301, 302, 303, 304, 305, 306, 307, 308, 309, 310, 311, 312, 313, 314, 315, 316, 568, 569, 570, 335, 336, 337, 571, 572, 573, 574, 575, 138, 139, 576, 140, 577, 141, 578, 352, 353, 354, 579, 580, 581, 42, 582, 366, 118, 583, 584, 585, 586, 119, 115, 116, 117, 120, 121, 122, 11, 12, 54, 123, 124, 125, 587, 588, 589, 590, 591, 592, 593, 594, 371, 372, 373, 374, 375, 595, 596, 597, 598, 599, 600, 601, 602, 603, 604, 605, 606, 607, 608, 609, 610, 611, 612, 144, 613, 145, 614, 615, 616, 617, 618, 619, 620, 621, 622, 623, 624, 625, 626, 627, 628, 629, 630, 34, 631, 632, 633, 634, 635, 636, 637, 46, 638, 639, 640, 641, 642, 643, 644, 645, 646, 647, 648, 649, 650, 19, 651, 72, 652, 653, 654, 655, 656, 657, 658, 659, 660, 661, 662, 663, 664, 665, 666, 667, 668, 669, 131, 670, 671, 672, 673, 674, 675, 676, 677, 678, 679, 680, 681, 682, 683, 684, 24, 685, 97, 91, 92, 686, 687, 688, 689, 690, 691, 692, 693, 376, 84, 85, 86, 694, 695, 696, 697, 698, 699, 1564, 1565, 1566, 1567, 1568, 1569, 1570, 1571, 1572, 1573, 1574, 1575, 1576, 1577, 1578, 1579, 1660, 1661, 1662, 1624, 1625, 1626, 1627, 1628, 1629, 1630, 1631, 1632, 1669, 1670, 1671, 1672, 1673, 1674, 1675, 1676, 1677, 1678, 1679, 1680, 1681, 1633, 1634, 1635, 1636, 1637, 1638, 1639, 1640, 1641, 1642, 1643, 1644, 1645, 1682, 1683, 1684, 1685, 1686, 1687, 1688, 1689, 1663, 1664, 1665, 1666, 1667, 1668, 1646, 1647, 1648] (by decide +kernel) (by decide +kernel)) (goodIn_sub (fun _ h => List.mem_append_left _ (List.mem_append_left _ (List.mem_append_right _ h))) (by decide +kernel))
set_option maxRecDepth 20000 in
theorem gL_law__L_work : GoodIn wsL_law_ (va_wsS RL 140 yL_work wsL_work) := goodIn_app (goodIn_of _ (by decide +kernel)) ggL_law__L_work
set_option maxRecDepth 20000 in
theorem ggL_law__X11_work : GoodIn wsL_law_ wsX11_work := goodIn_r _ [703, 207, 208, 183, 150, 704, 381, 382, 383, 169, 171, 705, 706, 184, 384, 385, 5, 386, 387, 388, 389, 390, 152, 391, 392, 393, 394, 395, 396, 397, 398, 399, 400, 401, 402, 403, 404, 405, 151, 707, 708, 709, 710, 168, 154, 157, 711, 712, 713, 714, 414, 415, 416, 417, 418, 419, 420, 421, 422, 423, 424, 425, 426, 427, 428, 429, 430, 431, 523, 524, 525, 526, 432, 433, 434, 435, 436, 437, 438, 439, 440, 441, 442, 443, 444, 445, 446, 447, 448, 449, 450, 451, 715, 716, 717, 718, 719, 720, 721, 722, 723, 724, 725, 726, 727, 728, 729, 730, 731, 732, 733, 734, 735, 736, 737, 738, 739, 740, 741, 742, 743, 744, 745, 746, 747, 748, 749, 750, 751, 752, 753, 161, 754, 755, 756, 757, 758, 759, 760, 761, 762, 763, 764, 765, 766, 767, 159, 768, 769, 770, 771, 167, 772, 773, 774, 775, 776, 777, 778, 181, 162, 166, 779, 780, 781, 782, 783, 784, 785, 786, 787, 788, 789, 790, 791, 792, 793, 794, 1580, 1581, 1582, 1583, 1584, 1585, 1586, 1587, 1588, 1589, 1590, 1591, 1592, 1593, 1594, 1595, 1596, 1597, 1598, 1599, 1600, 1601, 1602, 1603, 1604, 1605, 1606, 1607, 1608, 1609, 1610, 1611, 1612, 1613, 1614, 1615, 1616, 1617, 1618, 1619, 1620, 1621, 1622, 1623] (by decide +kernel) (by decide +kernel)
set_option maxRecDepth 20000 in
theorem gL_law__X11_work : GoodIn wsL_law_ (wsV RL 142 RX11 yX11_work wsX11_work) := goodIn_app (goodIn_of _ (by decide +kernel)) ggL_law__X11_work
set_option maxRecDepth 20000 in
theorem ggL_law__L_book : GoodIn wsL_law_ wsL_book := goodIn_ca (goodIn_r _ [797, 213, 798, 799, 800, 2, 801, 31, 16, 193, 218, 30, 802, 222, 223, 224, 225, 226, 227, 228, 229, 230, 231, 55, 232, 233, 234, 15, 235, 236, 237, 238, 61, 239, 240, 241, 242, 243, 60, 244, 245, 246, 247, 248, 249, 250, 803, 804, 805, 29, 806, 807, 808, 809, 357, 358, 359, 360, 361, 810, 811, 812, 813, 814, 101, 102, 815, 318, 319, 320, 816, 335, 336, 337, 338, 817, 344, 345, 346, 347, 348, 349, 350, 818, 352, 353, 354, 1564, 1565, 1566, 1567, 1568, 1569, 1570, 1571, 1572, 1573, 1574, 1575, 1576, 1577, 1578, 1579, 1624, 1625, 1626, 1627, 1628, 1629, 1630, 1631, 1632, 1649, 1650, 1651, 1652] (by decide +kernel) (by decide +kernel)) (goodIn_sub (fun _ h => List.mem_append_left _ (List.mem_append_left _ (List.mem_append_right _ h))) (by decide +kernel))
set_option maxRecDepth 20000 in
theorem gL_law__L_book : GoodIn wsL_law_ (va_wsS RL 143 yL_book wsL_book) := goodIn_app (goodIn_of _ (by decide +kernel)) ggL_law__L_book
set_option maxRecDepth 20000 in
theorem ggL_law__X11_book : GoodIn wsL_law_ wsX11_book := goodIn_r _ [822, 207, 208, 381, 382, 383, 165, 150, 182, 164, 384, 385, 5, 386, 387, 388, 389, 390, 152, 391, 392, 393, 394, 395, 396, 397, 398, 399, 400, 401, 402, 403, 404, 405, 151, 436, 437, 438, 439, 440, 441, 442, 443, 428, 429, 430, 431, 444, 445, 446, 447, 448, 449, 450, 451, 186, 187, 188, 1580, 1581, 1582, 1583, 1584, 1585, 1586, 1587, 1588, 1589, 1590, 1591, 1592, 1593, 1594, 1595, 1596, 1597, 1598, 1599, 1600, 1601, 1602, 1603, 1604, 1605, 1606, 1607, 1608, 1609, 1610, 1611, 1612, 1613, 1614, 1615, 1616, 1617, 1618, 1619, 1620, 1621, 1622, 1623] (by decide +kernel) (by decide +kernel)
set_option maxRecDepth 20000 in
theorem gL_law__X11_book : GoodIn wsL_law_ (wsV RL 145 RX11 yX11_book wsX11_book) := goodIn_app (goodIn_of _ (by decide +kernel)) ggL_law__X11_book
set_option maxRecDepth 20000 in
theorem ggL_law__X10_fault : GoodIn wsL_law_ wsX10_fault := goodIn_r _ [826, 16, 827, 1564, 1565, 1566, 1567, 1568, 1569, 1570, 1571, 1572, 1573, 1574, 1575, 1576, 1577, 1578, 1579, 1624, 1625, 1626, 1627, 1628, 1629, 1630, 1631, 1632] (by decide +kernel) (by decide +kernel)
set_option maxRecDepth 20000 in
theorem gL_law__X10_fault : GoodIn wsL_law_ (wsV RL 146 RX10 yX10_fault wsX10_fault) := goodIn_app (goodIn_of _ (by decide +kernel)) ggL_law__X10_fault
set_option maxRecDepth 20000 in
theorem ggL_law__X11_fault : GoodIn wsL_law_ wsX11_fault := goodIn_r _ [831, 207, 150, 1580, 1581, 1582, 1583, 1584, 1585, 1586, 1587, 1588, 1589, 1590, 1591, 1592, 1593, 1594, 1595, 1596, 1597, 1598, 1599, 1600, 1601, 1602, 1603, 1604, 1605, 1606, 1607, 1608, 1609, 1610, 1611, 1612, 1613, 1614, 1615, 1616, 1617, 1618, 1619, 1620, 1621, 1622, 1623] (by decide +kernel) (by decide +kernel)
set_option maxRecDepth 20000 in
theorem gL_law__X11_fault : GoodIn wsL_law_ (wsV RL 149 RX11 yX11_fault wsX11_fault) := goodIn_app (goodIn_of _ (by decide +kernel)) ggL_law__X11_fault
set_option maxRecDepth 20000 in
theorem ggL_law__X10_undo : GoodIn wsL_law_ wsX10_undo := goodIn_r _ [835, 43, 546, 220, 836, 837, 838, 42, 839, 366, 118, 583, 584, 585, 586, 119, 115, 116, 117, 120, 121, 122, 11, 12, 54, 123, 124, 125, 587, 588, 589, 590, 591, 592, 593, 594, 371, 372, 373, 374, 375, 1564, 1565, 1566, 1567, 1568, 1569, 1570, 1571, 1572, 1573, 1574, 1575, 1576, 1577, 1578, 1579, 1660, 1661, 1662, 1682, 1683, 1684, 1685, 1686, 1687, 1688, 1689] (by decide +kernel) (by decide +kernel)
set_option maxRecDepth 20000 in
theorem gL_law__X10_undo : GoodIn wsL_law_ (wsV RL 150 RX10 yX10_undo wsX10_undo) := goodIn_app (goodIn_of _ (by decide +kernel)) ggL_law__X10_undo
set_option maxRecDepth 20000 in
theorem ggL_law__X11_undo : GoodIn wsL_law_ wsX11_undo := goodIn_r _ [843, 207, 183, 171, 169, 184, 715, 716, 5, 717, 1580, 1581, 1582, 1583, 1584, 1585, 1586, 1587, 1588, 1589, 1590, 1591, 1592, 1593, 1594, 1595, 1596, 1597, 1598, 1599, 1600, 1601, 1602, 1603, 1604, 1605, 1606, 1607, 1608, 1609, 1610, 1611, 1612, 1613, 1614, 1615, 1616, 1617, 1618, 1619, 1620, 1621, 1622, 1623] (by decide +kernel) (by decide +kernel)
set_option maxRecDepth 20000 in
theorem gL_law__X11_undo : GoodIn wsL_law_ (wsV RL 153 RX11 yX11_undo wsX11_undo) := goodIn_app (goodIn_of _ (by decide +kernel)) ggL_law__X11_undo
set_option maxRecDepth 20000 in
theorem ggL_law__L_told : GoodIn wsL_law_ wsL_told := goodIn_ca (goodIn_r _ [846, 213, 847, 848, 849, 2, 850, 20, 221, 851, 852, 43, 51, 853, 854, 855, 30, 802, 220, 856, 857, 858, 859, 226, 227, 228, 229, 230, 231, 55, 860, 861, 862, 117, 863, 864, 865, 866, 867, 124, 1564, 1565, 1566, 1567, 1568, 1569, 1570, 1571, 1572, 1573, 1574, 1575, 1576, 1577, 1578, 1579, 1633, 1634, 1635, 1636, 1637, 1638, 1639, 1640, 1641, 1642, 1643, 1644, 1645, 1660, 1661, 1662, 1682, 1683, 1684, 1685, 1686, 1687, 1688, 1689, 1649, 1650, 1651, 1652] (by decide +kernel) (by decide +kernel)) (goodIn_sub (fun _ h => List.mem_append_left _ (List.mem_append_left _ (List.mem_append_right _ h))) (by decide +kernel))
set_option maxRecDepth 20000 in
theorem gL_law__L_told : GoodIn wsL_law_ (va_wsS RL 154 yL_told wsL_told) := goodIn_app (goodIn_of _ (by decide +kernel)) ggL_law__L_told
set_option maxRecDepth 20000 in
theorem ggL_law__X11_told : GoodIn wsL_law_ wsX11_told := goodIn_r _ [871, 207, 154, 169, 182, 184, 384, 385, 5, 386, 387, 388, 389, 390, 152, 872, 873, 874, 875, 876, 877, 878, 789, 790, 791, 1580, 1581, 1582, 1583, 1584, 1585, 1586, 1587, 1588, 1589, 1590, 1591, 1592, 1593, 1594, 1595, 1596, 1597, 1598, 1599, 1600, 1601, 1602, 1603, 1604, 1605, 1606, 1607, 1608, 1609, 1610, 1611, 1612, 1613, 1614, 1615, 1616, 1617, 1618, 1619, 1620, 1621, 1622, 1623] (by decide +kernel) (by decide +kernel)
set_option maxRecDepth 20000 in
theorem gL_law__X11_told : GoodIn wsL_law_ (wsV RL 156 RX11 yX11_told wsX11_told) := goodIn_app (goodIn_of _ (by decide +kernel)) ggL_law__X11_told
set_option maxRecDepth 20000 in
theorem ggL_law__L_pane : GoodIn wsL_law_ wsL_pane := goodIn_ca (goodIn_ca (goodIn_r _ [881, 882, 213, 883, 884, 885, 2, 886, 20, 887, 888, 889, 890, 43, 51, 891, 892, 893, 894, 895, 896, 221, 55, 856, 857, 858, 859, 226, 227, 228, 229, 230, 231, 897, 865, 866, 117, 867, 124, 898, 673, 674, 675, 374, 1564, 1565, 1566, 1567, 1568, 1569, 1570, 1571, 1572, 1573, 1574, 1575, 1576, 1577, 1578, 1579, 1633, 1634, 1635, 1636, 1637, 1638, 1639, 1640, 1641, 1642, 1643, 1644, 1645, 1660, 1661, 1662, 1682, 1683, 1684, 1685, 1686, 1687, 1688, 1689] (by decide +kernel) (by decide +kernel)) (goodIn_sub (fun _ h => List.mem_append_left _ (List.mem_append_right _ h)) (by decide +kernel))) (goodIn_sub (fun _ h => List.mem_append_left _ (List.mem_append_left _ (List.mem_append_right _ h))) (by decide +kernel))
set_option maxRecDepth 20000 in
theorem gL_law__L_pane : GoodIn wsL_law_ (va_wsS RL 157 yL_pane wsL_pane) := goodIn_app (goodIn_of _ (by decide +kernel)) ggL_law__L_pane
set_option maxRecDepth 20000 in
theorem ggL_law__X11_pane : GoodIn wsL_law_ wsX11_pane := goodIn_r _ [902, 207, 157, 169, 903, 904, 905, 5, 906, 154, 384, 385, 386, 387, 388, 389, 390, 152, 876, 877, 878, 1580, 1581, 1582, 1583, 1584, 1585, 1586, 1587, 1588, 1589, 1590, 1591, 1592, 1593, 1594, 1595, 1596, 1597, 1598, 1599, 1600, 1601, 1602, 1603, 1604, 1605, 1606, 1607, 1608, 1609, 1610, 1611, 1612, 1613, 1614, 1615, 1616, 1617, 1618, 1619, 1620, 1621, 1622, 1623] (by decide +kernel) (by decide +kernel)
set_option maxRecDepth 20000 in
theorem gL_law__X11_pane : GoodIn wsL_law_ (wsV RL 160 RX11 yX11_pane wsX11_pane) := goodIn_app (goodIn_of _ (by decide +kernel)) ggL_law__X11_pane
set_option maxRecDepth 20000 in
theorem ggL_law__L_shows : GoodIn wsL_law_ wsL_shows := goodIn_ca (goodIn_ca (goodIn_r _ [909, 910, 882, 911, 912, 913, 2, 914, 43, 51, 915, 916, 917, 918, 919, 920, 20, 887, 888, 55, 891, 892, 893, 894, 895, 896, 221, 921, 656, 657, 922, 659, 660, 117, 661, 124, 123, 1564, 1565, 1566, 1567, 1568, 1569, 1570, 1571, 1572, 1573, 1574, 1575, 1576, 1577, 1578, 1579, 1660, 1661, 1662, 1633, 1634, 1635, 1636, 1637, 1638, 1639, 1640, 1641, 1642, 1643, 1644, 1645, 1682, 1683, 1684, 1685, 1686, 1687, 1688, 1689] (by decide +kernel) (by decide +kernel)) (goodIn_sub (fun _ h => List.mem_append_right _ h) (by decide +kernel))) (goodIn_sub (fun _ h => List.mem_append_left _ (List.mem_append_right _ h)) (by decide +kernel))
set_option maxRecDepth 20000 in
theorem gL_law__L_shows : GoodIn wsL_law_ (va_wsS RL 161 yL_shows wsL_shows) := goodIn_app (goodIn_of _ (by decide +kernel)) ggL_law__L_shows
set_option maxRecDepth 20000 in
theorem ggL_law__X11_shows : GoodIn wsL_law_ wsX11_shows := goodIn_r _ [926, 207, 169, 927, 928, 929, 5, 930, 903, 904, 905, 906, 154, 384, 385, 386, 387, 388, 389, 390, 152, 734, 735, 736, 737, 157, 761, 762, 763, 747, 748, 749, 1580, 1581, 1582, 1583, 1584, 1585, 1586, 1587, 1588, 1589, 1590, 1591, 1592, 1593, 1594, 1595, 1596, 1597, 1598, 1599, 1600, 1601, 1602, 1603, 1604, 1605, 1606, 1607, 1608, 1609, 1610, 1611, 1612, 1613, 1614, 1615, 1616, 1617, 1618, 1619, 1620, 1621, 1622, 1623] (by decide +kernel) (by decide +kernel)
set_option maxRecDepth 20000 in
theorem gL_law__X11_shows : GoodIn wsL_law_ (wsV RL 164 RX11 yX11_shows wsX11_shows) := goodIn_app (goodIn_of _ (by decide +kernel)) ggL_law__X11_shows
set_option maxRecDepth 20000 in
theorem ggL_law__L_deep : GoodIn wsL_law_ wsL_deep := goodIn_ca (goodIn_ca (goodIn_r _ [933, 910, 882, 934, 935, 936, 2, 937, 43, 51, 938, 915, 916, 917, 918, 919, 920, 20, 887, 888, 55, 891, 892, 893, 894, 895, 896, 221, 921, 656, 657, 1564, 1565, 1566, 1567, 1568, 1569, 1570, 1571, 1572, 1573, 1574, 1575, 1576, 1577, 1578, 1579, 1660, 1661, 1662, 1682, 1683, 1684, 1685, 1686, 1687, 1688, 1689, 1633, 1634, 1635, 1636, 1637, 1638, 1639, 1640, 1641, 1642, 1643, 1644, 1645] (by decide +kernel) (by decide +kernel)) (goodIn_sub (fun _ h => List.mem_append_right _ h) (by decide +kernel))) (goodIn_sub (fun _ h => List.mem_append_left _ (List.mem_append_right _ h)) (by decide +kernel))
set_option maxRecDepth 20000 in
theorem gL_law__L_deep : GoodIn wsL_law_ (va_wsS RL 165 yL_deep wsL_deep) := goodIn_app (goodIn_of _ (by decide +kernel)) ggL_law__L_deep
set_option maxRecDepth 20000 in
theorem ggL_law__X11_deep : GoodIn wsL_law_ wsX11_deep := goodIn_r _ [942, 207, 169, 927, 928, 929, 5, 930, 903, 904, 905, 906, 154, 384, 385, 386, 387, 388, 389, 390, 152, 734, 735, 736, 737, 157, 761, 762, 763, 1580, 1581, 1582, 1583, 1584, 1585, 1586, 1587, 1588, 1589, 1590, 1591, 1592, 1593, 1594, 1595, 1596, 1597, 1598, 1599, 1600, 1601, 1602, 1603, 1604, 1605, 1606, 1607, 1608, 1609, 1610, 1611, 1612, 1613, 1614, 1615, 1616, 1617, 1618, 1619, 1620, 1621, 1622, 1623] (by decide +kernel) (by decide +kernel)
set_option maxRecDepth 20000 in
theorem gL_law__X11_deep : GoodIn wsL_law_ (wsV RL 167 RX11 yX11_deep wsX11_deep) := goodIn_app (goodIn_of _ (by decide +kernel)) ggL_law__X11_deep
set_option maxRecDepth 20000 in
theorem ggL_law__L_film : GoodIn wsL_law_ wsL_film := goodIn_ca (goodIn_ca (goodIn_r _ [945, 910, 882, 946, 947, 948, 2, 949, 43, 51, 915, 916, 917, 918, 919, 920, 20, 887, 888, 55, 891, 892, 893, 894, 895, 896, 221, 921, 656, 657, 950, 626, 627, 117, 628, 124, 123, 1564, 1565, 1566, 1567, 1568, 1569, 1570, 1571, 1572, 1573, 1574, 1575, 1576, 1577, 1578, 1579, 1660, 1661, 1662, 1633, 1634, 1635, 1636, 1637, 1638, 1639, 1640, 1641, 1642, 1643, 1644, 1645, 1682, 1683, 1684, 1685, 1686, 1687, 1688, 1689] (by decide +kernel) (by decide +kernel)) (goodIn_sub (fun _ h => List.mem_append_right _ h) (by decide +kernel))) (goodIn_sub (fun _ h => List.mem_append_left _ (List.mem_append_right _ h)) (by decide +kernel))
set_option maxRecDepth 20000 in
theorem gL_law__L_film : GoodIn wsL_law_ (va_wsS RL 168 yL_film wsL_film) := goodIn_app (goodIn_of _ (by decide +kernel)) ggL_law__L_film
set_option maxRecDepth 20000 in
theorem ggL_law__X11_film : GoodIn wsL_law_ wsX11_film := goodIn_r _ [954, 207, 169, 927, 928, 929, 5, 930, 903, 904, 905, 906, 154, 384, 385, 386, 387, 388, 389, 390, 152, 734, 735, 736, 737, 157, 761, 762, 763, 747, 748, 749, 1580, 1581, 1582, 1583, 1584, 1585, 1586, 1587, 1588, 1589, 1590, 1591, 1592, 1593, 1594, 1595, 1596, 1597, 1598, 1599, 1600, 1601, 1602, 1603, 1604, 1605, 1606, 1607, 1608, 1609, 1610, 1611, 1612, 1613, 1614, 1615, 1616, 1617, 1618, 1619, 1620, 1621, 1622, 1623] (by decide +kernel) (by decide +kernel)
set_option maxRecDepth 20000 in
theorem gL_law__X11_film : GoodIn wsL_law_ (wsV RL 171 RX11 yX11_film wsX11_film) := goodIn_app (goodIn_of _ (by decide +kernel)) ggL_law__X11_film
set_option maxRecDepth 20000 in
theorem ggL_law__L_films : GoodIn wsL_law_ wsL_films := goodIn_ca (goodIn_r _ [957, 213, 958, 959, 960, 2, 961, 43, 51, 962, 226, 227, 228, 229, 230, 231, 55, 856, 857, 858, 859, 963, 964, 965, 117, 966, 967, 968, 969, 970, 124, 625, 626, 627, 628, 123, 1564, 1565, 1566, 1567, 1568, 1569, 1570, 1571, 1572, 1573, 1574, 1575, 1576, 1577, 1578, 1579, 1660, 1661, 1662, 1682, 1683, 1684, 1685, 1686, 1687, 1688, 1689] (by decide +kernel) (by decide +kernel)) (goodIn_sub (fun _ h => List.mem_append_left _ (List.mem_append_left _ (List.mem_append_right _ h))) (by decide +kernel))
set_option maxRecDepth 20000 in
theorem gL_law__L_films : GoodIn wsL_law_ (va_wsS RL 172 yL_films wsL_films) := goodIn_app (goodIn_of _ (by decide +kernel)) ggL_law__L_films
set_option maxRecDepth 20000 in
theorem ggL_law__X11_films : GoodIn wsL_law_ wsX11_films := goodIn_r _ [974, 207, 169, 154, 384, 385, 5, 386, 387, 388, 389, 390, 152, 975, 976, 977, 1580, 1581, 1582, 1583, 1584, 1585, 1586, 1587, 1588, 1589, 1590, 1591, 1592, 1593, 1594, 1595, 1596, 1597, 1598, 1599, 1600, 1601, 1602, 1603, 1604, 1605, 1606, 1607, 1608, 1609, 1610, 1611, 1612, 1613, 1614, 1615, 1616, 1617, 1618, 1619, 1620, 1621, 1622, 1623] (by decide +kernel) (by decide +kernel)
set_option maxRecDepth 20000 in
theorem gL_law__X11_films : GoodIn wsL_law_ (wsV RL 174 RX11 yX11_films wsX11_films) := goodIn_app (goodIn_of _ (by decide +kernel)) ggL_law__X11_films
set_option maxRecDepth 20000 in
theorem ggL_law__L_have : GoodIn wsL_law_ wsL_have := goodIn_ca (goodIn_ca (goodIn_r _ [980, 882, 213, 981, 982, 983, 2, 984, 35, 43, 51, 891, 892, 893, 894, 895, 896, 20, 221, 55, 226, 227, 228, 229, 230, 231, 985, 986, 987, 34, 988, 989, 968, 969, 117, 970, 124, 625, 626, 627, 628, 123, 1564, 1565, 1566, 1567, 1568, 1569, 1570, 1571, 1572, 1573, 1574, 1575, 1576, 1577, 1578, 1579, 1660, 1661, 1662, 1633, 1634, 1635, 1636, 1637, 1638, 1639, 1640, 1641, 1642, 1643, 1644, 1645, 1682, 1683, 1684, 1685, 1686, 1687, 1688, 1689] (by decide +kernel) (by decide +kernel)) (goodIn_sub (fun _ h => List.mem_append_left _ (List.mem_append_right _ h)) (by decide +kernel))) (goodIn_sub (fun _ h => List.mem_append_left _ (List.mem_append_left _ (List.mem_append_right _ h))) (by decide +kernel))
set_option maxRecDepth 20000 in
theorem gL_law__L_have : GoodIn wsL_law_ (va_wsS RL 175 yL_have wsL_have) := goodIn_app (goodIn_of _ (by decide +kernel)) ggL_law__L_have
set_option maxRecDepth 20000 in
theorem ggL_law__X11_have : GoodIn wsL_law_ wsX11_have := goodIn_r _ [993, 207, 169, 903, 904, 905, 5, 906, 154, 384, 385, 386, 387, 388, 389, 390, 152, 975, 976, 977, 1580, 1581, 1582, 1583, 1584, 1585, 1586, 1587, 1588, 1589, 1590, 1591, 1592, 1593, 1594, 1595, 1596, 1597, 1598, 1599, 1600, 1601, 1602, 1603, 1604, 1605, 1606, 1607, 1608, 1609, 1610, 1611, 1612, 1613, 1614, 1615, 1616, 1617, 1618, 1619, 1620, 1621, 1622, 1623] (by decide +kernel) (by decide +kernel)
set_option maxRecDepth 20000 in
theorem gL_law__X11_have : GoodIn wsL_law_ (wsV RL 177 RX11 yX11_have wsX11_have) := goodIn_app (goodIn_of _ (by decide +kernel)) ggL_law__X11_have
set_option maxRecDepth 20000 in
theorem ggL_law__L_showing : GoodIn wsL_law_ wsL_showing := goodIn_ca (goodIn_ca (goodIn_r _ [996, 882, 213, 997, 998, 999, 2, 1000, 35, 43, 51, 20, 1001, 891, 892, 893, 894, 895, 896, 221, 55, 226, 227, 228, 229, 230, 231, 1002, 1003, 1004, 34, 1005, 1006, 659, 660, 117, 661, 124, 123, 1564, 1565, 1566, 1567, 1568, 1569, 1570, 1571, 1572, 1573, 1574, 1575, 1576, 1577, 1578, 1579, 1660, 1661, 1662, 1633, 1634, 1635, 1636, 1637, 1638, 1639, 1640, 1641, 1642, 1643, 1644, 1645, 1682, 1683, 1684, 1685, 1686, 1687, 1688, 1689] (by decide +kernel) (by decide +kernel)) (goodIn_sub (fun _ h => List.mem_append_left _ (List.mem_append_right _ h)) (by decide +kernel))) (goodIn_sub (fun _ h => List.mem_append_left _ (List.mem_append_left _ (List.mem_append_right _ h))) (by decide +kernel))
set_option maxRecDepth 20000 in
theorem gL_law__L_showing : GoodIn wsL_law_ (va_wsS RL 178 yL_showing wsL_showing) := goodIn_app (goodIn_of _ (by decide +kernel)) ggL_law__L_showing
set_option maxRecDepth 20000 in
theorem ggL_law__X11_showing : GoodIn wsL_law_ wsX11_showing := goodIn_r _ [1010, 207, 169, 903, 904, 905, 5, 906, 154, 384, 385, 386, 387, 388, 389, 390, 152, 730, 731, 732, 733, 734, 735, 736, 737, 157, 747, 748, 749, 1580, 1581, 1582, 1583, 1584, 1585, 1586, 1587, 1588, 1589, 1590, 1591, 1592, 1593, 1594, 1595, 1596, 1597, 1598, 1599, 1600, 1601, 1602, 1603, 1604, 1605, 1606, 1607, 1608, 1609, 1610, 1611, 1612, 1613, 1614, 1615, 1616, 1617, 1618, 1619, 1620, 1621, 1622, 1623] (by decide +kernel) (by decide +kernel)
set_option maxRecDepth 20000 in
theorem gL_law__X11_showing : GoodIn wsL_law_ (wsV RL 180 RX11 yX11_showing wsX11_showing) := goodIn_app (goodIn_of _ (by decide +kernel)) ggL_law__X11_showing
set_option maxRecDepth 20000 in
theorem ggL_law__L_settles : GoodIn wsL_law_ wsL_settles := goodIn_ca (goodIn_ca (goodIn_r _ [1013, 910, 882, 1014, 1015, 1016, 2, 1017, 43, 51, 853, 47, 20, 25, 915, 916, 917, 918, 919, 920, 887, 888, 55, 891, 892, 893, 894, 895, 896, 221, 921, 656, 657, 898, 673, 674, 117, 675, 374, 1018, 1019, 1020, 46, 1021, 131, 639, 676, 677, 678, 679, 680, 681, 658, 659, 660, 661, 124, 123, 682, 683, 684, 24, 685, 97, 91, 92, 1564, 1565, 1566, 1567, 1568, 1569, 1570, 1571, 1572, 1573, 1574, 1575, 1576, 1577, 1578, 1579, 1660, 1661, 1662, 1682, 1683, 1684, 1685, 1686, 1687, 1688, 1689, 1633, 1634, 1635, 1636, 1637, 1638, 1639, 1640, 1641, 1642, 1643, 1644, 1645, 1663, 1664, 1665, 1666, 1667, 1668, 1646, 1647, 1648] (by decide +kernel) (by decide +kernel)) (goodIn_sub (fun _ h => List.mem_append_right _ h) (by decide +kernel))) (goodIn_sub (fun _ h => List.mem_append_left _ (List.mem_append_right _ h)) (by decide +kernel))
set_option maxRecDepth 20000 in
theorem gL_law__L_settles : GoodIn wsL_law_ (va_wsS RL 181 yL_settles wsL_settles) := goodIn_app (goodIn_of _ (by decide +kernel)) ggL_law__L_settles
set_option maxRecDepth 20000 in
theorem ggL_law__X11_settles : GoodIn wsL_law_ wsX11_settles := goodIn_r _ [1025, 207, 169, 927, 928, 929, 5, 930, 903, 904, 905, 906, 154, 384, 385, 386, 387, 388, 389, 390, 152, 734, 735, 736, 737, 157, 768, 769, 770, 771, 167, 772, 773, 774, 747, 748, 749, 775, 776, 777, 778, 181, 162, 166, 779, 780, 781, 744, 745, 746, 782, 783, 784, 1580, 1581, 1582, 1583, 1584, 1585, 1586, 1587, 1588, 1589, 1590, 1591, 1592, 1593, 1594, 1595, 1596, 1597, 1598, 1599, 1600, 1601, 1602, 1603, 1604, 1605, 1606, 1607, 1608, 1609, 1610, 1611, 1612, 1613, 1614, 1615, 1616, 1617, 1618, 1619, 1620, 1621, 1622, 1623] (by decide +kernel) (by decide +kernel)
set_option maxRecDepth 20000 in
theorem gL_law__X11_settles : GoodIn wsL_law_ (wsV RL 183 RX11 yX11_settles wsX11_settles) := goodIn_app (goodIn_of _ (by decide +kernel)) ggL_law__X11_settles
set_option maxRecDepth 20000 in
theorem ggL_law__L_order : GoodIn wsL_law_ wsL_order := goodIn_ca (goodIn_ca (goodIn_r _ [1028, 882, 213, 1029, 1030, 1031, 2, 1032, 20, 1033, 1034, 1035, 1036, 895, 896, 851, 55, 856, 857, 858, 859, 226, 227, 228, 229, 230, 231, 1037, 1038, 1039, 1040, 43, 51, 853, 1041, 1042, 653, 654, 19, 655, 72, 656, 657, 1043, 649, 650, 651, 922, 659, 660, 117, 661, 124, 123, 1044, 968, 969, 970, 625, 626, 627, 628, 1564, 1565, 1566, 1567, 1568, 1569, 1570, 1571, 1572, 1573, 1574, 1575, 1576, 1577, 1578, 1579, 1633, 1634, 1635, 1636, 1637, 1638, 1639, 1640, 1641, 1642, 1643, 1644, 1645, 1660, 1661, 1662, 1682, 1683, 1684, 1685, 1686, 1687, 1688, 1689] (by decide +kernel) (by decide +kernel)) (goodIn_sub (fun _ h => List.mem_append_left _ (List.mem_append_right _ h)) (by decide +kernel))) (goodIn_sub (fun _ h => List.mem_append_left _ (List.mem_append_left _ (List.mem_append_right _ h))) (by decide +kernel))
set_option maxRecDepth 20000 in
theorem gL_law__L_order : GoodIn wsL_law_ (va_wsS RL 184 yL_order wsL_order) := goodIn_app (goodIn_of _ (by decide +kernel)) ggL_law__L_order
set_option maxRecDepth 20000 in
theorem ggL_law__X11_order : GoodIn wsL_law_ wsX11_order := goodIn_r _ [1048, 207, 161, 1049, 1050, 1051, 5, 1052, 154, 384, 385, 386, 387, 388, 389, 390, 152, 1053, 1054, 1055, 1056, 169, 772, 773, 774, 754, 755, 756, 757, 758, 759, 760, 761, 762, 763, 747, 748, 749, 975, 976, 977, 1580, 1581, 1582, 1583, 1584, 1585, 1586, 1587, 1588, 1589, 1590, 1591, 1592, 1593, 1594, 1595, 1596, 1597, 1598, 1599, 1600, 1601, 1602, 1603, 1604, 1605, 1606, 1607, 1608, 1609, 1610, 1611, 1612, 1613, 1614, 1615, 1616, 1617, 1618, 1619, 1620, 1621, 1622, 1623] (by decide +kernel) (by decide +kernel)
set_option maxRecDepth 20000 in
theorem gL_law__X11_order : GoodIn wsL_law_ (wsV RL 186 RX11 yX11_order wsX11_order) := goodIn_app (goodIn_of _ (by decide +kernel)) ggL_law__X11_order
set_option maxRecDepth 20000 in
theorem ggL_law__L_needs : GoodIn wsL_law_ wsL_needs := goodIn_ca (goodIn_r _ [1059, 882, 1060, 1061, 1062, 2, 1063, 43, 51, 20, 1033, 1034, 1035, 1036, 895, 896, 851, 55, 1042, 653, 654, 19, 655, 72, 656, 657, 1043, 649, 650, 651, 1044, 968, 969, 117, 970, 124, 625, 626, 627, 628, 123, 1564, 1565, 1566, 1567, 1568, 1569, 1570, 1571, 1572, 1573, 1574, 1575, 1576, 1577, 1578, 1579, 1660, 1661, 1662, 1633, 1634, 1635, 1636, 1637, 1638, 1639, 1640, 1641, 1642, 1643, 1644, 1645, 1682, 1683, 1684, 1685, 1686, 1687, 1688, 1689] (by decide +kernel) (by decide +kernel)) (goodIn_sub (fun _ h => List.mem_append_left _ (List.mem_append_right _ h)) (by decide +kernel))
set_option maxRecDepth 20000 in
theorem gL_law__L_needs : GoodIn wsL_law_ (va_wsS RL 187 yL_needs wsL_needs) := goodIn_app (goodIn_of _ (by decide +kernel)) ggL_law__L_needs
set_option maxRecDepth 20000 in
theorem ggL_law__X11_needs : GoodIn wsL_law_ wsX11_needs := goodIn_r _ [1067, 207, 169, 161, 1049, 1050, 1051, 5, 1052, 154, 384, 385, 386, 387, 388, 389, 390, 152, 758, 759, 760, 761, 762, 763, 1068, 1069, 1070, 747, 748, 749, 1580, 1581, 1582, 1583, 1584, 1585, 1586, 1587, 1588, 1589, 1590, 1591, 1592, 1593, 1594, 1595, 1596, 1597, 1598, 1599, 1600, 1601, 1602, 1603, 1604, 1605, 1606, 1607, 1608, 1609, 1610, 1611, 1612, 1613, 1614, 1615, 1616, 1617, 1618, 1619, 1620, 1621, 1622, 1623] (by decide +kernel) (by decide +kernel)
set_option maxRecDepth 20000 in
theorem gL_law__X11_needs : GoodIn wsL_law_ (wsV RL 189 RX11 yX11_needs wsX11_needs) := goodIn_app (goodIn_of _ (by decide +kernel)) ggL_law__X11_needs
set_option maxRecDepth 20000 in
theorem ggL_law__X10_lost : GoodIn wsL_law_ wsX10_lost := goodIn_r _ [1074, 20, 851, 1037, 1038, 1039, 2, 1040, 43, 51, 853, 1041, 1042, 653, 654, 19, 655, 72, 656, 657, 1043, 649, 650, 651, 922, 659, 660, 117, 661, 124, 123, 1044, 968, 969, 970, 625, 626, 627, 628, 1564, 1565, 1566, 1567, 1568, 1569, 1570, 1571, 1572, 1573, 1574, 1575, 1576, 1577, 1578, 1579, 1633, 1634, 1635, 1636, 1637, 1638, 1639, 1640, 1641, 1642, 1643, 1644, 1645, 1660, 1661, 1662, 1682, 1683, 1684, 1685, 1686, 1687, 1688, 1689] (by decide +kernel) (by decide +kernel)
set_option maxRecDepth 20000 in
theorem gL_law__X10_lost : GoodIn wsL_law_ (wsV RL 190 RX10 yX10_lost wsX10_lost) := goodIn_app (goodIn_of _ (by decide +kernel)) ggL_law__X10_lost
set_option maxRecDepth 20000 in
theorem ggL_law__X11_lost : GoodIn wsL_law_ wsX11_lost := goodIn_r _ [1078, 207, 154, 1053, 1054, 1055, 5, 1056, 169, 161, 772, 773, 774, 754, 755, 756, 757, 758, 759, 760, 761, 762, 763, 747, 748, 749, 975, 976, 977, 1580, 1581, 1582, 1583, 1584, 1585, 1586, 1587, 1588, 1589, 1590, 1591, 1592, 1593, 1594, 1595, 1596, 1597, 1598, 1599, 1600, 1601, 1602, 1603, 1604, 1605, 1606, 1607, 1608, 1609, 1610, 1611, 1612, 1613, 1614, 1615, 1616, 1617, 1618, 1619, 1620, 1621, 1622, 1623] (by decide +kernel) (by decide +kernel)
set_option maxRecDepth 20000 in
theorem gL_law__X11_lost : GoodIn wsL_law_ (wsV RL 193 RX11 yX11_lost wsX11_lost) := goodIn_app (goodIn_of _ (by decide +kernel)) ggL_law__X11_lost
set_option maxRecDepth 20000 in
theorem ggL_law__L_cost : GoodIn wsL_law_ wsL_cost := goodIn_ca (goodIn_ca (goodIn_r _ [1081, 882, 213, 1082, 1083, 1084, 2, 1085, 35, 43, 51, 891, 892, 893, 894, 895, 896, 20, 221, 55, 1086, 1087, 1088, 1089, 1001, 226, 227, 228, 229, 230, 231, 1090, 1091, 1092, 34, 1093, 989, 968, 969, 117, 970, 124, 625, 626, 627, 628, 123, 1564, 1565, 1566, 1567, 1568, 1569, 1570, 1571, 1572, 1573, 1574, 1575, 1576, 1577, 1578, 1579, 1660, 1661, 1662, 1633, 1634, 1635, 1636, 1637, 1638, 1639, 1640, 1641, 1642, 1643, 1644, 1645, 1682, 1683, 1684, 1685, 1686, 1687, 1688, 1689] (by decide +kernel) (by decide +kernel)) (goodIn_sub (fun _ h => List.mem_append_left _ (List.mem_append_right _ h)) (by decide +kernel))) (goodIn_sub (fun _ h => List.mem_append_left _ (List.mem_append_left _ (List.mem_append_right _ h))) (by decide +kernel))
set_option maxRecDepth 20000 in
theorem gL_law__L_cost : GoodIn wsL_law_ (va_wsS RL 194 yL_cost wsL_cost) := goodIn_app (goodIn_of _ (by decide +kernel)) ggL_law__L_cost
set_option maxRecDepth 20000 in
theorem ggL_law__X11_cost : GoodIn wsL_law_ wsX11_cost := goodIn_r _ [1097, 207, 903, 904, 905, 5, 906, 154, 384, 385, 386, 387, 388, 389, 390, 152, 1098, 1099, 1100, 1101, 1102, 1103, 1104, 1105, 730, 731, 732, 733, 734, 735, 736, 737, 157, 1106, 1107, 1108, 1109, 169, 772, 773, 774, 1068, 1069, 1070, 747, 748, 749, 1580, 1581, 1582, 1583, 1584, 1585, 1586, 1587, 1588, 1589, 1590, 1591, 1592, 1593, 1594, 1595, 1596, 1597, 1598, 1599, 1600, 1601, 1602, 1603, 1604, 1605, 1606, 1607, 1608, 1609, 1610, 1611, 1612, 1613, 1614, 1615, 1616, 1617, 1618, 1619, 1620, 1621, 1622, 1623] (by decide +kernel) (by decide +kernel)
set_option maxRecDepth 20000 in
theorem gL_law__X11_cost : GoodIn wsL_law_ (wsV RL 196 RX11 yX11_cost wsX11_cost) := goodIn_app (goodIn_of _ (by decide +kernel)) ggL_law__X11_cost
set_option maxRecDepth 20000 in
theorem ggL_law__L_view : GoodIn wsL_law_ wsL_view := goodIn_ca (goodIn_ca (goodIn_r _ [1112, 882, 213, 1113, 1114, 1115, 2, 1116, 35, 43, 51, 891, 892, 893, 894, 895, 896, 20, 221, 55, 1086, 1087, 1088, 1089, 1001, 226, 227, 228, 229, 230, 231, 856, 857, 858, 859, 1117, 1118, 1119, 34, 1120, 1121, 1122, 626, 627, 117, 628, 124, 123, 1123, 1091, 1092, 1093, 989, 968, 969, 970, 625, 1090, 1564, 1565, 1566, 1567, 1568, 1569, 1570, 1571, 1572, 1573, 1574, 1575, 1576, 1577, 1578, 1579, 1660, 1661, 1662, 1633, 1634, 1635, 1636, 1637, 1638, 1639, 1640, 1641, 1642, 1643, 1644, 1645, 1682, 1683, 1684, 1685, 1686, 1687, 1688, 1689] (by decide +kernel) (by decide +kernel)) (goodIn_sub (fun _ h => List.mem_append_left _ (List.mem_append_right _ h)) (by decide +kernel))) (goodIn_sub (fun _ h => List.mem_append_left _ (List.mem_append_left _ (List.mem_append_right _ h))) (by decide +kernel))
set_option maxRecDepth 20000 in
theorem gL_law__L_view : GoodIn wsL_law_ (va_wsS RL 197 yL_view wsL_view) := goodIn_app (goodIn_of _ (by decide +kernel)) ggL_law__L_view
set_option maxRecDepth 20000 in
theorem ggL_law__X11_view : GoodIn wsL_law_ wsX11_view := goodIn_r _ [1127, 207, 903, 904, 905, 5, 906, 154, 384, 385, 386, 387, 388, 389, 390, 152, 1098, 1099, 1100, 1101, 1102, 1103, 1104, 1105, 730, 731, 732, 733, 734, 735, 736, 737, 157, 1106, 1107, 1108, 1109, 169, 772, 773, 774, 1068, 1069, 1070, 747, 748, 749, 1580, 1581, 1582, 1583, 1584, 1585, 1586, 1587, 1588, 1589, 1590, 1591, 1592, 1593, 1594, 1595, 1596, 1597, 1598, 1599, 1600, 1601, 1602, 1603, 1604, 1605, 1606, 1607, 1608, 1609, 1610, 1611, 1612, 1613, 1614, 1615, 1616, 1617, 1618, 1619, 1620, 1621, 1622, 1623] (by decide +kernel) (by decide +kernel)
set_option maxRecDepth 20000 in
theorem gL_law__X11_view : GoodIn wsL_law_ (wsV RL 199 RX11 yX11_view wsX11_view) := goodIn_app (goodIn_of _ (by decide +kernel)) ggL_law__X11_view
set_option maxRecDepth 20000 in
theorem ggL_law__L_seams : GoodIn wsL_law_ wsL_seams := goodIn_ca (goodIn_r _ [1130, 882, 1131, 1132, 1133, 2, 1134, 35, 43, 51, 20, 1001, 891, 892, 893, 894, 895, 896, 221, 55, 1135, 1136, 1137, 34, 1138, 1139, 1140, 1141, 1006, 659, 660, 117, 661, 124, 123, 1564, 1565, 1566, 1567, 1568, 1569, 1570, 1571, 1572, 1573, 1574, 1575, 1576, 1577, 1578, 1579, 1660, 1661, 1662, 1633, 1634, 1635, 1636, 1637, 1638, 1639, 1640, 1641, 1642, 1643, 1644, 1645, 1682, 1683, 1684, 1685, 1686, 1687, 1688, 1689] (by decide +kernel) (by decide +kernel)) (goodIn_sub (fun _ h => List.mem_append_left _ (List.mem_append_right _ h)) (by decide +kernel))
set_option maxRecDepth 20000 in
theorem gL_law__L_seams : GoodIn wsL_law_ (va_wsS RL 200 yL_seams wsL_seams) := goodIn_app (goodIn_of _ (by decide +kernel)) ggL_law__L_seams
set_option maxRecDepth 20000 in
theorem ggL_law__X11_seams : GoodIn wsL_law_ wsX11_seams := goodIn_r _ [1145, 207, 169, 903, 904, 905, 5, 906, 154, 384, 385, 386, 387, 388, 389, 390, 152, 1146, 1147, 1148, 1149, 747, 748, 749, 730, 731, 732, 733, 734, 735, 736, 737, 157, 1580, 1581, 1582, 1583, 1584, 1585, 1586, 1587, 1588, 1589, 1590, 1591, 1592, 1593, 1594, 1595, 1596, 1597, 1598, 1599, 1600, 1601, 1602, 1603, 1604, 1605, 1606, 1607, 1608, 1609, 1610, 1611, 1612, 1613, 1614, 1615, 1616, 1617, 1618, 1619, 1620, 1621, 1622, 1623] (by decide +kernel) (by decide +kernel)
set_option maxRecDepth 20000 in
theorem gL_law__X11_seams : GoodIn wsL_law_ (wsV RL 202 RX11 yX11_seams wsX11_seams) := goodIn_app (goodIn_of _ (by decide +kernel)) ggL_law__X11_seams
set_option maxRecDepth 20000 in
theorem ggL_law__L_sights : GoodIn wsL_law_ wsL_sights := goodIn_ca (goodIn_r _ [1152, 882, 1153, 1154, 1155, 2, 1156, 35, 43, 51, 891, 892, 893, 894, 895, 896, 20, 221, 55, 1157, 1158, 1159, 34, 1160, 106, 1161, 1162, 1163, 1164, 1121, 1165, 84, 85, 86, 1122, 626, 627, 117, 628, 124, 123, 1564, 1565, 1566, 1567, 1568, 1569, 1570, 1571, 1572, 1573, 1574, 1575, 1576, 1577, 1578, 1579, 1660, 1661, 1662, 1633, 1634, 1635, 1636, 1637, 1638, 1639, 1640, 1641, 1642, 1643, 1644, 1645, 1653, 1654, 1655, 1656, 1682, 1683, 1684, 1685, 1686, 1687, 1688, 1689] (by decide +kernel) (by decide +kernel)) (goodIn_sub (fun _ h => List.mem_append_left _ (List.mem_append_right _ h)) (by decide +kernel))
set_option maxRecDepth 20000 in
theorem gL_law__L_sights : GoodIn wsL_law_ (va_wsS RL 203 yL_sights wsL_sights) := goodIn_app (goodIn_of _ (by decide +kernel)) ggL_law__L_sights
set_option maxRecDepth 20000 in
theorem ggL_law__X11_sights : GoodIn wsL_law_ wsX11_sights := goodIn_r _ [1169, 207, 169, 903, 904, 905, 5, 906, 154, 384, 385, 386, 387, 388, 389, 390, 152, 1170, 1171, 1172, 747, 748, 749, 1580, 1581, 1582, 1583, 1584, 1585, 1586, 1587, 1588, 1589, 1590, 1591, 1592, 1593, 1594, 1595, 1596, 1597, 1598, 1599, 1600, 1601, 1602, 1603, 1604, 1605, 1606, 1607, 1608, 1609, 1610, 1611, 1612, 1613, 1614, 1615, 1616, 1617, 1618, 1619, 1620, 1621, 1622, 1623] (by decide +kernel) (by decide +kernel)
set_option maxRecDepth 20000 in
theorem gL_law__X11_sights : GoodIn wsL_law_ (wsV RL 205 RX11 yX11_sights wsX11_sights) := goodIn_app (goodIn_of _ (by decide +kernel)) ggL_law__X11_sights
set_option maxRecDepth 20000 in
theorem ggL_law__L_alike : GoodIn wsL_law_ wsL_alike := goodIn_ca (goodIn_r _ [1175, 882, 1176, 1177, 1178, 2, 1179, 35, 43, 51, 20, 1001, 891, 892, 893, 894, 895, 896, 221, 55, 1180, 1181, 1182, 34, 1183, 1006, 659, 660, 117, 661, 124, 123, 1564, 1565, 1566, 1567, 1568, 1569, 1570, 1571, 1572, 1573, 1574, 1575, 1576, 1577, 1578, 1579, 1660, 1661, 1662, 1633, 1634, 1635, 1636, 1637, 1638, 1639, 1640, 1641, 1642, 1643, 1644, 1645, 1682, 1683, 1684, 1685, 1686, 1687, 1688, 1689] (by decide +kernel) (by decide +kernel)) (goodIn_sub (fun _ h => List.mem_append_left _ (List.mem_append_right _ h)) (by decide +kernel))
set_option maxRecDepth 20000 in
theorem gL_law__L_alike : GoodIn wsL_law_ (va_wsS RL 206 yL_alike wsL_alike) := goodIn_app (goodIn_of _ (by decide +kernel)) ggL_law__L_alike
set_option maxRecDepth 20000 in
theorem ggL_law__X11_alike : GoodIn wsL_law_ wsX11_alike := goodIn_r _ [1187, 207, 169, 903, 904, 905, 5, 906, 154, 384, 385, 386, 387, 388, 389, 390, 152, 730, 731, 732, 733, 734, 735, 736, 737, 157, 747, 748, 749, 1580, 1581, 1582, 1583, 1584, 1585, 1586, 1587, 1588, 1589, 1590, 1591, 1592, 1593, 1594, 1595, 1596, 1597, 1598, 1599, 1600, 1601, 1602, 1603, 1604, 1605, 1606, 1607, 1608, 1609, 1610, 1611, 1612, 1613, 1614, 1615, 1616, 1617, 1618, 1619, 1620, 1621, 1622, 1623] (by decide +kernel) (by decide +kernel)
set_option maxRecDepth 20000 in
theorem gL_law__X11_alike : GoodIn wsL_law_ (wsV RL 208 RX11 yX11_alike wsX11_alike) := goodIn_app (goodIn_of _ (by decide +kernel)) ggL_law__X11_alike
set_option maxRecDepth 20000 in
theorem ggL_law__L_oldest : GoodIn wsL_law_ wsL_oldest := goodIn_ca (goodIn_ca (goodIn_r _ [1190, 882, 213, 1191, 1192, 1193, 2, 1194, 35, 43, 51, 891, 892, 893, 894, 895, 896, 20, 221, 55, 856, 857, 858, 859, 226, 227, 228, 229, 230, 231, 1195, 1196, 1197, 34, 1198, 106, 1161, 1162, 1163, 1164, 1121, 1165, 84, 85, 86, 1122, 626, 627, 117, 628, 124, 123, 1199, 1200, 1201, 1202, 1564, 1565, 1566, 1567, 1568, 1569, 1570, 1571, 1572, 1573, 1574, 1575, 1576, 1577, 1578, 1579, 1660, 1661, 1662, 1633, 1634, 1635, 1636, 1637, 1638, 1639, 1640, 1641, 1642, 1643, 1644, 1645, 1653, 1654, 1655, 1656, 1682, 1683, 1684, 1685, 1686, 1687, 1688, 1689] (by decide +kernel) (by decide +kernel)) (goodIn_sub (fun _ h => List.mem_append_left _ (List.mem_append_right _ h)) (by decide +kernel))) (goodIn_sub (fun _ h => List.mem_append_left _ (List.mem_append_left _ (List.mem_append_right _ h))) (by decide +kernel))
set_option maxRecDepth 20000 in
theorem gL_law__L_oldest : GoodIn wsL_law_ (va_wsS RL 209 yL_oldest wsL_oldest) := goodIn_app (goodIn_of _ (by decide +kernel)) ggL_law__L_oldest
set_option maxRecDepth 20000 in
theorem ggL_law__X11_oldest : GoodIn wsL_law_ wsX11_oldest := goodIn_r _ [1206, 207, 169, 903, 904, 905, 5, 906, 154, 384, 385, 386, 387, 388, 389, 390, 152, 975, 976, 977, 747, 748, 749, 1580, 1581, 1582, 1583, 1584, 1585, 1586, 1587, 1588, 1589, 1590, 1591, 1592, 1593, 1594, 1595, 1596, 1597, 1598, 1599, 1600, 1601, 1602, 1603, 1604, 1605, 1606, 1607, 1608, 1609, 1610, 1611, 1612, 1613, 1614, 1615, 1616, 1617, 1618, 1619, 1620, 1621, 1622, 1623] (by decide +kernel) (by decide +kernel)
set_option maxRecDepth 20000 in
theorem gL_law__X11_oldest : GoodIn wsL_law_ (wsV RL 211 RX11 yX11_oldest wsX11_oldest) := goodIn_app (goodIn_of _ (by decide +kernel)) ggL_law__X11_oldest
set_option maxRecDepth 20000 in
theorem ggL_law__X10_thick : GoodIn wsL_law_ wsX10_thick := goodIn_r _ [1210, 43, 51, 1211, 1212, 1213, 117, 1214, 124, 1564, 1565, 1566, 1567, 1568, 1569, 1570, 1571, 1572, 1573, 1574, 1575, 1576, 1577, 1578, 1579, 1660, 1661, 1662, 1682, 1683, 1684, 1685, 1686, 1687, 1688, 1689] (by decide +kernel) (by decide +kernel)
set_option maxRecDepth 20000 in
theorem gL_law__X10_thick : GoodIn wsL_law_ (wsV RL 212 RX10 yX10_thick wsX10_thick) := goodIn_app (goodIn_of _ (by decide +kernel)) ggL_law__X10_thick
set_option maxRecDepth 20000 in
theorem ggL_law__X11_thick : GoodIn wsL_law_ wsX11_thick := goodIn_r _ [1218, 207, 154, 169, 1580, 1581, 1582, 1583, 1584, 1585, 1586, 1587, 1588, 1589, 1590, 1591, 1592, 1593, 1594, 1595, 1596, 1597, 1598, 1599, 1600, 1601, 1602, 1603, 1604, 1605, 1606, 1607, 1608, 1609, 1610, 1611, 1612, 1613, 1614, 1615, 1616, 1617, 1618, 1619, 1620, 1621, 1622, 1623] (by decide +kernel) (by decide +kernel)
set_option maxRecDepth 20000 in
theorem gL_law__X11_thick : GoodIn wsL_law_ (wsV RL 215 RX11 yX11_thick wsX11_thick) := goodIn_app (goodIn_of _ (by decide +kernel)) ggL_law__X11_thick
set_option maxRecDepth 20000 in
theorem ggL_law__L_patch : GoodIn wsL_law_ wsL_patch := goodIn_ca (goodIn_ca (goodIn_r _ [1221, 882, 213, 1222, 1223, 1224, 2, 1225, 35, 43, 51, 20, 1001, 1226, 1227, 891, 892, 893, 894, 895, 896, 221, 55, 856, 857, 858, 859, 226, 227, 228, 229, 230, 231, 1228, 1229, 1230, 34, 1231, 1232, 1233, 1006, 659, 660, 117, 661, 124, 123, 1234, 1003, 1004, 1005, 1235, 1236, 1237, 1238, 1239, 1240, 1241, 1242, 1243, 1244, 1245, 1564, 1565, 1566, 1567, 1568, 1569, 1570, 1571, 1572, 1573, 1574, 1575, 1576, 1577, 1578, 1579, 1660, 1661, 1662, 1633, 1634, 1635, 1636, 1637, 1638, 1639, 1640, 1641, 1642, 1643, 1644, 1645, 1653, 1654, 1655, 1656, 1682, 1683, 1684, 1685, 1686, 1687, 1688, 1689] (by decide +kernel) (by decide +kernel)) (goodIn_sub (fun _ h => List.mem_append_left _ (List.mem_append_right _ h)) (by decide +kernel))) (goodIn_sub (fun _ h => List.mem_append_left _ (List.mem_append_left _ (List.mem_append_right _ h))) (by decide +kernel))
set_option maxRecDepth 20000 in
theorem gL_law__L_patch : GoodIn wsL_law_ (va_wsS RL 216 yL_patch wsL_patch) := goodIn_app (goodIn_of _ (by decide +kernel)) ggL_law__L_patch
set_option maxRecDepth 20000 in
theorem ggL_law__X11_patch : GoodIn wsL_law_ wsX11_patch := goodIn_r _ [1249, 207, 169, 903, 904, 905, 5, 906, 154, 384, 385, 386, 387, 388, 389, 390, 152, 747, 748, 749, 1250, 1251, 1252, 1253, 730, 731, 732, 733, 734, 735, 736, 737, 157, 772, 773, 774, 738, 739, 740, 1580, 1581, 1582, 1583, 1584, 1585, 1586, 1587, 1588, 1589, 1590, 1591, 1592, 1593, 1594, 1595, 1596, 1597, 1598, 1599, 1600, 1601, 1602, 1603, 1604, 1605, 1606, 1607, 1608, 1609, 1610, 1611, 1612, 1613, 1614, 1615, 1616, 1617, 1618, 1619, 1620, 1621, 1622, 1623] (by decide +kernel) (by decide +kernel)
set_option maxRecDepth 20000 in
theorem gL_law__X11_patch : GoodIn wsL_law_ (wsV RL 218 RX11 yX11_patch wsX11_patch) := goodIn_app (goodIn_of _ (by decide +kernel)) ggL_law__X11_patch
set_option maxRecDepth 20000 in
theorem ggL_law__L_tells : GoodIn wsL_law_ wsL_tells := goodIn_ca (goodIn_r _ [1256, 882, 1257, 1258, 1259, 2, 1260, 30, 43, 51, 20, 1001, 891, 892, 893, 894, 895, 896, 221, 55, 1261, 1262, 1263, 29, 1264, 361, 1265, 360, 101, 102, 1266, 1267, 1268, 1269, 1270, 968, 969, 117, 970, 124, 625, 626, 627, 628, 123, 1564, 1565, 1566, 1567, 1568, 1569, 1570, 1571, 1572, 1573, 1574, 1575, 1576, 1577, 1578, 1579, 1660, 1661, 1662, 1633, 1634, 1635, 1636, 1637, 1638, 1639, 1640, 1641, 1642, 1643, 1644, 1645, 1649, 1650, 1651, 1652, 1682, 1683, 1684, 1685, 1686, 1687, 1688, 1689] (by decide +kernel) (by decide +kernel)) (goodIn_sub (fun _ h => List.mem_append_left _ (List.mem_append_right _ h)) (by decide +kernel))
set_option maxRecDepth 20000 in
theorem gL_law__L_tells : GoodIn wsL_law_ (va_wsS RL 219 yL_tells wsL_tells) := goodIn_app (goodIn_of _ (by decide +kernel)) ggL_law__L_tells
set_option maxRecDepth 20000 in
theorem ggL_law__X11_tells : GoodIn wsL_law_ wsX11_tells := goodIn_r _ [1274, 207, 903, 904, 905, 5, 906, 154, 384, 385, 386, 387, 388, 389, 390, 152, 1275, 1276, 1277, 1278, 1279, 1280, 1281, 1282, 182, 164, 169, 734, 735, 736, 737, 157, 761, 762, 763, 747, 748, 749, 1580, 1581, 1582, 1583, 1584, 1585, 1586, 1587, 1588, 1589, 1590, 1591, 1592, 1593, 1594, 1595, 1596, 1597, 1598, 1599, 1600, 1601, 1602, 1603, 1604, 1605, 1606, 1607, 1608, 1609, 1610, 1611, 1612, 1613, 1614, 1615, 1616, 1617, 1618, 1619, 1620, 1621, 1622, 1623] (by decide +kernel) (by decide +kernel)
set_option maxRecDepth 20000 in
theorem gL_law__X11_tells : GoodIn wsL_law_ (wsV RL 221 RX11 yX11_tells wsX11_tells) := goodIn_app (goodIn_of _ (by decide +kernel)) ggL_law__X11_tells
set_option maxRecDepth 20000 in
theorem ggL_law__L_look : GoodIn wsL_law_ wsL_look := goodIn_ca (goodIn_ca (goodIn_r _ [1285, 882, 213, 1286, 1287, 1288, 2, 1289, 30, 43, 51, 20, 1001, 891, 892, 893, 894, 895, 896, 221, 55, 856, 857, 858, 859, 226, 227, 228, 229, 230, 231, 1290, 1291, 1292, 29, 1293, 361, 1269, 1294, 1262, 1263, 1264, 1265, 360, 101, 102, 1266, 1267, 1268, 1270, 968, 969, 117, 970, 124, 625, 626, 627, 628, 123, 1295, 1296, 1297, 1298, 248, 249, 250, 1299, 1240, 1241, 1242, 1243, 1244, 1245, 1564, 1565, 1566, 1567, 1568, 1569, 1570, 1571, 1572, 1573, 1574, 1575, 1576, 1577, 1578, 1579, 1660, 1661, 1662, 1633, 1634, 1635, 1636, 1637, 1638, 1639, 1640, 1641, 1642, 1643, 1644, 1645, 1649, 1650, 1651, 1652, 1682, 1683, 1684, 1685, 1686, 1687, 1688, 1689] (by decide +kernel) (by decide +kernel)) (goodIn_sub (fun _ h => List.mem_append_left _ (List.mem_append_right _ h)) (by decide +kernel))) (goodIn_sub (fun _ h => List.mem_append_left _ (List.mem_append_left _ (List.mem_append_right _ h))) (by decide +kernel))
set_option maxRecDepth 20000 in
theorem gL_law__L_look : GoodIn wsL_law_ (va_wsS RL 222 yL_look wsL_look) := goodIn_app (goodIn_of _ (by decide +kernel)) ggL_law__L_look
set_option maxRecDepth 20000 in
theorem ggL_law__X11_look : GoodIn wsL_law_ wsX11_look := goodIn_r _ [1303, 207, 903, 904, 905, 5, 906, 154, 384, 385, 386, 387, 388, 389, 390, 152, 1275, 1276, 1277, 1278, 1279, 1280, 1281, 1282, 182, 164, 169, 734, 735, 736, 737, 157, 761, 762, 763, 747, 748, 749, 730, 731, 732, 733, 1304, 1305, 1306, 1307, 1308, 1309, 1310, 1311, 772, 773, 774, 782, 783, 784, 1580, 1581, 1582, 1583, 1584, 1585, 1586, 1587, 1588, 1589, 1590, 1591, 1592, 1593, 1594, 1595, 1596, 1597, 1598, 1599, 1600, 1601, 1602, 1603, 1604, 1605, 1606, 1607, 1608, 1609, 1610, 1611, 1612, 1613, 1614, 1615, 1616, 1617, 1618, 1619, 1620, 1621, 1622, 1623] (by decide +kernel) (by decide +kernel)
set_option maxRecDepth 20000 in
theorem gL_law__X11_look : GoodIn wsL_law_ (wsV RL 224 RX11 yX11_look wsX11_look) := goodIn_app (goodIn_of _ (by decide +kernel)) ggL_law__X11_look
set_option maxRecDepth 20000 in
theorem ggL_law__L_cover : GoodIn wsL_law_ wsL_cover := goodIn_ca (goodIn_ca (goodIn_r _ [1314, 882, 213, 1315, 1316, 1317, 2, 1318, 35, 20, 1001, 891, 892, 893, 894, 895, 896, 221, 55, 1086, 1087, 1088, 1089, 226, 227, 228, 229, 230, 231, 856, 857, 858, 859, 1319, 1320, 1321, 34, 1322, 107, 1323, 630, 631, 632, 633, 249, 634, 1324, 1325, 1326, 1327, 1564, 1565, 1566, 1567, 1568, 1569, 1570, 1571, 1572, 1573, 1574, 1575, 1576, 1577, 1578, 1579, 1633, 1634, 1635, 1636, 1637, 1638, 1639, 1640, 1641, 1642, 1643, 1644, 1645, 1653, 1654, 1655, 1656] (by decide +kernel) (by decide +kernel)) (goodIn_sub (fun _ h => List.mem_append_left _ (List.mem_append_right _ h)) (by decide +kernel))) (goodIn_sub (fun _ h => List.mem_append_left _ (List.mem_append_left _ (List.mem_append_right _ h))) (by decide +kernel))
set_option maxRecDepth 20000 in
theorem gL_law__L_cover : GoodIn wsL_law_ (va_wsS RL 225 yL_cover wsL_cover) := goodIn_app (goodIn_of _ (by decide +kernel)) ggL_law__L_cover
set_option maxRecDepth 20000 in
theorem ggL_law__X11_cover : GoodIn wsL_law_ wsX11_cover := goodIn_r _ [1331, 207, 1332, 903, 904, 905, 5, 906, 154, 384, 385, 386, 387, 388, 389, 390, 152, 1098, 1099, 1100, 1101, 1102, 1103, 1104, 1105, 730, 731, 732, 733, 734, 735, 736, 737, 157, 1333, 1334, 1335, 1336, 1337, 1338, 1339, 1340, 738, 739, 740, 1580, 1581, 1582, 1583, 1584, 1585, 1586, 1587, 1588, 1589, 1590, 1591, 1592, 1593, 1594, 1595, 1596, 1597, 1598, 1599, 1600, 1601, 1602, 1603, 1604, 1605, 1606, 1607, 1608, 1609, 1610, 1611, 1612, 1613, 1614, 1615, 1616, 1617, 1618, 1619, 1620, 1621, 1622, 1623] (by decide +kernel) (by decide +kernel)
set_option maxRecDepth 20000 in
theorem gL_law__X11_cover : GoodIn wsL_law_ (wsV RL 227 RX11 yX11_cover wsX11_cover) := goodIn_app (goodIn_of _ (by decide +kernel)) ggL_law__X11_cover
set_option maxRecDepth 20000 in
theorem ggL_law__L_game : GoodIn wsL_law_ wsL_game := goodIn_ca (goodIn_ca (goodIn_r _ [1343, 882, 213, 1344, 1345, 1346, 2, 1347, 35, 43, 51, 891, 892, 893, 894, 895, 896, 20, 221, 55, 226, 227, 228, 229, 230, 231, 856, 857, 858, 859, 1348, 1349, 1350, 34, 1351, 1121, 1564, 1565, 1566, 1567, 1568, 1569, 1570, 1571, 1572, 1573, 1574, 1575, 1576, 1577, 1578, 1579, 1660, 1661, 1662, 1633, 1634, 1635, 1636, 1637, 1638, 1639, 1640, 1641, 1642, 1643, 1644, 1645, 1682, 1683, 1684, 1685, 1686, 1687, 1688, 1689] (by decide +kernel) (by decide +kernel)) (goodIn_sub (fun _ h => List.mem_append_left _ (List.mem_append_right _ h)) (by decide +kernel))) (goodIn_sub (fun _ h => List.mem_append_left _ (List.mem_append_left _ (List.mem_append_right _ h))) (by decide +kernel))
set_option maxRecDepth 20000 in
theorem gL_law__L_game : GoodIn wsL_law_ (va_wsS RL 228 yL_game wsL_game) := goodIn_app (goodIn_of _ (by decide +kernel)) ggL_law__L_game
set_option maxRecDepth 20000 in
theorem ggL_law__X11_game : GoodIn wsL_law_ wsX11_game := goodIn_r _ [1355, 207, 169, 903, 904, 905, 5, 906, 154, 384, 385, 386, 387, 388, 389, 390, 152, 1580, 1581, 1582, 1583, 1584, 1585, 1586, 1587, 1588, 1589, 1590, 1591, 1592, 1593, 1594, 1595, 1596, 1597, 1598, 1599, 1600, 1601, 1602, 1603, 1604, 1605, 1606, 1607, 1608, 1609, 1610, 1611, 1612, 1613, 1614, 1615, 1616, 1617, 1618, 1619, 1620, 1621, 1622, 1623] (by decide +kernel) (by decide +kernel)
set_option maxRecDepth 20000 in
theorem gL_law__X11_game : GoodIn wsL_law_ (wsV RL 230 RX11 yX11_game wsX11_game) := goodIn_app (goodIn_of _ (by decide +kernel)) ggL_law__X11_game
set_option maxRecDepth 20000 in
theorem ggL_law__L_round : GoodIn wsL_law_ wsL_round := goodIn_ca (goodIn_r _ [1358, 213, 1359, 1360, 1361, 2, 1362, 39, 20, 1363, 1364, 1365, 1366, 1367, 1368, 851, 226, 227, 228, 229, 230, 231, 55, 856, 857, 858, 859, 1369, 1370, 1371, 38, 1372, 111, 1373, 1374, 84, 85, 86, 1375, 1376, 1377, 1378, 1379, 1380, 1381, 1382, 649, 650, 19, 651, 72, 1383, 1384, 1385, 1386, 1387, 1388, 633, 249, 634, 1389, 1390, 1391, 1564, 1565, 1566, 1567, 1568, 1569, 1570, 1571, 1572, 1573, 1574, 1575, 1576, 1577, 1578, 1579, 1657, 1658, 1659, 1633, 1634, 1635, 1636, 1637, 1638, 1639, 1640, 1641, 1642, 1643, 1644, 1645] (by decide +kernel) (by decide +kernel)) (goodIn_sub (fun _ h => List.mem_append_left _ (List.mem_append_left _ (List.mem_append_right _ h))) (by decide +kernel))
set_option maxRecDepth 20000 in
theorem gL_law__L_round : GoodIn wsL_law_ (va_wsS RL 231 yL_round wsL_round) := goodIn_app (goodIn_of _ (by decide +kernel)) ggL_law__L_round
set_option maxRecDepth 20000 in
theorem ggL_law__X11_round : GoodIn wsL_law_ wsX11_round := goodIn_r _ [1395, 207, 1396, 1397, 1398, 1399, 1400, 5, 1401, 154, 384, 385, 386, 387, 388, 389, 390, 152, 1402, 1403, 1404, 1405, 161, 772, 773, 774, 1406, 1407, 1408, 1409, 1410, 1411, 1412, 1413, 157, 738, 739, 740, 1580, 1581, 1582, 1583, 1584, 1585, 1586, 1587, 1588, 1589, 1590, 1591, 1592, 1593, 1594, 1595, 1596, 1597, 1598, 1599, 1600, 1601, 1602, 1603, 1604, 1605, 1606, 1607, 1608, 1609, 1610, 1611, 1612, 1613, 1614, 1615, 1616, 1617, 1618, 1619, 1620, 1621, 1622, 1623] (by decide +kernel) (by decide +kernel)
set_option maxRecDepth 20000 in
theorem gL_law__X11_round : GoodIn wsL_law_ (wsV RL 233 RX11 yX11_round wsX11_round) := goodIn_app (goodIn_of _ (by decide +kernel)) ggL_law__X11_round
set_option maxRecDepth 20000 in
theorem ggL_law__L_by : GoodIn wsL_law_ wsL_by := goodIn_ca (goodIn_r _ [1416, 213, 1417, 1418, 1419, 2, 1420, 39, 20, 43, 51, 853, 1363, 1365, 1366, 1367, 1368, 851, 226, 227, 228, 229, 230, 231, 55, 1421, 1422, 1423, 38, 1424, 111, 1373, 1381, 1425, 619, 249, 620, 1374, 84, 85, 86, 1382, 649, 650, 19, 651, 72, 1375, 1376, 1377, 1378, 1379, 1380, 1383, 1384, 1385, 1386, 1387, 1388, 633, 634, 1389, 1390, 1391, 1564, 1565, 1566, 1567, 1568, 1569, 1570, 1571, 1572, 1573, 1574, 1575, 1576, 1577, 1578, 1579, 1660, 1661, 1662, 1682, 1683, 1684, 1685, 1686, 1687, 1688, 1689, 1657, 1658, 1659, 1633, 1634, 1635, 1636, 1637, 1638, 1639, 1640, 1641, 1642, 1643, 1644, 1645] (by decide +kernel) (by decide +kernel)) (goodIn_sub (fun _ h => List.mem_append_left _ (List.mem_append_left _ (List.mem_append_right _ h))) (by decide +kernel))
set_option maxRecDepth 20000 in
theorem gL_law__L_by : GoodIn wsL_law_ (va_wsS RL 234 yL_by wsL_by) := goodIn_app (goodIn_of _ (by decide +kernel)) ggL_law__L_by
set_option maxRecDepth 20000 in
theorem ggL_law__X11_by : GoodIn wsL_law_ wsX11_by := goodIn_r _ [1429, 207, 154, 161, 169, 1398, 1399, 1400, 5, 1401, 384, 385, 386, 387, 388, 389, 390, 152, 772, 773, 774, 1402, 1403, 1404, 1405, 1430, 1431, 1432, 1433, 1410, 1411, 1412, 1413, 157, 738, 739, 740, 1580, 1581, 1582, 1583, 1584, 1585, 1586, 1587, 1588, 1589, 1590, 1591, 1592, 1593, 1594, 1595, 1596, 1597, 1598, 1599, 1600, 1601, 1602, 1603, 1604, 1605, 1606, 1607, 1608, 1609, 1610, 1611, 1612, 1613, 1614, 1615, 1616, 1617, 1618, 1619, 1620, 1621, 1622, 1623] (by decide +kernel) (by decide +kernel)
set_option maxRecDepth 20000 in
theorem gL_law__X11_by : GoodIn wsL_law_ (wsV RL 236 RX11 yX11_by wsX11_by) := goodIn_app (goodIn_of _ (by decide +kernel)) ggL_law__X11_by
set_option maxRecDepth 20000 in
theorem ggL_law__L_share : GoodIn wsL_law_ wsL_share := goodIn_ca (goodIn_ca (goodIn_ca (goodIn_r _ [1436, 910, 882, 213, 1437, 1438, 1439, 2, 1440, 35, 43, 51, 915, 916, 917, 918, 919, 920, 20, 887, 888, 55, 891, 892, 893, 894, 895, 896, 221, 921, 656, 657, 226, 227, 228, 229, 230, 231, 1441, 1442, 1443, 34, 1444, 1121, 1445, 865, 866, 117, 867, 124, 1564, 1565, 1566, 1567, 1568, 1569, 1570, 1571, 1572, 1573, 1574, 1575, 1576, 1577, 1578, 1579, 1660, 1661, 1662, 1633, 1634, 1635, 1636, 1637, 1638, 1639, 1640, 1641, 1642, 1643, 1644, 1645, 1682, 1683, 1684, 1685, 1686, 1687, 1688, 1689] (by decide +kernel) (by decide +kernel)) (goodIn_sub (fun _ h => List.mem_append_right _ h) (by decide +kernel))) (goodIn_sub (fun _ h => List.mem_append_left _ (List.mem_append_right _ h)) (by decide +kernel))) (goodIn_sub (fun _ h => List.mem_append_left _ (List.mem_append_left _ (List.mem_append_right _ h))) (by decide +kernel))
set_option maxRecDepth 20000 in
theorem gL_law__L_share : GoodIn wsL_law_ (va_wsS RL 237 yL_share wsL_share) := goodIn_app (goodIn_of _ (by decide +kernel)) ggL_law__L_share
set_option maxRecDepth 20000 in
theorem ggL_law__X11_share : GoodIn wsL_law_ wsX11_share := goodIn_r _ [1449, 207, 169, 927, 928, 929, 5, 930, 903, 904, 905, 906, 154, 384, 385, 386, 387, 388, 389, 390, 152, 734, 735, 736, 737, 157, 876, 877, 878, 761, 762, 763, 1580, 1581, 1582, 1583, 1584, 1585, 1586, 1587, 1588, 1589, 1590, 1591, 1592, 1593, 1594, 1595, 1596, 1597, 1598, 1599, 1600, 1601, 1602, 1603, 1604, 1605, 1606, 1607, 1608, 1609, 1610, 1611, 1612, 1613, 1614, 1615, 1616, 1617, 1618, 1619, 1620, 1621, 1622, 1623] (by decide +kernel) (by decide +kernel)
set_option maxRecDepth 20000 in
theorem gL_law__X11_share : GoodIn wsL_law_ (wsV RL 239 RX11 yX11_share wsX11_share) := goodIn_app (goodIn_of _ (by decide +kernel)) ggL_law__X11_share
set_option maxRecDepth 20000 in
theorem ggL_law__L_ahead : GoodIn wsL_law_ wsL_ahead := goodIn_ca (goodIn_ca (goodIn_r _ [1452, 882, 213, 1453, 1454, 1455, 2, 1456, 47, 43, 51, 20, 25, 1457, 35, 1001, 891, 892, 893, 894, 895, 896, 221, 55, 226, 227, 228, 229, 230, 231, 856, 857, 858, 859, 1458, 1459, 1460, 46, 1461, 130, 639, 641, 640, 132, 1462, 588, 589, 117, 590, 123, 591, 592, 593, 594, 124, 125, 371, 372, 373, 374, 375, 662, 663, 664, 665, 618, 619, 249, 620, 666, 667, 668, 669, 131, 670, 671, 672, 673, 674, 675, 676, 677, 678, 679, 680, 681, 658, 659, 660, 661, 682, 683, 684, 24, 685, 97, 91, 92, 686, 687, 688, 689, 897, 865, 866, 867, 1135, 1136, 1137, 34, 1138, 1139, 1140, 1141, 1006, 1157, 1158, 1159, 1160, 106, 1161, 1162, 1163, 1164, 1121, 1165, 84, 85, 86, 1122, 626, 627, 628, 1564, 1565, 1566, 1567, 1568, 1569, 1570, 1571, 1572, 1573, 1574, 1575, 1576, 1577, 1578, 1579, 1660, 1661, 1662, 1663, 1664, 1665, 1666, 1667, 1668, 1633, 1634, 1635, 1636, 1637, 1638, 1639, 1640, 1641, 1642, 1643, 1644, 1645, 1682, 1683, 1684, 1685, 1686, 1687, 1688, 1689, 1646, 1647, 1648, 1653, 1654, 1655, 1656] (by decide +kernel) (by decide +kernel)) (goodIn_sub (fun _ h => List.mem_append_left _ (List.mem_append_right _ h)) (by decide +kernel))) (goodIn_sub (fun _ h => List.mem_append_left _ (List.mem_append_left _ (List.mem_append_right _ h))) (by decide +kernel))
set_option maxRecDepth 20000 in
theorem gL_law__L_ahead : GoodIn wsL_law_ (va_wsS RL 240 yL_ahead wsL_ahead) := goodIn_app (goodIn_of _ (by decide +kernel)) ggL_law__L_ahead
set_option maxRecDepth 20000 in
theorem ggL_law__X11_ahead : GoodIn wsL_law_ wsX11_ahead := goodIn_r _ [1466, 207, 169, 170, 903, 904, 905, 5, 906, 154, 384, 385, 386, 387, 388, 389, 390, 152, 715, 716, 717, 750, 751, 752, 753, 161, 754, 755, 756, 757, 758, 759, 760, 761, 762, 763, 747, 748, 749, 764, 765, 766, 767, 159, 741, 742, 743, 744, 745, 746, 730, 731, 732, 733, 734, 735, 736, 737, 157, 768, 769, 770, 771, 167, 772, 773, 774, 775, 776, 777, 778, 181, 162, 166, 779, 780, 781, 782, 783, 784, 785, 786, 787, 788, 876, 877, 878, 1146, 1147, 1148, 1149, 1170, 1171, 1172, 1580, 1581, 1582, 1583, 1584, 1585, 1586, 1587, 1588, 1589, 1590, 1591, 1592, 1593, 1594, 1595, 1596, 1597, 1598, 1599, 1600, 1601, 1602, 1603, 1604, 1605, 1606, 1607, 1608, 1609, 1610, 1611, 1612, 1613, 1614, 1615, 1616, 1617, 1618, 1619, 1620, 1621, 1622, 1623] (by decide +kernel) (by decide +kernel)
set_option maxRecDepth 20000 in
theorem gL_law__X11_ahead : GoodIn wsL_law_ (wsV RL 242 RX11 yX11_ahead wsX11_ahead) := goodIn_app (goodIn_of _ (by decide +kernel)) ggL_law__X11_ahead
set_option maxRecDepth 20000 in
theorem ggL_law__L_decade : GoodIn wsL_law_ wsL_decade := goodIn_ca (goodIn_r _ [1469, 213, 1470, 1471, 1472, 2, 1473, 47, 43, 51, 20, 25, 221, 1474, 1475, 1476, 1477, 1478, 1479, 1480, 1481, 226, 227, 228, 229, 230, 231, 55, 856, 857, 858, 859, 1458, 1459, 1460, 46, 1461, 130, 639, 641, 640, 132, 1462, 588, 589, 117, 590, 123, 591, 592, 593, 594, 124, 125, 371, 372, 373, 374, 375, 662, 663, 664, 665, 618, 619, 249, 620, 666, 667, 668, 669, 131, 670, 671, 672, 673, 674, 675, 676, 677, 678, 679, 680, 681, 658, 659, 660, 661, 682, 683, 684, 24, 685, 97, 91, 92, 686, 687, 688, 689, 1482, 1483, 1484, 1485, 1486, 1487, 1488, 1489, 1490, 865, 866, 867, 1491, 1240, 1241, 1242, 1243, 1244, 1245, 1564, 1565, 1566, 1567, 1568, 1569, 1570, 1571, 1572, 1573, 1574, 1575, 1576, 1577, 1578, 1579, 1660, 1661, 1662, 1633, 1634, 1635, 1636, 1637, 1638, 1639, 1640, 1641, 1642, 1643, 1644, 1645, 1682, 1683, 1684, 1685, 1686, 1687, 1688, 1689, 1663, 1664, 1665, 1666, 1667, 1668, 1646, 1647, 1648] (by decide +kernel) (by decide +kernel)) (goodIn_sub (fun _ h => List.mem_append_left _ (List.mem_append_left _ (List.mem_append_right _ h))) (by decide +kernel))
set_option maxRecDepth 20000 in
theorem gL_law__L_decade : GoodIn wsL_law_ (va_wsS RL 243 yL_decade wsL_decade) := goodIn_app (goodIn_of _ (by decide +kernel)) ggL_law__L_decade
set_option maxRecDepth 20000 in
theorem ggL_law__X11_decade : GoodIn wsL_law_ wsX11_decade := goodIn_r _ [1495, 207, 170, 169, 384, 385, 5, 386, 387, 388, 389, 390, 152, 1496, 1497, 1498, 1499, 1500, 154, 1501, 715, 716, 717, 772, 773, 774, 792, 793, 794, 750, 751, 752, 753, 161, 754, 755, 756, 757, 758, 759, 760, 761, 762, 763, 747, 748, 749, 764, 765, 766, 767, 159, 741, 742, 743, 744, 745, 746, 730, 731, 732, 733, 734, 735, 736, 737, 157, 768, 769, 770, 771, 167, 775, 776, 777, 778, 181, 162, 166, 779, 780, 781, 782, 783, 784, 785, 786, 787, 788, 872, 873, 874, 875, 876, 877, 878, 1502, 1503, 1504, 1580, 1581, 1582, 1583, 1584, 1585, 1586, 1587, 1588, 1589, 1590, 1591, 1592, 1593, 1594, 1595, 1596, 1597, 1598, 1599, 1600, 1601, 1602, 1603, 1604, 1605, 1606, 1607, 1608, 1609, 1610, 1611, 1612, 1613, 1614, 1615, 1616, 1617, 1618, 1619, 1620, 1621, 1622, 1623] (by decide +kernel) (by decide +kernel)
set_option maxRecDepth 20000 in
theorem gL_law__X11_decade : GoodIn wsL_law_ (wsV RL 245 RX11 yX11_decade wsX11_decade) := goodIn_app (goodIn_of _ (by decide +kernel)) ggL_law__X11_decade
set_option maxRecDepth 20000 in
theorem ggL_law__L_span : GoodIn wsL_law_ wsL_span := goodIn_ca (goodIn_r _ [1507, 213, 1508, 1509, 1510, 2, 1511, 20, 221, 47, 43, 51, 25, 1512, 1474, 1475, 1513, 619, 249, 620, 1514, 248, 250, 1476, 226, 227, 228, 229, 230, 231, 55, 1478, 1479, 1480, 1481, 856, 857, 858, 859, 1458, 1459, 1460, 46, 1461, 130, 639, 641, 640, 132, 1462, 588, 589, 117, 590, 123, 591, 592, 593, 594, 124, 125, 371, 372, 373, 374, 375, 662, 663, 664, 665, 618, 666, 667, 668, 669, 131, 670, 671, 672, 673, 674, 675, 676, 677, 678, 679, 680, 681, 658, 659, 660, 661, 682, 683, 684, 24, 685, 97, 91, 92, 686, 687, 688, 689, 1482, 1483, 1484, 1485, 1486, 1487, 1488, 1489, 1490, 865, 866, 867, 1564, 1565, 1566, 1567, 1568, 1569, 1570, 1571, 1572, 1573, 1574, 1575, 1576, 1577, 1578, 1579, 1633, 1634, 1635, 1636, 1637, 1638, 1639, 1640, 1641, 1642, 1643, 1644, 1645, 1660, 1661, 1662, 1682, 1683, 1684, 1685, 1686, 1687, 1688, 1689, 1663, 1664, 1665, 1666, 1667, 1668, 1646, 1647, 1648] (by decide +kernel) (by decide +kernel)) (goodIn_sub (fun _ h => List.mem_append_left _ (List.mem_append_left _ (List.mem_append_right _ h))) (by decide +kernel))
set_option maxRecDepth 20000 in
theorem gL_law__L_span : GoodIn wsL_law_ (va_wsS RL 246 yL_span wsL_span) := goodIn_app (goodIn_of _ (by decide +kernel)) ggL_law__L_span
set_option maxRecDepth 20000 in
theorem ggL_law__X11_span : GoodIn wsL_law_ wsX11_span := goodIn_r _ [1518, 207, 170, 384, 385, 5, 386, 903, 904, 905, 906, 154, 387, 388, 389, 390, 152, 1496, 1497, 1498, 1499, 169, 1500, 1501, 715, 716, 717, 772, 773, 774, 792, 793, 794, 750, 751, 752, 753, 161, 754, 755, 756, 757, 758, 759, 760, 761, 762, 763, 747, 748, 749, 764, 765, 766, 767, 159, 741, 742, 743, 744, 745, 746, 730, 731, 732, 733, 734, 735, 736, 737, 157, 768, 769, 770, 771, 167, 775, 776, 777, 778, 181, 162, 166, 779, 780, 781, 782, 783, 784, 785, 786, 787, 788, 872, 873, 874, 875, 876, 877, 878, 1580, 1581, 1582, 1583, 1584, 1585, 1586, 1587, 1588, 1589, 1590, 1591, 1592, 1593, 1594, 1595, 1596, 1597, 1598, 1599, 1600, 1601, 1602, 1603, 1604, 1605, 1606, 1607, 1608, 1609, 1610, 1611, 1612, 1613, 1614, 1615, 1616, 1617, 1618, 1619, 1620, 1621, 1622, 1623] (by decide +kernel) (by decide +kernel)
set_option maxRecDepth 20000 in
theorem gL_law__X11_span : GoodIn wsL_law_ (wsV RL 249 RX11 yX11_span wsX11_span) := goodIn_app (goodIn_of _ (by decide +kernel)) ggL_law__X11_span
set_option maxRecDepth 20000 in
theorem ggL_law__X10_image : GoodIn wsL_law_ wsX10_image := goodIn_r _ [1522, 219, 53, 40, 41, 42, 43, 112, 113, 114, 11, 12, 115, 116, 117, 118, 119, 120, 121, 122, 54, 123, 124, 125, 1523, 1524, 1525, 1526, 366, 587, 588, 589, 590, 591, 592, 593, 594, 371, 372, 373, 374, 375, 583, 584, 585, 586, 1564, 1565, 1566, 1567, 1568, 1569, 1570, 1571, 1572, 1573, 1574, 1575, 1576, 1577, 1578, 1579, 1660, 1661, 1662, 1682, 1683, 1684, 1685, 1686, 1687, 1688, 1689] (by decide +kernel) (by decide +kernel)
set_option maxRecDepth 20000 in
theorem gL_law__X10_image : GoodIn wsL_law_ (wsV RL 250 RX10 yX10_image wsX10_image) := goodIn_app (goodIn_of _ (by decide +kernel)) ggL_law__X10_image
set_option maxRecDepth 20000 in
theorem ggL_law__X11_image : GoodIn wsL_law_ wsX11_image := goodIn_r _ [1530, 207, 185, 172, 1531, 1532, 1533, 5, 1534, 1535, 183, 169, 171, 1536, 1537, 1538, 1539, 1580, 1581, 1582, 1583, 1584, 1585, 1586, 1587, 1588, 1589, 1590, 1591, 1592, 1593, 1594, 1595, 1596, 1597, 1598, 1599, 1600, 1601, 1602, 1603, 1604, 1605, 1606, 1607, 1608, 1609, 1610, 1611, 1612, 1613, 1614, 1615, 1616, 1617, 1618, 1619, 1620, 1621, 1622, 1623] (by decide +kernel) (by decide +kernel)
set_option maxRecDepth 20000 in
theorem gL_law__X11_image : GoodIn wsL_law_ (wsV RL 253 RX11 yX11_image wsX11_image) := goodIn_app (goodIn_of _ (by decide +kernel)) ggL_law__X11_image
set_option maxRecDepth 20000 in
theorem ggL_law__X10_restore : GoodIn wsL_law_ wsX10_restore := goodIn_r _ [1543, 219, 53, 43, 220, 1523, 1524, 1525, 42, 1526, 118, 366, 587, 588, 589, 117, 590, 123, 591, 592, 593, 594, 124, 125, 371, 372, 373, 374, 375, 583, 584, 585, 586, 119, 115, 116, 120, 121, 122, 11, 12, 54, 1564, 1565, 1566, 1567, 1568, 1569, 1570, 1571, 1572, 1573, 1574, 1575, 1576, 1577, 1578, 1579, 1660, 1661, 1662, 1682, 1683, 1684, 1685, 1686, 1687, 1688, 1689] (by decide +kernel) (by decide +kernel)
set_option maxRecDepth 20000 in
theorem gL_law__X10_restore : GoodIn wsL_law_ (wsV RL 254 RX10 yX10_restore wsX10_restore) := goodIn_app (goodIn_of _ (by decide +kernel)) ggL_law__X10_restore
set_option maxRecDepth 20000 in
theorem ggL_law__X11_restore : GoodIn wsL_law_ wsX11_restore := goodIn_r _ [1547, 207, 185, 172, 184, 1531, 1532, 1533, 5, 1534, 1535, 183, 169, 171, 1536, 1537, 1538, 1539, 1580, 1581, 1582, 1583, 1584, 1585, 1586, 1587, 1588, 1589, 1590, 1591, 1592, 1593, 1594, 1595, 1596, 1597, 1598, 1599, 1600, 1601, 1602, 1603, 1604, 1605, 1606, 1607, 1608, 1609, 1610, 1611, 1612, 1613, 1614, 1615, 1616, 1617, 1618, 1619, 1620, 1621, 1622, 1623] (by decide +kernel) (by decide +kernel)
set_option maxRecDepth 20000 in
theorem gL_law__X11_restore : GoodIn wsL_law_ (wsV RL 257 RX11 yX11_restore wsX11_restore) := goodIn_app (goodIn_of _ (by decide +kernel)) ggL_law__X11_restore
set_option maxRecDepth 20000 in
theorem ggL_law__X10_status : GoodIn wsL_law_ wsX10_status := goodIn_r _ [1551, 55, 1564, 1565, 1566, 1567, 1568, 1569, 1570, 1571, 1572, 1573, 1574, 1575, 1576, 1577, 1578, 1579] (by decide +kernel) (by decide +kernel)
set_option maxRecDepth 20000 in
theorem gL_law__X10_status : GoodIn wsL_law_ (wsV RL 258 RX10 yX10_status wsX10_status) := goodIn_app (goodIn_of _ (by decide +kernel)) ggL_law__X10_status
set_option maxRecDepth 20000 in
theorem ggL_law__X11_status : GoodIn wsL_law_ wsX11_status := goodIn_r _ [1555, 207, 152, 384, 385, 5, 386, 1580, 1581, 1582, 1583, 1584, 1585, 1586, 1587, 1588, 1589, 1590, 1591, 1592, 1593, 1594, 1595, 1596, 1597, 1598, 1599, 1600, 1601, 1602, 1603, 1604, 1605, 1606, 1607, 1608, 1609, 1610, 1611, 1612, 1613, 1614, 1615, 1616, 1617, 1618, 1619, 1620, 1621, 1622, 1623] (by decide +kernel) (by decide +kernel)
set_option maxRecDepth 20000 in
theorem gL_law__X11_status : GoodIn wsL_law_ (wsV RL 261 RX11 yX11_status wsX11_status) := goodIn_app (goodIn_of _ (by decide +kernel)) ggL_law__X11_status
set_option maxRecDepth 20000 in
theorem ggL_law__X10_count : GoodIn wsL_law_ wsX10_count := goodIn_r _ [1559, 219, 16, 193, 43, 546, 1564, 1565, 1566, 1567, 1568, 1569, 1570, 1571, 1572, 1573, 1574, 1575, 1576, 1577, 1578, 1579, 1624, 1625, 1626, 1627, 1628, 1629, 1630, 1631, 1632, 1660, 1661, 1662] (by decide +kernel) (by decide +kernel)
set_option maxRecDepth 20000 in
theorem gL_law__X10_count : GoodIn wsL_law_ (wsV RL 262 RX10 yX10_count wsX10_count) := goodIn_app (goodIn_of _ (by decide +kernel)) ggL_law__X10_count
set_option maxRecDepth 20000 in
theorem ggL_law__X11_count : GoodIn wsL_law_ wsX11_count := goodIn_r _ [1563, 207, 185, 208, 183, 1580, 1581, 1582, 1583, 1584, 1585, 1586, 1587, 1588, 1589, 1590, 1591, 1592, 1593, 1594, 1595, 1596, 1597, 1598, 1599, 1600, 1601, 1602, 1603, 1604, 1605, 1606, 1607, 1608, 1609, 1610, 1611, 1612, 1613, 1614, 1615, 1616, 1617, 1618, 1619, 1620, 1621, 1622, 1623] (by decide +kernel) (by decide +kernel)
set_option maxRecDepth 20000 in
theorem gL_law__X11_count : GoodIn wsL_law_ (wsV RL 265 RX11 yX11_count wsX11_count) := goodIn_app (goodIn_of _ (by decide +kernel)) ggL_law__X11_count
