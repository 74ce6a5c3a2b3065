set_option maxRecDepth 20000 in
theorem ggX11_init_X11_tellsNothing : GoodIn wsX11_init wsX11_tellsNothing := goodIn_r _ [32, 8, 45, 46, 47, 48, 49, 50, 51, 52, 53, 54, 55, 56, 57, 58, 59, 60, 61, 62, 63, 64, 65, 66, 67, 68, 69, 70, 71, 72, 73, 74, 75, 76, 77, 78, 79, 80, 81, 82, 83, 84, 85, 86, 87, 88] rfl (by decide +kernel)
set_option maxRecDepth 20000 in
theorem gX11_init_X11_tellsNothing : GoodIn wsX11_init (wsV RX11 79 RX11 yX11_tellsNothing wsX11_tellsNothing) := goodIn_app (goodIn_r _ [28, 29, 30, 31] rfl (by decide +kernel)) ggX11_init_X11_tellsNothing
set_option maxRecDepth 20000 in
theorem ggX11_init_X11_stands : GoodIn wsX11_init wsX11_stands := goodIn_r _ [36, 9, 8, 11, 12, 15, 16, 13, 14, 24, 37, 38, 39, 40, 41, 42, 43, 31, 44, 45, 46, 47, 48, 49, 50, 51, 52, 53, 54, 55, 56, 57, 58, 59, 60, 61, 62, 63, 64, 65, 66, 67, 68, 69, 70, 71, 72, 73, 74, 75, 76, 77, 78, 79, 80, 81, 82, 83, 84, 85, 86, 87, 88] rfl (by decide +kernel)
set_option maxRecDepth 20000 in
theorem gX11_init_X11_stands : GoodIn wsX11_init (wsV RX11 82 RX11 yX11_stands wsX11_stands) := goodIn_app (goodIn_r _ [33, 34, 35, 31] rfl (by decide +kernel)) ggX11_init_X11_stands
set_option maxRecDepth 20000 in
theorem ggX11_blanks_X11_byteAt : GoodIn wsX11_blanks wsX11_byteAt := goodIn_r _ [6, 7, 8, 9, 10, 11, 12, 13, 14, 15, 16, 17, 18, 19, 20, 21, 22, 23, 24, 25, 26, 27, 28, 29, 30, 31, 32, 33, 34, 35, 36, 37, 38, 39, 40, 41, 42, 43, 44, 45, 46, 47, 48, 49, 50, 51, 52] rfl (by decide +kernel)
set_option maxRecDepth 20000 in
theorem gX11_blanks_X11_byteAt : GoodIn wsX11_blanks (wsV RX11 97 RX11 yX11_byteAt wsX11_byteAt) := goodIn_app (goodIn_r _ [2, 3, 4, 5] rfl (by decide +kernel)) ggX11_blanks_X11_byteAt
set_option maxRecDepth 20000 in
theorem ggX11_number_X11_blanks : GoodIn wsX11_number wsX11_blanks := goodIn_r _ [8, 2, 9, 10, 11, 7, 12, 13, 14, 26, 27, 28, 29, 30, 31, 32, 33, 34, 35, 36, 37, 38, 39, 40, 41, 42, 43, 44, 45, 46, 47, 48, 49, 50, 51, 52, 53, 54, 55, 56, 57, 58, 59, 60, 61, 62, 63, 64, 65, 66, 67, 68, 69] rfl (by decide +kernel)
set_option maxRecDepth 20000 in
theorem gX11_number_X11_blanks : GoodIn wsX11_number (wsV RX11 107 RX11 yX11_blanks wsX11_blanks) := goodIn_app (goodIn_r _ [4, 5, 6, 7] rfl (by decide +kernel)) ggX11_number_X11_blanks
set_option maxRecDepth 20000 in
theorem ggX11_number_X11_byteAt : GoodIn wsX11_number wsX11_byteAt := goodIn_r _ [12, 13, 14, 26, 27, 28, 29, 30, 31, 32, 33, 34, 35, 36, 37, 38, 39, 40, 41, 42, 43, 44, 45, 46, 47, 48, 49, 50, 51, 52, 53, 54, 55, 56, 57, 58, 59, 60, 61, 62, 63, 64, 65, 66, 67, 68, 69] rfl (by decide +kernel)
set_option maxRecDepth 20000 in
theorem gX11_number_X11_byteAt : GoodIn wsX11_number (wsV RX11 97 RX11 yX11_byteAt wsX11_byteAt) := goodIn_app (goodIn_r _ [9, 10, 11, 7] rfl (by decide +kernel)) ggX11_number_X11_byteAt
set_option maxRecDepth 20000 in
theorem ggX11_number_X11_isDigit : GoodIn wsX11_number wsX11_isDigit := goodIn_r _ [17] rfl (by decide +kernel)
set_option maxRecDepth 20000 in
theorem gX11_number_X11_isDigit : GoodIn wsX11_number (va_wsS RX11 110 yX11_isDigit wsX11_isDigit) := goodIn_app (goodIn_r _ [15, 16, 7] rfl (by decide +kernel)) ggX11_number_X11_isDigit
set_option maxRecDepth 20000 in
theorem ggX11_number_X11_wrong : GoodIn wsX11_number wsX11_wrong := goodIn_r _ [21, 1, 22, 26, 27, 28, 29, 30, 31, 32, 33, 34, 35, 36, 37, 38, 39, 40, 41, 42, 43, 44, 45, 46, 47, 48, 49, 50, 51, 52, 53, 54, 55, 56, 57, 58, 59, 60, 61, 62, 63, 64, 65, 66, 67, 68, 69] rfl (by decide +kernel)
set_option maxRecDepth 20000 in
theorem gX11_number_X11_wrong : GoodIn wsX11_number (wsV RX11 114 RX11 yX11_wrong wsX11_wrong) := goodIn_app (goodIn_r _ [18, 19, 20, 7] rfl (by decide +kernel)) ggX11_number_X11_wrong
set_option maxRecDepth 20000 in
theorem ggX11_number_X11_in : GoodIn wsX11_number wsX11_in := goodIn_r _ [25] rfl (by decide +kernel)
set_option maxRecDepth 20000 in
theorem gX11_number_X11_in : GoodIn wsX11_number (va_wsS RX11 119 yX11_in wsX11_in) := goodIn_app (goodIn_r _ [23, 24, 7] rfl (by decide +kernel)) ggX11_number_X11_in
set_option maxRecDepth 20000 in
theorem ggX11_wordHere_X11_blanks : GoodIn wsX11_wordHere wsX11_blanks := goodIn_r _ [6, 1, 7, 8, 9, 5, 10, 11, 12, 16, 17, 18, 19, 20, 21, 22, 23, 24, 25, 26, 27, 28, 29, 30, 31, 32, 33, 34, 35, 36, 37, 38, 39, 40, 41, 42, 43, 44, 45, 46, 47, 48, 49, 50, 51, 52, 53, 54, 55, 56, 57, 58, 59] rfl (by decide +kernel)
set_option maxRecDepth 20000 in
theorem gX11_wordHere_X11_blanks : GoodIn wsX11_wordHere (wsV RX11 107 RX11 yX11_blanks wsX11_blanks) := goodIn_app (goodIn_r _ [2, 3, 4, 5] rfl (by decide +kernel)) ggX11_wordHere_X11_blanks
set_option maxRecDepth 20000 in
theorem ggX11_wordHere_X11_byteAt : GoodIn wsX11_wordHere wsX11_byteAt := goodIn_r _ [10, 11, 12, 16, 17, 18, 19, 20, 21, 22, 23, 24, 25, 26, 27, 28, 29, 30, 31, 32, 33, 34, 35, 36, 37, 38, 39, 40, 41, 42, 43, 44, 45, 46, 47, 48, 49, 50, 51, 52, 53, 54, 55, 56, 57, 58, 59] rfl (by decide +kernel)
set_option maxRecDepth 20000 in
theorem gX11_wordHere_X11_byteAt : GoodIn wsX11_wordHere (wsV RX11 97 RX11 yX11_byteAt wsX11_byteAt) := goodIn_app (goodIn_r _ [7, 8, 9, 5] rfl (by decide +kernel)) ggX11_wordHere_X11_byteAt
set_option maxRecDepth 20000 in
theorem ggX11_wordHere_X11_isSmall : GoodIn wsX11_wordHere wsX11_isSmall := goodIn_r _ [15] rfl (by decide +kernel)
set_option maxRecDepth 20000 in
theorem gX11_wordHere_X11_isSmall : GoodIn wsX11_wordHere (va_wsS RX11 123 yX11_isSmall wsX11_isSmall) := goodIn_app (goodIn_r _ [13, 14, 5] rfl (by decide +kernel)) ggX11_wordHere_X11_isSmall
set_option maxRecDepth 20000 in
theorem ggX11_isWord_X11_wordHere : GoodIn wsX11_isWord wsX11_wordHere := goodIn_r _ [6, 7, 8, 9, 10, 5, 11, 12, 13, 14, 15, 16, 17, 18, 19, 20, 24, 25, 26, 27, 28, 29, 30, 31, 32, 33, 34, 35, 36, 37, 38, 39, 40, 41, 42, 43, 44, 45, 46, 47, 48, 49, 50, 51, 52, 53, 54, 55, 56, 57, 58, 59, 60, 61, 62, 63, 64, 65, 66, 67] rfl (by decide +kernel)
set_option maxRecDepth 20000 in
theorem gX11_isWord_X11_wordHere : GoodIn wsX11_isWord (wsV RX11 126 RX11 yX11_wordHere wsX11_wordHere) := goodIn_app (goodIn_r _ [2, 3, 4, 5] rfl (by decide +kernel)) ggX11_isWord_X11_wordHere
set_option maxRecDepth 20000 in
theorem ggX11_isWord_X11_six : GoodIn wsX11_isWord wsX11_six := goodIn_r _ [23] rfl (by decide +kernel)
set_option maxRecDepth 20000 in
theorem gX11_isWord_X11_six : GoodIn wsX11_isWord (va_wsS RX11 130 yX11_six wsX11_six) := goodIn_app (goodIn_r _ [21, 22, 5] rfl (by decide +kernel)) ggX11_isWord_X11_six
set_option maxRecDepth 20000 in
theorem ggX11_skipWord_X11_byteAt : GoodIn wsX11_skipWord wsX11_byteAt := goodIn_r _ [6, 7, 8, 12, 13, 14, 15, 16, 17, 18, 19, 20, 21, 22, 23, 24, 25, 26, 27, 28, 29, 30, 31, 32, 33, 34, 35, 36, 37, 38, 39, 40, 41, 42, 43, 44, 45, 46, 47, 48, 49, 50, 51, 52, 53, 54, 55] rfl (by decide +kernel)
set_option maxRecDepth 20000 in
theorem gX11_skipWord_X11_byteAt : GoodIn wsX11_skipWord (wsV RX11 97 RX11 yX11_byteAt wsX11_byteAt) := goodIn_app (goodIn_r _ [2, 3, 4, 5] rfl (by decide +kernel)) ggX11_skipWord_X11_byteAt
set_option maxRecDepth 20000 in
theorem ggX11_skipWord_X11_isSmall : GoodIn wsX11_skipWord wsX11_isSmall := goodIn_r _ [11] rfl (by decide +kernel)
set_option maxRecDepth 20000 in
theorem gX11_skipWord_X11_isSmall : GoodIn wsX11_skipWord (va_wsS RX11 123 yX11_isSmall wsX11_isSmall) := goodIn_app (goodIn_r _ [9, 10, 5] rfl (by decide +kernel)) ggX11_skipWord_X11_isSmall
set_option maxRecDepth 20000 in
theorem ggX11_takes_X11_isWord : GoodIn wsX11_takes wsX11_isWord := goodIn_r _ [5, 6, 7, 8, 9, 4, 10, 11, 12, 13, 14, 15, 16, 17, 18, 19, 20, 21, 22, 23, 24, 25, 26, 27, 32, 33, 34, 35, 36, 37, 38, 39, 40, 41, 42, 43, 44, 45, 46, 47, 48, 49, 50, 51, 52, 53, 54, 55, 56, 57, 58, 59, 60, 61, 62, 63, 64, 65, 66, 67, 68, 69, 70, 71, 72, 73, 74, 75] rfl (by decide +kernel)
set_option maxRecDepth 20000 in
theorem gX11_takes_X11_isWord : GoodIn wsX11_takes (wsV RX11 134 RX11 yX11_isWord wsX11_isWord) := goodIn_app (goodIn_r _ [1, 2, 3, 4] rfl (by decide +kernel)) ggX11_takes_X11_isWord
set_option maxRecDepth 20000 in
theorem ggX11_takes_X11_skipWord : GoodIn wsX11_takes wsX11_skipWord := goodIn_r _ [31, 11, 16, 17, 18, 4, 19, 20, 21, 22, 23, 24, 32, 33, 34, 35, 36, 37, 38, 39, 40, 41, 42, 43, 44, 45, 46, 47, 48, 49, 50, 51, 52, 53, 54, 55, 56, 57, 58, 59, 60, 61, 62, 63, 64, 65, 66, 67, 68, 69, 70, 71, 72, 73, 74, 75] rfl (by decide +kernel)
set_option maxRecDepth 20000 in
theorem gX11_takes_X11_skipWord : GoodIn wsX11_takes (wsV RX11 138 RX11 yX11_skipWord wsX11_skipWord) := goodIn_app (goodIn_r _ [28, 29, 30, 4] rfl (by decide +kernel)) ggX11_takes_X11_skipWord
set_option maxRecDepth 20000 in
theorem ggX11_sign_X11_blanks : GoodIn wsX11_sign wsX11_blanks := goodIn_r _ [7, 2, 8, 9, 10, 6, 11, 12, 13, 19, 20, 21, 22, 23, 24, 25, 26, 27, 28, 29, 30, 31, 32, 33, 34, 35, 36, 37, 38, 39, 40, 41, 42, 43, 44, 45, 46, 47, 48, 49, 50, 51, 52, 53, 54, 55, 56, 57, 58, 59, 60, 61, 62] rfl (by decide +kernel)
set_option maxRecDepth 20000 in
theorem gX11_sign_X11_blanks : GoodIn wsX11_sign (wsV RX11 107 RX11 yX11_blanks wsX11_blanks) := goodIn_app (goodIn_r _ [3, 4, 5, 6] rfl (by decide +kernel)) ggX11_sign_X11_blanks
set_option maxRecDepth 20000 in
theorem ggX11_sign_X11_byteAt : GoodIn wsX11_sign wsX11_byteAt := goodIn_r _ [11, 12, 13, 19, 20, 21, 22, 23, 24, 25, 26, 27, 28, 29, 30, 31, 32, 33, 34, 35, 36, 37, 38, 39, 40, 41, 42, 43, 44, 45, 46, 47, 48, 49, 50, 51, 52, 53, 54, 55, 56, 57, 58, 59, 60, 61, 62] rfl (by decide +kernel)
set_option maxRecDepth 20000 in
theorem gX11_sign_X11_byteAt : GoodIn wsX11_sign (wsV RX11 97 RX11 yX11_byteAt wsX11_byteAt) := goodIn_app (goodIn_r _ [8, 9, 10, 6] rfl (by decide +kernel)) ggX11_sign_X11_byteAt
set_option maxRecDepth 20000 in
theorem ggX11_sign_X11_wrong : GoodIn wsX11_sign wsX11_wrong := goodIn_r _ [17, 1, 18, 19, 20, 21, 22, 23, 24, 25, 26, 27, 28, 29, 30, 31, 32, 33, 34, 35, 36, 37, 38, 39, 40, 41, 42, 43, 44, 45, 46, 47, 48, 49, 50, 51, 52, 53, 54, 55, 56, 57, 58, 59, 60, 61, 62] rfl (by decide +kernel)
set_option maxRecDepth 20000 in
theorem gX11_sign_X11_wrong : GoodIn wsX11_sign (wsV RX11 114 RX11 yX11_wrong wsX11_wrong) := goodIn_app (goodIn_r _ [14, 15, 16, 6] rfl (by decide +kernel)) ggX11_sign_X11_wrong
set_option maxRecDepth 20000 in
theorem ggX11_takesSign_X11_blanks : GoodIn wsX11_takesSign wsX11_blanks := goodIn_r _ [7, 2, 8, 9, 10, 6, 11, 12, 13, 14, 15, 16, 17, 18, 19, 20, 21, 22, 23, 24, 25, 26, 27, 28, 29, 30, 31, 32, 33, 34, 35, 36, 37, 38, 39, 40, 41, 42, 43, 44, 45, 46, 47, 48, 49, 50, 51, 52, 53, 54, 55, 56, 57] rfl (by decide +kernel)
set_option maxRecDepth 20000 in
theorem gX11_takesSign_X11_blanks : GoodIn wsX11_takesSign (wsV RX11 107 RX11 yX11_blanks wsX11_blanks) := goodIn_app (goodIn_r _ [3, 4, 5, 6] rfl (by decide +kernel)) ggX11_takesSign_X11_blanks
set_option maxRecDepth 20000 in
theorem ggX11_takesSign_X11_byteAt : GoodIn wsX11_takesSign wsX11_byteAt := goodIn_r _ [11, 12, 13, 14, 15, 16, 17, 18, 19, 20, 21, 22, 23, 24, 25, 26, 27, 28, 29, 30, 31, 32, 33, 34, 35, 36, 37, 38, 39, 40, 41, 42, 43, 44, 45, 46, 47, 48, 49, 50, 51, 52, 53, 54, 55, 56, 57] rfl (by decide +kernel)
set_option maxRecDepth 20000 in
theorem gX11_takesSign_X11_byteAt : GoodIn wsX11_takesSign (wsV RX11 97 RX11 yX11_byteAt wsX11_byteAt) := goodIn_app (goodIn_r _ [8, 9, 10, 6] rfl (by decide +kernel)) ggX11_takesSign_X11_byteAt
set_option maxRecDepth 20000 in
theorem ggX11_starts_X11_blanks : GoodIn wsX11_starts wsX11_blanks := goodIn_r _ [12, 3, 13, 14, 15, 11, 16, 2, 17, 18, 19, 20, 21, 22, 23, 24, 25, 26, 27, 28, 29, 30, 31, 32, 33, 34, 35, 36, 37, 38, 39, 40, 41, 42, 43, 44, 45, 46, 47, 48, 49, 50, 51, 52, 53, 54, 55, 56, 57, 58, 59, 60, 61] rfl (by decide +kernel)
set_option maxRecDepth 20000 in
theorem gX11_starts_X11_blanks : GoodIn wsX11_starts (wsV RX11 107 RX11 yX11_blanks wsX11_blanks) := goodIn_app (goodIn_r _ [8, 9, 10, 11] rfl (by decide +kernel)) ggX11_starts_X11_blanks
set_option maxRecDepth 20000 in
theorem ggX11_kindHere_X11_isWord : GoodIn wsX11_kindHere wsX11_isWord := goodIn_r _ [5, 6, 7, 8, 9, 4, 10, 11, 12, 13, 14, 15, 16, 17, 18, 19, 20, 21, 22, 23, 24, 25, 26, 27, 28, 29, 30, 31, 32, 33, 34, 35, 36, 37, 38, 39, 40, 41, 42, 43, 44, 45, 46, 47, 48, 49, 50, 51, 52, 53, 54, 55, 56, 57, 58, 59, 60, 61, 62, 63, 64, 65, 66, 67, 68, 69, 70, 71] rfl (by decide +kernel)
set_option maxRecDepth 20000 in
theorem gX11_kindHere_X11_isWord : GoodIn wsX11_kindHere (wsV RX11 134 RX11 yX11_isWord wsX11_isWord) := goodIn_app (goodIn_r _ [1, 2, 3, 4] rfl (by decide +kernel)) ggX11_kindHere_X11_isWord
set_option maxRecDepth 20000 in
theorem ggX11_clause_X11_kindHere : GoodIn wsX11_clause wsX11_kindHere := goodIn_r _ [12, 13, 14, 15, 11, 16, 4, 17, 18, 19, 20, 1, 21, 22, 23, 24, 25, 26, 27, 28, 29, 30, 31, 32, 33, 34, 35, 36, 61, 62, 63, 64, 65, 66, 67, 68, 69, 70, 71, 72, 73, 74, 75, 76, 77, 78, 79, 80, 81, 82, 83, 84, 85, 86, 87, 88, 89, 90, 91, 92, 93, 94, 95, 96, 97, 98, 99, 100, 101, 102, 103, 104] rfl (by decide +kernel)
set_option maxRecDepth 20000 in
theorem gX11_clause_X11_kindHere : GoodIn wsX11_clause (wsV RX11 147 RX11 yX11_kindHere wsX11_kindHere) := goodIn_app (goodIn_r _ [8, 9, 10, 11] rfl (by decide +kernel)) ggX11_clause_X11_kindHere
set_option maxRecDepth 20000 in
theorem ggX11_clause_X11_wrong : GoodIn wsX11_clause wsX11_wrong := goodIn_r _ [40, 4, 41, 61, 62, 63, 64, 65, 66, 67, 68, 69, 70, 71, 72, 73, 74, 75, 76, 77, 78, 79, 80, 81, 82, 83, 84, 85, 86, 87, 88, 89, 90, 91, 92, 93, 94, 95, 96, 97, 98, 99, 100, 101, 102, 103, 104] rfl (by decide +kernel)
set_option maxRecDepth 20000 in
theorem gX11_clause_X11_wrong : GoodIn wsX11_clause (wsV RX11 114 RX11 yX11_wrong wsX11_wrong) := goodIn_app (goodIn_r _ [37, 38, 39, 11] rfl (by decide +kernel)) ggX11_clause_X11_wrong
set_option maxRecDepth 20000 in
theorem ggX11_clause_X11_skipWord : GoodIn wsX11_clause wsX11_skipWord := goodIn_r _ [45, 1, 25, 26, 27, 11, 28, 29, 30, 31, 32, 33, 61, 62, 63, 64, 65, 66, 67, 68, 69, 70, 71, 72, 73, 74, 75, 76, 77, 78, 79, 80, 81, 82, 83, 84, 85, 86, 87, 88, 89, 90, 91, 92, 93, 94, 95, 96, 97, 98, 99, 100, 101, 102, 103, 104] rfl (by decide +kernel)
set_option maxRecDepth 20000 in
theorem gX11_clause_X11_skipWord : GoodIn wsX11_clause (wsV RX11 138 RX11 yX11_skipWord wsX11_skipWord) := goodIn_app (goodIn_r _ [42, 43, 44, 11] rfl (by decide +kernel)) ggX11_clause_X11_skipWord
set_option maxRecDepth 20000 in
theorem ggX11_clause_X11_number : GoodIn wsX11_clause wsX11_number := goodIn_r _ [49, 4, 1, 50, 21, 22, 23, 11, 24, 25, 26, 27, 28, 29, 30, 51, 52, 53, 37, 38, 39, 40, 41, 54, 55, 56, 61, 62, 63, 64, 65, 66, 67, 68, 69, 70, 71, 72, 73, 74, 75, 76, 77, 78, 79, 80, 81, 82, 83, 84, 85, 86, 87, 88, 89, 90, 91, 92, 93, 94, 95, 96, 97, 98, 99, 100, 101, 102, 103, 104] rfl (by decide +kernel)
set_option maxRecDepth 20000 in
theorem gX11_clause_X11_number : GoodIn wsX11_clause (wsV RX11 150 RX11 yX11_number wsX11_number) := goodIn_app (goodIn_r _ [46, 47, 48, 11] rfl (by decide +kernel)) ggX11_clause_X11_number
set_option maxRecDepth 20000 in
theorem ggX11_clause_X11_sign : GoodIn wsX11_clause wsX11_sign := goodIn_r _ [60, 4, 1, 21, 22, 23, 11, 24, 25, 26, 27, 28, 29, 30, 37, 38, 39, 40, 41, 61, 62, 63, 64, 65, 66, 67, 68, 69, 70, 71, 72, 73, 74, 75, 76, 77, 78, 79, 80, 81, 82, 83, 84, 85, 86, 87, 88, 89, 90, 91, 92, 93, 94, 95, 96, 97, 98, 99, 100, 101, 102, 103, 104] rfl (by decide +kernel)
set_option maxRecDepth 20000 in
theorem gX11_clause_X11_sign : GoodIn wsX11_clause (wsV RX11 154 RX11 yX11_sign wsX11_sign) := goodIn_app (goodIn_r _ [57, 58, 59, 11] rfl (by decide +kernel)) ggX11_clause_X11_sign
set_option maxRecDepth 20000 in
theorem ggX11_street_X11_in : GoodIn wsX11_street wsX11_in := goodIn_r _ [11] rfl (by decide +kernel)
set_option maxRecDepth 20000 in
theorem gX11_street_X11_in : GoodIn wsX11_street (va_wsS RX11 119 yX11_in wsX11_in) := goodIn_app (goodIn_r _ [8, 9, 10] rfl (by decide +kernel)) ggX11_street_X11_in
set_option maxRecDepth 20000 in
theorem ggX11_street_X11_bad : GoodIn wsX11_street wsX11_bad := goodIn_r _ [15, 1, 16, 103, 104, 105, 106, 107, 108, 109, 110, 111, 112, 113, 114, 115, 116, 117, 118, 119, 120, 121, 122, 123, 124, 125, 126, 127, 128, 129, 130, 131, 132, 133, 134, 135, 136, 137, 138, 139, 140, 141, 142, 143, 144, 145, 146] rfl (by decide +kernel)
set_option maxRecDepth 20000 in
theorem gX11_street_X11_bad : GoodIn wsX11_street (wsV RX11 158 RX11 yX11_bad wsX11_bad) := goodIn_app (goodIn_r _ [12, 13, 14, 10] rfl (by decide +kernel)) ggX11_street_X11_bad
set_option maxRecDepth 20000 in
theorem ggX11_street_X11_starts : GoodIn wsX11_street wsX11_starts := goodIn_r _ [20, 2, 5, 4, 3, 21, 22, 23, 24, 25, 26, 10, 27, 28, 29, 30, 31, 32, 103, 104, 105, 106, 107, 108, 109, 110, 111, 112, 113, 114, 115, 116, 117, 118, 119, 120, 121, 122, 123, 124, 125, 126, 127, 128, 129, 130, 131, 132, 133, 134, 135, 136, 137, 138, 139, 140, 141, 142, 143, 144, 145, 146] rfl (by decide +kernel)
set_option maxRecDepth 20000 in
theorem gX11_street_X11_starts : GoodIn wsX11_street (wsV RX11 162 RX11 yX11_starts wsX11_starts) := goodIn_app (goodIn_r _ [17, 18, 19, 10] rfl (by decide +kernel)) ggX11_street_X11_starts
set_option maxRecDepth 20000 in
theorem ggX11_street_X11_tellsNothing : GoodIn wsX11_street wsX11_tellsNothing := goodIn_r _ [36, 37, 103, 104, 105, 106, 107, 108, 109, 110, 111, 112, 113, 114, 115, 116, 117, 118, 119, 120, 121, 122, 123, 124, 125, 126, 127, 128, 129, 130, 131, 132, 133, 134, 135, 136, 137, 138, 139, 140, 141, 142, 143, 144, 145, 146] rfl (by decide +kernel)
set_option maxRecDepth 20000 in
theorem gX11_street_X11_tellsNothing : GoodIn wsX11_street (wsV RX11 79 RX11 yX11_tellsNothing wsX11_tellsNothing) := goodIn_app (goodIn_r _ [33, 34, 35, 10] rfl (by decide +kernel)) ggX11_street_X11_tellsNothing
set_option maxRecDepth 20000 in
theorem ggX11_street_X11_clause : GoodIn wsX11_street wsX11_clause := goodIn_r _ [41, 4, 22, 37, 3, 42, 43, 44, 45, 46, 47, 10, 48, 49, 50, 51, 52, 53, 54, 55, 56, 24, 25, 26, 27, 28, 29, 30, 31, 5, 32, 57, 58, 59, 60, 61, 62, 63, 64, 65, 66, 21, 67, 68, 69, 70, 71, 72, 73, 74, 75, 76, 77, 78, 8, 9, 11, 79, 80, 81, 82, 103, 104, 105, 106, 107, 108, 109, 110, 111, 112, 113, 114, 115, 116, 117, 118, 119, 120, 121, 122, 123, 124, 125, 126, 127, 128, 129, 130, 131, 132, 133, 134, 135, 136, 137, 138, 139, 140, 141, 142, 143, 144, 145, 146] rfl (by decide +kernel)
set_option maxRecDepth 20000 in
theorem gX11_street_X11_clause : GoodIn wsX11_street (wsV RX11 165 RX11 yX11_clause wsX11_clause) := goodIn_app (goodIn_r _ [38, 39, 40, 10] rfl (by decide +kernel)) ggX11_street_X11_clause
set_option maxRecDepth 20000 in
theorem ggX11_street_X11_blanks : GoodIn wsX11_street wsX11_blanks := goodIn_r _ [27, 4, 28, 29, 30, 10, 31, 5, 32, 103, 104, 105, 106, 107, 108, 109, 110, 111, 112, 113, 114, 115, 116, 117, 118, 119, 120, 121, 122, 123, 124, 125, 126, 127, 128, 129, 130, 131, 132, 133, 134, 135, 136, 137, 138, 139, 140, 141, 142, 143, 144, 145, 146] rfl (by decide +kernel)
set_option maxRecDepth 20000 in
theorem gX11_street_X11_blanks : GoodIn wsX11_street (wsV RX11 107 RX11 yX11_blanks wsX11_blanks) := goodIn_app (goodIn_r _ [24, 25, 26, 10] rfl (by decide +kernel)) ggX11_street_X11_blanks
set_option maxRecDepth 20000 in
theorem ggX11_street_X11_ends : GoodIn wsX11_street wsX11_ends := goodIn_r _ [86, 21, 6, 3, 103, 104, 105, 106, 107, 108, 109, 110, 111, 112, 113, 114, 115, 116, 117, 118, 119, 120, 121, 122, 123, 124, 125, 126, 127, 128, 129, 130, 131, 132, 133, 134, 135, 136, 137, 138, 139, 140, 141, 142, 143, 144, 145, 146] rfl (by decide +kernel)
set_option maxRecDepth 20000 in
theorem gX11_street_X11_ends : GoodIn wsX11_street (wsV RX11 168 RX11 yX11_ends wsX11_ends) := goodIn_app (goodIn_r _ [83, 84, 85, 10] rfl (by decide +kernel)) ggX11_street_X11_ends
set_option maxRecDepth 20000 in
theorem ggX11_street_X11_stands : GoodIn wsX11_street wsX11_stands := goodIn_r _ [90, 7, 37, 42, 91, 43, 92, 44, 93, 94, 95, 96, 97, 98, 99, 100, 101, 10, 102, 103, 104, 105, 106, 107, 108, 109, 110, 111, 112, 113, 114, 115, 116, 117, 118, 119, 120, 121, 122, 123, 124, 125, 126, 127, 128, 129, 130, 131, 132, 133, 134, 135, 136, 137, 138, 139, 140, 141, 142, 143, 144, 145, 146] rfl (by decide +kernel)
set_option maxRecDepth 20000 in
theorem gX11_street_X11_stands : GoodIn wsX11_street (wsV RX11 82 RX11 yX11_stands wsX11_stands) := goodIn_app (goodIn_r _ [87, 88, 89, 10] rfl (by decide +kernel)) ggX11_street_X11_stands
set_option maxRecDepth 20000 in
theorem ggX11_stands_X11_lays : GoodIn wsX11_stands wsX11_lays := goodIn_r _ [18] rfl (by decide +kernel)
set_option maxRecDepth 20000 in
theorem gX11_stands_X11_lays : GoodIn wsX11_stands (va_wsS RX11 171 yX11_lays wsX11_lays) := goodIn_app (goodIn_r _ [15, 16, 17] rfl (by decide +kernel)) ggX11_stands_X11_lays
set_option maxRecDepth 20000 in
theorem ggX11_opens_X11_wrong : GoodIn wsX11_opens wsX11_wrong := goodIn_r _ [8, 1, 9, 10, 11, 12, 13, 14, 15, 16, 17, 18, 19, 20, 21, 22, 23, 24, 25, 26, 27, 28, 29, 30, 31, 32, 33, 34, 35, 36, 37, 38, 39, 40, 41, 42, 43, 44, 45, 46, 47, 48, 49, 50, 51, 52, 53] rfl (by decide +kernel)
set_option maxRecDepth 20000 in
theorem gX11_opens_X11_wrong : GoodIn wsX11_opens (wsV RX11 114 RX11 yX11_wrong wsX11_wrong) := goodIn_app (goodIn_r _ [4, 5, 6, 7] rfl (by decide +kernel)) ggX11_opens_X11_wrong
set_option maxRecDepth 20000 in
theorem ggX11_sum_X11_product : GoodIn wsX11_sum wsX11_product := goodIn_r _ [82, 1, 83, 84, 85, 5, 6, 7, 8, 9, 10, 11, 12, 13, 14, 15, 16, 17, 18, 19, 20, 21, 22, 23, 24, 25, 26, 27, 28, 29, 30, 31, 32, 33, 34, 35, 36, 37, 38, 39, 40, 41, 42, 43, 44, 45, 46, 47, 48, 49, 50, 51, 52, 53, 54, 55, 56, 57, 58, 59, 60, 61, 62, 63, 64, 65, 66, 67, 68, 69, 70, 71, 72, 73, 74, 75, 76, 77, 78, 79, 80, 81, 0, 2, 3, 4, 86, 87, 88, 89, 90, 91, 92, 93, 94, 95, 96, 97, 98, 99, 100, 101, 102, 103, 104, 105, 106, 107, 108, 109, 110, 111, 112, 113, 114, 115, 116, 117, 118, 119, 120, 121, 122, 123, 124, 125, 126, 127, 128, 129] rfl (by decide +kernel)
set_option maxRecDepth 20000 in
theorem gX11_sum_X11_product : GoodIn wsX11_sum (wsV RX11 193 RX11 yX11_product wsX11_product) := goodIn_app (goodIn_r _ [2, 3, 4, 5] rfl (by decide +kernel)) ggX11_sum_X11_product
set_option maxRecDepth 20000 in
theorem ggX11_sum_X11_takesSign : GoodIn wsX11_sum wsX11_takesSign := goodIn_r _ [9, 1, 10, 11, 12, 13, 5, 14, 15, 16, 17, 18, 19, 20, 86, 87, 88, 89, 90, 91, 92, 93, 94, 95, 96, 97, 98, 99, 100, 101, 102, 103, 104, 105, 106, 107, 108, 109, 110, 111, 112, 113, 114, 115, 116, 117, 118, 119, 120, 121, 122, 123, 124, 125, 126, 127, 128, 129] rfl (by decide +kernel)
set_option maxRecDepth 20000 in
theorem gX11_sum_X11_takesSign : GoodIn wsX11_sum (wsV RX11 196 RX11 yX11_takesSign wsX11_takesSign) := goodIn_app (goodIn_r _ [6, 7, 8, 5] rfl (by decide +kernel)) ggX11_sum_X11_takesSign
set_option maxRecDepth 20000 in
theorem ggX11_sum_X11_notes : GoodIn wsX11_sum wsX11_notes := goodIn_r _ [24, 1, 25, 26, 86, 87, 88, 89, 90, 91, 92, 93, 94, 95, 96, 97, 98, 99, 100, 101, 102, 103, 104, 105, 106, 107, 108, 109, 110, 111, 112, 113, 114, 115, 116, 117, 118, 119, 120, 121, 122, 123, 124, 125, 126, 127, 128, 129] rfl (by decide +kernel)
set_option maxRecDepth 20000 in
theorem gX11_sum_X11_notes : GoodIn wsX11_sum (wsV RX11 199 RX11 yX11_notes wsX11_notes) := goodIn_app (goodIn_r _ [21, 22, 23, 5] rfl (by decide +kernel)) ggX11_sum_X11_notes
set_option maxRecDepth 20000 in
theorem ggX11_product_X11_one : GoodIn wsX11_product wsX11_one := goodIn_r _ [27, 1, 28, 10, 11, 12, 13, 5, 14, 15, 16, 17, 18, 19, 20, 29, 30, 31, 32, 33, 34, 35, 36, 37, 38, 39, 40, 41, 42, 43, 44, 45, 46, 47, 48, 49, 50, 51, 52, 53, 54, 55, 56, 57, 58, 59, 60, 61, 62, 21, 22, 23, 24, 25, 26, 63, 64, 65, 66, 67, 68, 69, 70, 71, 72, 73, 74, 75, 76, 77, 78, 79, 80, 81, 0, 2, 3, 4, 6, 7, 8, 9, 82, 83, 84, 85, 86, 87, 88, 89, 90, 91, 92, 93, 94, 95, 96, 97, 98, 99, 100, 101, 102, 103, 104, 105, 106, 107, 108, 109, 110, 111, 112, 113, 114, 115, 116, 117, 118, 119, 120, 121, 122, 123, 124, 125, 126, 127, 128, 129] rfl (by decide +kernel)
set_option maxRecDepth 20000 in
theorem gX11_product_X11_one : GoodIn wsX11_product (wsV RX11 202 RX11 yX11_one wsX11_one) := goodIn_app (goodIn_r _ [2, 3, 4, 5] rfl (by decide +kernel)) ggX11_product_X11_one
set_option maxRecDepth 20000 in
theorem ggX11_product_X11_takesSign : GoodIn wsX11_product wsX11_takesSign := goodIn_r _ [9, 1, 10, 11, 12, 13, 5, 14, 15, 16, 17, 18, 19, 20, 86, 87, 88, 89, 90, 91, 92, 93, 94, 95, 96, 97, 98, 99, 100, 101, 102, 103, 104, 105, 106, 107, 108, 109, 110, 111, 112, 113, 114, 115, 116, 117, 118, 119, 120, 121, 122, 123, 124, 125, 126, 127, 128, 129] rfl (by decide +kernel)
set_option maxRecDepth 20000 in
theorem gX11_product_X11_takesSign : GoodIn wsX11_product (wsV RX11 196 RX11 yX11_takesSign wsX11_takesSign) := goodIn_app (goodIn_r _ [6, 7, 8, 5] rfl (by decide +kernel)) ggX11_product_X11_takesSign
set_option maxRecDepth 20000 in
theorem ggX11_product_X11_notes : GoodIn wsX11_product wsX11_notes := goodIn_r _ [24, 1, 25, 26, 86, 87, 88, 89, 90, 91, 92, 93, 94, 95, 96, 97, 98, 99, 100, 101, 102, 103, 104, 105, 106, 107, 108, 109, 110, 111, 112, 113, 114, 115, 116, 117, 118, 119, 120, 121, 122, 123, 124, 125, 126, 127, 128, 129] rfl (by decide +kernel)
set_option maxRecDepth 20000 in
theorem gX11_product_X11_notes : GoodIn wsX11_product (wsV RX11 199 RX11 yX11_notes wsX11_notes) := goodIn_app (goodIn_r _ [21, 22, 23, 5] rfl (by decide +kernel)) ggX11_product_X11_notes
set_option maxRecDepth 20000 in
theorem ggX11_knownHere_X11_takes : GoodIn wsX11_knownHere wsX11_takes := goodIn_r _ [5, 6, 7, 8, 4, 9, 10, 11, 12, 13, 14, 15, 16, 17, 18, 19, 20, 21, 22, 23, 24, 25, 26, 27, 28, 29, 30, 31, 32, 33, 34, 35, 36, 37, 38, 39, 40, 41, 42, 43, 44, 45, 46, 47, 48, 49, 50, 51, 52, 53, 54, 55, 56, 57, 58, 59, 60, 61, 62, 63, 64, 65, 66, 67, 68, 69, 70, 71, 72, 73, 74, 75, 76, 77, 78, 79] rfl (by decide +kernel)
set_option maxRecDepth 20000 in
theorem gX11_knownHere_X11_takes : GoodIn wsX11_knownHere (wsV RX11 205 RX11 yX11_takes wsX11_takes) := goodIn_app (goodIn_r _ [1, 2, 3, 4] rfl (by decide +kernel)) ggX11_knownHere_X11_takes
set_option maxRecDepth 20000 in
theorem ggX11_one_X11_blanks : GoodIn wsX11_one wsX11_blanks := goodIn_r _ [8, 3, 9, 10, 11, 7, 12, 13, 14, 86, 87, 88, 89, 90, 91, 92, 93, 94, 95, 96, 97, 98, 99, 100, 101, 102, 103, 104, 105, 106, 107, 108, 109, 110, 111, 112, 113, 114, 115, 116, 117, 118, 119, 120, 121, 122, 123, 124, 125, 126, 127, 128, 129] rfl (by decide +kernel)
set_option maxRecDepth 20000 in
theorem gX11_one_X11_blanks : GoodIn wsX11_one (wsV RX11 107 RX11 yX11_blanks wsX11_blanks) := goodIn_app (goodIn_r _ [4, 5, 6, 7] rfl (by decide +kernel)) ggX11_one_X11_blanks
set_option maxRecDepth 20000 in
theorem ggX11_one_X11_isWord : GoodIn wsX11_one wsX11_isWord := goodIn_r _ [18, 1, 19, 20, 21, 7, 22, 3, 4, 5, 6, 8, 9, 10, 11, 12, 13, 14, 23, 24, 25, 26, 27, 28, 86, 87, 88, 89, 90, 91, 92, 93, 94, 95, 96, 97, 98, 99, 100, 101, 102, 103, 104, 105, 106, 107, 108, 109, 110, 111, 112, 113, 114, 115, 116, 117, 118, 119, 120, 121, 122, 123, 124, 125, 126, 127, 128, 129] rfl (by decide +kernel)
set_option maxRecDepth 20000 in
theorem gX11_one_X11_isWord : GoodIn wsX11_one (wsV RX11 134 RX11 yX11_isWord wsX11_isWord) := goodIn_app (goodIn_r _ [15, 16, 17, 7] rfl (by decide +kernel)) ggX11_one_X11_isWord
set_option maxRecDepth 20000 in
theorem ggX11_one_X11_opens : GoodIn wsX11_one wsX11_opens := goodIn_r _ [32, 1, 2, 3, 33, 34, 35, 7, 36, 37, 86, 87, 88, 89, 90, 91, 92, 93, 94, 95, 96, 97, 98, 99, 100, 101, 102, 103, 104, 105, 106, 107, 108, 109, 110, 111, 112, 113, 114, 115, 116, 117, 118, 119, 120, 121, 122, 123, 124, 125, 126, 127, 128, 129] rfl (by decide +kernel)
set_option maxRecDepth 20000 in
theorem gX11_one_X11_opens : GoodIn wsX11_one (wsV RX11 208 RX11 yX11_opens wsX11_opens) := goodIn_app (goodIn_r _ [29, 30, 31, 7] rfl (by decide +kernel)) ggX11_one_X11_opens
set_option maxRecDepth 20000 in
theorem ggX11_one_X11_skipWord : GoodIn wsX11_one wsX11_skipWord := goodIn_r _ [41, 3, 9, 10, 11, 7, 12, 13, 14, 23, 24, 25, 86, 87, 88, 89, 90, 91, 92, 93, 94, 95, 96, 97, 98, 99, 100, 101, 102, 103, 104, 105, 106, 107, 108, 109, 110, 111, 112, 113, 114, 115, 116, 117, 118, 119, 120, 121, 122, 123, 124, 125, 126, 127, 128, 129] rfl (by decide +kernel)
set_option maxRecDepth 20000 in
theorem gX11_one_X11_skipWord : GoodIn wsX11_one (wsV RX11 138 RX11 yX11_skipWord wsX11_skipWord) := goodIn_app (goodIn_r _ [38, 39, 40, 7] rfl (by decide +kernel)) ggX11_one_X11_skipWord
set_option maxRecDepth 20000 in
theorem ggX11_one_X11_sign : GoodIn wsX11_one wsX11_sign := goodIn_r _ [45, 1, 3, 4, 5, 6, 7, 8, 9, 10, 11, 12, 13, 14, 33, 34, 35, 36, 37, 86, 87, 88, 89, 90, 91, 92, 93, 94, 95, 96, 97, 98, 99, 100, 101, 102, 103, 104, 105, 106, 107, 108, 109, 110, 111, 112, 113, 114, 115, 116, 117, 118, 119, 120, 121, 122, 123, 124, 125, 126, 127, 128, 129] rfl (by decide +kernel)
set_option maxRecDepth 20000 in
theorem gX11_one_X11_sign : GoodIn wsX11_one (wsV RX11 154 RX11 yX11_sign wsX11_sign) := goodIn_app (goodIn_r _ [42, 43, 44, 7] rfl (by decide +kernel)) ggX11_one_X11_sign
set_option maxRecDepth 20000 in
theorem ggX11_one_X11_sum : GoodIn wsX11_one wsX11_sum := goodIn_r _ [82, 1, 83, 84, 85, 7, 78, 79, 80, 81, 3, 4, 5, 6, 8, 9, 10, 11, 12, 13, 14, 49, 50, 51, 52, 53, 54, 0, 2, 15, 16, 17, 18, 19, 20, 21, 22, 23, 24, 25, 26, 27, 28, 29, 30, 31, 32, 33, 34, 35, 36, 37, 38, 39, 40, 41, 42, 43, 44, 45, 46, 47, 48, 55, 56, 57, 58, 59, 60, 61, 62, 63, 64, 65, 66, 67, 68, 69, 70, 71, 72, 73, 74, 75, 76, 77, 86, 87, 88, 89, 90, 91, 92, 93, 94, 95, 96, 97, 98, 99, 100, 101, 102, 103, 104, 105, 106, 107, 108, 109, 110, 111, 112, 113, 114, 115, 116, 117, 118, 119, 120, 121, 122, 123, 124, 125, 126, 127, 128, 129] rfl (by decide +kernel)
set_option maxRecDepth 20000 in
theorem gX11_one_X11_sum : GoodIn wsX11_one (wsV RX11 212 RX11 yX11_sum wsX11_sum) := goodIn_app (goodIn_r _ [46, 47, 48, 7] rfl (by decide +kernel)) ggX11_one_X11_sum
set_option maxRecDepth 20000 in
theorem ggX11_one_X11_notes : GoodIn wsX11_one wsX11_notes := goodIn_r _ [52, 1, 53, 54, 86, 87, 88, 89, 90, 91, 92, 93, 94, 95, 96, 97, 98, 99, 100, 101, 102, 103, 104, 105, 106, 107, 108, 109, 110, 111, 112, 113, 114, 115, 116, 117, 118, 119, 120, 121, 122, 123, 124, 125, 126, 127, 128, 129] rfl (by decide +kernel)
set_option maxRecDepth 20000 in
theorem gX11_one_X11_notes : GoodIn wsX11_one (wsV RX11 199 RX11 yX11_notes wsX11_notes) := goodIn_app (goodIn_r _ [49, 50, 51, 7] rfl (by decide +kernel)) ggX11_one_X11_notes
set_option maxRecDepth 20000 in
theorem ggX11_one_X11_byteAt : GoodIn wsX11_one wsX11_byteAt := goodIn_r _ [12, 13, 14, 86, 87, 88, 89, 90, 91, 92, 93, 94, 95, 96, 97, 98, 99, 100, 101, 102, 103, 104, 105, 106, 107, 108, 109, 110, 111, 112, 113, 114, 115, 116, 117, 118, 119, 120, 121, 122, 123, 124, 125, 126, 127, 128, 129] rfl (by decide +kernel)
set_option maxRecDepth 20000 in
theorem gX11_one_X11_byteAt : GoodIn wsX11_one (wsV RX11 97 RX11 yX11_byteAt wsX11_byteAt) := goodIn_app (goodIn_r _ [9, 10, 11, 7] rfl (by decide +kernel)) ggX11_one_X11_byteAt
set_option maxRecDepth 20000 in
theorem ggX11_one_X11_knownHere : GoodIn wsX11_one wsX11_knownHere := goodIn_r _ [58, 59, 60, 61, 7, 62, 15, 16, 17, 18, 1, 19, 20, 21, 22, 3, 4, 5, 6, 8, 9, 10, 11, 12, 13, 14, 23, 24, 25, 26, 27, 28, 38, 39, 40, 41, 86, 87, 88, 89, 90, 91, 92, 93, 94, 95, 96, 97, 98, 99, 100, 101, 102, 103, 104, 105, 106, 107, 108, 109, 110, 111, 112, 113, 114, 115, 116, 117, 118, 119, 120, 121, 122, 123, 124, 125, 126, 127, 128, 129] rfl (by decide +kernel)
set_option maxRecDepth 20000 in
theorem gX11_one_X11_knownHere : GoodIn wsX11_one (wsV RX11 215 RX11 yX11_knownHere wsX11_knownHere) := goodIn_app (goodIn_r _ [55, 56, 57, 7] rfl (by decide +kernel)) ggX11_one_X11_knownHere
set_option maxRecDepth 20000 in
theorem ggX11_one_X11_number : GoodIn wsX11_one wsX11_number := goodIn_r _ [66, 1, 3, 67, 4, 5, 6, 7, 8, 9, 10, 11, 12, 13, 14, 68, 69, 70, 33, 34, 35, 36, 37, 71, 72, 73, 86, 87, 88, 89, 90, 91, 92, 93, 94, 95, 96, 97, 98, 99, 100, 101, 102, 103, 104, 105, 106, 107, 108, 109, 110, 111, 112, 113, 114, 115, 116, 117, 118, 119, 120, 121, 122, 123, 124, 125, 126, 127, 128, 129] rfl (by decide +kernel)
set_option maxRecDepth 20000 in
theorem gX11_one_X11_number : GoodIn wsX11_one (wsV RX11 150 RX11 yX11_number wsX11_number) := goodIn_app (goodIn_r _ [63, 64, 65, 7] rfl (by decide +kernel)) ggX11_one_X11_number
set_option maxRecDepth 20000 in
theorem ggX11_law_X11_in : GoodIn wsX11_law wsX11_in := goodIn_r _ [14] rfl (by decide +kernel)
set_option maxRecDepth 20000 in
theorem gX11_law_X11_in : GoodIn wsX11_law (va_wsS RX11 119 yX11_in wsX11_in) := goodIn_app (goodIn_r _ [11, 12, 13] rfl (by decide +kernel)) ggX11_law_X11_in
set_option maxRecDepth 20000 in
theorem ggX11_law_X11_bad : GoodIn wsX11_law wsX11_bad := goodIn_r _ [18, 1, 19, 109, 110, 111, 112, 113, 114, 115, 116, 117, 118, 119, 120, 121, 122, 123, 124, 125, 126, 127, 128, 129, 130, 131, 132, 133, 134, 135, 136, 137, 138, 139, 140, 141, 142, 143, 144, 145, 146, 147, 148, 149, 150, 151, 152] rfl (by decide +kernel)
set_option maxRecDepth 20000 in
theorem gX11_law_X11_bad : GoodIn wsX11_law (wsV RX11 158 RX11 yX11_bad wsX11_bad) := goodIn_app (goodIn_r _ [15, 16, 17, 13] rfl (by decide +kernel)) ggX11_law_X11_bad
set_option maxRecDepth 20000 in
theorem ggX11_law_X11_starts : GoodIn wsX11_law wsX11_starts := goodIn_r _ [23, 2, 6, 5, 4, 24, 25, 26, 27, 28, 29, 13, 30, 31, 32, 33, 34, 35, 109, 110, 111, 112, 113, 114, 115, 116, 117, 118, 119, 120, 121, 122, 123, 124, 125, 126, 127, 128, 129, 130, 131, 132, 133, 134, 135, 136, 137, 138, 139, 140, 141, 142, 143, 144, 145, 146, 147, 148, 149, 150, 151, 152] rfl (by decide +kernel)
set_option maxRecDepth 20000 in
theorem gX11_law_X11_starts : GoodIn wsX11_law (wsV RX11 162 RX11 yX11_starts wsX11_starts) := goodIn_app (goodIn_r _ [20, 21, 22, 13] rfl (by decide +kernel)) ggX11_law_X11_starts
set_option maxRecDepth 20000 in
theorem ggX11_law_X11_sum : GoodIn wsX11_law wsX11_sum := goodIn_r _ [39, 4, 40, 41, 42, 13, 43, 44, 45, 46, 5, 27, 28, 29, 30, 31, 32, 33, 34, 6, 35, 47, 48, 49, 50, 9, 3, 51, 26, 52, 53, 54, 55, 56, 57, 58, 59, 60, 61, 62, 63, 64, 65, 66, 67, 68, 69, 70, 71, 72, 73, 24, 74, 75, 76, 77, 78, 79, 80, 81, 36, 37, 38, 82, 83, 84, 85, 86, 87, 88, 89, 90, 91, 92, 93, 94, 95, 96, 97, 11, 12, 14, 98, 99, 100, 101, 109, 110, 111, 112, 113, 114, 115, 116, 117, 118, 119, 120, 121, 122, 123, 124, 125, 126, 127, 128, 129, 130, 131, 132, 133, 134, 135, 136, 137, 138, 139, 140, 141, 142, 143, 144, 145, 146, 147, 148, 149, 150, 151, 152] rfl (by decide +kernel)
set_option maxRecDepth 20000 in
theorem gX11_law_X11_sum : GoodIn wsX11_law (wsV RX11 212 RX11 yX11_sum wsX11_sum) := goodIn_app (goodIn_r _ [36, 37, 38, 13] rfl (by decide +kernel)) ggX11_law_X11_sum
set_option maxRecDepth 20000 in
theorem ggX11_law_X11_blanks : GoodIn wsX11_law wsX11_blanks := goodIn_r _ [30, 5, 31, 32, 33, 13, 34, 6, 35, 109, 110, 111, 112, 113, 114, 115, 116, 117, 118, 119, 120, 121, 122, 123, 124, 125, 126, 127, 128, 129, 130, 131, 132, 133, 134, 135, 136, 137, 138, 139, 140, 141, 142, 143, 144, 145, 146, 147, 148, 149, 150, 151, 152] rfl (by decide +kernel)
set_option maxRecDepth 20000 in
theorem gX11_law_X11_blanks : GoodIn wsX11_law (wsV RX11 107 RX11 yX11_blanks wsX11_blanks) := goodIn_app (goodIn_r _ [27, 28, 29, 13] rfl (by decide +kernel)) ggX11_law_X11_blanks
set_option maxRecDepth 20000 in
theorem ggX11_law_X11_wrong : GoodIn wsX11_law wsX11_wrong := goodIn_r _ [73, 4, 24, 109, 110, 111, 112, 113, 114, 115, 116, 117, 118, 119, 120, 121, 122, 123, 124, 125, 126, 127, 128, 129, 130, 131, 132, 133, 134, 135, 136, 137, 138, 139, 140, 141, 142, 143, 144, 145, 146, 147, 148, 149, 150, 151, 152] rfl (by decide +kernel)
set_option maxRecDepth 20000 in
theorem gX11_law_X11_wrong : GoodIn wsX11_law (wsV RX11 114 RX11 yX11_wrong wsX11_wrong) := goodIn_app (goodIn_r _ [70, 71, 72, 13] rfl (by decide +kernel)) ggX11_law_X11_wrong
set_option maxRecDepth 20000 in
theorem ggX11_law_X11_ends : GoodIn wsX11_law wsX11_ends := goodIn_r _ [105, 24, 7, 4, 109, 110, 111, 112, 113, 114, 115, 116, 117, 118, 119, 120, 121, 122, 123, 124, 125, 126, 127, 128, 129, 130, 131, 132, 133, 134, 135, 136, 137, 138, 139, 140, 141, 142, 143, 144, 145, 146, 147, 148, 149, 150, 151, 152] rfl (by decide +kernel)
set_option maxRecDepth 20000 in
theorem gX11_law_X11_ends : GoodIn wsX11_law (wsV RX11 168 RX11 yX11_ends wsX11_ends) := goodIn_app (goodIn_r _ [102, 103, 104, 13] rfl (by decide +kernel)) ggX11_law_X11_ends
set_option maxRecDepth 20000 in
theorem ggX11_law_X11_lays : GoodIn wsX11_law wsX11_lays := goodIn_r _ [108] rfl (by decide +kernel)
set_option maxRecDepth 20000 in
theorem gX11_law_X11_lays : GoodIn wsX11_law (va_wsS RX11 171 yX11_lays wsX11_lays) := goodIn_app (goodIn_r _ [106, 107, 13] rfl (by decide +kernel)) ggX11_law_X11_lays
set_option maxRecDepth 20000 in
theorem ggX11_worked_X11_less : GoodIn wsX11_worked wsX11_less := goodIn_r _ [4] rfl (by decide +kernel)
set_option maxRecDepth 20000 in
theorem gX11_worked_X11_less : GoodIn wsX11_worked (va_wsS RX11 218 yX11_less wsX11_less) := goodIn_app (goodIn_r _ [1, 2, 3] rfl (by decide +kernel)) ggX11_worked_X11_less
set_option maxRecDepth 20000 in
theorem ggX11_worked_X11_more : GoodIn wsX11_worked wsX11_more := goodIn_r _ [7] rfl (by decide +kernel)
set_option maxRecDepth 20000 in
theorem gX11_worked_X11_more : GoodIn wsX11_worked (va_wsS RX11 221 yX11_more wsX11_more) := goodIn_app (goodIn_r _ [5, 6, 3] rfl (by decide +kernel)) ggX11_worked_X11_more
set_option maxRecDepth 20000 in
theorem ggX11_byLaw_X11_worked : GoodIn wsX11_byLaw wsX11_worked := goodIn_r _ [8, 9, 10, 7, 11, 12, 13, 14] rfl (by decide +kernel)
set_option maxRecDepth 20000 in
theorem gX11_byLaw_X11_worked : GoodIn wsX11_byLaw (va_wsS RX11 224 yX11_worked wsX11_worked) := goodIn_app (goodIn_r _ [5, 6, 7] rfl (by decide +kernel)) ggX11_byLaw_X11_worked
set_option maxRecDepth 20000 in
theorem ggX11_stepHere_X11_isWord : GoodIn wsX11_stepHere wsX11_isWord := goodIn_r _ [5, 6, 7, 8, 9, 4, 10, 11, 12, 13, 14, 15, 16, 17, 18, 19, 20, 21, 22, 23, 24, 25, 26, 27, 28, 29, 30, 31, 32, 33, 34, 35, 36, 37, 38, 39, 40, 41, 42, 43, 44, 45, 46, 47, 48, 49, 50, 51, 52, 53, 54, 55, 56, 57, 58, 59, 60, 61, 62, 63, 64, 65, 66, 67, 68, 69, 70, 71] rfl (by decide +kernel)
set_option maxRecDepth 20000 in
theorem gX11_stepHere_X11_isWord : GoodIn wsX11_stepHere (wsV RX11 134 RX11 yX11_isWord wsX11_isWord) := goodIn_app (goodIn_r _ [1, 2, 3, 4] rfl (by decide +kernel)) ggX11_stepHere_X11_isWord
set_option maxRecDepth 20000 in
theorem ggX11_readsStep_X11_stepHere : GoodIn wsX11_readsStep wsX11_stepHere := goodIn_r _ [12, 13, 14, 15, 11, 16, 2, 17, 18, 19, 20, 1, 21, 22, 23, 24, 25, 26, 27, 28, 29, 30, 31, 32, 33, 34, 35, 36, 68, 69, 70, 71, 72, 73, 74, 75, 76, 77, 78, 79, 80, 81, 82, 83, 84, 85, 86, 87, 88, 89, 90, 91, 92, 93, 94, 95, 96, 97, 98, 99, 100, 101, 102, 103, 104, 105, 106, 107, 108, 109, 110, 111] rfl (by decide +kernel)
set_option maxRecDepth 20000 in
theorem gX11_readsStep_X11_stepHere : GoodIn wsX11_readsStep (wsV RX11 228 RX11 yX11_stepHere wsX11_stepHere) := goodIn_app (goodIn_r _ [8, 9, 10, 11] rfl (by decide +kernel)) ggX11_readsStep_X11_stepHere
set_option maxRecDepth 20000 in
theorem ggX11_readsStep_X11_wrong : GoodIn wsX11_readsStep wsX11_wrong := goodIn_r _ [40, 2, 41, 68, 69, 70, 71, 72, 73, 74, 75, 76, 77, 78, 79, 80, 81, 82, 83, 84, 85, 86, 87, 88, 89, 90, 91, 92, 93, 94, 95, 96, 97, 98, 99, 100, 101, 102, 103, 104, 105, 106, 107, 108, 109, 110, 111] rfl (by decide +kernel)
set_option maxRecDepth 20000 in
theorem gX11_readsStep_X11_wrong : GoodIn wsX11_readsStep (wsV RX11 114 RX11 yX11_wrong wsX11_wrong) := goodIn_app (goodIn_r _ [37, 38, 39, 11] rfl (by decide +kernel)) ggX11_readsStep_X11_wrong
set_option maxRecDepth 20000 in
theorem ggX11_readsStep_X11_opens : GoodIn wsX11_readsStep wsX11_opens := goodIn_r _ [45, 2, 7, 1, 37, 38, 39, 11, 40, 41, 68, 69, 70, 71, 72, 73, 74, 75, 76, 77, 78, 79, 80, 81, 82, 83, 84, 85, 86, 87, 88, 89, 90, 91, 92, 93, 94, 95, 96, 97, 98, 99, 100, 101, 102, 103, 104, 105, 106, 107, 108, 109, 110, 111] rfl (by decide +kernel)
set_option maxRecDepth 20000 in
theorem gX11_readsStep_X11_opens : GoodIn wsX11_readsStep (wsV RX11 208 RX11 yX11_opens wsX11_opens) := goodIn_app (goodIn_r _ [42, 43, 44, 11] rfl (by decide +kernel)) ggX11_readsStep_X11_opens
set_option maxRecDepth 20000 in
theorem ggX11_readsStep_X11_skipWord : GoodIn wsX11_readsStep wsX11_skipWord := goodIn_r _ [49, 1, 25, 26, 27, 11, 28, 29, 30, 31, 32, 33, 68, 69, 70, 71, 72, 73, 74, 75, 76, 77, 78, 79, 80, 81, 82, 83, 84, 85, 86, 87, 88, 89, 90, 91, 92, 93, 94, 95, 96, 97, 98, 99, 100, 101, 102, 103, 104, 105, 106, 107, 108, 109, 110, 111] rfl (by decide +kernel)
set_option maxRecDepth 20000 in
theorem gX11_readsStep_X11_skipWord : GoodIn wsX11_readsStep (wsV RX11 138 RX11 yX11_skipWord wsX11_skipWord) := goodIn_app (goodIn_r _ [46, 47, 48, 11] rfl (by decide +kernel)) ggX11_readsStep_X11_skipWord
set_option maxRecDepth 20000 in
theorem ggX11_readsStep_X11_number : GoodIn wsX11_readsStep wsX11_number := goodIn_r _ [53, 2, 1, 54, 21, 22, 23, 11, 24, 25, 26, 27, 28, 29, 30, 55, 56, 57, 37, 38, 39, 40, 41, 58, 59, 60, 68, 69, 70, 71, 72, 73, 74, 75, 76, 77, 78, 79, 80, 81, 82, 83, 84, 85, 86, 87, 88, 89, 90, 91, 92, 93, 94, 95, 96, 97, 98, 99, 100, 101, 102, 103, 104, 105, 106, 107, 108, 109, 110, 111] rfl (by decide +kernel)
set_option maxRecDepth 20000 in
theorem gX11_readsStep_X11_number : GoodIn wsX11_readsStep (wsV RX11 150 RX11 yX11_number wsX11_number) := goodIn_app (goodIn_r _ [50, 51, 52, 11] rfl (by decide +kernel)) ggX11_readsStep_X11_number
set_option maxRecDepth 20000 in
theorem ggX11_readsStep_X11_sign : GoodIn wsX11_readsStep wsX11_sign := goodIn_r _ [64, 2, 1, 21, 22, 23, 11, 24, 25, 26, 27, 28, 29, 30, 37, 38, 39, 40, 41, 68, 69, 70, 71, 72, 73, 74, 75, 76, 77, 78, 79, 80, 81, 82, 83, 84, 85, 86, 87, 88, 89, 90, 91, 92, 93, 94, 95, 96, 97, 98, 99, 100, 101, 102, 103, 104, 105, 106, 107, 108, 109, 110, 111] rfl (by decide +kernel)
set_option maxRecDepth 20000 in
theorem gX11_readsStep_X11_sign : GoodIn wsX11_readsStep (wsV RX11 154 RX11 yX11_sign wsX11_sign) := goodIn_app (goodIn_r _ [61, 62, 63, 11] rfl (by decide +kernel)) ggX11_readsStep_X11_sign
set_option maxRecDepth 20000 in
theorem ggX11_readsStep_X11_blanks : GoodIn wsX11_readsStep wsX11_blanks := goodIn_r _ [24, 1, 25, 26, 27, 11, 28, 29, 30, 68, 69, 70, 71, 72, 73, 74, 75, 76, 77, 78, 79, 80, 81, 82, 83, 84, 85, 86, 87, 88, 89, 90, 91, 92, 93, 94, 95, 96, 97, 98, 99, 100, 101, 102, 103, 104, 105, 106, 107, 108, 109, 110, 111] rfl (by decide +kernel)
set_option maxRecDepth 20000 in
theorem gX11_readsStep_X11_blanks : GoodIn wsX11_readsStep (wsV RX11 107 RX11 yX11_blanks wsX11_blanks) := goodIn_app (goodIn_r _ [21, 22, 23, 11] rfl (by decide +kernel)) ggX11_readsStep_X11_blanks
set_option maxRecDepth 20000 in
theorem ggX11_readsStep_X11_byteAt : GoodIn wsX11_readsStep wsX11_byteAt := goodIn_r _ [28, 29, 30, 68, 69, 70, 71, 72, 73, 74, 75, 76, 77, 78, 79, 80, 81, 82, 83, 84, 85, 86, 87, 88, 89, 90, 91, 92, 93, 94, 95, 96, 97, 98, 99, 100, 101, 102, 103, 104, 105, 106, 107, 108, 109, 110, 111] rfl (by decide +kernel)
set_option maxRecDepth 20000 in
theorem gX11_readsStep_X11_byteAt : GoodIn wsX11_readsStep (wsV RX11 97 RX11 yX11_byteAt wsX11_byteAt) := goodIn_app (goodIn_r _ [25, 26, 27, 11] rfl (by decide +kernel)) ggX11_readsStep_X11_byteAt
set_option maxRecDepth 20000 in
theorem ggX11_readsStep_X11_readsStep : GoodIn wsX11_readsStep wsX11_readsStep := goodIn_r _ [0, 1, 2, 3, 4, 5, 6, 7, 8, 9, 10, 11, 12, 13, 14, 15, 16, 17, 18, 19, 20, 21, 22, 23, 24, 25, 26, 27, 28, 29, 30, 31, 32, 33, 34, 35, 36, 37, 38, 39, 40, 41, 42, 43, 44, 45, 46, 47, 48, 49, 50, 51, 52, 53, 54, 55, 56, 57, 58, 59, 60, 61, 62, 63, 64, 65, 66, 67, 68, 69, 70, 71, 72, 73, 74, 75, 76, 77, 78, 79, 80, 81, 82, 83, 84, 85, 86, 87, 88, 89, 90, 91, 92, 93, 94, 95, 96, 97, 98, 99, 100, 101, 102, 103, 104, 105, 106, 107, 108, 109, 110, 111] rfl (by decide +kernel)
set_option maxRecDepth 20000 in
theorem gX11_readsStep_X11_readsStep : GoodIn wsX11_readsStep (wsV RX11 234 RX11 yX11_readsStep wsX11_readsStep) := goodIn_app (goodIn_r _ [65, 66, 67, 11] rfl (by decide +kernel)) ggX11_readsStep_X11_readsStep
set_option maxRecDepth 20000 in
theorem ggX11_book_X11_in : GoodIn wsX11_book wsX11_in := goodIn_r _ [13] rfl (by decide +kernel)
set_option maxRecDepth 20000 in
theorem gX11_book_X11_in : GoodIn wsX11_book (va_wsS RX11 119 yX11_in wsX11_in) := goodIn_app (goodIn_r _ [10, 11, 12] rfl (by decide +kernel)) ggX11_book_X11_in
set_option maxRecDepth 20000 in
theorem ggX11_book_X11_bad : GoodIn wsX11_book wsX11_bad := goodIn_r _ [17, 1, 18, 58, 59, 60, 61, 62, 63, 64, 65, 66, 67, 68, 69, 70, 71, 72, 73, 74, 75, 76, 77, 78, 79, 80, 81, 82, 83, 84, 85, 86, 87, 88, 89, 90, 91, 92, 93, 94, 95, 96, 97, 98, 99, 100, 101] rfl (by decide +kernel)
set_option maxRecDepth 20000 in
theorem gX11_book_X11_bad : GoodIn wsX11_book (wsV RX11 158 RX11 yX11_bad wsX11_bad) := goodIn_app (goodIn_r _ [14, 15, 16, 12] rfl (by decide +kernel)) ggX11_book_X11_bad
set_option maxRecDepth 20000 in
theorem ggX11_book_X11_starts : GoodIn wsX11_book wsX11_starts := goodIn_r _ [22, 2, 5, 4, 3, 23, 24, 25, 26, 27, 28, 12, 29, 30, 31, 32, 33, 34, 58, 59, 60, 61, 62, 63, 64, 65, 66, 67, 68, 69, 70, 71, 72, 73, 74, 75, 76, 77, 78, 79, 80, 81, 82, 83, 84, 85, 86, 87, 88, 89, 90, 91, 92, 93, 94, 95, 96, 97, 98, 99, 100, 101] rfl (by decide +kernel)
set_option maxRecDepth 20000 in
theorem gX11_book_X11_starts : GoodIn wsX11_book (wsV RX11 162 RX11 yX11_starts wsX11_starts) := goodIn_app (goodIn_r _ [19, 20, 21, 12] rfl (by decide +kernel)) ggX11_book_X11_starts
set_option maxRecDepth 20000 in
theorem ggX11_book_X11_number : GoodIn wsX11_book wsX11_number := goodIn_r _ [38, 3, 4, 39, 26, 27, 28, 12, 29, 30, 31, 32, 33, 5, 34, 40, 41, 42, 43, 44, 45, 46, 23, 10, 11, 13, 58, 59, 60, 61, 62, 63, 64, 65, 66, 67, 68, 69, 70, 71, 72, 73, 74, 75, 76, 77, 78, 79, 80, 81, 82, 83, 84, 85, 86, 87, 88, 89, 90, 91, 92, 93, 94, 95, 96, 97, 98, 99, 100, 101] rfl (by decide +kernel)
set_option maxRecDepth 20000 in
theorem gX11_book_X11_number : GoodIn wsX11_book (wsV RX11 150 RX11 yX11_number wsX11_number) := goodIn_app (goodIn_r _ [35, 36, 37, 12] rfl (by decide +kernel)) ggX11_book_X11_number
set_option maxRecDepth 20000 in
theorem ggX11_book_X11_wrong : GoodIn wsX11_book wsX11_wrong := goodIn_r _ [46, 3, 23, 58, 59, 60, 61, 62, 63, 64, 65, 66, 67, 68, 69, 70, 71, 72, 73, 74, 75, 76, 77, 78, 79, 80, 81, 82, 83, 84, 85, 86, 87, 88, 89, 90, 91, 92, 93, 94, 95, 96, 97, 98, 99, 100, 101] rfl (by decide +kernel)
set_option maxRecDepth 20000 in
theorem gX11_book_X11_wrong : GoodIn wsX11_book (wsV RX11 114 RX11 yX11_wrong wsX11_wrong) := goodIn_app (goodIn_r _ [43, 44, 45, 12] rfl (by decide +kernel)) ggX11_book_X11_wrong
set_option maxRecDepth 20000 in
theorem ggX11_book_X11_blanks : GoodIn wsX11_book wsX11_blanks := goodIn_r _ [29, 4, 30, 31, 32, 12, 33, 5, 34, 58, 59, 60, 61, 62, 63, 64, 65, 66, 67, 68, 69, 70, 71, 72, 73, 74, 75, 76, 77, 78, 79, 80, 81, 82, 83, 84, 85, 86, 87, 88, 89, 90, 91, 92, 93, 94, 95, 96, 97, 98, 99, 100, 101] rfl (by decide +kernel)
set_option maxRecDepth 20000 in
theorem gX11_book_X11_blanks : GoodIn wsX11_book (wsV RX11 107 RX11 yX11_blanks wsX11_blanks) := goodIn_app (goodIn_r _ [26, 27, 28, 12] rfl (by decide +kernel)) ggX11_book_X11_blanks
set_option maxRecDepth 20000 in
theorem ggX11_book_X11_sign : GoodIn wsX11_book wsX11_sign := goodIn_r _ [50, 3, 4, 26, 27, 28, 12, 29, 30, 31, 32, 33, 5, 34, 43, 44, 45, 46, 23, 58, 59, 60, 61, 62, 63, 64, 65, 66, 67, 68, 69, 70, 71, 72, 73, 74, 75, 76, 77, 78, 79, 80, 81, 82, 83, 84, 85, 86, 87, 88, 89, 90, 91, 92, 93, 94, 95, 96, 97, 98, 99, 100, 101] rfl (by decide +kernel)
set_option maxRecDepth 20000 in
theorem gX11_book_X11_sign : GoodIn wsX11_book (wsV RX11 154 RX11 yX11_sign wsX11_sign) := goodIn_app (goodIn_r _ [47, 48, 49, 12] rfl (by decide +kernel)) ggX11_book_X11_sign
set_option maxRecDepth 20000 in
theorem ggX11_book_X11_ends : GoodIn wsX11_book wsX11_ends := goodIn_r _ [54, 23, 7, 3, 58, 59, 60, 61, 62, 63, 64, 65, 66, 67, 68, 69, 70, 71, 72, 73, 74, 75, 76, 77, 78, 79, 80, 81, 82, 83, 84, 85, 86, 87, 88, 89, 90, 91, 92, 93, 94, 95, 96, 97, 98, 99, 100, 101] rfl (by decide +kernel)
set_option maxRecDepth 20000 in
theorem gX11_book_X11_ends : GoodIn wsX11_book (wsV RX11 168 RX11 yX11_ends wsX11_ends) := goodIn_app (goodIn_r _ [51, 52, 53, 12] rfl (by decide +kernel)) ggX11_book_X11_ends
set_option maxRecDepth 20000 in
theorem ggX11_book_X11_lays : GoodIn wsX11_book wsX11_lays := goodIn_r _ [57] rfl (by decide +kernel)
set_option maxRecDepth 20000 in
theorem gX11_book_X11_lays : GoodIn wsX11_book (va_wsS RX11 171 yX11_lays wsX11_lays) := goodIn_app (goodIn_r _ [55, 56, 12] rfl (by decide +kernel)) ggX11_book_X11_lays
set_option maxRecDepth 20000 in
theorem ggX11_isCell_X11_in : GoodIn wsX11_isCell wsX11_in := goodIn_r _ [5] rfl (by decide +kernel)
set_option maxRecDepth 20000 in
theorem gX11_isCell_X11_in : GoodIn wsX11_isCell (va_wsS RX11 119 yX11_in wsX11_in) := goodIn_app (goodIn_r _ [2, 3, 4] rfl (by decide +kernel)) ggX11_isCell_X11_in
set_option maxRecDepth 20000 in
theorem ggX11_isOf_X11_isCell : GoodIn wsX11_isOf wsX11_isCell := goodIn_r _ [5, 6, 7, 8, 4, 9, 10, 11, 12, 13, 14, 15, 16, 17, 18, 19, 20, 21, 22, 23, 24, 25, 26, 27, 28, 29, 30, 31, 32, 33, 34, 35, 36, 37, 38, 39, 40, 41, 42, 43, 44, 45, 46, 47, 48, 49, 50, 51, 52, 53] rfl (by decide +kernel)
set_option maxRecDepth 20000 in
theorem gX11_isOf_X11_isCell : GoodIn wsX11_isOf (wsV RX11 237 RX11 yX11_isCell wsX11_isCell) := goodIn_app (goodIn_r _ [1, 2, 3, 4] rfl (by decide +kernel)) ggX11_isOf_X11_isCell
set_option maxRecDepth 20000 in
theorem ggX11_onAll_X11_onPane : GoodIn wsX11_onAll wsX11_onPane := goodIn_r _ [5] rfl (by decide +kernel)
set_option maxRecDepth 20000 in
theorem gX11_onAll_X11_onPane : GoodIn wsX11_onAll (va_wsS RX11 240 yX11_onPane wsX11_onPane) := goodIn_app (goodIn_r _ [2, 3, 4] rfl (by decide +kernel)) ggX11_onAll_X11_onPane
set_option maxRecDepth 20000 in
theorem ggX11_takesOff_X11_less : GoodIn wsX11_takesOff wsX11_less := goodIn_r _ [4] rfl (by decide +kernel)
set_option maxRecDepth 20000 in
theorem gX11_takesOff_X11_less : GoodIn wsX11_takesOff (va_wsS RX11 218 yX11_less wsX11_less) := goodIn_app (goodIn_r _ [1, 2, 3] rfl (by decide +kernel)) ggX11_takesOff_X11_less
set_option maxRecDepth 20000 in
theorem ggX11_takesOff_X11_filmOf : GoodIn wsX11_takesOff wsX11_filmOf := goodIn_r _ [7] rfl (by decide +kernel)
set_option maxRecDepth 20000 in
theorem gX11_takesOff_X11_filmOf : GoodIn wsX11_takesOff (va_wsS RX11 244 yX11_filmOf wsX11_filmOf) := goodIn_app (goodIn_r _ [5, 6, 3] rfl (by decide +kernel)) ggX11_takesOff_X11_filmOf
set_option maxRecDepth 20000 in
theorem ggX11_wipes_X11_isOf : GoodIn wsX11_wipes wsX11_isOf := goodIn_r _ [5, 6, 7, 8, 4, 9, 10, 11, 12, 13, 26, 27, 28, 29, 30, 31, 32, 33, 34, 35, 36, 37, 38, 39, 40, 41, 42, 43, 44, 45, 46, 47, 48, 49, 50, 51, 52, 53, 54, 55, 56, 57, 58, 59, 60, 61, 62, 63, 64, 65, 66, 67, 68, 69] rfl (by decide +kernel)
set_option maxRecDepth 20000 in
theorem gX11_wipes_X11_isOf : GoodIn wsX11_wipes (wsV RX11 248 RX11 yX11_isOf wsX11_isOf) := goodIn_app (goodIn_r _ [1, 2, 3, 4] rfl (by decide +kernel)) ggX11_wipes_X11_isOf
set_option maxRecDepth 20000 in
theorem ggX11_wipes_X11_far : GoodIn wsX11_wipes wsX11_far := goodIn_r _ [16] rfl (by decide +kernel)
set_option maxRecDepth 20000 in
theorem gX11_wipes_X11_far : GoodIn wsX11_wipes (va_wsS RX11 252 yX11_far wsX11_far) := goodIn_app (goodIn_r _ [14, 15, 4] rfl (by decide +kernel)) ggX11_wipes_X11_far
set_option maxRecDepth 20000 in
theorem ggX11_wipes_X11_takesOff : GoodIn wsX11_wipes wsX11_takesOff := goodIn_r _ [19, 20, 21, 4, 22, 23, 24, 25] rfl (by decide +kernel)
set_option maxRecDepth 20000 in
theorem gX11_wipes_X11_takesOff : GoodIn wsX11_wipes (va_wsS RX11 255 yX11_takesOff wsX11_takesOff) := goodIn_app (goodIn_r _ [17, 18, 4] rfl (by decide +kernel)) ggX11_wipes_X11_takesOff
set_option maxRecDepth 20000 in
theorem ggX11_isSettling_X11_has : GoodIn wsX11_isSettling wsX11_has := goodIn_r _ [6] rfl (by decide +kernel)
set_option maxRecDepth 20000 in
theorem gX11_isSettling_X11_has : GoodIn wsX11_isSettling (va_wsS RX11 259 yX11_has wsX11_has) := goodIn_app (goodIn_r _ [3, 4, 5] rfl (by decide +kernel)) ggX11_isSettling_X11_has
set_option maxRecDepth 20000 in
theorem ggX11_isSettling_X11_filmOf : GoodIn wsX11_isSettling wsX11_filmOf := goodIn_r _ [9] rfl (by decide +kernel)
set_option maxRecDepth 20000 in
theorem gX11_isSettling_X11_filmOf : GoodIn wsX11_isSettling (va_wsS RX11 244 yX11_filmOf wsX11_filmOf) := goodIn_app (goodIn_r _ [7, 8, 5] rfl (by decide +kernel)) ggX11_isSettling_X11_filmOf
set_option maxRecDepth 20000 in
theorem ggX11_isSettling_X11_byLaw : GoodIn wsX11_isSettling wsX11_byLaw := goodIn_r _ [13, 14, 15, 16, 1, 17, 18, 5, 19, 20, 21, 22, 23, 24, 25, 26, 27, 28, 29, 30, 31, 32, 33, 34, 35, 36, 37, 38, 39, 40, 41, 42, 43, 44, 45, 46, 47, 48, 49, 50, 51, 52, 53, 54, 55, 56, 57, 58, 59, 60, 61, 62, 63, 64, 65, 66, 67, 68, 69] rfl (by decide +kernel)
set_option maxRecDepth 20000 in
theorem gX11_isSettling_X11_byLaw : GoodIn wsX11_isSettling (wsV RX11 262 RX11 yX11_byLaw wsX11_byLaw) := goodIn_app (goodIn_r _ [10, 11, 12, 5] rfl (by decide +kernel)) ggX11_isSettling_X11_byLaw
set_option maxRecDepth 20000 in
theorem ggX11_dayEnds_X11_isShown : GoodIn wsX11_dayEnds wsX11_isShown := goodIn_r _ [7, 2, 8, 9, 6, 10, 11, 12, 13, 14, 15, 16, 65, 66, 67, 68, 69, 70, 71, 72, 73, 74, 75, 76, 77, 78, 79, 80, 81, 82, 83, 84, 85, 86, 87, 88, 89, 90, 91, 92, 93, 94, 95, 96, 97, 98, 99, 100, 101, 102, 103, 104, 105, 106, 107, 108] rfl (by decide +kernel)
set_option maxRecDepth 20000 in
theorem gX11_dayEnds_X11_isShown : GoodIn wsX11_dayEnds (wsV RX11 265 RX11 yX11_isShown wsX11_isShown) := goodIn_app (goodIn_r _ [3, 4, 5, 6] rfl (by decide +kernel)) ggX11_dayEnds_X11_isShown
set_option maxRecDepth 20000 in
theorem ggX11_dayEnds_X11_rainOn : GoodIn wsX11_dayEnds wsX11_rainOn := goodIn_r _ [20, 1, 21, 65, 66, 67, 68, 69, 70, 71, 72, 73, 74, 75, 76, 77, 78, 79, 80, 81, 82, 83, 84, 85, 86, 87, 88, 89, 90, 91, 92, 93, 94, 95, 96, 97, 98, 99, 100, 101, 102, 103, 104, 105, 106, 107, 108] rfl (by decide +kernel)
set_option maxRecDepth 20000 in
theorem gX11_dayEnds_X11_rainOn : GoodIn wsX11_dayEnds (wsV RX11 269 RX11 yX11_rainOn wsX11_rainOn) := goodIn_app (goodIn_r _ [17, 18, 19, 6] rfl (by decide +kernel)) ggX11_dayEnds_X11_rainOn
set_option maxRecDepth 20000 in
theorem ggX11_dayEnds_X11_takesOff : GoodIn wsX11_dayEnds wsX11_takesOff := goodIn_r _ [24, 25, 26, 6, 27, 14, 15, 16] rfl (by decide +kernel)
set_option maxRecDepth 20000 in
theorem gX11_dayEnds_X11_takesOff : GoodIn wsX11_dayEnds (va_wsS RX11 255 yX11_takesOff wsX11_takesOff) := goodIn_app (goodIn_r _ [22, 23, 6] rfl (by decide +kernel)) ggX11_dayEnds_X11_takesOff
set_option maxRecDepth 20000 in
theorem ggX11_dayEnds_X11_isOf : GoodIn wsX11_dayEnds wsX11_isOf := goodIn_r _ [31, 32, 33, 34, 6, 35, 36, 37, 38, 39, 65, 66, 67, 68, 69, 70, 71, 72, 73, 74, 75, 76, 77, 78, 79, 80, 81, 82, 83, 84, 85, 86, 87, 88, 89, 90, 91, 92, 93, 94, 95, 96, 97, 98, 99, 100, 101, 102, 103, 104, 105, 106, 107, 108] rfl (by decide +kernel)
set_option maxRecDepth 20000 in
theorem gX11_dayEnds_X11_isOf : GoodIn wsX11_dayEnds (wsV RX11 248 RX11 yX11_isOf wsX11_isOf) := goodIn_app (goodIn_r _ [28, 29, 30, 6] rfl (by decide +kernel)) ggX11_dayEnds_X11_isOf
set_option maxRecDepth 20000 in
theorem ggX11_dayEnds_X11_isSettling : GoodIn wsX11_dayEnds wsX11_isSettling := goodIn_r _ [43, 44, 36, 45, 46, 6, 47, 14, 15, 16, 48, 49, 50, 51, 52, 53, 54, 55, 56, 57, 25, 26, 27, 58, 59, 60, 65, 66, 67, 68, 69, 70, 71, 72, 73, 74, 75, 76, 77, 78, 79, 80, 81, 82, 83, 84, 85, 86, 87, 88, 89, 90, 91, 92, 93, 94, 95, 96, 97, 98, 99, 100, 101, 102, 103, 104, 105, 106, 107, 108] rfl (by decide +kernel)
set_option maxRecDepth 20000 in
theorem gX11_dayEnds_X11_isSettling : GoodIn wsX11_dayEnds (wsV RX11 272 RX11 yX11_isSettling wsX11_isSettling) := goodIn_app (goodIn_r _ [40, 41, 42, 6] rfl (by decide +kernel)) ggX11_dayEnds_X11_isSettling
set_option maxRecDepth 20000 in
theorem ggX11_dayEnds_X11_filmsOver : GoodIn wsX11_dayEnds wsX11_filmsOver := goodIn_r _ [64, 1, 65, 66, 67, 68, 69, 70, 71, 72, 73, 74, 75, 76, 77, 78, 79, 80, 81, 82, 83, 84, 85, 86, 87, 88, 89, 90, 91, 92, 93, 94, 95, 96, 97, 98, 99, 100, 101, 102, 103, 104, 105, 106, 107, 108] rfl (by decide +kernel)
set_option maxRecDepth 20000 in
theorem gX11_dayEnds_X11_filmsOver : GoodIn wsX11_dayEnds (wsV RX11 276 RX11 yX11_filmsOver wsX11_filmsOver) := goodIn_app (goodIn_r _ [61, 62, 63, 6] rfl (by decide +kernel)) ggX11_dayEnds_X11_filmsOver
set_option maxRecDepth 20000 in
theorem ggX11_breaks_X11_has : GoodIn wsX11_breaks wsX11_has := goodIn_r _ [4] rfl (by decide +kernel)
set_option maxRecDepth 20000 in
theorem gX11_breaks_X11_has : GoodIn wsX11_breaks (va_wsS RX11 259 yX11_has wsX11_has) := goodIn_app (goodIn_r _ [1, 2, 3] rfl (by decide +kernel)) ggX11_breaks_X11_has
set_option maxRecDepth 20000 in
theorem ggX11_does_X11_wipes : GoodIn wsX11_does wsX11_wipes := goodIn_r _ [5, 6, 7, 8, 4, 9, 10, 11, 12, 13, 14, 15, 16, 17, 18, 19, 20, 21, 22, 23, 24, 25, 26, 27, 28, 29, 82, 83, 84, 85, 86, 87, 88, 89, 90, 91, 92, 93, 94, 95, 96, 97, 98, 99, 100, 101, 102, 103, 104, 105, 106, 107, 108, 109, 110, 111, 112, 113, 114, 115, 116, 117, 118, 119, 120, 121, 122, 123, 124, 125] rfl (by decide +kernel)
set_option maxRecDepth 20000 in
theorem gX11_does_X11_wipes : GoodIn wsX11_does (wsV RX11 280 RX11 yX11_wipes wsX11_wipes) := goodIn_app (goodIn_r _ [1, 2, 3, 4] rfl (by decide +kernel)) ggX11_does_X11_wipes
set_option maxRecDepth 20000 in
theorem ggX11_does_X11_dayEnds : GoodIn wsX11_does wsX11_dayEnds := goodIn_r _ [33, 34, 35, 36, 37, 38, 4, 39, 40, 41, 42, 43, 44, 45, 27, 28, 29, 46, 47, 48, 49, 50, 21, 22, 23, 24, 25, 26, 6, 7, 8, 9, 10, 11, 12, 13, 14, 15, 16, 17, 51, 52, 53, 54, 55, 56, 57, 58, 59, 60, 61, 62, 63, 64, 65, 66, 67, 68, 69, 70, 71, 72, 73, 74, 75, 82, 83, 84, 85, 86, 87, 88, 89, 90, 91, 92, 93, 94, 95, 96, 97, 98, 99, 100, 101, 102, 103, 104, 105, 106, 107, 108, 109, 110, 111, 112, 113, 114, 115, 116, 117, 118, 119, 120, 121, 122, 123, 124, 125] rfl (by decide +kernel)
set_option maxRecDepth 20000 in
theorem gX11_does_X11_dayEnds : GoodIn wsX11_does (wsV RX11 284 RX11 yX11_dayEnds wsX11_dayEnds) := goodIn_app (goodIn_r _ [30, 31, 32, 4] rfl (by decide +kernel)) ggX11_does_X11_dayEnds
set_option maxRecDepth 20000 in
theorem ggX11_does_X11_onRag : GoodIn wsX11_does wsX11_onRag := goodIn_r _ [78] rfl (by decide +kernel)
set_option maxRecDepth 20000 in
theorem gX11_does_X11_onRag : GoodIn wsX11_does (va_wsS RX11 288 yX11_onRag wsX11_onRag) := goodIn_app (goodIn_r _ [76, 77, 4] rfl (by decide +kernel)) ggX11_does_X11_onRag
set_option maxRecDepth 20000 in
theorem ggX11_does_X11_breaks : GoodIn wsX11_does wsX11_breaks := goodIn_r _ [81, 56, 57, 4, 58] rfl (by decide +kernel)
set_option maxRecDepth 20000 in
theorem gX11_does_X11_breaks : GoodIn wsX11_does (va_wsS RX11 292 yX11_breaks wsX11_breaks) := goodIn_app (goodIn_r _ [79, 80, 4] rfl (by decide +kernel)) ggX11_does_X11_breaks
set_option maxRecDepth 20000 in
theorem ggX11_goes_X11_goes : GoodIn wsX11_goes wsX11_goes := goodIn_r _ [0, 1, 2, 3, 4, 5, 6, 7, 8, 9, 10, 11, 12, 13, 14, 15, 16, 17, 18, 19, 20, 21, 22, 23, 24, 25, 26, 27, 28, 29, 30, 31, 32, 33, 34, 35, 36, 37, 38, 39, 40, 41, 42, 43, 44, 45, 46, 47, 48, 49, 50, 51, 52, 53, 54, 55, 56, 57, 58, 59, 60, 61, 62, 63, 64, 65, 66, 67, 68, 69, 70, 71, 72, 73, 74, 75, 76, 77, 78, 79, 80, 81, 82, 83, 84, 85, 86, 87, 88, 89, 90, 91, 92, 93, 94, 95, 96, 97, 98, 99, 100, 101, 102, 103, 104, 105, 106, 107, 108, 109, 110, 111, 112, 113, 114, 115, 116, 117, 118, 119, 120, 121, 122, 123, 124, 125, 126, 127, 128, 129, 130, 131, 132, 133, 134, 135, 136, 137] rfl (by decide +kernel)
set_option maxRecDepth 20000 in
theorem gX11_goes_X11_goes : GoodIn wsX11_goes (wsV RX11 298 RX11 yX11_goes wsX11_goes) := goodIn_app (goodIn_r _ [6, 7, 8, 9] rfl (by decide +kernel)) ggX11_goes_X11_goes
set_option maxRecDepth 20000 in
theorem ggX11_goes_X11_does : GoodIn wsX11_goes wsX11_does := goodIn_r _ [13, 14, 15, 16, 9, 17, 18, 19, 20, 21, 22, 23, 24, 25, 26, 27, 28, 29, 30, 31, 32, 33, 34, 35, 36, 37, 38, 39, 40, 41, 42, 43, 44, 45, 46, 47, 48, 49, 50, 51, 52, 53, 54, 55, 56, 57, 58, 59, 60, 61, 62, 63, 64, 65, 66, 67, 68, 69, 70, 71, 72, 73, 74, 75, 76, 77, 78, 79, 80, 81, 82, 83, 84, 85, 86, 87, 88, 89, 90, 91, 92, 93, 94, 95, 96, 97, 98, 99, 100, 101, 102, 103, 104, 105, 106, 107, 108, 109, 110, 111, 112, 113, 114, 115, 116, 117, 118, 119, 120, 121, 122, 123, 124, 125, 126, 127, 128, 129, 130, 131, 132, 133, 134, 135, 136, 137] rfl (by decide +kernel)
set_option maxRecDepth 20000 in
theorem gX11_goes_X11_does : GoodIn wsX11_goes (wsV RX11 301 RX11 yX11_does wsX11_does) := goodIn_app (goodIn_r _ [10, 11, 12, 9] rfl (by decide +kernel)) ggX11_goes_X11_does
set_option maxRecDepth 20000 in
theorem ggX11_work_X11_in : GoodIn wsX11_work wsX11_in := goodIn_r _ [17] rfl (by decide +kernel)
set_option maxRecDepth 20000 in
theorem gX11_work_X11_in : GoodIn wsX11_work (va_wsS RX11 119 yX11_in wsX11_in) := goodIn_app (goodIn_r _ [14, 15, 16] rfl (by decide +kernel)) ggX11_work_X11_in
set_option maxRecDepth 20000 in
theorem ggX11_work_X11_bad : GoodIn wsX11_work wsX11_bad := goodIn_r _ [21, 1, 22, 178, 179, 180, 181, 182, 183, 184, 185, 186, 187, 188, 189, 190, 191, 192, 193, 194, 195, 196, 197, 198, 199, 200, 201, 202, 203, 204, 205, 206, 207, 208, 209, 210, 211, 212, 213, 214, 215, 216, 217, 218, 219, 220, 221] rfl (by decide +kernel)
set_option maxRecDepth 20000 in
theorem gX11_work_X11_bad : GoodIn wsX11_work (wsV RX11 158 RX11 yX11_bad wsX11_bad) := goodIn_app (goodIn_r _ [18, 19, 20, 16] rfl (by decide +kernel)) ggX11_work_X11_bad
set_option maxRecDepth 20000 in
theorem ggX11_work_X11_starts : GoodIn wsX11_work wsX11_starts := goodIn_r _ [26, 2, 8, 7, 6, 27, 28, 29, 30, 31, 32, 16, 33, 34, 35, 36, 37, 38, 178, 179, 180, 181, 182, 183, 184, 185, 186, 187, 188, 189, 190, 191, 192, 193, 194, 195, 196, 197, 198, 199, 200, 201, 202, 203, 204, 205, 206, 207, 208, 209, 210, 211, 212, 213, 214, 215, 216, 217, 218, 219, 220, 221] rfl (by decide +kernel)
set_option maxRecDepth 20000 in
theorem gX11_work_X11_starts : GoodIn wsX11_work (wsV RX11 162 RX11 yX11_starts wsX11_starts) := goodIn_app (goodIn_r _ [23, 24, 25, 16] rfl (by decide +kernel)) ggX11_work_X11_starts
set_option maxRecDepth 20000 in
theorem ggX11_work_X11_readsStep : GoodIn wsX11_work wsX11_readsStep := goodIn_r _ [42, 7, 6, 43, 5, 44, 45, 29, 46, 47, 48, 16, 49, 50, 51, 52, 53, 54, 55, 56, 57, 30, 31, 32, 33, 34, 35, 36, 37, 8, 38, 58, 59, 60, 61, 62, 63, 64, 65, 66, 67, 27, 68, 69, 70, 71, 72, 73, 74, 75, 76, 77, 78, 79, 80, 81, 82, 83, 14, 15, 17, 84, 85, 86, 87, 39, 40, 41, 178, 179, 180, 181, 182, 183, 184, 185, 186, 187, 188, 189, 190, 191, 192, 193, 194, 195, 196, 197, 198, 199, 200, 201, 202, 203, 204, 205, 206, 207, 208, 209, 210, 211, 212, 213, 214, 215, 216, 217, 218, 219, 220, 221] rfl (by decide +kernel)
set_option maxRecDepth 20000 in
theorem gX11_work_X11_readsStep : GoodIn wsX11_work (wsV RX11 234 RX11 yX11_readsStep wsX11_readsStep) := goodIn_app (goodIn_r _ [39, 40, 41, 16] rfl (by decide +kernel)) ggX11_work_X11_readsStep
set_option maxRecDepth 20000 in
theorem ggX11_work_X11_blanks : GoodIn wsX11_work wsX11_blanks := goodIn_r _ [33, 7, 34, 35, 36, 16, 37, 8, 38, 178, 179, 180, 181, 182, 183, 184, 185, 186, 187, 188, 189, 190, 191, 192, 193, 194, 195, 196, 197, 198, 199, 200, 201, 202, 203, 204, 205, 206, 207, 208, 209, 210, 211, 212, 213, 214, 215, 216, 217, 218, 219, 220, 221] rfl (by decide +kernel)
set_option maxRecDepth 20000 in
theorem gX11_work_X11_blanks : GoodIn wsX11_work (wsV RX11 107 RX11 yX11_blanks wsX11_blanks) := goodIn_app (goodIn_r _ [30, 31, 32, 16] rfl (by decide +kernel)) ggX11_work_X11_blanks
set_option maxRecDepth 20000 in
theorem ggX11_work_X11_ends : GoodIn wsX11_work wsX11_ends := goodIn_r _ [91, 27, 4, 6, 178, 179, 180, 181, 182, 183, 184, 185, 186, 187, 188, 189, 190, 191, 192, 193, 194, 195, 196, 197, 198, 199, 200, 201, 202, 203, 204, 205, 206, 207, 208, 209, 210, 211, 212, 213, 214, 215, 216, 217, 218, 219, 220, 221] rfl (by decide +kernel)
set_option maxRecDepth 20000 in
theorem gX11_work_X11_ends : GoodIn wsX11_work (wsV RX11 168 RX11 yX11_ends wsX11_ends) := goodIn_app (goodIn_r _ [88, 89, 90, 16] rfl (by decide +kernel)) ggX11_work_X11_ends
set_option maxRecDepth 20000 in
theorem ggX11_work_X11_copies : GoodIn wsX11_work wsX11_copies := goodIn_r _ [94] rfl (by decide +kernel)
set_option maxRecDepth 20000 in
theorem gX11_work_X11_copies : GoodIn wsX11_work (va_wsS RX11 308 yX11_copies wsX11_copies) := goodIn_app (goodIn_r _ [92, 93, 16] rfl (by decide +kernel)) ggX11_work_X11_copies
set_option maxRecDepth 20000 in
theorem ggX11_work_X11_goes : GoodIn wsX11_work wsX11_goes := goodIn_r _ [98, 11, 43, 9, 12, 13, 95, 96, 97, 16, 99, 100, 101, 102, 103, 104, 105, 106, 107, 108, 109, 110, 111, 112, 113, 114, 45, 14, 15, 17, 115, 116, 117, 118, 119, 120, 121, 122, 123, 124, 125, 126, 127, 128, 129, 130, 44, 131, 132, 133, 134, 135, 136, 137, 138, 139, 140, 141, 142, 143, 144, 145, 146, 147, 148, 149, 150, 151, 152, 153, 154, 155, 156, 157, 158, 159, 160, 161, 162, 163, 164, 165, 166, 167, 168, 169, 170, 171, 172, 173, 174, 175, 176, 177, 178, 179, 180, 181, 182, 183, 184, 185, 186, 187, 188, 189, 190, 191, 192, 193, 194, 195, 196, 197, 198, 199, 200, 201, 202, 203, 204, 205, 206, 207, 208, 209, 210, 211, 212, 213, 214, 215, 216, 217, 218, 219, 220, 221] rfl (by decide +kernel)
set_option maxRecDepth 20000 in
theorem gX11_work_X11_goes : GoodIn wsX11_work (wsV RX11 298 RX11 yX11_goes wsX11_goes) := goodIn_app (goodIn_r _ [95, 96, 97, 16] rfl (by decide +kernel)) ggX11_work_X11_goes
set_option maxRecDepth 20000 in
theorem ggX11_undo_X11_copies : GoodIn wsX11_undo wsX11_copies := goodIn_r _ [9] rfl (by decide +kernel)
set_option maxRecDepth 20000 in
theorem gX11_undo_X11_copies : GoodIn wsX11_undo (va_wsS RX11 308 yX11_copies wsX11_copies) := goodIn_app (goodIn_r _ [6, 7, 8] rfl (by decide +kernel)) ggX11_undo_X11_copies
set_option maxRecDepth 20000 in
theorem ggX11_told_X11_in : GoodIn wsX11_told wsX11_in := goodIn_r _ [9] rfl (by decide +kernel)
set_option maxRecDepth 20000 in
theorem gX11_told_X11_in : GoodIn wsX11_told (va_wsS RX11 119 yX11_in wsX11_in) := goodIn_app (goodIn_r _ [6, 7, 8] rfl (by decide +kernel)) ggX11_told_X11_in
set_option maxRecDepth 20000 in
theorem ggX11_told_X11_bad : GoodIn wsX11_told wsX11_bad := goodIn_r _ [13, 1, 14, 25, 26, 27, 28, 29, 30, 31, 32, 33, 34, 35, 36, 37, 38, 39, 40, 41, 42, 43, 44, 45, 46, 47, 48, 49, 50, 51, 52, 53, 54, 55, 56, 57, 58, 59, 60, 61, 62, 63, 64, 65, 66, 67, 68] rfl (by decide +kernel)
set_option maxRecDepth 20000 in
theorem gX11_told_X11_bad : GoodIn wsX11_told (wsV RX11 158 RX11 yX11_bad wsX11_bad) := goodIn_app (goodIn_r _ [10, 11, 12, 8] rfl (by decide +kernel)) ggX11_told_X11_bad
set_option maxRecDepth 20000 in
theorem ggX11_told_X11_onAll : GoodIn wsX11_told wsX11_onAll := goodIn_r _ [18, 2, 19, 20, 8, 21, 25, 26, 27, 28, 29, 30, 31, 32, 33, 34, 35, 36, 37, 38, 39, 40, 41, 42, 43, 44, 45, 46, 47, 48, 49, 50, 51, 52, 53, 54, 55, 56, 57, 58, 59, 60, 61, 62, 63, 64, 65, 66, 67, 68] rfl (by decide +kernel)
set_option maxRecDepth 20000 in
theorem gX11_told_X11_onAll : GoodIn wsX11_told (wsV RX11 312 RX11 yX11_onAll wsX11_onAll) := goodIn_app (goodIn_r _ [15, 16, 17, 8] rfl (by decide +kernel)) ggX11_told_X11_onAll
set_option maxRecDepth 20000 in
theorem ggX11_told_X11_onRag : GoodIn wsX11_told wsX11_onRag := goodIn_r _ [24] rfl (by decide +kernel)
set_option maxRecDepth 20000 in
theorem gX11_told_X11_onRag : GoodIn wsX11_told (va_wsS RX11 288 yX11_onRag wsX11_onRag) := goodIn_app (goodIn_r _ [22, 23, 8] rfl (by decide +kernel)) ggX11_told_X11_onRag
set_option maxRecDepth 20000 in
theorem ggX11_isPane_X11_in : GoodIn wsX11_isPane wsX11_in := goodIn_r _ [5] rfl (by decide +kernel)
set_option maxRecDepth 20000 in
theorem gX11_isPane_X11_in : GoodIn wsX11_isPane (va_wsS RX11 119 yX11_in wsX11_in) := goodIn_app (goodIn_r _ [2, 3, 4] rfl (by decide +kernel)) ggX11_isPane_X11_in
set_option maxRecDepth 20000 in
theorem ggX11_isOrder_X11_in : GoodIn wsX11_isOrder wsX11_in := goodIn_r _ [5] rfl (by decide +kernel)
set_option maxRecDepth 20000 in
theorem gX11_isOrder_X11_in : GoodIn wsX11_isOrder (va_wsS RX11 119 yX11_in wsX11_in) := goodIn_app (goodIn_r _ [2, 3, 4] rfl (by decide +kernel)) ggX11_isOrder_X11_in
set_option maxRecDepth 20000 in
theorem ggX11_pane_X11_isPane : GoodIn wsX11_pane wsX11_isPane := goodIn_r _ [8, 9, 10, 11, 7, 12, 21, 22, 23, 24, 25, 26, 27, 28, 29, 30, 31, 32, 33, 34, 35, 36, 37, 38, 39, 40, 41, 42, 43, 44, 45, 46, 47, 48, 49, 50, 51, 52, 53, 54, 55, 56, 57, 58, 59, 60, 61, 62, 63, 64] rfl (by decide +kernel)
set_option maxRecDepth 20000 in
theorem gX11_pane_X11_isPane : GoodIn wsX11_pane (wsV RX11 315 RX11 yX11_isPane wsX11_isPane) := goodIn_app (goodIn_r _ [4, 5, 6, 7] rfl (by decide +kernel)) ggX11_pane_X11_isPane
set_option maxRecDepth 20000 in
theorem ggX11_pane_X11_bad : GoodIn wsX11_pane wsX11_bad := goodIn_r _ [16, 1, 17, 21, 22, 23, 24, 25, 26, 27, 28, 29, 30, 31, 32, 33, 34, 35, 36, 37, 38, 39, 40, 41, 42, 43, 44, 45, 46, 47, 48, 49, 50, 51, 52, 53, 54, 55, 56, 57, 58, 59, 60, 61, 62, 63, 64] rfl (by decide +kernel)
set_option maxRecDepth 20000 in
theorem gX11_pane_X11_bad : GoodIn wsX11_pane (wsV RX11 158 RX11 yX11_bad wsX11_bad) := goodIn_app (goodIn_r _ [13, 14, 15, 7] rfl (by decide +kernel)) ggX11_pane_X11_bad
set_option maxRecDepth 20000 in
theorem ggX11_pane_X11_in : GoodIn wsX11_pane wsX11_in := goodIn_r _ [12] rfl (by decide +kernel)
set_option maxRecDepth 20000 in
theorem gX11_pane_X11_in : GoodIn wsX11_pane (va_wsS RX11 119 yX11_in wsX11_in) := goodIn_app (goodIn_r _ [10, 11, 7] rfl (by decide +kernel)) ggX11_pane_X11_in
set_option maxRecDepth 20000 in
theorem ggX11_pane_X11_onPane : GoodIn wsX11_pane wsX11_onPane := goodIn_r _ [20] rfl (by decide +kernel)
set_option maxRecDepth 20000 in
theorem gX11_pane_X11_onPane : GoodIn wsX11_pane (va_wsS RX11 240 yX11_onPane wsX11_onPane) := goodIn_app (goodIn_r _ [18, 19, 7] rfl (by decide +kernel)) ggX11_pane_X11_onPane
set_option maxRecDepth 20000 in
theorem ggX11_noCell_X11_isPane : GoodIn wsX11_noCell wsX11_isPane := goodIn_r _ [5, 6, 7, 8, 4, 9, 21, 22, 23, 24, 25, 26, 27, 28, 29, 30, 31, 32, 33, 34, 35, 36, 37, 38, 39, 40, 41, 42, 43, 44, 45, 46, 47, 48, 49, 50, 51, 52, 53, 54, 55, 56, 57, 58, 59, 60, 61, 62, 63, 64] rfl (by decide +kernel)
set_option maxRecDepth 20000 in
theorem gX11_noCell_X11_isPane : GoodIn wsX11_noCell (wsV RX11 315 RX11 yX11_isPane wsX11_isPane) := goodIn_app (goodIn_r _ [1, 2, 3, 4] rfl (by decide +kernel)) ggX11_noCell_X11_isPane
set_option maxRecDepth 20000 in
theorem ggX11_noCell_X11_bad : GoodIn wsX11_noCell wsX11_bad := goodIn_r _ [13, 14, 15, 21, 22, 23, 24, 25, 26, 27, 28, 29, 30, 31, 32, 33, 34, 35, 36, 37, 38, 39, 40, 41, 42, 43, 44, 45, 46, 47, 48, 49, 50, 51, 52, 53, 54, 55, 56, 57, 58, 59, 60, 61, 62, 63, 64] rfl (by decide +kernel)
set_option maxRecDepth 20000 in
theorem gX11_noCell_X11_bad : GoodIn wsX11_noCell (wsV RX11 158 RX11 yX11_bad wsX11_bad) := goodIn_app (goodIn_r _ [10, 11, 12, 4] rfl (by decide +kernel)) ggX11_noCell_X11_bad
set_option maxRecDepth 20000 in
theorem ggX11_noCell_X11_isCell : GoodIn wsX11_noCell wsX11_isCell := goodIn_r _ [19, 20, 7, 8, 4, 9, 21, 22, 23, 24, 25, 26, 27, 28, 29, 30, 31, 32, 33, 34, 35, 36, 37, 38, 39, 40, 41, 42, 43, 44, 45, 46, 47, 48, 49, 50, 51, 52, 53, 54, 55, 56, 57, 58, 59, 60, 61, 62, 63, 64] rfl (by decide +kernel)
set_option maxRecDepth 20000 in
theorem gX11_noCell_X11_isCell : GoodIn wsX11_noCell (wsV RX11 237 RX11 yX11_isCell wsX11_isCell) := goodIn_app (goodIn_r _ [16, 17, 18, 4] rfl (by decide +kernel)) ggX11_noCell_X11_isCell
set_option maxRecDepth 20000 in
theorem ggX11_shows_X11_noCell : GoodIn wsX11_shows wsX11_noCell := goodIn_r _ [7, 8, 9, 10, 6, 11, 12, 13, 14, 15, 16, 17, 18, 19, 1, 20, 21, 22, 23, 24, 25, 32, 33, 34, 35, 36, 37, 38, 39, 40, 41, 42, 43, 44, 45, 46, 47, 48, 49, 50, 51, 52, 53, 54, 55, 56, 57, 58, 59, 60, 61, 62, 63, 64, 65, 66, 67, 68, 69, 70, 71, 72, 73, 74, 75] rfl (by decide +kernel)
set_option maxRecDepth 20000 in
theorem gX11_shows_X11_noCell : GoodIn wsX11_shows (wsV RX11 318 RX11 yX11_noCell wsX11_noCell) := goodIn_app (goodIn_r _ [3, 4, 5, 6] rfl (by decide +kernel)) ggX11_shows_X11_noCell
set_option maxRecDepth 20000 in
theorem ggX11_shows_X11_cellOf : GoodIn wsX11_shows wsX11_cellOf := goodIn_r _ [28] rfl (by decide +kernel)
set_option maxRecDepth 20000 in
theorem gX11_shows_X11_cellOf : GoodIn wsX11_shows (va_wsS RX11 321 yX11_cellOf wsX11_cellOf) := goodIn_app (goodIn_r _ [26, 27, 6] rfl (by decide +kernel)) ggX11_shows_X11_cellOf
set_option maxRecDepth 20000 in
theorem ggX11_shows_X11_filmOf : GoodIn wsX11_shows wsX11_filmOf := goodIn_r _ [31] rfl (by decide +kernel)
set_option maxRecDepth 20000 in
theorem gX11_shows_X11_filmOf : GoodIn wsX11_shows (va_wsS RX11 244 yX11_filmOf wsX11_filmOf) := goodIn_app (goodIn_r _ [29, 30, 6] rfl (by decide +kernel)) ggX11_shows_X11_filmOf
set_option maxRecDepth 20000 in
theorem ggX11_deep_X11_noCell : GoodIn wsX11_deep wsX11_noCell := goodIn_r _ [7, 8, 9, 10, 6, 11, 12, 13, 14, 15, 16, 17, 18, 19, 1, 20, 21, 22, 23, 24, 25, 29, 30, 31, 32, 33, 34, 35, 36, 37, 38, 39, 40, 41, 42, 43, 44, 45, 46, 47, 48, 49, 50, 51, 52, 53, 54, 55, 56, 57, 58, 59, 60, 61, 62, 63, 64, 65, 66, 67, 68, 69, 70, 71, 72] rfl (by decide +kernel)
set_option maxRecDepth 20000 in
theorem gX11_deep_X11_noCell : GoodIn wsX11_deep (wsV RX11 318 RX11 yX11_noCell wsX11_noCell) := goodIn_app (goodIn_r _ [3, 4, 5, 6] rfl (by decide +kernel)) ggX11_deep_X11_noCell
set_option maxRecDepth 20000 in
theorem ggX11_deep_X11_cellOf : GoodIn wsX11_deep wsX11_cellOf := goodIn_r _ [28] rfl (by decide +kernel)
set_option maxRecDepth 20000 in
theorem gX11_deep_X11_cellOf : GoodIn wsX11_deep (va_wsS RX11 321 yX11_cellOf wsX11_cellOf) := goodIn_app (goodIn_r _ [26, 27, 6] rfl (by decide +kernel)) ggX11_deep_X11_cellOf
set_option maxRecDepth 20000 in
theorem ggX11_film_X11_noCell : GoodIn wsX11_film wsX11_noCell := goodIn_r _ [7, 8, 9, 10, 6, 11, 12, 13, 14, 15, 16, 17, 18, 19, 1, 20, 21, 22, 23, 24, 25, 32, 33, 34, 35, 36, 37, 38, 39, 40, 41, 42, 43, 44, 45, 46, 47, 48, 49, 50, 51, 52, 53, 54, 55, 56, 57, 58, 59, 60, 61, 62, 63, 64, 65, 66, 67, 68, 69, 70, 71, 72, 73, 74, 75] rfl (by decide +kernel)
set_option maxRecDepth 20000 in
theorem gX11_film_X11_noCell : GoodIn wsX11_film (wsV RX11 318 RX11 yX11_noCell wsX11_noCell) := goodIn_app (goodIn_r _ [3, 4, 5, 6] rfl (by decide +kernel)) ggX11_film_X11_noCell
set_option maxRecDepth 20000 in
theorem ggX11_film_X11_cellOf : GoodIn wsX11_film wsX11_cellOf := goodIn_r _ [28] rfl (by decide +kernel)
set_option maxRecDepth 20000 in
theorem gX11_film_X11_cellOf : GoodIn wsX11_film (va_wsS RX11 321 yX11_cellOf wsX11_cellOf) := goodIn_app (goodIn_r _ [26, 27, 6] rfl (by decide +kernel)) ggX11_film_X11_cellOf
set_option maxRecDepth 20000 in
theorem ggX11_film_X11_filmOf : GoodIn wsX11_film wsX11_filmOf := goodIn_r _ [31] rfl (by decide +kernel)
set_option maxRecDepth 20000 in
theorem gX11_film_X11_filmOf : GoodIn wsX11_film (va_wsS RX11 244 yX11_filmOf wsX11_filmOf) := goodIn_app (goodIn_r _ [29, 30, 6] rfl (by decide +kernel)) ggX11_film_X11_filmOf
set_option maxRecDepth 20000 in
theorem ggX11_films_X11_in : GoodIn wsX11_films wsX11_in := goodIn_r _ [7] rfl (by decide +kernel)
set_option maxRecDepth 20000 in
theorem gX11_films_X11_in : GoodIn wsX11_films (va_wsS RX11 119 yX11_in wsX11_in) := goodIn_app (goodIn_r _ [4, 5, 6] rfl (by decide +kernel)) ggX11_films_X11_in
set_option maxRecDepth 20000 in
theorem ggX11_films_X11_bad : GoodIn wsX11_films wsX11_bad := goodIn_r _ [11, 1, 12, 16, 17, 18, 19, 20, 21, 22, 23, 24, 25, 26, 27, 28, 29, 30, 31, 32, 33, 34, 35, 36, 37, 38, 39, 40, 41, 42, 43, 44, 45, 46, 47, 48, 49, 50, 51, 52, 53, 54, 55, 56, 57, 58, 59] rfl (by decide +kernel)
set_option maxRecDepth 20000 in
theorem gX11_films_X11_bad : GoodIn wsX11_films (wsV RX11 158 RX11 yX11_bad wsX11_bad) := goodIn_app (goodIn_r _ [8, 9, 10, 6] rfl (by decide +kernel)) ggX11_films_X11_bad
set_option maxRecDepth 20000 in
theorem ggX11_films_X11_onCell : GoodIn wsX11_films wsX11_onCell := goodIn_r _ [15] rfl (by decide +kernel)
set_option maxRecDepth 20000 in
theorem gX11_films_X11_onCell : GoodIn wsX11_films (va_wsS RX11 324 yX11_onCell wsX11_onCell) := goodIn_app (goodIn_r _ [13, 14, 6] rfl (by decide +kernel)) ggX11_films_X11_onCell
set_option maxRecDepth 20000 in
theorem ggX11_have_X11_isPane : GoodIn wsX11_have wsX11_isPane := goodIn_r _ [7, 8, 9, 10, 6, 11, 20, 21, 22, 23, 24, 25, 26, 27, 28, 29, 30, 31, 32, 33, 34, 35, 36, 37, 38, 39, 40, 41, 42, 43, 44, 45, 46, 47, 48, 49, 50, 51, 52, 53, 54, 55, 56, 57, 58, 59, 60, 61, 62, 63] rfl (by decide +kernel)
set_option maxRecDepth 20000 in
theorem gX11_have_X11_isPane : GoodIn wsX11_have (wsV RX11 315 RX11 yX11_isPane wsX11_isPane) := goodIn_app (goodIn_r _ [3, 4, 5, 6] rfl (by decide +kernel)) ggX11_have_X11_isPane
set_option maxRecDepth 20000 in
theorem ggX11_have_X11_bad : GoodIn wsX11_have wsX11_bad := goodIn_r _ [15, 1, 16, 20, 21, 22, 23, 24, 25, 26, 27, 28, 29, 30, 31, 32, 33, 34, 35, 36, 37, 38, 39, 40, 41, 42, 43, 44, 45, 46, 47, 48, 49, 50, 51, 52, 53, 54, 55, 56, 57, 58, 59, 60, 61, 62, 63] rfl (by decide +kernel)
set_option maxRecDepth 20000 in
theorem gX11_have_X11_bad : GoodIn wsX11_have (wsV RX11 158 RX11 yX11_bad wsX11_bad) := goodIn_app (goodIn_r _ [12, 13, 14, 6] rfl (by decide +kernel)) ggX11_have_X11_bad
set_option maxRecDepth 20000 in
theorem ggX11_have_X11_in : GoodIn wsX11_have wsX11_in := goodIn_r _ [11] rfl (by decide +kernel)
set_option maxRecDepth 20000 in
theorem gX11_have_X11_in : GoodIn wsX11_have (va_wsS RX11 119 yX11_in wsX11_in) := goodIn_app (goodIn_r _ [9, 10, 6] rfl (by decide +kernel)) ggX11_have_X11_in
set_option maxRecDepth 20000 in
theorem ggX11_have_X11_onCell : GoodIn wsX11_have wsX11_onCell := goodIn_r _ [19] rfl (by decide +kernel)
set_option maxRecDepth 20000 in
theorem gX11_have_X11_onCell : GoodIn wsX11_have (va_wsS RX11 324 yX11_onCell wsX11_onCell) := goodIn_app (goodIn_r _ [17, 18, 6] rfl (by decide +kernel)) ggX11_have_X11_onCell
set_option maxRecDepth 20000 in
theorem ggX11_showing_X11_isPane : GoodIn wsX11_showing wsX11_isPane := goodIn_r _ [7, 8, 9, 10, 6, 11, 29, 30, 31, 32, 33, 34, 35, 36, 37, 38, 39, 40, 41, 42, 43, 44, 45, 46, 47, 48, 49, 50, 51, 52, 53, 54, 55, 56, 57, 58, 59, 60, 61, 62, 63, 64, 65, 66, 67, 68, 69, 70, 71, 72] rfl (by decide +kernel)
set_option maxRecDepth 20000 in
theorem gX11_showing_X11_isPane : GoodIn wsX11_showing (wsV RX11 315 RX11 yX11_isPane wsX11_isPane) := goodIn_app (goodIn_r _ [3, 4, 5, 6] rfl (by decide +kernel)) ggX11_showing_X11_isPane
set_option maxRecDepth 20000 in
theorem ggX11_showing_X11_bad : GoodIn wsX11_showing wsX11_bad := goodIn_r _ [15, 1, 16, 29, 30, 31, 32, 33, 34, 35, 36, 37, 38, 39, 40, 41, 42, 43, 44, 45, 46, 47, 48, 49, 50, 51, 52, 53, 54, 55, 56, 57, 58, 59, 60, 61, 62, 63, 64, 65, 66, 67, 68, 69, 70, 71, 72] rfl (by decide +kernel)
set_option maxRecDepth 20000 in
theorem gX11_showing_X11_bad : GoodIn wsX11_showing (wsV RX11 158 RX11 yX11_bad wsX11_bad) := goodIn_app (goodIn_r _ [12, 13, 14, 6] rfl (by decide +kernel)) ggX11_showing_X11_bad
set_option maxRecDepth 20000 in
theorem ggX11_showing_X11_in : GoodIn wsX11_showing wsX11_in := goodIn_r _ [11] rfl (by decide +kernel)
set_option maxRecDepth 20000 in
theorem gX11_showing_X11_in : GoodIn wsX11_showing (va_wsS RX11 119 yX11_in wsX11_in) := goodIn_app (goodIn_r _ [9, 10, 6] rfl (by decide +kernel)) ggX11_showing_X11_in
set_option maxRecDepth 20000 in
theorem ggX11_showing_X11_isOf : GoodIn wsX11_showing wsX11_isOf := goodIn_r _ [20, 21, 22, 23, 6, 24, 25, 9, 10, 11, 29, 30, 31, 32, 33, 34, 35, 36, 37, 38, 39, 40, 41, 42, 43, 44, 45, 46, 47, 48, 49, 50, 51, 52, 53, 54, 55, 56, 57, 58, 59, 60, 61, 62, 63, 64, 65, 66, 67, 68, 69, 70, 71, 72] rfl (by decide +kernel)
set_option maxRecDepth 20000 in
theorem gX11_showing_X11_isOf : GoodIn wsX11_showing (wsV RX11 248 RX11 yX11_isOf wsX11_isOf) := goodIn_app (goodIn_r _ [17, 18, 19, 6] rfl (by decide +kernel)) ggX11_showing_X11_isOf
set_option maxRecDepth 20000 in
theorem ggX11_showing_X11_filmOf : GoodIn wsX11_showing wsX11_filmOf := goodIn_r _ [28] rfl (by decide +kernel)
set_option maxRecDepth 20000 in
theorem gX11_showing_X11_filmOf : GoodIn wsX11_showing (va_wsS RX11 244 yX11_filmOf wsX11_filmOf) := goodIn_app (goodIn_r _ [26, 27, 6] rfl (by decide +kernel)) ggX11_showing_X11_filmOf
set_option maxRecDepth 20000 in
theorem ggX11_settles_X11_noCell : GoodIn wsX11_settles wsX11_noCell := goodIn_r _ [7, 8, 9, 10, 6, 11, 12, 13, 14, 15, 16, 17, 18, 19, 1, 20, 21, 22, 23, 24, 25, 53, 54, 55, 56, 57, 58, 59, 60, 61, 62, 63, 64, 65, 66, 67, 68, 69, 70, 71, 72, 73, 74, 75, 76, 77, 78, 79, 80, 81, 82, 83, 84, 85, 86, 87, 88, 89, 90, 91, 92, 93, 94, 95, 96] rfl (by decide +kernel)
set_option maxRecDepth 20000 in
theorem gX11_settles_X11_noCell : GoodIn wsX11_settles (wsV RX11 318 RX11 yX11_noCell wsX11_noCell) := goodIn_app (goodIn_r _ [3, 4, 5, 6] rfl (by decide +kernel)) ggX11_settles_X11_noCell
set_option maxRecDepth 20000 in
theorem ggX11_settles_X11_isSettling : GoodIn wsX11_settles wsX11_isSettling := goodIn_r _ [29, 30, 25, 31, 32, 6, 33, 34, 35, 36, 37, 38, 39, 40, 41, 42, 43, 44, 45, 46, 47, 48, 49, 50, 51, 52, 53, 54, 55, 56, 57, 58, 59, 60, 61, 62, 63, 64, 65, 66, 67, 68, 69, 70, 71, 72, 73, 74, 75, 76, 77, 78, 79, 80, 81, 82, 83, 84, 85, 86, 87, 88, 89, 90, 91, 92, 93, 94, 95, 96] rfl (by decide +kernel)
set_option maxRecDepth 20000 in
theorem gX11_settles_X11_isSettling : GoodIn wsX11_settles (wsV RX11 272 RX11 yX11_isSettling wsX11_isSettling) := goodIn_app (goodIn_r _ [26, 27, 28, 6] rfl (by decide +kernel)) ggX11_settles_X11_isSettling
set_option maxRecDepth 20000 in
theorem ggX11_cellOfOrder_X11_cellOf : GoodIn wsX11_cellOfOrder wsX11_cellOf := goodIn_r _ [4] rfl (by decide +kernel)
set_option maxRecDepth 20000 in
theorem gX11_cellOfOrder_X11_cellOf : GoodIn wsX11_cellOfOrder (va_wsS RX11 321 yX11_cellOf wsX11_cellOf) := goodIn_app (goodIn_r _ [1, 2, 3] rfl (by decide +kernel)) ggX11_cellOfOrder_X11_cellOf
set_option maxRecDepth 20000 in
theorem ggX11_isShown_X11_cellOfOrder : GoodIn wsX11_isShown wsX11_cellOfOrder := goodIn_r _ [5, 6, 7, 4, 8] rfl (by decide +kernel)
set_option maxRecDepth 20000 in
theorem gX11_isShown_X11_cellOfOrder : GoodIn wsX11_isShown (va_wsS RX11 327 yX11_cellOfOrder wsX11_cellOfOrder) := goodIn_app (goodIn_r _ [2, 3, 4] rfl (by decide +kernel)) ggX11_isShown_X11_cellOfOrder
set_option maxRecDepth 20000 in
theorem ggX11_isShown_X11_filmOf : GoodIn wsX11_isShown wsX11_filmOf := goodIn_r _ [11] rfl (by decide +kernel)
set_option maxRecDepth 20000 in
theorem gX11_isShown_X11_filmOf : GoodIn wsX11_isShown (va_wsS RX11 244 yX11_filmOf wsX11_filmOf) := goodIn_app (goodIn_r _ [9, 10, 4] rfl (by decide +kernel)) ggX11_isShown_X11_filmOf
set_option maxRecDepth 20000 in
theorem ggX11_stateOf_X11_has : GoodIn wsX11_stateOf wsX11_has := goodIn_r _ [6] rfl (by decide +kernel)
set_option maxRecDepth 20000 in
theorem gX11_stateOf_X11_has : GoodIn wsX11_stateOf (va_wsS RX11 259 yX11_has wsX11_has) := goodIn_app (goodIn_r _ [3, 4, 5] rfl (by decide +kernel)) ggX11_stateOf_X11_has
set_option maxRecDepth 20000 in
theorem ggX11_stateOf_X11_isShown : GoodIn wsX11_stateOf wsX11_isShown := goodIn_r _ [10, 2, 11, 12, 5, 13, 14, 15, 16, 17, 18, 19, 23, 24, 25, 26, 27, 28, 29, 30, 31, 32, 33, 34, 35, 36, 37, 38, 39, 40, 41, 42, 43, 44, 45, 46, 47, 48, 49, 50, 51, 52, 53, 54, 55, 56, 57, 58, 59, 60, 61, 62, 63, 64, 65, 66] rfl (by decide +kernel)
set_option maxRecDepth 20000 in
theorem gX11_stateOf_X11_isShown : GoodIn wsX11_stateOf (wsV RX11 265 RX11 yX11_isShown wsX11_isShown) := goodIn_app (goodIn_r _ [7, 8, 9, 5] rfl (by decide +kernel)) ggX11_stateOf_X11_isShown
set_option maxRecDepth 20000 in
theorem ggX11_stateOf_X11_cellOfOrder : GoodIn wsX11_stateOf wsX11_cellOfOrder := goodIn_r _ [13, 14, 15, 5, 16] rfl (by decide +kernel)
set_option maxRecDepth 20000 in
theorem gX11_stateOf_X11_cellOfOrder : GoodIn wsX11_stateOf (va_wsS RX11 327 yX11_cellOfOrder wsX11_cellOfOrder) := goodIn_app (goodIn_r _ [11, 12, 5] rfl (by decide +kernel)) ggX11_stateOf_X11_cellOfOrder
set_option maxRecDepth 20000 in
theorem ggX11_stateOf_X11_onCell : GoodIn wsX11_stateOf wsX11_onCell := goodIn_r _ [22] rfl (by decide +kernel)
set_option maxRecDepth 20000 in
theorem gX11_stateOf_X11_onCell : GoodIn wsX11_stateOf (va_wsS RX11 324 yX11_onCell wsX11_onCell) := goodIn_app (goodIn_r _ [20, 21, 5] rfl (by decide +kernel)) ggX11_stateOf_X11_onCell
set_option maxRecDepth 20000 in
theorem ggX11_order_X11_isOrder : GoodIn wsX11_order wsX11_isOrder := goodIn_r _ [7, 8, 9, 10, 6, 11, 41, 42, 43, 44, 45, 46, 47, 48, 49, 50, 51, 52, 53, 54, 55, 56, 57, 58, 59, 60, 61, 62, 63, 64, 65, 66, 67, 68, 69, 70, 71, 72, 73, 74, 75, 76, 77, 78, 79, 80, 81, 82, 83, 84] rfl (by decide +kernel)
set_option maxRecDepth 20000 in
theorem gX11_order_X11_isOrder : GoodIn wsX11_order (wsV RX11 330 RX11 yX11_isOrder wsX11_isOrder) := goodIn_app (goodIn_r _ [3, 4, 5, 6] rfl (by decide +kernel)) ggX11_order_X11_isOrder
set_option maxRecDepth 20000 in
theorem ggX11_order_X11_bad : GoodIn wsX11_order wsX11_bad := goodIn_r _ [15, 1, 16, 41, 42, 43, 44, 45, 46, 47, 48, 49, 50, 51, 52, 53, 54, 55, 56, 57, 58, 59, 60, 61, 62, 63, 64, 65, 66, 67, 68, 69, 70, 71, 72, 73, 74, 75, 76, 77, 78, 79, 80, 81, 82, 83, 84] rfl (by decide +kernel)
set_option maxRecDepth 20000 in
theorem gX11_order_X11_bad : GoodIn wsX11_order (wsV RX11 158 RX11 yX11_bad wsX11_bad) := goodIn_app (goodIn_r _ [12, 13, 14, 6] rfl (by decide +kernel)) ggX11_order_X11_bad
set_option maxRecDepth 20000 in
theorem ggX11_order_X11_in : GoodIn wsX11_order wsX11_in := goodIn_r _ [11] rfl (by decide +kernel)
set_option maxRecDepth 20000 in
theorem gX11_order_X11_in : GoodIn wsX11_order (va_wsS RX11 119 yX11_in wsX11_in) := goodIn_app (goodIn_r _ [9, 10, 6] rfl (by decide +kernel)) ggX11_order_X11_in
set_option maxRecDepth 20000 in
theorem ggX11_order_X11_stateOf : GoodIn wsX11_order wsX11_stateOf := goodIn_r _ [20, 21, 2, 22, 23, 6, 24, 25, 26, 27, 28, 29, 30, 31, 32, 33, 34, 35, 36, 37, 38, 39, 40, 41, 42, 43, 44, 45, 46, 47, 48, 49, 50, 51, 52, 53, 54, 55, 56, 57, 58, 59, 60, 61, 62, 63, 64, 65, 66, 67, 68, 69, 70, 71, 72, 73, 74, 75, 76, 77, 78, 79, 80, 81, 82, 83, 84] rfl (by decide +kernel)
set_option maxRecDepth 20000 in
theorem gX11_order_X11_stateOf : GoodIn wsX11_order (wsV RX11 333 RX11 yX11_stateOf wsX11_stateOf) := goodIn_app (goodIn_r _ [17, 18, 19, 6] rfl (by decide +kernel)) ggX11_order_X11_stateOf
set_option maxRecDepth 20000 in
theorem ggX11_outsideOf_X11_filmOf : GoodIn wsX11_outsideOf wsX11_filmOf := goodIn_r _ [4] rfl (by decide +kernel)
set_option maxRecDepth 20000 in
theorem gX11_outsideOf_X11_filmOf : GoodIn wsX11_outsideOf (va_wsS RX11 244 yX11_filmOf wsX11_filmOf) := goodIn_app (goodIn_r _ [1, 2, 3] rfl (by decide +kernel)) ggX11_outsideOf_X11_filmOf
set_option maxRecDepth 20000 in
theorem ggX11_needs_X11_isOrder : GoodIn wsX11_needs wsX11_isOrder := goodIn_r _ [8, 9, 10, 11, 7, 12, 30, 31, 32, 33, 34, 35, 36, 37, 38, 39, 40, 41, 42, 43, 44, 45, 46, 47, 48, 49, 50, 51, 52, 53, 54, 55, 56, 57, 58, 59, 60, 61, 62, 63, 64, 65, 66, 67, 68, 69, 70, 71, 72, 73] rfl (by decide +kernel)
set_option maxRecDepth 20000 in
theorem gX11_needs_X11_isOrder : GoodIn wsX11_needs (wsV RX11 330 RX11 yX11_isOrder wsX11_isOrder) := goodIn_app (goodIn_r _ [4, 5, 6, 7] rfl (by decide +kernel)) ggX11_needs_X11_isOrder
set_option maxRecDepth 20000 in
theorem ggX11_needs_X11_bad : GoodIn wsX11_needs wsX11_bad := goodIn_r _ [16, 1, 17, 30, 31, 32, 33, 34, 35, 36, 37, 38, 39, 40, 41, 42, 43, 44, 45, 46, 47, 48, 49, 50, 51, 52, 53, 54, 55, 56, 57, 58, 59, 60, 61, 62, 63, 64, 65, 66, 67, 68, 69, 70, 71, 72, 73] rfl (by decide +kernel)
set_option maxRecDepth 20000 in
theorem gX11_needs_X11_bad : GoodIn wsX11_needs (wsV RX11 158 RX11 yX11_bad wsX11_bad) := goodIn_app (goodIn_r _ [13, 14, 15, 7] rfl (by decide +kernel)) ggX11_needs_X11_bad
set_option maxRecDepth 20000 in
theorem ggX11_needs_X11_cellOfOrder : GoodIn wsX11_needs wsX11_cellOfOrder := goodIn_r _ [20, 21, 22, 7, 23] rfl (by decide +kernel)
set_option maxRecDepth 20000 in
theorem gX11_needs_X11_cellOfOrder : GoodIn wsX11_needs (va_wsS RX11 327 yX11_cellOfOrder wsX11_cellOfOrder) := goodIn_app (goodIn_r _ [18, 19, 7] rfl (by decide +kernel)) ggX11_needs_X11_cellOfOrder
set_option maxRecDepth 20000 in
theorem ggX11_needs_X11_outsideOf : GoodIn wsX11_needs wsX11_outsideOf := goodIn_r _ [26, 27, 28, 7, 29] rfl (by decide +kernel)
set_option maxRecDepth 20000 in
theorem gX11_needs_X11_outsideOf : GoodIn wsX11_needs (va_wsS RX11 336 yX11_outsideOf wsX11_outsideOf) := goodIn_app (goodIn_r _ [24, 25, 7] rfl (by decide +kernel)) ggX11_needs_X11_outsideOf
set_option maxRecDepth 20000 in
theorem ggX11_lost_X11_stateOf : GoodIn wsX11_lost wsX11_stateOf := goodIn_r _ [7, 8, 9, 10, 11, 6, 12, 13, 14, 15, 16, 17, 18, 19, 20, 21, 22, 23, 24, 25, 26, 27, 28, 29, 30, 31, 32, 33, 34, 35, 36, 37, 38, 39, 40, 41, 42, 43, 44, 45, 46, 47, 48, 49, 50, 51, 52, 53, 54, 55, 56, 57, 58, 59, 60, 61, 62, 63, 64, 65, 66, 67, 68, 69, 70, 71, 72] rfl (by decide +kernel)
set_option maxRecDepth 20000 in
theorem gX11_lost_X11_stateOf : GoodIn wsX11_lost (wsV RX11 333 RX11 yX11_stateOf wsX11_stateOf) := goodIn_app (goodIn_r _ [3, 4, 5, 6] rfl (by decide +kernel)) ggX11_lost_X11_stateOf
set_option maxRecDepth 20000 in
theorem ggX11_cellsOf_X11_isOf : GoodIn wsX11_cellsOf wsX11_isOf := goodIn_r _ [5, 6, 7, 8, 4, 9, 10, 11, 12, 13, 14, 15, 16, 17, 18, 19, 20, 21, 22, 23, 24, 25, 26, 27, 28, 29, 30, 31, 32, 33, 34, 35, 36, 37, 38, 39, 40, 41, 42, 43, 44, 45, 46, 47, 48, 49, 50, 51, 52, 53, 54, 55, 56, 57] rfl (by decide +kernel)
set_option maxRecDepth 20000 in
theorem gX11_cellsOf_X11_isOf : GoodIn wsX11_cellsOf (wsV RX11 248 RX11 yX11_isOf wsX11_isOf) := goodIn_app (goodIn_r _ [1, 2, 3, 4] rfl (by decide +kernel)) ggX11_cellsOf_X11_isOf
set_option maxRecDepth 20000 in
theorem ggX11_areCells_X11_cellsOf : GoodIn wsX11_areCells wsX11_cellsOf := goodIn_r _ [5, 6, 7, 8, 4, 9, 10, 11, 12, 13, 14, 15, 16, 17, 18, 19, 20, 21, 22, 23, 24, 25, 26, 27, 28, 29, 30, 31, 32, 33, 34, 35, 36, 37, 38, 39, 40, 41, 42, 43, 44, 45, 46, 47, 48, 49, 50, 51, 52, 53, 54, 55, 56, 57, 58, 59, 60, 61] rfl (by decide +kernel)
set_option maxRecDepth 20000 in
theorem gX11_areCells_X11_cellsOf : GoodIn wsX11_areCells (wsV RX11 339 RX11 yX11_cellsOf wsX11_cellsOf) := goodIn_app (goodIn_r _ [1, 2, 3, 4] rfl (by decide +kernel)) ggX11_areCells_X11_cellsOf
set_option maxRecDepth 20000 in
theorem ggX11_costOf_X11_has : GoodIn wsX11_costOf wsX11_has := goodIn_r _ [5] rfl (by decide +kernel)
set_option maxRecDepth 20000 in
theorem gX11_costOf_X11_has : GoodIn wsX11_costOf (va_wsS RX11 259 yX11_has wsX11_has) := goodIn_app (goodIn_r _ [2, 3, 4] rfl (by decide +kernel)) ggX11_costOf_X11_has
set_option maxRecDepth 20000 in
theorem ggX11_costOf_X11_outsideOf : GoodIn wsX11_costOf wsX11_outsideOf := goodIn_r _ [8, 9, 10, 4, 11] rfl (by decide +kernel)
set_option maxRecDepth 20000 in
theorem gX11_costOf_X11_outsideOf : GoodIn wsX11_costOf (va_wsS RX11 336 yX11_outsideOf wsX11_outsideOf) := goodIn_app (goodIn_r _ [6, 7, 4] rfl (by decide +kernel)) ggX11_costOf_X11_outsideOf
set_option maxRecDepth 20000 in
theorem ggX11_cost_X11_isPane : GoodIn wsX11_cost wsX11_isPane := goodIn_r _ [6, 7, 8, 9, 5, 10, 47, 48, 49, 50, 51, 52, 53, 54, 55, 56, 57, 58, 59, 60, 61, 62, 63, 64, 65, 66, 67, 68, 69, 70, 71, 72, 73, 74, 75, 76, 77, 78, 79, 80, 81, 82, 83, 84, 85, 86, 87, 88, 89, 90] rfl (by decide +kernel)
set_option maxRecDepth 20000 in
theorem gX11_cost_X11_isPane : GoodIn wsX11_cost (wsV RX11 315 RX11 yX11_isPane wsX11_isPane) := goodIn_app (goodIn_r _ [2, 3, 4, 5] rfl (by decide +kernel)) ggX11_cost_X11_isPane
set_option maxRecDepth 20000 in
theorem ggX11_cost_X11_bad : GoodIn wsX11_cost wsX11_bad := goodIn_r _ [14, 1, 15, 47, 48, 49, 50, 51, 52, 53, 54, 55, 56, 57, 58, 59, 60, 61, 62, 63, 64, 65, 66, 67, 68, 69, 70, 71, 72, 73, 74, 75, 76, 77, 78, 79, 80, 81, 82, 83, 84, 85, 86, 87, 88, 89, 90] rfl (by decide +kernel)
set_option maxRecDepth 20000 in
theorem gX11_cost_X11_bad : GoodIn wsX11_cost (wsV RX11 158 RX11 yX11_bad wsX11_bad) := goodIn_app (goodIn_r _ [11, 12, 13, 5] rfl (by decide +kernel)) ggX11_cost_X11_bad
set_option maxRecDepth 20000 in
theorem ggX11_cost_X11_areCells : GoodIn wsX11_cost wsX11_areCells := goodIn_r _ [19, 20, 21, 22, 5, 23, 24, 25, 26, 27, 28, 29, 30, 31, 32, 8, 9, 10, 47, 48, 49, 50, 51, 52, 53, 54, 55, 56, 57, 58, 59, 60, 61, 62, 63, 64, 65, 66, 67, 68, 69, 70, 71, 72, 73, 74, 75, 76, 77, 78, 79, 80, 81, 82, 83, 84, 85, 86, 87, 88, 89, 90] rfl (by decide +kernel)
set_option maxRecDepth 20000 in
theorem gX11_cost_X11_areCells : GoodIn wsX11_cost (wsV RX11 342 RX11 yX11_areCells wsX11_areCells) := goodIn_app (goodIn_r _ [16, 17, 18, 5] rfl (by decide +kernel)) ggX11_cost_X11_areCells
set_option maxRecDepth 20000 in
theorem ggX11_cost_X11_in : GoodIn wsX11_cost wsX11_in := goodIn_r _ [10] rfl (by decide +kernel)
set_option maxRecDepth 20000 in
theorem gX11_cost_X11_in : GoodIn wsX11_cost (va_wsS RX11 119 yX11_in wsX11_in) := goodIn_app (goodIn_r _ [8, 9, 5] rfl (by decide +kernel)) ggX11_cost_X11_in
set_option maxRecDepth 20000 in
theorem ggX11_cost_X11_costOf : GoodIn wsX11_cost wsX11_costOf := goodIn_r _ [36, 37, 38, 39, 5, 40, 41, 42, 43, 44, 45, 46, 47, 48, 49, 50, 51, 52, 53, 54, 55, 56, 57, 58, 59, 60, 61, 62, 63, 64, 65, 66, 67, 68, 69, 70, 71, 72, 73, 74, 75, 76, 77, 78, 79, 80, 81, 82, 83, 84, 85, 86, 87, 88, 89, 90] rfl (by decide +kernel)
set_option maxRecDepth 20000 in
theorem gX11_cost_X11_costOf : GoodIn wsX11_cost (wsV RX11 345 RX11 yX11_costOf wsX11_costOf) := goodIn_app (goodIn_r _ [33, 34, 35, 5] rfl (by decide +kernel)) ggX11_cost_X11_costOf
set_option maxRecDepth 20000 in
theorem ggX11_view_X11_isPane : GoodIn wsX11_view wsX11_isPane := goodIn_r _ [6, 7, 8, 9, 5, 10, 47, 48, 49, 50, 51, 52, 53, 54, 55, 56, 57, 58, 59, 60, 61, 62, 63, 64, 65, 66, 67, 68, 69, 70, 71, 72, 73, 74, 75, 76, 77, 78, 79, 80, 81, 82, 83, 84, 85, 86, 87, 88, 89, 90] rfl (by decide +kernel)
set_option maxRecDepth 20000 in
theorem gX11_view_X11_isPane : GoodIn wsX11_view (wsV RX11 315 RX11 yX11_isPane wsX11_isPane) := goodIn_app (goodIn_r _ [2, 3, 4, 5] rfl (by decide +kernel)) ggX11_view_X11_isPane
set_option maxRecDepth 20000 in
theorem ggX11_view_X11_bad : GoodIn wsX11_view wsX11_bad := goodIn_r _ [14, 1, 15, 47, 48, 49, 50, 51, 52, 53, 54, 55, 56, 57, 58, 59, 60, 61, 62, 63, 64, 65, 66, 67, 68, 69, 70, 71, 72, 73, 74, 75, 76, 77, 78, 79, 80, 81, 82, 83, 84, 85, 86, 87, 88, 89, 90] rfl (by decide +kernel)
set_option maxRecDepth 20000 in
theorem gX11_view_X11_bad : GoodIn wsX11_view (wsV RX11 158 RX11 yX11_bad wsX11_bad) := goodIn_app (goodIn_r _ [11, 12, 13, 5] rfl (by decide +kernel)) ggX11_view_X11_bad
set_option maxRecDepth 20000 in
theorem ggX11_view_X11_areCells : GoodIn wsX11_view wsX11_areCells := goodIn_r _ [19, 20, 21, 22, 5, 23, 24, 25, 26, 27, 28, 29, 30, 31, 32, 8, 9, 10, 47, 48, 49, 50, 51, 52, 53, 54, 55, 56, 57, 58, 59, 60, 61, 62, 63, 64, 65, 66, 67, 68, 69, 70, 71, 72, 73, 74, 75, 76, 77, 78, 79, 80, 81, 82, 83, 84, 85, 86, 87, 88, 89, 90] rfl (by decide +kernel)
set_option maxRecDepth 20000 in
theorem gX11_view_X11_areCells : GoodIn wsX11_view (wsV RX11 342 RX11 yX11_areCells wsX11_areCells) := goodIn_app (goodIn_r _ [16, 17, 18, 5] rfl (by decide +kernel)) ggX11_view_X11_areCells
set_option maxRecDepth 20000 in
theorem ggX11_view_X11_in : GoodIn wsX11_view wsX11_in := goodIn_r _ [10] rfl (by decide +kernel)
set_option maxRecDepth 20000 in
theorem gX11_view_X11_in : GoodIn wsX11_view (va_wsS RX11 119 yX11_in wsX11_in) := goodIn_app (goodIn_r _ [8, 9, 5] rfl (by decide +kernel)) ggX11_view_X11_in
set_option maxRecDepth 20000 in
theorem ggX11_view_X11_costOf : GoodIn wsX11_view wsX11_costOf := goodIn_r _ [36, 37, 38, 39, 5, 40, 41, 42, 43, 44, 45, 46, 47, 48, 49, 50, 51, 52, 53, 54, 55, 56, 57, 58, 59, 60, 61, 62, 63, 64, 65, 66, 67, 68, 69, 70, 71, 72, 73, 74, 75, 76, 77, 78, 79, 80, 81, 82, 83, 84, 85, 86, 87, 88, 89, 90] rfl (by decide +kernel)
set_option maxRecDepth 20000 in
theorem gX11_view_X11_costOf : GoodIn wsX11_view (wsV RX11 345 RX11 yX11_costOf wsX11_costOf) := goodIn_app (goodIn_r _ [33, 34, 35, 5] rfl (by decide +kernel)) ggX11_view_X11_costOf
set_option maxRecDepth 20000 in
theorem ggX11_seamsOf_X11_filmOf : GoodIn wsX11_seamsOf wsX11_filmOf := goodIn_r _ [4] rfl (by decide +kernel)
set_option maxRecDepth 20000 in
theorem gX11_seamsOf_X11_filmOf : GoodIn wsX11_seamsOf (va_wsS RX11 244 yX11_filmOf wsX11_filmOf) := goodIn_app (goodIn_r _ [1, 2, 3] rfl (by decide +kernel)) ggX11_seamsOf_X11_filmOf
set_option maxRecDepth 20000 in
theorem ggX11_seamsOf_X11_isOf : GoodIn wsX11_seamsOf wsX11_isOf := goodIn_r _ [8, 9, 10, 11, 3, 12, 13, 14, 15, 16, 17, 18, 19, 20, 21, 22, 23, 24, 25, 26, 27, 28, 29, 30, 31, 32, 33, 34, 35, 36, 37, 38, 39, 40, 41, 42, 43, 44, 45, 46, 47, 48, 49, 50, 51, 52, 53, 54, 55, 56, 57, 58, 59, 60] rfl (by decide +kernel)
set_option maxRecDepth 20000 in
theorem gX11_seamsOf_X11_isOf : GoodIn wsX11_seamsOf (wsV RX11 248 RX11 yX11_isOf wsX11_isOf) := goodIn_app (goodIn_r _ [5, 6, 7, 3] rfl (by decide +kernel)) ggX11_seamsOf_X11_isOf
set_option maxRecDepth 20000 in
theorem ggX11_seamsOf_X11_isCell : GoodIn wsX11_seamsOf wsX11_isCell := goodIn_r _ [12, 13, 14, 15, 3, 16, 17, 18, 19, 20, 21, 22, 23, 24, 25, 26, 27, 28, 29, 30, 31, 32, 33, 34, 35, 36, 37, 38, 39, 40, 41, 42, 43, 44, 45, 46, 47, 48, 49, 50, 51, 52, 53, 54, 55, 56, 57, 58, 59, 60] rfl (by decide +kernel)
set_option maxRecDepth 20000 in
theorem gX11_seamsOf_X11_isCell : GoodIn wsX11_seamsOf (wsV RX11 237 RX11 yX11_isCell wsX11_isCell) := goodIn_app (goodIn_r _ [9, 10, 11, 3] rfl (by decide +kernel)) ggX11_seamsOf_X11_isCell
set_option maxRecDepth 20000 in
theorem ggX11_seams_X11_isPane : GoodIn wsX11_seams wsX11_isPane := goodIn_r _ [7, 8, 9, 10, 6, 11, 33, 34, 35, 36, 37, 38, 39, 40, 41, 42, 43, 44, 45, 46, 47, 48, 49, 50, 51, 52, 53, 54, 55, 56, 57, 58, 59, 60, 61, 62, 63, 64, 65, 66, 67, 68, 69, 70, 71, 72, 73, 74, 75, 76] rfl (by decide +kernel)
set_option maxRecDepth 20000 in
theorem gX11_seams_X11_isPane : GoodIn wsX11_seams (wsV RX11 315 RX11 yX11_isPane wsX11_isPane) := goodIn_app (goodIn_r _ [3, 4, 5, 6] rfl (by decide +kernel)) ggX11_seams_X11_isPane
set_option maxRecDepth 20000 in
theorem ggX11_seams_X11_bad : GoodIn wsX11_seams wsX11_bad := goodIn_r _ [15, 1, 16, 33, 34, 35, 36, 37, 38, 39, 40, 41, 42, 43, 44, 45, 46, 47, 48, 49, 50, 51, 52, 53, 54, 55, 56, 57, 58, 59, 60, 61, 62, 63, 64, 65, 66, 67, 68, 69, 70, 71, 72, 73, 74, 75, 76] rfl (by decide +kernel)
set_option maxRecDepth 20000 in
theorem gX11_seams_X11_bad : GoodIn wsX11_seams (wsV RX11 158 RX11 yX11_bad wsX11_bad) := goodIn_app (goodIn_r _ [12, 13, 14, 6] rfl (by decide +kernel)) ggX11_seams_X11_bad
set_option maxRecDepth 20000 in
theorem ggX11_seams_X11_seamsOf : GoodIn wsX11_seams wsX11_seamsOf := goodIn_r _ [20, 21, 22, 6, 23, 24, 25, 26, 27, 28, 29, 30, 31, 32, 9, 10, 11, 33, 34, 35, 36, 37, 38, 39, 40, 41, 42, 43, 44, 45, 46, 47, 48, 49, 50, 51, 52, 53, 54, 55, 56, 57, 58, 59, 60, 61, 62, 63, 64, 65, 66, 67, 68, 69, 70, 71, 72, 73, 74, 75, 76] rfl (by decide +kernel)
set_option maxRecDepth 20000 in
theorem gX11_seams_X11_seamsOf : GoodIn wsX11_seams (wsV RX11 348 RX11 yX11_seamsOf wsX11_seamsOf) := goodIn_app (goodIn_r _ [17, 18, 19, 6] rfl (by decide +kernel)) ggX11_seams_X11_seamsOf
set_option maxRecDepth 20000 in
theorem ggX11_sightsOf_X11_filmOf : GoodIn wsX11_sightsOf wsX11_filmOf := goodIn_r _ [4] rfl (by decide +kernel)
set_option maxRecDepth 20000 in
theorem gX11_sightsOf_X11_filmOf : GoodIn wsX11_sightsOf (va_wsS RX11 244 yX11_filmOf wsX11_filmOf) := goodIn_app (goodIn_r _ [1, 2, 3] rfl (by decide +kernel)) ggX11_sightsOf_X11_filmOf
set_option maxRecDepth 20000 in
theorem ggX11_sights_X11_isPane : GoodIn wsX11_sights wsX11_isPane := goodIn_r _ [7, 8, 9, 10, 6, 11, 23, 24, 25, 26, 27, 28, 29, 30, 31, 32, 33, 34, 35, 36, 37, 38, 39, 40, 41, 42, 43, 44, 45, 46, 47, 48, 49, 50, 51, 52, 53, 54, 55, 56, 57, 58, 59, 60, 61, 62, 63, 64, 65, 66] rfl (by decide +kernel)
set_option maxRecDepth 20000 in
theorem gX11_sights_X11_isPane : GoodIn wsX11_sights (wsV RX11 315 RX11 yX11_isPane wsX11_isPane) := goodIn_app (goodIn_r _ [3, 4, 5, 6] rfl (by decide +kernel)) ggX11_sights_X11_isPane
set_option maxRecDepth 20000 in
theorem ggX11_sights_X11_bad : GoodIn wsX11_sights wsX11_bad := goodIn_r _ [15, 1, 16, 23, 24, 25, 26, 27, 28, 29, 30, 31, 32, 33, 34, 35, 36, 37, 38, 39, 40, 41, 42, 43, 44, 45, 46, 47, 48, 49, 50, 51, 52, 53, 54, 55, 56, 57, 58, 59, 60, 61, 62, 63, 64, 65, 66] rfl (by decide +kernel)
set_option maxRecDepth 20000 in
theorem gX11_sights_X11_bad : GoodIn wsX11_sights (wsV RX11 158 RX11 yX11_bad wsX11_bad) := goodIn_app (goodIn_r _ [12, 13, 14, 6] rfl (by decide +kernel)) ggX11_sights_X11_bad
set_option maxRecDepth 20000 in
theorem ggX11_sights_X11_sightsOf : GoodIn wsX11_sights wsX11_sightsOf := goodIn_r _ [19, 20, 21, 6, 22] rfl (by decide +kernel)
set_option maxRecDepth 20000 in
theorem gX11_sights_X11_sightsOf : GoodIn wsX11_sights (va_wsS RX11 351 yX11_sightsOf wsX11_sightsOf) := goodIn_app (goodIn_r _ [17, 18, 6] rfl (by decide +kernel)) ggX11_sights_X11_sightsOf
set_option maxRecDepth 20000 in
theorem ggX11_alike_X11_isPane : GoodIn wsX11_alike wsX11_isPane := goodIn_r _ [7, 8, 9, 10, 6, 11, 29, 30, 31, 32, 33, 34, 35, 36, 37, 38, 39, 40, 41, 42, 43, 44, 45, 46, 47, 48, 49, 50, 51, 52, 53, 54, 55, 56, 57, 58, 59, 60, 61, 62, 63, 64, 65, 66, 67, 68, 69, 70, 71, 72] rfl (by decide +kernel)
set_option maxRecDepth 20000 in
theorem gX11_alike_X11_isPane : GoodIn wsX11_alike (wsV RX11 315 RX11 yX11_isPane wsX11_isPane) := goodIn_app (goodIn_r _ [3, 4, 5, 6] rfl (by decide +kernel)) ggX11_alike_X11_isPane
set_option maxRecDepth 20000 in
theorem ggX11_alike_X11_bad : GoodIn wsX11_alike wsX11_bad := goodIn_r _ [15, 1, 16, 29, 30, 31, 32, 33, 34, 35, 36, 37, 38, 39, 40, 41, 42, 43, 44, 45, 46, 47, 48, 49, 50, 51, 52, 53, 54, 55, 56, 57, 58, 59, 60, 61, 62, 63, 64, 65, 66, 67, 68, 69, 70, 71, 72] rfl (by decide +kernel)
set_option maxRecDepth 20000 in
theorem gX11_alike_X11_bad : GoodIn wsX11_alike (wsV RX11 158 RX11 yX11_bad wsX11_bad) := goodIn_app (goodIn_r _ [12, 13, 14, 6] rfl (by decide +kernel)) ggX11_alike_X11_bad
set_option maxRecDepth 20000 in
theorem ggX11_alike_X11_isOf : GoodIn wsX11_alike wsX11_isOf := goodIn_r _ [20, 21, 22, 23, 6, 24, 25, 9, 10, 11, 29, 30, 31, 32, 33, 34, 35, 36, 37, 38, 39, 40, 41, 42, 43, 44, 45, 46, 47, 48, 49, 50, 51, 52, 53, 54, 55, 56, 57, 58, 59, 60, 61, 62, 63, 64, 65, 66, 67, 68, 69, 70, 71, 72] rfl (by decide +kernel)
set_option maxRecDepth 20000 in
theorem gX11_alike_X11_isOf : GoodIn wsX11_alike (wsV RX11 248 RX11 yX11_isOf wsX11_isOf) := goodIn_app (goodIn_r _ [17, 18, 19, 6] rfl (by decide +kernel)) ggX11_alike_X11_isOf
set_option maxRecDepth 20000 in
theorem ggX11_alike_X11_filmOf : GoodIn wsX11_alike wsX11_filmOf := goodIn_r _ [28] rfl (by decide +kernel)
set_option maxRecDepth 20000 in
theorem gX11_alike_X11_filmOf : GoodIn wsX11_alike (va_wsS RX11 244 yX11_filmOf wsX11_filmOf) := goodIn_app (goodIn_r _ [26, 27, 6] rfl (by decide +kernel)) ggX11_alike_X11_filmOf
set_option maxRecDepth 20000 in
theorem ggX11_oldest_X11_isPane : GoodIn wsX11_oldest wsX11_isPane := goodIn_r _ [7, 8, 9, 10, 6, 11, 23, 24, 25, 26, 27, 28, 29, 30, 31, 32, 33, 34, 35, 36, 37, 38, 39, 40, 41, 42, 43, 44, 45, 46, 47, 48, 49, 50, 51, 52, 53, 54, 55, 56, 57, 58, 59, 60, 61, 62, 63, 64, 65, 66] rfl (by decide +kernel)
set_option maxRecDepth 20000 in
theorem gX11_oldest_X11_isPane : GoodIn wsX11_oldest (wsV RX11 315 RX11 yX11_isPane wsX11_isPane) := goodIn_app (goodIn_r _ [3, 4, 5, 6] rfl (by decide +kernel)) ggX11_oldest_X11_isPane
set_option maxRecDepth 20000 in
theorem ggX11_oldest_X11_bad : GoodIn wsX11_oldest wsX11_bad := goodIn_r _ [15, 1, 16, 23, 24, 25, 26, 27, 28, 29, 30, 31, 32, 33, 34, 35, 36, 37, 38, 39, 40, 41, 42, 43, 44, 45, 46, 47, 48, 49, 50, 51, 52, 53, 54, 55, 56, 57, 58, 59, 60, 61, 62, 63, 64, 65, 66] rfl (by decide +kernel)
set_option maxRecDepth 20000 in
theorem gX11_oldest_X11_bad : GoodIn wsX11_oldest (wsV RX11 158 RX11 yX11_bad wsX11_bad) := goodIn_app (goodIn_r _ [12, 13, 14, 6] rfl (by decide +kernel)) ggX11_oldest_X11_bad
set_option maxRecDepth 20000 in
theorem ggX11_oldest_X11_in : GoodIn wsX11_oldest wsX11_in := goodIn_r _ [11] rfl (by decide +kernel)
set_option maxRecDepth 20000 in
theorem gX11_oldest_X11_in : GoodIn wsX11_oldest (va_wsS RX11 119 yX11_in wsX11_in) := goodIn_app (goodIn_r _ [9, 10, 6] rfl (by decide +kernel)) ggX11_oldest_X11_in
set_option maxRecDepth 20000 in
theorem ggX11_oldest_X11_onCell : GoodIn wsX11_oldest wsX11_onCell := goodIn_r _ [19] rfl (by decide +kernel)
set_option maxRecDepth 20000 in
theorem gX11_oldest_X11_onCell : GoodIn wsX11_oldest (va_wsS RX11 324 yX11_onCell wsX11_onCell) := goodIn_app (goodIn_r _ [17, 18, 6] rfl (by decide +kernel)) ggX11_oldest_X11_onCell
set_option maxRecDepth 20000 in
theorem ggX11_oldest_X11_filmOf : GoodIn wsX11_oldest wsX11_filmOf := goodIn_r _ [22] rfl (by decide +kernel)
set_option maxRecDepth 20000 in
theorem gX11_oldest_X11_filmOf : GoodIn wsX11_oldest (va_wsS RX11 244 yX11_filmOf wsX11_filmOf) := goodIn_app (goodIn_r _ [20, 21, 6] rfl (by decide +kernel)) ggX11_oldest_X11_filmOf
set_option maxRecDepth 20000 in
theorem ggX11_patchOf_X11_filmOf : GoodIn wsX11_patchOf wsX11_filmOf := goodIn_r _ [5] rfl (by decide +kernel)
set_option maxRecDepth 20000 in
theorem gX11_patchOf_X11_filmOf : GoodIn wsX11_patchOf (va_wsS RX11 244 yX11_filmOf wsX11_filmOf) := goodIn_app (goodIn_r _ [2, 3, 4] rfl (by decide +kernel)) ggX11_patchOf_X11_filmOf
set_option maxRecDepth 20000 in
theorem ggX11_patchOf_X11_isOf : GoodIn wsX11_patchOf wsX11_isOf := goodIn_r _ [9, 10, 11, 12, 4, 13, 14, 15, 16, 17, 24, 25, 26, 27, 28, 29, 30, 31, 32, 33, 34, 35, 36, 37, 38, 39, 40, 41, 42, 43, 44, 45, 46, 47, 48, 49, 50, 51, 52, 53, 54, 55, 56, 57, 58, 59, 60, 61, 62, 63, 64, 65, 66, 67] rfl (by decide +kernel)
set_option maxRecDepth 20000 in
theorem gX11_patchOf_X11_isOf : GoodIn wsX11_patchOf (wsV RX11 248 RX11 yX11_isOf wsX11_isOf) := goodIn_app (goodIn_r _ [6, 7, 8, 4] rfl (by decide +kernel)) ggX11_patchOf_X11_isOf
set_option maxRecDepth 20000 in
theorem ggX11_patchOf_X11_has : GoodIn wsX11_patchOf wsX11_has := goodIn_r _ [20] rfl (by decide +kernel)
set_option maxRecDepth 20000 in
theorem gX11_patchOf_X11_has : GoodIn wsX11_patchOf (va_wsS RX11 259 yX11_has wsX11_has) := goodIn_app (goodIn_r _ [18, 19, 4] rfl (by decide +kernel)) ggX11_patchOf_X11_has
set_option maxRecDepth 20000 in
theorem ggX11_patchOf_X11_far : GoodIn wsX11_patchOf wsX11_far := goodIn_r _ [23] rfl (by decide +kernel)
set_option maxRecDepth 20000 in
theorem gX11_patchOf_X11_far : GoodIn wsX11_patchOf (va_wsS RX11 252 yX11_far wsX11_far) := goodIn_app (goodIn_r _ [21, 22, 4] rfl (by decide +kernel)) ggX11_patchOf_X11_far
set_option maxRecDepth 20000 in
theorem ggX11_patch_X11_isPane : GoodIn wsX11_patch wsX11_isPane := goodIn_r _ [7, 8, 9, 10, 6, 11, 39, 40, 41, 42, 43, 44, 45, 46, 47, 48, 49, 50, 51, 52, 53, 54, 55, 56, 57, 58, 59, 60, 61, 62, 63, 64, 65, 66, 67, 68, 69, 70, 71, 72, 73, 74, 75, 76, 77, 78, 79, 80, 81, 82] rfl (by decide +kernel)
set_option maxRecDepth 20000 in
theorem gX11_patch_X11_isPane : GoodIn wsX11_patch (wsV RX11 315 RX11 yX11_isPane wsX11_isPane) := goodIn_app (goodIn_r _ [3, 4, 5, 6] rfl (by decide +kernel)) ggX11_patch_X11_isPane
set_option maxRecDepth 20000 in
theorem ggX11_patch_X11_bad : GoodIn wsX11_patch wsX11_bad := goodIn_r _ [15, 1, 16, 39, 40, 41, 42, 43, 44, 45, 46, 47, 48, 49, 50, 51, 52, 53, 54, 55, 56, 57, 58, 59, 60, 61, 62, 63, 64, 65, 66, 67, 68, 69, 70, 71, 72, 73, 74, 75, 76, 77, 78, 79, 80, 81, 82] rfl (by decide +kernel)
set_option maxRecDepth 20000 in
theorem gX11_patch_X11_bad : GoodIn wsX11_patch (wsV RX11 158 RX11 yX11_bad wsX11_bad) := goodIn_app (goodIn_r _ [12, 13, 14, 6] rfl (by decide +kernel)) ggX11_patch_X11_bad
set_option maxRecDepth 20000 in
theorem ggX11_patch_X11_in : GoodIn wsX11_patch wsX11_in := goodIn_r _ [11] rfl (by decide +kernel)
set_option maxRecDepth 20000 in
theorem gX11_patch_X11_in : GoodIn wsX11_patch (va_wsS RX11 119 yX11_in wsX11_in) := goodIn_app (goodIn_r _ [9, 10, 6] rfl (by decide +kernel)) ggX11_patch_X11_in
set_option maxRecDepth 20000 in
theorem ggX11_patch_X11_filmOf : GoodIn wsX11_patch wsX11_filmOf := goodIn_r _ [19] rfl (by decide +kernel)
set_option maxRecDepth 20000 in
theorem gX11_patch_X11_filmOf : GoodIn wsX11_patch (va_wsS RX11 244 yX11_filmOf wsX11_filmOf) := goodIn_app (goodIn_r _ [17, 18, 6] rfl (by decide +kernel)) ggX11_patch_X11_filmOf
set_option maxRecDepth 20000 in
theorem ggX11_patch_X11_patchOf : GoodIn wsX11_patch wsX11_patchOf := goodIn_r _ [23, 2, 17, 18, 6, 19, 24, 25, 26, 27, 28, 29, 30, 31, 32, 9, 10, 11, 33, 34, 35, 36, 37, 38, 39, 40, 41, 42, 43, 44, 45, 46, 47, 48, 49, 50, 51, 52, 53, 54, 55, 56, 57, 58, 59, 60, 61, 62, 63, 64, 65, 66, 67, 68, 69, 70, 71, 72, 73, 74, 75, 76, 77, 78, 79, 80, 81, 82] rfl (by decide +kernel)
set_option maxRecDepth 20000 in
theorem gX11_patch_X11_patchOf : GoodIn wsX11_patch (wsV RX11 354 RX11 yX11_patchOf wsX11_patchOf) := goodIn_app (goodIn_r _ [20, 21, 22, 6] rfl (by decide +kernel)) ggX11_patch_X11_patchOf
set_option maxRecDepth 20000 in
theorem ggX11_isToldBy_X11_isCell : GoodIn wsX11_isToldBy wsX11_isCell := goodIn_r _ [8, 9, 10, 11, 7, 12, 19, 20, 21, 22, 23, 24, 25, 26, 27, 28, 29, 30, 31, 32, 33, 34, 35, 36, 37, 38, 39, 40, 41, 42, 43, 44, 45, 46, 47, 48, 49, 50, 51, 52, 53, 54, 55, 56, 57, 58, 59, 60, 61, 62] rfl (by decide +kernel)
set_option maxRecDepth 20000 in
theorem gX11_isToldBy_X11_isCell : GoodIn wsX11_isToldBy (wsV RX11 237 RX11 yX11_isCell wsX11_isCell) := goodIn_app (goodIn_r _ [4, 5, 6, 7] rfl (by decide +kernel)) ggX11_isToldBy_X11_isCell
set_option maxRecDepth 20000 in
theorem ggX11_isToldBy_X11_cellOf : GoodIn wsX11_isToldBy wsX11_cellOf := goodIn_r _ [15] rfl (by decide +kernel)
set_option maxRecDepth 20000 in
theorem gX11_isToldBy_X11_cellOf : GoodIn wsX11_isToldBy (va_wsS RX11 321 yX11_cellOf wsX11_cellOf) := goodIn_app (goodIn_r _ [13, 14, 7] rfl (by decide +kernel)) ggX11_isToldBy_X11_cellOf
set_option maxRecDepth 20000 in
theorem ggX11_isToldBy_X11_filmOf : GoodIn wsX11_isToldBy wsX11_filmOf := goodIn_r _ [18] rfl (by decide +kernel)
set_option maxRecDepth 20000 in
theorem gX11_isToldBy_X11_filmOf : GoodIn wsX11_isToldBy (va_wsS RX11 244 yX11_filmOf wsX11_filmOf) := goodIn_app (goodIn_r _ [16, 17, 7] rfl (by decide +kernel)) ggX11_isToldBy_X11_filmOf
set_option maxRecDepth 20000 in
theorem ggX11_depthsOf_X11_isToldBy : GoodIn wsX11_depthsOf wsX11_isToldBy := goodIn_r _ [5, 6, 7, 8, 9, 10, 11, 4, 12, 13, 14, 15, 16, 17, 18, 19, 20, 21, 22, 23, 24, 25, 26, 27, 28, 29, 30, 31, 32, 33, 34, 35, 36, 37, 38, 39, 40, 41, 42, 43, 44, 45, 46, 47, 48, 49, 50, 51, 52, 53, 54, 55, 56, 57, 58, 59, 60, 61, 62, 63, 64, 65, 66] rfl (by decide +kernel)
set_option maxRecDepth 20000 in
theorem gX11_depthsOf_X11_isToldBy : GoodIn wsX11_depthsOf (wsV RX11 357 RX11 yX11_isToldBy wsX11_isToldBy) := goodIn_app (goodIn_r _ [1, 2, 3, 4] rfl (by decide +kernel)) ggX11_depthsOf_X11_isToldBy
set_option maxRecDepth 20000 in
theorem ggX11_tells_X11_isPane : GoodIn wsX11_tells wsX11_isPane := goodIn_r _ [6, 7, 8, 9, 5, 10, 38, 39, 40, 41, 42, 43, 44, 45, 46, 47, 48, 49, 50, 51, 52, 53, 54, 55, 56, 57, 58, 59, 60, 61, 62, 63, 64, 65, 66, 67, 68, 69, 70, 71, 72, 73, 74, 75, 76, 77, 78, 79, 80, 81] rfl (by decide +kernel)
set_option maxRecDepth 20000 in
theorem gX11_tells_X11_isPane : GoodIn wsX11_tells (wsV RX11 315 RX11 yX11_isPane wsX11_isPane) := goodIn_app (goodIn_r _ [2, 3, 4, 5] rfl (by decide +kernel)) ggX11_tells_X11_isPane
set_option maxRecDepth 20000 in
theorem ggX11_tells_X11_bad : GoodIn wsX11_tells wsX11_bad := goodIn_r _ [14, 1, 15, 38, 39, 40, 41, 42, 43, 44, 45, 46, 47, 48, 49, 50, 51, 52, 53, 54, 55, 56, 57, 58, 59, 60, 61, 62, 63, 64, 65, 66, 67, 68, 69, 70, 71, 72, 73, 74, 75, 76, 77, 78, 79, 80, 81] rfl (by decide +kernel)
set_option maxRecDepth 20000 in
theorem gX11_tells_X11_bad : GoodIn wsX11_tells (wsV RX11 158 RX11 yX11_bad wsX11_bad) := goodIn_app (goodIn_r _ [11, 12, 13, 5] rfl (by decide +kernel)) ggX11_tells_X11_bad
set_option maxRecDepth 20000 in
theorem ggX11_tells_X11_depthsOf : GoodIn wsX11_tells wsX11_depthsOf := goodIn_r _ [19, 20, 21, 22, 5, 23, 24, 25, 26, 27, 28, 29, 30, 31, 8, 9, 10, 32, 33, 34, 35, 36, 37, 38, 39, 40, 41, 42, 43, 44, 45, 46, 47, 48, 49, 50, 51, 52, 53, 54, 55, 56, 57, 58, 59, 60, 61, 62, 63, 64, 65, 66, 67, 68, 69, 70, 71, 72, 73, 74, 75, 76, 77, 78, 79, 80, 81] rfl (by decide +kernel)
set_option maxRecDepth 20000 in
theorem gX11_tells_X11_depthsOf : GoodIn wsX11_tells (wsV RX11 360 RX11 yX11_depthsOf wsX11_depthsOf) := goodIn_app (goodIn_r _ [16, 17, 18, 5] rfl (by decide +kernel)) ggX11_tells_X11_depthsOf
set_option maxRecDepth 20000 in
theorem ggX11_worstOf_X11_has : GoodIn wsX11_worstOf wsX11_has := goodIn_r _ [5] rfl (by decide +kernel)
set_option maxRecDepth 20000 in
theorem gX11_worstOf_X11_has : GoodIn wsX11_worstOf (va_wsS RX11 259 yX11_has wsX11_has) := goodIn_app (goodIn_r _ [2, 3, 4] rfl (by decide +kernel)) ggX11_worstOf_X11_has
set_option maxRecDepth 20000 in
theorem ggX11_worstOf_X11_filmOf : GoodIn wsX11_worstOf wsX11_filmOf := goodIn_r _ [8] rfl (by decide +kernel)
set_option maxRecDepth 20000 in
theorem gX11_worstOf_X11_filmOf : GoodIn wsX11_worstOf (va_wsS RX11 244 yX11_filmOf wsX11_filmOf) := goodIn_app (goodIn_r _ [6, 7, 4] rfl (by decide +kernel)) ggX11_worstOf_X11_filmOf
set_option maxRecDepth 20000 in
theorem ggX11_worstOf_X11_more : GoodIn wsX11_worstOf wsX11_more := goodIn_r _ [11] rfl (by decide +kernel)
set_option maxRecDepth 20000 in
theorem gX11_worstOf_X11_more : GoodIn wsX11_worstOf (va_wsS RX11 221 yX11_more wsX11_more) := goodIn_app (goodIn_r _ [9, 10, 4] rfl (by decide +kernel)) ggX11_worstOf_X11_more
set_option maxRecDepth 20000 in
theorem ggX11_look_X11_isPane : GoodIn wsX11_look wsX11_isPane := goodIn_r _ [6, 7, 8, 9, 5, 10, 56, 57, 58, 59, 60, 61, 62, 63, 64, 65, 66, 67, 68, 69, 70, 71, 72, 73, 74, 75, 76, 77, 78, 79, 80, 81, 82, 83, 84, 85, 86, 87, 88, 89, 90, 91, 92, 93, 94, 95, 96, 97, 98, 99] rfl (by decide +kernel)
set_option maxRecDepth 20000 in
theorem gX11_look_X11_isPane : GoodIn wsX11_look (wsV RX11 315 RX11 yX11_isPane wsX11_isPane) := goodIn_app (goodIn_r _ [2, 3, 4, 5] rfl (by decide +kernel)) ggX11_look_X11_isPane
set_option maxRecDepth 20000 in
theorem ggX11_look_X11_bad : GoodIn wsX11_look wsX11_bad := goodIn_r _ [14, 1, 15, 56, 57, 58, 59, 60, 61, 62, 63, 64, 65, 66, 67, 68, 69, 70, 71, 72, 73, 74, 75, 76, 77, 78, 79, 80, 81, 82, 83, 84, 85, 86, 87, 88, 89, 90, 91, 92, 93, 94, 95, 96, 97, 98, 99] rfl (by decide +kernel)
set_option maxRecDepth 20000 in
theorem gX11_look_X11_bad : GoodIn wsX11_look (wsV RX11 158 RX11 yX11_bad wsX11_bad) := goodIn_app (goodIn_r _ [11, 12, 13, 5] rfl (by decide +kernel)) ggX11_look_X11_bad
set_option maxRecDepth 20000 in
theorem ggX11_look_X11_in : GoodIn wsX11_look wsX11_in := goodIn_r _ [10] rfl (by decide +kernel)
set_option maxRecDepth 20000 in
theorem gX11_look_X11_in : GoodIn wsX11_look (va_wsS RX11 119 yX11_in wsX11_in) := goodIn_app (goodIn_r _ [8, 9, 5] rfl (by decide +kernel)) ggX11_look_X11_in
set_option maxRecDepth 20000 in
theorem ggX11_look_X11_depthsOf : GoodIn wsX11_look wsX11_depthsOf := goodIn_r _ [19, 20, 21, 22, 5, 23, 24, 25, 26, 27, 28, 29, 30, 31, 8, 9, 10, 32, 33, 34, 35, 36, 37, 56, 57, 58, 59, 60, 61, 62, 63, 64, 65, 66, 67, 68, 69, 70, 71, 72, 73, 74, 75, 76, 77, 78, 79, 80, 81, 82, 83, 84, 85, 86, 87, 88, 89, 90, 91, 92, 93, 94, 95, 96, 97, 98, 99] rfl (by decide +kernel)
set_option maxRecDepth 20000 in
theorem gX11_look_X11_depthsOf : GoodIn wsX11_look (wsV RX11 360 RX11 yX11_depthsOf wsX11_depthsOf) := goodIn_app (goodIn_r _ [16, 17, 18, 5] rfl (by decide +kernel)) ggX11_look_X11_depthsOf
set_option maxRecDepth 20000 in
theorem ggX11_look_X11_isOf : GoodIn wsX11_look wsX11_isOf := goodIn_r _ [41, 27, 28, 29, 5, 30, 31, 8, 9, 10, 56, 57, 58, 59, 60, 61, 62, 63, 64, 65, 66, 67, 68, 69, 70, 71, 72, 73, 74, 75, 76, 77, 78, 79, 80, 81, 82, 83, 84, 85, 86, 87, 88, 89, 90, 91, 92, 93, 94, 95, 96, 97, 98, 99] rfl (by decide +kernel)
set_option maxRecDepth 20000 in
theorem gX11_look_X11_isOf : GoodIn wsX11_look (wsV RX11 248 RX11 yX11_isOf wsX11_isOf) := goodIn_app (goodIn_r _ [38, 39, 40, 5] rfl (by decide +kernel)) ggX11_look_X11_isOf
set_option maxRecDepth 20000 in
theorem ggX11_look_X11_isInBook : GoodIn wsX11_look wsX11_isInBook := goodIn_r _ [45, 24, 25, 56, 57, 58, 59, 60, 61, 62, 63, 64, 65, 66, 67, 68, 69, 70, 71, 72, 73, 74, 75, 76, 77, 78, 79, 80, 81, 82, 83, 84, 85, 86, 87, 88, 89, 90, 91, 92, 93, 94, 95, 96, 97, 98, 99] rfl (by decide +kernel)
set_option maxRecDepth 20000 in
theorem gX11_look_X11_isInBook : GoodIn wsX11_look (wsV RX11 363 RX11 yX11_isInBook wsX11_isInBook) := goodIn_app (goodIn_r _ [42, 43, 44, 5] rfl (by decide +kernel)) ggX11_look_X11_isInBook
set_option maxRecDepth 20000 in
theorem ggX11_look_X11_worstOf : GoodIn wsX11_look wsX11_worstOf := goodIn_r _ [49, 26, 50, 51, 5, 52, 35, 36, 37, 53, 54, 55, 56, 57, 58, 59, 60, 61, 62, 63, 64, 65, 66, 67, 68, 69, 70, 71, 72, 73, 74, 75, 76, 77, 78, 79, 80, 81, 82, 83, 84, 85, 86, 87, 88, 89, 90, 91, 92, 93, 94, 95, 96, 97, 98, 99] rfl (by decide +kernel)
set_option maxRecDepth 20000 in
theorem gX11_look_X11_worstOf : GoodIn wsX11_look (wsV RX11 366 RX11 yX11_worstOf wsX11_worstOf) := goodIn_app (goodIn_r _ [46, 47, 48, 5] rfl (by decide +kernel)) ggX11_look_X11_worstOf
set_option maxRecDepth 20000 in
theorem ggX11_circleOf_X11_isOf : GoodIn wsX11_circleOf wsX11_isOf := goodIn_r _ [5, 6, 7, 8, 4, 9, 10, 11, 12, 13, 17, 18, 19, 20, 21, 22, 23, 24, 25, 26, 27, 28, 29, 30, 31, 32, 33, 34, 35, 36, 37, 38, 39, 40, 41, 42, 43, 44, 45, 46, 47, 48, 49, 50, 51, 52, 53, 54, 55, 56, 57, 58, 59, 60] rfl (by decide +kernel)
set_option maxRecDepth 20000 in
theorem gX11_circleOf_X11_isOf : GoodIn wsX11_circleOf (wsV RX11 248 RX11 yX11_isOf wsX11_isOf) := goodIn_app (goodIn_r _ [1, 2, 3, 4] rfl (by decide +kernel)) ggX11_circleOf_X11_isOf
set_option maxRecDepth 20000 in
theorem ggX11_circleOf_X11_far : GoodIn wsX11_circleOf wsX11_far := goodIn_r _ [16] rfl (by decide +kernel)
set_option maxRecDepth 20000 in
theorem gX11_circleOf_X11_far : GoodIn wsX11_circleOf (va_wsS RX11 252 yX11_far wsX11_far) := goodIn_app (goodIn_r _ [14, 15, 4] rfl (by decide +kernel)) ggX11_circleOf_X11_far
set_option maxRecDepth 20000 in
theorem ggX11_covers_X11_isOf : GoodIn wsX11_covers wsX11_isOf := goodIn_r _ [6, 7, 8, 9, 5, 10, 11, 12, 13, 14, 25, 26, 27, 28, 29, 30, 31, 32, 33, 34, 35, 36, 37, 38, 39, 40, 41, 42, 43, 44, 45, 46, 47, 48, 49, 50, 51, 52, 53, 54, 55, 56, 57, 58, 59, 60, 61, 62, 63, 64, 65, 66, 67, 68] rfl (by decide +kernel)
set_option maxRecDepth 20000 in
theorem gX11_covers_X11_isOf : GoodIn wsX11_covers (wsV RX11 248 RX11 yX11_isOf wsX11_isOf) := goodIn_app (goodIn_r _ [2, 3, 4, 5] rfl (by decide +kernel)) ggX11_covers_X11_isOf
set_option maxRecDepth 20000 in
theorem ggX11_covers_X11_circleOf : GoodIn wsX11_covers wsX11_circleOf := goodIn_r _ [18, 2, 3, 4, 5, 6, 7, 8, 9, 10, 11, 12, 13, 14, 19, 20, 21, 25, 26, 27, 28, 29, 30, 31, 32, 33, 34, 35, 36, 37, 38, 39, 40, 41, 42, 43, 44, 45, 46, 47, 48, 49, 50, 51, 52, 53, 54, 55, 56, 57, 58, 59, 60, 61, 62, 63, 64, 65, 66, 67, 68] rfl (by decide +kernel)
set_option maxRecDepth 20000 in
theorem gX11_covers_X11_circleOf : GoodIn wsX11_covers (wsV RX11 372 RX11 yX11_circleOf wsX11_circleOf) := goodIn_app (goodIn_r _ [15, 16, 17, 5] rfl (by decide +kernel)) ggX11_covers_X11_circleOf
set_option maxRecDepth 20000 in
theorem ggX11_covers_X11_covers : GoodIn wsX11_covers wsX11_covers := goodIn_r _ [0, 1, 2, 3, 4, 5, 6, 7, 8, 9, 10, 11, 12, 13, 14, 15, 16, 17, 18, 19, 20, 21, 22, 23, 24, 25, 26, 27, 28, 29, 30, 31, 32, 33, 34, 35, 36, 37, 38, 39, 40, 41, 42, 43, 44, 45, 46, 47, 48, 49, 50, 51, 52, 53, 54, 55, 56, 57, 58, 59, 60, 61, 62, 63, 64, 65, 66, 67, 68] rfl (by decide +kernel)
set_option maxRecDepth 20000 in
theorem gX11_covers_X11_covers : GoodIn wsX11_covers (wsV RX11 375 RX11 yX11_covers wsX11_covers) := goodIn_app (goodIn_r _ [22, 23, 24, 5] rfl (by decide +kernel)) ggX11_covers_X11_covers
set_option maxRecDepth 20000 in
theorem ggX11_cover_X11_isPane : GoodIn wsX11_cover wsX11_isPane := goodIn_r _ [7, 8, 9, 10, 6, 11, 45, 46, 47, 48, 49, 50, 51, 52, 53, 54, 55, 56, 57, 58, 59, 60, 61, 62, 63, 64, 65, 66, 67, 68, 69, 70, 71, 72, 73, 74, 75, 76, 77, 78, 79, 80, 81, 82, 83, 84, 85, 86, 87, 88] rfl (by decide +kernel)
set_option maxRecDepth 20000 in
theorem gX11_cover_X11_isPane : GoodIn wsX11_cover (wsV RX11 315 RX11 yX11_isPane wsX11_isPane) := goodIn_app (goodIn_r _ [3, 4, 5, 6] rfl (by decide +kernel)) ggX11_cover_X11_isPane
set_option maxRecDepth 20000 in
theorem ggX11_cover_X11_bad : GoodIn wsX11_cover wsX11_bad := goodIn_r _ [15, 1, 16, 45, 46, 47, 48, 49, 50, 51, 52, 53, 54, 55, 56, 57, 58, 59, 60, 61, 62, 63, 64, 65, 66, 67, 68, 69, 70, 71, 72, 73, 74, 75, 76, 77, 78, 79, 80, 81, 82, 83, 84, 85, 86, 87, 88] rfl (by decide +kernel)
set_option maxRecDepth 20000 in
theorem gX11_cover_X11_bad : GoodIn wsX11_cover (wsV RX11 158 RX11 yX11_bad wsX11_bad) := goodIn_app (goodIn_r _ [12, 13, 14, 6] rfl (by decide +kernel)) ggX11_cover_X11_bad
set_option maxRecDepth 20000 in
theorem ggX11_cover_X11_areCells : GoodIn wsX11_cover wsX11_areCells := goodIn_r _ [20, 21, 22, 23, 6, 24, 25, 26, 27, 28, 29, 30, 31, 32, 33, 9, 10, 11, 45, 46, 47, 48, 49, 50, 51, 52, 53, 54, 55, 56, 57, 58, 59, 60, 61, 62, 63, 64, 65, 66, 67, 68, 69, 70, 71, 72, 73, 74, 75, 76, 77, 78, 79, 80, 81, 82, 83, 84, 85, 86, 87, 88] rfl (by decide +kernel)
set_option maxRecDepth 20000 in
theorem gX11_cover_X11_areCells : GoodIn wsX11_cover (wsV RX11 342 RX11 yX11_areCells wsX11_areCells) := goodIn_app (goodIn_r _ [17, 18, 19, 6] rfl (by decide +kernel)) ggX11_cover_X11_areCells
set_option maxRecDepth 20000 in
theorem ggX11_cover_X11_in : GoodIn wsX11_cover wsX11_in := goodIn_r _ [11] rfl (by decide +kernel)
set_option maxRecDepth 20000 in
theorem gX11_cover_X11_in : GoodIn wsX11_cover (va_wsS RX11 119 yX11_in wsX11_in) := goodIn_app (goodIn_r _ [9, 10, 6] rfl (by decide +kernel)) ggX11_cover_X11_in
set_option maxRecDepth 20000 in
theorem ggX11_cover_X11_covers : GoodIn wsX11_cover wsX11_covers := goodIn_r _ [37, 2, 25, 26, 27, 6, 28, 29, 30, 31, 32, 33, 9, 10, 11, 38, 39, 40, 41, 42, 43, 44, 34, 35, 36, 45, 46, 47, 48, 49, 50, 51, 52, 53, 54, 55, 56, 57, 58, 59, 60, 61, 62, 63, 64, 65, 66, 67, 68, 69, 70, 71, 72, 73, 74, 75, 76, 77, 78, 79, 80, 81, 82, 83, 84, 85, 86, 87, 88] rfl (by decide +kernel)
set_option maxRecDepth 20000 in
theorem gX11_cover_X11_covers : GoodIn wsX11_cover (wsV RX11 375 RX11 yX11_covers wsX11_covers) := goodIn_app (goodIn_r _ [34, 35, 36, 6] rfl (by decide +kernel)) ggX11_cover_X11_covers
set_option maxRecDepth 20000 in
theorem ggX11_game_X11_isPane : GoodIn wsX11_game wsX11_isPane := goodIn_r _ [7, 8, 9, 10, 6, 11, 17, 18, 19, 20, 21, 22, 23, 24, 25, 26, 27, 28, 29, 30, 31, 32, 33, 34, 35, 36, 37, 38, 39, 40, 41, 42, 43, 44, 45, 46, 47, 48, 49, 50, 51, 52, 53, 54, 55, 56, 57, 58, 59, 60] rfl (by decide +kernel)
set_option maxRecDepth 20000 in
theorem gX11_game_X11_isPane : GoodIn wsX11_game (wsV RX11 315 RX11 yX11_isPane wsX11_isPane) := goodIn_app (goodIn_r _ [3, 4, 5, 6] rfl (by decide +kernel)) ggX11_game_X11_isPane
set_option maxRecDepth 20000 in
theorem ggX11_game_X11_bad : GoodIn wsX11_game wsX11_bad := goodIn_r _ [15, 1, 16, 17, 18, 19, 20, 21, 22, 23, 24, 25, 26, 27, 28, 29, 30, 31, 32, 33, 34, 35, 36, 37, 38, 39, 40, 41, 42, 43, 44, 45, 46, 47, 48, 49, 50, 51, 52, 53, 54, 55, 56, 57, 58, 59, 60] rfl (by decide +kernel)
set_option maxRecDepth 20000 in
theorem gX11_game_X11_bad : GoodIn wsX11_game (wsV RX11 158 RX11 yX11_bad wsX11_bad) := goodIn_app (goodIn_r _ [12, 13, 14, 6] rfl (by decide +kernel)) ggX11_game_X11_bad
set_option maxRecDepth 20000 in
theorem ggX11_game_X11_in : GoodIn wsX11_game wsX11_in := goodIn_r _ [11] rfl (by decide +kernel)
set_option maxRecDepth 20000 in
theorem gX11_game_X11_in : GoodIn wsX11_game (va_wsS RX11 119 yX11_in wsX11_in) := goodIn_app (goodIn_r _ [9, 10, 6] rfl (by decide +kernel)) ggX11_game_X11_in
set_option maxRecDepth 20000 in
theorem ggX11_wayTo_X11_far : GoodIn wsX11_wayTo wsX11_far := goodIn_r _ [6] rfl (by decide +kernel)
set_option maxRecDepth 20000 in
theorem gX11_wayTo_X11_far : GoodIn wsX11_wayTo (va_wsS RX11 252 yX11_far wsX11_far) := goodIn_app (goodIn_r _ [3, 4, 5] rfl (by decide +kernel)) ggX11_wayTo_X11_far
set_option maxRecDepth 20000 in
theorem ggX11_rounds_X11_has : GoodIn wsX11_rounds wsX11_has := goodIn_r _ [7] rfl (by decide +kernel)
set_option maxRecDepth 20000 in
theorem gX11_rounds_X11_has : GoodIn wsX11_rounds (va_wsS RX11 259 yX11_has wsX11_has) := goodIn_app (goodIn_r _ [4, 5, 6] rfl (by decide +kernel)) ggX11_rounds_X11_has
set_option maxRecDepth 20000 in
theorem ggX11_rounds_X11_wayTo : GoodIn wsX11_rounds wsX11_wayTo := goodIn_r _ [11, 3, 12, 13, 14, 6, 15, 19, 20, 21, 22, 23, 24, 25, 26, 27, 28, 29, 30, 31, 32, 33, 34, 35, 36, 37, 38, 39, 40, 41, 42, 43, 44, 45, 46, 47, 48, 49, 50, 51, 52, 53, 54, 55, 56, 57, 58, 59, 60, 61, 62] rfl (by decide +kernel)
set_option maxRecDepth 20000 in
theorem gX11_rounds_X11_wayTo : GoodIn wsX11_rounds (wsV RX11 384 RX11 yX11_wayTo wsX11_wayTo) := goodIn_app (goodIn_r _ [8, 9, 10, 6] rfl (by decide +kernel)) ggX11_rounds_X11_wayTo
set_option maxRecDepth 20000 in
theorem ggX11_rounds_X11_rounds : GoodIn wsX11_rounds wsX11_rounds := goodIn_r _ [0, 1, 2, 3, 4, 5, 6, 7, 8, 9, 10, 11, 12, 13, 14, 15, 16, 17, 18, 19, 20, 21, 22, 23, 24, 25, 26, 27, 28, 29, 30, 31, 32, 33, 34, 35, 36, 37, 38, 39, 40, 41, 42, 43, 44, 45, 46, 47, 48, 49, 50, 51, 52, 53, 54, 55, 56, 57, 58, 59, 60, 61, 62] rfl (by decide +kernel)
set_option maxRecDepth 20000 in
theorem gX11_rounds_X11_rounds : GoodIn wsX11_rounds (wsV RX11 387 RX11 yX11_rounds wsX11_rounds) := goodIn_app (goodIn_r _ [16, 17, 18, 6] rfl (by decide +kernel)) ggX11_rounds_X11_rounds
set_option maxRecDepth 20000 in
theorem ggX11_areOrders_X11_in : GoodIn wsX11_areOrders wsX11_in := goodIn_r _ [5] rfl (by decide +kernel)
set_option maxRecDepth 20000 in
theorem gX11_areOrders_X11_in : GoodIn wsX11_areOrders (va_wsS RX11 119 yX11_in wsX11_in) := goodIn_app (goodIn_r _ [2, 3, 4] rfl (by decide +kernel)) ggX11_areOrders_X11_in
set_option maxRecDepth 20000 in
theorem ggX11_panesOf_X11_has : GoodIn wsX11_panesOf wsX11_has := goodIn_r _ [6] rfl (by decide +kernel)
set_option maxRecDepth 20000 in
theorem gX11_panesOf_X11_has : GoodIn wsX11_panesOf (va_wsS RX11 259 yX11_has wsX11_has) := goodIn_app (goodIn_r _ [3, 4, 5] rfl (by decide +kernel)) ggX11_panesOf_X11_has
set_option maxRecDepth 20000 in
theorem ggX11_round_X11_areOrders : GoodIn wsX11_round wsX11_areOrders := goodIn_r _ [8, 9, 10, 11, 7, 12, 38, 39, 40, 41, 42, 43, 44, 45, 46, 47, 48, 49, 50, 51, 52, 53, 54, 55, 56, 57, 58, 59, 60, 61, 62, 63, 64, 65, 66, 67, 68, 69, 70, 71, 72, 73, 74, 75, 76, 77, 78, 79, 80, 81] rfl (by decide +kernel)
set_option maxRecDepth 20000 in
theorem gX11_round_X11_areOrders : GoodIn wsX11_round (wsV RX11 391 RX11 yX11_areOrders wsX11_areOrders) := goodIn_app (goodIn_r _ [4, 5, 6, 7] rfl (by decide +kernel)) ggX11_round_X11_areOrders
set_option maxRecDepth 20000 in
theorem ggX11_round_X11_in : GoodIn wsX11_round wsX11_in := goodIn_r _ [12] rfl (by decide +kernel)
set_option maxRecDepth 20000 in
theorem gX11_round_X11_in : GoodIn wsX11_round (va_wsS RX11 119 yX11_in wsX11_in) := goodIn_app (goodIn_r _ [10, 11, 7] rfl (by decide +kernel)) ggX11_round_X11_in
set_option maxRecDepth 20000 in
theorem ggX11_round_X11_bad : GoodIn wsX11_round wsX11_bad := goodIn_r _ [16, 1, 17, 38, 39, 40, 41, 42, 43, 44, 45, 46, 47, 48, 49, 50, 51, 52, 53, 54, 55, 56, 57, 58, 59, 60, 61, 62, 63, 64, 65, 66, 67, 68, 69, 70, 71, 72, 73, 74, 75, 76, 77, 78, 79, 80, 81] rfl (by decide +kernel)
set_option maxRecDepth 20000 in
theorem gX11_round_X11_bad : GoodIn wsX11_round (wsV RX11 158 RX11 yX11_bad wsX11_bad) := goodIn_app (goodIn_r _ [13, 14, 15, 7] rfl (by decide +kernel)) ggX11_round_X11_bad
set_option maxRecDepth 20000 in
theorem ggX11_round_X11_panesOf : GoodIn wsX11_round wsX11_panesOf := goodIn_r _ [21, 9, 22, 23, 24, 7, 25, 38, 39, 40, 41, 42, 43, 44, 45, 46, 47, 48, 49, 50, 51, 52, 53, 54, 55, 56, 57, 58, 59, 60, 61, 62, 63, 64, 65, 66, 67, 68, 69, 70, 71, 72, 73, 74, 75, 76, 77, 78, 79, 80, 81] rfl (by decide +kernel)
set_option maxRecDepth 20000 in
theorem gX11_round_X11_panesOf : GoodIn wsX11_round (wsV RX11 394 RX11 yX11_panesOf wsX11_panesOf) := goodIn_app (goodIn_r _ [18, 19, 20, 7] rfl (by decide +kernel)) ggX11_round_X11_panesOf
set_option maxRecDepth 20000 in
theorem ggX11_round_X11_rounds : GoodIn wsX11_round wsX11_rounds := goodIn_r _ [29, 2, 3, 9, 23, 24, 7, 25, 30, 31, 32, 33, 34, 35, 36, 37, 26, 27, 28, 38, 39, 40, 41, 42, 43, 44, 45, 46, 47, 48, 49, 50, 51, 52, 53, 54, 55, 56, 57, 58, 59, 60, 61, 62, 63, 64, 65, 66, 67, 68, 69, 70, 71, 72, 73, 74, 75, 76, 77, 78, 79, 80, 81] rfl (by decide +kernel)
set_option maxRecDepth 20000 in
theorem gX11_round_X11_rounds : GoodIn wsX11_round (wsV RX11 387 RX11 yX11_rounds wsX11_rounds) := goodIn_app (goodIn_r _ [26, 27, 28, 7] rfl (by decide +kernel)) ggX11_round_X11_rounds
set_option maxRecDepth 20000 in
theorem ggX11_isInTime_X11_has : GoodIn wsX11_isInTime wsX11_has := goodIn_r _ [7] rfl (by decide +kernel)
set_option maxRecDepth 20000 in
theorem gX11_isInTime_X11_has : GoodIn wsX11_isInTime (va_wsS RX11 259 yX11_has wsX11_has) := goodIn_app (goodIn_r _ [4, 5, 6] rfl (by decide +kernel)) ggX11_isInTime_X11_has
set_option maxRecDepth 20000 in
theorem ggX11_isInTime_X11_wayTo : GoodIn wsX11_isInTime wsX11_wayTo := goodIn_r _ [11, 1, 12, 13, 14, 6, 15, 19, 20, 21, 22, 23, 24, 25, 26, 27, 28, 29, 30, 31, 32, 33, 34, 35, 36, 37, 38, 39, 40, 41, 42, 43, 44, 45, 46, 47, 48, 49, 50, 51, 52, 53, 54, 55, 56, 57, 58, 59, 60, 61, 62] rfl (by decide +kernel)
set_option maxRecDepth 20000 in
theorem gX11_isInTime_X11_wayTo : GoodIn wsX11_isInTime (wsV RX11 384 RX11 yX11_wayTo wsX11_wayTo) := goodIn_app (goodIn_r _ [8, 9, 10, 6] rfl (by decide +kernel)) ggX11_isInTime_X11_wayTo
set_option maxRecDepth 20000 in
theorem ggX11_isInTime_X11_isInTime : GoodIn wsX11_isInTime wsX11_isInTime := goodIn_r _ [0, 1, 2, 3, 4, 5, 6, 7, 8, 9, 10, 11, 12, 13, 14, 15, 16, 17, 18, 19, 20, 21, 22, 23, 24, 25, 26, 27, 28, 29, 30, 31, 32, 33, 34, 35, 36, 37, 38, 39, 40, 41, 42, 43, 44, 45, 46, 47, 48, 49, 50, 51, 52, 53, 54, 55, 56, 57, 58, 59, 60, 61, 62] rfl (by decide +kernel)
set_option maxRecDepth 20000 in
theorem gX11_isInTime_X11_isInTime : GoodIn wsX11_isInTime (wsV RX11 397 RX11 yX11_isInTime wsX11_isInTime) := goodIn_app (goodIn_r _ [16, 17, 18, 6] rfl (by decide +kernel)) ggX11_isInTime_X11_isInTime
set_option maxRecDepth 20000 in
theorem ggX11_by_X11_areOrders : GoodIn wsX11_by wsX11_areOrders := goodIn_r _ [9, 2, 10, 11, 8, 12, 37, 38, 39, 40, 41, 42, 43, 44, 45, 46, 47, 48, 49, 50, 51, 52, 53, 54, 55, 56, 57, 58, 59, 60, 61, 62, 63, 64, 65, 66, 67, 68, 69, 70, 71, 72, 73, 74, 75, 76, 77, 78, 79, 80] rfl (by decide +kernel)
set_option maxRecDepth 20000 in
theorem gX11_by_X11_areOrders : GoodIn wsX11_by (wsV RX11 391 RX11 yX11_areOrders wsX11_areOrders) := goodIn_app (goodIn_r _ [5, 6, 7, 8] rfl (by decide +kernel)) ggX11_by_X11_areOrders
set_option maxRecDepth 20000 in
theorem ggX11_by_X11_in : GoodIn wsX11_by wsX11_in := goodIn_r _ [12] rfl (by decide +kernel)
set_option maxRecDepth 20000 in
theorem gX11_by_X11_in : GoodIn wsX11_by (va_wsS RX11 119 yX11_in wsX11_in) := goodIn_app (goodIn_r _ [10, 11, 8] rfl (by decide +kernel)) ggX11_by_X11_in
set_option maxRecDepth 20000 in
theorem ggX11_by_X11_bad : GoodIn wsX11_by wsX11_bad := goodIn_r _ [16, 1, 17, 37, 38, 39, 40, 41, 42, 43, 44, 45, 46, 47, 48, 49, 50, 51, 52, 53, 54, 55, 56, 57, 58, 59, 60, 61, 62, 63, 64, 65, 66, 67, 68, 69, 70, 71, 72, 73, 74, 75, 76, 77, 78, 79, 80] rfl (by decide +kernel)
set_option maxRecDepth 20000 in
theorem gX11_by_X11_bad : GoodIn wsX11_by (wsV RX11 158 RX11 yX11_bad wsX11_bad) := goodIn_app (goodIn_r _ [13, 14, 15, 8] rfl (by decide +kernel)) ggX11_by_X11_bad
set_option maxRecDepth 20000 in
theorem ggX11_by_X11_has : GoodIn wsX11_by wsX11_has := goodIn_r _ [20] rfl (by decide +kernel)
set_option maxRecDepth 20000 in
theorem gX11_by_X11_has : GoodIn wsX11_by (va_wsS RX11 259 yX11_has wsX11_has) := goodIn_app (goodIn_r _ [18, 19, 8] rfl (by decide +kernel)) ggX11_by_X11_has
set_option maxRecDepth 20000 in
theorem ggX11_by_X11_panesOf : GoodIn wsX11_by wsX11_panesOf := goodIn_r _ [24, 2, 3, 18, 19, 8, 20, 37, 38, 39, 40, 41, 42, 43, 44, 45, 46, 47, 48, 49, 50, 51, 52, 53, 54, 55, 56, 57, 58, 59, 60, 61, 62, 63, 64, 65, 66, 67, 68, 69, 70, 71, 72, 73, 74, 75, 76, 77, 78, 79, 80] rfl (by decide +kernel)
set_option maxRecDepth 20000 in
theorem gX11_by_X11_panesOf : GoodIn wsX11_by (wsV RX11 394 RX11 yX11_panesOf wsX11_panesOf) := goodIn_app (goodIn_r _ [21, 22, 23, 8] rfl (by decide +kernel)) ggX11_by_X11_panesOf
set_option maxRecDepth 20000 in
theorem ggX11_by_X11_isInTime : GoodIn wsX11_by wsX11_isInTime := goodIn_r _ [28, 2, 3, 4, 18, 19, 8, 20, 29, 30, 31, 32, 33, 34, 35, 36, 25, 26, 27, 37, 38, 39, 40, 41, 42, 43, 44, 45, 46, 47, 48, 49, 50, 51, 52, 53, 54, 55, 56, 57, 58, 59, 60, 61, 62, 63, 64, 65, 66, 67, 68, 69, 70, 71, 72, 73, 74, 75, 76, 77, 78, 79, 80] rfl (by decide +kernel)
set_option maxRecDepth 20000 in
theorem gX11_by_X11_isInTime : GoodIn wsX11_by (wsV RX11 397 RX11 yX11_isInTime wsX11_isInTime) := goodIn_app (goodIn_r _ [25, 26, 27, 8] rfl (by decide +kernel)) ggX11_by_X11_isInTime
set_option maxRecDepth 20000 in
theorem ggX11_share_X11_noCell : GoodIn wsX11_share wsX11_noCell := goodIn_r _ [7, 8, 9, 10, 6, 11, 12, 13, 14, 15, 16, 17, 18, 19, 1, 20, 21, 22, 23, 24, 25, 32, 33, 34, 35, 36, 37, 38, 39, 40, 41, 42, 43, 44, 45, 46, 47, 48, 49, 50, 51, 52, 53, 54, 55, 56, 57, 58, 59, 60, 61, 62, 63, 64, 65, 66, 67, 68, 69, 70, 71, 72, 73, 74, 75] rfl (by decide +kernel)
set_option maxRecDepth 20000 in
theorem gX11_share_X11_noCell : GoodIn wsX11_share (wsV RX11 318 RX11 yX11_noCell wsX11_noCell) := goodIn_app (goodIn_r _ [3, 4, 5, 6] rfl (by decide +kernel)) ggX11_share_X11_noCell
set_option maxRecDepth 20000 in
theorem ggX11_share_X11_in : GoodIn wsX11_share wsX11_in := goodIn_r _ [15] rfl (by decide +kernel)
set_option maxRecDepth 20000 in
theorem gX11_share_X11_in : GoodIn wsX11_share (va_wsS RX11 119 yX11_in wsX11_in) := goodIn_app (goodIn_r _ [13, 14, 6] rfl (by decide +kernel)) ggX11_share_X11_in
set_option maxRecDepth 20000 in
theorem ggX11_share_X11_bad : GoodIn wsX11_share wsX11_bad := goodIn_r _ [19, 1, 20, 32, 33, 34, 35, 36, 37, 38, 39, 40, 41, 42, 43, 44, 45, 46, 47, 48, 49, 50, 51, 52, 53, 54, 55, 56, 57, 58, 59, 60, 61, 62, 63, 64, 65, 66, 67, 68, 69, 70, 71, 72, 73, 74, 75] rfl (by decide +kernel)
set_option maxRecDepth 20000 in
theorem gX11_share_X11_bad : GoodIn wsX11_share (wsV RX11 158 RX11 yX11_bad wsX11_bad) := goodIn_app (goodIn_r _ [16, 17, 18, 6] rfl (by decide +kernel)) ggX11_share_X11_bad
set_option maxRecDepth 20000 in
theorem ggX11_share_X11_onPane : GoodIn wsX11_share wsX11_onPane := goodIn_r _ [28] rfl (by decide +kernel)
set_option maxRecDepth 20000 in
theorem gX11_share_X11_onPane : GoodIn wsX11_share (va_wsS RX11 240 yX11_onPane wsX11_onPane) := goodIn_app (goodIn_r _ [26, 27, 6] rfl (by decide +kernel)) ggX11_share_X11_onPane
set_option maxRecDepth 20000 in
theorem ggX11_share_X11_cellOf : GoodIn wsX11_share wsX11_cellOf := goodIn_r _ [31] rfl (by decide +kernel)
set_option maxRecDepth 20000 in
theorem gX11_share_X11_cellOf : GoodIn wsX11_share (va_wsS RX11 321 yX11_cellOf wsX11_cellOf) := goodIn_app (goodIn_r _ [29, 30, 6] rfl (by decide +kernel)) ggX11_share_X11_cellOf
set_option maxRecDepth 20000 in
theorem ggX11_ahead_X11_isPane : GoodIn wsX11_ahead wsX11_isPane := goodIn_r _ [8, 9, 10, 11, 7, 12, 94, 95, 96, 97, 98, 99, 100, 101, 102, 103, 104, 105, 106, 107, 108, 109, 110, 111, 112, 113, 114, 115, 116, 117, 118, 119, 120, 121, 122, 123, 124, 125, 126, 127, 128, 129, 130, 131, 132, 133, 134, 135, 136, 137] rfl (by decide +kernel)
set_option maxRecDepth 20000 in
theorem gX11_ahead_X11_isPane : GoodIn wsX11_ahead (wsV RX11 315 RX11 yX11_isPane wsX11_isPane) := goodIn_app (goodIn_r _ [4, 5, 6, 7] rfl (by decide +kernel)) ggX11_ahead_X11_isPane
set_option maxRecDepth 20000 in
theorem ggX11_ahead_X11_bad : GoodIn wsX11_ahead wsX11_bad := goodIn_r _ [16, 1, 17, 94, 95, 96, 97, 98, 99, 100, 101, 102, 103, 104, 105, 106, 107, 108, 109, 110, 111, 112, 113, 114, 115, 116, 117, 118, 119, 120, 121, 122, 123, 124, 125, 126, 127, 128, 129, 130, 131, 132, 133, 134, 135, 136, 137] rfl (by decide +kernel)
set_option maxRecDepth 20000 in
theorem gX11_ahead_X11_bad : GoodIn wsX11_ahead (wsV RX11 158 RX11 yX11_bad wsX11_bad) := goodIn_app (goodIn_r _ [13, 14, 15, 7] rfl (by decide +kernel)) ggX11_ahead_X11_bad
set_option maxRecDepth 20000 in
theorem ggX11_ahead_X11_in : GoodIn wsX11_ahead wsX11_in := goodIn_r _ [12] rfl (by decide +kernel)
set_option maxRecDepth 20000 in
theorem gX11_ahead_X11_in : GoodIn wsX11_ahead (va_wsS RX11 119 yX11_in wsX11_in) := goodIn_app (goodIn_r _ [10, 11, 7] rfl (by decide +kernel)) ggX11_ahead_X11_in
set_option maxRecDepth 20000 in
theorem ggX11_ahead_X11_copies : GoodIn wsX11_ahead wsX11_copies := goodIn_r _ [20] rfl (by decide +kernel)
set_option maxRecDepth 20000 in
theorem gX11_ahead_X11_copies : GoodIn wsX11_ahead (va_wsS RX11 308 yX11_copies wsX11_copies) := goodIn_app (goodIn_r _ [18, 19, 7] rfl (by decide +kernel)) ggX11_ahead_X11_copies
set_option maxRecDepth 20000 in
theorem ggX11_ahead_X11_dayEnds : GoodIn wsX11_ahead wsX11_dayEnds := goodIn_r _ [24, 9, 25, 26, 27, 28, 7, 29, 30, 31, 32, 33, 34, 35, 36, 37, 38, 39, 40, 41, 42, 43, 44, 45, 46, 47, 48, 49, 50, 51, 52, 53, 54, 55, 56, 57, 58, 10, 11, 12, 59, 60, 61, 62, 63, 64, 65, 66, 67, 68, 69, 70, 71, 72, 73, 74, 75, 76, 77, 78, 79, 80, 81, 82, 83, 94, 95, 96, 97, 98, 99, 100, 101, 102, 103, 104, 105, 106, 107, 108, 109, 110, 111, 112, 113, 114, 115, 116, 117, 118, 119, 120, 121, 122, 123, 124, 125, 126, 127, 128, 129, 130, 131, 132, 133, 134, 135, 136, 137] rfl (by decide +kernel)
set_option maxRecDepth 20000 in
theorem gX11_ahead_X11_dayEnds : GoodIn wsX11_ahead (wsV RX11 284 RX11 yX11_dayEnds wsX11_dayEnds) := goodIn_app (goodIn_r _ [21, 22, 23, 7] rfl (by decide +kernel)) ggX11_ahead_X11_dayEnds
set_option maxRecDepth 20000 in
theorem ggX11_ahead_X11_onPane : GoodIn wsX11_ahead wsX11_onPane := goodIn_r _ [86] rfl (by decide +kernel)
set_option maxRecDepth 20000 in
theorem gX11_ahead_X11_onPane : GoodIn wsX11_ahead (va_wsS RX11 240 yX11_onPane wsX11_onPane) := goodIn_app (goodIn_r _ [84, 85, 7] rfl (by decide +kernel)) ggX11_ahead_X11_onPane
set_option maxRecDepth 20000 in
theorem ggX11_ahead_X11_seamsOf : GoodIn wsX11_ahead wsX11_seamsOf := goodIn_r _ [90, 36, 37, 7, 38, 50, 51, 52, 53, 54, 55, 56, 57, 58, 10, 11, 12, 94, 95, 96, 97, 98, 99, 100, 101, 102, 103, 104, 105, 106, 107, 108, 109, 110, 111, 112, 113, 114, 115, 116, 117, 118, 119, 120, 121, 122, 123, 124, 125, 126, 127, 128, 129, 130, 131, 132, 133, 134, 135, 136, 137] rfl (by decide +kernel)
set_option maxRecDepth 20000 in
theorem gX11_ahead_X11_seamsOf : GoodIn wsX11_ahead (wsV RX11 348 RX11 yX11_seamsOf wsX11_seamsOf) := goodIn_app (goodIn_r _ [87, 88, 89, 7] rfl (by decide +kernel)) ggX11_ahead_X11_seamsOf
set_option maxRecDepth 20000 in
theorem ggX11_ahead_X11_sightsOf : GoodIn wsX11_ahead wsX11_sightsOf := goodIn_r _ [93, 36, 37, 7, 38] rfl (by decide +kernel)
set_option maxRecDepth 20000 in
theorem gX11_ahead_X11_sightsOf : GoodIn wsX11_ahead (va_wsS RX11 351 yX11_sightsOf wsX11_sightsOf) := goodIn_app (goodIn_r _ [91, 92, 7] rfl (by decide +kernel)) ggX11_ahead_X11_sightsOf
set_option maxRecDepth 20000 in
theorem ggX11_decades_X11_copies : GoodIn wsX11_decades wsX11_copies := goodIn_r _ [9] rfl (by decide +kernel)
set_option maxRecDepth 20000 in
theorem gX11_decades_X11_copies : GoodIn wsX11_decades (va_wsS RX11 308 yX11_copies wsX11_copies) := goodIn_app (goodIn_r _ [6, 7, 8] rfl (by decide +kernel)) ggX11_decades_X11_copies
set_option maxRecDepth 20000 in
theorem ggX11_decades_X11_has : GoodIn wsX11_decades wsX11_has := goodIn_r _ [12] rfl (by decide +kernel)
set_option maxRecDepth 20000 in
theorem gX11_decades_X11_has : GoodIn wsX11_decades (va_wsS RX11 259 yX11_has wsX11_has) := goodIn_app (goodIn_r _ [10, 11, 8] rfl (by decide +kernel)) ggX11_decades_X11_has
set_option maxRecDepth 20000 in
theorem ggX11_decades_X11_breaks : GoodIn wsX11_decades wsX11_breaks := goodIn_r _ [15, 10, 11, 8, 12] rfl (by decide +kernel)
set_option maxRecDepth 20000 in
theorem gX11_decades_X11_breaks : GoodIn wsX11_decades (va_wsS RX11 292 yX11_breaks wsX11_breaks) := goodIn_app (goodIn_r _ [13, 14, 8] rfl (by decide +kernel)) ggX11_decades_X11_breaks
set_option maxRecDepth 20000 in
theorem ggX11_decades_X11_dayEnds : GoodIn wsX11_decades wsX11_dayEnds := goodIn_r _ [19, 4, 20, 21, 22, 23, 8, 24, 25, 26, 27, 28, 29, 30, 31, 32, 33, 34, 35, 36, 37, 38, 39, 40, 41, 42, 43, 44, 45, 46, 47, 48, 49, 50, 51, 52, 53, 54, 55, 56, 57, 58, 59, 60, 61, 10, 11, 12, 62, 63, 64, 65, 66, 67, 68, 69, 70, 71, 72, 73, 74, 75, 76, 77, 78, 79, 80, 81, 82, 83, 84, 85, 86, 87, 88, 89, 90, 91, 92, 93, 94, 95, 96, 97, 98, 99, 100, 101, 102, 103, 104, 105, 106, 107, 108, 109, 110, 111, 112, 113, 114, 115, 116, 117, 118, 119, 120, 121, 122] rfl (by decide +kernel)
set_option maxRecDepth 20000 in
theorem gX11_decades_X11_dayEnds : GoodIn wsX11_decades (wsV RX11 284 RX11 yX11_dayEnds wsX11_dayEnds) := goodIn_app (goodIn_r _ [16, 17, 18, 8] rfl (by decide +kernel)) ggX11_decades_X11_dayEnds
set_option maxRecDepth 20000 in
theorem ggX11_decade_X11_in : GoodIn wsX11_decade wsX11_in := goodIn_r _ [7] rfl (by decide +kernel)
set_option maxRecDepth 20000 in
theorem gX11_decade_X11_in : GoodIn wsX11_decade (va_wsS RX11 119 yX11_in wsX11_in) := goodIn_app (goodIn_r _ [4, 5, 6] rfl (by decide +kernel)) ggX11_decade_X11_in
set_option maxRecDepth 20000 in
theorem ggX11_decade_X11_bad : GoodIn wsX11_decade wsX11_bad := goodIn_r _ [11, 1, 12, 99, 100, 101, 102, 103, 104, 105, 106, 107, 108, 109, 110, 111, 112, 113, 114, 115, 116, 117, 118, 119, 120, 121, 122, 123, 124, 125, 126, 127, 128, 129, 130, 131, 132, 133, 134, 135, 136, 137, 138, 139, 140, 141, 142] rfl (by decide +kernel)
set_option maxRecDepth 20000 in
theorem gX11_decade_X11_bad : GoodIn wsX11_decade (wsV RX11 158 RX11 yX11_bad wsX11_bad) := goodIn_app (goodIn_r _ [8, 9, 10, 6] rfl (by decide +kernel)) ggX11_decade_X11_bad
set_option maxRecDepth 20000 in
theorem ggX11_decade_X11_decades : GoodIn wsX11_decade wsX11_decades := goodIn_r _ [16, 3, 2, 17, 18, 19, 20, 21, 6, 22, 23, 24, 25, 26, 27, 28, 29, 30, 31, 32, 33, 34, 35, 36, 37, 38, 39, 40, 41, 42, 43, 44, 45, 46, 47, 48, 49, 50, 51, 52, 53, 54, 55, 56, 57, 58, 59, 60, 61, 62, 63, 64, 65, 66, 4, 5, 7, 67, 68, 69, 70, 71, 72, 73, 74, 75, 76, 77, 78, 79, 80, 81, 82, 83, 84, 85, 86, 87, 88, 99, 100, 101, 102, 103, 104, 105, 106, 107, 108, 109, 110, 111, 112, 113, 114, 115, 116, 117, 118, 119, 120, 121, 122, 123, 124, 125, 126, 127, 128, 129, 130, 131, 132, 133, 134, 135, 136, 137, 138, 139, 140, 141, 142] rfl (by decide +kernel)
set_option maxRecDepth 20000 in
theorem gX11_decade_X11_decades : GoodIn wsX11_decade (wsV RX11 405 RX11 yX11_decades wsX11_decades) := goodIn_app (goodIn_r _ [13, 14, 15, 6] rfl (by decide +kernel)) ggX11_decade_X11_decades
set_option maxRecDepth 20000 in
theorem ggX11_decade_X11_onAll : GoodIn wsX11_decade wsX11_onAll := goodIn_r _ [92, 18, 93, 94, 6, 95, 99, 100, 101, 102, 103, 104, 105, 106, 107, 108, 109, 110, 111, 112, 113, 114, 115, 116, 117, 118, 119, 120, 121, 122, 123, 124, 125, 126, 127, 128, 129, 130, 131, 132, 133, 134, 135, 136, 137, 138, 139, 140, 141, 142] rfl (by decide +kernel)
set_option maxRecDepth 20000 in
theorem gX11_decade_X11_onAll : GoodIn wsX11_decade (wsV RX11 312 RX11 yX11_onAll wsX11_onAll) := goodIn_app (goodIn_r _ [89, 90, 91, 6] rfl (by decide +kernel)) ggX11_decade_X11_onAll
set_option maxRecDepth 20000 in
theorem ggX11_decade_X11_ones : GoodIn wsX11_decade wsX11_ones := goodIn_r _ [98] rfl (by decide +kernel)
set_option maxRecDepth 20000 in
theorem gX11_decade_X11_ones : GoodIn wsX11_decade (va_wsS RX11 409 yX11_ones wsX11_ones) := goodIn_app (goodIn_r _ [96, 97, 6] rfl (by decide +kernel)) ggX11_decade_X11_ones
set_option maxRecDepth 20000 in
theorem ggX11_span_X11_in : GoodIn wsX11_span wsX11_in := goodIn_r _ [6] rfl (by decide +kernel)
set_option maxRecDepth 20000 in
theorem gX11_span_X11_in : GoodIn wsX11_span (va_wsS RX11 119 yX11_in wsX11_in) := goodIn_app (goodIn_r _ [3, 4, 5] rfl (by decide +kernel)) ggX11_span_X11_in
set_option maxRecDepth 20000 in
theorem ggX11_span_X11_isPane : GoodIn wsX11_span wsX11_isPane := goodIn_r _ [10, 11, 3, 4, 5, 6, 100, 101, 102, 103, 104, 105, 106, 107, 108, 109, 110, 111, 112, 113, 114, 115, 116, 117, 118, 119, 120, 121, 122, 123, 124, 125, 126, 127, 128, 129, 130, 131, 132, 133, 134, 135, 136, 137, 138, 139, 140, 141, 142, 143] rfl (by decide +kernel)
set_option maxRecDepth 20000 in
theorem gX11_span_X11_isPane : GoodIn wsX11_span (wsV RX11 315 RX11 yX11_isPane wsX11_isPane) := goodIn_app (goodIn_r _ [7, 8, 9, 5] rfl (by decide +kernel)) ggX11_span_X11_isPane
set_option maxRecDepth 20000 in
theorem ggX11_span_X11_bad : GoodIn wsX11_span wsX11_bad := goodIn_r _ [15, 1, 16, 100, 101, 102, 103, 104, 105, 106, 107, 108, 109, 110, 111, 112, 113, 114, 115, 116, 117, 118, 119, 120, 121, 122, 123, 124, 125, 126, 127, 128, 129, 130, 131, 132, 133, 134, 135, 136, 137, 138, 139, 140, 141, 142, 143] rfl (by decide +kernel)
set_option maxRecDepth 20000 in
theorem gX11_span_X11_bad : GoodIn wsX11_span (wsV RX11 158 RX11 yX11_bad wsX11_bad) := goodIn_app (goodIn_r _ [12, 13, 14, 5] rfl (by decide +kernel)) ggX11_span_X11_bad
set_option maxRecDepth 20000 in
theorem ggX11_span_X11_decades : GoodIn wsX11_span wsX11_decades := goodIn_r _ [20, 21, 2, 22, 11, 23, 24, 25, 5, 26, 27, 28, 29, 30, 31, 32, 33, 34, 35, 36, 37, 38, 39, 40, 41, 42, 43, 44, 45, 46, 47, 48, 49, 50, 51, 52, 53, 54, 55, 56, 57, 58, 59, 60, 61, 62, 63, 64, 65, 66, 67, 68, 69, 70, 3, 4, 6, 71, 72, 73, 74, 75, 76, 77, 78, 79, 80, 81, 82, 83, 84, 85, 86, 87, 88, 89, 90, 91, 92, 100, 101, 102, 103, 104, 105, 106, 107, 108, 109, 110, 111, 112, 113, 114, 115, 116, 117, 118, 119, 120, 121, 122, 123, 124, 125, 126, 127, 128, 129, 130, 131, 132, 133, 134, 135, 136, 137, 138, 139, 140, 141, 142, 143] rfl (by decide +kernel)
set_option maxRecDepth 20000 in
theorem gX11_span_X11_decades : GoodIn wsX11_span (wsV RX11 405 RX11 yX11_decades wsX11_decades) := goodIn_app (goodIn_r _ [17, 18, 19, 5] rfl (by decide +kernel)) ggX11_span_X11_decades
set_option maxRecDepth 20000 in
theorem ggX11_span_X11_onAll : GoodIn wsX11_span wsX11_onAll := goodIn_r _ [96, 11, 97, 98, 5, 99, 100, 101, 102, 103, 104, 105, 106, 107, 108, 109, 110, 111, 112, 113, 114, 115, 116, 117, 118, 119, 120, 121, 122, 123, 124, 125, 126, 127, 128, 129, 130, 131, 132, 133, 134, 135, 136, 137, 138, 139, 140, 141, 142, 143] rfl (by decide +kernel)
set_option maxRecDepth 20000 in
theorem gX11_span_X11_onAll : GoodIn wsX11_span (wsV RX11 312 RX11 yX11_onAll wsX11_onAll) := goodIn_app (goodIn_r _ [93, 94, 95, 5] rfl (by decide +kernel)) ggX11_span_X11_onAll
set_option maxRecDepth 20000 in
theorem ggX11_span_X11_less : GoodIn wsX11_span wsX11_less := goodIn_r _ [61] rfl (by decide +kernel)
set_option maxRecDepth 20000 in
theorem gX11_span_X11_less : GoodIn wsX11_span (va_wsS RX11 218 yX11_less wsX11_less) := goodIn_app (goodIn_r _ [59, 60, 5] rfl (by decide +kernel)) ggX11_span_X11_less
set_option maxRecDepth 20000 in
theorem ggX11_span_X11_more : GoodIn wsX11_span wsX11_more := goodIn_r _ [88] rfl (by decide +kernel)
set_option maxRecDepth 20000 in
theorem gX11_span_X11_more : GoodIn wsX11_span (va_wsS RX11 221 yX11_more wsX11_more) := goodIn_app (goodIn_r _ [86, 87, 5] rfl (by decide +kernel)) ggX11_span_X11_more
set_option maxRecDepth 20000 in
theorem ggX11_span_X11_has : GoodIn wsX11_span wsX11_has := goodIn_r _ [29] rfl (by decide +kernel)
set_option maxRecDepth 20000 in
theorem gX11_span_X11_has : GoodIn wsX11_span (va_wsS RX11 259 yX11_has wsX11_has) := goodIn_app (goodIn_r _ [27, 28, 5] rfl (by decide +kernel)) ggX11_span_X11_has
set_option maxRecDepth 20000 in
theorem ggX11_putsAll_X11_puts : GoodIn wsX11_putsAll wsX11_puts := goodIn_r _ [9, 1, 10, 11, 12, 13, 14, 15, 16, 17, 18, 19, 20, 21, 22, 23, 24, 25, 26, 27, 28, 29, 30, 31, 32, 33, 34, 35, 36, 37, 38, 39, 40, 41, 42, 43, 44, 45, 46, 47, 48, 49, 50, 51, 52, 53] rfl (by decide +kernel)
set_option maxRecDepth 20000 in
theorem gX11_putsAll_X11_puts : GoodIn wsX11_putsAll (wsV RX11 415 RX11 yX11_puts wsX11_puts) := goodIn_app (goodIn_r _ [5, 6, 7, 8] rfl (by decide +kernel)) ggX11_putsAll_X11_puts
set_option maxRecDepth 20000 in
theorem ggX11_image_X11_putsAll : GoodIn wsX11_image wsX11_putsAll := goodIn_r _ [8, 9, 10, 11, 12, 13, 14, 15, 7, 16, 17, 18, 19, 20, 21, 22, 23, 24, 25, 26, 27, 28, 29, 30, 31, 32, 33, 34, 35, 36, 37, 38, 39, 40, 41, 42, 43, 44, 45, 46, 47, 48, 49, 50, 51, 52, 53, 54, 55, 56, 57, 58, 59, 60] rfl (by decide +kernel)
set_option maxRecDepth 20000 in
theorem gX11_image_X11_putsAll : GoodIn wsX11_image (wsV RX11 419 RX11 yX11_putsAll wsX11_putsAll) := goodIn_app (goodIn_r _ [4, 5, 6, 7] rfl (by decide +kernel)) ggX11_image_X11_putsAll
set_option maxRecDepth 20000 in
theorem ggX11_restore_X11_putsAll : GoodIn wsX11_restore wsX11_putsAll := goodIn_r _ [9, 10, 11, 12, 13, 14, 15, 16, 8, 17, 18, 19, 20, 21, 22, 23, 24, 25, 26, 27, 28, 29, 30, 31, 32, 33, 34, 35, 36, 37, 38, 39, 40, 41, 42, 43, 44, 45, 46, 47, 48, 49, 50, 51, 52, 53, 54, 55, 56, 57, 58, 59, 60, 61] rfl (by decide +kernel)
set_option maxRecDepth 20000 in
theorem gX11_restore_X11_putsAll : GoodIn wsX11_restore (wsV RX11 419 RX11 yX11_putsAll wsX11_putsAll) := goodIn_app (goodIn_r _ [5, 6, 7, 8] rfl (by decide +kernel)) ggX11_restore_X11_putsAll
set_option maxRecDepth 20000 in
theorem ggX11_status_X11_in : GoodIn wsX11_status wsX11_in := goodIn_r _ [6] rfl (by decide +kernel)
set_option maxRecDepth 20000 in
theorem gX11_status_X11_in : GoodIn wsX11_status (va_wsS RX11 119 yX11_in wsX11_in) := goodIn_app (goodIn_r _ [3, 4, 5] rfl (by decide +kernel)) ggX11_status_X11_in
