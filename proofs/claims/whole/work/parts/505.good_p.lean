theorem vx_allf (l : List Cond) : (l.filter goodWord).all goodWord = true := List.all_eq_true.mpr fun x hx => (List.mem_filter.mp hx).2
set_option maxRecDepth 20000 in
theorem ggX10_init_X7_init : GoodIn wsX10_init wsX7_init := goodIn_r _ [48, 49, 2, 3, 50, 51, 52, 137, 138, 139, 140, 141, 142, 143, 144, 145] rfl (by decide +kernel)
set_option maxRecDepth 20000 in
theorem gX10_init_X7_init_n9 : GoodIn wsX10_init (wsX7_init) := ggX10_init_X7_init
set_option maxRecDepth 20000 in
theorem ggX10_init_X6_init : GoodIn wsX10_init wsX6_init := goodIn_r _ [55, 56, 2, 3, 45, 57, 58, 59, 60, 61, 62, 63, 64, 65, 66, 10, 67, 68, 69, 70, 71, 72, 73, 74, 75, 76, 77, 162, 163, 164, 165, 166, 167, 168, 169, 170, 171, 172, 173, 174] rfl (by decide +kernel)
set_option maxRecDepth 20000 in
theorem gX10_init_X6_init : GoodIn wsX10_init (wsX6_init) := ggX10_init_X6_init
set_option maxRecDepth 20000 in
theorem ggX10_init_X3_init : GoodIn wsX10_init wsX3_init := goodIn_r _ [80, 81, 2, 3, 45, 82, 83, 84, 85, 86, 15, 87, 88, 175, 176, 177] rfl (by decide +kernel)
set_option maxRecDepth 20000 in
theorem gX10_init_X3_init : GoodIn wsX10_init (wsX3_init) := ggX10_init_X3_init
set_option maxRecDepth 20000 in
theorem ggX10_init_X0_init : GoodIn wsX10_init wsX0_init := goodIn_r _ [90, 91, 2, 3, 45, 92, 93, 178, 179, 180, 181] rfl (by decide +kernel)
set_option maxRecDepth 20000 in
theorem gX10_init_X0_init_n38 : GoodIn wsX10_init (wsX0_init) := ggX10_init_X0_init
set_option maxRecDepth 20000 in
theorem ggX10_init_X1_init : GoodIn wsX10_init wsX1_init := goodIn_r _ [95, 96, 2, 3, 45, 97, 98, 182, 183, 184, 185] rfl (by decide +kernel)
set_option maxRecDepth 20000 in
theorem gX10_init_X1_init_n48 : GoodIn wsX10_init (wsX1_init) := ggX10_init_X1_init
set_option maxRecDepth 20000 in
theorem ggX10_init_X5_init : GoodIn wsX10_init wsX5_init := goodIn_r _ [100, 101, 2, 3, 45, 102, 186, 187, 188] rfl (by decide +kernel)
set_option maxRecDepth 20000 in
theorem gX10_init_X5_init_n55 : GoodIn wsX10_init (wsX5_init) := ggX10_init_X5_init
set_option maxRecDepth 20000 in
theorem ggX10_init_X4_init : GoodIn wsX10_init wsX4_init := goodIn_r _ [104, 105, 2, 3, 106, 107, 108, 109, 110, 111, 112, 113, 45, 114, 115, 116, 211, 212, 213, 214, 215, 216, 217, 218, 189, 190, 191] rfl (by decide +kernel)
set_option maxRecDepth 20000 in
theorem gX10_init_X4_init_n62 : GoodIn wsX10_init (wsX4_init) := ggX10_init_X4_init
set_option maxRecDepth 20000 in
theorem ggX10_init_X8_init : GoodIn wsX10_init wsX8_init := goodIn_r _ [118, 119, 2, 3, 120, 107, 108, 121, 45, 122, 123, 111, 112, 113, 114, 115, 116, 211, 212, 213, 214, 215, 216, 217, 218, 192, 193, 194, 195, 196, 197] rfl (by decide +kernel)
set_option maxRecDepth 20000 in
theorem gX10_init_X8_init_n69 : GoodIn wsX10_init (wsX8_init) := ggX10_init_X8_init
set_option maxRecDepth 20000 in
theorem ggX10_init_X9_init : GoodIn wsX10_init wsX9_init := goodIn_r _ [126, 127, 2, 3, 45, 128, 129, 130, 131, 132, 133, 134, 135, 136, 198, 199, 200, 201, 202, 203, 204, 205, 206, 207, 208, 209, 210] rfl (by decide +kernel)
set_option maxRecDepth 20000 in
theorem gX10_init_X9_init : GoodIn wsX10_init (wsX9_init) := ggX10_init_X9_init
set_option maxRecDepth 20000 in
theorem ggX10_feed_X7_hasRoom : GoodIn wsX10_feed wsX7_hasRoom := goodIn_r _ [7, 8, 30, 31, 32, 33, 34, 35, 36, 37, 38] rfl (by decide +kernel)
set_option maxRecDepth 20000 in
theorem gX10_feed_X7_hasRoom : GoodIn wsX10_feed (wsV RX10 95 RX7 yX7_hasRoom wsX7_hasRoom) := goodIn_app (goodIn_r _ [3, 4, 5, 6] rfl (by decide +kernel)) ggX10_feed_X7_hasRoom
set_option maxRecDepth 20000 in
theorem ggX10_feed_X7_put : GoodIn wsX10_feed wsX7_put := goodIn_r _ [12, 8, 13, 30, 31, 32, 33, 34, 35, 36, 37, 38] rfl (by decide +kernel)
set_option maxRecDepth 20000 in
theorem gX10_feed_X7_put : GoodIn wsX10_feed (wsV RX10 99 RX7 yX7_put wsX7_put) := goodIn_app (goodIn_r _ [9, 10, 11, 6] rfl (by decide +kernel)) ggX10_feed_X7_put
set_option maxRecDepth 20000 in
theorem ggX10_street_X10_beginText : GoodIn wsX10_street wsX10_beginText := goodIn_ca (goodIn_r _ [16, 2, 3, 17, 18, 19, 15, 20, 21, 22, 23, 24, 25, 26, 27, 28, 29, 30, 31, 32, 33, 34, 35, 36, 37, 38, 39, 40, 41, 42, 43, 44, 45, 206, 207, 208, 209, 210, 211, 212, 213, 214, 215, 216, 217, 218, 219, 220, 221, 222, 223, 224, 225, 226, 227, 228, 229, 230] rfl (by decide +kernel)) (goodIn_sub (fun _ h => List.mem_cons_of_mem _ (List.mem_append_right _ h)) (vx_allf _))
set_option maxRecDepth 20000 in
theorem gX10_street_X10_beginText : GoodIn wsX10_street (wsV RX10 107 RX10 yX10_beginText wsX10_beginText) := goodIn_app (goodIn_r _ [12, 13, 14, 15] rfl (by decide +kernel)) ggX10_street_X10_beginText
set_option maxRecDepth 20000 in
theorem ggX10_street_X6_read : GoodIn wsX10_street wsX6_read := goodIn_r _ [50, 51, 52, 53, 54, 55, 49, 56, 57, 58, 59, 60, 61, 62, 63, 64, 65, 66, 67, 68, 69, 70, 71, 72, 73, 74, 75, 76, 77, 27, 78, 41, 30, 37, 38, 79, 80, 81, 82, 83, 84, 85, 86, 87, 88, 89, 90, 91, 92, 93, 94, 95, 96, 97, 98, 99, 100, 101, 102, 103, 104, 105, 106, 107, 108, 109, 110, 111, 112, 113, 114, 115, 116, 117, 118, 119, 120, 121, 122, 123, 124, 125, 126, 127, 128, 129, 130, 131, 31, 32, 132, 133, 134, 135, 136, 34, 35, 36, 29, 39, 40, 42, 43, 44, 45, 137, 138, 139, 140, 141, 142, 143, 144, 145, 146, 147, 148, 149, 150, 151, 152, 153, 154, 33, 155, 156, 157, 158, 159, 160, 161, 162, 163, 164, 165, 166, 167, 168, 169, 170, 171, 222, 223, 224, 225, 226, 227, 228, 229, 230, 231, 232, 233, 234, 235, 236, 237, 238, 239, 240, 241, 242, 243] rfl (by decide +kernel)
set_option maxRecDepth 20000 in
theorem gX10_street_X6_read : GoodIn wsX10_street (wsV RX10 111 RX6 yX6_read wsX6_read) := goodIn_app (goodIn_r _ [46, 47, 48, 49] rfl (by decide +kernel)) ggX10_street_X6_read
set_option maxRecDepth 20000 in
theorem ggX10_street_X3_forget : GoodIn wsX10_street wsX3_forget := goodIn_r _ [176, 177, 178, 244, 245, 246] rfl (by decide +kernel)
set_option maxRecDepth 20000 in
theorem gX10_street_X3_forget : GoodIn wsX10_street (wsV RX10 118 RX3 yX3_forget wsX3_forget) := goodIn_app (goodIn_r _ [172, 173, 174, 175] rfl (by decide +kernel)) ggX10_street_X3_forget
set_option maxRecDepth 20000 in
theorem ggX10_street_X0_forget : GoodIn wsX10_street wsX0_forget := goodIn_r _ [183, 184, 185, 247, 248, 249, 250] rfl (by decide +kernel)
set_option maxRecDepth 20000 in
theorem gX10_street_X0_forget : GoodIn wsX10_street (wsV RX10 121 RX0 yX0_forget wsX0_forget) := goodIn_app (goodIn_r _ [179, 180, 181, 182] rfl (by decide +kernel)) ggX10_street_X0_forget
set_option maxRecDepth 20000 in
theorem ggX10_street_X4_forget : GoodIn wsX10_street wsX4_forget := goodIn_r _ [190, 191, 192, 193, 194, 195, 196, 197, 198, 199, 200, 201, 202, 203, 204, 205, 65, 66, 67, 251, 252, 253, 254, 255, 256, 257, 258, 259, 260, 261] rfl (by decide +kernel)
set_option maxRecDepth 20000 in
theorem gX10_street_X4_forget : GoodIn wsX10_street (wsV RX10 122 RX4 yX4_forget wsX4_forget) := goodIn_app (goodIn_r _ [186, 187, 188, 189] rfl (by decide +kernel)) ggX10_street_X4_forget
set_option maxRecDepth 20000 in
theorem ggX10_law_X10_beginText : GoodIn wsX10_law wsX10_beginText := goodIn_ca (goodIn_r _ [10, 2, 3, 11, 12, 13, 9, 14, 15, 16, 17, 18, 19, 20, 21, 22, 23, 24, 25, 26, 27, 28, 29, 30, 31, 32, 33, 34, 35, 36, 37, 38, 39, 143, 144, 145, 146, 147, 148, 149, 150, 151, 152, 153, 154, 155, 156, 157, 158, 159, 160, 161, 162, 163, 164, 165, 166, 167] rfl (by decide +kernel)) (goodIn_sub (fun _ h => List.mem_cons_of_mem _ (List.mem_append_right _ h)) (vx_allf _))
set_option maxRecDepth 20000 in
theorem gX10_law_X10_beginText : GoodIn wsX10_law (wsV RX10 107 RX10 yX10_beginText wsX10_beginText) := goodIn_app (goodIn_r _ [6, 7, 8, 9] rfl (by decide +kernel)) ggX10_law_X10_beginText
set_option maxRecDepth 20000 in
theorem ggX10_law_X3_read : GoodIn wsX10_law wsX3_read := goodIn_r _ [44, 45, 46, 47, 48, 43, 49, 50, 51, 52, 53, 54, 55, 21, 56, 35, 32, 31, 57, 28, 29, 30, 25, 24, 23, 33, 34, 36, 37, 38, 39, 58, 59, 60, 61, 62, 63, 64, 65, 66, 67, 68, 69, 70, 71, 72, 73, 74, 75, 76, 26, 27, 77, 78, 79, 80, 81, 82, 83, 84, 85, 86, 87, 88, 89, 90, 91, 92, 93, 94, 95, 96, 97, 98, 99, 100, 101, 102, 103, 104, 105, 106, 107, 108, 109, 110, 111, 112, 113, 114, 115, 116, 117, 118, 119, 120, 121, 122, 123, 124, 125, 126, 127, 128, 129, 130, 131, 132, 133, 134, 135, 136, 137, 138, 139, 140, 141, 142, 168, 169, 170, 159, 160, 161, 162, 163, 164, 165, 166, 167] rfl (by decide +kernel)
set_option maxRecDepth 20000 in
theorem gX10_law_X3_read : GoodIn wsX10_law (wsV RX10 132 RX3 yX3_read wsX3_read) := goodIn_app (goodIn_r _ [40, 41, 42, 43] rfl (by decide +kernel)) ggX10_law_X3_read
set_option maxRecDepth 20000 in
theorem ggX10_work_X10_beginText : GoodIn wsX10_work wsX10_beginText := goodIn_ca (goodIn_r _ [16, 3, 4, 17, 18, 19, 15, 20, 21, 22, 23, 24, 25, 26, 27, 28, 29, 30, 31, 32, 33, 34, 35, 36, 37, 38, 39, 40, 41, 42, 43, 44, 45, 310, 311, 312, 313, 314, 315, 316, 317, 318, 319, 320, 321, 322, 323, 324, 325, 329, 330, 331, 332, 333, 334, 335, 336, 337] rfl (by decide +kernel)) (goodIn_sub (fun _ h => List.mem_cons_of_mem _ (List.mem_append_right _ h)) (vx_allf _))
set_option maxRecDepth 20000 in
theorem gX10_work_X10_beginText : GoodIn wsX10_work (wsV RX10 107 RX10 yX10_beginText wsX10_beginText) := goodIn_app (goodIn_r _ [12, 13, 14, 15] rfl (by decide +kernel)) ggX10_work_X10_beginText
set_option maxRecDepth 20000 in
theorem ggX10_work_X9_read : GoodIn wsX10_work wsX9_read := goodIn_r _ [50, 51, 52, 53, 54, 49, 55, 56, 57, 58, 59, 60, 61, 62, 27, 63, 64, 65, 66, 67, 41, 38, 37, 33, 34, 35, 36, 31, 30, 29, 39, 40, 42, 43, 44, 45, 68, 69, 70, 71, 32, 72, 73, 74, 75, 76, 77, 78, 79, 80, 81, 82, 83, 84, 85, 86, 87, 88, 89, 90, 91, 92, 93, 94, 95, 96, 97, 98, 99, 100, 101, 102, 103, 104, 105, 106, 107, 108, 109, 110, 111, 112, 113, 114, 115, 116, 117, 118, 119, 120, 121, 122, 123, 124, 125, 126, 127, 128, 129, 130, 131, 132, 133, 134, 135, 136, 137, 138, 139, 140, 141, 142, 143, 144, 145, 146, 147, 148, 149, 150, 151, 152, 338, 339, 340, 341, 342, 343, 344, 345, 346, 347, 348, 349, 350, 329, 330, 331, 332, 333, 334, 335, 336, 337, 351, 352, 353, 354, 355, 356, 357, 358, 359, 360, 361, 362, 363] rfl (by decide +kernel)
set_option maxRecDepth 20000 in
theorem gX10_work_X9_read : GoodIn wsX10_work (wsV RX10 136 RX9 yX9_read wsX9_read) := goodIn_app (goodIn_r _ [46, 47, 48, 49] rfl (by decide +kernel)) ggX10_work_X9_read
set_option maxRecDepth 20000 in
theorem ggX10_work_X4_keep : GoodIn wsX10_work wsX4_keep := goodIn_r _ [157, 158, 159, 160, 161, 162, 156, 163, 164, 165, 166, 167, 168, 169, 170, 171, 172, 173, 174, 175, 176, 177, 178, 179, 180, 181, 182, 183, 184, 185, 186, 187, 188, 189, 326, 327, 328, 364, 365, 366, 367, 368, 369, 370, 371] rfl (by decide +kernel)
set_option maxRecDepth 20000 in
theorem gX10_work_X4_keep : GoodIn wsX10_work (wsV RX10 139 RX4 yX4_keep wsX4_keep) := goodIn_app (goodIn_r _ [153, 154, 155, 156] rfl (by decide +kernel)) ggX10_work_X4_keep
set_option maxRecDepth 20000 in
theorem ggX10_work_X9_doAll : GoodIn wsX10_work wsX9_doAll := goodIn_r _ [193, 194, 195, 196, 51, 197, 198, 199, 49, 200, 73, 75, 201, 202, 203, 204, 205, 206, 207, 143, 208, 209, 74, 144, 146, 148, 210, 211, 212, 213, 167, 214, 175, 215, 216, 44, 217, 218, 219, 220, 221, 176, 185, 222, 223, 224, 225, 174, 226, 227, 228, 229, 230, 231, 232, 233, 234, 235, 236, 237, 238, 239, 240, 241, 242, 243, 244, 245, 246, 247, 248, 249, 250, 251, 252, 253, 254, 255, 256, 257, 15, 258, 259, 260, 261, 262, 263, 264, 265, 266, 267, 268, 269, 270, 271, 272, 273, 274, 275, 276, 277, 188, 278, 279, 280, 281, 282, 283, 284, 285, 286, 287, 288, 289, 290, 291, 292, 293, 294, 295, 181, 182, 183, 184, 186, 296, 297, 298, 299, 300, 301, 302, 303, 304, 305, 306, 307, 308, 309, 338, 339, 340, 341, 342, 343, 344, 345, 346, 347, 348, 349, 350, 351, 352, 353, 354, 355, 356, 357, 358, 359, 360, 361, 362, 363, 364, 365, 366, 367, 368, 369, 370, 371, 372, 373, 374, 375, 376, 377, 378, 379, 380] rfl (by decide +kernel)
set_option maxRecDepth 20000 in
theorem gX10_work_X9_doAll : GoodIn wsX10_work (wsV RX10 142 RX9 yX9_doAll wsX9_doAll) := goodIn_app (goodIn_r _ [190, 191, 192, 49] rfl (by decide +kernel)) ggX10_work_X9_doAll
set_option maxRecDepth 20000 in
theorem ggX10_book_X10_beginText : GoodIn wsX10_book wsX10_beginText := goodIn_ca (goodIn_r _ [11, 2, 3, 12, 13, 14, 10, 15, 16, 17, 18, 19, 20, 21, 22, 23, 24, 25, 26, 27, 28, 29, 30, 31, 32, 33, 34, 35, 36, 37, 38, 39, 40, 82, 83, 84, 85, 86, 87, 88, 89, 90, 91, 92, 93, 94, 95, 96, 97, 98, 99, 100, 101, 102, 103, 104, 105, 106] rfl (by decide +kernel)) (goodIn_sub (fun _ h => List.mem_cons_of_mem _ (List.mem_append_right _ h)) (vx_allf _))
set_option maxRecDepth 20000 in
theorem gX10_book_X10_beginText : GoodIn wsX10_book (wsV RX10 107 RX10 yX10_beginText wsX10_beginText) := goodIn_app (goodIn_r _ [7, 8, 9, 10] rfl (by decide +kernel)) ggX10_book_X10_beginText
set_option maxRecDepth 20000 in
theorem ggX10_book_X0_read : GoodIn wsX10_book wsX0_read := goodIn_r _ [45, 46, 47, 48, 49, 50, 44, 51, 52, 53, 54, 55, 56, 57, 58, 59, 60, 61, 62, 63, 22, 64, 26, 32, 27, 36, 65, 66, 67, 68, 34, 69, 28, 29, 30, 31, 25, 24, 33, 35, 37, 38, 39, 40, 70, 71, 72, 73, 74, 75, 76, 77, 78, 79, 80, 81, 98, 99, 100, 101, 102, 103, 104, 105, 106, 107, 108, 109, 110] rfl (by decide +kernel)
set_option maxRecDepth 20000 in
theorem gX10_book_X0_read : GoodIn wsX10_book (wsV RX10 152 RX0 yX0_read wsX0_read) := goodIn_app (goodIn_r _ [41, 42, 43, 44] rfl (by decide +kernel)) ggX10_book_X0_read
set_option maxRecDepth 20000 in
theorem ggX10_undo_X4_goBack : GoodIn wsX10_undo wsX4_goBack := goodIn_r _ [8, 9, 10, 11, 12, 13, 7, 14, 15, 16, 17, 18, 19, 20, 21, 22, 23, 24, 25, 26, 27, 28, 29, 30, 31, 32, 33, 34, 35, 36, 37, 38, 39, 40, 57, 58, 59, 60, 61, 62, 63, 64, 65, 66, 67] rfl (by decide +kernel)
set_option maxRecDepth 20000 in
theorem gX10_undo_X4_goBack : GoodIn wsX10_undo (wsV RX10 159 RX4 yX4_goBack wsX4_goBack) := goodIn_app (goodIn_r _ [4, 5, 6, 7] rfl (by decide +kernel)) ggX10_undo_X4_goBack
set_option maxRecDepth 20000 in
theorem ggX10_told_X10_needWhat : GoodIn wsX10_told wsX10_needWhat := goodIn_ca (goodIn_r _ [17, 18, 19, 20, 16, 21, 22, 23, 24, 35, 36, 37, 38, 39, 40, 41, 42, 43, 44, 45, 46, 47, 48, 49, 50] rfl (by decide +kernel)) (goodIn_sub (fun _ h => List.mem_cons_of_mem _ (List.mem_append_right _ h)) (vx_allf _))
set_option maxRecDepth 20000 in
theorem gX10_told_X10_needWhat : GoodIn wsX10_told (wsV RX10 162 RX10 yX10_needWhat wsX10_needWhat) := goodIn_app (goodIn_r _ [13, 14, 15, 16] rfl (by decide +kernel)) ggX10_told_X10_needWhat
set_option maxRecDepth 20000 in
theorem ggX10_told_X2_filmsOnAll : GoodIn wsX10_told wsX2_filmsOnAll := goodIn_r _ [29, 30, 31, 32, 28, 33, 34, 67, 68, 69, 70, 71, 72, 73, 74] rfl (by decide +kernel)
set_option maxRecDepth 20000 in
theorem gX10_told_X2_filmsOnAll : GoodIn wsX10_told (wsV RX10 176 RX2 yX2_filmsOnAll wsX2_filmsOnAll) := goodIn_app (goodIn_r _ [25, 26, 27, 28] rfl (by decide +kernel)) ggX10_told_X2_filmsOnAll
set_option maxRecDepth 20000 in
theorem ggX10_pane_X10_needPane : GoodIn wsX10_pane wsX10_needPane := goodIn_ca (goodIn_r _ [12, 13, 14, 1, 15, 16, 38, 39, 40, 41, 42, 43, 44, 45, 46, 47, 48, 49, 50, 51, 52, 53, 54, 55, 56, 57, 58, 59, 60, 61, 62, 63, 64, 65, 66] rfl (by decide +kernel)) (goodIn_sub (fun _ h => List.mem_cons_of_mem _ (List.mem_append_left _ (List.mem_append_right _ h))) (vx_allf _))
set_option maxRecDepth 20000 in
theorem gX10_pane_X10_needPane : GoodIn wsX10_pane (wsV RX10 186 RX10 yX10_needPane wsX10_needPane) := goodIn_app (goodIn_r _ [8, 9, 10, 11] rfl (by decide +kernel)) ggX10_pane_X10_needPane
set_option maxRecDepth 20000 in
theorem ggX10_pane_X10_needWhat : GoodIn wsX10_pane wsX10_needWhat := goodIn_ca (goodIn_r _ [20, 21, 22, 23, 11, 24, 25, 26, 16, 38, 39, 40, 41, 42, 43, 44, 45, 46, 47, 48, 49, 50, 51, 52, 53] rfl (by decide +kernel)) (goodIn_sub (fun _ h => List.mem_cons_of_mem _ (List.mem_append_right _ h)) (vx_allf _))
set_option maxRecDepth 20000 in
theorem gX10_pane_X10_needWhat : GoodIn wsX10_pane (wsV RX10 162 RX10 yX10_needWhat wsX10_needWhat) := goodIn_app (goodIn_r _ [17, 18, 19, 11] rfl (by decide +kernel)) ggX10_pane_X10_needWhat
set_option maxRecDepth 20000 in
theorem ggX10_pane_X2_filmsOn : GoodIn wsX10_pane wsX2_filmsOn := goodIn_r _ [31, 32, 70, 71, 72, 73, 74, 75, 76, 77] rfl (by decide +kernel)
set_option maxRecDepth 20000 in
theorem gX10_pane_X2_filmsOn : GoodIn wsX10_pane (wsV RX10 201 RX2 yX2_filmsOn wsX2_filmsOn) := goodIn_app (goodIn_r _ [27, 28, 29, 30] rfl (by decide +kernel)) ggX10_pane_X2_filmsOn
set_option maxRecDepth 20000 in
theorem ggX10_pane_X2_isBroken : GoodIn wsX10_pane wsX2_isBroken := goodIn_r _ [36, 37, 70, 71, 72, 73, 74, 75, 76, 77] rfl (by decide +kernel)
set_option maxRecDepth 20000 in
theorem gX10_pane_X2_isBroken : GoodIn wsX10_pane (wsV RX10 205 RX2 yX2_isBroken wsX2_isBroken) := goodIn_app (goodIn_r _ [33, 34, 35, 30] rfl (by decide +kernel)) ggX10_pane_X2_isBroken
set_option maxRecDepth 20000 in
theorem ggX10_shows_X10_needCell : GoodIn wsX10_shows wsX10_needCell := goodIn_ca (goodIn_ca (goodIn_r _ [7, 8, 9, 10, 11, 12, 13, 14, 15, 16, 6, 17, 18, 19, 20, 21, 22, 23, 31, 32, 33, 34, 35, 36, 37, 38, 39, 40, 41, 42, 43, 44, 45, 46, 50, 51, 52, 53, 54, 55, 56, 57, 58, 59, 60, 61, 62] rfl (by decide +kernel)) (goodIn_sub (fun _ h => List.mem_cons_of_mem _ (List.mem_append_left _ (List.mem_append_right _ h))) (vx_allf _))) (goodIn_sub (fun _ h => List.mem_cons_of_mem _ (List.mem_append_right _ h)) (vx_allf _))
set_option maxRecDepth 20000 in
theorem gX10_shows_X10_needCell : GoodIn wsX10_shows (wsV RX10 209 RX10 yX10_needCell wsX10_needCell) := goodIn_app (goodIn_r _ [3, 4, 5, 6] rfl (by decide +kernel)) ggX10_shows_X10_needCell
set_option maxRecDepth 20000 in
theorem ggX10_shows_X2_shown : GoodIn wsX10_shows wsX2_shown := goodIn_r _ [28, 29, 30, 63, 64, 65, 66, 67, 68, 69, 70] rfl (by decide +kernel)
set_option maxRecDepth 20000 in
theorem gX10_shows_X2_shown : GoodIn wsX10_shows (wsV RX10 213 RX2 yX2_shown wsX2_shown) := goodIn_app (goodIn_r _ [24, 25, 26, 27] rfl (by decide +kernel)) ggX10_shows_X2_shown
set_option maxRecDepth 20000 in
theorem ggX10_deep_X10_needCell : GoodIn wsX10_deep wsX10_needCell := goodIn_ca (goodIn_ca (goodIn_r _ [8, 9, 10, 11, 12, 13, 14, 15, 16, 17, 7, 18, 19, 20, 21, 22, 23, 24, 25, 26, 27, 28, 29, 30, 31, 32, 33, 34, 35, 36, 37, 38, 39, 40, 52, 53, 54, 55, 56, 57, 58, 59, 60, 61, 62, 63, 64] rfl (by decide +kernel)) (goodIn_sub (fun _ h => List.mem_cons_of_mem _ (List.mem_append_left _ (List.mem_append_right _ h))) (vx_allf _))) (goodIn_sub (fun _ h => List.mem_cons_of_mem _ (List.mem_append_right _ h)) (vx_allf _))
set_option maxRecDepth 20000 in
theorem gX10_deep_X10_needCell : GoodIn wsX10_deep (wsV RX10 209 RX10 yX10_needCell wsX10_needCell) := goodIn_app (goodIn_r _ [4, 5, 6, 7] rfl (by decide +kernel)) ggX10_deep_X10_needCell
set_option maxRecDepth 20000 in
theorem ggX10_film_X10_needCell : GoodIn wsX10_film wsX10_needCell := goodIn_ca (goodIn_ca (goodIn_r _ [7, 8, 9, 10, 11, 12, 13, 14, 15, 16, 6, 17, 18, 19, 20, 21, 22, 23, 31, 32, 33, 34, 35, 36, 37, 38, 39, 40, 41, 42, 43, 44, 45, 46, 50, 51, 52, 53, 54, 55, 56, 57, 58, 59, 60, 61, 62] rfl (by decide +kernel)) (goodIn_sub (fun _ h => List.mem_cons_of_mem _ (List.mem_append_left _ (List.mem_append_right _ h))) (vx_allf _))) (goodIn_sub (fun _ h => List.mem_cons_of_mem _ (List.mem_append_right _ h)) (vx_allf _))
set_option maxRecDepth 20000 in
theorem gX10_film_X10_needCell : GoodIn wsX10_film (wsV RX10 209 RX10 yX10_needCell wsX10_needCell) := goodIn_app (goodIn_r _ [3, 4, 5, 6] rfl (by decide +kernel)) ggX10_film_X10_needCell
set_option maxRecDepth 20000 in
theorem ggX10_film_X2_behind : GoodIn wsX10_film wsX2_behind := goodIn_r _ [28, 29, 30, 63, 64, 65, 66, 67, 68, 69, 70] rfl (by decide +kernel)
set_option maxRecDepth 20000 in
theorem gX10_film_X2_behind : GoodIn wsX10_film (wsV RX10 219 RX2 yX2_behind wsX2_behind) := goodIn_app (goodIn_r _ [24, 25, 26, 27] rfl (by decide +kernel)) ggX10_film_X2_behind
set_option maxRecDepth 20000 in
theorem ggX10_films_X10_need : GoodIn wsX10_films wsX10_need := goodIn_ca (goodIn_r _ [8, 9, 10, 11, 31, 32, 33, 34, 35, 36, 37, 38, 39, 40, 41, 42, 43, 44, 45, 46] rfl (by decide +kernel)) (goodIn_sub (fun _ h => List.mem_cons_of_mem _ (List.mem_append_right _ h)) (vx_allf _))
set_option maxRecDepth 20000 in
theorem gX10_films_X10_need : GoodIn wsX10_films (wsV RX10 223 RX10 yX10_need wsX10_need) := goodIn_app (goodIn_r _ [4, 5, 6, 7] rfl (by decide +kernel)) ggX10_films_X10_need
set_option maxRecDepth 20000 in
theorem ggX10_films_X10_needWhat : GoodIn wsX10_films wsX10_needWhat := goodIn_ca (goodIn_r _ [15, 4, 5, 6, 7, 8, 9, 10, 11, 31, 32, 33, 34, 35, 36, 37, 38, 39, 40, 41, 42, 43, 44, 45, 46] rfl (by decide +kernel)) (goodIn_sub (fun _ h => List.mem_cons_of_mem _ (List.mem_append_right _ h)) (vx_allf _))
set_option maxRecDepth 20000 in
theorem gX10_films_X10_needWhat : GoodIn wsX10_films (wsV RX10 162 RX10 yX10_needWhat wsX10_needWhat) := goodIn_app (goodIn_r _ [12, 13, 14, 7] rfl (by decide +kernel)) ggX10_films_X10_needWhat
set_option maxRecDepth 20000 in
theorem ggX10_films_X2_filmsOf : GoodIn wsX10_films wsX2_filmsOf := goodIn_r _ [20, 21, 22, 23, 19, 24, 25, 26, 27, 28, 29, 30, 50, 51, 52, 53, 54, 55, 56, 57] rfl (by decide +kernel)
set_option maxRecDepth 20000 in
theorem gX10_films_X2_filmsOf : GoodIn wsX10_films (wsV RX10 230 RX2 yX2_filmsOf wsX2_filmsOf) := goodIn_app (goodIn_r _ [16, 17, 18, 19] rfl (by decide +kernel)) ggX10_films_X2_filmsOf
set_option maxRecDepth 20000 in
theorem ggX10_have_X10_needPane : GoodIn wsX10_have wsX10_needPane := goodIn_ca (goodIn_r _ [8, 9, 10, 11, 12, 13, 36, 37, 38, 39, 40, 41, 42, 43, 44, 45, 46, 47, 48, 49, 50, 51, 55, 56, 57, 58, 59, 60, 61, 62, 63, 64, 65, 66, 67] rfl (by decide +kernel)) (goodIn_sub (fun _ h => List.mem_cons_of_mem _ (List.mem_append_left _ (List.mem_append_right _ h))) (vx_allf _))
set_option maxRecDepth 20000 in
theorem gX10_have_X10_needPane : GoodIn wsX10_have (wsV RX10 186 RX10 yX10_needPane wsX10_needPane) := goodIn_app (goodIn_r _ [4, 5, 6, 7] rfl (by decide +kernel)) ggX10_have_X10_needPane
set_option maxRecDepth 20000 in
theorem ggX10_have_X10_need : GoodIn wsX10_have wsX10_need := goodIn_ca (goodIn_r _ [17, 18, 19, 13, 36, 37, 38, 39, 40, 41, 42, 43, 44, 45, 46, 47, 48, 49, 50, 51] rfl (by decide +kernel)) (goodIn_sub (fun _ h => List.mem_cons_of_mem _ (List.mem_append_right _ h)) (vx_allf _))
set_option maxRecDepth 20000 in
theorem gX10_have_X10_need : GoodIn wsX10_have (wsV RX10 223 RX10 yX10_need wsX10_need) := goodIn_app (goodIn_r _ [14, 15, 16, 7] rfl (by decide +kernel)) ggX10_have_X10_need
set_option maxRecDepth 20000 in
theorem ggX10_have_X1_cellsHaving : GoodIn wsX10_have wsX1_cellsHaving := goodIn_r _ [24, 25, 26, 27, 28, 29, 30, 31, 32, 33, 34, 35, 68, 69, 70, 71, 72, 73, 74, 75] rfl (by decide +kernel)
set_option maxRecDepth 20000 in
theorem gX10_have_X1_cellsHaving : GoodIn wsX10_have (wsV RX10 233 RX1 yX1_cellsHaving wsX1_cellsHaving) := goodIn_app (goodIn_r _ [20, 21, 22, 23] rfl (by decide +kernel)) ggX10_have_X1_cellsHaving
set_option maxRecDepth 20000 in
theorem ggX10_showing_X10_needPane : GoodIn wsX10_showing wsX10_needPane := goodIn_ca (goodIn_r _ [10, 11, 12, 4, 13, 14, 33, 34, 35, 36, 37, 38, 39, 40, 41, 42, 43, 44, 45, 46, 47, 48, 52, 53, 54, 55, 56, 57, 58, 59, 60, 61, 62, 63, 64] rfl (by decide +kernel)) (goodIn_sub (fun _ h => List.mem_cons_of_mem _ (List.mem_append_left _ (List.mem_append_right _ h))) (vx_allf _))
set_option maxRecDepth 20000 in
theorem gX10_showing_X10_needPane : GoodIn wsX10_showing (wsV RX10 186 RX10 yX10_needPane wsX10_needPane) := goodIn_app (goodIn_r _ [6, 7, 8, 9] rfl (by decide +kernel)) ggX10_showing_X10_needPane
set_option maxRecDepth 20000 in
theorem ggX10_showing_X10_need : GoodIn wsX10_showing wsX10_need := goodIn_ca (goodIn_r _ [18, 19, 20, 14, 33, 34, 35, 36, 37, 38, 39, 40, 41, 42, 43, 44, 45, 46, 47, 48] rfl (by decide +kernel)) (goodIn_sub (fun _ h => List.mem_cons_of_mem _ (List.mem_append_right _ h)) (vx_allf _))
set_option maxRecDepth 20000 in
theorem gX10_showing_X10_need : GoodIn wsX10_showing (wsV RX10 223 RX10 yX10_need wsX10_need) := goodIn_app (goodIn_r _ [15, 16, 17, 9] rfl (by decide +kernel)) ggX10_showing_X10_need
set_option maxRecDepth 20000 in
theorem ggX10_showing_X1_cellsShowing : GoodIn wsX10_showing wsX1_cellsShowing := goodIn_r _ [25, 26, 27, 28, 29, 30, 31, 32, 65, 66, 67, 68, 69, 70, 71, 72] rfl (by decide +kernel)
set_option maxRecDepth 20000 in
theorem gX10_showing_X1_cellsShowing : GoodIn wsX10_showing (wsV RX10 240 RX1 yX1_cellsShowing wsX1_cellsShowing) := goodIn_app (goodIn_r _ [21, 22, 23, 24] rfl (by decide +kernel)) ggX10_showing_X1_cellsShowing
set_option maxRecDepth 20000 in
theorem ggX10_settles_X10_needCell : GoodIn wsX10_settles wsX10_needCell := goodIn_ca (goodIn_ca (goodIn_r _ [11, 12, 13, 5, 14, 15, 16, 17, 18, 19, 10, 20, 21, 22, 23, 24, 25, 26, 60, 61, 62, 63, 64, 65, 66, 67, 68, 69, 70, 71, 72, 73, 74, 75, 87, 88, 89, 90, 91, 92, 93, 94, 95, 96, 97, 98, 99] rfl (by decide +kernel)) (goodIn_sub (fun _ h => List.mem_cons_of_mem _ (List.mem_append_left _ (List.mem_append_right _ h))) (vx_allf _))) (goodIn_sub (fun _ h => List.mem_cons_of_mem _ (List.mem_append_right _ h)) (vx_allf _))
set_option maxRecDepth 20000 in
theorem gX10_settles_X10_needCell : GoodIn wsX10_settles (wsV RX10 209 RX10 yX10_needCell wsX10_needCell) := goodIn_app (goodIn_r _ [7, 8, 9, 10] rfl (by decide +kernel)) ggX10_settles_X10_needCell
set_option maxRecDepth 20000 in
theorem ggX10_settles_X2_isBroken : GoodIn wsX10_settles wsX2_isBroken := goodIn_r _ [31, 32, 79, 80, 81, 82, 83, 84, 85, 86] rfl (by decide +kernel)
set_option maxRecDepth 20000 in
theorem gX10_settles_X2_isBroken : GoodIn wsX10_settles (wsV RX10 205 RX2 yX2_isBroken wsX2_isBroken) := goodIn_app (goodIn_r _ [27, 28, 29, 30] rfl (by decide +kernel)) ggX10_settles_X2_isBroken
set_option maxRecDepth 20000 in
theorem ggX10_settles_X8_wouldSettle : GoodIn wsX10_settles wsX8_wouldSettle := goodIn_r _ [37, 38, 39, 40, 41, 42, 36, 43, 44, 45, 46, 47, 48, 30, 49, 50, 51, 52, 53, 54, 55, 56, 57, 58, 59, 100, 101, 102, 103, 104, 105, 79, 80, 81, 82, 83, 84, 85, 86, 87, 88, 89, 90, 91, 92, 93, 94, 95, 96, 97, 98, 99, 106, 107, 108] rfl (by decide +kernel)
set_option maxRecDepth 20000 in
theorem gX10_settles_X8_wouldSettle : GoodIn wsX10_settles (wsV RX10 244 RX8 yX8_wouldSettle wsX8_wouldSettle) := goodIn_app (goodIn_r _ [33, 34, 35, 36] rfl (by decide +kernel)) ggX10_settles_X8_wouldSettle
set_option maxRecDepth 20000 in
theorem ggX10_order_X10_needOrder : GoodIn wsX10_order wsX10_needOrder := goodIn_ca (goodIn_r _ [6, 7, 8, 1, 9, 10, 56, 57, 58, 59, 60, 61, 62, 63, 64, 65, 66, 67, 68, 69, 70, 71, 72, 73, 74, 75, 76, 77, 78, 79, 80, 81, 82, 83, 84] rfl (by decide +kernel)) (goodIn_sub (fun _ h => List.mem_cons_of_mem _ (List.mem_append_left _ (List.mem_append_right _ h))) (vx_allf _))
set_option maxRecDepth 20000 in
theorem gX10_order_X10_needOrder : GoodIn wsX10_order (wsV RX10 248 RX10 yX10_needOrder wsX10_needOrder) := goodIn_app (goodIn_r _ [2, 3, 4, 5] rfl (by decide +kernel)) ggX10_order_X10_needOrder
set_option maxRecDepth 20000 in
theorem ggX10_order_X10_needWhat : GoodIn wsX10_order wsX10_needWhat := goodIn_ca (goodIn_r _ [14, 15, 16, 17, 5, 18, 19, 20, 10, 56, 57, 58, 59, 60, 61, 62, 63, 64, 65, 66, 67, 68, 69, 70, 71] rfl (by decide +kernel)) (goodIn_sub (fun _ h => List.mem_cons_of_mem _ (List.mem_append_right _ h)) (vx_allf _))
set_option maxRecDepth 20000 in
theorem gX10_order_X10_needWhat : GoodIn wsX10_order (wsV RX10 162 RX10 yX10_needWhat wsX10_needWhat) := goodIn_app (goodIn_r _ [11, 12, 13, 5] rfl (by decide +kernel)) ggX10_order_X10_needWhat
set_option maxRecDepth 20000 in
theorem ggX10_order_X10_orderState : GoodIn wsX10_order wsX10_orderState := goodIn_r _ [24, 25, 26, 1, 27, 28, 29, 30, 31, 32, 33, 34, 35, 5, 36, 37, 38, 39, 40, 41, 42, 43, 44, 45, 46, 47, 48, 49, 50, 51, 52, 53, 54, 55, 56, 57, 58, 59, 60, 61, 62, 63, 64, 65, 66, 67, 68, 69, 70, 71, 85, 86, 87, 88, 89, 90, 91, 92, 93, 94, 95, 72, 73, 74, 75, 76, 77, 78, 79, 80, 81, 82, 83, 84] rfl (by decide +kernel)
set_option maxRecDepth 20000 in
theorem gX10_order_X10_orderState : GoodIn wsX10_order (wsV RX10 251 RX10 yX10_orderState wsX10_orderState) := goodIn_app (goodIn_r _ [21, 22, 23, 5] rfl (by decide +kernel)) ggX10_order_X10_orderState
set_option maxRecDepth 20000 in
theorem ggX10_order_X6_part : GoodIn wsX10_order wsX6_part := goodIn_r _ [40, 34, 72, 73, 74, 75, 76, 77, 78, 79, 80, 81, 82, 83, 84] rfl (by decide +kernel)
set_option maxRecDepth 20000 in
theorem gX10_order_X6_part : GoodIn wsX10_order (wsV RX10 254 RX6 yX6_part wsX6_part) := goodIn_app (goodIn_r _ [37, 38, 39, 32] rfl (by decide +kernel)) ggX10_order_X6_part
set_option maxRecDepth 20000 in
theorem ggX10_needs_X10_needOrder : GoodIn wsX10_needs wsX10_needOrder := goodIn_ca (goodIn_r _ [8, 9, 10, 3, 11, 12, 36, 37, 38, 39, 40, 41, 42, 43, 44, 45, 46, 47, 48, 49, 50, 51, 55, 56, 57, 58, 59, 60, 61, 62, 63, 64, 65, 66, 67] rfl (by decide +kernel)) (goodIn_sub (fun _ h => List.mem_cons_of_mem _ (List.mem_append_right _ h)) (vx_allf _))
set_option maxRecDepth 20000 in
theorem gX10_needs_X10_needOrder : GoodIn wsX10_needs (wsV RX10 248 RX10 yX10_needOrder wsX10_needOrder) := goodIn_app (goodIn_r _ [4, 5, 6, 7] rfl (by decide +kernel)) ggX10_needs_X10_needOrder
set_option maxRecDepth 20000 in
theorem ggX10_needs_X6_cellOf : GoodIn wsX10_needs wsX6_cellOf := goodIn_r _ [17, 18, 19, 7, 20, 55, 56, 57, 58, 59, 60, 61, 62, 63, 64, 65, 66, 67] rfl (by decide +kernel)
set_option maxRecDepth 20000 in
theorem gX10_needs_X6_cellOf : GoodIn wsX10_needs (wsV RX10 257 RX6 yX6_cellOf wsX6_cellOf) := goodIn_app (goodIn_r _ [13, 14, 15, 16] rfl (by decide +kernel)) ggX10_needs_X6_cellOf
set_option maxRecDepth 20000 in
theorem ggX10_needs_X6_part : GoodIn wsX10_needs wsX6_part := goodIn_r _ [24, 18, 55, 56, 57, 58, 59, 60, 61, 62, 63, 64, 65, 66, 67] rfl (by decide +kernel)
set_option maxRecDepth 20000 in
theorem gX10_needs_X6_part : GoodIn wsX10_needs (wsV RX10 254 RX6 yX6_part wsX6_part) := goodIn_app (goodIn_r _ [21, 22, 23, 16] rfl (by decide +kernel)) ggX10_needs_X6_part
set_option maxRecDepth 20000 in
theorem ggX10_needs_X2_outsideOf : GoodIn wsX10_needs wsX2_outsideOf := goodIn_r _ [29, 30, 31, 32, 33, 28, 34, 35, 68, 69, 70, 71, 72, 73, 74, 75] rfl (by decide +kernel)
set_option maxRecDepth 20000 in
theorem gX10_needs_X2_outsideOf : GoodIn wsX10_needs (wsV RX10 260 RX2 yX2_outsideOf wsX2_outsideOf) := goodIn_app (goodIn_r _ [25, 26, 27, 28] rfl (by decide +kernel)) ggX10_needs_X2_outsideOf
set_option maxRecDepth 20000 in
theorem ggX10_lost_X10_orderState : GoodIn wsX10_lost wsX10_orderState := goodIn_r _ [7, 8, 9, 1, 10, 11, 12, 13, 14, 15, 16, 17, 18, 6, 19, 20, 21, 22, 23, 24, 25, 26, 27, 28, 29, 30, 31, 32, 33, 34, 35, 36, 37, 38, 39, 40, 41, 42, 43, 44, 45, 46, 47, 48, 49, 50, 51, 52, 53, 54, 68, 69, 70, 71, 72, 73, 74, 75, 76, 77, 78, 55, 56, 57, 58, 59, 60, 61, 62, 63, 64, 65, 66, 67] rfl (by decide +kernel)
set_option maxRecDepth 20000 in
theorem gX10_lost_X10_orderState : GoodIn wsX10_lost (wsV RX10 251 RX10 yX10_orderState wsX10_orderState) := goodIn_app (goodIn_r _ [3, 4, 5, 6] rfl (by decide +kernel)) ggX10_lost_X10_orderState
set_option maxRecDepth 20000 in
theorem ggX10_cost_X10_needPane : GoodIn wsX10_cost wsX10_needPane := goodIn_ca (goodIn_r _ [8, 9, 10, 11, 12, 13, 41, 42, 43, 44, 45, 46, 47, 48, 49, 50, 51, 52, 53, 54, 55, 56, 60, 61, 62, 63, 64, 65, 66, 67, 68, 69, 70, 71, 72] rfl (by decide +kernel)) (goodIn_sub (fun _ h => List.mem_cons_of_mem _ (List.mem_append_left _ (List.mem_append_right _ h))) (vx_allf _))
set_option maxRecDepth 20000 in
theorem gX10_cost_X10_needPane : GoodIn wsX10_cost (wsV RX10 186 RX10 yX10_needPane wsX10_needPane) := goodIn_app (goodIn_r _ [4, 5, 6, 7] rfl (by decide +kernel)) ggX10_cost_X10_needPane
set_option maxRecDepth 20000 in
theorem ggX10_cost_X10_needCells : GoodIn wsX10_cost wsX10_needCells := goodIn_ca (goodIn_r _ [17, 11, 18, 19, 20, 21, 7, 22, 23, 24, 13, 41, 42, 43, 44, 45, 46, 47, 48, 49, 50, 51, 52, 53, 54, 55, 56, 60, 61, 62, 63, 64, 65, 66, 67, 68, 69, 70, 71, 72] rfl (by decide +kernel)) (goodIn_sub (fun _ h => List.mem_cons_of_mem _ (List.mem_append_right _ h)) (vx_allf _))
set_option maxRecDepth 20000 in
theorem gX10_cost_X10_needCells : GoodIn wsX10_cost (wsV RX10 263 RX10 yX10_needCells wsX10_needCells) := goodIn_app (goodIn_r _ [14, 15, 16, 7] rfl (by decide +kernel)) ggX10_cost_X10_needCells
set_option maxRecDepth 20000 in
theorem ggX10_cost_X10_need : GoodIn wsX10_cost wsX10_need := goodIn_ca (goodIn_r _ [22, 23, 24, 13, 41, 42, 43, 44, 45, 46, 47, 48, 49, 50, 51, 52, 53, 54, 55, 56] rfl (by decide +kernel)) (goodIn_sub (fun _ h => List.mem_cons_of_mem _ (List.mem_append_right _ h)) (vx_allf _))
set_option maxRecDepth 20000 in
theorem gX10_cost_X10_need : GoodIn wsX10_cost (wsV RX10 223 RX10 yX10_need wsX10_need) := goodIn_app (goodIn_r _ [19, 20, 21, 7] rfl (by decide +kernel)) ggX10_cost_X10_need
set_option maxRecDepth 20000 in
theorem ggX10_cost_X1_costOf : GoodIn wsX10_cost wsX1_costOf := goodIn_r _ [29, 30, 31, 32, 33, 34, 35, 36, 37, 38, 39, 40, 73, 74, 75, 76, 77, 78, 79, 80] rfl (by decide +kernel)
set_option maxRecDepth 20000 in
theorem gX10_cost_X1_costOf : GoodIn wsX10_cost (wsV RX10 266 RX1 yX1_costOf wsX1_costOf) := goodIn_app (goodIn_r _ [25, 26, 27, 28] rfl (by decide +kernel)) ggX10_cost_X1_costOf
set_option maxRecDepth 20000 in
theorem ggX10_view_X10_needPane : GoodIn wsX10_view wsX10_needPane := goodIn_ca (goodIn_r _ [8, 9, 10, 11, 12, 13, 52, 53, 54, 55, 56, 57, 58, 59, 60, 61, 62, 63, 64, 65, 66, 67, 71, 72, 73, 74, 75, 76, 77, 78, 79, 80, 81, 82, 83] rfl (by decide +kernel)) (goodIn_sub (fun _ h => List.mem_cons_of_mem _ (List.mem_append_left _ (List.mem_append_right _ h))) (vx_allf _))
set_option maxRecDepth 20000 in
theorem gX10_view_X10_needPane : GoodIn wsX10_view (wsV RX10 186 RX10 yX10_needPane wsX10_needPane) := goodIn_app (goodIn_r _ [4, 5, 6, 7] rfl (by decide +kernel)) ggX10_view_X10_needPane
set_option maxRecDepth 20000 in
theorem ggX10_view_X10_needCells : GoodIn wsX10_view wsX10_needCells := goodIn_ca (goodIn_r _ [17, 11, 18, 19, 20, 21, 7, 22, 23, 24, 13, 52, 53, 54, 55, 56, 57, 58, 59, 60, 61, 62, 63, 64, 65, 66, 67, 71, 72, 73, 74, 75, 76, 77, 78, 79, 80, 81, 82, 83] rfl (by decide +kernel)) (goodIn_sub (fun _ h => List.mem_cons_of_mem _ (List.mem_append_right _ h)) (vx_allf _))
set_option maxRecDepth 20000 in
theorem gX10_view_X10_needCells : GoodIn wsX10_view (wsV RX10 263 RX10 yX10_needCells wsX10_needCells) := goodIn_app (goodIn_r _ [14, 15, 16, 7] rfl (by decide +kernel)) ggX10_view_X10_needCells
set_option maxRecDepth 20000 in
theorem ggX10_view_X10_needWhat : GoodIn wsX10_view wsX10_needWhat := goodIn_ca (goodIn_r _ [28, 19, 20, 21, 7, 22, 23, 24, 13, 52, 53, 54, 55, 56, 57, 58, 59, 60, 61, 62, 63, 64, 65, 66, 67] rfl (by decide +kernel)) (goodIn_sub (fun _ h => List.mem_cons_of_mem _ (List.mem_append_right _ h)) (vx_allf _))
set_option maxRecDepth 20000 in
theorem gX10_view_X10_needWhat : GoodIn wsX10_view (wsV RX10 162 RX10 yX10_needWhat wsX10_needWhat) := goodIn_app (goodIn_r _ [25, 26, 27, 7] rfl (by decide +kernel)) ggX10_view_X10_needWhat
set_option maxRecDepth 20000 in
theorem ggX10_view_X1_bestDay : GoodIn wsX10_view wsX1_bestDay := goodIn_r _ [33, 34, 35, 36, 37, 38, 39, 40, 41, 42, 43, 44, 32, 45, 46, 47, 48, 49, 50, 84, 85, 86, 87, 88, 89, 90, 91] rfl (by decide +kernel)
set_option maxRecDepth 20000 in
theorem gX10_view_X1_bestDay : GoodIn wsX10_view (wsV RX10 269 RX1 yX1_bestDay wsX1_bestDay) := goodIn_app (goodIn_r _ [29, 30, 31, 32] rfl (by decide +kernel)) ggX10_view_X1_bestDay
set_option maxRecDepth 20000 in
theorem ggX10_view_X1_costOf : GoodIn wsX10_view wsX1_costOf := goodIn_r _ [45, 46, 47, 48, 38, 49, 40, 50, 36, 37, 39, 41, 84, 85, 86, 87, 88, 89, 90, 91] rfl (by decide +kernel)
set_option maxRecDepth 20000 in
theorem gX10_view_X1_costOf : GoodIn wsX10_view (wsV RX10 266 RX1 yX1_costOf wsX1_costOf) := goodIn_app (goodIn_r _ [51, 43, 44, 32] rfl (by decide +kernel)) ggX10_view_X1_costOf
set_option maxRecDepth 20000 in
theorem ggX10_seams_X10_needPane : GoodIn wsX10_seams wsX10_needPane := goodIn_ca (goodIn_r _ [10, 11, 12, 4, 13, 14, 30, 31, 32, 33, 34, 35, 36, 37, 38, 39, 40, 41, 42, 43, 44, 45, 49, 50, 51, 52, 53, 54, 55, 56, 57, 58, 59, 60, 61] rfl (by decide +kernel)) (goodIn_sub (fun _ h => List.mem_cons_of_mem _ (List.mem_append_right _ h)) (vx_allf _))
set_option maxRecDepth 20000 in
theorem gX10_seams_X10_needPane : GoodIn wsX10_seams (wsV RX10 186 RX10 yX10_needPane wsX10_needPane) := goodIn_app (goodIn_r _ [6, 7, 8, 9] rfl (by decide +kernel)) ggX10_seams_X10_needPane
set_option maxRecDepth 20000 in
theorem ggX10_seams_X1_countSeams : GoodIn wsX10_seams wsX1_countSeams := goodIn_r _ [19, 20, 21, 18, 22, 23, 24, 25, 26, 27, 28, 29, 62, 63, 64, 65, 66, 67, 68, 69] rfl (by decide +kernel)
set_option maxRecDepth 20000 in
theorem gX10_seams_X1_countSeams : GoodIn wsX10_seams (wsV RX10 272 RX1 yX1_countSeams wsX1_countSeams) := goodIn_app (goodIn_r _ [15, 16, 17, 18] rfl (by decide +kernel)) ggX10_seams_X1_countSeams
set_option maxRecDepth 20000 in
theorem ggX10_sights_X10_needPane : GoodIn wsX10_sights wsX10_needPane := goodIn_ca (goodIn_r _ [8, 9, 10, 11, 12, 13, 36, 37, 38, 39, 40, 41, 42, 43, 44, 45, 46, 47, 48, 49, 50, 51, 55, 56, 57, 58, 59, 60, 61, 62, 63, 64, 65, 66, 67] rfl (by decide +kernel)) (goodIn_sub (fun _ h => List.mem_cons_of_mem _ (List.mem_append_right _ h)) (vx_allf _))
set_option maxRecDepth 20000 in
theorem gX10_sights_X10_needPane : GoodIn wsX10_sights (wsV RX10 186 RX10 yX10_needPane wsX10_needPane) := goodIn_app (goodIn_r _ [4, 5, 6, 7] rfl (by decide +kernel)) ggX10_sights_X10_needPane
set_option maxRecDepth 20000 in
theorem ggX10_sights_X1_countDaysShown : GoodIn wsX10_sights wsX1_countDaysShown := goodIn_r _ [18, 19, 20, 21, 22, 17, 23, 24, 25, 26, 27, 28, 29, 30, 31, 32, 33, 34, 35, 68, 69, 70, 71, 72, 73, 74, 75, 76, 77, 78, 79] rfl (by decide +kernel)
set_option maxRecDepth 20000 in
theorem gX10_sights_X1_countDaysShown : GoodIn wsX10_sights (wsV RX10 275 RX1 yX1_countDaysShown wsX1_countDaysShown) := goodIn_app (goodIn_r _ [14, 15, 16, 17] rfl (by decide +kernel)) ggX10_sights_X1_countDaysShown
set_option maxRecDepth 20000 in
theorem ggX10_alike_X10_needPane : GoodIn wsX10_alike wsX10_needPane := goodIn_ca (goodIn_r _ [10, 11, 12, 4, 13, 14, 27, 28, 29, 30, 31, 32, 33, 34, 35, 36, 37, 38, 39, 40, 41, 42, 46, 47, 48, 49, 50, 51, 52, 53, 54, 55, 56, 57, 58] rfl (by decide +kernel)) (goodIn_sub (fun _ h => List.mem_cons_of_mem _ (List.mem_append_right _ h)) (vx_allf _))
set_option maxRecDepth 20000 in
theorem gX10_alike_X10_needPane : GoodIn wsX10_alike (wsV RX10 186 RX10 yX10_needPane wsX10_needPane) := goodIn_app (goodIn_r _ [6, 7, 8, 9] rfl (by decide +kernel)) ggX10_alike_X10_needPane
set_option maxRecDepth 20000 in
theorem ggX10_alike_X1_sameCells : GoodIn wsX10_alike wsX1_sameCells := goodIn_r _ [19, 20, 21, 22, 23, 24, 25, 26, 59, 60, 61, 62, 63, 64, 65, 66] rfl (by decide +kernel)
set_option maxRecDepth 20000 in
theorem gX10_alike_X1_sameCells : GoodIn wsX10_alike (wsV RX10 279 RX1 yX1_sameCells wsX1_sameCells) := goodIn_app (goodIn_r _ [15, 16, 17, 18] rfl (by decide +kernel)) ggX10_alike_X1_sameCells
set_option maxRecDepth 20000 in
theorem ggX10_oldest_X10_needPane : GoodIn wsX10_oldest wsX10_needPane := goodIn_ca (goodIn_r _ [8, 9, 10, 11, 12, 13, 50, 51, 52, 53, 54, 55, 56, 57, 58, 59, 60, 61, 62, 63, 64, 65, 69, 70, 71, 72, 73, 74, 75, 76, 77, 78, 79, 80, 81] rfl (by decide +kernel)) (goodIn_sub (fun _ h => List.mem_cons_of_mem _ (List.mem_append_left _ (List.mem_append_right _ h))) (vx_allf _))
set_option maxRecDepth 20000 in
theorem gX10_oldest_X10_needPane : GoodIn wsX10_oldest (wsV RX10 186 RX10 yX10_needPane wsX10_needPane) := goodIn_app (goodIn_r _ [4, 5, 6, 7] rfl (by decide +kernel)) ggX10_oldest_X10_needPane
set_option maxRecDepth 20000 in
theorem ggX10_oldest_X10_needWhat : GoodIn wsX10_oldest wsX10_needWhat := goodIn_ca (goodIn_r _ [17, 18, 19, 20, 7, 21, 22, 23, 13, 50, 51, 52, 53, 54, 55, 56, 57, 58, 59, 60, 61, 62, 63, 64, 65] rfl (by decide +kernel)) (goodIn_sub (fun _ h => List.mem_cons_of_mem _ (List.mem_append_right _ h)) (vx_allf _))
set_option maxRecDepth 20000 in
theorem gX10_oldest_X10_needWhat : GoodIn wsX10_oldest (wsV RX10 162 RX10 yX10_needWhat wsX10_needWhat) := goodIn_app (goodIn_r _ [14, 15, 16, 7] rfl (by decide +kernel)) ggX10_oldest_X10_needWhat
set_option maxRecDepth 20000 in
theorem ggX10_oldest_X1_earliest : GoodIn wsX10_oldest wsX1_earliest := goodIn_r _ [28, 29, 30, 31, 32, 27, 33, 34, 35, 36, 37, 38, 39, 40, 41, 42, 43, 44, 45, 82, 83, 84, 85, 86, 87, 88, 89, 90, 91, 92, 93] rfl (by decide +kernel)
set_option maxRecDepth 20000 in
theorem gX10_oldest_X1_earliest : GoodIn wsX10_oldest (wsV RX10 282 RX1 yX1_earliest wsX1_earliest) := goodIn_app (goodIn_r _ [24, 25, 26, 27] rfl (by decide +kernel)) ggX10_oldest_X1_earliest
set_option maxRecDepth 20000 in
theorem ggX10_oldest_X1_latestHidden : GoodIn wsX10_oldest wsX1_latestHidden := goodIn_r _ [49, 29, 30, 31, 32, 27, 33, 34, 35, 36, 37, 38, 39, 40, 41, 42, 43, 44, 45, 82, 83, 84, 85, 86, 87, 88, 89, 90, 91, 92, 93] rfl (by decide +kernel)
set_option maxRecDepth 20000 in
theorem gX10_oldest_X1_latestHidden : GoodIn wsX10_oldest (wsV RX10 285 RX1 yX1_latestHidden wsX1_latestHidden) := goodIn_app (goodIn_r _ [46, 47, 48, 27] rfl (by decide +kernel)) ggX10_oldest_X1_latestHidden
set_option maxRecDepth 20000 in
theorem ggX10_thick_X2_thickest : GoodIn wsX10_thick wsX2_thickest := goodIn_r _ [7, 8, 28, 29, 30, 31, 32, 33, 34, 35] rfl (by decide +kernel)
set_option maxRecDepth 20000 in
theorem gX10_thick_X2_thickest : GoodIn wsX10_thick (wsV RX10 288 RX2 yX2_thickest wsX2_thickest) := goodIn_app (goodIn_r _ [3, 4, 5, 6] rfl (by decide +kernel)) ggX10_thick_X2_thickest
set_option maxRecDepth 20000 in
theorem ggX10_patch_X10_needPane : GoodIn wsX10_patch wsX10_needPane := goodIn_ca (goodIn_r _ [12, 13, 14, 4, 15, 16, 56, 57, 58, 59, 60, 61, 62, 63, 64, 65, 66, 67, 68, 69, 70, 71, 75, 76, 77, 78, 79, 80, 81, 82, 83, 84, 85, 86, 87] rfl (by decide +kernel)) (goodIn_sub (fun _ h => List.mem_cons_of_mem _ (List.mem_append_left _ (List.mem_append_right _ h))) (vx_allf _))
set_option maxRecDepth 20000 in
theorem gX10_patch_X10_needPane : GoodIn wsX10_patch (wsV RX10 186 RX10 yX10_needPane wsX10_needPane) := goodIn_app (goodIn_r _ [8, 9, 10, 11] rfl (by decide +kernel)) ggX10_patch_X10_needPane
set_option maxRecDepth 20000 in
theorem ggX10_patch_X10_needWhat : GoodIn wsX10_patch wsX10_needWhat := goodIn_ca (goodIn_r _ [20, 21, 22, 23, 11, 24, 25, 26, 16, 56, 57, 58, 59, 60, 61, 62, 63, 64, 65, 66, 67, 68, 69, 70, 71] rfl (by decide +kernel)) (goodIn_sub (fun _ h => List.mem_cons_of_mem _ (List.mem_append_right _ h)) (vx_allf _))
set_option maxRecDepth 20000 in
theorem gX10_patch_X10_needWhat : GoodIn wsX10_patch (wsV RX10 162 RX10 yX10_needWhat wsX10_needWhat) := goodIn_app (goodIn_r _ [17, 18, 19, 11] rfl (by decide +kernel)) ggX10_patch_X10_needWhat
set_option maxRecDepth 20000 in
theorem ggX10_patch_X1_findPatch : GoodIn wsX10_patch wsX1_findPatch := goodIn_r _ [31, 32, 33, 34, 35, 36, 37, 38, 39, 40, 41, 42, 43, 30, 44, 45, 46, 47, 48, 49, 50, 51, 52, 53, 54, 55, 88, 89, 90, 91, 92, 93, 94, 95, 96, 97, 98, 99] rfl (by decide +kernel)
set_option maxRecDepth 20000 in
theorem gX10_patch_X1_findPatch : GoodIn wsX10_patch (wsV RX10 291 RX1 yX1_findPatch wsX1_findPatch) := goodIn_app (goodIn_r _ [27, 28, 29, 30] rfl (by decide +kernel)) ggX10_patch_X1_findPatch
set_option maxRecDepth 20000 in
theorem ggX10_tells_X10_needPane : GoodIn wsX10_tells wsX10_needPane := goodIn_ca (goodIn_r _ [10, 11, 12, 4, 13, 14, 40, 41, 42, 43, 44, 45, 46, 47, 48, 49, 50, 51, 52, 53, 54, 55, 59, 60, 61, 62, 63, 64, 65, 66, 67, 68, 69, 70, 71] rfl (by decide +kernel)) (goodIn_sub (fun _ h => List.mem_cons_of_mem _ (List.mem_append_right _ h)) (vx_allf _))
set_option maxRecDepth 20000 in
theorem gX10_tells_X10_needPane : GoodIn wsX10_tells (wsV RX10 186 RX10 yX10_needPane wsX10_needPane) := goodIn_app (goodIn_r _ [6, 7, 8, 9] rfl (by decide +kernel)) ggX10_tells_X10_needPane
set_option maxRecDepth 20000 in
theorem ggX10_tells_X0_depths : GoodIn wsX10_tells wsX0_depths := goodIn_r _ [19, 20, 21, 22, 23, 24, 25, 26, 18, 27, 28, 29, 30, 31, 32, 33, 34, 35, 36, 37, 38, 39, 72, 73, 74, 75, 76, 77, 78, 79, 80, 81, 82, 83] rfl (by decide +kernel)
set_option maxRecDepth 20000 in
theorem gX10_tells_X0_depths : GoodIn wsX10_tells (wsV RX10 301 RX0 yX0_depths wsX0_depths) := goodIn_app (goodIn_r _ [15, 16, 17, 18] rfl (by decide +kernel)) ggX10_tells_X0_depths
set_option maxRecDepth 20000 in
theorem ggX10_look_X10_needPane : GoodIn wsX10_look wsX10_needPane := goodIn_ca (goodIn_r _ [10, 11, 12, 4, 13, 14, 68, 69, 70, 71, 72, 73, 74, 75, 76, 77, 78, 79, 80, 81, 82, 83, 87, 88, 89, 90, 91, 92, 93, 94, 95, 96, 97, 98, 99] rfl (by decide +kernel)) (goodIn_sub (fun _ h => List.mem_cons_of_mem _ (List.mem_append_left _ (List.mem_append_right _ h))) (vx_allf _))
set_option maxRecDepth 20000 in
theorem gX10_look_X10_needPane : GoodIn wsX10_look (wsV RX10 186 RX10 yX10_needPane wsX10_needPane) := goodIn_app (goodIn_r _ [6, 7, 8, 9] rfl (by decide +kernel)) ggX10_look_X10_needPane
set_option maxRecDepth 20000 in
theorem ggX10_look_X10_needWhat : GoodIn wsX10_look wsX10_needWhat := goodIn_ca (goodIn_r _ [18, 19, 20, 21, 9, 22, 23, 24, 14, 68, 69, 70, 71, 72, 73, 74, 75, 76, 77, 78, 79, 80, 81, 82, 83] rfl (by decide +kernel)) (goodIn_sub (fun _ h => List.mem_cons_of_mem _ (List.mem_append_right _ h)) (vx_allf _))
set_option maxRecDepth 20000 in
theorem gX10_look_X10_needWhat : GoodIn wsX10_look (wsV RX10 162 RX10 yX10_needWhat wsX10_needWhat) := goodIn_app (goodIn_r _ [15, 16, 17, 9] rfl (by decide +kernel)) ggX10_look_X10_needWhat
set_option maxRecDepth 20000 in
theorem ggX10_look_X0_nextLook : GoodIn wsX10_look wsX0_nextLook := goodIn_r _ [29, 30, 31, 32, 33, 34, 28, 35, 36, 37, 38, 39, 40, 41, 42, 43, 44, 45, 46, 47, 48, 49, 50, 51, 52, 53, 54, 55, 56, 57, 58, 59, 60, 61, 62, 63, 64, 65, 66, 67, 100, 101, 102, 103, 104, 105, 106, 107, 108, 109, 110, 111] rfl (by decide +kernel)
set_option maxRecDepth 20000 in
theorem gX10_look_X0_nextLook : GoodIn wsX10_look (wsV RX10 304 RX0 yX0_nextLook wsX0_nextLook) := goodIn_app (goodIn_r _ [25, 26, 27, 28] rfl (by decide +kernel)) ggX10_look_X0_nextLook
set_option maxRecDepth 20000 in
theorem ggX10_cover_X10_needPane : GoodIn wsX10_cover wsX10_needPane := goodIn_ca (goodIn_r _ [8, 9, 10, 2, 11, 12, 44, 45, 46, 47, 48, 49, 50, 51, 52, 53, 54, 55, 56, 57, 58, 59, 60, 61, 62, 63, 64, 65, 66, 67, 68, 69, 70, 71, 72] rfl (by decide +kernel)) (goodIn_sub (fun _ h => List.mem_cons_of_mem _ (List.mem_append_left _ (List.mem_append_right _ h))) (vx_allf _))
set_option maxRecDepth 20000 in
theorem gX10_cover_X10_needPane : GoodIn wsX10_cover (wsV RX10 186 RX10 yX10_needPane wsX10_needPane) := goodIn_app (goodIn_r _ [4, 5, 6, 7] rfl (by decide +kernel)) ggX10_cover_X10_needPane
set_option maxRecDepth 20000 in
theorem ggX10_cover_X10_needCells : GoodIn wsX10_cover wsX10_needCells := goodIn_ca (goodIn_r _ [16, 2, 3, 17, 18, 19, 7, 20, 21, 22, 12, 44, 45, 46, 47, 48, 49, 50, 51, 52, 53, 54, 55, 56, 57, 58, 59, 60, 61, 62, 63, 64, 65, 66, 67, 68, 69, 70, 71, 72] rfl (by decide +kernel)) (goodIn_sub (fun _ h => List.mem_cons_of_mem _ (List.mem_append_right _ h)) (vx_allf _))
set_option maxRecDepth 20000 in
theorem gX10_cover_X10_needCells : GoodIn wsX10_cover (wsV RX10 263 RX10 yX10_needCells wsX10_needCells) := goodIn_app (goodIn_r _ [13, 14, 15, 7] rfl (by decide +kernel)) ggX10_cover_X10_needCells
set_option maxRecDepth 20000 in
theorem ggX10_cover_X10_need : GoodIn wsX10_cover wsX10_need := goodIn_ca (goodIn_r _ [20, 21, 22, 12, 44, 45, 46, 47, 48, 49, 50, 51, 52, 53, 54, 55, 56, 57, 58, 59] rfl (by decide +kernel)) (goodIn_sub (fun _ h => List.mem_cons_of_mem _ (List.mem_append_right _ h)) (vx_allf _))
set_option maxRecDepth 20000 in
theorem gX10_cover_X10_need : GoodIn wsX10_cover (wsV RX10 223 RX10 yX10_need wsX10_need) := goodIn_app (goodIn_r _ [17, 18, 19, 7] rfl (by decide +kernel)) ggX10_cover_X10_need
set_option maxRecDepth 20000 in
theorem ggX10_cover_X10_needWhat : GoodIn wsX10_cover wsX10_needWhat := goodIn_ca (goodIn_r _ [26, 17, 18, 19, 7, 20, 21, 22, 12, 44, 45, 46, 47, 48, 49, 50, 51, 52, 53, 54, 55, 56, 57, 58, 59] rfl (by decide +kernel)) (goodIn_sub (fun _ h => List.mem_cons_of_mem _ (List.mem_append_right _ h)) (vx_allf _))
set_option maxRecDepth 20000 in
theorem gX10_cover_X10_needWhat : GoodIn wsX10_cover (wsV RX10 162 RX10 yX10_needWhat wsX10_needWhat) := goodIn_app (goodIn_r _ [23, 24, 25, 7] rfl (by decide +kernel)) ggX10_cover_X10_needWhat
set_option maxRecDepth 20000 in
theorem ggX10_cover_X1_fewestCircles : GoodIn wsX10_cover wsX1_fewestCircles := goodIn_r _ [31, 32, 33, 34, 30, 35, 36, 37, 38, 39, 40, 41, 42, 43, 73, 74, 75, 76] rfl (by decide +kernel)
set_option maxRecDepth 20000 in
theorem gX10_cover_X1_fewestCircles : GoodIn wsX10_cover (wsV RX10 308 RX1 yX1_fewestCircles wsX1_fewestCircles) := goodIn_app (goodIn_r _ [27, 28, 29, 30] rfl (by decide +kernel)) ggX10_cover_X1_fewestCircles
set_option maxRecDepth 20000 in
theorem ggX10_game_X10_needPane : GoodIn wsX10_game wsX10_needPane := goodIn_ca (goodIn_r _ [8, 9, 10, 11, 12, 13, 30, 31, 32, 33, 34, 35, 36, 37, 38, 39, 40, 41, 42, 43, 44, 45, 49, 50, 51, 52, 53, 54, 55, 56, 57, 58, 59, 60, 61] rfl (by decide +kernel)) (goodIn_sub (fun _ h => List.mem_cons_of_mem _ (List.mem_append_left _ (List.mem_append_right _ h))) (vx_allf _))
set_option maxRecDepth 20000 in
theorem gX10_game_X10_needPane : GoodIn wsX10_game (wsV RX10 186 RX10 yX10_needPane wsX10_needPane) := goodIn_app (goodIn_r _ [4, 5, 6, 7] rfl (by decide +kernel)) ggX10_game_X10_needPane
set_option maxRecDepth 20000 in
theorem ggX10_game_X10_need : GoodIn wsX10_game wsX10_need := goodIn_ca (goodIn_r _ [17, 18, 19, 13, 30, 31, 32, 33, 34, 35, 36, 37, 38, 39, 40, 41, 42, 43, 44, 45] rfl (by decide +kernel)) (goodIn_sub (fun _ h => List.mem_cons_of_mem _ (List.mem_append_right _ h)) (vx_allf _))
set_option maxRecDepth 20000 in
theorem gX10_game_X10_need : GoodIn wsX10_game (wsV RX10 223 RX10 yX10_need wsX10_need) := goodIn_app (goodIn_r _ [14, 15, 16, 7] rfl (by decide +kernel)) ggX10_game_X10_need
set_option maxRecDepth 20000 in
theorem ggX10_game_X10_needWhat : GoodIn wsX10_game wsX10_needWhat := goodIn_ca (goodIn_r _ [23, 14, 15, 16, 7, 17, 18, 19, 13, 30, 31, 32, 33, 34, 35, 36, 37, 38, 39, 40, 41, 42, 43, 44, 45] rfl (by decide +kernel)) (goodIn_sub (fun _ h => List.mem_cons_of_mem _ (List.mem_append_right _ h)) (vx_allf _))
set_option maxRecDepth 20000 in
theorem gX10_game_X10_needWhat : GoodIn wsX10_game (wsV RX10 162 RX10 yX10_needWhat wsX10_needWhat) := goodIn_app (goodIn_r _ [20, 21, 22, 7] rfl (by decide +kernel)) ggX10_game_X10_needWhat
set_option maxRecDepth 20000 in
theorem ggX10_game_X1_winningCells : GoodIn wsX10_game wsX1_winningCells := goodIn_r _ [28, 29, 62, 63, 64, 65, 66, 67, 68, 69] rfl (by decide +kernel)
set_option maxRecDepth 20000 in
theorem gX10_game_X1_winningCells : GoodIn wsX10_game (wsV RX10 312 RX1 yX1_winningCells wsX1_winningCells) := goodIn_app (goodIn_r _ [24, 25, 26, 27] rfl (by decide +kernel)) ggX10_game_X1_winningCells
set_option maxRecDepth 20000 in
theorem ggX10_round_X10_needOrders : GoodIn wsX10_round wsX10_needOrders := goodIn_ca (goodIn_r _ [9, 2, 10, 11, 12, 13, 8, 14, 15, 16, 17, 58, 59, 60, 61, 62, 63, 64, 65, 66, 67, 68, 69, 70, 71, 72, 73, 77, 78, 79, 80, 81, 82, 83, 84, 85, 86, 87, 88, 89] rfl (by decide +kernel)) (goodIn_sub (fun _ h => List.mem_cons_of_mem _ (List.mem_append_right _ h)) (vx_allf _))
set_option maxRecDepth 20000 in
theorem gX10_round_X10_needOrders : GoodIn wsX10_round (wsV RX10 315 RX10 yX10_needOrders wsX10_needOrders) := goodIn_app (goodIn_r _ [5, 6, 7, 8] rfl (by decide +kernel)) ggX10_round_X10_needOrders
set_option maxRecDepth 20000 in
theorem ggX10_round_X10_needWhat : GoodIn wsX10_round wsX10_needWhat := goodIn_ca (goodIn_r _ [21, 11, 12, 13, 8, 14, 15, 16, 17, 58, 59, 60, 61, 62, 63, 64, 65, 66, 67, 68, 69, 70, 71, 72, 73] rfl (by decide +kernel)) (goodIn_sub (fun _ h => List.mem_cons_of_mem _ (List.mem_append_right _ h)) (vx_allf _))
set_option maxRecDepth 20000 in
theorem gX10_round_X10_needWhat : GoodIn wsX10_round (wsV RX10 162 RX10 yX10_needWhat wsX10_needWhat) := goodIn_app (goodIn_r _ [18, 19, 20, 8] rfl (by decide +kernel)) ggX10_round_X10_needWhat
set_option maxRecDepth 20000 in
theorem ggX10_round_X5_walkFreely : GoodIn wsX10_round wsX5_walkFreely := goodIn_r _ [26, 27, 28, 29, 30, 31, 32, 33, 34, 35, 25, 36, 37, 38, 39, 40, 41, 42, 43, 44, 45, 46, 47, 48, 49, 50, 51, 52, 53, 54, 55, 56, 57, 74, 75, 76, 77, 78, 79, 80, 81, 82, 83, 84, 85, 86, 87, 88, 89] rfl (by decide +kernel)
set_option maxRecDepth 20000 in
theorem gX10_round_X5_walkFreely : GoodIn wsX10_round (wsV RX10 318 RX5 yX5_walkFreely wsX5_walkFreely) := goodIn_app (goodIn_r _ [22, 23, 24, 25] rfl (by decide +kernel)) ggX10_round_X5_walkFreely
set_option maxRecDepth 20000 in
theorem ggX10_by_X10_needOrders : GoodIn wsX10_by wsX10_needOrders := goodIn_ca (goodIn_r _ [11, 2, 12, 13, 14, 15, 10, 16, 17, 18, 19, 59, 60, 61, 62, 63, 64, 65, 66, 67, 68, 69, 70, 71, 72, 73, 74, 89, 90, 91, 92, 93, 94, 95, 96, 97, 98, 99, 100, 101] rfl (by decide +kernel)) (goodIn_sub (fun _ h => List.mem_cons_of_mem _ (List.mem_append_right _ h)) (vx_allf _))
set_option maxRecDepth 20000 in
theorem gX10_by_X10_needOrders : GoodIn wsX10_by (wsV RX10 315 RX10 yX10_needOrders wsX10_needOrders) := goodIn_app (goodIn_r _ [7, 8, 9, 10] rfl (by decide +kernel)) ggX10_by_X10_needOrders
set_option maxRecDepth 20000 in
theorem ggX10_by_X10_need : GoodIn wsX10_by wsX10_need := goodIn_ca (goodIn_r _ [16, 17, 18, 19, 59, 60, 61, 62, 63, 64, 65, 66, 67, 68, 69, 70, 71, 72, 73, 74] rfl (by decide +kernel)) (goodIn_sub (fun _ h => List.mem_cons_of_mem _ (List.mem_append_right _ h)) (vx_allf _))
set_option maxRecDepth 20000 in
theorem gX10_by_X10_need : GoodIn wsX10_by (wsV RX10 223 RX10 yX10_need wsX10_need) := goodIn_app (goodIn_r _ [13, 14, 15, 10] rfl (by decide +kernel)) ggX10_by_X10_need
set_option maxRecDepth 20000 in
theorem ggX10_by_X5_walkInTime : GoodIn wsX10_by wsX5_walkInTime := goodIn_r _ [24, 25, 26, 27, 28, 29, 30, 31, 32, 33, 34, 35, 36, 37, 38, 39, 40, 41, 42, 43, 44, 23, 45, 46, 47, 48, 49, 50, 51, 52, 53, 54, 55, 56, 57, 58, 86, 87, 88, 89, 90, 91, 92, 93, 94, 95, 96, 97, 98, 99, 100, 101] rfl (by decide +kernel)
set_option maxRecDepth 20000 in
theorem gX10_by_X5_walkInTime : GoodIn wsX10_by (wsV RX10 328 RX5 yX5_walkInTime wsX5_walkInTime) := goodIn_app (goodIn_r _ [20, 21, 22, 23] rfl (by decide +kernel)) ggX10_by_X5_walkInTime
set_option maxRecDepth 20000 in
theorem ggX10_share_X10_needCell : GoodIn wsX10_share wsX10_needCell := goodIn_ca (goodIn_ca (goodIn_r _ [8, 9, 10, 11, 12, 13, 14, 15, 16, 17, 7, 18, 19, 20, 21, 22, 23, 24, 43, 44, 45, 46, 47, 48, 49, 50, 51, 52, 53, 54, 55, 56, 57, 58, 62, 63, 64, 65, 66, 67, 68, 69, 70, 71, 72, 73, 74] rfl (by decide +kernel)) (goodIn_sub (fun _ h => List.mem_cons_of_mem _ (List.mem_append_left _ (List.mem_append_left _ (List.mem_append_right _ h)))) (by decide +kernel))) (goodIn_sub (fun _ h => List.mem_cons_of_mem _ (List.mem_append_left _ (List.mem_append_right _ h))) (vx_allf _))
set_option maxRecDepth 20000 in
theorem gX10_share_X10_needCell : GoodIn wsX10_share (wsV RX10 209 RX10 yX10_needCell wsX10_needCell) := goodIn_app (goodIn_r _ [4, 5, 6, 7] rfl (by decide +kernel)) ggX10_share_X10_needCell
set_option maxRecDepth 20000 in
theorem ggX10_share_X10_need : GoodIn wsX10_share wsX10_need := goodIn_ca (goodIn_r _ [28, 29, 30, 14, 43, 44, 45, 46, 47, 48, 49, 50, 51, 52, 53, 54, 55, 56, 57, 58] rfl (by decide +kernel)) (goodIn_sub (fun _ h => List.mem_cons_of_mem _ (List.mem_append_right _ h)) (vx_allf _))
set_option maxRecDepth 20000 in
theorem gX10_share_X10_need : GoodIn wsX10_share (wsV RX10 223 RX10 yX10_need wsX10_need) := goodIn_app (goodIn_r _ [25, 26, 27, 7] rfl (by decide +kernel)) ggX10_share_X10_need
set_option maxRecDepth 20000 in
theorem ggX10_share_X1_shareOf : GoodIn wsX10_share wsX1_shareOf := goodIn_r _ [35, 36, 37, 38, 39, 40, 41, 42, 75, 76, 77, 78, 79, 80, 81, 82] rfl (by decide +kernel)
set_option maxRecDepth 20000 in
theorem gX10_share_X1_shareOf : GoodIn wsX10_share (wsV RX10 332 RX1 yX1_shareOf wsX1_shareOf) := goodIn_app (goodIn_r _ [31, 32, 33, 34] rfl (by decide +kernel)) ggX10_share_X1_shareOf
set_option maxRecDepth 20000 in
theorem ggX10_ahead_X10_needPane : GoodIn wsX10_ahead wsX10_needPane := goodIn_ca (goodIn_r _ [13, 14, 15, 4, 16, 17, 127, 128, 129, 130, 131, 132, 133, 134, 135, 136, 137, 138, 139, 140, 141, 142, 152, 153, 154, 155, 156, 157, 158, 159, 160, 161, 162, 163, 164] rfl (by decide +kernel)) (goodIn_sub (fun _ h => List.mem_cons_of_mem _ (List.mem_append_left _ (List.mem_append_right _ h))) (vx_allf _))
set_option maxRecDepth 20000 in
theorem gX10_ahead_X10_needPane : GoodIn wsX10_ahead (wsV RX10 186 RX10 yX10_needPane wsX10_needPane) := goodIn_app (goodIn_r _ [9, 10, 11, 12] rfl (by decide +kernel)) ggX10_ahead_X10_needPane
set_option maxRecDepth 20000 in
theorem ggX10_ahead_X10_need : GoodIn wsX10_ahead wsX10_need := goodIn_ca (goodIn_r _ [21, 22, 23, 17, 127, 128, 129, 130, 131, 132, 133, 134, 135, 136, 137, 138, 139, 140, 141, 142] rfl (by decide +kernel)) (goodIn_sub (fun _ h => List.mem_cons_of_mem _ (List.mem_append_right _ h)) (vx_allf _))
set_option maxRecDepth 20000 in
theorem gX10_ahead_X10_need : GoodIn wsX10_ahead (wsV RX10 223 RX10 yX10_need wsX10_need) := goodIn_app (goodIn_r _ [18, 19, 20, 12] rfl (by decide +kernel)) ggX10_ahead_X10_need
set_option maxRecDepth 20000 in
theorem ggX10_ahead_X10_needWhat : GoodIn wsX10_ahead wsX10_needWhat := goodIn_ca (goodIn_r _ [27, 18, 19, 20, 12, 21, 22, 23, 17, 127, 128, 129, 130, 131, 132, 133, 134, 135, 136, 137, 138, 139, 140, 141, 142] rfl (by decide +kernel)) (goodIn_sub (fun _ h => List.mem_cons_of_mem _ (List.mem_append_right _ h)) (vx_allf _))
set_option maxRecDepth 20000 in
theorem gX10_ahead_X10_needWhat : GoodIn wsX10_ahead (wsV RX10 162 RX10 yX10_needWhat wsX10_needWhat) := goodIn_app (goodIn_r _ [24, 25, 26, 12] rfl (by decide +kernel)) ggX10_ahead_X10_needWhat
set_option maxRecDepth 20000 in
theorem ggX10_ahead_X8_foresee : GoodIn wsX10_ahead wsX8_foresee := goodIn_r _ [32, 33, 34, 35, 36, 37, 38, 39, 40, 41, 42, 43, 44, 45, 46, 47, 48, 49, 50, 51, 52, 53, 54, 55, 56, 57, 58, 59, 60, 61, 62, 63, 64, 65, 31, 66, 67, 68, 69, 70, 71, 72, 73, 74, 75, 76, 77, 78, 79, 80, 81, 82, 83, 84, 85, 86, 87, 88, 89, 90, 91, 92, 93, 94, 95, 146, 147, 148, 149, 150, 151, 165, 166, 167, 168, 169, 170, 171, 172, 152, 153, 154, 155, 156, 157, 158, 159, 160, 161, 162, 163, 164, 173, 174, 175] rfl (by decide +kernel)
set_option maxRecDepth 20000 in
theorem gX10_ahead_X8_foresee : GoodIn wsX10_ahead (wsV RX10 335 RX8 yX8_foresee wsX8_foresee) := goodIn_app (goodIn_r _ [28, 29, 30, 31] rfl (by decide +kernel)) ggX10_ahead_X8_foresee
set_option maxRecDepth 20000 in
theorem ggX10_ahead_X2_filmsOn : GoodIn wsX10_ahead wsX2_filmsOn := goodIn_r _ [99, 48, 165, 166, 167, 168, 169, 170, 171, 172] rfl (by decide +kernel)
set_option maxRecDepth 20000 in
theorem gX10_ahead_X2_filmsOn : GoodIn wsX10_ahead (wsV RX10 201 RX2 yX2_filmsOn wsX2_filmsOn) := goodIn_app (goodIn_r _ [96, 97, 98, 41] rfl (by decide +kernel)) ggX10_ahead_X2_filmsOn
set_option maxRecDepth 20000 in
theorem ggX10_ahead_X1_countSeams : GoodIn wsX10_ahead wsX1_countSeams := goodIn_r _ [104, 105, 106, 103, 107, 108, 81, 82, 41, 83, 48, 43, 165, 166, 167, 168, 169, 170, 171, 172] rfl (by decide +kernel)
set_option maxRecDepth 20000 in
theorem gX10_ahead_X1_countSeams : GoodIn wsX10_ahead (wsV RX10 272 RX1 yX1_countSeams wsX1_countSeams) := goodIn_app (goodIn_r _ [100, 101, 102, 103] rfl (by decide +kernel)) ggX10_ahead_X1_countSeams
set_option maxRecDepth 20000 in
theorem ggX10_ahead_X1_countDaysShown : GoodIn wsX10_ahead wsX1_countDaysShown := goodIn_r _ [112, 113, 114, 115, 116, 103, 117, 118, 119, 120, 121, 122, 123, 124, 125, 41, 126, 48, 43, 176, 177, 178, 179, 165, 166, 167, 168, 169, 170, 171, 172] rfl (by decide +kernel)
set_option maxRecDepth 20000 in
theorem gX10_ahead_X1_countDaysShown : GoodIn wsX10_ahead (wsV RX10 275 RX1 yX1_countDaysShown wsX1_countDaysShown) := goodIn_app (goodIn_r _ [109, 110, 111, 103] rfl (by decide +kernel)) ggX10_ahead_X1_countDaysShown
set_option maxRecDepth 20000 in
theorem ggX10_decade_X10_needDecade : GoodIn wsX10_decade wsX10_needDecade := goodIn_ca (goodIn_r _ [15, 16, 17, 18, 14, 19, 20, 21, 22, 114, 115, 116, 117, 118, 119, 120, 121, 122, 123, 124, 125, 126, 127, 128, 129] rfl (by decide +kernel)) (goodIn_sub (fun _ h => List.mem_cons_of_mem _ (List.mem_append_right _ h)) (vx_allf _))
set_option maxRecDepth 20000 in
theorem gX10_decade_X10_needDecade : GoodIn wsX10_decade (wsV RX10 342 RX10 yX10_needDecade wsX10_needDecade) := goodIn_app (goodIn_r _ [11, 12, 13, 14] rfl (by decide +kernel)) ggX10_decade_X10_needDecade
set_option maxRecDepth 20000 in
theorem ggX10_decade_X10_needWhat : GoodIn wsX10_decade wsX10_needWhat := goodIn_ca (goodIn_r _ [26, 16, 17, 18, 14, 19, 20, 21, 22, 114, 115, 116, 117, 118, 119, 120, 121, 122, 123, 124, 125, 126, 127, 128, 129] rfl (by decide +kernel)) (goodIn_sub (fun _ h => List.mem_cons_of_mem _ (List.mem_append_right _ h)) (vx_allf _))
set_option maxRecDepth 20000 in
theorem gX10_decade_X10_needWhat : GoodIn wsX10_decade (wsV RX10 162 RX10 yX10_needWhat wsX10_needWhat) := goodIn_app (goodIn_r _ [23, 24, 25, 14] rfl (by decide +kernel)) ggX10_decade_X10_needWhat
set_option maxRecDepth 20000 in
theorem ggX10_decade_X8_foresee : GoodIn wsX10_decade wsX8_foresee := goodIn_r _ [31, 32, 33, 34, 35, 36, 37, 38, 39, 40, 41, 42, 43, 44, 45, 46, 47, 48, 49, 50, 51, 52, 53, 54, 55, 56, 57, 58, 59, 60, 61, 62, 63, 64, 30, 65, 66, 67, 68, 69, 70, 71, 72, 73, 74, 75, 76, 77, 78, 79, 80, 81, 82, 83, 84, 85, 86, 87, 88, 89, 90, 91, 92, 93, 94, 154, 155, 156, 157, 158, 159, 146, 147, 148, 149, 150, 151, 152, 153, 133, 134, 135, 136, 137, 138, 139, 140, 141, 142, 143, 144, 145, 160, 161, 162] rfl (by decide +kernel)
set_option maxRecDepth 20000 in
theorem gX10_decade_X8_foresee : GoodIn wsX10_decade (wsV RX10 335 RX8 yX8_foresee wsX8_foresee) := goodIn_app (goodIn_r _ [27, 28, 29, 30] rfl (by decide +kernel)) ggX10_decade_X8_foresee
set_option maxRecDepth 20000 in
theorem ggX10_decade_X8_drawDecade : GoodIn wsX10_decade wsX8_drawDecade := goodIn_r _ [98, 99, 100, 101, 36, 102, 32, 103, 104, 105, 40, 106, 47, 154, 155, 156, 157, 158, 159, 146, 147, 148, 149, 150, 151, 152, 153] rfl (by decide +kernel)
set_option maxRecDepth 20000 in
theorem gX10_decade_X8_drawDecade : GoodIn wsX10_decade (wsV RX10 348 RX8 yX8_drawDecade wsX8_drawDecade) := goodIn_app (goodIn_r _ [95, 96, 97, 30] rfl (by decide +kernel)) ggX10_decade_X8_drawDecade
set_option maxRecDepth 20000 in
theorem ggX10_decade_J6_bitCount_0f7a4 : GoodIn wsX10_decade wsJ6_bitCount_0f7a4 := goodIn_r _ [110, 111, 112, 113] rfl (by decide +kernel)
set_option maxRecDepth 20000 in
theorem gX10_decade_J6_bitCount_0f7a4 : GoodIn wsX10_decade (va_wsS RX10 358 yJ6_bitCount_0f7a4 wsJ6_bitCount_0f7a4) := goodIn_app (goodIn_r _ [107, 108, 109] rfl (by decide +kernel)) ggX10_decade_J6_bitCount_0f7a4
set_option maxRecDepth 20000 in
theorem ggX10_span_X10_need : GoodIn wsX10_span wsX10_need := goodIn_ca (goodIn_r _ [21, 22, 23, 24, 110, 111, 112, 113, 114, 115, 116, 117, 118, 119, 120, 121, 122, 123, 124, 125] rfl (by decide +kernel)) (goodIn_sub (fun _ h => List.mem_cons_of_mem _ (List.mem_append_right _ h)) (vx_allf _))
set_option maxRecDepth 20000 in
theorem gX10_span_X10_need : GoodIn wsX10_span (wsV RX10 223 RX10 yX10_need wsX10_need) := goodIn_app (goodIn_r _ [17, 18, 19, 20] rfl (by decide +kernel)) ggX10_span_X10_need
set_option maxRecDepth 20000 in
theorem ggX10_span_X10_needDecade : GoodIn wsX10_span wsX10_needDecade := goodIn_ca (goodIn_r _ [28, 17, 18, 19, 20, 21, 22, 23, 24, 110, 111, 112, 113, 114, 115, 116, 117, 118, 119, 120, 121, 122, 123, 124, 125] rfl (by decide +kernel)) (goodIn_sub (fun _ h => List.mem_cons_of_mem _ (List.mem_append_right _ h)) (vx_allf _))
set_option maxRecDepth 20000 in
theorem gX10_span_X10_needDecade : GoodIn wsX10_span (wsV RX10 342 RX10 yX10_needDecade wsX10_needDecade) := goodIn_app (goodIn_r _ [25, 26, 27, 20] rfl (by decide +kernel)) ggX10_span_X10_needDecade
set_option maxRecDepth 20000 in
theorem ggX10_span_X10_needWhat : GoodIn wsX10_span wsX10_needWhat := goodIn_ca (goodIn_r _ [32, 17, 18, 19, 20, 21, 22, 23, 24, 110, 111, 112, 113, 114, 115, 116, 117, 118, 119, 120, 121, 122, 123, 124, 125] rfl (by decide +kernel)) (goodIn_sub (fun _ h => List.mem_cons_of_mem _ (List.mem_append_right _ h)) (vx_allf _))
set_option maxRecDepth 20000 in
theorem gX10_span_X10_needWhat : GoodIn wsX10_span (wsV RX10 162 RX10 yX10_needWhat wsX10_needWhat) := goodIn_app (goodIn_r _ [29, 30, 31, 20] rfl (by decide +kernel)) ggX10_span_X10_needWhat
set_option maxRecDepth 20000 in
theorem ggX10_span_X8_foresee : GoodIn wsX10_span wsX8_foresee := goodIn_r _ [37, 38, 39, 40, 41, 42, 43, 44, 45, 46, 47, 48, 49, 50, 51, 52, 53, 54, 55, 56, 57, 58, 59, 60, 61, 62, 63, 64, 10, 11, 12, 65, 66, 67, 36, 68, 69, 70, 71, 72, 73, 74, 75, 76, 77, 78, 79, 80, 81, 82, 83, 84, 85, 86, 87, 88, 89, 90, 91, 92, 93, 94, 95, 96, 97, 150, 151, 152, 153, 154, 155, 142, 143, 144, 145, 146, 147, 148, 149, 126, 127, 128, 129, 130, 131, 132, 133, 134, 135, 136, 137, 138, 156, 157, 158] rfl (by decide +kernel)
set_option maxRecDepth 20000 in
theorem gX10_span_X8_foresee : GoodIn wsX10_span (wsV RX10 335 RX8 yX8_foresee wsX8_foresee) := goodIn_app (goodIn_r _ [33, 34, 35, 36] rfl (by decide +kernel)) ggX10_span_X8_foresee
set_option maxRecDepth 20000 in
theorem ggX10_span_X8_drawDecade : GoodIn wsX10_span wsX8_drawDecade := goodIn_r _ [101, 102, 103, 104, 42, 105, 38, 106, 107, 108, 46, 109, 53, 150, 151, 152, 153, 154, 155, 142, 143, 144, 145, 146, 147, 148, 149] rfl (by decide +kernel)
set_option maxRecDepth 20000 in
theorem gX10_span_X8_drawDecade : GoodIn wsX10_span (wsV RX10 348 RX8 yX8_drawDecade wsX8_drawDecade) := goodIn_app (goodIn_r _ [98, 99, 100, 36] rfl (by decide +kernel)) ggX10_span_X8_drawDecade
set_option maxRecDepth 20000 in
theorem ggX10_image_X4_init : GoodIn wsX10_image wsX4_init := goodIn_r _ [8, 9, 10, 11, 12, 13, 14, 15, 16, 17, 18, 19, 20, 21, 22, 23, 65, 66, 67, 68, 69, 70, 71, 72, 62, 63, 64] rfl (by decide +kernel)
set_option maxRecDepth 20000 in
theorem gX10_image_X4_init_n62 : GoodIn wsX10_image (wsX4_init) := ggX10_image_X4_init
set_option maxRecDepth 20000 in
theorem ggX10_image_X4_copy : GoodIn wsX10_image wsX4_copy := goodIn_r _ [27, 15, 28, 29, 30, 31, 14, 32, 21, 33, 34, 35, 36, 22, 23, 37, 38, 39, 40, 41, 42, 43, 44, 5, 45, 16, 12, 13, 17, 18, 19, 10, 11, 20, 62, 63, 64, 65, 66, 67, 68, 69, 70, 71, 72] rfl (by decide +kernel)
set_option maxRecDepth 20000 in
theorem gX10_image_X4_copy : GoodIn wsX10_image (wsV RX10 374 RX4 yX4_copy wsX4_copy) := goodIn_app (goodIn_r _ [24, 25, 26, 5] rfl (by decide +kernel)) ggX10_image_X4_copy
set_option maxRecDepth 20000 in
theorem ggX10_restore_X4_copy : GoodIn wsX10_restore wsX4_copy := goodIn_r _ [9, 10, 11, 12, 13, 14, 15, 16, 17, 18, 19, 20, 21, 22, 23, 24, 25, 26, 27, 28, 29, 30, 31, 8, 32, 33, 34, 35, 36, 37, 38, 39, 40, 41, 58, 59, 60, 61, 62, 63, 64, 65, 66, 67, 68] rfl (by decide +kernel)
set_option maxRecDepth 20000 in
theorem gX10_restore_X4_copy : GoodIn wsX10_restore (wsV RX10 374 RX4 yX4_copy wsX4_copy) := goodIn_app (goodIn_r _ [5, 6, 7, 8] rfl (by decide +kernel)) ggX10_restore_X4_copy
set_option maxRecDepth 20000 in
theorem ggX10_beginText_X10_need : GoodIn wsX10_beginText wsX10_need := goodIn_ca (goodIn_r _ [7, 8, 9, 10, 33, 34, 35, 36, 37, 38, 39, 40, 41, 42, 43, 44, 45, 46, 47, 48] rfl (by decide +kernel)) (goodIn_sub (fun _ h => List.mem_cons_of_mem _ (List.mem_append_right _ h)) (vx_allf _))
set_option maxRecDepth 20000 in
theorem gX10_beginText_X10_need : GoodIn wsX10_beginText (wsV RX10 223 RX10 yX10_need wsX10_need) := goodIn_app (goodIn_r _ [3, 4, 5, 6] rfl (by decide +kernel)) ggX10_beginText_X10_need
set_option maxRecDepth 20000 in
theorem ggX10_beginText_X7_begin : GoodIn wsX10_beginText wsX7_begin := goodIn_r _ [15, 16, 17, 18, 19, 20, 21, 22, 14, 23, 24, 25, 26, 27, 28, 29, 30, 31, 32, 49, 50, 51, 52, 53, 54, 55, 56, 57] rfl (by decide +kernel)
set_option maxRecDepth 20000 in
theorem gX10_beginText_X7_begin : GoodIn wsX10_beginText (wsV RX10 378 RX7 yX7_begin wsX7_begin) := goodIn_app (goodIn_r _ [11, 12, 13, 14] rfl (by decide +kernel)) ggX10_beginText_X7_begin
set_option maxRecDepth 20000 in
theorem ggX10_orderState_X6_cellOf : GoodIn wsX10_orderState wsX6_cellOf := goodIn_r _ [10, 11, 12, 13, 14, 61, 62, 63, 64, 65, 66, 67, 68, 69, 70, 71, 72, 73] rfl (by decide +kernel)
set_option maxRecDepth 20000 in
theorem gX10_orderState_X6_cellOf : GoodIn wsX10_orderState (wsV RX10 257 RX6 yX6_cellOf wsX6_cellOf) := goodIn_app (goodIn_r _ [6, 7, 8, 9] rfl (by decide +kernel)) ggX10_orderState_X6_cellOf
set_option maxRecDepth 20000 in
theorem ggX10_orderState_X6_part : GoodIn wsX10_orderState wsX6_part := goodIn_r _ [18, 11, 61, 62, 63, 64, 65, 66, 67, 68, 69, 70, 71, 72, 73] rfl (by decide +kernel)
set_option maxRecDepth 20000 in
theorem gX10_orderState_X6_part : GoodIn wsX10_orderState (wsV RX10 254 RX6 yX6_part wsX6_part) := goodIn_app (goodIn_r _ [15, 16, 17, 9] rfl (by decide +kernel)) ggX10_orderState_X6_part
set_option maxRecDepth 20000 in
theorem ggX10_orderState_X2_shown : GoodIn wsX10_orderState wsX2_shown := goodIn_r _ [23, 24, 25, 53, 54, 55, 56, 57, 58, 59, 60] rfl (by decide +kernel)
set_option maxRecDepth 20000 in
theorem gX10_orderState_X2_shown : GoodIn wsX10_orderState (wsV RX10 213 RX2 yX2_shown wsX2_shown) := goodIn_app (goodIn_r _ [19, 20, 21, 22] rfl (by decide +kernel)) ggX10_orderState_X2_shown
set_option maxRecDepth 20000 in
theorem ggX10_orderState_X2_outsideOf : GoodIn wsX10_orderState wsX2_outsideOf := goodIn_r _ [29, 24, 30, 31, 32, 22, 33, 25, 53, 54, 55, 56, 57, 58, 59, 60] rfl (by decide +kernel)
set_option maxRecDepth 20000 in
theorem gX10_orderState_X2_outsideOf : GoodIn wsX10_orderState (wsV RX10 260 RX2 yX2_outsideOf wsX2_outsideOf) := goodIn_app (goodIn_r _ [26, 27, 28, 22] rfl (by decide +kernel)) ggX10_orderState_X2_outsideOf
set_option maxRecDepth 20000 in
theorem ggX10_needWhat_X10_need : GoodIn wsX10_needWhat wsX10_need := goodIn_ca (goodIn_r _ [5, 6, 7, 8, 9, 10, 11, 12, 13, 14, 15, 16, 17, 18, 19, 20, 21, 22, 23, 24] rfl (by decide +kernel)) (goodIn_sub (fun _ h => List.mem_cons_of_mem _ (List.mem_append_right _ h)) (vx_allf _))
set_option maxRecDepth 20000 in
theorem gX10_needWhat_X10_need : GoodIn wsX10_needWhat (wsV RX10 223 RX10 yX10_need wsX10_need) := goodIn_app (goodIn_r _ [1, 2, 3, 4] rfl (by decide +kernel)) ggX10_needWhat_X10_need
set_option maxRecDepth 20000 in
theorem ggX10_needCells_X10_need : GoodIn wsX10_needCells wsX10_need := goodIn_ca (goodIn_r _ [7, 8, 9, 10, 11, 12, 13, 14, 15, 16, 17, 18, 19, 20, 21, 22, 23, 24, 25, 26] rfl (by decide +kernel)) (goodIn_sub (fun _ h => List.mem_cons_of_mem _ (List.mem_append_right _ h)) (vx_allf _))
set_option maxRecDepth 20000 in
theorem gX10_needCells_X10_need : GoodIn wsX10_needCells (wsV RX10 223 RX10 yX10_need wsX10_need) := goodIn_app (goodIn_r _ [3, 4, 5, 6] rfl (by decide +kernel)) ggX10_needCells_X10_need
set_option maxRecDepth 20000 in
theorem ggX10_needOrders_X10_need : GoodIn wsX10_needOrders wsX10_need := goodIn_ca (goodIn_r _ [7, 8, 9, 10, 11, 12, 13, 14, 15, 16, 17, 18, 19, 20, 21, 22, 23, 24, 25, 26] rfl (by decide +kernel)) (goodIn_sub (fun _ h => List.mem_cons_of_mem _ (List.mem_append_right _ h)) (vx_allf _))
set_option maxRecDepth 20000 in
theorem gX10_needOrders_X10_need : GoodIn wsX10_needOrders (wsV RX10 223 RX10 yX10_need wsX10_need) := goodIn_app (goodIn_r _ [3, 4, 5, 6] rfl (by decide +kernel)) ggX10_needOrders_X10_need
set_option maxRecDepth 20000 in
theorem ggX10_needDecade_X10_need : GoodIn wsX10_needDecade wsX10_need := goodIn_ca (goodIn_r _ [5, 6, 7, 8, 9, 10, 11, 12, 13, 14, 15, 16, 17, 18, 19, 20, 21, 22, 23, 24] rfl (by decide +kernel)) (goodIn_sub (fun _ h => List.mem_cons_of_mem _ (List.mem_append_right _ h)) (vx_allf _))
set_option maxRecDepth 20000 in
theorem gX10_needDecade_X10_need : GoodIn wsX10_needDecade (wsV RX10 223 RX10 yX10_need wsX10_need) := goodIn_app (goodIn_r _ [1, 2, 3, 4] rfl (by decide +kernel)) ggX10_needDecade_X10_need
set_option maxRecDepth 20000 in
theorem ggX10_needCell_X10_needPane : GoodIn wsX10_needCell wsX10_needPane := goodIn_ca (goodIn_r _ [11, 12, 13, 3, 14, 6, 18, 19, 20, 21, 22, 23, 24, 25, 26, 27, 28, 29, 30, 31, 32, 33, 34, 35, 36, 37, 38, 39, 40, 41, 42, 43, 44, 45, 46] rfl (by decide +kernel)) (goodIn_sub (fun _ h => List.mem_cons_of_mem _ (List.mem_append_right _ h)) (vx_allf _))
set_option maxRecDepth 20000 in
theorem gX10_needCell_X10_needPane : GoodIn wsX10_needCell (wsV RX10 186 RX10 yX10_needPane wsX10_needPane) := goodIn_app (goodIn_r _ [7, 8, 9, 10] rfl (by decide +kernel)) ggX10_needCell_X10_needPane
set_option maxRecDepth 20000 in
theorem ggX10_needCell_X10_cellAt : GoodIn wsX10_needCell wsX10_cellAt := goodIn_r _ [17] rfl (by decide +kernel)
set_option maxRecDepth 20000 in
theorem gX10_needCell_X10_cellAt : GoodIn wsX10_needCell (va_wsS RX10 393 yX10_cellAt wsX10_cellAt) := goodIn_app (goodIn_r _ [15, 16, 10] rfl (by decide +kernel)) ggX10_needCell_X10_cellAt
