set_option maxRecDepth 20000 in
theorem ggL_law_X6_init : GoodIn wsL_law wsX6_init := goodIn_r _ [9, 10, 11, 12, 13, 14, 15, 16, 17, 18, 19, 20, 21, 22, 23, 24, 25, 26, 27, 28, 29, 30, 31, 32, 33, 34, 35, 36, 37, 38, 39, 40, 41, 42, 43, 44, 45, 46, 47, 48, 49, 50, 51, 52, 53, 54, 55, 56, 57, 58, 59, 60, 61, 62, 63, 64, 65, 66, 67, 68, 69, 70, 71, 72, 73, 74, 75, 76, 797, 798, 777, 778, 779, 780, 799, 800, 801, 802, 803, 804, 805, 806, 807, 808, 809, 810, 811, 812, 813, 814, 815, 816, 817, 818, 819] (by decide +kernel) (by decide +kernel)
set_option maxRecDepth 20000 in
theorem gL_law_X6_init : GoodIn wsL_law (wsX6_init) := ggL_law_X6_init
set_option maxRecDepth 20000 in
theorem ggL_law_X7_init : GoodIn wsL_law wsX7_init := goodIn_r _ [79, 80, 11, 12, 59, 81, 82, 83, 84, 85, 86, 87, 88, 89, 90, 91, 92, 93, 94, 95, 781, 782, 783, 784, 785, 786, 787, 788, 789, 790, 791, 792, 793, 794, 795, 796] (by decide +kernel) (by decide +kernel)
set_option maxRecDepth 20000 in
theorem gL_law_X7_init : GoodIn wsL_law (wsX7_init) := ggL_law_X7_init
set_option maxRecDepth 20000 in
theorem ggL_law_L_makeAuthor : GoodIn wsL_law wsL_makeAuthor := goodIn_ca (goodIn_ca (goodIn_r _ [99, 100, 101, 102, 103, 104, 2, 105, 106, 107, 108, 109, 110, 111, 23, 112, 113, 114, 115, 116, 117, 118, 119, 120, 121, 122, 123, 124, 16, 17, 125, 126, 127, 15, 128, 32, 129, 130, 131, 31, 132, 133, 134, 135, 136, 137, 33, 34, 35, 52, 53, 54, 11, 12, 55, 138, 139, 140, 141, 142, 143, 41, 144, 145, 146, 147, 148, 149, 150, 151, 152, 153, 154, 155, 40, 156, 157, 158, 159, 160, 161, 162, 163, 164, 165, 166, 167, 168, 169, 170, 171, 172, 173, 174, 175, 176, 177, 178, 179, 180, 181, 182, 183, 184, 185, 186, 187, 188, 189, 190, 191, 192, 25, 193, 68, 69, 70, 194, 195, 196, 197, 66, 67, 73, 74, 75, 76, 198, 199, 200, 201, 202, 71, 203, 204, 205, 206, 207, 208, 209, 210, 211, 212, 213, 214, 215, 216, 217, 218, 219, 220, 221, 222, 223, 224, 225, 226, 777, 778, 779, 780, 797, 798, 805, 806, 807, 808, 809, 810, 811, 812, 813, 814, 815, 816, 817, 818, 819, 802, 803, 804] (by decide +kernel) (by decide +kernel)) (goodIn_sub (fun _ h => List.mem_append_left _ (List.mem_append_left _ (List.mem_append_right _ h))) (by decide +kernel))) (goodIn_sub (fun _ h => List.mem_append_left _ (List.mem_append_right _ h)) (by decide +kernel))
set_option maxRecDepth 20000 in
theorem gL_law_L_makeAuthor : GoodIn wsL_law (va_wsS RL 81 yL_makeAuthor wsL_makeAuthor) := goodIn_app (goodIn_of _ (by decide +kernel)) ggL_law_L_makeAuthor
set_option maxRecDepth 20000 in
theorem ggL_law_X7_makeAuthor : GoodIn wsL_law wsX7_makeAuthor := goodIn_r _ [230, 231, 232, 5, 233, 234, 235, 236, 237, 238, 239, 240, 241, 242, 243, 244, 245, 81, 88, 89, 90, 91, 246, 247, 248, 781, 782, 783, 784, 785, 786, 787, 788, 789, 790, 791, 792, 793, 794, 795, 796] (by decide +kernel) (by decide +kernel)
set_option maxRecDepth 20000 in
theorem gL_law_X7_makeAuthor : GoodIn wsL_law (wsV RL 86 RX7 yX7_makeAuthor wsX7_makeAuthor) := goodIn_app (goodIn_of _ (by decide +kernel)) ggL_law_X7_makeAuthor
set_option maxRecDepth 20000 in
theorem ggL_law_L_makeBook : GoodIn wsL_law wsL_makeBook := goodIn_ca (goodIn_ca (goodIn_ca (goodIn_r _ [251, 100, 101, 252, 253, 254, 255, 2, 256, 106, 107, 108, 109, 110, 111, 23, 112, 113, 114, 115, 116, 257, 258, 259, 260, 261, 199, 200, 201, 25, 202, 71, 203, 194, 195, 196, 197, 66, 67, 204, 130, 131, 31, 132, 133, 205, 206, 207, 208, 209, 210, 211, 212, 213, 214, 215, 216, 217, 218, 219, 220, 41, 262, 263, 264, 70, 265, 225, 266, 117, 118, 119, 120, 121, 122, 123, 124, 16, 17, 125, 126, 127, 15, 128, 32, 129, 134, 135, 136, 137, 33, 34, 35, 52, 53, 54, 11, 12, 55, 138, 139, 140, 141, 142, 143, 144, 145, 146, 147, 148, 149, 150, 151, 152, 153, 154, 155, 40, 156, 157, 158, 159, 160, 161, 162, 163, 164, 165, 166, 167, 168, 169, 170, 171, 172, 173, 174, 175, 176, 177, 178, 179, 180, 181, 182, 183, 184, 185, 186, 187, 188, 189, 190, 191, 192, 193, 68, 69, 73, 74, 75, 76, 198, 221, 222, 223, 224, 226, 777, 778, 779, 780, 802, 803, 804, 805, 806, 807, 812, 813, 814, 815, 816, 817, 818, 819, 797, 798, 808, 809, 810, 811] (by decide +kernel) (by decide +kernel)) (goodIn_sub (fun _ h => List.mem_append_left _ (List.mem_append_left _ (List.mem_append_right _ h))) (by decide +kernel))) (goodIn_sub (fun _ h => List.mem_append_left _ (List.mem_append_right _ h)) (by decide +kernel))) (goodIn_sub (fun _ h => List.mem_append_right _ h) (by decide +kernel))
set_option maxRecDepth 20000 in
theorem gL_law_L_makeBook : GoodIn wsL_law (va_wsS RL 87 yL_makeBook wsL_makeBook) := goodIn_app (goodIn_of _ (by decide +kernel)) ggL_law_L_makeBook
set_option maxRecDepth 20000 in
theorem ggL_law_X7_makeBook : GoodIn wsL_law wsX7_makeBook := goodIn_r _ [270, 231, 232, 5, 233, 234, 235, 236, 271, 272, 273, 274, 88, 89, 275, 276, 277, 278, 81, 246, 247, 248, 237, 238, 239, 240, 241, 242, 243, 244, 245, 90, 91, 781, 782, 783, 784, 785, 786, 787, 788, 789, 790, 791, 792, 793, 794, 795, 796] (by decide +kernel) (by decide +kernel)
set_option maxRecDepth 20000 in
theorem gL_law_X7_makeBook : GoodIn wsL_law (wsV RL 90 RX7 yX7_makeBook wsX7_makeBook) := goodIn_app (goodIn_of _ (by decide +kernel)) ggL_law_X7_makeBook
set_option maxRecDepth 20000 in
theorem ggL_law_L_find : GoodIn wsL_law wsL_find := goodIn_ca (goodIn_ca (goodIn_r _ [281, 100, 101, 282, 283, 284, 2, 285, 286, 287, 106, 107, 108, 109, 110, 111, 23, 288, 289, 290, 115, 116, 121, 122, 123, 124, 16, 17, 291, 292, 293, 15, 294, 32, 36, 295, 129, 130, 131, 31, 132, 133, 296, 206, 207, 208, 209, 210, 211, 212, 213, 214, 215, 216, 217, 218, 219, 220, 41, 199, 200, 201, 25, 202, 71, 203, 194, 195, 196, 197, 66, 67, 204, 205, 297, 298, 299, 70, 300, 301, 302, 303, 222, 223, 224, 225, 226, 76, 304, 305, 306, 307, 308, 309, 310, 311, 312, 262, 263, 264, 265, 266, 808, 809, 810, 811, 812, 813, 814, 815, 816, 817, 818, 819, 777, 778, 779, 780, 797, 798, 805, 806, 807, 802, 803, 804] (by decide +kernel) (by decide +kernel)) (goodIn_sub (fun _ h => List.mem_append_left _ (List.mem_append_left _ (List.mem_append_right _ h))) (by decide +kernel))) (goodIn_sub (fun _ h => List.mem_append_left _ (List.mem_append_right _ h)) (by decide +kernel))
set_option maxRecDepth 20000 in
theorem gL_law_L_find : GoodIn wsL_law (va_wsS RL 91 yL_find wsL_find) := goodIn_app (goodIn_of _ (by decide +kernel)) ggL_law_L_find
set_option maxRecDepth 20000 in
theorem ggL_law_X7_find : GoodIn wsL_law wsX7_find := goodIn_r _ [316, 88, 231, 232, 5, 233, 317, 318, 319, 237, 238, 239, 240, 241, 320, 321, 322, 323, 83, 275, 276, 277, 278, 81, 324, 325, 326, 246, 247, 248, 327, 328, 329, 330, 89, 90, 84, 91, 85, 92, 93, 94, 86, 271, 272, 273, 274, 781, 782, 783, 784, 785, 786, 787, 788, 789, 790, 791, 792, 793, 794, 795, 796] (by decide +kernel) (by decide +kernel)
set_option maxRecDepth 20000 in
theorem gL_law_X7_find : GoodIn wsL_law (wsV RL 93 RX7 yX7_find wsX7_find) := goodIn_app (goodIn_of _ (by decide +kernel)) ggL_law_X7_find
set_option maxRecDepth 20000 in
theorem ggL_law_L_books : GoodIn wsL_law wsL_books := goodIn_ca (goodIn_ca (goodIn_r _ [333, 100, 252, 334, 335, 336, 2, 337, 106, 107, 108, 109, 110, 111, 23, 257, 258, 259, 260, 261, 199, 200, 201, 25, 202, 71, 203, 194, 195, 196, 197, 66, 67, 204, 130, 131, 31, 132, 133, 205, 206, 207, 208, 209, 210, 211, 212, 213, 214, 215, 216, 217, 218, 219, 220, 41, 262, 263, 264, 70, 265, 225, 266, 338, 339, 340, 341, 286, 342, 287, 121, 122, 123, 124, 16, 17, 125, 126, 127, 15, 128, 32, 129, 291, 292, 293, 294, 36, 295, 296, 297, 298, 299, 300, 301, 302, 303, 222, 223, 224, 226, 76, 304, 305, 306, 307, 308, 309, 310, 311, 312, 343, 344, 345, 346, 347, 348, 349, 350, 351, 777, 778, 779, 780, 802, 803, 804, 805, 806, 807, 812, 813, 814, 815, 816, 817, 818, 819, 808, 809, 810, 811, 797, 798] (by decide +kernel) (by decide +kernel)) (goodIn_sub (fun _ h => List.mem_append_left _ (List.mem_append_left _ (List.mem_append_right _ h))) (by decide +kernel))) (goodIn_sub (fun _ h => List.mem_append_right _ h) (by decide +kernel))
set_option maxRecDepth 20000 in
theorem gL_law_L_books : GoodIn wsL_law (va_wsS RL 94 yL_books wsL_books) := goodIn_app (goodIn_of _ (by decide +kernel)) ggL_law_L_books
set_option maxRecDepth 20000 in
theorem ggL_law_X7_books : GoodIn wsL_law wsX7_books := goodIn_r _ [355, 231, 232, 5, 233, 271, 272, 273, 274, 88, 89, 275, 276, 277, 278, 81, 246, 247, 248, 237, 238, 239, 240, 241, 356, 357, 358, 359, 85, 320, 321, 322, 323, 83, 324, 325, 326, 327, 328, 329, 330, 90, 84, 91, 92, 93, 94, 86, 360, 361, 362, 363, 781, 782, 783, 784, 785, 786, 787, 788, 789, 790, 791, 792, 793, 794, 795, 796] (by decide +kernel) (by decide +kernel)
set_option maxRecDepth 20000 in
theorem gL_law_X7_books : GoodIn wsL_law (wsV RL 96 RX7 yX7_books wsX7_books) := goodIn_app (goodIn_of _ (by decide +kernel)) ggL_law_X7_books
set_option maxRecDepth 20000 in
theorem ggL_law_L_setName : GoodIn wsL_law wsL_setName := goodIn_ca (goodIn_ca (goodIn_ca (goodIn_r _ [366, 100, 101, 252, 367, 368, 369, 2, 370, 371, 106, 107, 108, 109, 110, 111, 23, 288, 289, 290, 115, 116, 112, 113, 114, 257, 258, 259, 260, 261, 199, 200, 201, 25, 202, 71, 203, 194, 195, 196, 197, 66, 67, 204, 130, 131, 31, 132, 133, 205, 206, 207, 208, 209, 210, 211, 212, 213, 214, 215, 216, 217, 218, 219, 220, 41, 262, 263, 264, 70, 265, 225, 266, 812, 813, 814, 815, 816, 817, 818, 819, 777, 778, 779, 780, 802, 803, 804, 805, 806, 807] (by decide +kernel) (by decide +kernel)) (goodIn_sub (fun _ h => List.mem_append_left _ (List.mem_append_left _ (List.mem_append_right _ h))) (by decide +kernel))) (goodIn_sub (fun _ h => List.mem_append_left _ (List.mem_append_right _ h)) (by decide +kernel))) (goodIn_sub (fun _ h => List.mem_append_right _ h) (by decide +kernel))
set_option maxRecDepth 20000 in
theorem gL_law_L_setName : GoodIn wsL_law (va_wsS RL 97 yL_setName wsL_setName) := goodIn_app (goodIn_of _ (by decide +kernel)) ggL_law_L_setName
set_option maxRecDepth 20000 in
theorem ggL_law_X7_setName : GoodIn wsL_law wsX7_setName := goodIn_r _ [375, 90, 234, 235, 5, 236, 376, 377, 378, 379, 231, 232, 233, 317, 318, 319, 271, 272, 273, 274, 88, 89, 275, 276, 277, 278, 81, 246, 247, 248, 237, 238, 239, 240, 241, 781, 782, 783, 784, 785, 786, 787, 788, 789, 790, 791, 792, 793, 794, 795, 796] (by decide +kernel) (by decide +kernel)
set_option maxRecDepth 20000 in
theorem gL_law_X7_setName : GoodIn wsL_law (wsV RL 100 RX7 yX7_setName wsX7_setName) := goodIn_app (goodIn_of _ (by decide +kernel)) ggL_law_X7_setName
set_option maxRecDepth 20000 in
theorem ggL_law_L_setReference : GoodIn wsL_law wsL_setReference := goodIn_ca (goodIn_ca (goodIn_ca (goodIn_r _ [382, 100, 101, 252, 383, 384, 385, 2, 386, 115, 116, 387, 106, 107, 108, 109, 110, 111, 23, 288, 289, 290, 257, 258, 259, 260, 261, 199, 200, 201, 25, 202, 71, 203, 194, 195, 196, 197, 66, 67, 204, 130, 131, 31, 132, 133, 205, 206, 207, 208, 209, 210, 211, 212, 213, 214, 215, 216, 217, 218, 219, 220, 41, 262, 263, 264, 70, 265, 225, 266, 388, 389, 390, 812, 813, 814, 815, 816, 817, 818, 819, 777, 778, 779, 780, 802, 803, 804, 805, 806, 807] (by decide +kernel) (by decide +kernel)) (goodIn_sub (fun _ h => List.mem_append_left _ (List.mem_append_right _ h)) (by decide +kernel))) (goodIn_sub (fun _ h => List.mem_append_left _ (List.mem_append_left _ (List.mem_append_right _ h))) (by decide +kernel))) (goodIn_sub (fun _ h => List.mem_append_right _ h) (by decide +kernel))
set_option maxRecDepth 20000 in
theorem gL_law_L_setReference : GoodIn wsL_law (va_wsS RL 101 yL_setReference wsL_setReference) := goodIn_app (goodIn_of _ (by decide +kernel)) ggL_law_L_setReference
set_option maxRecDepth 20000 in
theorem ggL_law_X7_setReference : GoodIn wsL_law wsX7_setReference := goodIn_r _ [394, 91, 376, 377, 378, 5, 379, 231, 232, 233, 317, 318, 319, 271, 272, 273, 274, 88, 89, 275, 276, 277, 278, 81, 246, 247, 248, 237, 238, 239, 240, 241, 781, 782, 783, 784, 785, 786, 787, 788, 789, 790, 791, 792, 793, 794, 795, 796] (by decide +kernel) (by decide +kernel)
set_option maxRecDepth 20000 in
theorem gL_law_X7_setReference : GoodIn wsL_law (wsV RL 103 RX7 yX7_setReference wsX7_setReference) := goodIn_app (goodIn_of _ (by decide +kernel)) ggL_law_X7_setReference
set_option maxRecDepth 20000 in
theorem ggL_law_L_remove : GoodIn wsL_law wsL_remove := goodIn_ca (goodIn_ca (goodIn_ca (goodIn_r _ [397, 100, 101, 252, 398, 399, 400, 2, 401, 106, 107, 108, 109, 110, 111, 23, 288, 289, 290, 115, 116, 257, 258, 259, 260, 261, 199, 200, 201, 25, 202, 71, 203, 194, 195, 196, 197, 66, 67, 204, 130, 131, 31, 132, 133, 205, 206, 207, 208, 209, 210, 211, 212, 213, 214, 215, 216, 217, 218, 219, 220, 41, 262, 263, 264, 70, 265, 225, 266, 402, 403, 404, 405, 406, 407, 408, 409, 308, 410, 411, 412, 413, 338, 339, 340, 341, 286, 342, 287, 121, 122, 123, 124, 16, 17, 125, 126, 127, 15, 128, 32, 129, 291, 292, 293, 294, 36, 295, 296, 297, 298, 299, 300, 301, 302, 303, 222, 223, 224, 226, 76, 304, 305, 306, 307, 309, 310, 311, 312, 343, 344, 345, 346, 347, 348, 349, 350, 351, 414, 415, 416, 417, 387, 777, 778, 779, 780, 802, 803, 804, 805, 806, 807, 812, 813, 814, 815, 816, 817, 818, 819, 808, 809, 810, 811, 797, 798] (by decide +kernel) (by decide +kernel)) (goodIn_sub (fun _ h => List.mem_append_left _ (List.mem_append_left _ (List.mem_append_right _ h))) (by decide +kernel))) (goodIn_sub (fun _ h => List.mem_append_left _ (List.mem_append_right _ h)) (by decide +kernel))) (goodIn_sub (fun _ h => List.mem_append_right _ h) (by decide +kernel))
set_option maxRecDepth 20000 in
theorem gL_law_L_remove : GoodIn wsL_law (va_wsS RL 104 yL_remove wsL_remove) := goodIn_app (goodIn_of _ (by decide +kernel)) ggL_law_L_remove
set_option maxRecDepth 20000 in
theorem ggL_law_X7_remove : GoodIn wsL_law wsX7_remove := goodIn_r _ [421, 81, 91, 376, 377, 378, 5, 379, 231, 232, 233, 317, 318, 319, 271, 272, 273, 274, 88, 89, 275, 276, 277, 278, 246, 247, 248, 237, 238, 239, 240, 241, 422, 423, 424, 425, 426, 427, 428, 429, 356, 357, 358, 359, 85, 320, 321, 322, 323, 83, 324, 325, 326, 327, 328, 329, 330, 90, 84, 92, 93, 94, 86, 781, 782, 783, 784, 785, 786, 787, 788, 789, 790, 791, 792, 793, 794, 795, 796] (by decide +kernel) (by decide +kernel)
set_option maxRecDepth 20000 in
theorem gL_law_X7_remove : GoodIn wsL_law (wsV RL 106 RX7 yX7_remove wsX7_remove) := goodIn_app (goodIn_of _ (by decide +kernel)) ggL_law_X7_remove
set_option maxRecDepth 20000 in
theorem ggL_law_L_name : GoodIn wsL_law wsL_name := goodIn_ca (goodIn_ca (goodIn_ca (goodIn_r _ [432, 100, 101, 252, 433, 434, 435, 2, 436, 371, 106, 107, 108, 109, 110, 111, 23, 288, 289, 290, 115, 116, 257, 258, 259, 260, 261, 199, 200, 201, 25, 202, 71, 203, 194, 195, 196, 197, 66, 67, 204, 130, 131, 31, 132, 133, 205, 206, 207, 208, 209, 210, 211, 212, 213, 214, 215, 216, 217, 218, 219, 220, 41, 262, 263, 264, 70, 265, 225, 266, 812, 813, 814, 815, 816, 817, 818, 819, 777, 778, 779, 780, 802, 803, 804, 805, 806, 807] (by decide +kernel) (by decide +kernel)) (goodIn_sub (fun _ h => List.mem_append_left _ (List.mem_append_left _ (List.mem_append_right _ h))) (by decide +kernel))) (goodIn_sub (fun _ h => List.mem_append_left _ (List.mem_append_right _ h)) (by decide +kernel))) (goodIn_sub (fun _ h => List.mem_append_right _ h) (by decide +kernel))
set_option maxRecDepth 20000 in
theorem gL_law_L_name : GoodIn wsL_law (va_wsS RL 107 yL_name wsL_name) := goodIn_app (goodIn_of _ (by decide +kernel)) ggL_law_L_name
set_option maxRecDepth 20000 in
theorem ggL_law_X7_name : GoodIn wsL_law wsX7_name := goodIn_r _ [440, 90, 376, 377, 378, 5, 379, 231, 232, 233, 317, 318, 319, 271, 272, 273, 274, 88, 89, 275, 276, 277, 278, 81, 246, 247, 248, 237, 238, 239, 240, 241, 781, 782, 783, 784, 785, 786, 787, 788, 789, 790, 791, 792, 793, 794, 795, 796] (by decide +kernel) (by decide +kernel)
set_option maxRecDepth 20000 in
theorem gL_law_X7_name : GoodIn wsL_law (wsV RL 109 RX7 yX7_name wsX7_name) := goodIn_app (goodIn_of _ (by decide +kernel)) ggL_law_X7_name
set_option maxRecDepth 20000 in
theorem ggL_law_L_reference : GoodIn wsL_law wsL_reference := goodIn_ca (goodIn_ca (goodIn_ca (goodIn_r _ [443, 100, 101, 252, 444, 445, 446, 2, 447, 387, 106, 107, 108, 109, 110, 111, 23, 288, 289, 290, 115, 116, 257, 258, 259, 260, 261, 199, 200, 201, 25, 202, 71, 203, 194, 195, 196, 197, 66, 67, 204, 130, 131, 31, 132, 133, 205, 206, 207, 208, 209, 210, 211, 212, 213, 214, 215, 216, 217, 218, 219, 220, 41, 262, 263, 264, 70, 265, 225, 266, 812, 813, 814, 815, 816, 817, 818, 819, 777, 778, 779, 780, 802, 803, 804, 805, 806, 807] (by decide +kernel) (by decide +kernel)) (goodIn_sub (fun _ h => List.mem_append_left _ (List.mem_append_left _ (List.mem_append_right _ h))) (by decide +kernel))) (goodIn_sub (fun _ h => List.mem_append_left _ (List.mem_append_right _ h)) (by decide +kernel))) (goodIn_sub (fun _ h => List.mem_append_right _ h) (by decide +kernel))
set_option maxRecDepth 20000 in
theorem gL_law_L_reference : GoodIn wsL_law (va_wsS RL 110 yL_reference wsL_reference) := goodIn_app (goodIn_of _ (by decide +kernel)) ggL_law_L_reference
set_option maxRecDepth 20000 in
theorem ggL_law_X7_reference : GoodIn wsL_law wsX7_reference := goodIn_r _ [451, 91, 376, 377, 378, 5, 379, 231, 232, 233, 317, 318, 319, 271, 272, 273, 274, 88, 89, 275, 276, 277, 278, 81, 246, 247, 248, 237, 238, 239, 240, 241, 781, 782, 783, 784, 785, 786, 787, 788, 789, 790, 791, 792, 793, 794, 795, 796] (by decide +kernel) (by decide +kernel)
set_option maxRecDepth 20000 in
theorem gL_law_X7_reference : GoodIn wsL_law (wsV RL 112 RX7 yX7_reference wsX7_reference) := goodIn_app (goodIn_of _ (by decide +kernel)) ggL_law_X7_reference
set_option maxRecDepth 20000 in
theorem ggL_law_L_known : GoodIn wsL_law wsL_known := goodIn_ca (goodIn_r _ [454, 100, 455, 456, 457, 2, 458, 106, 107, 108, 109, 110, 111, 23, 459, 460, 461, 25, 462, 463, 344, 345, 346, 194, 195, 196, 197, 66, 67, 204, 130, 131, 31, 132, 133, 464, 200, 201, 202, 71, 203, 205, 206, 207, 208, 209, 210, 211, 212, 213, 214, 215, 216, 217, 218, 219, 220, 41, 465, 263, 264, 70, 265, 225, 266, 777, 778, 779, 780, 802, 803, 804, 805, 806, 807, 812, 813, 814, 815, 816, 817, 818, 819] (by decide +kernel) (by decide +kernel)) (goodIn_sub (fun _ h => List.mem_append_left _ (List.mem_append_left _ (List.mem_append_right _ h))) (by decide +kernel))
set_option maxRecDepth 20000 in
theorem gL_law_L_known : GoodIn wsL_law (va_wsS RL 113 yL_known wsL_known) := goodIn_app (goodIn_of _ (by decide +kernel)) ggL_law_L_known
set_option maxRecDepth 20000 in
theorem ggL_law_X7_known : GoodIn wsL_law wsX7_known := goodIn_r _ [469, 231, 232, 5, 233, 237, 238, 239, 240, 241, 470, 471, 472, 473, 81, 271, 272, 273, 274, 88, 89, 275, 276, 277, 278, 246, 247, 248, 781, 782, 783, 784, 785, 786, 787, 788, 789, 790, 791, 792, 793, 794, 795, 796] (by decide +kernel) (by decide +kernel)
set_option maxRecDepth 20000 in
theorem gL_law_X7_known : GoodIn wsL_law (wsV RL 116 RX7 yX7_known wsX7_known) := goodIn_app (goodIn_of _ (by decide +kernel)) ggL_law_X7_known
set_option maxRecDepth 20000 in
theorem ggL_law_L_dirty : GoodIn wsL_law wsL_dirty := goodIn_ca (goodIn_r _ [476, 100, 477, 478, 479, 2, 480, 106, 107, 108, 109, 110, 111, 23, 481, 482, 483, 25, 484, 463, 344, 345, 346, 194, 195, 196, 197, 66, 67, 204, 130, 131, 31, 132, 133, 464, 200, 201, 202, 71, 203, 205, 206, 207, 208, 209, 210, 211, 212, 213, 214, 215, 216, 217, 218, 219, 220, 41, 465, 263, 264, 70, 265, 225, 266, 485, 486, 487, 488, 308, 226, 309, 76, 310, 777, 778, 779, 780, 802, 803, 804, 805, 806, 807, 812, 813, 814, 815, 816, 817, 818, 819] (by decide +kernel) (by decide +kernel)) (goodIn_sub (fun _ h => List.mem_append_left _ (List.mem_append_left _ (List.mem_append_right _ h))) (by decide +kernel))
set_option maxRecDepth 20000 in
theorem gL_law_L_dirty : GoodIn wsL_law (va_wsS RL 117 yL_dirty wsL_dirty) := goodIn_app (goodIn_of _ (by decide +kernel)) ggL_law_L_dirty
set_option maxRecDepth 20000 in
theorem ggL_law_X7_dirty : GoodIn wsL_law wsX7_dirty := goodIn_r _ [492, 81, 231, 232, 5, 233, 237, 238, 239, 240, 241, 493, 494, 495, 496, 88, 90, 92, 91, 93, 246, 247, 248, 271, 272, 273, 274, 89, 275, 276, 277, 278, 781, 782, 783, 784, 785, 786, 787, 788, 789, 790, 791, 792, 793, 794, 795, 796] (by decide +kernel) (by decide +kernel)
set_option maxRecDepth 20000 in
theorem gL_law_X7_dirty : GoodIn wsL_law (wsV RL 119 RX7 yX7_dirty wsX7_dirty) := goodIn_app (goodIn_of _ (by decide +kernel)) ggL_law_X7_dirty
set_option maxRecDepth 20000 in
theorem ggL_law_L_flush : GoodIn wsL_law wsL_flush := goodIn_ca (goodIn_ca (goodIn_r _ [499, 100, 252, 500, 501, 502, 2, 503, 260, 261, 21, 504, 505, 506, 16, 17, 507, 106, 107, 108, 109, 110, 111, 23, 508, 509, 510, 20, 511, 512, 513, 514, 515, 516, 11, 12, 517, 518, 519, 520, 521, 522, 523, 524, 525, 526, 527, 528, 529, 344, 345, 25, 346, 194, 195, 196, 197, 66, 67, 204, 130, 131, 31, 132, 133, 530, 200, 201, 202, 71, 203, 205, 206, 207, 208, 209, 210, 211, 212, 213, 214, 215, 216, 217, 218, 219, 220, 41, 531, 532, 533, 534, 535, 292, 293, 15, 294, 32, 36, 295, 129, 296, 536, 537, 538, 70, 539, 266, 540, 311, 312, 541, 486, 487, 488, 308, 226, 309, 76, 310, 542, 543, 544, 545, 546, 547, 548, 549, 550, 551, 552, 553, 554, 555, 556, 557, 558, 559, 225, 560, 561, 562, 563, 564, 565, 566, 389, 390, 567, 568, 569, 570, 571, 572, 573, 574, 575, 576, 577, 578, 579, 580, 581, 582, 35, 583, 584, 585, 55, 586, 587, 588, 589, 590, 60, 61, 591, 592, 172, 593, 594, 595, 596, 597, 598, 599, 59, 183, 184, 158, 185, 186, 187, 188, 189, 600, 305, 306, 307, 301, 302, 601, 602, 603, 604, 605, 606, 607, 608, 609, 610, 611, 612, 613, 614, 615, 616, 617, 411, 412, 413, 777, 778, 779, 780, 820, 821, 822, 823, 799, 800, 801, 802, 803, 804, 805, 806, 807, 797, 798, 812, 813, 814, 815, 816, 817, 818, 819, 808, 809, 810, 811] (by decide +kernel) (by decide +kernel)) (goodIn_sub (fun _ h => List.mem_append_right _ h) (by decide +kernel))) (goodIn_sub (fun _ h => List.mem_append_left _ (List.mem_append_left _ (List.mem_append_right _ h))) (by decide +kernel))
set_option maxRecDepth 20000 in
theorem gL_law_L_flush : GoodIn wsL_law (va_wsS RL 120 yL_flush wsL_flush) := goodIn_app (goodIn_of _ (by decide +kernel)) ggL_law_L_flush
set_option maxRecDepth 20000 in
theorem ggL_law_X7_flush : GoodIn wsL_law wsX7_flush := goodIn_r _ [621, 622, 81, 83, 88, 89, 231, 232, 5, 233, 623, 624, 625, 626, 86, 94, 87, 627, 628, 629, 630, 246, 247, 248, 320, 321, 322, 323, 275, 276, 277, 278, 324, 325, 326, 493, 494, 495, 496, 90, 92, 91, 93, 271, 272, 273, 274, 631, 632, 633, 634, 635, 636, 637, 638, 85, 237, 238, 239, 240, 241, 639, 640, 641, 642, 84, 327, 328, 329, 330, 643, 644, 645, 646, 95, 647, 648, 649, 650, 781, 782, 783, 784, 785, 786, 787, 788, 789, 790, 791, 792, 793, 794, 795, 796] (by decide +kernel) (by decide +kernel)
set_option maxRecDepth 20000 in
theorem gL_law_X7_flush : GoodIn wsL_law (wsV RL 122 RX7 yX7_flush wsX7_flush) := goodIn_app (goodIn_of _ (by decide +kernel)) ggL_law_X7_flush
set_option maxRecDepth 20000 in
theorem ggL_law_L_clear : GoodIn wsL_law wsL_clear := goodIn_ca (goodIn_r _ [653, 100, 654, 655, 656, 2, 657, 106, 107, 108, 109, 110, 111, 23, 459, 460, 461, 25, 462, 463, 344, 345, 346, 194, 195, 196, 197, 66, 67, 204, 130, 131, 31, 132, 133, 464, 200, 201, 202, 71, 203, 205, 206, 207, 208, 209, 210, 211, 212, 213, 214, 215, 216, 217, 218, 219, 220, 41, 465, 263, 264, 70, 265, 225, 266, 658, 659, 660, 661, 662, 411, 412, 413, 308, 777, 778, 779, 780, 802, 803, 804, 805, 806, 807, 812, 813, 814, 815, 816, 817, 818, 819] (by decide +kernel) (by decide +kernel)) (goodIn_sub (fun _ h => List.mem_append_left _ (List.mem_append_left _ (List.mem_append_right _ h))) (by decide +kernel))
set_option maxRecDepth 20000 in
theorem gL_law_L_clear : GoodIn wsL_law (va_wsS RL 123 yL_clear wsL_clear) := goodIn_app (goodIn_of _ (by decide +kernel)) ggL_law_L_clear
set_option maxRecDepth 20000 in
theorem ggL_law_X7_clear : GoodIn wsL_law wsX7_clear := goodIn_r _ [666, 81, 88, 89, 231, 232, 5, 233, 237, 238, 239, 240, 241, 470, 471, 472, 473, 271, 272, 273, 274, 275, 276, 277, 278, 246, 247, 248, 781, 782, 783, 784, 785, 786, 787, 788, 789, 790, 791, 792, 793, 794, 795, 796] (by decide +kernel) (by decide +kernel)
set_option maxRecDepth 20000 in
theorem gL_law_X7_clear : GoodIn wsL_law (wsV RL 125 RX7 yX7_clear wsX7_clear) := goodIn_app (goodIn_of _ (by decide +kernel)) ggL_law_X7_clear
set_option maxRecDepth 20000 in
theorem ggL_law_L_rows : GoodIn wsL_law wsL_rows := goodIn_ca (goodIn_r _ [669, 101, 670, 671, 672, 2, 673, 288, 289, 290, 115, 116, 121, 122, 123, 124, 16, 17, 674, 675, 676, 15, 677, 32, 678, 129, 130, 131, 31, 132, 133, 679, 292, 293, 294, 36, 295, 296, 206, 207, 208, 209, 210, 211, 212, 213, 214, 215, 216, 217, 218, 219, 220, 41, 777, 778, 779, 780, 797, 798, 808, 809, 810, 811, 805, 806, 807] (by decide +kernel) (by decide +kernel)) (goodIn_sub (fun _ h => List.mem_append_left _ (List.mem_append_right _ h)) (by decide +kernel))
set_option maxRecDepth 20000 in
theorem gL_law_L_rows : GoodIn wsL_law (va_wsS RL 126 yL_rows wsL_rows) := goodIn_app (goodIn_of _ (by decide +kernel)) ggL_law_L_rows
set_option maxRecDepth 20000 in
theorem ggL_law_X7_rows : GoodIn wsL_law wsX7_rows := goodIn_r _ [683, 81, 317, 318, 5, 319, 237, 238, 239, 240, 241, 320, 321, 322, 323, 83, 275, 276, 277, 278, 324, 325, 326, 781, 782, 783, 784, 785, 786, 787, 788, 789, 790, 791, 792, 793, 794, 795, 796] (by decide +kernel) (by decide +kernel)
set_option maxRecDepth 20000 in
theorem gL_law_X7_rows : GoodIn wsL_law (wsV RL 128 RX7 yX7_rows wsX7_rows) := goodIn_app (goodIn_of _ (by decide +kernel)) ggL_law_X7_rows
set_option maxRecDepth 20000 in
theorem ggL_law_L_rowName : GoodIn wsL_law wsL_rowName := goodIn_ca (goodIn_ca (goodIn_r _ [686, 101, 100, 687, 688, 689, 2, 690, 691, 692, 693, 694, 695, 110, 111, 286, 288, 289, 290, 115, 116, 121, 122, 123, 124, 16, 17, 291, 292, 293, 15, 294, 32, 36, 295, 129, 130, 131, 31, 132, 133, 296, 206, 207, 208, 209, 210, 211, 212, 213, 214, 215, 216, 217, 218, 219, 220, 41, 808, 809, 810, 811, 777, 778, 779, 780, 797, 798, 805, 806, 807] (by decide +kernel) (by decide +kernel)) (goodIn_sub (fun _ h => List.mem_append_left _ (List.mem_append_left _ (List.mem_append_right _ h))) (by decide +kernel))) (goodIn_sub (fun _ h => List.mem_append_left _ (List.mem_append_right _ h)) (by decide +kernel))
set_option maxRecDepth 20000 in
theorem gL_law_L_rowName : GoodIn wsL_law (va_wsS RL 129 yL_rowName wsL_rowName) := goodIn_app (goodIn_of _ (by decide +kernel)) ggL_law_L_rowName
set_option maxRecDepth 20000 in
theorem ggL_law_X7_rowName : GoodIn wsL_law wsX7_rowName := goodIn_r _ [699, 84, 700, 701, 702, 5, 703, 317, 318, 319, 320, 321, 322, 323, 83, 275, 276, 277, 278, 81, 324, 325, 326, 237, 238, 239, 240, 241, 781, 782, 783, 784, 785, 786, 787, 788, 789, 790, 791, 792, 793, 794, 795, 796] (by decide +kernel) (by decide +kernel)
set_option maxRecDepth 20000 in
theorem gL_law_X7_rowName : GoodIn wsL_law (wsV RL 131 RX7 yX7_rowName wsX7_rowName) := goodIn_app (goodIn_of _ (by decide +kernel)) ggL_law_X7_rowName
set_option maxRecDepth 20000 in
theorem ggL_law_X7_thrown : GoodIn wsL_law wsX7_thrown := goodIn_r _ [707, 241, 781, 782, 783, 784, 785, 786, 787, 788, 789, 790, 791, 792, 793, 794, 795, 796] (by decide +kernel) (by decide +kernel)
set_option maxRecDepth 20000 in
theorem gL_law_X7_thrown : GoodIn wsL_law (wsV RL 132 RX7 yX7_thrown wsX7_thrown) := goodIn_app (goodIn_of _ (by decide +kernel)) ggL_law_X7_thrown
set_option maxRecDepth 20000 in
theorem ggL_law_L_rowReference : GoodIn wsL_law wsL_rowReference := goodIn_ca (goodIn_ca (goodIn_r _ [710, 101, 100, 711, 712, 713, 2, 714, 342, 692, 693, 694, 695, 110, 111, 286, 288, 289, 290, 115, 116, 121, 122, 123, 124, 16, 17, 291, 292, 293, 15, 294, 32, 36, 295, 129, 130, 131, 31, 132, 133, 296, 206, 207, 208, 209, 210, 211, 212, 213, 214, 215, 216, 217, 218, 219, 220, 41, 808, 809, 810, 811, 777, 778, 779, 780, 797, 798, 805, 806, 807] (by decide +kernel) (by decide +kernel)) (goodIn_sub (fun _ h => List.mem_append_left _ (List.mem_append_left _ (List.mem_append_right _ h))) (by decide +kernel))) (goodIn_sub (fun _ h => List.mem_append_left _ (List.mem_append_right _ h)) (by decide +kernel))
set_option maxRecDepth 20000 in
theorem gL_law_L_rowReference : GoodIn wsL_law (va_wsS RL 136 yL_rowReference wsL_rowReference) := goodIn_app (goodIn_of _ (by decide +kernel)) ggL_law_L_rowReference
set_option maxRecDepth 20000 in
theorem ggL_law_X7_rowReference : GoodIn wsL_law wsX7_rowReference := goodIn_r _ [718, 85, 700, 701, 702, 5, 703, 317, 318, 319, 320, 321, 322, 323, 83, 275, 276, 277, 278, 81, 324, 325, 326, 237, 238, 239, 240, 241, 781, 782, 783, 784, 785, 786, 787, 788, 789, 790, 791, 792, 793, 794, 795, 796] (by decide +kernel) (by decide +kernel)
set_option maxRecDepth 20000 in
theorem gL_law_X7_rowReference : GoodIn wsL_law (wsV RL 138 RX7 yX7_rowReference wsX7_rowReference) := goodIn_app (goodIn_of _ (by decide +kernel)) ggL_law_X7_rowReference
set_option maxRecDepth 20000 in
theorem ggL_law_L_rowVersion : GoodIn wsL_law wsL_rowVersion := goodIn_ca (goodIn_ca (goodIn_r _ [721, 101, 100, 722, 723, 724, 2, 725, 726, 692, 693, 694, 695, 110, 111, 286, 288, 289, 290, 115, 116, 121, 122, 123, 124, 16, 17, 291, 292, 293, 15, 294, 32, 36, 295, 129, 130, 131, 31, 132, 133, 296, 206, 207, 208, 209, 210, 211, 212, 213, 214, 215, 216, 217, 218, 219, 220, 41, 808, 809, 810, 811, 777, 778, 779, 780, 797, 798, 805, 806, 807] (by decide +kernel) (by decide +kernel)) (goodIn_sub (fun _ h => List.mem_append_left _ (List.mem_append_left _ (List.mem_append_right _ h))) (by decide +kernel))) (goodIn_sub (fun _ h => List.mem_append_left _ (List.mem_append_right _ h)) (by decide +kernel))
set_option maxRecDepth 20000 in
theorem gL_law_L_rowVersion : GoodIn wsL_law (va_wsS RL 139 yL_rowVersion wsL_rowVersion) := goodIn_app (goodIn_of _ (by decide +kernel)) ggL_law_L_rowVersion
set_option maxRecDepth 20000 in
theorem ggL_law_X7_rowVersion : GoodIn wsL_law wsX7_rowVersion := goodIn_r _ [730, 86, 700, 701, 702, 5, 703, 317, 318, 319, 320, 321, 322, 323, 83, 275, 276, 277, 278, 81, 324, 325, 326, 237, 238, 239, 240, 241, 781, 782, 783, 784, 785, 786, 787, 788, 789, 790, 791, 792, 793, 794, 795, 796] (by decide +kernel) (by decide +kernel)
set_option maxRecDepth 20000 in
theorem gL_law_X7_rowVersion : GoodIn wsL_law (wsV RL 141 RX7 yX7_rowVersion wsX7_rowVersion) := goodIn_app (goodIn_of _ (by decide +kernel)) ggL_law_X7_rowVersion
set_option maxRecDepth 20000 in
theorem ggL_law_X6_writes : GoodIn wsL_law wsX6_writes := goodIn_r _ [734, 21, 507, 777, 778, 779, 780, 799, 800, 801] (by decide +kernel) (by decide +kernel)
set_option maxRecDepth 20000 in
theorem gL_law_X6_writes : GoodIn wsL_law (wsV RL 142 RX6 yX6_writes wsX6_writes) := goodIn_app (goodIn_of _ (by decide +kernel)) ggL_law_X6_writes
set_option maxRecDepth 20000 in
theorem ggL_law_X7_writes : GoodIn wsL_law wsX7_writes := goodIn_r _ [738, 241, 622, 781, 782, 783, 784, 785, 786, 787, 788, 789, 790, 791, 792, 793, 794, 795, 796] (by decide +kernel) (by decide +kernel)
set_option maxRecDepth 20000 in
theorem gL_law_X7_writes : GoodIn wsL_law (wsV RL 145 RX7 yX7_writes wsX7_writes) := goodIn_app (goodIn_of _ (by decide +kernel)) ggL_law_X7_writes
set_option maxRecDepth 20000 in
theorem ggL_law_L_write : GoodIn wsL_law wsL_write := goodIn_ca (goodIn_r _ [741, 100, 742, 743, 744, 2, 745, 21, 746, 747, 748, 749, 110, 111, 507, 750, 751, 752, 20, 753, 60, 777, 778, 779, 780, 799, 800, 801] (by decide +kernel) (by decide +kernel)) (goodIn_sub (fun _ h => List.mem_append_left _ (List.mem_append_left _ (List.mem_append_right _ h))) (by decide +kernel))
set_option maxRecDepth 20000 in
theorem gL_law_L_write : GoodIn wsL_law (va_wsS RL 146 yL_write wsL_write) := goodIn_app (goodIn_of _ (by decide +kernel)) ggL_law_L_write
set_option maxRecDepth 20000 in
theorem ggL_law_X7_write : GoodIn wsL_law wsX7_write := goodIn_r _ [757, 95, 758, 759, 760, 5, 761, 622, 237, 238, 239, 240, 241, 781, 782, 783, 784, 785, 786, 787, 788, 789, 790, 791, 792, 793, 794, 795, 796] (by decide +kernel) (by decide +kernel)
set_option maxRecDepth 20000 in
theorem gL_law_X7_write : GoodIn wsL_law (wsV RL 148 RX7 yX7_write wsX7_write) := goodIn_app (goodIn_of _ (by decide +kernel)) ggL_law_X7_write
set_option maxRecDepth 20000 in
theorem ggL_law_L_written : GoodIn wsL_law wsL_written := goodIn_ca (goodIn_r _ [764, 100, 765, 766, 767, 2, 768, 21, 746, 747, 748, 749, 110, 111, 507, 769, 770, 771, 20, 772, 61, 777, 778, 779, 780, 799, 800, 801] (by decide +kernel) (by decide +kernel)) (goodIn_sub (fun _ h => List.mem_append_left _ (List.mem_append_left _ (List.mem_append_right _ h))) (by decide +kernel))
set_option maxRecDepth 20000 in
theorem gL_law_L_written : GoodIn wsL_law (va_wsS RL 149 yL_written wsL_written) := goodIn_app (goodIn_of _ (by decide +kernel)) ggL_law_L_written
set_option maxRecDepth 20000 in
theorem ggL_law_X7_written : GoodIn wsL_law wsX7_written := goodIn_r _ [776, 95, 758, 759, 760, 5, 761, 622, 237, 238, 239, 240, 241, 781, 782, 783, 784, 785, 786, 787, 788, 789, 790, 791, 792, 793, 794, 795, 796] (by decide +kernel) (by decide +kernel)
set_option maxRecDepth 20000 in
theorem gL_law_X7_written : GoodIn wsL_law (wsV RL 151 RX7 yX7_written wsX7_written) := goodIn_app (goodIn_of _ (by decide +kernel)) ggL_law_X7_written
