theorem goodIn_c9 {big a : List Cond} {c : Cond} (h1 : c ∈ big) (h2 : goodWord c = true) (ha : GoodIn big a) : GoodIn big (c :: a) := fun w h => (List.mem_cons.mp h).elim (fun e => by rw [e]; exact ⟨h1, good_of_word h2⟩) (ha w)
set_option maxRecDepth 20000 in
theorem gp_wsL_step_r1 : GoodIn wsL_law wsL_step_r1 := goodIn_r _ [122, 123, 124, 2, 125, 126, 127, 128, 129, 130, 131, 20, 132, 133, 134, 22, 135, 136, 137, 138, 139, 140, 141, 142] (by decide +kernel) (by decide +kernel)
set_option maxRecDepth 20000 in
theorem gp_wsL_step_r2 : GoodIn wsL_law wsL_step_r2 := goodIn_r _ [143, 62, 63, 144, 92, 93, 28, 94, 95, 145, 146, 147, 148, 67, 149, 150, 102, 103, 104, 105, 106, 107, 108, 109] (by decide +kernel) (by decide +kernel)
set_option maxRecDepth 20000 in
theorem gp_wsL_step_r3 : GoodIn wsL_law wsL_step_r3 := goodIn_r _ [110, 111, 112, 113, 114, 115, 116, 38, 151, 152, 153, 66, 154, 155, 156, 167, 168, 169, 170, 171, 172, 173, 80, 81] (by decide +kernel) (by decide +kernel)
set_option maxRecDepth 20000 in
theorem gp_wsL_step_r4 : GoodIn wsL_law wsL_step_r4 := goodIn_r _ [174, 175, 176, 177, 82, 83, 84, 85, 13, 14, 178, 179, 180, 12, 181, 29, 91, 182, 183, 184, 185, 30, 31, 32] (by decide +kernel) (by decide +kernel)
set_option maxRecDepth 20000 in
theorem gp_wsL_step_r5 : GoodIn wsL_law wsL_step_r5 := goodIn_r _ [49, 50, 51, 8, 9, 52, 186, 187, 188, 189, 190, 191, 192, 193, 194, 195, 196, 197, 198, 199, 200, 201, 202, 203] (by decide +kernel) (by decide +kernel)
set_option maxRecDepth 20000 in
theorem gp_wsL_step_r6 : GoodIn wsL_law wsL_step_r6 := goodIn_r _ [37, 204, 205, 206, 207, 208, 209, 210, 211, 212, 213, 214, 215, 216, 217, 218, 219, 220, 221, 222, 223, 224, 225, 226] (by decide +kernel) (by decide +kernel)
set_option maxRecDepth 20000 in
theorem gp_wsL_step_r7 : GoodIn wsL_law wsL_step_r7 := goodIn_r _ [227, 228, 229, 230, 231, 232, 233, 234, 235, 236, 237, 238, 239, 240, 241, 64, 65, 69, 70, 71, 72, 242, 243, 244] (by decide +kernel) (by decide +kernel)
set_option maxRecDepth 20000 in
theorem gp_wsL_step_r8 : GoodIn wsL_law wsL_step_r8 := goodIn_r _ [245, 246, 247, 248, 249, 250, 251, 252, 253, 77, 78, 79, 254, 255, 256, 257, 258, 259, 260, 261, 262, 263, 264, 265] (by decide +kernel) (by decide +kernel)
set_option maxRecDepth 20000 in
theorem gp_wsL_step_r9 : GoodIn wsL_law wsL_step_r9 := goodIn_r _ [266, 267, 268, 269, 270, 271, 97, 98, 99, 33, 100, 101, 272, 273, 274, 275, 276, 277, 278, 279, 280, 281, 282, 283] (by decide +kernel) (by decide +kernel)
set_option maxRecDepth 20000 in
theorem gp_wsL_step_r10 : GoodIn wsL_law wsL_step_r10 := goodIn_r _ [284, 285, 286, 287, 288, 289, 290, 291, 292, 293, 294, 295, 296, 297, 298, 299, 300, 301, 302, 303, 304, 305, 306, 307] (by decide +kernel) (by decide +kernel)
set_option maxRecDepth 20000 in
theorem gp_wsL_step_r11 : GoodIn wsL_law wsL_step_r11 := goodIn_r _ [308, 159, 309, 310, 311, 312, 313, 314, 315, 316, 317, 318, 319, 320, 321, 322, 323, 324, 325, 326, 327, 328, 329, 330] (by decide +kernel) (by decide +kernel)
set_option maxRecDepth 20000 in
theorem gp_wsL_step_r12 : GoodIn wsL_law wsL_step_r12 := goodIn_r _ [331, 332, 333, 334, 335, 336, 337, 338, 339, 340, 341, 342, 343, 344, 345, 346, 347, 348, 349, 350, 351, 352, 353, 354] (by decide +kernel) (by decide +kernel)
set_option maxRecDepth 20000 in
theorem gp_wsL_step_r13 : GoodIn wsL_law wsL_step_r13 := goodIn_r _ [355, 356, 357, 358, 359, 360, 361, 117, 118, 119, 120, 18, 121, 362, 363, 364, 365, 366, 367, 368, 369, 370, 371, 372] (by decide +kernel) (by decide +kernel)
set_option maxRecDepth 20000 in
theorem gp_wsL_step_r14 : GoodIn wsL_law wsL_step_r14 := goodIn_r _ [373, 374, 375, 376, 377, 378, 379, 380, 17, 381, 382, 383, 384, 385, 386, 387, 388, 389, 390, 391, 392, 393, 394, 395] (by decide +kernel) (by decide +kernel)
set_option maxRecDepth 20000 in
theorem gp_wsL_step_r15 : GoodIn wsL_law wsL_step_r15 := goodIn_r _ [396, 397, 398, 399, 400, 401, 402, 403, 404, 405, 406, 407, 408, 409, 410, 411, 412, 413, 414, 415, 416, 417, 418, 419] (by decide +kernel) (by decide +kernel)
set_option maxRecDepth 20000 in
theorem gp_wsL_step_r16 : GoodIn wsL_law wsL_step_r16 := goodIn_r _ [420, 421, 422, 423, 424, 425, 426, 427, 428, 429, 430, 431, 432, 433, 434, 435, 436, 437, 438, 439, 440, 441, 442, 443] (by decide +kernel) (by decide +kernel)
set_option maxRecDepth 20000 in
theorem gp_wsL_step_r17 : GoodIn wsL_law wsL_step_r17 := goodIn_r _ [444, 445, 446, 447, 448, 449, 450, 451, 452, 453, 454, 455, 456, 457, 458, 459, 460, 56, 57, 461, 462, 463, 464, 465] (by decide +kernel) (by decide +kernel)
set_option maxRecDepth 20000 in
theorem gp_wsL_step_r18 : GoodIn wsL_law wsL_step_r18 := goodIn_r _ [466, 467, 468, 469, 3, 470, 471, 472, 473, 474, 475, 476, 477, 478, 479, 480, 481, 482, 483, 484, 485, 486, 487, 488] (by decide +kernel) (by decide +kernel)
set_option maxRecDepth 20000 in
theorem gp_wsL_step_r19 : GoodIn wsL_law wsL_step_r19 := goodIn_r _ [489, 490, 491, 492, 493, 494, 495, 496, 497, 498, 499, 500, 501, 502, 503, 504, 505, 506, 507, 508, 509, 510, 511, 512] (by decide +kernel) (by decide +kernel)
set_option maxRecDepth 20000 in
theorem gp_wsL_step_r20 : GoodIn wsL_law wsL_step_r20 := goodIn_r _ [513, 514, 515, 516, 517, 518, 519, 520, 521, 73, 74, 75, 76, 86, 87, 88, 89, 90, 96, 522, 523, 524, 525, 526] (by decide +kernel) (by decide +kernel)
set_option maxRecDepth 20000 in
theorem gp_wsL_step_r21 : GoodIn wsL_law wsL_step_r21 := goodIn_r _ [527, 528, 529, 530, 531, 532, 533, 534, 535, 536, 537] (by decide +kernel) (by decide +kernel)
set_option maxRecDepth 20000 in
theorem gp_wsX60 : GoodIn wsL_law wsX60 := goodIn_r _ [538, 539, 540, 541] (by decide +kernel) (by decide +kernel)
set_option maxRecDepth 20000 in
theorem gp_wsX40 : GoodIn wsL_law wsX40 := goodIn_r _ [547, 548, 549] (by decide +kernel) (by decide +kernel)
set_option maxRecDepth 20000 in
theorem gp_wsJx4a65c0 : GoodIn wsL_law wsJx4a65c0 := goodIn_r _ [550, 551, 552] (by decide +kernel) (by decide +kernel)
set_option maxRecDepth 20000 in
theorem gp_wsX00 : GoodIn wsL_law wsX00 := goodIn_r _ [557, 558, 559, 560, 561, 562, 563, 564] (by decide +kernel) (by decide +kernel)
set_option maxRecDepth 20000 in
theorem gp_wsX50 : GoodIn wsL_law wsX50 := goodIn_r _ [542, 543] (by decide +kernel) (by decide +kernel)
set_option maxRecDepth 20000 in
theorem gp_wsX30 : GoodIn wsL_law wsX30 := goodIn_r _ [553, 554, 555, 556] (by decide +kernel) (by decide +kernel)
set_option maxRecDepth 20000 in
theorem gp_wsX20 : GoodIn wsL_law wsX20 := goodIn_r _ [544, 545, 546] (by decide +kernel) (by decide +kernel)
set_option maxRecDepth 20000 in
theorem gp_wsX10 : GoodIn wsL_law wsX10 := goodIn_r _ [565, 566, 567, 568] (by decide +kernel) (by decide +kernel)
theorem dL_draw_0 : decode cL_draw 0 = .ok (.iload_n 1, 1) := by decide +kernel
theorem dL_draw_1 : decode cL_draw 1 = .ok (.aload_n 0, 1) := by decide +kernel
theorem dL_draw_2 : decode cL_draw 2 = .ok (.arraylength, 1) := by decide +kernel
theorem dL_draw_3 : decode cL_draw 3 = .ok (.if_icmp .ge 12, 3) := by decide +kernel
theorem dL_draw_6 : decode cL_draw 6 = .ok (.aload_n 0, 1) := by decide +kernel
theorem dL_draw_7 : decode cL_draw 7 = .ok (.iload_n 1, 1) := by decide +kernel
theorem dL_draw_8 : decode cL_draw 8 = .ok (.iaload, 1) := by decide +kernel
theorem dL_draw_9 : decode cL_draw 9 = .ok (.ldc 7, 2) := by decide +kernel
theorem dL_draw_11 : decode cL_draw 11 = .ok (.iand, 1) := by decide +kernel
theorem dL_draw_12 : decode cL_draw 12 = .ok (.goto 12, 3) := by decide +kernel
theorem dL_draw_15 : decode cL_draw 15 = .ok (.ldc 8, 2) := by decide +kernel
theorem dL_draw_17 : decode cL_draw 17 = .ok (.iload_n 1, 1) := by decide +kernel
theorem dL_draw_18 : decode cL_draw 18 = .ok (.iconst 2, 1) := by decide +kernel
theorem dL_draw_19 : decode cL_draw 19 = .ok (.iadd, 1) := by decide +kernel
theorem dL_draw_20 : decode cL_draw 20 = .ok (.imul, 1) := by decide +kernel
theorem dL_draw_21 : decode cL_draw 21 = .ok (.ldc 9, 2) := by decide +kernel
theorem dL_draw_23 : decode cL_draw 23 = .ok (.irem, 1) := by decide +kernel
theorem dL_draw_24 : decode cL_draw 24 = .ok (.ireturn, 1) := by decide +kernel
set_option maxRecDepth 20000 in
theorem ggL_step_X6_known : GoodIn wsL_step wsX6_known := goodIn_ca (goodIn_r _ [5, 6, 7, 8, 4, 9, 10, 11, 12, 13, 14, 15, 16, 17, 18, 19, 20, 21, 22, 23, 24, 25, 26, 27, 28, 29, 30, 31, 32, 33, 34, 35, 36, 37, 38, 39, 40, 41, 42, 43, 44, 45, 46, 47, 48, 49, 50, 51, 52, 53, 54, 55, 56, 57, 58, 59, 60, 61, 62, 63, 492, 493, 494, 495, 496, 497, 498, 499, 500, 501, 502, 503, 504, 505, 506, 507, 508, 509] (by decide +kernel) (by decide +kernel)) (goodIn_sub (fun _ h => List.mem_cons_of_mem _ (List.mem_append_left _ (List.mem_append_left _ (List.mem_append_right _ h)))) (by decide +kernel))
set_option maxRecDepth 20000 in
theorem gL_step_X6_known : GoodIn wsL_step (wsV RL 10 RX6 yX6_known wsX6_known) := goodIn_app (goodIn_of _ (by decide +kernel)) ggL_step_X6_known
set_option maxRecDepth 20000 in
theorem ggL_step_X6_makeAuthor : GoodIn wsL_step wsX6_makeAuthor := goodIn_ca (goodIn_ca (goodIn_r _ [67, 6, 7, 8, 4, 9, 10, 11, 12, 68, 69, 70, 71, 72, 73, 74, 75, 76, 77, 78, 79, 80, 81, 82, 83, 84, 85, 86, 87, 88, 89, 29, 30, 31, 32, 33, 90, 91, 92, 93, 94, 95, 96, 97, 98, 99, 100, 101, 102, 103, 104, 105, 106, 107, 108, 56, 109, 110, 111, 112, 113, 114, 115, 116, 117, 118, 119, 120, 121, 122, 123, 124, 125, 126, 127, 128, 129, 130, 131, 132, 133, 134, 135, 136, 137, 138, 139, 140, 141, 142, 143, 144, 145, 146, 147, 148, 149, 150, 151, 152, 153, 154, 155, 156, 157, 158, 16, 159, 160, 161, 60, 22, 23, 24, 25, 26, 27, 162, 163, 164, 165, 166, 167, 35, 36, 37, 38, 39, 28, 40, 41, 42, 43, 44, 45, 46, 47, 48, 49, 50, 51, 52, 53, 54, 55, 168, 169, 170, 171, 62, 172, 492, 493, 494, 495, 510, 511, 499, 500, 501, 512, 513, 514, 515, 502, 503, 504, 505, 506, 507, 508, 509, 496, 497, 498] (by decide +kernel) (by decide +kernel)) (goodIn_sub (fun _ h => List.mem_cons_of_mem _ (List.mem_append_left _ (List.mem_append_left _ (List.mem_append_right _ h)))) (by decide +kernel))) (goodIn_sub (fun _ h => List.mem_cons_of_mem _ (List.mem_append_left _ (List.mem_append_right _ h))) (by decide +kernel))
set_option maxRecDepth 20000 in
theorem gL_step_X6_makeAuthor : GoodIn wsL_step (wsV RL 16 RX6 yX6_makeAuthor wsX6_makeAuthor) := goodIn_app (goodIn_of _ (by decide +kernel)) ggL_step_X6_makeAuthor
set_option maxRecDepth 20000 in
theorem ggL_step_X6_name : GoodIn wsL_step wsX6_name := goodIn_ca (goodIn_ca (goodIn_ca (goodIn_r _ [176, 177, 6, 7, 8, 4, 9, 10, 11, 12, 178, 179, 180, 71, 72, 181, 182, 183, 184, 185, 167, 35, 36, 16, 37, 38, 39, 22, 23, 24, 25, 26, 27, 28, 29, 30, 31, 32, 33, 40, 41, 42, 43, 44, 45, 46, 47, 48, 49, 50, 51, 52, 53, 54, 55, 56, 186, 58, 59, 60, 61, 62, 63, 502, 503, 504, 505, 506, 507, 508, 509, 492, 493, 494, 495, 496, 497, 498, 499, 500, 501] (by decide +kernel) (by decide +kernel)) (goodIn_sub (fun _ h => List.mem_cons_of_mem _ (List.mem_append_left _ (List.mem_append_left _ (List.mem_append_right _ h)))) (by decide +kernel))) (goodIn_sub (fun _ h => List.mem_cons_of_mem _ (List.mem_append_left _ (List.mem_append_right _ h))) (by decide +kernel))) (goodIn_sub (fun _ h => List.mem_cons_of_mem _ (List.mem_append_right _ h)) (by decide +kernel))
set_option maxRecDepth 20000 in
theorem gL_step_X6_name : GoodIn wsL_step (wsV RL 20 RX6 yX6_name wsX6_name) := goodIn_app (goodIn_of _ (by decide +kernel)) ggL_step_X6_name
set_option maxRecDepth 20000 in
theorem ggL_step_X6_reference : GoodIn wsL_step wsX6_reference := goodIn_ca (goodIn_ca (goodIn_ca (goodIn_r _ [190, 191, 6, 7, 8, 4, 9, 10, 11, 12, 178, 179, 180, 71, 72, 181, 182, 183, 184, 185, 167, 35, 36, 16, 37, 38, 39, 22, 23, 24, 25, 26, 27, 28, 29, 30, 31, 32, 33, 40, 41, 42, 43, 44, 45, 46, 47, 48, 49, 50, 51, 52, 53, 54, 55, 56, 186, 58, 59, 60, 61, 62, 63, 502, 503, 504, 505, 506, 507, 508, 509, 492, 493, 494, 495, 496, 497, 498, 499, 500, 501] (by decide +kernel) (by decide +kernel)) (goodIn_sub (fun _ h => List.mem_cons_of_mem _ (List.mem_append_left _ (List.mem_append_left _ (List.mem_append_right _ h)))) (by decide +kernel))) (goodIn_sub (fun _ h => List.mem_cons_of_mem _ (List.mem_append_left _ (List.mem_append_right _ h))) (by decide +kernel))) (goodIn_sub (fun _ h => List.mem_cons_of_mem _ (List.mem_append_right _ h)) (by decide +kernel))
set_option maxRecDepth 20000 in
theorem gL_step_X6_reference : GoodIn wsL_step (wsV RL 24 RX6 yX6_reference wsX6_reference) := goodIn_app (goodIn_of _ (by decide +kernel)) ggL_step_X6_reference
set_option maxRecDepth 20000 in
theorem ggL_step_X6_find : GoodIn wsL_step wsX6_find := goodIn_ca (goodIn_ca (goodIn_r _ [195, 196, 197, 6, 7, 8, 4, 9, 10, 11, 12, 178, 179, 180, 71, 72, 77, 78, 79, 80, 81, 82, 198, 199, 200, 86, 201, 88, 202, 203, 89, 29, 30, 31, 32, 33, 204, 41, 42, 43, 44, 45, 46, 47, 48, 49, 50, 51, 52, 53, 54, 55, 56, 167, 35, 36, 16, 37, 38, 39, 22, 23, 24, 25, 26, 27, 28, 40, 205, 206, 207, 60, 208, 209, 210, 211, 169, 170, 171, 62, 172, 165, 212, 213, 214, 215, 216, 217, 218, 219, 220, 186, 58, 59, 61, 63, 512, 513, 514, 515, 502, 503, 504, 505, 506, 507, 508, 509, 492, 493, 494, 495, 510, 511, 499, 500, 501, 496, 497, 498] (by decide +kernel) (by decide +kernel)) (goodIn_sub (fun _ h => List.mem_cons_of_mem _ (List.mem_append_left _ (List.mem_append_left _ (List.mem_append_right _ h)))) (by decide +kernel))) (goodIn_sub (fun _ h => List.mem_cons_of_mem _ (List.mem_append_left _ (List.mem_append_right _ h))) (by decide +kernel))
set_option maxRecDepth 20000 in
theorem gL_step_X6_find : GoodIn wsL_step (wsV RL 29 RX6 yX6_find wsX6_find) := goodIn_app (goodIn_of _ (by decide +kernel)) ggL_step_X6_find
set_option maxRecDepth 20000 in
theorem ggL_step_X6_makeBook : GoodIn wsL_step wsX6_makeBook := goodIn_ca (goodIn_ca (goodIn_ca (goodIn_r _ [224, 6, 7, 8, 4, 9, 10, 11, 12, 68, 69, 70, 71, 72, 181, 182, 183, 184, 185, 167, 35, 36, 16, 37, 38, 39, 22, 23, 24, 25, 26, 27, 28, 29, 30, 31, 32, 33, 40, 41, 42, 43, 44, 45, 46, 47, 48, 49, 50, 51, 52, 53, 54, 55, 56, 186, 58, 59, 60, 61, 62, 63, 73, 74, 75, 76, 77, 78, 79, 80, 81, 82, 83, 84, 85, 86, 87, 88, 89, 90, 91, 92, 93, 94, 95, 96, 97, 98, 99, 100, 101, 102, 103, 104, 105, 106, 107, 108, 109, 110, 111, 112, 113, 114, 115, 116, 117, 118, 119, 120, 121, 122, 123, 124, 125, 126, 127, 128, 129, 130, 131, 132, 133, 134, 135, 136, 137, 138, 139, 140, 141, 142, 143, 144, 145, 146, 147, 148, 149, 150, 151, 152, 153, 154, 155, 156, 157, 158, 159, 160, 161, 162, 163, 164, 165, 166, 168, 169, 170, 171, 172, 492, 493, 494, 495, 496, 497, 498, 499, 500, 501, 502, 503, 504, 505, 506, 507, 508, 509, 510, 511, 512, 513, 514, 515] (by decide +kernel) (by decide +kernel)) (goodIn_sub (fun _ h => List.mem_cons_of_mem _ (List.mem_append_left _ (List.mem_append_left _ (List.mem_append_right _ h)))) (by decide +kernel))) (goodIn_sub (fun _ h => List.mem_cons_of_mem _ (List.mem_append_left _ (List.mem_append_right _ h))) (by decide +kernel))) (goodIn_sub (fun _ h => List.mem_cons_of_mem _ (List.mem_append_right _ h)) (by decide +kernel))
set_option maxRecDepth 20000 in
theorem gL_step_X6_makeBook : GoodIn wsL_step (wsV RL 33 RX6 yX6_makeBook wsX6_makeBook) := goodIn_app (goodIn_of _ (by decide +kernel)) ggL_step_X6_makeBook
set_option maxRecDepth 20000 in
theorem ggL_step_X6_books : GoodIn wsL_step wsX6_books := goodIn_ca (goodIn_ca (goodIn_r _ [228, 6, 7, 8, 4, 9, 10, 11, 12, 181, 182, 183, 184, 185, 167, 35, 36, 16, 37, 38, 39, 22, 23, 24, 25, 26, 27, 28, 29, 30, 31, 32, 33, 40, 41, 42, 43, 44, 45, 46, 47, 48, 49, 50, 51, 52, 53, 54, 55, 56, 186, 58, 59, 60, 61, 62, 63, 229, 230, 231, 232, 196, 233, 197, 77, 78, 79, 80, 81, 82, 83, 84, 85, 86, 87, 88, 89, 198, 199, 200, 201, 202, 203, 204, 205, 206, 207, 208, 209, 210, 211, 169, 170, 171, 172, 165, 212, 213, 214, 215, 216, 217, 218, 219, 220, 234, 19, 20, 21, 235, 236, 237, 238, 239, 492, 493, 494, 495, 496, 497, 498, 499, 500, 501, 502, 503, 504, 505, 506, 507, 508, 509, 512, 513, 514, 515, 510, 511] (by decide +kernel) (by decide +kernel)) (goodIn_sub (fun _ h => List.mem_cons_of_mem _ (List.mem_append_left _ (List.mem_append_left _ (List.mem_append_right _ h)))) (by decide +kernel))) (goodIn_sub (fun _ h => List.mem_cons_of_mem _ (List.mem_append_right _ h)) (by decide +kernel))
set_option maxRecDepth 20000 in
theorem gL_step_X6_books : GoodIn wsL_step (wsV RL 36 RX6 yX6_books wsX6_books) := goodIn_app (goodIn_of _ (by decide +kernel)) ggL_step_X6_books
set_option maxRecDepth 20000 in
theorem ggL_step_L_names : GoodIn wsL_step wsL_names := goodIn_ca (goodIn_ca (goodIn_ca (goodIn_r _ [243, 244, 245, 246, 4, 247, 6, 7, 8, 9, 10, 11, 12, 248, 249, 250, 16, 251, 18, 19, 20, 21, 22, 23, 24, 25, 26, 27, 28, 29, 30, 31, 32, 33, 34, 35, 36, 37, 38, 39, 40, 41, 42, 43, 44, 45, 46, 47, 48, 49, 50, 51, 52, 53, 54, 55, 56, 57, 58, 59, 60, 61, 62, 63, 252, 253, 254, 255, 216, 172, 217, 165, 218, 173, 174, 175, 176, 177, 178, 179, 180, 71, 72, 181, 182, 183, 184, 185, 167, 186, 256, 257, 258, 259, 68, 69, 70, 492, 493, 494, 495, 496, 497, 498, 499, 500, 501, 502, 503, 504, 505, 506, 507, 508, 509] (by decide +kernel) (by decide +kernel)) (goodIn_sub (fun _ h => List.mem_cons_of_mem _ (List.mem_append_left _ (List.mem_append_left _ (List.mem_append_right _ h)))) (by decide +kernel))) (goodIn_sub (fun _ h => List.mem_cons_of_mem _ (List.mem_append_left _ (List.mem_append_right _ h))) (by decide +kernel))) (goodIn_sub (fun _ h => List.mem_cons_of_mem _ (List.mem_append_right _ h)) (by decide +kernel))
set_option maxRecDepth 20000 in
theorem gL_step_L_names : GoodIn wsL_step (va_wsS RL 39 yL_names wsL_names) := goodIn_app (goodIn_of _ (by decide +kernel)) ggL_step_L_names
set_option maxRecDepth 20000 in
theorem ggL_step_L_refers : GoodIn wsL_step wsL_refers := goodIn_ca (goodIn_ca (goodIn_ca (goodIn_r _ [262, 244, 245, 246, 4, 247, 6, 7, 8, 9, 10, 11, 12, 248, 249, 250, 16, 251, 18, 19, 20, 21, 22, 23, 24, 25, 26, 27, 28, 29, 30, 31, 32, 33, 34, 35, 36, 37, 38, 39, 40, 41, 42, 43, 44, 45, 46, 47, 48, 49, 50, 51, 52, 53, 54, 55, 56, 57, 58, 59, 60, 61, 62, 63, 252, 253, 254, 255, 216, 172, 217, 165, 218, 187, 188, 189, 190, 191, 178, 179, 180, 71, 72, 181, 182, 183, 184, 185, 167, 186, 192, 193, 194, 195, 196, 197, 77, 78, 79, 80, 81, 82, 198, 199, 200, 86, 201, 88, 202, 203, 89, 204, 205, 206, 207, 208, 209, 210, 211, 169, 170, 171, 212, 213, 214, 215, 219, 220, 263, 264, 265, 266, 267, 268, 269, 492, 493, 494, 495, 496, 497, 498, 499, 500, 501, 502, 503, 504, 505, 506, 507, 508, 509, 512, 513, 514, 515, 510, 511] (by decide +kernel) (by decide +kernel)) (goodIn_sub (fun _ h => List.mem_cons_of_mem _ (List.mem_append_left _ (List.mem_append_left _ (List.mem_append_right _ h)))) (by decide +kernel))) (goodIn_sub (fun _ h => List.mem_cons_of_mem _ (List.mem_append_left _ (List.mem_append_right _ h))) (by decide +kernel))) (goodIn_sub (fun _ h => List.mem_cons_of_mem _ (List.mem_append_right _ h)) (by decide +kernel))
set_option maxRecDepth 20000 in
theorem gL_step_L_refers : GoodIn wsL_step (va_wsS RL 43 yL_refers wsL_refers) := goodIn_app (goodIn_of _ (by decide +kernel)) ggL_step_L_refers
set_option maxRecDepth 20000 in
theorem ggL_step_L_removes : GoodIn wsL_step wsL_removes := goodIn_ca (goodIn_ca (goodIn_ca (goodIn_r _ [272, 225, 226, 227, 4, 228, 6, 7, 8, 9, 10, 11, 12, 181, 182, 183, 184, 185, 167, 35, 36, 16, 37, 38, 39, 22, 23, 24, 25, 26, 27, 28, 29, 30, 31, 32, 33, 40, 41, 42, 43, 44, 45, 46, 47, 48, 49, 50, 51, 52, 53, 54, 55, 56, 186, 58, 59, 60, 61, 62, 63, 229, 230, 231, 232, 196, 233, 197, 77, 78, 79, 80, 81, 82, 83, 84, 85, 86, 87, 88, 89, 198, 199, 200, 201, 202, 203, 204, 205, 206, 207, 208, 209, 210, 211, 169, 170, 171, 172, 165, 212, 213, 214, 215, 216, 217, 218, 219, 220, 234, 19, 20, 21, 235, 236, 237, 238, 239, 1, 2, 3, 5, 13, 14, 15, 17, 18, 34, 57, 273, 274, 275, 276, 178, 179, 180, 71, 72, 277, 278, 279, 280, 281, 282, 283, 284, 285, 286, 287, 288, 289, 290, 291, 292, 191, 192, 193, 194, 195, 492, 493, 494, 495, 496, 497, 498, 499, 500, 501, 502, 503, 504, 505, 506, 507, 508, 509, 512, 513, 514, 515, 510, 511] (by decide +kernel) (by decide +kernel)) (goodIn_sub (fun _ h => List.mem_cons_of_mem _ (List.mem_append_left _ (List.mem_append_left _ (List.mem_append_right _ h)))) (by decide +kernel))) (goodIn_sub (fun _ h => List.mem_cons_of_mem _ (List.mem_append_right _ h)) (by decide +kernel))) (goodIn_sub (fun _ h => List.mem_cons_of_mem _ (List.mem_append_left _ (List.mem_append_right _ h))) (by decide +kernel))
set_option maxRecDepth 20000 in
theorem gL_step_L_removes : GoodIn wsL_step (va_wsS RL 46 yL_removes wsL_removes) := goodIn_app (goodIn_of _ (by decide +kernel)) ggL_step_L_removes
set_option maxRecDepth 20000 in
theorem ggL_step_L_flushes : GoodIn wsL_step wsL_flushes := goodIn_ca (goodIn_ca (goodIn_ca (goodIn_r _ [295, 244, 245, 246, 4, 247, 6, 7, 8, 9, 10, 11, 12, 248, 249, 250, 16, 251, 18, 19, 20, 21, 22, 23, 24, 25, 26, 27, 28, 29, 30, 31, 32, 33, 34, 35, 36, 37, 38, 39, 40, 41, 42, 43, 44, 45, 46, 47, 48, 49, 50, 51, 52, 53, 54, 55, 56, 57, 58, 59, 60, 61, 62, 63, 252, 253, 254, 255, 216, 172, 217, 165, 218, 296, 297, 298, 299, 300, 301, 1, 2, 3, 5, 13, 14, 15, 17, 302, 303, 304, 305, 306, 307, 308, 309, 310, 286, 287, 288, 311, 312, 313, 314, 184, 185, 315, 316, 317, 81, 82, 318, 319, 320, 321, 322, 323, 324, 325, 326, 327, 100, 101, 328, 329, 330, 331, 332, 333, 334, 335, 336, 337, 338, 339, 340, 341, 342, 343, 344, 345, 346, 199, 200, 86, 201, 88, 202, 203, 89, 204, 347, 348, 349, 350, 351, 219, 220, 352, 353, 354, 355, 356, 357, 358, 359, 360, 361, 362, 363, 364, 365, 366, 367, 368, 369, 370, 371, 372, 373, 374, 375, 376, 377, 268, 269, 378, 379, 380, 381, 382, 383, 384, 385, 386, 387, 388, 389, 390, 391, 392, 393, 96, 394, 395, 396, 102, 397, 398, 399, 400, 401, 402, 403, 404, 405, 138, 406, 407, 408, 409, 410, 411, 412, 413, 149, 150, 124, 151, 152, 153, 154, 155, 414, 213, 214, 215, 209, 210, 415, 416, 417, 418, 419, 420, 421, 422, 423, 424, 425, 426, 427, 428, 429, 430, 431, 432, 433, 242, 434, 435, 436, 437, 438, 439, 440, 441, 442, 443, 444, 445, 446, 447, 448, 449, 450, 451, 452, 453, 454, 455, 456, 457, 458, 459, 460, 461, 233, 462, 463, 464, 465, 196, 178, 179, 180, 71, 72, 77, 78, 79, 80, 198, 466, 467, 468, 469, 470, 471, 472, 473, 474, 475, 476, 477, 478, 192, 193, 194, 195, 197, 167, 205, 206, 207, 208, 211, 169, 170, 171, 212, 186, 173, 174, 175, 176, 177, 181, 182, 183, 479, 480, 481, 482, 483, 187, 188, 189, 190, 191, 484, 485, 486, 487, 488, 492, 493, 494, 495, 496, 497, 498, 499, 500, 501, 502, 503, 504, 505, 506, 507, 508, 509, 516, 517, 518, 519, 520, 521, 522, 510, 511, 512, 513, 514, 515] (by decide +kernel) (by decide +kernel)) (goodIn_sub (fun _ h => List.mem_cons_of_mem _ (List.mem_append_left _ (List.mem_append_left _ (List.mem_append_right _ h)))) (by decide +kernel))) (goodIn_sub (fun _ h => List.mem_cons_of_mem _ (List.mem_append_right _ h)) (by decide +kernel))) (goodIn_sub (fun _ h => List.mem_cons_of_mem _ (List.mem_append_left _ (List.mem_append_right _ h))) (by decide +kernel))
set_option maxRecDepth 20000 in
theorem gL_step_L_flushes : GoodIn wsL_step (va_wsS RL 50 yL_flushes wsL_flushes) := goodIn_app (goodIn_of _ (by decide +kernel)) ggL_step_L_flushes
set_option maxRecDepth 20000 in
theorem ggL_step_X6_dirty : GoodIn wsL_step wsX6_dirty := goodIn_ca (goodIn_r _ [247, 6, 7, 8, 4, 9, 10, 11, 12, 248, 249, 250, 16, 251, 18, 19, 20, 21, 22, 23, 24, 25, 26, 27, 28, 29, 30, 31, 32, 33, 34, 35, 36, 37, 38, 39, 40, 41, 42, 43, 44, 45, 46, 47, 48, 49, 50, 51, 52, 53, 54, 55, 56, 57, 58, 59, 60, 61, 62, 63, 252, 253, 254, 255, 216, 172, 217, 165, 218, 492, 493, 494, 495, 496, 497, 498, 499, 500, 501, 502, 503, 504, 505, 506, 507, 508, 509] (by decide +kernel) (by decide +kernel)) (goodIn_sub (fun _ h => List.mem_cons_of_mem _ (List.mem_append_left _ (List.mem_append_left _ (List.mem_append_right _ h)))) (by decide +kernel))
set_option maxRecDepth 20000 in
theorem gL_step_X6_dirty : GoodIn wsL_step (wsV RL 54 RX6 yX6_dirty wsX6_dirty) := goodIn_app (goodIn_of _ (by decide +kernel)) ggL_step_X6_dirty
set_option maxRecDepth 20000 in
theorem ggL_step_X6_clear : GoodIn wsL_step wsX6_clear := goodIn_ca (goodIn_r _ [305, 6, 7, 8, 4, 9, 10, 11, 12, 13, 14, 15, 16, 17, 18, 19, 20, 21, 22, 23, 24, 25, 26, 27, 28, 29, 30, 31, 32, 33, 34, 35, 36, 37, 38, 39, 40, 41, 42, 43, 44, 45, 46, 47, 48, 49, 50, 51, 52, 53, 54, 55, 56, 57, 58, 59, 60, 61, 62, 63, 306, 307, 308, 309, 310, 286, 287, 288, 216, 492, 493, 494, 495, 496, 497, 498, 499, 500, 501, 502, 503, 504, 505, 506, 507, 508, 509] (by decide +kernel) (by decide +kernel)) (goodIn_sub (fun _ h => List.mem_cons_of_mem _ (List.mem_append_left _ (List.mem_append_left _ (List.mem_append_right _ h)))) (by decide +kernel))
set_option maxRecDepth 20000 in
theorem gL_step_X6_clear : GoodIn wsL_step (wsV RL 57 RX6 yX6_clear wsX6_clear) := goodIn_app (goodIn_of _ (by decide +kernel)) ggL_step_X6_clear
set_option maxRecDepth 20000 in
theorem ggL_step_X6_flush : GoodIn wsL_step wsX6_flush := goodIn_ca (goodIn_ca (goodIn_r _ [314, 184, 185, 300, 315, 316, 317, 81, 82, 301, 6, 7, 8, 4, 9, 10, 11, 12, 318, 319, 320, 321, 322, 323, 324, 325, 326, 327, 100, 101, 328, 329, 330, 331, 332, 333, 334, 335, 336, 337, 338, 339, 340, 19, 20, 16, 21, 22, 23, 24, 25, 26, 27, 28, 29, 30, 31, 32, 33, 341, 35, 36, 37, 38, 39, 40, 41, 42, 43, 44, 45, 46, 47, 48, 49, 50, 51, 52, 53, 54, 55, 56, 342, 343, 344, 345, 346, 199, 200, 86, 201, 88, 202, 203, 89, 204, 347, 348, 349, 60, 350, 63, 351, 219, 220, 352, 253, 254, 255, 216, 172, 217, 165, 218, 353, 354, 355, 356, 357, 358, 359, 360, 361, 362, 363, 364, 365, 366, 367, 368, 369, 370, 62, 371, 372, 373, 374, 375, 376, 377, 268, 269, 378, 379, 380, 381, 382, 383, 384, 385, 386, 387, 388, 389, 390, 391, 392, 393, 96, 394, 395, 396, 102, 397, 398, 399, 400, 401, 402, 403, 404, 405, 138, 406, 407, 408, 409, 410, 411, 412, 413, 149, 150, 124, 151, 152, 153, 154, 155, 414, 213, 214, 215, 209, 210, 415, 416, 417, 418, 419, 420, 421, 422, 423, 424, 425, 426, 427, 428, 429, 430, 431, 286, 287, 288, 492, 493, 494, 495, 519, 520, 521, 522, 516, 517, 518, 496, 497, 498, 499, 500, 501, 510, 511, 502, 503, 504, 505, 506, 507, 508, 509, 512, 513, 514, 515] (by decide +kernel) (by decide +kernel)) (goodIn_sub (fun _ h => List.mem_cons_of_mem _ (List.mem_append_right _ h)) (by decide +kernel))) (goodIn_sub (fun _ h => List.mem_cons_of_mem _ (List.mem_append_left _ (List.mem_append_left _ (List.mem_append_right _ h)))) (by decide +kernel))
set_option maxRecDepth 20000 in
theorem gL_step_X6_flush : GoodIn wsL_step (wsV RL 60 RX6 yX6_flush wsX6_flush) := goodIn_app (goodIn_of _ (by decide +kernel)) ggL_step_X6_flush
set_option maxRecDepth 20000 in
theorem ggL_step_L_finds : GoodIn wsL_step wsL_finds := goodIn_ca (goodIn_ca (goodIn_ca (goodIn_r _ [491, 1, 2, 3, 4, 5, 6, 7, 8, 9, 10, 11, 12, 13, 14, 15, 16, 17, 18, 19, 20, 21, 22, 23, 24, 25, 26, 27, 28, 29, 30, 31, 32, 33, 34, 35, 36, 37, 38, 39, 40, 41, 42, 43, 44, 45, 46, 47, 48, 49, 50, 51, 52, 53, 54, 55, 56, 57, 58, 59, 60, 61, 62, 63, 192, 193, 194, 195, 196, 197, 178, 179, 180, 71, 72, 77, 78, 79, 80, 81, 82, 198, 199, 200, 86, 201, 88, 202, 203, 89, 204, 167, 205, 206, 207, 208, 209, 210, 211, 169, 170, 171, 172, 165, 212, 213, 214, 215, 216, 217, 218, 219, 220, 186, 173, 174, 175, 176, 177, 181, 182, 183, 184, 185, 187, 188, 189, 190, 191, 492, 493, 494, 495, 496, 497, 498, 499, 500, 501, 502, 503, 504, 505, 506, 507, 508, 509, 512, 513, 514, 515, 510, 511] (by decide +kernel) (by decide +kernel)) (goodIn_sub (fun _ h => List.mem_cons_of_mem _ (List.mem_append_left _ (List.mem_append_left _ (List.mem_append_right _ h)))) (by decide +kernel))) (goodIn_sub (fun _ h => List.mem_cons_of_mem _ (List.mem_append_left _ (List.mem_append_right _ h))) (by decide +kernel))) (goodIn_sub (fun _ h => List.mem_cons_of_mem _ (List.mem_append_right _ h)) (by decide +kernel))
set_option maxRecDepth 20000 in
theorem gL_step_L_finds : GoodIn wsL_step (va_wsS RL 63 yL_finds wsL_finds) := goodIn_app (goodIn_of _ (by decide +kernel)) ggL_step_L_finds
theorem dL_step_0 : decode cL_step 0 = .ok (.iload_n 3, 1) := by decide +kernel
theorem dL_step_1 : decode cL_step 1 = .ok (.bipush 8, 2) := by decide +kernel
theorem dL_step_3 : decode cL_step 3 = .ok (.irem, 1) := by decide +kernel
theorem dL_step_4 : decode cL_step 4 = .ok (.bipush 6, 2) := by decide +kernel
theorem dL_step_6 : decode cL_step 6 = .ok (.if_icmp .ge 9, 3) := by decide +kernel
theorem dL_step_9 : decode cL_step 9 = .ok (.iload_n 3, 1) := by decide +kernel
theorem dL_step_10 : decode cL_step 10 = .ok (.iconst 2, 1) := by decide +kernel
theorem dL_step_11 : decode cL_step 11 = .ok (.irem, 1) := by decide +kernel
theorem dL_step_12 : decode cL_step 12 = .ok (.goto 4, 3) := by decide +kernel
theorem dL_step_15 : decode cL_step 15 = .ok (.iconst 2, 1) := by decide +kernel
theorem dL_step_16 : decode cL_step 16 = .ok (.istore 5, 2) := by decide +kernel
theorem dL_step_18 : decode cL_step 18 = .ok (.iload 4, 2) := by decide +kernel
theorem dL_step_20 : decode cL_step 20 = .ok (.iconst 2, 1) := by decide +kernel
theorem dL_step_21 : decode cL_step 21 = .ok (.irem, 1) := by decide +kernel
theorem dL_step_22 : decode cL_step 22 = .ok (.istore 6, 2) := by decide +kernel
theorem dL_step_24 : decode cL_step 24 = .ok (.aload_n 1, 1) := by decide +kernel
theorem dL_step_25 : decode cL_step 25 = .ok (.iload 6, 2) := by decide +kernel
theorem dL_step_27 : decode cL_step 27 = .ok (.iaload, 1) := by decide +kernel
theorem dL_step_28 : decode cL_step 28 = .ok (.ifCond .ne 7, 3) := by decide +kernel
theorem dL_step_31 : decode cL_step 31 = .ok (.iconst 0, 1) := by decide +kernel
theorem dL_step_32 : decode cL_step 32 = .ok (.goto 12, 3) := by decide +kernel
theorem dL_step_35 : decode cL_step 35 = .ok (.iload 4, 2) := by decide +kernel
theorem dL_step_37 : decode cL_step 37 = .ok (.iconst 2, 1) := by decide +kernel
theorem dL_step_38 : decode cL_step 38 = .ok (.idiv, 1) := by decide +kernel
theorem dL_step_39 : decode cL_step 39 = .ok (.aload_n 1, 1) := by decide +kernel
theorem dL_step_40 : decode cL_step 40 = .ok (.iload 6, 2) := by decide +kernel
theorem dL_step_42 : decode cL_step 42 = .ok (.iaload, 1) := by decide +kernel
theorem dL_step_43 : decode cL_step 43 = .ok (.irem, 1) := by decide +kernel
theorem dL_step_44 : decode cL_step 44 = .ok (.istore 7, 2) := by decide +kernel
theorem dL_step_46 : decode cL_step 46 = .ok (.iload_n 3, 1) := by decide +kernel
theorem dL_step_47 : decode cL_step 47 = .ok (.bipush 8, 2) := by decide +kernel
theorem dL_step_49 : decode cL_step 49 = .ok (.idiv, 1) := by decide +kernel
theorem dL_step_50 : decode cL_step 50 = .ok (.bipush 50, 2) := by decide +kernel
theorem dL_step_52 : decode cL_step 52 = .ok (.irem, 1) := by decide +kernel
theorem dL_step_53 : decode cL_step 53 = .ok (.istore 8, 2) := by decide +kernel
theorem dL_step_55 : decode cL_step 55 = .ok (.aload_n 0, 1) := by decide +kernel
theorem dL_step_56 : decode cL_step 56 = .ok (.iload 5, 2) := by decide +kernel
theorem dL_step_58 : decode cL_step 58 = .ok (.invokevirtual 10, 3) := by decide +kernel
theorem dL_step_61 : decode cL_step 61 = .ok (.istore 9, 2) := by decide +kernel
theorem dL_step_63 : decode cL_step 63 = .ok (.iload_n 2, 1) := by decide +kernel
theorem dL_step_64 : decode cL_step 64 = .ok (.bipush 14, 2) := by decide +kernel
theorem dL_step_66 : decode cL_step 66 = .ok (.irem, 1) := by decide +kernel
theorem dL_step_67 : decode cL_step 67 = .ok (.tableswitch 575 0 12 #[65, 65, 140, 140, 140, 276, 276, 317, 317, 441, 487, 487, 495], 65) := by decide +kernel
theorem dL_step_132 : decode cL_step 132 = .ok (.aload_n 1, 1) := by decide +kernel
theorem dL_step_133 : decode cL_step 133 = .ok (.iconst 0, 1) := by decide +kernel
theorem dL_step_134 : decode cL_step 134 = .ok (.dup2, 1) := by decide +kernel
theorem dL_step_135 : decode cL_step 135 = .ok (.iaload, 1) := by decide +kernel
theorem dL_step_136 : decode cL_step 136 = .ok (.iconst 1, 1) := by decide +kernel
theorem dL_step_137 : decode cL_step 137 = .ok (.iadd, 1) := by decide +kernel
theorem dL_step_138 : decode cL_step 138 = .ok (.iastore, 1) := by decide +kernel
theorem dL_step_139 : decode cL_step 139 = .ok (.aload_n 0, 1) := by decide +kernel
theorem dL_step_140 : decode cL_step 140 = .ok (.iload 5, 2) := by decide +kernel
theorem dL_step_142 : decode cL_step 142 = .ok (.iload 8, 2) := by decide +kernel
theorem dL_step_144 : decode cL_step 144 = .ok (.invokevirtual 16, 3) := by decide +kernel
theorem dL_step_147 : decode cL_step 147 = .ok (.aload_n 1, 1) := by decide +kernel
theorem dL_step_148 : decode cL_step 148 = .ok (.iconst 0, 1) := by decide +kernel
theorem dL_step_149 : decode cL_step 149 = .ok (.iaload, 1) := by decide +kernel
theorem dL_step_150 : decode cL_step 150 = .ok (.iconst 1, 1) := by decide +kernel
theorem dL_step_151 : decode cL_step 151 = .ok (.isub, 1) := by decide +kernel
theorem dL_step_152 : decode cL_step 152 = .ok (.if_icmp .ne 53, 3) := by decide +kernel
theorem dL_step_155 : decode cL_step 155 = .ok (.aload_n 0, 1) := by decide +kernel
theorem dL_step_156 : decode cL_step 156 = .ok (.iload 5, 2) := by decide +kernel
theorem dL_step_158 : decode cL_step 158 = .ok (.invokevirtual 10, 3) := by decide +kernel
theorem dL_step_161 : decode cL_step 161 = .ok (.iload 9, 2) := by decide +kernel
theorem dL_step_163 : decode cL_step 163 = .ok (.iconst 1, 1) := by decide +kernel
theorem dL_step_164 : decode cL_step 164 = .ok (.iadd, 1) := by decide +kernel
theorem dL_step_165 : decode cL_step 165 = .ok (.if_icmp .ne 40, 3) := by decide +kernel
theorem dL_step_168 : decode cL_step 168 = .ok (.aload_n 0, 1) := by decide +kernel
theorem dL_step_169 : decode cL_step 169 = .ok (.iload 5, 2) := by decide +kernel
theorem dL_step_171 : decode cL_step 171 = .ok (.iconst 0, 1) := by decide +kernel
theorem dL_step_172 : decode cL_step 172 = .ok (.aload_n 1, 1) := by decide +kernel
theorem dL_step_173 : decode cL_step 173 = .ok (.iconst 0, 1) := by decide +kernel
theorem dL_step_174 : decode cL_step 174 = .ok (.iaload, 1) := by decide +kernel
theorem dL_step_175 : decode cL_step 175 = .ok (.iconst 1, 1) := by decide +kernel
theorem dL_step_176 : decode cL_step 176 = .ok (.isub, 1) := by decide +kernel
theorem dL_step_177 : decode cL_step 177 = .ok (.invokevirtual 20, 3) := by decide +kernel
theorem dL_step_180 : decode cL_step 180 = .ok (.iload 8, 2) := by decide +kernel
theorem dL_step_182 : decode cL_step 182 = .ok (.if_icmp .ne 23, 3) := by decide +kernel
theorem dL_step_185 : decode cL_step 185 = .ok (.aload_n 0, 1) := by decide +kernel
theorem dL_step_186 : decode cL_step 186 = .ok (.iload 5, 2) := by decide +kernel
theorem dL_step_188 : decode cL_step 188 = .ok (.iconst 0, 1) := by decide +kernel
theorem dL_step_189 : decode cL_step 189 = .ok (.aload_n 1, 1) := by decide +kernel
theorem dL_step_190 : decode cL_step 190 = .ok (.iconst 0, 1) := by decide +kernel
theorem dL_step_191 : decode cL_step 191 = .ok (.iaload, 1) := by decide +kernel
theorem dL_step_192 : decode cL_step 192 = .ok (.iconst 1, 1) := by decide +kernel
theorem dL_step_193 : decode cL_step 193 = .ok (.isub, 1) := by decide +kernel
theorem dL_step_194 : decode cL_step 194 = .ok (.invokevirtual 24, 3) := by decide +kernel
theorem dL_step_197 : decode cL_step 197 = .ok (.iconst (-1), 1) := by decide +kernel
theorem dL_step_198 : decode cL_step 198 = .ok (.if_icmp .ne 7, 3) := by decide +kernel
theorem dL_step_201 : decode cL_step 201 = .ok (.iconst 1, 1) := by decide +kernel
theorem dL_step_202 : decode cL_step 202 = .ok (.goto 4, 3) := by decide +kernel
theorem dL_step_205 : decode cL_step 205 = .ok (.iconst 0, 1) := by decide +kernel
theorem dL_step_206 : decode cL_step 206 = .ok (.ireturn, 1) := by decide +kernel
theorem dL_step_207 : decode cL_step 207 = .ok (.aload_n 1, 1) := by decide +kernel
theorem dL_step_208 : decode cL_step 208 = .ok (.iconst 0, 1) := by decide +kernel
theorem dL_step_209 : decode cL_step 209 = .ok (.iaload, 1) := by decide +kernel
theorem dL_step_210 : decode cL_step 210 = .ok (.ifCond .ne 7, 3) := by decide +kernel
theorem dL_step_213 : decode cL_step 213 = .ok (.iconst 0, 1) := by decide +kernel
theorem dL_step_214 : decode cL_step 214 = .ok (.goto 11, 3) := by decide +kernel
theorem dL_step_217 : decode cL_step 217 = .ok (.iload 4, 2) := by decide +kernel
theorem dL_step_219 : decode cL_step 219 = .ok (.iconst 2, 1) := by decide +kernel
theorem dL_step_220 : decode cL_step 220 = .ok (.idiv, 1) := by decide +kernel
theorem dL_step_221 : decode cL_step 221 = .ok (.aload_n 1, 1) := by decide +kernel
theorem dL_step_222 : decode cL_step 222 = .ok (.iconst 0, 1) := by decide +kernel
theorem dL_step_223 : decode cL_step 223 = .ok (.iaload, 1) := by decide +kernel
theorem dL_step_224 : decode cL_step 224 = .ok (.irem, 1) := by decide +kernel
theorem dL_step_225 : decode cL_step 225 = .ok (.istore 10, 2) := by decide +kernel
theorem dL_step_227 : decode cL_step 227 = .ok (.aload_n 1, 1) := by decide +kernel
theorem dL_step_228 : decode cL_step 228 = .ok (.iconst 0, 1) := by decide +kernel
theorem dL_step_229 : decode cL_step 229 = .ok (.iaload, 1) := by decide +kernel
theorem dL_step_230 : decode cL_step 230 = .ok (.ifCond .eq 15, 3) := by decide +kernel
theorem dL_step_233 : decode cL_step 233 = .ok (.aload_n 0, 1) := by decide +kernel
theorem dL_step_234 : decode cL_step 234 = .ok (.iload 5, 2) := by decide +kernel
theorem dL_step_236 : decode cL_step 236 = .ok (.iconst 0, 1) := by decide +kernel
theorem dL_step_237 : decode cL_step 237 = .ok (.iload 10, 2) := by decide +kernel
theorem dL_step_239 : decode cL_step 239 = .ok (.invokevirtual 29, 3) := by decide +kernel
theorem dL_step_242 : decode cL_step 242 = .ok (.ifCond .ne 20, 3) := by decide +kernel
theorem dL_step_245 : decode cL_step 245 = .ok (.aload_n 0, 1) := by decide +kernel
theorem dL_step_246 : decode cL_step 246 = .ok (.iload 5, 2) := by decide +kernel
theorem dL_step_248 : decode cL_step 248 = .ok (.iconst 0, 1) := by decide +kernel
theorem dL_step_249 : decode cL_step 249 = .ok (.iconst (-1), 1) := by decide +kernel
theorem dL_step_250 : decode cL_step 250 = .ok (.invokevirtual 29, 3) := by decide +kernel
theorem dL_step_253 : decode cL_step 253 = .ok (.ifCond .ne 7, 3) := by decide +kernel
theorem dL_step_256 : decode cL_step 256 = .ok (.iconst 1, 1) := by decide +kernel
theorem dL_step_257 : decode cL_step 257 = .ok (.goto 4, 3) := by decide +kernel
theorem dL_step_260 : decode cL_step 260 = .ok (.iconst 0, 1) := by decide +kernel
theorem dL_step_261 : decode cL_step 261 = .ok (.ireturn, 1) := by decide +kernel
theorem dL_step_262 : decode cL_step 262 = .ok (.aload_n 0, 1) := by decide +kernel
theorem dL_step_263 : decode cL_step 263 = .ok (.iload 5, 2) := by decide +kernel
theorem dL_step_265 : decode cL_step 265 = .ok (.invokevirtual 10, 3) := by decide +kernel
theorem dL_step_268 : decode cL_step 268 = .ok (.istore 9, 2) := by decide +kernel
theorem dL_step_270 : decode cL_step 270 = .ok (.aload_n 1, 1) := by decide +kernel
theorem dL_step_271 : decode cL_step 271 = .ok (.iconst 1, 1) := by decide +kernel
theorem dL_step_272 : decode cL_step 272 = .ok (.dup2, 1) := by decide +kernel
theorem dL_step_273 : decode cL_step 273 = .ok (.iaload, 1) := by decide +kernel
theorem dL_step_274 : decode cL_step 274 = .ok (.iconst 1, 1) := by decide +kernel
theorem dL_step_275 : decode cL_step 275 = .ok (.iadd, 1) := by decide +kernel
theorem dL_step_276 : decode cL_step 276 = .ok (.iastore, 1) := by decide +kernel
theorem dL_step_277 : decode cL_step 277 = .ok (.aload_n 0, 1) := by decide +kernel
theorem dL_step_278 : decode cL_step 278 = .ok (.iload 5, 2) := by decide +kernel
theorem dL_step_280 : decode cL_step 280 = .ok (.iload 8, 2) := by decide +kernel
theorem dL_step_282 : decode cL_step 282 = .ok (.iload 10, 2) := by decide +kernel
theorem dL_step_284 : decode cL_step 284 = .ok (.invokevirtual 33, 3) := by decide +kernel
theorem dL_step_287 : decode cL_step 287 = .ok (.aload_n 1, 1) := by decide +kernel
theorem dL_step_288 : decode cL_step 288 = .ok (.iconst 1, 1) := by decide +kernel
theorem dL_step_289 : decode cL_step 289 = .ok (.iaload, 1) := by decide +kernel
theorem dL_step_290 : decode cL_step 290 = .ok (.iconst 1, 1) := by decide +kernel
theorem dL_step_291 : decode cL_step 291 = .ok (.isub, 1) := by decide +kernel
theorem dL_step_292 : decode cL_step 292 = .ok (.if_icmp .ne 49, 3) := by decide +kernel
theorem dL_step_295 : decode cL_step 295 = .ok (.aload_n 0, 1) := by decide +kernel
theorem dL_step_296 : decode cL_step 296 = .ok (.iload 5, 2) := by decide +kernel
theorem dL_step_298 : decode cL_step 298 = .ok (.invokevirtual 10, 3) := by decide +kernel
theorem dL_step_301 : decode cL_step 301 = .ok (.iload 9, 2) := by decide +kernel
theorem dL_step_303 : decode cL_step 303 = .ok (.iconst 1, 1) := by decide +kernel
theorem dL_step_304 : decode cL_step 304 = .ok (.iadd, 1) := by decide +kernel
theorem dL_step_305 : decode cL_step 305 = .ok (.if_icmp .ne 36, 3) := by decide +kernel
theorem dL_step_308 : decode cL_step 308 = .ok (.aload_n 0, 1) := by decide +kernel
theorem dL_step_309 : decode cL_step 309 = .ok (.iload 5, 2) := by decide +kernel
theorem dL_step_311 : decode cL_step 311 = .ok (.iconst 1, 1) := by decide +kernel
theorem dL_step_312 : decode cL_step 312 = .ok (.aload_n 1, 1) := by decide +kernel
theorem dL_step_313 : decode cL_step 313 = .ok (.iconst 1, 1) := by decide +kernel
theorem dL_step_314 : decode cL_step 314 = .ok (.iaload, 1) := by decide +kernel
theorem dL_step_315 : decode cL_step 315 = .ok (.iconst 1, 1) := by decide +kernel
theorem dL_step_316 : decode cL_step 316 = .ok (.isub, 1) := by decide +kernel
theorem dL_step_317 : decode cL_step 317 = .ok (.invokevirtual 24, 3) := by decide +kernel
theorem dL_step_320 : decode cL_step 320 = .ok (.iload 10, 2) := by decide +kernel
theorem dL_step_322 : decode cL_step 322 = .ok (.if_icmp .ne 19, 3) := by decide +kernel
theorem dL_step_325 : decode cL_step 325 = .ok (.aload_n 0, 1) := by decide +kernel
theorem dL_step_326 : decode cL_step 326 = .ok (.iload 5, 2) := by decide +kernel
theorem dL_step_328 : decode cL_step 328 = .ok (.iload 10, 2) := by decide +kernel
theorem dL_step_330 : decode cL_step 330 = .ok (.invokevirtual 36, 3) := by decide +kernel
theorem dL_step_333 : decode cL_step 333 = .ok (.iconst 1, 1) := by decide +kernel
theorem dL_step_334 : decode cL_step 334 = .ok (.if_icmp .lt 7, 3) := by decide +kernel
theorem dL_step_337 : decode cL_step 337 = .ok (.iconst 1, 1) := by decide +kernel
theorem dL_step_338 : decode cL_step 338 = .ok (.goto 4, 3) := by decide +kernel
theorem dL_step_341 : decode cL_step 341 = .ok (.iconst 0, 1) := by decide +kernel
theorem dL_step_342 : decode cL_step 342 = .ok (.ireturn, 1) := by decide +kernel
theorem dL_step_343 : decode cL_step 343 = .ok (.aload_n 1, 1) := by decide +kernel
theorem dL_step_344 : decode cL_step 344 = .ok (.iload 6, 2) := by decide +kernel
theorem dL_step_346 : decode cL_step 346 = .ok (.iaload, 1) := by decide +kernel
theorem dL_step_347 : decode cL_step 347 = .ok (.ifCond .eq 31, 3) := by decide +kernel
theorem dL_step_350 : decode cL_step 350 = .ok (.aload_n 0, 1) := by decide +kernel
theorem dL_step_351 : decode cL_step 351 = .ok (.iload 5, 2) := by decide +kernel
theorem dL_step_353 : decode cL_step 353 = .ok (.iload 6, 2) := by decide +kernel
theorem dL_step_355 : decode cL_step 355 = .ok (.iload 7, 2) := by decide +kernel
theorem dL_step_357 : decode cL_step 357 = .ok (.invokevirtual 29, 3) := by decide +kernel
theorem dL_step_360 : decode cL_step 360 = .ok (.ifCond .eq 18, 3) := by decide +kernel
theorem dL_step_363 : decode cL_step 363 = .ok (.aload_n 0, 1) := by decide +kernel
theorem dL_step_364 : decode cL_step 364 = .ok (.iload 5, 2) := by decide +kernel
theorem dL_step_366 : decode cL_step 366 = .ok (.iload 6, 2) := by decide +kernel
theorem dL_step_368 : decode cL_step 368 = .ok (.iload 7, 2) := by decide +kernel
theorem dL_step_370 : decode cL_step 370 = .ok (.iload 8, 2) := by decide +kernel
theorem dL_step_372 : decode cL_step 372 = .ok (.invokestatic 39, 3) := by decide +kernel
theorem dL_step_375 : decode cL_step 375 = .ok (.ifCond .eq 7, 3) := by decide +kernel
theorem dL_step_378 : decode cL_step 378 = .ok (.iconst 1, 1) := by decide +kernel
theorem dL_step_379 : decode cL_step 379 = .ok (.goto 4, 3) := by decide +kernel
theorem dL_step_382 : decode cL_step 382 = .ok (.iconst 0, 1) := by decide +kernel
theorem dL_step_383 : decode cL_step 383 = .ok (.ireturn, 1) := by decide +kernel
theorem dL_step_384 : decode cL_step 384 = .ok (.aload_n 1, 1) := by decide +kernel
theorem dL_step_385 : decode cL_step 385 = .ok (.iconst 1, 1) := by decide +kernel
theorem dL_step_386 : decode cL_step 386 = .ok (.iload 6, 2) := by decide +kernel
theorem dL_step_388 : decode cL_step 388 = .ok (.isub, 1) := by decide +kernel
theorem dL_step_389 : decode cL_step 389 = .ok (.iaload, 1) := by decide +kernel
theorem dL_step_390 : decode cL_step 390 = .ok (.ifCond .ne 7, 3) := by decide +kernel
theorem dL_step_393 : decode cL_step 393 = .ok (.iconst 0, 1) := by decide +kernel
theorem dL_step_394 : decode cL_step 394 = .ok (.goto 14, 3) := by decide +kernel
theorem dL_step_397 : decode cL_step 397 = .ok (.iload_n 3, 1) := by decide +kernel
theorem dL_step_398 : decode cL_step 398 = .ok (.bipush 8, 2) := by decide +kernel
theorem dL_step_400 : decode cL_step 400 = .ok (.idiv, 1) := by decide +kernel
theorem dL_step_401 : decode cL_step 401 = .ok (.aload_n 1, 1) := by decide +kernel
theorem dL_step_402 : decode cL_step 402 = .ok (.iconst 1, 1) := by decide +kernel
theorem dL_step_403 : decode cL_step 403 = .ok (.iload 6, 2) := by decide +kernel
theorem dL_step_405 : decode cL_step 405 = .ok (.isub, 1) := by decide +kernel
theorem dL_step_406 : decode cL_step 406 = .ok (.iaload, 1) := by decide +kernel
theorem dL_step_407 : decode cL_step 407 = .ok (.irem, 1) := by decide +kernel
theorem dL_step_408 : decode cL_step 408 = .ok (.istore 11, 2) := by decide +kernel
theorem dL_step_410 : decode cL_step 410 = .ok (.aload_n 1, 1) := by decide +kernel
theorem dL_step_411 : decode cL_step 411 = .ok (.iconst 0, 1) := by decide +kernel
theorem dL_step_412 : decode cL_step 412 = .ok (.iaload, 1) := by decide +kernel
theorem dL_step_413 : decode cL_step 413 = .ok (.ifCond .eq 22, 3) := by decide +kernel
theorem dL_step_416 : decode cL_step 416 = .ok (.aload_n 1, 1) := by decide +kernel
theorem dL_step_417 : decode cL_step 417 = .ok (.iconst 1, 1) := by decide +kernel
theorem dL_step_418 : decode cL_step 418 = .ok (.iaload, 1) := by decide +kernel
theorem dL_step_419 : decode cL_step 419 = .ok (.ifCond .eq 16, 3) := by decide +kernel
theorem dL_step_422 : decode cL_step 422 = .ok (.aload_n 0, 1) := by decide +kernel
theorem dL_step_423 : decode cL_step 423 = .ok (.iload 5, 2) := by decide +kernel
theorem dL_step_425 : decode cL_step 425 = .ok (.iload 6, 2) := by decide +kernel
theorem dL_step_427 : decode cL_step 427 = .ok (.iload 7, 2) := by decide +kernel
theorem dL_step_429 : decode cL_step 429 = .ok (.invokevirtual 29, 3) := by decide +kernel
theorem dL_step_432 : decode cL_step 432 = .ok (.ifCond .ne 20, 3) := by decide +kernel
theorem dL_step_435 : decode cL_step 435 = .ok (.aload_n 0, 1) := by decide +kernel
theorem dL_step_436 : decode cL_step 436 = .ok (.iload 5, 2) := by decide +kernel
theorem dL_step_438 : decode cL_step 438 = .ok (.invokevirtual 10, 3) := by decide +kernel
theorem dL_step_441 : decode cL_step 441 = .ok (.iload 9, 2) := by decide +kernel
theorem dL_step_443 : decode cL_step 443 = .ok (.if_icmp .lt 7, 3) := by decide +kernel
theorem dL_step_446 : decode cL_step 446 = .ok (.iconst 1, 1) := by decide +kernel
theorem dL_step_447 : decode cL_step 447 = .ok (.goto 4, 3) := by decide +kernel
theorem dL_step_450 : decode cL_step 450 = .ok (.iconst 0, 1) := by decide +kernel
theorem dL_step_451 : decode cL_step 451 = .ok (.ireturn, 1) := by decide +kernel
theorem dL_step_452 : decode cL_step 452 = .ok (.aload_n 0, 1) := by decide +kernel
theorem dL_step_453 : decode cL_step 453 = .ok (.iload 5, 2) := by decide +kernel
theorem dL_step_455 : decode cL_step 455 = .ok (.iload 6, 2) := by decide +kernel
theorem dL_step_457 : decode cL_step 457 = .ok (.iload 7, 2) := by decide +kernel
theorem dL_step_459 : decode cL_step 459 = .ok (.iload 6, 2) := by decide +kernel
theorem dL_step_461 : decode cL_step 461 = .ok (.ifCond .ne 13, 3) := by decide +kernel
theorem dL_step_464 : decode cL_step 464 = .ok (.iload_n 3, 1) := by decide +kernel
theorem dL_step_465 : decode cL_step 465 = .ok (.iconst 5, 1) := by decide +kernel
theorem dL_step_466 : decode cL_step 466 = .ok (.irem, 1) := by decide +kernel
theorem dL_step_467 : decode cL_step 467 = .ok (.ifCond .ne 7, 3) := by decide +kernel
theorem dL_step_470 : decode cL_step 470 = .ok (.iconst (-1), 1) := by decide +kernel
theorem dL_step_471 : decode cL_step 471 = .ok (.goto 33, 3) := by decide +kernel
theorem dL_step_474 : decode cL_step 474 = .ok (.aload_n 0, 1) := by decide +kernel
theorem dL_step_475 : decode cL_step 475 = .ok (.iload 5, 2) := by decide +kernel
theorem dL_step_477 : decode cL_step 477 = .ok (.iconst 1, 1) := by decide +kernel
theorem dL_step_478 : decode cL_step 478 = .ok (.iload 6, 2) := by decide +kernel
theorem dL_step_480 : decode cL_step 480 = .ok (.isub, 1) := by decide +kernel
theorem dL_step_481 : decode cL_step 481 = .ok (.iload 11, 2) := by decide +kernel
theorem dL_step_483 : decode cL_step 483 = .ok (.invokevirtual 29, 3) := by decide +kernel
theorem dL_step_486 : decode cL_step 486 = .ok (.ifCond .eq 8, 3) := by decide +kernel
theorem dL_step_489 : decode cL_step 489 = .ok (.iload 11, 2) := by decide +kernel
theorem dL_step_491 : decode cL_step 491 = .ok (.goto 13, 3) := by decide +kernel
theorem dL_step_494 : decode cL_step 494 = .ok (.aload_n 0, 1) := by decide +kernel
theorem dL_step_495 : decode cL_step 495 = .ok (.iload 5, 2) := by decide +kernel
theorem dL_step_497 : decode cL_step 497 = .ok (.iload 6, 2) := by decide +kernel
theorem dL_step_499 : decode cL_step 499 = .ok (.iload 7, 2) := by decide +kernel
theorem dL_step_501 : decode cL_step 501 = .ok (.invokevirtual 24, 3) := by decide +kernel
theorem dL_step_504 : decode cL_step 504 = .ok (.invokestatic 43, 3) := by decide +kernel
theorem dL_step_507 : decode cL_step 507 = .ok (.ireturn, 1) := by decide +kernel
theorem dL_step_508 : decode cL_step 508 = .ok (.iload 4, 2) := by decide +kernel
theorem dL_step_510 : decode cL_step 510 = .ok (.iconst 3, 1) := by decide +kernel
theorem dL_step_511 : decode cL_step 511 = .ok (.irem, 1) := by decide +kernel
theorem dL_step_512 : decode cL_step 512 = .ok (.ifCond .gt 36, 3) := by decide +kernel
theorem dL_step_515 : decode cL_step 515 = .ok (.aload_n 1, 1) := by decide +kernel
theorem dL_step_516 : decode cL_step 516 = .ok (.iload 6, 2) := by decide +kernel
theorem dL_step_518 : decode cL_step 518 = .ok (.iaload, 1) := by decide +kernel
theorem dL_step_519 : decode cL_step 519 = .ok (.ifCond .eq 29, 3) := by decide +kernel
theorem dL_step_522 : decode cL_step 522 = .ok (.aload_n 0, 1) := by decide +kernel
theorem dL_step_523 : decode cL_step 523 = .ok (.iload 5, 2) := by decide +kernel
theorem dL_step_525 : decode cL_step 525 = .ok (.iload 6, 2) := by decide +kernel
theorem dL_step_527 : decode cL_step 527 = .ok (.iload 7, 2) := by decide +kernel
theorem dL_step_529 : decode cL_step 529 = .ok (.invokevirtual 29, 3) := by decide +kernel
theorem dL_step_532 : decode cL_step 532 = .ok (.ifCond .eq 16, 3) := by decide +kernel
theorem dL_step_535 : decode cL_step 535 = .ok (.aload_n 0, 1) := by decide +kernel
theorem dL_step_536 : decode cL_step 536 = .ok (.iload 5, 2) := by decide +kernel
theorem dL_step_538 : decode cL_step 538 = .ok (.iload 6, 2) := by decide +kernel
theorem dL_step_540 : decode cL_step 540 = .ok (.iload 7, 2) := by decide +kernel
theorem dL_step_542 : decode cL_step 542 = .ok (.invokestatic 46, 3) := by decide +kernel
theorem dL_step_545 : decode cL_step 545 = .ok (.ifCond .eq 7, 3) := by decide +kernel
theorem dL_step_548 : decode cL_step 548 = .ok (.iconst 1, 1) := by decide +kernel
theorem dL_step_549 : decode cL_step 549 = .ok (.goto 4, 3) := by decide +kernel
theorem dL_step_552 : decode cL_step 552 = .ok (.iconst 0, 1) := by decide +kernel
theorem dL_step_553 : decode cL_step 553 = .ok (.ireturn, 1) := by decide +kernel
theorem dL_step_554 : decode cL_step 554 = .ok (.aload_n 0, 1) := by decide +kernel
theorem dL_step_555 : decode cL_step 555 = .ok (.aload_n 1, 1) := by decide +kernel
theorem dL_step_556 : decode cL_step 556 = .ok (.iload 5, 2) := by decide +kernel
theorem dL_step_558 : decode cL_step 558 = .ok (.invokestatic 50, 3) := by decide +kernel
theorem dL_step_561 : decode cL_step 561 = .ok (.ireturn, 1) := by decide +kernel
theorem dL_step_562 : decode cL_step 562 = .ok (.iload 4, 2) := by decide +kernel
theorem dL_step_564 : decode cL_step 564 = .ok (.iconst 4, 1) := by decide +kernel
theorem dL_step_565 : decode cL_step 565 = .ok (.irem, 1) := by decide +kernel
theorem dL_step_566 : decode cL_step 566 = .ok (.ifCond .le 20, 3) := by decide +kernel
theorem dL_step_569 : decode cL_step 569 = .ok (.aload_n 0, 1) := by decide +kernel
theorem dL_step_570 : decode cL_step 570 = .ok (.iload 5, 2) := by decide +kernel
theorem dL_step_572 : decode cL_step 572 = .ok (.invokevirtual 54, 3) := by decide +kernel
theorem dL_step_575 : decode cL_step 575 = .ok (.iload 9, 2) := by decide +kernel
theorem dL_step_577 : decode cL_step 577 = .ok (.if_icmp .gt 7, 3) := by decide +kernel
theorem dL_step_580 : decode cL_step 580 = .ok (.iconst 1, 1) := by decide +kernel
theorem dL_step_581 : decode cL_step 581 = .ok (.goto 4, 3) := by decide +kernel
theorem dL_step_584 : decode cL_step 584 = .ok (.iconst 0, 1) := by decide +kernel
theorem dL_step_585 : decode cL_step 585 = .ok (.ireturn, 1) := by decide +kernel
theorem dL_step_586 : decode cL_step 586 = .ok (.aload_n 1, 1) := by decide +kernel
theorem dL_step_587 : decode cL_step 587 = .ok (.iconst 3, 1) := by decide +kernel
theorem dL_step_588 : decode cL_step 588 = .ok (.dup2, 1) := by decide +kernel
theorem dL_step_589 : decode cL_step 589 = .ok (.iaload, 1) := by decide +kernel
theorem dL_step_590 : decode cL_step 590 = .ok (.iconst 1, 1) := by decide +kernel
theorem dL_step_591 : decode cL_step 591 = .ok (.iload 5, 2) := by decide +kernel
theorem dL_step_593 : decode cL_step 593 = .ok (.ishl, 1) := by decide +kernel
theorem dL_step_594 : decode cL_step 594 = .ok (.iconst (-1), 1) := by decide +kernel
theorem dL_step_595 : decode cL_step 595 = .ok (.ixor, 1) := by decide +kernel
theorem dL_step_596 : decode cL_step 596 = .ok (.iand, 1) := by decide +kernel
theorem dL_step_597 : decode cL_step 597 = .ok (.iastore, 1) := by decide +kernel
theorem dL_step_598 : decode cL_step 598 = .ok (.aload_n 0, 1) := by decide +kernel
theorem dL_step_599 : decode cL_step 599 = .ok (.iload 5, 2) := by decide +kernel
theorem dL_step_601 : decode cL_step 601 = .ok (.invokevirtual 57, 3) := by decide +kernel
theorem dL_step_604 : decode cL_step 604 = .ok (.iload 9, 2) := by decide +kernel
theorem dL_step_606 : decode cL_step 606 = .ok (.if_icmp .ne 34, 3) := by decide +kernel
theorem dL_step_609 : decode cL_step 609 = .ok (.aload_n 0, 1) := by decide +kernel
theorem dL_step_610 : decode cL_step 610 = .ok (.iload 5, 2) := by decide +kernel
theorem dL_step_612 : decode cL_step 612 = .ok (.invokevirtual 10, 3) := by decide +kernel
theorem dL_step_615 : decode cL_step 615 = .ok (.ifCond .ne 25, 3) := by decide +kernel
theorem dL_step_618 : decode cL_step 618 = .ok (.aload_n 0, 1) := by decide +kernel
theorem dL_step_619 : decode cL_step 619 = .ok (.iload 5, 2) := by decide +kernel
theorem dL_step_621 : decode cL_step 621 = .ok (.invokevirtual 54, 3) := by decide +kernel
theorem dL_step_624 : decode cL_step 624 = .ok (.ifCond .ne 16, 3) := by decide +kernel
theorem dL_step_627 : decode cL_step 627 = .ok (.aload_n 0, 1) := by decide +kernel
theorem dL_step_628 : decode cL_step 628 = .ok (.iload 5, 2) := by decide +kernel
theorem dL_step_630 : decode cL_step 630 = .ok (.invokevirtual 60, 3) := by decide +kernel
theorem dL_step_633 : decode cL_step 633 = .ok (.ifCond .ne 7, 3) := by decide +kernel
theorem dL_step_636 : decode cL_step 636 = .ok (.iconst 1, 1) := by decide +kernel
theorem dL_step_637 : decode cL_step 637 = .ok (.goto 4, 3) := by decide +kernel
theorem dL_step_640 : decode cL_step 640 = .ok (.iconst 0, 1) := by decide +kernel
theorem dL_step_641 : decode cL_step 641 = .ok (.ireturn, 1) := by decide +kernel
theorem dL_step_642 : decode cL_step 642 = .ok (.aload_n 1, 1) := by decide +kernel
theorem dL_step_643 : decode cL_step 643 = .ok (.iload 6, 2) := by decide +kernel
theorem dL_step_645 : decode cL_step 645 = .ok (.iaload, 1) := by decide +kernel
theorem dL_step_646 : decode cL_step 646 = .ok (.ifCond .eq 17, 3) := by decide +kernel
theorem dL_step_649 : decode cL_step 649 = .ok (.aload_n 0, 1) := by decide +kernel
theorem dL_step_650 : decode cL_step 650 = .ok (.aload_n 1, 1) := by decide +kernel
theorem dL_step_651 : decode cL_step 651 = .ok (.iload 5, 2) := by decide +kernel
theorem dL_step_653 : decode cL_step 653 = .ok (.iload 6, 2) := by decide +kernel
theorem dL_step_655 : decode cL_step 655 = .ok (.iload 7, 2) := by decide +kernel
theorem dL_step_657 : decode cL_step 657 = .ok (.invokestatic 63, 3) := by decide +kernel
theorem dL_step_660 : decode cL_step 660 = .ok (.ifCond .eq 7, 3) := by decide +kernel
theorem dL_step_663 : decode cL_step 663 = .ok (.iconst 1, 1) := by decide +kernel
theorem dL_step_664 : decode cL_step 664 = .ok (.goto 4, 3) := by decide +kernel
theorem dL_step_667 : decode cL_step 667 = .ok (.iconst 0, 1) := by decide +kernel
theorem dL_step_668 : decode cL_step 668 = .ok (.ireturn, 1) := by decide +kernel
set_option maxRecDepth 20000 in
theorem ggL_names_X6_dirty : GoodIn wsL_names wsX6_dirty := goodIn_ca (goodIn_r _ [5, 6, 7, 8, 4, 9, 10, 11, 12, 13, 14, 15, 16, 17, 18, 19, 20, 21, 22, 23, 24, 25, 26, 27, 28, 29, 30, 31, 32, 33, 34, 35, 36, 37, 38, 39, 40, 41, 42, 43, 44, 45, 46, 47, 48, 49, 50, 51, 52, 53, 54, 55, 56, 57, 58, 59, 60, 61, 62, 63, 64, 65, 66, 67, 68, 69, 70, 71, 72, 97, 98, 99, 100, 101, 102, 103, 104, 105, 106, 107, 108, 109, 110, 111, 112, 113, 114] (by decide +kernel) (by decide +kernel)) (goodIn_sub (fun _ h => List.mem_cons_of_mem _ (List.mem_append_left _ (List.mem_append_left _ (List.mem_append_right _ h)))) (by decide +kernel))
set_option maxRecDepth 20000 in
theorem gL_names_X6_dirty : GoodIn wsL_names (wsV RL 54 RX6 yX6_dirty wsX6_dirty) := goodIn_app (goodIn_of _ (by decide +kernel)) ggL_names_X6_dirty
set_option maxRecDepth 20000 in
theorem ggL_names_X6_name : GoodIn wsL_names wsX6_name := goodIn_ca (goodIn_ca (goodIn_ca (goodIn_r _ [76, 77, 6, 7, 8, 4, 9, 10, 11, 12, 78, 79, 80, 81, 82, 83, 84, 85, 86, 87, 88, 35, 36, 16, 37, 38, 39, 22, 23, 24, 25, 26, 27, 28, 29, 30, 31, 32, 33, 40, 41, 42, 43, 44, 45, 46, 47, 48, 49, 50, 51, 52, 53, 54, 55, 56, 89, 58, 59, 60, 61, 62, 63, 107, 108, 109, 110, 111, 112, 113, 114, 97, 98, 99, 100, 101, 102, 103, 104, 105, 106] (by decide +kernel) (by decide +kernel)) (goodIn_sub (fun _ h => List.mem_cons_of_mem _ (List.mem_append_left _ (List.mem_append_left _ (List.mem_append_right _ h)))) (by decide +kernel))) (goodIn_sub (fun _ h => List.mem_cons_of_mem _ (List.mem_append_left _ (List.mem_append_right _ h))) (by decide +kernel))) (goodIn_sub (fun _ h => List.mem_cons_of_mem _ (List.mem_append_right _ h)) (by decide +kernel))
set_option maxRecDepth 20000 in
theorem gL_names_X6_name : GoodIn wsL_names (wsV RL 20 RX6 yX6_name wsX6_name) := goodIn_app (goodIn_of _ (by decide +kernel)) ggL_names_X6_name
set_option maxRecDepth 20000 in
theorem ggL_names_X6_setName : GoodIn wsL_names wsX6_setName := goodIn_ca (goodIn_ca (goodIn_ca (goodIn_r _ [93, 77, 6, 7, 8, 4, 9, 10, 11, 12, 78, 79, 80, 81, 82, 94, 95, 96, 83, 84, 85, 86, 87, 88, 35, 36, 16, 37, 38, 39, 22, 23, 24, 25, 26, 27, 28, 29, 30, 31, 32, 33, 40, 41, 42, 43, 44, 45, 46, 47, 48, 49, 50, 51, 52, 53, 54, 55, 56, 89, 58, 59, 60, 61, 62, 63, 107, 108, 109, 110, 111, 112, 113, 114, 97, 98, 99, 100, 101, 102, 103, 104, 105, 106] (by decide +kernel) (by decide +kernel)) (goodIn_sub (fun _ h => List.mem_cons_of_mem _ (List.mem_append_left _ (List.mem_append_left _ (List.mem_append_right _ h)))) (by decide +kernel))) (goodIn_sub (fun _ h => List.mem_cons_of_mem _ (List.mem_append_left _ (List.mem_append_right _ h))) (by decide +kernel))) (goodIn_sub (fun _ h => List.mem_cons_of_mem _ (List.mem_append_right _ h)) (by decide +kernel))
set_option maxRecDepth 20000 in
theorem gL_names_X6_setName : GoodIn wsL_names (wsV RL 67 RX6 yX6_setName wsX6_setName) := goodIn_app (goodIn_of _ (by decide +kernel)) ggL_names_X6_setName
theorem dL_names_0 : decode cL_names 0 = .ok (.aload_n 0, 1) := by decide +kernel
theorem dL_names_1 : decode cL_names 1 = .ok (.iload_n 1, 1) := by decide +kernel
theorem dL_names_2 : decode cL_names 2 = .ok (.invokevirtual 54, 3) := by decide +kernel
theorem dL_names_5 : decode cL_names 5 = .ok (.istore 5, 2) := by decide +kernel
theorem dL_names_7 : decode cL_names 7 = .ok (.aload_n 0, 1) := by decide +kernel
theorem dL_names_8 : decode cL_names 8 = .ok (.iload_n 1, 1) := by decide +kernel
theorem dL_names_9 : decode cL_names 9 = .ok (.iload_n 2, 1) := by decide +kernel
theorem dL_names_10 : decode cL_names 10 = .ok (.iload_n 3, 1) := by decide +kernel
theorem dL_names_11 : decode cL_names 11 = .ok (.invokevirtual 20, 3) := by decide +kernel
theorem dL_names_14 : decode cL_names 14 = .ok (.istore 6, 2) := by decide +kernel
theorem dL_names_16 : decode cL_names 16 = .ok (.aload_n 0, 1) := by decide +kernel
theorem dL_names_17 : decode cL_names 17 = .ok (.iload_n 1, 1) := by decide +kernel
theorem dL_names_18 : decode cL_names 18 = .ok (.iload_n 2, 1) := by decide +kernel
theorem dL_names_19 : decode cL_names 19 = .ok (.iload_n 3, 1) := by decide +kernel
theorem dL_names_20 : decode cL_names 20 = .ok (.iload 4, 2) := by decide +kernel
theorem dL_names_22 : decode cL_names 22 = .ok (.invokevirtual 67, 3) := by decide +kernel
theorem dL_names_25 : decode cL_names 25 = .ok (.aload_n 0, 1) := by decide +kernel
theorem dL_names_26 : decode cL_names 26 = .ok (.iload_n 1, 1) := by decide +kernel
theorem dL_names_27 : decode cL_names 27 = .ok (.invokevirtual 54, 3) := by decide +kernel
theorem dL_names_30 : decode cL_names 30 = .ok (.iload 5, 2) := by decide +kernel
theorem dL_names_32 : decode cL_names 32 = .ok (.isub, 1) := by decide +kernel
theorem dL_names_33 : decode cL_names 33 = .ok (.istore 7, 2) := by decide +kernel
theorem dL_names_35 : decode cL_names 35 = .ok (.aload_n 0, 1) := by decide +kernel
theorem dL_names_36 : decode cL_names 36 = .ok (.iload_n 1, 1) := by decide +kernel
theorem dL_names_37 : decode cL_names 37 = .ok (.iload_n 2, 1) := by decide +kernel
theorem dL_names_38 : decode cL_names 38 = .ok (.iload_n 3, 1) := by decide +kernel
theorem dL_names_39 : decode cL_names 39 = .ok (.invokevirtual 20, 3) := by decide +kernel
theorem dL_names_42 : decode cL_names 42 = .ok (.iload 4, 2) := by decide +kernel
theorem dL_names_44 : decode cL_names 44 = .ok (.if_icmp .ne 31, 3) := by decide +kernel
theorem dL_names_47 : decode cL_names 47 = .ok (.iload 7, 2) := by decide +kernel
theorem dL_names_49 : decode cL_names 49 = .ok (.iconst 1, 1) := by decide +kernel
theorem dL_names_50 : decode cL_names 50 = .ok (.if_icmp .gt 25, 3) := by decide +kernel
theorem dL_names_53 : decode cL_names 53 = .ok (.iload 7, 2) := by decide +kernel
theorem dL_names_55 : decode cL_names 55 = .ok (.iconst (-1), 1) := by decide +kernel
theorem dL_names_56 : decode cL_names 56 = .ok (.if_icmp .lt 19, 3) := by decide +kernel
theorem dL_names_59 : decode cL_names 59 = .ok (.iload 4, 2) := by decide +kernel
theorem dL_names_61 : decode cL_names 61 = .ok (.iload 6, 2) := by decide +kernel
theorem dL_names_63 : decode cL_names 63 = .ok (.if_icmp .ne 8, 3) := by decide +kernel
theorem dL_names_66 : decode cL_names 66 = .ok (.iload 7, 2) := by decide +kernel
theorem dL_names_68 : decode cL_names 68 = .ok (.ifCond .ne 7, 3) := by decide +kernel
theorem dL_names_71 : decode cL_names 71 = .ok (.iconst 1, 1) := by decide +kernel
theorem dL_names_72 : decode cL_names 72 = .ok (.goto 4, 3) := by decide +kernel
theorem dL_names_75 : decode cL_names 75 = .ok (.iconst 0, 1) := by decide +kernel
theorem dL_names_76 : decode cL_names 76 = .ok (.istore 8, 2) := by decide +kernel
theorem dL_names_78 : decode cL_names 78 = .ok (.aload_n 0, 1) := by decide +kernel
theorem dL_names_79 : decode cL_names 79 = .ok (.iload_n 1, 1) := by decide +kernel
theorem dL_names_80 : decode cL_names 80 = .ok (.iload_n 2, 1) := by decide +kernel
theorem dL_names_81 : decode cL_names 81 = .ok (.iload_n 3, 1) := by decide +kernel
theorem dL_names_82 : decode cL_names 82 = .ok (.iload 6, 2) := by decide +kernel
theorem dL_names_84 : decode cL_names 84 = .ok (.invokevirtual 67, 3) := by decide +kernel
theorem dL_names_87 : decode cL_names 87 = .ok (.iload 8, 2) := by decide +kernel
theorem dL_names_89 : decode cL_names 89 = .ok (.ifCond .eq 17, 3) := by decide +kernel
theorem dL_names_92 : decode cL_names 92 = .ok (.aload_n 0, 1) := by decide +kernel
theorem dL_names_93 : decode cL_names 93 = .ok (.iload_n 1, 1) := by decide +kernel
theorem dL_names_94 : decode cL_names 94 = .ok (.invokevirtual 54, 3) := by decide +kernel
theorem dL_names_97 : decode cL_names 97 = .ok (.iload 5, 2) := by decide +kernel
theorem dL_names_99 : decode cL_names 99 = .ok (.if_icmp .ne 7, 3) := by decide +kernel
theorem dL_names_102 : decode cL_names 102 = .ok (.iconst 1, 1) := by decide +kernel
theorem dL_names_103 : decode cL_names 103 = .ok (.goto 4, 3) := by decide +kernel
theorem dL_names_106 : decode cL_names 106 = .ok (.iconst 0, 1) := by decide +kernel
theorem dL_names_107 : decode cL_names 107 = .ok (.istore 8, 2) := by decide +kernel
theorem dL_names_109 : decode cL_names 109 = .ok (.aload_n 0, 1) := by decide +kernel
theorem dL_names_110 : decode cL_names 110 = .ok (.iload_n 1, 1) := by decide +kernel
theorem dL_names_111 : decode cL_names 111 = .ok (.iload_n 2, 1) := by decide +kernel
theorem dL_names_112 : decode cL_names 112 = .ok (.iload_n 3, 1) := by decide +kernel
theorem dL_names_113 : decode cL_names 113 = .ok (.iload 4, 2) := by decide +kernel
theorem dL_names_115 : decode cL_names 115 = .ok (.invokevirtual 67, 3) := by decide +kernel
theorem dL_names_118 : decode cL_names 118 = .ok (.iload 8, 2) := by decide +kernel
theorem dL_names_120 : decode cL_names 120 = .ok (.ifCond .eq 20, 3) := by decide +kernel
theorem dL_names_123 : decode cL_names 123 = .ok (.aload_n 0, 1) := by decide +kernel
theorem dL_names_124 : decode cL_names 124 = .ok (.iload_n 1, 1) := by decide +kernel
theorem dL_names_125 : decode cL_names 125 = .ok (.invokevirtual 54, 3) := by decide +kernel
theorem dL_names_128 : decode cL_names 128 = .ok (.iload 5, 2) := by decide +kernel
theorem dL_names_130 : decode cL_names 130 = .ok (.iload 7, 2) := by decide +kernel
theorem dL_names_132 : decode cL_names 132 = .ok (.iadd, 1) := by decide +kernel
theorem dL_names_133 : decode cL_names 133 = .ok (.if_icmp .ne 7, 3) := by decide +kernel
theorem dL_names_136 : decode cL_names 136 = .ok (.iconst 1, 1) := by decide +kernel
theorem dL_names_137 : decode cL_names 137 = .ok (.goto 4, 3) := by decide +kernel
theorem dL_names_140 : decode cL_names 140 = .ok (.iconst 0, 1) := by decide +kernel
theorem dL_names_141 : decode cL_names 141 = .ok (.ireturn, 1) := by decide +kernel
set_option maxRecDepth 20000 in
theorem ggL_refers_X6_dirty : GoodIn wsL_refers wsX6_dirty := goodIn_ca (goodIn_r _ [5, 6, 7, 8, 4, 9, 10, 11, 12, 13, 14, 15, 16, 17, 18, 19, 20, 21, 22, 23, 24, 25, 26, 27, 28, 29, 30, 31, 32, 33, 34, 35, 36, 37, 38, 39, 40, 41, 42, 43, 44, 45, 46, 47, 48, 49, 50, 51, 52, 53, 54, 55, 56, 57, 58, 59, 60, 61, 62, 63, 64, 65, 66, 67, 68, 69, 70, 71, 72, 135, 136, 137, 138, 139, 140, 141, 142, 143, 144, 145, 146, 147, 148, 149, 150, 151, 152] (by decide +kernel) (by decide +kernel)) (goodIn_sub (fun _ h => List.mem_cons_of_mem _ (List.mem_append_left _ (List.mem_append_left _ (List.mem_append_right _ h)))) (by decide +kernel))
set_option maxRecDepth 20000 in
theorem gL_refers_X6_dirty : GoodIn wsL_refers (wsV RL 54 RX6 yX6_dirty wsX6_dirty) := goodIn_app (goodIn_of _ (by decide +kernel)) ggL_refers_X6_dirty
set_option maxRecDepth 20000 in
theorem ggL_refers_X6_reference : GoodIn wsL_refers wsX6_reference := goodIn_ca (goodIn_ca (goodIn_ca (goodIn_r _ [76, 77, 6, 7, 8, 4, 9, 10, 11, 12, 78, 79, 80, 81, 82, 83, 84, 85, 86, 87, 88, 35, 36, 16, 37, 38, 39, 22, 23, 24, 25, 26, 27, 28, 29, 30, 31, 32, 33, 40, 41, 42, 43, 44, 45, 46, 47, 48, 49, 50, 51, 52, 53, 54, 55, 56, 89, 58, 59, 60, 61, 62, 63, 145, 146, 147, 148, 149, 150, 151, 152, 135, 136, 137, 138, 139, 140, 141, 142, 143, 144] (by decide +kernel) (by decide +kernel)) (goodIn_sub (fun _ h => List.mem_cons_of_mem _ (List.mem_append_left _ (List.mem_append_left _ (List.mem_append_right _ h)))) (by decide +kernel))) (goodIn_sub (fun _ h => List.mem_cons_of_mem _ (List.mem_append_left _ (List.mem_append_right _ h))) (by decide +kernel))) (goodIn_sub (fun _ h => List.mem_cons_of_mem _ (List.mem_append_right _ h)) (by decide +kernel))
set_option maxRecDepth 20000 in
theorem gL_refers_X6_reference : GoodIn wsL_refers (wsV RL 24 RX6 yX6_reference wsX6_reference) := goodIn_app (goodIn_of _ (by decide +kernel)) ggL_refers_X6_reference
set_option maxRecDepth 20000 in
theorem ggL_refers_X6_find : GoodIn wsL_refers wsX6_find := goodIn_ca (goodIn_ca (goodIn_r _ [93, 94, 95, 6, 7, 8, 4, 9, 10, 11, 12, 78, 79, 80, 81, 82, 96, 97, 98, 99, 100, 101, 102, 103, 104, 105, 106, 107, 108, 109, 110, 29, 30, 31, 32, 33, 111, 41, 42, 43, 44, 45, 46, 47, 48, 49, 50, 51, 52, 53, 54, 55, 56, 88, 35, 36, 16, 37, 38, 39, 22, 23, 24, 25, 26, 27, 28, 40, 112, 113, 114, 60, 115, 116, 117, 118, 119, 120, 121, 62, 69, 71, 122, 123, 124, 125, 68, 70, 72, 126, 127, 89, 58, 59, 61, 63, 153, 154, 155, 156, 145, 146, 147, 148, 149, 150, 151, 152, 135, 136, 137, 138, 157, 158, 142, 143, 144, 139, 140, 141] (by decide +kernel) (by decide +kernel)) (goodIn_sub (fun _ h => List.mem_cons_of_mem _ (List.mem_append_left _ (List.mem_append_left _ (List.mem_append_right _ h)))) (by decide +kernel))) (goodIn_sub (fun _ h => List.mem_cons_of_mem _ (List.mem_append_left _ (List.mem_append_right _ h))) (by decide +kernel))
set_option maxRecDepth 20000 in
theorem gL_refers_X6_find : GoodIn wsL_refers (wsV RL 29 RX6 yX6_find wsX6_find) := goodIn_app (goodIn_of _ (by decide +kernel)) ggL_refers_X6_find
set_option maxRecDepth 20000 in
theorem ggL_refers_X6_setReference : GoodIn wsL_refers wsX6_setReference := goodIn_ca (goodIn_ca (goodIn_ca (goodIn_r _ [131, 81, 82, 77, 6, 7, 8, 4, 9, 10, 11, 12, 78, 79, 80, 83, 84, 85, 86, 87, 88, 35, 36, 16, 37, 38, 39, 22, 23, 24, 25, 26, 27, 28, 29, 30, 31, 32, 33, 40, 41, 42, 43, 44, 45, 46, 47, 48, 49, 50, 51, 52, 53, 54, 55, 56, 89, 58, 59, 60, 61, 62, 63, 132, 133, 134, 145, 146, 147, 148, 149, 150, 151, 152, 135, 136, 137, 138, 139, 140, 141, 142, 143, 144] (by decide +kernel) (by decide +kernel)) (goodIn_sub (fun _ h => List.mem_cons_of_mem _ (List.mem_append_left _ (List.mem_append_right _ h))) (by decide +kernel))) (goodIn_sub (fun _ h => List.mem_cons_of_mem _ (List.mem_append_left _ (List.mem_append_left _ (List.mem_append_right _ h)))) (by decide +kernel))) (goodIn_sub (fun _ h => List.mem_cons_of_mem _ (List.mem_append_right _ h)) (by decide +kernel))
set_option maxRecDepth 20000 in
theorem gL_refers_X6_setReference : GoodIn wsL_refers (wsV RL 71 RX6 yX6_setReference wsX6_setReference) := goodIn_app (goodIn_of _ (by decide +kernel)) ggL_refers_X6_setReference
theorem dL_refers_0 : decode cL_refers 0 = .ok (.aload_n 0, 1) := by decide +kernel
theorem dL_refers_1 : decode cL_refers 1 = .ok (.iload_n 1, 1) := by decide +kernel
theorem dL_refers_2 : decode cL_refers 2 = .ok (.invokevirtual 54, 3) := by decide +kernel
theorem dL_refers_5 : decode cL_refers 5 = .ok (.istore 5, 2) := by decide +kernel
theorem dL_refers_7 : decode cL_refers 7 = .ok (.aload_n 0, 1) := by decide +kernel
theorem dL_refers_8 : decode cL_refers 8 = .ok (.iload_n 1, 1) := by decide +kernel
theorem dL_refers_9 : decode cL_refers 9 = .ok (.iload_n 2, 1) := by decide +kernel
theorem dL_refers_10 : decode cL_refers 10 = .ok (.iload_n 3, 1) := by decide +kernel
theorem dL_refers_11 : decode cL_refers 11 = .ok (.invokevirtual 24, 3) := by decide +kernel
theorem dL_refers_14 : decode cL_refers 14 = .ok (.istore 6, 2) := by decide +kernel
theorem dL_refers_16 : decode cL_refers 16 = .ok (.iload 4, 2) := by decide +kernel
theorem dL_refers_18 : decode cL_refers 18 = .ok (.iconst (-1), 1) := by decide +kernel
theorem dL_refers_19 : decode cL_refers 19 = .ok (.if_icmp .eq 29, 3) := by decide +kernel
theorem dL_refers_22 : decode cL_refers 22 = .ok (.aload_n 0, 1) := by decide +kernel
theorem dL_refers_23 : decode cL_refers 23 = .ok (.iload_n 1, 1) := by decide +kernel
theorem dL_refers_24 : decode cL_refers 24 = .ok (.iconst 1, 1) := by decide +kernel
theorem dL_refers_25 : decode cL_refers 25 = .ok (.iload_n 2, 1) := by decide +kernel
theorem dL_refers_26 : decode cL_refers 26 = .ok (.isub, 1) := by decide +kernel
theorem dL_refers_27 : decode cL_refers 27 = .ok (.iload 4, 2) := by decide +kernel
theorem dL_refers_29 : decode cL_refers 29 = .ok (.invokevirtual 29, 3) := by decide +kernel
theorem dL_refers_32 : decode cL_refers 32 = .ok (.ifCond .ne 16, 3) := by decide +kernel
theorem dL_refers_35 : decode cL_refers 35 = .ok (.iload 6, 2) := by decide +kernel
theorem dL_refers_37 : decode cL_refers 37 = .ok (.iload 4, 2) := by decide +kernel
theorem dL_refers_39 : decode cL_refers 39 = .ok (.if_icmp .ne 7, 3) := by decide +kernel
theorem dL_refers_42 : decode cL_refers 42 = .ok (.iconst 1, 1) := by decide +kernel
theorem dL_refers_43 : decode cL_refers 43 = .ok (.goto 4, 3) := by decide +kernel
theorem dL_refers_46 : decode cL_refers 46 = .ok (.iconst 0, 1) := by decide +kernel
theorem dL_refers_47 : decode cL_refers 47 = .ok (.ireturn, 1) := by decide +kernel
theorem dL_refers_48 : decode cL_refers 48 = .ok (.aload_n 0, 1) := by decide +kernel
theorem dL_refers_49 : decode cL_refers 49 = .ok (.iload_n 1, 1) := by decide +kernel
theorem dL_refers_50 : decode cL_refers 50 = .ok (.iload_n 2, 1) := by decide +kernel
theorem dL_refers_51 : decode cL_refers 51 = .ok (.iload_n 3, 1) := by decide +kernel
theorem dL_refers_52 : decode cL_refers 52 = .ok (.iload 4, 2) := by decide +kernel
theorem dL_refers_54 : decode cL_refers 54 = .ok (.invokevirtual 71, 3) := by decide +kernel
theorem dL_refers_57 : decode cL_refers 57 = .ok (.aload_n 0, 1) := by decide +kernel
theorem dL_refers_58 : decode cL_refers 58 = .ok (.iload_n 1, 1) := by decide +kernel
theorem dL_refers_59 : decode cL_refers 59 = .ok (.invokevirtual 54, 3) := by decide +kernel
theorem dL_refers_62 : decode cL_refers 62 = .ok (.iload 5, 2) := by decide +kernel
theorem dL_refers_64 : decode cL_refers 64 = .ok (.isub, 1) := by decide +kernel
theorem dL_refers_65 : decode cL_refers 65 = .ok (.istore 7, 2) := by decide +kernel
theorem dL_refers_67 : decode cL_refers 67 = .ok (.aload_n 0, 1) := by decide +kernel
theorem dL_refers_68 : decode cL_refers 68 = .ok (.iload_n 1, 1) := by decide +kernel
theorem dL_refers_69 : decode cL_refers 69 = .ok (.iload_n 2, 1) := by decide +kernel
theorem dL_refers_70 : decode cL_refers 70 = .ok (.iload_n 3, 1) := by decide +kernel
theorem dL_refers_71 : decode cL_refers 71 = .ok (.invokevirtual 24, 3) := by decide +kernel
theorem dL_refers_74 : decode cL_refers 74 = .ok (.iload 4, 2) := by decide +kernel
theorem dL_refers_76 : decode cL_refers 76 = .ok (.if_icmp .ne 31, 3) := by decide +kernel
theorem dL_refers_79 : decode cL_refers 79 = .ok (.iload 7, 2) := by decide +kernel
theorem dL_refers_81 : decode cL_refers 81 = .ok (.iconst 1, 1) := by decide +kernel
theorem dL_refers_82 : decode cL_refers 82 = .ok (.if_icmp .gt 25, 3) := by decide +kernel
theorem dL_refers_85 : decode cL_refers 85 = .ok (.iload 7, 2) := by decide +kernel
theorem dL_refers_87 : decode cL_refers 87 = .ok (.iconst (-1), 1) := by decide +kernel
theorem dL_refers_88 : decode cL_refers 88 = .ok (.if_icmp .lt 19, 3) := by decide +kernel
theorem dL_refers_91 : decode cL_refers 91 = .ok (.iload 6, 2) := by decide +kernel
theorem dL_refers_93 : decode cL_refers 93 = .ok (.iload 4, 2) := by decide +kernel
theorem dL_refers_95 : decode cL_refers 95 = .ok (.if_icmp .ne 8, 3) := by decide +kernel
theorem dL_refers_98 : decode cL_refers 98 = .ok (.iload 7, 2) := by decide +kernel
theorem dL_refers_100 : decode cL_refers 100 = .ok (.ifCond .ne 7, 3) := by decide +kernel
theorem dL_refers_103 : decode cL_refers 103 = .ok (.iconst 1, 1) := by decide +kernel
theorem dL_refers_104 : decode cL_refers 104 = .ok (.goto 4, 3) := by decide +kernel
theorem dL_refers_107 : decode cL_refers 107 = .ok (.iconst 0, 1) := by decide +kernel
theorem dL_refers_108 : decode cL_refers 108 = .ok (.ireturn, 1) := by decide +kernel
set_option maxRecDepth 20000 in
theorem ggL_removes_X6_books : GoodIn wsL_removes wsX6_books := goodIn_ca (goodIn_ca (goodIn_r _ [5, 6, 7, 8, 4, 9, 10, 11, 12, 13, 14, 15, 16, 17, 18, 19, 20, 21, 22, 23, 24, 25, 26, 27, 28, 29, 30, 31, 32, 33, 34, 35, 36, 37, 38, 39, 40, 41, 42, 43, 44, 45, 46, 47, 48, 49, 50, 51, 52, 53, 54, 55, 56, 57, 58, 59, 60, 61, 62, 63, 64, 65, 66, 67, 68, 69, 70, 71, 72, 73, 74, 75, 76, 77, 78, 79, 80, 81, 82, 83, 84, 85, 86, 87, 88, 89, 90, 91, 92, 93, 94, 95, 96, 97, 98, 99, 100, 101, 102, 103, 104, 105, 106, 107, 108, 109, 110, 111, 112, 113, 114, 115, 116, 117, 159, 160, 161, 162, 163, 164, 165, 166, 167, 168, 169, 170, 171, 172, 173, 174, 175, 176, 177, 178, 179, 180, 181, 182] (by decide +kernel) (by decide +kernel)) (goodIn_sub (fun _ h => List.mem_cons_of_mem _ (List.mem_append_left _ (List.mem_append_left _ (List.mem_append_right _ h)))) (by decide +kernel))) (goodIn_sub (fun _ h => List.mem_cons_of_mem _ (List.mem_append_left _ (List.mem_append_right _ h))) (by decide +kernel))
set_option maxRecDepth 20000 in
theorem gL_removes_X6_books : GoodIn wsL_removes (wsV RL 36 RX6 yX6_books wsX6_books) := goodIn_app (goodIn_of _ (by decide +kernel)) ggL_removes_X6_books
set_option maxRecDepth 20000 in
theorem ggL_removes_X6_known : GoodIn wsL_removes wsX6_known := goodIn_ca (goodIn_r _ [121, 6, 7, 8, 4, 9, 10, 11, 12, 122, 123, 124, 21, 125, 126, 110, 111, 112, 25, 26, 27, 28, 29, 30, 31, 32, 33, 34, 35, 36, 127, 19, 20, 22, 23, 24, 37, 38, 39, 40, 41, 42, 43, 44, 45, 46, 47, 48, 49, 50, 51, 52, 53, 128, 55, 56, 57, 58, 59, 60, 159, 160, 161, 162, 163, 164, 165, 166, 167, 168, 169, 170, 171, 172, 173, 174, 175, 176] (by decide +kernel) (by decide +kernel)) (goodIn_sub (fun _ h => List.mem_cons_of_mem _ (List.mem_append_left _ (List.mem_append_left _ (List.mem_append_right _ h)))) (by decide +kernel))
set_option maxRecDepth 20000 in
theorem gL_removes_X6_known : GoodIn wsL_removes (wsV RL 10 RX6 yX6_known wsX6_known) := goodIn_app (goodIn_of _ (by decide +kernel)) ggL_removes_X6_known
set_option maxRecDepth 20000 in
theorem ggL_removes_X6_remove : GoodIn wsL_removes wsX6_remove := goodIn_ca (goodIn_ca (goodIn_ca (goodIn_r _ [132, 6, 7, 8, 4, 9, 10, 11, 12, 133, 134, 135, 136, 137, 13, 14, 15, 16, 17, 18, 19, 20, 21, 22, 23, 24, 25, 26, 27, 28, 29, 30, 31, 32, 33, 34, 35, 36, 37, 38, 39, 40, 41, 42, 43, 44, 45, 46, 47, 48, 49, 50, 51, 52, 53, 54, 55, 56, 57, 58, 59, 60, 138, 139, 140, 141, 142, 143, 144, 145, 104, 146, 147, 148, 149, 61, 62, 63, 64, 65, 66, 67, 68, 69, 70, 71, 72, 73, 74, 75, 76, 77, 78, 79, 80, 81, 82, 83, 84, 85, 86, 87, 88, 89, 90, 91, 92, 93, 94, 95, 96, 97, 98, 99, 100, 101, 102, 103, 105, 106, 107, 108, 109, 110, 111, 112, 113, 114, 115, 116, 117, 150, 151, 152, 153, 154, 159, 160, 161, 162, 163, 164, 165, 166, 167, 168, 169, 170, 171, 172, 173, 174, 175, 176, 177, 178, 179, 180, 181, 182] (by decide +kernel) (by decide +kernel)) (goodIn_sub (fun _ h => List.mem_cons_of_mem _ (List.mem_append_left _ (List.mem_append_left _ (List.mem_append_right _ h)))) (by decide +kernel))) (goodIn_sub (fun _ h => List.mem_cons_of_mem _ (List.mem_append_right _ h)) (by decide +kernel))) (goodIn_sub (fun _ h => List.mem_cons_of_mem _ (List.mem_append_left _ (List.mem_append_right _ h))) (by decide +kernel))
set_option maxRecDepth 20000 in
theorem gL_removes_X6_remove : GoodIn wsL_removes (wsV RL 74 RX6 yX6_remove wsX6_remove) := goodIn_app (goodIn_of _ (by decide +kernel)) ggL_removes_X6_remove
set_option maxRecDepth 20000 in
theorem ggL_removes_X6_find : GoodIn wsL_removes wsX6_find := goodIn_ca (goodIn_ca (goodIn_r _ [158, 65, 67, 6, 7, 8, 4, 9, 10, 11, 12, 133, 134, 135, 136, 137, 68, 69, 70, 71, 72, 73, 81, 82, 83, 77, 84, 79, 85, 86, 80, 32, 33, 34, 35, 36, 87, 38, 39, 40, 41, 42, 43, 44, 45, 46, 47, 48, 49, 50, 51, 52, 53, 18, 19, 20, 21, 22, 23, 24, 25, 26, 27, 28, 29, 30, 31, 37, 88, 89, 90, 57, 91, 92, 93, 94, 95, 96, 97, 59, 98, 99, 100, 101, 102, 103, 104, 105, 106, 107, 108, 54, 55, 56, 58, 60, 177, 178, 179, 180, 169, 170, 171, 172, 173, 174, 175, 176, 159, 160, 161, 162, 181, 182, 166, 167, 168, 163, 164, 165] (by decide +kernel) (by decide +kernel)) (goodIn_sub (fun _ h => List.mem_cons_of_mem _ (List.mem_append_left _ (List.mem_append_left _ (List.mem_append_right _ h)))) (by decide +kernel))) (goodIn_sub (fun _ h => List.mem_cons_of_mem _ (List.mem_append_right _ h)) (by decide +kernel))
set_option maxRecDepth 20000 in
theorem gL_removes_X6_find : GoodIn wsL_removes (wsV RL 29 RX6 yX6_find wsX6_find) := goodIn_app (goodIn_of _ (by decide +kernel)) ggL_removes_X6_find
theorem dL_removes_0 : decode cL_removes 0 = .ok (.iload_n 2, 1) := by decide +kernel
theorem dL_removes_1 : decode cL_removes 1 = .ok (.ifCond .ne 12, 3) := by decide +kernel
theorem dL_removes_4 : decode cL_removes 4 = .ok (.aload_n 0, 1) := by decide +kernel
theorem dL_removes_5 : decode cL_removes 5 = .ok (.iload_n 1, 1) := by decide +kernel
theorem dL_removes_6 : decode cL_removes 6 = .ok (.iload_n 3, 1) := by decide +kernel
theorem dL_removes_7 : decode cL_removes 7 = .ok (.invokevirtual 36, 3) := by decide +kernel
theorem dL_removes_10 : decode cL_removes 10 = .ok (.goto 4, 3) := by decide +kernel
theorem dL_removes_13 : decode cL_removes 13 = .ok (.iconst 0, 1) := by decide +kernel
theorem dL_removes_14 : decode cL_removes 14 = .ok (.istore 4, 2) := by decide +kernel
theorem dL_removes_16 : decode cL_removes 16 = .ok (.aload_n 0, 1) := by decide +kernel
theorem dL_removes_17 : decode cL_removes 17 = .ok (.iload_n 1, 1) := by decide +kernel
theorem dL_removes_18 : decode cL_removes 18 = .ok (.invokevirtual 10, 3) := by decide +kernel
theorem dL_removes_21 : decode cL_removes 21 = .ok (.istore 5, 2) := by decide +kernel
theorem dL_removes_23 : decode cL_removes 23 = .ok (.aload_n 0, 1) := by decide +kernel
theorem dL_removes_24 : decode cL_removes 24 = .ok (.iload_n 1, 1) := by decide +kernel
theorem dL_removes_25 : decode cL_removes 25 = .ok (.iload_n 2, 1) := by decide +kernel
theorem dL_removes_26 : decode cL_removes 26 = .ok (.iload_n 3, 1) := by decide +kernel
theorem dL_removes_27 : decode cL_removes 27 = .ok (.invokevirtual 74, 3) := by decide +kernel
theorem dL_removes_30 : decode cL_removes 30 = .ok (.istore 6, 2) := by decide +kernel
theorem dL_removes_32 : decode cL_removes 32 = .ok (.iload 6, 2) := by decide +kernel
theorem dL_removes_34 : decode cL_removes 34 = .ok (.iconst 1, 1) := by decide +kernel
theorem dL_removes_35 : decode cL_removes 35 = .ok (.iload 4, 2) := by decide +kernel
theorem dL_removes_37 : decode cL_removes 37 = .ok (.iadd, 1) := by decide +kernel
theorem dL_removes_38 : decode cL_removes 38 = .ok (.if_icmp .ne 17, 3) := by decide +kernel
theorem dL_removes_41 : decode cL_removes 41 = .ok (.aload_n 0, 1) := by decide +kernel
theorem dL_removes_42 : decode cL_removes 42 = .ok (.iload_n 1, 1) := by decide +kernel
theorem dL_removes_43 : decode cL_removes 43 = .ok (.iload_n 2, 1) := by decide +kernel
theorem dL_removes_44 : decode cL_removes 44 = .ok (.iload_n 3, 1) := by decide +kernel
theorem dL_removes_45 : decode cL_removes 45 = .ok (.invokevirtual 29, 3) := by decide +kernel
theorem dL_removes_48 : decode cL_removes 48 = .ok (.ifCond .ne 7, 3) := by decide +kernel
theorem dL_removes_51 : decode cL_removes 51 = .ok (.iconst 1, 1) := by decide +kernel
theorem dL_removes_52 : decode cL_removes 52 = .ok (.goto 4, 3) := by decide +kernel
theorem dL_removes_55 : decode cL_removes 55 = .ok (.iconst 0, 1) := by decide +kernel
theorem dL_removes_56 : decode cL_removes 56 = .ok (.istore 7, 2) := by decide +kernel
theorem dL_removes_58 : decode cL_removes 58 = .ok (.iload 7, 2) := by decide +kernel
theorem dL_removes_60 : decode cL_removes 60 = .ok (.ifCond .eq 20, 3) := by decide +kernel
theorem dL_removes_63 : decode cL_removes 63 = .ok (.aload_n 0, 1) := by decide +kernel
theorem dL_removes_64 : decode cL_removes 64 = .ok (.iload_n 1, 1) := by decide +kernel
theorem dL_removes_65 : decode cL_removes 65 = .ok (.invokevirtual 10, 3) := by decide +kernel
theorem dL_removes_68 : decode cL_removes 68 = .ok (.iload 5, 2) := by decide +kernel
theorem dL_removes_70 : decode cL_removes 70 = .ok (.iload 6, 2) := by decide +kernel
theorem dL_removes_72 : decode cL_removes 72 = .ok (.isub, 1) := by decide +kernel
theorem dL_removes_73 : decode cL_removes 73 = .ok (.if_icmp .lt 7, 3) := by decide +kernel
theorem dL_removes_76 : decode cL_removes 76 = .ok (.iconst 1, 1) := by decide +kernel
theorem dL_removes_77 : decode cL_removes 77 = .ok (.goto 4, 3) := by decide +kernel
theorem dL_removes_80 : decode cL_removes 80 = .ok (.iconst 0, 1) := by decide +kernel
theorem dL_removes_81 : decode cL_removes 81 = .ok (.ireturn, 1) := by decide +kernel
set_option maxRecDepth 20000 in
theorem ggL_areWhole_L_ofRow : GoodIn wsL_areWhole wsL_ofRow := goodIn_ca (goodIn_ca (goodIn_r _ [4, 5, 6, 7, 8, 9, 10, 11, 12, 13, 14, 15, 16, 17, 18, 19, 20, 21, 22, 23, 24, 25, 26, 27, 28, 29, 30, 31, 32, 33, 34, 35, 36, 37, 38, 39, 40, 41, 42, 43, 44, 45, 46, 47, 48, 49, 50, 51, 52, 53, 54, 55, 56, 57, 58, 59, 60, 61, 62, 63, 64, 65, 66, 67, 68, 69, 70, 71, 72, 73, 74, 75, 76, 77, 78, 79, 80, 81, 82, 83, 84, 85, 86, 87, 88, 99, 100, 101, 102, 103, 104, 105, 106, 107, 108, 109, 110, 111, 112, 113, 114] (by decide +kernel) (by decide +kernel)) (goodIn_sub (fun _ h => List.mem_cons_of_mem _ (List.mem_append_left _ (List.mem_append_right _ h))) (by decide +kernel))) (goodIn_sub (fun _ h => List.mem_cons_of_mem _ (List.mem_append_right _ h)) (by decide +kernel))
set_option maxRecDepth 20000 in
theorem gL_areWhole_L_ofRow : GoodIn wsL_areWhole (va_wsS RL 77 yL_ofRow wsL_ofRow) := goodIn_app (goodIn_of _ (by decide +kernel)) ggL_areWhole_L_ofRow
set_option maxRecDepth 20000 in
theorem ggL_areWhole_X6_rows : GoodIn wsL_areWhole wsX6_rows := goodIn_ca (goodIn_r _ [92, 47, 48, 8, 49, 50, 51, 52, 53, 54, 55, 56, 57, 93, 94, 95, 61, 96, 63, 97, 66, 67, 68, 69, 70, 71, 98, 59, 60, 62, 64, 65, 72, 73, 74, 75, 76, 77, 78, 79, 80, 81, 82, 83, 84, 85, 86, 87, 88, 99, 100, 101, 102, 110, 111, 106, 107, 108, 109, 112, 113, 114] (by decide +kernel) (by decide +kernel)) (goodIn_sub (fun _ h => List.mem_cons_of_mem _ (List.mem_append_right _ h)) (by decide +kernel))
set_option maxRecDepth 20000 in
theorem gL_areWhole_X6_rows : GoodIn wsL_areWhole (wsV RL 81 RX6 yX6_rows wsX6_rows) := goodIn_app (goodIn_of _ (by decide +kernel)) ggL_areWhole_X6_rows
theorem dL_areWhole_0 : decode cL_areWhole 0 = .ok (.iconst 0, 1) := by decide +kernel
theorem dL_areWhole_1 : decode cL_areWhole 1 = .ok (.istore_n 2, 1) := by decide +kernel
theorem dL_areWhole_2 : decode cL_areWhole 2 = .ok (.iconst 1, 1) := by decide +kernel
theorem dL_areWhole_3 : decode cL_areWhole 3 = .ok (.istore_n 3, 1) := by decide +kernel
theorem dL_areWhole_4 : decode cL_areWhole 4 = .ok (.iconst 0, 1) := by decide +kernel
theorem dL_areWhole_5 : decode cL_areWhole 5 = .ok (.istore 4, 2) := by decide +kernel
theorem dL_areWhole_7 : decode cL_areWhole 7 = .ok (.iload 4, 2) := by decide +kernel
theorem dL_areWhole_9 : decode cL_areWhole 9 = .ok (.iconst 2, 1) := by decide +kernel
theorem dL_areWhole_10 : decode cL_areWhole 10 = .ok (.if_icmp .ge 109, 3) := by decide +kernel
theorem dL_areWhole_13 : decode cL_areWhole 13 = .ok (.iconst 0, 1) := by decide +kernel
theorem dL_areWhole_14 : decode cL_areWhole 14 = .ok (.istore 5, 2) := by decide +kernel
theorem dL_areWhole_16 : decode cL_areWhole 16 = .ok (.iconst 0, 1) := by decide +kernel
theorem dL_areWhole_17 : decode cL_areWhole 17 = .ok (.istore 6, 2) := by decide +kernel
theorem dL_areWhole_19 : decode cL_areWhole 19 = .ok (.iload 6, 2) := by decide +kernel
theorem dL_areWhole_21 : decode cL_areWhole 21 = .ok (.aload_n 1, 1) := by decide +kernel
theorem dL_areWhole_22 : decode cL_areWhole 22 = .ok (.iload 4, 2) := by decide +kernel
theorem dL_areWhole_24 : decode cL_areWhole 24 = .ok (.iaload, 1) := by decide +kernel
theorem dL_areWhole_25 : decode cL_areWhole 25 = .ok (.if_icmp .ge 68, 3) := by decide +kernel
theorem dL_areWhole_28 : decode cL_areWhole 28 = .ok (.iload_n 3, 1) := by decide +kernel
theorem dL_areWhole_29 : decode cL_areWhole 29 = .ok (.ifCond .eq 64, 3) := by decide +kernel
theorem dL_areWhole_32 : decode cL_areWhole 32 = .ok (.aload_n 0, 1) := by decide +kernel
theorem dL_areWhole_33 : decode cL_areWhole 33 = .ok (.aload_n 1, 1) := by decide +kernel
theorem dL_areWhole_34 : decode cL_areWhole 34 = .ok (.iload 4, 2) := by decide +kernel
theorem dL_areWhole_36 : decode cL_areWhole 36 = .ok (.iload 6, 2) := by decide +kernel
theorem dL_areWhole_38 : decode cL_areWhole 38 = .ok (.invokestatic 77, 3) := by decide +kernel
theorem dL_areWhole_41 : decode cL_areWhole 41 = .ok (.istore 7, 2) := by decide +kernel
theorem dL_areWhole_43 : decode cL_areWhole 43 = .ok (.iload 5, 2) := by decide +kernel
theorem dL_areWhole_45 : decode cL_areWhole 45 = .ok (.iload 7, 2) := by decide +kernel
theorem dL_areWhole_47 : decode cL_areWhole 47 = .ok (.bipush (-3), 2) := by decide +kernel
theorem dL_areWhole_49 : decode cL_areWhole 49 = .ok (.if_icmp .ne 7, 3) := by decide +kernel
theorem dL_areWhole_52 : decode cL_areWhole 52 = .ok (.iconst 0, 1) := by decide +kernel
theorem dL_areWhole_53 : decode cL_areWhole 53 = .ok (.goto 4, 3) := by decide +kernel
theorem dL_areWhole_56 : decode cL_areWhole 56 = .ok (.iconst 1, 1) := by decide +kernel
theorem dL_areWhole_57 : decode cL_areWhole 57 = .ok (.iadd, 1) := by decide +kernel
theorem dL_areWhole_58 : decode cL_areWhole 58 = .ok (.istore 5, 2) := by decide +kernel
theorem dL_areWhole_60 : decode cL_areWhole 60 = .ok (.iload 7, 2) := by decide +kernel
theorem dL_areWhole_62 : decode cL_areWhole 62 = .ok (.ifCond .lt 19, 3) := by decide +kernel
theorem dL_areWhole_65 : decode cL_areWhole 65 = .ok (.aload_n 0, 1) := by decide +kernel
theorem dL_areWhole_66 : decode cL_areWhole 66 = .ok (.aload_n 1, 1) := by decide +kernel
theorem dL_areWhole_67 : decode cL_areWhole 67 = .ok (.iconst 1, 1) := by decide +kernel
theorem dL_areWhole_68 : decode cL_areWhole 68 = .ok (.iload 4, 2) := by decide +kernel
theorem dL_areWhole_70 : decode cL_areWhole 70 = .ok (.isub, 1) := by decide +kernel
theorem dL_areWhole_71 : decode cL_areWhole 71 = .ok (.iload 7, 2) := by decide +kernel
theorem dL_areWhole_73 : decode cL_areWhole 73 = .ok (.invokestatic 77, 3) := by decide +kernel
theorem dL_areWhole_76 : decode cL_areWhole 76 = .ok (.bipush (-3), 2) := by decide +kernel
theorem dL_areWhole_78 : decode cL_areWhole 78 = .ok (.if_icmp .eq 7, 3) := by decide +kernel
theorem dL_areWhole_81 : decode cL_areWhole 81 = .ok (.iconst 1, 1) := by decide +kernel
theorem dL_areWhole_82 : decode cL_areWhole 82 = .ok (.goto 4, 3) := by decide +kernel
theorem dL_areWhole_85 : decode cL_areWhole 85 = .ok (.iconst 0, 1) := by decide +kernel
theorem dL_areWhole_86 : decode cL_areWhole 86 = .ok (.istore_n 3, 1) := by decide +kernel
theorem dL_areWhole_87 : decode cL_areWhole 87 = .ok (.iinc 6 1, 3) := by decide +kernel
theorem dL_areWhole_90 : decode cL_areWhole 90 = .ok (.goto (-71), 3) := by decide +kernel
theorem dL_areWhole_93 : decode cL_areWhole 93 = .ok (.iload_n 2, 1) := by decide +kernel
theorem dL_areWhole_94 : decode cL_areWhole 94 = .ok (.iload_n 3, 1) := by decide +kernel
theorem dL_areWhole_95 : decode cL_areWhole 95 = .ok (.ifCond .eq 15, 3) := by decide +kernel
theorem dL_areWhole_98 : decode cL_areWhole 98 = .ok (.iload 5, 2) := by decide +kernel
theorem dL_areWhole_100 : decode cL_areWhole 100 = .ok (.aload_n 0, 1) := by decide +kernel
theorem dL_areWhole_101 : decode cL_areWhole 101 = .ok (.iload 4, 2) := by decide +kernel
theorem dL_areWhole_103 : decode cL_areWhole 103 = .ok (.invokevirtual 81, 3) := by decide +kernel
theorem dL_areWhole_106 : decode cL_areWhole 106 = .ok (.isub, 1) := by decide +kernel
theorem dL_areWhole_107 : decode cL_areWhole 107 = .ok (.goto 4, 3) := by decide +kernel
theorem dL_areWhole_110 : decode cL_areWhole 110 = .ok (.iconst 1, 1) := by decide +kernel
theorem dL_areWhole_111 : decode cL_areWhole 111 = .ok (.iadd, 1) := by decide +kernel
theorem dL_areWhole_112 : decode cL_areWhole 112 = .ok (.istore_n 2, 1) := by decide +kernel
theorem dL_areWhole_113 : decode cL_areWhole 113 = .ok (.iinc 4 1, 3) := by decide +kernel
theorem dL_areWhole_116 : decode cL_areWhole 116 = .ok (.goto (-109), 3) := by decide +kernel
theorem dL_areWhole_119 : decode cL_areWhole 119 = .ok (.iload_n 3, 1) := by decide +kernel
theorem dL_areWhole_120 : decode cL_areWhole 120 = .ok (.ifCond .eq 11, 3) := by decide +kernel
theorem dL_areWhole_123 : decode cL_areWhole 123 = .ok (.iload_n 2, 1) := by decide +kernel
theorem dL_areWhole_124 : decode cL_areWhole 124 = .ok (.ifCond .ne 7, 3) := by decide +kernel
theorem dL_areWhole_127 : decode cL_areWhole 127 = .ok (.iconst 1, 1) := by decide +kernel
theorem dL_areWhole_128 : decode cL_areWhole 128 = .ok (.goto 4, 3) := by decide +kernel
theorem dL_areWhole_131 : decode cL_areWhole 131 = .ok (.iconst 0, 1) := by decide +kernel
theorem dL_areWhole_132 : decode cL_areWhole 132 = .ok (.ireturn, 1) := by decide +kernel
set_option maxRecDepth 20000 in
theorem ggL_ofRow_X6_writes : GoodIn wsL_ofRow wsX6_writes := goodIn_r _ [5, 6, 7, 85, 86, 87, 88, 89, 90, 91] (by decide +kernel) (by decide +kernel)
set_option maxRecDepth 20000 in
theorem gL_ofRow_X6_writes : GoodIn wsL_ofRow (wsV RL 84 RX6 yX6_writes wsX6_writes) := goodIn_app (goodIn_of _ (by decide +kernel)) ggL_ofRow_X6_writes
set_option maxRecDepth 20000 in
theorem ggL_ofRow_X6_written : GoodIn wsL_ofRow wsX6_written := goodIn_ca (goodIn_r _ [11, 6, 12, 13, 14, 4, 15, 16, 17, 7, 18, 19, 20, 21, 22, 23, 85, 86, 87, 88, 89, 90, 91] (by decide +kernel) (by decide +kernel)) (goodIn_sub (fun _ h => List.mem_cons_of_mem _ (List.mem_append_left _ (List.mem_append_right _ h))) (by decide +kernel))
set_option maxRecDepth 20000 in
theorem gL_ofRow_X6_written : GoodIn wsL_ofRow (wsV RL 88 RX6 yX6_written wsX6_written) := goodIn_app (goodIn_of _ (by decide +kernel)) ggL_ofRow_X6_written
set_option maxRecDepth 20000 in
theorem ggL_ofRow_X6_write : GoodIn wsL_ofRow wsX6_write := goodIn_ca (goodIn_r _ [27, 6, 12, 13, 14, 4, 15, 16, 17, 7, 28, 29, 30, 21, 31, 32, 85, 86, 87, 88, 89, 90, 91] (by decide +kernel) (by decide +kernel)) (goodIn_sub (fun _ h => List.mem_cons_of_mem _ (List.mem_append_left _ (List.mem_append_right _ h))) (by decide +kernel))
set_option maxRecDepth 20000 in
theorem gL_ofRow_X6_write : GoodIn wsL_ofRow (wsV RL 91 RX6 yX6_write wsX6_write) := goodIn_app (goodIn_of _ (by decide +kernel)) ggL_ofRow_X6_write
set_option maxRecDepth 20000 in
theorem ggL_ofRow_X6_rowReference : GoodIn wsL_ofRow wsX6_rowReference := goodIn_ca (goodIn_ca (goodIn_r _ [36, 37, 38, 39, 40, 4, 41, 16, 17, 42, 43, 44, 45, 46, 47, 48, 49, 50, 51, 52, 53, 54, 55, 56, 57, 58, 59, 60, 61, 62, 63, 64, 65, 66, 67, 68, 69, 70, 71, 72, 73, 74, 75, 76, 77, 78, 79, 80, 81, 82, 83, 84, 92, 93, 94, 95, 85, 86, 87, 88, 96, 97, 98, 99, 100] (by decide +kernel) (by decide +kernel)) (goodIn_sub (fun _ h => List.mem_cons_of_mem _ (List.mem_append_left _ (List.mem_append_right _ h))) (by decide +kernel))) (goodIn_sub (fun _ h => List.mem_cons_of_mem _ (List.mem_append_right _ h)) (by decide +kernel))
set_option maxRecDepth 20000 in
theorem gL_ofRow_X6_rowReference : GoodIn wsL_ofRow (wsV RL 94 RX6 yX6_rowReference wsX6_rowReference) := goodIn_app (goodIn_of _ (by decide +kernel)) ggL_ofRow_X6_rowReference
theorem dL_ofRow_0 : decode cL_ofRow 0 = .ok (.iconst (-1), 1) := by decide +kernel
theorem dL_ofRow_1 : decode cL_ofRow 1 = .ok (.istore 4, 2) := by decide +kernel
theorem dL_ofRow_3 : decode cL_ofRow 3 = .ok (.iconst 0, 1) := by decide +kernel
theorem dL_ofRow_4 : decode cL_ofRow 4 = .ok (.istore 5, 2) := by decide +kernel
theorem dL_ofRow_6 : decode cL_ofRow 6 = .ok (.iload 5, 2) := by decide +kernel
theorem dL_ofRow_8 : decode cL_ofRow 8 = .ok (.aload_n 0, 1) := by decide +kernel
theorem dL_ofRow_9 : decode cL_ofRow 9 = .ok (.invokevirtual 84, 3) := by decide +kernel
theorem dL_ofRow_12 : decode cL_ofRow 12 = .ok (.if_icmp .ge 36, 3) := by decide +kernel
theorem dL_ofRow_15 : decode cL_ofRow 15 = .ok (.aload_n 0, 1) := by decide +kernel
theorem dL_ofRow_16 : decode cL_ofRow 16 = .ok (.iload 5, 2) := by decide +kernel
theorem dL_ofRow_18 : decode cL_ofRow 18 = .ok (.invokevirtual 88, 3) := by decide +kernel
theorem dL_ofRow_21 : decode cL_ofRow 21 = .ok (.iconst 2, 1) := by decide +kernel
theorem dL_ofRow_22 : decode cL_ofRow 22 = .ok (.iload_n 3, 1) := by decide +kernel
theorem dL_ofRow_23 : decode cL_ofRow 23 = .ok (.imul, 1) := by decide +kernel
theorem dL_ofRow_24 : decode cL_ofRow 24 = .ok (.iload_n 2, 1) := by decide +kernel
theorem dL_ofRow_25 : decode cL_ofRow 25 = .ok (.iadd, 1) := by decide +kernel
theorem dL_ofRow_26 : decode cL_ofRow 26 = .ok (.if_icmp .ne 12, 3) := by decide +kernel
theorem dL_ofRow_29 : decode cL_ofRow 29 = .ok (.aload_n 0, 1) := by decide +kernel
theorem dL_ofRow_30 : decode cL_ofRow 30 = .ok (.iload 5, 2) := by decide +kernel
theorem dL_ofRow_32 : decode cL_ofRow 32 = .ok (.invokevirtual 91, 3) := by decide +kernel
theorem dL_ofRow_35 : decode cL_ofRow 35 = .ok (.goto 5, 3) := by decide +kernel
theorem dL_ofRow_38 : decode cL_ofRow 38 = .ok (.iload 4, 2) := by decide +kernel
theorem dL_ofRow_40 : decode cL_ofRow 40 = .ok (.istore 4, 2) := by decide +kernel
theorem dL_ofRow_42 : decode cL_ofRow 42 = .ok (.iinc 5 1, 3) := by decide +kernel
theorem dL_ofRow_45 : decode cL_ofRow 45 = .ok (.goto (-39), 3) := by decide +kernel
theorem dL_ofRow_48 : decode cL_ofRow 48 = .ok (.iload 4, 2) := by decide +kernel
theorem dL_ofRow_50 : decode cL_ofRow 50 = .ok (.iconst (-1), 1) := by decide +kernel
theorem dL_ofRow_51 : decode cL_ofRow 51 = .ok (.if_icmp .eq 9, 3) := by decide +kernel
theorem dL_ofRow_54 : decode cL_ofRow 54 = .ok (.iload 4, 2) := by decide +kernel
theorem dL_ofRow_56 : decode cL_ofRow 56 = .ok (.iconst 2, 1) := by decide +kernel
theorem dL_ofRow_57 : decode cL_ofRow 57 = .ok (.if_icmp .ne 8, 3) := by decide +kernel
theorem dL_ofRow_60 : decode cL_ofRow 60 = .ok (.bipush (-3), 2) := by decide +kernel
theorem dL_ofRow_62 : decode cL_ofRow 62 = .ok (.goto 9, 3) := by decide +kernel
theorem dL_ofRow_65 : decode cL_ofRow 65 = .ok (.aload_n 0, 1) := by decide +kernel
theorem dL_ofRow_66 : decode cL_ofRow 66 = .ok (.iload_n 2, 1) := by decide +kernel
theorem dL_ofRow_67 : decode cL_ofRow 67 = .ok (.iload_n 3, 1) := by decide +kernel
theorem dL_ofRow_68 : decode cL_ofRow 68 = .ok (.invokevirtual 94, 3) := by decide +kernel
theorem dL_ofRow_71 : decode cL_ofRow 71 = .ok (.ireturn, 1) := by decide +kernel
set_option maxRecDepth 20000 in
theorem ggL_flushes_X6_dirty : GoodIn wsL_flushes wsX6_dirty := goodIn_ca (goodIn_r _ [5, 6, 7, 8, 4, 9, 10, 11, 12, 13, 14, 15, 16, 17, 18, 19, 20, 21, 22, 23, 24, 25, 26, 27, 28, 29, 30, 31, 32, 33, 34, 35, 36, 37, 38, 39, 40, 41, 42, 43, 44, 45, 46, 47, 48, 49, 50, 51, 52, 53, 54, 55, 56, 57, 58, 59, 60, 61, 62, 63, 64, 65, 66, 67, 68, 69, 70, 71, 72, 354, 355, 356, 357, 358, 359, 360, 361, 362, 363, 364, 365, 366, 367, 368, 369, 370, 371] (by decide +kernel) (by decide +kernel)) (goodIn_sub (fun _ h => List.mem_cons_of_mem _ (List.mem_append_left _ (List.mem_append_left _ (List.mem_append_right _ h)))) (by decide +kernel))
set_option maxRecDepth 20000 in
theorem gL_flushes_X6_dirty : GoodIn wsL_flushes (wsV RL 54 RX6 yX6_dirty wsX6_dirty) := goodIn_app (goodIn_of _ (by decide +kernel)) ggL_flushes_X6_dirty
set_option maxRecDepth 20000 in
theorem ggL_flushes_X6_writes : GoodIn wsL_flushes wsX6_writes := goodIn_r _ [76, 77, 78, 354, 355, 356, 357, 372, 373, 374] (by decide +kernel) (by decide +kernel)
set_option maxRecDepth 20000 in
theorem gL_flushes_X6_writes : GoodIn wsL_flushes (wsV RL 84 RX6 yX6_writes wsX6_writes) := goodIn_app (goodIn_of _ (by decide +kernel)) ggL_flushes_X6_writes
set_option maxRecDepth 20000 in
theorem ggL_flushes_X6_known : GoodIn wsL_flushes wsX6_known := goodIn_ca (goodIn_r _ [82, 6, 7, 8, 4, 9, 10, 11, 12, 83, 84, 85, 16, 86, 18, 19, 20, 21, 22, 23, 24, 25, 26, 27, 28, 29, 30, 31, 32, 33, 34, 35, 36, 37, 38, 39, 40, 41, 42, 43, 44, 45, 46, 47, 48, 49, 50, 51, 52, 53, 54, 55, 56, 57, 58, 59, 60, 61, 62, 63, 354, 355, 356, 357, 358, 359, 360, 361, 362, 363, 364, 365, 366, 367, 368, 369, 370, 371] (by decide +kernel) (by decide +kernel)) (goodIn_sub (fun _ h => List.mem_cons_of_mem _ (List.mem_append_left _ (List.mem_append_left _ (List.mem_append_right _ h)))) (by decide +kernel))
set_option maxRecDepth 20000 in
theorem gL_flushes_X6_known : GoodIn wsL_flushes (wsV RL 10 RX6 yX6_known wsX6_known) := goodIn_app (goodIn_of _ (by decide +kernel)) ggL_flushes_X6_known
set_option maxRecDepth 20000 in
theorem ggL_flushes_X6_clear : GoodIn wsL_flushes wsX6_clear := goodIn_ca (goodIn_r _ [90, 6, 7, 8, 4, 9, 10, 11, 12, 83, 84, 85, 16, 86, 18, 19, 20, 21, 22, 23, 24, 25, 26, 27, 28, 29, 30, 31, 32, 33, 34, 35, 36, 37, 38, 39, 40, 41, 42, 43, 44, 45, 46, 47, 48, 49, 50, 51, 52, 53, 54, 55, 56, 57, 58, 59, 60, 61, 62, 63, 91, 92, 93, 94, 95, 96, 97, 98, 68, 354, 355, 356, 357, 358, 359, 360, 361, 362, 363, 364, 365, 366, 367, 368, 369, 370, 371] (by decide +kernel) (by decide +kernel)) (goodIn_sub (fun _ h => List.mem_cons_of_mem _ (List.mem_append_left _ (List.mem_append_left _ (List.mem_append_right _ h)))) (by decide +kernel))
set_option maxRecDepth 20000 in
theorem gL_flushes_X6_clear : GoodIn wsL_flushes (wsV RL 57 RX6 yX6_clear wsX6_clear) := goodIn_app (goodIn_of _ (by decide +kernel)) ggL_flushes_X6_clear
set_option maxRecDepth 20000 in
theorem ggL_flushes_X6_flush : GoodIn wsL_flushes wsX6_flush := goodIn_ca (goodIn_ca (goodIn_r _ [102, 103, 104, 77, 105, 106, 107, 108, 109, 78, 6, 7, 8, 4, 9, 10, 11, 12, 110, 111, 112, 113, 114, 115, 116, 117, 118, 119, 120, 121, 122, 123, 124, 125, 126, 127, 128, 129, 130, 131, 132, 133, 134, 19, 20, 16, 21, 22, 23, 24, 25, 26, 27, 28, 29, 30, 31, 32, 33, 135, 35, 36, 37, 38, 39, 40, 41, 42, 43, 44, 45, 46, 47, 48, 49, 50, 51, 52, 53, 54, 55, 56, 136, 137, 138, 139, 140, 141, 142, 143, 144, 145, 146, 147, 148, 149, 150, 151, 152, 60, 153, 63, 154, 155, 156, 157, 65, 66, 67, 68, 69, 70, 71, 72, 158, 159, 160, 161, 162, 163, 164, 165, 166, 167, 168, 169, 170, 171, 172, 173, 174, 175, 62, 176, 177, 178, 179, 180, 181, 182, 183, 184, 185, 186, 187, 188, 189, 190, 191, 192, 193, 194, 195, 196, 197, 198, 199, 200, 201, 202, 203, 204, 205, 206, 207, 208, 209, 210, 211, 212, 213, 214, 215, 216, 217, 218, 219, 220, 221, 222, 223, 224, 225, 226, 227, 228, 229, 230, 231, 232, 233, 234, 235, 236, 237, 238, 239, 240, 241, 242, 243, 244, 245, 246, 247, 248, 249, 250, 251, 252, 253, 254, 96, 97, 98, 354, 355, 356, 357, 375, 376, 377, 378, 372, 373, 374, 358, 359, 360, 361, 362, 363, 379, 380, 364, 365, 366, 367, 368, 369, 370, 371, 381, 382, 383, 384] (by decide +kernel) (by decide +kernel)) (goodIn_sub (fun _ h => List.mem_cons_of_mem _ (List.mem_append_left _ (List.mem_append_right _ h))) (by decide +kernel))) (goodIn_sub (fun _ h => List.mem_cons_of_mem _ (List.mem_append_left _ (List.mem_append_left _ (List.mem_append_right _ h)))) (by decide +kernel))
set_option maxRecDepth 20000 in
theorem gL_flushes_X6_flush : GoodIn wsL_flushes (wsV RL 60 RX6 yX6_flush wsX6_flush) := goodIn_app (goodIn_of _ (by decide +kernel)) ggL_flushes_X6_flush
set_option maxRecDepth 20000 in
theorem ggL_flushes_L_areWhole : GoodIn wsL_flushes wsL_areWhole := goodIn_ca (goodIn_ca (goodIn_r _ [258, 259, 260, 257, 261, 73, 74, 75, 4, 76, 77, 78, 262, 263, 264, 265, 266, 267, 268, 269, 10, 11, 270, 271, 272, 113, 273, 212, 274, 275, 276, 277, 278, 279, 280, 281, 211, 282, 283, 284, 285, 286, 287, 288, 289, 290, 291, 292, 293, 294, 295, 296, 297, 298, 299, 300, 108, 109, 301, 141, 142, 143, 144, 145, 146, 147, 148, 29, 30, 31, 32, 33, 149, 41, 42, 43, 44, 45, 46, 47, 48, 49, 50, 51, 52, 53, 54, 55, 56, 302, 303, 304, 305, 306, 307, 308, 309, 310, 311, 354, 355, 356, 357, 372, 373, 374, 381, 382, 383, 384, 379, 380, 361, 362, 363] (by decide +kernel) (by decide +kernel)) (goodIn_sub (fun _ h => List.mem_cons_of_mem _ (List.mem_append_left _ (List.mem_append_left _ (List.mem_append_right _ h)))) (by decide +kernel))) (goodIn_sub (fun _ h => List.mem_cons_of_mem _ (List.mem_append_right _ h)) (by decide +kernel))
set_option maxRecDepth 20000 in
theorem gL_flushes_L_areWhole : GoodIn wsL_flushes (va_wsS RL 97 yL_areWhole wsL_areWhole) := goodIn_app (goodIn_of _ (by decide +kernel)) ggL_flushes_L_areWhole
set_option maxRecDepth 20000 in
theorem ggL_flushes_L_areRows : GoodIn wsL_flushes wsL_areRows := goodIn_ca (goodIn_ca (goodIn_ca (goodIn_r _ [314, 259, 260, 257, 261, 73, 74, 75, 4, 76, 77, 78, 262, 263, 264, 265, 266, 267, 268, 269, 10, 11, 270, 271, 272, 113, 273, 212, 274, 275, 276, 277, 278, 279, 280, 281, 211, 282, 283, 284, 285, 286, 287, 288, 289, 290, 291, 292, 293, 294, 295, 296, 297, 298, 299, 300, 108, 109, 301, 141, 142, 143, 144, 145, 146, 147, 148, 29, 30, 31, 32, 33, 149, 41, 42, 43, 44, 45, 46, 47, 48, 49, 50, 51, 52, 53, 54, 55, 56, 315, 316, 317, 318, 319, 6, 7, 8, 9, 12, 320, 35, 36, 16, 37, 38, 39, 22, 23, 24, 25, 26, 27, 28, 40, 321, 322, 323, 60, 324, 236, 237, 325, 326, 327, 328, 62, 69, 71, 329, 233, 234, 235, 68, 70, 72, 155, 156, 330, 58, 59, 61, 63, 331, 332, 333, 334, 335, 336, 337, 338, 103, 104, 339, 340, 341, 342, 343, 344, 345, 346, 347, 348, 349, 350, 351, 352, 353, 1, 2, 3, 5, 13, 14, 15, 17, 18, 19, 20, 21, 34, 57, 64, 65, 66, 67, 354, 355, 356, 357, 372, 373, 374, 381, 382, 383, 384, 379, 380, 361, 362, 363, 364, 365, 366, 367, 368, 369, 370, 371, 358, 359, 360] (by decide +kernel) (by decide +kernel)) (goodIn_sub (fun _ h => List.mem_cons_of_mem _ (List.mem_append_left _ (List.mem_append_left _ (List.mem_append_right _ h)))) (by decide +kernel))) (goodIn_sub (fun _ h => List.mem_cons_of_mem _ (List.mem_append_right _ h)) (by decide +kernel))) (goodIn_sub (fun _ h => List.mem_cons_of_mem _ (List.mem_append_left _ (List.mem_append_right _ h))) (by decide +kernel))
set_option maxRecDepth 20000 in
theorem gL_flushes_L_areRows : GoodIn wsL_flushes (va_wsS RL 101 yL_areRows wsL_areRows) := goodIn_app (goodIn_of _ (by decide +kernel)) ggL_flushes_L_areRows
theorem dL_flushes_0 : decode cL_flushes 0 = .ok (.aload_n 0, 1) := by decide +kernel
theorem dL_flushes_1 : decode cL_flushes 1 = .ok (.iload_n 2, 1) := by decide +kernel
theorem dL_flushes_2 : decode cL_flushes 2 = .ok (.invokevirtual 54, 3) := by decide +kernel
theorem dL_flushes_5 : decode cL_flushes 5 = .ok (.istore_n 3, 1) := by decide +kernel
theorem dL_flushes_6 : decode cL_flushes 6 = .ok (.aload_n 0, 1) := by decide +kernel
theorem dL_flushes_7 : decode cL_flushes 7 = .ok (.invokevirtual 84, 3) := by decide +kernel
theorem dL_flushes_10 : decode cL_flushes 10 = .ok (.istore 4, 2) := by decide +kernel
theorem dL_flushes_12 : decode cL_flushes 12 = .ok (.aload_n 0, 1) := by decide +kernel
theorem dL_flushes_13 : decode cL_flushes 13 = .ok (.iload_n 2, 1) := by decide +kernel
theorem dL_flushes_14 : decode cL_flushes 14 = .ok (.invokevirtual 10, 3) := by decide +kernel
theorem dL_flushes_17 : decode cL_flushes 17 = .ok (.istore 5, 2) := by decide +kernel
theorem dL_flushes_19 : decode cL_flushes 19 = .ok (.aload_n 1, 1) := by decide +kernel
theorem dL_flushes_20 : decode cL_flushes 20 = .ok (.iconst 3, 1) := by decide +kernel
theorem dL_flushes_21 : decode cL_flushes 21 = .ok (.iaload, 1) := by decide +kernel
theorem dL_flushes_22 : decode cL_flushes 22 = .ok (.iload_n 2, 1) := by decide +kernel
theorem dL_flushes_23 : decode cL_flushes 23 = .ok (.ishr, 1) := by decide +kernel
theorem dL_flushes_24 : decode cL_flushes 24 = .ok (.iconst 1, 1) := by decide +kernel
theorem dL_flushes_25 : decode cL_flushes 25 = .ok (.iand, 1) := by decide +kernel
theorem dL_flushes_26 : decode cL_flushes 26 = .ok (.iconst 1, 1) := by decide +kernel
theorem dL_flushes_27 : decode cL_flushes 27 = .ok (.if_icmp .ne 47, 3) := by decide +kernel
theorem dL_flushes_30 : decode cL_flushes 30 = .ok (.aload_n 1, 1) := by decide +kernel
theorem dL_flushes_31 : decode cL_flushes 31 = .ok (.iconst 3, 1) := by decide +kernel
theorem dL_flushes_32 : decode cL_flushes 32 = .ok (.dup2, 1) := by decide +kernel
theorem dL_flushes_33 : decode cL_flushes 33 = .ok (.iaload, 1) := by decide +kernel
theorem dL_flushes_34 : decode cL_flushes 34 = .ok (.iconst 1, 1) := by decide +kernel
theorem dL_flushes_35 : decode cL_flushes 35 = .ok (.iload_n 2, 1) := by decide +kernel
theorem dL_flushes_36 : decode cL_flushes 36 = .ok (.ishl, 1) := by decide +kernel
theorem dL_flushes_37 : decode cL_flushes 37 = .ok (.iconst (-1), 1) := by decide +kernel
theorem dL_flushes_38 : decode cL_flushes 38 = .ok (.ixor, 1) := by decide +kernel
theorem dL_flushes_39 : decode cL_flushes 39 = .ok (.iand, 1) := by decide +kernel
theorem dL_flushes_40 : decode cL_flushes 40 = .ok (.iastore, 1) := by decide +kernel
theorem dL_flushes_41 : decode cL_flushes 41 = .ok (.aload_n 0, 1) := by decide +kernel
theorem dL_flushes_42 : decode cL_flushes 42 = .ok (.iload_n 2, 1) := by decide +kernel
theorem dL_flushes_43 : decode cL_flushes 43 = .ok (.invokevirtual 57, 3) := by decide +kernel
theorem dL_flushes_46 : decode cL_flushes 46 = .ok (.iload 5, 2) := by decide +kernel
theorem dL_flushes_48 : decode cL_flushes 48 = .ok (.if_icmp .ne 24, 3) := by decide +kernel
theorem dL_flushes_51 : decode cL_flushes 51 = .ok (.aload_n 0, 1) := by decide +kernel
theorem dL_flushes_52 : decode cL_flushes 52 = .ok (.iload_n 2, 1) := by decide +kernel
theorem dL_flushes_53 : decode cL_flushes 53 = .ok (.invokevirtual 60, 3) := by decide +kernel
theorem dL_flushes_56 : decode cL_flushes 56 = .ok (.ifCond .ne 16, 3) := by decide +kernel
theorem dL_flushes_59 : decode cL_flushes 59 = .ok (.aload_n 0, 1) := by decide +kernel
theorem dL_flushes_60 : decode cL_flushes 60 = .ok (.invokevirtual 84, 3) := by decide +kernel
theorem dL_flushes_63 : decode cL_flushes 63 = .ok (.iload 4, 2) := by decide +kernel
theorem dL_flushes_65 : decode cL_flushes 65 = .ok (.if_icmp .ne 7, 3) := by decide +kernel
theorem dL_flushes_68 : decode cL_flushes 68 = .ok (.iconst 1, 1) := by decide +kernel
theorem dL_flushes_69 : decode cL_flushes 69 = .ok (.goto 4, 3) := by decide +kernel
theorem dL_flushes_72 : decode cL_flushes 72 = .ok (.iconst 0, 1) := by decide +kernel
theorem dL_flushes_73 : decode cL_flushes 73 = .ok (.ireturn, 1) := by decide +kernel
theorem dL_flushes_74 : decode cL_flushes 74 = .ok (.aload_n 0, 1) := by decide +kernel
theorem dL_flushes_75 : decode cL_flushes 75 = .ok (.iload_n 2, 1) := by decide +kernel
theorem dL_flushes_76 : decode cL_flushes 76 = .ok (.invokevirtual 60, 3) := by decide +kernel
theorem dL_flushes_79 : decode cL_flushes 79 = .ok (.istore 6, 2) := by decide +kernel
theorem dL_flushes_81 : decode cL_flushes 81 = .ok (.aload_n 1, 1) := by decide +kernel
theorem dL_flushes_82 : decode cL_flushes 82 = .ok (.iconst 3, 1) := by decide +kernel
theorem dL_flushes_83 : decode cL_flushes 83 = .ok (.dup2, 1) := by decide +kernel
theorem dL_flushes_84 : decode cL_flushes 84 = .ok (.iaload, 1) := by decide +kernel
theorem dL_flushes_85 : decode cL_flushes 85 = .ok (.iload 6, 2) := by decide +kernel
theorem dL_flushes_87 : decode cL_flushes 87 = .ok (.ifCond .le 14, 3) := by decide +kernel
theorem dL_flushes_90 : decode cL_flushes 90 = .ok (.bipush 7, 2) := by decide +kernel
theorem dL_flushes_92 : decode cL_flushes 92 = .ok (.iconst 1, 1) := by decide +kernel
theorem dL_flushes_93 : decode cL_flushes 93 = .ok (.iload_n 2, 1) := by decide +kernel
theorem dL_flushes_94 : decode cL_flushes 94 = .ok (.ishl, 1) := by decide +kernel
theorem dL_flushes_95 : decode cL_flushes 95 = .ok (.iconst (-1), 1) := by decide +kernel
theorem dL_flushes_96 : decode cL_flushes 96 = .ok (.ixor, 1) := by decide +kernel
theorem dL_flushes_97 : decode cL_flushes 97 = .ok (.iand, 1) := by decide +kernel
theorem dL_flushes_98 : decode cL_flushes 98 = .ok (.goto 4, 3) := by decide +kernel
theorem dL_flushes_101 : decode cL_flushes 101 = .ok (.iconst 0, 1) := by decide +kernel
theorem dL_flushes_102 : decode cL_flushes 102 = .ok (.ior, 1) := by decide +kernel
theorem dL_flushes_103 : decode cL_flushes 103 = .ok (.iastore, 1) := by decide +kernel
theorem dL_flushes_104 : decode cL_flushes 104 = .ok (.iload 6, 2) := by decide +kernel
theorem dL_flushes_106 : decode cL_flushes 106 = .ok (.iload_n 3, 1) := by decide +kernel
theorem dL_flushes_107 : decode cL_flushes 107 = .ok (.if_icmp .lt 62, 3) := by decide +kernel
theorem dL_flushes_110 : decode cL_flushes 110 = .ok (.aload_n 0, 1) := by decide +kernel
theorem dL_flushes_111 : decode cL_flushes 111 = .ok (.invokevirtual 84, 3) := by decide +kernel
theorem dL_flushes_114 : decode cL_flushes 114 = .ok (.iload 4, 2) := by decide +kernel
theorem dL_flushes_116 : decode cL_flushes 116 = .ok (.iload 6, 2) := by decide +kernel
theorem dL_flushes_118 : decode cL_flushes 118 = .ok (.iadd, 1) := by decide +kernel
theorem dL_flushes_119 : decode cL_flushes 119 = .ok (.if_icmp .ne 50, 3) := by decide +kernel
theorem dL_flushes_122 : decode cL_flushes 122 = .ok (.aload_n 0, 1) := by decide +kernel
theorem dL_flushes_123 : decode cL_flushes 123 = .ok (.iload_n 2, 1) := by decide +kernel
theorem dL_flushes_124 : decode cL_flushes 124 = .ok (.invokevirtual 10, 3) := by decide +kernel
theorem dL_flushes_127 : decode cL_flushes 127 = .ok (.iload 5, 2) := by decide +kernel
theorem dL_flushes_129 : decode cL_flushes 129 = .ok (.if_icmp .ne 40, 3) := by decide +kernel
theorem dL_flushes_132 : decode cL_flushes 132 = .ok (.aload_n 0, 1) := by decide +kernel
theorem dL_flushes_133 : decode cL_flushes 133 = .ok (.iload_n 2, 1) := by decide +kernel
theorem dL_flushes_134 : decode cL_flushes 134 = .ok (.invokevirtual 54, 3) := by decide +kernel
theorem dL_flushes_137 : decode cL_flushes 137 = .ok (.ifCond .ne 32, 3) := by decide +kernel
theorem dL_flushes_140 : decode cL_flushes 140 = .ok (.aload_n 0, 1) := by decide +kernel
theorem dL_flushes_141 : decode cL_flushes 141 = .ok (.iload_n 2, 1) := by decide +kernel
theorem dL_flushes_142 : decode cL_flushes 142 = .ok (.invokevirtual 60, 3) := by decide +kernel
theorem dL_flushes_145 : decode cL_flushes 145 = .ok (.ifCond .ne 24, 3) := by decide +kernel
theorem dL_flushes_148 : decode cL_flushes 148 = .ok (.aload_n 0, 1) := by decide +kernel
theorem dL_flushes_149 : decode cL_flushes 149 = .ok (.aload_n 1, 1) := by decide +kernel
theorem dL_flushes_150 : decode cL_flushes 150 = .ok (.invokestatic 97, 3) := by decide +kernel
theorem dL_flushes_153 : decode cL_flushes 153 = .ok (.ifCond .eq 16, 3) := by decide +kernel
theorem dL_flushes_156 : decode cL_flushes 156 = .ok (.aload_n 0, 1) := by decide +kernel
theorem dL_flushes_157 : decode cL_flushes 157 = .ok (.aload_n 1, 1) := by decide +kernel
theorem dL_flushes_158 : decode cL_flushes 158 = .ok (.iload_n 2, 1) := by decide +kernel
theorem dL_flushes_159 : decode cL_flushes 159 = .ok (.invokestatic 101, 3) := by decide +kernel
theorem dL_flushes_162 : decode cL_flushes 162 = .ok (.ifCond .eq 7, 3) := by decide +kernel
theorem dL_flushes_165 : decode cL_flushes 165 = .ok (.iconst 1, 1) := by decide +kernel
theorem dL_flushes_166 : decode cL_flushes 166 = .ok (.goto 4, 3) := by decide +kernel
theorem dL_flushes_169 : decode cL_flushes 169 = .ok (.iconst 0, 1) := by decide +kernel
theorem dL_flushes_170 : decode cL_flushes 170 = .ok (.ireturn, 1) := by decide +kernel
set_option maxRecDepth 20000 in
theorem ggL_areRows_L_ofRow : GoodIn wsL_areRows wsL_ofRow := goodIn_ca (goodIn_ca (goodIn_r _ [4, 5, 6, 7, 8, 9, 10, 11, 12, 13, 14, 15, 16, 17, 18, 19, 20, 21, 22, 23, 24, 25, 26, 27, 28, 29, 30, 31, 32, 33, 34, 35, 36, 37, 38, 39, 40, 41, 42, 43, 44, 45, 46, 47, 48, 49, 50, 51, 52, 53, 54, 55, 56, 57, 58, 59, 60, 61, 62, 63, 64, 65, 66, 67, 68, 69, 70, 71, 72, 73, 74, 75, 76, 77, 78, 79, 80, 81, 82, 83, 84, 85, 86, 87, 88, 185, 186, 187, 188, 189, 190, 191, 192, 193, 194, 195, 196, 197, 198, 199, 200] (by decide +kernel) (by decide +kernel)) (goodIn_sub (fun _ h => List.mem_cons_of_mem _ (List.mem_append_left _ (List.mem_append_left _ (List.mem_append_right _ h)))) (by decide +kernel))) (goodIn_sub (fun _ h => List.mem_cons_of_mem _ (List.mem_append_left _ (List.mem_append_right _ h))) (by decide +kernel))
set_option maxRecDepth 20000 in
theorem gL_areRows_L_ofRow : GoodIn wsL_areRows (va_wsS RL 77 yL_ofRow wsL_ofRow) := goodIn_app (goodIn_of _ (by decide +kernel)) ggL_areRows_L_ofRow
set_option maxRecDepth 20000 in
theorem ggL_areRows_X6_find : GoodIn wsL_areRows wsX6_find := goodIn_ca (goodIn_ca (goodIn_r _ [92, 46, 93, 94, 95, 96, 8, 97, 20, 21, 98, 47, 48, 49, 50, 51, 52, 53, 54, 55, 56, 57, 58, 59, 60, 61, 62, 63, 64, 65, 66, 67, 68, 69, 70, 71, 72, 73, 74, 75, 76, 77, 78, 79, 80, 81, 82, 83, 84, 85, 86, 87, 88, 99, 100, 101, 102, 103, 104, 105, 106, 107, 108, 109, 110, 111, 112, 113, 114, 115, 116, 117, 118, 119, 120, 121, 122, 123, 124, 125, 126, 127, 128, 129, 130, 131, 132, 133, 134, 135, 136, 137, 138, 139, 140, 141, 192, 193, 194, 195, 201, 202, 203, 204, 205, 206, 207, 208, 185, 186, 187, 188, 196, 197, 198, 199, 200, 209, 210, 211] (by decide +kernel) (by decide +kernel)) (goodIn_sub (fun _ h => List.mem_cons_of_mem _ (List.mem_append_left _ (List.mem_append_left _ (List.mem_append_right _ h)))) (by decide +kernel))) (goodIn_sub (fun _ h => List.mem_cons_of_mem _ (List.mem_append_left _ (List.mem_append_right _ h))) (by decide +kernel))
set_option maxRecDepth 20000 in
theorem gL_areRows_X6_find : GoodIn wsL_areRows (wsV RL 29 RX6 yX6_find wsX6_find) := goodIn_app (goodIn_of _ (by decide +kernel)) ggL_areRows_X6_find
set_option maxRecDepth 20000 in
theorem ggL_areRows_X6_name : GoodIn wsL_areRows wsX6_name := goodIn_ca (goodIn_ca (goodIn_ca (goodIn_r _ [145, 146, 94, 95, 96, 8, 97, 20, 21, 98, 47, 48, 49, 50, 51, 147, 148, 149, 150, 151, 99, 100, 101, 102, 103, 104, 105, 106, 107, 108, 109, 110, 111, 112, 67, 68, 69, 70, 71, 113, 73, 74, 75, 76, 77, 78, 79, 80, 81, 82, 83, 84, 85, 86, 87, 88, 137, 138, 139, 117, 140, 125, 141, 201, 202, 203, 204, 205, 206, 207, 208, 185, 186, 187, 188, 209, 210, 211, 198, 199, 200] (by decide +kernel) (by decide +kernel)) (goodIn_sub (fun _ h => List.mem_cons_of_mem _ (List.mem_append_left _ (List.mem_append_left _ (List.mem_append_right _ h)))) (by decide +kernel))) (goodIn_sub (fun _ h => List.mem_cons_of_mem _ (List.mem_append_left _ (List.mem_append_right _ h))) (by decide +kernel))) (goodIn_sub (fun _ h => List.mem_cons_of_mem _ (List.mem_append_right _ h)) (by decide +kernel))
set_option maxRecDepth 20000 in
theorem gL_areRows_X6_name : GoodIn wsL_areRows (wsV RL 20 RX6 yX6_name wsX6_name) := goodIn_app (goodIn_of _ (by decide +kernel)) ggL_areRows_X6_name
set_option maxRecDepth 20000 in
theorem ggL_areRows_X6_rowName : GoodIn wsL_areRows wsX6_rowName := goodIn_ca (goodIn_ca (goodIn_r _ [155, 156, 42, 43, 44, 8, 45, 20, 21, 46, 47, 48, 49, 50, 51, 52, 53, 54, 55, 56, 57, 58, 59, 60, 61, 62, 63, 64, 65, 66, 67, 68, 69, 70, 71, 72, 73, 74, 75, 76, 77, 78, 79, 80, 81, 82, 83, 84, 85, 86, 87, 88, 192, 193, 194, 195, 185, 186, 187, 188, 196, 197, 198, 199, 200] (by decide +kernel) (by decide +kernel)) (goodIn_sub (fun _ h => List.mem_cons_of_mem _ (List.mem_append_left _ (List.mem_append_left _ (List.mem_append_right _ h)))) (by decide +kernel))) (goodIn_sub (fun _ h => List.mem_cons_of_mem _ (List.mem_append_left _ (List.mem_append_right _ h))) (by decide +kernel))
set_option maxRecDepth 20000 in
theorem gL_areRows_X6_rowName : GoodIn wsL_areRows (wsV RL 104 RX6 yX6_rowName wsX6_rowName) := goodIn_app (goodIn_of _ (by decide +kernel)) ggL_areRows_X6_rowName
set_option maxRecDepth 20000 in
theorem ggL_areRows_X6_reference : GoodIn wsL_areRows wsX6_reference := goodIn_ca (goodIn_ca (goodIn_ca (goodIn_r _ [160, 161, 94, 95, 96, 8, 97, 20, 21, 98, 47, 48, 49, 50, 51, 147, 148, 149, 150, 151, 99, 100, 101, 102, 103, 104, 105, 106, 107, 108, 109, 110, 111, 112, 67, 68, 69, 70, 71, 113, 73, 74, 75, 76, 77, 78, 79, 80, 81, 82, 83, 84, 85, 86, 87, 88, 137, 138, 139, 117, 140, 125, 141, 201, 202, 203, 204, 205, 206, 207, 208, 185, 186, 187, 188, 209, 210, 211, 198, 199, 200] (by decide +kernel) (by decide +kernel)) (goodIn_sub (fun _ h => List.mem_cons_of_mem _ (List.mem_append_left _ (List.mem_append_left _ (List.mem_append_right _ h)))) (by decide +kernel))) (goodIn_sub (fun _ h => List.mem_cons_of_mem _ (List.mem_append_left _ (List.mem_append_right _ h))) (by decide +kernel))) (goodIn_sub (fun _ h => List.mem_cons_of_mem _ (List.mem_append_right _ h)) (by decide +kernel))
set_option maxRecDepth 20000 in
theorem gL_areRows_X6_reference : GoodIn wsL_areRows (wsV RL 24 RX6 yX6_reference wsX6_reference) := goodIn_app (goodIn_of _ (by decide +kernel)) ggL_areRows_X6_reference
set_option maxRecDepth 20000 in
theorem ggL_areRows_X6_rowReference : GoodIn wsL_areRows wsX6_rowReference := goodIn_ca (goodIn_ca (goodIn_r _ [40, 41, 42, 43, 44, 8, 45, 20, 21, 46, 47, 48, 49, 50, 51, 52, 53, 54, 55, 56, 57, 58, 59, 60, 61, 62, 63, 64, 65, 66, 67, 68, 69, 70, 71, 72, 73, 74, 75, 76, 77, 78, 79, 80, 81, 82, 83, 84, 85, 86, 87, 88, 192, 193, 194, 195, 185, 186, 187, 188, 196, 197, 198, 199, 200] (by decide +kernel) (by decide +kernel)) (goodIn_sub (fun _ h => List.mem_cons_of_mem _ (List.mem_append_left _ (List.mem_append_left _ (List.mem_append_right _ h)))) (by decide +kernel))) (goodIn_sub (fun _ h => List.mem_cons_of_mem _ (List.mem_append_left _ (List.mem_append_right _ h))) (by decide +kernel))
set_option maxRecDepth 20000 in
theorem gL_areRows_X6_rowReference : GoodIn wsL_areRows (wsV RL 94 RX6 yX6_rowReference wsX6_rowReference) := goodIn_app (goodIn_of _ (by decide +kernel)) ggL_areRows_X6_rowReference
set_option maxRecDepth 20000 in
theorem ggL_areRows_X6_rowVersion : GoodIn wsL_areRows wsX6_rowVersion := goodIn_ca (goodIn_ca (goodIn_r _ [165, 166, 42, 43, 44, 8, 45, 20, 21, 46, 47, 48, 49, 50, 51, 52, 53, 54, 55, 56, 57, 58, 59, 60, 61, 62, 63, 64, 65, 66, 67, 68, 69, 70, 71, 72, 73, 74, 75, 76, 77, 78, 79, 80, 81, 82, 83, 84, 85, 86, 87, 88, 192, 193, 194, 195, 185, 186, 187, 188, 196, 197, 198, 199, 200] (by decide +kernel) (by decide +kernel)) (goodIn_sub (fun _ h => List.mem_cons_of_mem _ (List.mem_append_left _ (List.mem_append_left _ (List.mem_append_right _ h)))) (by decide +kernel))) (goodIn_sub (fun _ h => List.mem_cons_of_mem _ (List.mem_append_left _ (List.mem_append_right _ h))) (by decide +kernel))
set_option maxRecDepth 20000 in
theorem gL_areRows_X6_rowVersion : GoodIn wsL_areRows (wsV RL 107 RX6 yX6_rowVersion wsX6_rowVersion) := goodIn_app (goodIn_of _ (by decide +kernel)) ggL_areRows_X6_rowVersion
set_option maxRecDepth 20000 in
theorem ggL_areRows_X6_dirty : GoodIn wsL_areRows wsX6_dirty := goodIn_ca (goodIn_r _ [170, 94, 95, 96, 8, 97, 20, 21, 98, 171, 172, 173, 102, 174, 175, 176, 177, 178, 106, 107, 108, 109, 110, 111, 112, 67, 68, 69, 70, 71, 179, 100, 101, 103, 104, 105, 113, 73, 74, 75, 76, 77, 78, 79, 80, 81, 82, 83, 84, 85, 86, 87, 88, 180, 138, 139, 117, 140, 125, 141, 181, 182, 183, 184, 132, 126, 133, 127, 134, 185, 186, 187, 188, 209, 210, 211, 198, 199, 200, 201, 202, 203, 204, 205, 206, 207, 208] (by decide +kernel) (by decide +kernel)) (goodIn_sub (fun _ h => List.mem_cons_of_mem _ (List.mem_append_left _ (List.mem_append_left _ (List.mem_append_right _ h)))) (by decide +kernel))
set_option maxRecDepth 20000 in
theorem gL_areRows_X6_dirty : GoodIn wsL_areRows (wsV RL 54 RX6 yX6_dirty wsX6_dirty) := goodIn_app (goodIn_of _ (by decide +kernel)) ggL_areRows_X6_dirty
theorem dL_areRows_0 : decode cL_areRows 0 = .ok (.iconst 1, 1) := by decide +kernel
theorem dL_areRows_1 : decode cL_areRows 1 = .ok (.istore_n 3, 1) := by decide +kernel
theorem dL_areRows_2 : decode cL_areRows 2 = .ok (.iconst 0, 1) := by decide +kernel
theorem dL_areRows_3 : decode cL_areRows 3 = .ok (.istore 4, 2) := by decide +kernel
theorem dL_areRows_5 : decode cL_areRows 5 = .ok (.iload 4, 2) := by decide +kernel
theorem dL_areRows_7 : decode cL_areRows 7 = .ok (.iconst 2, 1) := by decide +kernel
theorem dL_areRows_8 : decode cL_areRows 8 = .ok (.if_icmp .ge 132, 3) := by decide +kernel
theorem dL_areRows_11 : decode cL_areRows 11 = .ok (.iconst 0, 1) := by decide +kernel
theorem dL_areRows_12 : decode cL_areRows 12 = .ok (.istore 5, 2) := by decide +kernel
theorem dL_areRows_14 : decode cL_areRows 14 = .ok (.iload 5, 2) := by decide +kernel
theorem dL_areRows_16 : decode cL_areRows 16 = .ok (.aload_n 1, 1) := by decide +kernel
theorem dL_areRows_17 : decode cL_areRows 17 = .ok (.iload 4, 2) := by decide +kernel
theorem dL_areRows_19 : decode cL_areRows 19 = .ok (.iaload, 1) := by decide +kernel
theorem dL_areRows_20 : decode cL_areRows 20 = .ok (.if_icmp .ge 114, 3) := by decide +kernel
theorem dL_areRows_23 : decode cL_areRows 23 = .ok (.iload_n 3, 1) := by decide +kernel
theorem dL_areRows_24 : decode cL_areRows 24 = .ok (.ifCond .eq 110, 3) := by decide +kernel
theorem dL_areRows_27 : decode cL_areRows 27 = .ok (.aload_n 0, 1) := by decide +kernel
theorem dL_areRows_28 : decode cL_areRows 28 = .ok (.aload_n 1, 1) := by decide +kernel
theorem dL_areRows_29 : decode cL_areRows 29 = .ok (.iload 4, 2) := by decide +kernel
theorem dL_areRows_31 : decode cL_areRows 31 = .ok (.iload 5, 2) := by decide +kernel
theorem dL_areRows_33 : decode cL_areRows 33 = .ok (.invokestatic 77, 3) := by decide +kernel
theorem dL_areRows_36 : decode cL_areRows 36 = .ok (.bipush (-3), 2) := by decide +kernel
theorem dL_areRows_38 : decode cL_areRows 38 = .ok (.if_icmp .eq 7, 3) := by decide +kernel
theorem dL_areRows_41 : decode cL_areRows 41 = .ok (.iconst 1, 1) := by decide +kernel
theorem dL_areRows_42 : decode cL_areRows 42 = .ok (.goto 4, 3) := by decide +kernel
theorem dL_areRows_45 : decode cL_areRows 45 = .ok (.iconst 0, 1) := by decide +kernel
theorem dL_areRows_46 : decode cL_areRows 46 = .ok (.istore 6, 2) := by decide +kernel
theorem dL_areRows_48 : decode cL_areRows 48 = .ok (.aload_n 0, 1) := by decide +kernel
theorem dL_areRows_49 : decode cL_areRows 49 = .ok (.iload_n 2, 1) := by decide +kernel
theorem dL_areRows_50 : decode cL_areRows 50 = .ok (.iload 4, 2) := by decide +kernel
theorem dL_areRows_52 : decode cL_areRows 52 = .ok (.iload 5, 2) := by decide +kernel
theorem dL_areRows_54 : decode cL_areRows 54 = .ok (.invokevirtual 29, 3) := by decide +kernel
theorem dL_areRows_57 : decode cL_areRows 57 = .ok (.istore 7, 2) := by decide +kernel
theorem dL_areRows_59 : decode cL_areRows 59 = .ok (.iload 7, 2) := by decide +kernel
theorem dL_areRows_61 : decode cL_areRows 61 = .ok (.iload 6, 2) := by decide +kernel
theorem dL_areRows_63 : decode cL_areRows 63 = .ok (.if_icmp .ne 63, 3) := by decide +kernel
theorem dL_areRows_66 : decode cL_areRows 66 = .ok (.iload 7, 2) := by decide +kernel
theorem dL_areRows_68 : decode cL_areRows 68 = .ok (.ifCond .eq 54, 3) := by decide +kernel
theorem dL_areRows_71 : decode cL_areRows 71 = .ok (.aload_n 0, 1) := by decide +kernel
theorem dL_areRows_72 : decode cL_areRows 72 = .ok (.iload_n 2, 1) := by decide +kernel
theorem dL_areRows_73 : decode cL_areRows 73 = .ok (.iload 4, 2) := by decide +kernel
theorem dL_areRows_75 : decode cL_areRows 75 = .ok (.iload 5, 2) := by decide +kernel
theorem dL_areRows_77 : decode cL_areRows 77 = .ok (.invokevirtual 20, 3) := by decide +kernel
theorem dL_areRows_80 : decode cL_areRows 80 = .ok (.aload_n 0, 1) := by decide +kernel
theorem dL_areRows_81 : decode cL_areRows 81 = .ok (.iload 4, 2) := by decide +kernel
theorem dL_areRows_83 : decode cL_areRows 83 = .ok (.iload 5, 2) := by decide +kernel
theorem dL_areRows_85 : decode cL_areRows 85 = .ok (.invokevirtual 104, 3) := by decide +kernel
theorem dL_areRows_88 : decode cL_areRows 88 = .ok (.if_icmp .ne 38, 3) := by decide +kernel
theorem dL_areRows_91 : decode cL_areRows 91 = .ok (.aload_n 0, 1) := by decide +kernel
theorem dL_areRows_92 : decode cL_areRows 92 = .ok (.iload_n 2, 1) := by decide +kernel
theorem dL_areRows_93 : decode cL_areRows 93 = .ok (.iload 4, 2) := by decide +kernel
theorem dL_areRows_95 : decode cL_areRows 95 = .ok (.iload 5, 2) := by decide +kernel
theorem dL_areRows_97 : decode cL_areRows 97 = .ok (.invokevirtual 24, 3) := by decide +kernel
theorem dL_areRows_100 : decode cL_areRows 100 = .ok (.aload_n 0, 1) := by decide +kernel
theorem dL_areRows_101 : decode cL_areRows 101 = .ok (.iload 4, 2) := by decide +kernel
theorem dL_areRows_103 : decode cL_areRows 103 = .ok (.iload 5, 2) := by decide +kernel
theorem dL_areRows_105 : decode cL_areRows 105 = .ok (.invokevirtual 94, 3) := by decide +kernel
theorem dL_areRows_108 : decode cL_areRows 108 = .ok (.if_icmp .ne 18, 3) := by decide +kernel
theorem dL_areRows_111 : decode cL_areRows 111 = .ok (.aload_n 0, 1) := by decide +kernel
theorem dL_areRows_112 : decode cL_areRows 112 = .ok (.iload 4, 2) := by decide +kernel
theorem dL_areRows_114 : decode cL_areRows 114 = .ok (.iload 5, 2) := by decide +kernel
theorem dL_areRows_116 : decode cL_areRows 116 = .ok (.invokevirtual 107, 3) := by decide +kernel
theorem dL_areRows_119 : decode cL_areRows 119 = .ok (.ifCond .lt 7, 3) := by decide +kernel
theorem dL_areRows_122 : decode cL_areRows 122 = .ok (.iconst 1, 1) := by decide +kernel
theorem dL_areRows_123 : decode cL_areRows 123 = .ok (.goto 4, 3) := by decide +kernel
theorem dL_areRows_126 : decode cL_areRows 126 = .ok (.iconst 0, 1) := by decide +kernel
theorem dL_areRows_127 : decode cL_areRows 127 = .ok (.istore_n 3, 1) := by decide +kernel
theorem dL_areRows_128 : decode cL_areRows 128 = .ok (.iinc 5 1, 3) := by decide +kernel
theorem dL_areRows_131 : decode cL_areRows 131 = .ok (.goto (-117), 3) := by decide +kernel
theorem dL_areRows_134 : decode cL_areRows 134 = .ok (.iinc 4 1, 3) := by decide +kernel
theorem dL_areRows_137 : decode cL_areRows 137 = .ok (.goto (-132), 3) := by decide +kernel
theorem dL_areRows_140 : decode cL_areRows 140 = .ok (.iload_n 3, 1) := by decide +kernel
theorem dL_areRows_141 : decode cL_areRows 141 = .ok (.ifCond .eq 15, 3) := by decide +kernel
theorem dL_areRows_144 : decode cL_areRows 144 = .ok (.aload_n 0, 1) := by decide +kernel
theorem dL_areRows_145 : decode cL_areRows 145 = .ok (.iload_n 2, 1) := by decide +kernel
theorem dL_areRows_146 : decode cL_areRows 146 = .ok (.invokevirtual 54, 3) := by decide +kernel
theorem dL_areRows_149 : decode cL_areRows 149 = .ok (.ifCond .ne 7, 3) := by decide +kernel
theorem dL_areRows_152 : decode cL_areRows 152 = .ok (.iconst 1, 1) := by decide +kernel
theorem dL_areRows_153 : decode cL_areRows 153 = .ok (.goto 4, 3) := by decide +kernel
theorem dL_areRows_156 : decode cL_areRows 156 = .ok (.iconst 0, 1) := by decide +kernel
theorem dL_areRows_157 : decode cL_areRows 157 = .ok (.ireturn, 1) := by decide +kernel
set_option maxRecDepth 20000 in
theorem ggL_finds_X6_known : GoodIn wsL_finds wsX6_known := goodIn_ca (goodIn_r _ [5, 6, 7, 8, 4, 9, 10, 11, 12, 13, 14, 15, 16, 17, 18, 19, 20, 21, 22, 23, 24, 25, 26, 27, 28, 29, 30, 31, 32, 33, 34, 35, 36, 37, 38, 39, 40, 41, 42, 43, 44, 45, 46, 47, 48, 49, 50, 51, 52, 53, 54, 55, 56, 57, 58, 59, 60, 61, 62, 63, 129, 130, 131, 132, 133, 134, 135, 136, 137, 138, 139, 140, 141, 142, 143, 144, 145, 146] (by decide +kernel) (by decide +kernel)) (goodIn_sub (fun _ h => List.mem_cons_of_mem _ (List.mem_append_left _ (List.mem_append_left _ (List.mem_append_right _ h)))) (by decide +kernel))
set_option maxRecDepth 20000 in
theorem gL_finds_X6_known : GoodIn wsL_finds (wsV RL 10 RX6 yX6_known wsX6_known) := goodIn_app (goodIn_of _ (by decide +kernel)) ggL_finds_X6_known
set_option maxRecDepth 20000 in
theorem ggL_finds_X6_find : GoodIn wsL_finds wsX6_find := goodIn_ca (goodIn_ca (goodIn_r _ [67, 68, 69, 6, 7, 8, 4, 9, 10, 11, 12, 70, 71, 72, 73, 74, 75, 76, 77, 78, 79, 80, 81, 82, 83, 84, 85, 86, 87, 88, 89, 29, 30, 31, 32, 33, 90, 41, 42, 43, 44, 45, 46, 47, 48, 49, 50, 51, 52, 53, 54, 55, 56, 91, 35, 36, 16, 37, 38, 39, 22, 23, 24, 25, 26, 27, 28, 40, 92, 93, 94, 60, 95, 96, 97, 98, 99, 100, 101, 62, 102, 103, 104, 105, 106, 107, 108, 109, 110, 111, 112, 113, 58, 59, 61, 63, 147, 148, 149, 150, 139, 140, 141, 142, 143, 144, 145, 146, 129, 130, 131, 132, 151, 152, 136, 137, 138, 133, 134, 135] (by decide +kernel) (by decide +kernel)) (goodIn_sub (fun _ h => List.mem_cons_of_mem _ (List.mem_append_left _ (List.mem_append_left _ (List.mem_append_right _ h)))) (by decide +kernel))) (goodIn_sub (fun _ h => List.mem_cons_of_mem _ (List.mem_append_left _ (List.mem_append_right _ h))) (by decide +kernel))
set_option maxRecDepth 20000 in
theorem gL_finds_X6_find : GoodIn wsL_finds (wsV RL 29 RX6 yX6_find wsX6_find) := goodIn_app (goodIn_of _ (by decide +kernel)) ggL_finds_X6_find
set_option maxRecDepth 20000 in
theorem ggL_finds_X6_name : GoodIn wsL_finds wsX6_name := goodIn_ca (goodIn_ca (goodIn_ca (goodIn_r _ [117, 118, 6, 7, 8, 4, 9, 10, 11, 12, 70, 71, 72, 73, 74, 119, 120, 121, 122, 123, 91, 35, 36, 16, 37, 38, 39, 22, 23, 24, 25, 26, 27, 28, 29, 30, 31, 32, 33, 40, 41, 42, 43, 44, 45, 46, 47, 48, 49, 50, 51, 52, 53, 54, 55, 56, 113, 58, 59, 60, 61, 62, 63, 139, 140, 141, 142, 143, 144, 145, 146, 129, 130, 131, 132, 133, 134, 135, 136, 137, 138] (by decide +kernel) (by decide +kernel)) (goodIn_sub (fun _ h => List.mem_cons_of_mem _ (List.mem_append_left _ (List.mem_append_left _ (List.mem_append_right _ h)))) (by decide +kernel))) (goodIn_sub (fun _ h => List.mem_cons_of_mem _ (List.mem_append_left _ (List.mem_append_right _ h))) (by decide +kernel))) (goodIn_sub (fun _ h => List.mem_cons_of_mem _ (List.mem_append_right _ h)) (by decide +kernel))
set_option maxRecDepth 20000 in
theorem gL_finds_X6_name : GoodIn wsL_finds (wsV RL 20 RX6 yX6_name wsX6_name) := goodIn_app (goodIn_of _ (by decide +kernel)) ggL_finds_X6_name
set_option maxRecDepth 20000 in
theorem ggL_finds_X6_reference : GoodIn wsL_finds wsX6_reference := goodIn_ca (goodIn_ca (goodIn_ca (goodIn_r _ [127, 128, 6, 7, 8, 4, 9, 10, 11, 12, 70, 71, 72, 73, 74, 119, 120, 121, 122, 123, 91, 35, 36, 16, 37, 38, 39, 22, 23, 24, 25, 26, 27, 28, 29, 30, 31, 32, 33, 40, 41, 42, 43, 44, 45, 46, 47, 48, 49, 50, 51, 52, 53, 54, 55, 56, 113, 58, 59, 60, 61, 62, 63, 139, 140, 141, 142, 143, 144, 145, 146, 129, 130, 131, 132, 133, 134, 135, 136, 137, 138] (by decide +kernel) (by decide +kernel)) (goodIn_sub (fun _ h => List.mem_cons_of_mem _ (List.mem_append_left _ (List.mem_append_left _ (List.mem_append_right _ h)))) (by decide +kernel))) (goodIn_sub (fun _ h => List.mem_cons_of_mem _ (List.mem_append_left _ (List.mem_append_right _ h))) (by decide +kernel))) (goodIn_sub (fun _ h => List.mem_cons_of_mem _ (List.mem_append_right _ h)) (by decide +kernel))
set_option maxRecDepth 20000 in
theorem gL_finds_X6_reference : GoodIn wsL_finds (wsV RL 24 RX6 yX6_reference wsX6_reference) := goodIn_app (goodIn_of _ (by decide +kernel)) ggL_finds_X6_reference
theorem dL_finds_0 : decode cL_finds 0 = .ok (.aload_n 0, 1) := by decide +kernel
theorem dL_finds_1 : decode cL_finds 1 = .ok (.iload_n 2, 1) := by decide +kernel
theorem dL_finds_2 : decode cL_finds 2 = .ok (.invokevirtual 10, 3) := by decide +kernel
theorem dL_finds_5 : decode cL_finds 5 = .ok (.istore 5, 2) := by decide +kernel
theorem dL_finds_7 : decode cL_finds 7 = .ok (.aload_n 0, 1) := by decide +kernel
theorem dL_finds_8 : decode cL_finds 8 = .ok (.iload_n 2, 1) := by decide +kernel
theorem dL_finds_9 : decode cL_finds 9 = .ok (.iload_n 3, 1) := by decide +kernel
theorem dL_finds_10 : decode cL_finds 10 = .ok (.iload 4, 2) := by decide +kernel
theorem dL_finds_12 : decode cL_finds 12 = .ok (.invokevirtual 29, 3) := by decide +kernel
theorem dL_finds_15 : decode cL_finds 15 = .ok (.istore 6, 2) := by decide +kernel
theorem dL_finds_17 : decode cL_finds 17 = .ok (.aload_n 0, 1) := by decide +kernel
theorem dL_finds_18 : decode cL_finds 18 = .ok (.iload_n 2, 1) := by decide +kernel
theorem dL_finds_19 : decode cL_finds 19 = .ok (.iload_n 3, 1) := by decide +kernel
theorem dL_finds_20 : decode cL_finds 20 = .ok (.iload 4, 2) := by decide +kernel
theorem dL_finds_22 : decode cL_finds 22 = .ok (.invokevirtual 29, 3) := by decide +kernel
theorem dL_finds_25 : decode cL_finds 25 = .ok (.iload 6, 2) := by decide +kernel
theorem dL_finds_27 : decode cL_finds 27 = .ok (.if_icmp .ne 71, 3) := by decide +kernel
theorem dL_finds_30 : decode cL_finds 30 = .ok (.aload_n 0, 1) := by decide +kernel
theorem dL_finds_31 : decode cL_finds 31 = .ok (.iload_n 2, 1) := by decide +kernel
theorem dL_finds_32 : decode cL_finds 32 = .ok (.invokevirtual 10, 3) := by decide +kernel
theorem dL_finds_35 : decode cL_finds 35 = .ok (.iload 5, 2) := by decide +kernel
theorem dL_finds_37 : decode cL_finds 37 = .ok (.iconst 1, 1) := by decide +kernel
theorem dL_finds_38 : decode cL_finds 38 = .ok (.iadd, 1) := by decide +kernel
theorem dL_finds_39 : decode cL_finds 39 = .ok (.if_icmp .gt 59, 3) := by decide +kernel
theorem dL_finds_42 : decode cL_finds 42 = .ok (.aload_n 0, 1) := by decide +kernel
theorem dL_finds_43 : decode cL_finds 43 = .ok (.iload_n 2, 1) := by decide +kernel
theorem dL_finds_44 : decode cL_finds 44 = .ok (.invokevirtual 10, 3) := by decide +kernel
theorem dL_finds_47 : decode cL_finds 47 = .ok (.iload 5, 2) := by decide +kernel
theorem dL_finds_49 : decode cL_finds 49 = .ok (.if_icmp .lt 49, 3) := by decide +kernel
theorem dL_finds_52 : decode cL_finds 52 = .ok (.aload_n 0, 1) := by decide +kernel
theorem dL_finds_53 : decode cL_finds 53 = .ok (.iload_n 2, 1) := by decide +kernel
theorem dL_finds_54 : decode cL_finds 54 = .ok (.iload_n 3, 1) := by decide +kernel
theorem dL_finds_55 : decode cL_finds 55 = .ok (.aload_n 1, 1) := by decide +kernel
theorem dL_finds_56 : decode cL_finds 56 = .ok (.iload_n 3, 1) := by decide +kernel
theorem dL_finds_57 : decode cL_finds 57 = .ok (.iaload, 1) := by decide +kernel
theorem dL_finds_58 : decode cL_finds 58 = .ok (.invokevirtual 29, 3) := by decide +kernel
theorem dL_finds_61 : decode cL_finds 61 = .ok (.ifCond .ne 37, 3) := by decide +kernel
theorem dL_finds_64 : decode cL_finds 64 = .ok (.iload 6, 2) := by decide +kernel
theorem dL_finds_66 : decode cL_finds 66 = .ok (.ifCond .eq 28, 3) := by decide +kernel
theorem dL_finds_69 : decode cL_finds 69 = .ok (.aload_n 0, 1) := by decide +kernel
theorem dL_finds_70 : decode cL_finds 70 = .ok (.iload_n 2, 1) := by decide +kernel
theorem dL_finds_71 : decode cL_finds 71 = .ok (.iload_n 3, 1) := by decide +kernel
theorem dL_finds_72 : decode cL_finds 72 = .ok (.iload 4, 2) := by decide +kernel
theorem dL_finds_74 : decode cL_finds 74 = .ok (.invokevirtual 20, 3) := by decide +kernel
theorem dL_finds_77 : decode cL_finds 77 = .ok (.ifCond .lt 21, 3) := by decide +kernel
theorem dL_finds_80 : decode cL_finds 80 = .ok (.aload_n 0, 1) := by decide +kernel
theorem dL_finds_81 : decode cL_finds 81 = .ok (.iload_n 2, 1) := by decide +kernel
theorem dL_finds_82 : decode cL_finds 82 = .ok (.iload_n 3, 1) := by decide +kernel
theorem dL_finds_83 : decode cL_finds 83 = .ok (.iload 4, 2) := by decide +kernel
theorem dL_finds_85 : decode cL_finds 85 = .ok (.invokevirtual 24, 3) := by decide +kernel
theorem dL_finds_88 : decode cL_finds 88 = .ok (.iload_n 3, 1) := by decide +kernel
theorem dL_finds_89 : decode cL_finds 89 = .ok (.iconst 1, 1) := by decide +kernel
theorem dL_finds_90 : decode cL_finds 90 = .ok (.isub, 1) := by decide +kernel
theorem dL_finds_91 : decode cL_finds 91 = .ok (.if_icmp .lt 7, 3) := by decide +kernel
theorem dL_finds_94 : decode cL_finds 94 = .ok (.iconst 1, 1) := by decide +kernel
theorem dL_finds_95 : decode cL_finds 95 = .ok (.goto 4, 3) := by decide +kernel
theorem dL_finds_98 : decode cL_finds 98 = .ok (.iconst 0, 1) := by decide +kernel
theorem dL_finds_99 : decode cL_finds 99 = .ok (.ireturn, 1) := by decide +kernel
set_option maxRecDepth 20000 in
theorem ggL_law_X6_init : GoodIn wsL_law wsX6_init := goodIn_r _ [6, 7, 8, 9, 10, 11, 12, 13, 14, 15, 16, 17, 18, 19, 20, 21, 22, 23, 24, 25, 26, 27, 28, 29, 30, 31, 32, 33, 34, 35, 36, 37, 38, 39, 40, 41, 42, 43, 44, 45, 46, 47, 48, 49, 50, 51, 52, 53, 54, 55, 3, 56, 57, 58, 59, 60, 61, 62, 63, 64, 65, 66, 67, 68, 69, 70, 71, 72, 542, 543, 538, 539, 540, 541, 544, 545, 546, 547, 548, 549, 550, 551, 552, 553, 554, 555, 556, 557, 558, 559, 560, 561, 562, 563, 564] (by decide +kernel) (by decide +kernel)
set_option maxRecDepth 20000 in
theorem gL_law_X6_init : GoodIn wsL_law (wsX6_init) := ggL_law_X6_init
set_option maxRecDepth 20000 in
theorem ggL_law_X6_rows : GoodIn wsL_law wsX6_rows := goodIn_ca (goodIn_r _ [76, 77, 78, 2, 79, 80, 81, 82, 83, 84, 85, 13, 14, 86, 87, 88, 12, 89, 29, 90, 91, 92, 93, 28, 94, 95, 96, 97, 98, 99, 33, 100, 101, 102, 103, 104, 105, 106, 107, 108, 109, 110, 111, 112, 113, 114, 115, 116, 38, 538, 539, 540, 541, 542, 543, 553, 554, 555, 556, 550, 551, 552] (by decide +kernel) (by decide +kernel)) (goodIn_sub (fun _ h => List.mem_append_left _ (List.mem_append_left _ (List.mem_append_right _ h))) (by decide +kernel))
set_option maxRecDepth 20000 in
theorem gL_law_X6_rows : GoodIn wsL_law (wsV RL 81 RX6 yX6_rows wsX6_rows) := goodIn_app (goodIn_of _ (by decide +kernel)) ggL_law_X6_rows
set_option maxRecDepth 20000 in
theorem ggL_law_X6_writes : GoodIn wsL_law wsX6_writes := goodIn_r _ [120, 18, 121, 538, 539, 540, 541, 544, 545, 546] (by decide +kernel) (by decide +kernel)
set_option maxRecDepth 20000 in
theorem gL_law_X6_writes : GoodIn wsL_law (wsV RL 84 RX6 yX6_writes wsX6_writes) := goodIn_app (goodIn_of _ (by decide +kernel)) ggL_law_X6_writes
set_option maxRecDepth 20000 in
theorem ggL_law_X6_known : GoodIn wsL_law wsX6_known := goodIn_ca (goodIn_r _ [125, 126, 127, 128, 2, 129, 130, 131, 20, 132, 133, 134, 22, 135, 136, 137, 138, 139, 140, 141, 142, 143, 62, 63, 144, 92, 93, 28, 94, 95, 145, 146, 147, 148, 67, 149, 150, 102, 103, 104, 105, 106, 107, 108, 109, 110, 111, 112, 113, 114, 115, 116, 38, 151, 152, 153, 66, 154, 155, 156, 538, 539, 540, 541, 547, 548, 549, 550, 551, 552, 557, 558, 559, 560, 561, 562, 563, 564] (by decide +kernel) (by decide +kernel)) (goodIn_sub (fun _ h => List.mem_append_left _ (List.mem_append_right _ h)) (by decide +kernel))
set_option maxRecDepth 20000 in
theorem gL_law_X6_known : GoodIn wsL_law (wsV RL 10 RX6 yX6_known wsX6_known) := goodIn_app (goodIn_of _ (by decide +kernel)) ggL_law_X6_known
set_option maxRecDepth 20000 in
theorem ggL_law_L_draw : GoodIn wsL_law wsL_draw := goodIn_r _ [160, 161, 162, 163] (by decide +kernel) (by decide +kernel)
set_option maxRecDepth 20000 in
theorem gL_law_L_draw : GoodIn wsL_law (va_wsS RL 111 yL_draw wsL_draw) := goodIn_app (goodIn_of _ (by decide +kernel)) ggL_law_L_draw
set_option maxRecDepth 20000 in
theorem ggL_law_L_step : GoodIn wsL_law wsL_step := goodIn_ca (goodIn_ca (goodIn_ca (goodIn_c9 (List.mem_of_getElem? (i := 166) rfl) (by decide +kernel) (goodIn_app (goodIn_app (goodIn_app (goodIn_app (goodIn_app (goodIn_app (goodIn_app (goodIn_app (goodIn_app gp_wsL_step_r1 (goodIn_app gp_wsL_step_r2 (goodIn_app gp_wsL_step_r3 (goodIn_app gp_wsL_step_r4 (goodIn_app gp_wsL_step_r5 (goodIn_app gp_wsL_step_r6 (goodIn_app gp_wsL_step_r7 (goodIn_app gp_wsL_step_r8 (goodIn_app gp_wsL_step_r9 (goodIn_app gp_wsL_step_r10 (goodIn_app gp_wsL_step_r11 (goodIn_app gp_wsL_step_r12 (goodIn_app gp_wsL_step_r13 (goodIn_app gp_wsL_step_r14 (goodIn_app gp_wsL_step_r15 (goodIn_app gp_wsL_step_r16 (goodIn_app gp_wsL_step_r17 (goodIn_app gp_wsL_step_r18 (goodIn_app gp_wsL_step_r19 (goodIn_app gp_wsL_step_r20 gp_wsL_step_r21)))))))))))))))))))) gp_wsX60) gp_wsX40) gp_wsJx4a65c0) gp_wsX00) gp_wsX50) gp_wsX30) gp_wsX20) gp_wsX10)) (goodIn_sub (fun _ h => List.mem_append_left _ (List.mem_append_right _ h)) (by decide +kernel))) (goodIn_sub (fun _ h => List.mem_append_left _ (List.mem_append_left _ (List.mem_append_right _ h))) (by decide +kernel))) (goodIn_sub (fun _ h => List.mem_append_right _ h) (by decide +kernel))
set_option maxRecDepth 20000 in
theorem gL_law_L_step : GoodIn wsL_law (va_wsS RL 115 yL_step wsL_step) := goodIn_app (goodIn_of _ (by decide +kernel)) ggL_law_L_step
theorem dL_law_0 : decode cL_law 0 = .ok (.new 11, 3) := by decide +kernel
theorem dL_law_3 : decode cL_law 3 = .ok (.dup, 1) := by decide +kernel
theorem dL_law_4 : decode cL_law 4 = .ok (.invokespecial 110, 3) := by decide +kernel
theorem dL_law_7 : decode cL_law 7 = .ok (.astore_n 1, 1) := by decide +kernel
theorem dL_law_8 : decode cL_law 8 = .ok (.iconst 4, 1) := by decide +kernel
theorem dL_law_9 : decode cL_law 9 = .ok (.newarray .int, 2) := by decide +kernel
theorem dL_law_11 : decode cL_law 11 = .ok (.astore_n 2, 1) := by decide +kernel
theorem dL_law_12 : decode cL_law 12 = .ok (.aload_n 1, 1) := by decide +kernel
theorem dL_law_13 : decode cL_law 13 = .ok (.iconst 0, 1) := by decide +kernel
theorem dL_law_14 : decode cL_law 14 = .ok (.invokevirtual 81, 3) := by decide +kernel
theorem dL_law_17 : decode cL_law 17 = .ok (.ifCond .ne 30, 3) := by decide +kernel
theorem dL_law_20 : decode cL_law 20 = .ok (.aload_n 1, 1) := by decide +kernel
theorem dL_law_21 : decode cL_law 21 = .ok (.iconst 1, 1) := by decide +kernel
theorem dL_law_22 : decode cL_law 22 = .ok (.invokevirtual 81, 3) := by decide +kernel
theorem dL_law_25 : decode cL_law 25 = .ok (.ifCond .ne 22, 3) := by decide +kernel
theorem dL_law_28 : decode cL_law 28 = .ok (.aload_n 1, 1) := by decide +kernel
theorem dL_law_29 : decode cL_law 29 = .ok (.invokevirtual 84, 3) := by decide +kernel
theorem dL_law_32 : decode cL_law 32 = .ok (.ifCond .ne 15, 3) := by decide +kernel
theorem dL_law_35 : decode cL_law 35 = .ok (.aload_n 1, 1) := by decide +kernel
theorem dL_law_36 : decode cL_law 36 = .ok (.iconst 2, 1) := by decide +kernel
theorem dL_law_37 : decode cL_law 37 = .ok (.invokevirtual 10, 3) := by decide +kernel
theorem dL_law_40 : decode cL_law 40 = .ok (.ifCond .ne 7, 3) := by decide +kernel
theorem dL_law_43 : decode cL_law 43 = .ok (.iconst 1, 1) := by decide +kernel
theorem dL_law_44 : decode cL_law 44 = .ok (.goto 4, 3) := by decide +kernel
theorem dL_law_47 : decode cL_law 47 = .ok (.iconst 0, 1) := by decide +kernel
theorem dL_law_48 : decode cL_law 48 = .ok (.istore_n 3, 1) := by decide +kernel
theorem dL_law_49 : decode cL_law 49 = .ok (.aload_n 0, 1) := by decide +kernel
theorem dL_law_50 : decode cL_law 50 = .ok (.arraylength, 1) := by decide +kernel
theorem dL_law_51 : decode cL_law 51 = .ok (.iconst 3, 1) := by decide +kernel
theorem dL_law_52 : decode cL_law 52 = .ok (.idiv, 1) := by decide +kernel
theorem dL_law_53 : decode cL_law 53 = .ok (.bipush 50, 2) := by decide +kernel
theorem dL_law_55 : decode cL_law 55 = .ok (.if_icmp .le 8, 3) := by decide +kernel
theorem dL_law_58 : decode cL_law 58 = .ok (.bipush 50, 2) := by decide +kernel
theorem dL_law_60 : decode cL_law 60 = .ok (.goto 7, 3) := by decide +kernel
theorem dL_law_63 : decode cL_law 63 = .ok (.aload_n 0, 1) := by decide +kernel
theorem dL_law_64 : decode cL_law 64 = .ok (.arraylength, 1) := by decide +kernel
theorem dL_law_65 : decode cL_law 65 = .ok (.iconst 3, 1) := by decide +kernel
theorem dL_law_66 : decode cL_law 66 = .ok (.idiv, 1) := by decide +kernel
theorem dL_law_67 : decode cL_law 67 = .ok (.istore 4, 2) := by decide +kernel
theorem dL_law_69 : decode cL_law 69 = .ok (.iconst 0, 1) := by decide +kernel
theorem dL_law_70 : decode cL_law 70 = .ok (.istore 5, 2) := by decide +kernel
theorem dL_law_72 : decode cL_law 72 = .ok (.iload 5, 2) := by decide +kernel
theorem dL_law_74 : decode cL_law 74 = .ok (.iload 4, 2) := by decide +kernel
theorem dL_law_76 : decode cL_law 76 = .ok (.if_icmp .ge 47, 3) := by decide +kernel
theorem dL_law_79 : decode cL_law 79 = .ok (.iload_n 3, 1) := by decide +kernel
theorem dL_law_80 : decode cL_law 80 = .ok (.ifCond .eq 43, 3) := by decide +kernel
theorem dL_law_83 : decode cL_law 83 = .ok (.aload_n 1, 1) := by decide +kernel
theorem dL_law_84 : decode cL_law 84 = .ok (.aload_n 2, 1) := by decide +kernel
theorem dL_law_85 : decode cL_law 85 = .ok (.aload_n 0, 1) := by decide +kernel
theorem dL_law_86 : decode cL_law 86 = .ok (.iconst 3, 1) := by decide +kernel
theorem dL_law_87 : decode cL_law 87 = .ok (.iload 5, 2) := by decide +kernel
theorem dL_law_89 : decode cL_law 89 = .ok (.imul, 1) := by decide +kernel
theorem dL_law_90 : decode cL_law 90 = .ok (.invokestatic 111, 3) := by decide +kernel
theorem dL_law_93 : decode cL_law 93 = .ok (.aload_n 0, 1) := by decide +kernel
theorem dL_law_94 : decode cL_law 94 = .ok (.iconst 3, 1) := by decide +kernel
theorem dL_law_95 : decode cL_law 95 = .ok (.iload 5, 2) := by decide +kernel
theorem dL_law_97 : decode cL_law 97 = .ok (.imul, 1) := by decide +kernel
theorem dL_law_98 : decode cL_law 98 = .ok (.iconst 1, 1) := by decide +kernel
theorem dL_law_99 : decode cL_law 99 = .ok (.iadd, 1) := by decide +kernel
theorem dL_law_100 : decode cL_law 100 = .ok (.invokestatic 111, 3) := by decide +kernel
theorem dL_law_103 : decode cL_law 103 = .ok (.aload_n 0, 1) := by decide +kernel
theorem dL_law_104 : decode cL_law 104 = .ok (.iconst 3, 1) := by decide +kernel
theorem dL_law_105 : decode cL_law 105 = .ok (.iload 5, 2) := by decide +kernel
theorem dL_law_107 : decode cL_law 107 = .ok (.imul, 1) := by decide +kernel
theorem dL_law_108 : decode cL_law 108 = .ok (.iconst 2, 1) := by decide +kernel
theorem dL_law_109 : decode cL_law 109 = .ok (.iadd, 1) := by decide +kernel
theorem dL_law_110 : decode cL_law 110 = .ok (.invokestatic 111, 3) := by decide +kernel
theorem dL_law_113 : decode cL_law 113 = .ok (.invokestatic 115, 3) := by decide +kernel
theorem dL_law_116 : decode cL_law 116 = .ok (.istore_n 3, 1) := by decide +kernel
theorem dL_law_117 : decode cL_law 117 = .ok (.iinc 5 1, 3) := by decide +kernel
theorem dL_law_120 : decode cL_law 120 = .ok (.goto (-48), 3) := by decide +kernel
theorem dL_law_123 : decode cL_law 123 = .ok (.iload_n 3, 1) := by decide +kernel
theorem dL_law_124 : decode cL_law 124 = .ok (.ireturn, 1) := by decide +kernel
