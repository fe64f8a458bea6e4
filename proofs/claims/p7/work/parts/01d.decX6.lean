theorem dX6_init_0 : decode cX6_init 0 = .ok (.aload_n 0, 1) := by decide +kernel
theorem dX6_init_1 : decode cX6_init 1 = .ok (.invokespecial 1, 3) := by decide +kernel
theorem dX6_init_4 : decode cX6_init 4 = .ok (.aload_n 0, 1) := by decide +kernel
theorem dX6_init_5 : decode cX6_init 5 = .ok (.new 7, 3) := by decide +kernel
theorem dX6_init_8 : decode cX6_init 8 = .ok (.dup, 1) := by decide +kernel
theorem dX6_init_9 : decode cX6_init 9 = .ok (.invokespecial 9, 3) := by decide +kernel
theorem dX6_init_12 : decode cX6_init 12 = .ok (.putfield 10, 3) := by decide +kernel
theorem dX6_init_15 : decode cX6_init 15 = .ok (.aload_n 0, 1) := by decide +kernel
theorem dX6_init_16 : decode cX6_init 16 = .ok (.new 7, 3) := by decide +kernel
theorem dX6_init_19 : decode cX6_init 19 = .ok (.dup, 1) := by decide +kernel
theorem dX6_init_20 : decode cX6_init 20 = .ok (.invokespecial 9, 3) := by decide +kernel
theorem dX6_init_23 : decode cX6_init 23 = .ok (.putfield 16, 3) := by decide +kernel
theorem dX6_init_26 : decode cX6_init 26 = .ok (.aload_n 0, 1) := by decide +kernel
theorem dX6_init_27 : decode cX6_init 27 = .ok (.new 19, 3) := by decide +kernel
theorem dX6_init_30 : decode cX6_init 30 = .ok (.dup, 1) := by decide +kernel
theorem dX6_init_31 : decode cX6_init 31 = .ok (.invokespecial 21, 3) := by decide +kernel
theorem dX6_init_34 : decode cX6_init 34 = .ok (.putfield 22, 3) := by decide +kernel
theorem dX6_init_37 : decode cX6_init 37 = .ok (.aload_n 0, 1) := by decide +kernel
theorem dX6_init_38 : decode cX6_init 38 = .ok (.iconst 3, 1) := by decide +kernel
theorem dX6_init_39 : decode cX6_init 39 = .ok (.anewarray 26, 3) := by decide +kernel
theorem dX6_init_42 : decode cX6_init 42 = .ok (.putfield 28, 3) := by decide +kernel
theorem dX6_init_45 : decode cX6_init 45 = .ok (.iconst 0, 1) := by decide +kernel
theorem dX6_init_46 : decode cX6_init 46 = .ok (.istore_n 1, 1) := by decide +kernel
theorem dX6_init_47 : decode cX6_init 47 = .ok (.iload_n 1, 1) := by decide +kernel
theorem dX6_init_48 : decode cX6_init 48 = .ok (.aload_n 0, 1) := by decide +kernel
theorem dX6_init_49 : decode cX6_init 49 = .ok (.getfield 28, 3) := by decide +kernel
theorem dX6_init_52 : decode cX6_init 52 = .ok (.arraylength, 1) := by decide +kernel
theorem dX6_init_53 : decode cX6_init 53 = .ok (.if_icmp .ge 22, 3) := by decide +kernel
theorem dX6_init_56 : decode cX6_init 56 = .ok (.aload_n 0, 1) := by decide +kernel
theorem dX6_init_57 : decode cX6_init 57 = .ok (.getfield 28, 3) := by decide +kernel
theorem dX6_init_60 : decode cX6_init 60 = .ok (.iload_n 1, 1) := by decide +kernel
theorem dX6_init_61 : decode cX6_init 61 = .ok (.new 26, 3) := by decide +kernel
theorem dX6_init_64 : decode cX6_init 64 = .ok (.dup, 1) := by decide +kernel
theorem dX6_init_65 : decode cX6_init 65 = .ok (.invokespecial 32, 3) := by decide +kernel
theorem dX6_init_68 : decode cX6_init 68 = .ok (.aastore, 1) := by decide +kernel
theorem dX6_init_69 : decode cX6_init 69 = .ok (.iinc 1 1, 3) := by decide +kernel
theorem dX6_init_72 : decode cX6_init 72 = .ok (.goto (-25), 3) := by decide +kernel
theorem dX6_init_75 : decode cX6_init 75 = .ok (.return_, 1) := by decide +kernel
set_option maxRecDepth 20000 in
theorem ggX6_makeAuthor_X6_sessionAt : GoodIn wsX6_makeAuthor wsX6_sessionAt := goodIn_ca (goodIn_r _ [5, 6, 7, 8, 151, 152, 153, 154] rfl (by decide +kernel)) (goodIn_sub (fun _ h => List.mem_cons_of_mem _ (List.mem_append_left _ (List.mem_append_right _ h))) (by decide +kernel))
set_option maxRecDepth 20000 in
theorem gX6_makeAuthor_X6_sessionAt : GoodIn wsX6_makeAuthor (wsV RX6 33 RX6 yX6_sessionAt wsX6_sessionAt) := goodIn_app (goodIn_r _ [1, 2, 3, 4] rfl (by decide +kernel)) ggX6_makeAuthor_X6_sessionAt
set_option maxRecDepth 20000 in
theorem ggX6_makeAuthor_X6_checkRangeOfName : GoodIn wsX6_makeAuthor wsX6_checkRangeOfName := goodIn_ca (goodIn_r _ [11, 12, 13] rfl (by decide +kernel)) (goodIn_sub (fun _ h => List.mem_cons_of_mem _ (List.mem_append_right _ h)) (by decide +kernel))
set_option maxRecDepth 20000 in
theorem gX6_makeAuthor_X6_checkRangeOfName : GoodIn wsX6_makeAuthor (va_wsS RX6 37 yX6_checkRangeOfName wsX6_checkRangeOfName) := goodIn_app (goodIn_r _ [9, 10, 4] rfl (by decide +kernel)) ggX6_makeAuthor_X6_checkRangeOfName
set_option maxRecDepth 20000 in
theorem ggX6_makeAuthor_X6_makeEntity : GoodIn wsX6_makeAuthor wsX6_makeEntity := goodIn_r _ [17, 8, 18, 19, 20, 4, 21, 22, 23, 24, 25, 26, 27, 28, 29, 30, 31, 32, 33, 34, 35, 36, 37, 38, 39, 40, 41, 42, 43, 44, 45, 46, 47, 48, 49, 50, 51, 52, 53, 54, 55, 56, 57, 58, 59, 60, 61, 62, 63, 64, 65, 66, 67, 68, 69, 70, 71, 72, 73, 74, 75, 76, 77, 78, 79, 80, 81, 82, 83, 84, 85, 86, 87, 88, 89, 90, 91, 92, 93, 94, 95, 96, 97, 98, 99, 100, 101, 102, 103, 104, 105, 106, 107, 108, 109, 110, 111, 112, 113, 114, 115, 116, 117, 118, 119, 120, 121, 122, 123, 124, 125, 126, 127, 128, 129, 130, 131, 132, 133, 134, 135, 136, 137, 138, 139, 140, 141, 142, 143, 144, 145, 146, 147, 148, 149, 150, 151, 152, 153, 154, 155, 156, 157, 158, 159, 160, 161, 162, 163, 164, 165, 166, 167, 168, 169, 170, 171, 172, 173, 174] rfl (by decide +kernel)
set_option maxRecDepth 20000 in
theorem gX6_makeAuthor_X6_makeEntity : GoodIn wsX6_makeAuthor (wsV RX6 41 RX6 yX6_makeEntity wsX6_makeEntity) := goodIn_app (goodIn_r _ [14, 15, 16, 4] rfl (by decide +kernel)) ggX6_makeAuthor_X6_makeEntity
theorem dX6_makeAuthor_0 : decode cX6_makeAuthor 0 = .ok (.aload_n 0, 1) := by decide +kernel
theorem dX6_makeAuthor_1 : decode cX6_makeAuthor 1 = .ok (.iload_n 1, 1) := by decide +kernel
theorem dX6_makeAuthor_2 : decode cX6_makeAuthor 2 = .ok (.invokevirtual 33, 3) := by decide +kernel
theorem dX6_makeAuthor_5 : decode cX6_makeAuthor 5 = .ok (.astore_n 3, 1) := by decide +kernel
theorem dX6_makeAuthor_6 : decode cX6_makeAuthor 6 = .ok (.iload_n 2, 1) := by decide +kernel
theorem dX6_makeAuthor_7 : decode cX6_makeAuthor 7 = .ok (.invokestatic 37, 3) := by decide +kernel
theorem dX6_makeAuthor_10 : decode cX6_makeAuthor 10 = .ok (.aload_n 0, 1) := by decide +kernel
theorem dX6_makeAuthor_11 : decode cX6_makeAuthor 11 = .ok (.aload_n 3, 1) := by decide +kernel
theorem dX6_makeAuthor_12 : decode cX6_makeAuthor 12 = .ok (.iconst 0, 1) := by decide +kernel
theorem dX6_makeAuthor_13 : decode cX6_makeAuthor 13 = .ok (.iload_n 2, 1) := by decide +kernel
theorem dX6_makeAuthor_14 : decode cX6_makeAuthor 14 = .ok (.iconst (-1), 1) := by decide +kernel
theorem dX6_makeAuthor_15 : decode cX6_makeAuthor 15 = .ok (.invokevirtual 41, 3) := by decide +kernel
theorem dX6_makeAuthor_18 : decode cX6_makeAuthor 18 = .ok (.ireturn, 1) := by decide +kernel
set_option maxRecDepth 20000 in
theorem ggX6_makeBook_X6_sessionAt : GoodIn wsX6_makeBook wsX6_sessionAt := goodIn_ca (goodIn_r _ [5, 6, 7, 8, 161, 162, 163, 164] rfl (by decide +kernel)) (goodIn_sub (fun _ h => List.mem_cons_of_mem _ (List.mem_append_left _ (List.mem_append_left _ (List.mem_append_right _ h)))) (by decide +kernel))
set_option maxRecDepth 20000 in
theorem gX6_makeBook_X6_sessionAt : GoodIn wsX6_makeBook (wsV RX6 33 RX6 yX6_sessionAt wsX6_sessionAt) := goodIn_app (goodIn_r _ [1, 2, 3, 4] rfl (by decide +kernel)) ggX6_makeBook_X6_sessionAt
set_option maxRecDepth 20000 in
theorem ggX6_makeBook_X6_checkRangeOfName : GoodIn wsX6_makeBook wsX6_checkRangeOfName := goodIn_ca (goodIn_r _ [11, 12, 13] rfl (by decide +kernel)) (goodIn_sub (fun _ h => List.mem_cons_of_mem _ (List.mem_append_left _ (List.mem_append_right _ h))) (by decide +kernel))
set_option maxRecDepth 20000 in
theorem gX6_makeBook_X6_checkRangeOfName : GoodIn wsX6_makeBook (va_wsS RX6 37 yX6_checkRangeOfName wsX6_checkRangeOfName) := goodIn_app (goodIn_r _ [9, 10, 4] rfl (by decide +kernel)) ggX6_makeBook_X6_checkRangeOfName
set_option maxRecDepth 20000 in
theorem ggX6_makeBook_X6_checkLive : GoodIn wsX6_makeBook wsX6_checkLive := goodIn_ca (goodIn_r _ [16, 17, 18, 19, 20, 21, 22, 23, 24, 25, 26, 27, 28, 29, 30, 31, 32, 33, 34, 35, 36, 37, 38, 39, 40, 41, 42, 43, 44, 45, 46, 47, 48, 49, 50, 51, 52, 53, 54, 55, 56, 57, 58, 59, 60, 61, 165, 166, 167, 168, 169, 170, 171, 172, 173, 174, 175, 176, 177, 178] rfl (by decide +kernel)) (goodIn_sub (fun _ h => List.mem_cons_of_mem _ (List.mem_append_right _ h)) (by decide +kernel))
set_option maxRecDepth 20000 in
theorem gX6_makeBook_X6_checkLive : GoodIn wsX6_makeBook (va_wsS RX6 45 yX6_checkLive wsX6_checkLive) := goodIn_app (goodIn_r _ [14, 15, 4] rfl (by decide +kernel)) ggX6_makeBook_X6_checkLive
set_option maxRecDepth 20000 in
theorem ggX6_makeBook_X6_makeEntity : GoodIn wsX6_makeBook wsX6_makeEntity := goodIn_r _ [65, 8, 66, 67, 68, 4, 69, 70, 71, 72, 73, 74, 75, 76, 77, 78, 33, 34, 35, 36, 37, 79, 80, 81, 82, 83, 84, 85, 86, 87, 88, 89, 90, 91, 92, 93, 94, 95, 96, 97, 54, 98, 99, 100, 101, 102, 103, 104, 105, 106, 107, 108, 109, 110, 111, 112, 113, 114, 115, 116, 117, 118, 119, 120, 121, 122, 123, 124, 125, 126, 127, 128, 129, 130, 131, 132, 133, 134, 135, 136, 137, 138, 139, 140, 141, 142, 143, 144, 145, 146, 147, 22, 148, 149, 150, 58, 26, 27, 28, 29, 30, 31, 151, 152, 153, 154, 155, 19, 20, 21, 23, 24, 25, 32, 38, 39, 40, 41, 42, 43, 44, 45, 46, 47, 48, 49, 50, 51, 52, 53, 156, 157, 158, 159, 60, 160, 161, 162, 163, 164, 179, 180, 168, 169, 170, 181, 182, 183, 184, 171, 172, 173, 174, 175, 176, 177, 178, 165, 166, 167] rfl (by decide +kernel)
set_option maxRecDepth 20000 in
theorem gX6_makeBook_X6_makeEntity : GoodIn wsX6_makeBook (wsV RX6 41 RX6 yX6_makeEntity wsX6_makeEntity) := goodIn_app (goodIn_r _ [62, 63, 64, 4] rfl (by decide +kernel)) ggX6_makeBook_X6_makeEntity
theorem dX6_makeBook_0 : decode cX6_makeBook 0 = .ok (.aload_n 0, 1) := by decide +kernel
theorem dX6_makeBook_1 : decode cX6_makeBook 1 = .ok (.iload_n 1, 1) := by decide +kernel
theorem dX6_makeBook_2 : decode cX6_makeBook 2 = .ok (.invokevirtual 33, 3) := by decide +kernel
theorem dX6_makeBook_5 : decode cX6_makeBook 5 = .ok (.astore 4, 2) := by decide +kernel
theorem dX6_makeBook_7 : decode cX6_makeBook 7 = .ok (.iload_n 2, 1) := by decide +kernel
theorem dX6_makeBook_8 : decode cX6_makeBook 8 = .ok (.invokestatic 37, 3) := by decide +kernel
theorem dX6_makeBook_11 : decode cX6_makeBook 11 = .ok (.aload 4, 2) := by decide +kernel
theorem dX6_makeBook_13 : decode cX6_makeBook 13 = .ok (.iconst 0, 1) := by decide +kernel
theorem dX6_makeBook_14 : decode cX6_makeBook 14 = .ok (.iload_n 3, 1) := by decide +kernel
theorem dX6_makeBook_15 : decode cX6_makeBook 15 = .ok (.invokestatic 45, 3) := by decide +kernel
theorem dX6_makeBook_18 : decode cX6_makeBook 18 = .ok (.aload_n 0, 1) := by decide +kernel
theorem dX6_makeBook_19 : decode cX6_makeBook 19 = .ok (.aload 4, 2) := by decide +kernel
theorem dX6_makeBook_21 : decode cX6_makeBook 21 = .ok (.iconst 1, 1) := by decide +kernel
theorem dX6_makeBook_22 : decode cX6_makeBook 22 = .ok (.iload_n 2, 1) := by decide +kernel
theorem dX6_makeBook_23 : decode cX6_makeBook 23 = .ok (.iload_n 3, 1) := by decide +kernel
theorem dX6_makeBook_24 : decode cX6_makeBook 24 = .ok (.invokevirtual 41, 3) := by decide +kernel
theorem dX6_makeBook_27 : decode cX6_makeBook 27 = .ok (.ireturn, 1) := by decide +kernel
set_option maxRecDepth 20000 in
theorem ggX6_find_X6_sessionAt : GoodIn wsX6_find wsX6_sessionAt := goodIn_ca (goodIn_r _ [7, 8, 9, 10, 108, 109, 110, 111] rfl (by decide +kernel)) (goodIn_sub (fun _ h => List.mem_cons_of_mem _ (List.mem_append_left _ (List.mem_append_right _ h))) (by decide +kernel))
set_option maxRecDepth 20000 in
theorem gX6_find_X6_sessionAt : GoodIn wsX6_find (wsV RX6 33 RX6 yX6_sessionAt wsX6_sessionAt) := goodIn_app (goodIn_r _ [3, 4, 5, 6] rfl (by decide +kernel)) ggX6_find_X6_sessionAt
set_option maxRecDepth 20000 in
theorem ggX6_find_X6_checkKind : GoodIn wsX6_find wsX6_checkKind := goodIn_ca (goodIn_r _ [13, 14, 15] rfl (by decide +kernel)) (goodIn_sub (fun _ h => List.mem_cons_of_mem _ (List.mem_append_right _ h)) (by decide +kernel))
set_option maxRecDepth 20000 in
theorem gX6_find_X6_checkKind : GoodIn wsX6_find (va_wsS RX6 49 yX6_checkKind wsX6_checkKind) := goodIn_app (goodIn_r _ [11, 12, 6] rfl (by decide +kernel)) ggX6_find_X6_checkKind
set_option maxRecDepth 20000 in
theorem ggX6_find_X6_tableOf : GoodIn wsX6_find wsX6_tableOf := goodIn_r _ [19, 20, 21, 108, 109, 110, 111] rfl (by decide +kernel)
set_option maxRecDepth 20000 in
theorem gX6_find_X6_tableOf : GoodIn wsX6_find (wsV RX6 52 RX6 yX6_tableOf wsX6_tableOf) := goodIn_app (goodIn_r _ [16, 17, 18, 6] rfl (by decide +kernel)) ggX6_find_X6_tableOf
set_option maxRecDepth 20000 in
theorem ggX6_find_X5_rowAt : GoodIn wsX6_find wsX5_rowAt := goodIn_r _ [26, 27, 28, 29, 30, 31, 32, 33, 34, 35, 36, 37, 38, 39, 40, 41, 42, 43, 44, 45, 46, 47, 48, 49, 50, 51, 52, 112, 113, 114, 115, 116] rfl (by decide +kernel)
set_option maxRecDepth 20000 in
theorem gX6_find_X5_rowAt : GoodIn wsX6_find (wsV RX6 56 RX5 yX5_rowAt wsX5_rowAt) := goodIn_app (goodIn_r _ [22, 23, 24, 25] rfl (by decide +kernel)) ggX6_find_X5_rowAt
set_option maxRecDepth 20000 in
theorem ggX6_find_X4_entityAt : GoodIn wsX6_find wsX4_entityAt := goodIn_r _ [57, 58, 59, 60, 61, 62, 56, 63, 64, 65, 66, 31, 32, 33, 34, 35, 67, 37, 38, 39, 40, 41, 42, 43, 44, 45, 46, 47, 48, 49, 50, 51, 52, 117, 118, 119, 114, 115, 116] rfl (by decide +kernel)
set_option maxRecDepth 20000 in
theorem gX6_find_X4_entityAt : GoodIn wsX6_find (wsV RX6 60 RX4 yX4_entityAt wsX4_entityAt) := goodIn_app (goodIn_r _ [53, 54, 55, 56] rfl (by decide +kernel)) ggX6_find_X4_entityAt
set_option maxRecDepth 20000 in
theorem ggX6_find_X0_load : GoodIn wsX6_find wsX0_load := goodIn_r _ [72, 73, 74, 75, 76, 77, 71, 78, 79, 80, 81, 82, 83, 84, 85, 86, 87, 88, 89, 90, 96, 97, 98, 99, 100, 101, 102, 103, 104, 105, 106, 107] rfl (by decide +kernel)
set_option maxRecDepth 20000 in
theorem gX6_find_X0_load : GoodIn wsX6_find (wsV RX6 75 RX0 yX0_load wsX0_load) := goodIn_app (goodIn_r _ [68, 69, 70, 71] rfl (by decide +kernel)) ggX6_find_X0_load
set_option maxRecDepth 20000 in
theorem ggX6_find_X0_isLive : GoodIn wsX6_find wsX0_isLive := goodIn_r _ [94, 79, 95, 100, 101, 102, 103, 104, 105, 106, 107] rfl (by decide +kernel)
set_option maxRecDepth 20000 in
theorem gX6_find_X0_isLive : GoodIn wsX6_find (wsV RX6 79 RX0 yX0_isLive wsX0_isLive) := goodIn_app (goodIn_r _ [91, 92, 93, 71] rfl (by decide +kernel)) ggX6_find_X0_isLive
theorem dX6_find_0 : decode cX6_find 0 = .ok (.aload_n 0, 1) := by decide +kernel
theorem dX6_find_1 : decode cX6_find 1 = .ok (.iload_n 1, 1) := by decide +kernel
theorem dX6_find_2 : decode cX6_find 2 = .ok (.invokevirtual 33, 3) := by decide +kernel
theorem dX6_find_5 : decode cX6_find 5 = .ok (.astore 4, 2) := by decide +kernel
theorem dX6_find_7 : decode cX6_find 7 = .ok (.iload_n 2, 1) := by decide +kernel
theorem dX6_find_8 : decode cX6_find 8 = .ok (.invokestatic 49, 3) := by decide +kernel
theorem dX6_find_11 : decode cX6_find 11 = .ok (.aload_n 0, 1) := by decide +kernel
theorem dX6_find_12 : decode cX6_find 12 = .ok (.iload_n 2, 1) := by decide +kernel
theorem dX6_find_13 : decode cX6_find 13 = .ok (.invokevirtual 52, 3) := by decide +kernel
theorem dX6_find_16 : decode cX6_find 16 = .ok (.iload_n 3, 1) := by decide +kernel
theorem dX6_find_17 : decode cX6_find 17 = .ok (.invokevirtual 56, 3) := by decide +kernel
theorem dX6_find_20 : decode cX6_find 20 = .ok (.astore 5, 2) := by decide +kernel
theorem dX6_find_22 : decode cX6_find 22 = .ok (.aload 4, 2) := by decide +kernel
theorem dX6_find_24 : decode cX6_find 24 = .ok (.iload_n 2, 1) := by decide +kernel
theorem dX6_find_25 : decode cX6_find 25 = .ok (.iload_n 3, 1) := by decide +kernel
theorem dX6_find_26 : decode cX6_find 26 = .ok (.invokevirtual 60, 3) := by decide +kernel
theorem dX6_find_29 : decode cX6_find 29 = .ok (.astore 6, 2) := by decide +kernel
theorem dX6_find_31 : decode cX6_find 31 = .ok (.aload 5, 2) := by decide +kernel
theorem dX6_find_33 : decode cX6_find 33 = .ok (.getfield 64, 3) := by decide +kernel
theorem dX6_find_36 : decode cX6_find 36 = .ok (.ifCond .eq 18, 3) := by decide +kernel
theorem dX6_find_39 : decode cX6_find 39 = .ok (.aload 6, 2) := by decide +kernel
theorem dX6_find_41 : decode cX6_find 41 = .ok (.getfield 70, 3) := by decide +kernel
theorem dX6_find_44 : decode cX6_find 44 = .ok (.ifCond .ne 10, 3) := by decide +kernel
theorem dX6_find_47 : decode cX6_find 47 = .ok (.aload 6, 2) := by decide +kernel
theorem dX6_find_49 : decode cX6_find 49 = .ok (.aload 5, 2) := by decide +kernel
theorem dX6_find_51 : decode cX6_find 51 = .ok (.invokevirtual 75, 3) := by decide +kernel
theorem dX6_find_54 : decode cX6_find 54 = .ok (.aload 6, 2) := by decide +kernel
theorem dX6_find_56 : decode cX6_find 56 = .ok (.invokevirtual 79, 3) := by decide +kernel
theorem dX6_find_59 : decode cX6_find 59 = .ok (.ireturn, 1) := by decide +kernel
set_option maxRecDepth 20000 in
theorem ggX6_books_X6_sessionAt : GoodIn wsX6_books wsX6_sessionAt := goodIn_ca (goodIn_r _ [5, 6, 7, 8, 114, 115, 116, 117] rfl (by decide +kernel)) (goodIn_sub (fun _ h => List.mem_cons_of_mem _ (List.mem_append_left _ (List.mem_append_right _ h))) (by decide +kernel))
set_option maxRecDepth 20000 in
theorem gX6_books_X6_sessionAt : GoodIn wsX6_books (wsV RX6 33 RX6 yX6_sessionAt wsX6_sessionAt) := goodIn_app (goodIn_r _ [1, 2, 3, 4] rfl (by decide +kernel)) ggX6_books_X6_sessionAt
set_option maxRecDepth 20000 in
theorem ggX6_books_X6_checkLive : GoodIn wsX6_books wsX6_checkLive := goodIn_ca (goodIn_r _ [11, 12, 13, 14, 15, 16, 17, 18, 19, 20, 21, 22, 23, 24, 25, 26, 27, 28, 29, 30, 31, 32, 33, 34, 35, 36, 37, 38, 39, 40, 41, 42, 43, 44, 45, 46, 47, 48, 49, 50, 51, 52, 53, 54, 55, 56, 118, 119, 120, 121, 122, 123, 124, 125, 126, 127, 128, 129, 130, 131] rfl (by decide +kernel)) (goodIn_sub (fun _ h => List.mem_cons_of_mem _ (List.mem_append_right _ h)) (by decide +kernel))
set_option maxRecDepth 20000 in
theorem gX6_books_X6_checkLive : GoodIn wsX6_books (va_wsS RX6 45 yX6_checkLive wsX6_checkLive) := goodIn_app (goodIn_r _ [9, 10, 4] rfl (by decide +kernel)) ggX6_books_X6_checkLive
set_option maxRecDepth 20000 in
theorem ggX6_books_X6_loadReferring : GoodIn wsX6_books wsX6_loadReferring := goodIn_r _ [60, 61, 62, 63, 64, 65, 66, 4, 67, 68, 69, 70, 71, 72, 73, 74, 75, 76, 28, 29, 30, 31, 32, 77, 78, 79, 80, 81, 82, 83, 34, 35, 36, 37, 38, 39, 40, 41, 42, 43, 44, 45, 46, 47, 48, 49, 14, 15, 16, 17, 18, 19, 20, 21, 22, 23, 24, 25, 26, 27, 33, 84, 85, 86, 53, 87, 88, 89, 90, 91, 92, 93, 55, 94, 95, 96, 97, 98, 99, 100, 101, 102, 103, 104, 132, 133, 134, 135, 124, 125, 126, 127, 128, 129, 130, 131, 114, 115, 116, 117, 136, 137, 121, 122, 123, 118, 119, 120] rfl (by decide +kernel)
set_option maxRecDepth 20000 in
theorem gX6_books_X6_loadReferring : GoodIn wsX6_books (wsV RX6 83 RX6 yX6_loadReferring wsX6_loadReferring) := goodIn_app (goodIn_r _ [57, 58, 59, 4] rfl (by decide +kernel)) ggX6_books_X6_loadReferring
set_option maxRecDepth 20000 in
theorem ggX6_books_X4_sizeOf : GoodIn wsX6_books wsX4_sizeOf := goodIn_r _ [108, 21, 22, 23, 17, 24, 25, 26, 27, 28, 29, 30, 31, 32, 118, 119, 120, 121, 122, 123] rfl (by decide +kernel)
set_option maxRecDepth 20000 in
theorem gX6_books_X4_sizeOf : GoodIn wsX6_books (wsV RX6 86 RX4 yX4_sizeOf wsX4_sizeOf) := goodIn_app (goodIn_r _ [105, 106, 107, 17] rfl (by decide +kernel)) ggX6_books_X4_sizeOf
set_option maxRecDepth 20000 in
theorem ggX6_books_X4_entityAt : GoodIn wsX6_books wsX4_entityAt := goodIn_r _ [18, 19, 20, 21, 22, 23, 17, 24, 25, 26, 27, 28, 29, 30, 31, 32, 33, 34, 35, 36, 37, 38, 39, 40, 41, 42, 43, 44, 45, 46, 47, 48, 49, 118, 119, 120, 121, 122, 123] rfl (by decide +kernel)
set_option maxRecDepth 20000 in
theorem gX6_books_X4_entityAt : GoodIn wsX6_books (wsV RX6 60 RX4 yX4_entityAt wsX4_entityAt) := goodIn_app (goodIn_r _ [14, 15, 16, 17] rfl (by decide +kernel)) ggX6_books_X4_entityAt
set_option maxRecDepth 20000 in
theorem ggX6_books_X0_isLiveAndRefersTo : GoodIn wsX6_books wsX0_isLiveAndRefersTo := goodIn_r _ [112, 95, 113, 51, 52, 53, 54, 55, 56, 124, 125, 126, 127, 128, 129, 130, 131] rfl (by decide +kernel)
set_option maxRecDepth 20000 in
theorem gX6_books_X0_isLiveAndRefersTo : GoodIn wsX6_books (wsV RX6 90 RX0 yX0_isLiveAndRefersTo wsX0_isLiveAndRefersTo) := goodIn_app (goodIn_r _ [109, 110, 111, 53] rfl (by decide +kernel)) ggX6_books_X0_isLiveAndRefersTo
theorem dX6_books_0 : decode cX6_books 0 = .ok (.aload_n 0, 1) := by decide +kernel
theorem dX6_books_1 : decode cX6_books 1 = .ok (.iload_n 1, 1) := by decide +kernel
theorem dX6_books_2 : decode cX6_books 2 = .ok (.invokevirtual 33, 3) := by decide +kernel
theorem dX6_books_5 : decode cX6_books 5 = .ok (.astore_n 3, 1) := by decide +kernel
theorem dX6_books_6 : decode cX6_books 6 = .ok (.aload_n 3, 1) := by decide +kernel
theorem dX6_books_7 : decode cX6_books 7 = .ok (.iconst 0, 1) := by decide +kernel
theorem dX6_books_8 : decode cX6_books 8 = .ok (.iload_n 2, 1) := by decide +kernel
theorem dX6_books_9 : decode cX6_books 9 = .ok (.invokestatic 45, 3) := by decide +kernel
theorem dX6_books_12 : decode cX6_books 12 = .ok (.aload_n 0, 1) := by decide +kernel
theorem dX6_books_13 : decode cX6_books 13 = .ok (.aload_n 3, 1) := by decide +kernel
theorem dX6_books_14 : decode cX6_books 14 = .ok (.iconst 1, 1) := by decide +kernel
theorem dX6_books_15 : decode cX6_books 15 = .ok (.iload_n 2, 1) := by decide +kernel
theorem dX6_books_16 : decode cX6_books 16 = .ok (.invokevirtual 83, 3) := by decide +kernel
theorem dX6_books_19 : decode cX6_books 19 = .ok (.iconst 0, 1) := by decide +kernel
theorem dX6_books_20 : decode cX6_books 20 = .ok (.istore 4, 2) := by decide +kernel
theorem dX6_books_22 : decode cX6_books 22 = .ok (.iconst 0, 1) := by decide +kernel
theorem dX6_books_23 : decode cX6_books 23 = .ok (.istore 5, 2) := by decide +kernel
theorem dX6_books_25 : decode cX6_books 25 = .ok (.iload 5, 2) := by decide +kernel
theorem dX6_books_27 : decode cX6_books 27 = .ok (.aload_n 3, 1) := by decide +kernel
theorem dX6_books_28 : decode cX6_books 28 = .ok (.iconst 1, 1) := by decide +kernel
theorem dX6_books_29 : decode cX6_books 29 = .ok (.invokevirtual 86, 3) := by decide +kernel
theorem dX6_books_32 : decode cX6_books 32 = .ok (.if_icmp .ge 26, 3) := by decide +kernel
theorem dX6_books_35 : decode cX6_books 35 = .ok (.aload_n 3, 1) := by decide +kernel
theorem dX6_books_36 : decode cX6_books 36 = .ok (.iconst 1, 1) := by decide +kernel
theorem dX6_books_37 : decode cX6_books 37 = .ok (.iload 5, 2) := by decide +kernel
theorem dX6_books_39 : decode cX6_books 39 = .ok (.invokevirtual 60, 3) := by decide +kernel
theorem dX6_books_42 : decode cX6_books 42 = .ok (.iload_n 2, 1) := by decide +kernel
theorem dX6_books_43 : decode cX6_books 43 = .ok (.invokevirtual 90, 3) := by decide +kernel
theorem dX6_books_46 : decode cX6_books 46 = .ok (.ifCond .eq 6, 3) := by decide +kernel
theorem dX6_books_49 : decode cX6_books 49 = .ok (.iinc 4 1, 3) := by decide +kernel
theorem dX6_books_52 : decode cX6_books 52 = .ok (.iinc 5 1, 3) := by decide +kernel
theorem dX6_books_55 : decode cX6_books 55 = .ok (.goto (-30), 3) := by decide +kernel
theorem dX6_books_58 : decode cX6_books 58 = .ok (.iload 4, 2) := by decide +kernel
theorem dX6_books_60 : decode cX6_books 60 = .ok (.ireturn, 1) := by decide +kernel
set_option maxRecDepth 20000 in
theorem ggX6_setName_X6_sessionAt : GoodIn wsX6_setName wsX6_sessionAt := goodIn_ca (goodIn_r _ [6, 7, 8, 9, 74, 75, 76, 77] rfl (by decide +kernel)) (goodIn_sub (fun _ h => List.mem_cons_of_mem _ (List.mem_append_left _ (List.mem_append_left _ (List.mem_append_right _ h)))) (by decide +kernel))
set_option maxRecDepth 20000 in
theorem gX6_setName_X6_sessionAt : GoodIn wsX6_setName (wsV RX6 33 RX6 yX6_sessionAt wsX6_sessionAt) := goodIn_app (goodIn_r _ [2, 3, 4, 5] rfl (by decide +kernel)) ggX6_setName_X6_sessionAt
set_option maxRecDepth 20000 in
theorem ggX6_setName_X6_checkKind : GoodIn wsX6_setName wsX6_checkKind := goodIn_ca (goodIn_r _ [12, 13, 14] rfl (by decide +kernel)) (goodIn_sub (fun _ h => List.mem_cons_of_mem _ (List.mem_append_left _ (List.mem_append_right _ h))) (by decide +kernel))
set_option maxRecDepth 20000 in
theorem gX6_setName_X6_checkKind : GoodIn wsX6_setName (va_wsS RX6 49 yX6_checkKind wsX6_checkKind) := goodIn_app (goodIn_r _ [10, 11, 5] rfl (by decide +kernel)) ggX6_setName_X6_checkKind
set_option maxRecDepth 20000 in
theorem ggX6_setName_X6_checkRangeOfName : GoodIn wsX6_setName wsX6_checkRangeOfName := goodIn_ca (goodIn_r _ [17, 13, 14] rfl (by decide +kernel)) (goodIn_sub (fun _ h => List.mem_cons_of_mem _ (List.mem_append_left _ (List.mem_append_right _ h))) (by decide +kernel))
set_option maxRecDepth 20000 in
theorem gX6_setName_X6_checkRangeOfName : GoodIn wsX6_setName (va_wsS RX6 37 yX6_checkRangeOfName wsX6_checkRangeOfName) := goodIn_app (goodIn_r _ [15, 16, 5] rfl (by decide +kernel)) ggX6_setName_X6_checkRangeOfName
set_option maxRecDepth 20000 in
theorem ggX6_setName_X6_checkLive : GoodIn wsX6_setName wsX6_checkLive := goodIn_ca (goodIn_r _ [20, 21, 22, 23, 24, 25, 26, 27, 28, 29, 30, 31, 32, 33, 34, 35, 36, 37, 38, 39, 40, 41, 42, 43, 44, 45, 46, 47, 48, 49, 50, 51, 52, 53, 54, 55, 56, 57, 58, 59, 60, 61, 62, 63, 64, 65, 78, 79, 80, 81, 82, 83, 66, 67, 68, 69, 70, 71, 72, 73] rfl (by decide +kernel)) (goodIn_sub (fun _ h => List.mem_cons_of_mem _ (List.mem_append_right _ h)) (by decide +kernel))
set_option maxRecDepth 20000 in
theorem gX6_setName_X6_checkLive : GoodIn wsX6_setName (va_wsS RX6 45 yX6_checkLive wsX6_checkLive) := goodIn_app (goodIn_r _ [18, 19, 5] rfl (by decide +kernel)) ggX6_setName_X6_checkLive
set_option maxRecDepth 20000 in
theorem ggX6_setName_X4_entityAt : GoodIn wsX6_setName wsX4_entityAt := goodIn_r _ [27, 28, 29, 30, 31, 32, 26, 33, 34, 35, 36, 37, 38, 39, 40, 41, 42, 43, 44, 45, 46, 47, 48, 49, 50, 51, 52, 53, 54, 55, 56, 57, 58, 78, 79, 80, 81, 82, 83] rfl (by decide +kernel)
set_option maxRecDepth 20000 in
theorem gX6_setName_X4_entityAt : GoodIn wsX6_setName (wsV RX6 60 RX4 yX4_entityAt wsX4_entityAt) := goodIn_app (goodIn_r _ [23, 24, 25, 26] rfl (by decide +kernel)) ggX6_setName_X4_entityAt
theorem dX6_setName_0 : decode cX6_setName 0 = .ok (.aload_n 0, 1) := by decide +kernel
theorem dX6_setName_1 : decode cX6_setName 1 = .ok (.iload_n 1, 1) := by decide +kernel
theorem dX6_setName_2 : decode cX6_setName 2 = .ok (.invokevirtual 33, 3) := by decide +kernel
theorem dX6_setName_5 : decode cX6_setName 5 = .ok (.astore 5, 2) := by decide +kernel
theorem dX6_setName_7 : decode cX6_setName 7 = .ok (.iload_n 2, 1) := by decide +kernel
theorem dX6_setName_8 : decode cX6_setName 8 = .ok (.invokestatic 49, 3) := by decide +kernel
theorem dX6_setName_11 : decode cX6_setName 11 = .ok (.iload 4, 2) := by decide +kernel
theorem dX6_setName_13 : decode cX6_setName 13 = .ok (.invokestatic 37, 3) := by decide +kernel
theorem dX6_setName_16 : decode cX6_setName 16 = .ok (.aload 5, 2) := by decide +kernel
theorem dX6_setName_18 : decode cX6_setName 18 = .ok (.iload_n 2, 1) := by decide +kernel
theorem dX6_setName_19 : decode cX6_setName 19 = .ok (.iload_n 3, 1) := by decide +kernel
theorem dX6_setName_20 : decode cX6_setName 20 = .ok (.invokestatic 45, 3) := by decide +kernel
theorem dX6_setName_23 : decode cX6_setName 23 = .ok (.aload 5, 2) := by decide +kernel
theorem dX6_setName_25 : decode cX6_setName 25 = .ok (.iload_n 2, 1) := by decide +kernel
theorem dX6_setName_26 : decode cX6_setName 26 = .ok (.iload_n 3, 1) := by decide +kernel
theorem dX6_setName_27 : decode cX6_setName 27 = .ok (.invokevirtual 60, 3) := by decide +kernel
theorem dX6_setName_30 : decode cX6_setName 30 = .ok (.iload 4, 2) := by decide +kernel
theorem dX6_setName_32 : decode cX6_setName 32 = .ok (.putfield 94, 3) := by decide +kernel
theorem dX6_setName_35 : decode cX6_setName 35 = .ok (.return_, 1) := by decide +kernel
set_option maxRecDepth 20000 in
theorem ggX6_setReference_X6_sessionAt : GoodIn wsX6_setReference wsX6_sessionAt := goodIn_ca (goodIn_r _ [8, 9, 10, 11, 74, 75, 76, 77] rfl (by decide +kernel)) (goodIn_sub (fun _ h => List.mem_cons_of_mem _ (List.mem_append_left _ (List.mem_append_right _ h))) (by decide +kernel))
set_option maxRecDepth 20000 in
theorem gX6_setReference_X6_sessionAt : GoodIn wsX6_setReference (wsV RX6 33 RX6 yX6_sessionAt wsX6_sessionAt) := goodIn_app (goodIn_r _ [4, 5, 6, 7] rfl (by decide +kernel)) ggX6_setReference_X6_sessionAt
set_option maxRecDepth 20000 in
theorem ggX6_setReference_X6_checkKind : GoodIn wsX6_setReference wsX6_checkKind := goodIn_ca (goodIn_r _ [14, 1, 2] rfl (by decide +kernel)) (goodIn_sub (fun _ h => List.mem_cons_of_mem _ (List.mem_append_left _ (List.mem_append_left _ (List.mem_append_right _ h)))) (by decide +kernel))
set_option maxRecDepth 20000 in
theorem gX6_setReference_X6_checkKind : GoodIn wsX6_setReference (va_wsS RX6 49 yX6_checkKind wsX6_checkKind) := goodIn_app (goodIn_r _ [12, 13, 7] rfl (by decide +kernel)) ggX6_setReference_X6_checkKind
set_option maxRecDepth 20000 in
theorem ggX6_setReference_X6_checkLive : GoodIn wsX6_setReference wsX6_checkLive := goodIn_ca (goodIn_r _ [17, 18, 19, 20, 21, 22, 23, 24, 25, 26, 27, 28, 29, 30, 31, 32, 33, 34, 35, 36, 37, 38, 39, 40, 41, 42, 43, 44, 45, 46, 47, 48, 49, 50, 51, 52, 53, 54, 55, 56, 57, 58, 59, 60, 61, 62, 78, 79, 80, 81, 82, 83, 66, 67, 68, 69, 70, 71, 72, 73] rfl (by decide +kernel)) (goodIn_sub (fun _ h => List.mem_cons_of_mem _ (List.mem_append_right _ h)) (by decide +kernel))
set_option maxRecDepth 20000 in
theorem gX6_setReference_X6_checkLive : GoodIn wsX6_setReference (va_wsS RX6 45 yX6_checkLive wsX6_checkLive) := goodIn_app (goodIn_r _ [15, 16, 7] rfl (by decide +kernel)) ggX6_setReference_X6_checkLive
set_option maxRecDepth 20000 in
theorem ggX6_setReference_X6_otherKind : GoodIn wsX6_setReference wsX6_otherKind := goodIn_r _ [65] rfl (by decide +kernel)
set_option maxRecDepth 20000 in
theorem gX6_setReference_X6_otherKind : GoodIn wsX6_setReference (va_wsS RX6 105 yX6_otherKind wsX6_otherKind) := goodIn_app (goodIn_r _ [63, 64, 7] rfl (by decide +kernel)) ggX6_setReference_X6_otherKind
set_option maxRecDepth 20000 in
theorem ggX6_setReference_X4_entityAt : GoodIn wsX6_setReference wsX4_entityAt := goodIn_r _ [24, 25, 26, 27, 28, 29, 23, 30, 31, 32, 33, 34, 35, 36, 37, 38, 39, 40, 41, 42, 43, 44, 45, 46, 47, 48, 49, 50, 51, 52, 53, 54, 55, 78, 79, 80, 81, 82, 83] rfl (by decide +kernel)
set_option maxRecDepth 20000 in
theorem gX6_setReference_X4_entityAt : GoodIn wsX6_setReference (wsV RX6 60 RX4 yX4_entityAt wsX4_entityAt) := goodIn_app (goodIn_r _ [20, 21, 22, 23] rfl (by decide +kernel)) ggX6_setReference_X4_entityAt
theorem dX6_setReference_0 : decode cX6_setReference 0 = .ok (.aload_n 0, 1) := by decide +kernel
theorem dX6_setReference_1 : decode cX6_setReference 1 = .ok (.iload_n 1, 1) := by decide +kernel
theorem dX6_setReference_2 : decode cX6_setReference 2 = .ok (.invokevirtual 33, 3) := by decide +kernel
theorem dX6_setReference_5 : decode cX6_setReference 5 = .ok (.astore 5, 2) := by decide +kernel
theorem dX6_setReference_7 : decode cX6_setReference 7 = .ok (.iload_n 2, 1) := by decide +kernel
theorem dX6_setReference_8 : decode cX6_setReference 8 = .ok (.invokestatic 49, 3) := by decide +kernel
theorem dX6_setReference_11 : decode cX6_setReference 11 = .ok (.iload_n 2, 1) := by decide +kernel
theorem dX6_setReference_12 : decode cX6_setReference 12 = .ok (.iconst 1, 1) := by decide +kernel
theorem dX6_setReference_13 : decode cX6_setReference 13 = .ok (.if_icmp .ne 19, 3) := by decide +kernel
theorem dX6_setReference_16 : decode cX6_setReference 16 = .ok (.iload 4, 2) := by decide +kernel
theorem dX6_setReference_18 : decode cX6_setReference 18 = .ok (.iconst (-1), 1) := by decide +kernel
theorem dX6_setReference_19 : decode cX6_setReference 19 = .ok (.if_icmp .ne 13, 3) := by decide +kernel
theorem dX6_setReference_22 : decode cX6_setReference 22 = .ok (.new 98, 3) := by decide +kernel
theorem dX6_setReference_25 : decode cX6_setReference 25 = .ok (.dup, 1) := by decide +kernel
theorem dX6_setReference_26 : decode cX6_setReference 26 = .ok (.ldc 100, 2) := by decide +kernel
theorem dX6_setReference_28 : decode cX6_setReference 28 = .ok (.invokespecial 102, 3) := by decide +kernel
theorem dX6_setReference_31 : decode cX6_setReference 31 = .ok (.athrow, 1) := by decide +kernel
theorem dX6_setReference_32 : decode cX6_setReference 32 = .ok (.aload 5, 2) := by decide +kernel
theorem dX6_setReference_34 : decode cX6_setReference 34 = .ok (.iload_n 2, 1) := by decide +kernel
theorem dX6_setReference_35 : decode cX6_setReference 35 = .ok (.iload_n 3, 1) := by decide +kernel
theorem dX6_setReference_36 : decode cX6_setReference 36 = .ok (.invokestatic 45, 3) := by decide +kernel
theorem dX6_setReference_39 : decode cX6_setReference 39 = .ok (.iload 4, 2) := by decide +kernel
theorem dX6_setReference_41 : decode cX6_setReference 41 = .ok (.iconst (-1), 1) := by decide +kernel
theorem dX6_setReference_42 : decode cX6_setReference 42 = .ok (.if_icmp .eq 14, 3) := by decide +kernel
theorem dX6_setReference_45 : decode cX6_setReference 45 = .ok (.aload 5, 2) := by decide +kernel
theorem dX6_setReference_47 : decode cX6_setReference 47 = .ok (.iload_n 2, 1) := by decide +kernel
theorem dX6_setReference_48 : decode cX6_setReference 48 = .ok (.invokestatic 105, 3) := by decide +kernel
theorem dX6_setReference_51 : decode cX6_setReference 51 = .ok (.iload 4, 2) := by decide +kernel
theorem dX6_setReference_53 : decode cX6_setReference 53 = .ok (.invokestatic 45, 3) := by decide +kernel
theorem dX6_setReference_56 : decode cX6_setReference 56 = .ok (.aload 5, 2) := by decide +kernel
theorem dX6_setReference_58 : decode cX6_setReference 58 = .ok (.iload_n 2, 1) := by decide +kernel
theorem dX6_setReference_59 : decode cX6_setReference 59 = .ok (.iload_n 3, 1) := by decide +kernel
theorem dX6_setReference_60 : decode cX6_setReference 60 = .ok (.invokevirtual 60, 3) := by decide +kernel
theorem dX6_setReference_63 : decode cX6_setReference 63 = .ok (.iload 4, 2) := by decide +kernel
theorem dX6_setReference_65 : decode cX6_setReference 65 = .ok (.putfield 108, 3) := by decide +kernel
theorem dX6_setReference_68 : decode cX6_setReference 68 = .ok (.return_, 1) := by decide +kernel
set_option maxRecDepth 20000 in
theorem ggX6_remove_X6_sessionAt : GoodIn wsX6_remove wsX6_sessionAt := goodIn_ca (goodIn_r _ [5, 6, 7, 8, 136, 137, 138, 139] rfl (by decide +kernel)) (goodIn_sub (fun _ h => List.mem_cons_of_mem _ (List.mem_append_left _ (List.mem_append_left _ (List.mem_append_right _ h)))) (by decide +kernel))
set_option maxRecDepth 20000 in
theorem gX6_remove_X6_sessionAt : GoodIn wsX6_remove (wsV RX6 33 RX6 yX6_sessionAt wsX6_sessionAt) := goodIn_app (goodIn_r _ [1, 2, 3, 4] rfl (by decide +kernel)) ggX6_remove_X6_sessionAt
set_option maxRecDepth 20000 in
theorem ggX6_remove_X6_checkKind : GoodIn wsX6_remove wsX6_checkKind := goodIn_ca (goodIn_r _ [11, 12, 13] rfl (by decide +kernel)) (goodIn_sub (fun _ h => List.mem_cons_of_mem _ (List.mem_append_left _ (List.mem_append_right _ h))) (by decide +kernel))
set_option maxRecDepth 20000 in
theorem gX6_remove_X6_checkKind : GoodIn wsX6_remove (va_wsS RX6 49 yX6_checkKind wsX6_checkKind) := goodIn_app (goodIn_r _ [9, 10, 4] rfl (by decide +kernel)) ggX6_remove_X6_checkKind
set_option maxRecDepth 20000 in
theorem ggX6_remove_X6_checkLive : GoodIn wsX6_remove wsX6_checkLive := goodIn_ca (goodIn_r _ [16, 17, 18, 19, 20, 21, 22, 23, 24, 25, 26, 27, 28, 29, 30, 31, 32, 33, 34, 35, 36, 37, 38, 39, 40, 41, 42, 43, 44, 45, 46, 47, 48, 49, 50, 51, 52, 53, 54, 55, 56, 57, 58, 59, 60, 61, 140, 141, 142, 143, 144, 145, 146, 147, 148, 149, 150, 151, 152, 153] rfl (by decide +kernel)) (goodIn_sub (fun _ h => List.mem_cons_of_mem _ (List.mem_append_right _ h)) (by decide +kernel))
set_option maxRecDepth 20000 in
theorem gX6_remove_X6_checkLive : GoodIn wsX6_remove (va_wsS RX6 45 yX6_checkLive wsX6_checkLive) := goodIn_app (goodIn_r _ [14, 15, 4] rfl (by decide +kernel)) ggX6_remove_X6_checkLive
set_option maxRecDepth 20000 in
theorem ggX6_remove_X6_removeAuthor : GoodIn wsX6_remove wsX6_removeAuthor := goodIn_r _ [65, 19, 20, 21, 22, 23, 24, 25, 26, 27, 28, 29, 30, 31, 32, 33, 34, 35, 36, 37, 38, 39, 40, 41, 42, 43, 44, 45, 46, 47, 48, 49, 50, 51, 52, 53, 54, 66, 67, 68, 58, 69, 70, 61, 71, 72, 73, 74, 60, 75, 76, 77, 4, 78, 79, 80, 81, 82, 83, 84, 85, 86, 87, 88, 89, 90, 91, 92, 93, 94, 95, 96, 97, 98, 99, 100, 101, 102, 103, 104, 105, 106, 107, 108, 109, 110, 111, 112, 113, 114, 115, 116, 117, 118, 119, 120, 121, 122, 123, 124, 125, 126, 127, 128, 129, 130, 56, 57, 59, 131, 132, 133, 134, 135, 140, 141, 142, 143, 144, 145, 146, 147, 148, 149, 150, 151, 152, 153, 154, 155, 156, 157, 136, 137, 138, 139, 158, 159] rfl (by decide +kernel)
set_option maxRecDepth 20000 in
theorem gX6_remove_X6_removeAuthor : GoodIn wsX6_remove (wsV RX6 111 RX6 yX6_removeAuthor wsX6_removeAuthor) := goodIn_app (goodIn_r _ [62, 63, 64, 4] rfl (by decide +kernel)) ggX6_remove_X6_removeAuthor
set_option maxRecDepth 20000 in
theorem ggX6_remove_X6_removeBook : GoodIn wsX6_remove wsX6_removeBook := goodIn_r _ [134, 135, 19, 20, 21, 22, 23, 24, 25, 26, 27, 28, 29, 30, 31, 32, 33, 34, 35, 36, 37, 38, 39, 40, 41, 42, 43, 44, 45, 46, 47, 48, 49, 50, 51, 52, 53, 54, 66, 67, 68, 58, 69, 70, 61, 71, 72, 73, 74, 60, 75, 76, 77, 4, 78, 79, 80, 81, 82, 83, 84, 85, 86, 87, 88, 89, 90, 91, 92, 93, 94, 95, 96, 97, 98, 99, 100, 101, 102, 103, 104, 105, 106, 107, 108, 109, 110, 111, 112, 113, 114, 115, 116, 117, 118, 119, 120, 121, 122, 123, 124, 125, 126, 127, 128, 129, 130, 56, 57, 59, 146, 147, 148, 149, 150, 151, 152, 153, 140, 141, 142, 143, 144, 145, 154, 155, 156, 157, 136, 137, 138, 139, 158, 159] rfl (by decide +kernel)
set_option maxRecDepth 20000 in
theorem gX6_remove_X6_removeBook : GoodIn wsX6_remove (wsV RX6 115 RX6 yX6_removeBook wsX6_removeBook) := goodIn_app (goodIn_r _ [131, 132, 133, 4] rfl (by decide +kernel)) ggX6_remove_X6_removeBook
theorem dX6_remove_0 : decode cX6_remove 0 = .ok (.aload_n 0, 1) := by decide +kernel
theorem dX6_remove_1 : decode cX6_remove 1 = .ok (.iload_n 1, 1) := by decide +kernel
theorem dX6_remove_2 : decode cX6_remove 2 = .ok (.invokevirtual 33, 3) := by decide +kernel
theorem dX6_remove_5 : decode cX6_remove 5 = .ok (.astore 4, 2) := by decide +kernel
theorem dX6_remove_7 : decode cX6_remove 7 = .ok (.iload_n 2, 1) := by decide +kernel
theorem dX6_remove_8 : decode cX6_remove 8 = .ok (.invokestatic 49, 3) := by decide +kernel
theorem dX6_remove_11 : decode cX6_remove 11 = .ok (.aload 4, 2) := by decide +kernel
theorem dX6_remove_13 : decode cX6_remove 13 = .ok (.iload_n 2, 1) := by decide +kernel
theorem dX6_remove_14 : decode cX6_remove 14 = .ok (.iload_n 3, 1) := by decide +kernel
theorem dX6_remove_15 : decode cX6_remove 15 = .ok (.invokestatic 45, 3) := by decide +kernel
theorem dX6_remove_18 : decode cX6_remove 18 = .ok (.iload_n 2, 1) := by decide +kernel
theorem dX6_remove_19 : decode cX6_remove 19 = .ok (.ifCond .ne 11, 3) := by decide +kernel
theorem dX6_remove_22 : decode cX6_remove 22 = .ok (.aload_n 0, 1) := by decide +kernel
theorem dX6_remove_23 : decode cX6_remove 23 = .ok (.aload 4, 2) := by decide +kernel
theorem dX6_remove_25 : decode cX6_remove 25 = .ok (.iload_n 3, 1) := by decide +kernel
theorem dX6_remove_26 : decode cX6_remove 26 = .ok (.invokevirtual 111, 3) := by decide +kernel
theorem dX6_remove_29 : decode cX6_remove 29 = .ok (.ireturn, 1) := by decide +kernel
theorem dX6_remove_30 : decode cX6_remove 30 = .ok (.aload_n 0, 1) := by decide +kernel
theorem dX6_remove_31 : decode cX6_remove 31 = .ok (.aload 4, 2) := by decide +kernel
theorem dX6_remove_33 : decode cX6_remove 33 = .ok (.iload_n 3, 1) := by decide +kernel
theorem dX6_remove_34 : decode cX6_remove 34 = .ok (.invokevirtual 115, 3) := by decide +kernel
theorem dX6_remove_37 : decode cX6_remove 37 = .ok (.iconst 1, 1) := by decide +kernel
theorem dX6_remove_38 : decode cX6_remove 38 = .ok (.ireturn, 1) := by decide +kernel
set_option maxRecDepth 20000 in
theorem ggX6_name_X6_sessionAt : GoodIn wsX6_name wsX6_sessionAt := goodIn_ca (goodIn_r _ [6, 7, 8, 9, 71, 72, 73, 74] rfl (by decide +kernel)) (goodIn_sub (fun _ h => List.mem_cons_of_mem _ (List.mem_append_left _ (List.mem_append_left _ (List.mem_append_right _ h)))) (by decide +kernel))
set_option maxRecDepth 20000 in
theorem gX6_name_X6_sessionAt : GoodIn wsX6_name (wsV RX6 33 RX6 yX6_sessionAt wsX6_sessionAt) := goodIn_app (goodIn_r _ [2, 3, 4, 5] rfl (by decide +kernel)) ggX6_name_X6_sessionAt
set_option maxRecDepth 20000 in
theorem ggX6_name_X6_checkKind : GoodIn wsX6_name wsX6_checkKind := goodIn_ca (goodIn_r _ [12, 13, 14] rfl (by decide +kernel)) (goodIn_sub (fun _ h => List.mem_cons_of_mem _ (List.mem_append_left _ (List.mem_append_right _ h))) (by decide +kernel))
set_option maxRecDepth 20000 in
theorem gX6_name_X6_checkKind : GoodIn wsX6_name (va_wsS RX6 49 yX6_checkKind wsX6_checkKind) := goodIn_app (goodIn_r _ [10, 11, 5] rfl (by decide +kernel)) ggX6_name_X6_checkKind
set_option maxRecDepth 20000 in
theorem ggX6_name_X6_checkLive : GoodIn wsX6_name wsX6_checkLive := goodIn_ca (goodIn_r _ [17, 18, 19, 20, 21, 22, 23, 24, 25, 26, 27, 28, 29, 30, 31, 32, 33, 34, 35, 36, 37, 38, 39, 40, 41, 42, 43, 44, 45, 46, 47, 48, 49, 50, 51, 52, 53, 54, 55, 56, 57, 58, 59, 60, 61, 62, 75, 76, 77, 78, 79, 80, 63, 64, 65, 66, 67, 68, 69, 70] rfl (by decide +kernel)) (goodIn_sub (fun _ h => List.mem_cons_of_mem _ (List.mem_append_right _ h)) (by decide +kernel))
set_option maxRecDepth 20000 in
theorem gX6_name_X6_checkLive : GoodIn wsX6_name (va_wsS RX6 45 yX6_checkLive wsX6_checkLive) := goodIn_app (goodIn_r _ [15, 16, 5] rfl (by decide +kernel)) ggX6_name_X6_checkLive
set_option maxRecDepth 20000 in
theorem ggX6_name_X4_entityAt : GoodIn wsX6_name wsX4_entityAt := goodIn_r _ [24, 25, 26, 27, 28, 29, 23, 30, 31, 32, 33, 34, 35, 36, 37, 38, 39, 40, 41, 42, 43, 44, 45, 46, 47, 48, 49, 50, 51, 52, 53, 54, 55, 75, 76, 77, 78, 79, 80] rfl (by decide +kernel)
set_option maxRecDepth 20000 in
theorem gX6_name_X4_entityAt : GoodIn wsX6_name (wsV RX6 60 RX4 yX4_entityAt wsX4_entityAt) := goodIn_app (goodIn_r _ [20, 21, 22, 23] rfl (by decide +kernel)) ggX6_name_X4_entityAt
theorem dX6_name_0 : decode cX6_name 0 = .ok (.aload_n 0, 1) := by decide +kernel
theorem dX6_name_1 : decode cX6_name 1 = .ok (.iload_n 1, 1) := by decide +kernel
theorem dX6_name_2 : decode cX6_name 2 = .ok (.invokevirtual 33, 3) := by decide +kernel
theorem dX6_name_5 : decode cX6_name 5 = .ok (.astore 4, 2) := by decide +kernel
theorem dX6_name_7 : decode cX6_name 7 = .ok (.iload_n 2, 1) := by decide +kernel
theorem dX6_name_8 : decode cX6_name 8 = .ok (.invokestatic 49, 3) := by decide +kernel
theorem dX6_name_11 : decode cX6_name 11 = .ok (.aload 4, 2) := by decide +kernel
theorem dX6_name_13 : decode cX6_name 13 = .ok (.iload_n 2, 1) := by decide +kernel
theorem dX6_name_14 : decode cX6_name 14 = .ok (.iload_n 3, 1) := by decide +kernel
theorem dX6_name_15 : decode cX6_name 15 = .ok (.invokestatic 45, 3) := by decide +kernel
theorem dX6_name_18 : decode cX6_name 18 = .ok (.aload 4, 2) := by decide +kernel
theorem dX6_name_20 : decode cX6_name 20 = .ok (.iload_n 2, 1) := by decide +kernel
theorem dX6_name_21 : decode cX6_name 21 = .ok (.iload_n 3, 1) := by decide +kernel
theorem dX6_name_22 : decode cX6_name 22 = .ok (.invokevirtual 60, 3) := by decide +kernel
theorem dX6_name_25 : decode cX6_name 25 = .ok (.getfield 94, 3) := by decide +kernel
theorem dX6_name_28 : decode cX6_name 28 = .ok (.ireturn, 1) := by decide +kernel
set_option maxRecDepth 20000 in
theorem ggX6_reference_X6_sessionAt : GoodIn wsX6_reference wsX6_sessionAt := goodIn_ca (goodIn_r _ [6, 7, 8, 9, 71, 72, 73, 74] rfl (by decide +kernel)) (goodIn_sub (fun _ h => List.mem_cons_of_mem _ (List.mem_append_left _ (List.mem_append_left _ (List.mem_append_right _ h)))) (by decide +kernel))
set_option maxRecDepth 20000 in
theorem gX6_reference_X6_sessionAt : GoodIn wsX6_reference (wsV RX6 33 RX6 yX6_sessionAt wsX6_sessionAt) := goodIn_app (goodIn_r _ [2, 3, 4, 5] rfl (by decide +kernel)) ggX6_reference_X6_sessionAt
set_option maxRecDepth 20000 in
theorem ggX6_reference_X6_checkKind : GoodIn wsX6_reference wsX6_checkKind := goodIn_ca (goodIn_r _ [12, 13, 14] rfl (by decide +kernel)) (goodIn_sub (fun _ h => List.mem_cons_of_mem _ (List.mem_append_left _ (List.mem_append_right _ h))) (by decide +kernel))
set_option maxRecDepth 20000 in
theorem gX6_reference_X6_checkKind : GoodIn wsX6_reference (va_wsS RX6 49 yX6_checkKind wsX6_checkKind) := goodIn_app (goodIn_r _ [10, 11, 5] rfl (by decide +kernel)) ggX6_reference_X6_checkKind
set_option maxRecDepth 20000 in
theorem ggX6_reference_X6_checkLive : GoodIn wsX6_reference wsX6_checkLive := goodIn_ca (goodIn_r _ [17, 18, 19, 20, 21, 22, 23, 24, 25, 26, 27, 28, 29, 30, 31, 32, 33, 34, 35, 36, 37, 38, 39, 40, 41, 42, 43, 44, 45, 46, 47, 48, 49, 50, 51, 52, 53, 54, 55, 56, 57, 58, 59, 60, 61, 62, 75, 76, 77, 78, 79, 80, 63, 64, 65, 66, 67, 68, 69, 70] rfl (by decide +kernel)) (goodIn_sub (fun _ h => List.mem_cons_of_mem _ (List.mem_append_right _ h)) (by decide +kernel))
set_option maxRecDepth 20000 in
theorem gX6_reference_X6_checkLive : GoodIn wsX6_reference (va_wsS RX6 45 yX6_checkLive wsX6_checkLive) := goodIn_app (goodIn_r _ [15, 16, 5] rfl (by decide +kernel)) ggX6_reference_X6_checkLive
set_option maxRecDepth 20000 in
theorem ggX6_reference_X4_entityAt : GoodIn wsX6_reference wsX4_entityAt := goodIn_r _ [24, 25, 26, 27, 28, 29, 23, 30, 31, 32, 33, 34, 35, 36, 37, 38, 39, 40, 41, 42, 43, 44, 45, 46, 47, 48, 49, 50, 51, 52, 53, 54, 55, 75, 76, 77, 78, 79, 80] rfl (by decide +kernel)
set_option maxRecDepth 20000 in
theorem gX6_reference_X4_entityAt : GoodIn wsX6_reference (wsV RX6 60 RX4 yX4_entityAt wsX4_entityAt) := goodIn_app (goodIn_r _ [20, 21, 22, 23] rfl (by decide +kernel)) ggX6_reference_X4_entityAt
theorem dX6_reference_0 : decode cX6_reference 0 = .ok (.aload_n 0, 1) := by decide +kernel
theorem dX6_reference_1 : decode cX6_reference 1 = .ok (.iload_n 1, 1) := by decide +kernel
theorem dX6_reference_2 : decode cX6_reference 2 = .ok (.invokevirtual 33, 3) := by decide +kernel
theorem dX6_reference_5 : decode cX6_reference 5 = .ok (.astore 4, 2) := by decide +kernel
theorem dX6_reference_7 : decode cX6_reference 7 = .ok (.iload_n 2, 1) := by decide +kernel
theorem dX6_reference_8 : decode cX6_reference 8 = .ok (.invokestatic 49, 3) := by decide +kernel
theorem dX6_reference_11 : decode cX6_reference 11 = .ok (.aload 4, 2) := by decide +kernel
theorem dX6_reference_13 : decode cX6_reference 13 = .ok (.iload_n 2, 1) := by decide +kernel
theorem dX6_reference_14 : decode cX6_reference 14 = .ok (.iload_n 3, 1) := by decide +kernel
theorem dX6_reference_15 : decode cX6_reference 15 = .ok (.invokestatic 45, 3) := by decide +kernel
theorem dX6_reference_18 : decode cX6_reference 18 = .ok (.aload 4, 2) := by decide +kernel
theorem dX6_reference_20 : decode cX6_reference 20 = .ok (.iload_n 2, 1) := by decide +kernel
theorem dX6_reference_21 : decode cX6_reference 21 = .ok (.iload_n 3, 1) := by decide +kernel
theorem dX6_reference_22 : decode cX6_reference 22 = .ok (.invokevirtual 60, 3) := by decide +kernel
theorem dX6_reference_25 : decode cX6_reference 25 = .ok (.getfield 108, 3) := by decide +kernel
theorem dX6_reference_28 : decode cX6_reference 28 = .ok (.ireturn, 1) := by decide +kernel
set_option maxRecDepth 20000 in
theorem ggX6_known_X6_sessionAt : GoodIn wsX6_known wsX6_sessionAt := goodIn_ca (goodIn_r _ [5, 6, 7, 8, 60, 61, 62, 63] rfl (by decide +kernel)) (goodIn_sub (fun _ h => List.mem_cons_of_mem _ (List.mem_append_right _ h)) (by decide +kernel))
set_option maxRecDepth 20000 in
theorem gX6_known_X6_sessionAt : GoodIn wsX6_known (wsV RX6 33 RX6 yX6_sessionAt wsX6_sessionAt) := goodIn_app (goodIn_r _ [1, 2, 3, 4] rfl (by decide +kernel)) ggX6_known_X6_sessionAt
set_option maxRecDepth 20000 in
theorem ggX6_known_X4_countLive : GoodIn wsX6_known wsX4_countLive := goodIn_r _ [13, 14, 15, 16, 12, 17, 18, 19, 20, 21, 22, 23, 24, 25, 26, 27, 28, 29, 30, 31, 32, 33, 34, 35, 36, 37, 38, 39, 40, 41, 42, 43, 44, 45, 46, 47, 48, 49, 50, 51, 52, 53, 54, 55, 56, 57, 58, 59, 64, 65, 66, 67, 68, 69, 70, 71, 72, 73, 74, 75, 76, 77] rfl (by decide +kernel)
set_option maxRecDepth 20000 in
theorem gX6_known_X4_countLive : GoodIn wsX6_known (wsV RX6 119 RX4 yX4_countLive wsX4_countLive) := goodIn_app (goodIn_r _ [9, 10, 11, 12] rfl (by decide +kernel)) ggX6_known_X4_countLive
theorem dX6_known_0 : decode cX6_known 0 = .ok (.aload_n 0, 1) := by decide +kernel
theorem dX6_known_1 : decode cX6_known 1 = .ok (.iload_n 1, 1) := by decide +kernel
theorem dX6_known_2 : decode cX6_known 2 = .ok (.invokevirtual 33, 3) := by decide +kernel
theorem dX6_known_5 : decode cX6_known 5 = .ok (.astore_n 2, 1) := by decide +kernel
theorem dX6_known_6 : decode cX6_known 6 = .ok (.aload_n 2, 1) := by decide +kernel
theorem dX6_known_7 : decode cX6_known 7 = .ok (.iconst 0, 1) := by decide +kernel
theorem dX6_known_8 : decode cX6_known 8 = .ok (.invokevirtual 119, 3) := by decide +kernel
theorem dX6_known_11 : decode cX6_known 11 = .ok (.aload_n 2, 1) := by decide +kernel
theorem dX6_known_12 : decode cX6_known 12 = .ok (.iconst 1, 1) := by decide +kernel
theorem dX6_known_13 : decode cX6_known 13 = .ok (.invokevirtual 119, 3) := by decide +kernel
theorem dX6_known_16 : decode cX6_known 16 = .ok (.iadd, 1) := by decide +kernel
theorem dX6_known_17 : decode cX6_known 17 = .ok (.ireturn, 1) := by decide +kernel
set_option maxRecDepth 20000 in
theorem ggX6_dirty_X6_sessionAt : GoodIn wsX6_dirty wsX6_sessionAt := goodIn_ca (goodIn_r _ [5, 6, 7, 8, 69, 70, 71, 72] rfl (by decide +kernel)) (goodIn_sub (fun _ h => List.mem_cons_of_mem _ (List.mem_append_right _ h)) (by decide +kernel))
set_option maxRecDepth 20000 in
theorem gX6_dirty_X6_sessionAt : GoodIn wsX6_dirty (wsV RX6 33 RX6 yX6_sessionAt wsX6_sessionAt) := goodIn_app (goodIn_r _ [1, 2, 3, 4] rfl (by decide +kernel)) ggX6_dirty_X6_sessionAt
set_option maxRecDepth 20000 in
theorem ggX6_dirty_X4_countLiveAndDirty : GoodIn wsX6_dirty wsX4_countLiveAndDirty := goodIn_r _ [13, 14, 15, 16, 12, 17, 18, 19, 20, 21, 22, 23, 24, 25, 26, 27, 28, 29, 30, 31, 32, 33, 34, 35, 36, 37, 38, 39, 40, 41, 42, 43, 44, 45, 46, 47, 48, 49, 50, 51, 52, 53, 54, 55, 56, 57, 58, 59, 60, 61, 62, 63, 64, 65, 66, 67, 68, 73, 74, 75, 76, 77, 78, 79, 80, 81, 82, 83, 84, 85, 86] rfl (by decide +kernel)
set_option maxRecDepth 20000 in
theorem gX6_dirty_X4_countLiveAndDirty : GoodIn wsX6_dirty (wsV RX6 122 RX4 yX4_countLiveAndDirty wsX4_countLiveAndDirty) := goodIn_app (goodIn_r _ [9, 10, 11, 12] rfl (by decide +kernel)) ggX6_dirty_X4_countLiveAndDirty
theorem dX6_dirty_0 : decode cX6_dirty 0 = .ok (.aload_n 0, 1) := by decide +kernel
theorem dX6_dirty_1 : decode cX6_dirty 1 = .ok (.iload_n 1, 1) := by decide +kernel
theorem dX6_dirty_2 : decode cX6_dirty 2 = .ok (.invokevirtual 33, 3) := by decide +kernel
theorem dX6_dirty_5 : decode cX6_dirty 5 = .ok (.astore_n 2, 1) := by decide +kernel
theorem dX6_dirty_6 : decode cX6_dirty 6 = .ok (.aload_n 2, 1) := by decide +kernel
theorem dX6_dirty_7 : decode cX6_dirty 7 = .ok (.iconst 0, 1) := by decide +kernel
theorem dX6_dirty_8 : decode cX6_dirty 8 = .ok (.invokevirtual 122, 3) := by decide +kernel
theorem dX6_dirty_11 : decode cX6_dirty 11 = .ok (.aload_n 2, 1) := by decide +kernel
theorem dX6_dirty_12 : decode cX6_dirty 12 = .ok (.iconst 1, 1) := by decide +kernel
theorem dX6_dirty_13 : decode cX6_dirty 13 = .ok (.invokevirtual 122, 3) := by decide +kernel
theorem dX6_dirty_16 : decode cX6_dirty 16 = .ok (.iadd, 1) := by decide +kernel
theorem dX6_dirty_17 : decode cX6_dirty 17 = .ok (.ireturn, 1) := by decide +kernel
set_option maxRecDepth 20000 in
theorem ggX6_flush_X6_sessionAt : GoodIn wsX6_flush wsX6_sessionAt := goodIn_ca (goodIn_r _ [14, 15, 16, 17, 215, 216, 217, 218] rfl (by decide +kernel)) (goodIn_sub (fun _ h => List.mem_cons_of_mem _ (List.mem_append_right _ h)) (by decide +kernel))
set_option maxRecDepth 20000 in
theorem gX6_flush_X6_sessionAt : GoodIn wsX6_flush (wsV RX6 33 RX6 yX6_sessionAt wsX6_sessionAt) := goodIn_app (goodIn_r _ [10, 11, 12, 13] rfl (by decide +kernel)) ggX6_flush_X6_sessionAt
set_option maxRecDepth 20000 in
theorem ggX6_flush_X2_isFull : GoodIn wsX6_flush wsX2_isFull := goodIn_r _ [22, 23, 223, 224, 225] rfl (by decide +kernel)
set_option maxRecDepth 20000 in
theorem gX6_flush_X2_isFull : GoodIn wsX6_flush (wsV RX6 125 RX2 yX2_isFull wsX2_isFull) := goodIn_app (goodIn_r _ [18, 19, 20, 21] rfl (by decide +kernel)) ggX6_flush_X2_isFull
set_option maxRecDepth 20000 in
theorem ggX6_flush_X1_init : GoodIn wsX6_flush wsX1_init := goodIn_r _ [26, 27, 28, 29, 30, 31, 32, 33, 219, 220, 221, 222] rfl (by decide +kernel)
set_option maxRecDepth 20000 in
theorem gX6_flush_X1_init : GoodIn wsX6_flush (wsX1_init) := ggX6_flush_X1_init
set_option maxRecDepth 20000 in
theorem ggX6_flush_X1_clashes : GoodIn wsX6_flush wsX1_clashes := goodIn_r _ [37, 38, 39, 40, 6, 41, 30, 42, 43, 44, 45, 46, 47, 48, 49, 50, 51, 52, 53, 54, 55, 56, 57, 58, 59, 60, 61, 62, 63, 64, 65, 66, 67, 68, 69, 70, 71, 72, 73, 74, 75, 76, 77, 78, 79, 80, 81, 82, 83, 84, 85, 31, 32, 86, 87, 88, 89, 90, 91, 92, 93, 94, 95, 96, 97, 98, 99, 100, 101, 102, 103, 104, 105, 106, 107, 108, 109, 110, 111, 112, 113, 219, 220, 221, 222, 226, 227, 228, 229, 230, 231, 232, 233, 234, 235, 236, 237, 238, 239, 240, 241, 242, 243, 244, 245] rfl (by decide +kernel)
set_option maxRecDepth 20000 in
theorem gX6_flush_X1_clashes : GoodIn wsX6_flush (wsV RX6 138 RX1 yX1_clashes wsX1_clashes) := goodIn_app (goodIn_r _ [34, 35, 36, 6] rfl (by decide +kernel)) ggX6_flush_X1_clashes
set_option maxRecDepth 20000 in
theorem ggX6_flush_X1_leavesDanglingReference : GoodIn wsX6_flush wsX1_leavesDanglingReference := goodIn_r _ [117, 118, 119, 120, 6, 121, 30, 42, 43, 44, 45, 46, 47, 48, 49, 50, 51, 52, 53, 54, 55, 56, 57, 58, 122, 123, 124, 125, 126, 127, 59, 60, 61, 62, 63, 64, 65, 66, 67, 68, 69, 70, 71, 72, 73, 74, 75, 76, 77, 78, 79, 80, 81, 128, 129, 130, 99, 131, 132, 109, 133, 106, 107, 108, 110, 111, 112, 113, 82, 83, 84, 85, 31, 32, 86, 87, 88, 89, 90, 91, 92, 93, 94, 95, 134, 135, 136, 137, 138, 139, 140, 13, 141, 219, 220, 221, 222, 226, 227, 228, 229, 230, 231, 234, 235, 236, 237, 238, 239, 240, 241, 242, 243, 244, 245, 232, 233] rfl (by decide +kernel)
set_option maxRecDepth 20000 in
theorem gX6_flush_X1_leavesDanglingReference : GoodIn wsX6_flush (wsV RX6 141 RX1 yX1_leavesDanglingReference wsX1_leavesDanglingReference) := goodIn_app (goodIn_r _ [114, 115, 116, 6] rfl (by decide +kernel)) ggX6_flush_X1_leavesDanglingReference
set_option maxRecDepth 20000 in
theorem ggX6_flush_X1_doWrites : GoodIn wsX6_flush wsX1_doWrites := goodIn_r _ [145, 146, 147, 148, 6, 149, 30, 32, 126, 139, 42, 43, 44, 45, 46, 47, 48, 49, 50, 51, 52, 53, 54, 55, 56, 57, 58, 59, 60, 61, 62, 63, 64, 65, 66, 67, 68, 69, 70, 71, 72, 73, 74, 75, 76, 77, 78, 79, 80, 81, 128, 129, 130, 99, 131, 132, 109, 86, 87, 88, 89, 90, 91, 92, 93, 94, 95, 150, 151, 152, 153, 154, 33, 82, 83, 84, 85, 31, 155, 156, 157, 158, 159, 160, 161, 162, 163, 164, 165, 166, 21, 167, 23, 168, 169, 170, 171, 172, 173, 174, 175, 176, 177, 178, 179, 180, 181, 182, 183, 184, 185, 186, 187, 188, 189, 190, 191, 192, 193, 111, 194, 113, 103, 104, 195, 196, 197, 198, 199, 200, 201, 202, 133, 106, 107, 108, 110, 112, 203, 204, 205, 206, 207, 208, 209, 210, 138, 211, 212, 213, 214, 101, 219, 220, 221, 222, 234, 235, 236, 237, 238, 239, 240, 241, 242, 243, 244, 245, 226, 227, 228, 229, 230, 231, 232, 233, 223, 224, 225] rfl (by decide +kernel)
set_option maxRecDepth 20000 in
theorem gX6_flush_X1_doWrites : GoodIn wsX6_flush (wsV RX6 149 RX1 yX1_doWrites wsX1_doWrites) := goodIn_app (goodIn_r _ [142, 143, 144, 6] rfl (by decide +kernel)) ggX6_flush_X1_doWrites
theorem dX6_flush_0 : decode cX6_flush 0 = .ok (.aload_n 0, 1) := by decide +kernel
theorem dX6_flush_1 : decode cX6_flush 1 = .ok (.iload_n 1, 1) := by decide +kernel
theorem dX6_flush_2 : decode cX6_flush 2 = .ok (.invokevirtual 33, 3) := by decide +kernel
theorem dX6_flush_5 : decode cX6_flush 5 = .ok (.astore_n 2, 1) := by decide +kernel
theorem dX6_flush_6 : decode cX6_flush 6 = .ok (.aload_n 0, 1) := by decide +kernel
theorem dX6_flush_7 : decode cX6_flush 7 = .ok (.getfield 22, 3) := by decide +kernel
theorem dX6_flush_10 : decode cX6_flush 10 = .ok (.invokevirtual 125, 3) := by decide +kernel
theorem dX6_flush_13 : decode cX6_flush 13 = .ok (.ifCond .eq 13, 3) := by decide +kernel
theorem dX6_flush_16 : decode cX6_flush 16 = .ok (.new 128, 3) := by decide +kernel
theorem dX6_flush_19 : decode cX6_flush 19 = .ok (.dup, 1) := by decide +kernel
theorem dX6_flush_20 : decode cX6_flush 20 = .ok (.ldc 130, 2) := by decide +kernel
theorem dX6_flush_22 : decode cX6_flush 22 = .ok (.invokespecial 132, 3) := by decide +kernel
theorem dX6_flush_25 : decode cX6_flush 25 = .ok (.athrow, 1) := by decide +kernel
theorem dX6_flush_26 : decode cX6_flush 26 = .ok (.new 133, 3) := by decide +kernel
theorem dX6_flush_29 : decode cX6_flush 29 = .ok (.dup, 1) := by decide +kernel
theorem dX6_flush_30 : decode cX6_flush 30 = .ok (.aload_n 2, 1) := by decide +kernel
theorem dX6_flush_31 : decode cX6_flush 31 = .ok (.aload_n 0, 1) := by decide +kernel
theorem dX6_flush_32 : decode cX6_flush 32 = .ok (.getfield 10, 3) := by decide +kernel
theorem dX6_flush_35 : decode cX6_flush 35 = .ok (.aload_n 0, 1) := by decide +kernel
theorem dX6_flush_36 : decode cX6_flush 36 = .ok (.getfield 16, 3) := by decide +kernel
theorem dX6_flush_39 : decode cX6_flush 39 = .ok (.aload_n 0, 1) := by decide +kernel
theorem dX6_flush_40 : decode cX6_flush 40 = .ok (.getfield 22, 3) := by decide +kernel
theorem dX6_flush_43 : decode cX6_flush 43 = .ok (.invokespecial 135, 3) := by decide +kernel
theorem dX6_flush_46 : decode cX6_flush 46 = .ok (.astore_n 3, 1) := by decide +kernel
theorem dX6_flush_47 : decode cX6_flush 47 = .ok (.aload_n 3, 1) := by decide +kernel
theorem dX6_flush_48 : decode cX6_flush 48 = .ok (.invokevirtual 138, 3) := by decide +kernel
theorem dX6_flush_51 : decode cX6_flush 51 = .ok (.ifCond .ne 10, 3) := by decide +kernel
theorem dX6_flush_54 : decode cX6_flush 54 = .ok (.aload_n 3, 1) := by decide +kernel
theorem dX6_flush_55 : decode cX6_flush 55 = .ok (.invokevirtual 141, 3) := by decide +kernel
theorem dX6_flush_58 : decode cX6_flush 58 = .ok (.ifCond .eq 13, 3) := by decide +kernel
theorem dX6_flush_61 : decode cX6_flush 61 = .ok (.new 128, 3) := by decide +kernel
theorem dX6_flush_64 : decode cX6_flush 64 = .ok (.dup, 1) := by decide +kernel
theorem dX6_flush_65 : decode cX6_flush 65 = .ok (.ldc 144, 2) := by decide +kernel
theorem dX6_flush_67 : decode cX6_flush 67 = .ok (.invokespecial 132, 3) := by decide +kernel
theorem dX6_flush_70 : decode cX6_flush 70 = .ok (.athrow, 1) := by decide +kernel
theorem dX6_flush_71 : decode cX6_flush 71 = .ok (.aload_n 0, 1) := by decide +kernel
theorem dX6_flush_72 : decode cX6_flush 72 = .ok (.getfield 22, 3) := by decide +kernel
theorem dX6_flush_75 : decode cX6_flush 75 = .ok (.getfield 146, 3) := by decide +kernel
theorem dX6_flush_78 : decode cX6_flush 78 = .ok (.istore 4, 2) := by decide +kernel
theorem dX6_flush_80 : decode cX6_flush 80 = .ok (.aload_n 3, 1) := by decide +kernel
theorem dX6_flush_81 : decode cX6_flush 81 = .ok (.invokevirtual 149, 3) := by decide +kernel
theorem dX6_flush_84 : decode cX6_flush 84 = .ok (.aload_n 0, 1) := by decide +kernel
theorem dX6_flush_85 : decode cX6_flush 85 = .ok (.getfield 22, 3) := by decide +kernel
theorem dX6_flush_88 : decode cX6_flush 88 = .ok (.getfield 146, 3) := by decide +kernel
theorem dX6_flush_91 : decode cX6_flush 91 = .ok (.iload 4, 2) := by decide +kernel
theorem dX6_flush_93 : decode cX6_flush 93 = .ok (.isub, 1) := by decide +kernel
theorem dX6_flush_94 : decode cX6_flush 94 = .ok (.ireturn, 1) := by decide +kernel
set_option maxRecDepth 20000 in
theorem ggX6_clear_X6_sessionAt : GoodIn wsX6_clear wsX6_sessionAt := goodIn_ca (goodIn_r _ [5, 6, 7, 8, 69, 70, 71, 72] rfl (by decide +kernel)) (goodIn_sub (fun _ h => List.mem_cons_of_mem _ (List.mem_append_right _ h)) (by decide +kernel))
set_option maxRecDepth 20000 in
theorem gX6_clear_X6_sessionAt : GoodIn wsX6_clear (wsV RX6 33 RX6 yX6_sessionAt wsX6_sessionAt) := goodIn_app (goodIn_r _ [1, 2, 3, 4] rfl (by decide +kernel)) ggX6_clear_X6_sessionAt
set_option maxRecDepth 20000 in
theorem ggX6_clear_X4_countLive : GoodIn wsX6_clear wsX4_countLive := goodIn_r _ [13, 14, 15, 16, 12, 17, 18, 19, 20, 21, 22, 23, 24, 25, 26, 27, 28, 29, 30, 31, 32, 33, 34, 35, 36, 37, 38, 39, 40, 41, 42, 43, 44, 45, 46, 47, 48, 49, 50, 51, 52, 53, 54, 55, 56, 57, 58, 59, 73, 74, 75, 76, 77, 78, 79, 80, 81, 82, 83, 84, 85, 86] rfl (by decide +kernel)
set_option maxRecDepth 20000 in
theorem gX6_clear_X4_countLive : GoodIn wsX6_clear (wsV RX6 119 RX4 yX4_countLive wsX4_countLive) := goodIn_app (goodIn_r _ [9, 10, 11, 12] rfl (by decide +kernel)) ggX6_clear_X4_countLive
set_option maxRecDepth 20000 in
theorem ggX6_clear_X4_forgetAll : GoodIn wsX6_clear wsX4_forgetAll := goodIn_r _ [63, 14, 15, 16, 12, 17, 18, 19, 20, 21, 22, 23, 24, 25, 26, 27, 28, 29, 30, 31, 32, 33, 34, 35, 36, 37, 38, 39, 40, 41, 42, 43, 44, 45, 46, 47, 48, 49, 50, 51, 52, 64, 65, 66, 56, 67, 58, 59, 68, 73, 74, 75, 76, 77, 78, 79, 80, 81, 82, 83, 84, 85, 86] rfl (by decide +kernel)
set_option maxRecDepth 20000 in
theorem gX6_clear_X4_forgetAll : GoodIn wsX6_clear (wsV RX6 152 RX4 yX4_forgetAll wsX4_forgetAll) := goodIn_app (goodIn_r _ [60, 61, 62, 12] rfl (by decide +kernel)) ggX6_clear_X4_forgetAll
theorem dX6_clear_0 : decode cX6_clear 0 = .ok (.aload_n 0, 1) := by decide +kernel
theorem dX6_clear_1 : decode cX6_clear 1 = .ok (.iload_n 1, 1) := by decide +kernel
theorem dX6_clear_2 : decode cX6_clear 2 = .ok (.invokevirtual 33, 3) := by decide +kernel
theorem dX6_clear_5 : decode cX6_clear 5 = .ok (.astore_n 2, 1) := by decide +kernel
theorem dX6_clear_6 : decode cX6_clear 6 = .ok (.aload_n 2, 1) := by decide +kernel
theorem dX6_clear_7 : decode cX6_clear 7 = .ok (.iconst 0, 1) := by decide +kernel
theorem dX6_clear_8 : decode cX6_clear 8 = .ok (.invokevirtual 119, 3) := by decide +kernel
theorem dX6_clear_11 : decode cX6_clear 11 = .ok (.aload_n 2, 1) := by decide +kernel
theorem dX6_clear_12 : decode cX6_clear 12 = .ok (.iconst 1, 1) := by decide +kernel
theorem dX6_clear_13 : decode cX6_clear 13 = .ok (.invokevirtual 119, 3) := by decide +kernel
theorem dX6_clear_16 : decode cX6_clear 16 = .ok (.iadd, 1) := by decide +kernel
theorem dX6_clear_17 : decode cX6_clear 17 = .ok (.istore_n 3, 1) := by decide +kernel
theorem dX6_clear_18 : decode cX6_clear 18 = .ok (.aload_n 2, 1) := by decide +kernel
theorem dX6_clear_19 : decode cX6_clear 19 = .ok (.iconst 0, 1) := by decide +kernel
theorem dX6_clear_20 : decode cX6_clear 20 = .ok (.invokevirtual 152, 3) := by decide +kernel
theorem dX6_clear_23 : decode cX6_clear 23 = .ok (.aload_n 2, 1) := by decide +kernel
theorem dX6_clear_24 : decode cX6_clear 24 = .ok (.iconst 1, 1) := by decide +kernel
theorem dX6_clear_25 : decode cX6_clear 25 = .ok (.invokevirtual 152, 3) := by decide +kernel
theorem dX6_clear_28 : decode cX6_clear 28 = .ok (.iload_n 3, 1) := by decide +kernel
theorem dX6_clear_29 : decode cX6_clear 29 = .ok (.ireturn, 1) := by decide +kernel
set_option maxRecDepth 20000 in
theorem ggX6_rows_X6_checkKind : GoodIn wsX6_rows wsX6_checkKind := goodIn_ca (goodIn_r _ [4, 5, 6] rfl (by decide +kernel)) (goodIn_sub (fun _ h => List.mem_cons_of_mem _ (List.mem_append_right _ h)) (by decide +kernel))
set_option maxRecDepth 20000 in
theorem gX6_rows_X6_checkKind : GoodIn wsX6_rows (va_wsS RX6 49 yX6_checkKind wsX6_checkKind) := goodIn_app (goodIn_r _ [1, 2, 3] rfl (by decide +kernel)) ggX6_rows_X6_checkKind
set_option maxRecDepth 20000 in
theorem ggX6_rows_X6_tableOf : GoodIn wsX6_rows wsX6_tableOf := goodIn_r _ [10, 11, 12, 49, 50, 51, 52] rfl (by decide +kernel)
set_option maxRecDepth 20000 in
theorem gX6_rows_X6_tableOf : GoodIn wsX6_rows (wsV RX6 52 RX6 yX6_tableOf wsX6_tableOf) := goodIn_app (goodIn_r _ [7, 8, 9, 3] rfl (by decide +kernel)) ggX6_rows_X6_tableOf
set_option maxRecDepth 20000 in
theorem ggX6_rows_X5_countThere : GoodIn wsX6_rows wsX5_countThere := goodIn_r _ [17, 18, 19, 20, 21, 22, 23, 24, 25, 26, 27, 28, 16, 29, 30, 31, 32, 33, 34, 35, 36, 37, 38, 39, 40, 41, 42, 43, 44, 45, 46, 47, 48, 53, 54, 55, 56, 57, 58, 59, 60, 61] rfl (by decide +kernel)
set_option maxRecDepth 20000 in
theorem gX6_rows_X5_countThere : GoodIn wsX6_rows (wsV RX6 155 RX5 yX5_countThere wsX5_countThere) := goodIn_app (goodIn_r _ [13, 14, 15, 16] rfl (by decide +kernel)) ggX6_rows_X5_countThere
theorem dX6_rows_0 : decode cX6_rows 0 = .ok (.iload_n 1, 1) := by decide +kernel
theorem dX6_rows_1 : decode cX6_rows 1 = .ok (.invokestatic 49, 3) := by decide +kernel
theorem dX6_rows_4 : decode cX6_rows 4 = .ok (.aload_n 0, 1) := by decide +kernel
theorem dX6_rows_5 : decode cX6_rows 5 = .ok (.iload_n 1, 1) := by decide +kernel
theorem dX6_rows_6 : decode cX6_rows 6 = .ok (.invokevirtual 52, 3) := by decide +kernel
theorem dX6_rows_9 : decode cX6_rows 9 = .ok (.invokevirtual 155, 3) := by decide +kernel
theorem dX6_rows_12 : decode cX6_rows 12 = .ok (.ireturn, 1) := by decide +kernel
set_option maxRecDepth 20000 in
theorem ggX6_rowName_X6_checkedRow : GoodIn wsX6_rowName wsX6_checkedRow := goodIn_ca (goodIn_ca (goodIn_r _ [6, 7, 8, 9, 10, 11, 5, 12, 13, 14, 15, 16, 17, 18, 19, 20, 21, 22, 23, 24, 25, 26, 27, 28, 29, 30, 31, 32, 33, 34, 35, 36, 37, 38, 39, 40, 41, 42, 43, 44, 45, 46, 47, 48, 49, 50, 51, 52, 53, 54, 55, 56, 57, 58, 59, 60, 61, 62, 63, 64] rfl (by decide +kernel)) (goodIn_sub (fun _ h => List.mem_cons_of_mem _ (List.mem_append_left _ (List.mem_append_right _ h))) (by decide +kernel))) (goodIn_sub (fun _ h => List.mem_cons_of_mem _ (List.mem_append_right _ h)) (by decide +kernel))
set_option maxRecDepth 20000 in
theorem gX6_rowName_X6_checkedRow : GoodIn wsX6_rowName (wsV RX6 159 RX6 yX6_checkedRow wsX6_checkedRow) := goodIn_app (goodIn_r _ [2, 3, 4, 5] rfl (by decide +kernel)) ggX6_rowName_X6_checkedRow
theorem dX6_rowName_0 : decode cX6_rowName 0 = .ok (.aload_n 0, 1) := by decide +kernel
theorem dX6_rowName_1 : decode cX6_rowName 1 = .ok (.iload_n 1, 1) := by decide +kernel
theorem dX6_rowName_2 : decode cX6_rowName 2 = .ok (.iload_n 2, 1) := by decide +kernel
theorem dX6_rowName_3 : decode cX6_rowName 3 = .ok (.invokevirtual 159, 3) := by decide +kernel
theorem dX6_rowName_6 : decode cX6_rowName 6 = .ok (.getfield 163, 3) := by decide +kernel
theorem dX6_rowName_9 : decode cX6_rowName 9 = .ok (.ireturn, 1) := by decide +kernel
set_option maxRecDepth 20000 in
theorem ggX6_rowReference_X6_checkedRow : GoodIn wsX6_rowReference wsX6_checkedRow := goodIn_ca (goodIn_ca (goodIn_r _ [6, 7, 8, 9, 10, 11, 5, 12, 13, 14, 15, 16, 17, 18, 19, 20, 21, 22, 23, 24, 25, 26, 27, 28, 29, 30, 31, 32, 33, 34, 35, 36, 37, 38, 39, 40, 41, 42, 43, 44, 45, 46, 47, 48, 49, 50, 51, 52, 53, 54, 55, 56, 57, 58, 59, 60, 61, 62, 63, 64] rfl (by decide +kernel)) (goodIn_sub (fun _ h => List.mem_cons_of_mem _ (List.mem_append_left _ (List.mem_append_right _ h))) (by decide +kernel))) (goodIn_sub (fun _ h => List.mem_cons_of_mem _ (List.mem_append_right _ h)) (by decide +kernel))
set_option maxRecDepth 20000 in
theorem gX6_rowReference_X6_checkedRow : GoodIn wsX6_rowReference (wsV RX6 159 RX6 yX6_checkedRow wsX6_checkedRow) := goodIn_app (goodIn_r _ [2, 3, 4, 5] rfl (by decide +kernel)) ggX6_rowReference_X6_checkedRow
theorem dX6_rowReference_0 : decode cX6_rowReference 0 = .ok (.aload_n 0, 1) := by decide +kernel
theorem dX6_rowReference_1 : decode cX6_rowReference 1 = .ok (.iload_n 1, 1) := by decide +kernel
theorem dX6_rowReference_2 : decode cX6_rowReference 2 = .ok (.iload_n 2, 1) := by decide +kernel
theorem dX6_rowReference_3 : decode cX6_rowReference 3 = .ok (.invokevirtual 159, 3) := by decide +kernel
theorem dX6_rowReference_6 : decode cX6_rowReference 6 = .ok (.getfield 164, 3) := by decide +kernel
theorem dX6_rowReference_9 : decode cX6_rowReference 9 = .ok (.ireturn, 1) := by decide +kernel
set_option maxRecDepth 20000 in
theorem ggX6_rowVersion_X6_checkedRow : GoodIn wsX6_rowVersion wsX6_checkedRow := goodIn_ca (goodIn_ca (goodIn_r _ [6, 7, 8, 9, 10, 11, 5, 12, 13, 14, 15, 16, 17, 18, 19, 20, 21, 22, 23, 24, 25, 26, 27, 28, 29, 30, 31, 32, 33, 34, 35, 36, 37, 38, 39, 40, 41, 42, 43, 44, 45, 46, 47, 48, 49, 50, 51, 52, 53, 54, 55, 56, 57, 58, 59, 60, 61, 62, 63, 64] rfl (by decide +kernel)) (goodIn_sub (fun _ h => List.mem_cons_of_mem _ (List.mem_append_left _ (List.mem_append_right _ h))) (by decide +kernel))) (goodIn_sub (fun _ h => List.mem_cons_of_mem _ (List.mem_append_right _ h)) (by decide +kernel))
set_option maxRecDepth 20000 in
theorem gX6_rowVersion_X6_checkedRow : GoodIn wsX6_rowVersion (wsV RX6 159 RX6 yX6_checkedRow wsX6_checkedRow) := goodIn_app (goodIn_r _ [2, 3, 4, 5] rfl (by decide +kernel)) ggX6_rowVersion_X6_checkedRow
theorem dX6_rowVersion_0 : decode cX6_rowVersion 0 = .ok (.aload_n 0, 1) := by decide +kernel
theorem dX6_rowVersion_1 : decode cX6_rowVersion 1 = .ok (.iload_n 1, 1) := by decide +kernel
theorem dX6_rowVersion_2 : decode cX6_rowVersion 2 = .ok (.iload_n 2, 1) := by decide +kernel
theorem dX6_rowVersion_3 : decode cX6_rowVersion 3 = .ok (.invokevirtual 159, 3) := by decide +kernel
theorem dX6_rowVersion_6 : decode cX6_rowVersion 6 = .ok (.getfield 165, 3) := by decide +kernel
theorem dX6_rowVersion_9 : decode cX6_rowVersion 9 = .ok (.ireturn, 1) := by decide +kernel
theorem dX6_writes_0 : decode cX6_writes 0 = .ok (.aload_n 0, 1) := by decide +kernel
theorem dX6_writes_1 : decode cX6_writes 1 = .ok (.getfield 22, 3) := by decide +kernel
theorem dX6_writes_4 : decode cX6_writes 4 = .ok (.getfield 146, 3) := by decide +kernel
theorem dX6_writes_7 : decode cX6_writes 7 = .ok (.ireturn, 1) := by decide +kernel
set_option maxRecDepth 20000 in
theorem ggX6_write_X6_checkWrite : GoodIn wsX6_write wsX6_checkWrite := goodIn_ca (goodIn_r _ [6, 7, 8, 1, 9, 16, 17, 18, 19, 20, 21, 22] rfl (by decide +kernel)) (goodIn_sub (fun _ h => List.mem_cons_of_mem _ (List.mem_append_right _ h)) (by decide +kernel))
set_option maxRecDepth 20000 in
theorem gX6_write_X6_checkWrite : GoodIn wsX6_write (wsV RX6 168 RX6 yX6_checkWrite wsX6_checkWrite) := goodIn_app (goodIn_r _ [2, 3, 4, 5] rfl (by decide +kernel)) ggX6_write_X6_checkWrite
set_option maxRecDepth 20000 in
theorem ggX6_write_X2_actionAt : GoodIn wsX6_write wsX2_actionAt := goodIn_r _ [14, 15, 20, 21, 22] rfl (by decide +kernel)
set_option maxRecDepth 20000 in
theorem gX6_write_X2_actionAt : GoodIn wsX6_write (wsV RX6 171 RX2 yX2_actionAt wsX2_actionAt) := goodIn_app (goodIn_r _ [10, 11, 12, 13] rfl (by decide +kernel)) ggX6_write_X2_actionAt
theorem dX6_write_0 : decode cX6_write 0 = .ok (.aload_n 0, 1) := by decide +kernel
theorem dX6_write_1 : decode cX6_write 1 = .ok (.iload_n 1, 1) := by decide +kernel
theorem dX6_write_2 : decode cX6_write 2 = .ok (.invokevirtual 168, 3) := by decide +kernel
theorem dX6_write_5 : decode cX6_write 5 = .ok (.aload_n 0, 1) := by decide +kernel
theorem dX6_write_6 : decode cX6_write 6 = .ok (.getfield 22, 3) := by decide +kernel
theorem dX6_write_9 : decode cX6_write 9 = .ok (.iload_n 1, 1) := by decide +kernel
theorem dX6_write_10 : decode cX6_write 10 = .ok (.invokevirtual 171, 3) := by decide +kernel
theorem dX6_write_13 : decode cX6_write 13 = .ok (.ireturn, 1) := by decide +kernel
set_option maxRecDepth 20000 in
theorem ggX6_written_X6_checkWrite : GoodIn wsX6_written wsX6_checkWrite := goodIn_ca (goodIn_r _ [6, 7, 8, 1, 9, 16, 17, 18, 19, 20, 21, 22] rfl (by decide +kernel)) (goodIn_sub (fun _ h => List.mem_cons_of_mem _ (List.mem_append_right _ h)) (by decide +kernel))
set_option maxRecDepth 20000 in
theorem gX6_written_X6_checkWrite : GoodIn wsX6_written (wsV RX6 168 RX6 yX6_checkWrite wsX6_checkWrite) := goodIn_app (goodIn_r _ [2, 3, 4, 5] rfl (by decide +kernel)) ggX6_written_X6_checkWrite
set_option maxRecDepth 20000 in
theorem ggX6_written_X2_rowNumberAt : GoodIn wsX6_written wsX2_rowNumberAt := goodIn_r _ [14, 15, 20, 21, 22] rfl (by decide +kernel)
set_option maxRecDepth 20000 in
theorem gX6_written_X2_rowNumberAt : GoodIn wsX6_written (wsV RX6 174 RX2 yX2_rowNumberAt wsX2_rowNumberAt) := goodIn_app (goodIn_r _ [10, 11, 12, 13] rfl (by decide +kernel)) ggX6_written_X2_rowNumberAt
theorem dX6_written_0 : decode cX6_written 0 = .ok (.aload_n 0, 1) := by decide +kernel
theorem dX6_written_1 : decode cX6_written 1 = .ok (.iload_n 1, 1) := by decide +kernel
theorem dX6_written_2 : decode cX6_written 2 = .ok (.invokevirtual 168, 3) := by decide +kernel
theorem dX6_written_5 : decode cX6_written 5 = .ok (.aload_n 0, 1) := by decide +kernel
theorem dX6_written_6 : decode cX6_written 6 = .ok (.getfield 22, 3) := by decide +kernel
theorem dX6_written_9 : decode cX6_written 9 = .ok (.iload_n 1, 1) := by decide +kernel
theorem dX6_written_10 : decode cX6_written 10 = .ok (.invokevirtual 174, 3) := by decide +kernel
theorem dX6_written_13 : decode cX6_written 13 = .ok (.ireturn, 1) := by decide +kernel
theorem dX6_sessionAt_0 : decode cX6_sessionAt 0 = .ok (.iload_n 1, 1) := by decide +kernel
theorem dX6_sessionAt_1 : decode cX6_sessionAt 1 = .ok (.ifCond .lt 12, 3) := by decide +kernel
theorem dX6_sessionAt_4 : decode cX6_sessionAt 4 = .ok (.iload_n 1, 1) := by decide +kernel
theorem dX6_sessionAt_5 : decode cX6_sessionAt 5 = .ok (.aload_n 0, 1) := by decide +kernel
theorem dX6_sessionAt_6 : decode cX6_sessionAt 6 = .ok (.getfield 28, 3) := by decide +kernel
theorem dX6_sessionAt_9 : decode cX6_sessionAt 9 = .ok (.arraylength, 1) := by decide +kernel
theorem dX6_sessionAt_10 : decode cX6_sessionAt 10 = .ok (.if_icmp .lt 13, 3) := by decide +kernel
theorem dX6_sessionAt_13 : decode cX6_sessionAt 13 = .ok (.new 177, 3) := by decide +kernel
theorem dX6_sessionAt_16 : decode cX6_sessionAt 16 = .ok (.dup, 1) := by decide +kernel
theorem dX6_sessionAt_17 : decode cX6_sessionAt 17 = .ok (.ldc 179, 2) := by decide +kernel
theorem dX6_sessionAt_19 : decode cX6_sessionAt 19 = .ok (.invokespecial 181, 3) := by decide +kernel
theorem dX6_sessionAt_22 : decode cX6_sessionAt 22 = .ok (.athrow, 1) := by decide +kernel
theorem dX6_sessionAt_23 : decode cX6_sessionAt 23 = .ok (.aload_n 0, 1) := by decide +kernel
theorem dX6_sessionAt_24 : decode cX6_sessionAt 24 = .ok (.getfield 28, 3) := by decide +kernel
theorem dX6_sessionAt_27 : decode cX6_sessionAt 27 = .ok (.iload_n 1, 1) := by decide +kernel
theorem dX6_sessionAt_28 : decode cX6_sessionAt 28 = .ok (.aaload, 1) := by decide +kernel
theorem dX6_sessionAt_29 : decode cX6_sessionAt 29 = .ok (.areturn, 1) := by decide +kernel
theorem dX6_checkKind_0 : decode cX6_checkKind 0 = .ok (.iload_n 0, 1) := by decide +kernel
theorem dX6_checkKind_1 : decode cX6_checkKind 1 = .ok (.ifCond .eq 18, 3) := by decide +kernel
theorem dX6_checkKind_4 : decode cX6_checkKind 4 = .ok (.iload_n 0, 1) := by decide +kernel
theorem dX6_checkKind_5 : decode cX6_checkKind 5 = .ok (.iconst 1, 1) := by decide +kernel
theorem dX6_checkKind_6 : decode cX6_checkKind 6 = .ok (.if_icmp .eq 13, 3) := by decide +kernel
theorem dX6_checkKind_9 : decode cX6_checkKind 9 = .ok (.new 98, 3) := by decide +kernel
theorem dX6_checkKind_12 : decode cX6_checkKind 12 = .ok (.dup, 1) := by decide +kernel
theorem dX6_checkKind_13 : decode cX6_checkKind 13 = .ok (.ldc 182, 2) := by decide +kernel
theorem dX6_checkKind_15 : decode cX6_checkKind 15 = .ok (.invokespecial 102, 3) := by decide +kernel
theorem dX6_checkKind_18 : decode cX6_checkKind 18 = .ok (.athrow, 1) := by decide +kernel
theorem dX6_checkKind_19 : decode cX6_checkKind 19 = .ok (.return_, 1) := by decide +kernel
theorem dX6_checkRangeOfName_0 : decode cX6_checkRangeOfName 0 = .ok (.iload_n 0, 1) := by decide +kernel
theorem dX6_checkRangeOfName_1 : decode cX6_checkRangeOfName 1 = .ok (.ifCond .lt 10, 3) := by decide +kernel
theorem dX6_checkRangeOfName_4 : decode cX6_checkRangeOfName 4 = .ok (.iload_n 0, 1) := by decide +kernel
theorem dX6_checkRangeOfName_5 : decode cX6_checkRangeOfName 5 = .ok (.sipush 1000, 3) := by decide +kernel
theorem dX6_checkRangeOfName_8 : decode cX6_checkRangeOfName 8 = .ok (.if_icmp .le 13, 3) := by decide +kernel
theorem dX6_checkRangeOfName_11 : decode cX6_checkRangeOfName 11 = .ok (.new 98, 3) := by decide +kernel
theorem dX6_checkRangeOfName_14 : decode cX6_checkRangeOfName 14 = .ok (.dup, 1) := by decide +kernel
theorem dX6_checkRangeOfName_15 : decode cX6_checkRangeOfName 15 = .ok (.ldc 184, 2) := by decide +kernel
theorem dX6_checkRangeOfName_17 : decode cX6_checkRangeOfName 17 = .ok (.invokespecial 102, 3) := by decide +kernel
theorem dX6_checkRangeOfName_20 : decode cX6_checkRangeOfName 20 = .ok (.athrow, 1) := by decide +kernel
theorem dX6_checkRangeOfName_21 : decode cX6_checkRangeOfName 21 = .ok (.return_, 1) := by decide +kernel
set_option maxRecDepth 20000 in
theorem ggX6_checkLive_X4_entityAt : GoodIn wsX6_checkLive wsX4_entityAt := goodIn_r _ [7, 8, 9, 10, 11, 12, 6, 13, 14, 15, 16, 17, 18, 19, 20, 21, 22, 23, 24, 25, 26, 27, 28, 29, 30, 31, 32, 33, 34, 35, 36, 37, 38, 46, 47, 48, 49, 50, 51] rfl (by decide +kernel)
set_option maxRecDepth 20000 in
theorem gX6_checkLive_X4_entityAt : GoodIn wsX6_checkLive (wsV RX6 60 RX4 yX4_entityAt wsX4_entityAt) := goodIn_app (goodIn_r _ [3, 4, 5, 6] rfl (by decide +kernel)) ggX6_checkLive_X4_entityAt
set_option maxRecDepth 20000 in
theorem ggX6_checkLive_X0_isLive : GoodIn wsX6_checkLive wsX0_isLive := goodIn_r _ [43, 44, 45, 52, 53, 54, 55, 56, 57, 58, 59] rfl (by decide +kernel)
set_option maxRecDepth 20000 in
theorem gX6_checkLive_X0_isLive : GoodIn wsX6_checkLive (wsV RX6 79 RX0 yX0_isLive wsX0_isLive) := goodIn_app (goodIn_r _ [39, 40, 41, 42] rfl (by decide +kernel)) ggX6_checkLive_X0_isLive
theorem dX6_checkLive_0 : decode cX6_checkLive 0 = .ok (.aload_n 0, 1) := by decide +kernel
theorem dX6_checkLive_1 : decode cX6_checkLive 1 = .ok (.iload_n 1, 1) := by decide +kernel
theorem dX6_checkLive_2 : decode cX6_checkLive 2 = .ok (.iload_n 2, 1) := by decide +kernel
theorem dX6_checkLive_3 : decode cX6_checkLive 3 = .ok (.invokevirtual 60, 3) := by decide +kernel
theorem dX6_checkLive_6 : decode cX6_checkLive 6 = .ok (.invokevirtual 79, 3) := by decide +kernel
theorem dX6_checkLive_9 : decode cX6_checkLive 9 = .ok (.ifCond .ne 13, 3) := by decide +kernel
theorem dX6_checkLive_12 : decode cX6_checkLive 12 = .ok (.new 128, 3) := by decide +kernel
theorem dX6_checkLive_15 : decode cX6_checkLive 15 = .ok (.dup, 1) := by decide +kernel
theorem dX6_checkLive_16 : decode cX6_checkLive 16 = .ok (.ldc 186, 2) := by decide +kernel
theorem dX6_checkLive_18 : decode cX6_checkLive 18 = .ok (.invokespecial 132, 3) := by decide +kernel
theorem dX6_checkLive_21 : decode cX6_checkLive 21 = .ok (.athrow, 1) := by decide +kernel
theorem dX6_checkLive_22 : decode cX6_checkLive 22 = .ok (.return_, 1) := by decide +kernel
set_option maxRecDepth 20000 in
theorem ggX6_checkedRow_X6_checkKind : GoodIn wsX6_checkedRow wsX6_checkKind := goodIn_ca (goodIn_r _ [7, 8, 9] rfl (by decide +kernel)) (goodIn_sub (fun _ h => List.mem_cons_of_mem _ (List.mem_append_right _ h)) (by decide +kernel))
set_option maxRecDepth 20000 in
theorem gX6_checkedRow_X6_checkKind : GoodIn wsX6_checkedRow (va_wsS RX6 49 yX6_checkKind wsX6_checkKind) := goodIn_app (goodIn_r _ [4, 5, 6] rfl (by decide +kernel)) ggX6_checkedRow_X6_checkKind
set_option maxRecDepth 20000 in
theorem ggX6_checkedRow_X6_tableOf : GoodIn wsX6_checkedRow wsX6_tableOf := goodIn_r _ [13, 14, 15, 51, 52, 53, 54] rfl (by decide +kernel)
set_option maxRecDepth 20000 in
theorem gX6_checkedRow_X6_tableOf : GoodIn wsX6_checkedRow (wsV RX6 52 RX6 yX6_tableOf wsX6_tableOf) := goodIn_app (goodIn_r _ [10, 11, 12, 6] rfl (by decide +kernel)) ggX6_checkedRow_X6_tableOf
set_option maxRecDepth 20000 in
theorem ggX6_checkedRow_X5_rowAt : GoodIn wsX6_checkedRow wsX5_rowAt := goodIn_r _ [20, 21, 22, 23, 24, 25, 26, 27, 28, 29, 30, 31, 32, 33, 34, 35, 36, 37, 38, 39, 40, 41, 42, 43, 44, 45, 46, 55, 56, 57, 58, 59] rfl (by decide +kernel)
set_option maxRecDepth 20000 in
theorem gX6_checkedRow_X5_rowAt : GoodIn wsX6_checkedRow (wsV RX6 56 RX5 yX5_rowAt wsX5_rowAt) := goodIn_app (goodIn_r _ [16, 17, 18, 19] rfl (by decide +kernel)) ggX6_checkedRow_X5_rowAt
theorem dX6_checkedRow_0 : decode cX6_checkedRow 0 = .ok (.iload_n 1, 1) := by decide +kernel
theorem dX6_checkedRow_1 : decode cX6_checkedRow 1 = .ok (.invokestatic 49, 3) := by decide +kernel
theorem dX6_checkedRow_4 : decode cX6_checkedRow 4 = .ok (.aload_n 0, 1) := by decide +kernel
theorem dX6_checkedRow_5 : decode cX6_checkedRow 5 = .ok (.iload_n 1, 1) := by decide +kernel
theorem dX6_checkedRow_6 : decode cX6_checkedRow 6 = .ok (.invokevirtual 52, 3) := by decide +kernel
theorem dX6_checkedRow_9 : decode cX6_checkedRow 9 = .ok (.iload_n 2, 1) := by decide +kernel
theorem dX6_checkedRow_10 : decode cX6_checkedRow 10 = .ok (.invokevirtual 56, 3) := by decide +kernel
theorem dX6_checkedRow_13 : decode cX6_checkedRow 13 = .ok (.astore_n 3, 1) := by decide +kernel
theorem dX6_checkedRow_14 : decode cX6_checkedRow 14 = .ok (.aload_n 3, 1) := by decide +kernel
theorem dX6_checkedRow_15 : decode cX6_checkedRow 15 = .ok (.getfield 64, 3) := by decide +kernel
theorem dX6_checkedRow_18 : decode cX6_checkedRow 18 = .ok (.ifCond .ne 13, 3) := by decide +kernel
theorem dX6_checkedRow_21 : decode cX6_checkedRow 21 = .ok (.new 177, 3) := by decide +kernel
theorem dX6_checkedRow_24 : decode cX6_checkedRow 24 = .ok (.dup, 1) := by decide +kernel
theorem dX6_checkedRow_25 : decode cX6_checkedRow 25 = .ok (.ldc 188, 2) := by decide +kernel
theorem dX6_checkedRow_27 : decode cX6_checkedRow 27 = .ok (.invokespecial 181, 3) := by decide +kernel
theorem dX6_checkedRow_30 : decode cX6_checkedRow 30 = .ok (.athrow, 1) := by decide +kernel
theorem dX6_checkedRow_31 : decode cX6_checkedRow 31 = .ok (.aload_n 3, 1) := by decide +kernel
theorem dX6_checkedRow_32 : decode cX6_checkedRow 32 = .ok (.areturn, 1) := by decide +kernel
theorem dX6_checkWrite_0 : decode cX6_checkWrite 0 = .ok (.iload_n 1, 1) := by decide +kernel
theorem dX6_checkWrite_1 : decode cX6_checkWrite 1 = .ok (.ifCond .lt 14, 3) := by decide +kernel
theorem dX6_checkWrite_4 : decode cX6_checkWrite 4 = .ok (.iload_n 1, 1) := by decide +kernel
theorem dX6_checkWrite_5 : decode cX6_checkWrite 5 = .ok (.aload_n 0, 1) := by decide +kernel
theorem dX6_checkWrite_6 : decode cX6_checkWrite 6 = .ok (.getfield 22, 3) := by decide +kernel
theorem dX6_checkWrite_9 : decode cX6_checkWrite 9 = .ok (.getfield 146, 3) := by decide +kernel
theorem dX6_checkWrite_12 : decode cX6_checkWrite 12 = .ok (.if_icmp .lt 13, 3) := by decide +kernel
theorem dX6_checkWrite_15 : decode cX6_checkWrite 15 = .ok (.new 177, 3) := by decide +kernel
theorem dX6_checkWrite_18 : decode cX6_checkWrite 18 = .ok (.dup, 1) := by decide +kernel
theorem dX6_checkWrite_19 : decode cX6_checkWrite 19 = .ok (.ldc 190, 2) := by decide +kernel
theorem dX6_checkWrite_21 : decode cX6_checkWrite 21 = .ok (.invokespecial 181, 3) := by decide +kernel
theorem dX6_checkWrite_24 : decode cX6_checkWrite 24 = .ok (.athrow, 1) := by decide +kernel
theorem dX6_checkWrite_25 : decode cX6_checkWrite 25 = .ok (.return_, 1) := by decide +kernel
theorem dX6_otherKind_0 : decode cX6_otherKind 0 = .ok (.iload_n 0, 1) := by decide +kernel
theorem dX6_otherKind_1 : decode cX6_otherKind 1 = .ok (.ifCond .ne 7, 3) := by decide +kernel
theorem dX6_otherKind_4 : decode cX6_otherKind 4 = .ok (.iconst 1, 1) := by decide +kernel
theorem dX6_otherKind_5 : decode cX6_otherKind 5 = .ok (.goto 4, 3) := by decide +kernel
theorem dX6_otherKind_8 : decode cX6_otherKind 8 = .ok (.iconst 0, 1) := by decide +kernel
theorem dX6_otherKind_9 : decode cX6_otherKind 9 = .ok (.ireturn, 1) := by decide +kernel
theorem dX6_tableOf_0 : decode cX6_tableOf 0 = .ok (.iload_n 1, 1) := by decide +kernel
theorem dX6_tableOf_1 : decode cX6_tableOf 1 = .ok (.ifCond .ne 10, 3) := by decide +kernel
theorem dX6_tableOf_4 : decode cX6_tableOf 4 = .ok (.aload_n 0, 1) := by decide +kernel
theorem dX6_tableOf_5 : decode cX6_tableOf 5 = .ok (.getfield 10, 3) := by decide +kernel
theorem dX6_tableOf_8 : decode cX6_tableOf 8 = .ok (.goto 7, 3) := by decide +kernel
theorem dX6_tableOf_11 : decode cX6_tableOf 11 = .ok (.aload_n 0, 1) := by decide +kernel
theorem dX6_tableOf_12 : decode cX6_tableOf 12 = .ok (.getfield 16, 3) := by decide +kernel
theorem dX6_tableOf_15 : decode cX6_tableOf 15 = .ok (.areturn, 1) := by decide +kernel
set_option maxRecDepth 20000 in
theorem ggX6_makeEntity_X6_tableOf : GoodIn wsX6_makeEntity wsX6_tableOf := goodIn_r _ [6, 7, 8, 136, 137, 138, 139] rfl (by decide +kernel)
set_option maxRecDepth 20000 in
theorem gX6_makeEntity_X6_tableOf : GoodIn wsX6_makeEntity (wsV RX6 52 RX6 yX6_tableOf wsX6_tableOf) := goodIn_app (goodIn_r _ [2, 3, 4, 5] rfl (by decide +kernel)) ggX6_makeEntity_X6_tableOf
set_option maxRecDepth 20000 in
theorem ggX6_makeEntity_X5_size : GoodIn wsX6_makeEntity wsX5_size := goodIn_r _ [13, 14, 15, 16, 17, 18, 19, 20, 140, 141, 142, 143, 144] rfl (by decide +kernel)
set_option maxRecDepth 20000 in
theorem gX6_makeEntity_X5_size : GoodIn wsX6_makeEntity (wsV RX6 192 RX5 yX5_size wsX5_size) := goodIn_app (goodIn_r _ [9, 10, 11, 12] rfl (by decide +kernel)) ggX6_makeEntity_X5_size
set_option maxRecDepth 20000 in
theorem ggX6_makeEntity_X5_addPlace : GoodIn wsX6_makeEntity wsX5_addPlace := goodIn_r _ [24, 14, 25, 26, 27, 28, 29, 30, 31, 32, 33, 34, 35, 36, 18, 37, 38, 39, 40, 20, 41, 42, 43, 44, 45, 46, 47, 48, 49, 50, 51, 52, 53, 54, 55, 56, 57, 58, 59, 60, 61, 62, 63, 64, 65, 66, 67, 68, 69, 70, 71, 72, 73, 74, 75, 76, 77, 78, 79, 80, 81, 82, 83, 84, 85, 86, 87, 140, 141, 145, 146, 147, 148, 142, 143, 144] rfl (by decide +kernel)
set_option maxRecDepth 20000 in
theorem gX6_makeEntity_X5_addPlace : GoodIn wsX6_makeEntity (wsV RX6 194 RX5 yX5_addPlace wsX5_addPlace) := goodIn_app (goodIn_r _ [21, 22, 23, 12] rfl (by decide +kernel)) ggX6_makeEntity_X5_addPlace
set_option maxRecDepth 20000 in
theorem ggX6_makeEntity_X4_addPlace : GoodIn wsX6_makeEntity wsX4_addPlace := goodIn_r _ [92, 93, 94, 95, 96, 97, 98, 91, 99, 100, 101, 102, 103, 104, 31, 32, 105, 106, 35, 36, 18, 37, 38, 39, 40, 20, 41, 42, 43, 44, 45, 46, 47, 48, 49, 50, 51, 52, 53, 54, 55, 56, 57, 58, 59, 60, 61, 62, 63, 64, 65, 66, 67, 68, 69, 70, 71, 72, 73, 74, 75, 76, 77, 78, 79, 80, 81, 82, 83, 84, 85, 86, 87, 149, 150, 151, 152, 153, 154, 155, 156, 157, 158, 159, 142, 143, 144] rfl (by decide +kernel)
set_option maxRecDepth 20000 in
theorem gX6_makeEntity_X4_addPlace : GoodIn wsX6_makeEntity (wsV RX6 197 RX4 yX4_addPlace wsX4_addPlace) := goodIn_app (goodIn_r _ [88, 89, 90, 91] rfl (by decide +kernel)) ggX6_makeEntity_X4_addPlace
set_option maxRecDepth 20000 in
theorem ggX6_makeEntity_X4_entityAt : GoodIn wsX6_makeEntity wsX4_entityAt := goodIn_r _ [110, 111, 112, 96, 97, 98, 91, 99, 100, 101, 113, 16, 17, 18, 19, 20, 114, 115, 116, 117, 118, 119, 120, 121, 122, 123, 124, 125, 126, 127, 128, 129, 40, 157, 158, 159, 142, 143, 144] rfl (by decide +kernel)
set_option maxRecDepth 20000 in
theorem gX6_makeEntity_X4_entityAt : GoodIn wsX6_makeEntity (wsV RX6 60 RX4 yX4_entityAt wsX4_entityAt) := goodIn_app (goodIn_r _ [107, 108, 109, 91] rfl (by decide +kernel)) ggX6_makeEntity_X4_entityAt
set_option maxRecDepth 20000 in
theorem ggX6_makeEntity_X0_make : GoodIn wsX6_makeEntity wsX0_make := goodIn_r _ [133, 134, 135, 105, 149, 150, 151, 152, 153, 154, 155, 156] rfl (by decide +kernel)
set_option maxRecDepth 20000 in
theorem gX6_makeEntity_X0_make : GoodIn wsX6_makeEntity (wsV RX6 199 RX0 yX0_make wsX0_make) := goodIn_app (goodIn_r _ [130, 131, 132, 95] rfl (by decide +kernel)) ggX6_makeEntity_X0_make
theorem dX6_makeEntity_0 : decode cX6_makeEntity 0 = .ok (.aload_n 0, 1) := by decide +kernel
theorem dX6_makeEntity_1 : decode cX6_makeEntity 1 = .ok (.iload_n 2, 1) := by decide +kernel
theorem dX6_makeEntity_2 : decode cX6_makeEntity 2 = .ok (.invokevirtual 52, 3) := by decide +kernel
theorem dX6_makeEntity_5 : decode cX6_makeEntity 5 = .ok (.invokevirtual 192, 3) := by decide +kernel
theorem dX6_makeEntity_8 : decode cX6_makeEntity 8 = .ok (.istore 5, 2) := by decide +kernel
theorem dX6_makeEntity_10 : decode cX6_makeEntity 10 = .ok (.iload 5, 2) := by decide +kernel
theorem dX6_makeEntity_12 : decode cX6_makeEntity 12 = .ok (.sipush 512, 3) := by decide +kernel
theorem dX6_makeEntity_15 : decode cX6_makeEntity 15 = .ok (.if_icmp .lt 5, 3) := by decide +kernel
theorem dX6_makeEntity_18 : decode cX6_makeEntity 18 = .ok (.iconst (-1), 1) := by decide +kernel
theorem dX6_makeEntity_19 : decode cX6_makeEntity 19 = .ok (.ireturn, 1) := by decide +kernel
theorem dX6_makeEntity_20 : decode cX6_makeEntity 20 = .ok (.aload_n 0, 1) := by decide +kernel
theorem dX6_makeEntity_21 : decode cX6_makeEntity 21 = .ok (.iload_n 2, 1) := by decide +kernel
theorem dX6_makeEntity_22 : decode cX6_makeEntity 22 = .ok (.invokevirtual 52, 3) := by decide +kernel
theorem dX6_makeEntity_25 : decode cX6_makeEntity 25 = .ok (.invokevirtual 194, 3) := by decide +kernel
theorem dX6_makeEntity_28 : decode cX6_makeEntity 28 = .ok (.iconst 0, 1) := by decide +kernel
theorem dX6_makeEntity_29 : decode cX6_makeEntity 29 = .ok (.istore 6, 2) := by decide +kernel
theorem dX6_makeEntity_31 : decode cX6_makeEntity 31 = .ok (.iload 6, 2) := by decide +kernel
theorem dX6_makeEntity_33 : decode cX6_makeEntity 33 = .ok (.aload_n 0, 1) := by decide +kernel
theorem dX6_makeEntity_34 : decode cX6_makeEntity 34 = .ok (.getfield 28, 3) := by decide +kernel
theorem dX6_makeEntity_37 : decode cX6_makeEntity 37 = .ok (.arraylength, 1) := by decide +kernel
theorem dX6_makeEntity_38 : decode cX6_makeEntity 38 = .ok (.if_icmp .ge 20, 3) := by decide +kernel
theorem dX6_makeEntity_41 : decode cX6_makeEntity 41 = .ok (.aload_n 0, 1) := by decide +kernel
theorem dX6_makeEntity_42 : decode cX6_makeEntity 42 = .ok (.getfield 28, 3) := by decide +kernel
theorem dX6_makeEntity_45 : decode cX6_makeEntity 45 = .ok (.iload 6, 2) := by decide +kernel
theorem dX6_makeEntity_47 : decode cX6_makeEntity 47 = .ok (.aaload, 1) := by decide +kernel
theorem dX6_makeEntity_48 : decode cX6_makeEntity 48 = .ok (.iload_n 2, 1) := by decide +kernel
theorem dX6_makeEntity_49 : decode cX6_makeEntity 49 = .ok (.invokevirtual 197, 3) := by decide +kernel
theorem dX6_makeEntity_52 : decode cX6_makeEntity 52 = .ok (.iinc 6 1, 3) := by decide +kernel
theorem dX6_makeEntity_55 : decode cX6_makeEntity 55 = .ok (.goto (-24), 3) := by decide +kernel
theorem dX6_makeEntity_58 : decode cX6_makeEntity 58 = .ok (.aload_n 1, 1) := by decide +kernel
theorem dX6_makeEntity_59 : decode cX6_makeEntity 59 = .ok (.iload_n 2, 1) := by decide +kernel
theorem dX6_makeEntity_60 : decode cX6_makeEntity 60 = .ok (.iload 5, 2) := by decide +kernel
theorem dX6_makeEntity_62 : decode cX6_makeEntity 62 = .ok (.invokevirtual 60, 3) := by decide +kernel
theorem dX6_makeEntity_65 : decode cX6_makeEntity 65 = .ok (.iload_n 3, 1) := by decide +kernel
theorem dX6_makeEntity_66 : decode cX6_makeEntity 66 = .ok (.iload 4, 2) := by decide +kernel
theorem dX6_makeEntity_68 : decode cX6_makeEntity 68 = .ok (.invokevirtual 199, 3) := by decide +kernel
theorem dX6_makeEntity_71 : decode cX6_makeEntity 71 = .ok (.iload 5, 2) := by decide +kernel
theorem dX6_makeEntity_73 : decode cX6_makeEntity 73 = .ok (.ireturn, 1) := by decide +kernel
set_option maxRecDepth 20000 in
theorem ggX6_loadReferring_X6_tableOf : GoodIn wsX6_loadReferring wsX6_tableOf := goodIn_r _ [8, 9, 10, 96, 97, 98, 99] rfl (by decide +kernel)
set_option maxRecDepth 20000 in
theorem gX6_loadReferring_X6_tableOf : GoodIn wsX6_loadReferring (wsV RX6 52 RX6 yX6_tableOf wsX6_tableOf) := goodIn_app (goodIn_r _ [4, 5, 6, 7] rfl (by decide +kernel)) ggX6_loadReferring_X6_tableOf
set_option maxRecDepth 20000 in
theorem ggX6_loadReferring_X5_size : GoodIn wsX6_loadReferring wsX5_size := goodIn_r _ [15, 16, 17, 18, 19, 20, 21, 22, 100, 101, 102, 103, 104] rfl (by decide +kernel)
set_option maxRecDepth 20000 in
theorem gX6_loadReferring_X5_size : GoodIn wsX6_loadReferring (wsV RX6 192 RX5 yX5_size wsX5_size) := goodIn_app (goodIn_r _ [11, 12, 13, 14] rfl (by decide +kernel)) ggX6_loadReferring_X5_size
set_option maxRecDepth 20000 in
theorem ggX6_loadReferring_X5_rowAt : GoodIn wsX6_loadReferring wsX5_rowAt := goodIn_r _ [26, 16, 27, 28, 17, 18, 19, 20, 21, 22, 29, 30, 31, 32, 33, 34, 35, 36, 37, 38, 39, 40, 41, 42, 43, 44, 45, 100, 101, 102, 103, 104] rfl (by decide +kernel)
set_option maxRecDepth 20000 in
theorem gX6_loadReferring_X5_rowAt : GoodIn wsX6_loadReferring (wsV RX6 56 RX5 yX5_rowAt wsX5_rowAt) := goodIn_app (goodIn_r _ [23, 24, 25, 14] rfl (by decide +kernel)) ggX6_loadReferring_X5_rowAt
set_option maxRecDepth 20000 in
theorem ggX6_loadReferring_X4_entityAt : GoodIn wsX6_loadReferring wsX4_entityAt := goodIn_r _ [50, 51, 52, 53, 54, 55, 49, 56, 57, 58, 59, 18, 19, 20, 21, 22, 60, 30, 31, 32, 33, 34, 35, 36, 37, 38, 39, 40, 41, 42, 43, 44, 45, 105, 106, 107, 102, 103, 104] rfl (by decide +kernel)
set_option maxRecDepth 20000 in
theorem gX6_loadReferring_X4_entityAt : GoodIn wsX6_loadReferring (wsV RX6 60 RX4 yX4_entityAt wsX4_entityAt) := goodIn_app (goodIn_r _ [46, 47, 48, 49] rfl (by decide +kernel)) ggX6_loadReferring_X4_entityAt
set_option maxRecDepth 20000 in
theorem ggX6_loadReferring_X0_load : GoodIn wsX6_loadReferring wsX0_load := goodIn_r _ [65, 66, 67, 68, 69, 70, 64, 71, 72, 73, 74, 75, 76, 77, 78, 79, 80, 81, 82, 83, 84, 85, 86, 87, 88, 89, 90, 91, 92, 93, 94, 95] rfl (by decide +kernel)
set_option maxRecDepth 20000 in
theorem gX6_loadReferring_X0_load : GoodIn wsX6_loadReferring (wsV RX6 75 RX0 yX0_load wsX0_load) := goodIn_app (goodIn_r _ [61, 62, 63, 64] rfl (by decide +kernel)) ggX6_loadReferring_X0_load
theorem dX6_loadReferring_0 : decode cX6_loadReferring 0 = .ok (.aload_n 0, 1) := by decide +kernel
theorem dX6_loadReferring_1 : decode cX6_loadReferring 1 = .ok (.iload_n 2, 1) := by decide +kernel
theorem dX6_loadReferring_2 : decode cX6_loadReferring 2 = .ok (.invokevirtual 52, 3) := by decide +kernel
theorem dX6_loadReferring_5 : decode cX6_loadReferring 5 = .ok (.astore 4, 2) := by decide +kernel
theorem dX6_loadReferring_7 : decode cX6_loadReferring 7 = .ok (.iconst 0, 1) := by decide +kernel
theorem dX6_loadReferring_8 : decode cX6_loadReferring 8 = .ok (.istore 5, 2) := by decide +kernel
theorem dX6_loadReferring_10 : decode cX6_loadReferring 10 = .ok (.iload 5, 2) := by decide +kernel
theorem dX6_loadReferring_12 : decode cX6_loadReferring 12 = .ok (.aload 4, 2) := by decide +kernel
theorem dX6_loadReferring_14 : decode cX6_loadReferring 14 = .ok (.invokevirtual 192, 3) := by decide +kernel
theorem dX6_loadReferring_17 : decode cX6_loadReferring 17 = .ok (.if_icmp .ge 59, 3) := by decide +kernel
theorem dX6_loadReferring_20 : decode cX6_loadReferring 20 = .ok (.aload 4, 2) := by decide +kernel
theorem dX6_loadReferring_22 : decode cX6_loadReferring 22 = .ok (.iload 5, 2) := by decide +kernel
theorem dX6_loadReferring_24 : decode cX6_loadReferring 24 = .ok (.invokevirtual 56, 3) := by decide +kernel
theorem dX6_loadReferring_27 : decode cX6_loadReferring 27 = .ok (.astore 6, 2) := by decide +kernel
theorem dX6_loadReferring_29 : decode cX6_loadReferring 29 = .ok (.aload_n 1, 1) := by decide +kernel
theorem dX6_loadReferring_30 : decode cX6_loadReferring 30 = .ok (.iload_n 2, 1) := by decide +kernel
theorem dX6_loadReferring_31 : decode cX6_loadReferring 31 = .ok (.iload 5, 2) := by decide +kernel
theorem dX6_loadReferring_33 : decode cX6_loadReferring 33 = .ok (.invokevirtual 60, 3) := by decide +kernel
theorem dX6_loadReferring_36 : decode cX6_loadReferring 36 = .ok (.astore 7, 2) := by decide +kernel
theorem dX6_loadReferring_38 : decode cX6_loadReferring 38 = .ok (.aload 6, 2) := by decide +kernel
theorem dX6_loadReferring_40 : decode cX6_loadReferring 40 = .ok (.getfield 64, 3) := by decide +kernel
theorem dX6_loadReferring_43 : decode cX6_loadReferring 43 = .ok (.ifCond .eq 27, 3) := by decide +kernel
theorem dX6_loadReferring_46 : decode cX6_loadReferring 46 = .ok (.aload 6, 2) := by decide +kernel
theorem dX6_loadReferring_48 : decode cX6_loadReferring 48 = .ok (.getfield 164, 3) := by decide +kernel
theorem dX6_loadReferring_51 : decode cX6_loadReferring 51 = .ok (.iload_n 3, 1) := by decide +kernel
theorem dX6_loadReferring_52 : decode cX6_loadReferring 52 = .ok (.if_icmp .ne 18, 3) := by decide +kernel
theorem dX6_loadReferring_55 : decode cX6_loadReferring 55 = .ok (.aload 7, 2) := by decide +kernel
theorem dX6_loadReferring_57 : decode cX6_loadReferring 57 = .ok (.getfield 70, 3) := by decide +kernel
theorem dX6_loadReferring_60 : decode cX6_loadReferring 60 = .ok (.ifCond .ne 10, 3) := by decide +kernel
theorem dX6_loadReferring_63 : decode cX6_loadReferring 63 = .ok (.aload 7, 2) := by decide +kernel
theorem dX6_loadReferring_65 : decode cX6_loadReferring 65 = .ok (.aload 6, 2) := by decide +kernel
theorem dX6_loadReferring_67 : decode cX6_loadReferring 67 = .ok (.invokevirtual 75, 3) := by decide +kernel
theorem dX6_loadReferring_70 : decode cX6_loadReferring 70 = .ok (.iinc 5 1, 3) := by decide +kernel
theorem dX6_loadReferring_73 : decode cX6_loadReferring 73 = .ok (.goto (-63), 3) := by decide +kernel
theorem dX6_loadReferring_76 : decode cX6_loadReferring 76 = .ok (.return_, 1) := by decide +kernel
set_option maxRecDepth 20000 in
theorem ggX6_removeAuthor_X4_entityAt : GoodIn wsX6_removeAuthor wsX4_entityAt := goodIn_r _ [5, 6, 7, 8, 9, 10, 4, 11, 12, 13, 14, 15, 16, 17, 18, 19, 20, 21, 22, 23, 24, 25, 26, 27, 28, 29, 30, 31, 32, 33, 34, 35, 36, 114, 115, 116, 117, 118, 119] rfl (by decide +kernel)
set_option maxRecDepth 20000 in
theorem gX6_removeAuthor_X4_entityAt : GoodIn wsX6_removeAuthor (wsV RX6 60 RX4 yX4_entityAt wsX4_entityAt) := goodIn_app (goodIn_r _ [1, 2, 3, 4] rfl (by decide +kernel)) ggX6_removeAuthor_X4_entityAt
set_option maxRecDepth 20000 in
theorem ggX6_removeAuthor_X0_strikeOut : GoodIn wsX6_removeAuthor wsX0_strikeOut := goodIn_r _ [41, 42, 43, 44, 45, 46, 40, 47, 48, 120, 121, 122, 123, 124, 125, 126, 127] rfl (by decide +kernel)
set_option maxRecDepth 20000 in
theorem gX6_removeAuthor_X0_strikeOut : GoodIn wsX6_removeAuthor (wsV RX6 203 RX0 yX0_strikeOut wsX0_strikeOut) := goodIn_app (goodIn_r _ [37, 38, 39, 40] rfl (by decide +kernel)) ggX6_removeAuthor_X0_strikeOut
set_option maxRecDepth 20000 in
theorem ggX6_removeAuthor_X6_loadReferring : GoodIn wsX6_removeAuthor wsX6_loadReferring := goodIn_r _ [53, 54, 55, 56, 57, 58, 59, 52, 60, 61, 62, 63, 64, 65, 66, 67, 68, 69, 15, 16, 17, 18, 19, 70, 71, 72, 73, 74, 75, 76, 21, 22, 23, 24, 25, 26, 27, 28, 29, 30, 31, 32, 33, 34, 35, 36, 1, 2, 3, 4, 5, 6, 7, 8, 9, 10, 11, 12, 13, 14, 20, 77, 78, 79, 40, 80, 81, 82, 83, 84, 85, 86, 48, 87, 88, 89, 90, 91, 92, 42, 93, 94, 95, 96, 128, 129, 130, 131, 120, 121, 122, 123, 124, 125, 126, 127, 132, 133, 134, 135, 136, 137, 117, 118, 119, 114, 115, 116] rfl (by decide +kernel)
set_option maxRecDepth 20000 in
theorem gX6_removeAuthor_X6_loadReferring : GoodIn wsX6_removeAuthor (wsV RX6 83 RX6 yX6_loadReferring wsX6_loadReferring) := goodIn_app (goodIn_r _ [49, 50, 51, 52] rfl (by decide +kernel)) ggX6_removeAuthor_X6_loadReferring
set_option maxRecDepth 20000 in
theorem ggX6_removeAuthor_X4_sizeOf : GoodIn wsX6_removeAuthor wsX4_sizeOf := goodIn_r _ [100, 8, 9, 10, 4, 11, 12, 13, 14, 15, 16, 17, 18, 19, 114, 115, 116, 117, 118, 119] rfl (by decide +kernel)
set_option maxRecDepth 20000 in
theorem gX6_removeAuthor_X4_sizeOf : GoodIn wsX6_removeAuthor (wsV RX6 86 RX4 yX4_sizeOf wsX4_sizeOf) := goodIn_app (goodIn_r _ [97, 98, 99, 4] rfl (by decide +kernel)) ggX6_removeAuthor_X4_sizeOf
set_option maxRecDepth 20000 in
theorem ggX6_removeAuthor_X0_isLiveAndRefersTo : GoodIn wsX6_removeAuthor wsX0_isLiveAndRefersTo := goodIn_r _ [104, 88, 105, 106, 107, 40, 108, 48, 43, 120, 121, 122, 123, 124, 125, 126, 127] rfl (by decide +kernel)
set_option maxRecDepth 20000 in
theorem gX6_removeAuthor_X0_isLiveAndRefersTo : GoodIn wsX6_removeAuthor (wsV RX6 90 RX0 yX0_isLiveAndRefersTo wsX0_isLiveAndRefersTo) := goodIn_app (goodIn_r _ [101, 102, 103, 40] rfl (by decide +kernel)) ggX6_removeAuthor_X0_isLiveAndRefersTo
set_option maxRecDepth 20000 in
theorem ggX6_removeAuthor_X6_removeBook : GoodIn wsX6_removeAuthor wsX6_removeBook := goodIn_r _ [112, 113, 1, 2, 3, 4, 5, 6, 7, 8, 9, 10, 11, 12, 13, 14, 15, 16, 17, 18, 19, 20, 21, 22, 23, 24, 25, 26, 27, 28, 29, 30, 31, 32, 33, 34, 35, 36, 37, 38, 39, 40, 41, 42, 43, 44, 45, 46, 47, 48, 49, 50, 51, 52, 53, 54, 55, 56, 57, 58, 59, 60, 61, 62, 63, 64, 65, 66, 67, 68, 69, 70, 71, 72, 73, 74, 75, 76, 77, 78, 79, 80, 81, 82, 83, 84, 85, 86, 87, 88, 89, 90, 91, 92, 93, 94, 95, 96, 97, 98, 99, 100, 101, 102, 103, 104, 105, 106, 107, 108, 120, 121, 122, 123, 124, 125, 126, 127, 114, 115, 116, 117, 118, 119, 128, 129, 130, 131, 132, 133, 134, 135, 136, 137] rfl (by decide +kernel)
set_option maxRecDepth 20000 in
theorem gX6_removeAuthor_X6_removeBook : GoodIn wsX6_removeAuthor (wsV RX6 115 RX6 yX6_removeBook wsX6_removeBook) := goodIn_app (goodIn_r _ [109, 110, 111, 52] rfl (by decide +kernel)) ggX6_removeAuthor_X6_removeBook
theorem dX6_removeAuthor_0 : decode cX6_removeAuthor 0 = .ok (.aload_n 1, 1) := by decide +kernel
theorem dX6_removeAuthor_1 : decode cX6_removeAuthor 1 = .ok (.iconst 0, 1) := by decide +kernel
theorem dX6_removeAuthor_2 : decode cX6_removeAuthor 2 = .ok (.iload_n 2, 1) := by decide +kernel
theorem dX6_removeAuthor_3 : decode cX6_removeAuthor 3 = .ok (.invokevirtual 60, 3) := by decide +kernel
theorem dX6_removeAuthor_6 : decode cX6_removeAuthor 6 = .ok (.invokevirtual 203, 3) := by decide +kernel
theorem dX6_removeAuthor_9 : decode cX6_removeAuthor 9 = .ok (.aload_n 0, 1) := by decide +kernel
theorem dX6_removeAuthor_10 : decode cX6_removeAuthor 10 = .ok (.aload_n 1, 1) := by decide +kernel
theorem dX6_removeAuthor_11 : decode cX6_removeAuthor 11 = .ok (.iconst 1, 1) := by decide +kernel
theorem dX6_removeAuthor_12 : decode cX6_removeAuthor 12 = .ok (.iload_n 2, 1) := by decide +kernel
theorem dX6_removeAuthor_13 : decode cX6_removeAuthor 13 = .ok (.invokevirtual 83, 3) := by decide +kernel
theorem dX6_removeAuthor_16 : decode cX6_removeAuthor 16 = .ok (.iconst 1, 1) := by decide +kernel
theorem dX6_removeAuthor_17 : decode cX6_removeAuthor 17 = .ok (.istore_n 3, 1) := by decide +kernel
theorem dX6_removeAuthor_18 : decode cX6_removeAuthor 18 = .ok (.iconst 0, 1) := by decide +kernel
theorem dX6_removeAuthor_19 : decode cX6_removeAuthor 19 = .ok (.istore 4, 2) := by decide +kernel
theorem dX6_removeAuthor_21 : decode cX6_removeAuthor 21 = .ok (.iload 4, 2) := by decide +kernel
theorem dX6_removeAuthor_23 : decode cX6_removeAuthor 23 = .ok (.aload_n 1, 1) := by decide +kernel
theorem dX6_removeAuthor_24 : decode cX6_removeAuthor 24 = .ok (.iconst 1, 1) := by decide +kernel
theorem dX6_removeAuthor_25 : decode cX6_removeAuthor 25 = .ok (.invokevirtual 86, 3) := by decide +kernel
theorem dX6_removeAuthor_28 : decode cX6_removeAuthor 28 = .ok (.if_icmp .ge 33, 3) := by decide +kernel
theorem dX6_removeAuthor_31 : decode cX6_removeAuthor 31 = .ok (.aload_n 1, 1) := by decide +kernel
theorem dX6_removeAuthor_32 : decode cX6_removeAuthor 32 = .ok (.iconst 1, 1) := by decide +kernel
theorem dX6_removeAuthor_33 : decode cX6_removeAuthor 33 = .ok (.iload 4, 2) := by decide +kernel
theorem dX6_removeAuthor_35 : decode cX6_removeAuthor 35 = .ok (.invokevirtual 60, 3) := by decide +kernel
theorem dX6_removeAuthor_38 : decode cX6_removeAuthor 38 = .ok (.iload_n 2, 1) := by decide +kernel
theorem dX6_removeAuthor_39 : decode cX6_removeAuthor 39 = .ok (.invokevirtual 90, 3) := by decide +kernel
theorem dX6_removeAuthor_42 : decode cX6_removeAuthor 42 = .ok (.ifCond .eq 13, 3) := by decide +kernel
theorem dX6_removeAuthor_45 : decode cX6_removeAuthor 45 = .ok (.aload_n 0, 1) := by decide +kernel
theorem dX6_removeAuthor_46 : decode cX6_removeAuthor 46 = .ok (.aload_n 1, 1) := by decide +kernel
theorem dX6_removeAuthor_47 : decode cX6_removeAuthor 47 = .ok (.iload 4, 2) := by decide +kernel
theorem dX6_removeAuthor_49 : decode cX6_removeAuthor 49 = .ok (.invokevirtual 115, 3) := by decide +kernel
theorem dX6_removeAuthor_52 : decode cX6_removeAuthor 52 = .ok (.iinc 3 1, 3) := by decide +kernel
theorem dX6_removeAuthor_55 : decode cX6_removeAuthor 55 = .ok (.iinc 4 1, 3) := by decide +kernel
theorem dX6_removeAuthor_58 : decode cX6_removeAuthor 58 = .ok (.goto (-37), 3) := by decide +kernel
theorem dX6_removeAuthor_61 : decode cX6_removeAuthor 61 = .ok (.iload_n 3, 1) := by decide +kernel
theorem dX6_removeAuthor_62 : decode cX6_removeAuthor 62 = .ok (.ireturn, 1) := by decide +kernel
set_option maxRecDepth 20000 in
theorem ggX6_removeBook_X4_entityAt : GoodIn wsX6_removeBook wsX4_entityAt := goodIn_r _ [6, 7, 8, 9, 10, 11, 5, 12, 13, 14, 15, 16, 17, 18, 19, 20, 21, 22, 23, 24, 25, 26, 27, 28, 29, 30, 31, 32, 33, 34, 35, 36, 37, 118, 119, 120, 121, 122, 123] rfl (by decide +kernel)
set_option maxRecDepth 20000 in
theorem gX6_removeBook_X4_entityAt : GoodIn wsX6_removeBook (wsV RX6 60 RX4 yX4_entityAt wsX4_entityAt) := goodIn_app (goodIn_r _ [2, 3, 4, 5] rfl (by decide +kernel)) ggX6_removeBook_X4_entityAt
set_option maxRecDepth 20000 in
theorem ggX6_removeBook_X0_strikeOut : GoodIn wsX6_removeBook wsX0_strikeOut := goodIn_r _ [42, 43, 44, 45, 46, 47, 41, 48, 49, 110, 111, 112, 113, 114, 115, 116, 117] rfl (by decide +kernel)
set_option maxRecDepth 20000 in
theorem gX6_removeBook_X0_strikeOut : GoodIn wsX6_removeBook (wsV RX6 203 RX0 yX0_strikeOut wsX0_strikeOut) := goodIn_app (goodIn_r _ [38, 39, 40, 41] rfl (by decide +kernel)) ggX6_removeBook_X0_strikeOut
set_option maxRecDepth 20000 in
theorem ggX6_removeBook_X6_loadReferring : GoodIn wsX6_removeBook wsX6_loadReferring := goodIn_r _ [54, 55, 56, 57, 58, 59, 60, 53, 61, 62, 63, 64, 65, 66, 67, 68, 69, 70, 16, 17, 18, 19, 20, 71, 72, 73, 74, 75, 76, 77, 22, 23, 24, 25, 26, 27, 28, 29, 30, 31, 32, 33, 34, 35, 36, 37, 2, 3, 4, 5, 6, 7, 8, 9, 10, 11, 12, 13, 14, 15, 21, 78, 79, 80, 41, 81, 82, 83, 84, 85, 86, 87, 49, 88, 89, 90, 91, 92, 93, 43, 94, 95, 96, 97, 124, 125, 126, 127, 110, 111, 112, 113, 114, 115, 116, 117, 128, 129, 130, 131, 132, 133, 121, 122, 123, 118, 119, 120] rfl (by decide +kernel)
set_option maxRecDepth 20000 in
theorem gX6_removeBook_X6_loadReferring : GoodIn wsX6_removeBook (wsV RX6 83 RX6 yX6_loadReferring wsX6_loadReferring) := goodIn_app (goodIn_r _ [50, 51, 52, 53] rfl (by decide +kernel)) ggX6_removeBook_X6_loadReferring
set_option maxRecDepth 20000 in
theorem ggX6_removeBook_X4_sizeOf : GoodIn wsX6_removeBook wsX4_sizeOf := goodIn_r _ [101, 9, 10, 11, 5, 12, 13, 14, 15, 16, 17, 18, 19, 20, 118, 119, 120, 121, 122, 123] rfl (by decide +kernel)
set_option maxRecDepth 20000 in
theorem gX6_removeBook_X4_sizeOf : GoodIn wsX6_removeBook (wsV RX6 86 RX4 yX4_sizeOf wsX4_sizeOf) := goodIn_app (goodIn_r _ [98, 99, 100, 5] rfl (by decide +kernel)) ggX6_removeBook_X4_sizeOf
set_option maxRecDepth 20000 in
theorem ggX6_removeBook_X0_isLiveAndRefersTo : GoodIn wsX6_removeBook wsX0_isLiveAndRefersTo := goodIn_r _ [105, 89, 106, 107, 108, 41, 109, 49, 44, 110, 111, 112, 113, 114, 115, 116, 117] rfl (by decide +kernel)
set_option maxRecDepth 20000 in
theorem gX6_removeBook_X0_isLiveAndRefersTo : GoodIn wsX6_removeBook (wsV RX6 90 RX0 yX0_isLiveAndRefersTo wsX0_isLiveAndRefersTo) := goodIn_app (goodIn_r _ [102, 103, 104, 41] rfl (by decide +kernel)) ggX6_removeBook_X0_isLiveAndRefersTo
theorem dX6_removeBook_0 : decode cX6_removeBook 0 = .ok (.aload_n 1, 1) := by decide +kernel
theorem dX6_removeBook_1 : decode cX6_removeBook 1 = .ok (.iconst 1, 1) := by decide +kernel
theorem dX6_removeBook_2 : decode cX6_removeBook 2 = .ok (.iload_n 2, 1) := by decide +kernel
theorem dX6_removeBook_3 : decode cX6_removeBook 3 = .ok (.invokevirtual 60, 3) := by decide +kernel
theorem dX6_removeBook_6 : decode cX6_removeBook 6 = .ok (.invokevirtual 203, 3) := by decide +kernel
theorem dX6_removeBook_9 : decode cX6_removeBook 9 = .ok (.aload_n 0, 1) := by decide +kernel
theorem dX6_removeBook_10 : decode cX6_removeBook 10 = .ok (.aload_n 1, 1) := by decide +kernel
theorem dX6_removeBook_11 : decode cX6_removeBook 11 = .ok (.iconst 0, 1) := by decide +kernel
theorem dX6_removeBook_12 : decode cX6_removeBook 12 = .ok (.iload_n 2, 1) := by decide +kernel
theorem dX6_removeBook_13 : decode cX6_removeBook 13 = .ok (.invokevirtual 83, 3) := by decide +kernel
theorem dX6_removeBook_16 : decode cX6_removeBook 16 = .ok (.iconst 0, 1) := by decide +kernel
theorem dX6_removeBook_17 : decode cX6_removeBook 17 = .ok (.istore_n 3, 1) := by decide +kernel
theorem dX6_removeBook_18 : decode cX6_removeBook 18 = .ok (.iload_n 3, 1) := by decide +kernel
theorem dX6_removeBook_19 : decode cX6_removeBook 19 = .ok (.aload_n 1, 1) := by decide +kernel
theorem dX6_removeBook_20 : decode cX6_removeBook 20 = .ok (.iconst 0, 1) := by decide +kernel
theorem dX6_removeBook_21 : decode cX6_removeBook 21 = .ok (.invokevirtual 86, 3) := by decide +kernel
theorem dX6_removeBook_24 : decode cX6_removeBook 24 = .ok (.if_icmp .ge 32, 3) := by decide +kernel
theorem dX6_removeBook_27 : decode cX6_removeBook 27 = .ok (.aload_n 1, 1) := by decide +kernel
theorem dX6_removeBook_28 : decode cX6_removeBook 28 = .ok (.iconst 0, 1) := by decide +kernel
theorem dX6_removeBook_29 : decode cX6_removeBook 29 = .ok (.iload_n 3, 1) := by decide +kernel
theorem dX6_removeBook_30 : decode cX6_removeBook 30 = .ok (.invokevirtual 60, 3) := by decide +kernel
theorem dX6_removeBook_33 : decode cX6_removeBook 33 = .ok (.astore 4, 2) := by decide +kernel
theorem dX6_removeBook_35 : decode cX6_removeBook 35 = .ok (.aload 4, 2) := by decide +kernel
theorem dX6_removeBook_37 : decode cX6_removeBook 37 = .ok (.iload_n 2, 1) := by decide +kernel
theorem dX6_removeBook_38 : decode cX6_removeBook 38 = .ok (.invokevirtual 90, 3) := by decide +kernel
theorem dX6_removeBook_41 : decode cX6_removeBook 41 = .ok (.ifCond .eq 9, 3) := by decide +kernel
theorem dX6_removeBook_44 : decode cX6_removeBook 44 = .ok (.aload 4, 2) := by decide +kernel
theorem dX6_removeBook_46 : decode cX6_removeBook 46 = .ok (.iconst (-1), 1) := by decide +kernel
theorem dX6_removeBook_47 : decode cX6_removeBook 47 = .ok (.putfield 108, 3) := by decide +kernel
theorem dX6_removeBook_50 : decode cX6_removeBook 50 = .ok (.iinc 3 1, 3) := by decide +kernel
theorem dX6_removeBook_53 : decode cX6_removeBook 53 = .ok (.goto (-35), 3) := by decide +kernel
theorem dX6_removeBook_56 : decode cX6_removeBook 56 = .ok (.return_, 1) := by decide +kernel
