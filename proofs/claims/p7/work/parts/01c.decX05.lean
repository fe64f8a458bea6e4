theorem dX0_init_0 : decode cX0_init 0 = .ok (.aload_n 0, 1) := by decide +kernel
theorem dX0_init_1 : decode cX0_init 1 = .ok (.invokespecial 3, 3) := by decide +kernel
theorem dX0_init_4 : decode cX0_init 4 = .ok (.aload_n 0, 1) := by decide +kernel
theorem dX0_init_5 : decode cX0_init 5 = .ok (.iconst (-1), 1) := by decide +kernel
theorem dX0_init_6 : decode cX0_init 6 = .ok (.putfield 9, 3) := by decide +kernel
theorem dX0_init_9 : decode cX0_init 9 = .ok (.return_, 1) := by decide +kernel
theorem dX0_make_0 : decode cX0_make 0 = .ok (.aload_n 0, 1) := by decide +kernel
theorem dX0_make_1 : decode cX0_make 1 = .ok (.iconst 1, 1) := by decide +kernel
theorem dX0_make_2 : decode cX0_make 2 = .ok (.putfield 15, 3) := by decide +kernel
theorem dX0_make_5 : decode cX0_make 5 = .ok (.aload_n 0, 1) := by decide +kernel
theorem dX0_make_6 : decode cX0_make 6 = .ok (.iload_n 1, 1) := by decide +kernel
theorem dX0_make_7 : decode cX0_make 7 = .ok (.putfield 19, 3) := by decide +kernel
theorem dX0_make_10 : decode cX0_make 10 = .ok (.aload_n 0, 1) := by decide +kernel
theorem dX0_make_11 : decode cX0_make 11 = .ok (.iload_n 2, 1) := by decide +kernel
theorem dX0_make_12 : decode cX0_make 12 = .ok (.putfield 9, 3) := by decide +kernel
theorem dX0_make_15 : decode cX0_make 15 = .ok (.return_, 1) := by decide +kernel
set_option maxRecDepth 20000 in
theorem ggX0_load_X0_make : GoodIn wsX0_load wsX0_make := goodIn_r _ [7, 8, 9, 10, 24, 25, 26, 27, 28, 29, 30, 31] rfl (by decide +kernel)
set_option maxRecDepth 20000 in
theorem gX0_load_X0_make : GoodIn wsX0_load (wsV RX0 26 RX0 yX0_make wsX0_make) := goodIn_app (goodIn_r _ [3, 4, 5, 6] rfl (by decide +kernel)) ggX0_load_X0_make
set_option maxRecDepth 20000 in
theorem ggX0_load_X0_takeSnapshot : GoodIn wsX0_load wsX0_takeSnapshot := goodIn_r _ [14, 15, 1, 16, 2, 17, 18, 19, 24, 25, 26, 27, 28, 29, 30, 31, 20, 21, 22, 23] rfl (by decide +kernel)
set_option maxRecDepth 20000 in
theorem gX0_load_X0_takeSnapshot : GoodIn wsX0_load (wsV RX0 30 RX0 yX0_takeSnapshot wsX0_takeSnapshot) := goodIn_app (goodIn_r _ [11, 12, 13, 6] rfl (by decide +kernel)) ggX0_load_X0_takeSnapshot
theorem dX0_load_0 : decode cX0_load 0 = .ok (.aload_n 0, 1) := by decide +kernel
theorem dX0_load_1 : decode cX0_load 1 = .ok (.aload_n 1, 1) := by decide +kernel
theorem dX0_load_2 : decode cX0_load 2 = .ok (.getfield 22, 3) := by decide +kernel
theorem dX0_load_5 : decode cX0_load 5 = .ok (.aload_n 1, 1) := by decide +kernel
theorem dX0_load_6 : decode cX0_load 6 = .ok (.getfield 25, 3) := by decide +kernel
theorem dX0_load_9 : decode cX0_load 9 = .ok (.invokevirtual 26, 3) := by decide +kernel
theorem dX0_load_12 : decode cX0_load 12 = .ok (.aload_n 0, 1) := by decide +kernel
theorem dX0_load_13 : decode cX0_load 13 = .ok (.aload_n 1, 1) := by decide +kernel
theorem dX0_load_14 : decode cX0_load 14 = .ok (.invokevirtual 30, 3) := by decide +kernel
theorem dX0_load_17 : decode cX0_load 17 = .ok (.return_, 1) := by decide +kernel
theorem dX0_takeSnapshot_0 : decode cX0_takeSnapshot 0 = .ok (.aload_n 0, 1) := by decide +kernel
theorem dX0_takeSnapshot_1 : decode cX0_takeSnapshot 1 = .ok (.iconst 1, 1) := by decide +kernel
theorem dX0_takeSnapshot_2 : decode cX0_takeSnapshot 2 = .ok (.putfield 34, 3) := by decide +kernel
theorem dX0_takeSnapshot_5 : decode cX0_takeSnapshot 5 = .ok (.aload_n 0, 1) := by decide +kernel
theorem dX0_takeSnapshot_6 : decode cX0_takeSnapshot 6 = .ok (.aload_n 1, 1) := by decide +kernel
theorem dX0_takeSnapshot_7 : decode cX0_takeSnapshot 7 = .ok (.getfield 22, 3) := by decide +kernel
theorem dX0_takeSnapshot_10 : decode cX0_takeSnapshot 10 = .ok (.putfield 37, 3) := by decide +kernel
theorem dX0_takeSnapshot_13 : decode cX0_takeSnapshot 13 = .ok (.aload_n 0, 1) := by decide +kernel
theorem dX0_takeSnapshot_14 : decode cX0_takeSnapshot 14 = .ok (.aload_n 1, 1) := by decide +kernel
theorem dX0_takeSnapshot_15 : decode cX0_takeSnapshot 15 = .ok (.getfield 25, 3) := by decide +kernel
theorem dX0_takeSnapshot_18 : decode cX0_takeSnapshot 18 = .ok (.putfield 40, 3) := by decide +kernel
theorem dX0_takeSnapshot_21 : decode cX0_takeSnapshot 21 = .ok (.aload_n 0, 1) := by decide +kernel
theorem dX0_takeSnapshot_22 : decode cX0_takeSnapshot 22 = .ok (.aload_n 1, 1) := by decide +kernel
theorem dX0_takeSnapshot_23 : decode cX0_takeSnapshot 23 = .ok (.getfield 43, 3) := by decide +kernel
theorem dX0_takeSnapshot_26 : decode cX0_takeSnapshot 26 = .ok (.putfield 46, 3) := by decide +kernel
theorem dX0_takeSnapshot_29 : decode cX0_takeSnapshot 29 = .ok (.return_, 1) := by decide +kernel
theorem dX0_forget_0 : decode cX0_forget 0 = .ok (.aload_n 0, 1) := by decide +kernel
theorem dX0_forget_1 : decode cX0_forget 1 = .ok (.iconst 0, 1) := by decide +kernel
theorem dX0_forget_2 : decode cX0_forget 2 = .ok (.putfield 15, 3) := by decide +kernel
theorem dX0_forget_5 : decode cX0_forget 5 = .ok (.aload_n 0, 1) := by decide +kernel
theorem dX0_forget_6 : decode cX0_forget 6 = .ok (.iconst 0, 1) := by decide +kernel
theorem dX0_forget_7 : decode cX0_forget 7 = .ok (.putfield 49, 3) := by decide +kernel
theorem dX0_forget_10 : decode cX0_forget 10 = .ok (.aload_n 0, 1) := by decide +kernel
theorem dX0_forget_11 : decode cX0_forget 11 = .ok (.iconst 0, 1) := by decide +kernel
theorem dX0_forget_12 : decode cX0_forget 12 = .ok (.putfield 34, 3) := by decide +kernel
theorem dX0_forget_15 : decode cX0_forget 15 = .ok (.return_, 1) := by decide +kernel
set_option maxRecDepth 20000 in
theorem ggX0_strikeOut_X0_forget : GoodIn wsX0_strikeOut wsX0_forget := goodIn_r _ [7, 8, 2, 1, 9, 10, 11, 12, 13, 14, 15, 16] rfl (by decide +kernel)
set_option maxRecDepth 20000 in
theorem gX0_strikeOut_X0_forget : GoodIn wsX0_strikeOut (wsV RX0 52 RX0 yX0_forget wsX0_forget) := goodIn_app (goodIn_r _ [3, 4, 5, 6] rfl (by decide +kernel)) ggX0_strikeOut_X0_forget
theorem dX0_strikeOut_0 : decode cX0_strikeOut 0 = .ok (.aload_n 0, 1) := by decide +kernel
theorem dX0_strikeOut_1 : decode cX0_strikeOut 1 = .ok (.getfield 34, 3) := by decide +kernel
theorem dX0_strikeOut_4 : decode cX0_strikeOut 4 = .ok (.ifCond .eq 11, 3) := by decide +kernel
theorem dX0_strikeOut_7 : decode cX0_strikeOut 7 = .ok (.aload_n 0, 1) := by decide +kernel
theorem dX0_strikeOut_8 : decode cX0_strikeOut 8 = .ok (.iconst 1, 1) := by decide +kernel
theorem dX0_strikeOut_9 : decode cX0_strikeOut 9 = .ok (.putfield 49, 3) := by decide +kernel
theorem dX0_strikeOut_12 : decode cX0_strikeOut 12 = .ok (.goto 7, 3) := by decide +kernel
theorem dX0_strikeOut_15 : decode cX0_strikeOut 15 = .ok (.aload_n 0, 1) := by decide +kernel
theorem dX0_strikeOut_16 : decode cX0_strikeOut 16 = .ok (.invokevirtual 52, 3) := by decide +kernel
theorem dX0_strikeOut_19 : decode cX0_strikeOut 19 = .ok (.return_, 1) := by decide +kernel
theorem dX0_isLive_0 : decode cX0_isLive 0 = .ok (.aload_n 0, 1) := by decide +kernel
theorem dX0_isLive_1 : decode cX0_isLive 1 = .ok (.getfield 15, 3) := by decide +kernel
theorem dX0_isLive_4 : decode cX0_isLive 4 = .ok (.ifCond .eq 14, 3) := by decide +kernel
theorem dX0_isLive_7 : decode cX0_isLive 7 = .ok (.aload_n 0, 1) := by decide +kernel
theorem dX0_isLive_8 : decode cX0_isLive 8 = .ok (.getfield 49, 3) := by decide +kernel
theorem dX0_isLive_11 : decode cX0_isLive 11 = .ok (.ifCond .ne 7, 3) := by decide +kernel
theorem dX0_isLive_14 : decode cX0_isLive 14 = .ok (.iconst 1, 1) := by decide +kernel
theorem dX0_isLive_15 : decode cX0_isLive 15 = .ok (.goto 4, 3) := by decide +kernel
theorem dX0_isLive_18 : decode cX0_isLive 18 = .ok (.iconst 0, 1) := by decide +kernel
theorem dX0_isLive_19 : decode cX0_isLive 19 = .ok (.ireturn, 1) := by decide +kernel
set_option maxRecDepth 20000 in
theorem ggX0_isLiveAndRefersTo_X0_isLive : GoodIn wsX0_isLiveAndRefersTo wsX0_isLive := goodIn_r _ [6, 7, 8, 9, 10, 11, 12, 13, 14, 15, 16] rfl (by decide +kernel)
set_option maxRecDepth 20000 in
theorem gX0_isLiveAndRefersTo_X0_isLive : GoodIn wsX0_isLiveAndRefersTo (wsV RX0 55 RX0 yX0_isLive wsX0_isLive) := goodIn_app (goodIn_r _ [2, 3, 4, 5] rfl (by decide +kernel)) ggX0_isLiveAndRefersTo_X0_isLive
theorem dX0_isLiveAndRefersTo_0 : decode cX0_isLiveAndRefersTo 0 = .ok (.aload_n 0, 1) := by decide +kernel
theorem dX0_isLiveAndRefersTo_1 : decode cX0_isLiveAndRefersTo 1 = .ok (.invokevirtual 55, 3) := by decide +kernel
theorem dX0_isLiveAndRefersTo_4 : decode cX0_isLiveAndRefersTo 4 = .ok (.ifCond .eq 15, 3) := by decide +kernel
theorem dX0_isLiveAndRefersTo_7 : decode cX0_isLiveAndRefersTo 7 = .ok (.aload_n 0, 1) := by decide +kernel
theorem dX0_isLiveAndRefersTo_8 : decode cX0_isLiveAndRefersTo 8 = .ok (.getfield 9, 3) := by decide +kernel
theorem dX0_isLiveAndRefersTo_11 : decode cX0_isLiveAndRefersTo 11 = .ok (.iload_n 1, 1) := by decide +kernel
theorem dX0_isLiveAndRefersTo_12 : decode cX0_isLiveAndRefersTo 12 = .ok (.if_icmp .ne 7, 3) := by decide +kernel
theorem dX0_isLiveAndRefersTo_15 : decode cX0_isLiveAndRefersTo 15 = .ok (.iconst 1, 1) := by decide +kernel
theorem dX0_isLiveAndRefersTo_16 : decode cX0_isLiveAndRefersTo 16 = .ok (.goto 4, 3) := by decide +kernel
theorem dX0_isLiveAndRefersTo_19 : decode cX0_isLiveAndRefersTo 19 = .ok (.iconst 0, 1) := by decide +kernel
theorem dX0_isLiveAndRefersTo_20 : decode cX0_isLiveAndRefersTo 20 = .ok (.ireturn, 1) := by decide +kernel
theorem dX0_isNew_0 : decode cX0_isNew 0 = .ok (.aload_n 0, 1) := by decide +kernel
theorem dX0_isNew_1 : decode cX0_isNew 1 = .ok (.getfield 15, 3) := by decide +kernel
theorem dX0_isNew_4 : decode cX0_isNew 4 = .ok (.ifCond .eq 14, 3) := by decide +kernel
theorem dX0_isNew_7 : decode cX0_isNew 7 = .ok (.aload_n 0, 1) := by decide +kernel
theorem dX0_isNew_8 : decode cX0_isNew 8 = .ok (.getfield 34, 3) := by decide +kernel
theorem dX0_isNew_11 : decode cX0_isNew 11 = .ok (.ifCond .ne 7, 3) := by decide +kernel
theorem dX0_isNew_14 : decode cX0_isNew 14 = .ok (.iconst 1, 1) := by decide +kernel
theorem dX0_isNew_15 : decode cX0_isNew 15 = .ok (.goto 4, 3) := by decide +kernel
theorem dX0_isNew_18 : decode cX0_isNew 18 = .ok (.iconst 0, 1) := by decide +kernel
theorem dX0_isNew_19 : decode cX0_isNew 19 = .ok (.ireturn, 1) := by decide +kernel
theorem dX0_isChanged_0 : decode cX0_isChanged 0 = .ok (.aload_n 0, 1) := by decide +kernel
theorem dX0_isChanged_1 : decode cX0_isChanged 1 = .ok (.getfield 34, 3) := by decide +kernel
theorem dX0_isChanged_4 : decode cX0_isChanged 4 = .ok (.ifCond .eq 29, 3) := by decide +kernel
theorem dX0_isChanged_7 : decode cX0_isChanged 7 = .ok (.aload_n 0, 1) := by decide +kernel
theorem dX0_isChanged_8 : decode cX0_isChanged 8 = .ok (.getfield 19, 3) := by decide +kernel
theorem dX0_isChanged_11 : decode cX0_isChanged 11 = .ok (.aload_n 0, 1) := by decide +kernel
theorem dX0_isChanged_12 : decode cX0_isChanged 12 = .ok (.getfield 37, 3) := by decide +kernel
theorem dX0_isChanged_15 : decode cX0_isChanged 15 = .ok (.if_icmp .ne 14, 3) := by decide +kernel
theorem dX0_isChanged_18 : decode cX0_isChanged 18 = .ok (.aload_n 0, 1) := by decide +kernel
theorem dX0_isChanged_19 : decode cX0_isChanged 19 = .ok (.getfield 9, 3) := by decide +kernel
theorem dX0_isChanged_22 : decode cX0_isChanged 22 = .ok (.aload_n 0, 1) := by decide +kernel
theorem dX0_isChanged_23 : decode cX0_isChanged 23 = .ok (.getfield 40, 3) := by decide +kernel
theorem dX0_isChanged_26 : decode cX0_isChanged 26 = .ok (.if_icmp .eq 7, 3) := by decide +kernel
theorem dX0_isChanged_29 : decode cX0_isChanged 29 = .ok (.iconst 1, 1) := by decide +kernel
theorem dX0_isChanged_30 : decode cX0_isChanged 30 = .ok (.goto 4, 3) := by decide +kernel
theorem dX0_isChanged_33 : decode cX0_isChanged 33 = .ok (.iconst 0, 1) := by decide +kernel
theorem dX0_isChanged_34 : decode cX0_isChanged 34 = .ok (.ireturn, 1) := by decide +kernel
set_option maxRecDepth 20000 in
theorem ggX0_clashesWith_X0_isChanged : GoodIn wsX0_clashesWith wsX0_isChanged := goodIn_r _ [9, 10, 11, 12, 13, 14, 15, 16, 17, 18, 19, 20, 21, 22] rfl (by decide +kernel)
set_option maxRecDepth 20000 in
theorem gX0_clashesWith_X0_isChanged : GoodIn wsX0_clashesWith (wsV RX0 59 RX0 yX0_isChanged wsX0_isChanged) := goodIn_app (goodIn_r _ [5, 6, 7, 8] rfl (by decide +kernel)) ggX0_clashesWith_X0_isChanged
theorem dX0_clashesWith_0 : decode cX0_clashesWith 0 = .ok (.aload_n 0, 1) := by decide +kernel
theorem dX0_clashesWith_1 : decode cX0_clashesWith 1 = .ok (.invokevirtual 59, 3) := by decide +kernel
theorem dX0_clashesWith_4 : decode cX0_clashesWith 4 = .ok (.ifCond .ne 10, 3) := by decide +kernel
theorem dX0_clashesWith_7 : decode cX0_clashesWith 7 = .ok (.aload_n 0, 1) := by decide +kernel
theorem dX0_clashesWith_8 : decode cX0_clashesWith 8 = .ok (.getfield 49, 3) := by decide +kernel
theorem dX0_clashesWith_11 : decode cX0_clashesWith 11 = .ok (.ifCond .eq 25, 3) := by decide +kernel
theorem dX0_clashesWith_14 : decode cX0_clashesWith 14 = .ok (.aload_n 1, 1) := by decide +kernel
theorem dX0_clashesWith_15 : decode cX0_clashesWith 15 = .ok (.getfield 62, 3) := by decide +kernel
theorem dX0_clashesWith_18 : decode cX0_clashesWith 18 = .ok (.ifCond .eq 14, 3) := by decide +kernel
theorem dX0_clashesWith_21 : decode cX0_clashesWith 21 = .ok (.aload_n 1, 1) := by decide +kernel
theorem dX0_clashesWith_22 : decode cX0_clashesWith 22 = .ok (.getfield 43, 3) := by decide +kernel
theorem dX0_clashesWith_25 : decode cX0_clashesWith 25 = .ok (.aload_n 0, 1) := by decide +kernel
theorem dX0_clashesWith_26 : decode cX0_clashesWith 26 = .ok (.getfield 46, 3) := by decide +kernel
theorem dX0_clashesWith_29 : decode cX0_clashesWith 29 = .ok (.if_icmp .eq 7, 3) := by decide +kernel
theorem dX0_clashesWith_32 : decode cX0_clashesWith 32 = .ok (.iconst 1, 1) := by decide +kernel
theorem dX0_clashesWith_33 : decode cX0_clashesWith 33 = .ok (.goto 4, 3) := by decide +kernel
theorem dX0_clashesWith_36 : decode cX0_clashesWith 36 = .ok (.iconst 0, 1) := by decide +kernel
theorem dX0_clashesWith_37 : decode cX0_clashesWith 37 = .ok (.ireturn, 1) := by decide +kernel
theorem dX1_init_0 : decode cX1_init 0 = .ok (.aload_n 0, 1) := by decide +kernel
theorem dX1_init_1 : decode cX1_init 1 = .ok (.invokespecial 3, 3) := by decide +kernel
theorem dX1_init_4 : decode cX1_init 4 = .ok (.aload_n 0, 1) := by decide +kernel
theorem dX1_init_5 : decode cX1_init 5 = .ok (.aload_n 1, 1) := by decide +kernel
theorem dX1_init_6 : decode cX1_init 6 = .ok (.putfield 9, 3) := by decide +kernel
theorem dX1_init_9 : decode cX1_init 9 = .ok (.aload_n 0, 1) := by decide +kernel
theorem dX1_init_10 : decode cX1_init 10 = .ok (.aload_n 2, 1) := by decide +kernel
theorem dX1_init_11 : decode cX1_init 11 = .ok (.putfield 15, 3) := by decide +kernel
theorem dX1_init_14 : decode cX1_init 14 = .ok (.aload_n 0, 1) := by decide +kernel
theorem dX1_init_15 : decode cX1_init 15 = .ok (.aload_n 3, 1) := by decide +kernel
theorem dX1_init_16 : decode cX1_init 16 = .ok (.putfield 19, 3) := by decide +kernel
theorem dX1_init_19 : decode cX1_init 19 = .ok (.aload_n 0, 1) := by decide +kernel
theorem dX1_init_20 : decode cX1_init 20 = .ok (.aload 4, 2) := by decide +kernel
theorem dX1_init_22 : decode cX1_init 22 = .ok (.putfield 22, 3) := by decide +kernel
theorem dX1_init_25 : decode cX1_init 25 = .ok (.return_, 1) := by decide +kernel
theorem dX1_tableFor_0 : decode cX1_tableFor 0 = .ok (.iload_n 1, 1) := by decide +kernel
theorem dX1_tableFor_1 : decode cX1_tableFor 1 = .ok (.ifCond .ne 10, 3) := by decide +kernel
theorem dX1_tableFor_4 : decode cX1_tableFor 4 = .ok (.aload_n 0, 1) := by decide +kernel
theorem dX1_tableFor_5 : decode cX1_tableFor 5 = .ok (.getfield 15, 3) := by decide +kernel
theorem dX1_tableFor_8 : decode cX1_tableFor 8 = .ok (.goto 7, 3) := by decide +kernel
theorem dX1_tableFor_11 : decode cX1_tableFor 11 = .ok (.aload_n 0, 1) := by decide +kernel
theorem dX1_tableFor_12 : decode cX1_tableFor 12 = .ok (.getfield 19, 3) := by decide +kernel
theorem dX1_tableFor_15 : decode cX1_tableFor 15 = .ok (.areturn, 1) := by decide +kernel
set_option maxRecDepth 20000 in
theorem ggX1_clashes_X1_clashesIn : GoodIn wsX1_clashes wsX1_clashesIn := goodIn_r _ [5, 6, 7, 8, 9, 10, 11, 12, 13, 14, 15, 16, 17, 18, 19, 20, 21, 22, 23, 24, 25, 26, 27, 28, 29, 30, 31, 32, 33, 34, 35, 36, 37, 38, 39, 40, 41, 42, 43, 44, 45, 46, 47, 48, 49, 4, 50, 51, 52, 53, 54, 55, 56, 57, 58, 59, 60, 61, 62, 63, 64, 65, 66, 67, 68, 69, 70, 71, 72, 73, 74, 75, 76, 77, 78, 79, 80, 81, 82, 83, 84, 85, 86, 87, 88, 89, 90, 91, 92, 93, 94, 95, 96, 97, 98, 99, 100, 101, 102, 103, 104] rfl (by decide +kernel)
set_option maxRecDepth 20000 in
theorem gX1_clashes_X1_clashesIn : GoodIn wsX1_clashes (wsV RX1 26 RX1 yX1_clashesIn wsX1_clashesIn) := goodIn_app (goodIn_r _ [1, 2, 3, 4] rfl (by decide +kernel)) ggX1_clashes_X1_clashesIn
theorem dX1_clashes_0 : decode cX1_clashes 0 = .ok (.aload_n 0, 1) := by decide +kernel
theorem dX1_clashes_1 : decode cX1_clashes 1 = .ok (.iconst 0, 1) := by decide +kernel
theorem dX1_clashes_2 : decode cX1_clashes 2 = .ok (.invokevirtual 26, 3) := by decide +kernel
theorem dX1_clashes_5 : decode cX1_clashes 5 = .ok (.ifCond .ne 11, 3) := by decide +kernel
theorem dX1_clashes_8 : decode cX1_clashes 8 = .ok (.aload_n 0, 1) := by decide +kernel
theorem dX1_clashes_9 : decode cX1_clashes 9 = .ok (.iconst 1, 1) := by decide +kernel
theorem dX1_clashes_10 : decode cX1_clashes 10 = .ok (.invokevirtual 26, 3) := by decide +kernel
theorem dX1_clashes_13 : decode cX1_clashes 13 = .ok (.ifCond .eq 7, 3) := by decide +kernel
theorem dX1_clashes_16 : decode cX1_clashes 16 = .ok (.iconst 1, 1) := by decide +kernel
theorem dX1_clashes_17 : decode cX1_clashes 17 = .ok (.goto 4, 3) := by decide +kernel
theorem dX1_clashes_20 : decode cX1_clashes 20 = .ok (.iconst 0, 1) := by decide +kernel
theorem dX1_clashes_21 : decode cX1_clashes 21 = .ok (.ireturn, 1) := by decide +kernel
set_option maxRecDepth 20000 in
theorem ggX1_clashesIn_X4_sizeOf : GoodIn wsX1_clashesIn wsX4_sizeOf := goodIn_r _ [6, 7, 8, 9, 5, 10, 11, 12, 13, 14, 15, 16, 17, 18, 81, 82, 83, 84, 85, 86] rfl (by decide +kernel)
set_option maxRecDepth 20000 in
theorem gX1_clashesIn_X4_sizeOf : GoodIn wsX1_clashesIn (wsV RX1 30 RX4 yX4_sizeOf wsX4_sizeOf) := goodIn_app (goodIn_r _ [2, 3, 4, 5] rfl (by decide +kernel)) ggX1_clashesIn_X4_sizeOf
set_option maxRecDepth 20000 in
theorem ggX1_clashesIn_X4_entityAt : GoodIn wsX1_clashesIn wsX4_entityAt := goodIn_r _ [22, 23, 24, 7, 8, 9, 5, 10, 11, 12, 13, 14, 15, 16, 17, 18, 25, 26, 27, 28, 29, 30, 31, 32, 33, 34, 35, 36, 37, 38, 39, 40, 41, 81, 82, 83, 84, 85, 86] rfl (by decide +kernel)
set_option maxRecDepth 20000 in
theorem gX1_clashesIn_X4_entityAt : GoodIn wsX1_clashesIn (wsV RX1 36 RX4 yX4_entityAt wsX4_entityAt) := goodIn_app (goodIn_r _ [19, 20, 21, 5] rfl (by decide +kernel)) ggX1_clashesIn_X4_entityAt
set_option maxRecDepth 20000 in
theorem ggX1_clashesIn_X1_tableFor : GoodIn wsX1_clashesIn wsX1_tableFor := goodIn_r _ [46, 47, 48, 77, 78, 79, 80] rfl (by decide +kernel)
set_option maxRecDepth 20000 in
theorem gX1_clashesIn_X1_tableFor : GoodIn wsX1_clashesIn (wsV RX1 40 RX1 yX1_tableFor wsX1_tableFor) := goodIn_app (goodIn_r _ [42, 43, 44, 45] rfl (by decide +kernel)) ggX1_clashesIn_X1_tableFor
set_option maxRecDepth 20000 in
theorem ggX1_clashesIn_X5_rowAt : GoodIn wsX1_clashesIn wsX5_rowAt := goodIn_r _ [53, 54, 55, 56, 57, 14, 15, 16, 17, 18, 58, 26, 27, 28, 29, 30, 31, 32, 33, 34, 35, 36, 37, 38, 39, 40, 41, 87, 88, 84, 85, 86] rfl (by decide +kernel)
set_option maxRecDepth 20000 in
theorem gX1_clashesIn_X5_rowAt : GoodIn wsX1_clashesIn (wsV RX1 44 RX5 yX5_rowAt wsX5_rowAt) := goodIn_app (goodIn_r _ [49, 50, 51, 52] rfl (by decide +kernel)) ggX1_clashesIn_X5_rowAt
set_option maxRecDepth 20000 in
theorem ggX1_clashesIn_X0_clashesWith : GoodIn wsX1_clashesIn wsX0_clashesWith := goodIn_r _ [63, 64, 65, 66, 67, 68, 69, 70, 62, 71, 72, 73, 74, 75, 76, 89, 90, 91, 92, 93, 94, 95, 96, 97, 98, 99, 100] rfl (by decide +kernel)
set_option maxRecDepth 20000 in
theorem gX1_clashesIn_X0_clashesWith : GoodIn wsX1_clashesIn (wsV RX1 50 RX0 yX0_clashesWith wsX0_clashesWith) := goodIn_app (goodIn_r _ [59, 60, 61, 62] rfl (by decide +kernel)) ggX1_clashesIn_X0_clashesWith
theorem dX1_clashesIn_0 : decode cX1_clashesIn 0 = .ok (.iconst 0, 1) := by decide +kernel
theorem dX1_clashesIn_1 : decode cX1_clashesIn 1 = .ok (.istore_n 2, 1) := by decide +kernel
theorem dX1_clashesIn_2 : decode cX1_clashesIn 2 = .ok (.iload_n 2, 1) := by decide +kernel
theorem dX1_clashesIn_3 : decode cX1_clashesIn 3 = .ok (.aload_n 0, 1) := by decide +kernel
theorem dX1_clashesIn_4 : decode cX1_clashesIn 4 = .ok (.getfield 9, 3) := by decide +kernel
theorem dX1_clashesIn_7 : decode cX1_clashesIn 7 = .ok (.iload_n 1, 1) := by decide +kernel
theorem dX1_clashesIn_8 : decode cX1_clashesIn 8 = .ok (.invokevirtual 30, 3) := by decide +kernel
theorem dX1_clashesIn_11 : decode cX1_clashesIn 11 = .ok (.if_icmp .ge 35, 3) := by decide +kernel
theorem dX1_clashesIn_14 : decode cX1_clashesIn 14 = .ok (.aload_n 0, 1) := by decide +kernel
theorem dX1_clashesIn_15 : decode cX1_clashesIn 15 = .ok (.getfield 9, 3) := by decide +kernel
theorem dX1_clashesIn_18 : decode cX1_clashesIn 18 = .ok (.iload_n 1, 1) := by decide +kernel
theorem dX1_clashesIn_19 : decode cX1_clashesIn 19 = .ok (.iload_n 2, 1) := by decide +kernel
theorem dX1_clashesIn_20 : decode cX1_clashesIn 20 = .ok (.invokevirtual 36, 3) := by decide +kernel
theorem dX1_clashesIn_23 : decode cX1_clashesIn 23 = .ok (.aload_n 0, 1) := by decide +kernel
theorem dX1_clashesIn_24 : decode cX1_clashesIn 24 = .ok (.iload_n 1, 1) := by decide +kernel
theorem dX1_clashesIn_25 : decode cX1_clashesIn 25 = .ok (.invokevirtual 40, 3) := by decide +kernel
theorem dX1_clashesIn_28 : decode cX1_clashesIn 28 = .ok (.iload_n 2, 1) := by decide +kernel
theorem dX1_clashesIn_29 : decode cX1_clashesIn 29 = .ok (.invokevirtual 44, 3) := by decide +kernel
theorem dX1_clashesIn_32 : decode cX1_clashesIn 32 = .ok (.invokevirtual 50, 3) := by decide +kernel
theorem dX1_clashesIn_35 : decode cX1_clashesIn 35 = .ok (.ifCond .eq 5, 3) := by decide +kernel
theorem dX1_clashesIn_38 : decode cX1_clashesIn 38 = .ok (.iconst 1, 1) := by decide +kernel
theorem dX1_clashesIn_39 : decode cX1_clashesIn 39 = .ok (.ireturn, 1) := by decide +kernel
theorem dX1_clashesIn_40 : decode cX1_clashesIn 40 = .ok (.iinc 2 1, 3) := by decide +kernel
theorem dX1_clashesIn_43 : decode cX1_clashesIn 43 = .ok (.goto (-41), 3) := by decide +kernel
theorem dX1_clashesIn_46 : decode cX1_clashesIn 46 = .ok (.iconst 0, 1) := by decide +kernel
theorem dX1_clashesIn_47 : decode cX1_clashesIn 47 = .ok (.ireturn, 1) := by decide +kernel
set_option maxRecDepth 20000 in
theorem ggX1_leavesDanglingReference_X1_leavesDanglingIn : GoodIn wsX1_leavesDanglingReference wsX1_leavesDanglingIn := goodIn_r _ [5, 6, 7, 8, 9, 10, 11, 12, 13, 14, 15, 16, 17, 18, 19, 20, 21, 22, 23, 24, 25, 26, 4, 27, 28, 29, 30, 31, 32, 33, 34, 35, 36, 37, 38, 39, 40, 41, 42, 43, 44, 45, 46, 47, 48, 49, 50, 51, 52, 53, 54, 55, 56, 57, 58, 59, 60, 61, 62, 63, 64, 65, 66, 67, 68, 69, 70, 71, 72, 73, 74, 75, 76, 77, 78, 79, 80, 81, 82, 83, 84, 85, 86, 87, 88, 89, 90, 91, 92, 93, 94, 95, 96, 97, 98, 99, 100, 101, 102, 103, 104, 105, 106, 107, 108, 109, 110, 111, 112, 113, 114, 115, 116] rfl (by decide +kernel)
set_option maxRecDepth 20000 in
theorem gX1_leavesDanglingReference_X1_leavesDanglingIn : GoodIn wsX1_leavesDanglingReference (wsV RX1 56 RX1 yX1_leavesDanglingIn wsX1_leavesDanglingIn) := goodIn_app (goodIn_r _ [1, 2, 3, 4] rfl (by decide +kernel)) ggX1_leavesDanglingReference_X1_leavesDanglingIn
theorem dX1_leavesDanglingReference_0 : decode cX1_leavesDanglingReference 0 = .ok (.aload_n 0, 1) := by decide +kernel
theorem dX1_leavesDanglingReference_1 : decode cX1_leavesDanglingReference 1 = .ok (.iconst 0, 1) := by decide +kernel
theorem dX1_leavesDanglingReference_2 : decode cX1_leavesDanglingReference 2 = .ok (.invokevirtual 56, 3) := by decide +kernel
theorem dX1_leavesDanglingReference_5 : decode cX1_leavesDanglingReference 5 = .ok (.ifCond .ne 11, 3) := by decide +kernel
theorem dX1_leavesDanglingReference_8 : decode cX1_leavesDanglingReference 8 = .ok (.aload_n 0, 1) := by decide +kernel
theorem dX1_leavesDanglingReference_9 : decode cX1_leavesDanglingReference 9 = .ok (.iconst 1, 1) := by decide +kernel
theorem dX1_leavesDanglingReference_10 : decode cX1_leavesDanglingReference 10 = .ok (.invokevirtual 56, 3) := by decide +kernel
theorem dX1_leavesDanglingReference_13 : decode cX1_leavesDanglingReference 13 = .ok (.ifCond .eq 7, 3) := by decide +kernel
theorem dX1_leavesDanglingReference_16 : decode cX1_leavesDanglingReference 16 = .ok (.iconst 1, 1) := by decide +kernel
theorem dX1_leavesDanglingReference_17 : decode cX1_leavesDanglingReference 17 = .ok (.goto 4, 3) := by decide +kernel
theorem dX1_leavesDanglingReference_20 : decode cX1_leavesDanglingReference 20 = .ok (.iconst 0, 1) := by decide +kernel
theorem dX1_leavesDanglingReference_21 : decode cX1_leavesDanglingReference 21 = .ok (.ireturn, 1) := by decide +kernel
set_option maxRecDepth 20000 in
theorem ggX1_leavesDanglingIn_X4_sizeOf : GoodIn wsX1_leavesDanglingIn wsX4_sizeOf := goodIn_r _ [6, 7, 8, 9, 5, 10, 11, 12, 13, 14, 15, 16, 17, 18, 93, 94, 95, 96, 97, 98] rfl (by decide +kernel)
set_option maxRecDepth 20000 in
theorem gX1_leavesDanglingIn_X4_sizeOf : GoodIn wsX1_leavesDanglingIn (wsV RX1 30 RX4 yX4_sizeOf wsX4_sizeOf) := goodIn_app (goodIn_r _ [2, 3, 4, 5] rfl (by decide +kernel)) ggX1_leavesDanglingIn_X4_sizeOf
set_option maxRecDepth 20000 in
theorem ggX1_leavesDanglingIn_X1_referenceBehind : GoodIn wsX1_leavesDanglingIn wsX1_referenceBehind := goodIn_r _ [23, 1, 24, 25, 26, 27, 28, 5, 29, 30, 31, 7, 8, 9, 10, 11, 12, 13, 14, 15, 16, 17, 18, 32, 33, 34, 35, 36, 37, 38, 39, 40, 41, 42, 43, 44, 45, 46, 47, 48, 49, 50, 51, 52, 53, 54, 55, 56, 57, 58, 59, 60, 61, 62, 63, 64, 65, 66, 22, 67, 68, 69, 70, 71, 72, 73, 74, 75, 76, 77, 78, 79, 89, 90, 91, 92, 99, 100, 101, 102, 103, 104, 105, 106, 107, 108, 109, 110, 93, 94, 95, 96, 97, 98, 111, 112] rfl (by decide +kernel)
set_option maxRecDepth 20000 in
theorem gX1_leavesDanglingIn_X1_referenceBehind : GoodIn wsX1_leavesDanglingIn (wsV RX1 59 RX1 yX1_referenceBehind wsX1_referenceBehind) := goodIn_app (goodIn_r _ [19, 20, 21, 22] rfl (by decide +kernel)) ggX1_leavesDanglingIn_X1_referenceBehind
set_option maxRecDepth 20000 in
theorem ggX1_leavesDanglingIn_X1_isThereBehind : GoodIn wsX1_leavesDanglingIn wsX1_isThereBehind := goodIn_r _ [83, 1, 84, 85, 26, 27, 28, 5, 29, 30, 31, 7, 8, 9, 10, 11, 12, 13, 14, 15, 16, 17, 18, 32, 33, 34, 35, 36, 37, 38, 39, 40, 41, 42, 43, 44, 45, 46, 47, 48, 49, 50, 51, 52, 53, 54, 55, 64, 65, 66, 22, 67, 68, 69, 70, 71, 72, 73, 74, 75, 76, 77, 78, 79, 89, 90, 91, 92, 99, 100, 101, 102, 103, 104, 105, 106, 107, 108, 109, 110, 93, 94, 95, 96, 97, 98, 111, 112] rfl (by decide +kernel)
set_option maxRecDepth 20000 in
theorem gX1_leavesDanglingIn_X1_isThereBehind : GoodIn wsX1_leavesDanglingIn (wsV RX1 63 RX1 yX1_isThereBehind wsX1_isThereBehind) := goodIn_app (goodIn_r _ [80, 81, 82, 22] rfl (by decide +kernel)) ggX1_leavesDanglingIn_X1_isThereBehind
set_option maxRecDepth 20000 in
theorem ggX1_leavesDanglingIn_X6_otherKind : GoodIn wsX1_leavesDanglingIn wsX6_otherKind := goodIn_r _ [88] rfl (by decide +kernel)
set_option maxRecDepth 20000 in
theorem gX1_leavesDanglingIn_X6_otherKind_n67 : GoodIn wsX1_leavesDanglingIn (wsX6_otherKind) := ggX1_leavesDanglingIn_X6_otherKind
theorem dX1_leavesDanglingIn_0 : decode cX1_leavesDanglingIn 0 = .ok (.iconst 0, 1) := by decide +kernel
theorem dX1_leavesDanglingIn_1 : decode cX1_leavesDanglingIn 1 = .ok (.istore_n 2, 1) := by decide +kernel
theorem dX1_leavesDanglingIn_2 : decode cX1_leavesDanglingIn 2 = .ok (.iload_n 2, 1) := by decide +kernel
theorem dX1_leavesDanglingIn_3 : decode cX1_leavesDanglingIn 3 = .ok (.aload_n 0, 1) := by decide +kernel
theorem dX1_leavesDanglingIn_4 : decode cX1_leavesDanglingIn 4 = .ok (.getfield 9, 3) := by decide +kernel
theorem dX1_leavesDanglingIn_7 : decode cX1_leavesDanglingIn 7 = .ok (.iload_n 1, 1) := by decide +kernel
theorem dX1_leavesDanglingIn_8 : decode cX1_leavesDanglingIn 8 = .ok (.invokevirtual 30, 3) := by decide +kernel
theorem dX1_leavesDanglingIn_11 : decode cX1_leavesDanglingIn 11 = .ok (.if_icmp .ge 44, 3) := by decide +kernel
theorem dX1_leavesDanglingIn_14 : decode cX1_leavesDanglingIn 14 = .ok (.aload_n 0, 1) := by decide +kernel
theorem dX1_leavesDanglingIn_15 : decode cX1_leavesDanglingIn 15 = .ok (.iload_n 1, 1) := by decide +kernel
theorem dX1_leavesDanglingIn_16 : decode cX1_leavesDanglingIn 16 = .ok (.iload_n 2, 1) := by decide +kernel
theorem dX1_leavesDanglingIn_17 : decode cX1_leavesDanglingIn 17 = .ok (.invokevirtual 59, 3) := by decide +kernel
theorem dX1_leavesDanglingIn_20 : decode cX1_leavesDanglingIn 20 = .ok (.istore_n 3, 1) := by decide +kernel
theorem dX1_leavesDanglingIn_21 : decode cX1_leavesDanglingIn 21 = .ok (.aload_n 0, 1) := by decide +kernel
theorem dX1_leavesDanglingIn_22 : decode cX1_leavesDanglingIn 22 = .ok (.iload_n 1, 1) := by decide +kernel
theorem dX1_leavesDanglingIn_23 : decode cX1_leavesDanglingIn 23 = .ok (.iload_n 2, 1) := by decide +kernel
theorem dX1_leavesDanglingIn_24 : decode cX1_leavesDanglingIn 24 = .ok (.invokevirtual 63, 3) := by decide +kernel
theorem dX1_leavesDanglingIn_27 : decode cX1_leavesDanglingIn 27 = .ok (.ifCond .eq 22, 3) := by decide +kernel
theorem dX1_leavesDanglingIn_30 : decode cX1_leavesDanglingIn 30 = .ok (.iload_n 3, 1) := by decide +kernel
theorem dX1_leavesDanglingIn_31 : decode cX1_leavesDanglingIn 31 = .ok (.iconst (-1), 1) := by decide +kernel
theorem dX1_leavesDanglingIn_32 : decode cX1_leavesDanglingIn 32 = .ok (.if_icmp .eq 17, 3) := by decide +kernel
theorem dX1_leavesDanglingIn_35 : decode cX1_leavesDanglingIn 35 = .ok (.aload_n 0, 1) := by decide +kernel
theorem dX1_leavesDanglingIn_36 : decode cX1_leavesDanglingIn 36 = .ok (.iload_n 1, 1) := by decide +kernel
theorem dX1_leavesDanglingIn_37 : decode cX1_leavesDanglingIn 37 = .ok (.invokestatic 67, 3) := by decide +kernel
theorem dX1_leavesDanglingIn_40 : decode cX1_leavesDanglingIn 40 = .ok (.iload_n 3, 1) := by decide +kernel
theorem dX1_leavesDanglingIn_41 : decode cX1_leavesDanglingIn 41 = .ok (.invokevirtual 63, 3) := by decide +kernel
theorem dX1_leavesDanglingIn_44 : decode cX1_leavesDanglingIn 44 = .ok (.ifCond .ne 5, 3) := by decide +kernel
theorem dX1_leavesDanglingIn_47 : decode cX1_leavesDanglingIn 47 = .ok (.iconst 1, 1) := by decide +kernel
theorem dX1_leavesDanglingIn_48 : decode cX1_leavesDanglingIn 48 = .ok (.ireturn, 1) := by decide +kernel
theorem dX1_leavesDanglingIn_49 : decode cX1_leavesDanglingIn 49 = .ok (.iinc 2 1, 3) := by decide +kernel
theorem dX1_leavesDanglingIn_52 : decode cX1_leavesDanglingIn 52 = .ok (.goto (-50), 3) := by decide +kernel
theorem dX1_leavesDanglingIn_55 : decode cX1_leavesDanglingIn 55 = .ok (.iconst 0, 1) := by decide +kernel
theorem dX1_leavesDanglingIn_56 : decode cX1_leavesDanglingIn 56 = .ok (.ireturn, 1) := by decide +kernel
set_option maxRecDepth 20000 in
theorem ggX1_isThereBehind_X4_entityAt : GoodIn wsX1_isThereBehind wsX4_entityAt := goodIn_r _ [8, 9, 10, 11, 12, 13, 7, 14, 15, 16, 17, 18, 19, 20, 21, 22, 23, 24, 25, 26, 27, 28, 29, 30, 31, 32, 33, 34, 35, 36, 37, 38, 39, 80, 81, 82, 83, 84, 85] rfl (by decide +kernel)
set_option maxRecDepth 20000 in
theorem gX1_isThereBehind_X4_entityAt : GoodIn wsX1_isThereBehind (wsV RX1 36 RX4 yX4_entityAt wsX4_entityAt) := goodIn_app (goodIn_r _ [4, 5, 6, 7] rfl (by decide +kernel)) ggX1_isThereBehind_X4_entityAt
set_option maxRecDepth 20000 in
theorem ggX1_isThereBehind_X0_isNew : GoodIn wsX1_isThereBehind wsX0_isNew := goodIn_r _ [44, 45, 46, 68, 69, 70, 71, 72, 73, 74, 75] rfl (by decide +kernel)
set_option maxRecDepth 20000 in
theorem gX1_isThereBehind_X0_isNew : GoodIn wsX1_isThereBehind (wsV RX1 70 RX0 yX0_isNew wsX0_isNew) := goodIn_app (goodIn_r _ [40, 41, 42, 43] rfl (by decide +kernel)) ggX1_isThereBehind_X0_isNew
set_option maxRecDepth 20000 in
theorem ggX1_isThereBehind_X1_tableFor : GoodIn wsX1_isThereBehind wsX1_tableFor := goodIn_r _ [51, 52, 53, 64, 65, 66, 67] rfl (by decide +kernel)
set_option maxRecDepth 20000 in
theorem gX1_isThereBehind_X1_tableFor : GoodIn wsX1_isThereBehind (wsV RX1 40 RX1 yX1_tableFor wsX1_tableFor) := goodIn_app (goodIn_r _ [47, 48, 49, 50] rfl (by decide +kernel)) ggX1_isThereBehind_X1_tableFor
set_option maxRecDepth 20000 in
theorem ggX1_isThereBehind_X5_rowAt : GoodIn wsX1_isThereBehind wsX5_rowAt := goodIn_r _ [58, 59, 60, 61, 62, 18, 19, 20, 21, 22, 63, 24, 25, 26, 27, 28, 29, 30, 31, 32, 33, 34, 35, 36, 37, 38, 39, 86, 87, 83, 84, 85] rfl (by decide +kernel)
set_option maxRecDepth 20000 in
theorem gX1_isThereBehind_X5_rowAt : GoodIn wsX1_isThereBehind (wsV RX1 44 RX5 yX5_rowAt wsX5_rowAt) := goodIn_app (goodIn_r _ [54, 55, 56, 57] rfl (by decide +kernel)) ggX1_isThereBehind_X5_rowAt
theorem dX1_isThereBehind_0 : decode cX1_isThereBehind 0 = .ok (.aload_n 0, 1) := by decide +kernel
theorem dX1_isThereBehind_1 : decode cX1_isThereBehind 1 = .ok (.getfield 9, 3) := by decide +kernel
theorem dX1_isThereBehind_4 : decode cX1_isThereBehind 4 = .ok (.iload_n 1, 1) := by decide +kernel
theorem dX1_isThereBehind_5 : decode cX1_isThereBehind 5 = .ok (.iload_n 2, 1) := by decide +kernel
theorem dX1_isThereBehind_6 : decode cX1_isThereBehind 6 = .ok (.invokevirtual 36, 3) := by decide +kernel
theorem dX1_isThereBehind_9 : decode cX1_isThereBehind 9 = .ok (.astore_n 3, 1) := by decide +kernel
theorem dX1_isThereBehind_10 : decode cX1_isThereBehind 10 = .ok (.aload_n 3, 1) := by decide +kernel
theorem dX1_isThereBehind_11 : decode cX1_isThereBehind 11 = .ok (.invokevirtual 70, 3) := by decide +kernel
theorem dX1_isThereBehind_14 : decode cX1_isThereBehind 14 = .ok (.ifCond .ne 25, 3) := by decide +kernel
theorem dX1_isThereBehind_17 : decode cX1_isThereBehind 17 = .ok (.aload_n 3, 1) := by decide +kernel
theorem dX1_isThereBehind_18 : decode cX1_isThereBehind 18 = .ok (.getfield 74, 3) := by decide +kernel
theorem dX1_isThereBehind_21 : decode cX1_isThereBehind 21 = .ok (.ifCond .ne 22, 3) := by decide +kernel
theorem dX1_isThereBehind_24 : decode cX1_isThereBehind 24 = .ok (.aload_n 0, 1) := by decide +kernel
theorem dX1_isThereBehind_25 : decode cX1_isThereBehind 25 = .ok (.iload_n 1, 1) := by decide +kernel
theorem dX1_isThereBehind_26 : decode cX1_isThereBehind 26 = .ok (.invokevirtual 40, 3) := by decide +kernel
theorem dX1_isThereBehind_29 : decode cX1_isThereBehind 29 = .ok (.iload_n 2, 1) := by decide +kernel
theorem dX1_isThereBehind_30 : decode cX1_isThereBehind 30 = .ok (.invokevirtual 44, 3) := by decide +kernel
theorem dX1_isThereBehind_33 : decode cX1_isThereBehind 33 = .ok (.getfield 78, 3) := by decide +kernel
theorem dX1_isThereBehind_36 : decode cX1_isThereBehind 36 = .ok (.ifCond .eq 7, 3) := by decide +kernel
theorem dX1_isThereBehind_39 : decode cX1_isThereBehind 39 = .ok (.iconst 1, 1) := by decide +kernel
theorem dX1_isThereBehind_40 : decode cX1_isThereBehind 40 = .ok (.goto 4, 3) := by decide +kernel
theorem dX1_isThereBehind_43 : decode cX1_isThereBehind 43 = .ok (.iconst 0, 1) := by decide +kernel
theorem dX1_isThereBehind_44 : decode cX1_isThereBehind 44 = .ok (.ireturn, 1) := by decide +kernel
set_option maxRecDepth 20000 in
theorem ggX1_referenceBehind_X4_entityAt : GoodIn wsX1_referenceBehind wsX4_entityAt := goodIn_r _ [8, 9, 10, 11, 12, 13, 7, 14, 15, 16, 17, 18, 19, 20, 21, 22, 23, 24, 25, 26, 27, 28, 29, 30, 31, 32, 33, 34, 35, 36, 37, 38, 39, 88, 89, 90, 91, 92, 93] rfl (by decide +kernel)
set_option maxRecDepth 20000 in
theorem gX1_referenceBehind_X4_entityAt : GoodIn wsX1_referenceBehind (wsV RX1 36 RX4 yX4_entityAt wsX4_entityAt) := goodIn_app (goodIn_r _ [4, 5, 6, 7] rfl (by decide +kernel)) ggX1_referenceBehind_X4_entityAt
set_option maxRecDepth 20000 in
theorem ggX1_referenceBehind_X0_isNew : GoodIn wsX1_referenceBehind wsX0_isNew := goodIn_r _ [44, 45, 46, 76, 77, 78, 79, 80, 81, 82, 83] rfl (by decide +kernel)
set_option maxRecDepth 20000 in
theorem gX1_referenceBehind_X0_isNew : GoodIn wsX1_referenceBehind (wsV RX1 70 RX0 yX0_isNew wsX0_isNew) := goodIn_app (goodIn_r _ [40, 41, 42, 43] rfl (by decide +kernel)) ggX1_referenceBehind_X0_isNew
set_option maxRecDepth 20000 in
theorem ggX1_referenceBehind_X0_isChanged : GoodIn wsX1_referenceBehind wsX0_isChanged := goodIn_r _ [50, 46, 51, 52, 53, 54, 76, 77, 78, 79, 80, 81, 82, 83] rfl (by decide +kernel)
set_option maxRecDepth 20000 in
theorem gX1_referenceBehind_X0_isChanged : GoodIn wsX1_referenceBehind (wsV RX1 83 RX0 yX0_isChanged wsX0_isChanged) := goodIn_app (goodIn_r _ [47, 48, 49, 43] rfl (by decide +kernel)) ggX1_referenceBehind_X0_isChanged
set_option maxRecDepth 20000 in
theorem ggX1_referenceBehind_X1_tableFor : GoodIn wsX1_referenceBehind wsX1_tableFor := goodIn_r _ [59, 60, 61, 72, 73, 74, 75] rfl (by decide +kernel)
set_option maxRecDepth 20000 in
theorem gX1_referenceBehind_X1_tableFor : GoodIn wsX1_referenceBehind (wsV RX1 40 RX1 yX1_tableFor wsX1_tableFor) := goodIn_app (goodIn_r _ [55, 56, 57, 58] rfl (by decide +kernel)) ggX1_referenceBehind_X1_tableFor
set_option maxRecDepth 20000 in
theorem ggX1_referenceBehind_X5_rowAt : GoodIn wsX1_referenceBehind wsX5_rowAt := goodIn_r _ [66, 67, 68, 69, 70, 18, 19, 20, 21, 22, 71, 24, 25, 26, 27, 28, 29, 30, 31, 32, 33, 34, 35, 36, 37, 38, 39, 94, 95, 91, 92, 93] rfl (by decide +kernel)
set_option maxRecDepth 20000 in
theorem gX1_referenceBehind_X5_rowAt : GoodIn wsX1_referenceBehind (wsV RX1 44 RX5 yX5_rowAt wsX5_rowAt) := goodIn_app (goodIn_r _ [62, 63, 64, 65] rfl (by decide +kernel)) ggX1_referenceBehind_X5_rowAt
theorem dX1_referenceBehind_0 : decode cX1_referenceBehind 0 = .ok (.aload_n 0, 1) := by decide +kernel
theorem dX1_referenceBehind_1 : decode cX1_referenceBehind 1 = .ok (.getfield 9, 3) := by decide +kernel
theorem dX1_referenceBehind_4 : decode cX1_referenceBehind 4 = .ok (.iload_n 1, 1) := by decide +kernel
theorem dX1_referenceBehind_5 : decode cX1_referenceBehind 5 = .ok (.iload_n 2, 1) := by decide +kernel
theorem dX1_referenceBehind_6 : decode cX1_referenceBehind 6 = .ok (.invokevirtual 36, 3) := by decide +kernel
theorem dX1_referenceBehind_9 : decode cX1_referenceBehind 9 = .ok (.astore_n 3, 1) := by decide +kernel
theorem dX1_referenceBehind_10 : decode cX1_referenceBehind 10 = .ok (.aload_n 3, 1) := by decide +kernel
theorem dX1_referenceBehind_11 : decode cX1_referenceBehind 11 = .ok (.invokevirtual 70, 3) := by decide +kernel
theorem dX1_referenceBehind_14 : decode cX1_referenceBehind 14 = .ok (.ifCond .ne 10, 3) := by decide +kernel
theorem dX1_referenceBehind_17 : decode cX1_referenceBehind 17 = .ok (.aload_n 3, 1) := by decide +kernel
theorem dX1_referenceBehind_18 : decode cX1_referenceBehind 18 = .ok (.invokevirtual 83, 3) := by decide +kernel
theorem dX1_referenceBehind_21 : decode cX1_referenceBehind 21 = .ok (.ifCond .eq 10, 3) := by decide +kernel
theorem dX1_referenceBehind_24 : decode cX1_referenceBehind 24 = .ok (.aload_n 3, 1) := by decide +kernel
theorem dX1_referenceBehind_25 : decode cX1_referenceBehind 25 = .ok (.getfield 86, 3) := by decide +kernel
theorem dX1_referenceBehind_28 : decode cX1_referenceBehind 28 = .ok (.goto 15, 3) := by decide +kernel
theorem dX1_referenceBehind_31 : decode cX1_referenceBehind 31 = .ok (.aload_n 0, 1) := by decide +kernel
theorem dX1_referenceBehind_32 : decode cX1_referenceBehind 32 = .ok (.iload_n 1, 1) := by decide +kernel
theorem dX1_referenceBehind_33 : decode cX1_referenceBehind 33 = .ok (.invokevirtual 40, 3) := by decide +kernel
theorem dX1_referenceBehind_36 : decode cX1_referenceBehind 36 = .ok (.iload_n 2, 1) := by decide +kernel
theorem dX1_referenceBehind_37 : decode cX1_referenceBehind 37 = .ok (.invokevirtual 44, 3) := by decide +kernel
theorem dX1_referenceBehind_40 : decode cX1_referenceBehind 40 = .ok (.getfield 90, 3) := by decide +kernel
theorem dX1_referenceBehind_43 : decode cX1_referenceBehind 43 = .ok (.ireturn, 1) := by decide +kernel
set_option maxRecDepth 20000 in
theorem ggX1_doWrites_X1_insertAuthors : GoodIn wsX1_doWrites wsX1_insertAuthors := goodIn_r _ [5, 6, 7, 8, 9, 10, 11, 12, 13, 14, 15, 16, 17, 18, 19, 20, 21, 22, 23, 24, 25, 26, 27, 28, 29, 30, 31, 32, 33, 34, 35, 36, 37, 38, 39, 40, 41, 42, 43, 44, 45, 46, 47, 48, 49, 50, 51, 52, 53, 54, 55, 56, 57, 58, 59, 60, 61, 62, 63, 64, 65, 66, 67, 68, 69, 4, 70, 71, 72, 73, 74, 75, 76, 77, 78, 79, 80, 81, 82, 83, 84, 85, 86, 87, 88, 89, 90, 91, 92, 93, 94, 95, 96, 97, 98, 99, 100, 101, 102, 103, 104, 105, 106, 107, 108, 109, 110, 111, 112, 113, 114, 115, 116, 117, 118, 119, 120, 121, 122, 123, 152, 153, 154, 155, 156, 157, 158, 159, 160, 161, 162, 163, 164, 165, 166, 167, 168, 169, 170, 171, 172, 173, 174, 175, 176, 177, 178] rfl (by decide +kernel)
set_option maxRecDepth 20000 in
theorem gX1_doWrites_X1_insertAuthors : GoodIn wsX1_doWrites (wsV RX1 91 RX1 yX1_insertAuthors wsX1_insertAuthors) := goodIn_app (goodIn_r _ [1, 2, 3, 4] rfl (by decide +kernel)) ggX1_doWrites_X1_insertAuthors
set_option maxRecDepth 20000 in
theorem ggX1_doWrites_X1_insertBooks : GoodIn wsX1_doWrites wsX1_insertBooks := goodIn_r _ [127, 6, 8, 10, 11, 12, 13, 14, 15, 16, 17, 18, 19, 20, 21, 22, 23, 24, 25, 26, 27, 28, 29, 30, 31, 32, 33, 34, 35, 36, 37, 38, 39, 40, 41, 42, 43, 44, 45, 46, 47, 48, 49, 50, 51, 52, 53, 54, 55, 56, 67, 68, 69, 4, 70, 71, 72, 73, 74, 75, 76, 77, 7, 57, 58, 59, 60, 61, 62, 63, 64, 65, 66, 78, 79, 80, 81, 82, 83, 84, 85, 86, 87, 88, 89, 90, 91, 92, 93, 94, 95, 96, 97, 98, 99, 100, 101, 102, 103, 104, 105, 106, 107, 108, 109, 110, 111, 112, 113, 114, 115, 116, 117, 118, 119, 120, 121, 122, 123, 152, 153, 154, 155, 156, 157, 158, 159, 160, 161, 162, 163, 168, 169, 170, 171, 172, 173, 174, 175, 164, 165, 166, 167, 176, 177, 178] rfl (by decide +kernel)
set_option maxRecDepth 20000 in
theorem gX1_doWrites_X1_insertBooks : GoodIn wsX1_doWrites (wsV RX1 94 RX1 yX1_insertBooks wsX1_insertBooks) := goodIn_app (goodIn_r _ [124, 125, 126, 4] rfl (by decide +kernel)) ggX1_doWrites_X1_insertBooks
set_option maxRecDepth 20000 in
theorem ggX1_doWrites_X1_updateChanged : GoodIn wsX1_doWrites wsX1_updateChanged := goodIn_r _ [131, 6, 71, 8, 72, 10, 11, 12, 13, 14, 15, 16, 17, 18, 19, 20, 21, 22, 23, 24, 25, 26, 27, 28, 29, 30, 31, 32, 33, 34, 35, 36, 37, 38, 39, 40, 41, 42, 43, 44, 45, 46, 47, 48, 49, 132, 133, 134, 53, 135, 56, 136, 119, 137, 121, 73, 74, 75, 4, 76, 77, 7, 57, 58, 59, 60, 61, 62, 63, 64, 65, 66, 138, 139, 140, 81, 141, 84, 85, 86, 87, 88, 89, 90, 91, 92, 93, 94, 95, 96, 97, 98, 99, 100, 101, 102, 103, 104, 105, 106, 107, 108, 109, 110, 111, 112, 113, 114, 115, 116, 117, 118, 120, 122, 123, 152, 153, 154, 155, 156, 157, 158, 159, 160, 161, 162, 163, 168, 169, 170, 171, 172, 173, 174, 175, 164, 165, 166, 167, 176, 177, 178] rfl (by decide +kernel)
set_option maxRecDepth 20000 in
theorem gX1_doWrites_X1_updateChanged : GoodIn wsX1_doWrites (wsV RX1 97 RX1 yX1_updateChanged wsX1_updateChanged) := goodIn_app (goodIn_r _ [128, 129, 130, 4] rfl (by decide +kernel)) ggX1_doWrites_X1_updateChanged
set_option maxRecDepth 20000 in
theorem ggX1_doWrites_X1_deleteStruckOut : GoodIn wsX1_doWrites wsX1_deleteStruckOut := goodIn_r _ [145, 6, 146, 9, 72, 10, 11, 12, 13, 14, 15, 16, 17, 18, 19, 20, 21, 22, 23, 24, 25, 26, 27, 28, 29, 30, 31, 32, 33, 34, 35, 36, 37, 38, 39, 40, 41, 42, 43, 44, 45, 46, 47, 48, 49, 73, 74, 75, 4, 76, 77, 7, 57, 58, 59, 60, 61, 62, 63, 64, 65, 66, 87, 88, 89, 90, 91, 92, 93, 94, 95, 96, 97, 98, 99, 100, 101, 102, 103, 104, 105, 106, 107, 108, 109, 110, 111, 112, 113, 147, 148, 149, 53, 150, 55, 151, 56, 152, 153, 154, 155, 156, 157, 158, 159, 160, 161, 162, 163, 164, 165, 166, 167, 168, 169, 170, 171, 172, 173, 174, 175, 176, 177, 178] rfl (by decide +kernel)
set_option maxRecDepth 20000 in
theorem gX1_doWrites_X1_deleteStruckOut : GoodIn wsX1_doWrites (wsV RX1 101 RX1 yX1_deleteStruckOut wsX1_deleteStruckOut) := goodIn_app (goodIn_r _ [142, 143, 144, 4] rfl (by decide +kernel)) ggX1_doWrites_X1_deleteStruckOut
theorem dX1_doWrites_0 : decode cX1_doWrites 0 = .ok (.aload_n 0, 1) := by decide +kernel
theorem dX1_doWrites_1 : decode cX1_doWrites 1 = .ok (.invokevirtual 91, 3) := by decide +kernel
theorem dX1_doWrites_4 : decode cX1_doWrites 4 = .ok (.aload_n 0, 1) := by decide +kernel
theorem dX1_doWrites_5 : decode cX1_doWrites 5 = .ok (.invokevirtual 94, 3) := by decide +kernel
theorem dX1_doWrites_8 : decode cX1_doWrites 8 = .ok (.aload_n 0, 1) := by decide +kernel
theorem dX1_doWrites_9 : decode cX1_doWrites 9 = .ok (.iconst 0, 1) := by decide +kernel
theorem dX1_doWrites_10 : decode cX1_doWrites 10 = .ok (.invokevirtual 97, 3) := by decide +kernel
theorem dX1_doWrites_13 : decode cX1_doWrites 13 = .ok (.aload_n 0, 1) := by decide +kernel
theorem dX1_doWrites_14 : decode cX1_doWrites 14 = .ok (.iconst 1, 1) := by decide +kernel
theorem dX1_doWrites_15 : decode cX1_doWrites 15 = .ok (.invokevirtual 97, 3) := by decide +kernel
theorem dX1_doWrites_18 : decode cX1_doWrites 18 = .ok (.aload_n 0, 1) := by decide +kernel
theorem dX1_doWrites_19 : decode cX1_doWrites 19 = .ok (.iconst 1, 1) := by decide +kernel
theorem dX1_doWrites_20 : decode cX1_doWrites 20 = .ok (.invokevirtual 101, 3) := by decide +kernel
theorem dX1_doWrites_23 : decode cX1_doWrites 23 = .ok (.aload_n 0, 1) := by decide +kernel
theorem dX1_doWrites_24 : decode cX1_doWrites 24 = .ok (.iconst 0, 1) := by decide +kernel
theorem dX1_doWrites_25 : decode cX1_doWrites 25 = .ok (.invokevirtual 101, 3) := by decide +kernel
theorem dX1_doWrites_28 : decode cX1_doWrites 28 = .ok (.return_, 1) := by decide +kernel
set_option maxRecDepth 20000 in
theorem ggX1_insertAuthors_X4_sizeOf : GoodIn wsX1_insertAuthors wsX4_sizeOf := goodIn_r _ [9, 10, 11, 12, 8, 13, 14, 15, 16, 17, 18, 19, 20, 21, 136, 137, 138, 139, 140, 141] rfl (by decide +kernel)
set_option maxRecDepth 20000 in
theorem gX1_insertAuthors_X4_sizeOf : GoodIn wsX1_insertAuthors (wsV RX1 30 RX4 yX4_sizeOf wsX4_sizeOf) := goodIn_app (goodIn_r _ [5, 6, 7, 8] rfl (by decide +kernel)) ggX1_insertAuthors_X4_sizeOf
set_option maxRecDepth 20000 in
theorem ggX1_insertAuthors_X4_entityAt : GoodIn wsX1_insertAuthors wsX4_entityAt := goodIn_r _ [25, 26, 27, 10, 11, 12, 8, 13, 14, 15, 16, 17, 18, 19, 20, 21, 28, 29, 30, 31, 32, 33, 34, 35, 36, 37, 38, 39, 40, 41, 42, 43, 44, 136, 137, 138, 139, 140, 141] rfl (by decide +kernel)
set_option maxRecDepth 20000 in
theorem gX1_insertAuthors_X4_entityAt : GoodIn wsX1_insertAuthors (wsV RX1 36 RX4 yX4_entityAt wsX4_entityAt) := goodIn_app (goodIn_r _ [22, 23, 24, 8] rfl (by decide +kernel)) ggX1_insertAuthors_X4_entityAt
set_option maxRecDepth 20000 in
theorem ggX1_insertAuthors_X0_isNew : GoodIn wsX1_insertAuthors wsX0_isNew := goodIn_r _ [49, 50, 51, 124, 125, 126, 127, 128, 129, 130, 131] rfl (by decide +kernel)
set_option maxRecDepth 20000 in
theorem gX1_insertAuthors_X0_isNew : GoodIn wsX1_insertAuthors (wsV RX1 70 RX0 yX0_isNew wsX0_isNew) := goodIn_app (goodIn_r _ [45, 46, 47, 48] rfl (by decide +kernel)) ggX1_insertAuthors_X0_isNew
set_option maxRecDepth 20000 in
theorem ggX1_insertAuthors_X5_rowAt : GoodIn wsX1_insertAuthors wsX5_rowAt := goodIn_r _ [56, 57, 58, 59, 60, 17, 18, 19, 20, 21, 61, 29, 30, 31, 32, 33, 34, 35, 36, 37, 38, 39, 40, 41, 42, 43, 44, 142, 143, 139, 140, 141] rfl (by decide +kernel)
set_option maxRecDepth 20000 in
theorem gX1_insertAuthors_X5_rowAt : GoodIn wsX1_insertAuthors (wsV RX1 44 RX5 yX5_rowAt wsX5_rowAt) := goodIn_app (goodIn_r _ [52, 53, 54, 55] rfl (by decide +kernel)) ggX1_insertAuthors_X5_rowAt
set_option maxRecDepth 20000 in
theorem ggX1_insertAuthors_X1_insert : GoodIn wsX1_insertAuthors wsX1_insert := goodIn_r _ [66, 67, 68, 69, 70, 71, 65, 72, 73, 2, 52, 53, 54, 55, 56, 57, 58, 59, 60, 17, 18, 19, 20, 21, 61, 29, 30, 31, 32, 33, 34, 35, 36, 37, 38, 39, 40, 41, 42, 43, 44, 74, 75, 76, 77, 78, 79, 80, 81, 82, 83, 84, 85, 86, 87, 88, 89, 90, 91, 92, 93, 94, 95, 96, 97, 98, 99, 100, 101, 102, 103, 104, 105, 106, 107, 108, 109, 110, 111, 112, 48, 113, 51, 114, 115, 116, 117, 118, 119, 124, 125, 126, 127, 128, 129, 130, 131, 120, 121, 122, 123, 142, 143, 139, 140, 141, 132, 133, 134, 135, 144, 145, 146] rfl (by decide +kernel)
set_option maxRecDepth 20000 in
theorem gX1_insertAuthors_X1_insert : GoodIn wsX1_insertAuthors (wsV RX1 104 RX1 yX1_insert wsX1_insert) := goodIn_app (goodIn_r _ [62, 63, 64, 65] rfl (by decide +kernel)) ggX1_insertAuthors_X1_insert
theorem dX1_insertAuthors_0 : decode cX1_insertAuthors 0 = .ok (.iconst 0, 1) := by decide +kernel
theorem dX1_insertAuthors_1 : decode cX1_insertAuthors 1 = .ok (.istore_n 1, 1) := by decide +kernel
theorem dX1_insertAuthors_2 : decode cX1_insertAuthors 2 = .ok (.iload_n 1, 1) := by decide +kernel
theorem dX1_insertAuthors_3 : decode cX1_insertAuthors 3 = .ok (.aload_n 0, 1) := by decide +kernel
theorem dX1_insertAuthors_4 : decode cX1_insertAuthors 4 = .ok (.getfield 9, 3) := by decide +kernel
theorem dX1_insertAuthors_7 : decode cX1_insertAuthors 7 = .ok (.iconst 0, 1) := by decide +kernel
theorem dX1_insertAuthors_8 : decode cX1_insertAuthors 8 = .ok (.invokevirtual 30, 3) := by decide +kernel
theorem dX1_insertAuthors_11 : decode cX1_insertAuthors 11 = .ok (.if_icmp .ge 60, 3) := by decide +kernel
theorem dX1_insertAuthors_14 : decode cX1_insertAuthors 14 = .ok (.aload_n 0, 1) := by decide +kernel
theorem dX1_insertAuthors_15 : decode cX1_insertAuthors 15 = .ok (.getfield 9, 3) := by decide +kernel
theorem dX1_insertAuthors_18 : decode cX1_insertAuthors 18 = .ok (.iconst 0, 1) := by decide +kernel
theorem dX1_insertAuthors_19 : decode cX1_insertAuthors 19 = .ok (.iload_n 1, 1) := by decide +kernel
theorem dX1_insertAuthors_20 : decode cX1_insertAuthors 20 = .ok (.invokevirtual 36, 3) := by decide +kernel
theorem dX1_insertAuthors_23 : decode cX1_insertAuthors 23 = .ok (.astore_n 2, 1) := by decide +kernel
theorem dX1_insertAuthors_24 : decode cX1_insertAuthors 24 = .ok (.aload_n 2, 1) := by decide +kernel
theorem dX1_insertAuthors_25 : decode cX1_insertAuthors 25 = .ok (.invokevirtual 70, 3) := by decide +kernel
theorem dX1_insertAuthors_28 : decode cX1_insertAuthors 28 = .ok (.ifCond .eq 37, 3) := by decide +kernel
theorem dX1_insertAuthors_31 : decode cX1_insertAuthors 31 = .ok (.aload_n 0, 1) := by decide +kernel
theorem dX1_insertAuthors_32 : decode cX1_insertAuthors 32 = .ok (.getfield 19, 3) := by decide +kernel
theorem dX1_insertAuthors_35 : decode cX1_insertAuthors 35 = .ok (.aload_n 2, 1) := by decide +kernel
theorem dX1_insertAuthors_36 : decode cX1_insertAuthors 36 = .ok (.getfield 86, 3) := by decide +kernel
theorem dX1_insertAuthors_39 : decode cX1_insertAuthors 39 = .ok (.invokevirtual 44, 3) := by decide +kernel
theorem dX1_insertAuthors_42 : decode cX1_insertAuthors 42 = .ok (.getfield 78, 3) := by decide +kernel
theorem dX1_insertAuthors_45 : decode cX1_insertAuthors 45 = .ok (.istore_n 3, 1) := by decide +kernel
theorem dX1_insertAuthors_46 : decode cX1_insertAuthors 46 = .ok (.aload_n 0, 1) := by decide +kernel
theorem dX1_insertAuthors_47 : decode cX1_insertAuthors 47 = .ok (.aload_n 2, 1) := by decide +kernel
theorem dX1_insertAuthors_48 : decode cX1_insertAuthors 48 = .ok (.iconst 0, 1) := by decide +kernel
theorem dX1_insertAuthors_49 : decode cX1_insertAuthors 49 = .ok (.iload_n 1, 1) := by decide +kernel
theorem dX1_insertAuthors_50 : decode cX1_insertAuthors 50 = .ok (.iload_n 3, 1) := by decide +kernel
theorem dX1_insertAuthors_51 : decode cX1_insertAuthors 51 = .ok (.ifCond .eq 10, 3) := by decide +kernel
theorem dX1_insertAuthors_54 : decode cX1_insertAuthors 54 = .ok (.aload_n 2, 1) := by decide +kernel
theorem dX1_insertAuthors_55 : decode cX1_insertAuthors 55 = .ok (.getfield 86, 3) := by decide +kernel
theorem dX1_insertAuthors_58 : decode cX1_insertAuthors 58 = .ok (.goto 4, 3) := by decide +kernel
theorem dX1_insertAuthors_61 : decode cX1_insertAuthors 61 = .ok (.iconst (-1), 1) := by decide +kernel
theorem dX1_insertAuthors_62 : decode cX1_insertAuthors 62 = .ok (.invokevirtual 104, 3) := by decide +kernel
theorem dX1_insertAuthors_65 : decode cX1_insertAuthors 65 = .ok (.iinc 1 1, 3) := by decide +kernel
theorem dX1_insertAuthors_68 : decode cX1_insertAuthors 68 = .ok (.goto (-66), 3) := by decide +kernel
theorem dX1_insertAuthors_71 : decode cX1_insertAuthors 71 = .ok (.return_, 1) := by decide +kernel
set_option maxRecDepth 20000 in
theorem ggX1_insertBooks_X4_sizeOf : GoodIn wsX1_insertBooks wsX4_sizeOf := goodIn_r _ [7, 8, 9, 10, 6, 11, 12, 13, 14, 15, 16, 17, 18, 19, 131, 132, 133, 134, 135, 136] rfl (by decide +kernel)
set_option maxRecDepth 20000 in
theorem gX1_insertBooks_X4_sizeOf : GoodIn wsX1_insertBooks (wsV RX1 30 RX4 yX4_sizeOf wsX4_sizeOf) := goodIn_app (goodIn_r _ [3, 4, 5, 6] rfl (by decide +kernel)) ggX1_insertBooks_X4_sizeOf
set_option maxRecDepth 20000 in
theorem ggX1_insertBooks_X4_entityAt : GoodIn wsX1_insertBooks wsX4_entityAt := goodIn_r _ [23, 24, 25, 8, 9, 10, 6, 11, 12, 13, 14, 15, 16, 17, 18, 19, 26, 27, 28, 29, 30, 31, 32, 33, 34, 35, 36, 37, 38, 39, 40, 41, 42, 131, 132, 133, 134, 135, 136] rfl (by decide +kernel)
set_option maxRecDepth 20000 in
theorem gX1_insertBooks_X4_entityAt : GoodIn wsX1_insertBooks (wsV RX1 36 RX4 yX4_entityAt wsX4_entityAt) := goodIn_app (goodIn_r _ [20, 21, 22, 6] rfl (by decide +kernel)) ggX1_insertBooks_X4_entityAt
set_option maxRecDepth 20000 in
theorem ggX1_insertBooks_X0_isNew : GoodIn wsX1_insertBooks wsX0_isNew := goodIn_r _ [47, 48, 49, 123, 124, 125, 126, 127, 128, 129, 130] rfl (by decide +kernel)
set_option maxRecDepth 20000 in
theorem gX1_insertBooks_X0_isNew : GoodIn wsX1_insertBooks (wsV RX1 70 RX0 yX0_isNew wsX0_isNew) := goodIn_app (goodIn_r _ [43, 44, 45, 46] rfl (by decide +kernel)) ggX1_insertBooks_X0_isNew
set_option maxRecDepth 20000 in
theorem ggX1_insertBooks_X1_insert : GoodIn wsX1_insertBooks wsX1_insert := goodIn_r _ [54, 55, 56, 57, 58, 59, 53, 60, 61, 62, 63, 64, 65, 66, 67, 68, 69, 70, 71, 15, 16, 17, 18, 19, 72, 27, 28, 29, 30, 31, 32, 33, 34, 35, 36, 37, 38, 39, 40, 41, 42, 73, 74, 75, 76, 77, 78, 79, 80, 81, 82, 83, 84, 85, 86, 87, 88, 89, 90, 91, 92, 93, 94, 95, 96, 97, 98, 99, 100, 101, 102, 103, 104, 105, 106, 107, 108, 109, 110, 111, 46, 112, 49, 113, 114, 115, 116, 117, 118, 123, 124, 125, 126, 127, 128, 129, 130, 119, 120, 121, 122, 137, 138, 134, 135, 136, 139, 140, 141, 142, 143, 144, 145] rfl (by decide +kernel)
set_option maxRecDepth 20000 in
theorem gX1_insertBooks_X1_insert : GoodIn wsX1_insertBooks (wsV RX1 104 RX1 yX1_insert wsX1_insert) := goodIn_app (goodIn_r _ [50, 51, 52, 53] rfl (by decide +kernel)) ggX1_insertBooks_X1_insert
theorem dX1_insertBooks_0 : decode cX1_insertBooks 0 = .ok (.iconst 0, 1) := by decide +kernel
theorem dX1_insertBooks_1 : decode cX1_insertBooks 1 = .ok (.istore_n 1, 1) := by decide +kernel
theorem dX1_insertBooks_2 : decode cX1_insertBooks 2 = .ok (.iload_n 1, 1) := by decide +kernel
theorem dX1_insertBooks_3 : decode cX1_insertBooks 3 = .ok (.aload_n 0, 1) := by decide +kernel
theorem dX1_insertBooks_4 : decode cX1_insertBooks 4 = .ok (.getfield 9, 3) := by decide +kernel
theorem dX1_insertBooks_7 : decode cX1_insertBooks 7 = .ok (.iconst 1, 1) := by decide +kernel
theorem dX1_insertBooks_8 : decode cX1_insertBooks 8 = .ok (.invokevirtual 30, 3) := by decide +kernel
theorem dX1_insertBooks_11 : decode cX1_insertBooks 11 = .ok (.if_icmp .ge 37, 3) := by decide +kernel
theorem dX1_insertBooks_14 : decode cX1_insertBooks 14 = .ok (.aload_n 0, 1) := by decide +kernel
theorem dX1_insertBooks_15 : decode cX1_insertBooks 15 = .ok (.getfield 9, 3) := by decide +kernel
theorem dX1_insertBooks_18 : decode cX1_insertBooks 18 = .ok (.iconst 1, 1) := by decide +kernel
theorem dX1_insertBooks_19 : decode cX1_insertBooks 19 = .ok (.iload_n 1, 1) := by decide +kernel
theorem dX1_insertBooks_20 : decode cX1_insertBooks 20 = .ok (.invokevirtual 36, 3) := by decide +kernel
theorem dX1_insertBooks_23 : decode cX1_insertBooks 23 = .ok (.astore_n 2, 1) := by decide +kernel
theorem dX1_insertBooks_24 : decode cX1_insertBooks 24 = .ok (.aload_n 2, 1) := by decide +kernel
theorem dX1_insertBooks_25 : decode cX1_insertBooks 25 = .ok (.invokevirtual 70, 3) := by decide +kernel
theorem dX1_insertBooks_28 : decode cX1_insertBooks 28 = .ok (.ifCond .eq 14, 3) := by decide +kernel
theorem dX1_insertBooks_31 : decode cX1_insertBooks 31 = .ok (.aload_n 0, 1) := by decide +kernel
theorem dX1_insertBooks_32 : decode cX1_insertBooks 32 = .ok (.aload_n 2, 1) := by decide +kernel
theorem dX1_insertBooks_33 : decode cX1_insertBooks 33 = .ok (.iconst 1, 1) := by decide +kernel
theorem dX1_insertBooks_34 : decode cX1_insertBooks 34 = .ok (.iload_n 1, 1) := by decide +kernel
theorem dX1_insertBooks_35 : decode cX1_insertBooks 35 = .ok (.aload_n 2, 1) := by decide +kernel
theorem dX1_insertBooks_36 : decode cX1_insertBooks 36 = .ok (.getfield 86, 3) := by decide +kernel
theorem dX1_insertBooks_39 : decode cX1_insertBooks 39 = .ok (.invokevirtual 104, 3) := by decide +kernel
theorem dX1_insertBooks_42 : decode cX1_insertBooks 42 = .ok (.iinc 1 1, 3) := by decide +kernel
theorem dX1_insertBooks_45 : decode cX1_insertBooks 45 = .ok (.goto (-43), 3) := by decide +kernel
theorem dX1_insertBooks_48 : decode cX1_insertBooks 48 = .ok (.return_, 1) := by decide +kernel
set_option maxRecDepth 20000 in
theorem ggX1_insert_X1_tableFor : GoodIn wsX1_insert wsX1_tableFor := goodIn_r _ [7, 8, 9, 97, 98, 99, 100] rfl (by decide +kernel)
set_option maxRecDepth 20000 in
theorem gX1_insert_X1_tableFor : GoodIn wsX1_insert (wsV RX1 40 RX1 yX1_tableFor wsX1_tableFor) := goodIn_app (goodIn_r _ [3, 4, 5, 6] rfl (by decide +kernel)) ggX1_insert_X1_tableFor
set_option maxRecDepth 20000 in
theorem ggX1_insert_X5_rowAt : GoodIn wsX1_insert wsX5_rowAt := goodIn_r _ [14, 15, 16, 17, 18, 19, 20, 21, 22, 23, 24, 25, 26, 27, 28, 29, 30, 31, 32, 33, 34, 35, 36, 37, 38, 39, 40, 101, 102, 103, 104, 105] rfl (by decide +kernel)
set_option maxRecDepth 20000 in
theorem gX1_insert_X5_rowAt : GoodIn wsX1_insert (wsV RX1 44 RX5 yX5_rowAt wsX5_rowAt) := goodIn_app (goodIn_r _ [10, 11, 12, 13] rfl (by decide +kernel)) ggX1_insert_X5_rowAt
set_option maxRecDepth 20000 in
theorem ggX1_insert_X3_insert : GoodIn wsX1_insert wsX3_insert := goodIn_r _ [45, 46, 47, 48, 49, 106, 107, 108, 109] rfl (by decide +kernel)
set_option maxRecDepth 20000 in
theorem gX1_insert_X3_insert : GoodIn wsX1_insert (wsV RX1 111 RX3 yX3_insert wsX3_insert) := goodIn_app (goodIn_r _ [41, 42, 43, 44] rfl (by decide +kernel)) ggX1_insert_X3_insert
set_option maxRecDepth 20000 in
theorem ggX1_insert_X2_note : GoodIn wsX1_insert wsX2_note := goodIn_r _ [54, 55, 56, 57, 58, 59, 60, 61, 62, 63, 64, 65, 66, 67, 68, 69, 70, 71, 72, 73, 74, 75, 76, 110, 111, 112] rfl (by decide +kernel)
set_option maxRecDepth 20000 in
theorem gX1_insert_X2_note : GoodIn wsX1_insert (wsV RX1 114 RX2 yX2_note wsX2_note) := goodIn_app (goodIn_r _ [50, 51, 52, 53] rfl (by decide +kernel)) ggX1_insert_X2_note
set_option maxRecDepth 20000 in
theorem ggX1_insert_X0_takeSnapshot : GoodIn wsX1_insert wsX0_takeSnapshot := goodIn_r _ [81, 82, 83, 84, 85, 86, 87, 88, 89, 90, 91, 92, 93, 94, 95, 96, 106, 107, 108, 109] rfl (by decide +kernel)
set_option maxRecDepth 20000 in
theorem gX1_insert_X0_takeSnapshot : GoodIn wsX1_insert (wsV RX1 120 RX0 yX0_takeSnapshot wsX0_takeSnapshot) := goodIn_app (goodIn_r _ [77, 78, 79, 80] rfl (by decide +kernel)) ggX1_insert_X0_takeSnapshot
theorem dX1_insert_0 : decode cX1_insert 0 = .ok (.aload_n 0, 1) := by decide +kernel
theorem dX1_insert_1 : decode cX1_insert 1 = .ok (.iload_n 2, 1) := by decide +kernel
theorem dX1_insert_2 : decode cX1_insert 2 = .ok (.invokevirtual 40, 3) := by decide +kernel
theorem dX1_insert_5 : decode cX1_insert 5 = .ok (.iload_n 3, 1) := by decide +kernel
theorem dX1_insert_6 : decode cX1_insert 6 = .ok (.invokevirtual 44, 3) := by decide +kernel
theorem dX1_insert_9 : decode cX1_insert 9 = .ok (.astore 5, 2) := by decide +kernel
theorem dX1_insert_11 : decode cX1_insert 11 = .ok (.aload 5, 2) := by decide +kernel
theorem dX1_insert_13 : decode cX1_insert 13 = .ok (.aload_n 1, 1) := by decide +kernel
theorem dX1_insert_14 : decode cX1_insert 14 = .ok (.getfield 108, 3) := by decide +kernel
theorem dX1_insert_17 : decode cX1_insert 17 = .ok (.iload 4, 2) := by decide +kernel
theorem dX1_insert_19 : decode cX1_insert 19 = .ok (.invokevirtual 111, 3) := by decide +kernel
theorem dX1_insert_22 : decode cX1_insert 22 = .ok (.aload_n 0, 1) := by decide +kernel
theorem dX1_insert_23 : decode cX1_insert 23 = .ok (.getfield 22, 3) := by decide +kernel
theorem dX1_insert_26 : decode cX1_insert 26 = .ok (.iconst 0, 1) := by decide +kernel
theorem dX1_insert_27 : decode cX1_insert 27 = .ok (.iload_n 2, 1) := by decide +kernel
theorem dX1_insert_28 : decode cX1_insert 28 = .ok (.iload_n 3, 1) := by decide +kernel
theorem dX1_insert_29 : decode cX1_insert 29 = .ok (.invokevirtual 114, 3) := by decide +kernel
theorem dX1_insert_32 : decode cX1_insert 32 = .ok (.aload_n 1, 1) := by decide +kernel
theorem dX1_insert_33 : decode cX1_insert 33 = .ok (.aload 5, 2) := by decide +kernel
theorem dX1_insert_35 : decode cX1_insert 35 = .ok (.invokevirtual 120, 3) := by decide +kernel
theorem dX1_insert_38 : decode cX1_insert 38 = .ok (.return_, 1) := by decide +kernel
set_option maxRecDepth 20000 in
theorem ggX1_updateChanged_X4_sizeOf : GoodIn wsX1_updateChanged wsX4_sizeOf := goodIn_r _ [9, 10, 11, 12, 8, 13, 14, 15, 16, 17, 18, 19, 20, 21, 127, 128, 129, 130, 131, 132] rfl (by decide +kernel)
set_option maxRecDepth 20000 in
theorem gX1_updateChanged_X4_sizeOf : GoodIn wsX1_updateChanged (wsV RX1 30 RX4 yX4_sizeOf wsX4_sizeOf) := goodIn_app (goodIn_r _ [5, 6, 7, 8] rfl (by decide +kernel)) ggX1_updateChanged_X4_sizeOf
set_option maxRecDepth 20000 in
theorem ggX1_updateChanged_X4_entityAt : GoodIn wsX1_updateChanged wsX4_entityAt := goodIn_r _ [25, 26, 27, 10, 11, 12, 8, 13, 14, 15, 16, 17, 18, 19, 20, 21, 28, 29, 30, 31, 32, 33, 34, 35, 36, 37, 38, 39, 40, 41, 42, 43, 44, 127, 128, 129, 130, 131, 132] rfl (by decide +kernel)
set_option maxRecDepth 20000 in
theorem gX1_updateChanged_X4_entityAt : GoodIn wsX1_updateChanged (wsV RX1 36 RX4 yX4_entityAt wsX4_entityAt) := goodIn_app (goodIn_r _ [22, 23, 24, 8] rfl (by decide +kernel)) ggX1_updateChanged_X4_entityAt
set_option maxRecDepth 20000 in
theorem ggX1_updateChanged_X0_isChanged : GoodIn wsX1_updateChanged wsX0_isChanged := goodIn_r _ [49, 50, 51, 52, 53, 54, 119, 120, 121, 122, 123, 124, 125, 126] rfl (by decide +kernel)
set_option maxRecDepth 20000 in
theorem gX1_updateChanged_X0_isChanged : GoodIn wsX1_updateChanged (wsV RX1 83 RX0 yX0_isChanged wsX0_isChanged) := goodIn_app (goodIn_r _ [45, 46, 47, 48] rfl (by decide +kernel)) ggX1_updateChanged_X0_isChanged
set_option maxRecDepth 20000 in
theorem ggX1_updateChanged_X1_tableFor : GoodIn wsX1_updateChanged wsX1_tableFor := goodIn_r _ [59, 60, 61, 115, 116, 117, 118] rfl (by decide +kernel)
set_option maxRecDepth 20000 in
theorem gX1_updateChanged_X1_tableFor : GoodIn wsX1_updateChanged (wsV RX1 40 RX1 yX1_tableFor wsX1_tableFor) := goodIn_app (goodIn_r _ [55, 56, 57, 58] rfl (by decide +kernel)) ggX1_updateChanged_X1_tableFor
set_option maxRecDepth 20000 in
theorem ggX1_updateChanged_X5_rowAt : GoodIn wsX1_updateChanged wsX5_rowAt := goodIn_r _ [66, 67, 68, 69, 70, 17, 18, 19, 20, 21, 71, 29, 30, 31, 32, 33, 34, 35, 36, 37, 38, 39, 40, 41, 42, 43, 44, 133, 134, 130, 131, 132] rfl (by decide +kernel)
set_option maxRecDepth 20000 in
theorem gX1_updateChanged_X5_rowAt : GoodIn wsX1_updateChanged (wsV RX1 44 RX5 yX5_rowAt wsX5_rowAt) := goodIn_app (goodIn_r _ [62, 63, 64, 65] rfl (by decide +kernel)) ggX1_updateChanged_X5_rowAt
set_option maxRecDepth 20000 in
theorem ggX1_updateChanged_X3_update : GoodIn wsX1_updateChanged wsX3_update := goodIn_r _ [76, 77, 78, 79, 135, 136, 137, 138] rfl (by decide +kernel)
set_option maxRecDepth 20000 in
theorem gX1_updateChanged_X3_update : GoodIn wsX1_updateChanged (wsV RX1 124 RX3 yX3_update wsX3_update) := goodIn_app (goodIn_r _ [72, 73, 74, 75] rfl (by decide +kernel)) ggX1_updateChanged_X3_update
set_option maxRecDepth 20000 in
theorem ggX1_updateChanged_X2_note : GoodIn wsX1_updateChanged wsX2_note := goodIn_r _ [84, 85, 86, 87, 88, 89, 90, 91, 92, 93, 94, 95, 96, 97, 98, 99, 100, 101, 102, 103, 104, 105, 106, 139, 140, 141] rfl (by decide +kernel)
set_option maxRecDepth 20000 in
theorem gX1_updateChanged_X2_note : GoodIn wsX1_updateChanged (wsV RX1 114 RX2 yX2_note wsX2_note) := goodIn_app (goodIn_r _ [80, 81, 82, 83] rfl (by decide +kernel)) ggX1_updateChanged_X2_note
set_option maxRecDepth 20000 in
theorem ggX1_updateChanged_X0_takeSnapshot : GoodIn wsX1_updateChanged wsX0_takeSnapshot := goodIn_r _ [110, 50, 111, 52, 112, 54, 113, 114, 119, 120, 121, 122, 123, 124, 125, 126, 135, 136, 137, 138] rfl (by decide +kernel)
set_option maxRecDepth 20000 in
theorem gX1_updateChanged_X0_takeSnapshot : GoodIn wsX1_updateChanged (wsV RX1 120 RX0 yX0_takeSnapshot wsX0_takeSnapshot) := goodIn_app (goodIn_r _ [107, 108, 109, 48] rfl (by decide +kernel)) ggX1_updateChanged_X0_takeSnapshot
theorem dX1_updateChanged_0 : decode cX1_updateChanged 0 = .ok (.iconst 0, 1) := by decide +kernel
theorem dX1_updateChanged_1 : decode cX1_updateChanged 1 = .ok (.istore_n 2, 1) := by decide +kernel
theorem dX1_updateChanged_2 : decode cX1_updateChanged 2 = .ok (.iload_n 2, 1) := by decide +kernel
theorem dX1_updateChanged_3 : decode cX1_updateChanged 3 = .ok (.aload_n 0, 1) := by decide +kernel
theorem dX1_updateChanged_4 : decode cX1_updateChanged 4 = .ok (.getfield 9, 3) := by decide +kernel
theorem dX1_updateChanged_7 : decode cX1_updateChanged 7 = .ok (.iload_n 1, 1) := by decide +kernel
theorem dX1_updateChanged_8 : decode cX1_updateChanged 8 = .ok (.invokevirtual 30, 3) := by decide +kernel
theorem dX1_updateChanged_11 : decode cX1_updateChanged 11 = .ok (.if_icmp .ge 66, 3) := by decide +kernel
theorem dX1_updateChanged_14 : decode cX1_updateChanged 14 = .ok (.aload_n 0, 1) := by decide +kernel
theorem dX1_updateChanged_15 : decode cX1_updateChanged 15 = .ok (.getfield 9, 3) := by decide +kernel
theorem dX1_updateChanged_18 : decode cX1_updateChanged 18 = .ok (.iload_n 1, 1) := by decide +kernel
theorem dX1_updateChanged_19 : decode cX1_updateChanged 19 = .ok (.iload_n 2, 1) := by decide +kernel
theorem dX1_updateChanged_20 : decode cX1_updateChanged 20 = .ok (.invokevirtual 36, 3) := by decide +kernel
theorem dX1_updateChanged_23 : decode cX1_updateChanged 23 = .ok (.astore_n 3, 1) := by decide +kernel
theorem dX1_updateChanged_24 : decode cX1_updateChanged 24 = .ok (.aload_n 3, 1) := by decide +kernel
theorem dX1_updateChanged_25 : decode cX1_updateChanged 25 = .ok (.invokevirtual 83, 3) := by decide +kernel
theorem dX1_updateChanged_28 : decode cX1_updateChanged 28 = .ok (.ifCond .eq 43, 3) := by decide +kernel
theorem dX1_updateChanged_31 : decode cX1_updateChanged 31 = .ok (.aload_n 0, 1) := by decide +kernel
theorem dX1_updateChanged_32 : decode cX1_updateChanged 32 = .ok (.iload_n 1, 1) := by decide +kernel
theorem dX1_updateChanged_33 : decode cX1_updateChanged 33 = .ok (.invokevirtual 40, 3) := by decide +kernel
theorem dX1_updateChanged_36 : decode cX1_updateChanged 36 = .ok (.iload_n 2, 1) := by decide +kernel
theorem dX1_updateChanged_37 : decode cX1_updateChanged 37 = .ok (.invokevirtual 44, 3) := by decide +kernel
theorem dX1_updateChanged_40 : decode cX1_updateChanged 40 = .ok (.astore 4, 2) := by decide +kernel
theorem dX1_updateChanged_42 : decode cX1_updateChanged 42 = .ok (.aload 4, 2) := by decide +kernel
theorem dX1_updateChanged_44 : decode cX1_updateChanged 44 = .ok (.aload_n 3, 1) := by decide +kernel
theorem dX1_updateChanged_45 : decode cX1_updateChanged 45 = .ok (.getfield 108, 3) := by decide +kernel
theorem dX1_updateChanged_48 : decode cX1_updateChanged 48 = .ok (.aload_n 3, 1) := by decide +kernel
theorem dX1_updateChanged_49 : decode cX1_updateChanged 49 = .ok (.getfield 86, 3) := by decide +kernel
theorem dX1_updateChanged_52 : decode cX1_updateChanged 52 = .ok (.invokevirtual 124, 3) := by decide +kernel
theorem dX1_updateChanged_55 : decode cX1_updateChanged 55 = .ok (.aload_n 0, 1) := by decide +kernel
theorem dX1_updateChanged_56 : decode cX1_updateChanged 56 = .ok (.getfield 22, 3) := by decide +kernel
theorem dX1_updateChanged_59 : decode cX1_updateChanged 59 = .ok (.iconst 1, 1) := by decide +kernel
theorem dX1_updateChanged_60 : decode cX1_updateChanged 60 = .ok (.iload_n 1, 1) := by decide +kernel
theorem dX1_updateChanged_61 : decode cX1_updateChanged 61 = .ok (.iload_n 2, 1) := by decide +kernel
theorem dX1_updateChanged_62 : decode cX1_updateChanged 62 = .ok (.invokevirtual 114, 3) := by decide +kernel
theorem dX1_updateChanged_65 : decode cX1_updateChanged 65 = .ok (.aload_n 3, 1) := by decide +kernel
theorem dX1_updateChanged_66 : decode cX1_updateChanged 66 = .ok (.aload 4, 2) := by decide +kernel
theorem dX1_updateChanged_68 : decode cX1_updateChanged 68 = .ok (.invokevirtual 120, 3) := by decide +kernel
theorem dX1_updateChanged_71 : decode cX1_updateChanged 71 = .ok (.iinc 2 1, 3) := by decide +kernel
theorem dX1_updateChanged_74 : decode cX1_updateChanged 74 = .ok (.goto (-72), 3) := by decide +kernel
theorem dX1_updateChanged_77 : decode cX1_updateChanged 77 = .ok (.return_, 1) := by decide +kernel
set_option maxRecDepth 20000 in
theorem ggX1_deleteStruckOut_X4_sizeOf : GoodIn wsX1_deleteStruckOut wsX4_sizeOf := goodIn_r _ [9, 10, 11, 12, 8, 13, 14, 15, 16, 17, 18, 19, 20, 21, 113, 114, 115, 116, 117, 118] rfl (by decide +kernel)
set_option maxRecDepth 20000 in
theorem gX1_deleteStruckOut_X4_sizeOf : GoodIn wsX1_deleteStruckOut (wsV RX1 30 RX4 yX4_sizeOf wsX4_sizeOf) := goodIn_app (goodIn_r _ [5, 6, 7, 8] rfl (by decide +kernel)) ggX1_deleteStruckOut_X4_sizeOf
set_option maxRecDepth 20000 in
theorem ggX1_deleteStruckOut_X4_entityAt : GoodIn wsX1_deleteStruckOut wsX4_entityAt := goodIn_r _ [25, 26, 27, 10, 11, 12, 8, 13, 14, 15, 16, 17, 18, 19, 20, 21, 28, 29, 30, 31, 32, 33, 34, 35, 36, 37, 38, 39, 40, 41, 42, 43, 44, 113, 114, 115, 116, 117, 118] rfl (by decide +kernel)
set_option maxRecDepth 20000 in
theorem gX1_deleteStruckOut_X4_entityAt : GoodIn wsX1_deleteStruckOut (wsV RX1 36 RX4 yX4_entityAt wsX4_entityAt) := goodIn_app (goodIn_r _ [22, 23, 24, 8] rfl (by decide +kernel)) ggX1_deleteStruckOut_X4_entityAt
set_option maxRecDepth 20000 in
theorem ggX1_deleteStruckOut_X1_tableFor : GoodIn wsX1_deleteStruckOut wsX1_tableFor := goodIn_r _ [49, 50, 51, 97, 98, 99, 100] rfl (by decide +kernel)
set_option maxRecDepth 20000 in
theorem gX1_deleteStruckOut_X1_tableFor : GoodIn wsX1_deleteStruckOut (wsV RX1 40 RX1 yX1_tableFor wsX1_tableFor) := goodIn_app (goodIn_r _ [45, 46, 47, 48] rfl (by decide +kernel)) ggX1_deleteStruckOut_X1_tableFor
set_option maxRecDepth 20000 in
theorem ggX1_deleteStruckOut_X5_rowAt : GoodIn wsX1_deleteStruckOut wsX5_rowAt := goodIn_r _ [56, 57, 58, 59, 60, 17, 18, 19, 20, 21, 61, 29, 30, 31, 32, 33, 34, 35, 36, 37, 38, 39, 40, 41, 42, 43, 44, 119, 120, 116, 117, 118] rfl (by decide +kernel)
set_option maxRecDepth 20000 in
theorem gX1_deleteStruckOut_X5_rowAt : GoodIn wsX1_deleteStruckOut (wsV RX1 44 RX5 yX5_rowAt wsX5_rowAt) := goodIn_app (goodIn_r _ [52, 53, 54, 55] rfl (by decide +kernel)) ggX1_deleteStruckOut_X5_rowAt
set_option maxRecDepth 20000 in
theorem ggX1_deleteStruckOut_X2_note : GoodIn wsX1_deleteStruckOut wsX2_note := goodIn_r _ [66, 67, 68, 69, 70, 71, 72, 73, 74, 75, 76, 77, 78, 79, 80, 81, 82, 83, 84, 85, 86, 87, 88, 121, 122, 123] rfl (by decide +kernel)
set_option maxRecDepth 20000 in
theorem gX1_deleteStruckOut_X2_note : GoodIn wsX1_deleteStruckOut (wsV RX1 114 RX2 yX2_note wsX2_note) := goodIn_app (goodIn_r _ [62, 63, 64, 65] rfl (by decide +kernel)) ggX1_deleteStruckOut_X2_note
set_option maxRecDepth 20000 in
theorem ggX1_deleteStruckOut_X0_forget : GoodIn wsX1_deleteStruckOut wsX0_forget := goodIn_r _ [93, 94, 95, 96, 101, 102, 103, 104, 105, 106, 107, 108] rfl (by decide +kernel)
set_option maxRecDepth 20000 in
theorem gX1_deleteStruckOut_X0_forget : GoodIn wsX1_deleteStruckOut (wsV RX1 127 RX0 yX0_forget wsX0_forget) := goodIn_app (goodIn_r _ [89, 90, 91, 92] rfl (by decide +kernel)) ggX1_deleteStruckOut_X0_forget
theorem dX1_deleteStruckOut_0 : decode cX1_deleteStruckOut 0 = .ok (.iconst 0, 1) := by decide +kernel
theorem dX1_deleteStruckOut_1 : decode cX1_deleteStruckOut 1 = .ok (.istore_n 2, 1) := by decide +kernel
theorem dX1_deleteStruckOut_2 : decode cX1_deleteStruckOut 2 = .ok (.iload_n 2, 1) := by decide +kernel
theorem dX1_deleteStruckOut_3 : decode cX1_deleteStruckOut 3 = .ok (.aload_n 0, 1) := by decide +kernel
theorem dX1_deleteStruckOut_4 : decode cX1_deleteStruckOut 4 = .ok (.getfield 9, 3) := by decide +kernel
theorem dX1_deleteStruckOut_7 : decode cX1_deleteStruckOut 7 = .ok (.iload_n 1, 1) := by decide +kernel
theorem dX1_deleteStruckOut_8 : decode cX1_deleteStruckOut 8 = .ok (.invokevirtual 30, 3) := by decide +kernel
theorem dX1_deleteStruckOut_11 : decode cX1_deleteStruckOut 11 = .ok (.if_icmp .ge 53, 3) := by decide +kernel
theorem dX1_deleteStruckOut_14 : decode cX1_deleteStruckOut 14 = .ok (.aload_n 0, 1) := by decide +kernel
theorem dX1_deleteStruckOut_15 : decode cX1_deleteStruckOut 15 = .ok (.getfield 9, 3) := by decide +kernel
theorem dX1_deleteStruckOut_18 : decode cX1_deleteStruckOut 18 = .ok (.iload_n 1, 1) := by decide +kernel
theorem dX1_deleteStruckOut_19 : decode cX1_deleteStruckOut 19 = .ok (.iload_n 2, 1) := by decide +kernel
theorem dX1_deleteStruckOut_20 : decode cX1_deleteStruckOut 20 = .ok (.invokevirtual 36, 3) := by decide +kernel
theorem dX1_deleteStruckOut_23 : decode cX1_deleteStruckOut 23 = .ok (.astore_n 3, 1) := by decide +kernel
theorem dX1_deleteStruckOut_24 : decode cX1_deleteStruckOut 24 = .ok (.aload_n 3, 1) := by decide +kernel
theorem dX1_deleteStruckOut_25 : decode cX1_deleteStruckOut 25 = .ok (.getfield 74, 3) := by decide +kernel
theorem dX1_deleteStruckOut_28 : decode cX1_deleteStruckOut 28 = .ok (.ifCond .eq 30, 3) := by decide +kernel
theorem dX1_deleteStruckOut_31 : decode cX1_deleteStruckOut 31 = .ok (.aload_n 0, 1) := by decide +kernel
theorem dX1_deleteStruckOut_32 : decode cX1_deleteStruckOut 32 = .ok (.iload_n 1, 1) := by decide +kernel
theorem dX1_deleteStruckOut_33 : decode cX1_deleteStruckOut 33 = .ok (.invokevirtual 40, 3) := by decide +kernel
theorem dX1_deleteStruckOut_36 : decode cX1_deleteStruckOut 36 = .ok (.iload_n 2, 1) := by decide +kernel
theorem dX1_deleteStruckOut_37 : decode cX1_deleteStruckOut 37 = .ok (.invokevirtual 44, 3) := by decide +kernel
theorem dX1_deleteStruckOut_40 : decode cX1_deleteStruckOut 40 = .ok (.iconst 0, 1) := by decide +kernel
theorem dX1_deleteStruckOut_41 : decode cX1_deleteStruckOut 41 = .ok (.putfield 78, 3) := by decide +kernel
theorem dX1_deleteStruckOut_44 : decode cX1_deleteStruckOut 44 = .ok (.aload_n 0, 1) := by decide +kernel
theorem dX1_deleteStruckOut_45 : decode cX1_deleteStruckOut 45 = .ok (.getfield 22, 3) := by decide +kernel
theorem dX1_deleteStruckOut_48 : decode cX1_deleteStruckOut 48 = .ok (.iconst 2, 1) := by decide +kernel
theorem dX1_deleteStruckOut_49 : decode cX1_deleteStruckOut 49 = .ok (.iload_n 1, 1) := by decide +kernel
theorem dX1_deleteStruckOut_50 : decode cX1_deleteStruckOut 50 = .ok (.iload_n 2, 1) := by decide +kernel
theorem dX1_deleteStruckOut_51 : decode cX1_deleteStruckOut 51 = .ok (.invokevirtual 114, 3) := by decide +kernel
theorem dX1_deleteStruckOut_54 : decode cX1_deleteStruckOut 54 = .ok (.aload_n 3, 1) := by decide +kernel
theorem dX1_deleteStruckOut_55 : decode cX1_deleteStruckOut 55 = .ok (.invokevirtual 127, 3) := by decide +kernel
theorem dX1_deleteStruckOut_58 : decode cX1_deleteStruckOut 58 = .ok (.iinc 2 1, 3) := by decide +kernel
theorem dX1_deleteStruckOut_61 : decode cX1_deleteStruckOut 61 = .ok (.goto (-59), 3) := by decide +kernel
theorem dX1_deleteStruckOut_64 : decode cX1_deleteStruckOut 64 = .ok (.return_, 1) := by decide +kernel
theorem dX2_init_0 : decode cX2_init 0 = .ok (.aload_n 0, 1) := by decide +kernel
theorem dX2_init_1 : decode cX2_init 1 = .ok (.invokespecial 3, 3) := by decide +kernel
theorem dX2_init_4 : decode cX2_init 4 = .ok (.aload_n 0, 1) := by decide +kernel
theorem dX2_init_5 : decode cX2_init 5 = .ok (.bipush 64, 2) := by decide +kernel
theorem dX2_init_7 : decode cX2_init 7 = .ok (.newarray .int, 2) := by decide +kernel
theorem dX2_init_9 : decode cX2_init 9 = .ok (.putfield 11, 3) := by decide +kernel
theorem dX2_init_12 : decode cX2_init 12 = .ok (.aload_n 0, 1) := by decide +kernel
theorem dX2_init_13 : decode cX2_init 13 = .ok (.bipush 64, 2) := by decide +kernel
theorem dX2_init_15 : decode cX2_init 15 = .ok (.newarray .int, 2) := by decide +kernel
theorem dX2_init_17 : decode cX2_init 17 = .ok (.putfield 15, 3) := by decide +kernel
theorem dX2_init_20 : decode cX2_init 20 = .ok (.return_, 1) := by decide +kernel
theorem dX2_isFull_0 : decode cX2_isFull 0 = .ok (.aload_n 0, 1) := by decide +kernel
theorem dX2_isFull_1 : decode cX2_isFull 1 = .ok (.getfield 18, 3) := by decide +kernel
theorem dX2_isFull_4 : decode cX2_isFull 4 = .ok (.sipush 4096, 3) := by decide +kernel
theorem dX2_isFull_7 : decode cX2_isFull 7 = .ok (.if_icmp .lt 7, 3) := by decide +kernel
theorem dX2_isFull_10 : decode cX2_isFull 10 = .ok (.iconst 1, 1) := by decide +kernel
theorem dX2_isFull_11 : decode cX2_isFull 11 = .ok (.goto 4, 3) := by decide +kernel
theorem dX2_isFull_14 : decode cX2_isFull 14 = .ok (.iconst 0, 1) := by decide +kernel
theorem dX2_isFull_15 : decode cX2_isFull 15 = .ok (.ireturn, 1) := by decide +kernel
set_option maxRecDepth 20000 in
theorem ggX2_note_J7_copyOf_59c91 : GoodIn wsX2_note wsJ7_copyOf_59c91 := goodIn_r _ [7, 8, 9, 10, 11, 12, 13, 14, 15, 16, 17, 18, 19, 20, 21, 22] rfl (by decide +kernel)
set_option maxRecDepth 20000 in
theorem gX2_note_J7_copyOf_59c91 : GoodIn wsX2_note (va_wsS RX2 22 yJ7_copyOf_59c91 wsJ7_copyOf_59c91) := goodIn_app (goodIn_r _ [4, 5, 6] rfl (by decide +kernel)) ggX2_note_J7_copyOf_59c91
theorem dX2_note_0 : decode cX2_note 0 = .ok (.aload_n 0, 1) := by decide +kernel
theorem dX2_note_1 : decode cX2_note 1 = .ok (.getfield 18, 3) := by decide +kernel
theorem dX2_note_4 : decode cX2_note 4 = .ok (.aload_n 0, 1) := by decide +kernel
theorem dX2_note_5 : decode cX2_note 5 = .ok (.getfield 11, 3) := by decide +kernel
theorem dX2_note_8 : decode cX2_note 8 = .ok (.arraylength, 1) := by decide +kernel
theorem dX2_note_9 : decode cX2_note 9 = .ok (.if_icmp .ge 15, 3) := by decide +kernel
theorem dX2_note_12 : decode cX2_note 12 = .ok (.aload_n 0, 1) := by decide +kernel
theorem dX2_note_13 : decode cX2_note 13 = .ok (.getfield 18, 3) := by decide +kernel
theorem dX2_note_16 : decode cX2_note 16 = .ok (.aload_n 0, 1) := by decide +kernel
theorem dX2_note_17 : decode cX2_note 17 = .ok (.getfield 15, 3) := by decide +kernel
theorem dX2_note_20 : decode cX2_note 20 = .ok (.arraylength, 1) := by decide +kernel
theorem dX2_note_21 : decode cX2_note 21 = .ok (.if_icmp .lt 37, 3) := by decide +kernel
theorem dX2_note_24 : decode cX2_note 24 = .ok (.aload_n 0, 1) := by decide +kernel
theorem dX2_note_25 : decode cX2_note 25 = .ok (.aload_n 0, 1) := by decide +kernel
theorem dX2_note_26 : decode cX2_note 26 = .ok (.getfield 11, 3) := by decide +kernel
theorem dX2_note_29 : decode cX2_note 29 = .ok (.iconst 2, 1) := by decide +kernel
theorem dX2_note_30 : decode cX2_note 30 = .ok (.aload_n 0, 1) := by decide +kernel
theorem dX2_note_31 : decode cX2_note 31 = .ok (.getfield 18, 3) := by decide +kernel
theorem dX2_note_34 : decode cX2_note 34 = .ok (.imul, 1) := by decide +kernel
theorem dX2_note_35 : decode cX2_note 35 = .ok (.invokestatic 22, 3) := by decide +kernel
theorem dX2_note_38 : decode cX2_note 38 = .ok (.putfield 11, 3) := by decide +kernel
theorem dX2_note_41 : decode cX2_note 41 = .ok (.aload_n 0, 1) := by decide +kernel
theorem dX2_note_42 : decode cX2_note 42 = .ok (.aload_n 0, 1) := by decide +kernel
theorem dX2_note_43 : decode cX2_note 43 = .ok (.getfield 15, 3) := by decide +kernel
theorem dX2_note_46 : decode cX2_note 46 = .ok (.iconst 2, 1) := by decide +kernel
theorem dX2_note_47 : decode cX2_note 47 = .ok (.aload_n 0, 1) := by decide +kernel
theorem dX2_note_48 : decode cX2_note 48 = .ok (.getfield 18, 3) := by decide +kernel
theorem dX2_note_51 : decode cX2_note 51 = .ok (.imul, 1) := by decide +kernel
theorem dX2_note_52 : decode cX2_note 52 = .ok (.invokestatic 22, 3) := by decide +kernel
theorem dX2_note_55 : decode cX2_note 55 = .ok (.putfield 15, 3) := by decide +kernel
theorem dX2_note_58 : decode cX2_note 58 = .ok (.aload_n 0, 1) := by decide +kernel
theorem dX2_note_59 : decode cX2_note 59 = .ok (.getfield 11, 3) := by decide +kernel
theorem dX2_note_62 : decode cX2_note 62 = .ok (.aload_n 0, 1) := by decide +kernel
theorem dX2_note_63 : decode cX2_note 63 = .ok (.getfield 18, 3) := by decide +kernel
theorem dX2_note_66 : decode cX2_note 66 = .ok (.iload_n 1, 1) := by decide +kernel
theorem dX2_note_67 : decode cX2_note 67 = .ok (.iastore, 1) := by decide +kernel
theorem dX2_note_68 : decode cX2_note 68 = .ok (.aload_n 0, 1) := by decide +kernel
theorem dX2_note_69 : decode cX2_note 69 = .ok (.getfield 15, 3) := by decide +kernel
theorem dX2_note_72 : decode cX2_note 72 = .ok (.aload_n 0, 1) := by decide +kernel
theorem dX2_note_73 : decode cX2_note 73 = .ok (.getfield 18, 3) := by decide +kernel
theorem dX2_note_76 : decode cX2_note 76 = .ok (.iconst 2, 1) := by decide +kernel
theorem dX2_note_77 : decode cX2_note 77 = .ok (.iload_n 3, 1) := by decide +kernel
theorem dX2_note_78 : decode cX2_note 78 = .ok (.imul, 1) := by decide +kernel
theorem dX2_note_79 : decode cX2_note 79 = .ok (.iload_n 2, 1) := by decide +kernel
theorem dX2_note_80 : decode cX2_note 80 = .ok (.iconst 1, 1) := by decide +kernel
theorem dX2_note_81 : decode cX2_note 81 = .ok (.if_icmp .ne 7, 3) := by decide +kernel
theorem dX2_note_84 : decode cX2_note 84 = .ok (.iconst 1, 1) := by decide +kernel
theorem dX2_note_85 : decode cX2_note 85 = .ok (.goto 4, 3) := by decide +kernel
theorem dX2_note_88 : decode cX2_note 88 = .ok (.iconst 0, 1) := by decide +kernel
theorem dX2_note_89 : decode cX2_note 89 = .ok (.iadd, 1) := by decide +kernel
theorem dX2_note_90 : decode cX2_note 90 = .ok (.iastore, 1) := by decide +kernel
theorem dX2_note_91 : decode cX2_note 91 = .ok (.aload_n 0, 1) := by decide +kernel
theorem dX2_note_92 : decode cX2_note 92 = .ok (.dup, 1) := by decide +kernel
theorem dX2_note_93 : decode cX2_note 93 = .ok (.getfield 18, 3) := by decide +kernel
theorem dX2_note_96 : decode cX2_note 96 = .ok (.iconst 1, 1) := by decide +kernel
theorem dX2_note_97 : decode cX2_note 97 = .ok (.iadd, 1) := by decide +kernel
theorem dX2_note_98 : decode cX2_note 98 = .ok (.putfield 18, 3) := by decide +kernel
theorem dX2_note_101 : decode cX2_note 101 = .ok (.return_, 1) := by decide +kernel
theorem dX2_actionAt_0 : decode cX2_actionAt 0 = .ok (.iload_n 1, 1) := by decide +kernel
theorem dX2_actionAt_1 : decode cX2_actionAt 1 = .ok (.ifCond .lt 12, 3) := by decide +kernel
theorem dX2_actionAt_4 : decode cX2_actionAt 4 = .ok (.iload_n 1, 1) := by decide +kernel
theorem dX2_actionAt_5 : decode cX2_actionAt 5 = .ok (.aload_n 0, 1) := by decide +kernel
theorem dX2_actionAt_6 : decode cX2_actionAt 6 = .ok (.getfield 11, 3) := by decide +kernel
theorem dX2_actionAt_9 : decode cX2_actionAt 9 = .ok (.arraylength, 1) := by decide +kernel
theorem dX2_actionAt_10 : decode cX2_actionAt 10 = .ok (.if_icmp .lt 7, 3) := by decide +kernel
theorem dX2_actionAt_13 : decode cX2_actionAt 13 = .ok (.iconst (-1), 1) := by decide +kernel
theorem dX2_actionAt_14 : decode cX2_actionAt 14 = .ok (.goto 9, 3) := by decide +kernel
theorem dX2_actionAt_17 : decode cX2_actionAt 17 = .ok (.aload_n 0, 1) := by decide +kernel
theorem dX2_actionAt_18 : decode cX2_actionAt 18 = .ok (.getfield 11, 3) := by decide +kernel
theorem dX2_actionAt_21 : decode cX2_actionAt 21 = .ok (.iload_n 1, 1) := by decide +kernel
theorem dX2_actionAt_22 : decode cX2_actionAt 22 = .ok (.iaload, 1) := by decide +kernel
theorem dX2_actionAt_23 : decode cX2_actionAt 23 = .ok (.ireturn, 1) := by decide +kernel
theorem dX2_rowNumberAt_0 : decode cX2_rowNumberAt 0 = .ok (.iload_n 1, 1) := by decide +kernel
theorem dX2_rowNumberAt_1 : decode cX2_rowNumberAt 1 = .ok (.ifCond .lt 12, 3) := by decide +kernel
theorem dX2_rowNumberAt_4 : decode cX2_rowNumberAt 4 = .ok (.iload_n 1, 1) := by decide +kernel
theorem dX2_rowNumberAt_5 : decode cX2_rowNumberAt 5 = .ok (.aload_n 0, 1) := by decide +kernel
theorem dX2_rowNumberAt_6 : decode cX2_rowNumberAt 6 = .ok (.getfield 15, 3) := by decide +kernel
theorem dX2_rowNumberAt_9 : decode cX2_rowNumberAt 9 = .ok (.arraylength, 1) := by decide +kernel
theorem dX2_rowNumberAt_10 : decode cX2_rowNumberAt 10 = .ok (.if_icmp .lt 7, 3) := by decide +kernel
theorem dX2_rowNumberAt_13 : decode cX2_rowNumberAt 13 = .ok (.iconst (-1), 1) := by decide +kernel
theorem dX2_rowNumberAt_14 : decode cX2_rowNumberAt 14 = .ok (.goto 9, 3) := by decide +kernel
theorem dX2_rowNumberAt_17 : decode cX2_rowNumberAt 17 = .ok (.aload_n 0, 1) := by decide +kernel
theorem dX2_rowNumberAt_18 : decode cX2_rowNumberAt 18 = .ok (.getfield 15, 3) := by decide +kernel
theorem dX2_rowNumberAt_21 : decode cX2_rowNumberAt 21 = .ok (.iload_n 1, 1) := by decide +kernel
theorem dX2_rowNumberAt_22 : decode cX2_rowNumberAt 22 = .ok (.iaload, 1) := by decide +kernel
theorem dX2_rowNumberAt_23 : decode cX2_rowNumberAt 23 = .ok (.ireturn, 1) := by decide +kernel
theorem dX3_init_0 : decode cX3_init 0 = .ok (.aload_n 0, 1) := by decide +kernel
theorem dX3_init_1 : decode cX3_init 1 = .ok (.invokespecial 3, 3) := by decide +kernel
theorem dX3_init_4 : decode cX3_init 4 = .ok (.aload_n 0, 1) := by decide +kernel
theorem dX3_init_5 : decode cX3_init 5 = .ok (.iconst (-1), 1) := by decide +kernel
theorem dX3_init_6 : decode cX3_init 6 = .ok (.putfield 9, 3) := by decide +kernel
theorem dX3_init_9 : decode cX3_init 9 = .ok (.return_, 1) := by decide +kernel
theorem dX3_insert_0 : decode cX3_insert 0 = .ok (.aload_n 0, 1) := by decide +kernel
theorem dX3_insert_1 : decode cX3_insert 1 = .ok (.iconst 1, 1) := by decide +kernel
theorem dX3_insert_2 : decode cX3_insert 2 = .ok (.putfield 15, 3) := by decide +kernel
theorem dX3_insert_5 : decode cX3_insert 5 = .ok (.aload_n 0, 1) := by decide +kernel
theorem dX3_insert_6 : decode cX3_insert 6 = .ok (.iload_n 1, 1) := by decide +kernel
theorem dX3_insert_7 : decode cX3_insert 7 = .ok (.putfield 19, 3) := by decide +kernel
theorem dX3_insert_10 : decode cX3_insert 10 = .ok (.aload_n 0, 1) := by decide +kernel
theorem dX3_insert_11 : decode cX3_insert 11 = .ok (.iload_n 2, 1) := by decide +kernel
theorem dX3_insert_12 : decode cX3_insert 12 = .ok (.putfield 9, 3) := by decide +kernel
theorem dX3_insert_15 : decode cX3_insert 15 = .ok (.aload_n 0, 1) := by decide +kernel
theorem dX3_insert_16 : decode cX3_insert 16 = .ok (.iconst 0, 1) := by decide +kernel
theorem dX3_insert_17 : decode cX3_insert 17 = .ok (.putfield 22, 3) := by decide +kernel
theorem dX3_insert_20 : decode cX3_insert 20 = .ok (.return_, 1) := by decide +kernel
theorem dX3_update_0 : decode cX3_update 0 = .ok (.aload_n 0, 1) := by decide +kernel
theorem dX3_update_1 : decode cX3_update 1 = .ok (.iload_n 1, 1) := by decide +kernel
theorem dX3_update_2 : decode cX3_update 2 = .ok (.putfield 19, 3) := by decide +kernel
theorem dX3_update_5 : decode cX3_update 5 = .ok (.aload_n 0, 1) := by decide +kernel
theorem dX3_update_6 : decode cX3_update 6 = .ok (.iload_n 2, 1) := by decide +kernel
theorem dX3_update_7 : decode cX3_update 7 = .ok (.putfield 9, 3) := by decide +kernel
theorem dX3_update_10 : decode cX3_update 10 = .ok (.aload_n 0, 1) := by decide +kernel
theorem dX3_update_11 : decode cX3_update 11 = .ok (.dup, 1) := by decide +kernel
theorem dX3_update_12 : decode cX3_update 12 = .ok (.getfield 22, 3) := by decide +kernel
theorem dX3_update_15 : decode cX3_update 15 = .ok (.iconst 1, 1) := by decide +kernel
theorem dX3_update_16 : decode cX3_update 16 = .ok (.iadd, 1) := by decide +kernel
theorem dX3_update_17 : decode cX3_update 17 = .ok (.putfield 22, 3) := by decide +kernel
theorem dX3_update_20 : decode cX3_update 20 = .ok (.return_, 1) := by decide +kernel
set_option maxRecDepth 20000 in
theorem ggX4_init_Jx4a65c_init_da8c8 : GoodIn wsX4_init wsJx4a65c_init_da8c8 := goodIn_r _ [15, 16, 17, 18, 19, 20, 21, 22, 23, 24, 25, 26, 27, 2, 3, 32, 33, 34] rfl (by decide +kernel)
set_option maxRecDepth 20000 in
theorem gX4_init_Jx4a65c_init_da8c8 : GoodIn wsX4_init (wsJx4a65c_init_da8c8) := ggX4_init_Jx4a65c_init_da8c8
set_option maxRecDepth 20000 in
theorem ggX4_init_X0_init : GoodIn wsX4_init wsX0_init := goodIn_r _ [29, 30, 2, 3, 31, 38, 39, 40, 41, 42, 43, 44, 45] rfl (by decide +kernel)
set_option maxRecDepth 20000 in
theorem gX4_init_X0_init_n23 : GoodIn wsX4_init (wsX0_init) := ggX4_init_X0_init
theorem dX4_init_0 : decode cX4_init 0 = .ok (.aload_n 0, 1) := by decide +kernel
theorem dX4_init_1 : decode cX4_init 1 = .ok (.invokespecial 3, 3) := by decide +kernel
theorem dX4_init_4 : decode cX4_init 4 = .ok (.aload_n 0, 1) := by decide +kernel
theorem dX4_init_5 : decode cX4_init 5 = .ok (.new 9, 3) := by decide +kernel
theorem dX4_init_8 : decode cX4_init 8 = .ok (.dup, 1) := by decide +kernel
theorem dX4_init_9 : decode cX4_init 9 = .ok (.invokespecial 11, 3) := by decide +kernel
theorem dX4_init_12 : decode cX4_init 12 = .ok (.putfield 12, 3) := by decide +kernel
theorem dX4_init_15 : decode cX4_init 15 = .ok (.aload_n 0, 1) := by decide +kernel
theorem dX4_init_16 : decode cX4_init 16 = .ok (.new 9, 3) := by decide +kernel
theorem dX4_init_19 : decode cX4_init 19 = .ok (.dup, 1) := by decide +kernel
theorem dX4_init_20 : decode cX4_init 20 = .ok (.invokespecial 11, 3) := by decide +kernel
theorem dX4_init_23 : decode cX4_init 23 = .ok (.putfield 18, 3) := by decide +kernel
theorem dX4_init_26 : decode cX4_init 26 = .ok (.aload_n 0, 1) := by decide +kernel
theorem dX4_init_27 : decode cX4_init 27 = .ok (.new 21, 3) := by decide +kernel
theorem dX4_init_30 : decode cX4_init 30 = .ok (.dup, 1) := by decide +kernel
theorem dX4_init_31 : decode cX4_init 31 = .ok (.invokespecial 23, 3) := by decide +kernel
theorem dX4_init_34 : decode cX4_init 34 = .ok (.putfield 24, 3) := by decide +kernel
theorem dX4_init_37 : decode cX4_init 37 = .ok (.return_, 1) := by decide +kernel
theorem dX4_listOf_0 : decode cX4_listOf 0 = .ok (.iload_n 1, 1) := by decide +kernel
theorem dX4_listOf_1 : decode cX4_listOf 1 = .ok (.ifCond .ne 10, 3) := by decide +kernel
theorem dX4_listOf_4 : decode cX4_listOf 4 = .ok (.aload_n 0, 1) := by decide +kernel
theorem dX4_listOf_5 : decode cX4_listOf 5 = .ok (.getfield 12, 3) := by decide +kernel
theorem dX4_listOf_8 : decode cX4_listOf 8 = .ok (.goto 7, 3) := by decide +kernel
theorem dX4_listOf_11 : decode cX4_listOf 11 = .ok (.aload_n 0, 1) := by decide +kernel
theorem dX4_listOf_12 : decode cX4_listOf 12 = .ok (.getfield 18, 3) := by decide +kernel
theorem dX4_listOf_15 : decode cX4_listOf 15 = .ok (.areturn, 1) := by decide +kernel
set_option maxRecDepth 20000 in
theorem ggX4_sizeOf_X4_listOf : GoodIn wsX4_sizeOf wsX4_listOf := goodIn_r _ [5, 6, 7, 14, 15, 16] rfl (by decide +kernel)
set_option maxRecDepth 20000 in
theorem gX4_sizeOf_X4_listOf : GoodIn wsX4_sizeOf (wsV RX4 28 RX4 yX4_listOf wsX4_listOf) := goodIn_app (goodIn_r _ [1, 2, 3, 4] rfl (by decide +kernel)) ggX4_sizeOf_X4_listOf
set_option maxRecDepth 20000 in
theorem ggX4_sizeOf_Jx4a65c_size_8abf5 : GoodIn wsX4_sizeOf wsJx4a65c_size_8abf5 := goodIn_r _ [12, 13, 17, 18, 19] rfl (by decide +kernel)
set_option maxRecDepth 20000 in
theorem gX4_sizeOf_Jx4a65c_size_8abf5 : GoodIn wsX4_sizeOf (wsV RX4 32 RJx4a65c yJx4a65c_size_8abf5 wsJx4a65c_size_8abf5) := goodIn_app (goodIn_r _ [8, 9, 10, 11] rfl (by decide +kernel)) ggX4_sizeOf_Jx4a65c_size_8abf5
theorem dX4_sizeOf_0 : decode cX4_sizeOf 0 = .ok (.aload_n 0, 1) := by decide +kernel
theorem dX4_sizeOf_1 : decode cX4_sizeOf 1 = .ok (.iload_n 1, 1) := by decide +kernel
theorem dX4_sizeOf_2 : decode cX4_sizeOf 2 = .ok (.invokevirtual 28, 3) := by decide +kernel
theorem dX4_sizeOf_5 : decode cX4_sizeOf 5 = .ok (.invokevirtual 32, 3) := by decide +kernel
theorem dX4_sizeOf_8 : decode cX4_sizeOf 8 = .ok (.ireturn, 1) := by decide +kernel
set_option maxRecDepth 20000 in
theorem ggX4_addPlace_X4_listOf : GoodIn wsX4_addPlace wsX4_listOf := goodIn_r _ [8, 9, 10, 81, 82, 83] rfl (by decide +kernel)
set_option maxRecDepth 20000 in
theorem gX4_addPlace_X4_listOf : GoodIn wsX4_addPlace (wsV RX4 28 RX4 yX4_listOf wsX4_listOf) := goodIn_app (goodIn_r _ [4, 5, 6, 7] rfl (by decide +kernel)) ggX4_addPlace_X4_listOf
set_option maxRecDepth 20000 in
theorem ggX4_addPlace_X0_init : GoodIn wsX4_addPlace wsX0_init := goodIn_r _ [12, 13, 14, 15, 16, 73, 74, 75, 76, 77, 78, 79, 80] rfl (by decide +kernel)
set_option maxRecDepth 20000 in
theorem gX4_addPlace_X0_init_n23 : GoodIn wsX4_addPlace (wsX0_init) := ggX4_addPlace_X0_init
set_option maxRecDepth 20000 in
theorem ggX4_addPlace_Jx4a65c_add_9ea2d : GoodIn wsX4_addPlace wsJx4a65c_add_9ea2d := goodIn_r _ [21, 22, 23, 24, 25, 26, 27, 28, 20, 29, 30, 31, 32, 33, 34, 35, 36, 37, 38, 39, 40, 41, 42, 43, 44, 45, 46, 47, 48, 49, 50, 51, 52, 53, 54, 55, 56, 57, 58, 59, 60, 61, 62, 63, 64, 65, 66, 67, 68, 69, 70, 71, 72, 84, 85, 86] rfl (by decide +kernel)
set_option maxRecDepth 20000 in
theorem gX4_addPlace_Jx4a65c_add_9ea2d : GoodIn wsX4_addPlace (wsV RX4 36 RJx4a65c yJx4a65c_add_9ea2d wsJx4a65c_add_9ea2d) := goodIn_app (goodIn_r _ [17, 18, 19, 20] rfl (by decide +kernel)) ggX4_addPlace_Jx4a65c_add_9ea2d
theorem dX4_addPlace_0 : decode cX4_addPlace 0 = .ok (.aload_n 0, 1) := by decide +kernel
theorem dX4_addPlace_1 : decode cX4_addPlace 1 = .ok (.iload_n 1, 1) := by decide +kernel
theorem dX4_addPlace_2 : decode cX4_addPlace 2 = .ok (.invokevirtual 28, 3) := by decide +kernel
theorem dX4_addPlace_5 : decode cX4_addPlace 5 = .ok (.new 21, 3) := by decide +kernel
theorem dX4_addPlace_8 : decode cX4_addPlace 8 = .ok (.dup, 1) := by decide +kernel
theorem dX4_addPlace_9 : decode cX4_addPlace 9 = .ok (.invokespecial 23, 3) := by decide +kernel
theorem dX4_addPlace_12 : decode cX4_addPlace 12 = .ok (.invokevirtual 36, 3) := by decide +kernel
theorem dX4_addPlace_15 : decode cX4_addPlace 15 = .ok (.pop, 1) := by decide +kernel
theorem dX4_addPlace_16 : decode cX4_addPlace 16 = .ok (.return_, 1) := by decide +kernel
set_option maxRecDepth 20000 in
theorem ggX4_entityAt_X4_listOf : GoodIn wsX4_entityAt wsX4_listOf := goodIn_r _ [7, 8, 9, 33, 34, 35] rfl (by decide +kernel)
set_option maxRecDepth 20000 in
theorem gX4_entityAt_X4_listOf : GoodIn wsX4_entityAt (wsV RX4 28 RX4 yX4_listOf wsX4_listOf) := goodIn_app (goodIn_r _ [3, 4, 5, 6] rfl (by decide +kernel)) ggX4_entityAt_X4_listOf
set_option maxRecDepth 20000 in
theorem ggX4_entityAt_Jx4a65c_size_8abf5 : GoodIn wsX4_entityAt wsJx4a65c_size_8abf5 := goodIn_r _ [14, 15, 36, 37, 38] rfl (by decide +kernel)
set_option maxRecDepth 20000 in
theorem gX4_entityAt_Jx4a65c_size_8abf5 : GoodIn wsX4_entityAt (wsV RX4 32 RJx4a65c yJx4a65c_size_8abf5 wsJx4a65c_size_8abf5) := goodIn_app (goodIn_r _ [10, 11, 12, 13] rfl (by decide +kernel)) ggX4_entityAt_Jx4a65c_size_8abf5
set_option maxRecDepth 20000 in
theorem ggX4_entityAt_Jx4a65c_get_915e3 : GoodIn wsX4_entityAt wsJx4a65c_get_915e3 := goodIn_r _ [19, 15, 20, 21, 22, 23, 24, 25, 26, 27, 28, 29, 30, 13, 31, 32, 36, 37, 38] rfl (by decide +kernel)
set_option maxRecDepth 20000 in
theorem gX4_entityAt_Jx4a65c_get_915e3 : GoodIn wsX4_entityAt (wsV RX4 40 RJx4a65c yJx4a65c_get_915e3 wsJx4a65c_get_915e3) := goodIn_app (goodIn_r _ [16, 17, 18, 13] rfl (by decide +kernel)) ggX4_entityAt_Jx4a65c_get_915e3
theorem dX4_entityAt_0 : decode cX4_entityAt 0 = .ok (.aload_n 0, 1) := by decide +kernel
theorem dX4_entityAt_1 : decode cX4_entityAt 1 = .ok (.iload_n 1, 1) := by decide +kernel
theorem dX4_entityAt_2 : decode cX4_entityAt 2 = .ok (.invokevirtual 28, 3) := by decide +kernel
theorem dX4_entityAt_5 : decode cX4_entityAt 5 = .ok (.astore_n 3, 1) := by decide +kernel
theorem dX4_entityAt_6 : decode cX4_entityAt 6 = .ok (.iload_n 2, 1) := by decide +kernel
theorem dX4_entityAt_7 : decode cX4_entityAt 7 = .ok (.ifCond .lt 11, 3) := by decide +kernel
theorem dX4_entityAt_10 : decode cX4_entityAt 10 = .ok (.iload_n 2, 1) := by decide +kernel
theorem dX4_entityAt_11 : decode cX4_entityAt 11 = .ok (.aload_n 3, 1) := by decide +kernel
theorem dX4_entityAt_12 : decode cX4_entityAt 12 = .ok (.invokevirtual 32, 3) := by decide +kernel
theorem dX4_entityAt_15 : decode cX4_entityAt 15 = .ok (.if_icmp .lt 8, 3) := by decide +kernel
theorem dX4_entityAt_18 : decode cX4_entityAt 18 = .ok (.aload_n 0, 1) := by decide +kernel
theorem dX4_entityAt_19 : decode cX4_entityAt 19 = .ok (.getfield 24, 3) := by decide +kernel
theorem dX4_entityAt_22 : decode cX4_entityAt 22 = .ok (.areturn, 1) := by decide +kernel
theorem dX4_entityAt_23 : decode cX4_entityAt 23 = .ok (.aload_n 3, 1) := by decide +kernel
theorem dX4_entityAt_24 : decode cX4_entityAt 24 = .ok (.iload_n 2, 1) := by decide +kernel
theorem dX4_entityAt_25 : decode cX4_entityAt 25 = .ok (.invokevirtual 40, 3) := by decide +kernel
theorem dX4_entityAt_28 : decode cX4_entityAt 28 = .ok (.checkcast 21, 3) := by decide +kernel
theorem dX4_entityAt_31 : decode cX4_entityAt 31 = .ok (.areturn, 1) := by decide +kernel
set_option maxRecDepth 20000 in
theorem ggX4_countLive_X4_sizeOf : GoodIn wsX4_countLive wsX4_sizeOf := goodIn_r _ [5, 6, 7, 8, 4, 9, 10, 11, 12, 13, 14, 15, 16, 17, 48, 49, 50, 51, 52, 53] rfl (by decide +kernel)
set_option maxRecDepth 20000 in
theorem gX4_countLive_X4_sizeOf : GoodIn wsX4_countLive (wsV RX4 44 RX4 yX4_sizeOf wsX4_sizeOf) := goodIn_app (goodIn_r _ [1, 2, 3, 4] rfl (by decide +kernel)) ggX4_countLive_X4_sizeOf
set_option maxRecDepth 20000 in
theorem ggX4_countLive_X4_entityAt : GoodIn wsX4_countLive wsX4_entityAt := goodIn_r _ [21, 22, 23, 6, 7, 8, 4, 9, 10, 11, 12, 13, 14, 15, 16, 17, 24, 25, 26, 27, 28, 29, 30, 31, 32, 33, 34, 35, 36, 37, 38, 39, 40, 48, 49, 50, 51, 52, 53] rfl (by decide +kernel)
set_option maxRecDepth 20000 in
theorem gX4_countLive_X4_entityAt : GoodIn wsX4_countLive (wsV RX4 48 RX4 yX4_entityAt wsX4_entityAt) := goodIn_app (goodIn_r _ [18, 19, 20, 4] rfl (by decide +kernel)) ggX4_countLive_X4_entityAt
set_option maxRecDepth 20000 in
theorem ggX4_countLive_X0_isLive : GoodIn wsX4_countLive wsX0_isLive := goodIn_r _ [45, 46, 47, 54, 55, 56, 57, 58, 59, 60, 61] rfl (by decide +kernel)
set_option maxRecDepth 20000 in
theorem gX4_countLive_X0_isLive : GoodIn wsX4_countLive (wsV RX4 52 RX0 yX0_isLive wsX0_isLive) := goodIn_app (goodIn_r _ [41, 42, 43, 44] rfl (by decide +kernel)) ggX4_countLive_X0_isLive
theorem dX4_countLive_0 : decode cX4_countLive 0 = .ok (.iconst 0, 1) := by decide +kernel
theorem dX4_countLive_1 : decode cX4_countLive 1 = .ok (.istore_n 2, 1) := by decide +kernel
theorem dX4_countLive_2 : decode cX4_countLive 2 = .ok (.iconst 0, 1) := by decide +kernel
theorem dX4_countLive_3 : decode cX4_countLive 3 = .ok (.istore_n 3, 1) := by decide +kernel
theorem dX4_countLive_4 : decode cX4_countLive 4 = .ok (.iload_n 3, 1) := by decide +kernel
theorem dX4_countLive_5 : decode cX4_countLive 5 = .ok (.aload_n 0, 1) := by decide +kernel
theorem dX4_countLive_6 : decode cX4_countLive 6 = .ok (.iload_n 1, 1) := by decide +kernel
theorem dX4_countLive_7 : decode cX4_countLive 7 = .ok (.invokevirtual 44, 3) := by decide +kernel
theorem dX4_countLive_10 : decode cX4_countLive 10 = .ok (.if_icmp .ge 24, 3) := by decide +kernel
theorem dX4_countLive_13 : decode cX4_countLive 13 = .ok (.aload_n 0, 1) := by decide +kernel
theorem dX4_countLive_14 : decode cX4_countLive 14 = .ok (.iload_n 1, 1) := by decide +kernel
theorem dX4_countLive_15 : decode cX4_countLive 15 = .ok (.iload_n 3, 1) := by decide +kernel
theorem dX4_countLive_16 : decode cX4_countLive 16 = .ok (.invokevirtual 48, 3) := by decide +kernel
theorem dX4_countLive_19 : decode cX4_countLive 19 = .ok (.invokevirtual 52, 3) := by decide +kernel
theorem dX4_countLive_22 : decode cX4_countLive 22 = .ok (.ifCond .eq 6, 3) := by decide +kernel
theorem dX4_countLive_25 : decode cX4_countLive 25 = .ok (.iinc 2 1, 3) := by decide +kernel
theorem dX4_countLive_28 : decode cX4_countLive 28 = .ok (.iinc 3 1, 3) := by decide +kernel
theorem dX4_countLive_31 : decode cX4_countLive 31 = .ok (.goto (-27), 3) := by decide +kernel
theorem dX4_countLive_34 : decode cX4_countLive 34 = .ok (.iload_n 2, 1) := by decide +kernel
theorem dX4_countLive_35 : decode cX4_countLive 35 = .ok (.ireturn, 1) := by decide +kernel
set_option maxRecDepth 20000 in
theorem ggX4_countLiveAndDirty_X4_sizeOf : GoodIn wsX4_countLiveAndDirty wsX4_sizeOf := goodIn_r _ [5, 6, 7, 8, 4, 9, 10, 11, 12, 13, 14, 15, 16, 17, 57, 58, 59, 60, 61, 62] rfl (by decide +kernel)
set_option maxRecDepth 20000 in
theorem gX4_countLiveAndDirty_X4_sizeOf : GoodIn wsX4_countLiveAndDirty (wsV RX4 44 RX4 yX4_sizeOf wsX4_sizeOf) := goodIn_app (goodIn_r _ [1, 2, 3, 4] rfl (by decide +kernel)) ggX4_countLiveAndDirty_X4_sizeOf
set_option maxRecDepth 20000 in
theorem ggX4_countLiveAndDirty_X4_entityAt : GoodIn wsX4_countLiveAndDirty wsX4_entityAt := goodIn_r _ [21, 22, 23, 6, 7, 8, 4, 9, 10, 11, 12, 13, 14, 15, 16, 17, 24, 25, 26, 27, 28, 29, 30, 31, 32, 33, 34, 35, 36, 37, 38, 39, 40, 57, 58, 59, 60, 61, 62] rfl (by decide +kernel)
set_option maxRecDepth 20000 in
theorem gX4_countLiveAndDirty_X4_entityAt : GoodIn wsX4_countLiveAndDirty (wsV RX4 48 RX4 yX4_entityAt wsX4_entityAt) := goodIn_app (goodIn_r _ [18, 19, 20, 4] rfl (by decide +kernel)) ggX4_countLiveAndDirty_X4_entityAt
set_option maxRecDepth 20000 in
theorem ggX4_countLiveAndDirty_X0_isLive : GoodIn wsX4_countLiveAndDirty wsX0_isLive := goodIn_r _ [45, 46, 47, 63, 64, 65, 66, 67, 68, 69, 70] rfl (by decide +kernel)
set_option maxRecDepth 20000 in
theorem gX4_countLiveAndDirty_X0_isLive : GoodIn wsX4_countLiveAndDirty (wsV RX4 52 RX0 yX0_isLive wsX0_isLive) := goodIn_app (goodIn_r _ [41, 42, 43, 44] rfl (by decide +kernel)) ggX4_countLiveAndDirty_X0_isLive
set_option maxRecDepth 20000 in
theorem ggX4_countLiveAndDirty_X0_isChanged : GoodIn wsX4_countLiveAndDirty wsX0_isChanged := goodIn_r _ [51, 52, 53, 54, 55, 56, 63, 64, 65, 66, 67, 68, 69, 70] rfl (by decide +kernel)
set_option maxRecDepth 20000 in
theorem gX4_countLiveAndDirty_X0_isChanged : GoodIn wsX4_countLiveAndDirty (wsV RX4 56 RX0 yX0_isChanged wsX0_isChanged) := goodIn_app (goodIn_r _ [48, 49, 50, 44] rfl (by decide +kernel)) ggX4_countLiveAndDirty_X0_isChanged
theorem dX4_countLiveAndDirty_0 : decode cX4_countLiveAndDirty 0 = .ok (.iconst 0, 1) := by decide +kernel
theorem dX4_countLiveAndDirty_1 : decode cX4_countLiveAndDirty 1 = .ok (.istore_n 2, 1) := by decide +kernel
theorem dX4_countLiveAndDirty_2 : decode cX4_countLiveAndDirty 2 = .ok (.iconst 0, 1) := by decide +kernel
theorem dX4_countLiveAndDirty_3 : decode cX4_countLiveAndDirty 3 = .ok (.istore_n 3, 1) := by decide +kernel
theorem dX4_countLiveAndDirty_4 : decode cX4_countLiveAndDirty 4 = .ok (.iload_n 3, 1) := by decide +kernel
theorem dX4_countLiveAndDirty_5 : decode cX4_countLiveAndDirty 5 = .ok (.aload_n 0, 1) := by decide +kernel
theorem dX4_countLiveAndDirty_6 : decode cX4_countLiveAndDirty 6 = .ok (.iload_n 1, 1) := by decide +kernel
theorem dX4_countLiveAndDirty_7 : decode cX4_countLiveAndDirty 7 = .ok (.invokevirtual 44, 3) := by decide +kernel
theorem dX4_countLiveAndDirty_10 : decode cX4_countLiveAndDirty 10 = .ok (.if_icmp .ge 36, 3) := by decide +kernel
theorem dX4_countLiveAndDirty_13 : decode cX4_countLiveAndDirty 13 = .ok (.aload_n 0, 1) := by decide +kernel
theorem dX4_countLiveAndDirty_14 : decode cX4_countLiveAndDirty 14 = .ok (.iload_n 1, 1) := by decide +kernel
theorem dX4_countLiveAndDirty_15 : decode cX4_countLiveAndDirty 15 = .ok (.iload_n 3, 1) := by decide +kernel
theorem dX4_countLiveAndDirty_16 : decode cX4_countLiveAndDirty 16 = .ok (.invokevirtual 48, 3) := by decide +kernel
theorem dX4_countLiveAndDirty_19 : decode cX4_countLiveAndDirty 19 = .ok (.astore 4, 2) := by decide +kernel
theorem dX4_countLiveAndDirty_21 : decode cX4_countLiveAndDirty 21 = .ok (.aload 4, 2) := by decide +kernel
theorem dX4_countLiveAndDirty_23 : decode cX4_countLiveAndDirty 23 = .ok (.invokevirtual 52, 3) := by decide +kernel
theorem dX4_countLiveAndDirty_26 : decode cX4_countLiveAndDirty 26 = .ok (.ifCond .eq 14, 3) := by decide +kernel
theorem dX4_countLiveAndDirty_29 : decode cX4_countLiveAndDirty 29 = .ok (.aload 4, 2) := by decide +kernel
theorem dX4_countLiveAndDirty_31 : decode cX4_countLiveAndDirty 31 = .ok (.invokevirtual 56, 3) := by decide +kernel
theorem dX4_countLiveAndDirty_34 : decode cX4_countLiveAndDirty 34 = .ok (.ifCond .eq 6, 3) := by decide +kernel
theorem dX4_countLiveAndDirty_37 : decode cX4_countLiveAndDirty 37 = .ok (.iinc 2 1, 3) := by decide +kernel
theorem dX4_countLiveAndDirty_40 : decode cX4_countLiveAndDirty 40 = .ok (.iinc 3 1, 3) := by decide +kernel
theorem dX4_countLiveAndDirty_43 : decode cX4_countLiveAndDirty 43 = .ok (.goto (-39), 3) := by decide +kernel
theorem dX4_countLiveAndDirty_46 : decode cX4_countLiveAndDirty 46 = .ok (.iload_n 2, 1) := by decide +kernel
theorem dX4_countLiveAndDirty_47 : decode cX4_countLiveAndDirty 47 = .ok (.ireturn, 1) := by decide +kernel
set_option maxRecDepth 20000 in
theorem ggX4_forgetAll_X4_sizeOf : GoodIn wsX4_forgetAll wsX4_sizeOf := goodIn_r _ [5, 6, 7, 8, 4, 9, 10, 11, 12, 13, 14, 15, 16, 17, 49, 50, 51, 52, 53, 54] rfl (by decide +kernel)
set_option maxRecDepth 20000 in
theorem gX4_forgetAll_X4_sizeOf : GoodIn wsX4_forgetAll (wsV RX4 44 RX4 yX4_sizeOf wsX4_sizeOf) := goodIn_app (goodIn_r _ [1, 2, 3, 4] rfl (by decide +kernel)) ggX4_forgetAll_X4_sizeOf
set_option maxRecDepth 20000 in
theorem ggX4_forgetAll_X4_entityAt : GoodIn wsX4_forgetAll wsX4_entityAt := goodIn_r _ [21, 22, 23, 6, 7, 8, 4, 9, 10, 11, 12, 13, 14, 15, 16, 17, 24, 25, 26, 27, 28, 29, 30, 31, 32, 33, 34, 35, 36, 37, 38, 39, 40, 49, 50, 51, 52, 53, 54] rfl (by decide +kernel)
set_option maxRecDepth 20000 in
theorem gX4_forgetAll_X4_entityAt : GoodIn wsX4_forgetAll (wsV RX4 48 RX4 yX4_entityAt wsX4_entityAt) := goodIn_app (goodIn_r _ [18, 19, 20, 4] rfl (by decide +kernel)) ggX4_forgetAll_X4_entityAt
set_option maxRecDepth 20000 in
theorem ggX4_forgetAll_X0_forget : GoodIn wsX4_forgetAll wsX0_forget := goodIn_r _ [45, 46, 47, 48, 55, 56, 57, 58, 59, 60, 61, 62] rfl (by decide +kernel)
set_option maxRecDepth 20000 in
theorem gX4_forgetAll_X0_forget : GoodIn wsX4_forgetAll (wsV RX4 59 RX0 yX0_forget wsX0_forget) := goodIn_app (goodIn_r _ [41, 42, 43, 44] rfl (by decide +kernel)) ggX4_forgetAll_X0_forget
theorem dX4_forgetAll_0 : decode cX4_forgetAll 0 = .ok (.iconst 0, 1) := by decide +kernel
theorem dX4_forgetAll_1 : decode cX4_forgetAll 1 = .ok (.istore_n 2, 1) := by decide +kernel
theorem dX4_forgetAll_2 : decode cX4_forgetAll 2 = .ok (.iload_n 2, 1) := by decide +kernel
theorem dX4_forgetAll_3 : decode cX4_forgetAll 3 = .ok (.aload_n 0, 1) := by decide +kernel
theorem dX4_forgetAll_4 : decode cX4_forgetAll 4 = .ok (.iload_n 1, 1) := by decide +kernel
theorem dX4_forgetAll_5 : decode cX4_forgetAll 5 = .ok (.invokevirtual 44, 3) := by decide +kernel
theorem dX4_forgetAll_8 : decode cX4_forgetAll 8 = .ok (.if_icmp .ge 18, 3) := by decide +kernel
theorem dX4_forgetAll_11 : decode cX4_forgetAll 11 = .ok (.aload_n 0, 1) := by decide +kernel
theorem dX4_forgetAll_12 : decode cX4_forgetAll 12 = .ok (.iload_n 1, 1) := by decide +kernel
theorem dX4_forgetAll_13 : decode cX4_forgetAll 13 = .ok (.iload_n 2, 1) := by decide +kernel
theorem dX4_forgetAll_14 : decode cX4_forgetAll 14 = .ok (.invokevirtual 48, 3) := by decide +kernel
theorem dX4_forgetAll_17 : decode cX4_forgetAll 17 = .ok (.invokevirtual 59, 3) := by decide +kernel
theorem dX4_forgetAll_20 : decode cX4_forgetAll 20 = .ok (.iinc 2 1, 3) := by decide +kernel
theorem dX4_forgetAll_23 : decode cX4_forgetAll 23 = .ok (.goto (-21), 3) := by decide +kernel
theorem dX4_forgetAll_26 : decode cX4_forgetAll 26 = .ok (.return_, 1) := by decide +kernel
set_option maxRecDepth 20000 in
theorem ggX5_init_Jx4a65c_init_da8c8 : GoodIn wsX5_init wsJx4a65c_init_da8c8 := goodIn_r _ [14, 15, 16, 17, 18, 19, 20, 21, 22, 23, 24, 25, 26, 2, 3, 31, 32, 33] rfl (by decide +kernel)
set_option maxRecDepth 20000 in
theorem gX5_init_Jx4a65c_init_da8c8 : GoodIn wsX5_init (wsJx4a65c_init_da8c8) := ggX5_init_Jx4a65c_init_da8c8
set_option maxRecDepth 20000 in
theorem ggX5_init_X3_init : GoodIn wsX5_init wsX3_init := goodIn_r _ [28, 29, 2, 3, 30, 36, 37, 38, 39] rfl (by decide +kernel)
set_option maxRecDepth 20000 in
theorem gX5_init_X3_init_n18 : GoodIn wsX5_init (wsX3_init) := ggX5_init_X3_init
theorem dX5_init_0 : decode cX5_init 0 = .ok (.aload_n 0, 1) := by decide +kernel
theorem dX5_init_1 : decode cX5_init 1 = .ok (.invokespecial 1, 3) := by decide +kernel
theorem dX5_init_4 : decode cX5_init 4 = .ok (.aload_n 0, 1) := by decide +kernel
theorem dX5_init_5 : decode cX5_init 5 = .ok (.new 7, 3) := by decide +kernel
theorem dX5_init_8 : decode cX5_init 8 = .ok (.dup, 1) := by decide +kernel
theorem dX5_init_9 : decode cX5_init 9 = .ok (.invokespecial 9, 3) := by decide +kernel
theorem dX5_init_12 : decode cX5_init 12 = .ok (.putfield 10, 3) := by decide +kernel
theorem dX5_init_15 : decode cX5_init 15 = .ok (.aload_n 0, 1) := by decide +kernel
theorem dX5_init_16 : decode cX5_init 16 = .ok (.new 16, 3) := by decide +kernel
theorem dX5_init_19 : decode cX5_init 19 = .ok (.dup, 1) := by decide +kernel
theorem dX5_init_20 : decode cX5_init 20 = .ok (.invokespecial 18, 3) := by decide +kernel
theorem dX5_init_23 : decode cX5_init 23 = .ok (.putfield 19, 3) := by decide +kernel
theorem dX5_init_26 : decode cX5_init 26 = .ok (.return_, 1) := by decide +kernel
set_option maxRecDepth 20000 in
theorem ggX5_size_Jx4a65c_size_8abf5 : GoodIn wsX5_size wsJx4a65c_size_8abf5 := goodIn_r _ [6, 7, 10, 11, 12] rfl (by decide +kernel)
set_option maxRecDepth 20000 in
theorem gX5_size_Jx4a65c_size_8abf5 : GoodIn wsX5_size (wsV RX5 23 RJx4a65c yJx4a65c_size_8abf5 wsJx4a65c_size_8abf5) := goodIn_app (goodIn_r _ [2, 3, 4, 5] rfl (by decide +kernel)) ggX5_size_Jx4a65c_size_8abf5
theorem dX5_size_0 : decode cX5_size 0 = .ok (.aload_n 0, 1) := by decide +kernel
theorem dX5_size_1 : decode cX5_size 1 = .ok (.getfield 10, 3) := by decide +kernel
theorem dX5_size_4 : decode cX5_size 4 = .ok (.invokevirtual 23, 3) := by decide +kernel
theorem dX5_size_7 : decode cX5_size 7 = .ok (.ireturn, 1) := by decide +kernel
set_option maxRecDepth 20000 in
theorem ggX5_addPlace_X3_init : GoodIn wsX5_addPlace wsX3_init := goodIn_r _ [6, 7, 8, 9, 10, 69, 70, 71, 72] rfl (by decide +kernel)
set_option maxRecDepth 20000 in
theorem gX5_addPlace_X3_init_n18 : GoodIn wsX5_addPlace (wsX3_init) := ggX5_addPlace_X3_init
set_option maxRecDepth 20000 in
theorem ggX5_addPlace_Jx4a65c_add_9ea2d : GoodIn wsX5_addPlace wsJx4a65c_add_9ea2d := goodIn_r _ [15, 16, 17, 18, 19, 20, 21, 22, 14, 23, 24, 25, 26, 27, 28, 29, 30, 31, 32, 33, 34, 35, 36, 37, 38, 39, 40, 41, 42, 43, 44, 45, 46, 47, 48, 49, 50, 51, 52, 53, 54, 55, 56, 57, 58, 59, 60, 61, 62, 63, 64, 65, 66, 73, 74, 75] rfl (by decide +kernel)
set_option maxRecDepth 20000 in
theorem gX5_addPlace_Jx4a65c_add_9ea2d : GoodIn wsX5_addPlace (wsV RX5 27 RJx4a65c yJx4a65c_add_9ea2d wsJx4a65c_add_9ea2d) := goodIn_app (goodIn_r _ [11, 12, 13, 14] rfl (by decide +kernel)) ggX5_addPlace_Jx4a65c_add_9ea2d
theorem dX5_addPlace_0 : decode cX5_addPlace 0 = .ok (.aload_n 0, 1) := by decide +kernel
theorem dX5_addPlace_1 : decode cX5_addPlace 1 = .ok (.getfield 10, 3) := by decide +kernel
theorem dX5_addPlace_4 : decode cX5_addPlace 4 = .ok (.new 16, 3) := by decide +kernel
theorem dX5_addPlace_7 : decode cX5_addPlace 7 = .ok (.dup, 1) := by decide +kernel
theorem dX5_addPlace_8 : decode cX5_addPlace 8 = .ok (.invokespecial 18, 3) := by decide +kernel
theorem dX5_addPlace_11 : decode cX5_addPlace 11 = .ok (.invokevirtual 27, 3) := by decide +kernel
theorem dX5_addPlace_14 : decode cX5_addPlace 14 = .ok (.pop, 1) := by decide +kernel
theorem dX5_addPlace_15 : decode cX5_addPlace 15 = .ok (.return_, 1) := by decide +kernel
set_option maxRecDepth 20000 in
theorem ggX5_rowAt_Jx4a65c_size_8abf5 : GoodIn wsX5_rowAt wsJx4a65c_size_8abf5 := goodIn_r _ [8, 9, 29, 30, 31] rfl (by decide +kernel)
set_option maxRecDepth 20000 in
theorem gX5_rowAt_Jx4a65c_size_8abf5 : GoodIn wsX5_rowAt (wsV RX5 23 RJx4a65c yJx4a65c_size_8abf5 wsJx4a65c_size_8abf5) := goodIn_app (goodIn_r _ [4, 5, 6, 7] rfl (by decide +kernel)) ggX5_rowAt_Jx4a65c_size_8abf5
set_option maxRecDepth 20000 in
theorem ggX5_rowAt_Jx4a65c_get_915e3 : GoodIn wsX5_rowAt wsJx4a65c_get_915e3 := goodIn_r _ [13, 9, 14, 15, 16, 17, 18, 19, 20, 21, 22, 23, 24, 7, 25, 26, 29, 30, 31] rfl (by decide +kernel)
set_option maxRecDepth 20000 in
theorem gX5_rowAt_Jx4a65c_get_915e3 : GoodIn wsX5_rowAt (wsV RX5 31 RJx4a65c yJx4a65c_get_915e3 wsJx4a65c_get_915e3) := goodIn_app (goodIn_r _ [10, 11, 12, 7] rfl (by decide +kernel)) ggX5_rowAt_Jx4a65c_get_915e3
theorem dX5_rowAt_0 : decode cX5_rowAt 0 = .ok (.iload_n 1, 1) := by decide +kernel
theorem dX5_rowAt_1 : decode cX5_rowAt 1 = .ok (.ifCond .lt 14, 3) := by decide +kernel
theorem dX5_rowAt_4 : decode cX5_rowAt 4 = .ok (.iload_n 1, 1) := by decide +kernel
theorem dX5_rowAt_5 : decode cX5_rowAt 5 = .ok (.aload_n 0, 1) := by decide +kernel
theorem dX5_rowAt_6 : decode cX5_rowAt 6 = .ok (.getfield 10, 3) := by decide +kernel
theorem dX5_rowAt_9 : decode cX5_rowAt 9 = .ok (.invokevirtual 23, 3) := by decide +kernel
theorem dX5_rowAt_12 : decode cX5_rowAt 12 = .ok (.if_icmp .lt 8, 3) := by decide +kernel
theorem dX5_rowAt_15 : decode cX5_rowAt 15 = .ok (.aload_n 0, 1) := by decide +kernel
theorem dX5_rowAt_16 : decode cX5_rowAt 16 = .ok (.getfield 19, 3) := by decide +kernel
theorem dX5_rowAt_19 : decode cX5_rowAt 19 = .ok (.areturn, 1) := by decide +kernel
theorem dX5_rowAt_20 : decode cX5_rowAt 20 = .ok (.aload_n 0, 1) := by decide +kernel
theorem dX5_rowAt_21 : decode cX5_rowAt 21 = .ok (.getfield 10, 3) := by decide +kernel
theorem dX5_rowAt_24 : decode cX5_rowAt 24 = .ok (.iload_n 1, 1) := by decide +kernel
theorem dX5_rowAt_25 : decode cX5_rowAt 25 = .ok (.invokevirtual 31, 3) := by decide +kernel
theorem dX5_rowAt_28 : decode cX5_rowAt 28 = .ok (.checkcast 16, 3) := by decide +kernel
theorem dX5_rowAt_31 : decode cX5_rowAt 31 = .ok (.areturn, 1) := by decide +kernel
set_option maxRecDepth 20000 in
theorem ggX5_countThere_Jx4a65c_size_8abf5 : GoodIn wsX5_countThere wsJx4a65c_size_8abf5 := goodIn_r _ [7, 8, 39, 40, 41] rfl (by decide +kernel)
set_option maxRecDepth 20000 in
theorem gX5_countThere_Jx4a65c_size_8abf5 : GoodIn wsX5_countThere (wsV RX5 23 RJx4a65c yJx4a65c_size_8abf5 wsJx4a65c_size_8abf5) := goodIn_app (goodIn_r _ [3, 4, 5, 6] rfl (by decide +kernel)) ggX5_countThere_Jx4a65c_size_8abf5
set_option maxRecDepth 20000 in
theorem ggX5_countThere_X5_rowAt : GoodIn wsX5_countThere wsX5_rowAt := goodIn_r _ [13, 1, 14, 15, 3, 4, 5, 6, 7, 8, 16, 17, 18, 19, 20, 21, 22, 23, 24, 25, 26, 27, 28, 29, 30, 31, 32, 33, 34, 39, 40, 41] rfl (by decide +kernel)
set_option maxRecDepth 20000 in
theorem gX5_countThere_X5_rowAt : GoodIn wsX5_countThere (wsV RX5 35 RX5 yX5_rowAt wsX5_rowAt) := goodIn_app (goodIn_r _ [9, 10, 11, 12] rfl (by decide +kernel)) ggX5_countThere_X5_rowAt
theorem dX5_countThere_0 : decode cX5_countThere 0 = .ok (.iconst 0, 1) := by decide +kernel
theorem dX5_countThere_1 : decode cX5_countThere 1 = .ok (.istore_n 1, 1) := by decide +kernel
theorem dX5_countThere_2 : decode cX5_countThere 2 = .ok (.iconst 0, 1) := by decide +kernel
theorem dX5_countThere_3 : decode cX5_countThere 3 = .ok (.istore_n 2, 1) := by decide +kernel
theorem dX5_countThere_4 : decode cX5_countThere 4 = .ok (.iload_n 2, 1) := by decide +kernel
theorem dX5_countThere_5 : decode cX5_countThere 5 = .ok (.aload_n 0, 1) := by decide +kernel
theorem dX5_countThere_6 : decode cX5_countThere 6 = .ok (.getfield 10, 3) := by decide +kernel
theorem dX5_countThere_9 : decode cX5_countThere 9 = .ok (.invokevirtual 23, 3) := by decide +kernel
theorem dX5_countThere_12 : decode cX5_countThere 12 = .ok (.if_icmp .ge 23, 3) := by decide +kernel
theorem dX5_countThere_15 : decode cX5_countThere 15 = .ok (.aload_n 0, 1) := by decide +kernel
theorem dX5_countThere_16 : decode cX5_countThere 16 = .ok (.iload_n 2, 1) := by decide +kernel
theorem dX5_countThere_17 : decode cX5_countThere 17 = .ok (.invokevirtual 35, 3) := by decide +kernel
theorem dX5_countThere_20 : decode cX5_countThere 20 = .ok (.getfield 39, 3) := by decide +kernel
theorem dX5_countThere_23 : decode cX5_countThere 23 = .ok (.ifCond .eq 6, 3) := by decide +kernel
theorem dX5_countThere_26 : decode cX5_countThere 26 = .ok (.iinc 1 1, 3) := by decide +kernel
theorem dX5_countThere_29 : decode cX5_countThere 29 = .ok (.iinc 2 1, 3) := by decide +kernel
theorem dX5_countThere_32 : decode cX5_countThere 32 = .ok (.goto (-28), 3) := by decide +kernel
theorem dX5_countThere_35 : decode cX5_countThere 35 = .ok (.iload_n 1, 1) := by decide +kernel
theorem dX5_countThere_36 : decode cX5_countThere 36 = .ok (.ireturn, 1) := by decide +kernel
set_option maxRecDepth 20000 in
theorem ggX6_init_X5_init : GoodIn wsX6_init wsX5_init := goodIn_r _ [18, 19, 2, 3, 20, 21, 22, 23, 24, 25, 26, 27, 28, 29, 30, 31, 32, 33, 34, 35, 36, 37, 38, 39, 40, 41, 42, 43, 44, 45, 46, 80, 81, 82, 68, 69, 83, 84, 85, 86] rfl (by decide +kernel)
set_option maxRecDepth 20000 in
theorem gX6_init_X5_init_n9 : GoodIn wsX6_init (wsX5_init) := ggX6_init_X5_init
set_option maxRecDepth 20000 in
theorem ggX6_init_X2_init : GoodIn wsX6_init wsX2_init := goodIn_r _ [48, 49, 2, 3, 50, 51, 52, 74, 75, 76] rfl (by decide +kernel)
set_option maxRecDepth 20000 in
theorem gX6_init_X2_init_n21 : GoodIn wsX6_init (wsX2_init) := ggX6_init_X2_init
set_option maxRecDepth 20000 in
theorem ggX6_init_X4_init : GoodIn wsX6_init wsX4_init := goodIn_r _ [54, 55, 2, 3, 56, 21, 22, 57, 58, 59, 60, 61, 62, 63, 29, 30, 31, 32, 33, 34, 35, 36, 37, 38, 39, 40, 41, 42, 64, 65, 66, 67, 80, 81, 82, 77, 78, 79, 87, 88, 89, 90, 91, 92, 93, 94] rfl (by decide +kernel)
set_option maxRecDepth 20000 in
theorem gX6_init_X4_init_n32 : GoodIn wsX6_init (wsX4_init) := ggX6_init_X4_init
