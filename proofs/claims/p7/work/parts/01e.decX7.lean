theorem dX7_init_0 : decode cX7_init 0 = .ok (.aload_n 0, 1) := by decide +kernel
theorem dX7_init_1 : decode cX7_init 1 = .ok (.invokespecial 1, 3) := by decide +kernel
theorem dX7_init_4 : decode cX7_init 4 = .ok (.aload_n 0, 1) := by decide +kernel
theorem dX7_init_5 : decode cX7_init 5 = .ok (.iconst 2, 1) := by decide +kernel
theorem dX7_init_6 : decode cX7_init 6 = .ok (.newarray .int, 2) := by decide +kernel
theorem dX7_init_8 : decode cX7_init 8 = .ok (.putfield 7, 3) := by decide +kernel
theorem dX7_init_11 : decode cX7_init 11 = .ok (.aload_n 0, 1) := by decide +kernel
theorem dX7_init_12 : decode cX7_init 12 = .ok (.sipush 2048, 3) := by decide +kernel
theorem dX7_init_15 : decode cX7_init 15 = .ok (.newarray .boolean, 2) := by decide +kernel
theorem dX7_init_17 : decode cX7_init 17 = .ok (.putfield 13, 3) := by decide +kernel
theorem dX7_init_20 : decode cX7_init 20 = .ok (.aload_n 0, 1) := by decide +kernel
theorem dX7_init_21 : decode cX7_init 21 = .ok (.sipush 2048, 3) := by decide +kernel
theorem dX7_init_24 : decode cX7_init 24 = .ok (.newarray .int, 2) := by decide +kernel
theorem dX7_init_26 : decode cX7_init 26 = .ok (.putfield 17, 3) := by decide +kernel
theorem dX7_init_29 : decode cX7_init 29 = .ok (.aload_n 0, 1) := by decide +kernel
theorem dX7_init_30 : decode cX7_init 30 = .ok (.sipush 2048, 3) := by decide +kernel
theorem dX7_init_33 : decode cX7_init 33 = .ok (.newarray .int, 2) := by decide +kernel
theorem dX7_init_35 : decode cX7_init 35 = .ok (.putfield 20, 3) := by decide +kernel
theorem dX7_init_38 : decode cX7_init 38 = .ok (.aload_n 0, 1) := by decide +kernel
theorem dX7_init_39 : decode cX7_init 39 = .ok (.sipush 2048, 3) := by decide +kernel
theorem dX7_init_42 : decode cX7_init 42 = .ok (.newarray .int, 2) := by decide +kernel
theorem dX7_init_44 : decode cX7_init 44 = .ok (.putfield 23, 3) := by decide +kernel
theorem dX7_init_47 : decode cX7_init 47 = .ok (.aload_n 0, 1) := by decide +kernel
theorem dX7_init_48 : decode cX7_init 48 = .ok (.sipush 2048, 3) := by decide +kernel
theorem dX7_init_51 : decode cX7_init 51 = .ok (.newarray .boolean, 2) := by decide +kernel
theorem dX7_init_53 : decode cX7_init 53 = .ok (.putfield 26, 3) := by decide +kernel
theorem dX7_init_56 : decode cX7_init 56 = .ok (.aload_n 0, 1) := by decide +kernel
theorem dX7_init_57 : decode cX7_init 57 = .ok (.sipush 6144, 3) := by decide +kernel
theorem dX7_init_60 : decode cX7_init 60 = .ok (.newarray .int, 2) := by decide +kernel
theorem dX7_init_62 : decode cX7_init 62 = .ok (.putfield 29, 3) := by decide +kernel
theorem dX7_init_65 : decode cX7_init 65 = .ok (.aload_n 0, 1) := by decide +kernel
theorem dX7_init_66 : decode cX7_init 66 = .ok (.sipush 6144, 3) := by decide +kernel
theorem dX7_init_69 : decode cX7_init 69 = .ok (.newarray .boolean, 2) := by decide +kernel
theorem dX7_init_71 : decode cX7_init 71 = .ok (.putfield 32, 3) := by decide +kernel
theorem dX7_init_74 : decode cX7_init 74 = .ok (.aload_n 0, 1) := by decide +kernel
theorem dX7_init_75 : decode cX7_init 75 = .ok (.sipush 6144, 3) := by decide +kernel
theorem dX7_init_78 : decode cX7_init 78 = .ok (.newarray .int, 2) := by decide +kernel
theorem dX7_init_80 : decode cX7_init 80 = .ok (.putfield 35, 3) := by decide +kernel
theorem dX7_init_83 : decode cX7_init 83 = .ok (.aload_n 0, 1) := by decide +kernel
theorem dX7_init_84 : decode cX7_init 84 = .ok (.sipush 6144, 3) := by decide +kernel
theorem dX7_init_87 : decode cX7_init 87 = .ok (.newarray .int, 2) := by decide +kernel
theorem dX7_init_89 : decode cX7_init 89 = .ok (.putfield 38, 3) := by decide +kernel
theorem dX7_init_92 : decode cX7_init 92 = .ok (.aload_n 0, 1) := by decide +kernel
theorem dX7_init_93 : decode cX7_init 93 = .ok (.sipush 6144, 3) := by decide +kernel
theorem dX7_init_96 : decode cX7_init 96 = .ok (.newarray .int, 2) := by decide +kernel
theorem dX7_init_98 : decode cX7_init 98 = .ok (.putfield 41, 3) := by decide +kernel
theorem dX7_init_101 : decode cX7_init 101 = .ok (.aload_n 0, 1) := by decide +kernel
theorem dX7_init_102 : decode cX7_init 102 = .ok (.sipush 6144, 3) := by decide +kernel
theorem dX7_init_105 : decode cX7_init 105 = .ok (.newarray .int, 2) := by decide +kernel
theorem dX7_init_107 : decode cX7_init 107 = .ok (.putfield 44, 3) := by decide +kernel
theorem dX7_init_110 : decode cX7_init 110 = .ok (.aload_n 0, 1) := by decide +kernel
theorem dX7_init_111 : decode cX7_init 111 = .ok (.sipush 6144, 3) := by decide +kernel
theorem dX7_init_114 : decode cX7_init 114 = .ok (.newarray .int, 2) := by decide +kernel
theorem dX7_init_116 : decode cX7_init 116 = .ok (.putfield 47, 3) := by decide +kernel
theorem dX7_init_119 : decode cX7_init 119 = .ok (.aload_n 0, 1) := by decide +kernel
theorem dX7_init_120 : decode cX7_init 120 = .ok (.sipush 16384, 3) := by decide +kernel
theorem dX7_init_123 : decode cX7_init 123 = .ok (.newarray .int, 2) := by decide +kernel
theorem dX7_init_125 : decode cX7_init 125 = .ok (.putfield 50, 3) := by decide +kernel
theorem dX7_init_128 : decode cX7_init 128 = .ok (.return_, 1) := by decide +kernel
theorem dX7_thrown_0 : decode cX7_thrown 0 = .ok (.aload_n 0, 1) := by decide +kernel
theorem dX7_thrown_1 : decode cX7_thrown 1 = .ok (.getfield 53, 3) := by decide +kernel
theorem dX7_thrown_4 : decode cX7_thrown 4 = .ok (.ireturn, 1) := by decide +kernel
theorem dX7_holds_0 : decode cX7_holds 0 = .ok (.aload_n 0, 1) := by decide +kernel
theorem dX7_holds_1 : decode cX7_holds 1 = .ok (.iload_n 1, 1) := by decide +kernel
theorem dX7_holds_2 : decode cX7_holds 2 = .ok (.putfield 53, 3) := by decide +kernel
theorem dX7_holds_5 : decode cX7_holds 5 = .ok (.iload_n 1, 1) := by decide +kernel
theorem dX7_holds_6 : decode cX7_holds 6 = .ok (.ifCond .ne 7, 3) := by decide +kernel
theorem dX7_holds_9 : decode cX7_holds 9 = .ok (.iconst 1, 1) := by decide +kernel
theorem dX7_holds_10 : decode cX7_holds 10 = .ok (.goto 4, 3) := by decide +kernel
theorem dX7_holds_13 : decode cX7_holds 13 = .ok (.iconst 0, 1) := by decide +kernel
theorem dX7_holds_14 : decode cX7_holds 14 = .ok (.ireturn, 1) := by decide +kernel
theorem dX7_isSession_0 : decode cX7_isSession 0 = .ok (.iload_n 0, 1) := by decide +kernel
theorem dX7_isSession_1 : decode cX7_isSession 1 = .ok (.ifCond .lt 12, 3) := by decide +kernel
theorem dX7_isSession_4 : decode cX7_isSession 4 = .ok (.iload_n 0, 1) := by decide +kernel
theorem dX7_isSession_5 : decode cX7_isSession 5 = .ok (.iconst 3, 1) := by decide +kernel
theorem dX7_isSession_6 : decode cX7_isSession 6 = .ok (.if_icmp .ge 7, 3) := by decide +kernel
theorem dX7_isSession_9 : decode cX7_isSession 9 = .ok (.iconst 1, 1) := by decide +kernel
theorem dX7_isSession_10 : decode cX7_isSession 10 = .ok (.goto 4, 3) := by decide +kernel
theorem dX7_isSession_13 : decode cX7_isSession 13 = .ok (.iconst 0, 1) := by decide +kernel
theorem dX7_isSession_14 : decode cX7_isSession 14 = .ok (.ireturn, 1) := by decide +kernel
theorem dX7_isKind_0 : decode cX7_isKind 0 = .ok (.iload_n 0, 1) := by decide +kernel
theorem dX7_isKind_1 : decode cX7_isKind 1 = .ok (.ifCond .eq 8, 3) := by decide +kernel
theorem dX7_isKind_4 : decode cX7_isKind 4 = .ok (.iload_n 0, 1) := by decide +kernel
theorem dX7_isKind_5 : decode cX7_isKind 5 = .ok (.iconst 1, 1) := by decide +kernel
theorem dX7_isKind_6 : decode cX7_isKind 6 = .ok (.if_icmp .ne 7, 3) := by decide +kernel
theorem dX7_isKind_9 : decode cX7_isKind 9 = .ok (.iconst 1, 1) := by decide +kernel
theorem dX7_isKind_10 : decode cX7_isKind 10 = .ok (.goto 4, 3) := by decide +kernel
theorem dX7_isKind_13 : decode cX7_isKind 13 = .ok (.iconst 0, 1) := by decide +kernel
theorem dX7_isKind_14 : decode cX7_isKind 14 = .ok (.ireturn, 1) := by decide +kernel
theorem dX7_isName_0 : decode cX7_isName 0 = .ok (.iload_n 0, 1) := by decide +kernel
theorem dX7_isName_1 : decode cX7_isName 1 = .ok (.ifCond .lt 14, 3) := by decide +kernel
theorem dX7_isName_4 : decode cX7_isName 4 = .ok (.iload_n 0, 1) := by decide +kernel
theorem dX7_isName_5 : decode cX7_isName 5 = .ok (.sipush 1000, 3) := by decide +kernel
theorem dX7_isName_8 : decode cX7_isName 8 = .ok (.if_icmp .gt 7, 3) := by decide +kernel
theorem dX7_isName_11 : decode cX7_isName 11 = .ok (.iconst 1, 1) := by decide +kernel
theorem dX7_isName_12 : decode cX7_isName 12 = .ok (.goto 4, 3) := by decide +kernel
theorem dX7_isName_15 : decode cX7_isName 15 = .ok (.iconst 0, 1) := by decide +kernel
theorem dX7_isName_16 : decode cX7_isName 16 = .ok (.ireturn, 1) := by decide +kernel
theorem dX7_at_0 : decode cX7_at 0 = .ok (.sipush 1024, 3) := by decide +kernel
theorem dX7_at_3 : decode cX7_at 3 = .ok (.iconst 2, 1) := by decide +kernel
theorem dX7_at_4 : decode cX7_at 4 = .ok (.iload_n 0, 1) := by decide +kernel
theorem dX7_at_5 : decode cX7_at 5 = .ok (.imul, 1) := by decide +kernel
theorem dX7_at_6 : decode cX7_at 6 = .ok (.iload_n 1, 1) := by decide +kernel
theorem dX7_at_7 : decode cX7_at 7 = .ok (.iadd, 1) := by decide +kernel
theorem dX7_at_8 : decode cX7_at 8 = .ok (.imul, 1) := by decide +kernel
theorem dX7_at_9 : decode cX7_at 9 = .ok (.iload_n 2, 1) := by decide +kernel
theorem dX7_at_10 : decode cX7_at 10 = .ok (.iadd, 1) := by decide +kernel
theorem dX7_at_11 : decode cX7_at 11 = .ok (.ireturn, 1) := by decide +kernel
theorem dX7_row_0 : decode cX7_row 0 = .ok (.sipush 1024, 3) := by decide +kernel
theorem dX7_row_3 : decode cX7_row 3 = .ok (.iload_n 0, 1) := by decide +kernel
theorem dX7_row_4 : decode cX7_row 4 = .ok (.imul, 1) := by decide +kernel
theorem dX7_row_5 : decode cX7_row 5 = .ok (.iload_n 1, 1) := by decide +kernel
theorem dX7_row_6 : decode cX7_row 6 = .ok (.iadd, 1) := by decide +kernel
theorem dX7_row_7 : decode cX7_row 7 = .ok (.ireturn, 1) := by decide +kernel
theorem dX7_isKey_0 : decode cX7_isKey 0 = .ok (.iload_n 2, 1) := by decide +kernel
theorem dX7_isKey_1 : decode cX7_isKey 1 = .ok (.ifCond .lt 17, 3) := by decide +kernel
theorem dX7_isKey_4 : decode cX7_isKey 4 = .ok (.iload_n 2, 1) := by decide +kernel
theorem dX7_isKey_5 : decode cX7_isKey 5 = .ok (.aload_n 0, 1) := by decide +kernel
theorem dX7_isKey_6 : decode cX7_isKey 6 = .ok (.getfield 7, 3) := by decide +kernel
theorem dX7_isKey_9 : decode cX7_isKey 9 = .ok (.iload_n 1, 1) := by decide +kernel
theorem dX7_isKey_10 : decode cX7_isKey 10 = .ok (.iaload, 1) := by decide +kernel
theorem dX7_isKey_11 : decode cX7_isKey 11 = .ok (.if_icmp .ge 7, 3) := by decide +kernel
theorem dX7_isKey_14 : decode cX7_isKey 14 = .ok (.iconst 1, 1) := by decide +kernel
theorem dX7_isKey_15 : decode cX7_isKey 15 = .ok (.goto 4, 3) := by decide +kernel
theorem dX7_isKey_18 : decode cX7_isKey 18 = .ok (.iconst 0, 1) := by decide +kernel
theorem dX7_isKey_19 : decode cX7_isKey 19 = .ok (.ireturn, 1) := by decide +kernel
set_option maxRecDepth 20000 in
theorem ggX7_hasRow_X7_isKey : GoodIn wsX7_hasRow wsX7_isKey := goodIn_r _ [6, 7, 11, 12, 13, 14, 15, 16, 17, 18, 19, 20, 21, 22, 23, 24, 25, 26] rfl (by decide +kernel)
set_option maxRecDepth 20000 in
theorem gX7_hasRow_X7_isKey : GoodIn wsX7_hasRow (wsV RX7 57 RX7 yX7_isKey wsX7_isKey) := goodIn_app (goodIn_r _ [2, 3, 4, 5] rfl (by decide +kernel)) ggX7_hasRow_X7_isKey
set_option maxRecDepth 20000 in
theorem ggX7_hasRow_X7_row : GoodIn wsX7_hasRow wsX7_row := goodIn_r _ [10] rfl (by decide +kernel)
set_option maxRecDepth 20000 in
theorem gX7_hasRow_X7_row : GoodIn wsX7_hasRow (va_wsS RX7 61 yX7_row wsX7_row) := goodIn_app (goodIn_r _ [8, 9, 5] rfl (by decide +kernel)) ggX7_hasRow_X7_row
theorem dX7_hasRow_0 : decode cX7_hasRow 0 = .ok (.aload_n 0, 1) := by decide +kernel
theorem dX7_hasRow_1 : decode cX7_hasRow 1 = .ok (.iload_n 1, 1) := by decide +kernel
theorem dX7_hasRow_2 : decode cX7_hasRow 2 = .ok (.iload_n 2, 1) := by decide +kernel
theorem dX7_hasRow_3 : decode cX7_hasRow 3 = .ok (.invokevirtual 57, 3) := by decide +kernel
theorem dX7_hasRow_6 : decode cX7_hasRow 6 = .ok (.ifCond .eq 20, 3) := by decide +kernel
theorem dX7_hasRow_9 : decode cX7_hasRow 9 = .ok (.aload_n 0, 1) := by decide +kernel
theorem dX7_hasRow_10 : decode cX7_hasRow 10 = .ok (.getfield 13, 3) := by decide +kernel
theorem dX7_hasRow_13 : decode cX7_hasRow 13 = .ok (.iload_n 1, 1) := by decide +kernel
theorem dX7_hasRow_14 : decode cX7_hasRow 14 = .ok (.iload_n 2, 1) := by decide +kernel
theorem dX7_hasRow_15 : decode cX7_hasRow 15 = .ok (.invokestatic 61, 3) := by decide +kernel
theorem dX7_hasRow_18 : decode cX7_hasRow 18 = .ok (.baload, 1) := by decide +kernel
theorem dX7_hasRow_19 : decode cX7_hasRow 19 = .ok (.ifCond .eq 7, 3) := by decide +kernel
theorem dX7_hasRow_22 : decode cX7_hasRow 22 = .ok (.iconst 1, 1) := by decide +kernel
theorem dX7_hasRow_23 : decode cX7_hasRow 23 = .ok (.goto 4, 3) := by decide +kernel
theorem dX7_hasRow_26 : decode cX7_hasRow 26 = .ok (.iconst 0, 1) := by decide +kernel
theorem dX7_hasRow_27 : decode cX7_hasRow 27 = .ok (.ireturn, 1) := by decide +kernel
set_option maxRecDepth 20000 in
theorem ggX7_knows_X7_isKey : GoodIn wsX7_knows wsX7_isKey := goodIn_r _ [7, 8, 12, 13, 14, 15, 16, 17, 18, 19, 20, 21, 22, 23, 24, 25, 26, 27] rfl (by decide +kernel)
set_option maxRecDepth 20000 in
theorem gX7_knows_X7_isKey : GoodIn wsX7_knows (wsV RX7 57 RX7 yX7_isKey wsX7_isKey) := goodIn_app (goodIn_r _ [3, 4, 5, 6] rfl (by decide +kernel)) ggX7_knows_X7_isKey
set_option maxRecDepth 20000 in
theorem ggX7_knows_X7_at : GoodIn wsX7_knows wsX7_at := goodIn_r _ [11] rfl (by decide +kernel)
set_option maxRecDepth 20000 in
theorem gX7_knows_X7_at : GoodIn wsX7_knows (va_wsS RX7 65 yX7_at wsX7_at) := goodIn_app (goodIn_r _ [9, 10, 6] rfl (by decide +kernel)) ggX7_knows_X7_at
theorem dX7_knows_0 : decode cX7_knows 0 = .ok (.aload_n 0, 1) := by decide +kernel
theorem dX7_knows_1 : decode cX7_knows 1 = .ok (.iload_n 2, 1) := by decide +kernel
theorem dX7_knows_2 : decode cX7_knows 2 = .ok (.iload_n 3, 1) := by decide +kernel
theorem dX7_knows_3 : decode cX7_knows 3 = .ok (.invokevirtual 57, 3) := by decide +kernel
theorem dX7_knows_6 : decode cX7_knows 6 = .ok (.ifCond .eq 35, 3) := by decide +kernel
theorem dX7_knows_9 : decode cX7_knows 9 = .ok (.aload_n 0, 1) := by decide +kernel
theorem dX7_knows_10 : decode cX7_knows 10 = .ok (.getfield 29, 3) := by decide +kernel
theorem dX7_knows_13 : decode cX7_knows 13 = .ok (.iload_n 1, 1) := by decide +kernel
theorem dX7_knows_14 : decode cX7_knows 14 = .ok (.iload_n 2, 1) := by decide +kernel
theorem dX7_knows_15 : decode cX7_knows 15 = .ok (.iload_n 3, 1) := by decide +kernel
theorem dX7_knows_16 : decode cX7_knows 16 = .ok (.invokestatic 65, 3) := by decide +kernel
theorem dX7_knows_19 : decode cX7_knows 19 = .ok (.iaload, 1) := by decide +kernel
theorem dX7_knows_20 : decode cX7_knows 20 = .ok (.ifCond .eq 21, 3) := by decide +kernel
theorem dX7_knows_23 : decode cX7_knows 23 = .ok (.aload_n 0, 1) := by decide +kernel
theorem dX7_knows_24 : decode cX7_knows 24 = .ok (.getfield 32, 3) := by decide +kernel
theorem dX7_knows_27 : decode cX7_knows 27 = .ok (.iload_n 1, 1) := by decide +kernel
theorem dX7_knows_28 : decode cX7_knows 28 = .ok (.iload_n 2, 1) := by decide +kernel
theorem dX7_knows_29 : decode cX7_knows 29 = .ok (.iload_n 3, 1) := by decide +kernel
theorem dX7_knows_30 : decode cX7_knows 30 = .ok (.invokestatic 65, 3) := by decide +kernel
theorem dX7_knows_33 : decode cX7_knows 33 = .ok (.baload, 1) := by decide +kernel
theorem dX7_knows_34 : decode cX7_knows 34 = .ok (.ifCond .ne 7, 3) := by decide +kernel
theorem dX7_knows_37 : decode cX7_knows 37 = .ok (.iconst 1, 1) := by decide +kernel
theorem dX7_knows_38 : decode cX7_knows 38 = .ok (.goto 4, 3) := by decide +kernel
theorem dX7_knows_41 : decode cX7_knows 41 = .ok (.iconst 0, 1) := by decide +kernel
theorem dX7_knows_42 : decode cX7_knows 42 = .ok (.ireturn, 1) := by decide +kernel
set_option maxRecDepth 20000 in
theorem ggX7_takes_X7_at : GoodIn wsX7_takes wsX7_at := goodIn_r _ [14] rfl (by decide +kernel)
set_option maxRecDepth 20000 in
theorem gX7_takes_X7_at : GoodIn wsX7_takes (va_wsS RX7 65 yX7_at wsX7_at) := goodIn_app (goodIn_r _ [11, 12, 13] rfl (by decide +kernel)) ggX7_takes_X7_at
set_option maxRecDepth 20000 in
theorem ggX7_takes_X7_row : GoodIn wsX7_takes wsX7_row := goodIn_r _ [17] rfl (by decide +kernel)
set_option maxRecDepth 20000 in
theorem gX7_takes_X7_row : GoodIn wsX7_takes (va_wsS RX7 61 yX7_row wsX7_row) := goodIn_app (goodIn_r _ [15, 16, 13] rfl (by decide +kernel)) ggX7_takes_X7_row
theorem dX7_takes_0 : decode cX7_takes 0 = .ok (.iload_n 1, 1) := by decide +kernel
theorem dX7_takes_1 : decode cX7_takes 1 = .ok (.iload_n 2, 1) := by decide +kernel
theorem dX7_takes_2 : decode cX7_takes 2 = .ok (.iload_n 3, 1) := by decide +kernel
theorem dX7_takes_3 : decode cX7_takes 3 = .ok (.invokestatic 65, 3) := by decide +kernel
theorem dX7_takes_6 : decode cX7_takes 6 = .ok (.istore 4, 2) := by decide +kernel
theorem dX7_takes_8 : decode cX7_takes 8 = .ok (.iload_n 2, 1) := by decide +kernel
theorem dX7_takes_9 : decode cX7_takes 9 = .ok (.iload_n 3, 1) := by decide +kernel
theorem dX7_takes_10 : decode cX7_takes 10 = .ok (.invokestatic 61, 3) := by decide +kernel
theorem dX7_takes_13 : decode cX7_takes 13 = .ok (.istore 5, 2) := by decide +kernel
theorem dX7_takes_15 : decode cX7_takes 15 = .ok (.aload_n 0, 1) := by decide +kernel
theorem dX7_takes_16 : decode cX7_takes 16 = .ok (.getfield 29, 3) := by decide +kernel
theorem dX7_takes_19 : decode cX7_takes 19 = .ok (.iload 4, 2) := by decide +kernel
theorem dX7_takes_21 : decode cX7_takes 21 = .ok (.iconst 2, 1) := by decide +kernel
theorem dX7_takes_22 : decode cX7_takes 22 = .ok (.iastore, 1) := by decide +kernel
theorem dX7_takes_23 : decode cX7_takes 23 = .ok (.aload_n 0, 1) := by decide +kernel
theorem dX7_takes_24 : decode cX7_takes 24 = .ok (.getfield 32, 3) := by decide +kernel
theorem dX7_takes_27 : decode cX7_takes 27 = .ok (.iload 4, 2) := by decide +kernel
theorem dX7_takes_29 : decode cX7_takes 29 = .ok (.iconst 0, 1) := by decide +kernel
theorem dX7_takes_30 : decode cX7_takes 30 = .ok (.bastore, 1) := by decide +kernel
theorem dX7_takes_31 : decode cX7_takes 31 = .ok (.aload_n 0, 1) := by decide +kernel
theorem dX7_takes_32 : decode cX7_takes 32 = .ok (.getfield 35, 3) := by decide +kernel
theorem dX7_takes_35 : decode cX7_takes 35 = .ok (.iload 4, 2) := by decide +kernel
theorem dX7_takes_37 : decode cX7_takes 37 = .ok (.aload_n 0, 1) := by decide +kernel
theorem dX7_takes_38 : decode cX7_takes 38 = .ok (.getfield 17, 3) := by decide +kernel
theorem dX7_takes_41 : decode cX7_takes 41 = .ok (.iload 5, 2) := by decide +kernel
theorem dX7_takes_43 : decode cX7_takes 43 = .ok (.iaload, 1) := by decide +kernel
theorem dX7_takes_44 : decode cX7_takes 44 = .ok (.iastore, 1) := by decide +kernel
theorem dX7_takes_45 : decode cX7_takes 45 = .ok (.aload_n 0, 1) := by decide +kernel
theorem dX7_takes_46 : decode cX7_takes 46 = .ok (.getfield 38, 3) := by decide +kernel
theorem dX7_takes_49 : decode cX7_takes 49 = .ok (.iload 4, 2) := by decide +kernel
theorem dX7_takes_51 : decode cX7_takes 51 = .ok (.aload_n 0, 1) := by decide +kernel
theorem dX7_takes_52 : decode cX7_takes 52 = .ok (.getfield 20, 3) := by decide +kernel
theorem dX7_takes_55 : decode cX7_takes 55 = .ok (.iload 5, 2) := by decide +kernel
theorem dX7_takes_57 : decode cX7_takes 57 = .ok (.iaload, 1) := by decide +kernel
theorem dX7_takes_58 : decode cX7_takes 58 = .ok (.iastore, 1) := by decide +kernel
theorem dX7_takes_59 : decode cX7_takes 59 = .ok (.aload_n 0, 1) := by decide +kernel
theorem dX7_takes_60 : decode cX7_takes 60 = .ok (.getfield 41, 3) := by decide +kernel
theorem dX7_takes_63 : decode cX7_takes 63 = .ok (.iload 4, 2) := by decide +kernel
theorem dX7_takes_65 : decode cX7_takes 65 = .ok (.aload_n 0, 1) := by decide +kernel
theorem dX7_takes_66 : decode cX7_takes 66 = .ok (.getfield 17, 3) := by decide +kernel
theorem dX7_takes_69 : decode cX7_takes 69 = .ok (.iload 5, 2) := by decide +kernel
theorem dX7_takes_71 : decode cX7_takes 71 = .ok (.iaload, 1) := by decide +kernel
theorem dX7_takes_72 : decode cX7_takes 72 = .ok (.iastore, 1) := by decide +kernel
theorem dX7_takes_73 : decode cX7_takes 73 = .ok (.aload_n 0, 1) := by decide +kernel
theorem dX7_takes_74 : decode cX7_takes 74 = .ok (.getfield 44, 3) := by decide +kernel
theorem dX7_takes_77 : decode cX7_takes 77 = .ok (.iload 4, 2) := by decide +kernel
theorem dX7_takes_79 : decode cX7_takes 79 = .ok (.aload_n 0, 1) := by decide +kernel
theorem dX7_takes_80 : decode cX7_takes 80 = .ok (.getfield 20, 3) := by decide +kernel
theorem dX7_takes_83 : decode cX7_takes 83 = .ok (.iload 5, 2) := by decide +kernel
theorem dX7_takes_85 : decode cX7_takes 85 = .ok (.iaload, 1) := by decide +kernel
theorem dX7_takes_86 : decode cX7_takes 86 = .ok (.iastore, 1) := by decide +kernel
theorem dX7_takes_87 : decode cX7_takes 87 = .ok (.aload_n 0, 1) := by decide +kernel
theorem dX7_takes_88 : decode cX7_takes 88 = .ok (.getfield 47, 3) := by decide +kernel
theorem dX7_takes_91 : decode cX7_takes 91 = .ok (.iload 4, 2) := by decide +kernel
theorem dX7_takes_93 : decode cX7_takes 93 = .ok (.aload_n 0, 1) := by decide +kernel
theorem dX7_takes_94 : decode cX7_takes 94 = .ok (.getfield 23, 3) := by decide +kernel
theorem dX7_takes_97 : decode cX7_takes 97 = .ok (.iload 5, 2) := by decide +kernel
theorem dX7_takes_99 : decode cX7_takes 99 = .ok (.iaload, 1) := by decide +kernel
theorem dX7_takes_100 : decode cX7_takes 100 = .ok (.iastore, 1) := by decide +kernel
theorem dX7_takes_101 : decode cX7_takes 101 = .ok (.return_, 1) := by decide +kernel
set_option maxRecDepth 20000 in
theorem ggX7_loads_X7_hasRow : GoodIn wsX7_loads wsX7_hasRow := goodIn_r _ [8, 9, 10, 11, 12, 7, 13, 1, 14, 15, 16, 32, 33, 34, 35, 36, 37, 38, 39, 40, 41, 42, 43, 44, 45, 46, 47] rfl (by decide +kernel)
set_option maxRecDepth 20000 in
theorem gX7_loads_X7_hasRow : GoodIn wsX7_loads (wsV RX7 69 RX7 yX7_hasRow wsX7_hasRow) := goodIn_app (goodIn_r _ [4, 5, 6, 7] rfl (by decide +kernel)) ggX7_loads_X7_hasRow
set_option maxRecDepth 20000 in
theorem ggX7_loads_X7_row : GoodIn wsX7_loads wsX7_row := goodIn_r _ [16] rfl (by decide +kernel)
set_option maxRecDepth 20000 in
theorem gX7_loads_X7_row : GoodIn wsX7_loads (va_wsS RX7 61 yX7_row wsX7_row) := goodIn_app (goodIn_r _ [14, 15, 7] rfl (by decide +kernel)) ggX7_loads_X7_row
set_option maxRecDepth 20000 in
theorem ggX7_loads_X7_at : GoodIn wsX7_loads wsX7_at := goodIn_r _ [19] rfl (by decide +kernel)
set_option maxRecDepth 20000 in
theorem gX7_loads_X7_at : GoodIn wsX7_loads (va_wsS RX7 65 yX7_at wsX7_at) := goodIn_app (goodIn_r _ [17, 18, 7] rfl (by decide +kernel)) ggX7_loads_X7_at
set_option maxRecDepth 20000 in
theorem ggX7_loads_X7_takes : GoodIn wsX7_loads wsX7_takes := goodIn_r _ [23, 3, 24, 25, 26, 27, 2, 28, 29, 30, 31, 17, 18, 7, 19, 14, 15, 16, 32, 33, 34, 35, 36, 37, 38, 39, 40, 41, 42, 43, 44, 45, 46, 47] rfl (by decide +kernel)
set_option maxRecDepth 20000 in
theorem gX7_loads_X7_takes : GoodIn wsX7_loads (wsV RX7 72 RX7 yX7_takes wsX7_takes) := goodIn_app (goodIn_r _ [20, 21, 22, 7] rfl (by decide +kernel)) ggX7_loads_X7_takes
theorem dX7_loads_0 : decode cX7_loads 0 = .ok (.iconst 0, 1) := by decide +kernel
theorem dX7_loads_1 : decode cX7_loads 1 = .ok (.istore 4, 2) := by decide +kernel
theorem dX7_loads_3 : decode cX7_loads 3 = .ok (.iload 4, 2) := by decide +kernel
theorem dX7_loads_5 : decode cX7_loads 5 = .ok (.aload_n 0, 1) := by decide +kernel
theorem dX7_loads_6 : decode cX7_loads 6 = .ok (.getfield 7, 3) := by decide +kernel
theorem dX7_loads_9 : decode cX7_loads 9 = .ok (.iload_n 2, 1) := by decide +kernel
theorem dX7_loads_10 : decode cX7_loads 10 = .ok (.iaload, 1) := by decide +kernel
theorem dX7_loads_11 : decode cX7_loads 11 = .ok (.if_icmp .ge 69, 3) := by decide +kernel
theorem dX7_loads_14 : decode cX7_loads 14 = .ok (.aload_n 0, 1) := by decide +kernel
theorem dX7_loads_15 : decode cX7_loads 15 = .ok (.iload_n 2, 1) := by decide +kernel
theorem dX7_loads_16 : decode cX7_loads 16 = .ok (.iload 4, 2) := by decide +kernel
theorem dX7_loads_18 : decode cX7_loads 18 = .ok (.invokevirtual 69, 3) := by decide +kernel
theorem dX7_loads_21 : decode cX7_loads 21 = .ok (.ifCond .eq 22, 3) := by decide +kernel
theorem dX7_loads_24 : decode cX7_loads 24 = .ok (.aload_n 0, 1) := by decide +kernel
theorem dX7_loads_25 : decode cX7_loads 25 = .ok (.getfield 20, 3) := by decide +kernel
theorem dX7_loads_28 : decode cX7_loads 28 = .ok (.iload_n 2, 1) := by decide +kernel
theorem dX7_loads_29 : decode cX7_loads 29 = .ok (.iload 4, 2) := by decide +kernel
theorem dX7_loads_31 : decode cX7_loads 31 = .ok (.invokestatic 61, 3) := by decide +kernel
theorem dX7_loads_34 : decode cX7_loads 34 = .ok (.iaload, 1) := by decide +kernel
theorem dX7_loads_35 : decode cX7_loads 35 = .ok (.iload_n 3, 1) := by decide +kernel
theorem dX7_loads_36 : decode cX7_loads 36 = .ok (.if_icmp .ne 7, 3) := by decide +kernel
theorem dX7_loads_39 : decode cX7_loads 39 = .ok (.iconst 1, 1) := by decide +kernel
theorem dX7_loads_40 : decode cX7_loads 40 = .ok (.goto 4, 3) := by decide +kernel
theorem dX7_loads_43 : decode cX7_loads 43 = .ok (.iconst 0, 1) := by decide +kernel
theorem dX7_loads_44 : decode cX7_loads 44 = .ok (.istore 5, 2) := by decide +kernel
theorem dX7_loads_46 : decode cX7_loads 46 = .ok (.iload 5, 2) := by decide +kernel
theorem dX7_loads_48 : decode cX7_loads 48 = .ok (.ifCond .eq 26, 3) := by decide +kernel
theorem dX7_loads_51 : decode cX7_loads 51 = .ok (.aload_n 0, 1) := by decide +kernel
theorem dX7_loads_52 : decode cX7_loads 52 = .ok (.getfield 29, 3) := by decide +kernel
theorem dX7_loads_55 : decode cX7_loads 55 = .ok (.iload_n 1, 1) := by decide +kernel
theorem dX7_loads_56 : decode cX7_loads 56 = .ok (.iload_n 2, 1) := by decide +kernel
theorem dX7_loads_57 : decode cX7_loads 57 = .ok (.iload 4, 2) := by decide +kernel
theorem dX7_loads_59 : decode cX7_loads 59 = .ok (.invokestatic 65, 3) := by decide +kernel
theorem dX7_loads_62 : decode cX7_loads 62 = .ok (.iaload, 1) := by decide +kernel
theorem dX7_loads_63 : decode cX7_loads 63 = .ok (.ifCond .ne 11, 3) := by decide +kernel
theorem dX7_loads_66 : decode cX7_loads 66 = .ok (.aload_n 0, 1) := by decide +kernel
theorem dX7_loads_67 : decode cX7_loads 67 = .ok (.iload_n 1, 1) := by decide +kernel
theorem dX7_loads_68 : decode cX7_loads 68 = .ok (.iload_n 2, 1) := by decide +kernel
theorem dX7_loads_69 : decode cX7_loads 69 = .ok (.iload 4, 2) := by decide +kernel
theorem dX7_loads_71 : decode cX7_loads 71 = .ok (.invokevirtual 72, 3) := by decide +kernel
theorem dX7_loads_74 : decode cX7_loads 74 = .ok (.iinc 4 1, 3) := by decide +kernel
theorem dX7_loads_77 : decode cX7_loads 77 = .ok (.goto (-74), 3) := by decide +kernel
theorem dX7_loads_80 : decode cX7_loads 80 = .ok (.return_, 1) := by decide +kernel
set_option maxRecDepth 20000 in
theorem ggX7_makes_X7_at : GoodIn wsX7_makes wsX7_at := goodIn_r _ [9] rfl (by decide +kernel)
set_option maxRecDepth 20000 in
theorem gX7_makes_X7_at : GoodIn wsX7_makes (va_wsS RX7 65 yX7_at wsX7_at) := goodIn_app (goodIn_r _ [6, 7, 8] rfl (by decide +kernel)) ggX7_makes_X7_at
theorem dX7_makes_0 : decode cX7_makes 0 = .ok (.aload_n 0, 1) := by decide +kernel
theorem dX7_makes_1 : decode cX7_makes 1 = .ok (.getfield 7, 3) := by decide +kernel
theorem dX7_makes_4 : decode cX7_makes 4 = .ok (.iload_n 2, 1) := by decide +kernel
theorem dX7_makes_5 : decode cX7_makes 5 = .ok (.iaload, 1) := by decide +kernel
theorem dX7_makes_6 : decode cX7_makes 6 = .ok (.istore 5, 2) := by decide +kernel
theorem dX7_makes_8 : decode cX7_makes 8 = .ok (.iload_n 1, 1) := by decide +kernel
theorem dX7_makes_9 : decode cX7_makes 9 = .ok (.iload_n 2, 1) := by decide +kernel
theorem dX7_makes_10 : decode cX7_makes 10 = .ok (.iload 5, 2) := by decide +kernel
theorem dX7_makes_12 : decode cX7_makes 12 = .ok (.invokestatic 65, 3) := by decide +kernel
theorem dX7_makes_15 : decode cX7_makes 15 = .ok (.istore 6, 2) := by decide +kernel
theorem dX7_makes_17 : decode cX7_makes 17 = .ok (.aload_n 0, 1) := by decide +kernel
theorem dX7_makes_18 : decode cX7_makes 18 = .ok (.getfield 7, 3) := by decide +kernel
theorem dX7_makes_21 : decode cX7_makes 21 = .ok (.iload_n 2, 1) := by decide +kernel
theorem dX7_makes_22 : decode cX7_makes 22 = .ok (.dup2, 1) := by decide +kernel
theorem dX7_makes_23 : decode cX7_makes 23 = .ok (.iaload, 1) := by decide +kernel
theorem dX7_makes_24 : decode cX7_makes 24 = .ok (.iconst 1, 1) := by decide +kernel
theorem dX7_makes_25 : decode cX7_makes 25 = .ok (.iadd, 1) := by decide +kernel
theorem dX7_makes_26 : decode cX7_makes 26 = .ok (.iastore, 1) := by decide +kernel
theorem dX7_makes_27 : decode cX7_makes 27 = .ok (.aload_n 0, 1) := by decide +kernel
theorem dX7_makes_28 : decode cX7_makes 28 = .ok (.getfield 29, 3) := by decide +kernel
theorem dX7_makes_31 : decode cX7_makes 31 = .ok (.iload 6, 2) := by decide +kernel
theorem dX7_makes_33 : decode cX7_makes 33 = .ok (.iconst 1, 1) := by decide +kernel
theorem dX7_makes_34 : decode cX7_makes 34 = .ok (.iastore, 1) := by decide +kernel
theorem dX7_makes_35 : decode cX7_makes 35 = .ok (.aload_n 0, 1) := by decide +kernel
theorem dX7_makes_36 : decode cX7_makes 36 = .ok (.getfield 32, 3) := by decide +kernel
theorem dX7_makes_39 : decode cX7_makes 39 = .ok (.iload 6, 2) := by decide +kernel
theorem dX7_makes_41 : decode cX7_makes 41 = .ok (.iconst 0, 1) := by decide +kernel
theorem dX7_makes_42 : decode cX7_makes 42 = .ok (.bastore, 1) := by decide +kernel
theorem dX7_makes_43 : decode cX7_makes 43 = .ok (.aload_n 0, 1) := by decide +kernel
theorem dX7_makes_44 : decode cX7_makes 44 = .ok (.getfield 35, 3) := by decide +kernel
theorem dX7_makes_47 : decode cX7_makes 47 = .ok (.iload 6, 2) := by decide +kernel
theorem dX7_makes_49 : decode cX7_makes 49 = .ok (.iload_n 3, 1) := by decide +kernel
theorem dX7_makes_50 : decode cX7_makes 50 = .ok (.iastore, 1) := by decide +kernel
theorem dX7_makes_51 : decode cX7_makes 51 = .ok (.aload_n 0, 1) := by decide +kernel
theorem dX7_makes_52 : decode cX7_makes 52 = .ok (.getfield 38, 3) := by decide +kernel
theorem dX7_makes_55 : decode cX7_makes 55 = .ok (.iload 6, 2) := by decide +kernel
theorem dX7_makes_57 : decode cX7_makes 57 = .ok (.iload 4, 2) := by decide +kernel
theorem dX7_makes_59 : decode cX7_makes 59 = .ok (.iastore, 1) := by decide +kernel
theorem dX7_makes_60 : decode cX7_makes 60 = .ok (.iload 5, 2) := by decide +kernel
theorem dX7_makes_62 : decode cX7_makes 62 = .ok (.ireturn, 1) := by decide +kernel
set_option maxRecDepth 20000 in
theorem ggX7_makeAuthor_X7_isSession : GoodIn wsX7_makeAuthor wsX7_isSession := goodIn_r _ [4] rfl (by decide +kernel)
set_option maxRecDepth 20000 in
theorem gX7_makeAuthor_X7_isSession : GoodIn wsX7_makeAuthor (va_wsS RX7 76 yX7_isSession wsX7_isSession) := goodIn_app (goodIn_r _ [1, 2, 3] rfl (by decide +kernel)) ggX7_makeAuthor_X7_isSession
set_option maxRecDepth 20000 in
theorem ggX7_makeAuthor_X7_isName : GoodIn wsX7_makeAuthor wsX7_isName := goodIn_r _ [7] rfl (by decide +kernel)
set_option maxRecDepth 20000 in
theorem gX7_makeAuthor_X7_isName : GoodIn wsX7_makeAuthor (va_wsS RX7 80 yX7_isName wsX7_isName) := goodIn_app (goodIn_r _ [5, 6, 3] rfl (by decide +kernel)) ggX7_makeAuthor_X7_isName
set_option maxRecDepth 20000 in
theorem ggX7_makeAuthor_X7_holds : GoodIn wsX7_makeAuthor wsX7_holds := goodIn_r _ [11, 12, 25, 26, 27, 28, 29, 30, 31, 32, 33, 34, 35, 36, 37, 38, 39, 40] rfl (by decide +kernel)
set_option maxRecDepth 20000 in
theorem gX7_makeAuthor_X7_holds : GoodIn wsX7_makeAuthor (wsV RX7 83 RX7 yX7_holds wsX7_holds) := goodIn_app (goodIn_r _ [8, 9, 10, 3] rfl (by decide +kernel)) ggX7_makeAuthor_X7_holds
set_option maxRecDepth 20000 in
theorem ggX7_makeAuthor_X7_makes : GoodIn wsX7_makeAuthor wsX7_makes := goodIn_r _ [16, 17, 18, 19, 20, 21, 22, 23, 3, 24, 25, 26, 27, 28, 29, 30, 31, 32, 33, 34, 35, 36, 37, 38, 39, 40] rfl (by decide +kernel)
set_option maxRecDepth 20000 in
theorem gX7_makeAuthor_X7_makes : GoodIn wsX7_makeAuthor (wsV RX7 86 RX7 yX7_makes wsX7_makes) := goodIn_app (goodIn_r _ [13, 14, 15, 3] rfl (by decide +kernel)) ggX7_makeAuthor_X7_makes
theorem dX7_makeAuthor_0 : decode cX7_makeAuthor 0 = .ok (.aload_n 0, 1) := by decide +kernel
theorem dX7_makeAuthor_1 : decode cX7_makeAuthor 1 = .ok (.iload_n 1, 1) := by decide +kernel
theorem dX7_makeAuthor_2 : decode cX7_makeAuthor 2 = .ok (.invokestatic 76, 3) := by decide +kernel
theorem dX7_makeAuthor_5 : decode cX7_makeAuthor 5 = .ok (.ifCond .ne 7, 3) := by decide +kernel
theorem dX7_makeAuthor_8 : decode cX7_makeAuthor 8 = .ok (.iconst 1, 1) := by decide +kernel
theorem dX7_makeAuthor_9 : decode cX7_makeAuthor 9 = .ok (.goto 15, 3) := by decide +kernel
theorem dX7_makeAuthor_12 : decode cX7_makeAuthor 12 = .ok (.iload_n 2, 1) := by decide +kernel
theorem dX7_makeAuthor_13 : decode cX7_makeAuthor 13 = .ok (.invokestatic 80, 3) := by decide +kernel
theorem dX7_makeAuthor_16 : decode cX7_makeAuthor 16 = .ok (.ifCond .eq 7, 3) := by decide +kernel
theorem dX7_makeAuthor_19 : decode cX7_makeAuthor 19 = .ok (.iconst 0, 1) := by decide +kernel
theorem dX7_makeAuthor_20 : decode cX7_makeAuthor 20 = .ok (.goto 4, 3) := by decide +kernel
theorem dX7_makeAuthor_23 : decode cX7_makeAuthor 23 = .ok (.iconst 2, 1) := by decide +kernel
theorem dX7_makeAuthor_24 : decode cX7_makeAuthor 24 = .ok (.invokevirtual 83, 3) := by decide +kernel
theorem dX7_makeAuthor_27 : decode cX7_makeAuthor 27 = .ok (.ifCond .eq 14, 3) := by decide +kernel
theorem dX7_makeAuthor_30 : decode cX7_makeAuthor 30 = .ok (.aload_n 0, 1) := by decide +kernel
theorem dX7_makeAuthor_31 : decode cX7_makeAuthor 31 = .ok (.iload_n 1, 1) := by decide +kernel
theorem dX7_makeAuthor_32 : decode cX7_makeAuthor 32 = .ok (.iconst 0, 1) := by decide +kernel
theorem dX7_makeAuthor_33 : decode cX7_makeAuthor 33 = .ok (.iload_n 2, 1) := by decide +kernel
theorem dX7_makeAuthor_34 : decode cX7_makeAuthor 34 = .ok (.iconst (-1), 1) := by decide +kernel
theorem dX7_makeAuthor_35 : decode cX7_makeAuthor 35 = .ok (.invokevirtual 86, 3) := by decide +kernel
theorem dX7_makeAuthor_38 : decode cX7_makeAuthor 38 = .ok (.goto 4, 3) := by decide +kernel
theorem dX7_makeAuthor_41 : decode cX7_makeAuthor 41 = .ok (.iconst 0, 1) := by decide +kernel
theorem dX7_makeAuthor_42 : decode cX7_makeAuthor 42 = .ok (.ireturn, 1) := by decide +kernel
set_option maxRecDepth 20000 in
theorem ggX7_makeBook_X7_isSession : GoodIn wsX7_makeBook wsX7_isSession := goodIn_r _ [4] rfl (by decide +kernel)
set_option maxRecDepth 20000 in
theorem gX7_makeBook_X7_isSession : GoodIn wsX7_makeBook (va_wsS RX7 76 yX7_isSession wsX7_isSession) := goodIn_app (goodIn_r _ [1, 2, 3] rfl (by decide +kernel)) ggX7_makeBook_X7_isSession
set_option maxRecDepth 20000 in
theorem ggX7_makeBook_X7_isName : GoodIn wsX7_makeBook wsX7_isName := goodIn_r _ [7] rfl (by decide +kernel)
set_option maxRecDepth 20000 in
theorem gX7_makeBook_X7_isName : GoodIn wsX7_makeBook (va_wsS RX7 80 yX7_isName wsX7_isName) := goodIn_app (goodIn_r _ [5, 6, 3] rfl (by decide +kernel)) ggX7_makeBook_X7_isName
set_option maxRecDepth 20000 in
theorem ggX7_makeBook_X7_knows : GoodIn wsX7_makeBook wsX7_knows := goodIn_r _ [11, 12, 13, 14, 15, 16, 3, 17, 18, 19, 20, 21, 33, 34, 35, 36, 37, 38, 39, 40, 41, 42, 43, 44, 45, 46, 47, 48] rfl (by decide +kernel)
set_option maxRecDepth 20000 in
theorem gX7_makeBook_X7_knows : GoodIn wsX7_makeBook (wsV RX7 90 RX7 yX7_knows wsX7_knows) := goodIn_app (goodIn_r _ [8, 9, 10, 3] rfl (by decide +kernel)) ggX7_makeBook_X7_knows
set_option maxRecDepth 20000 in
theorem ggX7_makeBook_X7_holds : GoodIn wsX7_makeBook wsX7_holds := goodIn_r _ [25, 26, 33, 34, 35, 36, 37, 38, 39, 40, 41, 42, 43, 44, 45, 46, 47, 48] rfl (by decide +kernel)
set_option maxRecDepth 20000 in
theorem gX7_makeBook_X7_holds : GoodIn wsX7_makeBook (wsV RX7 83 RX7 yX7_holds wsX7_holds) := goodIn_app (goodIn_r _ [22, 23, 24, 3] rfl (by decide +kernel)) ggX7_makeBook_X7_holds
set_option maxRecDepth 20000 in
theorem ggX7_makeBook_X7_makes : GoodIn wsX7_makeBook wsX7_makes := goodIn_r _ [30, 18, 12, 13, 31, 32, 19, 20, 3, 21, 33, 34, 35, 36, 37, 38, 39, 40, 41, 42, 43, 44, 45, 46, 47, 48] rfl (by decide +kernel)
set_option maxRecDepth 20000 in
theorem gX7_makeBook_X7_makes : GoodIn wsX7_makeBook (wsV RX7 86 RX7 yX7_makes wsX7_makes) := goodIn_app (goodIn_r _ [27, 28, 29, 3] rfl (by decide +kernel)) ggX7_makeBook_X7_makes
theorem dX7_makeBook_0 : decode cX7_makeBook 0 = .ok (.iload_n 1, 1) := by decide +kernel
theorem dX7_makeBook_1 : decode cX7_makeBook 1 = .ok (.invokestatic 76, 3) := by decide +kernel
theorem dX7_makeBook_4 : decode cX7_makeBook 4 = .ok (.istore 4, 2) := by decide +kernel
theorem dX7_makeBook_6 : decode cX7_makeBook 6 = .ok (.aload_n 0, 1) := by decide +kernel
theorem dX7_makeBook_7 : decode cX7_makeBook 7 = .ok (.iload 4, 2) := by decide +kernel
theorem dX7_makeBook_9 : decode cX7_makeBook 9 = .ok (.ifCond .ne 7, 3) := by decide +kernel
theorem dX7_makeBook_12 : decode cX7_makeBook 12 = .ok (.iconst 1, 1) := by decide +kernel
theorem dX7_makeBook_13 : decode cX7_makeBook 13 = .ok (.goto 29, 3) := by decide +kernel
theorem dX7_makeBook_16 : decode cX7_makeBook 16 = .ok (.iload_n 2, 1) := by decide +kernel
theorem dX7_makeBook_17 : decode cX7_makeBook 17 = .ok (.invokestatic 80, 3) := by decide +kernel
theorem dX7_makeBook_20 : decode cX7_makeBook 20 = .ok (.ifCond .ne 7, 3) := by decide +kernel
theorem dX7_makeBook_23 : decode cX7_makeBook 23 = .ok (.iconst 2, 1) := by decide +kernel
theorem dX7_makeBook_24 : decode cX7_makeBook 24 = .ok (.goto 18, 3) := by decide +kernel
theorem dX7_makeBook_27 : decode cX7_makeBook 27 = .ok (.aload_n 0, 1) := by decide +kernel
theorem dX7_makeBook_28 : decode cX7_makeBook 28 = .ok (.iload_n 1, 1) := by decide +kernel
theorem dX7_makeBook_29 : decode cX7_makeBook 29 = .ok (.iconst 0, 1) := by decide +kernel
theorem dX7_makeBook_30 : decode cX7_makeBook 30 = .ok (.iload_n 3, 1) := by decide +kernel
theorem dX7_makeBook_31 : decode cX7_makeBook 31 = .ok (.invokevirtual 90, 3) := by decide +kernel
theorem dX7_makeBook_34 : decode cX7_makeBook 34 = .ok (.ifCond .eq 7, 3) := by decide +kernel
theorem dX7_makeBook_37 : decode cX7_makeBook 37 = .ok (.iconst 0, 1) := by decide +kernel
theorem dX7_makeBook_38 : decode cX7_makeBook 38 = .ok (.goto 4, 3) := by decide +kernel
theorem dX7_makeBook_41 : decode cX7_makeBook 41 = .ok (.iconst 3, 1) := by decide +kernel
theorem dX7_makeBook_42 : decode cX7_makeBook 42 = .ok (.invokevirtual 83, 3) := by decide +kernel
theorem dX7_makeBook_45 : decode cX7_makeBook 45 = .ok (.ifCond .ne 5, 3) := by decide +kernel
theorem dX7_makeBook_48 : decode cX7_makeBook 48 = .ok (.iconst 0, 1) := by decide +kernel
theorem dX7_makeBook_49 : decode cX7_makeBook 49 = .ok (.ireturn, 1) := by decide +kernel
theorem dX7_makeBook_50 : decode cX7_makeBook 50 = .ok (.aload_n 0, 1) := by decide +kernel
theorem dX7_makeBook_51 : decode cX7_makeBook 51 = .ok (.iload_n 1, 1) := by decide +kernel
theorem dX7_makeBook_52 : decode cX7_makeBook 52 = .ok (.iconst 1, 1) := by decide +kernel
theorem dX7_makeBook_53 : decode cX7_makeBook 53 = .ok (.iload_n 2, 1) := by decide +kernel
theorem dX7_makeBook_54 : decode cX7_makeBook 54 = .ok (.iload_n 3, 1) := by decide +kernel
theorem dX7_makeBook_55 : decode cX7_makeBook 55 = .ok (.invokevirtual 86, 3) := by decide +kernel
theorem dX7_makeBook_58 : decode cX7_makeBook 58 = .ok (.ireturn, 1) := by decide +kernel
set_option maxRecDepth 20000 in
theorem ggX7_find_X7_isSession : GoodIn wsX7_find wsX7_isSession := goodIn_r _ [5] rfl (by decide +kernel)
set_option maxRecDepth 20000 in
theorem gX7_find_X7_isSession : GoodIn wsX7_find (va_wsS RX7 76 yX7_isSession wsX7_isSession) := goodIn_app (goodIn_r _ [2, 3, 4] rfl (by decide +kernel)) ggX7_find_X7_isSession
set_option maxRecDepth 20000 in
theorem ggX7_find_X7_isKind : GoodIn wsX7_find wsX7_isKind := goodIn_r _ [8] rfl (by decide +kernel)
set_option maxRecDepth 20000 in
theorem gX7_find_X7_isKind : GoodIn wsX7_find (va_wsS RX7 94 yX7_isKind wsX7_isKind) := goodIn_app (goodIn_r _ [6, 7, 4] rfl (by decide +kernel)) ggX7_find_X7_isKind
set_option maxRecDepth 20000 in
theorem ggX7_find_X7_holds : GoodIn wsX7_find wsX7_holds := goodIn_r _ [12, 13, 47, 48, 49, 50, 51, 52, 53, 54, 55, 56, 57, 58, 59, 60, 61, 62] rfl (by decide +kernel)
set_option maxRecDepth 20000 in
theorem gX7_find_X7_holds : GoodIn wsX7_find (wsV RX7 83 RX7 yX7_holds wsX7_holds) := goodIn_app (goodIn_r _ [9, 10, 11, 4] rfl (by decide +kernel)) ggX7_find_X7_holds
set_option maxRecDepth 20000 in
theorem ggX7_find_X7_hasRow : GoodIn wsX7_find wsX7_hasRow := goodIn_r _ [17, 18, 19, 20, 21, 4, 22, 23, 24, 25, 26, 47, 48, 49, 50, 51, 52, 53, 54, 55, 56, 57, 58, 59, 60, 61, 62] rfl (by decide +kernel)
set_option maxRecDepth 20000 in
theorem gX7_find_X7_hasRow : GoodIn wsX7_find (wsV RX7 69 RX7 yX7_hasRow wsX7_hasRow) := goodIn_app (goodIn_r _ [14, 15, 16, 4] rfl (by decide +kernel)) ggX7_find_X7_hasRow
set_option maxRecDepth 20000 in
theorem ggX7_find_X7_at : GoodIn wsX7_find wsX7_at := goodIn_r _ [29] rfl (by decide +kernel)
set_option maxRecDepth 20000 in
theorem gX7_find_X7_at : GoodIn wsX7_find (va_wsS RX7 65 yX7_at wsX7_at) := goodIn_app (goodIn_r _ [27, 28, 4] rfl (by decide +kernel)) ggX7_find_X7_at
set_option maxRecDepth 20000 in
theorem ggX7_find_X7_takes : GoodIn wsX7_find wsX7_takes := goodIn_r _ [33, 1, 34, 35, 36, 37, 38, 39, 40, 41, 42, 27, 28, 4, 29, 24, 25, 26, 47, 48, 49, 50, 51, 52, 53, 54, 55, 56, 57, 58, 59, 60, 61, 62] rfl (by decide +kernel)
set_option maxRecDepth 20000 in
theorem gX7_find_X7_takes : GoodIn wsX7_find (wsV RX7 72 RX7 yX7_takes wsX7_takes) := goodIn_app (goodIn_r _ [30, 31, 32, 4] rfl (by decide +kernel)) ggX7_find_X7_takes
set_option maxRecDepth 20000 in
theorem ggX7_find_X7_knows : GoodIn wsX7_find wsX7_knows := goodIn_r _ [46, 1, 34, 19, 20, 21, 4, 22, 23, 27, 28, 29, 47, 48, 49, 50, 51, 52, 53, 54, 55, 56, 57, 58, 59, 60, 61, 62] rfl (by decide +kernel)
set_option maxRecDepth 20000 in
theorem gX7_find_X7_knows : GoodIn wsX7_find (wsV RX7 90 RX7 yX7_knows wsX7_knows) := goodIn_app (goodIn_r _ [43, 44, 45, 4] rfl (by decide +kernel)) ggX7_find_X7_knows
theorem dX7_find_0 : decode cX7_find 0 = .ok (.aload_n 0, 1) := by decide +kernel
theorem dX7_find_1 : decode cX7_find 1 = .ok (.iload_n 1, 1) := by decide +kernel
theorem dX7_find_2 : decode cX7_find 2 = .ok (.invokestatic 76, 3) := by decide +kernel
theorem dX7_find_5 : decode cX7_find 5 = .ok (.ifCond .ne 7, 3) := by decide +kernel
theorem dX7_find_8 : decode cX7_find 8 = .ok (.iconst 1, 1) := by decide +kernel
theorem dX7_find_9 : decode cX7_find 9 = .ok (.goto 15, 3) := by decide +kernel
theorem dX7_find_12 : decode cX7_find 12 = .ok (.iload_n 2, 1) := by decide +kernel
theorem dX7_find_13 : decode cX7_find 13 = .ok (.invokestatic 94, 3) := by decide +kernel
theorem dX7_find_16 : decode cX7_find 16 = .ok (.ifCond .eq 7, 3) := by decide +kernel
theorem dX7_find_19 : decode cX7_find 19 = .ok (.iconst 0, 1) := by decide +kernel
theorem dX7_find_20 : decode cX7_find 20 = .ok (.goto 4, 3) := by decide +kernel
theorem dX7_find_23 : decode cX7_find 23 = .ok (.iconst 2, 1) := by decide +kernel
theorem dX7_find_24 : decode cX7_find 24 = .ok (.invokevirtual 83, 3) := by decide +kernel
theorem dX7_find_27 : decode cX7_find 27 = .ok (.ifCond .ne 5, 3) := by decide +kernel
theorem dX7_find_30 : decode cX7_find 30 = .ok (.iconst 0, 1) := by decide +kernel
theorem dX7_find_31 : decode cX7_find 31 = .ok (.ireturn, 1) := by decide +kernel
theorem dX7_find_32 : decode cX7_find 32 = .ok (.aload_n 0, 1) := by decide +kernel
theorem dX7_find_33 : decode cX7_find 33 = .ok (.iload_n 2, 1) := by decide +kernel
theorem dX7_find_34 : decode cX7_find 34 = .ok (.iload_n 3, 1) := by decide +kernel
theorem dX7_find_35 : decode cX7_find 35 = .ok (.invokevirtual 69, 3) := by decide +kernel
theorem dX7_find_38 : decode cX7_find 38 = .ok (.ifCond .eq 24, 3) := by decide +kernel
theorem dX7_find_41 : decode cX7_find 41 = .ok (.aload_n 0, 1) := by decide +kernel
theorem dX7_find_42 : decode cX7_find 42 = .ok (.getfield 29, 3) := by decide +kernel
theorem dX7_find_45 : decode cX7_find 45 = .ok (.iload_n 1, 1) := by decide +kernel
theorem dX7_find_46 : decode cX7_find 46 = .ok (.iload_n 2, 1) := by decide +kernel
theorem dX7_find_47 : decode cX7_find 47 = .ok (.iload_n 3, 1) := by decide +kernel
theorem dX7_find_48 : decode cX7_find 48 = .ok (.invokestatic 65, 3) := by decide +kernel
theorem dX7_find_51 : decode cX7_find 51 = .ok (.iaload, 1) := by decide +kernel
theorem dX7_find_52 : decode cX7_find 52 = .ok (.ifCond .ne 10, 3) := by decide +kernel
theorem dX7_find_55 : decode cX7_find 55 = .ok (.aload_n 0, 1) := by decide +kernel
theorem dX7_find_56 : decode cX7_find 56 = .ok (.iload_n 1, 1) := by decide +kernel
theorem dX7_find_57 : decode cX7_find 57 = .ok (.iload_n 2, 1) := by decide +kernel
theorem dX7_find_58 : decode cX7_find 58 = .ok (.iload_n 3, 1) := by decide +kernel
theorem dX7_find_59 : decode cX7_find 59 = .ok (.invokevirtual 72, 3) := by decide +kernel
theorem dX7_find_62 : decode cX7_find 62 = .ok (.aload_n 0, 1) := by decide +kernel
theorem dX7_find_63 : decode cX7_find 63 = .ok (.iload_n 1, 1) := by decide +kernel
theorem dX7_find_64 : decode cX7_find 64 = .ok (.iload_n 2, 1) := by decide +kernel
theorem dX7_find_65 : decode cX7_find 65 = .ok (.iload_n 3, 1) := by decide +kernel
theorem dX7_find_66 : decode cX7_find 66 = .ok (.invokevirtual 90, 3) := by decide +kernel
theorem dX7_find_69 : decode cX7_find 69 = .ok (.ireturn, 1) := by decide +kernel
set_option maxRecDepth 20000 in
theorem ggX7_countOf_X7_knows : GoodIn wsX7_countOf wsX7_knows := goodIn_r _ [7, 8, 9, 10, 11, 12, 6, 13, 1, 14, 15, 16, 17, 18, 19, 20, 21, 22, 23, 24, 25, 26, 27, 28, 29, 30, 31, 32] rfl (by decide +kernel)
set_option maxRecDepth 20000 in
theorem gX7_countOf_X7_knows : GoodIn wsX7_countOf (wsV RX7 90 RX7 yX7_knows wsX7_knows) := goodIn_app (goodIn_r _ [3, 4, 5, 6] rfl (by decide +kernel)) ggX7_countOf_X7_knows
set_option maxRecDepth 20000 in
theorem ggX7_countOf_X7_at : GoodIn wsX7_countOf wsX7_at := goodIn_r _ [16] rfl (by decide +kernel)
set_option maxRecDepth 20000 in
theorem gX7_countOf_X7_at : GoodIn wsX7_countOf (va_wsS RX7 65 yX7_at wsX7_at) := goodIn_app (goodIn_r _ [14, 15, 6] rfl (by decide +kernel)) ggX7_countOf_X7_at
theorem dX7_countOf_0 : decode cX7_countOf 0 = .ok (.iconst 0, 1) := by decide +kernel
theorem dX7_countOf_1 : decode cX7_countOf 1 = .ok (.istore_n 3, 1) := by decide +kernel
theorem dX7_countOf_2 : decode cX7_countOf 2 = .ok (.iconst 0, 1) := by decide +kernel
theorem dX7_countOf_3 : decode cX7_countOf 3 = .ok (.istore 4, 2) := by decide +kernel
theorem dX7_countOf_5 : decode cX7_countOf 5 = .ok (.iload 4, 2) := by decide +kernel
theorem dX7_countOf_7 : decode cX7_countOf 7 = .ok (.aload_n 0, 1) := by decide +kernel
theorem dX7_countOf_8 : decode cX7_countOf 8 = .ok (.getfield 7, 3) := by decide +kernel
theorem dX7_countOf_11 : decode cX7_countOf 11 = .ok (.iconst 1, 1) := by decide +kernel
theorem dX7_countOf_12 : decode cX7_countOf 12 = .ok (.iaload, 1) := by decide +kernel
theorem dX7_countOf_13 : decode cX7_countOf 13 = .ok (.if_icmp .ge 44, 3) := by decide +kernel
theorem dX7_countOf_16 : decode cX7_countOf 16 = .ok (.iload_n 3, 1) := by decide +kernel
theorem dX7_countOf_17 : decode cX7_countOf 17 = .ok (.aload_n 0, 1) := by decide +kernel
theorem dX7_countOf_18 : decode cX7_countOf 18 = .ok (.iload_n 1, 1) := by decide +kernel
theorem dX7_countOf_19 : decode cX7_countOf 19 = .ok (.iconst 1, 1) := by decide +kernel
theorem dX7_countOf_20 : decode cX7_countOf 20 = .ok (.iload 4, 2) := by decide +kernel
theorem dX7_countOf_22 : decode cX7_countOf 22 = .ok (.invokevirtual 90, 3) := by decide +kernel
theorem dX7_countOf_25 : decode cX7_countOf 25 = .ok (.ifCond .eq 23, 3) := by decide +kernel
theorem dX7_countOf_28 : decode cX7_countOf 28 = .ok (.aload_n 0, 1) := by decide +kernel
theorem dX7_countOf_29 : decode cX7_countOf 29 = .ok (.getfield 38, 3) := by decide +kernel
theorem dX7_countOf_32 : decode cX7_countOf 32 = .ok (.iload_n 1, 1) := by decide +kernel
theorem dX7_countOf_33 : decode cX7_countOf 33 = .ok (.iconst 1, 1) := by decide +kernel
theorem dX7_countOf_34 : decode cX7_countOf 34 = .ok (.iload 4, 2) := by decide +kernel
theorem dX7_countOf_36 : decode cX7_countOf 36 = .ok (.invokestatic 65, 3) := by decide +kernel
theorem dX7_countOf_39 : decode cX7_countOf 39 = .ok (.iaload, 1) := by decide +kernel
theorem dX7_countOf_40 : decode cX7_countOf 40 = .ok (.iload_n 2, 1) := by decide +kernel
theorem dX7_countOf_41 : decode cX7_countOf 41 = .ok (.if_icmp .ne 7, 3) := by decide +kernel
theorem dX7_countOf_44 : decode cX7_countOf 44 = .ok (.iconst 1, 1) := by decide +kernel
theorem dX7_countOf_45 : decode cX7_countOf 45 = .ok (.goto 4, 3) := by decide +kernel
theorem dX7_countOf_48 : decode cX7_countOf 48 = .ok (.iconst 0, 1) := by decide +kernel
theorem dX7_countOf_49 : decode cX7_countOf 49 = .ok (.iadd, 1) := by decide +kernel
theorem dX7_countOf_50 : decode cX7_countOf 50 = .ok (.istore_n 3, 1) := by decide +kernel
theorem dX7_countOf_51 : decode cX7_countOf 51 = .ok (.iinc 4 1, 3) := by decide +kernel
theorem dX7_countOf_54 : decode cX7_countOf 54 = .ok (.goto (-49), 3) := by decide +kernel
theorem dX7_countOf_57 : decode cX7_countOf 57 = .ok (.iload_n 3, 1) := by decide +kernel
theorem dX7_countOf_58 : decode cX7_countOf 58 = .ok (.ireturn, 1) := by decide +kernel
set_option maxRecDepth 20000 in
theorem ggX7_books_X7_isSession : GoodIn wsX7_books wsX7_isSession := goodIn_r _ [4] rfl (by decide +kernel)
set_option maxRecDepth 20000 in
theorem gX7_books_X7_isSession : GoodIn wsX7_books (va_wsS RX7 76 yX7_isSession wsX7_isSession) := goodIn_app (goodIn_r _ [1, 2, 3] rfl (by decide +kernel)) ggX7_books_X7_isSession
set_option maxRecDepth 20000 in
theorem ggX7_books_X7_knows : GoodIn wsX7_books wsX7_knows := goodIn_r _ [8, 9, 10, 11, 12, 13, 3, 14, 15, 16, 17, 18, 52, 53, 54, 55, 56, 57, 58, 59, 60, 61, 62, 63, 64, 65, 66, 67] rfl (by decide +kernel)
set_option maxRecDepth 20000 in
theorem gX7_books_X7_knows : GoodIn wsX7_books (wsV RX7 90 RX7 yX7_knows wsX7_knows) := goodIn_app (goodIn_r _ [5, 6, 7, 3] rfl (by decide +kernel)) ggX7_books_X7_knows
set_option maxRecDepth 20000 in
theorem ggX7_books_X7_holds : GoodIn wsX7_books wsX7_holds := goodIn_r _ [22, 23, 52, 53, 54, 55, 56, 57, 58, 59, 60, 61, 62, 63, 64, 65, 66, 67] rfl (by decide +kernel)
set_option maxRecDepth 20000 in
theorem gX7_books_X7_holds : GoodIn wsX7_books (wsV RX7 83 RX7 yX7_holds wsX7_holds) := goodIn_app (goodIn_r _ [19, 20, 21, 3] rfl (by decide +kernel)) ggX7_books_X7_holds
set_option maxRecDepth 20000 in
theorem ggX7_books_X7_loads : GoodIn wsX7_books wsX7_loads := goodIn_r _ [27, 15, 28, 9, 29, 30, 31, 3, 32, 33, 11, 12, 13, 14, 34, 35, 36, 16, 17, 18, 37, 38, 39, 40, 10, 41, 42, 43, 44, 45, 46, 47, 52, 53, 54, 55, 56, 57, 58, 59, 60, 61, 62, 63, 64, 65, 66, 67] rfl (by decide +kernel)
set_option maxRecDepth 20000 in
theorem gX7_books_X7_loads : GoodIn wsX7_books (wsV RX7 97 RX7 yX7_loads wsX7_loads) := goodIn_app (goodIn_r _ [24, 25, 26, 3] rfl (by decide +kernel)) ggX7_books_X7_loads
set_option maxRecDepth 20000 in
theorem ggX7_books_X7_countOf : GoodIn wsX7_books wsX7_countOf := goodIn_r _ [51, 15, 43, 5, 6, 7, 3, 8, 9, 10, 11, 12, 13, 14, 16, 17, 18, 52, 53, 54, 55, 56, 57, 58, 59, 60, 61, 62, 63, 64, 65, 66, 67] rfl (by decide +kernel)
set_option maxRecDepth 20000 in
theorem gX7_books_X7_countOf : GoodIn wsX7_books (wsV RX7 100 RX7 yX7_countOf wsX7_countOf) := goodIn_app (goodIn_r _ [48, 49, 50, 3] rfl (by decide +kernel)) ggX7_books_X7_countOf
theorem dX7_books_0 : decode cX7_books 0 = .ok (.iload_n 1, 1) := by decide +kernel
theorem dX7_books_1 : decode cX7_books 1 = .ok (.invokestatic 76, 3) := by decide +kernel
theorem dX7_books_4 : decode cX7_books 4 = .ok (.istore_n 3, 1) := by decide +kernel
theorem dX7_books_5 : decode cX7_books 5 = .ok (.aload_n 0, 1) := by decide +kernel
theorem dX7_books_6 : decode cX7_books 6 = .ok (.iload_n 3, 1) := by decide +kernel
theorem dX7_books_7 : decode cX7_books 7 = .ok (.ifCond .ne 7, 3) := by decide +kernel
theorem dX7_books_10 : decode cX7_books 10 = .ok (.iconst 1, 1) := by decide +kernel
theorem dX7_books_11 : decode cX7_books 11 = .ok (.goto 18, 3) := by decide +kernel
theorem dX7_books_14 : decode cX7_books 14 = .ok (.aload_n 0, 1) := by decide +kernel
theorem dX7_books_15 : decode cX7_books 15 = .ok (.iload_n 1, 1) := by decide +kernel
theorem dX7_books_16 : decode cX7_books 16 = .ok (.iconst 0, 1) := by decide +kernel
theorem dX7_books_17 : decode cX7_books 17 = .ok (.iload_n 2, 1) := by decide +kernel
theorem dX7_books_18 : decode cX7_books 18 = .ok (.invokevirtual 90, 3) := by decide +kernel
theorem dX7_books_21 : decode cX7_books 21 = .ok (.ifCond .eq 7, 3) := by decide +kernel
theorem dX7_books_24 : decode cX7_books 24 = .ok (.iconst 0, 1) := by decide +kernel
theorem dX7_books_25 : decode cX7_books 25 = .ok (.goto 4, 3) := by decide +kernel
theorem dX7_books_28 : decode cX7_books 28 = .ok (.iconst 2, 1) := by decide +kernel
theorem dX7_books_29 : decode cX7_books 29 = .ok (.invokevirtual 83, 3) := by decide +kernel
theorem dX7_books_32 : decode cX7_books 32 = .ok (.ifCond .ne 5, 3) := by decide +kernel
theorem dX7_books_35 : decode cX7_books 35 = .ok (.iconst 0, 1) := by decide +kernel
theorem dX7_books_36 : decode cX7_books 36 = .ok (.ireturn, 1) := by decide +kernel
theorem dX7_books_37 : decode cX7_books 37 = .ok (.aload_n 0, 1) := by decide +kernel
theorem dX7_books_38 : decode cX7_books 38 = .ok (.iload_n 1, 1) := by decide +kernel
theorem dX7_books_39 : decode cX7_books 39 = .ok (.iconst 1, 1) := by decide +kernel
theorem dX7_books_40 : decode cX7_books 40 = .ok (.iload_n 2, 1) := by decide +kernel
theorem dX7_books_41 : decode cX7_books 41 = .ok (.invokevirtual 97, 3) := by decide +kernel
theorem dX7_books_44 : decode cX7_books 44 = .ok (.aload_n 0, 1) := by decide +kernel
theorem dX7_books_45 : decode cX7_books 45 = .ok (.iload_n 1, 1) := by decide +kernel
theorem dX7_books_46 : decode cX7_books 46 = .ok (.iload_n 2, 1) := by decide +kernel
theorem dX7_books_47 : decode cX7_books 47 = .ok (.invokevirtual 100, 3) := by decide +kernel
theorem dX7_books_50 : decode cX7_books 50 = .ok (.ireturn, 1) := by decide +kernel
set_option maxRecDepth 20000 in
theorem ggX7_isAsked_X7_isSession : GoodIn wsX7_isAsked wsX7_isSession := goodIn_r _ [4] rfl (by decide +kernel)
set_option maxRecDepth 20000 in
theorem gX7_isAsked_X7_isSession : GoodIn wsX7_isAsked (va_wsS RX7 76 yX7_isSession wsX7_isSession) := goodIn_app (goodIn_r _ [1, 2, 3] rfl (by decide +kernel)) ggX7_isAsked_X7_isSession
set_option maxRecDepth 20000 in
theorem ggX7_isAsked_X7_isKind : GoodIn wsX7_isAsked wsX7_isKind := goodIn_r _ [7] rfl (by decide +kernel)
set_option maxRecDepth 20000 in
theorem gX7_isAsked_X7_isKind : GoodIn wsX7_isAsked (va_wsS RX7 94 yX7_isKind wsX7_isKind) := goodIn_app (goodIn_r _ [5, 6, 3] rfl (by decide +kernel)) ggX7_isAsked_X7_isKind
set_option maxRecDepth 20000 in
theorem ggX7_isAsked_X7_knows : GoodIn wsX7_isAsked wsX7_knows := goodIn_r _ [11, 12, 13, 14, 15, 16, 3, 17, 18, 19, 20, 21, 27, 28, 29, 30, 31, 32, 33, 34, 35, 36, 37, 38, 39, 40, 41, 42] rfl (by decide +kernel)
set_option maxRecDepth 20000 in
theorem gX7_isAsked_X7_knows : GoodIn wsX7_isAsked (wsV RX7 90 RX7 yX7_knows wsX7_knows) := goodIn_app (goodIn_r _ [8, 9, 10, 3] rfl (by decide +kernel)) ggX7_isAsked_X7_knows
set_option maxRecDepth 20000 in
theorem ggX7_isAsked_X7_holds : GoodIn wsX7_isAsked wsX7_holds := goodIn_r _ [25, 26, 27, 28, 29, 30, 31, 32, 33, 34, 35, 36, 37, 38, 39, 40, 41, 42] rfl (by decide +kernel)
set_option maxRecDepth 20000 in
theorem gX7_isAsked_X7_holds : GoodIn wsX7_isAsked (wsV RX7 83 RX7 yX7_holds wsX7_holds) := goodIn_app (goodIn_r _ [22, 23, 24, 3] rfl (by decide +kernel)) ggX7_isAsked_X7_holds
theorem dX7_isAsked_0 : decode cX7_isAsked 0 = .ok (.iload_n 1, 1) := by decide +kernel
theorem dX7_isAsked_1 : decode cX7_isAsked 1 = .ok (.invokestatic 76, 3) := by decide +kernel
theorem dX7_isAsked_4 : decode cX7_isAsked 4 = .ok (.istore 5, 2) := by decide +kernel
theorem dX7_isAsked_6 : decode cX7_isAsked 6 = .ok (.iload_n 2, 1) := by decide +kernel
theorem dX7_isAsked_7 : decode cX7_isAsked 7 = .ok (.invokestatic 94, 3) := by decide +kernel
theorem dX7_isAsked_10 : decode cX7_isAsked 10 = .ok (.ifCond .eq 12, 3) := by decide +kernel
theorem dX7_isAsked_13 : decode cX7_isAsked 13 = .ok (.iload 4, 2) := by decide +kernel
theorem dX7_isAsked_15 : decode cX7_isAsked 15 = .ok (.ifCond .eq 7, 3) := by decide +kernel
theorem dX7_isAsked_18 : decode cX7_isAsked 18 = .ok (.iconst 1, 1) := by decide +kernel
theorem dX7_isAsked_19 : decode cX7_isAsked 19 = .ok (.goto 4, 3) := by decide +kernel
theorem dX7_isAsked_22 : decode cX7_isAsked 22 = .ok (.iconst 0, 1) := by decide +kernel
theorem dX7_isAsked_23 : decode cX7_isAsked 23 = .ok (.istore 6, 2) := by decide +kernel
theorem dX7_isAsked_25 : decode cX7_isAsked 25 = .ok (.aload_n 0, 1) := by decide +kernel
theorem dX7_isAsked_26 : decode cX7_isAsked 26 = .ok (.iload 5, 2) := by decide +kernel
theorem dX7_isAsked_28 : decode cX7_isAsked 28 = .ok (.ifCond .ne 7, 3) := by decide +kernel
theorem dX7_isAsked_31 : decode cX7_isAsked 31 = .ok (.iconst 1, 1) := by decide +kernel
theorem dX7_isAsked_32 : decode cX7_isAsked 32 = .ok (.goto 27, 3) := by decide +kernel
theorem dX7_isAsked_35 : decode cX7_isAsked 35 = .ok (.iload 6, 2) := by decide +kernel
theorem dX7_isAsked_37 : decode cX7_isAsked 37 = .ok (.ifCond .ne 7, 3) := by decide +kernel
theorem dX7_isAsked_40 : decode cX7_isAsked 40 = .ok (.iconst 2, 1) := by decide +kernel
theorem dX7_isAsked_41 : decode cX7_isAsked 41 = .ok (.goto 18, 3) := by decide +kernel
theorem dX7_isAsked_44 : decode cX7_isAsked 44 = .ok (.aload_n 0, 1) := by decide +kernel
theorem dX7_isAsked_45 : decode cX7_isAsked 45 = .ok (.iload_n 1, 1) := by decide +kernel
theorem dX7_isAsked_46 : decode cX7_isAsked 46 = .ok (.iload_n 2, 1) := by decide +kernel
theorem dX7_isAsked_47 : decode cX7_isAsked 47 = .ok (.iload_n 3, 1) := by decide +kernel
theorem dX7_isAsked_48 : decode cX7_isAsked 48 = .ok (.invokevirtual 90, 3) := by decide +kernel
theorem dX7_isAsked_51 : decode cX7_isAsked 51 = .ok (.ifCond .eq 7, 3) := by decide +kernel
theorem dX7_isAsked_54 : decode cX7_isAsked 54 = .ok (.iconst 0, 1) := by decide +kernel
theorem dX7_isAsked_55 : decode cX7_isAsked 55 = .ok (.goto 4, 3) := by decide +kernel
theorem dX7_isAsked_58 : decode cX7_isAsked 58 = .ok (.iconst 3, 1) := by decide +kernel
theorem dX7_isAsked_59 : decode cX7_isAsked 59 = .ok (.invokevirtual 83, 3) := by decide +kernel
theorem dX7_isAsked_62 : decode cX7_isAsked 62 = .ok (.ireturn, 1) := by decide +kernel
set_option maxRecDepth 20000 in
theorem ggX7_setName_X7_isName : GoodIn wsX7_setName wsX7_isName := goodIn_r _ [5] rfl (by decide +kernel)
set_option maxRecDepth 20000 in
theorem gX7_setName_X7_isName : GoodIn wsX7_setName (va_wsS RX7 80 yX7_isName wsX7_isName) := goodIn_app (goodIn_r _ [2, 3, 4] rfl (by decide +kernel)) ggX7_setName_X7_isName
set_option maxRecDepth 20000 in
theorem ggX7_setName_X7_isAsked : GoodIn wsX7_setName wsX7_isAsked := goodIn_r _ [9, 10, 11, 4, 12, 13, 14, 15, 16, 17, 18, 19, 20, 21, 22, 23, 24, 25, 26, 27, 28, 29, 30, 31, 32, 33, 34, 35, 36, 37, 38, 39, 40, 41, 42, 43, 44, 45, 46, 47, 48, 49, 50] rfl (by decide +kernel)
set_option maxRecDepth 20000 in
theorem gX7_setName_X7_isAsked : GoodIn wsX7_setName (wsV RX7 103 RX7 yX7_isAsked wsX7_isAsked) := goodIn_app (goodIn_r _ [6, 7, 8, 4] rfl (by decide +kernel)) ggX7_setName_X7_isAsked
set_option maxRecDepth 20000 in
theorem ggX7_setName_X7_at : GoodIn wsX7_setName wsX7_at := goodIn_r _ [29] rfl (by decide +kernel)
set_option maxRecDepth 20000 in
theorem gX7_setName_X7_at : GoodIn wsX7_setName (va_wsS RX7 65 yX7_at wsX7_at) := goodIn_app (goodIn_r _ [27, 28, 4] rfl (by decide +kernel)) ggX7_setName_X7_at
theorem dX7_setName_0 : decode cX7_setName 0 = .ok (.aload_n 0, 1) := by decide +kernel
theorem dX7_setName_1 : decode cX7_setName 1 = .ok (.iload_n 1, 1) := by decide +kernel
theorem dX7_setName_2 : decode cX7_setName 2 = .ok (.iload_n 2, 1) := by decide +kernel
theorem dX7_setName_3 : decode cX7_setName 3 = .ok (.iload_n 3, 1) := by decide +kernel
theorem dX7_setName_4 : decode cX7_setName 4 = .ok (.iload 4, 2) := by decide +kernel
theorem dX7_setName_6 : decode cX7_setName 6 = .ok (.invokestatic 80, 3) := by decide +kernel
theorem dX7_setName_9 : decode cX7_setName 9 = .ok (.invokevirtual 103, 3) := by decide +kernel
theorem dX7_setName_12 : decode cX7_setName 12 = .ok (.ifCond .eq 16, 3) := by decide +kernel
theorem dX7_setName_15 : decode cX7_setName 15 = .ok (.aload_n 0, 1) := by decide +kernel
theorem dX7_setName_16 : decode cX7_setName 16 = .ok (.getfield 35, 3) := by decide +kernel
theorem dX7_setName_19 : decode cX7_setName 19 = .ok (.iload_n 1, 1) := by decide +kernel
theorem dX7_setName_20 : decode cX7_setName 20 = .ok (.iload_n 2, 1) := by decide +kernel
theorem dX7_setName_21 : decode cX7_setName 21 = .ok (.iload_n 3, 1) := by decide +kernel
theorem dX7_setName_22 : decode cX7_setName 22 = .ok (.invokestatic 65, 3) := by decide +kernel
theorem dX7_setName_25 : decode cX7_setName 25 = .ok (.iload 4, 2) := by decide +kernel
theorem dX7_setName_27 : decode cX7_setName 27 = .ok (.iastore, 1) := by decide +kernel
theorem dX7_setName_28 : decode cX7_setName 28 = .ok (.return_, 1) := by decide +kernel
set_option maxRecDepth 20000 in
theorem ggX7_setReference_X7_isAsked : GoodIn wsX7_setReference wsX7_isAsked := goodIn_r _ [6, 7, 8, 5, 9, 10, 11, 12, 13, 14, 15, 16, 17, 18, 19, 20, 21, 22, 23, 24, 25, 26, 27, 28, 29, 30, 31, 32, 33, 34, 35, 36, 37, 38, 39, 40, 41, 42, 43, 44, 45, 46, 47] rfl (by decide +kernel)
set_option maxRecDepth 20000 in
theorem gX7_setReference_X7_isAsked : GoodIn wsX7_setReference (wsV RX7 103 RX7 yX7_isAsked wsX7_isAsked) := goodIn_app (goodIn_r _ [2, 3, 4, 5] rfl (by decide +kernel)) ggX7_setReference_X7_isAsked
set_option maxRecDepth 20000 in
theorem ggX7_setReference_X7_knows : GoodIn wsX7_setReference wsX7_knows := goodIn_r _ [16, 17, 18, 19, 20, 21, 5, 22, 23, 24, 25, 26, 32, 33, 34, 35, 36, 37, 38, 39, 40, 41, 42, 43, 44, 45, 46, 47] rfl (by decide +kernel)
set_option maxRecDepth 20000 in
theorem gX7_setReference_X7_knows : GoodIn wsX7_setReference (wsV RX7 90 RX7 yX7_knows wsX7_knows) := goodIn_app (goodIn_r _ [13, 14, 15, 5] rfl (by decide +kernel)) ggX7_setReference_X7_knows
set_option maxRecDepth 20000 in
theorem ggX7_setReference_X7_holds : GoodIn wsX7_setReference wsX7_holds := goodIn_r _ [30, 31, 32, 33, 34, 35, 36, 37, 38, 39, 40, 41, 42, 43, 44, 45, 46, 47] rfl (by decide +kernel)
set_option maxRecDepth 20000 in
theorem gX7_setReference_X7_holds : GoodIn wsX7_setReference (wsV RX7 83 RX7 yX7_holds wsX7_holds) := goodIn_app (goodIn_r _ [27, 28, 29, 5] rfl (by decide +kernel)) ggX7_setReference_X7_holds
set_option maxRecDepth 20000 in
theorem ggX7_setReference_X7_at : GoodIn wsX7_setReference wsX7_at := goodIn_r _ [26] rfl (by decide +kernel)
set_option maxRecDepth 20000 in
theorem gX7_setReference_X7_at : GoodIn wsX7_setReference (va_wsS RX7 65 yX7_at wsX7_at) := goodIn_app (goodIn_r _ [24, 25, 5] rfl (by decide +kernel)) ggX7_setReference_X7_at
theorem dX7_setReference_0 : decode cX7_setReference 0 = .ok (.iload 4, 2) := by decide +kernel
theorem dX7_setReference_2 : decode cX7_setReference 2 = .ok (.iconst (-1), 1) := by decide +kernel
theorem dX7_setReference_3 : decode cX7_setReference 3 = .ok (.if_icmp .ne 7, 3) := by decide +kernel
theorem dX7_setReference_6 : decode cX7_setReference 6 = .ok (.iconst 1, 1) := by decide +kernel
theorem dX7_setReference_7 : decode cX7_setReference 7 = .ok (.goto 4, 3) := by decide +kernel
theorem dX7_setReference_10 : decode cX7_setReference 10 = .ok (.iconst 0, 1) := by decide +kernel
theorem dX7_setReference_11 : decode cX7_setReference 11 = .ok (.istore 5, 2) := by decide +kernel
theorem dX7_setReference_13 : decode cX7_setReference 13 = .ok (.aload_n 0, 1) := by decide +kernel
theorem dX7_setReference_14 : decode cX7_setReference 14 = .ok (.iload_n 1, 1) := by decide +kernel
theorem dX7_setReference_15 : decode cX7_setReference 15 = .ok (.iload_n 2, 1) := by decide +kernel
theorem dX7_setReference_16 : decode cX7_setReference 16 = .ok (.iload_n 3, 1) := by decide +kernel
theorem dX7_setReference_17 : decode cX7_setReference 17 = .ok (.iload 5, 2) := by decide +kernel
theorem dX7_setReference_19 : decode cX7_setReference 19 = .ok (.ifCond .eq 7, 3) := by decide +kernel
theorem dX7_setReference_22 : decode cX7_setReference 22 = .ok (.iload_n 2, 1) := by decide +kernel
theorem dX7_setReference_23 : decode cX7_setReference 23 = .ok (.ifCond .ne 7, 3) := by decide +kernel
theorem dX7_setReference_26 : decode cX7_setReference 26 = .ok (.iconst 1, 1) := by decide +kernel
theorem dX7_setReference_27 : decode cX7_setReference 27 = .ok (.goto 4, 3) := by decide +kernel
theorem dX7_setReference_30 : decode cX7_setReference 30 = .ok (.iconst 0, 1) := by decide +kernel
theorem dX7_setReference_31 : decode cX7_setReference 31 = .ok (.invokevirtual 103, 3) := by decide +kernel
theorem dX7_setReference_34 : decode cX7_setReference 34 = .ok (.istore 6, 2) := by decide +kernel
theorem dX7_setReference_36 : decode cX7_setReference 36 = .ok (.iload 6, 2) := by decide +kernel
theorem dX7_setReference_38 : decode cX7_setReference 38 = .ok (.ifCond .eq 46, 3) := by decide +kernel
theorem dX7_setReference_41 : decode cX7_setReference 41 = .ok (.aload_n 0, 1) := by decide +kernel
theorem dX7_setReference_42 : decode cX7_setReference 42 = .ok (.iload 5, 2) := by decide +kernel
theorem dX7_setReference_44 : decode cX7_setReference 44 = .ok (.ifCond .ne 16, 3) := by decide +kernel
theorem dX7_setReference_47 : decode cX7_setReference 47 = .ok (.aload_n 0, 1) := by decide +kernel
theorem dX7_setReference_48 : decode cX7_setReference 48 = .ok (.iload_n 1, 1) := by decide +kernel
theorem dX7_setReference_49 : decode cX7_setReference 49 = .ok (.iconst 1, 1) := by decide +kernel
theorem dX7_setReference_50 : decode cX7_setReference 50 = .ok (.iload_n 2, 1) := by decide +kernel
theorem dX7_setReference_51 : decode cX7_setReference 51 = .ok (.isub, 1) := by decide +kernel
theorem dX7_setReference_52 : decode cX7_setReference 52 = .ok (.iload 4, 2) := by decide +kernel
theorem dX7_setReference_54 : decode cX7_setReference 54 = .ok (.invokevirtual 90, 3) := by decide +kernel
theorem dX7_setReference_57 : decode cX7_setReference 57 = .ok (.ifCond .eq 7, 3) := by decide +kernel
theorem dX7_setReference_60 : decode cX7_setReference 60 = .ok (.iconst 0, 1) := by decide +kernel
theorem dX7_setReference_61 : decode cX7_setReference 61 = .ok (.goto 4, 3) := by decide +kernel
theorem dX7_setReference_64 : decode cX7_setReference 64 = .ok (.iconst 3, 1) := by decide +kernel
theorem dX7_setReference_65 : decode cX7_setReference 65 = .ok (.invokevirtual 83, 3) := by decide +kernel
theorem dX7_setReference_68 : decode cX7_setReference 68 = .ok (.ifCond .eq 16, 3) := by decide +kernel
theorem dX7_setReference_71 : decode cX7_setReference 71 = .ok (.aload_n 0, 1) := by decide +kernel
theorem dX7_setReference_72 : decode cX7_setReference 72 = .ok (.getfield 38, 3) := by decide +kernel
theorem dX7_setReference_75 : decode cX7_setReference 75 = .ok (.iload_n 1, 1) := by decide +kernel
theorem dX7_setReference_76 : decode cX7_setReference 76 = .ok (.iload_n 2, 1) := by decide +kernel
theorem dX7_setReference_77 : decode cX7_setReference 77 = .ok (.iload_n 3, 1) := by decide +kernel
theorem dX7_setReference_78 : decode cX7_setReference 78 = .ok (.invokestatic 65, 3) := by decide +kernel
theorem dX7_setReference_81 : decode cX7_setReference 81 = .ok (.iload 4, 2) := by decide +kernel
theorem dX7_setReference_83 : decode cX7_setReference 83 = .ok (.iastore, 1) := by decide +kernel
theorem dX7_setReference_84 : decode cX7_setReference 84 = .ok (.return_, 1) := by decide +kernel
set_option maxRecDepth 20000 in
theorem ggX7_goes_X7_at : GoodIn wsX7_goes wsX7_at := goodIn_r _ [6] rfl (by decide +kernel)
set_option maxRecDepth 20000 in
theorem gX7_goes_X7_at : GoodIn wsX7_goes (va_wsS RX7 65 yX7_at wsX7_at) := goodIn_app (goodIn_r _ [3, 4, 5] rfl (by decide +kernel)) ggX7_goes_X7_at
theorem dX7_goes_0 : decode cX7_goes 0 = .ok (.iload_n 1, 1) := by decide +kernel
theorem dX7_goes_1 : decode cX7_goes 1 = .ok (.iload_n 2, 1) := by decide +kernel
theorem dX7_goes_2 : decode cX7_goes 2 = .ok (.iload_n 3, 1) := by decide +kernel
theorem dX7_goes_3 : decode cX7_goes 3 = .ok (.invokestatic 65, 3) := by decide +kernel
theorem dX7_goes_6 : decode cX7_goes 6 = .ok (.istore 4, 2) := by decide +kernel
theorem dX7_goes_8 : decode cX7_goes 8 = .ok (.aload_n 0, 1) := by decide +kernel
theorem dX7_goes_9 : decode cX7_goes 9 = .ok (.getfield 32, 3) := by decide +kernel
theorem dX7_goes_12 : decode cX7_goes 12 = .ok (.iload 4, 2) := by decide +kernel
theorem dX7_goes_14 : decode cX7_goes 14 = .ok (.aload_n 0, 1) := by decide +kernel
theorem dX7_goes_15 : decode cX7_goes 15 = .ok (.getfield 29, 3) := by decide +kernel
theorem dX7_goes_18 : decode cX7_goes 18 = .ok (.iload 4, 2) := by decide +kernel
theorem dX7_goes_20 : decode cX7_goes 20 = .ok (.iaload, 1) := by decide +kernel
theorem dX7_goes_21 : decode cX7_goes 21 = .ok (.iconst 2, 1) := by decide +kernel
theorem dX7_goes_22 : decode cX7_goes 22 = .ok (.if_icmp .ne 7, 3) := by decide +kernel
theorem dX7_goes_25 : decode cX7_goes 25 = .ok (.iconst 1, 1) := by decide +kernel
theorem dX7_goes_26 : decode cX7_goes 26 = .ok (.goto 4, 3) := by decide +kernel
theorem dX7_goes_29 : decode cX7_goes 29 = .ok (.iconst 0, 1) := by decide +kernel
theorem dX7_goes_30 : decode cX7_goes 30 = .ok (.bastore, 1) := by decide +kernel
theorem dX7_goes_31 : decode cX7_goes 31 = .ok (.aload_n 0, 1) := by decide +kernel
theorem dX7_goes_32 : decode cX7_goes 32 = .ok (.getfield 29, 3) := by decide +kernel
theorem dX7_goes_35 : decode cX7_goes 35 = .ok (.iload 4, 2) := by decide +kernel
theorem dX7_goes_37 : decode cX7_goes 37 = .ok (.aload_n 0, 1) := by decide +kernel
theorem dX7_goes_38 : decode cX7_goes 38 = .ok (.getfield 29, 3) := by decide +kernel
theorem dX7_goes_41 : decode cX7_goes 41 = .ok (.iload 4, 2) := by decide +kernel
theorem dX7_goes_43 : decode cX7_goes 43 = .ok (.iaload, 1) := by decide +kernel
theorem dX7_goes_44 : decode cX7_goes 44 = .ok (.iconst 2, 1) := by decide +kernel
theorem dX7_goes_45 : decode cX7_goes 45 = .ok (.if_icmp .ne 7, 3) := by decide +kernel
theorem dX7_goes_48 : decode cX7_goes 48 = .ok (.iconst 2, 1) := by decide +kernel
theorem dX7_goes_49 : decode cX7_goes 49 = .ok (.goto 4, 3) := by decide +kernel
theorem dX7_goes_52 : decode cX7_goes 52 = .ok (.iconst 0, 1) := by decide +kernel
theorem dX7_goes_53 : decode cX7_goes 53 = .ok (.iastore, 1) := by decide +kernel
theorem dX7_goes_54 : decode cX7_goes 54 = .ok (.return_, 1) := by decide +kernel
set_option maxRecDepth 20000 in
theorem ggX7_removesBook_X7_goes : GoodIn wsX7_removesBook wsX7_goes := goodIn_r _ [7, 8, 9, 10, 11, 6, 12, 44, 45, 46, 47, 48, 49, 50, 51, 52, 53, 54, 55, 56, 57, 58, 59] rfl (by decide +kernel)
set_option maxRecDepth 20000 in
theorem gX7_removesBook_X7_goes : GoodIn wsX7_removesBook (wsV RX7 107 RX7 yX7_goes wsX7_goes) := goodIn_app (goodIn_r _ [3, 4, 5, 6] rfl (by decide +kernel)) ggX7_removesBook_X7_goes
set_option maxRecDepth 20000 in
theorem ggX7_removesBook_X7_loads : GoodIn wsX7_removesBook wsX7_loads := goodIn_r _ [16, 1, 17, 9, 18, 19, 20, 6, 21, 22, 23, 24, 25, 26, 27, 28, 29, 10, 11, 12, 30, 31, 32, 33, 8, 34, 35, 2, 36, 37, 38, 39, 44, 45, 46, 47, 48, 49, 50, 51, 52, 53, 54, 55, 56, 57, 58, 59] rfl (by decide +kernel)
set_option maxRecDepth 20000 in
theorem gX7_removesBook_X7_loads : GoodIn wsX7_removesBook (wsV RX7 97 RX7 yX7_loads wsX7_loads) := goodIn_app (goodIn_r _ [13, 14, 15, 6] rfl (by decide +kernel)) ggX7_removesBook_X7_loads
set_option maxRecDepth 20000 in
theorem ggX7_removesBook_X7_at : GoodIn wsX7_removesBook wsX7_at := goodIn_r _ [12] rfl (by decide +kernel)
set_option maxRecDepth 20000 in
theorem gX7_removesBook_X7_at : GoodIn wsX7_removesBook (va_wsS RX7 65 yX7_at wsX7_at) := goodIn_app (goodIn_r _ [10, 11, 6] rfl (by decide +kernel)) ggX7_removesBook_X7_at
set_option maxRecDepth 20000 in
theorem ggX7_removesBook_X7_knows : GoodIn wsX7_removesBook wsX7_knows := goodIn_r _ [43, 9, 8, 23, 24, 25, 6, 26, 1, 10, 11, 12, 44, 45, 46, 47, 48, 49, 50, 51, 52, 53, 54, 55, 56, 57, 58, 59] rfl (by decide +kernel)
set_option maxRecDepth 20000 in
theorem gX7_removesBook_X7_knows : GoodIn wsX7_removesBook (wsV RX7 90 RX7 yX7_knows wsX7_knows) := goodIn_app (goodIn_r _ [40, 41, 42, 6] rfl (by decide +kernel)) ggX7_removesBook_X7_knows
theorem dX7_removesBook_0 : decode cX7_removesBook 0 = .ok (.aload_n 0, 1) := by decide +kernel
theorem dX7_removesBook_1 : decode cX7_removesBook 1 = .ok (.iload_n 1, 1) := by decide +kernel
theorem dX7_removesBook_2 : decode cX7_removesBook 2 = .ok (.iconst 1, 1) := by decide +kernel
theorem dX7_removesBook_3 : decode cX7_removesBook 3 = .ok (.iload_n 2, 1) := by decide +kernel
theorem dX7_removesBook_4 : decode cX7_removesBook 4 = .ok (.invokevirtual 107, 3) := by decide +kernel
theorem dX7_removesBook_7 : decode cX7_removesBook 7 = .ok (.aload_n 0, 1) := by decide +kernel
theorem dX7_removesBook_8 : decode cX7_removesBook 8 = .ok (.iload_n 1, 1) := by decide +kernel
theorem dX7_removesBook_9 : decode cX7_removesBook 9 = .ok (.iconst 0, 1) := by decide +kernel
theorem dX7_removesBook_10 : decode cX7_removesBook 10 = .ok (.iload_n 2, 1) := by decide +kernel
theorem dX7_removesBook_11 : decode cX7_removesBook 11 = .ok (.invokevirtual 97, 3) := by decide +kernel
theorem dX7_removesBook_14 : decode cX7_removesBook 14 = .ok (.iconst 0, 1) := by decide +kernel
theorem dX7_removesBook_15 : decode cX7_removesBook 15 = .ok (.istore_n 3, 1) := by decide +kernel
theorem dX7_removesBook_16 : decode cX7_removesBook 16 = .ok (.iload_n 3, 1) := by decide +kernel
theorem dX7_removesBook_17 : decode cX7_removesBook 17 = .ok (.aload_n 0, 1) := by decide +kernel
theorem dX7_removesBook_18 : decode cX7_removesBook 18 = .ok (.getfield 7, 3) := by decide +kernel
theorem dX7_removesBook_21 : decode cX7_removesBook 21 = .ok (.iconst 0, 1) := by decide +kernel
theorem dX7_removesBook_22 : decode cX7_removesBook 22 = .ok (.iaload, 1) := by decide +kernel
theorem dX7_removesBook_23 : decode cX7_removesBook 23 = .ok (.if_icmp .ge 56, 3) := by decide +kernel
theorem dX7_removesBook_26 : decode cX7_removesBook 26 = .ok (.iload_n 1, 1) := by decide +kernel
theorem dX7_removesBook_27 : decode cX7_removesBook 27 = .ok (.iconst 0, 1) := by decide +kernel
theorem dX7_removesBook_28 : decode cX7_removesBook 28 = .ok (.iload_n 3, 1) := by decide +kernel
theorem dX7_removesBook_29 : decode cX7_removesBook 29 = .ok (.invokestatic 65, 3) := by decide +kernel
theorem dX7_removesBook_32 : decode cX7_removesBook 32 = .ok (.istore 4, 2) := by decide +kernel
theorem dX7_removesBook_34 : decode cX7_removesBook 34 = .ok (.aload_n 0, 1) := by decide +kernel
theorem dX7_removesBook_35 : decode cX7_removesBook 35 = .ok (.getfield 38, 3) := by decide +kernel
theorem dX7_removesBook_38 : decode cX7_removesBook 38 = .ok (.iload 4, 2) := by decide +kernel
theorem dX7_removesBook_40 : decode cX7_removesBook 40 = .ok (.aload_n 0, 1) := by decide +kernel
theorem dX7_removesBook_41 : decode cX7_removesBook 41 = .ok (.iload_n 1, 1) := by decide +kernel
theorem dX7_removesBook_42 : decode cX7_removesBook 42 = .ok (.iconst 0, 1) := by decide +kernel
theorem dX7_removesBook_43 : decode cX7_removesBook 43 = .ok (.iload_n 3, 1) := by decide +kernel
theorem dX7_removesBook_44 : decode cX7_removesBook 44 = .ok (.invokevirtual 90, 3) := by decide +kernel
theorem dX7_removesBook_47 : decode cX7_removesBook 47 = .ok (.ifCond .eq 18, 3) := by decide +kernel
theorem dX7_removesBook_50 : decode cX7_removesBook 50 = .ok (.aload_n 0, 1) := by decide +kernel
theorem dX7_removesBook_51 : decode cX7_removesBook 51 = .ok (.getfield 38, 3) := by decide +kernel
theorem dX7_removesBook_54 : decode cX7_removesBook 54 = .ok (.iload 4, 2) := by decide +kernel
theorem dX7_removesBook_56 : decode cX7_removesBook 56 = .ok (.iaload, 1) := by decide +kernel
theorem dX7_removesBook_57 : decode cX7_removesBook 57 = .ok (.iload_n 2, 1) := by decide +kernel
theorem dX7_removesBook_58 : decode cX7_removesBook 58 = .ok (.if_icmp .ne 7, 3) := by decide +kernel
theorem dX7_removesBook_61 : decode cX7_removesBook 61 = .ok (.iconst (-1), 1) := by decide +kernel
theorem dX7_removesBook_62 : decode cX7_removesBook 62 = .ok (.goto 10, 3) := by decide +kernel
theorem dX7_removesBook_65 : decode cX7_removesBook 65 = .ok (.aload_n 0, 1) := by decide +kernel
theorem dX7_removesBook_66 : decode cX7_removesBook 66 = .ok (.getfield 38, 3) := by decide +kernel
theorem dX7_removesBook_69 : decode cX7_removesBook 69 = .ok (.iload 4, 2) := by decide +kernel
theorem dX7_removesBook_71 : decode cX7_removesBook 71 = .ok (.iaload, 1) := by decide +kernel
theorem dX7_removesBook_72 : decode cX7_removesBook 72 = .ok (.iastore, 1) := by decide +kernel
theorem dX7_removesBook_73 : decode cX7_removesBook 73 = .ok (.iinc 3 1, 3) := by decide +kernel
theorem dX7_removesBook_76 : decode cX7_removesBook 76 = .ok (.goto (-60), 3) := by decide +kernel
theorem dX7_removesBook_79 : decode cX7_removesBook 79 = .ok (.return_, 1) := by decide +kernel
set_option maxRecDepth 20000 in
theorem ggX7_remove_X7_isAsked : GoodIn wsX7_remove wsX7_isAsked := goodIn_r _ [7, 8, 9, 6, 10, 11, 12, 13, 14, 15, 16, 17, 18, 19, 20, 21, 22, 23, 1, 24, 25, 26, 27, 28, 29, 30, 31, 63, 64, 65, 66, 67, 68, 69, 70, 71, 72, 73, 74, 75, 76, 77, 78] rfl (by decide +kernel)
set_option maxRecDepth 20000 in
theorem gX7_remove_X7_isAsked : GoodIn wsX7_remove (wsV RX7 103 RX7 yX7_isAsked wsX7_isAsked) := goodIn_app (goodIn_r _ [3, 4, 5, 6] rfl (by decide +kernel)) ggX7_remove_X7_isAsked
set_option maxRecDepth 20000 in
theorem ggX7_remove_X7_removesBook : GoodIn wsX7_remove wsX7_removesBook := goodIn_r _ [35, 1, 2, 36, 37, 38, 6, 39, 19, 18, 24, 25, 26, 40, 41, 42, 43, 44, 45, 46, 47, 48, 49, 20, 21, 22, 23, 50, 51, 52, 53, 54, 55, 56, 57, 58, 59, 60, 61, 62, 14, 15, 16, 17, 63, 64, 65, 66, 67, 68, 69, 70, 71, 72, 73, 74, 75, 76, 77, 78] rfl (by decide +kernel)
set_option maxRecDepth 20000 in
theorem gX7_remove_X7_removesBook : GoodIn wsX7_remove (wsV RX7 110 RX7 yX7_removesBook wsX7_removesBook) := goodIn_app (goodIn_r _ [32, 33, 34, 6] rfl (by decide +kernel)) ggX7_remove_X7_removesBook
set_option maxRecDepth 20000 in
theorem ggX7_remove_X7_loads : GoodIn wsX7_remove wsX7_loads := goodIn_r _ [43, 1, 44, 18, 45, 46, 47, 6, 48, 49, 20, 21, 22, 23, 50, 51, 52, 24, 25, 26, 53, 54, 55, 56, 19, 57, 58, 2, 59, 60, 61, 62, 63, 64, 65, 66, 67, 68, 69, 70, 71, 72, 73, 74, 75, 76, 77, 78] rfl (by decide +kernel)
set_option maxRecDepth 20000 in
theorem gX7_remove_X7_loads : GoodIn wsX7_remove (wsV RX7 97 RX7 yX7_loads wsX7_loads) := goodIn_app (goodIn_r _ [40, 41, 42, 6] rfl (by decide +kernel)) ggX7_remove_X7_loads
set_option maxRecDepth 20000 in
theorem ggX7_remove_X7_goes : GoodIn wsX7_remove wsX7_goes := goodIn_r _ [39, 19, 18, 24, 25, 6, 26, 63, 64, 65, 66, 67, 68, 69, 70, 71, 72, 73, 74, 75, 76, 77, 78] rfl (by decide +kernel)
set_option maxRecDepth 20000 in
theorem gX7_remove_X7_goes : GoodIn wsX7_remove (wsV RX7 107 RX7 yX7_goes wsX7_goes) := goodIn_app (goodIn_r _ [36, 37, 38, 6] rfl (by decide +kernel)) ggX7_remove_X7_goes
set_option maxRecDepth 20000 in
theorem ggX7_remove_X7_knows : GoodIn wsX7_remove wsX7_knows := goodIn_r _ [17, 18, 19, 20, 21, 22, 6, 23, 1, 24, 25, 26, 63, 64, 65, 66, 67, 68, 69, 70, 71, 72, 73, 74, 75, 76, 77, 78] rfl (by decide +kernel)
set_option maxRecDepth 20000 in
theorem gX7_remove_X7_knows : GoodIn wsX7_remove (wsV RX7 90 RX7 yX7_knows wsX7_knows) := goodIn_app (goodIn_r _ [14, 15, 16, 6] rfl (by decide +kernel)) ggX7_remove_X7_knows
set_option maxRecDepth 20000 in
theorem ggX7_remove_X7_at : GoodIn wsX7_remove wsX7_at := goodIn_r _ [26] rfl (by decide +kernel)
set_option maxRecDepth 20000 in
theorem gX7_remove_X7_at : GoodIn wsX7_remove (va_wsS RX7 65 yX7_at wsX7_at) := goodIn_app (goodIn_r _ [24, 25, 6] rfl (by decide +kernel)) ggX7_remove_X7_at
theorem dX7_remove_0 : decode cX7_remove 0 = .ok (.aload_n 0, 1) := by decide +kernel
theorem dX7_remove_1 : decode cX7_remove 1 = .ok (.iload_n 1, 1) := by decide +kernel
theorem dX7_remove_2 : decode cX7_remove 2 = .ok (.iload_n 2, 1) := by decide +kernel
theorem dX7_remove_3 : decode cX7_remove 3 = .ok (.iload_n 3, 1) := by decide +kernel
theorem dX7_remove_4 : decode cX7_remove 4 = .ok (.iconst 1, 1) := by decide +kernel
theorem dX7_remove_5 : decode cX7_remove 5 = .ok (.invokevirtual 103, 3) := by decide +kernel
theorem dX7_remove_8 : decode cX7_remove 8 = .ok (.ifCond .ne 5, 3) := by decide +kernel
theorem dX7_remove_11 : decode cX7_remove 11 = .ok (.iconst 0, 1) := by decide +kernel
theorem dX7_remove_12 : decode cX7_remove 12 = .ok (.ireturn, 1) := by decide +kernel
theorem dX7_remove_13 : decode cX7_remove 13 = .ok (.iload_n 2, 1) := by decide +kernel
theorem dX7_remove_14 : decode cX7_remove 14 = .ok (.iconst 1, 1) := by decide +kernel
theorem dX7_remove_15 : decode cX7_remove 15 = .ok (.if_icmp .ne 11, 3) := by decide +kernel
theorem dX7_remove_18 : decode cX7_remove 18 = .ok (.aload_n 0, 1) := by decide +kernel
theorem dX7_remove_19 : decode cX7_remove 19 = .ok (.iload_n 1, 1) := by decide +kernel
theorem dX7_remove_20 : decode cX7_remove 20 = .ok (.iload_n 3, 1) := by decide +kernel
theorem dX7_remove_21 : decode cX7_remove 21 = .ok (.invokevirtual 110, 3) := by decide +kernel
theorem dX7_remove_24 : decode cX7_remove 24 = .ok (.iconst 1, 1) := by decide +kernel
theorem dX7_remove_25 : decode cX7_remove 25 = .ok (.ireturn, 1) := by decide +kernel
theorem dX7_remove_26 : decode cX7_remove 26 = .ok (.aload_n 0, 1) := by decide +kernel
theorem dX7_remove_27 : decode cX7_remove 27 = .ok (.iload_n 1, 1) := by decide +kernel
theorem dX7_remove_28 : decode cX7_remove 28 = .ok (.iconst 1, 1) := by decide +kernel
theorem dX7_remove_29 : decode cX7_remove 29 = .ok (.iload_n 3, 1) := by decide +kernel
theorem dX7_remove_30 : decode cX7_remove 30 = .ok (.invokevirtual 97, 3) := by decide +kernel
theorem dX7_remove_33 : decode cX7_remove 33 = .ok (.aload_n 0, 1) := by decide +kernel
theorem dX7_remove_34 : decode cX7_remove 34 = .ok (.iload_n 1, 1) := by decide +kernel
theorem dX7_remove_35 : decode cX7_remove 35 = .ok (.iconst 0, 1) := by decide +kernel
theorem dX7_remove_36 : decode cX7_remove 36 = .ok (.iload_n 3, 1) := by decide +kernel
theorem dX7_remove_37 : decode cX7_remove 37 = .ok (.invokevirtual 107, 3) := by decide +kernel
theorem dX7_remove_40 : decode cX7_remove 40 = .ok (.iconst 1, 1) := by decide +kernel
theorem dX7_remove_41 : decode cX7_remove 41 = .ok (.istore 4, 2) := by decide +kernel
theorem dX7_remove_43 : decode cX7_remove 43 = .ok (.iconst 0, 1) := by decide +kernel
theorem dX7_remove_44 : decode cX7_remove 44 = .ok (.istore 5, 2) := by decide +kernel
theorem dX7_remove_46 : decode cX7_remove 46 = .ok (.iload 5, 2) := by decide +kernel
theorem dX7_remove_48 : decode cX7_remove 48 = .ok (.aload_n 0, 1) := by decide +kernel
theorem dX7_remove_49 : decode cX7_remove 49 = .ok (.getfield 7, 3) := by decide +kernel
theorem dX7_remove_52 : decode cX7_remove 52 = .ok (.iconst 1, 1) := by decide +kernel
theorem dX7_remove_53 : decode cX7_remove 53 = .ok (.iaload, 1) := by decide +kernel
theorem dX7_remove_54 : decode cX7_remove 54 = .ok (.if_icmp .ge 46, 3) := by decide +kernel
theorem dX7_remove_57 : decode cX7_remove 57 = .ok (.aload_n 0, 1) := by decide +kernel
theorem dX7_remove_58 : decode cX7_remove 58 = .ok (.iload_n 1, 1) := by decide +kernel
theorem dX7_remove_59 : decode cX7_remove 59 = .ok (.iconst 1, 1) := by decide +kernel
theorem dX7_remove_60 : decode cX7_remove 60 = .ok (.iload 5, 2) := by decide +kernel
theorem dX7_remove_62 : decode cX7_remove 62 = .ok (.invokevirtual 90, 3) := by decide +kernel
theorem dX7_remove_65 : decode cX7_remove 65 = .ok (.ifCond .eq 29, 3) := by decide +kernel
theorem dX7_remove_68 : decode cX7_remove 68 = .ok (.aload_n 0, 1) := by decide +kernel
theorem dX7_remove_69 : decode cX7_remove 69 = .ok (.getfield 38, 3) := by decide +kernel
theorem dX7_remove_72 : decode cX7_remove 72 = .ok (.iload_n 1, 1) := by decide +kernel
theorem dX7_remove_73 : decode cX7_remove 73 = .ok (.iconst 1, 1) := by decide +kernel
theorem dX7_remove_74 : decode cX7_remove 74 = .ok (.iload 5, 2) := by decide +kernel
theorem dX7_remove_76 : decode cX7_remove 76 = .ok (.invokestatic 65, 3) := by decide +kernel
theorem dX7_remove_79 : decode cX7_remove 79 = .ok (.iaload, 1) := by decide +kernel
theorem dX7_remove_80 : decode cX7_remove 80 = .ok (.iload_n 3, 1) := by decide +kernel
theorem dX7_remove_81 : decode cX7_remove 81 = .ok (.if_icmp .ne 13, 3) := by decide +kernel
theorem dX7_remove_84 : decode cX7_remove 84 = .ok (.aload_n 0, 1) := by decide +kernel
theorem dX7_remove_85 : decode cX7_remove 85 = .ok (.iload_n 1, 1) := by decide +kernel
theorem dX7_remove_86 : decode cX7_remove 86 = .ok (.iload 5, 2) := by decide +kernel
theorem dX7_remove_88 : decode cX7_remove 88 = .ok (.invokevirtual 110, 3) := by decide +kernel
theorem dX7_remove_91 : decode cX7_remove 91 = .ok (.iinc 4 1, 3) := by decide +kernel
theorem dX7_remove_94 : decode cX7_remove 94 = .ok (.iinc 5 1, 3) := by decide +kernel
theorem dX7_remove_97 : decode cX7_remove 97 = .ok (.goto (-51), 3) := by decide +kernel
theorem dX7_remove_100 : decode cX7_remove 100 = .ok (.iload 4, 2) := by decide +kernel
theorem dX7_remove_102 : decode cX7_remove 102 = .ok (.ireturn, 1) := by decide +kernel
set_option maxRecDepth 20000 in
theorem ggX7_name_X7_isAsked : GoodIn wsX7_name wsX7_isAsked := goodIn_r _ [6, 7, 8, 5, 9, 10, 11, 12, 13, 14, 15, 16, 17, 18, 19, 20, 21, 22, 23, 24, 25, 26, 27, 28, 29, 30, 31, 32, 33, 34, 35, 36, 37, 38, 39, 40, 41, 42, 43, 44, 45, 46, 47] rfl (by decide +kernel)
set_option maxRecDepth 20000 in
theorem gX7_name_X7_isAsked : GoodIn wsX7_name (wsV RX7 103 RX7 yX7_isAsked wsX7_isAsked) := goodIn_app (goodIn_r _ [2, 3, 4, 5] rfl (by decide +kernel)) ggX7_name_X7_isAsked
set_option maxRecDepth 20000 in
theorem ggX7_name_X7_at : GoodIn wsX7_name wsX7_at := goodIn_r _ [26] rfl (by decide +kernel)
set_option maxRecDepth 20000 in
theorem gX7_name_X7_at : GoodIn wsX7_name (va_wsS RX7 65 yX7_at wsX7_at) := goodIn_app (goodIn_r _ [24, 25, 5] rfl (by decide +kernel)) ggX7_name_X7_at
theorem dX7_name_0 : decode cX7_name 0 = .ok (.aload_n 0, 1) := by decide +kernel
theorem dX7_name_1 : decode cX7_name 1 = .ok (.iload_n 1, 1) := by decide +kernel
theorem dX7_name_2 : decode cX7_name 2 = .ok (.iload_n 2, 1) := by decide +kernel
theorem dX7_name_3 : decode cX7_name 3 = .ok (.iload_n 3, 1) := by decide +kernel
theorem dX7_name_4 : decode cX7_name 4 = .ok (.iconst 1, 1) := by decide +kernel
theorem dX7_name_5 : decode cX7_name 5 = .ok (.invokevirtual 103, 3) := by decide +kernel
theorem dX7_name_8 : decode cX7_name 8 = .ok (.ifCond .eq 17, 3) := by decide +kernel
theorem dX7_name_11 : decode cX7_name 11 = .ok (.aload_n 0, 1) := by decide +kernel
theorem dX7_name_12 : decode cX7_name 12 = .ok (.getfield 35, 3) := by decide +kernel
theorem dX7_name_15 : decode cX7_name 15 = .ok (.iload_n 1, 1) := by decide +kernel
theorem dX7_name_16 : decode cX7_name 16 = .ok (.iload_n 2, 1) := by decide +kernel
theorem dX7_name_17 : decode cX7_name 17 = .ok (.iload_n 3, 1) := by decide +kernel
theorem dX7_name_18 : decode cX7_name 18 = .ok (.invokestatic 65, 3) := by decide +kernel
theorem dX7_name_21 : decode cX7_name 21 = .ok (.iaload, 1) := by decide +kernel
theorem dX7_name_22 : decode cX7_name 22 = .ok (.goto 4, 3) := by decide +kernel
theorem dX7_name_25 : decode cX7_name 25 = .ok (.iconst 0, 1) := by decide +kernel
theorem dX7_name_26 : decode cX7_name 26 = .ok (.ireturn, 1) := by decide +kernel
set_option maxRecDepth 20000 in
theorem ggX7_reference_X7_isAsked : GoodIn wsX7_reference wsX7_isAsked := goodIn_r _ [6, 7, 8, 5, 9, 10, 11, 12, 13, 14, 15, 16, 17, 18, 19, 20, 21, 22, 23, 24, 25, 26, 27, 28, 29, 30, 31, 32, 33, 34, 35, 36, 37, 38, 39, 40, 41, 42, 43, 44, 45, 46, 47] rfl (by decide +kernel)
set_option maxRecDepth 20000 in
theorem gX7_reference_X7_isAsked : GoodIn wsX7_reference (wsV RX7 103 RX7 yX7_isAsked wsX7_isAsked) := goodIn_app (goodIn_r _ [2, 3, 4, 5] rfl (by decide +kernel)) ggX7_reference_X7_isAsked
set_option maxRecDepth 20000 in
theorem ggX7_reference_X7_at : GoodIn wsX7_reference wsX7_at := goodIn_r _ [26] rfl (by decide +kernel)
set_option maxRecDepth 20000 in
theorem gX7_reference_X7_at : GoodIn wsX7_reference (va_wsS RX7 65 yX7_at wsX7_at) := goodIn_app (goodIn_r _ [24, 25, 5] rfl (by decide +kernel)) ggX7_reference_X7_at
theorem dX7_reference_0 : decode cX7_reference 0 = .ok (.aload_n 0, 1) := by decide +kernel
theorem dX7_reference_1 : decode cX7_reference 1 = .ok (.iload_n 1, 1) := by decide +kernel
theorem dX7_reference_2 : decode cX7_reference 2 = .ok (.iload_n 2, 1) := by decide +kernel
theorem dX7_reference_3 : decode cX7_reference 3 = .ok (.iload_n 3, 1) := by decide +kernel
theorem dX7_reference_4 : decode cX7_reference 4 = .ok (.iconst 1, 1) := by decide +kernel
theorem dX7_reference_5 : decode cX7_reference 5 = .ok (.invokevirtual 103, 3) := by decide +kernel
theorem dX7_reference_8 : decode cX7_reference 8 = .ok (.ifCond .eq 17, 3) := by decide +kernel
theorem dX7_reference_11 : decode cX7_reference 11 = .ok (.aload_n 0, 1) := by decide +kernel
theorem dX7_reference_12 : decode cX7_reference 12 = .ok (.getfield 38, 3) := by decide +kernel
theorem dX7_reference_15 : decode cX7_reference 15 = .ok (.iload_n 1, 1) := by decide +kernel
theorem dX7_reference_16 : decode cX7_reference 16 = .ok (.iload_n 2, 1) := by decide +kernel
theorem dX7_reference_17 : decode cX7_reference 17 = .ok (.iload_n 3, 1) := by decide +kernel
theorem dX7_reference_18 : decode cX7_reference 18 = .ok (.invokestatic 65, 3) := by decide +kernel
theorem dX7_reference_21 : decode cX7_reference 21 = .ok (.iaload, 1) := by decide +kernel
theorem dX7_reference_22 : decode cX7_reference 22 = .ok (.goto 4, 3) := by decide +kernel
theorem dX7_reference_25 : decode cX7_reference 25 = .ok (.iconst 0, 1) := by decide +kernel
theorem dX7_reference_26 : decode cX7_reference 26 = .ok (.ireturn, 1) := by decide +kernel
set_option maxRecDepth 20000 in
theorem ggX7_knownOf_X7_knows : GoodIn wsX7_knownOf wsX7_knows := goodIn_r _ [6, 7, 8, 9, 10, 11, 5, 12, 1, 13, 14, 15, 16, 17, 18, 19, 20, 21, 22, 23, 24, 25, 26, 27, 28, 29, 30, 31] rfl (by decide +kernel)
set_option maxRecDepth 20000 in
theorem gX7_knownOf_X7_knows : GoodIn wsX7_knownOf (wsV RX7 90 RX7 yX7_knows wsX7_knows) := goodIn_app (goodIn_r _ [2, 3, 4, 5] rfl (by decide +kernel)) ggX7_knownOf_X7_knows
theorem dX7_knownOf_0 : decode cX7_knownOf 0 = .ok (.iconst 0, 1) := by decide +kernel
theorem dX7_knownOf_1 : decode cX7_knownOf 1 = .ok (.istore_n 2, 1) := by decide +kernel
theorem dX7_knownOf_2 : decode cX7_knownOf 2 = .ok (.iconst 0, 1) := by decide +kernel
theorem dX7_knownOf_3 : decode cX7_knownOf 3 = .ok (.istore_n 3, 1) := by decide +kernel
theorem dX7_knownOf_4 : decode cX7_knownOf 4 = .ok (.iload_n 3, 1) := by decide +kernel
theorem dX7_knownOf_5 : decode cX7_knownOf 5 = .ok (.iconst 1, 1) := by decide +kernel
theorem dX7_knownOf_6 : decode cX7_knownOf 6 = .ok (.if_icmp .gt 48, 3) := by decide +kernel
theorem dX7_knownOf_9 : decode cX7_knownOf 9 = .ok (.iconst 0, 1) := by decide +kernel
theorem dX7_knownOf_10 : decode cX7_knownOf 10 = .ok (.istore 4, 2) := by decide +kernel
theorem dX7_knownOf_12 : decode cX7_knownOf 12 = .ok (.iload 4, 2) := by decide +kernel
theorem dX7_knownOf_14 : decode cX7_knownOf 14 = .ok (.aload_n 0, 1) := by decide +kernel
theorem dX7_knownOf_15 : decode cX7_knownOf 15 = .ok (.getfield 7, 3) := by decide +kernel
theorem dX7_knownOf_18 : decode cX7_knownOf 18 = .ok (.iload_n 3, 1) := by decide +kernel
theorem dX7_knownOf_19 : decode cX7_knownOf 19 = .ok (.iaload, 1) := by decide +kernel
theorem dX7_knownOf_20 : decode cX7_knownOf 20 = .ok (.if_icmp .ge 28, 3) := by decide +kernel
theorem dX7_knownOf_23 : decode cX7_knownOf 23 = .ok (.iload_n 2, 1) := by decide +kernel
theorem dX7_knownOf_24 : decode cX7_knownOf 24 = .ok (.aload_n 0, 1) := by decide +kernel
theorem dX7_knownOf_25 : decode cX7_knownOf 25 = .ok (.iload_n 1, 1) := by decide +kernel
theorem dX7_knownOf_26 : decode cX7_knownOf 26 = .ok (.iload_n 3, 1) := by decide +kernel
theorem dX7_knownOf_27 : decode cX7_knownOf 27 = .ok (.iload 4, 2) := by decide +kernel
theorem dX7_knownOf_29 : decode cX7_knownOf 29 = .ok (.invokevirtual 90, 3) := by decide +kernel
theorem dX7_knownOf_32 : decode cX7_knownOf 32 = .ok (.ifCond .eq 7, 3) := by decide +kernel
theorem dX7_knownOf_35 : decode cX7_knownOf 35 = .ok (.iconst 1, 1) := by decide +kernel
theorem dX7_knownOf_36 : decode cX7_knownOf 36 = .ok (.goto 4, 3) := by decide +kernel
theorem dX7_knownOf_39 : decode cX7_knownOf 39 = .ok (.iconst 0, 1) := by decide +kernel
theorem dX7_knownOf_40 : decode cX7_knownOf 40 = .ok (.iadd, 1) := by decide +kernel
theorem dX7_knownOf_41 : decode cX7_knownOf 41 = .ok (.istore_n 2, 1) := by decide +kernel
theorem dX7_knownOf_42 : decode cX7_knownOf 42 = .ok (.iinc 4 1, 3) := by decide +kernel
theorem dX7_knownOf_45 : decode cX7_knownOf 45 = .ok (.goto (-33), 3) := by decide +kernel
theorem dX7_knownOf_48 : decode cX7_knownOf 48 = .ok (.iinc 3 1, 3) := by decide +kernel
theorem dX7_knownOf_51 : decode cX7_knownOf 51 = .ok (.goto (-47), 3) := by decide +kernel
theorem dX7_knownOf_54 : decode cX7_knownOf 54 = .ok (.iload_n 2, 1) := by decide +kernel
theorem dX7_knownOf_55 : decode cX7_knownOf 55 = .ok (.ireturn, 1) := by decide +kernel
set_option maxRecDepth 20000 in
theorem ggX7_known_X7_isSession : GoodIn wsX7_known wsX7_isSession := goodIn_r _ [4] rfl (by decide +kernel)
set_option maxRecDepth 20000 in
theorem gX7_known_X7_isSession : GoodIn wsX7_known (va_wsS RX7 76 yX7_isSession wsX7_isSession) := goodIn_app (goodIn_r _ [1, 2, 3] rfl (by decide +kernel)) ggX7_known_X7_isSession
set_option maxRecDepth 20000 in
theorem ggX7_known_X7_holds : GoodIn wsX7_known wsX7_holds := goodIn_r _ [8, 9, 28, 29, 30, 31, 32, 33, 34, 35, 36, 37, 38, 39, 40, 41, 42, 43] rfl (by decide +kernel)
set_option maxRecDepth 20000 in
theorem gX7_known_X7_holds : GoodIn wsX7_known (wsV RX7 83 RX7 yX7_holds wsX7_holds) := goodIn_app (goodIn_r _ [5, 6, 7, 3] rfl (by decide +kernel)) ggX7_known_X7_holds
set_option maxRecDepth 20000 in
theorem ggX7_known_X7_knownOf : GoodIn wsX7_known wsX7_knownOf := goodIn_r _ [13, 14, 15, 16, 17, 3, 18, 19, 20, 21, 22, 23, 24, 25, 26, 27, 28, 29, 30, 31, 32, 33, 34, 35, 36, 37, 38, 39, 40, 41, 42, 43] rfl (by decide +kernel)
set_option maxRecDepth 20000 in
theorem gX7_known_X7_knownOf : GoodIn wsX7_known (wsV RX7 114 RX7 yX7_knownOf wsX7_knownOf) := goodIn_app (goodIn_r _ [10, 11, 12, 3] rfl (by decide +kernel)) ggX7_known_X7_knownOf
theorem dX7_known_0 : decode cX7_known 0 = .ok (.aload_n 0, 1) := by decide +kernel
theorem dX7_known_1 : decode cX7_known 1 = .ok (.iload_n 1, 1) := by decide +kernel
theorem dX7_known_2 : decode cX7_known 2 = .ok (.invokestatic 76, 3) := by decide +kernel
theorem dX7_known_5 : decode cX7_known 5 = .ok (.ifCond .eq 7, 3) := by decide +kernel
theorem dX7_known_8 : decode cX7_known 8 = .ok (.iconst 0, 1) := by decide +kernel
theorem dX7_known_9 : decode cX7_known 9 = .ok (.goto 4, 3) := by decide +kernel
theorem dX7_known_12 : decode cX7_known 12 = .ok (.iconst 1, 1) := by decide +kernel
theorem dX7_known_13 : decode cX7_known 13 = .ok (.invokevirtual 83, 3) := by decide +kernel
theorem dX7_known_16 : decode cX7_known 16 = .ok (.ifCond .eq 11, 3) := by decide +kernel
theorem dX7_known_19 : decode cX7_known 19 = .ok (.aload_n 0, 1) := by decide +kernel
theorem dX7_known_20 : decode cX7_known 20 = .ok (.iload_n 1, 1) := by decide +kernel
theorem dX7_known_21 : decode cX7_known 21 = .ok (.invokevirtual 114, 3) := by decide +kernel
theorem dX7_known_24 : decode cX7_known 24 = .ok (.goto 4, 3) := by decide +kernel
theorem dX7_known_27 : decode cX7_known 27 = .ok (.iconst 0, 1) := by decide +kernel
theorem dX7_known_28 : decode cX7_known 28 = .ok (.ireturn, 1) := by decide +kernel
set_option maxRecDepth 20000 in
theorem ggX7_isDirty_X7_at : GoodIn wsX7_isDirty wsX7_at := goodIn_r _ [9] rfl (by decide +kernel)
set_option maxRecDepth 20000 in
theorem gX7_isDirty_X7_at : GoodIn wsX7_isDirty (va_wsS RX7 65 yX7_at wsX7_at) := goodIn_app (goodIn_r _ [6, 7, 8] rfl (by decide +kernel)) ggX7_isDirty_X7_at
set_option maxRecDepth 20000 in
theorem ggX7_isDirty_X7_knows : GoodIn wsX7_isDirty wsX7_knows := goodIn_r _ [13, 1, 14, 15, 16, 17, 8, 18, 19, 6, 7, 9, 20, 21, 22, 23, 24, 25, 26, 27, 28, 29, 30, 31, 32, 33, 34, 35] rfl (by decide +kernel)
set_option maxRecDepth 20000 in
theorem gX7_isDirty_X7_knows : GoodIn wsX7_isDirty (wsV RX7 90 RX7 yX7_knows wsX7_knows) := goodIn_app (goodIn_r _ [10, 11, 12, 8] rfl (by decide +kernel)) ggX7_isDirty_X7_knows
theorem dX7_isDirty_0 : decode cX7_isDirty 0 = .ok (.iload_n 1, 1) := by decide +kernel
theorem dX7_isDirty_1 : decode cX7_isDirty 1 = .ok (.iload_n 2, 1) := by decide +kernel
theorem dX7_isDirty_2 : decode cX7_isDirty 2 = .ok (.iload_n 3, 1) := by decide +kernel
theorem dX7_isDirty_3 : decode cX7_isDirty 3 = .ok (.invokestatic 65, 3) := by decide +kernel
theorem dX7_isDirty_6 : decode cX7_isDirty 6 = .ok (.istore 4, 2) := by decide +kernel
theorem dX7_isDirty_8 : decode cX7_isDirty 8 = .ok (.aload_n 0, 1) := by decide +kernel
theorem dX7_isDirty_9 : decode cX7_isDirty 9 = .ok (.iload_n 1, 1) := by decide +kernel
theorem dX7_isDirty_10 : decode cX7_isDirty 10 = .ok (.iload_n 2, 1) := by decide +kernel
theorem dX7_isDirty_11 : decode cX7_isDirty 11 = .ok (.iload_n 3, 1) := by decide +kernel
theorem dX7_isDirty_12 : decode cX7_isDirty 12 = .ok (.invokevirtual 90, 3) := by decide +kernel
theorem dX7_isDirty_15 : decode cX7_isDirty 15 = .ok (.ifCond .eq 52, 3) := by decide +kernel
theorem dX7_isDirty_18 : decode cX7_isDirty 18 = .ok (.aload_n 0, 1) := by decide +kernel
theorem dX7_isDirty_19 : decode cX7_isDirty 19 = .ok (.getfield 29, 3) := by decide +kernel
theorem dX7_isDirty_22 : decode cX7_isDirty 22 = .ok (.iload 4, 2) := by decide +kernel
theorem dX7_isDirty_24 : decode cX7_isDirty 24 = .ok (.iaload, 1) := by decide +kernel
theorem dX7_isDirty_25 : decode cX7_isDirty 25 = .ok (.iconst 2, 1) := by decide +kernel
theorem dX7_isDirty_26 : decode cX7_isDirty 26 = .ok (.if_icmp .ne 41, 3) := by decide +kernel
theorem dX7_isDirty_29 : decode cX7_isDirty 29 = .ok (.aload_n 0, 1) := by decide +kernel
theorem dX7_isDirty_30 : decode cX7_isDirty 30 = .ok (.getfield 35, 3) := by decide +kernel
theorem dX7_isDirty_33 : decode cX7_isDirty 33 = .ok (.iload 4, 2) := by decide +kernel
theorem dX7_isDirty_35 : decode cX7_isDirty 35 = .ok (.iaload, 1) := by decide +kernel
theorem dX7_isDirty_36 : decode cX7_isDirty 36 = .ok (.aload_n 0, 1) := by decide +kernel
theorem dX7_isDirty_37 : decode cX7_isDirty 37 = .ok (.getfield 41, 3) := by decide +kernel
theorem dX7_isDirty_40 : decode cX7_isDirty 40 = .ok (.iload 4, 2) := by decide +kernel
theorem dX7_isDirty_42 : decode cX7_isDirty 42 = .ok (.iaload, 1) := by decide +kernel
theorem dX7_isDirty_43 : decode cX7_isDirty 43 = .ok (.if_icmp .ne 20, 3) := by decide +kernel
theorem dX7_isDirty_46 : decode cX7_isDirty 46 = .ok (.aload_n 0, 1) := by decide +kernel
theorem dX7_isDirty_47 : decode cX7_isDirty 47 = .ok (.getfield 38, 3) := by decide +kernel
theorem dX7_isDirty_50 : decode cX7_isDirty 50 = .ok (.iload 4, 2) := by decide +kernel
theorem dX7_isDirty_52 : decode cX7_isDirty 52 = .ok (.iaload, 1) := by decide +kernel
theorem dX7_isDirty_53 : decode cX7_isDirty 53 = .ok (.aload_n 0, 1) := by decide +kernel
theorem dX7_isDirty_54 : decode cX7_isDirty 54 = .ok (.getfield 44, 3) := by decide +kernel
theorem dX7_isDirty_57 : decode cX7_isDirty 57 = .ok (.iload 4, 2) := by decide +kernel
theorem dX7_isDirty_59 : decode cX7_isDirty 59 = .ok (.iaload, 1) := by decide +kernel
theorem dX7_isDirty_60 : decode cX7_isDirty 60 = .ok (.if_icmp .eq 7, 3) := by decide +kernel
theorem dX7_isDirty_63 : decode cX7_isDirty 63 = .ok (.iconst 1, 1) := by decide +kernel
theorem dX7_isDirty_64 : decode cX7_isDirty 64 = .ok (.goto 4, 3) := by decide +kernel
theorem dX7_isDirty_67 : decode cX7_isDirty 67 = .ok (.iconst 0, 1) := by decide +kernel
theorem dX7_isDirty_68 : decode cX7_isDirty 68 = .ok (.ireturn, 1) := by decide +kernel
set_option maxRecDepth 20000 in
theorem ggX7_dirty_X7_isSession : GoodIn wsX7_dirty wsX7_isSession := goodIn_r _ [5] rfl (by decide +kernel)
set_option maxRecDepth 20000 in
theorem gX7_dirty_X7_isSession : GoodIn wsX7_dirty (va_wsS RX7 76 yX7_isSession wsX7_isSession) := goodIn_app (goodIn_r _ [2, 3, 4] rfl (by decide +kernel)) ggX7_dirty_X7_isSession
set_option maxRecDepth 20000 in
theorem ggX7_dirty_X7_holds : GoodIn wsX7_dirty wsX7_holds := goodIn_r _ [9, 10, 32, 33, 34, 35, 36, 37, 38, 39, 40, 41, 42, 43, 44, 45, 46, 47] rfl (by decide +kernel)
set_option maxRecDepth 20000 in
theorem gX7_dirty_X7_holds : GoodIn wsX7_dirty (wsV RX7 83 RX7 yX7_holds wsX7_holds) := goodIn_app (goodIn_r _ [6, 7, 8, 4] rfl (by decide +kernel)) ggX7_dirty_X7_holds
set_option maxRecDepth 20000 in
theorem ggX7_dirty_X7_isDirty : GoodIn wsX7_dirty wsX7_isDirty := goodIn_r _ [14, 15, 16, 17, 18, 19, 20, 21, 4, 22, 23, 24, 25, 26, 27, 28, 29, 30, 31, 1, 32, 33, 34, 35, 36, 37, 38, 39, 40, 41, 42, 43, 44, 45, 46, 47] rfl (by decide +kernel)
set_option maxRecDepth 20000 in
theorem gX7_dirty_X7_isDirty : GoodIn wsX7_dirty (wsV RX7 118 RX7 yX7_isDirty wsX7_isDirty) := goodIn_app (goodIn_r _ [11, 12, 13, 4] rfl (by decide +kernel)) ggX7_dirty_X7_isDirty
theorem dX7_dirty_0 : decode cX7_dirty 0 = .ok (.aload_n 0, 1) := by decide +kernel
theorem dX7_dirty_1 : decode cX7_dirty 1 = .ok (.iload_n 1, 1) := by decide +kernel
theorem dX7_dirty_2 : decode cX7_dirty 2 = .ok (.invokestatic 76, 3) := by decide +kernel
theorem dX7_dirty_5 : decode cX7_dirty 5 = .ok (.ifCond .eq 7, 3) := by decide +kernel
theorem dX7_dirty_8 : decode cX7_dirty 8 = .ok (.iconst 0, 1) := by decide +kernel
theorem dX7_dirty_9 : decode cX7_dirty 9 = .ok (.goto 4, 3) := by decide +kernel
theorem dX7_dirty_12 : decode cX7_dirty 12 = .ok (.iconst 1, 1) := by decide +kernel
theorem dX7_dirty_13 : decode cX7_dirty 13 = .ok (.invokevirtual 83, 3) := by decide +kernel
theorem dX7_dirty_16 : decode cX7_dirty 16 = .ok (.ifCond .ne 5, 3) := by decide +kernel
theorem dX7_dirty_19 : decode cX7_dirty 19 = .ok (.iconst 0, 1) := by decide +kernel
theorem dX7_dirty_20 : decode cX7_dirty 20 = .ok (.ireturn, 1) := by decide +kernel
theorem dX7_dirty_21 : decode cX7_dirty 21 = .ok (.iconst 0, 1) := by decide +kernel
theorem dX7_dirty_22 : decode cX7_dirty 22 = .ok (.istore_n 2, 1) := by decide +kernel
theorem dX7_dirty_23 : decode cX7_dirty 23 = .ok (.iconst 0, 1) := by decide +kernel
theorem dX7_dirty_24 : decode cX7_dirty 24 = .ok (.istore_n 3, 1) := by decide +kernel
theorem dX7_dirty_25 : decode cX7_dirty 25 = .ok (.iload_n 3, 1) := by decide +kernel
theorem dX7_dirty_26 : decode cX7_dirty 26 = .ok (.iconst 1, 1) := by decide +kernel
theorem dX7_dirty_27 : decode cX7_dirty 27 = .ok (.if_icmp .gt 48, 3) := by decide +kernel
theorem dX7_dirty_30 : decode cX7_dirty 30 = .ok (.iconst 0, 1) := by decide +kernel
theorem dX7_dirty_31 : decode cX7_dirty 31 = .ok (.istore 4, 2) := by decide +kernel
theorem dX7_dirty_33 : decode cX7_dirty 33 = .ok (.iload 4, 2) := by decide +kernel
theorem dX7_dirty_35 : decode cX7_dirty 35 = .ok (.aload_n 0, 1) := by decide +kernel
theorem dX7_dirty_36 : decode cX7_dirty 36 = .ok (.getfield 7, 3) := by decide +kernel
theorem dX7_dirty_39 : decode cX7_dirty 39 = .ok (.iload_n 3, 1) := by decide +kernel
theorem dX7_dirty_40 : decode cX7_dirty 40 = .ok (.iaload, 1) := by decide +kernel
theorem dX7_dirty_41 : decode cX7_dirty 41 = .ok (.if_icmp .ge 28, 3) := by decide +kernel
theorem dX7_dirty_44 : decode cX7_dirty 44 = .ok (.iload_n 2, 1) := by decide +kernel
theorem dX7_dirty_45 : decode cX7_dirty 45 = .ok (.aload_n 0, 1) := by decide +kernel
theorem dX7_dirty_46 : decode cX7_dirty 46 = .ok (.iload_n 1, 1) := by decide +kernel
theorem dX7_dirty_47 : decode cX7_dirty 47 = .ok (.iload_n 3, 1) := by decide +kernel
theorem dX7_dirty_48 : decode cX7_dirty 48 = .ok (.iload 4, 2) := by decide +kernel
theorem dX7_dirty_50 : decode cX7_dirty 50 = .ok (.invokevirtual 118, 3) := by decide +kernel
theorem dX7_dirty_53 : decode cX7_dirty 53 = .ok (.ifCond .eq 7, 3) := by decide +kernel
theorem dX7_dirty_56 : decode cX7_dirty 56 = .ok (.iconst 1, 1) := by decide +kernel
theorem dX7_dirty_57 : decode cX7_dirty 57 = .ok (.goto 4, 3) := by decide +kernel
theorem dX7_dirty_60 : decode cX7_dirty 60 = .ok (.iconst 0, 1) := by decide +kernel
theorem dX7_dirty_61 : decode cX7_dirty 61 = .ok (.iadd, 1) := by decide +kernel
theorem dX7_dirty_62 : decode cX7_dirty 62 = .ok (.istore_n 2, 1) := by decide +kernel
theorem dX7_dirty_63 : decode cX7_dirty 63 = .ok (.iinc 4 1, 3) := by decide +kernel
theorem dX7_dirty_66 : decode cX7_dirty 66 = .ok (.goto (-33), 3) := by decide +kernel
theorem dX7_dirty_69 : decode cX7_dirty 69 = .ok (.iinc 3 1, 3) := by decide +kernel
theorem dX7_dirty_72 : decode cX7_dirty 72 = .ok (.goto (-47), 3) := by decide +kernel
theorem dX7_dirty_75 : decode cX7_dirty 75 = .ok (.iload_n 2, 1) := by decide +kernel
theorem dX7_dirty_76 : decode cX7_dirty 76 = .ok (.ireturn, 1) := by decide +kernel
set_option maxRecDepth 20000 in
theorem ggX7_isMade_X7_at : GoodIn wsX7_isMade wsX7_at := goodIn_r _ [5] rfl (by decide +kernel)
set_option maxRecDepth 20000 in
theorem gX7_isMade_X7_at : GoodIn wsX7_isMade (va_wsS RX7 65 yX7_at wsX7_at) := goodIn_app (goodIn_r _ [2, 3, 4] rfl (by decide +kernel)) ggX7_isMade_X7_at
theorem dX7_isMade_0 : decode cX7_isMade 0 = .ok (.aload_n 0, 1) := by decide +kernel
theorem dX7_isMade_1 : decode cX7_isMade 1 = .ok (.getfield 29, 3) := by decide +kernel
theorem dX7_isMade_4 : decode cX7_isMade 4 = .ok (.iload_n 1, 1) := by decide +kernel
theorem dX7_isMade_5 : decode cX7_isMade 5 = .ok (.iload_n 2, 1) := by decide +kernel
theorem dX7_isMade_6 : decode cX7_isMade 6 = .ok (.iload_n 3, 1) := by decide +kernel
theorem dX7_isMade_7 : decode cX7_isMade 7 = .ok (.invokestatic 65, 3) := by decide +kernel
theorem dX7_isMade_10 : decode cX7_isMade 10 = .ok (.iaload, 1) := by decide +kernel
theorem dX7_isMade_11 : decode cX7_isMade 11 = .ok (.iconst 1, 1) := by decide +kernel
theorem dX7_isMade_12 : decode cX7_isMade 12 = .ok (.if_icmp .ne 7, 3) := by decide +kernel
theorem dX7_isMade_15 : decode cX7_isMade 15 = .ok (.iconst 1, 1) := by decide +kernel
theorem dX7_isMade_16 : decode cX7_isMade 16 = .ok (.goto 4, 3) := by decide +kernel
theorem dX7_isMade_19 : decode cX7_isMade 19 = .ok (.iconst 0, 1) := by decide +kernel
theorem dX7_isMade_20 : decode cX7_isMade 20 = .ok (.ireturn, 1) := by decide +kernel
set_option maxRecDepth 20000 in
theorem ggX7_isGone_X7_at : GoodIn wsX7_isGone wsX7_at := goodIn_r _ [6] rfl (by decide +kernel)
set_option maxRecDepth 20000 in
theorem gX7_isGone_X7_at : GoodIn wsX7_isGone (va_wsS RX7 65 yX7_at wsX7_at) := goodIn_app (goodIn_r _ [3, 4, 5] rfl (by decide +kernel)) ggX7_isGone_X7_at
theorem dX7_isGone_0 : decode cX7_isGone 0 = .ok (.aload_n 0, 1) := by decide +kernel
theorem dX7_isGone_1 : decode cX7_isGone 1 = .ok (.getfield 29, 3) := by decide +kernel
theorem dX7_isGone_4 : decode cX7_isGone 4 = .ok (.iload_n 1, 1) := by decide +kernel
theorem dX7_isGone_5 : decode cX7_isGone 5 = .ok (.iload_n 2, 1) := by decide +kernel
theorem dX7_isGone_6 : decode cX7_isGone 6 = .ok (.iload_n 3, 1) := by decide +kernel
theorem dX7_isGone_7 : decode cX7_isGone 7 = .ok (.invokestatic 65, 3) := by decide +kernel
theorem dX7_isGone_10 : decode cX7_isGone 10 = .ok (.iaload, 1) := by decide +kernel
theorem dX7_isGone_11 : decode cX7_isGone 11 = .ok (.iconst 2, 1) := by decide +kernel
theorem dX7_isGone_12 : decode cX7_isGone 12 = .ok (.if_icmp .ne 21, 3) := by decide +kernel
theorem dX7_isGone_15 : decode cX7_isGone 15 = .ok (.aload_n 0, 1) := by decide +kernel
theorem dX7_isGone_16 : decode cX7_isGone 16 = .ok (.getfield 32, 3) := by decide +kernel
theorem dX7_isGone_19 : decode cX7_isGone 19 = .ok (.iload_n 1, 1) := by decide +kernel
theorem dX7_isGone_20 : decode cX7_isGone 20 = .ok (.iload_n 2, 1) := by decide +kernel
theorem dX7_isGone_21 : decode cX7_isGone 21 = .ok (.iload_n 3, 1) := by decide +kernel
theorem dX7_isGone_22 : decode cX7_isGone 22 = .ok (.invokestatic 65, 3) := by decide +kernel
theorem dX7_isGone_25 : decode cX7_isGone 25 = .ok (.baload, 1) := by decide +kernel
theorem dX7_isGone_26 : decode cX7_isGone 26 = .ok (.ifCond .eq 7, 3) := by decide +kernel
theorem dX7_isGone_29 : decode cX7_isGone 29 = .ok (.iconst 1, 1) := by decide +kernel
theorem dX7_isGone_30 : decode cX7_isGone 30 = .ok (.goto 4, 3) := by decide +kernel
theorem dX7_isGone_33 : decode cX7_isGone 33 = .ok (.iconst 0, 1) := by decide +kernel
theorem dX7_isGone_34 : decode cX7_isGone 34 = .ok (.ireturn, 1) := by decide +kernel
set_option maxRecDepth 20000 in
theorem ggX7_areThere_X7_isGone : GoodIn wsX7_areThere wsX7_isGone := goodIn_r _ [9, 10, 11, 12, 13, 8, 14, 43, 44, 45, 46, 47, 48, 49, 50, 51, 52, 53, 54, 55, 56, 57, 58] rfl (by decide +kernel)
set_option maxRecDepth 20000 in
theorem gX7_areThere_X7_isGone : GoodIn wsX7_areThere (wsV RX7 121 RX7 yX7_isGone wsX7_isGone) := goodIn_app (goodIn_r _ [5, 6, 7, 8] rfl (by decide +kernel)) ggX7_areThere_X7_isGone
set_option maxRecDepth 20000 in
theorem ggX7_areThere_X7_hasRow : GoodIn wsX7_areThere wsX7_hasRow := goodIn_r _ [18, 19, 20, 21, 22, 8, 23, 1, 24, 25, 26, 43, 44, 45, 46, 47, 48, 49, 50, 51, 52, 53, 54, 55, 56, 57, 58] rfl (by decide +kernel)
set_option maxRecDepth 20000 in
theorem gX7_areThere_X7_hasRow : GoodIn wsX7_areThere (wsV RX7 69 RX7 yX7_hasRow wsX7_hasRow) := goodIn_app (goodIn_r _ [15, 16, 17, 8] rfl (by decide +kernel)) ggX7_areThere_X7_hasRow
set_option maxRecDepth 20000 in
theorem ggX7_areThere_X7_row : GoodIn wsX7_areThere wsX7_row := goodIn_r _ [26] rfl (by decide +kernel)
set_option maxRecDepth 20000 in
theorem gX7_areThere_X7_row : GoodIn wsX7_areThere (va_wsS RX7 61 yX7_row wsX7_row) := goodIn_app (goodIn_r _ [24, 25, 8] rfl (by decide +kernel)) ggX7_areThere_X7_row
set_option maxRecDepth 20000 in
theorem ggX7_areThere_X7_at : GoodIn wsX7_areThere wsX7_at := goodIn_r _ [14] rfl (by decide +kernel)
set_option maxRecDepth 20000 in
theorem gX7_areThere_X7_at : GoodIn wsX7_areThere (va_wsS RX7 65 yX7_at wsX7_at) := goodIn_app (goodIn_r _ [12, 13, 8] rfl (by decide +kernel)) ggX7_areThere_X7_at
set_option maxRecDepth 20000 in
theorem ggX7_areThere_X7_isDirty : GoodIn wsX7_areThere wsX7_isDirty := goodIn_r _ [30, 10, 31, 32, 33, 34, 12, 13, 8, 14, 35, 36, 37, 38, 11, 20, 21, 22, 23, 1, 43, 44, 45, 46, 47, 48, 49, 50, 51, 52, 53, 54, 55, 56, 57, 58] rfl (by decide +kernel)
set_option maxRecDepth 20000 in
theorem gX7_areThere_X7_isDirty : GoodIn wsX7_areThere (wsV RX7 118 RX7 yX7_isDirty wsX7_isDirty) := goodIn_app (goodIn_r _ [27, 28, 29, 8] rfl (by decide +kernel)) ggX7_areThere_X7_isDirty
set_option maxRecDepth 20000 in
theorem ggX7_areThere_X7_isMade : GoodIn wsX7_areThere wsX7_isMade := goodIn_r _ [42, 10, 12, 13, 8, 14, 43, 44, 45, 46, 47, 48, 49, 50, 51, 52, 53, 54, 55, 56, 57, 58] rfl (by decide +kernel)
set_option maxRecDepth 20000 in
theorem gX7_areThere_X7_isMade : GoodIn wsX7_areThere (wsV RX7 124 RX7 yX7_isMade wsX7_isMade) := goodIn_app (goodIn_r _ [39, 40, 41, 8] rfl (by decide +kernel)) ggX7_areThere_X7_isMade
theorem dX7_areThere_0 : decode cX7_areThere 0 = .ok (.iconst 1, 1) := by decide +kernel
theorem dX7_areThere_1 : decode cX7_areThere 1 = .ok (.istore_n 2, 1) := by decide +kernel
theorem dX7_areThere_2 : decode cX7_areThere 2 = .ok (.iconst 0, 1) := by decide +kernel
theorem dX7_areThere_3 : decode cX7_areThere 3 = .ok (.istore_n 3, 1) := by decide +kernel
theorem dX7_areThere_4 : decode cX7_areThere 4 = .ok (.iload_n 3, 1) := by decide +kernel
theorem dX7_areThere_5 : decode cX7_areThere 5 = .ok (.iconst 1, 1) := by decide +kernel
theorem dX7_areThere_6 : decode cX7_areThere 6 = .ok (.if_icmp .gt 155, 3) := by decide +kernel
theorem dX7_areThere_9 : decode cX7_areThere 9 = .ok (.iconst 0, 1) := by decide +kernel
theorem dX7_areThere_10 : decode cX7_areThere 10 = .ok (.istore 4, 2) := by decide +kernel
theorem dX7_areThere_12 : decode cX7_areThere 12 = .ok (.iload 4, 2) := by decide +kernel
theorem dX7_areThere_14 : decode cX7_areThere 14 = .ok (.aload_n 0, 1) := by decide +kernel
theorem dX7_areThere_15 : decode cX7_areThere 15 = .ok (.getfield 7, 3) := by decide +kernel
theorem dX7_areThere_18 : decode cX7_areThere 18 = .ok (.iload_n 3, 1) := by decide +kernel
theorem dX7_areThere_19 : decode cX7_areThere 19 = .ok (.iaload, 1) := by decide +kernel
theorem dX7_areThere_20 : decode cX7_areThere 20 = .ok (.if_icmp .ge 135, 3) := by decide +kernel
theorem dX7_areThere_23 : decode cX7_areThere 23 = .ok (.aload_n 0, 1) := by decide +kernel
theorem dX7_areThere_24 : decode cX7_areThere 24 = .ok (.iload_n 1, 1) := by decide +kernel
theorem dX7_areThere_25 : decode cX7_areThere 25 = .ok (.iload_n 3, 1) := by decide +kernel
theorem dX7_areThere_26 : decode cX7_areThere 26 = .ok (.iload 4, 2) := by decide +kernel
theorem dX7_areThere_28 : decode cX7_areThere 28 = .ok (.invokevirtual 121, 3) := by decide +kernel
theorem dX7_areThere_31 : decode cX7_areThere 31 = .ok (.istore 5, 2) := by decide +kernel
theorem dX7_areThere_33 : decode cX7_areThere 33 = .ok (.aload_n 0, 1) := by decide +kernel
theorem dX7_areThere_34 : decode cX7_areThere 34 = .ok (.iload_n 3, 1) := by decide +kernel
theorem dX7_areThere_35 : decode cX7_areThere 35 = .ok (.iload 4, 2) := by decide +kernel
theorem dX7_areThere_37 : decode cX7_areThere 37 = .ok (.invokevirtual 69, 3) := by decide +kernel
theorem dX7_areThere_40 : decode cX7_areThere 40 = .ok (.ifCond .eq 33, 3) := by decide +kernel
theorem dX7_areThere_43 : decode cX7_areThere 43 = .ok (.aload_n 0, 1) := by decide +kernel
theorem dX7_areThere_44 : decode cX7_areThere 44 = .ok (.getfield 23, 3) := by decide +kernel
theorem dX7_areThere_47 : decode cX7_areThere 47 = .ok (.iload_n 3, 1) := by decide +kernel
theorem dX7_areThere_48 : decode cX7_areThere 48 = .ok (.iload 4, 2) := by decide +kernel
theorem dX7_areThere_50 : decode cX7_areThere 50 = .ok (.invokestatic 61, 3) := by decide +kernel
theorem dX7_areThere_53 : decode cX7_areThere 53 = .ok (.iaload, 1) := by decide +kernel
theorem dX7_areThere_54 : decode cX7_areThere 54 = .ok (.aload_n 0, 1) := by decide +kernel
theorem dX7_areThere_55 : decode cX7_areThere 55 = .ok (.getfield 47, 3) := by decide +kernel
theorem dX7_areThere_58 : decode cX7_areThere 58 = .ok (.iload_n 1, 1) := by decide +kernel
theorem dX7_areThere_59 : decode cX7_areThere 59 = .ok (.iload_n 3, 1) := by decide +kernel
theorem dX7_areThere_60 : decode cX7_areThere 60 = .ok (.iload 4, 2) := by decide +kernel
theorem dX7_areThere_62 : decode cX7_areThere 62 = .ok (.invokestatic 65, 3) := by decide +kernel
theorem dX7_areThere_65 : decode cX7_areThere 65 = .ok (.iaload, 1) := by decide +kernel
theorem dX7_areThere_66 : decode cX7_areThere 66 = .ok (.if_icmp .ne 7, 3) := by decide +kernel
theorem dX7_areThere_69 : decode cX7_areThere 69 = .ok (.iconst 1, 1) := by decide +kernel
theorem dX7_areThere_70 : decode cX7_areThere 70 = .ok (.goto 4, 3) := by decide +kernel
theorem dX7_areThere_73 : decode cX7_areThere 73 = .ok (.iconst 0, 1) := by decide +kernel
theorem dX7_areThere_74 : decode cX7_areThere 74 = .ok (.istore 6, 2) := by decide +kernel
theorem dX7_areThere_76 : decode cX7_areThere 76 = .ok (.iload_n 2, 1) := by decide +kernel
theorem dX7_areThere_77 : decode cX7_areThere 77 = .ok (.ifCond .eq 28, 3) := by decide +kernel
theorem dX7_areThere_80 : decode cX7_areThere 80 = .ok (.iload 6, 2) := by decide +kernel
theorem dX7_areThere_82 : decode cX7_areThere 82 = .ok (.ifCond .ne 19, 3) := by decide +kernel
theorem dX7_areThere_85 : decode cX7_areThere 85 = .ok (.iload 5, 2) := by decide +kernel
theorem dX7_areThere_87 : decode cX7_areThere 87 = .ok (.ifCond .ne 18, 3) := by decide +kernel
theorem dX7_areThere_90 : decode cX7_areThere 90 = .ok (.aload_n 0, 1) := by decide +kernel
theorem dX7_areThere_91 : decode cX7_areThere 91 = .ok (.iload_n 1, 1) := by decide +kernel
theorem dX7_areThere_92 : decode cX7_areThere 92 = .ok (.iload_n 3, 1) := by decide +kernel
theorem dX7_areThere_93 : decode cX7_areThere 93 = .ok (.iload 4, 2) := by decide +kernel
theorem dX7_areThere_95 : decode cX7_areThere 95 = .ok (.invokevirtual 118, 3) := by decide +kernel
theorem dX7_areThere_98 : decode cX7_areThere 98 = .ok (.ifCond .ne 7, 3) := by decide +kernel
theorem dX7_areThere_101 : decode cX7_areThere 101 = .ok (.iconst 1, 1) := by decide +kernel
theorem dX7_areThere_102 : decode cX7_areThere 102 = .ok (.goto 4, 3) := by decide +kernel
theorem dX7_areThere_105 : decode cX7_areThere 105 = .ok (.iconst 0, 1) := by decide +kernel
theorem dX7_areThere_106 : decode cX7_areThere 106 = .ok (.istore_n 2, 1) := by decide +kernel
theorem dX7_areThere_107 : decode cX7_areThere 107 = .ok (.aload_n 0, 1) := by decide +kernel
theorem dX7_areThere_108 : decode cX7_areThere 108 = .ok (.getfield 26, 3) := by decide +kernel
theorem dX7_areThere_111 : decode cX7_areThere 111 = .ok (.iload_n 3, 1) := by decide +kernel
theorem dX7_areThere_112 : decode cX7_areThere 112 = .ok (.iload 4, 2) := by decide +kernel
theorem dX7_areThere_114 : decode cX7_areThere 114 = .ok (.invokestatic 61, 3) := by decide +kernel
theorem dX7_areThere_117 : decode cX7_areThere 117 = .ok (.aload_n 0, 1) := by decide +kernel
theorem dX7_areThere_118 : decode cX7_areThere 118 = .ok (.iload_n 1, 1) := by decide +kernel
theorem dX7_areThere_119 : decode cX7_areThere 119 = .ok (.iload_n 3, 1) := by decide +kernel
theorem dX7_areThere_120 : decode cX7_areThere 120 = .ok (.iload 4, 2) := by decide +kernel
theorem dX7_areThere_122 : decode cX7_areThere 122 = .ok (.invokevirtual 124, 3) := by decide +kernel
theorem dX7_areThere_125 : decode cX7_areThere 125 = .ok (.ifCond .ne 18, 3) := by decide +kernel
theorem dX7_areThere_128 : decode cX7_areThere 128 = .ok (.aload_n 0, 1) := by decide +kernel
theorem dX7_areThere_129 : decode cX7_areThere 129 = .ok (.iload_n 3, 1) := by decide +kernel
theorem dX7_areThere_130 : decode cX7_areThere 130 = .ok (.iload 4, 2) := by decide +kernel
theorem dX7_areThere_132 : decode cX7_areThere 132 = .ok (.invokevirtual 69, 3) := by decide +kernel
theorem dX7_areThere_135 : decode cX7_areThere 135 = .ok (.ifCond .eq 12, 3) := by decide +kernel
theorem dX7_areThere_138 : decode cX7_areThere 138 = .ok (.iload 5, 2) := by decide +kernel
theorem dX7_areThere_140 : decode cX7_areThere 140 = .ok (.ifCond .ne 7, 3) := by decide +kernel
theorem dX7_areThere_143 : decode cX7_areThere 143 = .ok (.iconst 1, 1) := by decide +kernel
theorem dX7_areThere_144 : decode cX7_areThere 144 = .ok (.goto 4, 3) := by decide +kernel
theorem dX7_areThere_147 : decode cX7_areThere 147 = .ok (.iconst 0, 1) := by decide +kernel
theorem dX7_areThere_148 : decode cX7_areThere 148 = .ok (.bastore, 1) := by decide +kernel
theorem dX7_areThere_149 : decode cX7_areThere 149 = .ok (.iinc 4 1, 3) := by decide +kernel
theorem dX7_areThere_152 : decode cX7_areThere 152 = .ok (.goto (-140), 3) := by decide +kernel
theorem dX7_areThere_155 : decode cX7_areThere 155 = .ok (.iinc 3 1, 3) := by decide +kernel
theorem dX7_areThere_158 : decode cX7_areThere 158 = .ok (.goto (-154), 3) := by decide +kernel
theorem dX7_areThere_161 : decode cX7_areThere 161 = .ok (.iload_n 2, 1) := by decide +kernel
theorem dX7_areThere_162 : decode cX7_areThere 162 = .ok (.ireturn, 1) := by decide +kernel
set_option maxRecDepth 20000 in
theorem ggX7_areWhole_X7_isMade : GoodIn wsX7_areWhole wsX7_isMade := goodIn_r _ [9, 10, 11, 12, 8, 13, 33, 34, 35, 36, 37, 38, 39, 40, 41, 42, 43, 44, 45, 46, 47, 48] rfl (by decide +kernel)
set_option maxRecDepth 20000 in
theorem gX7_areWhole_X7_isMade : GoodIn wsX7_areWhole (wsV RX7 124 RX7 yX7_isMade wsX7_isMade) := goodIn_app (goodIn_r _ [5, 6, 7, 8] rfl (by decide +kernel)) ggX7_areWhole_X7_isMade
set_option maxRecDepth 20000 in
theorem ggX7_areWhole_X7_isDirty : GoodIn wsX7_areWhole wsX7_isDirty := goodIn_r _ [17, 10, 18, 19, 2, 20, 11, 12, 8, 13, 21, 22, 23, 24, 25, 26, 27, 28, 29, 1, 33, 34, 35, 36, 37, 38, 39, 40, 41, 42, 43, 44, 45, 46, 47, 48] rfl (by decide +kernel)
set_option maxRecDepth 20000 in
theorem gX7_areWhole_X7_isDirty : GoodIn wsX7_areWhole (wsV RX7 118 RX7 yX7_isDirty wsX7_isDirty) := goodIn_app (goodIn_r _ [14, 15, 16, 8] rfl (by decide +kernel)) ggX7_areWhole_X7_isDirty
set_option maxRecDepth 20000 in
theorem ggX7_areWhole_X7_at : GoodIn wsX7_areWhole wsX7_at := goodIn_r _ [13] rfl (by decide +kernel)
set_option maxRecDepth 20000 in
theorem gX7_areWhole_X7_at : GoodIn wsX7_areWhole (va_wsS RX7 65 yX7_at wsX7_at) := goodIn_app (goodIn_r _ [11, 12, 8] rfl (by decide +kernel)) ggX7_areWhole_X7_at
set_option maxRecDepth 20000 in
theorem ggX7_areWhole_X7_row : GoodIn wsX7_areWhole wsX7_row := goodIn_r _ [32] rfl (by decide +kernel)
set_option maxRecDepth 20000 in
theorem gX7_areWhole_X7_row : GoodIn wsX7_areWhole (va_wsS RX7 61 yX7_row wsX7_row) := goodIn_app (goodIn_r _ [30, 31, 8] rfl (by decide +kernel)) ggX7_areWhole_X7_row
theorem dX7_areWhole_0 : decode cX7_areWhole 0 = .ok (.iconst 1, 1) := by decide +kernel
theorem dX7_areWhole_1 : decode cX7_areWhole 1 = .ok (.istore_n 2, 1) := by decide +kernel
theorem dX7_areWhole_2 : decode cX7_areWhole 2 = .ok (.iconst 0, 1) := by decide +kernel
theorem dX7_areWhole_3 : decode cX7_areWhole 3 = .ok (.istore_n 3, 1) := by decide +kernel
theorem dX7_areWhole_4 : decode cX7_areWhole 4 = .ok (.iload_n 3, 1) := by decide +kernel
theorem dX7_areWhole_5 : decode cX7_areWhole 5 = .ok (.iconst 1, 1) := by decide +kernel
theorem dX7_areWhole_6 : decode cX7_areWhole 6 = .ok (.if_icmp .gt 137, 3) := by decide +kernel
theorem dX7_areWhole_9 : decode cX7_areWhole 9 = .ok (.iconst 0, 1) := by decide +kernel
theorem dX7_areWhole_10 : decode cX7_areWhole 10 = .ok (.istore 4, 2) := by decide +kernel
theorem dX7_areWhole_12 : decode cX7_areWhole 12 = .ok (.iload 4, 2) := by decide +kernel
theorem dX7_areWhole_14 : decode cX7_areWhole 14 = .ok (.aload_n 0, 1) := by decide +kernel
theorem dX7_areWhole_15 : decode cX7_areWhole 15 = .ok (.getfield 7, 3) := by decide +kernel
theorem dX7_areWhole_18 : decode cX7_areWhole 18 = .ok (.iload_n 3, 1) := by decide +kernel
theorem dX7_areWhole_19 : decode cX7_areWhole 19 = .ok (.iaload, 1) := by decide +kernel
theorem dX7_areWhole_20 : decode cX7_areWhole 20 = .ok (.if_icmp .ge 117, 3) := by decide +kernel
theorem dX7_areWhole_23 : decode cX7_areWhole 23 = .ok (.aload_n 0, 1) := by decide +kernel
theorem dX7_areWhole_24 : decode cX7_areWhole 24 = .ok (.iload_n 1, 1) := by decide +kernel
theorem dX7_areWhole_25 : decode cX7_areWhole 25 = .ok (.iload_n 3, 1) := by decide +kernel
theorem dX7_areWhole_26 : decode cX7_areWhole 26 = .ok (.iload 4, 2) := by decide +kernel
theorem dX7_areWhole_28 : decode cX7_areWhole 28 = .ok (.invokevirtual 124, 3) := by decide +kernel
theorem dX7_areWhole_31 : decode cX7_areWhole 31 = .ok (.ifCond .ne 14, 3) := by decide +kernel
theorem dX7_areWhole_34 : decode cX7_areWhole 34 = .ok (.aload_n 0, 1) := by decide +kernel
theorem dX7_areWhole_35 : decode cX7_areWhole 35 = .ok (.iload_n 1, 1) := by decide +kernel
theorem dX7_areWhole_36 : decode cX7_areWhole 36 = .ok (.iload_n 3, 1) := by decide +kernel
theorem dX7_areWhole_37 : decode cX7_areWhole 37 = .ok (.iload 4, 2) := by decide +kernel
theorem dX7_areWhole_39 : decode cX7_areWhole 39 = .ok (.invokevirtual 118, 3) := by decide +kernel
theorem dX7_areWhole_42 : decode cX7_areWhole 42 = .ok (.ifCond .eq 7, 3) := by decide +kernel
theorem dX7_areWhole_45 : decode cX7_areWhole 45 = .ok (.iconst 1, 1) := by decide +kernel
theorem dX7_areWhole_46 : decode cX7_areWhole 46 = .ok (.goto 4, 3) := by decide +kernel
theorem dX7_areWhole_49 : decode cX7_areWhole 49 = .ok (.iconst 0, 1) := by decide +kernel
theorem dX7_areWhole_50 : decode cX7_areWhole 50 = .ok (.istore 5, 2) := by decide +kernel
theorem dX7_areWhole_52 : decode cX7_areWhole 52 = .ok (.iload 5, 2) := by decide +kernel
theorem dX7_areWhole_54 : decode cX7_areWhole 54 = .ok (.ifCond .eq 18, 3) := by decide +kernel
theorem dX7_areWhole_57 : decode cX7_areWhole 57 = .ok (.aload_n 0, 1) := by decide +kernel
theorem dX7_areWhole_58 : decode cX7_areWhole 58 = .ok (.getfield 38, 3) := by decide +kernel
theorem dX7_areWhole_61 : decode cX7_areWhole 61 = .ok (.iload_n 1, 1) := by decide +kernel
theorem dX7_areWhole_62 : decode cX7_areWhole 62 = .ok (.iload_n 3, 1) := by decide +kernel
theorem dX7_areWhole_63 : decode cX7_areWhole 63 = .ok (.iload 4, 2) := by decide +kernel
theorem dX7_areWhole_65 : decode cX7_areWhole 65 = .ok (.invokestatic 65, 3) := by decide +kernel
theorem dX7_areWhole_68 : decode cX7_areWhole 68 = .ok (.iaload, 1) := by decide +kernel
theorem dX7_areWhole_69 : decode cX7_areWhole 69 = .ok (.goto 14, 3) := by decide +kernel
theorem dX7_areWhole_72 : decode cX7_areWhole 72 = .ok (.aload_n 0, 1) := by decide +kernel
theorem dX7_areWhole_73 : decode cX7_areWhole 73 = .ok (.getfield 20, 3) := by decide +kernel
theorem dX7_areWhole_76 : decode cX7_areWhole 76 = .ok (.iload_n 3, 1) := by decide +kernel
theorem dX7_areWhole_77 : decode cX7_areWhole 77 = .ok (.iload 4, 2) := by decide +kernel
theorem dX7_areWhole_79 : decode cX7_areWhole 79 = .ok (.invokestatic 61, 3) := by decide +kernel
theorem dX7_areWhole_82 : decode cX7_areWhole 82 = .ok (.iaload, 1) := by decide +kernel
theorem dX7_areWhole_83 : decode cX7_areWhole 83 = .ok (.istore 6, 2) := by decide +kernel
theorem dX7_areWhole_85 : decode cX7_areWhole 85 = .ok (.iload_n 2, 1) := by decide +kernel
theorem dX7_areWhole_86 : decode cX7_areWhole 86 = .ok (.ifCond .eq 43, 3) := by decide +kernel
theorem dX7_areWhole_89 : decode cX7_areWhole 89 = .ok (.aload_n 0, 1) := by decide +kernel
theorem dX7_areWhole_90 : decode cX7_areWhole 90 = .ok (.getfield 26, 3) := by decide +kernel
theorem dX7_areWhole_93 : decode cX7_areWhole 93 = .ok (.iload_n 3, 1) := by decide +kernel
theorem dX7_areWhole_94 : decode cX7_areWhole 94 = .ok (.iload 4, 2) := by decide +kernel
theorem dX7_areWhole_96 : decode cX7_areWhole 96 = .ok (.invokestatic 61, 3) := by decide +kernel
theorem dX7_areWhole_99 : decode cX7_areWhole 99 = .ok (.baload, 1) := by decide +kernel
theorem dX7_areWhole_100 : decode cX7_areWhole 100 = .ok (.ifCond .eq 25, 3) := by decide +kernel
theorem dX7_areWhole_103 : decode cX7_areWhole 103 = .ok (.iload 6, 2) := by decide +kernel
theorem dX7_areWhole_105 : decode cX7_areWhole 105 = .ok (.iconst (-1), 1) := by decide +kernel
theorem dX7_areWhole_106 : decode cX7_areWhole 106 = .ok (.if_icmp .eq 19, 3) := by decide +kernel
theorem dX7_areWhole_109 : decode cX7_areWhole 109 = .ok (.aload_n 0, 1) := by decide +kernel
theorem dX7_areWhole_110 : decode cX7_areWhole 110 = .ok (.getfield 26, 3) := by decide +kernel
theorem dX7_areWhole_113 : decode cX7_areWhole 113 = .ok (.iconst 1, 1) := by decide +kernel
theorem dX7_areWhole_114 : decode cX7_areWhole 114 = .ok (.iload_n 3, 1) := by decide +kernel
theorem dX7_areWhole_115 : decode cX7_areWhole 115 = .ok (.isub, 1) := by decide +kernel
theorem dX7_areWhole_116 : decode cX7_areWhole 116 = .ok (.iload 6, 2) := by decide +kernel
theorem dX7_areWhole_118 : decode cX7_areWhole 118 = .ok (.invokestatic 61, 3) := by decide +kernel
theorem dX7_areWhole_121 : decode cX7_areWhole 121 = .ok (.baload, 1) := by decide +kernel
theorem dX7_areWhole_122 : decode cX7_areWhole 122 = .ok (.ifCond .eq 7, 3) := by decide +kernel
theorem dX7_areWhole_125 : decode cX7_areWhole 125 = .ok (.iconst 1, 1) := by decide +kernel
theorem dX7_areWhole_126 : decode cX7_areWhole 126 = .ok (.goto 4, 3) := by decide +kernel
theorem dX7_areWhole_129 : decode cX7_areWhole 129 = .ok (.iconst 0, 1) := by decide +kernel
theorem dX7_areWhole_130 : decode cX7_areWhole 130 = .ok (.istore_n 2, 1) := by decide +kernel
theorem dX7_areWhole_131 : decode cX7_areWhole 131 = .ok (.iinc 4 1, 3) := by decide +kernel
theorem dX7_areWhole_134 : decode cX7_areWhole 134 = .ok (.goto (-122), 3) := by decide +kernel
theorem dX7_areWhole_137 : decode cX7_areWhole 137 = .ok (.iinc 3 1, 3) := by decide +kernel
theorem dX7_areWhole_140 : decode cX7_areWhole 140 = .ok (.goto (-136), 3) := by decide +kernel
theorem dX7_areWhole_143 : decode cX7_areWhole 143 = .ok (.iload_n 2, 1) := by decide +kernel
theorem dX7_areWhole_144 : decode cX7_areWhole 144 = .ok (.ireturn, 1) := by decide +kernel
theorem dX7_notes_0 : decode cX7_notes 0 = .ok (.aload_n 0, 1) := by decide +kernel
theorem dX7_notes_1 : decode cX7_notes 1 = .ok (.getfield 50, 3) := by decide +kernel
theorem dX7_notes_4 : decode cX7_notes 4 = .ok (.aload_n 0, 1) := by decide +kernel
theorem dX7_notes_5 : decode cX7_notes 5 = .ok (.getfield 127, 3) := by decide +kernel
theorem dX7_notes_8 : decode cX7_notes 8 = .ok (.sipush 16384, 3) := by decide +kernel
theorem dX7_notes_11 : decode cX7_notes 11 = .ok (.irem, 1) := by decide +kernel
theorem dX7_notes_12 : decode cX7_notes 12 = .ok (.sipush 4096, 3) := by decide +kernel
theorem dX7_notes_15 : decode cX7_notes 15 = .ok (.iload_n 1, 1) := by decide +kernel
theorem dX7_notes_16 : decode cX7_notes 16 = .ok (.imul, 1) := by decide +kernel
theorem dX7_notes_17 : decode cX7_notes 17 = .ok (.iconst 2, 1) := by decide +kernel
theorem dX7_notes_18 : decode cX7_notes 18 = .ok (.iload_n 3, 1) := by decide +kernel
theorem dX7_notes_19 : decode cX7_notes 19 = .ok (.imul, 1) := by decide +kernel
theorem dX7_notes_20 : decode cX7_notes 20 = .ok (.iadd, 1) := by decide +kernel
theorem dX7_notes_21 : decode cX7_notes 21 = .ok (.iload_n 2, 1) := by decide +kernel
theorem dX7_notes_22 : decode cX7_notes 22 = .ok (.iadd, 1) := by decide +kernel
theorem dX7_notes_23 : decode cX7_notes 23 = .ok (.iastore, 1) := by decide +kernel
theorem dX7_notes_24 : decode cX7_notes 24 = .ok (.aload_n 0, 1) := by decide +kernel
theorem dX7_notes_25 : decode cX7_notes 25 = .ok (.dup, 1) := by decide +kernel
theorem dX7_notes_26 : decode cX7_notes 26 = .ok (.getfield 127, 3) := by decide +kernel
theorem dX7_notes_29 : decode cX7_notes 29 = .ok (.iconst 1, 1) := by decide +kernel
theorem dX7_notes_30 : decode cX7_notes 30 = .ok (.iadd, 1) := by decide +kernel
theorem dX7_notes_31 : decode cX7_notes 31 = .ok (.putfield 127, 3) := by decide +kernel
theorem dX7_notes_34 : decode cX7_notes 34 = .ok (.return_, 1) := by decide +kernel
set_option maxRecDepth 20000 in
theorem ggX7_inserts_X7_at : GoodIn wsX7_inserts wsX7_at := goodIn_r _ [10] rfl (by decide +kernel)
set_option maxRecDepth 20000 in
theorem gX7_inserts_X7_at : GoodIn wsX7_inserts (va_wsS RX7 65 yX7_at wsX7_at) := goodIn_app (goodIn_r _ [7, 8, 9] rfl (by decide +kernel)) ggX7_inserts_X7_at
set_option maxRecDepth 20000 in
theorem ggX7_inserts_X7_row : GoodIn wsX7_inserts wsX7_row := goodIn_r _ [13] rfl (by decide +kernel)
set_option maxRecDepth 20000 in
theorem gX7_inserts_X7_row : GoodIn wsX7_inserts (va_wsS RX7 61 yX7_row wsX7_row) := goodIn_app (goodIn_r _ [11, 12, 9] rfl (by decide +kernel)) ggX7_inserts_X7_row
set_option maxRecDepth 20000 in
theorem ggX7_inserts_X7_takes : GoodIn wsX7_inserts wsX7_takes := goodIn_r _ [17, 18, 19, 4, 3, 1, 5, 20, 21, 22, 6, 7, 8, 9, 10, 11, 12, 13, 29, 30, 31, 32, 33, 34, 35, 36, 37, 38, 39, 40, 41, 42, 43, 44] rfl (by decide +kernel)
set_option maxRecDepth 20000 in
theorem gX7_inserts_X7_takes : GoodIn wsX7_inserts (wsV RX7 72 RX7 yX7_takes wsX7_takes) := goodIn_app (goodIn_r _ [14, 15, 16, 9] rfl (by decide +kernel)) ggX7_inserts_X7_takes
set_option maxRecDepth 20000 in
theorem ggX7_inserts_X7_notes : GoodIn wsX7_inserts wsX7_notes := goodIn_r _ [26, 27, 28, 29, 30, 31, 32, 33, 34, 35, 36, 37, 38, 39, 40, 41, 42, 43, 44] rfl (by decide +kernel)
set_option maxRecDepth 20000 in
theorem gX7_inserts_X7_notes : GoodIn wsX7_inserts (wsV RX7 130 RX7 yX7_notes wsX7_notes) := goodIn_app (goodIn_r _ [23, 24, 25, 9] rfl (by decide +kernel)) ggX7_inserts_X7_notes
theorem dX7_inserts_0 : decode cX7_inserts 0 = .ok (.iload_n 1, 1) := by decide +kernel
theorem dX7_inserts_1 : decode cX7_inserts 1 = .ok (.iload_n 2, 1) := by decide +kernel
theorem dX7_inserts_2 : decode cX7_inserts 2 = .ok (.iload_n 3, 1) := by decide +kernel
theorem dX7_inserts_3 : decode cX7_inserts 3 = .ok (.invokestatic 65, 3) := by decide +kernel
theorem dX7_inserts_6 : decode cX7_inserts 6 = .ok (.istore 4, 2) := by decide +kernel
theorem dX7_inserts_8 : decode cX7_inserts 8 = .ok (.iload_n 2, 1) := by decide +kernel
theorem dX7_inserts_9 : decode cX7_inserts 9 = .ok (.iload_n 3, 1) := by decide +kernel
theorem dX7_inserts_10 : decode cX7_inserts 10 = .ok (.invokestatic 61, 3) := by decide +kernel
theorem dX7_inserts_13 : decode cX7_inserts 13 = .ok (.istore 5, 2) := by decide +kernel
theorem dX7_inserts_15 : decode cX7_inserts 15 = .ok (.aload_n 0, 1) := by decide +kernel
theorem dX7_inserts_16 : decode cX7_inserts 16 = .ok (.getfield 38, 3) := by decide +kernel
theorem dX7_inserts_19 : decode cX7_inserts 19 = .ok (.iload 4, 2) := by decide +kernel
theorem dX7_inserts_21 : decode cX7_inserts 21 = .ok (.iaload, 1) := by decide +kernel
theorem dX7_inserts_22 : decode cX7_inserts 22 = .ok (.iconst (-1), 1) := by decide +kernel
theorem dX7_inserts_23 : decode cX7_inserts 23 = .ok (.if_icmp .eq 28, 3) := by decide +kernel
theorem dX7_inserts_26 : decode cX7_inserts 26 = .ok (.aload_n 0, 1) := by decide +kernel
theorem dX7_inserts_27 : decode cX7_inserts 27 = .ok (.getfield 13, 3) := by decide +kernel
theorem dX7_inserts_30 : decode cX7_inserts 30 = .ok (.iconst 1, 1) := by decide +kernel
theorem dX7_inserts_31 : decode cX7_inserts 31 = .ok (.iload_n 2, 1) := by decide +kernel
theorem dX7_inserts_32 : decode cX7_inserts 32 = .ok (.isub, 1) := by decide +kernel
theorem dX7_inserts_33 : decode cX7_inserts 33 = .ok (.aload_n 0, 1) := by decide +kernel
theorem dX7_inserts_34 : decode cX7_inserts 34 = .ok (.getfield 38, 3) := by decide +kernel
theorem dX7_inserts_37 : decode cX7_inserts 37 = .ok (.iload 4, 2) := by decide +kernel
theorem dX7_inserts_39 : decode cX7_inserts 39 = .ok (.iaload, 1) := by decide +kernel
theorem dX7_inserts_40 : decode cX7_inserts 40 = .ok (.invokestatic 61, 3) := by decide +kernel
theorem dX7_inserts_43 : decode cX7_inserts 43 = .ok (.baload, 1) := by decide +kernel
theorem dX7_inserts_44 : decode cX7_inserts 44 = .ok (.ifCond .eq 7, 3) := by decide +kernel
theorem dX7_inserts_47 : decode cX7_inserts 47 = .ok (.iconst 1, 1) := by decide +kernel
theorem dX7_inserts_48 : decode cX7_inserts 48 = .ok (.goto 4, 3) := by decide +kernel
theorem dX7_inserts_51 : decode cX7_inserts 51 = .ok (.iconst 0, 1) := by decide +kernel
theorem dX7_inserts_52 : decode cX7_inserts 52 = .ok (.istore 6, 2) := by decide +kernel
theorem dX7_inserts_54 : decode cX7_inserts 54 = .ok (.aload_n 0, 1) := by decide +kernel
theorem dX7_inserts_55 : decode cX7_inserts 55 = .ok (.getfield 13, 3) := by decide +kernel
theorem dX7_inserts_58 : decode cX7_inserts 58 = .ok (.iload 5, 2) := by decide +kernel
theorem dX7_inserts_60 : decode cX7_inserts 60 = .ok (.iconst 1, 1) := by decide +kernel
theorem dX7_inserts_61 : decode cX7_inserts 61 = .ok (.bastore, 1) := by decide +kernel
theorem dX7_inserts_62 : decode cX7_inserts 62 = .ok (.aload_n 0, 1) := by decide +kernel
theorem dX7_inserts_63 : decode cX7_inserts 63 = .ok (.getfield 17, 3) := by decide +kernel
theorem dX7_inserts_66 : decode cX7_inserts 66 = .ok (.iload 5, 2) := by decide +kernel
theorem dX7_inserts_68 : decode cX7_inserts 68 = .ok (.aload_n 0, 1) := by decide +kernel
theorem dX7_inserts_69 : decode cX7_inserts 69 = .ok (.getfield 35, 3) := by decide +kernel
theorem dX7_inserts_72 : decode cX7_inserts 72 = .ok (.iload 4, 2) := by decide +kernel
theorem dX7_inserts_74 : decode cX7_inserts 74 = .ok (.iaload, 1) := by decide +kernel
theorem dX7_inserts_75 : decode cX7_inserts 75 = .ok (.iastore, 1) := by decide +kernel
theorem dX7_inserts_76 : decode cX7_inserts 76 = .ok (.aload_n 0, 1) := by decide +kernel
theorem dX7_inserts_77 : decode cX7_inserts 77 = .ok (.getfield 20, 3) := by decide +kernel
theorem dX7_inserts_80 : decode cX7_inserts 80 = .ok (.iload 5, 2) := by decide +kernel
theorem dX7_inserts_82 : decode cX7_inserts 82 = .ok (.iload 6, 2) := by decide +kernel
theorem dX7_inserts_84 : decode cX7_inserts 84 = .ok (.ifCond .eq 13, 3) := by decide +kernel
theorem dX7_inserts_87 : decode cX7_inserts 87 = .ok (.aload_n 0, 1) := by decide +kernel
theorem dX7_inserts_88 : decode cX7_inserts 88 = .ok (.getfield 38, 3) := by decide +kernel
theorem dX7_inserts_91 : decode cX7_inserts 91 = .ok (.iload 4, 2) := by decide +kernel
theorem dX7_inserts_93 : decode cX7_inserts 93 = .ok (.iaload, 1) := by decide +kernel
theorem dX7_inserts_94 : decode cX7_inserts 94 = .ok (.goto 4, 3) := by decide +kernel
theorem dX7_inserts_97 : decode cX7_inserts 97 = .ok (.iconst (-1), 1) := by decide +kernel
theorem dX7_inserts_98 : decode cX7_inserts 98 = .ok (.iastore, 1) := by decide +kernel
theorem dX7_inserts_99 : decode cX7_inserts 99 = .ok (.aload_n 0, 1) := by decide +kernel
theorem dX7_inserts_100 : decode cX7_inserts 100 = .ok (.getfield 23, 3) := by decide +kernel
theorem dX7_inserts_103 : decode cX7_inserts 103 = .ok (.iload 5, 2) := by decide +kernel
theorem dX7_inserts_105 : decode cX7_inserts 105 = .ok (.iconst 0, 1) := by decide +kernel
theorem dX7_inserts_106 : decode cX7_inserts 106 = .ok (.iastore, 1) := by decide +kernel
theorem dX7_inserts_107 : decode cX7_inserts 107 = .ok (.aload_n 0, 1) := by decide +kernel
theorem dX7_inserts_108 : decode cX7_inserts 108 = .ok (.getfield 38, 3) := by decide +kernel
theorem dX7_inserts_111 : decode cX7_inserts 111 = .ok (.iload 4, 2) := by decide +kernel
theorem dX7_inserts_113 : decode cX7_inserts 113 = .ok (.iaload, 1) := by decide +kernel
theorem dX7_inserts_114 : decode cX7_inserts 114 = .ok (.istore 7, 2) := by decide +kernel
theorem dX7_inserts_116 : decode cX7_inserts 116 = .ok (.aload_n 0, 1) := by decide +kernel
theorem dX7_inserts_117 : decode cX7_inserts 117 = .ok (.iload_n 1, 1) := by decide +kernel
theorem dX7_inserts_118 : decode cX7_inserts 118 = .ok (.iload_n 2, 1) := by decide +kernel
theorem dX7_inserts_119 : decode cX7_inserts 119 = .ok (.iload_n 3, 1) := by decide +kernel
theorem dX7_inserts_120 : decode cX7_inserts 120 = .ok (.invokevirtual 72, 3) := by decide +kernel
theorem dX7_inserts_123 : decode cX7_inserts 123 = .ok (.aload_n 0, 1) := by decide +kernel
theorem dX7_inserts_124 : decode cX7_inserts 124 = .ok (.getfield 38, 3) := by decide +kernel
theorem dX7_inserts_127 : decode cX7_inserts 127 = .ok (.iload 4, 2) := by decide +kernel
theorem dX7_inserts_129 : decode cX7_inserts 129 = .ok (.iload 7, 2) := by decide +kernel
theorem dX7_inserts_131 : decode cX7_inserts 131 = .ok (.iastore, 1) := by decide +kernel
theorem dX7_inserts_132 : decode cX7_inserts 132 = .ok (.aload_n 0, 1) := by decide +kernel
theorem dX7_inserts_133 : decode cX7_inserts 133 = .ok (.iconst 0, 1) := by decide +kernel
theorem dX7_inserts_134 : decode cX7_inserts 134 = .ok (.iload_n 2, 1) := by decide +kernel
theorem dX7_inserts_135 : decode cX7_inserts 135 = .ok (.iload_n 3, 1) := by decide +kernel
theorem dX7_inserts_136 : decode cX7_inserts 136 = .ok (.invokevirtual 130, 3) := by decide +kernel
theorem dX7_inserts_139 : decode cX7_inserts 139 = .ok (.return_, 1) := by decide +kernel
set_option maxRecDepth 20000 in
theorem ggX7_updates_X7_at : GoodIn wsX7_updates wsX7_at := goodIn_r _ [9] rfl (by decide +kernel)
set_option maxRecDepth 20000 in
theorem gX7_updates_X7_at : GoodIn wsX7_updates (va_wsS RX7 65 yX7_at wsX7_at) := goodIn_app (goodIn_r _ [6, 7, 8] rfl (by decide +kernel)) ggX7_updates_X7_at
set_option maxRecDepth 20000 in
theorem ggX7_updates_X7_row : GoodIn wsX7_updates wsX7_row := goodIn_r _ [12] rfl (by decide +kernel)
set_option maxRecDepth 20000 in
theorem gX7_updates_X7_row : GoodIn wsX7_updates (va_wsS RX7 61 yX7_row wsX7_row) := goodIn_app (goodIn_r _ [10, 11, 8] rfl (by decide +kernel)) ggX7_updates_X7_row
set_option maxRecDepth 20000 in
theorem ggX7_updates_X7_takes : GoodIn wsX7_updates wsX7_takes := goodIn_r _ [16, 17, 18, 2, 1, 4, 3, 19, 20, 21, 5, 6, 7, 8, 9, 10, 11, 12, 28, 29, 30, 31, 32, 33, 34, 35, 36, 37, 38, 39, 40, 41, 42, 43] rfl (by decide +kernel)
set_option maxRecDepth 20000 in
theorem gX7_updates_X7_takes : GoodIn wsX7_updates (wsV RX7 72 RX7 yX7_takes wsX7_takes) := goodIn_app (goodIn_r _ [13, 14, 15, 8] rfl (by decide +kernel)) ggX7_updates_X7_takes
set_option maxRecDepth 20000 in
theorem ggX7_updates_X7_notes : GoodIn wsX7_updates wsX7_notes := goodIn_r _ [25, 26, 27, 28, 29, 30, 31, 32, 33, 34, 35, 36, 37, 38, 39, 40, 41, 42, 43] rfl (by decide +kernel)
set_option maxRecDepth 20000 in
theorem gX7_updates_X7_notes : GoodIn wsX7_updates (wsV RX7 130 RX7 yX7_notes wsX7_notes) := goodIn_app (goodIn_r _ [22, 23, 24, 8] rfl (by decide +kernel)) ggX7_updates_X7_notes
theorem dX7_updates_0 : decode cX7_updates 0 = .ok (.iload_n 1, 1) := by decide +kernel
theorem dX7_updates_1 : decode cX7_updates 1 = .ok (.iload_n 2, 1) := by decide +kernel
theorem dX7_updates_2 : decode cX7_updates 2 = .ok (.iload_n 3, 1) := by decide +kernel
theorem dX7_updates_3 : decode cX7_updates 3 = .ok (.invokestatic 65, 3) := by decide +kernel
theorem dX7_updates_6 : decode cX7_updates 6 = .ok (.istore 4, 2) := by decide +kernel
theorem dX7_updates_8 : decode cX7_updates 8 = .ok (.iload_n 2, 1) := by decide +kernel
theorem dX7_updates_9 : decode cX7_updates 9 = .ok (.iload_n 3, 1) := by decide +kernel
theorem dX7_updates_10 : decode cX7_updates 10 = .ok (.invokestatic 61, 3) := by decide +kernel
theorem dX7_updates_13 : decode cX7_updates 13 = .ok (.istore 5, 2) := by decide +kernel
theorem dX7_updates_15 : decode cX7_updates 15 = .ok (.aload_n 0, 1) := by decide +kernel
theorem dX7_updates_16 : decode cX7_updates 16 = .ok (.getfield 17, 3) := by decide +kernel
theorem dX7_updates_19 : decode cX7_updates 19 = .ok (.iload 5, 2) := by decide +kernel
theorem dX7_updates_21 : decode cX7_updates 21 = .ok (.aload_n 0, 1) := by decide +kernel
theorem dX7_updates_22 : decode cX7_updates 22 = .ok (.getfield 35, 3) := by decide +kernel
theorem dX7_updates_25 : decode cX7_updates 25 = .ok (.iload 4, 2) := by decide +kernel
theorem dX7_updates_27 : decode cX7_updates 27 = .ok (.iaload, 1) := by decide +kernel
theorem dX7_updates_28 : decode cX7_updates 28 = .ok (.iastore, 1) := by decide +kernel
theorem dX7_updates_29 : decode cX7_updates 29 = .ok (.aload_n 0, 1) := by decide +kernel
theorem dX7_updates_30 : decode cX7_updates 30 = .ok (.getfield 20, 3) := by decide +kernel
theorem dX7_updates_33 : decode cX7_updates 33 = .ok (.iload 5, 2) := by decide +kernel
theorem dX7_updates_35 : decode cX7_updates 35 = .ok (.aload_n 0, 1) := by decide +kernel
theorem dX7_updates_36 : decode cX7_updates 36 = .ok (.getfield 38, 3) := by decide +kernel
theorem dX7_updates_39 : decode cX7_updates 39 = .ok (.iload 4, 2) := by decide +kernel
theorem dX7_updates_41 : decode cX7_updates 41 = .ok (.iaload, 1) := by decide +kernel
theorem dX7_updates_42 : decode cX7_updates 42 = .ok (.iastore, 1) := by decide +kernel
theorem dX7_updates_43 : decode cX7_updates 43 = .ok (.aload_n 0, 1) := by decide +kernel
theorem dX7_updates_44 : decode cX7_updates 44 = .ok (.getfield 23, 3) := by decide +kernel
theorem dX7_updates_47 : decode cX7_updates 47 = .ok (.iload 5, 2) := by decide +kernel
theorem dX7_updates_49 : decode cX7_updates 49 = .ok (.dup2, 1) := by decide +kernel
theorem dX7_updates_50 : decode cX7_updates 50 = .ok (.iaload, 1) := by decide +kernel
theorem dX7_updates_51 : decode cX7_updates 51 = .ok (.iconst 1, 1) := by decide +kernel
theorem dX7_updates_52 : decode cX7_updates 52 = .ok (.iadd, 1) := by decide +kernel
theorem dX7_updates_53 : decode cX7_updates 53 = .ok (.iastore, 1) := by decide +kernel
theorem dX7_updates_54 : decode cX7_updates 54 = .ok (.aload_n 0, 1) := by decide +kernel
theorem dX7_updates_55 : decode cX7_updates 55 = .ok (.iload_n 1, 1) := by decide +kernel
theorem dX7_updates_56 : decode cX7_updates 56 = .ok (.iload_n 2, 1) := by decide +kernel
theorem dX7_updates_57 : decode cX7_updates 57 = .ok (.iload_n 3, 1) := by decide +kernel
theorem dX7_updates_58 : decode cX7_updates 58 = .ok (.invokevirtual 72, 3) := by decide +kernel
theorem dX7_updates_61 : decode cX7_updates 61 = .ok (.aload_n 0, 1) := by decide +kernel
theorem dX7_updates_62 : decode cX7_updates 62 = .ok (.iconst 1, 1) := by decide +kernel
theorem dX7_updates_63 : decode cX7_updates 63 = .ok (.iload_n 2, 1) := by decide +kernel
theorem dX7_updates_64 : decode cX7_updates 64 = .ok (.iload_n 3, 1) := by decide +kernel
theorem dX7_updates_65 : decode cX7_updates 65 = .ok (.invokevirtual 130, 3) := by decide +kernel
theorem dX7_updates_68 : decode cX7_updates 68 = .ok (.return_, 1) := by decide +kernel
set_option maxRecDepth 20000 in
theorem ggX7_flush_X7_isSession : GoodIn wsX7_flush wsX7_isSession := goodIn_r _ [9] rfl (by decide +kernel)
set_option maxRecDepth 20000 in
theorem gX7_flush_X7_isSession : GoodIn wsX7_flush (va_wsS RX7 76 yX7_isSession wsX7_isSession) := goodIn_app (goodIn_r _ [6, 7, 8] rfl (by decide +kernel)) ggX7_flush_X7_isSession
set_option maxRecDepth 20000 in
theorem ggX7_flush_X7_areThere : GoodIn wsX7_flush wsX7_areThere := goodIn_r _ [13, 2, 14, 15, 16, 17, 18, 19, 8, 20, 4, 5, 21, 22, 23, 24, 25, 26, 27, 3, 28, 29, 30, 31, 32, 33, 34, 35, 36, 37, 38, 39, 40, 41, 42, 43, 44, 45, 46, 47, 48, 49, 50, 79, 80, 81, 82, 83, 84, 85, 86, 87, 88, 89, 90, 91, 92, 93, 94] rfl (by decide +kernel)
set_option maxRecDepth 20000 in
theorem gX7_flush_X7_areThere : GoodIn wsX7_flush (wsV RX7 133 RX7 yX7_areThere wsX7_areThere) := goodIn_app (goodIn_r _ [10, 11, 12, 8] rfl (by decide +kernel)) ggX7_flush_X7_areThere
set_option maxRecDepth 20000 in
theorem ggX7_flush_X7_areWhole : GoodIn wsX7_flush wsX7_areWhole := goodIn_r _ [54, 2, 41, 55, 16, 47, 48, 49, 8, 50, 4, 21, 22, 23, 35, 36, 37, 38, 39, 40, 42, 43, 44, 45, 46, 5, 28, 29, 30, 31, 32, 33, 34, 79, 80, 81, 82, 83, 84, 85, 86, 87, 88, 89, 90, 91, 92, 93, 94] rfl (by decide +kernel)
set_option maxRecDepth 20000 in
theorem gX7_flush_X7_areWhole : GoodIn wsX7_flush (wsV RX7 136 RX7 yX7_areWhole wsX7_areWhole) := goodIn_app (goodIn_r _ [51, 52, 53, 8] rfl (by decide +kernel)) ggX7_flush_X7_areWhole
set_option maxRecDepth 20000 in
theorem ggX7_flush_X7_holds : GoodIn wsX7_flush wsX7_holds := goodIn_r _ [59, 60, 79, 80, 81, 82, 83, 84, 85, 86, 87, 88, 89, 90, 91, 92, 93, 94] rfl (by decide +kernel)
set_option maxRecDepth 20000 in
theorem gX7_flush_X7_holds : GoodIn wsX7_flush (wsV RX7 83 RX7 yX7_holds wsX7_holds) := goodIn_app (goodIn_r _ [56, 57, 58, 8] rfl (by decide +kernel)) ggX7_flush_X7_holds
set_option maxRecDepth 20000 in
theorem ggX7_flush_X7_isMade : GoodIn wsX7_flush wsX7_isMade := goodIn_r _ [50, 4, 21, 22, 8, 23, 79, 80, 81, 82, 83, 84, 85, 86, 87, 88, 89, 90, 91, 92, 93, 94] rfl (by decide +kernel)
set_option maxRecDepth 20000 in
theorem gX7_flush_X7_isMade : GoodIn wsX7_flush (wsV RX7 124 RX7 yX7_isMade wsX7_isMade) := goodIn_app (goodIn_r _ [47, 48, 49, 8] rfl (by decide +kernel)) ggX7_flush_X7_isMade
set_option maxRecDepth 20000 in
theorem ggX7_flush_X7_inserts : GoodIn wsX7_flush wsX7_inserts := goodIn_r _ [64, 41, 3, 65, 39, 55, 14, 21, 22, 8, 23, 32, 33, 34, 66, 67, 68, 69, 4, 5, 40, 42, 15, 70, 71, 72, 73, 74, 1, 79, 80, 81, 82, 83, 84, 85, 86, 87, 88, 89, 90, 91, 92, 93, 94] rfl (by decide +kernel)
set_option maxRecDepth 20000 in
theorem gX7_flush_X7_inserts : GoodIn wsX7_flush (wsV RX7 139 RX7 yX7_inserts wsX7_inserts) := goodIn_app (goodIn_r _ [61, 62, 63, 8] rfl (by decide +kernel)) ggX7_flush_X7_inserts
set_option maxRecDepth 20000 in
theorem ggX7_flush_X7_isDirty : GoodIn wsX7_flush wsX7_isDirty := goodIn_r _ [38, 4, 39, 40, 41, 42, 21, 22, 8, 23, 43, 44, 45, 46, 5, 28, 29, 30, 31, 2, 79, 80, 81, 82, 83, 84, 85, 86, 87, 88, 89, 90, 91, 92, 93, 94] rfl (by decide +kernel)
set_option maxRecDepth 20000 in
theorem gX7_flush_X7_isDirty : GoodIn wsX7_flush (wsV RX7 118 RX7 yX7_isDirty wsX7_isDirty) := goodIn_app (goodIn_r _ [35, 36, 37, 8] rfl (by decide +kernel)) ggX7_flush_X7_isDirty
set_option maxRecDepth 20000 in
theorem ggX7_flush_X7_updates : GoodIn wsX7_flush wsX7_updates := goodIn_r _ [78, 65, 39, 55, 41, 14, 21, 22, 8, 23, 32, 33, 34, 66, 67, 68, 69, 4, 5, 40, 42, 15, 70, 71, 72, 73, 74, 1, 79, 80, 81, 82, 83, 84, 85, 86, 87, 88, 89, 90, 91, 92, 93, 94] rfl (by decide +kernel)
set_option maxRecDepth 20000 in
theorem gX7_flush_X7_updates : GoodIn wsX7_flush (wsV RX7 142 RX7 yX7_updates wsX7_updates) := goodIn_app (goodIn_r _ [75, 76, 77, 8] rfl (by decide +kernel)) ggX7_flush_X7_updates
set_option maxRecDepth 20000 in
theorem ggX7_flush_X7_isGone : GoodIn wsX7_flush wsX7_isGone := goodIn_r _ [20, 4, 5, 21, 22, 8, 23, 79, 80, 81, 82, 83, 84, 85, 86, 87, 88, 89, 90, 91, 92, 93, 94] rfl (by decide +kernel)
set_option maxRecDepth 20000 in
theorem gX7_flush_X7_isGone : GoodIn wsX7_flush (wsV RX7 121 RX7 yX7_isGone wsX7_isGone) := goodIn_app (goodIn_r _ [17, 18, 19, 8] rfl (by decide +kernel)) ggX7_flush_X7_isGone
set_option maxRecDepth 20000 in
theorem ggX7_flush_X7_row : GoodIn wsX7_flush wsX7_row := goodIn_r _ [34] rfl (by decide +kernel)
set_option maxRecDepth 20000 in
theorem gX7_flush_X7_row : GoodIn wsX7_flush (va_wsS RX7 61 yX7_row wsX7_row) := goodIn_app (goodIn_r _ [32, 33, 8] rfl (by decide +kernel)) ggX7_flush_X7_row
set_option maxRecDepth 20000 in
theorem ggX7_flush_X7_at : GoodIn wsX7_flush wsX7_at := goodIn_r _ [23] rfl (by decide +kernel)
set_option maxRecDepth 20000 in
theorem gX7_flush_X7_at : GoodIn wsX7_flush (va_wsS RX7 65 yX7_at wsX7_at) := goodIn_app (goodIn_r _ [21, 22, 8] rfl (by decide +kernel)) ggX7_flush_X7_at
set_option maxRecDepth 20000 in
theorem ggX7_flush_X7_notes : GoodIn wsX7_flush wsX7_notes := goodIn_r _ [73, 74, 1, 79, 80, 81, 82, 83, 84, 85, 86, 87, 88, 89, 90, 91, 92, 93, 94] rfl (by decide +kernel)
set_option maxRecDepth 20000 in
theorem gX7_flush_X7_notes : GoodIn wsX7_flush (wsV RX7 130 RX7 yX7_notes wsX7_notes) := goodIn_app (goodIn_r _ [70, 71, 72, 8] rfl (by decide +kernel)) ggX7_flush_X7_notes
theorem dX7_flush_0 : decode cX7_flush 0 = .ok (.iload_n 1, 1) := by decide +kernel
theorem dX7_flush_1 : decode cX7_flush 1 = .ok (.invokestatic 76, 3) := by decide +kernel
theorem dX7_flush_4 : decode cX7_flush 4 = .ok (.istore_n 2, 1) := by decide +kernel
theorem dX7_flush_5 : decode cX7_flush 5 = .ok (.iload_n 2, 1) := by decide +kernel
theorem dX7_flush_6 : decode cX7_flush 6 = .ok (.ifCond .eq 23, 3) := by decide +kernel
theorem dX7_flush_9 : decode cX7_flush 9 = .ok (.aload_n 0, 1) := by decide +kernel
theorem dX7_flush_10 : decode cX7_flush 10 = .ok (.iload_n 1, 1) := by decide +kernel
theorem dX7_flush_11 : decode cX7_flush 11 = .ok (.invokevirtual 133, 3) := by decide +kernel
theorem dX7_flush_14 : decode cX7_flush 14 = .ok (.ifCond .eq 15, 3) := by decide +kernel
theorem dX7_flush_17 : decode cX7_flush 17 = .ok (.aload_n 0, 1) := by decide +kernel
theorem dX7_flush_18 : decode cX7_flush 18 = .ok (.iload_n 1, 1) := by decide +kernel
theorem dX7_flush_19 : decode cX7_flush 19 = .ok (.invokevirtual 136, 3) := by decide +kernel
theorem dX7_flush_22 : decode cX7_flush 22 = .ok (.ifCond .eq 7, 3) := by decide +kernel
theorem dX7_flush_25 : decode cX7_flush 25 = .ok (.iconst 1, 1) := by decide +kernel
theorem dX7_flush_26 : decode cX7_flush 26 = .ok (.goto 4, 3) := by decide +kernel
theorem dX7_flush_29 : decode cX7_flush 29 = .ok (.iconst 0, 1) := by decide +kernel
theorem dX7_flush_30 : decode cX7_flush 30 = .ok (.istore_n 3, 1) := by decide +kernel
theorem dX7_flush_31 : decode cX7_flush 31 = .ok (.aload_n 0, 1) := by decide +kernel
theorem dX7_flush_32 : decode cX7_flush 32 = .ok (.iload_n 2, 1) := by decide +kernel
theorem dX7_flush_33 : decode cX7_flush 33 = .ok (.ifCond .ne 7, 3) := by decide +kernel
theorem dX7_flush_36 : decode cX7_flush 36 = .ok (.iconst 1, 1) := by decide +kernel
theorem dX7_flush_37 : decode cX7_flush 37 = .ok (.goto 12, 3) := by decide +kernel
theorem dX7_flush_40 : decode cX7_flush 40 = .ok (.iload_n 3, 1) := by decide +kernel
theorem dX7_flush_41 : decode cX7_flush 41 = .ok (.ifCond .eq 7, 3) := by decide +kernel
theorem dX7_flush_44 : decode cX7_flush 44 = .ok (.iconst 0, 1) := by decide +kernel
theorem dX7_flush_45 : decode cX7_flush 45 = .ok (.goto 4, 3) := by decide +kernel
theorem dX7_flush_48 : decode cX7_flush 48 = .ok (.iconst 2, 1) := by decide +kernel
theorem dX7_flush_49 : decode cX7_flush 49 = .ok (.invokevirtual 83, 3) := by decide +kernel
theorem dX7_flush_52 : decode cX7_flush 52 = .ok (.ifCond .ne 5, 3) := by decide +kernel
theorem dX7_flush_55 : decode cX7_flush 55 = .ok (.iconst 0, 1) := by decide +kernel
theorem dX7_flush_56 : decode cX7_flush 56 = .ok (.ireturn, 1) := by decide +kernel
theorem dX7_flush_57 : decode cX7_flush 57 = .ok (.aload_n 0, 1) := by decide +kernel
theorem dX7_flush_58 : decode cX7_flush 58 = .ok (.getfield 127, 3) := by decide +kernel
theorem dX7_flush_61 : decode cX7_flush 61 = .ok (.istore 4, 2) := by decide +kernel
theorem dX7_flush_63 : decode cX7_flush 63 = .ok (.iconst 0, 1) := by decide +kernel
theorem dX7_flush_64 : decode cX7_flush 64 = .ok (.istore 5, 2) := by decide +kernel
theorem dX7_flush_66 : decode cX7_flush 66 = .ok (.iload 5, 2) := by decide +kernel
theorem dX7_flush_68 : decode cX7_flush 68 = .ok (.iconst 1, 1) := by decide +kernel
theorem dX7_flush_69 : decode cX7_flush 69 = .ok (.if_icmp .gt 51, 3) := by decide +kernel
theorem dX7_flush_72 : decode cX7_flush 72 = .ok (.iconst 0, 1) := by decide +kernel
theorem dX7_flush_73 : decode cX7_flush 73 = .ok (.istore 6, 2) := by decide +kernel
theorem dX7_flush_75 : decode cX7_flush 75 = .ok (.iload 6, 2) := by decide +kernel
theorem dX7_flush_77 : decode cX7_flush 77 = .ok (.aload_n 0, 1) := by decide +kernel
theorem dX7_flush_78 : decode cX7_flush 78 = .ok (.getfield 7, 3) := by decide +kernel
theorem dX7_flush_81 : decode cX7_flush 81 = .ok (.iload 5, 2) := by decide +kernel
theorem dX7_flush_83 : decode cX7_flush 83 = .ok (.iaload, 1) := by decide +kernel
theorem dX7_flush_84 : decode cX7_flush 84 = .ok (.if_icmp .ge 30, 3) := by decide +kernel
theorem dX7_flush_87 : decode cX7_flush 87 = .ok (.aload_n 0, 1) := by decide +kernel
theorem dX7_flush_88 : decode cX7_flush 88 = .ok (.iload_n 1, 1) := by decide +kernel
theorem dX7_flush_89 : decode cX7_flush 89 = .ok (.iload 5, 2) := by decide +kernel
theorem dX7_flush_91 : decode cX7_flush 91 = .ok (.iload 6, 2) := by decide +kernel
theorem dX7_flush_93 : decode cX7_flush 93 = .ok (.invokevirtual 124, 3) := by decide +kernel
theorem dX7_flush_96 : decode cX7_flush 96 = .ok (.ifCond .eq 12, 3) := by decide +kernel
theorem dX7_flush_99 : decode cX7_flush 99 = .ok (.aload_n 0, 1) := by decide +kernel
theorem dX7_flush_100 : decode cX7_flush 100 = .ok (.iload_n 1, 1) := by decide +kernel
theorem dX7_flush_101 : decode cX7_flush 101 = .ok (.iload 5, 2) := by decide +kernel
theorem dX7_flush_103 : decode cX7_flush 103 = .ok (.iload 6, 2) := by decide +kernel
theorem dX7_flush_105 : decode cX7_flush 105 = .ok (.invokevirtual 139, 3) := by decide +kernel
theorem dX7_flush_108 : decode cX7_flush 108 = .ok (.iinc 6 1, 3) := by decide +kernel
theorem dX7_flush_111 : decode cX7_flush 111 = .ok (.goto (-36), 3) := by decide +kernel
theorem dX7_flush_114 : decode cX7_flush 114 = .ok (.iinc 5 1, 3) := by decide +kernel
theorem dX7_flush_117 : decode cX7_flush 117 = .ok (.goto (-51), 3) := by decide +kernel
theorem dX7_flush_120 : decode cX7_flush 120 = .ok (.iconst 0, 1) := by decide +kernel
theorem dX7_flush_121 : decode cX7_flush 121 = .ok (.istore 5, 2) := by decide +kernel
theorem dX7_flush_123 : decode cX7_flush 123 = .ok (.iload 5, 2) := by decide +kernel
theorem dX7_flush_125 : decode cX7_flush 125 = .ok (.iconst 1, 1) := by decide +kernel
theorem dX7_flush_126 : decode cX7_flush 126 = .ok (.if_icmp .gt 51, 3) := by decide +kernel
theorem dX7_flush_129 : decode cX7_flush 129 = .ok (.iconst 0, 1) := by decide +kernel
theorem dX7_flush_130 : decode cX7_flush 130 = .ok (.istore 6, 2) := by decide +kernel
theorem dX7_flush_132 : decode cX7_flush 132 = .ok (.iload 6, 2) := by decide +kernel
theorem dX7_flush_134 : decode cX7_flush 134 = .ok (.aload_n 0, 1) := by decide +kernel
theorem dX7_flush_135 : decode cX7_flush 135 = .ok (.getfield 7, 3) := by decide +kernel
theorem dX7_flush_138 : decode cX7_flush 138 = .ok (.iload 5, 2) := by decide +kernel
theorem dX7_flush_140 : decode cX7_flush 140 = .ok (.iaload, 1) := by decide +kernel
theorem dX7_flush_141 : decode cX7_flush 141 = .ok (.if_icmp .ge 30, 3) := by decide +kernel
theorem dX7_flush_144 : decode cX7_flush 144 = .ok (.aload_n 0, 1) := by decide +kernel
theorem dX7_flush_145 : decode cX7_flush 145 = .ok (.iload_n 1, 1) := by decide +kernel
theorem dX7_flush_146 : decode cX7_flush 146 = .ok (.iload 5, 2) := by decide +kernel
theorem dX7_flush_148 : decode cX7_flush 148 = .ok (.iload 6, 2) := by decide +kernel
theorem dX7_flush_150 : decode cX7_flush 150 = .ok (.invokevirtual 118, 3) := by decide +kernel
theorem dX7_flush_153 : decode cX7_flush 153 = .ok (.ifCond .eq 12, 3) := by decide +kernel
theorem dX7_flush_156 : decode cX7_flush 156 = .ok (.aload_n 0, 1) := by decide +kernel
theorem dX7_flush_157 : decode cX7_flush 157 = .ok (.iload_n 1, 1) := by decide +kernel
theorem dX7_flush_158 : decode cX7_flush 158 = .ok (.iload 5, 2) := by decide +kernel
theorem dX7_flush_160 : decode cX7_flush 160 = .ok (.iload 6, 2) := by decide +kernel
theorem dX7_flush_162 : decode cX7_flush 162 = .ok (.invokevirtual 142, 3) := by decide +kernel
theorem dX7_flush_165 : decode cX7_flush 165 = .ok (.iinc 6 1, 3) := by decide +kernel
theorem dX7_flush_168 : decode cX7_flush 168 = .ok (.goto (-36), 3) := by decide +kernel
theorem dX7_flush_171 : decode cX7_flush 171 = .ok (.iinc 5 1, 3) := by decide +kernel
theorem dX7_flush_174 : decode cX7_flush 174 = .ok (.goto (-51), 3) := by decide +kernel
theorem dX7_flush_177 : decode cX7_flush 177 = .ok (.iconst 1, 1) := by decide +kernel
theorem dX7_flush_178 : decode cX7_flush 178 = .ok (.istore 5, 2) := by decide +kernel
theorem dX7_flush_180 : decode cX7_flush 180 = .ok (.iload 5, 2) := by decide +kernel
theorem dX7_flush_182 : decode cX7_flush 182 = .ok (.ifCond .lt 92, 3) := by decide +kernel
theorem dX7_flush_185 : decode cX7_flush 185 = .ok (.iconst 0, 1) := by decide +kernel
theorem dX7_flush_186 : decode cX7_flush 186 = .ok (.istore 6, 2) := by decide +kernel
theorem dX7_flush_188 : decode cX7_flush 188 = .ok (.iload 6, 2) := by decide +kernel
theorem dX7_flush_190 : decode cX7_flush 190 = .ok (.aload_n 0, 1) := by decide +kernel
theorem dX7_flush_191 : decode cX7_flush 191 = .ok (.getfield 7, 3) := by decide +kernel
theorem dX7_flush_194 : decode cX7_flush 194 = .ok (.iload 5, 2) := by decide +kernel
theorem dX7_flush_196 : decode cX7_flush 196 = .ok (.iaload, 1) := by decide +kernel
theorem dX7_flush_197 : decode cX7_flush 197 = .ok (.if_icmp .ge 71, 3) := by decide +kernel
theorem dX7_flush_200 : decode cX7_flush 200 = .ok (.aload_n 0, 1) := by decide +kernel
theorem dX7_flush_201 : decode cX7_flush 201 = .ok (.iload_n 1, 1) := by decide +kernel
theorem dX7_flush_202 : decode cX7_flush 202 = .ok (.iload 5, 2) := by decide +kernel
theorem dX7_flush_204 : decode cX7_flush 204 = .ok (.iload 6, 2) := by decide +kernel
theorem dX7_flush_206 : decode cX7_flush 206 = .ok (.invokevirtual 121, 3) := by decide +kernel
theorem dX7_flush_209 : decode cX7_flush 209 = .ok (.ifCond .eq 53, 3) := by decide +kernel
theorem dX7_flush_212 : decode cX7_flush 212 = .ok (.aload_n 0, 1) := by decide +kernel
theorem dX7_flush_213 : decode cX7_flush 213 = .ok (.getfield 13, 3) := by decide +kernel
theorem dX7_flush_216 : decode cX7_flush 216 = .ok (.iload 5, 2) := by decide +kernel
theorem dX7_flush_218 : decode cX7_flush 218 = .ok (.iload 6, 2) := by decide +kernel
theorem dX7_flush_220 : decode cX7_flush 220 = .ok (.invokestatic 61, 3) := by decide +kernel
theorem dX7_flush_223 : decode cX7_flush 223 = .ok (.iconst 0, 1) := by decide +kernel
theorem dX7_flush_224 : decode cX7_flush 224 = .ok (.bastore, 1) := by decide +kernel
theorem dX7_flush_225 : decode cX7_flush 225 = .ok (.aload_n 0, 1) := by decide +kernel
theorem dX7_flush_226 : decode cX7_flush 226 = .ok (.getfield 29, 3) := by decide +kernel
theorem dX7_flush_229 : decode cX7_flush 229 = .ok (.iload_n 1, 1) := by decide +kernel
theorem dX7_flush_230 : decode cX7_flush 230 = .ok (.iload 5, 2) := by decide +kernel
theorem dX7_flush_232 : decode cX7_flush 232 = .ok (.iload 6, 2) := by decide +kernel
theorem dX7_flush_234 : decode cX7_flush 234 = .ok (.invokestatic 65, 3) := by decide +kernel
theorem dX7_flush_237 : decode cX7_flush 237 = .ok (.iconst 0, 1) := by decide +kernel
theorem dX7_flush_238 : decode cX7_flush 238 = .ok (.iastore, 1) := by decide +kernel
theorem dX7_flush_239 : decode cX7_flush 239 = .ok (.aload_n 0, 1) := by decide +kernel
theorem dX7_flush_240 : decode cX7_flush 240 = .ok (.getfield 32, 3) := by decide +kernel
theorem dX7_flush_243 : decode cX7_flush 243 = .ok (.iload_n 1, 1) := by decide +kernel
theorem dX7_flush_244 : decode cX7_flush 244 = .ok (.iload 5, 2) := by decide +kernel
theorem dX7_flush_246 : decode cX7_flush 246 = .ok (.iload 6, 2) := by decide +kernel
theorem dX7_flush_248 : decode cX7_flush 248 = .ok (.invokestatic 65, 3) := by decide +kernel
theorem dX7_flush_251 : decode cX7_flush 251 = .ok (.iconst 0, 1) := by decide +kernel
theorem dX7_flush_252 : decode cX7_flush 252 = .ok (.bastore, 1) := by decide +kernel
theorem dX7_flush_253 : decode cX7_flush 253 = .ok (.aload_n 0, 1) := by decide +kernel
theorem dX7_flush_254 : decode cX7_flush 254 = .ok (.iconst 2, 1) := by decide +kernel
theorem dX7_flush_255 : decode cX7_flush 255 = .ok (.iload 5, 2) := by decide +kernel
theorem dX7_flush_257 : decode cX7_flush 257 = .ok (.iload 6, 2) := by decide +kernel
theorem dX7_flush_259 : decode cX7_flush 259 = .ok (.invokevirtual 130, 3) := by decide +kernel
theorem dX7_flush_262 : decode cX7_flush 262 = .ok (.iinc 6 1, 3) := by decide +kernel
theorem dX7_flush_265 : decode cX7_flush 265 = .ok (.goto (-77), 3) := by decide +kernel
theorem dX7_flush_268 : decode cX7_flush 268 = .ok (.iinc 5 (-1), 3) := by decide +kernel
theorem dX7_flush_271 : decode cX7_flush 271 = .ok (.goto (-91), 3) := by decide +kernel
theorem dX7_flush_274 : decode cX7_flush 274 = .ok (.aload_n 0, 1) := by decide +kernel
theorem dX7_flush_275 : decode cX7_flush 275 = .ok (.getfield 127, 3) := by decide +kernel
theorem dX7_flush_278 : decode cX7_flush 278 = .ok (.iload 4, 2) := by decide +kernel
theorem dX7_flush_280 : decode cX7_flush 280 = .ok (.isub, 1) := by decide +kernel
theorem dX7_flush_281 : decode cX7_flush 281 = .ok (.ireturn, 1) := by decide +kernel
set_option maxRecDepth 20000 in
theorem ggX7_clear_X7_isSession : GoodIn wsX7_clear wsX7_isSession := goodIn_r _ [7] rfl (by decide +kernel)
set_option maxRecDepth 20000 in
theorem gX7_clear_X7_isSession : GoodIn wsX7_clear (va_wsS RX7 76 yX7_isSession wsX7_isSession) := goodIn_app (goodIn_r _ [4, 5, 6] rfl (by decide +kernel)) ggX7_clear_X7_isSession
set_option maxRecDepth 20000 in
theorem ggX7_clear_X7_holds : GoodIn wsX7_clear wsX7_holds := goodIn_r _ [11, 12, 28, 29, 30, 31, 32, 33, 34, 35, 36, 37, 38, 39, 40, 41, 42, 43] rfl (by decide +kernel)
set_option maxRecDepth 20000 in
theorem gX7_clear_X7_holds : GoodIn wsX7_clear (wsV RX7 83 RX7 yX7_holds wsX7_holds) := goodIn_app (goodIn_r _ [8, 9, 10, 6] rfl (by decide +kernel)) ggX7_clear_X7_holds
set_option maxRecDepth 20000 in
theorem ggX7_clear_X7_knownOf : GoodIn wsX7_clear wsX7_knownOf := goodIn_r _ [16, 1, 17, 18, 19, 6, 20, 2, 3, 21, 22, 23, 24, 25, 26, 27, 28, 29, 30, 31, 32, 33, 34, 35, 36, 37, 38, 39, 40, 41, 42, 43] rfl (by decide +kernel)
set_option maxRecDepth 20000 in
theorem gX7_clear_X7_knownOf : GoodIn wsX7_clear (wsV RX7 114 RX7 yX7_knownOf wsX7_knownOf) := goodIn_app (goodIn_r _ [13, 14, 15, 6] rfl (by decide +kernel)) ggX7_clear_X7_knownOf
set_option maxRecDepth 20000 in
theorem ggX7_clear_X7_at : GoodIn wsX7_clear wsX7_at := goodIn_r _ [27] rfl (by decide +kernel)
set_option maxRecDepth 20000 in
theorem gX7_clear_X7_at : GoodIn wsX7_clear (va_wsS RX7 65 yX7_at wsX7_at) := goodIn_app (goodIn_r _ [25, 26, 6] rfl (by decide +kernel)) ggX7_clear_X7_at
theorem dX7_clear_0 : decode cX7_clear 0 = .ok (.aload_n 0, 1) := by decide +kernel
theorem dX7_clear_1 : decode cX7_clear 1 = .ok (.iload_n 1, 1) := by decide +kernel
theorem dX7_clear_2 : decode cX7_clear 2 = .ok (.invokestatic 76, 3) := by decide +kernel
theorem dX7_clear_5 : decode cX7_clear 5 = .ok (.ifCond .eq 7, 3) := by decide +kernel
theorem dX7_clear_8 : decode cX7_clear 8 = .ok (.iconst 0, 1) := by decide +kernel
theorem dX7_clear_9 : decode cX7_clear 9 = .ok (.goto 4, 3) := by decide +kernel
theorem dX7_clear_12 : decode cX7_clear 12 = .ok (.iconst 1, 1) := by decide +kernel
theorem dX7_clear_13 : decode cX7_clear 13 = .ok (.invokevirtual 83, 3) := by decide +kernel
theorem dX7_clear_16 : decode cX7_clear 16 = .ok (.ifCond .ne 5, 3) := by decide +kernel
theorem dX7_clear_19 : decode cX7_clear 19 = .ok (.iconst 0, 1) := by decide +kernel
theorem dX7_clear_20 : decode cX7_clear 20 = .ok (.ireturn, 1) := by decide +kernel
theorem dX7_clear_21 : decode cX7_clear 21 = .ok (.aload_n 0, 1) := by decide +kernel
theorem dX7_clear_22 : decode cX7_clear 22 = .ok (.iload_n 1, 1) := by decide +kernel
theorem dX7_clear_23 : decode cX7_clear 23 = .ok (.invokevirtual 114, 3) := by decide +kernel
theorem dX7_clear_26 : decode cX7_clear 26 = .ok (.istore_n 2, 1) := by decide +kernel
theorem dX7_clear_27 : decode cX7_clear 27 = .ok (.iconst 0, 1) := by decide +kernel
theorem dX7_clear_28 : decode cX7_clear 28 = .ok (.istore_n 3, 1) := by decide +kernel
theorem dX7_clear_29 : decode cX7_clear 29 = .ok (.iload_n 3, 1) := by decide +kernel
theorem dX7_clear_30 : decode cX7_clear 30 = .ok (.iconst 1, 1) := by decide +kernel
theorem dX7_clear_31 : decode cX7_clear 31 = .ok (.if_icmp .gt 55, 3) := by decide +kernel
theorem dX7_clear_34 : decode cX7_clear 34 = .ok (.iconst 0, 1) := by decide +kernel
theorem dX7_clear_35 : decode cX7_clear 35 = .ok (.istore 4, 2) := by decide +kernel
theorem dX7_clear_37 : decode cX7_clear 37 = .ok (.iload 4, 2) := by decide +kernel
theorem dX7_clear_39 : decode cX7_clear 39 = .ok (.aload_n 0, 1) := by decide +kernel
theorem dX7_clear_40 : decode cX7_clear 40 = .ok (.getfield 7, 3) := by decide +kernel
theorem dX7_clear_43 : decode cX7_clear 43 = .ok (.iload_n 3, 1) := by decide +kernel
theorem dX7_clear_44 : decode cX7_clear 44 = .ok (.iaload, 1) := by decide +kernel
theorem dX7_clear_45 : decode cX7_clear 45 = .ok (.if_icmp .ge 35, 3) := by decide +kernel
theorem dX7_clear_48 : decode cX7_clear 48 = .ok (.aload_n 0, 1) := by decide +kernel
theorem dX7_clear_49 : decode cX7_clear 49 = .ok (.getfield 29, 3) := by decide +kernel
theorem dX7_clear_52 : decode cX7_clear 52 = .ok (.iload_n 1, 1) := by decide +kernel
theorem dX7_clear_53 : decode cX7_clear 53 = .ok (.iload_n 3, 1) := by decide +kernel
theorem dX7_clear_54 : decode cX7_clear 54 = .ok (.iload 4, 2) := by decide +kernel
theorem dX7_clear_56 : decode cX7_clear 56 = .ok (.invokestatic 65, 3) := by decide +kernel
theorem dX7_clear_59 : decode cX7_clear 59 = .ok (.iconst 0, 1) := by decide +kernel
theorem dX7_clear_60 : decode cX7_clear 60 = .ok (.iastore, 1) := by decide +kernel
theorem dX7_clear_61 : decode cX7_clear 61 = .ok (.aload_n 0, 1) := by decide +kernel
theorem dX7_clear_62 : decode cX7_clear 62 = .ok (.getfield 32, 3) := by decide +kernel
theorem dX7_clear_65 : decode cX7_clear 65 = .ok (.iload_n 1, 1) := by decide +kernel
theorem dX7_clear_66 : decode cX7_clear 66 = .ok (.iload_n 3, 1) := by decide +kernel
theorem dX7_clear_67 : decode cX7_clear 67 = .ok (.iload 4, 2) := by decide +kernel
theorem dX7_clear_69 : decode cX7_clear 69 = .ok (.invokestatic 65, 3) := by decide +kernel
theorem dX7_clear_72 : decode cX7_clear 72 = .ok (.iconst 0, 1) := by decide +kernel
theorem dX7_clear_73 : decode cX7_clear 73 = .ok (.bastore, 1) := by decide +kernel
theorem dX7_clear_74 : decode cX7_clear 74 = .ok (.iinc 4 1, 3) := by decide +kernel
theorem dX7_clear_77 : decode cX7_clear 77 = .ok (.goto (-40), 3) := by decide +kernel
theorem dX7_clear_80 : decode cX7_clear 80 = .ok (.iinc 3 1, 3) := by decide +kernel
theorem dX7_clear_83 : decode cX7_clear 83 = .ok (.goto (-54), 3) := by decide +kernel
theorem dX7_clear_86 : decode cX7_clear 86 = .ok (.iload_n 2, 1) := by decide +kernel
theorem dX7_clear_87 : decode cX7_clear 87 = .ok (.ireturn, 1) := by decide +kernel
set_option maxRecDepth 20000 in
theorem ggX7_rows_X7_isKind : GoodIn wsX7_rows wsX7_isKind := goodIn_r _ [5] rfl (by decide +kernel)
set_option maxRecDepth 20000 in
theorem gX7_rows_X7_isKind : GoodIn wsX7_rows (va_wsS RX7 94 yX7_isKind wsX7_isKind) := goodIn_app (goodIn_r _ [2, 3, 4] rfl (by decide +kernel)) ggX7_rows_X7_isKind
set_option maxRecDepth 20000 in
theorem ggX7_rows_X7_holds : GoodIn wsX7_rows wsX7_holds := goodIn_r _ [9, 10, 23, 24, 25, 26, 27, 28, 29, 30, 31, 32, 33, 34, 35, 36, 37, 38] rfl (by decide +kernel)
set_option maxRecDepth 20000 in
theorem gX7_rows_X7_holds : GoodIn wsX7_rows (wsV RX7 83 RX7 yX7_holds wsX7_holds) := goodIn_app (goodIn_r _ [6, 7, 8, 4] rfl (by decide +kernel)) ggX7_rows_X7_holds
set_option maxRecDepth 20000 in
theorem ggX7_rows_X7_hasRow : GoodIn wsX7_rows wsX7_hasRow := goodIn_r _ [14, 15, 16, 17, 18, 4, 19, 1, 20, 21, 22, 23, 24, 25, 26, 27, 28, 29, 30, 31, 32, 33, 34, 35, 36, 37, 38] rfl (by decide +kernel)
set_option maxRecDepth 20000 in
theorem gX7_rows_X7_hasRow : GoodIn wsX7_rows (wsV RX7 69 RX7 yX7_hasRow wsX7_hasRow) := goodIn_app (goodIn_r _ [11, 12, 13, 4] rfl (by decide +kernel)) ggX7_rows_X7_hasRow
theorem dX7_rows_0 : decode cX7_rows 0 = .ok (.aload_n 0, 1) := by decide +kernel
theorem dX7_rows_1 : decode cX7_rows 1 = .ok (.iload_n 1, 1) := by decide +kernel
theorem dX7_rows_2 : decode cX7_rows 2 = .ok (.invokestatic 94, 3) := by decide +kernel
theorem dX7_rows_5 : decode cX7_rows 5 = .ok (.ifCond .eq 7, 3) := by decide +kernel
theorem dX7_rows_8 : decode cX7_rows 8 = .ok (.iconst 0, 1) := by decide +kernel
theorem dX7_rows_9 : decode cX7_rows 9 = .ok (.goto 4, 3) := by decide +kernel
theorem dX7_rows_12 : decode cX7_rows 12 = .ok (.iconst 1, 1) := by decide +kernel
theorem dX7_rows_13 : decode cX7_rows 13 = .ok (.invokevirtual 83, 3) := by decide +kernel
theorem dX7_rows_16 : decode cX7_rows 16 = .ok (.ifCond .ne 5, 3) := by decide +kernel
theorem dX7_rows_19 : decode cX7_rows 19 = .ok (.iconst 0, 1) := by decide +kernel
theorem dX7_rows_20 : decode cX7_rows 20 = .ok (.ireturn, 1) := by decide +kernel
theorem dX7_rows_21 : decode cX7_rows 21 = .ok (.iconst 0, 1) := by decide +kernel
theorem dX7_rows_22 : decode cX7_rows 22 = .ok (.istore_n 2, 1) := by decide +kernel
theorem dX7_rows_23 : decode cX7_rows 23 = .ok (.iconst 0, 1) := by decide +kernel
theorem dX7_rows_24 : decode cX7_rows 24 = .ok (.istore_n 3, 1) := by decide +kernel
theorem dX7_rows_25 : decode cX7_rows 25 = .ok (.iload_n 3, 1) := by decide +kernel
theorem dX7_rows_26 : decode cX7_rows 26 = .ok (.aload_n 0, 1) := by decide +kernel
theorem dX7_rows_27 : decode cX7_rows 27 = .ok (.getfield 7, 3) := by decide +kernel
theorem dX7_rows_30 : decode cX7_rows 30 = .ok (.iload_n 1, 1) := by decide +kernel
theorem dX7_rows_31 : decode cX7_rows 31 = .ok (.iaload, 1) := by decide +kernel
theorem dX7_rows_32 : decode cX7_rows 32 = .ok (.if_icmp .ge 26, 3) := by decide +kernel
theorem dX7_rows_35 : decode cX7_rows 35 = .ok (.iload_n 2, 1) := by decide +kernel
theorem dX7_rows_36 : decode cX7_rows 36 = .ok (.aload_n 0, 1) := by decide +kernel
theorem dX7_rows_37 : decode cX7_rows 37 = .ok (.iload_n 1, 1) := by decide +kernel
theorem dX7_rows_38 : decode cX7_rows 38 = .ok (.iload_n 3, 1) := by decide +kernel
theorem dX7_rows_39 : decode cX7_rows 39 = .ok (.invokevirtual 69, 3) := by decide +kernel
theorem dX7_rows_42 : decode cX7_rows 42 = .ok (.ifCond .eq 7, 3) := by decide +kernel
theorem dX7_rows_45 : decode cX7_rows 45 = .ok (.iconst 1, 1) := by decide +kernel
theorem dX7_rows_46 : decode cX7_rows 46 = .ok (.goto 4, 3) := by decide +kernel
theorem dX7_rows_49 : decode cX7_rows 49 = .ok (.iconst 0, 1) := by decide +kernel
theorem dX7_rows_50 : decode cX7_rows 50 = .ok (.iadd, 1) := by decide +kernel
theorem dX7_rows_51 : decode cX7_rows 51 = .ok (.istore_n 2, 1) := by decide +kernel
theorem dX7_rows_52 : decode cX7_rows 52 = .ok (.iinc 3 1, 3) := by decide +kernel
theorem dX7_rows_55 : decode cX7_rows 55 = .ok (.goto (-30), 3) := by decide +kernel
theorem dX7_rows_58 : decode cX7_rows 58 = .ok (.iload_n 2, 1) := by decide +kernel
theorem dX7_rows_59 : decode cX7_rows 59 = .ok (.ireturn, 1) := by decide +kernel
set_option maxRecDepth 20000 in
theorem ggX7_isRowAsked_X7_isKind : GoodIn wsX7_isRowAsked wsX7_isKind := goodIn_r _ [4] rfl (by decide +kernel)
set_option maxRecDepth 20000 in
theorem gX7_isRowAsked_X7_isKind : GoodIn wsX7_isRowAsked (va_wsS RX7 94 yX7_isKind wsX7_isKind) := goodIn_app (goodIn_r _ [1, 2, 3] rfl (by decide +kernel)) ggX7_isRowAsked_X7_isKind
set_option maxRecDepth 20000 in
theorem ggX7_isRowAsked_X7_hasRow : GoodIn wsX7_isRowAsked wsX7_hasRow := goodIn_r _ [8, 9, 10, 11, 12, 3, 13, 14, 15, 16, 17, 23, 24, 25, 26, 27, 28, 29, 30, 31, 32, 33, 34, 35, 36, 37, 38] rfl (by decide +kernel)
set_option maxRecDepth 20000 in
theorem gX7_isRowAsked_X7_hasRow : GoodIn wsX7_isRowAsked (wsV RX7 69 RX7 yX7_hasRow wsX7_hasRow) := goodIn_app (goodIn_r _ [5, 6, 7, 3] rfl (by decide +kernel)) ggX7_isRowAsked_X7_hasRow
set_option maxRecDepth 20000 in
theorem ggX7_isRowAsked_X7_holds : GoodIn wsX7_isRowAsked wsX7_holds := goodIn_r _ [21, 22, 23, 24, 25, 26, 27, 28, 29, 30, 31, 32, 33, 34, 35, 36, 37, 38] rfl (by decide +kernel)
set_option maxRecDepth 20000 in
theorem gX7_isRowAsked_X7_holds : GoodIn wsX7_isRowAsked (wsV RX7 83 RX7 yX7_holds wsX7_holds) := goodIn_app (goodIn_r _ [18, 19, 20, 3] rfl (by decide +kernel)) ggX7_isRowAsked_X7_holds
theorem dX7_isRowAsked_0 : decode cX7_isRowAsked 0 = .ok (.aload_n 0, 1) := by decide +kernel
theorem dX7_isRowAsked_1 : decode cX7_isRowAsked 1 = .ok (.iload_n 1, 1) := by decide +kernel
theorem dX7_isRowAsked_2 : decode cX7_isRowAsked 2 = .ok (.invokestatic 94, 3) := by decide +kernel
theorem dX7_isRowAsked_5 : decode cX7_isRowAsked 5 = .ok (.ifCond .ne 7, 3) := by decide +kernel
theorem dX7_isRowAsked_8 : decode cX7_isRowAsked 8 = .ok (.iconst 1, 1) := by decide +kernel
theorem dX7_isRowAsked_9 : decode cX7_isRowAsked 9 = .ok (.goto 17, 3) := by decide +kernel
theorem dX7_isRowAsked_12 : decode cX7_isRowAsked 12 = .ok (.aload_n 0, 1) := by decide +kernel
theorem dX7_isRowAsked_13 : decode cX7_isRowAsked 13 = .ok (.iload_n 1, 1) := by decide +kernel
theorem dX7_isRowAsked_14 : decode cX7_isRowAsked 14 = .ok (.iload_n 2, 1) := by decide +kernel
theorem dX7_isRowAsked_15 : decode cX7_isRowAsked 15 = .ok (.invokevirtual 69, 3) := by decide +kernel
theorem dX7_isRowAsked_18 : decode cX7_isRowAsked 18 = .ok (.ifCond .eq 7, 3) := by decide +kernel
theorem dX7_isRowAsked_21 : decode cX7_isRowAsked 21 = .ok (.iconst 0, 1) := by decide +kernel
theorem dX7_isRowAsked_22 : decode cX7_isRowAsked 22 = .ok (.goto 4, 3) := by decide +kernel
theorem dX7_isRowAsked_25 : decode cX7_isRowAsked 25 = .ok (.iconst 2, 1) := by decide +kernel
theorem dX7_isRowAsked_26 : decode cX7_isRowAsked 26 = .ok (.invokevirtual 83, 3) := by decide +kernel
theorem dX7_isRowAsked_29 : decode cX7_isRowAsked 29 = .ok (.ireturn, 1) := by decide +kernel
set_option maxRecDepth 20000 in
theorem ggX7_rowName_X7_isRowAsked : GoodIn wsX7_rowName wsX7_isRowAsked := goodIn_r _ [6, 7, 8, 5, 9, 10, 11, 12, 13, 14, 15, 16, 17, 18, 19, 20, 21, 22, 23, 24, 25, 26, 27, 28, 29, 30, 31, 32, 33, 34, 35, 36, 37, 38, 39, 40, 41, 42, 43] rfl (by decide +kernel)
set_option maxRecDepth 20000 in
theorem gX7_rowName_X7_isRowAsked : GoodIn wsX7_rowName (wsV RX7 145 RX7 yX7_isRowAsked wsX7_isRowAsked) := goodIn_app (goodIn_r _ [2, 3, 4, 5] rfl (by decide +kernel)) ggX7_rowName_X7_isRowAsked
set_option maxRecDepth 20000 in
theorem ggX7_rowName_X7_row : GoodIn wsX7_rowName wsX7_row := goodIn_r _ [22] rfl (by decide +kernel)
set_option maxRecDepth 20000 in
theorem gX7_rowName_X7_row : GoodIn wsX7_rowName (va_wsS RX7 61 yX7_row wsX7_row) := goodIn_app (goodIn_r _ [20, 21, 5] rfl (by decide +kernel)) ggX7_rowName_X7_row
theorem dX7_rowName_0 : decode cX7_rowName 0 = .ok (.aload_n 0, 1) := by decide +kernel
theorem dX7_rowName_1 : decode cX7_rowName 1 = .ok (.iload_n 1, 1) := by decide +kernel
theorem dX7_rowName_2 : decode cX7_rowName 2 = .ok (.iload_n 2, 1) := by decide +kernel
theorem dX7_rowName_3 : decode cX7_rowName 3 = .ok (.invokevirtual 145, 3) := by decide +kernel
theorem dX7_rowName_6 : decode cX7_rowName 6 = .ok (.ifCond .eq 16, 3) := by decide +kernel
theorem dX7_rowName_9 : decode cX7_rowName 9 = .ok (.aload_n 0, 1) := by decide +kernel
theorem dX7_rowName_10 : decode cX7_rowName 10 = .ok (.getfield 17, 3) := by decide +kernel
theorem dX7_rowName_13 : decode cX7_rowName 13 = .ok (.iload_n 1, 1) := by decide +kernel
theorem dX7_rowName_14 : decode cX7_rowName 14 = .ok (.iload_n 2, 1) := by decide +kernel
theorem dX7_rowName_15 : decode cX7_rowName 15 = .ok (.invokestatic 61, 3) := by decide +kernel
theorem dX7_rowName_18 : decode cX7_rowName 18 = .ok (.iaload, 1) := by decide +kernel
theorem dX7_rowName_19 : decode cX7_rowName 19 = .ok (.goto 4, 3) := by decide +kernel
theorem dX7_rowName_22 : decode cX7_rowName 22 = .ok (.iconst 0, 1) := by decide +kernel
theorem dX7_rowName_23 : decode cX7_rowName 23 = .ok (.ireturn, 1) := by decide +kernel
set_option maxRecDepth 20000 in
theorem ggX7_rowReference_X7_isRowAsked : GoodIn wsX7_rowReference wsX7_isRowAsked := goodIn_r _ [6, 7, 8, 5, 9, 10, 11, 12, 13, 14, 15, 16, 17, 18, 19, 20, 21, 22, 23, 24, 25, 26, 27, 28, 29, 30, 31, 32, 33, 34, 35, 36, 37, 38, 39, 40, 41, 42, 43] rfl (by decide +kernel)
set_option maxRecDepth 20000 in
theorem gX7_rowReference_X7_isRowAsked : GoodIn wsX7_rowReference (wsV RX7 145 RX7 yX7_isRowAsked wsX7_isRowAsked) := goodIn_app (goodIn_r _ [2, 3, 4, 5] rfl (by decide +kernel)) ggX7_rowReference_X7_isRowAsked
set_option maxRecDepth 20000 in
theorem ggX7_rowReference_X7_row : GoodIn wsX7_rowReference wsX7_row := goodIn_r _ [22] rfl (by decide +kernel)
set_option maxRecDepth 20000 in
theorem gX7_rowReference_X7_row : GoodIn wsX7_rowReference (va_wsS RX7 61 yX7_row wsX7_row) := goodIn_app (goodIn_r _ [20, 21, 5] rfl (by decide +kernel)) ggX7_rowReference_X7_row
theorem dX7_rowReference_0 : decode cX7_rowReference 0 = .ok (.aload_n 0, 1) := by decide +kernel
theorem dX7_rowReference_1 : decode cX7_rowReference 1 = .ok (.iload_n 1, 1) := by decide +kernel
theorem dX7_rowReference_2 : decode cX7_rowReference 2 = .ok (.iload_n 2, 1) := by decide +kernel
theorem dX7_rowReference_3 : decode cX7_rowReference 3 = .ok (.invokevirtual 145, 3) := by decide +kernel
theorem dX7_rowReference_6 : decode cX7_rowReference 6 = .ok (.ifCond .eq 16, 3) := by decide +kernel
theorem dX7_rowReference_9 : decode cX7_rowReference 9 = .ok (.aload_n 0, 1) := by decide +kernel
theorem dX7_rowReference_10 : decode cX7_rowReference 10 = .ok (.getfield 20, 3) := by decide +kernel
theorem dX7_rowReference_13 : decode cX7_rowReference 13 = .ok (.iload_n 1, 1) := by decide +kernel
theorem dX7_rowReference_14 : decode cX7_rowReference 14 = .ok (.iload_n 2, 1) := by decide +kernel
theorem dX7_rowReference_15 : decode cX7_rowReference 15 = .ok (.invokestatic 61, 3) := by decide +kernel
theorem dX7_rowReference_18 : decode cX7_rowReference 18 = .ok (.iaload, 1) := by decide +kernel
theorem dX7_rowReference_19 : decode cX7_rowReference 19 = .ok (.goto 4, 3) := by decide +kernel
theorem dX7_rowReference_22 : decode cX7_rowReference 22 = .ok (.iconst 0, 1) := by decide +kernel
theorem dX7_rowReference_23 : decode cX7_rowReference 23 = .ok (.ireturn, 1) := by decide +kernel
set_option maxRecDepth 20000 in
theorem ggX7_rowVersion_X7_isRowAsked : GoodIn wsX7_rowVersion wsX7_isRowAsked := goodIn_r _ [6, 7, 8, 5, 9, 10, 11, 12, 13, 14, 15, 16, 17, 18, 19, 20, 21, 22, 23, 24, 25, 26, 27, 28, 29, 30, 31, 32, 33, 34, 35, 36, 37, 38, 39, 40, 41, 42, 43] rfl (by decide +kernel)
set_option maxRecDepth 20000 in
theorem gX7_rowVersion_X7_isRowAsked : GoodIn wsX7_rowVersion (wsV RX7 145 RX7 yX7_isRowAsked wsX7_isRowAsked) := goodIn_app (goodIn_r _ [2, 3, 4, 5] rfl (by decide +kernel)) ggX7_rowVersion_X7_isRowAsked
set_option maxRecDepth 20000 in
theorem ggX7_rowVersion_X7_row : GoodIn wsX7_rowVersion wsX7_row := goodIn_r _ [22] rfl (by decide +kernel)
set_option maxRecDepth 20000 in
theorem gX7_rowVersion_X7_row : GoodIn wsX7_rowVersion (va_wsS RX7 61 yX7_row wsX7_row) := goodIn_app (goodIn_r _ [20, 21, 5] rfl (by decide +kernel)) ggX7_rowVersion_X7_row
theorem dX7_rowVersion_0 : decode cX7_rowVersion 0 = .ok (.aload_n 0, 1) := by decide +kernel
theorem dX7_rowVersion_1 : decode cX7_rowVersion 1 = .ok (.iload_n 1, 1) := by decide +kernel
theorem dX7_rowVersion_2 : decode cX7_rowVersion 2 = .ok (.iload_n 2, 1) := by decide +kernel
theorem dX7_rowVersion_3 : decode cX7_rowVersion 3 = .ok (.invokevirtual 145, 3) := by decide +kernel
theorem dX7_rowVersion_6 : decode cX7_rowVersion 6 = .ok (.ifCond .eq 16, 3) := by decide +kernel
theorem dX7_rowVersion_9 : decode cX7_rowVersion 9 = .ok (.aload_n 0, 1) := by decide +kernel
theorem dX7_rowVersion_10 : decode cX7_rowVersion 10 = .ok (.getfield 23, 3) := by decide +kernel
theorem dX7_rowVersion_13 : decode cX7_rowVersion 13 = .ok (.iload_n 1, 1) := by decide +kernel
theorem dX7_rowVersion_14 : decode cX7_rowVersion 14 = .ok (.iload_n 2, 1) := by decide +kernel
theorem dX7_rowVersion_15 : decode cX7_rowVersion 15 = .ok (.invokestatic 61, 3) := by decide +kernel
theorem dX7_rowVersion_18 : decode cX7_rowVersion 18 = .ok (.iaload, 1) := by decide +kernel
theorem dX7_rowVersion_19 : decode cX7_rowVersion 19 = .ok (.goto 4, 3) := by decide +kernel
theorem dX7_rowVersion_22 : decode cX7_rowVersion 22 = .ok (.iconst 0, 1) := by decide +kernel
theorem dX7_rowVersion_23 : decode cX7_rowVersion 23 = .ok (.ireturn, 1) := by decide +kernel
theorem dX7_writes_0 : decode cX7_writes 0 = .ok (.aload_n 0, 1) := by decide +kernel
theorem dX7_writes_1 : decode cX7_writes 1 = .ok (.iconst 0, 1) := by decide +kernel
theorem dX7_writes_2 : decode cX7_writes 2 = .ok (.putfield 53, 3) := by decide +kernel
theorem dX7_writes_5 : decode cX7_writes 5 = .ok (.aload_n 0, 1) := by decide +kernel
theorem dX7_writes_6 : decode cX7_writes 6 = .ok (.getfield 127, 3) := by decide +kernel
theorem dX7_writes_9 : decode cX7_writes 9 = .ok (.ireturn, 1) := by decide +kernel
set_option maxRecDepth 20000 in
theorem ggX7_isWrite_X7_holds : GoodIn wsX7_isWrite wsX7_holds := goodIn_r _ [6, 7, 8, 9, 10, 11, 12, 13, 14, 15, 16, 17, 18, 19, 20, 21, 22, 23] rfl (by decide +kernel)
set_option maxRecDepth 20000 in
theorem gX7_isWrite_X7_holds : GoodIn wsX7_isWrite (wsV RX7 83 RX7 yX7_holds wsX7_holds) := goodIn_app (goodIn_r _ [2, 3, 4, 5] rfl (by decide +kernel)) ggX7_isWrite_X7_holds
theorem dX7_isWrite_0 : decode cX7_isWrite 0 = .ok (.aload_n 0, 1) := by decide +kernel
theorem dX7_isWrite_1 : decode cX7_isWrite 1 = .ok (.iload_n 1, 1) := by decide +kernel
theorem dX7_isWrite_2 : decode cX7_isWrite 2 = .ok (.ifCond .lt 15, 3) := by decide +kernel
theorem dX7_isWrite_5 : decode cX7_isWrite 5 = .ok (.iload_n 1, 1) := by decide +kernel
theorem dX7_isWrite_6 : decode cX7_isWrite 6 = .ok (.aload_n 0, 1) := by decide +kernel
theorem dX7_isWrite_7 : decode cX7_isWrite 7 = .ok (.getfield 127, 3) := by decide +kernel
theorem dX7_isWrite_10 : decode cX7_isWrite 10 = .ok (.if_icmp .ge 7, 3) := by decide +kernel
theorem dX7_isWrite_13 : decode cX7_isWrite 13 = .ok (.iconst 0, 1) := by decide +kernel
theorem dX7_isWrite_14 : decode cX7_isWrite 14 = .ok (.goto 4, 3) := by decide +kernel
theorem dX7_isWrite_17 : decode cX7_isWrite 17 = .ok (.iconst 1, 1) := by decide +kernel
theorem dX7_isWrite_18 : decode cX7_isWrite 18 = .ok (.invokevirtual 83, 3) := by decide +kernel
theorem dX7_isWrite_21 : decode cX7_isWrite 21 = .ok (.ireturn, 1) := by decide +kernel
set_option maxRecDepth 20000 in
theorem ggX7_write_X7_isWrite : GoodIn wsX7_write wsX7_isWrite := goodIn_r _ [6, 7, 8, 9, 10, 5, 11, 12, 13, 14, 15, 16, 17, 18, 19, 20, 21, 22, 23, 24, 25, 26, 27, 28] rfl (by decide +kernel)
set_option maxRecDepth 20000 in
theorem gX7_write_X7_isWrite : GoodIn wsX7_write (wsV RX7 148 RX7 yX7_isWrite wsX7_isWrite) := goodIn_app (goodIn_r _ [2, 3, 4, 5] rfl (by decide +kernel)) ggX7_write_X7_isWrite
theorem dX7_write_0 : decode cX7_write 0 = .ok (.aload_n 0, 1) := by decide +kernel
theorem dX7_write_1 : decode cX7_write 1 = .ok (.iload_n 1, 1) := by decide +kernel
theorem dX7_write_2 : decode cX7_write 2 = .ok (.invokevirtual 148, 3) := by decide +kernel
theorem dX7_write_5 : decode cX7_write 5 = .ok (.ifCond .eq 20, 3) := by decide +kernel
theorem dX7_write_8 : decode cX7_write 8 = .ok (.aload_n 0, 1) := by decide +kernel
theorem dX7_write_9 : decode cX7_write 9 = .ok (.getfield 50, 3) := by decide +kernel
theorem dX7_write_12 : decode cX7_write 12 = .ok (.iload_n 1, 1) := by decide +kernel
theorem dX7_write_13 : decode cX7_write 13 = .ok (.sipush 16384, 3) := by decide +kernel
theorem dX7_write_16 : decode cX7_write 16 = .ok (.irem, 1) := by decide +kernel
theorem dX7_write_17 : decode cX7_write 17 = .ok (.iaload, 1) := by decide +kernel
theorem dX7_write_18 : decode cX7_write 18 = .ok (.sipush 4096, 3) := by decide +kernel
theorem dX7_write_21 : decode cX7_write 21 = .ok (.idiv, 1) := by decide +kernel
theorem dX7_write_22 : decode cX7_write 22 = .ok (.goto 4, 3) := by decide +kernel
theorem dX7_write_25 : decode cX7_write 25 = .ok (.iconst 0, 1) := by decide +kernel
theorem dX7_write_26 : decode cX7_write 26 = .ok (.ireturn, 1) := by decide +kernel
set_option maxRecDepth 20000 in
theorem ggX7_written_X7_isWrite : GoodIn wsX7_written wsX7_isWrite := goodIn_r _ [6, 7, 8, 9, 10, 5, 11, 12, 13, 14, 15, 16, 17, 18, 19, 20, 21, 22, 23, 24, 25, 26, 27, 28] rfl (by decide +kernel)
set_option maxRecDepth 20000 in
theorem gX7_written_X7_isWrite : GoodIn wsX7_written (wsV RX7 148 RX7 yX7_isWrite wsX7_isWrite) := goodIn_app (goodIn_r _ [2, 3, 4, 5] rfl (by decide +kernel)) ggX7_written_X7_isWrite
theorem dX7_written_0 : decode cX7_written 0 = .ok (.aload_n 0, 1) := by decide +kernel
theorem dX7_written_1 : decode cX7_written 1 = .ok (.iload_n 1, 1) := by decide +kernel
theorem dX7_written_2 : decode cX7_written 2 = .ok (.invokevirtual 148, 3) := by decide +kernel
theorem dX7_written_5 : decode cX7_written 5 = .ok (.ifCond .eq 20, 3) := by decide +kernel
theorem dX7_written_8 : decode cX7_written 8 = .ok (.aload_n 0, 1) := by decide +kernel
theorem dX7_written_9 : decode cX7_written 9 = .ok (.getfield 50, 3) := by decide +kernel
theorem dX7_written_12 : decode cX7_written 12 = .ok (.iload_n 1, 1) := by decide +kernel
theorem dX7_written_13 : decode cX7_written 13 = .ok (.sipush 16384, 3) := by decide +kernel
theorem dX7_written_16 : decode cX7_written 16 = .ok (.irem, 1) := by decide +kernel
theorem dX7_written_17 : decode cX7_written 17 = .ok (.iaload, 1) := by decide +kernel
theorem dX7_written_18 : decode cX7_written 18 = .ok (.sipush 4096, 3) := by decide +kernel
theorem dX7_written_21 : decode cX7_written 21 = .ok (.irem, 1) := by decide +kernel
theorem dX7_written_22 : decode cX7_written 22 = .ok (.goto 4, 3) := by decide +kernel
theorem dX7_written_25 : decode cX7_written 25 = .ok (.iconst 0, 1) := by decide +kernel
theorem dX7_written_26 : decode cX7_written 26 = .ok (.ireturn, 1) := by decide +kernel
