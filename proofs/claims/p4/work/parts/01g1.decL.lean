theorem dL_makeAuthor_0 : decode cL_makeAuthor 0 = .ok (.aload_n 3, 1) := by decide +kernel
theorem dL_makeAuthor_1 : decode cL_makeAuthor 1 = .ok (.iconst 0, 1) := by decide +kernel
theorem dL_makeAuthor_2 : decode cL_makeAuthor 2 = .ok (.aload_n 0, 1) := by decide +kernel
theorem dL_makeAuthor_3 : decode cL_makeAuthor 3 = .ok (.iload_n 1, 1) := by decide +kernel
theorem dL_makeAuthor_4 : decode cL_makeAuthor 4 = .ok (.iload_n 2, 1) := by decide +kernel
theorem dL_makeAuthor_5 : decode cL_makeAuthor 5 = .ok (.invokevirtual 7, 3) := by decide +kernel
theorem dL_makeAuthor_8 : decode cL_makeAuthor 8 = .ok (.i2l, 1) := by decide +kernel
theorem dL_makeAuthor_9 : decode cL_makeAuthor 9 = .ok (.lastore, 1) := by decide +kernel
theorem dL_makeAuthor_10 : decode cL_makeAuthor 10 = .ok (.goto 11, 3) := by decide +kernel
theorem dL_makeAuthor_13 : decode cL_makeAuthor 13 = .ok (.astore 4, 2) := by decide +kernel
theorem dL_makeAuthor_15 : decode cL_makeAuthor 15 = .ok (.iconst 1, 1) := by decide +kernel
theorem dL_makeAuthor_16 : decode cL_makeAuthor 16 = .ok (.ireturn, 1) := by decide +kernel
theorem dL_makeAuthor_17 : decode cL_makeAuthor 17 = .ok (.astore 4, 2) := by decide +kernel
theorem dL_makeAuthor_19 : decode cL_makeAuthor 19 = .ok (.iconst 2, 1) := by decide +kernel
theorem dL_makeAuthor_20 : decode cL_makeAuthor 20 = .ok (.ireturn, 1) := by decide +kernel
theorem dL_makeAuthor_21 : decode cL_makeAuthor 21 = .ok (.iconst 0, 1) := by decide +kernel
theorem dL_makeAuthor_22 : decode cL_makeAuthor 22 = .ok (.ireturn, 1) := by decide +kernel
theorem dL_makeBook_0 : decode cL_makeBook 0 = .ok (.aload 4, 2) := by decide +kernel
theorem dL_makeBook_2 : decode cL_makeBook 2 = .ok (.iconst 0, 1) := by decide +kernel
theorem dL_makeBook_3 : decode cL_makeBook 3 = .ok (.aload_n 0, 1) := by decide +kernel
theorem dL_makeBook_4 : decode cL_makeBook 4 = .ok (.iload_n 1, 1) := by decide +kernel
theorem dL_makeBook_5 : decode cL_makeBook 5 = .ok (.iload_n 2, 1) := by decide +kernel
theorem dL_makeBook_6 : decode cL_makeBook 6 = .ok (.iload_n 3, 1) := by decide +kernel
theorem dL_makeBook_7 : decode cL_makeBook 7 = .ok (.invokevirtual 17, 3) := by decide +kernel
theorem dL_makeBook_10 : decode cL_makeBook 10 = .ok (.i2l, 1) := by decide +kernel
theorem dL_makeBook_11 : decode cL_makeBook 11 = .ok (.lastore, 1) := by decide +kernel
theorem dL_makeBook_12 : decode cL_makeBook 12 = .ok (.goto 15, 3) := by decide +kernel
theorem dL_makeBook_15 : decode cL_makeBook 15 = .ok (.astore 5, 2) := by decide +kernel
theorem dL_makeBook_17 : decode cL_makeBook 17 = .ok (.iconst 1, 1) := by decide +kernel
theorem dL_makeBook_18 : decode cL_makeBook 18 = .ok (.ireturn, 1) := by decide +kernel
theorem dL_makeBook_19 : decode cL_makeBook 19 = .ok (.astore 5, 2) := by decide +kernel
theorem dL_makeBook_21 : decode cL_makeBook 21 = .ok (.iconst 2, 1) := by decide +kernel
theorem dL_makeBook_22 : decode cL_makeBook 22 = .ok (.ireturn, 1) := by decide +kernel
theorem dL_makeBook_23 : decode cL_makeBook 23 = .ok (.astore 5, 2) := by decide +kernel
theorem dL_makeBook_25 : decode cL_makeBook 25 = .ok (.iconst 3, 1) := by decide +kernel
theorem dL_makeBook_26 : decode cL_makeBook 26 = .ok (.ireturn, 1) := by decide +kernel
theorem dL_makeBook_27 : decode cL_makeBook 27 = .ok (.iconst 0, 1) := by decide +kernel
theorem dL_makeBook_28 : decode cL_makeBook 28 = .ok (.ireturn, 1) := by decide +kernel
theorem dL_find_0 : decode cL_find 0 = .ok (.aload 4, 2) := by decide +kernel
theorem dL_find_2 : decode cL_find 2 = .ok (.iconst 0, 1) := by decide +kernel
theorem dL_find_3 : decode cL_find 3 = .ok (.aload_n 0, 1) := by decide +kernel
theorem dL_find_4 : decode cL_find 4 = .ok (.iload_n 1, 1) := by decide +kernel
theorem dL_find_5 : decode cL_find 5 = .ok (.iload_n 2, 1) := by decide +kernel
theorem dL_find_6 : decode cL_find 6 = .ok (.iload_n 3, 1) := by decide +kernel
theorem dL_find_7 : decode cL_find 7 = .ok (.invokevirtual 23, 3) := by decide +kernel
theorem dL_find_10 : decode cL_find 10 = .ok (.ifCond .eq 7, 3) := by decide +kernel
theorem dL_find_13 : decode cL_find 13 = .ok (.lconst 1, 1) := by decide +kernel
theorem dL_find_14 : decode cL_find 14 = .ok (.goto 4, 3) := by decide +kernel
theorem dL_find_17 : decode cL_find 17 = .ok (.lconst 0, 1) := by decide +kernel
theorem dL_find_18 : decode cL_find 18 = .ok (.lastore, 1) := by decide +kernel
theorem dL_find_19 : decode cL_find 19 = .ok (.goto 11, 3) := by decide +kernel
theorem dL_find_22 : decode cL_find 22 = .ok (.astore 5, 2) := by decide +kernel
theorem dL_find_24 : decode cL_find 24 = .ok (.iconst 1, 1) := by decide +kernel
theorem dL_find_25 : decode cL_find 25 = .ok (.ireturn, 1) := by decide +kernel
theorem dL_find_26 : decode cL_find 26 = .ok (.astore 5, 2) := by decide +kernel
theorem dL_find_28 : decode cL_find 28 = .ok (.iconst 2, 1) := by decide +kernel
theorem dL_find_29 : decode cL_find 29 = .ok (.ireturn, 1) := by decide +kernel
theorem dL_find_30 : decode cL_find 30 = .ok (.iconst 0, 1) := by decide +kernel
theorem dL_find_31 : decode cL_find 31 = .ok (.ireturn, 1) := by decide +kernel
theorem dL_books_0 : decode cL_books 0 = .ok (.aload_n 3, 1) := by decide +kernel
theorem dL_books_1 : decode cL_books 1 = .ok (.iconst 0, 1) := by decide +kernel
theorem dL_books_2 : decode cL_books 2 = .ok (.aload_n 0, 1) := by decide +kernel
theorem dL_books_3 : decode cL_books 3 = .ok (.iload_n 1, 1) := by decide +kernel
theorem dL_books_4 : decode cL_books 4 = .ok (.iload_n 2, 1) := by decide +kernel
theorem dL_books_5 : decode cL_books 5 = .ok (.invokevirtual 27, 3) := by decide +kernel
theorem dL_books_8 : decode cL_books 8 = .ok (.i2l, 1) := by decide +kernel
theorem dL_books_9 : decode cL_books 9 = .ok (.lastore, 1) := by decide +kernel
theorem dL_books_10 : decode cL_books 10 = .ok (.goto 11, 3) := by decide +kernel
theorem dL_books_13 : decode cL_books 13 = .ok (.astore 4, 2) := by decide +kernel
theorem dL_books_15 : decode cL_books 15 = .ok (.iconst 1, 1) := by decide +kernel
theorem dL_books_16 : decode cL_books 16 = .ok (.ireturn, 1) := by decide +kernel
theorem dL_books_17 : decode cL_books 17 = .ok (.astore 4, 2) := by decide +kernel
theorem dL_books_19 : decode cL_books 19 = .ok (.iconst 2, 1) := by decide +kernel
theorem dL_books_20 : decode cL_books 20 = .ok (.ireturn, 1) := by decide +kernel
theorem dL_books_21 : decode cL_books 21 = .ok (.iconst 0, 1) := by decide +kernel
theorem dL_books_22 : decode cL_books 22 = .ok (.ireturn, 1) := by decide +kernel
theorem dL_setName_0 : decode cL_setName 0 = .ok (.aload_n 0, 1) := by decide +kernel
theorem dL_setName_1 : decode cL_setName 1 = .ok (.iload_n 1, 1) := by decide +kernel
theorem dL_setName_2 : decode cL_setName 2 = .ok (.iload_n 2, 1) := by decide +kernel
theorem dL_setName_3 : decode cL_setName 3 = .ok (.iload_n 3, 1) := by decide +kernel
theorem dL_setName_4 : decode cL_setName 4 = .ok (.iload 4, 2) := by decide +kernel
theorem dL_setName_6 : decode cL_setName 6 = .ok (.invokevirtual 30, 3) := by decide +kernel
theorem dL_setName_9 : decode cL_setName 9 = .ok (.goto 15, 3) := by decide +kernel
theorem dL_setName_12 : decode cL_setName 12 = .ok (.astore 5, 2) := by decide +kernel
theorem dL_setName_14 : decode cL_setName 14 = .ok (.iconst 1, 1) := by decide +kernel
theorem dL_setName_15 : decode cL_setName 15 = .ok (.ireturn, 1) := by decide +kernel
theorem dL_setName_16 : decode cL_setName 16 = .ok (.astore 5, 2) := by decide +kernel
theorem dL_setName_18 : decode cL_setName 18 = .ok (.iconst 2, 1) := by decide +kernel
theorem dL_setName_19 : decode cL_setName 19 = .ok (.ireturn, 1) := by decide +kernel
theorem dL_setName_20 : decode cL_setName 20 = .ok (.astore 5, 2) := by decide +kernel
theorem dL_setName_22 : decode cL_setName 22 = .ok (.iconst 3, 1) := by decide +kernel
theorem dL_setName_23 : decode cL_setName 23 = .ok (.ireturn, 1) := by decide +kernel
theorem dL_setName_24 : decode cL_setName 24 = .ok (.iconst 0, 1) := by decide +kernel
theorem dL_setName_25 : decode cL_setName 25 = .ok (.ireturn, 1) := by decide +kernel
theorem dL_setReference_0 : decode cL_setReference 0 = .ok (.aload_n 0, 1) := by decide +kernel
theorem dL_setReference_1 : decode cL_setReference 1 = .ok (.iload_n 1, 1) := by decide +kernel
theorem dL_setReference_2 : decode cL_setReference 2 = .ok (.iload_n 2, 1) := by decide +kernel
theorem dL_setReference_3 : decode cL_setReference 3 = .ok (.iload_n 3, 1) := by decide +kernel
theorem dL_setReference_4 : decode cL_setReference 4 = .ok (.iload 4, 2) := by decide +kernel
theorem dL_setReference_6 : decode cL_setReference 6 = .ok (.invokevirtual 34, 3) := by decide +kernel
theorem dL_setReference_9 : decode cL_setReference 9 = .ok (.goto 15, 3) := by decide +kernel
theorem dL_setReference_12 : decode cL_setReference 12 = .ok (.astore 5, 2) := by decide +kernel
theorem dL_setReference_14 : decode cL_setReference 14 = .ok (.iconst 1, 1) := by decide +kernel
theorem dL_setReference_15 : decode cL_setReference 15 = .ok (.ireturn, 1) := by decide +kernel
theorem dL_setReference_16 : decode cL_setReference 16 = .ok (.astore 5, 2) := by decide +kernel
theorem dL_setReference_18 : decode cL_setReference 18 = .ok (.iconst 2, 1) := by decide +kernel
theorem dL_setReference_19 : decode cL_setReference 19 = .ok (.ireturn, 1) := by decide +kernel
theorem dL_setReference_20 : decode cL_setReference 20 = .ok (.astore 5, 2) := by decide +kernel
theorem dL_setReference_22 : decode cL_setReference 22 = .ok (.iconst 3, 1) := by decide +kernel
theorem dL_setReference_23 : decode cL_setReference 23 = .ok (.ireturn, 1) := by decide +kernel
theorem dL_setReference_24 : decode cL_setReference 24 = .ok (.iconst 0, 1) := by decide +kernel
theorem dL_setReference_25 : decode cL_setReference 25 = .ok (.ireturn, 1) := by decide +kernel
theorem dL_remove_0 : decode cL_remove 0 = .ok (.aload 4, 2) := by decide +kernel
theorem dL_remove_2 : decode cL_remove 2 = .ok (.iconst 0, 1) := by decide +kernel
theorem dL_remove_3 : decode cL_remove 3 = .ok (.aload_n 0, 1) := by decide +kernel
theorem dL_remove_4 : decode cL_remove 4 = .ok (.iload_n 1, 1) := by decide +kernel
theorem dL_remove_5 : decode cL_remove 5 = .ok (.iload_n 2, 1) := by decide +kernel
theorem dL_remove_6 : decode cL_remove 6 = .ok (.iload_n 3, 1) := by decide +kernel
theorem dL_remove_7 : decode cL_remove 7 = .ok (.invokevirtual 37, 3) := by decide +kernel
theorem dL_remove_10 : decode cL_remove 10 = .ok (.i2l, 1) := by decide +kernel
theorem dL_remove_11 : decode cL_remove 11 = .ok (.lastore, 1) := by decide +kernel
theorem dL_remove_12 : decode cL_remove 12 = .ok (.goto 15, 3) := by decide +kernel
theorem dL_remove_15 : decode cL_remove 15 = .ok (.astore 5, 2) := by decide +kernel
theorem dL_remove_17 : decode cL_remove 17 = .ok (.iconst 1, 1) := by decide +kernel
theorem dL_remove_18 : decode cL_remove 18 = .ok (.ireturn, 1) := by decide +kernel
theorem dL_remove_19 : decode cL_remove 19 = .ok (.astore 5, 2) := by decide +kernel
theorem dL_remove_21 : decode cL_remove 21 = .ok (.iconst 2, 1) := by decide +kernel
theorem dL_remove_22 : decode cL_remove 22 = .ok (.ireturn, 1) := by decide +kernel
theorem dL_remove_23 : decode cL_remove 23 = .ok (.astore 5, 2) := by decide +kernel
theorem dL_remove_25 : decode cL_remove 25 = .ok (.iconst 3, 1) := by decide +kernel
theorem dL_remove_26 : decode cL_remove 26 = .ok (.ireturn, 1) := by decide +kernel
theorem dL_remove_27 : decode cL_remove 27 = .ok (.iconst 0, 1) := by decide +kernel
theorem dL_remove_28 : decode cL_remove 28 = .ok (.ireturn, 1) := by decide +kernel
theorem dL_name_0 : decode cL_name 0 = .ok (.aload 4, 2) := by decide +kernel
theorem dL_name_2 : decode cL_name 2 = .ok (.iconst 0, 1) := by decide +kernel
theorem dL_name_3 : decode cL_name 3 = .ok (.aload_n 0, 1) := by decide +kernel
theorem dL_name_4 : decode cL_name 4 = .ok (.iload_n 1, 1) := by decide +kernel
theorem dL_name_5 : decode cL_name 5 = .ok (.iload_n 2, 1) := by decide +kernel
theorem dL_name_6 : decode cL_name 6 = .ok (.iload_n 3, 1) := by decide +kernel
theorem dL_name_7 : decode cL_name 7 = .ok (.invokevirtual 40, 3) := by decide +kernel
theorem dL_name_10 : decode cL_name 10 = .ok (.i2l, 1) := by decide +kernel
theorem dL_name_11 : decode cL_name 11 = .ok (.lastore, 1) := by decide +kernel
theorem dL_name_12 : decode cL_name 12 = .ok (.goto 15, 3) := by decide +kernel
theorem dL_name_15 : decode cL_name 15 = .ok (.astore 5, 2) := by decide +kernel
theorem dL_name_17 : decode cL_name 17 = .ok (.iconst 1, 1) := by decide +kernel
theorem dL_name_18 : decode cL_name 18 = .ok (.ireturn, 1) := by decide +kernel
theorem dL_name_19 : decode cL_name 19 = .ok (.astore 5, 2) := by decide +kernel
theorem dL_name_21 : decode cL_name 21 = .ok (.iconst 2, 1) := by decide +kernel
theorem dL_name_22 : decode cL_name 22 = .ok (.ireturn, 1) := by decide +kernel
theorem dL_name_23 : decode cL_name 23 = .ok (.astore 5, 2) := by decide +kernel
theorem dL_name_25 : decode cL_name 25 = .ok (.iconst 3, 1) := by decide +kernel
theorem dL_name_26 : decode cL_name 26 = .ok (.ireturn, 1) := by decide +kernel
theorem dL_name_27 : decode cL_name 27 = .ok (.iconst 0, 1) := by decide +kernel
theorem dL_name_28 : decode cL_name 28 = .ok (.ireturn, 1) := by decide +kernel
theorem dL_reference_0 : decode cL_reference 0 = .ok (.aload 4, 2) := by decide +kernel
theorem dL_reference_2 : decode cL_reference 2 = .ok (.iconst 0, 1) := by decide +kernel
theorem dL_reference_3 : decode cL_reference 3 = .ok (.aload_n 0, 1) := by decide +kernel
theorem dL_reference_4 : decode cL_reference 4 = .ok (.iload_n 1, 1) := by decide +kernel
theorem dL_reference_5 : decode cL_reference 5 = .ok (.iload_n 2, 1) := by decide +kernel
theorem dL_reference_6 : decode cL_reference 6 = .ok (.iload_n 3, 1) := by decide +kernel
theorem dL_reference_7 : decode cL_reference 7 = .ok (.invokevirtual 43, 3) := by decide +kernel
theorem dL_reference_10 : decode cL_reference 10 = .ok (.i2l, 1) := by decide +kernel
theorem dL_reference_11 : decode cL_reference 11 = .ok (.lastore, 1) := by decide +kernel
theorem dL_reference_12 : decode cL_reference 12 = .ok (.goto 15, 3) := by decide +kernel
theorem dL_reference_15 : decode cL_reference 15 = .ok (.astore 5, 2) := by decide +kernel
theorem dL_reference_17 : decode cL_reference 17 = .ok (.iconst 1, 1) := by decide +kernel
theorem dL_reference_18 : decode cL_reference 18 = .ok (.ireturn, 1) := by decide +kernel
theorem dL_reference_19 : decode cL_reference 19 = .ok (.astore 5, 2) := by decide +kernel
theorem dL_reference_21 : decode cL_reference 21 = .ok (.iconst 2, 1) := by decide +kernel
theorem dL_reference_22 : decode cL_reference 22 = .ok (.ireturn, 1) := by decide +kernel
theorem dL_reference_23 : decode cL_reference 23 = .ok (.astore 5, 2) := by decide +kernel
theorem dL_reference_25 : decode cL_reference 25 = .ok (.iconst 3, 1) := by decide +kernel
theorem dL_reference_26 : decode cL_reference 26 = .ok (.ireturn, 1) := by decide +kernel
theorem dL_reference_27 : decode cL_reference 27 = .ok (.iconst 0, 1) := by decide +kernel
theorem dL_reference_28 : decode cL_reference 28 = .ok (.ireturn, 1) := by decide +kernel
theorem dL_known_0 : decode cL_known 0 = .ok (.aload_n 2, 1) := by decide +kernel
theorem dL_known_1 : decode cL_known 1 = .ok (.iconst 0, 1) := by decide +kernel
theorem dL_known_2 : decode cL_known 2 = .ok (.aload_n 0, 1) := by decide +kernel
theorem dL_known_3 : decode cL_known 3 = .ok (.iload_n 1, 1) := by decide +kernel
theorem dL_known_4 : decode cL_known 4 = .ok (.invokevirtual 46, 3) := by decide +kernel
theorem dL_known_7 : decode cL_known 7 = .ok (.i2l, 1) := by decide +kernel
theorem dL_known_8 : decode cL_known 8 = .ok (.lastore, 1) := by decide +kernel
theorem dL_known_9 : decode cL_known 9 = .ok (.goto 6, 3) := by decide +kernel
theorem dL_known_12 : decode cL_known 12 = .ok (.astore_n 3, 1) := by decide +kernel
theorem dL_known_13 : decode cL_known 13 = .ok (.iconst 1, 1) := by decide +kernel
theorem dL_known_14 : decode cL_known 14 = .ok (.ireturn, 1) := by decide +kernel
theorem dL_known_15 : decode cL_known 15 = .ok (.iconst 0, 1) := by decide +kernel
theorem dL_known_16 : decode cL_known 16 = .ok (.ireturn, 1) := by decide +kernel
theorem dL_dirty_0 : decode cL_dirty 0 = .ok (.aload_n 2, 1) := by decide +kernel
theorem dL_dirty_1 : decode cL_dirty 1 = .ok (.iconst 0, 1) := by decide +kernel
theorem dL_dirty_2 : decode cL_dirty 2 = .ok (.aload_n 0, 1) := by decide +kernel
theorem dL_dirty_3 : decode cL_dirty 3 = .ok (.iload_n 1, 1) := by decide +kernel
theorem dL_dirty_4 : decode cL_dirty 4 = .ok (.invokevirtual 50, 3) := by decide +kernel
theorem dL_dirty_7 : decode cL_dirty 7 = .ok (.i2l, 1) := by decide +kernel
theorem dL_dirty_8 : decode cL_dirty 8 = .ok (.lastore, 1) := by decide +kernel
theorem dL_dirty_9 : decode cL_dirty 9 = .ok (.goto 6, 3) := by decide +kernel
theorem dL_dirty_12 : decode cL_dirty 12 = .ok (.astore_n 3, 1) := by decide +kernel
theorem dL_dirty_13 : decode cL_dirty 13 = .ok (.iconst 1, 1) := by decide +kernel
theorem dL_dirty_14 : decode cL_dirty 14 = .ok (.ireturn, 1) := by decide +kernel
theorem dL_dirty_15 : decode cL_dirty 15 = .ok (.iconst 0, 1) := by decide +kernel
theorem dL_dirty_16 : decode cL_dirty 16 = .ok (.ireturn, 1) := by decide +kernel
theorem dL_flush_0 : decode cL_flush 0 = .ok (.aload_n 2, 1) := by decide +kernel
theorem dL_flush_1 : decode cL_flush 1 = .ok (.iconst 0, 1) := by decide +kernel
theorem dL_flush_2 : decode cL_flush 2 = .ok (.aload_n 0, 1) := by decide +kernel
theorem dL_flush_3 : decode cL_flush 3 = .ok (.iload_n 1, 1) := by decide +kernel
theorem dL_flush_4 : decode cL_flush 4 = .ok (.invokevirtual 53, 3) := by decide +kernel
theorem dL_flush_7 : decode cL_flush 7 = .ok (.i2l, 1) := by decide +kernel
theorem dL_flush_8 : decode cL_flush 8 = .ok (.lastore, 1) := by decide +kernel
theorem dL_flush_9 : decode cL_flush 9 = .ok (.goto 9, 3) := by decide +kernel
theorem dL_flush_12 : decode cL_flush 12 = .ok (.astore_n 3, 1) := by decide +kernel
theorem dL_flush_13 : decode cL_flush 13 = .ok (.iconst 1, 1) := by decide +kernel
theorem dL_flush_14 : decode cL_flush 14 = .ok (.ireturn, 1) := by decide +kernel
theorem dL_flush_15 : decode cL_flush 15 = .ok (.astore_n 3, 1) := by decide +kernel
theorem dL_flush_16 : decode cL_flush 16 = .ok (.iconst 2, 1) := by decide +kernel
theorem dL_flush_17 : decode cL_flush 17 = .ok (.ireturn, 1) := by decide +kernel
theorem dL_flush_18 : decode cL_flush 18 = .ok (.iconst 0, 1) := by decide +kernel
theorem dL_flush_19 : decode cL_flush 19 = .ok (.ireturn, 1) := by decide +kernel
theorem dL_clear_0 : decode cL_clear 0 = .ok (.aload_n 2, 1) := by decide +kernel
theorem dL_clear_1 : decode cL_clear 1 = .ok (.iconst 0, 1) := by decide +kernel
theorem dL_clear_2 : decode cL_clear 2 = .ok (.aload_n 0, 1) := by decide +kernel
theorem dL_clear_3 : decode cL_clear 3 = .ok (.iload_n 1, 1) := by decide +kernel
theorem dL_clear_4 : decode cL_clear 4 = .ok (.invokevirtual 56, 3) := by decide +kernel
theorem dL_clear_7 : decode cL_clear 7 = .ok (.i2l, 1) := by decide +kernel
theorem dL_clear_8 : decode cL_clear 8 = .ok (.lastore, 1) := by decide +kernel
theorem dL_clear_9 : decode cL_clear 9 = .ok (.goto 6, 3) := by decide +kernel
theorem dL_clear_12 : decode cL_clear 12 = .ok (.astore_n 3, 1) := by decide +kernel
theorem dL_clear_13 : decode cL_clear 13 = .ok (.iconst 1, 1) := by decide +kernel
theorem dL_clear_14 : decode cL_clear 14 = .ok (.ireturn, 1) := by decide +kernel
theorem dL_clear_15 : decode cL_clear 15 = .ok (.iconst 0, 1) := by decide +kernel
theorem dL_clear_16 : decode cL_clear 16 = .ok (.ireturn, 1) := by decide +kernel
theorem dL_rows_0 : decode cL_rows 0 = .ok (.aload_n 2, 1) := by decide +kernel
theorem dL_rows_1 : decode cL_rows 1 = .ok (.iconst 0, 1) := by decide +kernel
theorem dL_rows_2 : decode cL_rows 2 = .ok (.aload_n 0, 1) := by decide +kernel
theorem dL_rows_3 : decode cL_rows 3 = .ok (.iload_n 1, 1) := by decide +kernel
theorem dL_rows_4 : decode cL_rows 4 = .ok (.invokevirtual 59, 3) := by decide +kernel
theorem dL_rows_7 : decode cL_rows 7 = .ok (.i2l, 1) := by decide +kernel
theorem dL_rows_8 : decode cL_rows 8 = .ok (.lastore, 1) := by decide +kernel
theorem dL_rows_9 : decode cL_rows 9 = .ok (.goto 6, 3) := by decide +kernel
theorem dL_rows_12 : decode cL_rows 12 = .ok (.astore_n 3, 1) := by decide +kernel
theorem dL_rows_13 : decode cL_rows 13 = .ok (.iconst 1, 1) := by decide +kernel
theorem dL_rows_14 : decode cL_rows 14 = .ok (.ireturn, 1) := by decide +kernel
theorem dL_rows_15 : decode cL_rows 15 = .ok (.iconst 0, 1) := by decide +kernel
theorem dL_rows_16 : decode cL_rows 16 = .ok (.ireturn, 1) := by decide +kernel
theorem dL_rowName_0 : decode cL_rowName 0 = .ok (.aload_n 3, 1) := by decide +kernel
theorem dL_rowName_1 : decode cL_rowName 1 = .ok (.iconst 0, 1) := by decide +kernel
theorem dL_rowName_2 : decode cL_rowName 2 = .ok (.aload_n 0, 1) := by decide +kernel
theorem dL_rowName_3 : decode cL_rowName 3 = .ok (.iload_n 1, 1) := by decide +kernel
theorem dL_rowName_4 : decode cL_rowName 4 = .ok (.iload_n 2, 1) := by decide +kernel
theorem dL_rowName_5 : decode cL_rowName 5 = .ok (.invokevirtual 62, 3) := by decide +kernel
theorem dL_rowName_8 : decode cL_rowName 8 = .ok (.i2l, 1) := by decide +kernel
theorem dL_rowName_9 : decode cL_rowName 9 = .ok (.lastore, 1) := by decide +kernel
theorem dL_rowName_10 : decode cL_rowName 10 = .ok (.goto 11, 3) := by decide +kernel
theorem dL_rowName_13 : decode cL_rowName 13 = .ok (.astore 4, 2) := by decide +kernel
theorem dL_rowName_15 : decode cL_rowName 15 = .ok (.iconst 1, 1) := by decide +kernel
theorem dL_rowName_16 : decode cL_rowName 16 = .ok (.ireturn, 1) := by decide +kernel
theorem dL_rowName_17 : decode cL_rowName 17 = .ok (.astore 4, 2) := by decide +kernel
theorem dL_rowName_19 : decode cL_rowName 19 = .ok (.iconst 2, 1) := by decide +kernel
theorem dL_rowName_20 : decode cL_rowName 20 = .ok (.ireturn, 1) := by decide +kernel
theorem dL_rowName_21 : decode cL_rowName 21 = .ok (.iconst 0, 1) := by decide +kernel
theorem dL_rowName_22 : decode cL_rowName 22 = .ok (.ireturn, 1) := by decide +kernel
theorem dL_rowReference_0 : decode cL_rowReference 0 = .ok (.aload_n 3, 1) := by decide +kernel
theorem dL_rowReference_1 : decode cL_rowReference 1 = .ok (.iconst 0, 1) := by decide +kernel
theorem dL_rowReference_2 : decode cL_rowReference 2 = .ok (.aload_n 0, 1) := by decide +kernel
theorem dL_rowReference_3 : decode cL_rowReference 3 = .ok (.iload_n 1, 1) := by decide +kernel
theorem dL_rowReference_4 : decode cL_rowReference 4 = .ok (.iload_n 2, 1) := by decide +kernel
theorem dL_rowReference_5 : decode cL_rowReference 5 = .ok (.invokevirtual 65, 3) := by decide +kernel
theorem dL_rowReference_8 : decode cL_rowReference 8 = .ok (.i2l, 1) := by decide +kernel
theorem dL_rowReference_9 : decode cL_rowReference 9 = .ok (.lastore, 1) := by decide +kernel
theorem dL_rowReference_10 : decode cL_rowReference 10 = .ok (.goto 11, 3) := by decide +kernel
theorem dL_rowReference_13 : decode cL_rowReference 13 = .ok (.astore 4, 2) := by decide +kernel
theorem dL_rowReference_15 : decode cL_rowReference 15 = .ok (.iconst 1, 1) := by decide +kernel
theorem dL_rowReference_16 : decode cL_rowReference 16 = .ok (.ireturn, 1) := by decide +kernel
theorem dL_rowReference_17 : decode cL_rowReference 17 = .ok (.astore 4, 2) := by decide +kernel
theorem dL_rowReference_19 : decode cL_rowReference 19 = .ok (.iconst 2, 1) := by decide +kernel
theorem dL_rowReference_20 : decode cL_rowReference 20 = .ok (.ireturn, 1) := by decide +kernel
theorem dL_rowReference_21 : decode cL_rowReference 21 = .ok (.iconst 0, 1) := by decide +kernel
theorem dL_rowReference_22 : decode cL_rowReference 22 = .ok (.ireturn, 1) := by decide +kernel
theorem dL_rowVersion_0 : decode cL_rowVersion 0 = .ok (.aload_n 3, 1) := by decide +kernel
theorem dL_rowVersion_1 : decode cL_rowVersion 1 = .ok (.iconst 0, 1) := by decide +kernel
theorem dL_rowVersion_2 : decode cL_rowVersion 2 = .ok (.aload_n 0, 1) := by decide +kernel
theorem dL_rowVersion_3 : decode cL_rowVersion 3 = .ok (.iload_n 1, 1) := by decide +kernel
theorem dL_rowVersion_4 : decode cL_rowVersion 4 = .ok (.iload_n 2, 1) := by decide +kernel
theorem dL_rowVersion_5 : decode cL_rowVersion 5 = .ok (.invokevirtual 68, 3) := by decide +kernel
theorem dL_rowVersion_8 : decode cL_rowVersion 8 = .ok (.i2l, 1) := by decide +kernel
theorem dL_rowVersion_9 : decode cL_rowVersion 9 = .ok (.lastore, 1) := by decide +kernel
theorem dL_rowVersion_10 : decode cL_rowVersion 10 = .ok (.goto 11, 3) := by decide +kernel
theorem dL_rowVersion_13 : decode cL_rowVersion 13 = .ok (.astore 4, 2) := by decide +kernel
theorem dL_rowVersion_15 : decode cL_rowVersion 15 = .ok (.iconst 1, 1) := by decide +kernel
theorem dL_rowVersion_16 : decode cL_rowVersion 16 = .ok (.ireturn, 1) := by decide +kernel
theorem dL_rowVersion_17 : decode cL_rowVersion 17 = .ok (.astore 4, 2) := by decide +kernel
theorem dL_rowVersion_19 : decode cL_rowVersion 19 = .ok (.iconst 2, 1) := by decide +kernel
theorem dL_rowVersion_20 : decode cL_rowVersion 20 = .ok (.ireturn, 1) := by decide +kernel
theorem dL_rowVersion_21 : decode cL_rowVersion 21 = .ok (.iconst 0, 1) := by decide +kernel
theorem dL_rowVersion_22 : decode cL_rowVersion 22 = .ok (.ireturn, 1) := by decide +kernel
theorem dL_write_0 : decode cL_write 0 = .ok (.aload_n 2, 1) := by decide +kernel
theorem dL_write_1 : decode cL_write 1 = .ok (.iconst 0, 1) := by decide +kernel
theorem dL_write_2 : decode cL_write 2 = .ok (.aload_n 0, 1) := by decide +kernel
theorem dL_write_3 : decode cL_write 3 = .ok (.iload_n 1, 1) := by decide +kernel
theorem dL_write_4 : decode cL_write 4 = .ok (.invokevirtual 71, 3) := by decide +kernel
theorem dL_write_7 : decode cL_write 7 = .ok (.i2l, 1) := by decide +kernel
theorem dL_write_8 : decode cL_write 8 = .ok (.lastore, 1) := by decide +kernel
theorem dL_write_9 : decode cL_write 9 = .ok (.goto 6, 3) := by decide +kernel
theorem dL_write_12 : decode cL_write 12 = .ok (.astore_n 3, 1) := by decide +kernel
theorem dL_write_13 : decode cL_write 13 = .ok (.iconst 1, 1) := by decide +kernel
theorem dL_write_14 : decode cL_write 14 = .ok (.ireturn, 1) := by decide +kernel
theorem dL_write_15 : decode cL_write 15 = .ok (.iconst 0, 1) := by decide +kernel
theorem dL_write_16 : decode cL_write 16 = .ok (.ireturn, 1) := by decide +kernel
theorem dL_written_0 : decode cL_written 0 = .ok (.aload_n 2, 1) := by decide +kernel
theorem dL_written_1 : decode cL_written 1 = .ok (.iconst 0, 1) := by decide +kernel
theorem dL_written_2 : decode cL_written 2 = .ok (.aload_n 0, 1) := by decide +kernel
theorem dL_written_3 : decode cL_written 3 = .ok (.iload_n 1, 1) := by decide +kernel
theorem dL_written_4 : decode cL_written 4 = .ok (.invokevirtual 74, 3) := by decide +kernel
theorem dL_written_7 : decode cL_written 7 = .ok (.i2l, 1) := by decide +kernel
theorem dL_written_8 : decode cL_written 8 = .ok (.lastore, 1) := by decide +kernel
theorem dL_written_9 : decode cL_written 9 = .ok (.goto 6, 3) := by decide +kernel
theorem dL_written_12 : decode cL_written 12 = .ok (.astore_n 3, 1) := by decide +kernel
theorem dL_written_13 : decode cL_written 13 = .ok (.iconst 1, 1) := by decide +kernel
theorem dL_written_14 : decode cL_written 14 = .ok (.ireturn, 1) := by decide +kernel
theorem dL_written_15 : decode cL_written 15 = .ok (.iconst 0, 1) := by decide +kernel
theorem dL_written_16 : decode cL_written 16 = .ok (.ireturn, 1) := by decide +kernel
theorem dL_law_0 : decode cL_law 0 = .ok (.new 8, 3) := by decide +kernel
theorem dL_law_3 : decode cL_law 3 = .ok (.dup, 1) := by decide +kernel
theorem dL_law_4 : decode cL_law 4 = .ok (.invokespecial 77, 3) := by decide +kernel
theorem dL_law_7 : decode cL_law 7 = .ok (.astore_n 1, 1) := by decide +kernel
theorem dL_law_8 : decode cL_law 8 = .ok (.new 78, 3) := by decide +kernel
theorem dL_law_11 : decode cL_law 11 = .ok (.dup, 1) := by decide +kernel
theorem dL_law_12 : decode cL_law 12 = .ok (.invokespecial 80, 3) := by decide +kernel
theorem dL_law_15 : decode cL_law 15 = .ok (.astore_n 2, 1) := by decide +kernel
theorem dL_law_16 : decode cL_law 16 = .ok (.iconst 1, 1) := by decide +kernel
theorem dL_law_17 : decode cL_law 17 = .ok (.newarray .long, 2) := by decide +kernel
theorem dL_law_19 : decode cL_law 19 = .ok (.astore_n 3, 1) := by decide +kernel
theorem dL_law_20 : decode cL_law 20 = .ok (.iconst 0, 1) := by decide +kernel
theorem dL_law_21 : decode cL_law 21 = .ok (.istore 4, 2) := by decide +kernel
theorem dL_law_23 : decode cL_law 23 = .ok (.iload 4, 2) := by decide +kernel
theorem dL_law_25 : decode cL_law 25 = .ok (.aload_n 0, 1) := by decide +kernel
theorem dL_law_26 : decode cL_law 26 = .ok (.arraylength, 1) := by decide +kernel
theorem dL_law_27 : decode cL_law 27 = .ok (.iconst 5, 1) := by decide +kernel
theorem dL_law_28 : decode cL_law 28 = .ok (.isub, 1) := by decide +kernel
theorem dL_law_29 : decode cL_law 29 = .ok (.if_icmp .gt 935, 3) := by decide +kernel
theorem dL_law_32 : decode cL_law 32 = .ok (.aload_n 0, 1) := by decide +kernel
theorem dL_law_33 : decode cL_law 33 = .ok (.iload 4, 2) := by decide +kernel
theorem dL_law_35 : decode cL_law 35 = .ok (.iaload, 1) := by decide +kernel
theorem dL_law_36 : decode cL_law 36 = .ok (.bipush 31, 2) := by decide +kernel
theorem dL_law_38 : decode cL_law 38 = .ok (.iand, 1) := by decide +kernel
theorem dL_law_39 : decode cL_law 39 = .ok (.tableswitch 919 0 19 #[93, 133, 185, 272, 312, 373, 434, 486, 538, 590, 618, 646, 674, 702, 730, 770, 810, 850, 863, 891], 93) := by decide +kernel
theorem dL_law_132 : decode cL_law 132 = .ok (.aload_n 1, 1) := by decide +kernel
theorem dL_law_133 : decode cL_law 133 = .ok (.aload_n 0, 1) := by decide +kernel
theorem dL_law_134 : decode cL_law 134 = .ok (.iload 4, 2) := by decide +kernel
theorem dL_law_136 : decode cL_law 136 = .ok (.iconst 1, 1) := by decide +kernel
theorem dL_law_137 : decode cL_law 137 = .ok (.iadd, 1) := by decide +kernel
theorem dL_law_138 : decode cL_law 138 = .ok (.iaload, 1) := by decide +kernel
theorem dL_law_139 : decode cL_law 139 = .ok (.aload_n 0, 1) := by decide +kernel
theorem dL_law_140 : decode cL_law 140 = .ok (.iload 4, 2) := by decide +kernel
theorem dL_law_142 : decode cL_law 142 = .ok (.iconst 2, 1) := by decide +kernel
theorem dL_law_143 : decode cL_law 143 = .ok (.iadd, 1) := by decide +kernel
theorem dL_law_144 : decode cL_law 144 = .ok (.iaload, 1) := by decide +kernel
theorem dL_law_145 : decode cL_law 145 = .ok (.aload_n 3, 1) := by decide +kernel
theorem dL_law_146 : decode cL_law 146 = .ok (.invokestatic 81, 3) := by decide +kernel
theorem dL_law_149 : decode cL_law 149 = .ok (.istore 5, 2) := by decide +kernel
theorem dL_law_151 : decode cL_law 151 = .ok (.aload_n 2, 1) := by decide +kernel
theorem dL_law_152 : decode cL_law 152 = .ok (.aload_n 0, 1) := by decide +kernel
theorem dL_law_153 : decode cL_law 153 = .ok (.iload 4, 2) := by decide +kernel
theorem dL_law_155 : decode cL_law 155 = .ok (.iconst 1, 1) := by decide +kernel
theorem dL_law_156 : decode cL_law 156 = .ok (.iadd, 1) := by decide +kernel
theorem dL_law_157 : decode cL_law 157 = .ok (.iaload, 1) := by decide +kernel
theorem dL_law_158 : decode cL_law 158 = .ok (.aload_n 0, 1) := by decide +kernel
theorem dL_law_159 : decode cL_law 159 = .ok (.iload 4, 2) := by decide +kernel
theorem dL_law_161 : decode cL_law 161 = .ok (.iconst 2, 1) := by decide +kernel
theorem dL_law_162 : decode cL_law 162 = .ok (.iadd, 1) := by decide +kernel
theorem dL_law_163 : decode cL_law 163 = .ok (.iaload, 1) := by decide +kernel
theorem dL_law_164 : decode cL_law 164 = .ok (.invokevirtual 86, 3) := by decide +kernel
theorem dL_law_167 : decode cL_law 167 = .ok (.istore 6, 2) := by decide +kernel
theorem dL_law_169 : decode cL_law 169 = .ok (.goto 789, 3) := by decide +kernel
theorem dL_law_172 : decode cL_law 172 = .ok (.aload_n 1, 1) := by decide +kernel
theorem dL_law_173 : decode cL_law 173 = .ok (.aload_n 0, 1) := by decide +kernel
theorem dL_law_174 : decode cL_law 174 = .ok (.iload 4, 2) := by decide +kernel
theorem dL_law_176 : decode cL_law 176 = .ok (.iconst 1, 1) := by decide +kernel
theorem dL_law_177 : decode cL_law 177 = .ok (.iadd, 1) := by decide +kernel
theorem dL_law_178 : decode cL_law 178 = .ok (.iaload, 1) := by decide +kernel
theorem dL_law_179 : decode cL_law 179 = .ok (.aload_n 0, 1) := by decide +kernel
theorem dL_law_180 : decode cL_law 180 = .ok (.iload 4, 2) := by decide +kernel
theorem dL_law_182 : decode cL_law 182 = .ok (.iconst 2, 1) := by decide +kernel
theorem dL_law_183 : decode cL_law 183 = .ok (.iadd, 1) := by decide +kernel
theorem dL_law_184 : decode cL_law 184 = .ok (.iaload, 1) := by decide +kernel
theorem dL_law_185 : decode cL_law 185 = .ok (.aload_n 0, 1) := by decide +kernel
theorem dL_law_186 : decode cL_law 186 = .ok (.iload 4, 2) := by decide +kernel
theorem dL_law_188 : decode cL_law 188 = .ok (.iconst 3, 1) := by decide +kernel
theorem dL_law_189 : decode cL_law 189 = .ok (.iadd, 1) := by decide +kernel
theorem dL_law_190 : decode cL_law 190 = .ok (.iaload, 1) := by decide +kernel
theorem dL_law_191 : decode cL_law 191 = .ok (.aload_n 3, 1) := by decide +kernel
theorem dL_law_192 : decode cL_law 192 = .ok (.invokestatic 87, 3) := by decide +kernel
theorem dL_law_195 : decode cL_law 195 = .ok (.istore 5, 2) := by decide +kernel
theorem dL_law_197 : decode cL_law 197 = .ok (.aload_n 2, 1) := by decide +kernel
theorem dL_law_198 : decode cL_law 198 = .ok (.aload_n 0, 1) := by decide +kernel
theorem dL_law_199 : decode cL_law 199 = .ok (.iload 4, 2) := by decide +kernel
theorem dL_law_201 : decode cL_law 201 = .ok (.iconst 1, 1) := by decide +kernel
theorem dL_law_202 : decode cL_law 202 = .ok (.iadd, 1) := by decide +kernel
theorem dL_law_203 : decode cL_law 203 = .ok (.iaload, 1) := by decide +kernel
theorem dL_law_204 : decode cL_law 204 = .ok (.aload_n 0, 1) := by decide +kernel
theorem dL_law_205 : decode cL_law 205 = .ok (.iload 4, 2) := by decide +kernel
theorem dL_law_207 : decode cL_law 207 = .ok (.iconst 2, 1) := by decide +kernel
theorem dL_law_208 : decode cL_law 208 = .ok (.iadd, 1) := by decide +kernel
theorem dL_law_209 : decode cL_law 209 = .ok (.iaload, 1) := by decide +kernel
theorem dL_law_210 : decode cL_law 210 = .ok (.aload_n 0, 1) := by decide +kernel
theorem dL_law_211 : decode cL_law 211 = .ok (.iload 4, 2) := by decide +kernel
theorem dL_law_213 : decode cL_law 213 = .ok (.iconst 3, 1) := by decide +kernel
theorem dL_law_214 : decode cL_law 214 = .ok (.iadd, 1) := by decide +kernel
theorem dL_law_215 : decode cL_law 215 = .ok (.iaload, 1) := by decide +kernel
theorem dL_law_216 : decode cL_law 216 = .ok (.invokevirtual 90, 3) := by decide +kernel
theorem dL_law_219 : decode cL_law 219 = .ok (.istore 6, 2) := by decide +kernel
theorem dL_law_221 : decode cL_law 221 = .ok (.goto 737, 3) := by decide +kernel
theorem dL_law_224 : decode cL_law 224 = .ok (.aload_n 1, 1) := by decide +kernel
theorem dL_law_225 : decode cL_law 225 = .ok (.aload_n 0, 1) := by decide +kernel
theorem dL_law_226 : decode cL_law 226 = .ok (.iload 4, 2) := by decide +kernel
theorem dL_law_228 : decode cL_law 228 = .ok (.iconst 1, 1) := by decide +kernel
theorem dL_law_229 : decode cL_law 229 = .ok (.iadd, 1) := by decide +kernel
theorem dL_law_230 : decode cL_law 230 = .ok (.iaload, 1) := by decide +kernel
theorem dL_law_231 : decode cL_law 231 = .ok (.aload_n 0, 1) := by decide +kernel
theorem dL_law_232 : decode cL_law 232 = .ok (.iload 4, 2) := by decide +kernel
theorem dL_law_234 : decode cL_law 234 = .ok (.iconst 2, 1) := by decide +kernel
theorem dL_law_235 : decode cL_law 235 = .ok (.iadd, 1) := by decide +kernel
theorem dL_law_236 : decode cL_law 236 = .ok (.iaload, 1) := by decide +kernel
theorem dL_law_237 : decode cL_law 237 = .ok (.aload_n 0, 1) := by decide +kernel
theorem dL_law_238 : decode cL_law 238 = .ok (.iload 4, 2) := by decide +kernel
theorem dL_law_240 : decode cL_law 240 = .ok (.iconst 3, 1) := by decide +kernel
theorem dL_law_241 : decode cL_law 241 = .ok (.iadd, 1) := by decide +kernel
theorem dL_law_242 : decode cL_law 242 = .ok (.iaload, 1) := by decide +kernel
theorem dL_law_243 : decode cL_law 243 = .ok (.aload_n 3, 1) := by decide +kernel
theorem dL_law_244 : decode cL_law 244 = .ok (.invokestatic 91, 3) := by decide +kernel
theorem dL_law_247 : decode cL_law 247 = .ok (.istore 5, 2) := by decide +kernel
theorem dL_law_249 : decode cL_law 249 = .ok (.aload_n 2, 1) := by decide +kernel
theorem dL_law_250 : decode cL_law 250 = .ok (.aload_n 0, 1) := by decide +kernel
theorem dL_law_251 : decode cL_law 251 = .ok (.iload 4, 2) := by decide +kernel
theorem dL_law_253 : decode cL_law 253 = .ok (.iconst 1, 1) := by decide +kernel
theorem dL_law_254 : decode cL_law 254 = .ok (.iadd, 1) := by decide +kernel
theorem dL_law_255 : decode cL_law 255 = .ok (.iaload, 1) := by decide +kernel
theorem dL_law_256 : decode cL_law 256 = .ok (.aload_n 0, 1) := by decide +kernel
theorem dL_law_257 : decode cL_law 257 = .ok (.iload 4, 2) := by decide +kernel
theorem dL_law_259 : decode cL_law 259 = .ok (.iconst 2, 1) := by decide +kernel
theorem dL_law_260 : decode cL_law 260 = .ok (.iadd, 1) := by decide +kernel
theorem dL_law_261 : decode cL_law 261 = .ok (.iaload, 1) := by decide +kernel
theorem dL_law_262 : decode cL_law 262 = .ok (.aload_n 0, 1) := by decide +kernel
theorem dL_law_263 : decode cL_law 263 = .ok (.iload 4, 2) := by decide +kernel
theorem dL_law_265 : decode cL_law 265 = .ok (.iconst 3, 1) := by decide +kernel
theorem dL_law_266 : decode cL_law 266 = .ok (.iadd, 1) := by decide +kernel
theorem dL_law_267 : decode cL_law 267 = .ok (.iaload, 1) := by decide +kernel
theorem dL_law_268 : decode cL_law 268 = .ok (.invokevirtual 93, 3) := by decide +kernel
theorem dL_law_271 : decode cL_law 271 = .ok (.istore 6, 2) := by decide +kernel
theorem dL_law_273 : decode cL_law 273 = .ok (.aload_n 2, 1) := by decide +kernel
theorem dL_law_274 : decode cL_law 274 = .ok (.invokevirtual 94, 3) := by decide +kernel
theorem dL_law_277 : decode cL_law 277 = .ok (.iload 5, 2) := by decide +kernel
theorem dL_law_279 : decode cL_law 279 = .ok (.if_icmp .eq 5, 3) := by decide +kernel
theorem dL_law_282 : decode cL_law 282 = .ok (.iconst 0, 1) := by decide +kernel
theorem dL_law_283 : decode cL_law 283 = .ok (.ireturn, 1) := by decide +kernel
theorem dL_law_284 : decode cL_law 284 = .ok (.iload 5, 2) := by decide +kernel
theorem dL_law_286 : decode cL_law 286 = .ok (.ifCond .ne 22, 3) := by decide +kernel
theorem dL_law_289 : decode cL_law 289 = .ok (.aload_n 3, 1) := by decide +kernel
theorem dL_law_290 : decode cL_law 290 = .ok (.iconst 0, 1) := by decide +kernel
theorem dL_law_291 : decode cL_law 291 = .ok (.laload, 1) := by decide +kernel
theorem dL_law_292 : decode cL_law 292 = .ok (.iload 6, 2) := by decide +kernel
theorem dL_law_294 : decode cL_law 294 = .ok (.ifCond .eq 7, 3) := by decide +kernel
theorem dL_law_297 : decode cL_law 297 = .ok (.lconst 1, 1) := by decide +kernel
theorem dL_law_298 : decode cL_law 298 = .ok (.goto 4, 3) := by decide +kernel
theorem dL_law_301 : decode cL_law 301 = .ok (.lconst 0, 1) := by decide +kernel
theorem dL_law_302 : decode cL_law 302 = .ok (.lcmp, 1) := by decide +kernel
theorem dL_law_303 : decode cL_law 303 = .ok (.ifCond .eq 5, 3) := by decide +kernel
theorem dL_law_306 : decode cL_law 306 = .ok (.iconst 0, 1) := by decide +kernel
theorem dL_law_307 : decode cL_law 307 = .ok (.ireturn, 1) := by decide +kernel
theorem dL_law_308 : decode cL_law 308 = .ok (.goto 650, 3) := by decide +kernel
theorem dL_law_311 : decode cL_law 311 = .ok (.aload_n 1, 1) := by decide +kernel
theorem dL_law_312 : decode cL_law 312 = .ok (.aload_n 0, 1) := by decide +kernel
theorem dL_law_313 : decode cL_law 313 = .ok (.iload 4, 2) := by decide +kernel
theorem dL_law_315 : decode cL_law 315 = .ok (.iconst 1, 1) := by decide +kernel
theorem dL_law_316 : decode cL_law 316 = .ok (.iadd, 1) := by decide +kernel
theorem dL_law_317 : decode cL_law 317 = .ok (.iaload, 1) := by decide +kernel
theorem dL_law_318 : decode cL_law 318 = .ok (.aload_n 0, 1) := by decide +kernel
theorem dL_law_319 : decode cL_law 319 = .ok (.iload 4, 2) := by decide +kernel
theorem dL_law_321 : decode cL_law 321 = .ok (.iconst 2, 1) := by decide +kernel
theorem dL_law_322 : decode cL_law 322 = .ok (.iadd, 1) := by decide +kernel
theorem dL_law_323 : decode cL_law 323 = .ok (.iaload, 1) := by decide +kernel
theorem dL_law_324 : decode cL_law 324 = .ok (.aload_n 3, 1) := by decide +kernel
theorem dL_law_325 : decode cL_law 325 = .ok (.invokestatic 98, 3) := by decide +kernel
theorem dL_law_328 : decode cL_law 328 = .ok (.istore 5, 2) := by decide +kernel
theorem dL_law_330 : decode cL_law 330 = .ok (.aload_n 2, 1) := by decide +kernel
theorem dL_law_331 : decode cL_law 331 = .ok (.aload_n 0, 1) := by decide +kernel
theorem dL_law_332 : decode cL_law 332 = .ok (.iload 4, 2) := by decide +kernel
theorem dL_law_334 : decode cL_law 334 = .ok (.iconst 1, 1) := by decide +kernel
theorem dL_law_335 : decode cL_law 335 = .ok (.iadd, 1) := by decide +kernel
theorem dL_law_336 : decode cL_law 336 = .ok (.iaload, 1) := by decide +kernel
theorem dL_law_337 : decode cL_law 337 = .ok (.aload_n 0, 1) := by decide +kernel
theorem dL_law_338 : decode cL_law 338 = .ok (.iload 4, 2) := by decide +kernel
theorem dL_law_340 : decode cL_law 340 = .ok (.iconst 2, 1) := by decide +kernel
theorem dL_law_341 : decode cL_law 341 = .ok (.iadd, 1) := by decide +kernel
theorem dL_law_342 : decode cL_law 342 = .ok (.iaload, 1) := by decide +kernel
theorem dL_law_343 : decode cL_law 343 = .ok (.invokevirtual 100, 3) := by decide +kernel
theorem dL_law_346 : decode cL_law 346 = .ok (.istore 6, 2) := by decide +kernel
theorem dL_law_348 : decode cL_law 348 = .ok (.goto 610, 3) := by decide +kernel
theorem dL_law_351 : decode cL_law 351 = .ok (.aload_n 1, 1) := by decide +kernel
theorem dL_law_352 : decode cL_law 352 = .ok (.aload_n 0, 1) := by decide +kernel
theorem dL_law_353 : decode cL_law 353 = .ok (.iload 4, 2) := by decide +kernel
theorem dL_law_355 : decode cL_law 355 = .ok (.iconst 1, 1) := by decide +kernel
theorem dL_law_356 : decode cL_law 356 = .ok (.iadd, 1) := by decide +kernel
theorem dL_law_357 : decode cL_law 357 = .ok (.iaload, 1) := by decide +kernel
theorem dL_law_358 : decode cL_law 358 = .ok (.aload_n 0, 1) := by decide +kernel
theorem dL_law_359 : decode cL_law 359 = .ok (.iload 4, 2) := by decide +kernel
theorem dL_law_361 : decode cL_law 361 = .ok (.iconst 2, 1) := by decide +kernel
theorem dL_law_362 : decode cL_law 362 = .ok (.iadd, 1) := by decide +kernel
theorem dL_law_363 : decode cL_law 363 = .ok (.iaload, 1) := by decide +kernel
theorem dL_law_364 : decode cL_law 364 = .ok (.aload_n 0, 1) := by decide +kernel
theorem dL_law_365 : decode cL_law 365 = .ok (.iload 4, 2) := by decide +kernel
theorem dL_law_367 : decode cL_law 367 = .ok (.iconst 3, 1) := by decide +kernel
theorem dL_law_368 : decode cL_law 368 = .ok (.iadd, 1) := by decide +kernel
theorem dL_law_369 : decode cL_law 369 = .ok (.iaload, 1) := by decide +kernel
theorem dL_law_370 : decode cL_law 370 = .ok (.aload_n 0, 1) := by decide +kernel
theorem dL_law_371 : decode cL_law 371 = .ok (.iload 4, 2) := by decide +kernel
theorem dL_law_373 : decode cL_law 373 = .ok (.iconst 4, 1) := by decide +kernel
theorem dL_law_374 : decode cL_law 374 = .ok (.iadd, 1) := by decide +kernel
theorem dL_law_375 : decode cL_law 375 = .ok (.iaload, 1) := by decide +kernel
theorem dL_law_376 : decode cL_law 376 = .ok (.invokestatic 101, 3) := by decide +kernel
theorem dL_law_379 : decode cL_law 379 = .ok (.istore 5, 2) := by decide +kernel
theorem dL_law_381 : decode cL_law 381 = .ok (.aload_n 2, 1) := by decide +kernel
theorem dL_law_382 : decode cL_law 382 = .ok (.aload_n 0, 1) := by decide +kernel
theorem dL_law_383 : decode cL_law 383 = .ok (.iload 4, 2) := by decide +kernel
theorem dL_law_385 : decode cL_law 385 = .ok (.iconst 1, 1) := by decide +kernel
theorem dL_law_386 : decode cL_law 386 = .ok (.iadd, 1) := by decide +kernel
theorem dL_law_387 : decode cL_law 387 = .ok (.iaload, 1) := by decide +kernel
theorem dL_law_388 : decode cL_law 388 = .ok (.aload_n 0, 1) := by decide +kernel
theorem dL_law_389 : decode cL_law 389 = .ok (.iload 4, 2) := by decide +kernel
theorem dL_law_391 : decode cL_law 391 = .ok (.iconst 2, 1) := by decide +kernel
theorem dL_law_392 : decode cL_law 392 = .ok (.iadd, 1) := by decide +kernel
theorem dL_law_393 : decode cL_law 393 = .ok (.iaload, 1) := by decide +kernel
theorem dL_law_394 : decode cL_law 394 = .ok (.aload_n 0, 1) := by decide +kernel
theorem dL_law_395 : decode cL_law 395 = .ok (.iload 4, 2) := by decide +kernel
theorem dL_law_397 : decode cL_law 397 = .ok (.iconst 3, 1) := by decide +kernel
theorem dL_law_398 : decode cL_law 398 = .ok (.iadd, 1) := by decide +kernel
theorem dL_law_399 : decode cL_law 399 = .ok (.iaload, 1) := by decide +kernel
theorem dL_law_400 : decode cL_law 400 = .ok (.aload_n 0, 1) := by decide +kernel
theorem dL_law_401 : decode cL_law 401 = .ok (.iload 4, 2) := by decide +kernel
theorem dL_law_403 : decode cL_law 403 = .ok (.iconst 4, 1) := by decide +kernel
theorem dL_law_404 : decode cL_law 404 = .ok (.iadd, 1) := by decide +kernel
theorem dL_law_405 : decode cL_law 405 = .ok (.iaload, 1) := by decide +kernel
theorem dL_law_406 : decode cL_law 406 = .ok (.invokevirtual 104, 3) := by decide +kernel
theorem dL_law_409 : decode cL_law 409 = .ok (.goto 549, 3) := by decide +kernel
theorem dL_law_412 : decode cL_law 412 = .ok (.aload_n 1, 1) := by decide +kernel
theorem dL_law_413 : decode cL_law 413 = .ok (.aload_n 0, 1) := by decide +kernel
theorem dL_law_414 : decode cL_law 414 = .ok (.iload 4, 2) := by decide +kernel
theorem dL_law_416 : decode cL_law 416 = .ok (.iconst 1, 1) := by decide +kernel
theorem dL_law_417 : decode cL_law 417 = .ok (.iadd, 1) := by decide +kernel
theorem dL_law_418 : decode cL_law 418 = .ok (.iaload, 1) := by decide +kernel
theorem dL_law_419 : decode cL_law 419 = .ok (.aload_n 0, 1) := by decide +kernel
theorem dL_law_420 : decode cL_law 420 = .ok (.iload 4, 2) := by decide +kernel
theorem dL_law_422 : decode cL_law 422 = .ok (.iconst 2, 1) := by decide +kernel
theorem dL_law_423 : decode cL_law 423 = .ok (.iadd, 1) := by decide +kernel
theorem dL_law_424 : decode cL_law 424 = .ok (.iaload, 1) := by decide +kernel
theorem dL_law_425 : decode cL_law 425 = .ok (.aload_n 0, 1) := by decide +kernel
theorem dL_law_426 : decode cL_law 426 = .ok (.iload 4, 2) := by decide +kernel
theorem dL_law_428 : decode cL_law 428 = .ok (.iconst 3, 1) := by decide +kernel
theorem dL_law_429 : decode cL_law 429 = .ok (.iadd, 1) := by decide +kernel
theorem dL_law_430 : decode cL_law 430 = .ok (.iaload, 1) := by decide +kernel
theorem dL_law_431 : decode cL_law 431 = .ok (.aload_n 0, 1) := by decide +kernel
theorem dL_law_432 : decode cL_law 432 = .ok (.iload 4, 2) := by decide +kernel
theorem dL_law_434 : decode cL_law 434 = .ok (.iconst 4, 1) := by decide +kernel
theorem dL_law_435 : decode cL_law 435 = .ok (.iadd, 1) := by decide +kernel
theorem dL_law_436 : decode cL_law 436 = .ok (.iaload, 1) := by decide +kernel
theorem dL_law_437 : decode cL_law 437 = .ok (.invokestatic 105, 3) := by decide +kernel
theorem dL_law_440 : decode cL_law 440 = .ok (.istore 5, 2) := by decide +kernel
theorem dL_law_442 : decode cL_law 442 = .ok (.aload_n 2, 1) := by decide +kernel
theorem dL_law_443 : decode cL_law 443 = .ok (.aload_n 0, 1) := by decide +kernel
theorem dL_law_444 : decode cL_law 444 = .ok (.iload 4, 2) := by decide +kernel
theorem dL_law_446 : decode cL_law 446 = .ok (.iconst 1, 1) := by decide +kernel
theorem dL_law_447 : decode cL_law 447 = .ok (.iadd, 1) := by decide +kernel
theorem dL_law_448 : decode cL_law 448 = .ok (.iaload, 1) := by decide +kernel
theorem dL_law_449 : decode cL_law 449 = .ok (.aload_n 0, 1) := by decide +kernel
theorem dL_law_450 : decode cL_law 450 = .ok (.iload 4, 2) := by decide +kernel
theorem dL_law_452 : decode cL_law 452 = .ok (.iconst 2, 1) := by decide +kernel
theorem dL_law_453 : decode cL_law 453 = .ok (.iadd, 1) := by decide +kernel
theorem dL_law_454 : decode cL_law 454 = .ok (.iaload, 1) := by decide +kernel
theorem dL_law_455 : decode cL_law 455 = .ok (.aload_n 0, 1) := by decide +kernel
theorem dL_law_456 : decode cL_law 456 = .ok (.iload 4, 2) := by decide +kernel
theorem dL_law_458 : decode cL_law 458 = .ok (.iconst 3, 1) := by decide +kernel
theorem dL_law_459 : decode cL_law 459 = .ok (.iadd, 1) := by decide +kernel
theorem dL_law_460 : decode cL_law 460 = .ok (.iaload, 1) := by decide +kernel
theorem dL_law_461 : decode cL_law 461 = .ok (.aload_n 0, 1) := by decide +kernel
theorem dL_law_462 : decode cL_law 462 = .ok (.iload 4, 2) := by decide +kernel
theorem dL_law_464 : decode cL_law 464 = .ok (.iconst 4, 1) := by decide +kernel
theorem dL_law_465 : decode cL_law 465 = .ok (.iadd, 1) := by decide +kernel
theorem dL_law_466 : decode cL_law 466 = .ok (.iaload, 1) := by decide +kernel
theorem dL_law_467 : decode cL_law 467 = .ok (.invokevirtual 107, 3) := by decide +kernel
theorem dL_law_470 : decode cL_law 470 = .ok (.goto 488, 3) := by decide +kernel
theorem dL_law_473 : decode cL_law 473 = .ok (.aload_n 1, 1) := by decide +kernel
theorem dL_law_474 : decode cL_law 474 = .ok (.aload_n 0, 1) := by decide +kernel
theorem dL_law_475 : decode cL_law 475 = .ok (.iload 4, 2) := by decide +kernel
theorem dL_law_477 : decode cL_law 477 = .ok (.iconst 1, 1) := by decide +kernel
theorem dL_law_478 : decode cL_law 478 = .ok (.iadd, 1) := by decide +kernel
theorem dL_law_479 : decode cL_law 479 = .ok (.iaload, 1) := by decide +kernel
theorem dL_law_480 : decode cL_law 480 = .ok (.aload_n 0, 1) := by decide +kernel
theorem dL_law_481 : decode cL_law 481 = .ok (.iload 4, 2) := by decide +kernel
theorem dL_law_483 : decode cL_law 483 = .ok (.iconst 2, 1) := by decide +kernel
theorem dL_law_484 : decode cL_law 484 = .ok (.iadd, 1) := by decide +kernel
theorem dL_law_485 : decode cL_law 485 = .ok (.iaload, 1) := by decide +kernel
theorem dL_law_486 : decode cL_law 486 = .ok (.aload_n 0, 1) := by decide +kernel
theorem dL_law_487 : decode cL_law 487 = .ok (.iload 4, 2) := by decide +kernel
theorem dL_law_489 : decode cL_law 489 = .ok (.iconst 3, 1) := by decide +kernel
theorem dL_law_490 : decode cL_law 490 = .ok (.iadd, 1) := by decide +kernel
theorem dL_law_491 : decode cL_law 491 = .ok (.iaload, 1) := by decide +kernel
theorem dL_law_492 : decode cL_law 492 = .ok (.aload_n 3, 1) := by decide +kernel
theorem dL_law_493 : decode cL_law 493 = .ok (.invokestatic 108, 3) := by decide +kernel
theorem dL_law_496 : decode cL_law 496 = .ok (.istore 5, 2) := by decide +kernel
theorem dL_law_498 : decode cL_law 498 = .ok (.aload_n 2, 1) := by decide +kernel
theorem dL_law_499 : decode cL_law 499 = .ok (.aload_n 0, 1) := by decide +kernel
theorem dL_law_500 : decode cL_law 500 = .ok (.iload 4, 2) := by decide +kernel
theorem dL_law_502 : decode cL_law 502 = .ok (.iconst 1, 1) := by decide +kernel
theorem dL_law_503 : decode cL_law 503 = .ok (.iadd, 1) := by decide +kernel
theorem dL_law_504 : decode cL_law 504 = .ok (.iaload, 1) := by decide +kernel
theorem dL_law_505 : decode cL_law 505 = .ok (.aload_n 0, 1) := by decide +kernel
theorem dL_law_506 : decode cL_law 506 = .ok (.iload 4, 2) := by decide +kernel
theorem dL_law_508 : decode cL_law 508 = .ok (.iconst 2, 1) := by decide +kernel
theorem dL_law_509 : decode cL_law 509 = .ok (.iadd, 1) := by decide +kernel
theorem dL_law_510 : decode cL_law 510 = .ok (.iaload, 1) := by decide +kernel
theorem dL_law_511 : decode cL_law 511 = .ok (.aload_n 0, 1) := by decide +kernel
theorem dL_law_512 : decode cL_law 512 = .ok (.iload 4, 2) := by decide +kernel
theorem dL_law_514 : decode cL_law 514 = .ok (.iconst 3, 1) := by decide +kernel
theorem dL_law_515 : decode cL_law 515 = .ok (.iadd, 1) := by decide +kernel
theorem dL_law_516 : decode cL_law 516 = .ok (.iaload, 1) := by decide +kernel
theorem dL_law_517 : decode cL_law 517 = .ok (.invokevirtual 110, 3) := by decide +kernel
theorem dL_law_520 : decode cL_law 520 = .ok (.istore 6, 2) := by decide +kernel
theorem dL_law_522 : decode cL_law 522 = .ok (.goto 436, 3) := by decide +kernel
theorem dL_law_525 : decode cL_law 525 = .ok (.aload_n 1, 1) := by decide +kernel
theorem dL_law_526 : decode cL_law 526 = .ok (.aload_n 0, 1) := by decide +kernel
theorem dL_law_527 : decode cL_law 527 = .ok (.iload 4, 2) := by decide +kernel
theorem dL_law_529 : decode cL_law 529 = .ok (.iconst 1, 1) := by decide +kernel
theorem dL_law_530 : decode cL_law 530 = .ok (.iadd, 1) := by decide +kernel
theorem dL_law_531 : decode cL_law 531 = .ok (.iaload, 1) := by decide +kernel
theorem dL_law_532 : decode cL_law 532 = .ok (.aload_n 0, 1) := by decide +kernel
theorem dL_law_533 : decode cL_law 533 = .ok (.iload 4, 2) := by decide +kernel
theorem dL_law_535 : decode cL_law 535 = .ok (.iconst 2, 1) := by decide +kernel
theorem dL_law_536 : decode cL_law 536 = .ok (.iadd, 1) := by decide +kernel
theorem dL_law_537 : decode cL_law 537 = .ok (.iaload, 1) := by decide +kernel
theorem dL_law_538 : decode cL_law 538 = .ok (.aload_n 0, 1) := by decide +kernel
theorem dL_law_539 : decode cL_law 539 = .ok (.iload 4, 2) := by decide +kernel
theorem dL_law_541 : decode cL_law 541 = .ok (.iconst 3, 1) := by decide +kernel
theorem dL_law_542 : decode cL_law 542 = .ok (.iadd, 1) := by decide +kernel
theorem dL_law_543 : decode cL_law 543 = .ok (.iaload, 1) := by decide +kernel
theorem dL_law_544 : decode cL_law 544 = .ok (.aload_n 3, 1) := by decide +kernel
theorem dL_law_545 : decode cL_law 545 = .ok (.invokestatic 111, 3) := by decide +kernel
theorem dL_law_548 : decode cL_law 548 = .ok (.istore 5, 2) := by decide +kernel
theorem dL_law_550 : decode cL_law 550 = .ok (.aload_n 2, 1) := by decide +kernel
theorem dL_law_551 : decode cL_law 551 = .ok (.aload_n 0, 1) := by decide +kernel
theorem dL_law_552 : decode cL_law 552 = .ok (.iload 4, 2) := by decide +kernel
theorem dL_law_554 : decode cL_law 554 = .ok (.iconst 1, 1) := by decide +kernel
theorem dL_law_555 : decode cL_law 555 = .ok (.iadd, 1) := by decide +kernel
theorem dL_law_556 : decode cL_law 556 = .ok (.iaload, 1) := by decide +kernel
theorem dL_law_557 : decode cL_law 557 = .ok (.aload_n 0, 1) := by decide +kernel
theorem dL_law_558 : decode cL_law 558 = .ok (.iload 4, 2) := by decide +kernel
theorem dL_law_560 : decode cL_law 560 = .ok (.iconst 2, 1) := by decide +kernel
theorem dL_law_561 : decode cL_law 561 = .ok (.iadd, 1) := by decide +kernel
theorem dL_law_562 : decode cL_law 562 = .ok (.iaload, 1) := by decide +kernel
theorem dL_law_563 : decode cL_law 563 = .ok (.aload_n 0, 1) := by decide +kernel
theorem dL_law_564 : decode cL_law 564 = .ok (.iload 4, 2) := by decide +kernel
theorem dL_law_566 : decode cL_law 566 = .ok (.iconst 3, 1) := by decide +kernel
theorem dL_law_567 : decode cL_law 567 = .ok (.iadd, 1) := by decide +kernel
theorem dL_law_568 : decode cL_law 568 = .ok (.iaload, 1) := by decide +kernel
theorem dL_law_569 : decode cL_law 569 = .ok (.invokevirtual 113, 3) := by decide +kernel
theorem dL_law_572 : decode cL_law 572 = .ok (.istore 6, 2) := by decide +kernel
theorem dL_law_574 : decode cL_law 574 = .ok (.goto 384, 3) := by decide +kernel
theorem dL_law_577 : decode cL_law 577 = .ok (.aload_n 1, 1) := by decide +kernel
theorem dL_law_578 : decode cL_law 578 = .ok (.aload_n 0, 1) := by decide +kernel
theorem dL_law_579 : decode cL_law 579 = .ok (.iload 4, 2) := by decide +kernel
theorem dL_law_581 : decode cL_law 581 = .ok (.iconst 1, 1) := by decide +kernel
theorem dL_law_582 : decode cL_law 582 = .ok (.iadd, 1) := by decide +kernel
theorem dL_law_583 : decode cL_law 583 = .ok (.iaload, 1) := by decide +kernel
theorem dL_law_584 : decode cL_law 584 = .ok (.aload_n 0, 1) := by decide +kernel
theorem dL_law_585 : decode cL_law 585 = .ok (.iload 4, 2) := by decide +kernel
theorem dL_law_587 : decode cL_law 587 = .ok (.iconst 2, 1) := by decide +kernel
theorem dL_law_588 : decode cL_law 588 = .ok (.iadd, 1) := by decide +kernel
theorem dL_law_589 : decode cL_law 589 = .ok (.iaload, 1) := by decide +kernel
theorem dL_law_590 : decode cL_law 590 = .ok (.aload_n 0, 1) := by decide +kernel
theorem dL_law_591 : decode cL_law 591 = .ok (.iload 4, 2) := by decide +kernel
theorem dL_law_593 : decode cL_law 593 = .ok (.iconst 3, 1) := by decide +kernel
theorem dL_law_594 : decode cL_law 594 = .ok (.iadd, 1) := by decide +kernel
theorem dL_law_595 : decode cL_law 595 = .ok (.iaload, 1) := by decide +kernel
theorem dL_law_596 : decode cL_law 596 = .ok (.aload_n 3, 1) := by decide +kernel
theorem dL_law_597 : decode cL_law 597 = .ok (.invokestatic 114, 3) := by decide +kernel
theorem dL_law_600 : decode cL_law 600 = .ok (.istore 5, 2) := by decide +kernel
theorem dL_law_602 : decode cL_law 602 = .ok (.aload_n 2, 1) := by decide +kernel
theorem dL_law_603 : decode cL_law 603 = .ok (.aload_n 0, 1) := by decide +kernel
theorem dL_law_604 : decode cL_law 604 = .ok (.iload 4, 2) := by decide +kernel
theorem dL_law_606 : decode cL_law 606 = .ok (.iconst 1, 1) := by decide +kernel
theorem dL_law_607 : decode cL_law 607 = .ok (.iadd, 1) := by decide +kernel
theorem dL_law_608 : decode cL_law 608 = .ok (.iaload, 1) := by decide +kernel
theorem dL_law_609 : decode cL_law 609 = .ok (.aload_n 0, 1) := by decide +kernel
theorem dL_law_610 : decode cL_law 610 = .ok (.iload 4, 2) := by decide +kernel
theorem dL_law_612 : decode cL_law 612 = .ok (.iconst 2, 1) := by decide +kernel
theorem dL_law_613 : decode cL_law 613 = .ok (.iadd, 1) := by decide +kernel
theorem dL_law_614 : decode cL_law 614 = .ok (.iaload, 1) := by decide +kernel
theorem dL_law_615 : decode cL_law 615 = .ok (.aload_n 0, 1) := by decide +kernel
theorem dL_law_616 : decode cL_law 616 = .ok (.iload 4, 2) := by decide +kernel
theorem dL_law_618 : decode cL_law 618 = .ok (.iconst 3, 1) := by decide +kernel
theorem dL_law_619 : decode cL_law 619 = .ok (.iadd, 1) := by decide +kernel
theorem dL_law_620 : decode cL_law 620 = .ok (.iaload, 1) := by decide +kernel
theorem dL_law_621 : decode cL_law 621 = .ok (.invokevirtual 116, 3) := by decide +kernel
theorem dL_law_624 : decode cL_law 624 = .ok (.istore 6, 2) := by decide +kernel
theorem dL_law_626 : decode cL_law 626 = .ok (.goto 332, 3) := by decide +kernel
theorem dL_law_629 : decode cL_law 629 = .ok (.aload_n 1, 1) := by decide +kernel
theorem dL_law_630 : decode cL_law 630 = .ok (.aload_n 0, 1) := by decide +kernel
theorem dL_law_631 : decode cL_law 631 = .ok (.iload 4, 2) := by decide +kernel
theorem dL_law_633 : decode cL_law 633 = .ok (.iconst 1, 1) := by decide +kernel
theorem dL_law_634 : decode cL_law 634 = .ok (.iadd, 1) := by decide +kernel
theorem dL_law_635 : decode cL_law 635 = .ok (.iaload, 1) := by decide +kernel
theorem dL_law_636 : decode cL_law 636 = .ok (.aload_n 3, 1) := by decide +kernel
theorem dL_law_637 : decode cL_law 637 = .ok (.invokestatic 117, 3) := by decide +kernel
theorem dL_law_640 : decode cL_law 640 = .ok (.istore 5, 2) := by decide +kernel
theorem dL_law_642 : decode cL_law 642 = .ok (.aload_n 2, 1) := by decide +kernel
theorem dL_law_643 : decode cL_law 643 = .ok (.aload_n 0, 1) := by decide +kernel
theorem dL_law_644 : decode cL_law 644 = .ok (.iload 4, 2) := by decide +kernel
theorem dL_law_646 : decode cL_law 646 = .ok (.iconst 1, 1) := by decide +kernel
theorem dL_law_647 : decode cL_law 647 = .ok (.iadd, 1) := by decide +kernel
theorem dL_law_648 : decode cL_law 648 = .ok (.iaload, 1) := by decide +kernel
theorem dL_law_649 : decode cL_law 649 = .ok (.invokevirtual 120, 3) := by decide +kernel
theorem dL_law_652 : decode cL_law 652 = .ok (.istore 6, 2) := by decide +kernel
theorem dL_law_654 : decode cL_law 654 = .ok (.goto 304, 3) := by decide +kernel
theorem dL_law_657 : decode cL_law 657 = .ok (.aload_n 1, 1) := by decide +kernel
theorem dL_law_658 : decode cL_law 658 = .ok (.aload_n 0, 1) := by decide +kernel
theorem dL_law_659 : decode cL_law 659 = .ok (.iload 4, 2) := by decide +kernel
theorem dL_law_661 : decode cL_law 661 = .ok (.iconst 1, 1) := by decide +kernel
theorem dL_law_662 : decode cL_law 662 = .ok (.iadd, 1) := by decide +kernel
theorem dL_law_663 : decode cL_law 663 = .ok (.iaload, 1) := by decide +kernel
theorem dL_law_664 : decode cL_law 664 = .ok (.aload_n 3, 1) := by decide +kernel
theorem dL_law_665 : decode cL_law 665 = .ok (.invokestatic 121, 3) := by decide +kernel
theorem dL_law_668 : decode cL_law 668 = .ok (.istore 5, 2) := by decide +kernel
theorem dL_law_670 : decode cL_law 670 = .ok (.aload_n 2, 1) := by decide +kernel
theorem dL_law_671 : decode cL_law 671 = .ok (.aload_n 0, 1) := by decide +kernel
theorem dL_law_672 : decode cL_law 672 = .ok (.iload 4, 2) := by decide +kernel
theorem dL_law_674 : decode cL_law 674 = .ok (.iconst 1, 1) := by decide +kernel
theorem dL_law_675 : decode cL_law 675 = .ok (.iadd, 1) := by decide +kernel
theorem dL_law_676 : decode cL_law 676 = .ok (.iaload, 1) := by decide +kernel
theorem dL_law_677 : decode cL_law 677 = .ok (.invokevirtual 123, 3) := by decide +kernel
theorem dL_law_680 : decode cL_law 680 = .ok (.istore 6, 2) := by decide +kernel
theorem dL_law_682 : decode cL_law 682 = .ok (.goto 276, 3) := by decide +kernel
theorem dL_law_685 : decode cL_law 685 = .ok (.aload_n 1, 1) := by decide +kernel
theorem dL_law_686 : decode cL_law 686 = .ok (.aload_n 0, 1) := by decide +kernel
theorem dL_law_687 : decode cL_law 687 = .ok (.iload 4, 2) := by decide +kernel
theorem dL_law_689 : decode cL_law 689 = .ok (.iconst 1, 1) := by decide +kernel
theorem dL_law_690 : decode cL_law 690 = .ok (.iadd, 1) := by decide +kernel
theorem dL_law_691 : decode cL_law 691 = .ok (.iaload, 1) := by decide +kernel
theorem dL_law_692 : decode cL_law 692 = .ok (.aload_n 3, 1) := by decide +kernel
theorem dL_law_693 : decode cL_law 693 = .ok (.invokestatic 124, 3) := by decide +kernel
theorem dL_law_696 : decode cL_law 696 = .ok (.istore 5, 2) := by decide +kernel
theorem dL_law_698 : decode cL_law 698 = .ok (.aload_n 2, 1) := by decide +kernel
theorem dL_law_699 : decode cL_law 699 = .ok (.aload_n 0, 1) := by decide +kernel
theorem dL_law_700 : decode cL_law 700 = .ok (.iload 4, 2) := by decide +kernel
theorem dL_law_702 : decode cL_law 702 = .ok (.iconst 1, 1) := by decide +kernel
theorem dL_law_703 : decode cL_law 703 = .ok (.iadd, 1) := by decide +kernel
theorem dL_law_704 : decode cL_law 704 = .ok (.iaload, 1) := by decide +kernel
theorem dL_law_705 : decode cL_law 705 = .ok (.invokevirtual 126, 3) := by decide +kernel
theorem dL_law_708 : decode cL_law 708 = .ok (.istore 6, 2) := by decide +kernel
theorem dL_law_710 : decode cL_law 710 = .ok (.goto 248, 3) := by decide +kernel
theorem dL_law_713 : decode cL_law 713 = .ok (.aload_n 1, 1) := by decide +kernel
theorem dL_law_714 : decode cL_law 714 = .ok (.aload_n 0, 1) := by decide +kernel
theorem dL_law_715 : decode cL_law 715 = .ok (.iload 4, 2) := by decide +kernel
theorem dL_law_717 : decode cL_law 717 = .ok (.iconst 1, 1) := by decide +kernel
theorem dL_law_718 : decode cL_law 718 = .ok (.iadd, 1) := by decide +kernel
theorem dL_law_719 : decode cL_law 719 = .ok (.iaload, 1) := by decide +kernel
theorem dL_law_720 : decode cL_law 720 = .ok (.aload_n 3, 1) := by decide +kernel
theorem dL_law_721 : decode cL_law 721 = .ok (.invokestatic 127, 3) := by decide +kernel
theorem dL_law_724 : decode cL_law 724 = .ok (.istore 5, 2) := by decide +kernel
theorem dL_law_726 : decode cL_law 726 = .ok (.aload_n 2, 1) := by decide +kernel
theorem dL_law_727 : decode cL_law 727 = .ok (.aload_n 0, 1) := by decide +kernel
theorem dL_law_728 : decode cL_law 728 = .ok (.iload 4, 2) := by decide +kernel
theorem dL_law_730 : decode cL_law 730 = .ok (.iconst 1, 1) := by decide +kernel
theorem dL_law_731 : decode cL_law 731 = .ok (.iadd, 1) := by decide +kernel
theorem dL_law_732 : decode cL_law 732 = .ok (.iaload, 1) := by decide +kernel
theorem dL_law_733 : decode cL_law 733 = .ok (.invokevirtual 129, 3) := by decide +kernel
theorem dL_law_736 : decode cL_law 736 = .ok (.istore 6, 2) := by decide +kernel
theorem dL_law_738 : decode cL_law 738 = .ok (.goto 220, 3) := by decide +kernel
theorem dL_law_741 : decode cL_law 741 = .ok (.aload_n 1, 1) := by decide +kernel
theorem dL_law_742 : decode cL_law 742 = .ok (.aload_n 0, 1) := by decide +kernel
theorem dL_law_743 : decode cL_law 743 = .ok (.iload 4, 2) := by decide +kernel
theorem dL_law_745 : decode cL_law 745 = .ok (.iconst 1, 1) := by decide +kernel
theorem dL_law_746 : decode cL_law 746 = .ok (.iadd, 1) := by decide +kernel
theorem dL_law_747 : decode cL_law 747 = .ok (.iaload, 1) := by decide +kernel
theorem dL_law_748 : decode cL_law 748 = .ok (.aload_n 3, 1) := by decide +kernel
theorem dL_law_749 : decode cL_law 749 = .ok (.invokestatic 130, 3) := by decide +kernel
theorem dL_law_752 : decode cL_law 752 = .ok (.istore 5, 2) := by decide +kernel
theorem dL_law_754 : decode cL_law 754 = .ok (.aload_n 2, 1) := by decide +kernel
theorem dL_law_755 : decode cL_law 755 = .ok (.aload_n 0, 1) := by decide +kernel
theorem dL_law_756 : decode cL_law 756 = .ok (.iload 4, 2) := by decide +kernel
theorem dL_law_758 : decode cL_law 758 = .ok (.iconst 1, 1) := by decide +kernel
theorem dL_law_759 : decode cL_law 759 = .ok (.iadd, 1) := by decide +kernel
theorem dL_law_760 : decode cL_law 760 = .ok (.iaload, 1) := by decide +kernel
theorem dL_law_761 : decode cL_law 761 = .ok (.invokevirtual 132, 3) := by decide +kernel
theorem dL_law_764 : decode cL_law 764 = .ok (.istore 6, 2) := by decide +kernel
theorem dL_law_766 : decode cL_law 766 = .ok (.goto 192, 3) := by decide +kernel
theorem dL_law_769 : decode cL_law 769 = .ok (.aload_n 1, 1) := by decide +kernel
theorem dL_law_770 : decode cL_law 770 = .ok (.aload_n 0, 1) := by decide +kernel
theorem dL_law_771 : decode cL_law 771 = .ok (.iload 4, 2) := by decide +kernel
theorem dL_law_773 : decode cL_law 773 = .ok (.iconst 1, 1) := by decide +kernel
theorem dL_law_774 : decode cL_law 774 = .ok (.iadd, 1) := by decide +kernel
theorem dL_law_775 : decode cL_law 775 = .ok (.iaload, 1) := by decide +kernel
theorem dL_law_776 : decode cL_law 776 = .ok (.aload_n 0, 1) := by decide +kernel
theorem dL_law_777 : decode cL_law 777 = .ok (.iload 4, 2) := by decide +kernel
theorem dL_law_779 : decode cL_law 779 = .ok (.iconst 2, 1) := by decide +kernel
theorem dL_law_780 : decode cL_law 780 = .ok (.iadd, 1) := by decide +kernel
theorem dL_law_781 : decode cL_law 781 = .ok (.iaload, 1) := by decide +kernel
theorem dL_law_782 : decode cL_law 782 = .ok (.aload_n 3, 1) := by decide +kernel
theorem dL_law_783 : decode cL_law 783 = .ok (.invokestatic 133, 3) := by decide +kernel
theorem dL_law_786 : decode cL_law 786 = .ok (.istore 5, 2) := by decide +kernel
theorem dL_law_788 : decode cL_law 788 = .ok (.aload_n 2, 1) := by decide +kernel
theorem dL_law_789 : decode cL_law 789 = .ok (.aload_n 0, 1) := by decide +kernel
theorem dL_law_790 : decode cL_law 790 = .ok (.iload 4, 2) := by decide +kernel
theorem dL_law_792 : decode cL_law 792 = .ok (.iconst 1, 1) := by decide +kernel
theorem dL_law_793 : decode cL_law 793 = .ok (.iadd, 1) := by decide +kernel
theorem dL_law_794 : decode cL_law 794 = .ok (.iaload, 1) := by decide +kernel
theorem dL_law_795 : decode cL_law 795 = .ok (.aload_n 0, 1) := by decide +kernel
theorem dL_law_796 : decode cL_law 796 = .ok (.iload 4, 2) := by decide +kernel
theorem dL_law_798 : decode cL_law 798 = .ok (.iconst 2, 1) := by decide +kernel
theorem dL_law_799 : decode cL_law 799 = .ok (.iadd, 1) := by decide +kernel
theorem dL_law_800 : decode cL_law 800 = .ok (.iaload, 1) := by decide +kernel
theorem dL_law_801 : decode cL_law 801 = .ok (.invokevirtual 135, 3) := by decide +kernel
theorem dL_law_804 : decode cL_law 804 = .ok (.istore 6, 2) := by decide +kernel
theorem dL_law_806 : decode cL_law 806 = .ok (.goto 152, 3) := by decide +kernel
theorem dL_law_809 : decode cL_law 809 = .ok (.aload_n 1, 1) := by decide +kernel
theorem dL_law_810 : decode cL_law 810 = .ok (.aload_n 0, 1) := by decide +kernel
theorem dL_law_811 : decode cL_law 811 = .ok (.iload 4, 2) := by decide +kernel
theorem dL_law_813 : decode cL_law 813 = .ok (.iconst 1, 1) := by decide +kernel
theorem dL_law_814 : decode cL_law 814 = .ok (.iadd, 1) := by decide +kernel
theorem dL_law_815 : decode cL_law 815 = .ok (.iaload, 1) := by decide +kernel
theorem dL_law_816 : decode cL_law 816 = .ok (.aload_n 0, 1) := by decide +kernel
theorem dL_law_817 : decode cL_law 817 = .ok (.iload 4, 2) := by decide +kernel
theorem dL_law_819 : decode cL_law 819 = .ok (.iconst 2, 1) := by decide +kernel
theorem dL_law_820 : decode cL_law 820 = .ok (.iadd, 1) := by decide +kernel
theorem dL_law_821 : decode cL_law 821 = .ok (.iaload, 1) := by decide +kernel
theorem dL_law_822 : decode cL_law 822 = .ok (.aload_n 3, 1) := by decide +kernel
theorem dL_law_823 : decode cL_law 823 = .ok (.invokestatic 136, 3) := by decide +kernel
theorem dL_law_826 : decode cL_law 826 = .ok (.istore 5, 2) := by decide +kernel
theorem dL_law_828 : decode cL_law 828 = .ok (.aload_n 2, 1) := by decide +kernel
theorem dL_law_829 : decode cL_law 829 = .ok (.aload_n 0, 1) := by decide +kernel
theorem dL_law_830 : decode cL_law 830 = .ok (.iload 4, 2) := by decide +kernel
theorem dL_law_832 : decode cL_law 832 = .ok (.iconst 1, 1) := by decide +kernel
theorem dL_law_833 : decode cL_law 833 = .ok (.iadd, 1) := by decide +kernel
theorem dL_law_834 : decode cL_law 834 = .ok (.iaload, 1) := by decide +kernel
theorem dL_law_835 : decode cL_law 835 = .ok (.aload_n 0, 1) := by decide +kernel
theorem dL_law_836 : decode cL_law 836 = .ok (.iload 4, 2) := by decide +kernel
theorem dL_law_838 : decode cL_law 838 = .ok (.iconst 2, 1) := by decide +kernel
theorem dL_law_839 : decode cL_law 839 = .ok (.iadd, 1) := by decide +kernel
theorem dL_law_840 : decode cL_law 840 = .ok (.iaload, 1) := by decide +kernel
theorem dL_law_841 : decode cL_law 841 = .ok (.invokevirtual 138, 3) := by decide +kernel
theorem dL_law_844 : decode cL_law 844 = .ok (.istore 6, 2) := by decide +kernel
theorem dL_law_846 : decode cL_law 846 = .ok (.goto 112, 3) := by decide +kernel
theorem dL_law_849 : decode cL_law 849 = .ok (.aload_n 1, 1) := by decide +kernel
theorem dL_law_850 : decode cL_law 850 = .ok (.aload_n 0, 1) := by decide +kernel
theorem dL_law_851 : decode cL_law 851 = .ok (.iload 4, 2) := by decide +kernel
theorem dL_law_853 : decode cL_law 853 = .ok (.iconst 1, 1) := by decide +kernel
theorem dL_law_854 : decode cL_law 854 = .ok (.iadd, 1) := by decide +kernel
theorem dL_law_855 : decode cL_law 855 = .ok (.iaload, 1) := by decide +kernel
theorem dL_law_856 : decode cL_law 856 = .ok (.aload_n 0, 1) := by decide +kernel
theorem dL_law_857 : decode cL_law 857 = .ok (.iload 4, 2) := by decide +kernel
theorem dL_law_859 : decode cL_law 859 = .ok (.iconst 2, 1) := by decide +kernel
theorem dL_law_860 : decode cL_law 860 = .ok (.iadd, 1) := by decide +kernel
theorem dL_law_861 : decode cL_law 861 = .ok (.iaload, 1) := by decide +kernel
theorem dL_law_862 : decode cL_law 862 = .ok (.aload_n 3, 1) := by decide +kernel
theorem dL_law_863 : decode cL_law 863 = .ok (.invokestatic 139, 3) := by decide +kernel
theorem dL_law_866 : decode cL_law 866 = .ok (.istore 5, 2) := by decide +kernel
theorem dL_law_868 : decode cL_law 868 = .ok (.aload_n 2, 1) := by decide +kernel
theorem dL_law_869 : decode cL_law 869 = .ok (.aload_n 0, 1) := by decide +kernel
theorem dL_law_870 : decode cL_law 870 = .ok (.iload 4, 2) := by decide +kernel
theorem dL_law_872 : decode cL_law 872 = .ok (.iconst 1, 1) := by decide +kernel
theorem dL_law_873 : decode cL_law 873 = .ok (.iadd, 1) := by decide +kernel
theorem dL_law_874 : decode cL_law 874 = .ok (.iaload, 1) := by decide +kernel
theorem dL_law_875 : decode cL_law 875 = .ok (.aload_n 0, 1) := by decide +kernel
theorem dL_law_876 : decode cL_law 876 = .ok (.iload 4, 2) := by decide +kernel
theorem dL_law_878 : decode cL_law 878 = .ok (.iconst 2, 1) := by decide +kernel
theorem dL_law_879 : decode cL_law 879 = .ok (.iadd, 1) := by decide +kernel
theorem dL_law_880 : decode cL_law 880 = .ok (.iaload, 1) := by decide +kernel
theorem dL_law_881 : decode cL_law 881 = .ok (.invokevirtual 141, 3) := by decide +kernel
theorem dL_law_884 : decode cL_law 884 = .ok (.istore 6, 2) := by decide +kernel
theorem dL_law_886 : decode cL_law 886 = .ok (.goto 72, 3) := by decide +kernel
theorem dL_law_889 : decode cL_law 889 = .ok (.aload_n 1, 1) := by decide +kernel
theorem dL_law_890 : decode cL_law 890 = .ok (.invokevirtual 142, 3) := by decide +kernel
theorem dL_law_893 : decode cL_law 893 = .ok (.pop, 1) := by decide +kernel
theorem dL_law_894 : decode cL_law 894 = .ok (.aload_n 2, 1) := by decide +kernel
theorem dL_law_895 : decode cL_law 895 = .ok (.invokevirtual 145, 3) := by decide +kernel
theorem dL_law_898 : decode cL_law 898 = .ok (.pop, 1) := by decide +kernel
theorem dL_law_899 : decode cL_law 899 = .ok (.goto 59, 3) := by decide +kernel
theorem dL_law_902 : decode cL_law 902 = .ok (.aload_n 1, 1) := by decide +kernel
theorem dL_law_903 : decode cL_law 903 = .ok (.aload_n 0, 1) := by decide +kernel
theorem dL_law_904 : decode cL_law 904 = .ok (.iload 4, 2) := by decide +kernel
theorem dL_law_906 : decode cL_law 906 = .ok (.iconst 1, 1) := by decide +kernel
theorem dL_law_907 : decode cL_law 907 = .ok (.iadd, 1) := by decide +kernel
theorem dL_law_908 : decode cL_law 908 = .ok (.iaload, 1) := by decide +kernel
theorem dL_law_909 : decode cL_law 909 = .ok (.aload_n 3, 1) := by decide +kernel
theorem dL_law_910 : decode cL_law 910 = .ok (.invokestatic 146, 3) := by decide +kernel
theorem dL_law_913 : decode cL_law 913 = .ok (.istore 5, 2) := by decide +kernel
theorem dL_law_915 : decode cL_law 915 = .ok (.aload_n 2, 1) := by decide +kernel
theorem dL_law_916 : decode cL_law 916 = .ok (.aload_n 0, 1) := by decide +kernel
theorem dL_law_917 : decode cL_law 917 = .ok (.iload 4, 2) := by decide +kernel
theorem dL_law_919 : decode cL_law 919 = .ok (.iconst 1, 1) := by decide +kernel
theorem dL_law_920 : decode cL_law 920 = .ok (.iadd, 1) := by decide +kernel
theorem dL_law_921 : decode cL_law 921 = .ok (.iaload, 1) := by decide +kernel
theorem dL_law_922 : decode cL_law 922 = .ok (.invokevirtual 148, 3) := by decide +kernel
theorem dL_law_925 : decode cL_law 925 = .ok (.istore 6, 2) := by decide +kernel
theorem dL_law_927 : decode cL_law 927 = .ok (.goto 31, 3) := by decide +kernel
theorem dL_law_930 : decode cL_law 930 = .ok (.aload_n 1, 1) := by decide +kernel
theorem dL_law_931 : decode cL_law 931 = .ok (.aload_n 0, 1) := by decide +kernel
theorem dL_law_932 : decode cL_law 932 = .ok (.iload 4, 2) := by decide +kernel
theorem dL_law_934 : decode cL_law 934 = .ok (.iconst 1, 1) := by decide +kernel
theorem dL_law_935 : decode cL_law 935 = .ok (.iadd, 1) := by decide +kernel
theorem dL_law_936 : decode cL_law 936 = .ok (.iaload, 1) := by decide +kernel
theorem dL_law_937 : decode cL_law 937 = .ok (.aload_n 3, 1) := by decide +kernel
theorem dL_law_938 : decode cL_law 938 = .ok (.invokestatic 149, 3) := by decide +kernel
theorem dL_law_941 : decode cL_law 941 = .ok (.istore 5, 2) := by decide +kernel
theorem dL_law_943 : decode cL_law 943 = .ok (.aload_n 2, 1) := by decide +kernel
theorem dL_law_944 : decode cL_law 944 = .ok (.aload_n 0, 1) := by decide +kernel
theorem dL_law_945 : decode cL_law 945 = .ok (.iload 4, 2) := by decide +kernel
theorem dL_law_947 : decode cL_law 947 = .ok (.iconst 1, 1) := by decide +kernel
theorem dL_law_948 : decode cL_law 948 = .ok (.iadd, 1) := by decide +kernel
theorem dL_law_949 : decode cL_law 949 = .ok (.iaload, 1) := by decide +kernel
theorem dL_law_950 : decode cL_law 950 = .ok (.invokevirtual 151, 3) := by decide +kernel
theorem dL_law_953 : decode cL_law 953 = .ok (.istore 6, 2) := by decide +kernel
theorem dL_law_955 : decode cL_law 955 = .ok (.goto 3, 3) := by decide +kernel
theorem dL_law_958 : decode cL_law 958 = .ok (.iinc 4 5, 3) := by decide +kernel
theorem dL_law_961 : decode cL_law 961 = .ok (.goto (-938), 3) := by decide +kernel
theorem dL_law_964 : decode cL_law 964 = .ok (.iconst 1, 1) := by decide +kernel
theorem dL_law_965 : decode cL_law 965 = .ok (.ireturn, 1) := by decide +kernel
