theorem dX4_feed_17 : decode cX4_feed 17 = .ok (.invokevirtual 217, 3) := by decide +kernel
theorem dX4_feed_20 : decode cX4_feed 20 = .ok (.aload_n 0, 1) := by decide +kernel
theorem dX4_feed_21 : decode cX4_feed 21 = .ok (.getfield 32, 3) := by decide +kernel
theorem dX4_feed_24 : decode cX4_feed 24 = .ok (.iload_n 2, 1) := by decide +kernel
theorem dX4_feed_25 : decode cX4_feed 25 = .ok (.invokevirtual 217, 3) := by decide +kernel
theorem dX4_feed_28 : decode cX4_feed 28 = .ok (.aload_n 0, 1) := by decide +kernel
theorem dX4_feed_29 : decode cX4_feed 29 = .ok (.getfield 32, 3) := by decide +kernel
theorem dX4_feed_32 : decode cX4_feed 32 = .ok (.iload_n 3, 1) := by decide +kernel
theorem dX4_feed_33 : decode cX4_feed 33 = .ok (.invokevirtual 217, 3) := by decide +kernel
theorem dX4_feed_36 : decode cX4_feed 36 = .ok (.aload_n 0, 1) := by decide +kernel
theorem dX4_feed_37 : decode cX4_feed 37 = .ok (.getfield 32, 3) := by decide +kernel
theorem dX4_feed_40 : decode cX4_feed 40 = .ok (.iload 4, 2) := by decide +kernel
theorem dX4_feed_42 : decode cX4_feed 42 = .ok (.invokevirtual 217, 3) := by decide +kernel
theorem dX4_feed_45 : decode cX4_feed 45 = .ok (.aload_n 0, 1) := by decide +kernel
theorem dX4_feed_46 : decode cX4_feed 46 = .ok (.getfield 32, 3) := by decide +kernel
theorem dX4_feed_49 : decode cX4_feed 49 = .ok (.iload 5, 2) := by decide +kernel
theorem dX4_feed_51 : decode cX4_feed 51 = .ok (.invokevirtual 217, 3) := by decide +kernel
theorem dX4_feed_54 : decode cX4_feed 54 = .ok (.aload_n 0, 1) := by decide +kernel
theorem dX4_feed_55 : decode cX4_feed 55 = .ok (.getfield 32, 3) := by decide +kernel
theorem dX4_feed_58 : decode cX4_feed 58 = .ok (.getfield 220, 3) := by decide +kernel
theorem dX4_feed_61 : decode cX4_feed 61 = .ok (.ireturn, 1) := by decide +kernel
set_option maxRecDepth 20000 in
theorem ggX4_correct_X2_compare : GoodIn wsX4_correct wsX2_compare := goodIn_r _ [8, 9, 10, 11, 12, 13, 14, 15, 7, 16, 17, 18, 19, 20, 21, 22, 23, 24, 25, 26, 27, 28, 29, 30, 31, 32, 33, 34, 35, 36, 37, 38, 39, 40, 41, 42, 43, 44, 45, 46, 47, 48, 59, 60, 61, 62, 63, 64, 65, 66] (by decide +kernel) (by decide +kernel)
set_option maxRecDepth 20000 in
theorem gX4_correct_X2_compare : GoodIn wsX4_correct (wsV RX4 227 RX2 yX2_compare wsX2_compare) := goodIn_app (goodIn_of _ (by decide +kernel)) ggX4_correct_X2_compare
theorem dX4_correct_0 : decode cX4_correct 0 = .ok (.iload_n 1, 1) := by decide +kernel
theorem dX4_correct_1 : decode cX4_correct 1 = .ok (.ifCond .lt 19, 3) := by decide +kernel
theorem dX4_correct_4 : decode cX4_correct 4 = .ok (.iload_n 1, 1) := by decide +kernel
theorem dX4_correct_5 : decode cX4_correct 5 = .ok (.bipush 40, 2) := by decide +kernel
theorem dX4_correct_7 : decode cX4_correct 7 = .ok (.if_icmp .gt 13, 3) := by decide +kernel
theorem dX4_correct_10 : decode cX4_correct 10 = .ok (.iload_n 2, 1) := by decide +kernel
theorem dX4_correct_11 : decode cX4_correct 11 = .ok (.ifCond .lt 9, 3) := by decide +kernel
theorem dX4_correct_14 : decode cX4_correct 14 = .ok (.iload_n 2, 1) := by decide +kernel
theorem dX4_correct_15 : decode cX4_correct 15 = .ok (.bipush 40, 2) := by decide +kernel
theorem dX4_correct_17 : decode cX4_correct 17 = .ok (.if_icmp .le 13, 3) := by decide +kernel
theorem dX4_correct_20 : decode cX4_correct 20 = .ok (.new 58, 3) := by decide +kernel
theorem dX4_correct_23 : decode cX4_correct 23 = .ok (.dup, 1) := by decide +kernel
theorem dX4_correct_24 : decode cX4_correct 24 = .ok (.ldc 223, 2) := by decide +kernel
theorem dX4_correct_26 : decode cX4_correct 26 = .ok (.invokespecial 62, 3) := by decide +kernel
theorem dX4_correct_29 : decode cX4_correct 29 = .ok (.athrow, 1) := by decide +kernel
theorem dX4_correct_30 : decode cX4_correct 30 = .ok (.iload_n 1, 1) := by decide +kernel
theorem dX4_correct_31 : decode cX4_correct 31 = .ok (.iload_n 2, 1) := by decide +kernel
theorem dX4_correct_32 : decode cX4_correct 32 = .ok (.iadd, 1) := by decide +kernel
theorem dX4_correct_33 : decode cX4_correct 33 = .ok (.aload_n 0, 1) := by decide +kernel
theorem dX4_correct_34 : decode cX4_correct 34 = .ok (.getfield 32, 3) := by decide +kernel
theorem dX4_correct_37 : decode cX4_correct 37 = .ok (.getfield 220, 3) := by decide +kernel
theorem dX4_correct_40 : decode cX4_correct 40 = .ok (.if_icmp .le 13, 3) := by decide +kernel
theorem dX4_correct_43 : decode cX4_correct 43 = .ok (.new 58, 3) := by decide +kernel
theorem dX4_correct_46 : decode cX4_correct 46 = .ok (.dup, 1) := by decide +kernel
theorem dX4_correct_47 : decode cX4_correct 47 = .ok (.ldc 225, 2) := by decide +kernel
theorem dX4_correct_49 : decode cX4_correct 49 = .ok (.invokespecial 62, 3) := by decide +kernel
theorem dX4_correct_52 : decode cX4_correct 52 = .ok (.athrow, 1) := by decide +kernel
theorem dX4_correct_53 : decode cX4_correct 53 = .ok (.aload_n 0, 1) := by decide +kernel
theorem dX4_correct_54 : decode cX4_correct 54 = .ok (.getfield 32, 3) := by decide +kernel
theorem dX4_correct_57 : decode cX4_correct 57 = .ok (.iload_n 1, 1) := by decide +kernel
theorem dX4_correct_58 : decode cX4_correct 58 = .ok (.iload_n 2, 1) := by decide +kernel
theorem dX4_correct_59 : decode cX4_correct 59 = .ok (.invokevirtual 227, 3) := by decide +kernel
theorem dX4_correct_62 : decode cX4_correct 62 = .ok (.ireturn, 1) := by decide +kernel
theorem dX4_mark_0 : decode cX4_mark 0 = .ok (.iload_n 1, 1) := by decide +kernel
theorem dX4_mark_1 : decode cX4_mark 1 = .ok (.iconst (-1), 1) := by decide +kernel
theorem dX4_mark_2 : decode cX4_mark 2 = .ok (.if_icmp .ne 11, 3) := by decide +kernel
theorem dX4_mark_5 : decode cX4_mark 5 = .ok (.aload_n 0, 1) := by decide +kernel
theorem dX4_mark_6 : decode cX4_mark 6 = .ok (.getfield 32, 3) := by decide +kernel
theorem dX4_mark_9 : decode cX4_mark 9 = .ok (.getfield 230, 3) := by decide +kernel
theorem dX4_mark_12 : decode cX4_mark 12 = .ok (.ireturn, 1) := by decide +kernel
theorem dX4_mark_13 : decode cX4_mark 13 = .ok (.iload_n 1, 1) := by decide +kernel
theorem dX4_mark_14 : decode cX4_mark 14 = .ok (.ifCond .lt 14, 3) := by decide +kernel
theorem dX4_mark_17 : decode cX4_mark 17 = .ok (.iload_n 1, 1) := by decide +kernel
theorem dX4_mark_18 : decode cX4_mark 18 = .ok (.aload_n 0, 1) := by decide +kernel
theorem dX4_mark_19 : decode cX4_mark 19 = .ok (.getfield 32, 3) := by decide +kernel
theorem dX4_mark_22 : decode cX4_mark 22 = .ok (.getfield 230, 3) := by decide +kernel
theorem dX4_mark_25 : decode cX4_mark 25 = .ok (.if_icmp .lt 13, 3) := by decide +kernel
theorem dX4_mark_28 : decode cX4_mark 28 = .ok (.new 108, 3) := by decide +kernel
theorem dX4_mark_31 : decode cX4_mark 31 = .ok (.dup, 1) := by decide +kernel
theorem dX4_mark_32 : decode cX4_mark 32 = .ok (.ldc 233, 2) := by decide +kernel
theorem dX4_mark_34 : decode cX4_mark 34 = .ok (.invokespecial 112, 3) := by decide +kernel
theorem dX4_mark_37 : decode cX4_mark 37 = .ok (.athrow, 1) := by decide +kernel
theorem dX4_mark_38 : decode cX4_mark 38 = .ok (.aload_n 0, 1) := by decide +kernel
theorem dX4_mark_39 : decode cX4_mark 39 = .ok (.getfield 32, 3) := by decide +kernel
theorem dX4_mark_42 : decode cX4_mark 42 = .ok (.getfield 235, 3) := by decide +kernel
theorem dX4_mark_45 : decode cX4_mark 45 = .ok (.iload_n 1, 1) := by decide +kernel
theorem dX4_mark_46 : decode cX4_mark 46 = .ok (.iaload, 1) := by decide +kernel
theorem dX4_mark_47 : decode cX4_mark 47 = .ok (.ireturn, 1) := by decide +kernel
theorem dX4_marks_0 : decode cX4_marks 0 = .ok (.iload_n 1, 1) := by decide +kernel
theorem dX4_marks_1 : decode cX4_marks 1 = .ok (.ifCond .lt 8, 3) := by decide +kernel
theorem dX4_marks_4 : decode cX4_marks 4 = .ok (.iload_n 1, 1) := by decide +kernel
theorem dX4_marks_5 : decode cX4_marks 5 = .ok (.iconst 5, 1) := by decide +kernel
theorem dX4_marks_6 : decode cX4_marks 6 = .ok (.if_icmp .lt 13, 3) := by decide +kernel
theorem dX4_marks_9 : decode cX4_marks 9 = .ok (.new 108, 3) := by decide +kernel
theorem dX4_marks_12 : decode cX4_marks 12 = .ok (.dup, 1) := by decide +kernel
theorem dX4_marks_13 : decode cX4_marks 13 = .ok (.ldc 238, 2) := by decide +kernel
theorem dX4_marks_15 : decode cX4_marks 15 = .ok (.invokespecial 112, 3) := by decide +kernel
theorem dX4_marks_18 : decode cX4_marks 18 = .ok (.athrow, 1) := by decide +kernel
theorem dX4_marks_19 : decode cX4_marks 19 = .ok (.aload_n 0, 1) := by decide +kernel
theorem dX4_marks_20 : decode cX4_marks 20 = .ok (.getfield 32, 3) := by decide +kernel
theorem dX4_marks_23 : decode cX4_marks 23 = .ok (.getfield 240, 3) := by decide +kernel
theorem dX4_marks_26 : decode cX4_marks 26 = .ok (.iload_n 1, 1) := by decide +kernel
theorem dX4_marks_27 : decode cX4_marks 27 = .ok (.iaload, 1) := by decide +kernel
theorem dX4_marks_28 : decode cX4_marks 28 = .ok (.ireturn, 1) := by decide +kernel
theorem dX4_count_0 : decode cX4_count 0 = .ok (.iload_n 1, 1) := by decide +kernel
theorem dX4_count_1 : decode cX4_count 1 = .ok (.tableswitch 63 0 4 #[35, 40, 45, 50, 55], 35) := by decide +kernel
theorem dX4_count_36 : decode cX4_count 36 = .ok (.aload_n 0, 1) := by decide +kernel
theorem dX4_count_37 : decode cX4_count 37 = .ok (.getfield 40, 3) := by decide +kernel
theorem dX4_count_40 : decode cX4_count 40 = .ok (.ireturn, 1) := by decide +kernel
theorem dX4_count_41 : decode cX4_count 41 = .ok (.aload_n 0, 1) := by decide +kernel
theorem dX4_count_42 : decode cX4_count 42 = .ok (.getfield 158, 3) := by decide +kernel
theorem dX4_count_45 : decode cX4_count 45 = .ok (.ireturn, 1) := by decide +kernel
theorem dX4_count_46 : decode cX4_count 46 = .ok (.aload_n 0, 1) := by decide +kernel
theorem dX4_count_47 : decode cX4_count 47 = .ok (.getfield 161, 3) := by decide +kernel
theorem dX4_count_50 : decode cX4_count 50 = .ok (.ireturn, 1) := by decide +kernel
theorem dX4_count_51 : decode cX4_count 51 = .ok (.aload_n 0, 1) := by decide +kernel
theorem dX4_count_52 : decode cX4_count 52 = .ok (.getfield 169, 3) := by decide +kernel
theorem dX4_count_55 : decode cX4_count 55 = .ok (.ireturn, 1) := by decide +kernel
theorem dX4_count_56 : decode cX4_count 56 = .ok (.aload_n 0, 1) := by decide +kernel
theorem dX4_count_57 : decode cX4_count 57 = .ok (.getfield 32, 3) := by decide +kernel
theorem dX4_count_60 : decode cX4_count 60 = .ok (.getfield 220, 3) := by decide +kernel
theorem dX4_count_63 : decode cX4_count 63 = .ok (.ireturn, 1) := by decide +kernel
theorem dX4_count_64 : decode cX4_count 64 = .ok (.new 108, 3) := by decide +kernel
theorem dX4_count_67 : decode cX4_count 67 = .ok (.dup, 1) := by decide +kernel
theorem dX4_count_68 : decode cX4_count 68 = .ok (.ldc 243, 2) := by decide +kernel
theorem dX4_count_70 : decode cX4_count 70 = .ok (.invokespecial 112, 3) := by decide +kernel
theorem dX4_count_73 : decode cX4_count 73 = .ok (.athrow, 1) := by decide +kernel
theorem dX4_find_0 : decode cX4_find 0 = .ok (.iload_n 1, 1) := by decide +kernel
theorem dX4_find_1 : decode cX4_find 1 = .ok (.ifCond .lt 11, 3) := by decide +kernel
theorem dX4_find_4 : decode cX4_find 4 = .ok (.iload_n 1, 1) := by decide +kernel
theorem dX4_find_5 : decode cX4_find 5 = .ok (.aload_n 0, 1) := by decide +kernel
theorem dX4_find_6 : decode cX4_find 6 = .ok (.getfield 40, 3) := by decide +kernel
theorem dX4_find_9 : decode cX4_find 9 = .ok (.if_icmp .lt 13, 3) := by decide +kernel
theorem dX4_find_12 : decode cX4_find 12 = .ok (.new 108, 3) := by decide +kernel
theorem dX4_find_15 : decode cX4_find 15 = .ok (.dup, 1) := by decide +kernel
theorem dX4_find_16 : decode cX4_find 16 = .ok (.ldc 245, 2) := by decide +kernel
theorem dX4_find_18 : decode cX4_find 18 = .ok (.invokespecial 112, 3) := by decide +kernel
theorem dX4_find_21 : decode cX4_find 21 = .ok (.athrow, 1) := by decide +kernel
theorem dX4_find_22 : decode cX4_find 22 = .ok (.aload_n 0, 1) := by decide +kernel
theorem dX4_find_23 : decode cX4_find 23 = .ok (.getfield 11, 3) := by decide +kernel
theorem dX4_find_26 : decode cX4_find 26 = .ok (.iload_n 1, 1) := by decide +kernel
theorem dX4_find_27 : decode cX4_find 27 = .ok (.aaload, 1) := by decide +kernel
theorem dX4_find_28 : decode cX4_find 28 = .ok (.astore_n 2, 1) := by decide +kernel
theorem dX4_find_29 : decode cX4_find 29 = .ok (.aload_n 2, 1) := by decide +kernel
theorem dX4_find_30 : decode cX4_find 30 = .ok (.ifnonnull 13, 3) := by decide +kernel
theorem dX4_find_33 : decode cX4_find 33 = .ok (.new 108, 3) := by decide +kernel
theorem dX4_find_36 : decode cX4_find 36 = .ok (.dup, 1) := by decide +kernel
theorem dX4_find_37 : decode cX4_find 37 = .ok (.ldc 245, 2) := by decide +kernel
theorem dX4_find_39 : decode cX4_find 39 = .ok (.invokespecial 112, 3) := by decide +kernel
theorem dX4_find_42 : decode cX4_find 42 = .ok (.athrow, 1) := by decide +kernel
theorem dX4_find_43 : decode cX4_find 43 = .ok (.aload_n 2, 1) := by decide +kernel
theorem dX4_find_44 : decode cX4_find 44 = .ok (.areturn, 1) := by decide +kernel
set_option maxRecDepth 20000 in
theorem ggX4_requireTwo_X4_find : GoodIn wsX4_requireTwo wsX4_find := goodIn_ca (goodIn_r _ [7, 1, 2, 8, 9, 10, 11, 12, 13, 14, 15, 16, 17, 18, 19] (by decide +kernel) (by decide +kernel)) (goodIn_sub (fun _ h => List.mem_cons_of_mem _ (List.mem_append_right _ h)) (by decide +kernel))
set_option maxRecDepth 20000 in
theorem gX4_requireTwo_X4_find : GoodIn wsX4_requireTwo (wsV RX4 48 RX4 yX4_find wsX4_find) := goodIn_app (goodIn_of _ (by decide +kernel)) ggX4_requireTwo_X4_find
theorem dX4_requireTwo_0 : decode cX4_requireTwo 0 = .ok (.aload_n 0, 1) := by decide +kernel
theorem dX4_requireTwo_1 : decode cX4_requireTwo 1 = .ok (.iload_n 1, 1) := by decide +kernel
theorem dX4_requireTwo_2 : decode cX4_requireTwo 2 = .ok (.invokevirtual 48, 3) := by decide +kernel
theorem dX4_requireTwo_5 : decode cX4_requireTwo 5 = .ok (.pop, 1) := by decide +kernel
theorem dX4_requireTwo_6 : decode cX4_requireTwo 6 = .ok (.aload_n 0, 1) := by decide +kernel
theorem dX4_requireTwo_7 : decode cX4_requireTwo 7 = .ok (.iload_n 2, 1) := by decide +kernel
theorem dX4_requireTwo_8 : decode cX4_requireTwo 8 = .ok (.invokevirtual 48, 3) := by decide +kernel
theorem dX4_requireTwo_11 : decode cX4_requireTwo 11 = .ok (.pop, 1) := by decide +kernel
theorem dX4_requireTwo_12 : decode cX4_requireTwo 12 = .ok (.iload_n 1, 1) := by decide +kernel
theorem dX4_requireTwo_13 : decode cX4_requireTwo 13 = .ok (.iload_n 2, 1) := by decide +kernel
theorem dX4_requireTwo_14 : decode cX4_requireTwo 14 = .ok (.if_icmp .ne 13, 3) := by decide +kernel
theorem dX4_requireTwo_17 : decode cX4_requireTwo 17 = .ok (.new 108, 3) := by decide +kernel
theorem dX4_requireTwo_20 : decode cX4_requireTwo 20 = .ok (.dup, 1) := by decide +kernel
theorem dX4_requireTwo_21 : decode cX4_requireTwo 21 = .ok (.ldc 247, 2) := by decide +kernel
theorem dX4_requireTwo_23 : decode cX4_requireTwo 23 = .ok (.invokespecial 112, 3) := by decide +kernel
theorem dX4_requireTwo_26 : decode cX4_requireTwo 26 = .ok (.athrow, 1) := by decide +kernel
theorem dX4_requireTwo_27 : decode cX4_requireTwo 27 = .ok (.return_, 1) := by decide +kernel
theorem dX4_requireTongue_0 : decode cX4_requireTongue 0 = .ok (.iload_n 0, 1) := by decide +kernel
theorem dX4_requireTongue_1 : decode cX4_requireTongue 1 = .ok (.ifCond .lt 9, 3) := by decide +kernel
theorem dX4_requireTongue_4 : decode cX4_requireTongue 4 = .ok (.iload_n 0, 1) := by decide +kernel
theorem dX4_requireTongue_5 : decode cX4_requireTongue 5 = .ok (.bipush 8, 2) := by decide +kernel
theorem dX4_requireTongue_7 : decode cX4_requireTongue 7 = .ok (.if_icmp .lt 13, 3) := by decide +kernel
theorem dX4_requireTongue_10 : decode cX4_requireTongue 10 = .ok (.new 108, 3) := by decide +kernel
theorem dX4_requireTongue_13 : decode cX4_requireTongue 13 = .ok (.dup, 1) := by decide +kernel
theorem dX4_requireTongue_14 : decode cX4_requireTongue 14 = .ok (.ldc 249, 2) := by decide +kernel
theorem dX4_requireTongue_16 : decode cX4_requireTongue 16 = .ok (.invokespecial 112, 3) := by decide +kernel
theorem dX4_requireTongue_19 : decode cX4_requireTongue 19 = .ok (.athrow, 1) := by decide +kernel
theorem dX4_requireTongue_20 : decode cX4_requireTongue 20 = .ok (.return_, 1) := by decide +kernel
theorem dX4_requireWord_0 : decode cX4_requireWord 0 = .ok (.iload_n 1, 1) := by decide +kernel
theorem dX4_requireWord_1 : decode cX4_requireWord 1 = .ok (.ifCond .lt 11, 3) := by decide +kernel
theorem dX4_requireWord_4 : decode cX4_requireWord 4 = .ok (.iload_n 1, 1) := by decide +kernel
theorem dX4_requireWord_5 : decode cX4_requireWord 5 = .ok (.aload_n 0, 1) := by decide +kernel
theorem dX4_requireWord_6 : decode cX4_requireWord 6 = .ok (.getfield 251, 3) := by decide +kernel
theorem dX4_requireWord_9 : decode cX4_requireWord 9 = .ok (.if_icmp .lt 13, 3) := by decide +kernel
theorem dX4_requireWord_12 : decode cX4_requireWord 12 = .ok (.new 108, 3) := by decide +kernel
theorem dX4_requireWord_15 : decode cX4_requireWord 15 = .ok (.dup, 1) := by decide +kernel
theorem dX4_requireWord_16 : decode cX4_requireWord 16 = .ok (.ldc 254, 2) := by decide +kernel
theorem dX4_requireWord_18 : decode cX4_requireWord 18 = .ok (.invokespecial 112, 3) := by decide +kernel
theorem dX4_requireWord_21 : decode cX4_requireWord 21 = .ok (.athrow, 1) := by decide +kernel
theorem dX4_requireWord_22 : decode cX4_requireWord 22 = .ok (.return_, 1) := by decide +kernel
set_option maxRecDepth 20000 in
theorem ggX4_commonHours_X4_find : GoodIn wsX4_commonHours wsX4_find := goodIn_ca (goodIn_r _ [5, 6, 7, 8, 9, 31, 32, 33, 34, 35, 36, 37, 38, 39, 40] (by decide +kernel) (by decide +kernel)) (goodIn_sub (fun _ h => List.mem_cons_of_mem _ (List.mem_append_right _ h)) (by decide +kernel))
set_option maxRecDepth 20000 in
theorem gX4_commonHours_X4_find : GoodIn wsX4_commonHours (wsV RX4 48 RX4 yX4_find wsX4_find) := goodIn_app (goodIn_of _ (by decide +kernel)) ggX4_commonHours_X4_find
set_option maxRecDepth 20000 in
theorem ggX4_commonHours_X0_isBarred : GoodIn wsX4_commonHours wsX0_isBarred := goodIn_r _ [14, 15, 16, 17, 18, 19, 20, 21, 22, 23, 24, 25, 26, 27, 28, 29, 30] (by decide +kernel) (by decide +kernel)
set_option maxRecDepth 20000 in
theorem gX4_commonHours_X0_isBarred : GoodIn wsX4_commonHours (wsV RX4 79 RX0 yX0_isBarred wsX0_isBarred) := goodIn_app (goodIn_of _ (by decide +kernel)) ggX4_commonHours_X0_isBarred
theorem dX4_commonHours_0 : decode cX4_commonHours 0 = .ok (.aload_n 0, 1) := by decide +kernel
theorem dX4_commonHours_1 : decode cX4_commonHours 1 = .ok (.iload_n 1, 1) := by decide +kernel
theorem dX4_commonHours_2 : decode cX4_commonHours 2 = .ok (.invokevirtual 48, 3) := by decide +kernel
theorem dX4_commonHours_5 : decode cX4_commonHours 5 = .ok (.astore_n 3, 1) := by decide +kernel
theorem dX4_commonHours_6 : decode cX4_commonHours 6 = .ok (.aload_n 3, 1) := by decide +kernel
theorem dX4_commonHours_7 : decode cX4_commonHours 7 = .ok (.iload_n 2, 1) := by decide +kernel
theorem dX4_commonHours_8 : decode cX4_commonHours 8 = .ok (.invokevirtual 79, 3) := by decide +kernel
theorem dX4_commonHours_11 : decode cX4_commonHours 11 = .ok (.ifCond .eq 7, 3) := by decide +kernel
theorem dX4_commonHours_14 : decode cX4_commonHours 14 = .ok (.iconst 0, 1) := by decide +kernel
theorem dX4_commonHours_15 : decode cX4_commonHours 15 = .ok (.goto 16, 3) := by decide +kernel
theorem dX4_commonHours_18 : decode cX4_commonHours 18 = .ok (.aload_n 3, 1) := by decide +kernel
theorem dX4_commonHours_19 : decode cX4_commonHours 19 = .ok (.getfield 52, 3) := by decide +kernel
theorem dX4_commonHours_22 : decode cX4_commonHours 22 = .ok (.aload_n 0, 1) := by decide +kernel
theorem dX4_commonHours_23 : decode cX4_commonHours 23 = .ok (.iload_n 2, 1) := by decide +kernel
theorem dX4_commonHours_24 : decode cX4_commonHours 24 = .ok (.invokevirtual 48, 3) := by decide +kernel
theorem dX4_commonHours_27 : decode cX4_commonHours 27 = .ok (.getfield 52, 3) := by decide +kernel
theorem dX4_commonHours_30 : decode cX4_commonHours 30 = .ok (.iand, 1) := by decide +kernel
theorem dX4_commonHours_31 : decode cX4_commonHours 31 = .ok (.ireturn, 1) := by decide +kernel
set_option maxRecDepth 20000 in
theorem ggX4_lowestBit_J6_numberOfTrailingZeros_0f7a4 : GoodIn wsX4_lowestBit wsJ6_numberOfTrailingZeros_0f7a4 := goodIn_r _ [4, 5] (by decide +kernel) (by decide +kernel)
set_option maxRecDepth 20000 in
theorem gX4_lowestBit_J6_numberOfTrailingZeros_0f7a4 : GoodIn wsX4_lowestBit (va_wsS RX4 256 yJ6_numberOfTrailingZeros_0f7a4 wsJ6_numberOfTrailingZeros_0f7a4) := goodIn_app (goodIn_of _ (by decide +kernel)) ggX4_lowestBit_J6_numberOfTrailingZeros_0f7a4
theorem dX4_lowestBit_0 : decode cX4_lowestBit 0 = .ok (.iload_n 0, 1) := by decide +kernel
theorem dX4_lowestBit_1 : decode cX4_lowestBit 1 = .ok (.ifCond .ne 7, 3) := by decide +kernel
theorem dX4_lowestBit_4 : decode cX4_lowestBit 4 = .ok (.iconst (-1), 1) := by decide +kernel
theorem dX4_lowestBit_5 : decode cX4_lowestBit 5 = .ok (.goto 7, 3) := by decide +kernel
theorem dX4_lowestBit_8 : decode cX4_lowestBit 8 = .ok (.iload_n 0, 1) := by decide +kernel
theorem dX4_lowestBit_9 : decode cX4_lowestBit 9 = .ok (.invokestatic 256, 3) := by decide +kernel
theorem dX4_lowestBit_12 : decode cX4_lowestBit 12 = .ok (.ireturn, 1) := by decide +kernel
theorem dX4_hourAt_0 : decode cX4_hourAt 0 = .ok (.iload_n 0, 1) := by decide +kernel
theorem dX4_hourAt_1 : decode cX4_hourAt 1 = .ok (.iconst 5, 1) := by decide +kernel
theorem dX4_hourAt_2 : decode cX4_hourAt 2 = .ok (.iload_n 1, 1) := by decide +kernel
theorem dX4_hourAt_3 : decode cX4_hourAt 3 = .ok (.imul, 1) := by decide +kernel
theorem dX4_hourAt_4 : decode cX4_hourAt 4 = .ok (.ishr, 1) := by decide +kernel
theorem dX4_hourAt_5 : decode cX4_hourAt 5 = .ok (.bipush 31, 2) := by decide +kernel
theorem dX4_hourAt_7 : decode cX4_hourAt 7 = .ok (.iand, 1) := by decide +kernel
theorem dX4_hourAt_8 : decode cX4_hourAt 8 = .ok (.ireturn, 1) := by decide +kernel
set_option maxRecDepth 20000 in
theorem ggX4_lookAtTies_X4_find : GoodIn wsX4_lookAtTies wsX4_find := goodIn_ca (goodIn_r _ [7, 8, 9, 1, 10, 41, 42, 43, 44, 45, 46, 47, 48, 49, 50] (by decide +kernel) (by decide +kernel)) (goodIn_sub (fun _ h => List.mem_cons_of_mem _ (List.mem_append_right _ h)) (by decide +kernel))
set_option maxRecDepth 20000 in
theorem gX4_lookAtTies_X4_find : GoodIn wsX4_lookAtTies (wsV RX4 48 RX4 yX4_find wsX4_find) := goodIn_app (goodIn_of _ (by decide +kernel)) ggX4_lookAtTies_X4_find
set_option maxRecDepth 20000 in
theorem ggX4_lookAtTies_X0_giftTo : GoodIn wsX4_lookAtTies wsX0_giftTo := goodIn_r _ [15, 16, 17, 18, 19, 20, 14, 21, 22, 23, 24, 51, 52, 53, 54, 55, 56, 57, 58, 59, 60, 61, 62, 63, 64, 65] (by decide +kernel) (by decide +kernel)
set_option maxRecDepth 20000 in
theorem gX4_lookAtTies_X0_giftTo : GoodIn wsX4_lookAtTies (wsV RX4 113 RX0 yX0_giftTo wsX0_giftTo) := goodIn_app (goodIn_of _ (by decide +kernel)) ggX4_lookAtTies_X0_giftTo
set_option maxRecDepth 20000 in
theorem ggX4_lookAtTies_X4_commonHours : GoodIn wsX4_lookAtTies wsX4_commonHours := goodIn_ca (goodIn_r _ [28, 3, 4, 5, 6, 7, 8, 9, 1, 10, 29, 30, 31, 14, 32, 33, 51, 52, 53, 54, 55, 56, 57, 58, 59, 60, 61, 62, 63, 64, 65, 41, 42, 43, 44, 45, 46, 47, 48, 49, 50] (by decide +kernel) (by decide +kernel)) (goodIn_sub (fun _ h => List.mem_cons_of_mem _ (List.mem_append_right _ h)) (by decide +kernel))
set_option maxRecDepth 20000 in
theorem gX4_lookAtTies_X4_commonHours : GoodIn wsX4_lookAtTies (wsV RX4 117 RX4 yX4_commonHours wsX4_commonHours) := goodIn_app (goodIn_of _ (by decide +kernel)) ggX4_lookAtTies_X4_commonHours
set_option maxRecDepth 20000 in
theorem ggX4_lookAtTies_X3_setTie : GoodIn wsX4_lookAtTies wsX3_setTie := goodIn_r _ [38, 39, 40, 66, 67] (by decide +kernel) (by decide +kernel)
set_option maxRecDepth 20000 in
theorem gX4_lookAtTies_X3_setTie : GoodIn wsX4_lookAtTies (wsV RX4 259 RX3 yX3_setTie wsX3_setTie) := goodIn_app (goodIn_of _ (by decide +kernel)) ggX4_lookAtTies_X3_setTie
theorem dX4_lookAtTies_0 : decode cX4_lookAtTies 0 = .ok (.iconst 0, 1) := by decide +kernel
theorem dX4_lookAtTies_1 : decode cX4_lookAtTies 1 = .ok (.istore_n 1, 1) := by decide +kernel
theorem dX4_lookAtTies_2 : decode cX4_lookAtTies 2 = .ok (.iload_n 1, 1) := by decide +kernel
theorem dX4_lookAtTies_3 : decode cX4_lookAtTies 3 = .ok (.aload_n 0, 1) := by decide +kernel
theorem dX4_lookAtTies_4 : decode cX4_lookAtTies 4 = .ok (.getfield 40, 3) := by decide +kernel
theorem dX4_lookAtTies_7 : decode cX4_lookAtTies 7 = .ok (.if_icmp .ge 69, 3) := by decide +kernel
theorem dX4_lookAtTies_10 : decode cX4_lookAtTies 10 = .ok (.aload_n 0, 1) := by decide +kernel
theorem dX4_lookAtTies_11 : decode cX4_lookAtTies 11 = .ok (.iload_n 1, 1) := by decide +kernel
theorem dX4_lookAtTies_12 : decode cX4_lookAtTies 12 = .ok (.invokevirtual 48, 3) := by decide +kernel
theorem dX4_lookAtTies_15 : decode cX4_lookAtTies 15 = .ok (.astore_n 2, 1) := by decide +kernel
theorem dX4_lookAtTies_16 : decode cX4_lookAtTies 16 = .ok (.iconst 0, 1) := by decide +kernel
theorem dX4_lookAtTies_17 : decode cX4_lookAtTies 17 = .ok (.istore_n 3, 1) := by decide +kernel
theorem dX4_lookAtTies_18 : decode cX4_lookAtTies 18 = .ok (.iload_n 3, 1) := by decide +kernel
theorem dX4_lookAtTies_19 : decode cX4_lookAtTies 19 = .ok (.aload_n 0, 1) := by decide +kernel
theorem dX4_lookAtTies_20 : decode cX4_lookAtTies 20 = .ok (.getfield 40, 3) := by decide +kernel
theorem dX4_lookAtTies_23 : decode cX4_lookAtTies 23 = .ok (.if_icmp .ge 47, 3) := by decide +kernel
theorem dX4_lookAtTies_26 : decode cX4_lookAtTies 26 = .ok (.iload_n 1, 1) := by decide +kernel
theorem dX4_lookAtTies_27 : decode cX4_lookAtTies 27 = .ok (.iload_n 3, 1) := by decide +kernel
theorem dX4_lookAtTies_28 : decode cX4_lookAtTies 28 = .ok (.if_icmp .eq 36, 3) := by decide +kernel
theorem dX4_lookAtTies_31 : decode cX4_lookAtTies 31 = .ok (.aload_n 0, 1) := by decide +kernel
theorem dX4_lookAtTies_32 : decode cX4_lookAtTies 32 = .ok (.getfield 18, 3) := by decide +kernel
theorem dX4_lookAtTies_35 : decode cX4_lookAtTies 35 = .ok (.iload_n 1, 1) := by decide +kernel
theorem dX4_lookAtTies_36 : decode cX4_lookAtTies 36 = .ok (.iload_n 3, 1) := by decide +kernel
theorem dX4_lookAtTies_37 : decode cX4_lookAtTies 37 = .ok (.aload_n 2, 1) := by decide +kernel
theorem dX4_lookAtTies_38 : decode cX4_lookAtTies 38 = .ok (.aload_n 0, 1) := by decide +kernel
theorem dX4_lookAtTies_39 : decode cX4_lookAtTies 39 = .ok (.iload_n 3, 1) := by decide +kernel
theorem dX4_lookAtTies_40 : decode cX4_lookAtTies 40 = .ok (.invokevirtual 48, 3) := by decide +kernel
theorem dX4_lookAtTies_43 : decode cX4_lookAtTies 43 = .ok (.invokevirtual 113, 3) := by decide +kernel
theorem dX4_lookAtTies_46 : decode cX4_lookAtTies 46 = .ok (.iconst (-1), 1) := by decide +kernel
theorem dX4_lookAtTies_47 : decode cX4_lookAtTies 47 = .ok (.if_icmp .eq 7, 3) := by decide +kernel
theorem dX4_lookAtTies_50 : decode cX4_lookAtTies 50 = .ok (.iconst 1, 1) := by decide +kernel
theorem dX4_lookAtTies_51 : decode cX4_lookAtTies 51 = .ok (.goto 4, 3) := by decide +kernel
theorem dX4_lookAtTies_54 : decode cX4_lookAtTies 54 = .ok (.iconst 0, 1) := by decide +kernel
theorem dX4_lookAtTies_55 : decode cX4_lookAtTies 55 = .ok (.aload_n 0, 1) := by decide +kernel
theorem dX4_lookAtTies_56 : decode cX4_lookAtTies 56 = .ok (.iload_n 1, 1) := by decide +kernel
theorem dX4_lookAtTies_57 : decode cX4_lookAtTies 57 = .ok (.iload_n 3, 1) := by decide +kernel
theorem dX4_lookAtTies_58 : decode cX4_lookAtTies 58 = .ok (.invokevirtual 117, 3) := by decide +kernel
theorem dX4_lookAtTies_61 : decode cX4_lookAtTies 61 = .ok (.invokevirtual 259, 3) := by decide +kernel
theorem dX4_lookAtTies_64 : decode cX4_lookAtTies 64 = .ok (.iinc 3 1, 3) := by decide +kernel
theorem dX4_lookAtTies_67 : decode cX4_lookAtTies 67 = .ok (.goto (-49), 3) := by decide +kernel
theorem dX4_lookAtTies_70 : decode cX4_lookAtTies 70 = .ok (.iinc 1 1, 3) := by decide +kernel
theorem dX4_lookAtTies_73 : decode cX4_lookAtTies 73 = .ok (.goto (-71), 3) := by decide +kernel
theorem dX4_lookAtTies_76 : decode cX4_lookAtTies 76 = .ok (.return_, 1) := by decide +kernel
set_option maxRecDepth 20000 in
theorem ggX4_takeRings_X1_choiceAt : GoodIn wsX4_takeRings wsX1_choiceAt := goodIn_r _ [7, 8, 9, 10, 11, 12, 13, 6, 14, 15, 74, 75, 76, 77, 78, 79, 80, 81, 82, 83] (by decide +kernel) (by decide +kernel)
set_option maxRecDepth 20000 in
theorem gX4_takeRings_X1_choiceAt : GoodIn wsX4_takeRings (wsV RX4 263 RX1 yX1_choiceAt wsX1_choiceAt) := goodIn_app (goodIn_of _ (by decide +kernel)) ggX4_takeRings_X1_choiceAt
set_option maxRecDepth 20000 in
theorem ggX4_takeRings_X4_takeRing : GoodIn wsX4_takeRings wsX4_takeRing := goodIn_r _ [20, 1, 2, 21, 22, 23, 24, 19, 25, 26, 27, 28, 29, 30, 31, 32, 33, 34, 35, 36, 37, 38, 39, 40, 41, 42, 43, 44, 45, 46, 47, 48, 49, 50, 51, 52, 53, 54, 55, 56, 57, 58, 59, 64, 65, 66, 67, 68, 69, 70, 71, 72, 73, 74, 75, 76, 77, 78, 79, 80, 81, 82, 83, 84, 85] (by decide +kernel) (by decide +kernel)
set_option maxRecDepth 20000 in
theorem gX4_takeRings_X4_takeRing : GoodIn wsX4_takeRings (wsV RX4 266 RX4 yX4_takeRing wsX4_takeRing) := goodIn_app (goodIn_of _ (by decide +kernel)) ggX4_takeRings_X4_takeRing
set_option maxRecDepth 20000 in
theorem ggX4_takeRings_X4_membersOfTaken : GoodIn wsX4_takeRings wsX4_membersOfTaken := goodIn_r _ [63, 22, 64, 65, 66, 67, 68, 69, 70, 71, 72, 73] (by decide +kernel) (by decide +kernel)
set_option maxRecDepth 20000 in
theorem gX4_takeRings_X4_membersOfTaken : GoodIn wsX4_takeRings (wsV RX4 272 RX4 yX4_membersOfTaken wsX4_membersOfTaken) := goodIn_app (goodIn_of _ (by decide +kernel)) ggX4_takeRings_X4_membersOfTaken
theorem dX4_takeRings_0 : decode cX4_takeRings 0 = .ok (.aload_n 0, 1) := by decide +kernel
theorem dX4_takeRings_1 : decode cX4_takeRings 1 = .ok (.iconst 0, 1) := by decide +kernel
theorem dX4_takeRings_2 : decode cX4_takeRings 2 = .ok (.putfield 172, 3) := by decide +kernel
theorem dX4_takeRings_5 : decode cX4_takeRings 5 = .ok (.iload_n 1, 1) := by decide +kernel
theorem dX4_takeRings_6 : decode cX4_takeRings 6 = .ok (.istore_n 2, 1) := by decide +kernel
theorem dX4_takeRings_7 : decode cX4_takeRings 7 = .ok (.iconst 0, 1) := by decide +kernel
theorem dX4_takeRings_8 : decode cX4_takeRings 8 = .ok (.istore_n 3, 1) := by decide +kernel
theorem dX4_takeRings_9 : decode cX4_takeRings 9 = .ok (.iload_n 3, 1) := by decide +kernel
theorem dX4_takeRings_10 : decode cX4_takeRings 10 = .ok (.bipush 14, 2) := by decide +kernel
theorem dX4_takeRings_12 : decode cX4_takeRings 12 = .ok (.if_icmp .ge 59, 3) := by decide +kernel
theorem dX4_takeRings_15 : decode cX4_takeRings 15 = .ok (.iload_n 2, 1) := by decide +kernel
theorem dX4_takeRings_16 : decode cX4_takeRings 16 = .ok (.ifCond .eq 55, 3) := by decide +kernel
theorem dX4_takeRings_19 : decode cX4_takeRings 19 = .ok (.aload_n 0, 1) := by decide +kernel
theorem dX4_takeRings_20 : decode cX4_takeRings 20 = .ok (.getfield 25, 3) := by decide +kernel
theorem dX4_takeRings_23 : decode cX4_takeRings 23 = .ok (.iload_n 2, 1) := by decide +kernel
theorem dX4_takeRings_24 : decode cX4_takeRings 24 = .ok (.invokevirtual 263, 3) := by decide +kernel
theorem dX4_takeRings_27 : decode cX4_takeRings 27 = .ok (.istore 4, 2) := by decide +kernel
theorem dX4_takeRings_29 : decode cX4_takeRings 29 = .ok (.iload 4, 2) := by decide +kernel
theorem dX4_takeRings_31 : decode cX4_takeRings 31 = .ok (.iconst (-1), 1) := by decide +kernel
theorem dX4_takeRings_32 : decode cX4_takeRings 32 = .ok (.if_icmp .ne 12, 3) := by decide +kernel
theorem dX4_takeRings_35 : decode cX4_takeRings 35 = .ok (.iload_n 2, 1) := by decide +kernel
theorem dX4_takeRings_36 : decode cX4_takeRings 36 = .ok (.iload_n 2, 1) := by decide +kernel
theorem dX4_takeRings_37 : decode cX4_takeRings 37 = .ok (.iconst 1, 1) := by decide +kernel
theorem dX4_takeRings_38 : decode cX4_takeRings 38 = .ok (.isub, 1) := by decide +kernel
theorem dX4_takeRings_39 : decode cX4_takeRings 39 = .ok (.iand, 1) := by decide +kernel
theorem dX4_takeRings_40 : decode cX4_takeRings 40 = .ok (.istore_n 2, 1) := by decide +kernel
theorem dX4_takeRings_41 : decode cX4_takeRings 41 = .ok (.goto 24, 3) := by decide +kernel
theorem dX4_takeRings_44 : decode cX4_takeRings 44 = .ok (.aload_n 0, 1) := by decide +kernel
theorem dX4_takeRings_45 : decode cX4_takeRings 45 = .ok (.iload 4, 2) := by decide +kernel
theorem dX4_takeRings_47 : decode cX4_takeRings 47 = .ok (.invokevirtual 266, 3) := by decide +kernel
theorem dX4_takeRings_50 : decode cX4_takeRings 50 = .ok (.iload_n 2, 1) := by decide +kernel
theorem dX4_takeRings_51 : decode cX4_takeRings 51 = .ok (.aload_n 0, 1) := by decide +kernel
theorem dX4_takeRings_52 : decode cX4_takeRings 52 = .ok (.getfield 25, 3) := by decide +kernel
theorem dX4_takeRings_55 : decode cX4_takeRings 55 = .ok (.getfield 269, 3) := by decide +kernel
theorem dX4_takeRings_58 : decode cX4_takeRings 58 = .ok (.iload 4, 2) := by decide +kernel
theorem dX4_takeRings_60 : decode cX4_takeRings 60 = .ok (.iaload, 1) := by decide +kernel
theorem dX4_takeRings_61 : decode cX4_takeRings 61 = .ok (.iconst (-1), 1) := by decide +kernel
theorem dX4_takeRings_62 : decode cX4_takeRings 62 = .ok (.ixor, 1) := by decide +kernel
theorem dX4_takeRings_63 : decode cX4_takeRings 63 = .ok (.iand, 1) := by decide +kernel
theorem dX4_takeRings_64 : decode cX4_takeRings 64 = .ok (.istore_n 2, 1) := by decide +kernel
theorem dX4_takeRings_65 : decode cX4_takeRings 65 = .ok (.iinc 3 1, 3) := by decide +kernel
theorem dX4_takeRings_68 : decode cX4_takeRings 68 = .ok (.goto (-59), 3) := by decide +kernel
theorem dX4_takeRings_71 : decode cX4_takeRings 71 = .ok (.iconst 0, 1) := by decide +kernel
theorem dX4_takeRings_72 : decode cX4_takeRings 72 = .ok (.istore_n 3, 1) := by decide +kernel
theorem dX4_takeRings_73 : decode cX4_takeRings 73 = .ok (.iconst 0, 1) := by decide +kernel
theorem dX4_takeRings_74 : decode cX4_takeRings 74 = .ok (.istore 4, 2) := by decide +kernel
theorem dX4_takeRings_76 : decode cX4_takeRings 76 = .ok (.iload 4, 2) := by decide +kernel
theorem dX4_takeRings_78 : decode cX4_takeRings 78 = .ok (.aload_n 0, 1) := by decide +kernel
theorem dX4_takeRings_79 : decode cX4_takeRings 79 = .ok (.getfield 172, 3) := by decide +kernel
theorem dX4_takeRings_82 : decode cX4_takeRings 82 = .ok (.if_icmp .ge 18, 3) := by decide +kernel
theorem dX4_takeRings_85 : decode cX4_takeRings 85 = .ok (.iload_n 3, 1) := by decide +kernel
theorem dX4_takeRings_86 : decode cX4_takeRings 86 = .ok (.aload_n 0, 1) := by decide +kernel
theorem dX4_takeRings_87 : decode cX4_takeRings 87 = .ok (.iload 4, 2) := by decide +kernel
theorem dX4_takeRings_89 : decode cX4_takeRings 89 = .ok (.invokevirtual 272, 3) := by decide +kernel
theorem dX4_takeRings_92 : decode cX4_takeRings 92 = .ok (.ior, 1) := by decide +kernel
theorem dX4_takeRings_93 : decode cX4_takeRings 93 = .ok (.istore_n 3, 1) := by decide +kernel
theorem dX4_takeRings_94 : decode cX4_takeRings 94 = .ok (.iinc 4 1, 3) := by decide +kernel
theorem dX4_takeRings_97 : decode cX4_takeRings 97 = .ok (.goto (-21), 3) := by decide +kernel
theorem dX4_takeRings_100 : decode cX4_takeRings 100 = .ok (.iload_n 3, 1) := by decide +kernel
theorem dX4_takeRings_101 : decode cX4_takeRings 101 = .ok (.ireturn, 1) := by decide +kernel
set_option maxRecDepth 20000 in
theorem ggX4_takeRing_X4_lowestBit : GoodIn wsX4_takeRing wsX4_lowestBit := goodIn_r _ [8, 9, 10, 11, 12, 13] (by decide +kernel) (by decide +kernel)
set_option maxRecDepth 20000 in
theorem gX4_takeRing_X4_lowestBit : GoodIn wsX4_takeRing (va_wsS RX4 121 yX4_lowestBit wsX4_lowestBit) := goodIn_app (goodIn_of _ (by decide +kernel)) ggX4_takeRing_X4_lowestBit
set_option maxRecDepth 20000 in
theorem ggX4_takeRing_X3_ringHours : GoodIn wsX4_takeRing wsX3_ringHours := goodIn_r _ [18, 19, 20, 21, 17, 22, 23, 24, 25, 26, 27, 28, 29, 30, 31, 32, 6, 7, 8, 9, 10, 11, 12, 13, 33, 34, 35, 36, 37, 38, 39, 63, 64] (by decide +kernel) (by decide +kernel)
set_option maxRecDepth 20000 in
theorem gX4_takeRing_X3_ringHours : GoodIn wsX4_takeRing (wsV RX4 129 RX3 yX3_ringHours wsX3_ringHours) := goodIn_app (goodIn_of _ (by decide +kernel)) ggX4_takeRing_X3_ringHours
set_option maxRecDepth 20000 in
theorem ggX4_takeRing_X4_hourAt : GoodIn wsX4_takeRing wsX4_hourAt := goodIn_r _ [42] (by decide +kernel) (by decide +kernel)
set_option maxRecDepth 20000 in
theorem gX4_takeRing_X4_hourAt : GoodIn wsX4_takeRing (va_wsS RX4 133 yX4_hourAt wsX4_hourAt) := goodIn_app (goodIn_of _ (by decide +kernel)) ggX4_takeRing_X4_hourAt
theorem dX4_takeRing_0 : decode cX4_takeRing 0 = .ok (.aload_n 0, 1) := by decide +kernel
theorem dX4_takeRing_1 : decode cX4_takeRing 1 = .ok (.getfield 172, 3) := by decide +kernel
theorem dX4_takeRing_4 : decode cX4_takeRing 4 = .ok (.bipush 7, 2) := by decide +kernel
theorem dX4_takeRing_6 : decode cX4_takeRing 6 = .ok (.if_icmp .lt 4, 3) := by decide +kernel
theorem dX4_takeRing_9 : decode cX4_takeRing 9 = .ok (.return_, 1) := by decide +kernel
theorem dX4_takeRing_10 : decode cX4_takeRing 10 = .ok (.aload_n 0, 1) := by decide +kernel
theorem dX4_takeRing_11 : decode cX4_takeRing 11 = .ok (.getfield 25, 3) := by decide +kernel
theorem dX4_takeRing_14 : decode cX4_takeRing 14 = .ok (.getfield 269, 3) := by decide +kernel
theorem dX4_takeRing_17 : decode cX4_takeRing 17 = .ok (.iload_n 1, 1) := by decide +kernel
theorem dX4_takeRing_18 : decode cX4_takeRing 18 = .ok (.iaload, 1) := by decide +kernel
theorem dX4_takeRing_19 : decode cX4_takeRing 19 = .ok (.invokestatic 121, 3) := by decide +kernel
theorem dX4_takeRing_22 : decode cX4_takeRing 22 = .ok (.istore_n 2, 1) := by decide +kernel
theorem dX4_takeRing_23 : decode cX4_takeRing 23 = .ok (.aload_n 0, 1) := by decide +kernel
theorem dX4_takeRing_24 : decode cX4_takeRing 24 = .ok (.getfield 25, 3) := by decide +kernel
theorem dX4_takeRing_27 : decode cX4_takeRing 27 = .ok (.getfield 275, 3) := by decide +kernel
theorem dX4_takeRing_30 : decode cX4_takeRing 30 = .ok (.iload_n 1, 1) := by decide +kernel
theorem dX4_takeRing_31 : decode cX4_takeRing 31 = .ok (.iaload, 1) := by decide +kernel
theorem dX4_takeRing_32 : decode cX4_takeRing 32 = .ok (.istore_n 3, 1) := by decide +kernel
theorem dX4_takeRing_33 : decode cX4_takeRing 33 = .ok (.aload_n 0, 1) := by decide +kernel
theorem dX4_takeRing_34 : decode cX4_takeRing 34 = .ok (.getfield 25, 3) := by decide +kernel
theorem dX4_takeRing_37 : decode cX4_takeRing 37 = .ok (.getfield 278, 3) := by decide +kernel
theorem dX4_takeRing_40 : decode cX4_takeRing 40 = .ok (.iload_n 1, 1) := by decide +kernel
theorem dX4_takeRing_41 : decode cX4_takeRing 41 = .ok (.iaload, 1) := by decide +kernel
theorem dX4_takeRing_42 : decode cX4_takeRing 42 = .ok (.istore 4, 2) := by decide +kernel
theorem dX4_takeRing_44 : decode cX4_takeRing 44 = .ok (.aload_n 0, 1) := by decide +kernel
theorem dX4_takeRing_45 : decode cX4_takeRing 45 = .ok (.getfield 18, 3) := by decide +kernel
theorem dX4_takeRing_48 : decode cX4_takeRing 48 = .ok (.iload_n 2, 1) := by decide +kernel
theorem dX4_takeRing_49 : decode cX4_takeRing 49 = .ok (.iload_n 3, 1) := by decide +kernel
theorem dX4_takeRing_50 : decode cX4_takeRing 50 = .ok (.iload 4, 2) := by decide +kernel
theorem dX4_takeRing_52 : decode cX4_takeRing 52 = .ok (.invokevirtual 129, 3) := by decide +kernel
theorem dX4_takeRing_55 : decode cX4_takeRing 55 = .ok (.istore 5, 2) := by decide +kernel
theorem dX4_takeRing_57 : decode cX4_takeRing 57 = .ok (.aload_n 0, 1) := by decide +kernel
theorem dX4_takeRing_58 : decode cX4_takeRing 58 = .ok (.getfield 172, 3) := by decide +kernel
theorem dX4_takeRing_61 : decode cX4_takeRing 61 = .ok (.bipush 6, 2) := by decide +kernel
theorem dX4_takeRing_63 : decode cX4_takeRing 63 = .ok (.imul, 1) := by decide +kernel
theorem dX4_takeRing_64 : decode cX4_takeRing 64 = .ok (.istore 6, 2) := by decide +kernel
theorem dX4_takeRing_66 : decode cX4_takeRing 66 = .ok (.aload_n 0, 1) := by decide +kernel
theorem dX4_takeRing_67 : decode cX4_takeRing 67 = .ok (.getfield 36, 3) := by decide +kernel
theorem dX4_takeRing_70 : decode cX4_takeRing 70 = .ok (.iload 6, 2) := by decide +kernel
theorem dX4_takeRing_72 : decode cX4_takeRing 72 = .ok (.iload_n 2, 1) := by decide +kernel
theorem dX4_takeRing_73 : decode cX4_takeRing 73 = .ok (.iastore, 1) := by decide +kernel
theorem dX4_takeRing_74 : decode cX4_takeRing 74 = .ok (.aload_n 0, 1) := by decide +kernel
theorem dX4_takeRing_75 : decode cX4_takeRing 75 = .ok (.getfield 36, 3) := by decide +kernel
theorem dX4_takeRing_78 : decode cX4_takeRing 78 = .ok (.iload 6, 2) := by decide +kernel
theorem dX4_takeRing_80 : decode cX4_takeRing 80 = .ok (.iconst 1, 1) := by decide +kernel
theorem dX4_takeRing_81 : decode cX4_takeRing 81 = .ok (.iadd, 1) := by decide +kernel
theorem dX4_takeRing_82 : decode cX4_takeRing 82 = .ok (.iload_n 3, 1) := by decide +kernel
theorem dX4_takeRing_83 : decode cX4_takeRing 83 = .ok (.iastore, 1) := by decide +kernel
theorem dX4_takeRing_84 : decode cX4_takeRing 84 = .ok (.aload_n 0, 1) := by decide +kernel
theorem dX4_takeRing_85 : decode cX4_takeRing 85 = .ok (.getfield 36, 3) := by decide +kernel
theorem dX4_takeRing_88 : decode cX4_takeRing 88 = .ok (.iload 6, 2) := by decide +kernel
theorem dX4_takeRing_90 : decode cX4_takeRing 90 = .ok (.iconst 2, 1) := by decide +kernel
theorem dX4_takeRing_91 : decode cX4_takeRing 91 = .ok (.iadd, 1) := by decide +kernel
theorem dX4_takeRing_92 : decode cX4_takeRing 92 = .ok (.iload 4, 2) := by decide +kernel
theorem dX4_takeRing_94 : decode cX4_takeRing 94 = .ok (.iastore, 1) := by decide +kernel
theorem dX4_takeRing_95 : decode cX4_takeRing 95 = .ok (.aload_n 0, 1) := by decide +kernel
theorem dX4_takeRing_96 : decode cX4_takeRing 96 = .ok (.getfield 36, 3) := by decide +kernel
theorem dX4_takeRing_99 : decode cX4_takeRing 99 = .ok (.iload 6, 2) := by decide +kernel
theorem dX4_takeRing_101 : decode cX4_takeRing 101 = .ok (.iconst 3, 1) := by decide +kernel
theorem dX4_takeRing_102 : decode cX4_takeRing 102 = .ok (.iadd, 1) := by decide +kernel
theorem dX4_takeRing_103 : decode cX4_takeRing 103 = .ok (.iload 5, 2) := by decide +kernel
theorem dX4_takeRing_105 : decode cX4_takeRing 105 = .ok (.iconst 0, 1) := by decide +kernel
theorem dX4_takeRing_106 : decode cX4_takeRing 106 = .ok (.invokestatic 133, 3) := by decide +kernel
theorem dX4_takeRing_109 : decode cX4_takeRing 109 = .ok (.iastore, 1) := by decide +kernel
theorem dX4_takeRing_110 : decode cX4_takeRing 110 = .ok (.aload_n 0, 1) := by decide +kernel
theorem dX4_takeRing_111 : decode cX4_takeRing 111 = .ok (.getfield 36, 3) := by decide +kernel
theorem dX4_takeRing_114 : decode cX4_takeRing 114 = .ok (.iload 6, 2) := by decide +kernel
theorem dX4_takeRing_116 : decode cX4_takeRing 116 = .ok (.iconst 4, 1) := by decide +kernel
theorem dX4_takeRing_117 : decode cX4_takeRing 117 = .ok (.iadd, 1) := by decide +kernel
theorem dX4_takeRing_118 : decode cX4_takeRing 118 = .ok (.iload 4, 2) := by decide +kernel
theorem dX4_takeRing_120 : decode cX4_takeRing 120 = .ok (.iconst (-1), 1) := by decide +kernel
theorem dX4_takeRing_121 : decode cX4_takeRing 121 = .ok (.if_icmp .ne 7, 3) := by decide +kernel
theorem dX4_takeRing_124 : decode cX4_takeRing 124 = .ok (.iconst (-1), 1) := by decide +kernel
theorem dX4_takeRing_125 : decode cX4_takeRing 125 = .ok (.goto 9, 3) := by decide +kernel
theorem dX4_takeRing_128 : decode cX4_takeRing 128 = .ok (.iload 5, 2) := by decide +kernel
theorem dX4_takeRing_130 : decode cX4_takeRing 130 = .ok (.iconst 1, 1) := by decide +kernel
theorem dX4_takeRing_131 : decode cX4_takeRing 131 = .ok (.invokestatic 133, 3) := by decide +kernel
theorem dX4_takeRing_134 : decode cX4_takeRing 134 = .ok (.iastore, 1) := by decide +kernel
theorem dX4_takeRing_135 : decode cX4_takeRing 135 = .ok (.aload_n 0, 1) := by decide +kernel
theorem dX4_takeRing_136 : decode cX4_takeRing 136 = .ok (.getfield 36, 3) := by decide +kernel
theorem dX4_takeRing_139 : decode cX4_takeRing 139 = .ok (.iload 6, 2) := by decide +kernel
theorem dX4_takeRing_141 : decode cX4_takeRing 141 = .ok (.iconst 5, 1) := by decide +kernel
theorem dX4_takeRing_142 : decode cX4_takeRing 142 = .ok (.iadd, 1) := by decide +kernel
theorem dX4_takeRing_143 : decode cX4_takeRing 143 = .ok (.iload 4, 2) := by decide +kernel
theorem dX4_takeRing_145 : decode cX4_takeRing 145 = .ok (.iconst (-1), 1) := by decide +kernel
theorem dX4_takeRing_146 : decode cX4_takeRing 146 = .ok (.if_icmp .ne 7, 3) := by decide +kernel
theorem dX4_takeRing_149 : decode cX4_takeRing 149 = .ok (.iconst (-1), 1) := by decide +kernel
theorem dX4_takeRing_150 : decode cX4_takeRing 150 = .ok (.goto 9, 3) := by decide +kernel
theorem dX4_takeRing_153 : decode cX4_takeRing 153 = .ok (.iload 5, 2) := by decide +kernel
theorem dX4_takeRing_155 : decode cX4_takeRing 155 = .ok (.iconst 2, 1) := by decide +kernel
theorem dX4_takeRing_156 : decode cX4_takeRing 156 = .ok (.invokestatic 133, 3) := by decide +kernel
theorem dX4_takeRing_159 : decode cX4_takeRing 159 = .ok (.iastore, 1) := by decide +kernel
theorem dX4_takeRing_160 : decode cX4_takeRing 160 = .ok (.aload_n 0, 1) := by decide +kernel
theorem dX4_takeRing_161 : decode cX4_takeRing 161 = .ok (.dup, 1) := by decide +kernel
theorem dX4_takeRing_162 : decode cX4_takeRing 162 = .ok (.getfield 172, 3) := by decide +kernel
theorem dX4_takeRing_165 : decode cX4_takeRing 165 = .ok (.iconst 1, 1) := by decide +kernel
theorem dX4_takeRing_166 : decode cX4_takeRing 166 = .ok (.iadd, 1) := by decide +kernel
theorem dX4_takeRing_167 : decode cX4_takeRing 167 = .ok (.putfield 172, 3) := by decide +kernel
theorem dX4_takeRing_170 : decode cX4_takeRing 170 = .ok (.return_, 1) := by decide +kernel
theorem dX4_membersOfTaken_0 : decode cX4_membersOfTaken 0 = .ok (.iconst 0, 1) := by decide +kernel
theorem dX4_membersOfTaken_1 : decode cX4_membersOfTaken 1 = .ok (.istore_n 2, 1) := by decide +kernel
theorem dX4_membersOfTaken_2 : decode cX4_membersOfTaken 2 = .ok (.iconst 0, 1) := by decide +kernel
theorem dX4_membersOfTaken_3 : decode cX4_membersOfTaken 3 = .ok (.istore_n 3, 1) := by decide +kernel
theorem dX4_membersOfTaken_4 : decode cX4_membersOfTaken 4 = .ok (.iload_n 3, 1) := by decide +kernel
theorem dX4_membersOfTaken_5 : decode cX4_membersOfTaken 5 = .ok (.iconst 3, 1) := by decide +kernel
theorem dX4_membersOfTaken_6 : decode cX4_membersOfTaken 6 = .ok (.if_icmp .ge 35, 3) := by decide +kernel
theorem dX4_membersOfTaken_9 : decode cX4_membersOfTaken 9 = .ok (.aload_n 0, 1) := by decide +kernel
theorem dX4_membersOfTaken_10 : decode cX4_membersOfTaken 10 = .ok (.getfield 36, 3) := by decide +kernel
theorem dX4_membersOfTaken_13 : decode cX4_membersOfTaken 13 = .ok (.iload_n 1, 1) := by decide +kernel
theorem dX4_membersOfTaken_14 : decode cX4_membersOfTaken 14 = .ok (.bipush 6, 2) := by decide +kernel
theorem dX4_membersOfTaken_16 : decode cX4_membersOfTaken 16 = .ok (.imul, 1) := by decide +kernel
theorem dX4_membersOfTaken_17 : decode cX4_membersOfTaken 17 = .ok (.iload_n 3, 1) := by decide +kernel
theorem dX4_membersOfTaken_18 : decode cX4_membersOfTaken 18 = .ok (.iadd, 1) := by decide +kernel
theorem dX4_membersOfTaken_19 : decode cX4_membersOfTaken 19 = .ok (.iaload, 1) := by decide +kernel
theorem dX4_membersOfTaken_20 : decode cX4_membersOfTaken 20 = .ok (.istore 4, 2) := by decide +kernel
theorem dX4_membersOfTaken_22 : decode cX4_membersOfTaken 22 = .ok (.iload 4, 2) := by decide +kernel
theorem dX4_membersOfTaken_24 : decode cX4_membersOfTaken 24 = .ok (.iconst (-1), 1) := by decide +kernel
theorem dX4_membersOfTaken_25 : decode cX4_membersOfTaken 25 = .ok (.if_icmp .eq 10, 3) := by decide +kernel
theorem dX4_membersOfTaken_28 : decode cX4_membersOfTaken 28 = .ok (.iload_n 2, 1) := by decide +kernel
theorem dX4_membersOfTaken_29 : decode cX4_membersOfTaken 29 = .ok (.iconst 1, 1) := by decide +kernel
theorem dX4_membersOfTaken_30 : decode cX4_membersOfTaken 30 = .ok (.iload 4, 2) := by decide +kernel
theorem dX4_membersOfTaken_32 : decode cX4_membersOfTaken 32 = .ok (.ishl, 1) := by decide +kernel
theorem dX4_membersOfTaken_33 : decode cX4_membersOfTaken 33 = .ok (.ior, 1) := by decide +kernel
theorem dX4_membersOfTaken_34 : decode cX4_membersOfTaken 34 = .ok (.istore_n 2, 1) := by decide +kernel
theorem dX4_membersOfTaken_35 : decode cX4_membersOfTaken 35 = .ok (.iinc 3 1, 3) := by decide +kernel
theorem dX4_membersOfTaken_38 : decode cX4_membersOfTaken 38 = .ok (.goto (-34), 3) := by decide +kernel
theorem dX4_membersOfTaken_41 : decode cX4_membersOfTaken 41 = .ok (.iload_n 2, 1) := by decide +kernel
theorem dX4_membersOfTaken_42 : decode cX4_membersOfTaken 42 = .ok (.ireturn, 1) := by decide +kernel
set_option maxRecDepth 20000 in
theorem ggX4_noteWeek_X4_find : GoodIn wsX4_noteWeek wsX4_find := goodIn_ca (goodIn_r _ [7, 8, 9, 1, 10, 26, 27, 28, 29, 30, 31, 32, 33, 34, 35] (by decide +kernel) (by decide +kernel)) (goodIn_sub (fun _ h => List.mem_cons_of_mem _ (List.mem_append_right _ h)) (by decide +kernel))
set_option maxRecDepth 20000 in
theorem gX4_noteWeek_X4_find : GoodIn wsX4_noteWeek (wsV RX4 48 RX4 yX4_find wsX4_find) := goodIn_app (goodIn_of _ (by decide +kernel)) ggX4_noteWeek_X4_find
set_option maxRecDepth 20000 in
theorem ggX4_noteWeek_X0_waitLonger : GoodIn wsX4_noteWeek wsX0_waitLonger := goodIn_r _ [15, 16, 17, 18, 19, 20, 36, 37, 38, 39, 40, 41, 42, 43, 44, 45, 46, 47, 48, 49, 50] (by decide +kernel) (by decide +kernel)
set_option maxRecDepth 20000 in
theorem gX4_noteWeek_X0_waitLonger : GoodIn wsX4_noteWeek (wsV RX4 186 RX0 yX0_waitLonger wsX0_waitLonger) := goodIn_app (goodIn_of _ (by decide +kernel)) ggX4_noteWeek_X0_waitLonger
set_option maxRecDepth 20000 in
theorem ggX4_noteWeek_X4_membersOfTaken : GoodIn wsX4_noteWeek wsX4_membersOfTaken := goodIn_r _ [24, 25, 26, 27, 28, 29, 30, 31, 32, 33, 34, 35] (by decide +kernel) (by decide +kernel)
set_option maxRecDepth 20000 in
theorem gX4_noteWeek_X4_membersOfTaken : GoodIn wsX4_noteWeek (wsV RX4 272 RX4 yX4_membersOfTaken wsX4_membersOfTaken) := goodIn_app (goodIn_of _ (by decide +kernel)) ggX4_noteWeek_X4_membersOfTaken
theorem dX4_noteWeek_0 : decode cX4_noteWeek 0 = .ok (.iconst 0, 1) := by decide +kernel
theorem dX4_noteWeek_1 : decode cX4_noteWeek 1 = .ok (.istore_n 2, 1) := by decide +kernel
theorem dX4_noteWeek_2 : decode cX4_noteWeek 2 = .ok (.iload_n 2, 1) := by decide +kernel
theorem dX4_noteWeek_3 : decode cX4_noteWeek 3 = .ok (.aload_n 0, 1) := by decide +kernel
theorem dX4_noteWeek_4 : decode cX4_noteWeek 4 = .ok (.getfield 40, 3) := by decide +kernel
theorem dX4_noteWeek_7 : decode cX4_noteWeek 7 = .ok (.if_icmp .ge 46, 3) := by decide +kernel
theorem dX4_noteWeek_10 : decode cX4_noteWeek 10 = .ok (.aload_n 0, 1) := by decide +kernel
theorem dX4_noteWeek_11 : decode cX4_noteWeek 11 = .ok (.iload_n 2, 1) := by decide +kernel
theorem dX4_noteWeek_12 : decode cX4_noteWeek 12 = .ok (.invokevirtual 48, 3) := by decide +kernel
theorem dX4_noteWeek_15 : decode cX4_noteWeek 15 = .ok (.astore_n 3, 1) := by decide +kernel
theorem dX4_noteWeek_16 : decode cX4_noteWeek 16 = .ok (.aload_n 3, 1) := by decide +kernel
theorem dX4_noteWeek_17 : decode cX4_noteWeek 17 = .ok (.iconst 0, 1) := by decide +kernel
theorem dX4_noteWeek_18 : decode cX4_noteWeek 18 = .ok (.putfield 179, 3) := by decide +kernel
theorem dX4_noteWeek_21 : decode cX4_noteWeek 21 = .ok (.aload_n 3, 1) := by decide +kernel
theorem dX4_noteWeek_22 : decode cX4_noteWeek 22 = .ok (.iconst 0, 1) := by decide +kernel
theorem dX4_noteWeek_23 : decode cX4_noteWeek 23 = .ok (.putfield 182, 3) := by decide +kernel
theorem dX4_noteWeek_26 : decode cX4_noteWeek 26 = .ok (.iload_n 1, 1) := by decide +kernel
theorem dX4_noteWeek_27 : decode cX4_noteWeek 27 = .ok (.iload_n 2, 1) := by decide +kernel
theorem dX4_noteWeek_28 : decode cX4_noteWeek 28 = .ok (.ishr, 1) := by decide +kernel
theorem dX4_noteWeek_29 : decode cX4_noteWeek 29 = .ok (.iconst 1, 1) := by decide +kernel
theorem dX4_noteWeek_30 : decode cX4_noteWeek 30 = .ok (.iand, 1) := by decide +kernel
theorem dX4_noteWeek_31 : decode cX4_noteWeek 31 = .ok (.ifCond .eq 11, 3) := by decide +kernel
theorem dX4_noteWeek_34 : decode cX4_noteWeek 34 = .ok (.aload_n 3, 1) := by decide +kernel
theorem dX4_noteWeek_35 : decode cX4_noteWeek 35 = .ok (.iconst 0, 1) := by decide +kernel
theorem dX4_noteWeek_36 : decode cX4_noteWeek 36 = .ok (.putfield 139, 3) := by decide +kernel
theorem dX4_noteWeek_39 : decode cX4_noteWeek 39 = .ok (.goto 8, 3) := by decide +kernel
theorem dX4_noteWeek_42 : decode cX4_noteWeek 42 = .ok (.aload_n 3, 1) := by decide +kernel
theorem dX4_noteWeek_43 : decode cX4_noteWeek 43 = .ok (.iconst 1, 1) := by decide +kernel
theorem dX4_noteWeek_44 : decode cX4_noteWeek 44 = .ok (.invokevirtual 186, 3) := by decide +kernel
theorem dX4_noteWeek_47 : decode cX4_noteWeek 47 = .ok (.iinc 2 1, 3) := by decide +kernel
theorem dX4_noteWeek_50 : decode cX4_noteWeek 50 = .ok (.goto (-48), 3) := by decide +kernel
theorem dX4_noteWeek_53 : decode cX4_noteWeek 53 = .ok (.iconst 0, 1) := by decide +kernel
theorem dX4_noteWeek_54 : decode cX4_noteWeek 54 = .ok (.istore_n 2, 1) := by decide +kernel
theorem dX4_noteWeek_55 : decode cX4_noteWeek 55 = .ok (.iload_n 2, 1) := by decide +kernel
theorem dX4_noteWeek_56 : decode cX4_noteWeek 56 = .ok (.aload_n 0, 1) := by decide +kernel
theorem dX4_noteWeek_57 : decode cX4_noteWeek 57 = .ok (.getfield 172, 3) := by decide +kernel
theorem dX4_noteWeek_60 : decode cX4_noteWeek 60 = .ok (.if_icmp .ge 59, 3) := by decide +kernel
theorem dX4_noteWeek_63 : decode cX4_noteWeek 63 = .ok (.aload_n 0, 1) := by decide +kernel
theorem dX4_noteWeek_64 : decode cX4_noteWeek 64 = .ok (.iload_n 2, 1) := by decide +kernel
theorem dX4_noteWeek_65 : decode cX4_noteWeek 65 = .ok (.invokevirtual 272, 3) := by decide +kernel
theorem dX4_noteWeek_68 : decode cX4_noteWeek 68 = .ok (.istore_n 3, 1) := by decide +kernel
theorem dX4_noteWeek_69 : decode cX4_noteWeek 69 = .ok (.iconst 0, 1) := by decide +kernel
theorem dX4_noteWeek_70 : decode cX4_noteWeek 70 = .ok (.istore 4, 2) := by decide +kernel
theorem dX4_noteWeek_72 : decode cX4_noteWeek 72 = .ok (.iload 4, 2) := by decide +kernel
theorem dX4_noteWeek_74 : decode cX4_noteWeek 74 = .ok (.aload_n 0, 1) := by decide +kernel
theorem dX4_noteWeek_75 : decode cX4_noteWeek 75 = .ok (.getfield 40, 3) := by decide +kernel
theorem dX4_noteWeek_78 : decode cX4_noteWeek 78 = .ok (.if_icmp .ge 35, 3) := by decide +kernel
theorem dX4_noteWeek_81 : decode cX4_noteWeek 81 = .ok (.iload_n 3, 1) := by decide +kernel
theorem dX4_noteWeek_82 : decode cX4_noteWeek 82 = .ok (.iload 4, 2) := by decide +kernel
theorem dX4_noteWeek_84 : decode cX4_noteWeek 84 = .ok (.ishr, 1) := by decide +kernel
theorem dX4_noteWeek_85 : decode cX4_noteWeek 85 = .ok (.iconst 1, 1) := by decide +kernel
theorem dX4_noteWeek_86 : decode cX4_noteWeek 86 = .ok (.iand, 1) := by decide +kernel
theorem dX4_noteWeek_87 : decode cX4_noteWeek 87 = .ok (.ifCond .eq 20, 3) := by decide +kernel
theorem dX4_noteWeek_90 : decode cX4_noteWeek 90 = .ok (.aload_n 0, 1) := by decide +kernel
theorem dX4_noteWeek_91 : decode cX4_noteWeek 91 = .ok (.iload 4, 2) := by decide +kernel
theorem dX4_noteWeek_93 : decode cX4_noteWeek 93 = .ok (.invokevirtual 48, 3) := by decide +kernel
theorem dX4_noteWeek_96 : decode cX4_noteWeek 96 = .ok (.iload_n 3, 1) := by decide +kernel
theorem dX4_noteWeek_97 : decode cX4_noteWeek 97 = .ok (.iconst 1, 1) := by decide +kernel
theorem dX4_noteWeek_98 : decode cX4_noteWeek 98 = .ok (.iload 4, 2) := by decide +kernel
theorem dX4_noteWeek_100 : decode cX4_noteWeek 100 = .ok (.ishl, 1) := by decide +kernel
theorem dX4_noteWeek_101 : decode cX4_noteWeek 101 = .ok (.iconst (-1), 1) := by decide +kernel
theorem dX4_noteWeek_102 : decode cX4_noteWeek 102 = .ok (.ixor, 1) := by decide +kernel
theorem dX4_noteWeek_103 : decode cX4_noteWeek 103 = .ok (.iand, 1) := by decide +kernel
theorem dX4_noteWeek_104 : decode cX4_noteWeek 104 = .ok (.putfield 179, 3) := by decide +kernel
theorem dX4_noteWeek_107 : decode cX4_noteWeek 107 = .ok (.iinc 4 1, 3) := by decide +kernel
theorem dX4_noteWeek_110 : decode cX4_noteWeek 110 = .ok (.goto (-38), 3) := by decide +kernel
theorem dX4_noteWeek_113 : decode cX4_noteWeek 113 = .ok (.iinc 2 1, 3) := by decide +kernel
theorem dX4_noteWeek_116 : decode cX4_noteWeek 116 = .ok (.goto (-61), 3) := by decide +kernel
theorem dX4_noteWeek_119 : decode cX4_noteWeek 119 = .ok (.return_, 1) := by decide +kernel
theorem dX5_init_0 : decode cX5_init 0 = .ok (.aload_n 0, 1) := by decide +kernel
theorem dX5_init_1 : decode cX5_init 1 = .ok (.invokespecial 1, 3) := by decide +kernel
theorem dX5_init_4 : decode cX5_init 4 = .ok (.aload_n 0, 1) := by decide +kernel
theorem dX5_init_5 : decode cX5_init 5 = .ok (.bipush 14, 2) := by decide +kernel
theorem dX5_init_7 : decode cX5_init 7 = .ok (.newarray .int, 2) := by decide +kernel
theorem dX5_init_9 : decode cX5_init 9 = .ok (.putfield 7, 3) := by decide +kernel
theorem dX5_init_12 : decode cX5_init 12 = .ok (.aload_n 0, 1) := by decide +kernel
theorem dX5_init_13 : decode cX5_init 13 = .ok (.bipush 112, 2) := by decide +kernel
theorem dX5_init_15 : decode cX5_init 15 = .ok (.newarray .int, 2) := by decide +kernel
theorem dX5_init_17 : decode cX5_init 17 = .ok (.putfield 13, 3) := by decide +kernel
theorem dX5_init_20 : decode cX5_init 20 = .ok (.aload_n 0, 1) := by decide +kernel
theorem dX5_init_21 : decode cX5_init 21 = .ok (.bipush 112, 2) := by decide +kernel
theorem dX5_init_23 : decode cX5_init 23 = .ok (.newarray .int, 2) := by decide +kernel
theorem dX5_init_25 : decode cX5_init 25 = .ok (.putfield 16, 3) := by decide +kernel
theorem dX5_init_28 : decode cX5_init 28 = .ok (.aload_n 0, 1) := by decide +kernel
theorem dX5_init_29 : decode cX5_init 29 = .ok (.bipush 112, 2) := by decide +kernel
theorem dX5_init_31 : decode cX5_init 31 = .ok (.newarray .int, 2) := by decide +kernel
theorem dX5_init_33 : decode cX5_init 33 = .ok (.putfield 19, 3) := by decide +kernel
theorem dX5_init_36 : decode cX5_init 36 = .ok (.aload_n 0, 1) := by decide +kernel
theorem dX5_init_37 : decode cX5_init 37 = .ok (.bipush 112, 2) := by decide +kernel
theorem dX5_init_39 : decode cX5_init 39 = .ok (.newarray .int, 2) := by decide +kernel
theorem dX5_init_41 : decode cX5_init 41 = .ok (.putfield 22, 3) := by decide +kernel
theorem dX5_init_44 : decode cX5_init 44 = .ok (.aload_n 0, 1) := by decide +kernel
theorem dX5_init_45 : decode cX5_init 45 = .ok (.bipush 112, 2) := by decide +kernel
theorem dX5_init_47 : decode cX5_init 47 = .ok (.newarray .int, 2) := by decide +kernel
theorem dX5_init_49 : decode cX5_init 49 = .ok (.putfield 25, 3) := by decide +kernel
theorem dX5_init_52 : decode cX5_init 52 = .ok (.aload_n 0, 1) := by decide +kernel
theorem dX5_init_53 : decode cX5_init 53 = .ok (.bipush 28, 2) := by decide +kernel
theorem dX5_init_55 : decode cX5_init 55 = .ok (.newarray .int, 2) := by decide +kernel
theorem dX5_init_57 : decode cX5_init 57 = .ok (.putfield 28, 3) := by decide +kernel
theorem dX5_init_60 : decode cX5_init 60 = .ok (.aload_n 0, 1) := by decide +kernel
theorem dX5_init_61 : decode cX5_init 61 = .ok (.bipush 14, 2) := by decide +kernel
theorem dX5_init_63 : decode cX5_init 63 = .ok (.newarray .int, 2) := by decide +kernel
theorem dX5_init_65 : decode cX5_init 65 = .ok (.putfield 31, 3) := by decide +kernel
theorem dX5_init_68 : decode cX5_init 68 = .ok (.aload_n 0, 1) := by decide +kernel
theorem dX5_init_69 : decode cX5_init 69 = .ok (.bipush 14, 2) := by decide +kernel
theorem dX5_init_71 : decode cX5_init 71 = .ok (.newarray .int, 2) := by decide +kernel
theorem dX5_init_73 : decode cX5_init 73 = .ok (.putfield 34, 3) := by decide +kernel
theorem dX5_init_76 : decode cX5_init 76 = .ok (.aload_n 0, 1) := by decide +kernel
theorem dX5_init_77 : decode cX5_init 77 = .ok (.bipush 14, 2) := by decide +kernel
theorem dX5_init_79 : decode cX5_init 79 = .ok (.newarray .int, 2) := by decide +kernel
theorem dX5_init_81 : decode cX5_init 81 = .ok (.putfield 37, 3) := by decide +kernel
theorem dX5_init_84 : decode cX5_init 84 = .ok (.aload_n 0, 1) := by decide +kernel
theorem dX5_init_85 : decode cX5_init 85 = .ok (.bipush 21, 2) := by decide +kernel
theorem dX5_init_87 : decode cX5_init 87 = .ok (.newarray .int, 2) := by decide +kernel
theorem dX5_init_89 : decode cX5_init 89 = .ok (.putfield 40, 3) := by decide +kernel
theorem dX5_init_92 : decode cX5_init 92 = .ok (.aload_n 0, 1) := by decide +kernel
theorem dX5_init_93 : decode cX5_init 93 = .ok (.bipush 21, 2) := by decide +kernel
theorem dX5_init_95 : decode cX5_init 95 = .ok (.newarray .int, 2) := by decide +kernel
theorem dX5_init_97 : decode cX5_init 97 = .ok (.putfield 43, 3) := by decide +kernel
theorem dX5_init_100 : decode cX5_init 100 = .ok (.aload_n 0, 1) := by decide +kernel
theorem dX5_init_101 : decode cX5_init 101 = .ok (.bipush 14, 2) := by decide +kernel
theorem dX5_init_103 : decode cX5_init 103 = .ok (.newarray .boolean, 2) := by decide +kernel
theorem dX5_init_105 : decode cX5_init 105 = .ok (.putfield 46, 3) := by decide +kernel
theorem dX5_init_108 : decode cX5_init 108 = .ok (.aload_n 0, 1) := by decide +kernel
theorem dX5_init_109 : decode cX5_init 109 = .ok (.bipush 14, 2) := by decide +kernel
theorem dX5_init_111 : decode cX5_init 111 = .ok (.newarray .int, 2) := by decide +kernel
theorem dX5_init_113 : decode cX5_init 113 = .ok (.putfield 50, 3) := by decide +kernel
theorem dX5_init_116 : decode cX5_init 116 = .ok (.aload_n 0, 1) := by decide +kernel
theorem dX5_init_117 : decode cX5_init 117 = .ok (.sipush 560, 3) := by decide +kernel
theorem dX5_init_120 : decode cX5_init 120 = .ok (.newarray .int, 2) := by decide +kernel
theorem dX5_init_122 : decode cX5_init 122 = .ok (.putfield 53, 3) := by decide +kernel
theorem dX5_init_125 : decode cX5_init 125 = .ok (.aload_n 0, 1) := by decide +kernel
theorem dX5_init_126 : decode cX5_init 126 = .ok (.sipush 560, 3) := by decide +kernel
theorem dX5_init_129 : decode cX5_init 129 = .ok (.newarray .int, 2) := by decide +kernel
theorem dX5_init_131 : decode cX5_init 131 = .ok (.putfield 56, 3) := by decide +kernel
theorem dX5_init_134 : decode cX5_init 134 = .ok (.aload_n 0, 1) := by decide +kernel
theorem dX5_init_135 : decode cX5_init 135 = .ok (.bipush 80, 2) := by decide +kernel
theorem dX5_init_137 : decode cX5_init 137 = .ok (.newarray .int, 2) := by decide +kernel
theorem dX5_init_139 : decode cX5_init 139 = .ok (.putfield 59, 3) := by decide +kernel
theorem dX5_init_142 : decode cX5_init 142 = .ok (.aload_n 0, 1) := by decide +kernel
theorem dX5_init_143 : decode cX5_init 143 = .ok (.bipush 80, 2) := by decide +kernel
theorem dX5_init_145 : decode cX5_init 145 = .ok (.newarray .int, 2) := by decide +kernel
theorem dX5_init_147 : decode cX5_init 147 = .ok (.putfield 62, 3) := by decide +kernel
theorem dX5_init_150 : decode cX5_init 150 = .ok (.aload_n 0, 1) := by decide +kernel
theorem dX5_init_151 : decode cX5_init 151 = .ok (.iconst 3, 1) := by decide +kernel
theorem dX5_init_152 : decode cX5_init 152 = .ok (.newarray .int, 2) := by decide +kernel
theorem dX5_init_154 : decode cX5_init 154 = .ok (.putfield 65, 3) := by decide +kernel
theorem dX5_init_157 : decode cX5_init 157 = .ok (.aload_n 0, 1) := by decide +kernel
theorem dX5_init_158 : decode cX5_init 158 = .ok (.sipush 2460, 3) := by decide +kernel
theorem dX5_init_161 : decode cX5_init 161 = .ok (.newarray .int, 2) := by decide +kernel
theorem dX5_init_163 : decode cX5_init 163 = .ok (.putfield 68, 3) := by decide +kernel
theorem dX5_init_166 : decode cX5_init 166 = .ok (.aload_n 0, 1) := by decide +kernel
theorem dX5_init_167 : decode cX5_init 167 = .ok (.sipush 820, 3) := by decide +kernel
theorem dX5_init_170 : decode cX5_init 170 = .ok (.newarray .int, 2) := by decide +kernel
theorem dX5_init_172 : decode cX5_init 172 = .ok (.putfield 71, 3) := by decide +kernel
theorem dX5_init_175 : decode cX5_init 175 = .ok (.aload_n 0, 1) := by decide +kernel
theorem dX5_init_176 : decode cX5_init 176 = .ok (.sipush 820, 3) := by decide +kernel
theorem dX5_init_179 : decode cX5_init 179 = .ok (.newarray .int, 2) := by decide +kernel
theorem dX5_init_181 : decode cX5_init 181 = .ok (.putfield 74, 3) := by decide +kernel
theorem dX5_init_184 : decode cX5_init 184 = .ok (.aload_n 0, 1) := by decide +kernel
theorem dX5_init_185 : decode cX5_init 185 = .ok (.bipush 15, 2) := by decide +kernel
theorem dX5_init_187 : decode cX5_init 187 = .ok (.newarray .int, 2) := by decide +kernel
theorem dX5_init_189 : decode cX5_init 189 = .ok (.putfield 77, 3) := by decide +kernel
theorem dX5_init_192 : decode cX5_init 192 = .ok (.aload_n 0, 1) := by decide +kernel
theorem dX5_init_193 : decode cX5_init 193 = .ok (.sipush 16384, 3) := by decide +kernel
theorem dX5_init_196 : decode cX5_init 196 = .ok (.newarray .int, 2) := by decide +kernel
theorem dX5_init_198 : decode cX5_init 198 = .ok (.putfield 80, 3) := by decide +kernel
theorem dX5_init_201 : decode cX5_init 201 = .ok (.aload_n 0, 1) := by decide +kernel
theorem dX5_init_202 : decode cX5_init 202 = .ok (.sipush 16384, 3) := by decide +kernel
theorem dX5_init_205 : decode cX5_init 205 = .ok (.newarray .int, 2) := by decide +kernel
theorem dX5_init_207 : decode cX5_init 207 = .ok (.putfield 83, 3) := by decide +kernel
theorem dX5_init_210 : decode cX5_init 210 = .ok (.aload_n 0, 1) := by decide +kernel
theorem dX5_init_211 : decode cX5_init 211 = .ok (.sipush 1681, 3) := by decide +kernel
theorem dX5_init_214 : decode cX5_init 214 = .ok (.newarray .int, 2) := by decide +kernel
theorem dX5_init_216 : decode cX5_init 216 = .ok (.putfield 86, 3) := by decide +kernel
theorem dX5_init_219 : decode cX5_init 219 = .ok (.return_, 1) := by decide +kernel
theorem dX5_thrown_0 : decode cX5_thrown 0 = .ok (.aload_n 0, 1) := by decide +kernel
theorem dX5_thrown_1 : decode cX5_thrown 1 = .ok (.getfield 89, 3) := by decide +kernel
theorem dX5_thrown_4 : decode cX5_thrown 4 = .ok (.ireturn, 1) := by decide +kernel
theorem dX5_right_0 : decode cX5_right 0 = .ok (.aload_n 0, 1) := by decide +kernel
theorem dX5_right_1 : decode cX5_right 1 = .ok (.getfield 89, 3) := by decide +kernel
theorem dX5_right_4 : decode cX5_right 4 = .ok (.ifCond .ne 12, 3) := by decide +kernel
theorem dX5_right_7 : decode cX5_right 7 = .ok (.iload_n 1, 1) := by decide +kernel
theorem dX5_right_8 : decode cX5_right 8 = .ok (.ifCond .ne 8, 3) := by decide +kernel
theorem dX5_right_11 : decode cX5_right 11 = .ok (.aload_n 0, 1) := by decide +kernel
theorem dX5_right_12 : decode cX5_right 12 = .ok (.iload_n 2, 1) := by decide +kernel
theorem dX5_right_13 : decode cX5_right 13 = .ok (.putfield 89, 3) := by decide +kernel
theorem dX5_right_16 : decode cX5_right 16 = .ok (.aload_n 0, 1) := by decide +kernel
theorem dX5_right_17 : decode cX5_right 17 = .ok (.getfield 89, 3) := by decide +kernel
theorem dX5_right_20 : decode cX5_right 20 = .ok (.ifCond .ne 7, 3) := by decide +kernel
theorem dX5_right_23 : decode cX5_right 23 = .ok (.iconst 1, 1) := by decide +kernel
theorem dX5_right_24 : decode cX5_right 24 = .ok (.goto 4, 3) := by decide +kernel
theorem dX5_right_27 : decode cX5_right 27 = .ok (.iconst 0, 1) := by decide +kernel
theorem dX5_right_28 : decode cX5_right 28 = .ok (.ireturn, 1) := by decide +kernel
set_option maxRecDepth 20000 in
theorem ggX5_isLearner_X5_right : GoodIn wsX5_isLearner wsX5_right := goodIn_r _ [7, 1, 8, 9, 10, 11, 12, 13, 14, 15, 16, 17, 18, 19, 20, 21, 22, 23, 24, 25, 26, 27, 28, 29, 30, 31, 32, 33, 34, 35, 36, 37, 38, 39, 40, 41, 42] (by decide +kernel) (by decide +kernel)
set_option maxRecDepth 20000 in
theorem gX5_isLearner_X5_right : GoodIn wsX5_isLearner (wsV RX5 96 RX5 yX5_right wsX5_right) := goodIn_app (goodIn_of _ (by decide +kernel)) ggX5_isLearner_X5_right
theorem dX5_isLearner_0 : decode cX5_isLearner 0 = .ok (.aload_n 0, 1) := by decide +kernel
theorem dX5_isLearner_1 : decode cX5_isLearner 1 = .ok (.iconst 0, 1) := by decide +kernel
theorem dX5_isLearner_2 : decode cX5_isLearner 2 = .ok (.putfield 89, 3) := by decide +kernel
theorem dX5_isLearner_5 : decode cX5_isLearner 5 = .ok (.aload_n 0, 1) := by decide +kernel
theorem dX5_isLearner_6 : decode cX5_isLearner 6 = .ok (.iload_n 1, 1) := by decide +kernel
theorem dX5_isLearner_7 : decode cX5_isLearner 7 = .ok (.ifCond .lt 15, 3) := by decide +kernel
theorem dX5_isLearner_10 : decode cX5_isLearner 10 = .ok (.iload_n 1, 1) := by decide +kernel
theorem dX5_isLearner_11 : decode cX5_isLearner 11 = .ok (.aload_n 0, 1) := by decide +kernel
theorem dX5_isLearner_12 : decode cX5_isLearner 12 = .ok (.getfield 93, 3) := by decide +kernel
theorem dX5_isLearner_15 : decode cX5_isLearner 15 = .ok (.if_icmp .ge 7, 3) := by decide +kernel
theorem dX5_isLearner_18 : decode cX5_isLearner 18 = .ok (.iconst 1, 1) := by decide +kernel
theorem dX5_isLearner_19 : decode cX5_isLearner 19 = .ok (.goto 4, 3) := by decide +kernel
theorem dX5_isLearner_22 : decode cX5_isLearner 22 = .ok (.iconst 0, 1) := by decide +kernel
theorem dX5_isLearner_23 : decode cX5_isLearner 23 = .ok (.iconst 1, 1) := by decide +kernel
theorem dX5_isLearner_24 : decode cX5_isLearner 24 = .ok (.invokevirtual 96, 3) := by decide +kernel
theorem dX5_isLearner_27 : decode cX5_isLearner 27 = .ok (.ireturn, 1) := by decide +kernel
set_option maxRecDepth 20000 in
theorem ggX5_areTwo_X5_isLearner : GoodIn wsX5_areTwo wsX5_isLearner := goodIn_r _ [6, 7, 1, 8, 9, 10, 5, 11, 12, 13, 14, 15, 16, 17, 18, 19, 20, 21, 22, 23, 24, 25, 26, 27, 28, 29, 30, 31, 32, 33, 34, 35, 36, 37, 38, 39, 40, 41, 42, 43, 44, 45, 46] (by decide +kernel) (by decide +kernel)
set_option maxRecDepth 20000 in
theorem gX5_areTwo_X5_isLearner : GoodIn wsX5_areTwo (wsV RX5 100 RX5 yX5_isLearner wsX5_isLearner) := goodIn_app (goodIn_of _ (by decide +kernel)) ggX5_areTwo_X5_isLearner
set_option maxRecDepth 20000 in
theorem ggX5_areTwo_X5_right : GoodIn wsX5_areTwo wsX5_right := goodIn_r _ [11, 7, 12, 13, 14, 15, 16, 17, 18, 19, 20, 21, 22, 23, 24, 25, 26, 27, 28, 29, 30, 31, 32, 33, 34, 35, 36, 37, 38, 39, 40, 41, 42, 43, 44, 45, 46] (by decide +kernel) (by decide +kernel)
set_option maxRecDepth 20000 in
theorem gX5_areTwo_X5_right : GoodIn wsX5_areTwo (wsV RX5 96 RX5 yX5_right wsX5_right) := goodIn_app (goodIn_of _ (by decide +kernel)) ggX5_areTwo_X5_right
theorem dX5_areTwo_0 : decode cX5_areTwo 0 = .ok (.aload_n 0, 1) := by decide +kernel
theorem dX5_areTwo_1 : decode cX5_areTwo 1 = .ok (.iload_n 1, 1) := by decide +kernel
theorem dX5_areTwo_2 : decode cX5_areTwo 2 = .ok (.invokevirtual 100, 3) := by decide +kernel
theorem dX5_areTwo_5 : decode cX5_areTwo 5 = .ok (.ifCond .eq 37, 3) := by decide +kernel
theorem dX5_areTwo_8 : decode cX5_areTwo 8 = .ok (.aload_n 0, 1) := by decide +kernel
theorem dX5_areTwo_9 : decode cX5_areTwo 9 = .ok (.iload_n 2, 1) := by decide +kernel
theorem dX5_areTwo_10 : decode cX5_areTwo 10 = .ok (.ifCond .lt 20, 3) := by decide +kernel
theorem dX5_areTwo_13 : decode cX5_areTwo 13 = .ok (.iload_n 2, 1) := by decide +kernel
theorem dX5_areTwo_14 : decode cX5_areTwo 14 = .ok (.aload_n 0, 1) := by decide +kernel
theorem dX5_areTwo_15 : decode cX5_areTwo 15 = .ok (.getfield 93, 3) := by decide +kernel
theorem dX5_areTwo_18 : decode cX5_areTwo 18 = .ok (.if_icmp .ge 12, 3) := by decide +kernel
theorem dX5_areTwo_21 : decode cX5_areTwo 21 = .ok (.iload_n 1, 1) := by decide +kernel
theorem dX5_areTwo_22 : decode cX5_areTwo 22 = .ok (.iload_n 2, 1) := by decide +kernel
theorem dX5_areTwo_23 : decode cX5_areTwo 23 = .ok (.if_icmp .eq 7, 3) := by decide +kernel
theorem dX5_areTwo_26 : decode cX5_areTwo 26 = .ok (.iconst 1, 1) := by decide +kernel
theorem dX5_areTwo_27 : decode cX5_areTwo 27 = .ok (.goto 4, 3) := by decide +kernel
theorem dX5_areTwo_30 : decode cX5_areTwo 30 = .ok (.iconst 0, 1) := by decide +kernel
theorem dX5_areTwo_31 : decode cX5_areTwo 31 = .ok (.iconst 1, 1) := by decide +kernel
theorem dX5_areTwo_32 : decode cX5_areTwo 32 = .ok (.invokevirtual 96, 3) := by decide +kernel
theorem dX5_areTwo_35 : decode cX5_areTwo 35 = .ok (.ifCond .eq 7, 3) := by decide +kernel
theorem dX5_areTwo_38 : decode cX5_areTwo 38 = .ok (.iconst 1, 1) := by decide +kernel
theorem dX5_areTwo_39 : decode cX5_areTwo 39 = .ok (.goto 4, 3) := by decide +kernel
theorem dX5_areTwo_42 : decode cX5_areTwo 42 = .ok (.iconst 0, 1) := by decide +kernel
theorem dX5_areTwo_43 : decode cX5_areTwo 43 = .ok (.ireturn, 1) := by decide +kernel
set_option maxRecDepth 20000 in
theorem ggX5_isTongue_X5_isLearner : GoodIn wsX5_isTongue wsX5_isLearner := goodIn_r _ [5, 6, 7, 8, 9, 10, 4, 11, 12, 13, 14, 15, 16, 17, 18, 19, 20, 21, 22, 23, 24, 25, 26, 27, 28, 29, 30, 31, 32, 33, 34, 35, 36, 37, 38, 39, 40, 41, 42, 43, 44, 45, 46] (by decide +kernel) (by decide +kernel)
set_option maxRecDepth 20000 in
theorem gX5_isTongue_X5_isLearner : GoodIn wsX5_isTongue (wsV RX5 100 RX5 yX5_isLearner wsX5_isLearner) := goodIn_app (goodIn_of _ (by decide +kernel)) ggX5_isTongue_X5_isLearner
set_option maxRecDepth 20000 in
theorem ggX5_isTongue_X5_right : GoodIn wsX5_isTongue wsX5_right := goodIn_r _ [11, 6, 12, 13, 14, 15, 16, 17, 18, 19, 20, 21, 22, 23, 24, 25, 26, 27, 28, 29, 30, 31, 32, 33, 34, 35, 36, 37, 38, 39, 40, 41, 42, 43, 44, 45, 46] (by decide +kernel) (by decide +kernel)
set_option maxRecDepth 20000 in
theorem gX5_isTongue_X5_right : GoodIn wsX5_isTongue (wsV RX5 96 RX5 yX5_right wsX5_right) := goodIn_app (goodIn_of _ (by decide +kernel)) ggX5_isTongue_X5_right
theorem dX5_isTongue_0 : decode cX5_isTongue 0 = .ok (.aload_n 0, 1) := by decide +kernel
theorem dX5_isTongue_1 : decode cX5_isTongue 1 = .ok (.iload_n 1, 1) := by decide +kernel
theorem dX5_isTongue_2 : decode cX5_isTongue 2 = .ok (.invokevirtual 100, 3) := by decide +kernel
theorem dX5_isTongue_5 : decode cX5_isTongue 5 = .ok (.ifCond .eq 30, 3) := by decide +kernel
theorem dX5_isTongue_8 : decode cX5_isTongue 8 = .ok (.aload_n 0, 1) := by decide +kernel
theorem dX5_isTongue_9 : decode cX5_isTongue 9 = .ok (.iload_n 2, 1) := by decide +kernel
theorem dX5_isTongue_10 : decode cX5_isTongue 10 = .ok (.ifCond .lt 13, 3) := by decide +kernel
theorem dX5_isTongue_13 : decode cX5_isTongue 13 = .ok (.iload_n 2, 1) := by decide +kernel
theorem dX5_isTongue_14 : decode cX5_isTongue 14 = .ok (.bipush 7, 2) := by decide +kernel
theorem dX5_isTongue_16 : decode cX5_isTongue 16 = .ok (.if_icmp .gt 7, 3) := by decide +kernel
theorem dX5_isTongue_19 : decode cX5_isTongue 19 = .ok (.iconst 1, 1) := by decide +kernel
theorem dX5_isTongue_20 : decode cX5_isTongue 20 = .ok (.goto 4, 3) := by decide +kernel
theorem dX5_isTongue_23 : decode cX5_isTongue 23 = .ok (.iconst 0, 1) := by decide +kernel
theorem dX5_isTongue_24 : decode cX5_isTongue 24 = .ok (.iconst 1, 1) := by decide +kernel
theorem dX5_isTongue_25 : decode cX5_isTongue 25 = .ok (.invokevirtual 96, 3) := by decide +kernel
theorem dX5_isTongue_28 : decode cX5_isTongue 28 = .ok (.ifCond .eq 7, 3) := by decide +kernel
theorem dX5_isTongue_31 : decode cX5_isTongue 31 = .ok (.iconst 1, 1) := by decide +kernel
theorem dX5_isTongue_32 : decode cX5_isTongue 32 = .ok (.goto 4, 3) := by decide +kernel
theorem dX5_isTongue_35 : decode cX5_isTongue 35 = .ok (.iconst 0, 1) := by decide +kernel
theorem dX5_isTongue_36 : decode cX5_isTongue 36 = .ok (.ireturn, 1) := by decide +kernel
theorem dX5_learner_0 : decode cX5_learner 0 = .ok (.aload_n 0, 1) := by decide +kernel
theorem dX5_learner_1 : decode cX5_learner 1 = .ok (.iconst 0, 1) := by decide +kernel
theorem dX5_learner_2 : decode cX5_learner 2 = .ok (.putfield 89, 3) := by decide +kernel
theorem dX5_learner_5 : decode cX5_learner 5 = .ok (.aload_n 0, 1) := by decide +kernel
theorem dX5_learner_6 : decode cX5_learner 6 = .ok (.getfield 93, 3) := by decide +kernel
theorem dX5_learner_9 : decode cX5_learner 9 = .ok (.bipush 14, 2) := by decide +kernel
theorem dX5_learner_11 : decode cX5_learner 11 = .ok (.if_icmp .ne 5, 3) := by decide +kernel
theorem dX5_learner_14 : decode cX5_learner 14 = .ok (.iconst (-1), 1) := by decide +kernel
theorem dX5_learner_15 : decode cX5_learner 15 = .ok (.ireturn, 1) := by decide +kernel
theorem dX5_learner_16 : decode cX5_learner 16 = .ok (.aload_n 0, 1) := by decide +kernel
theorem dX5_learner_17 : decode cX5_learner 17 = .ok (.getfield 7, 3) := by decide +kernel
theorem dX5_learner_20 : decode cX5_learner 20 = .ok (.aload_n 0, 1) := by decide +kernel
theorem dX5_learner_21 : decode cX5_learner 21 = .ok (.getfield 93, 3) := by decide +kernel
theorem dX5_learner_24 : decode cX5_learner 24 = .ok (.iload_n 1, 1) := by decide +kernel
theorem dX5_learner_25 : decode cX5_learner 25 = .ok (.ldc 104, 2) := by decide +kernel
theorem dX5_learner_27 : decode cX5_learner 27 = .ok (.iand, 1) := by decide +kernel
theorem dX5_learner_28 : decode cX5_learner 28 = .ok (.iastore, 1) := by decide +kernel
theorem dX5_learner_29 : decode cX5_learner 29 = .ok (.iconst 0, 1) := by decide +kernel
theorem dX5_learner_30 : decode cX5_learner 30 = .ok (.istore_n 2, 1) := by decide +kernel
theorem dX5_learner_31 : decode cX5_learner 31 = .ok (.iload_n 2, 1) := by decide +kernel
theorem dX5_learner_32 : decode cX5_learner 32 = .ok (.bipush 8, 2) := by decide +kernel
theorem dX5_learner_34 : decode cX5_learner 34 = .ok (.if_icmp .ge 25, 3) := by decide +kernel
theorem dX5_learner_37 : decode cX5_learner 37 = .ok (.aload_n 0, 1) := by decide +kernel
theorem dX5_learner_38 : decode cX5_learner 38 = .ok (.getfield 19, 3) := by decide +kernel
theorem dX5_learner_41 : decode cX5_learner 41 = .ok (.bipush 8, 2) := by decide +kernel
theorem dX5_learner_43 : decode cX5_learner 43 = .ok (.aload_n 0, 1) := by decide +kernel
theorem dX5_learner_44 : decode cX5_learner 44 = .ok (.getfield 93, 3) := by decide +kernel
theorem dX5_learner_47 : decode cX5_learner 47 = .ok (.imul, 1) := by decide +kernel
theorem dX5_learner_48 : decode cX5_learner 48 = .ok (.iload_n 2, 1) := by decide +kernel
theorem dX5_learner_49 : decode cX5_learner 49 = .ok (.iadd, 1) := by decide +kernel
theorem dX5_learner_50 : decode cX5_learner 50 = .ok (.bipush 10, 2) := by decide +kernel
theorem dX5_learner_52 : decode cX5_learner 52 = .ok (.iastore, 1) := by decide +kernel
theorem dX5_learner_53 : decode cX5_learner 53 = .ok (.iinc 2 1, 3) := by decide +kernel
theorem dX5_learner_56 : decode cX5_learner 56 = .ok (.goto (-25), 3) := by decide +kernel
theorem dX5_learner_59 : decode cX5_learner 59 = .ok (.aload_n 0, 1) := by decide +kernel
theorem dX5_learner_60 : decode cX5_learner 60 = .ok (.dup, 1) := by decide +kernel
theorem dX5_learner_61 : decode cX5_learner 61 = .ok (.getfield 93, 3) := by decide +kernel
theorem dX5_learner_64 : decode cX5_learner 64 = .ok (.iconst 1, 1) := by decide +kernel
theorem dX5_learner_65 : decode cX5_learner 65 = .ok (.iadd, 1) := by decide +kernel
theorem dX5_learner_66 : decode cX5_learner 66 = .ok (.putfield 93, 3) := by decide +kernel
theorem dX5_learner_69 : decode cX5_learner 69 = .ok (.aload_n 0, 1) := by decide +kernel
theorem dX5_learner_70 : decode cX5_learner 70 = .ok (.getfield 93, 3) := by decide +kernel
theorem dX5_learner_73 : decode cX5_learner 73 = .ok (.iconst 1, 1) := by decide +kernel
theorem dX5_learner_74 : decode cX5_learner 74 = .ok (.isub, 1) := by decide +kernel
theorem dX5_learner_75 : decode cX5_learner 75 = .ok (.ireturn, 1) := by decide +kernel
set_option maxRecDepth 20000 in
theorem ggX5_hours_X5_isLearner : GoodIn wsX5_hours wsX5_isLearner := goodIn_r _ [7, 8, 9, 10, 11, 12, 6, 13, 14, 15, 16, 17, 18, 19, 20, 21, 22, 23, 24, 25, 26, 27, 28, 29, 30, 31, 32, 33, 34, 35, 36, 37, 38, 39, 40, 41, 42, 43, 44, 45, 46, 47, 48] (by decide +kernel) (by decide +kernel)
set_option maxRecDepth 20000 in
theorem gX5_hours_X5_isLearner : GoodIn wsX5_hours (wsV RX5 100 RX5 yX5_isLearner wsX5_isLearner) := goodIn_app (goodIn_of _ (by decide +kernel)) ggX5_hours_X5_isLearner
theorem dX5_hours_0 : decode cX5_hours 0 = .ok (.aload_n 0, 1) := by decide +kernel
theorem dX5_hours_1 : decode cX5_hours 1 = .ok (.iload_n 1, 1) := by decide +kernel
theorem dX5_hours_2 : decode cX5_hours 2 = .ok (.invokevirtual 100, 3) := by decide +kernel
theorem dX5_hours_5 : decode cX5_hours 5 = .ok (.ifCond .ne 5, 3) := by decide +kernel
theorem dX5_hours_8 : decode cX5_hours 8 = .ok (.iconst 0, 1) := by decide +kernel
theorem dX5_hours_9 : decode cX5_hours 9 = .ok (.ireturn, 1) := by decide +kernel
theorem dX5_hours_10 : decode cX5_hours 10 = .ok (.aload_n 0, 1) := by decide +kernel
theorem dX5_hours_11 : decode cX5_hours 11 = .ok (.getfield 7, 3) := by decide +kernel
theorem dX5_hours_14 : decode cX5_hours 14 = .ok (.iload_n 1, 1) := by decide +kernel
theorem dX5_hours_15 : decode cX5_hours 15 = .ok (.iaload, 1) := by decide +kernel
theorem dX5_hours_16 : decode cX5_hours 16 = .ok (.istore_n 3, 1) := by decide +kernel
theorem dX5_hours_17 : decode cX5_hours 17 = .ok (.aload_n 0, 1) := by decide +kernel
theorem dX5_hours_18 : decode cX5_hours 18 = .ok (.getfield 7, 3) := by decide +kernel
theorem dX5_hours_21 : decode cX5_hours 21 = .ok (.iload_n 1, 1) := by decide +kernel
theorem dX5_hours_22 : decode cX5_hours 22 = .ok (.iload_n 2, 1) := by decide +kernel
theorem dX5_hours_23 : decode cX5_hours 23 = .ok (.ldc 104, 2) := by decide +kernel
theorem dX5_hours_25 : decode cX5_hours 25 = .ok (.iand, 1) := by decide +kernel
theorem dX5_hours_26 : decode cX5_hours 26 = .ok (.iastore, 1) := by decide +kernel
theorem dX5_hours_27 : decode cX5_hours 27 = .ok (.iload_n 3, 1) := by decide +kernel
theorem dX5_hours_28 : decode cX5_hours 28 = .ok (.ireturn, 1) := by decide +kernel
set_option maxRecDepth 20000 in
theorem ggX5_claim_X5_isTongue : GoodIn wsX5_claim wsX5_isTongue := goodIn_r _ [6, 7, 8, 9, 5, 10, 11, 12, 13, 14, 15, 16, 17, 18, 19, 20, 21, 22, 23, 24, 25, 26, 27, 28, 29, 30, 31, 32, 33, 34, 35, 36, 37, 38, 39, 40, 41, 42, 43, 44, 45, 46, 47, 48, 49, 50, 51] (by decide +kernel) (by decide +kernel)
set_option maxRecDepth 20000 in
theorem gX5_claim_X5_isTongue : GoodIn wsX5_claim (wsV RX5 105 RX5 yX5_isTongue wsX5_isTongue) := goodIn_app (goodIn_of _ (by decide +kernel)) ggX5_claim_X5_isTongue
set_option maxRecDepth 20000 in
theorem ggX5_claim_X5_right : GoodIn wsX5_claim wsX5_right := goodIn_r _ [16, 11, 17, 18, 19, 20, 21, 22, 23, 24, 25, 26, 27, 28, 29, 30, 31, 32, 33, 34, 35, 36, 37, 38, 39, 40, 41, 42, 43, 44, 45, 46, 47, 48, 49, 50, 51] (by decide +kernel) (by decide +kernel)
set_option maxRecDepth 20000 in
theorem gX5_claim_X5_right : GoodIn wsX5_claim (wsV RX5 96 RX5 yX5_right wsX5_right) := goodIn_app (goodIn_of _ (by decide +kernel)) ggX5_claim_X5_right
theorem dX5_claim_0 : decode cX5_claim 0 = .ok (.aload_n 0, 1) := by decide +kernel
theorem dX5_claim_1 : decode cX5_claim 1 = .ok (.iload_n 1, 1) := by decide +kernel
theorem dX5_claim_2 : decode cX5_claim 2 = .ok (.iload_n 2, 1) := by decide +kernel
theorem dX5_claim_3 : decode cX5_claim 3 = .ok (.invokevirtual 105, 3) := by decide +kernel
theorem dX5_claim_6 : decode cX5_claim 6 = .ok (.ifCond .eq 26, 3) := by decide +kernel
theorem dX5_claim_9 : decode cX5_claim 9 = .ok (.aload_n 0, 1) := by decide +kernel
theorem dX5_claim_10 : decode cX5_claim 10 = .ok (.iload_n 3, 1) := by decide +kernel
theorem dX5_claim_11 : decode cX5_claim 11 = .ok (.ifCond .lt 13, 3) := by decide +kernel
theorem dX5_claim_14 : decode cX5_claim 14 = .ok (.iload_n 3, 1) := by decide +kernel
theorem dX5_claim_15 : decode cX5_claim 15 = .ok (.bipush 10, 2) := by decide +kernel
theorem dX5_claim_17 : decode cX5_claim 17 = .ok (.if_icmp .gt 7, 3) := by decide +kernel
theorem dX5_claim_20 : decode cX5_claim 20 = .ok (.iconst 1, 1) := by decide +kernel
theorem dX5_claim_21 : decode cX5_claim 21 = .ok (.goto 4, 3) := by decide +kernel
theorem dX5_claim_24 : decode cX5_claim 24 = .ok (.iconst 0, 1) := by decide +kernel
theorem dX5_claim_25 : decode cX5_claim 25 = .ok (.iconst 2, 1) := by decide +kernel
theorem dX5_claim_26 : decode cX5_claim 26 = .ok (.invokevirtual 96, 3) := by decide +kernel
theorem dX5_claim_29 : decode cX5_claim 29 = .ok (.ifCond .ne 5, 3) := by decide +kernel
theorem dX5_claim_32 : decode cX5_claim 32 = .ok (.iconst 0, 1) := by decide +kernel
theorem dX5_claim_33 : decode cX5_claim 33 = .ok (.ireturn, 1) := by decide +kernel
theorem dX5_claim_34 : decode cX5_claim 34 = .ok (.aload_n 0, 1) := by decide +kernel
theorem dX5_claim_35 : decode cX5_claim 35 = .ok (.getfield 13, 3) := by decide +kernel
theorem dX5_claim_38 : decode cX5_claim 38 = .ok (.bipush 8, 2) := by decide +kernel
theorem dX5_claim_40 : decode cX5_claim 40 = .ok (.iload_n 1, 1) := by decide +kernel
theorem dX5_claim_41 : decode cX5_claim 41 = .ok (.imul, 1) := by decide +kernel
theorem dX5_claim_42 : decode cX5_claim 42 = .ok (.iload_n 2, 1) := by decide +kernel
theorem dX5_claim_43 : decode cX5_claim 43 = .ok (.iadd, 1) := by decide +kernel
theorem dX5_claim_44 : decode cX5_claim 44 = .ok (.iaload, 1) := by decide +kernel
theorem dX5_claim_45 : decode cX5_claim 45 = .ok (.istore 4, 2) := by decide +kernel
theorem dX5_claim_47 : decode cX5_claim 47 = .ok (.aload_n 0, 1) := by decide +kernel
theorem dX5_claim_48 : decode cX5_claim 48 = .ok (.getfield 13, 3) := by decide +kernel
theorem dX5_claim_51 : decode cX5_claim 51 = .ok (.bipush 8, 2) := by decide +kernel
theorem dX5_claim_53 : decode cX5_claim 53 = .ok (.iload_n 1, 1) := by decide +kernel
theorem dX5_claim_54 : decode cX5_claim 54 = .ok (.imul, 1) := by decide +kernel
theorem dX5_claim_55 : decode cX5_claim 55 = .ok (.iload_n 2, 1) := by decide +kernel
theorem dX5_claim_56 : decode cX5_claim 56 = .ok (.iadd, 1) := by decide +kernel
theorem dX5_claim_57 : decode cX5_claim 57 = .ok (.iload_n 3, 1) := by decide +kernel
theorem dX5_claim_58 : decode cX5_claim 58 = .ok (.iastore, 1) := by decide +kernel
theorem dX5_claim_59 : decode cX5_claim 59 = .ok (.iload 4, 2) := by decide +kernel
theorem dX5_claim_61 : decode cX5_claim 61 = .ok (.ireturn, 1) := by decide +kernel
set_option maxRecDepth 20000 in
theorem ggX5_want_X5_isTongue : GoodIn wsX5_want wsX5_isTongue := goodIn_r _ [7, 8, 9, 10, 6, 11, 12, 13, 14, 15, 16, 17, 18, 19, 20, 21, 22, 23, 24, 25, 26, 27, 28, 29, 30, 31, 32, 33, 34, 35, 36, 37, 38, 39, 40, 41, 42, 43, 44, 45, 46, 47, 48, 49, 50, 51, 52] (by decide +kernel) (by decide +kernel)
set_option maxRecDepth 20000 in
theorem gX5_want_X5_isTongue : GoodIn wsX5_want (wsV RX5 105 RX5 yX5_isTongue wsX5_isTongue) := goodIn_app (goodIn_of _ (by decide +kernel)) ggX5_want_X5_isTongue
theorem dX5_want_0 : decode cX5_want 0 = .ok (.aload_n 0, 1) := by decide +kernel
theorem dX5_want_1 : decode cX5_want 1 = .ok (.iload_n 1, 1) := by decide +kernel
theorem dX5_want_2 : decode cX5_want 2 = .ok (.iload_n 2, 1) := by decide +kernel
theorem dX5_want_3 : decode cX5_want 3 = .ok (.invokevirtual 105, 3) := by decide +kernel
theorem dX5_want_6 : decode cX5_want 6 = .ok (.ifCond .ne 5, 3) := by decide +kernel
theorem dX5_want_9 : decode cX5_want 9 = .ok (.iconst 0, 1) := by decide +kernel
theorem dX5_want_10 : decode cX5_want 10 = .ok (.ireturn, 1) := by decide +kernel
theorem dX5_want_11 : decode cX5_want 11 = .ok (.aload_n 0, 1) := by decide +kernel
theorem dX5_want_12 : decode cX5_want 12 = .ok (.getfield 31, 3) := by decide +kernel
theorem dX5_want_15 : decode cX5_want 15 = .ok (.iload_n 1, 1) := by decide +kernel
theorem dX5_want_16 : decode cX5_want 16 = .ok (.iaload, 1) := by decide +kernel
theorem dX5_want_17 : decode cX5_want 17 = .ok (.iconst 2, 1) := by decide +kernel
theorem dX5_want_18 : decode cX5_want 18 = .ok (.if_icmp .eq 25, 3) := by decide +kernel
theorem dX5_want_21 : decode cX5_want 21 = .ok (.aload_n 0, 1) := by decide +kernel
theorem dX5_want_22 : decode cX5_want 22 = .ok (.getfield 31, 3) := by decide +kernel
theorem dX5_want_25 : decode cX5_want 25 = .ok (.iload_n 1, 1) := by decide +kernel
theorem dX5_want_26 : decode cX5_want 26 = .ok (.iaload, 1) := by decide +kernel
theorem dX5_want_27 : decode cX5_want 27 = .ok (.iconst 1, 1) := by decide +kernel
theorem dX5_want_28 : decode cX5_want 28 = .ok (.if_icmp .ne 17, 3) := by decide +kernel
theorem dX5_want_31 : decode cX5_want 31 = .ok (.aload_n 0, 1) := by decide +kernel
theorem dX5_want_32 : decode cX5_want 32 = .ok (.getfield 28, 3) := by decide +kernel
theorem dX5_want_35 : decode cX5_want 35 = .ok (.iconst 2, 1) := by decide +kernel
theorem dX5_want_36 : decode cX5_want 36 = .ok (.iload_n 1, 1) := by decide +kernel
theorem dX5_want_37 : decode cX5_want 37 = .ok (.imul, 1) := by decide +kernel
theorem dX5_want_38 : decode cX5_want 38 = .ok (.iaload, 1) := by decide +kernel
theorem dX5_want_39 : decode cX5_want 39 = .ok (.iload_n 2, 1) := by decide +kernel
theorem dX5_want_40 : decode cX5_want 40 = .ok (.if_icmp .ne 5, 3) := by decide +kernel
theorem dX5_want_43 : decode cX5_want 43 = .ok (.iconst (-1), 1) := by decide +kernel
theorem dX5_want_44 : decode cX5_want 44 = .ok (.ireturn, 1) := by decide +kernel
theorem dX5_want_45 : decode cX5_want 45 = .ok (.aload_n 0, 1) := by decide +kernel
theorem dX5_want_46 : decode cX5_want 46 = .ok (.getfield 28, 3) := by decide +kernel
theorem dX5_want_49 : decode cX5_want 49 = .ok (.iconst 2, 1) := by decide +kernel
theorem dX5_want_50 : decode cX5_want 50 = .ok (.iload_n 1, 1) := by decide +kernel
theorem dX5_want_51 : decode cX5_want 51 = .ok (.imul, 1) := by decide +kernel
theorem dX5_want_52 : decode cX5_want 52 = .ok (.aload_n 0, 1) := by decide +kernel
theorem dX5_want_53 : decode cX5_want 53 = .ok (.getfield 31, 3) := by decide +kernel
theorem dX5_want_56 : decode cX5_want 56 = .ok (.iload_n 1, 1) := by decide +kernel
theorem dX5_want_57 : decode cX5_want 57 = .ok (.iaload, 1) := by decide +kernel
theorem dX5_want_58 : decode cX5_want 58 = .ok (.iadd, 1) := by decide +kernel
theorem dX5_want_59 : decode cX5_want 59 = .ok (.iload_n 2, 1) := by decide +kernel
theorem dX5_want_60 : decode cX5_want 60 = .ok (.iastore, 1) := by decide +kernel
theorem dX5_want_61 : decode cX5_want 61 = .ok (.aload_n 0, 1) := by decide +kernel
theorem dX5_want_62 : decode cX5_want 62 = .ok (.getfield 31, 3) := by decide +kernel
theorem dX5_want_65 : decode cX5_want 65 = .ok (.iload_n 1, 1) := by decide +kernel
theorem dX5_want_66 : decode cX5_want 66 = .ok (.dup2, 1) := by decide +kernel
theorem dX5_want_67 : decode cX5_want 67 = .ok (.iaload, 1) := by decide +kernel
theorem dX5_want_68 : decode cX5_want 68 = .ok (.iconst 1, 1) := by decide +kernel
theorem dX5_want_69 : decode cX5_want 69 = .ok (.iadd, 1) := by decide +kernel
theorem dX5_want_70 : decode cX5_want 70 = .ok (.iastore, 1) := by decide +kernel
theorem dX5_want_71 : decode cX5_want 71 = .ok (.aload_n 0, 1) := by decide +kernel
theorem dX5_want_72 : decode cX5_want 72 = .ok (.getfield 31, 3) := by decide +kernel
theorem dX5_want_75 : decode cX5_want 75 = .ok (.iload_n 1, 1) := by decide +kernel
theorem dX5_want_76 : decode cX5_want 76 = .ok (.iaload, 1) := by decide +kernel
theorem dX5_want_77 : decode cX5_want 77 = .ok (.ireturn, 1) := by decide +kernel
set_option maxRecDepth 20000 in
theorem ggX5_unwant_X5_isLearner : GoodIn wsX5_unwant wsX5_isLearner := goodIn_r _ [6, 7, 8, 9, 10, 11, 5, 12, 13, 14, 15, 16, 17, 18, 19, 20, 21, 22, 23, 24, 25, 26, 27, 28, 29, 30, 31, 32, 33, 34, 35, 36, 37, 38, 39, 40, 41, 42, 43, 44, 45, 46, 47] (by decide +kernel) (by decide +kernel)
set_option maxRecDepth 20000 in
theorem gX5_unwant_X5_isLearner : GoodIn wsX5_unwant (wsV RX5 100 RX5 yX5_isLearner wsX5_isLearner) := goodIn_app (goodIn_of _ (by decide +kernel)) ggX5_unwant_X5_isLearner
theorem dX5_unwant_0 : decode cX5_unwant 0 = .ok (.aload_n 0, 1) := by decide +kernel
theorem dX5_unwant_1 : decode cX5_unwant 1 = .ok (.iload_n 1, 1) := by decide +kernel
theorem dX5_unwant_2 : decode cX5_unwant 2 = .ok (.invokevirtual 100, 3) := by decide +kernel
theorem dX5_unwant_5 : decode cX5_unwant 5 = .ok (.ifCond .ne 5, 3) := by decide +kernel
theorem dX5_unwant_8 : decode cX5_unwant 8 = .ok (.iconst 0, 1) := by decide +kernel
theorem dX5_unwant_9 : decode cX5_unwant 9 = .ok (.ireturn, 1) := by decide +kernel
theorem dX5_unwant_10 : decode cX5_unwant 10 = .ok (.aload_n 0, 1) := by decide +kernel
theorem dX5_unwant_11 : decode cX5_unwant 11 = .ok (.getfield 31, 3) := by decide +kernel
theorem dX5_unwant_14 : decode cX5_unwant 14 = .ok (.iload_n 1, 1) := by decide +kernel
theorem dX5_unwant_15 : decode cX5_unwant 15 = .ok (.iaload, 1) := by decide +kernel
theorem dX5_unwant_16 : decode cX5_unwant 16 = .ok (.istore_n 2, 1) := by decide +kernel
theorem dX5_unwant_17 : decode cX5_unwant 17 = .ok (.aload_n 0, 1) := by decide +kernel
theorem dX5_unwant_18 : decode cX5_unwant 18 = .ok (.getfield 31, 3) := by decide +kernel
theorem dX5_unwant_21 : decode cX5_unwant 21 = .ok (.iload_n 1, 1) := by decide +kernel
theorem dX5_unwant_22 : decode cX5_unwant 22 = .ok (.iconst 0, 1) := by decide +kernel
theorem dX5_unwant_23 : decode cX5_unwant 23 = .ok (.iastore, 1) := by decide +kernel
theorem dX5_unwant_24 : decode cX5_unwant 24 = .ok (.iload_n 2, 1) := by decide +kernel
theorem dX5_unwant_25 : decode cX5_unwant 25 = .ok (.ireturn, 1) := by decide +kernel
theorem dX5_isBarred_0 : decode cX5_isBarred 0 = .ok (.aload_n 0, 1) := by decide +kernel
theorem dX5_isBarred_1 : decode cX5_isBarred 1 = .ok (.getfield 34, 3) := by decide +kernel
theorem dX5_isBarred_4 : decode cX5_isBarred 4 = .ok (.iload_n 1, 1) := by decide +kernel
theorem dX5_isBarred_5 : decode cX5_isBarred 5 = .ok (.iaload, 1) := by decide +kernel
theorem dX5_isBarred_6 : decode cX5_isBarred 6 = .ok (.iload_n 2, 1) := by decide +kernel
theorem dX5_isBarred_7 : decode cX5_isBarred 7 = .ok (.ishr, 1) := by decide +kernel
theorem dX5_isBarred_8 : decode cX5_isBarred 8 = .ok (.iconst 1, 1) := by decide +kernel
theorem dX5_isBarred_9 : decode cX5_isBarred 9 = .ok (.iand, 1) := by decide +kernel
theorem dX5_isBarred_10 : decode cX5_isBarred 10 = .ok (.iconst 1, 1) := by decide +kernel
theorem dX5_isBarred_11 : decode cX5_isBarred 11 = .ok (.if_icmp .ne 7, 3) := by decide +kernel
theorem dX5_isBarred_14 : decode cX5_isBarred 14 = .ok (.iconst 1, 1) := by decide +kernel
theorem dX5_isBarred_15 : decode cX5_isBarred 15 = .ok (.goto 4, 3) := by decide +kernel
theorem dX5_isBarred_18 : decode cX5_isBarred 18 = .ok (.iconst 0, 1) := by decide +kernel
theorem dX5_isBarred_19 : decode cX5_isBarred 19 = .ok (.ireturn, 1) := by decide +kernel
set_option maxRecDepth 20000 in
theorem ggX5_bar_X5_areTwo : GoodIn wsX5_bar wsX5_areTwo := goodIn_r _ [6, 7, 8, 9, 10, 5, 11, 12, 13, 14, 15, 16, 21, 22, 23, 24, 25, 26, 27, 28, 29, 30, 31, 32, 33, 34, 35, 36, 37, 38, 39, 40, 41, 42, 43, 44, 45, 46, 47, 48, 49, 50, 51, 52, 53, 54, 55] (by decide +kernel) (by decide +kernel)
set_option maxRecDepth 20000 in
theorem gX5_bar_X5_areTwo : GoodIn wsX5_bar (wsV RX5 109 RX5 yX5_areTwo wsX5_areTwo) := goodIn_app (goodIn_of _ (by decide +kernel)) ggX5_bar_X5_areTwo
set_option maxRecDepth 20000 in
theorem ggX5_bar_X5_isBarred : GoodIn wsX5_bar wsX5_isBarred := goodIn_r _ [20, 1, 21, 22, 23, 24, 25, 26, 27, 28, 29, 30, 31, 32, 33, 34, 35, 36, 37, 38, 39, 40, 41, 42, 43, 44, 45, 46, 47, 48, 49, 50, 51, 52, 53, 54, 55] (by decide +kernel) (by decide +kernel)
set_option maxRecDepth 20000 in
theorem gX5_bar_X5_isBarred : GoodIn wsX5_bar (wsV RX5 112 RX5 yX5_isBarred wsX5_isBarred) := goodIn_app (goodIn_of _ (by decide +kernel)) ggX5_bar_X5_isBarred
theorem dX5_bar_0 : decode cX5_bar 0 = .ok (.aload_n 0, 1) := by decide +kernel
theorem dX5_bar_1 : decode cX5_bar 1 = .ok (.iload_n 1, 1) := by decide +kernel
theorem dX5_bar_2 : decode cX5_bar 2 = .ok (.iload_n 2, 1) := by decide +kernel
theorem dX5_bar_3 : decode cX5_bar 3 = .ok (.invokevirtual 109, 3) := by decide +kernel
theorem dX5_bar_6 : decode cX5_bar 6 = .ok (.ifCond .ne 5, 3) := by decide +kernel
theorem dX5_bar_9 : decode cX5_bar 9 = .ok (.iconst 0, 1) := by decide +kernel
theorem dX5_bar_10 : decode cX5_bar 10 = .ok (.ireturn, 1) := by decide +kernel
theorem dX5_bar_11 : decode cX5_bar 11 = .ok (.aload_n 0, 1) := by decide +kernel
theorem dX5_bar_12 : decode cX5_bar 12 = .ok (.iload_n 1, 1) := by decide +kernel
theorem dX5_bar_13 : decode cX5_bar 13 = .ok (.iload_n 2, 1) := by decide +kernel
theorem dX5_bar_14 : decode cX5_bar 14 = .ok (.invokevirtual 112, 3) := by decide +kernel
theorem dX5_bar_17 : decode cX5_bar 17 = .ok (.istore 4, 2) := by decide +kernel
theorem dX5_bar_19 : decode cX5_bar 19 = .ok (.aload_n 0, 1) := by decide +kernel
theorem dX5_bar_20 : decode cX5_bar 20 = .ok (.getfield 34, 3) := by decide +kernel
theorem dX5_bar_23 : decode cX5_bar 23 = .ok (.iload_n 1, 1) := by decide +kernel
theorem dX5_bar_24 : decode cX5_bar 24 = .ok (.iload_n 3, 1) := by decide +kernel
theorem dX5_bar_25 : decode cX5_bar 25 = .ok (.ifCond .eq 16, 3) := by decide +kernel
theorem dX5_bar_28 : decode cX5_bar 28 = .ok (.aload_n 0, 1) := by decide +kernel
theorem dX5_bar_29 : decode cX5_bar 29 = .ok (.getfield 34, 3) := by decide +kernel
theorem dX5_bar_32 : decode cX5_bar 32 = .ok (.iload_n 1, 1) := by decide +kernel
theorem dX5_bar_33 : decode cX5_bar 33 = .ok (.iaload, 1) := by decide +kernel
theorem dX5_bar_34 : decode cX5_bar 34 = .ok (.iconst 1, 1) := by decide +kernel
theorem dX5_bar_35 : decode cX5_bar 35 = .ok (.iload_n 2, 1) := by decide +kernel
theorem dX5_bar_36 : decode cX5_bar 36 = .ok (.ishl, 1) := by decide +kernel
theorem dX5_bar_37 : decode cX5_bar 37 = .ok (.ior, 1) := by decide +kernel
theorem dX5_bar_38 : decode cX5_bar 38 = .ok (.goto 15, 3) := by decide +kernel
theorem dX5_bar_41 : decode cX5_bar 41 = .ok (.aload_n 0, 1) := by decide +kernel
theorem dX5_bar_42 : decode cX5_bar 42 = .ok (.getfield 34, 3) := by decide +kernel
theorem dX5_bar_45 : decode cX5_bar 45 = .ok (.iload_n 1, 1) := by decide +kernel
theorem dX5_bar_46 : decode cX5_bar 46 = .ok (.iaload, 1) := by decide +kernel
theorem dX5_bar_47 : decode cX5_bar 47 = .ok (.iconst 1, 1) := by decide +kernel
theorem dX5_bar_48 : decode cX5_bar 48 = .ok (.iload_n 2, 1) := by decide +kernel
theorem dX5_bar_49 : decode cX5_bar 49 = .ok (.ishl, 1) := by decide +kernel
theorem dX5_bar_50 : decode cX5_bar 50 = .ok (.iconst (-1), 1) := by decide +kernel
theorem dX5_bar_51 : decode cX5_bar 51 = .ok (.ixor, 1) := by decide +kernel
theorem dX5_bar_52 : decode cX5_bar 52 = .ok (.iand, 1) := by decide +kernel
theorem dX5_bar_53 : decode cX5_bar 53 = .ok (.iastore, 1) := by decide +kernel
theorem dX5_bar_54 : decode cX5_bar 54 = .ok (.aload_n 0, 1) := by decide +kernel
theorem dX5_bar_55 : decode cX5_bar 55 = .ok (.getfield 34, 3) := by decide +kernel
theorem dX5_bar_58 : decode cX5_bar 58 = .ok (.iload_n 2, 1) := by decide +kernel
theorem dX5_bar_59 : decode cX5_bar 59 = .ok (.iload_n 3, 1) := by decide +kernel
theorem dX5_bar_60 : decode cX5_bar 60 = .ok (.ifCond .eq 16, 3) := by decide +kernel
theorem dX5_bar_63 : decode cX5_bar 63 = .ok (.aload_n 0, 1) := by decide +kernel
theorem dX5_bar_64 : decode cX5_bar 64 = .ok (.getfield 34, 3) := by decide +kernel
theorem dX5_bar_67 : decode cX5_bar 67 = .ok (.iload_n 2, 1) := by decide +kernel
theorem dX5_bar_68 : decode cX5_bar 68 = .ok (.iaload, 1) := by decide +kernel
theorem dX5_bar_69 : decode cX5_bar 69 = .ok (.iconst 1, 1) := by decide +kernel
theorem dX5_bar_70 : decode cX5_bar 70 = .ok (.iload_n 1, 1) := by decide +kernel
theorem dX5_bar_71 : decode cX5_bar 71 = .ok (.ishl, 1) := by decide +kernel
theorem dX5_bar_72 : decode cX5_bar 72 = .ok (.ior, 1) := by decide +kernel
theorem dX5_bar_73 : decode cX5_bar 73 = .ok (.goto 15, 3) := by decide +kernel
theorem dX5_bar_76 : decode cX5_bar 76 = .ok (.aload_n 0, 1) := by decide +kernel
theorem dX5_bar_77 : decode cX5_bar 77 = .ok (.getfield 34, 3) := by decide +kernel
theorem dX5_bar_80 : decode cX5_bar 80 = .ok (.iload_n 2, 1) := by decide +kernel
theorem dX5_bar_81 : decode cX5_bar 81 = .ok (.iaload, 1) := by decide +kernel
theorem dX5_bar_82 : decode cX5_bar 82 = .ok (.iconst 1, 1) := by decide +kernel
theorem dX5_bar_83 : decode cX5_bar 83 = .ok (.iload_n 1, 1) := by decide +kernel
theorem dX5_bar_84 : decode cX5_bar 84 = .ok (.ishl, 1) := by decide +kernel
theorem dX5_bar_85 : decode cX5_bar 85 = .ok (.iconst (-1), 1) := by decide +kernel
theorem dX5_bar_86 : decode cX5_bar 86 = .ok (.ixor, 1) := by decide +kernel
theorem dX5_bar_87 : decode cX5_bar 87 = .ok (.iand, 1) := by decide +kernel
theorem dX5_bar_88 : decode cX5_bar 88 = .ok (.iastore, 1) := by decide +kernel
theorem dX5_bar_89 : decode cX5_bar 89 = .ok (.iload 4, 2) := by decide +kernel
theorem dX5_bar_91 : decode cX5_bar 91 = .ok (.ireturn, 1) := by decide +kernel
set_option maxRecDepth 20000 in
theorem ggX5_test_X5_isTongue : GoodIn wsX5_test wsX5_isTongue := goodIn_r _ [9, 10, 11, 12, 8, 13, 14, 15, 16, 17, 18, 19, 20, 21, 22, 23, 24, 25, 26, 27, 28, 29, 30, 31, 32, 33, 34, 35, 36, 37, 38, 39, 40, 41, 42, 43, 44, 45, 46, 47, 48, 49, 50, 51, 52, 53, 54] (by decide +kernel) (by decide +kernel)
set_option maxRecDepth 20000 in
theorem gX5_test_X5_isTongue : GoodIn wsX5_test (wsV RX5 105 RX5 yX5_isTongue wsX5_isTongue) := goodIn_app (goodIn_of _ (by decide +kernel)) ggX5_test_X5_isTongue
set_option maxRecDepth 20000 in
theorem ggX5_test_X5_right : GoodIn wsX5_test wsX5_right := goodIn_r _ [19, 14, 20, 21, 22, 23, 24, 25, 26, 27, 28, 29, 30, 31, 32, 33, 34, 35, 36, 37, 38, 39, 40, 41, 42, 43, 44, 45, 46, 47, 48, 49, 50, 51, 52, 53, 54] (by decide +kernel) (by decide +kernel)
set_option maxRecDepth 20000 in
theorem gX5_test_X5_right : GoodIn wsX5_test (wsV RX5 96 RX5 yX5_right wsX5_right) := goodIn_app (goodIn_of _ (by decide +kernel)) ggX5_test_X5_right
theorem dX5_test_0 : decode cX5_test 0 = .ok (.aload_n 0, 1) := by decide +kernel
theorem dX5_test_1 : decode cX5_test 1 = .ok (.iload_n 1, 1) := by decide +kernel
theorem dX5_test_2 : decode cX5_test 2 = .ok (.iload_n 2, 1) := by decide +kernel
theorem dX5_test_3 : decode cX5_test 3 = .ok (.invokevirtual 105, 3) := by decide +kernel
theorem dX5_test_6 : decode cX5_test 6 = .ok (.ifCond .eq 27, 3) := by decide +kernel
theorem dX5_test_9 : decode cX5_test 9 = .ok (.aload_n 0, 1) := by decide +kernel
theorem dX5_test_10 : decode cX5_test 10 = .ok (.iload_n 3, 1) := by decide +kernel
theorem dX5_test_11 : decode cX5_test 11 = .ok (.iconst 1, 1) := by decide +kernel
theorem dX5_test_12 : decode cX5_test 12 = .ok (.if_icmp .lt 13, 3) := by decide +kernel
theorem dX5_test_15 : decode cX5_test 15 = .ok (.iload_n 3, 1) := by decide +kernel
theorem dX5_test_16 : decode cX5_test 16 = .ok (.bipush 10, 2) := by decide +kernel
theorem dX5_test_18 : decode cX5_test 18 = .ok (.if_icmp .gt 7, 3) := by decide +kernel
theorem dX5_test_21 : decode cX5_test 21 = .ok (.iconst 1, 1) := by decide +kernel
theorem dX5_test_22 : decode cX5_test 22 = .ok (.goto 4, 3) := by decide +kernel
theorem dX5_test_25 : decode cX5_test 25 = .ok (.iconst 0, 1) := by decide +kernel
theorem dX5_test_26 : decode cX5_test 26 = .ok (.iconst 2, 1) := by decide +kernel
theorem dX5_test_27 : decode cX5_test 27 = .ok (.invokevirtual 96, 3) := by decide +kernel
