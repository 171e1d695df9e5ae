theorem dX0_init_0 : decode cX0_init 0 = .ok (.aload_n 0, 1) := by decide +kernel
theorem dX0_init_1 : decode cX0_init 1 = .ok (.invokespecial 3, 3) := by decide +kernel
theorem dX0_init_4 : decode cX0_init 4 = .ok (.aload_n 0, 1) := by decide +kernel
theorem dX0_init_5 : decode cX0_init 5 = .ok (.bipush 8, 2) := by decide +kernel
theorem dX0_init_7 : decode cX0_init 7 = .ok (.newarray .long, 2) := by decide +kernel
theorem dX0_init_9 : decode cX0_init 9 = .ok (.putfield 9, 3) := by decide +kernel
theorem dX0_init_12 : decode cX0_init 12 = .ok (.aload_n 0, 1) := by decide +kernel
theorem dX0_init_13 : decode cX0_init 13 = .ok (.iconst 0, 1) := by decide +kernel
theorem dX0_init_14 : decode cX0_init 14 = .ok (.putfield 15, 3) := by decide +kernel
theorem dX0_init_17 : decode cX0_init 17 = .ok (.return_, 1) := by decide +kernel
theorem dX0_has_0 : decode cX0_has 0 = .ok (.iload_n 1, 1) := by decide +kernel
theorem dX0_has_1 : decode cX0_has 1 = .ok (.ifCond .lt 15, 3) := by decide +kernel
theorem dX0_has_4 : decode cX0_has 4 = .ok (.iload_n 1, 1) := by decide +kernel
theorem dX0_has_5 : decode cX0_has 5 = .ok (.aload_n 0, 1) := by decide +kernel
theorem dX0_has_6 : decode cX0_has 6 = .ok (.getfield 15, 3) := by decide +kernel
theorem dX0_has_9 : decode cX0_has 9 = .ok (.if_icmp .ge 7, 3) := by decide +kernel
theorem dX0_has_12 : decode cX0_has 12 = .ok (.iconst 1, 1) := by decide +kernel
theorem dX0_has_13 : decode cX0_has 13 = .ok (.goto 4, 3) := by decide +kernel
theorem dX0_has_16 : decode cX0_has 16 = .ok (.iconst 0, 1) := by decide +kernel
theorem dX0_has_17 : decode cX0_has 17 = .ok (.ireturn, 1) := by decide +kernel
theorem dX0_find_0 : decode cX0_find 0 = .ok (.iconst 0, 1) := by decide +kernel
theorem dX0_find_1 : decode cX0_find 1 = .ok (.istore_n 3, 1) := by decide +kernel
theorem dX0_find_2 : decode cX0_find 2 = .ok (.iload_n 3, 1) := by decide +kernel
theorem dX0_find_3 : decode cX0_find 3 = .ok (.aload_n 0, 1) := by decide +kernel
theorem dX0_find_4 : decode cX0_find 4 = .ok (.getfield 15, 3) := by decide +kernel
theorem dX0_find_7 : decode cX0_find 7 = .ok (.if_icmp .ge 22, 3) := by decide +kernel
theorem dX0_find_10 : decode cX0_find 10 = .ok (.aload_n 0, 1) := by decide +kernel
theorem dX0_find_11 : decode cX0_find 11 = .ok (.getfield 9, 3) := by decide +kernel
theorem dX0_find_14 : decode cX0_find 14 = .ok (.iload_n 3, 1) := by decide +kernel
theorem dX0_find_15 : decode cX0_find 15 = .ok (.laload, 1) := by decide +kernel
theorem dX0_find_16 : decode cX0_find 16 = .ok (.lload_n 1, 1) := by decide +kernel
theorem dX0_find_17 : decode cX0_find 17 = .ok (.lcmp, 1) := by decide +kernel
theorem dX0_find_18 : decode cX0_find 18 = .ok (.ifCond .ne 5, 3) := by decide +kernel
theorem dX0_find_21 : decode cX0_find 21 = .ok (.iload_n 3, 1) := by decide +kernel
theorem dX0_find_22 : decode cX0_find 22 = .ok (.ireturn, 1) := by decide +kernel
theorem dX0_find_23 : decode cX0_find 23 = .ok (.iinc 3 1, 3) := by decide +kernel
theorem dX0_find_26 : decode cX0_find 26 = .ok (.goto (-24), 3) := by decide +kernel
theorem dX0_find_29 : decode cX0_find 29 = .ok (.iconst (-1), 1) := by decide +kernel
theorem dX0_find_30 : decode cX0_find 30 = .ok (.ireturn, 1) := by decide +kernel
set_option maxRecDepth 20000 in
theorem ggX0_numberFor_X0_find : GoodIn wsX0_numberFor wsX0_find := goodIn_r _ [7, 1, 2, 8, 9] (by decide +kernel) (by decide +kernel)
set_option maxRecDepth 20000 in
theorem gX0_numberFor_X0_find : GoodIn wsX0_numberFor (wsV RX0 19 RX0 yX0_find wsX0_find) := goodIn_app (goodIn_of _ (by decide +kernel)) ggX0_numberFor_X0_find
theorem dX0_numberFor_0 : decode cX0_numberFor 0 = .ok (.aload_n 0, 1) := by decide +kernel
theorem dX0_numberFor_1 : decode cX0_numberFor 1 = .ok (.lload_n 1, 1) := by decide +kernel
theorem dX0_numberFor_2 : decode cX0_numberFor 2 = .ok (.invokevirtual 19, 3) := by decide +kernel
theorem dX0_numberFor_5 : decode cX0_numberFor 5 = .ok (.istore_n 3, 1) := by decide +kernel
theorem dX0_numberFor_6 : decode cX0_numberFor 6 = .ok (.iload_n 3, 1) := by decide +kernel
theorem dX0_numberFor_7 : decode cX0_numberFor 7 = .ok (.iconst (-1), 1) := by decide +kernel
theorem dX0_numberFor_8 : decode cX0_numberFor 8 = .ok (.if_icmp .ne 12, 3) := by decide +kernel
theorem dX0_numberFor_11 : decode cX0_numberFor 11 = .ok (.aload_n 0, 1) := by decide +kernel
theorem dX0_numberFor_12 : decode cX0_numberFor 12 = .ok (.getfield 15, 3) := by decide +kernel
theorem dX0_numberFor_15 : decode cX0_numberFor 15 = .ok (.bipush 8, 2) := by decide +kernel
theorem dX0_numberFor_17 : decode cX0_numberFor 17 = .ok (.if_icmp .lt 5, 3) := by decide +kernel
theorem dX0_numberFor_20 : decode cX0_numberFor 20 = .ok (.iload_n 3, 1) := by decide +kernel
theorem dX0_numberFor_21 : decode cX0_numberFor 21 = .ok (.ireturn, 1) := by decide +kernel
theorem dX0_numberFor_22 : decode cX0_numberFor 22 = .ok (.aload_n 0, 1) := by decide +kernel
theorem dX0_numberFor_23 : decode cX0_numberFor 23 = .ok (.getfield 9, 3) := by decide +kernel
theorem dX0_numberFor_26 : decode cX0_numberFor 26 = .ok (.aload_n 0, 1) := by decide +kernel
theorem dX0_numberFor_27 : decode cX0_numberFor 27 = .ok (.getfield 15, 3) := by decide +kernel
theorem dX0_numberFor_30 : decode cX0_numberFor 30 = .ok (.lload_n 1, 1) := by decide +kernel
theorem dX0_numberFor_31 : decode cX0_numberFor 31 = .ok (.lastore, 1) := by decide +kernel
theorem dX0_numberFor_32 : decode cX0_numberFor 32 = .ok (.aload_n 0, 1) := by decide +kernel
theorem dX0_numberFor_33 : decode cX0_numberFor 33 = .ok (.dup, 1) := by decide +kernel
theorem dX0_numberFor_34 : decode cX0_numberFor 34 = .ok (.getfield 15, 3) := by decide +kernel
theorem dX0_numberFor_37 : decode cX0_numberFor 37 = .ok (.iconst 1, 1) := by decide +kernel
theorem dX0_numberFor_38 : decode cX0_numberFor 38 = .ok (.iadd, 1) := by decide +kernel
theorem dX0_numberFor_39 : decode cX0_numberFor 39 = .ok (.putfield 15, 3) := by decide +kernel
theorem dX0_numberFor_42 : decode cX0_numberFor 42 = .ok (.aload_n 0, 1) := by decide +kernel
theorem dX0_numberFor_43 : decode cX0_numberFor 43 = .ok (.getfield 15, 3) := by decide +kernel
theorem dX0_numberFor_46 : decode cX0_numberFor 46 = .ok (.iconst 1, 1) := by decide +kernel
theorem dX0_numberFor_47 : decode cX0_numberFor 47 = .ok (.isub, 1) := by decide +kernel
theorem dX0_numberFor_48 : decode cX0_numberFor 48 = .ok (.ireturn, 1) := by decide +kernel
theorem dX1_init_0 : decode cX1_init 0 = .ok (.aload_n 0, 1) := by decide +kernel
theorem dX1_init_1 : decode cX1_init 1 = .ok (.invokespecial 3, 3) := by decide +kernel
theorem dX1_init_4 : decode cX1_init 4 = .ok (.aload_n 0, 1) := by decide +kernel
theorem dX1_init_5 : decode cX1_init 5 = .ok (.sipush 256, 3) := by decide +kernel
theorem dX1_init_8 : decode cX1_init 8 = .ok (.newarray .long, 2) := by decide +kernel
theorem dX1_init_10 : decode cX1_init 10 = .ok (.putfield 9, 3) := by decide +kernel
theorem dX1_init_13 : decode cX1_init 13 = .ok (.aload_n 0, 1) := by decide +kernel
theorem dX1_init_14 : decode cX1_init 14 = .ok (.bipush 8, 2) := by decide +kernel
theorem dX1_init_16 : decode cX1_init 16 = .ok (.newarray .long, 2) := by decide +kernel
theorem dX1_init_18 : decode cX1_init 18 = .ok (.putfield 15, 3) := by decide +kernel
theorem dX1_init_21 : decode cX1_init 21 = .ok (.aload_n 0, 1) := by decide +kernel
theorem dX1_init_22 : decode cX1_init 22 = .ok (.iconst (-1), 1) := by decide +kernel
theorem dX1_init_23 : decode cX1_init 23 = .ok (.putfield 18, 3) := by decide +kernel
theorem dX1_init_26 : decode cX1_init 26 = .ok (.aload_n 0, 1) := by decide +kernel
theorem dX1_init_27 : decode cX1_init 27 = .ok (.aload_n 1, 1) := by decide +kernel
theorem dX1_init_28 : decode cX1_init 28 = .ok (.putfield 22, 3) := by decide +kernel
theorem dX1_init_31 : decode cX1_init 31 = .ok (.return_, 1) := by decide +kernel
set_option maxRecDepth 20000 in
theorem ggX1_now_X1_meetings : GoodIn wsX1_now wsX1_meetings := goodIn_r _ [5, 6, 7, 8, 9, 10, 11, 12] (by decide +kernel) (by decide +kernel)
set_option maxRecDepth 20000 in
theorem gX1_now_X1_meetings : GoodIn wsX1_now (va_wsS RX1 31 yX1_meetings wsX1_meetings) := goodIn_app (goodIn_of _ (by decide +kernel)) ggX1_now_X1_meetings
theorem dX1_now_0 : decode cX1_now 0 = .ok (.aload_n 0, 1) := by decide +kernel
theorem dX1_now_1 : decode cX1_now 1 = .ok (.getfield 22, 3) := by decide +kernel
theorem dX1_now_4 : decode cX1_now 4 = .ok (.getfield 26, 3) := by decide +kernel
theorem dX1_now_7 : decode cX1_now 7 = .ok (.invokestatic 31, 3) := by decide +kernel
theorem dX1_now_10 : decode cX1_now 10 = .ok (.lreturn, 1) := by decide +kernel
set_option maxRecDepth 20000 in
theorem ggX1_partsNow_X4_meeting : GoodIn wsX1_partsNow wsX4_meeting := goodIn_r _ [5, 6, 7, 4, 8] (by decide +kernel) (by decide +kernel)
set_option maxRecDepth 20000 in
theorem gX1_partsNow_X4_meeting : GoodIn wsX1_partsNow (va_wsS RX1 35 yX4_meeting wsX4_meeting) := goodIn_app (goodIn_of _ (by decide +kernel)) ggX1_partsNow_X4_meeting
theorem dX1_partsNow_0 : decode cX1_partsNow 0 = .ok (.iconst 0, 1) := by decide +kernel
theorem dX1_partsNow_1 : decode cX1_partsNow 1 = .ok (.istore_n 1, 1) := by decide +kernel
theorem dX1_partsNow_2 : decode cX1_partsNow 2 = .ok (.iconst 0, 1) := by decide +kernel
theorem dX1_partsNow_3 : decode cX1_partsNow 3 = .ok (.istore_n 2, 1) := by decide +kernel
theorem dX1_partsNow_4 : decode cX1_partsNow 4 = .ok (.iload_n 2, 1) := by decide +kernel
theorem dX1_partsNow_5 : decode cX1_partsNow 5 = .ok (.bipush 8, 2) := by decide +kernel
theorem dX1_partsNow_7 : decode cX1_partsNow 7 = .ok (.if_icmp .ge 32, 3) := by decide +kernel
theorem dX1_partsNow_10 : decode cX1_partsNow 10 = .ok (.iload_n 1, 1) := by decide +kernel
theorem dX1_partsNow_11 : decode cX1_partsNow 11 = .ok (.aload_n 0, 1) := by decide +kernel
theorem dX1_partsNow_12 : decode cX1_partsNow 12 = .ok (.getfield 22, 3) := by decide +kernel
theorem dX1_partsNow_15 : decode cX1_partsNow 15 = .ok (.getfield 26, 3) := by decide +kernel
theorem dX1_partsNow_18 : decode cX1_partsNow 18 = .ok (.iload_n 2, 1) := by decide +kernel
theorem dX1_partsNow_19 : decode cX1_partsNow 19 = .ok (.laload, 1) := by decide +kernel
theorem dX1_partsNow_20 : decode cX1_partsNow 20 = .ok (.invokestatic 35, 3) := by decide +kernel
theorem dX1_partsNow_23 : decode cX1_partsNow 23 = .ok (.ifCond .eq 7, 3) := by decide +kernel
theorem dX1_partsNow_26 : decode cX1_partsNow 26 = .ok (.iconst 1, 1) := by decide +kernel
theorem dX1_partsNow_27 : decode cX1_partsNow 27 = .ok (.goto 4, 3) := by decide +kernel
theorem dX1_partsNow_30 : decode cX1_partsNow 30 = .ok (.iconst 0, 1) := by decide +kernel
theorem dX1_partsNow_31 : decode cX1_partsNow 31 = .ok (.iadd, 1) := by decide +kernel
theorem dX1_partsNow_32 : decode cX1_partsNow 32 = .ok (.istore_n 1, 1) := by decide +kernel
theorem dX1_partsNow_33 : decode cX1_partsNow 33 = .ok (.iinc 2 1, 3) := by decide +kernel
theorem dX1_partsNow_36 : decode cX1_partsNow 36 = .ok (.goto (-32), 3) := by decide +kernel
theorem dX1_partsNow_39 : decode cX1_partsNow 39 = .ok (.iload_n 1, 1) := by decide +kernel
theorem dX1_partsNow_40 : decode cX1_partsNow 40 = .ok (.ireturn, 1) := by decide +kernel
set_option maxRecDepth 20000 in
theorem ggX1_at_X1_now : GoodIn wsX1_at wsX1_now := goodIn_r _ [5, 6, 7, 8, 4, 9, 10, 11, 12, 13, 14, 15, 16, 20, 21, 22, 23, 24, 25, 26, 27, 28, 29, 30, 31] (by decide +kernel) (by decide +kernel)
set_option maxRecDepth 20000 in
theorem gX1_at_X1_now : GoodIn wsX1_at (wsV RX1 41 RX1 yX1_now wsX1_now) := goodIn_app (goodIn_of _ (by decide +kernel)) ggX1_at_X1_now
set_option maxRecDepth 20000 in
theorem ggX1_at_X6_isSet : GoodIn wsX1_at wsX6_isSet := goodIn_r _ [19] (by decide +kernel) (by decide +kernel)
set_option maxRecDepth 20000 in
theorem gX1_at_X6_isSet_n45 : GoodIn wsX1_at (wsX6_isSet) := ggX1_at_X6_isSet
theorem dX1_at_0 : decode cX1_at 0 = .ok (.aload_n 0, 1) := by decide +kernel
theorem dX1_at_1 : decode cX1_at 1 = .ok (.invokevirtual 41, 3) := by decide +kernel
theorem dX1_at_4 : decode cX1_at 4 = .ok (.lstore_n 2, 1) := by decide +kernel
theorem dX1_at_5 : decode cX1_at 5 = .ok (.iconst 0, 1) := by decide +kernel
theorem dX1_at_6 : decode cX1_at 6 = .ok (.istore 4, 2) := by decide +kernel
theorem dX1_at_8 : decode cX1_at 8 = .ok (.iconst 0, 1) := by decide +kernel
theorem dX1_at_9 : decode cX1_at 9 = .ok (.istore 5, 2) := by decide +kernel
theorem dX1_at_11 : decode cX1_at 11 = .ok (.iload 5, 2) := by decide +kernel
theorem dX1_at_13 : decode cX1_at 13 = .ok (.bipush 48, 2) := by decide +kernel
theorem dX1_at_15 : decode cX1_at 15 = .ok (.if_icmp .ge 30, 3) := by decide +kernel
theorem dX1_at_18 : decode cX1_at 18 = .ok (.lload_n 2, 1) := by decide +kernel
theorem dX1_at_19 : decode cX1_at 19 = .ok (.iload 5, 2) := by decide +kernel
theorem dX1_at_21 : decode cX1_at 21 = .ok (.invokestatic 45, 3) := by decide +kernel
theorem dX1_at_24 : decode cX1_at 24 = .ok (.ifCond .eq 15, 3) := by decide +kernel
theorem dX1_at_27 : decode cX1_at 27 = .ok (.iload 4, 2) := by decide +kernel
theorem dX1_at_29 : decode cX1_at 29 = .ok (.iload_n 1, 1) := by decide +kernel
theorem dX1_at_30 : decode cX1_at 30 = .ok (.if_icmp .ne 6, 3) := by decide +kernel
theorem dX1_at_33 : decode cX1_at 33 = .ok (.iload 5, 2) := by decide +kernel
theorem dX1_at_35 : decode cX1_at 35 = .ok (.ireturn, 1) := by decide +kernel
theorem dX1_at_36 : decode cX1_at 36 = .ok (.iinc 4 1, 3) := by decide +kernel
theorem dX1_at_39 : decode cX1_at 39 = .ok (.iinc 5 1, 3) := by decide +kernel
theorem dX1_at_42 : decode cX1_at 42 = .ok (.goto (-31), 3) := by decide +kernel
theorem dX1_at_45 : decode cX1_at 45 = .ok (.iconst (-1), 1) := by decide +kernel
theorem dX1_at_46 : decode cX1_at 46 = .ok (.ireturn, 1) := by decide +kernel
set_option maxRecDepth 20000 in
theorem ggX1_fewestFor_X1_now : GoodIn wsX1_fewestFor wsX1_now := goodIn_r _ [7, 1, 8, 9, 6, 10, 11, 12, 13, 14, 15, 16, 17, 49, 50, 51, 52, 53, 54, 55, 56, 57, 58, 59, 60] (by decide +kernel) (by decide +kernel)
set_option maxRecDepth 20000 in
theorem gX1_fewestFor_X1_now : GoodIn wsX1_fewestFor (wsV RX1 41 RX1 yX1_now wsX1_now) := goodIn_app (goodIn_of _ (by decide +kernel)) ggX1_fewestFor_X1_now
set_option maxRecDepth 20000 in
theorem ggX1_fewestFor_X6_isSet : GoodIn wsX1_fewestFor wsX6_isSet := goodIn_r _ [20] (by decide +kernel) (by decide +kernel)
set_option maxRecDepth 20000 in
theorem gX1_fewestFor_X6_isSet_n45 : GoodIn wsX1_fewestFor (wsX6_isSet) := ggX1_fewestFor_X6_isSet
set_option maxRecDepth 20000 in
theorem ggX1_fewestFor_X1_keepAll : GoodIn wsX1_fewestFor wsX1_keepAll := goodIn_r _ [24, 25, 1, 26, 2, 27, 28, 29, 30, 31, 32, 18, 19, 20, 33, 34, 35, 36, 37, 8, 9, 6, 10, 11, 12, 13, 14, 15, 16, 17, 49, 50, 51, 52, 53, 54, 55, 56, 57, 58, 59, 60] (by decide +kernel) (by decide +kernel)
set_option maxRecDepth 20000 in
theorem gX1_fewestFor_X1_keepAll : GoodIn wsX1_fewestFor (wsV RX1 49 RX1 yX1_keepAll wsX1_keepAll) := goodIn_app (goodIn_of _ (by decide +kernel)) ggX1_fewestFor_X1_keepAll
set_option maxRecDepth 20000 in
theorem ggX1_fewestFor_X1_isFewer : GoodIn wsX1_fewestFor wsX1_isFewer := goodIn_r _ [41, 1, 42, 43, 44, 45, 46, 47, 48, 49, 50, 51, 52, 53, 54, 55, 56, 57, 58, 59, 60] (by decide +kernel) (by decide +kernel)
set_option maxRecDepth 20000 in
theorem gX1_fewestFor_X1_isFewer : GoodIn wsX1_fewestFor (wsV RX1 55 RX1 yX1_isFewer wsX1_isFewer) := goodIn_app (goodIn_of _ (by decide +kernel)) ggX1_fewestFor_X1_isFewer
theorem dX1_fewestFor_0 : decode cX1_fewestFor 0 = .ok (.aload_n 0, 1) := by decide +kernel
theorem dX1_fewestFor_1 : decode cX1_fewestFor 1 = .ok (.invokevirtual 41, 3) := by decide +kernel
theorem dX1_fewestFor_4 : decode cX1_fewestFor 4 = .ok (.iload_n 1, 1) := by decide +kernel
theorem dX1_fewestFor_5 : decode cX1_fewestFor 5 = .ok (.invokestatic 45, 3) := by decide +kernel
theorem dX1_fewestFor_8 : decode cX1_fewestFor 8 = .ok (.ifCond .ne 5, 3) := by decide +kernel
theorem dX1_fewestFor_11 : decode cX1_fewestFor 11 = .ok (.iconst (-1), 1) := by decide +kernel
theorem dX1_fewestFor_12 : decode cX1_fewestFor 12 = .ok (.ireturn, 1) := by decide +kernel
theorem dX1_fewestFor_13 : decode cX1_fewestFor 13 = .ok (.aload_n 0, 1) := by decide +kernel
theorem dX1_fewestFor_14 : decode cX1_fewestFor 14 = .ok (.invokevirtual 49, 3) := by decide +kernel
theorem dX1_fewestFor_17 : decode cX1_fewestFor 17 = .ok (.aload_n 0, 1) := by decide +kernel
theorem dX1_fewestFor_18 : decode cX1_fewestFor 18 = .ok (.getfield 22, 3) := by decide +kernel
theorem dX1_fewestFor_21 : decode cX1_fewestFor 21 = .ok (.getfield 52, 3) := by decide +kernel
theorem dX1_fewestFor_24 : decode cX1_fewestFor 24 = .ok (.istore_n 2, 1) := by decide +kernel
theorem dX1_fewestFor_25 : decode cX1_fewestFor 25 = .ok (.iconst 0, 1) := by decide +kernel
theorem dX1_fewestFor_26 : decode cX1_fewestFor 26 = .ok (.istore_n 3, 1) := by decide +kernel
theorem dX1_fewestFor_27 : decode cX1_fewestFor 27 = .ok (.iload_n 3, 1) := by decide +kernel
theorem dX1_fewestFor_28 : decode cX1_fewestFor 28 = .ok (.sipush 256, 3) := by decide +kernel
theorem dX1_fewestFor_31 : decode cX1_fewestFor 31 = .ok (.if_icmp .ge 33, 3) := by decide +kernel
theorem dX1_fewestFor_34 : decode cX1_fewestFor 34 = .ok (.aload_n 0, 1) := by decide +kernel
theorem dX1_fewestFor_35 : decode cX1_fewestFor 35 = .ok (.getfield 9, 3) := by decide +kernel
theorem dX1_fewestFor_38 : decode cX1_fewestFor 38 = .ok (.iload_n 3, 1) := by decide +kernel
theorem dX1_fewestFor_39 : decode cX1_fewestFor 39 = .ok (.laload, 1) := by decide +kernel
theorem dX1_fewestFor_40 : decode cX1_fewestFor 40 = .ok (.iload_n 1, 1) := by decide +kernel
theorem dX1_fewestFor_41 : decode cX1_fewestFor 41 = .ok (.invokestatic 45, 3) := by decide +kernel
theorem dX1_fewestFor_44 : decode cX1_fewestFor 44 = .ok (.ifCond .eq 14, 3) := by decide +kernel
theorem dX1_fewestFor_47 : decode cX1_fewestFor 47 = .ok (.aload_n 0, 1) := by decide +kernel
theorem dX1_fewestFor_48 : decode cX1_fewestFor 48 = .ok (.iload_n 3, 1) := by decide +kernel
theorem dX1_fewestFor_49 : decode cX1_fewestFor 49 = .ok (.iload_n 2, 1) := by decide +kernel
theorem dX1_fewestFor_50 : decode cX1_fewestFor 50 = .ok (.invokevirtual 55, 3) := by decide +kernel
theorem dX1_fewestFor_53 : decode cX1_fewestFor 53 = .ok (.ifCond .eq 5, 3) := by decide +kernel
theorem dX1_fewestFor_56 : decode cX1_fewestFor 56 = .ok (.iload_n 3, 1) := by decide +kernel
theorem dX1_fewestFor_57 : decode cX1_fewestFor 57 = .ok (.istore_n 2, 1) := by decide +kernel
theorem dX1_fewestFor_58 : decode cX1_fewestFor 58 = .ok (.iinc 3 1, 3) := by decide +kernel
theorem dX1_fewestFor_61 : decode cX1_fewestFor 61 = .ok (.goto (-34), 3) := by decide +kernel
theorem dX1_fewestFor_64 : decode cX1_fewestFor 64 = .ok (.iload_n 2, 1) := by decide +kernel
theorem dX1_fewestFor_65 : decode cX1_fewestFor 65 = .ok (.ireturn, 1) := by decide +kernel
set_option maxRecDepth 20000 in
theorem ggX1_fewestToLeave_X1_now : GoodIn wsX1_fewestToLeave wsX1_now := goodIn_r _ [7, 1, 8, 9, 6, 10, 11, 12, 13, 14, 15, 16, 17, 49, 50, 51, 52, 53, 54, 55, 56, 57, 58, 59, 60] (by decide +kernel) (by decide +kernel)
set_option maxRecDepth 20000 in
theorem gX1_fewestToLeave_X1_now : GoodIn wsX1_fewestToLeave (wsV RX1 41 RX1 yX1_now wsX1_now) := goodIn_app (goodIn_of _ (by decide +kernel)) ggX1_fewestToLeave_X1_now
set_option maxRecDepth 20000 in
theorem ggX1_fewestToLeave_X1_keepAll : GoodIn wsX1_fewestToLeave wsX1_keepAll := goodIn_r _ [21, 22, 1, 23, 2, 24, 25, 26, 27, 28, 29, 30, 31, 32, 33, 34, 35, 36, 37, 8, 9, 6, 10, 11, 12, 13, 14, 15, 16, 17, 49, 50, 51, 52, 53, 54, 55, 56, 57, 58, 59, 60] (by decide +kernel) (by decide +kernel)
set_option maxRecDepth 20000 in
theorem gX1_fewestToLeave_X1_keepAll : GoodIn wsX1_fewestToLeave (wsV RX1 49 RX1 yX1_keepAll wsX1_keepAll) := goodIn_app (goodIn_of _ (by decide +kernel)) ggX1_fewestToLeave_X1_keepAll
set_option maxRecDepth 20000 in
theorem ggX1_fewestToLeave_X1_isFewer : GoodIn wsX1_fewestToLeave wsX1_isFewer := goodIn_r _ [41, 1, 42, 43, 44, 45, 46, 47, 48, 49, 50, 51, 52, 53, 54, 55, 56, 57, 58, 59, 60] (by decide +kernel) (by decide +kernel)
set_option maxRecDepth 20000 in
theorem gX1_fewestToLeave_X1_isFewer : GoodIn wsX1_fewestToLeave (wsV RX1 55 RX1 yX1_isFewer wsX1_isFewer) := goodIn_app (goodIn_of _ (by decide +kernel)) ggX1_fewestToLeave_X1_isFewer
theorem dX1_fewestToLeave_0 : decode cX1_fewestToLeave 0 = .ok (.aload_n 0, 1) := by decide +kernel
theorem dX1_fewestToLeave_1 : decode cX1_fewestToLeave 1 = .ok (.invokevirtual 41, 3) := by decide +kernel
theorem dX1_fewestToLeave_4 : decode cX1_fewestToLeave 4 = .ok (.lconst 0, 1) := by decide +kernel
theorem dX1_fewestToLeave_5 : decode cX1_fewestToLeave 5 = .ok (.lcmp, 1) := by decide +kernel
theorem dX1_fewestToLeave_6 : decode cX1_fewestToLeave 6 = .ok (.ifCond .ne 5, 3) := by decide +kernel
theorem dX1_fewestToLeave_9 : decode cX1_fewestToLeave 9 = .ok (.iconst 0, 1) := by decide +kernel
theorem dX1_fewestToLeave_10 : decode cX1_fewestToLeave 10 = .ok (.ireturn, 1) := by decide +kernel
theorem dX1_fewestToLeave_11 : decode cX1_fewestToLeave 11 = .ok (.aload_n 0, 1) := by decide +kernel
theorem dX1_fewestToLeave_12 : decode cX1_fewestToLeave 12 = .ok (.invokevirtual 49, 3) := by decide +kernel
theorem dX1_fewestToLeave_15 : decode cX1_fewestToLeave 15 = .ok (.aload_n 0, 1) := by decide +kernel
theorem dX1_fewestToLeave_16 : decode cX1_fewestToLeave 16 = .ok (.getfield 22, 3) := by decide +kernel
theorem dX1_fewestToLeave_19 : decode cX1_fewestToLeave 19 = .ok (.getfield 52, 3) := by decide +kernel
theorem dX1_fewestToLeave_22 : decode cX1_fewestToLeave 22 = .ok (.istore_n 1, 1) := by decide +kernel
theorem dX1_fewestToLeave_23 : decode cX1_fewestToLeave 23 = .ok (.iconst 0, 1) := by decide +kernel
theorem dX1_fewestToLeave_24 : decode cX1_fewestToLeave 24 = .ok (.istore_n 2, 1) := by decide +kernel
theorem dX1_fewestToLeave_25 : decode cX1_fewestToLeave 25 = .ok (.iload_n 2, 1) := by decide +kernel
theorem dX1_fewestToLeave_26 : decode cX1_fewestToLeave 26 = .ok (.sipush 256, 3) := by decide +kernel
theorem dX1_fewestToLeave_29 : decode cX1_fewestToLeave 29 = .ok (.if_icmp .ge 41, 3) := by decide +kernel
theorem dX1_fewestToLeave_32 : decode cX1_fewestToLeave 32 = .ok (.aload_n 0, 1) := by decide +kernel
theorem dX1_fewestToLeave_33 : decode cX1_fewestToLeave 33 = .ok (.getfield 9, 3) := by decide +kernel
theorem dX1_fewestToLeave_36 : decode cX1_fewestToLeave 36 = .ok (.aload_n 0, 1) := by decide +kernel
theorem dX1_fewestToLeave_37 : decode cX1_fewestToLeave 37 = .ok (.getfield 22, 3) := by decide +kernel
theorem dX1_fewestToLeave_40 : decode cX1_fewestToLeave 40 = .ok (.getfield 52, 3) := by decide +kernel
theorem dX1_fewestToLeave_43 : decode cX1_fewestToLeave 43 = .ok (.iload_n 2, 1) := by decide +kernel
theorem dX1_fewestToLeave_44 : decode cX1_fewestToLeave 44 = .ok (.iconst (-1), 1) := by decide +kernel
theorem dX1_fewestToLeave_45 : decode cX1_fewestToLeave 45 = .ok (.ixor, 1) := by decide +kernel
theorem dX1_fewestToLeave_46 : decode cX1_fewestToLeave 46 = .ok (.iand, 1) := by decide +kernel
theorem dX1_fewestToLeave_47 : decode cX1_fewestToLeave 47 = .ok (.laload, 1) := by decide +kernel
theorem dX1_fewestToLeave_48 : decode cX1_fewestToLeave 48 = .ok (.lconst 0, 1) := by decide +kernel
theorem dX1_fewestToLeave_49 : decode cX1_fewestToLeave 49 = .ok (.lcmp, 1) := by decide +kernel
theorem dX1_fewestToLeave_50 : decode cX1_fewestToLeave 50 = .ok (.ifCond .ne 14, 3) := by decide +kernel
theorem dX1_fewestToLeave_53 : decode cX1_fewestToLeave 53 = .ok (.aload_n 0, 1) := by decide +kernel
theorem dX1_fewestToLeave_54 : decode cX1_fewestToLeave 54 = .ok (.iload_n 2, 1) := by decide +kernel
theorem dX1_fewestToLeave_55 : decode cX1_fewestToLeave 55 = .ok (.iload_n 1, 1) := by decide +kernel
theorem dX1_fewestToLeave_56 : decode cX1_fewestToLeave 56 = .ok (.invokevirtual 55, 3) := by decide +kernel
theorem dX1_fewestToLeave_59 : decode cX1_fewestToLeave 59 = .ok (.ifCond .eq 5, 3) := by decide +kernel
theorem dX1_fewestToLeave_62 : decode cX1_fewestToLeave 62 = .ok (.iload_n 2, 1) := by decide +kernel
theorem dX1_fewestToLeave_63 : decode cX1_fewestToLeave 63 = .ok (.istore_n 1, 1) := by decide +kernel
theorem dX1_fewestToLeave_64 : decode cX1_fewestToLeave 64 = .ok (.iinc 2 1, 3) := by decide +kernel
theorem dX1_fewestToLeave_67 : decode cX1_fewestToLeave 67 = .ok (.goto (-42), 3) := by decide +kernel
theorem dX1_fewestToLeave_70 : decode cX1_fewestToLeave 70 = .ok (.iload_n 1, 1) := by decide +kernel
theorem dX1_fewestToLeave_71 : decode cX1_fewestToLeave 71 = .ok (.ireturn, 1) := by decide +kernel
set_option maxRecDepth 20000 in
theorem ggX1_isFewer_J6_bitCount_0f7a4 : GoodIn wsX1_isFewer wsJ6_bitCount_0f7a4 := goodIn_r _ [5, 6, 7, 8] (by decide +kernel) (by decide +kernel)
set_option maxRecDepth 20000 in
theorem gX1_isFewer_J6_bitCount_0f7a4 : GoodIn wsX1_isFewer (va_wsS RX1 59 yJ6_bitCount_0f7a4 wsJ6_bitCount_0f7a4) := goodIn_app (goodIn_of _ (by decide +kernel)) ggX1_isFewer_J6_bitCount_0f7a4
theorem dX1_isFewer_0 : decode cX1_isFewer 0 = .ok (.iload_n 1, 1) := by decide +kernel
theorem dX1_isFewer_1 : decode cX1_isFewer 1 = .ok (.aload_n 0, 1) := by decide +kernel
theorem dX1_isFewer_2 : decode cX1_isFewer 2 = .ok (.getfield 22, 3) := by decide +kernel
theorem dX1_isFewer_5 : decode cX1_isFewer 5 = .ok (.getfield 52, 3) := by decide +kernel
theorem dX1_isFewer_8 : decode cX1_isFewer 8 = .ok (.iconst (-1), 1) := by decide +kernel
theorem dX1_isFewer_9 : decode cX1_isFewer 9 = .ok (.ixor, 1) := by decide +kernel
theorem dX1_isFewer_10 : decode cX1_isFewer 10 = .ok (.iand, 1) := by decide +kernel
theorem dX1_isFewer_11 : decode cX1_isFewer 11 = .ok (.ifCond .ne 18, 3) := by decide +kernel
theorem dX1_isFewer_14 : decode cX1_isFewer 14 = .ok (.iload_n 1, 1) := by decide +kernel
theorem dX1_isFewer_15 : decode cX1_isFewer 15 = .ok (.invokestatic 59, 3) := by decide +kernel
theorem dX1_isFewer_18 : decode cX1_isFewer 18 = .ok (.iload_n 2, 1) := by decide +kernel
theorem dX1_isFewer_19 : decode cX1_isFewer 19 = .ok (.invokestatic 59, 3) := by decide +kernel
theorem dX1_isFewer_22 : decode cX1_isFewer 22 = .ok (.if_icmp .ge 7, 3) := by decide +kernel
theorem dX1_isFewer_25 : decode cX1_isFewer 25 = .ok (.iconst 1, 1) := by decide +kernel
theorem dX1_isFewer_26 : decode cX1_isFewer 26 = .ok (.goto 4, 3) := by decide +kernel
theorem dX1_isFewer_29 : decode cX1_isFewer 29 = .ok (.iconst 0, 1) := by decide +kernel
theorem dX1_isFewer_30 : decode cX1_isFewer 30 = .ok (.ireturn, 1) := by decide +kernel
set_option maxRecDepth 20000 in
theorem ggX1_keepAll_X3_spread : GoodIn wsX1_keepAll wsX3_spread := goodIn_r _ [9, 10, 11, 12, 13, 14, 15, 16, 8, 17, 18, 34, 35, 36, 37, 38, 39, 40, 41] (by decide +kernel) (by decide +kernel)
set_option maxRecDepth 20000 in
theorem gX1_keepAll_X3_spread : GoodIn wsX1_keepAll (wsV RX1 68 RX3 yX3_spread wsX3_spread) := goodIn_app (goodIn_of _ (by decide +kernel)) ggX1_keepAll_X3_spread
set_option maxRecDepth 20000 in
theorem ggX1_keepAll_X1_meetings : GoodIn wsX1_keepAll wsX1_meetings := goodIn_r _ [22, 23, 24, 25, 26, 27, 28, 29] (by decide +kernel) (by decide +kernel)
set_option maxRecDepth 20000 in
theorem gX1_keepAll_X1_meetings : GoodIn wsX1_keepAll (va_wsS RX1 31 yX1_meetings wsX1_meetings) := goodIn_app (goodIn_of _ (by decide +kernel)) ggX1_keepAll_X1_meetings
theorem dX1_keepAll_0 : decode cX1_keepAll 0 = .ok (.aload_n 0, 1) := by decide +kernel
theorem dX1_keepAll_1 : decode cX1_keepAll 1 = .ok (.getfield 18, 3) := by decide +kernel
theorem dX1_keepAll_4 : decode cX1_keepAll 4 = .ok (.aload_n 0, 1) := by decide +kernel
theorem dX1_keepAll_5 : decode cX1_keepAll 5 = .ok (.getfield 22, 3) := by decide +kernel
theorem dX1_keepAll_8 : decode cX1_keepAll 8 = .ok (.getfield 65, 3) := by decide +kernel
theorem dX1_keepAll_11 : decode cX1_keepAll 11 = .ok (.if_icmp .ne 4, 3) := by decide +kernel
theorem dX1_keepAll_14 : decode cX1_keepAll 14 = .ok (.return_, 1) := by decide +kernel
theorem dX1_keepAll_15 : decode cX1_keepAll 15 = .ok (.iconst 0, 1) := by decide +kernel
theorem dX1_keepAll_16 : decode cX1_keepAll 16 = .ok (.istore_n 1, 1) := by decide +kernel
theorem dX1_keepAll_17 : decode cX1_keepAll 17 = .ok (.iload_n 1, 1) := by decide +kernel
theorem dX1_keepAll_18 : decode cX1_keepAll 18 = .ok (.sipush 256, 3) := by decide +kernel
theorem dX1_keepAll_21 : decode cX1_keepAll 21 = .ok (.if_icmp .ge 48, 3) := by decide +kernel
theorem dX1_keepAll_24 : decode cX1_keepAll 24 = .ok (.iload_n 1, 1) := by decide +kernel
theorem dX1_keepAll_25 : decode cX1_keepAll 25 = .ok (.aload_n 0, 1) := by decide +kernel
theorem dX1_keepAll_26 : decode cX1_keepAll 26 = .ok (.getfield 22, 3) := by decide +kernel
theorem dX1_keepAll_29 : decode cX1_keepAll 29 = .ok (.getfield 52, 3) := by decide +kernel
theorem dX1_keepAll_32 : decode cX1_keepAll 32 = .ok (.iconst (-1), 1) := by decide +kernel
theorem dX1_keepAll_33 : decode cX1_keepAll 33 = .ok (.ixor, 1) := by decide +kernel
theorem dX1_keepAll_34 : decode cX1_keepAll 34 = .ok (.iand, 1) := by decide +kernel
theorem dX1_keepAll_35 : decode cX1_keepAll 35 = .ok (.ifCond .ne 28, 3) := by decide +kernel
theorem dX1_keepAll_38 : decode cX1_keepAll 38 = .ok (.aload_n 0, 1) := by decide +kernel
theorem dX1_keepAll_39 : decode cX1_keepAll 39 = .ok (.getfield 22, 3) := by decide +kernel
theorem dX1_keepAll_42 : decode cX1_keepAll 42 = .ok (.iload_n 1, 1) := by decide +kernel
theorem dX1_keepAll_43 : decode cX1_keepAll 43 = .ok (.aload_n 0, 1) := by decide +kernel
theorem dX1_keepAll_44 : decode cX1_keepAll 44 = .ok (.getfield 15, 3) := by decide +kernel
theorem dX1_keepAll_47 : decode cX1_keepAll 47 = .ok (.invokevirtual 68, 3) := by decide +kernel
theorem dX1_keepAll_50 : decode cX1_keepAll 50 = .ok (.aload_n 0, 1) := by decide +kernel
theorem dX1_keepAll_51 : decode cX1_keepAll 51 = .ok (.getfield 9, 3) := by decide +kernel
theorem dX1_keepAll_54 : decode cX1_keepAll 54 = .ok (.iload_n 1, 1) := by decide +kernel
theorem dX1_keepAll_55 : decode cX1_keepAll 55 = .ok (.aload_n 0, 1) := by decide +kernel
theorem dX1_keepAll_56 : decode cX1_keepAll 56 = .ok (.getfield 15, 3) := by decide +kernel
theorem dX1_keepAll_59 : decode cX1_keepAll 59 = .ok (.invokestatic 31, 3) := by decide +kernel
theorem dX1_keepAll_62 : decode cX1_keepAll 62 = .ok (.lastore, 1) := by decide +kernel
theorem dX1_keepAll_63 : decode cX1_keepAll 63 = .ok (.iinc 1 1, 3) := by decide +kernel
theorem dX1_keepAll_66 : decode cX1_keepAll 66 = .ok (.goto (-49), 3) := by decide +kernel
theorem dX1_keepAll_69 : decode cX1_keepAll 69 = .ok (.aload_n 0, 1) := by decide +kernel
theorem dX1_keepAll_70 : decode cX1_keepAll 70 = .ok (.aload_n 0, 1) := by decide +kernel
theorem dX1_keepAll_71 : decode cX1_keepAll 71 = .ok (.getfield 22, 3) := by decide +kernel
theorem dX1_keepAll_74 : decode cX1_keepAll 74 = .ok (.getfield 65, 3) := by decide +kernel
theorem dX1_keepAll_77 : decode cX1_keepAll 77 = .ok (.putfield 18, 3) := by decide +kernel
theorem dX1_keepAll_80 : decode cX1_keepAll 80 = .ok (.return_, 1) := by decide +kernel
set_option maxRecDepth 20000 in
theorem ggX1_meetings_X4_meeting : GoodIn wsX1_meetings wsX4_meeting := goodIn_r _ [4, 5, 6, 3, 7] (by decide +kernel) (by decide +kernel)
set_option maxRecDepth 20000 in
theorem gX1_meetings_X4_meeting : GoodIn wsX1_meetings (va_wsS RX1 35 yX4_meeting wsX4_meeting) := goodIn_app (goodIn_of _ (by decide +kernel)) ggX1_meetings_X4_meeting
theorem dX1_meetings_0 : decode cX1_meetings 0 = .ok (.lconst 0, 1) := by decide +kernel
theorem dX1_meetings_1 : decode cX1_meetings 1 = .ok (.lstore_n 1, 1) := by decide +kernel
theorem dX1_meetings_2 : decode cX1_meetings 2 = .ok (.iconst 0, 1) := by decide +kernel
theorem dX1_meetings_3 : decode cX1_meetings 3 = .ok (.istore_n 3, 1) := by decide +kernel
theorem dX1_meetings_4 : decode cX1_meetings 4 = .ok (.iload_n 3, 1) := by decide +kernel
theorem dX1_meetings_5 : decode cX1_meetings 5 = .ok (.bipush 8, 2) := by decide +kernel
theorem dX1_meetings_7 : decode cX1_meetings 7 = .ok (.if_icmp .ge 24, 3) := by decide +kernel
theorem dX1_meetings_10 : decode cX1_meetings 10 = .ok (.lload_n 1, 1) := by decide +kernel
theorem dX1_meetings_11 : decode cX1_meetings 11 = .ok (.aload_n 0, 1) := by decide +kernel
theorem dX1_meetings_12 : decode cX1_meetings 12 = .ok (.iload_n 3, 1) := by decide +kernel
theorem dX1_meetings_13 : decode cX1_meetings 13 = .ok (.laload, 1) := by decide +kernel
theorem dX1_meetings_14 : decode cX1_meetings 14 = .ok (.invokestatic 35, 3) := by decide +kernel
theorem dX1_meetings_17 : decode cX1_meetings 17 = .ok (.i2l, 1) := by decide +kernel
theorem dX1_meetings_18 : decode cX1_meetings 18 = .ok (.iload_n 3, 1) := by decide +kernel
theorem dX1_meetings_19 : decode cX1_meetings 19 = .ok (.bipush 6, 2) := by decide +kernel
theorem dX1_meetings_21 : decode cX1_meetings 21 = .ok (.imul, 1) := by decide +kernel
theorem dX1_meetings_22 : decode cX1_meetings 22 = .ok (.lshl, 1) := by decide +kernel
theorem dX1_meetings_23 : decode cX1_meetings 23 = .ok (.lor, 1) := by decide +kernel
theorem dX1_meetings_24 : decode cX1_meetings 24 = .ok (.lstore_n 1, 1) := by decide +kernel
theorem dX1_meetings_25 : decode cX1_meetings 25 = .ok (.iinc 3 1, 3) := by decide +kernel
theorem dX1_meetings_28 : decode cX1_meetings 28 = .ok (.goto (-24), 3) := by decide +kernel
theorem dX1_meetings_31 : decode cX1_meetings 31 = .ok (.lload_n 1, 1) := by decide +kernel
theorem dX1_meetings_32 : decode cX1_meetings 32 = .ok (.lreturn, 1) := by decide +kernel
theorem dX2_init_0 : decode cX2_init 0 = .ok (.aload_n 0, 1) := by decide +kernel
theorem dX2_init_1 : decode cX2_init 1 = .ok (.invokespecial 3, 3) := by decide +kernel
theorem dX2_init_4 : decode cX2_init 4 = .ok (.aload_n 0, 1) := by decide +kernel
theorem dX2_init_5 : decode cX2_init 5 = .ok (.bipush 24, 2) := by decide +kernel
theorem dX2_init_7 : decode cX2_init 7 = .ok (.newarray .int, 2) := by decide +kernel
theorem dX2_init_9 : decode cX2_init 9 = .ok (.putfield 9, 3) := by decide +kernel
theorem dX2_init_12 : decode cX2_init 12 = .ok (.aload_n 0, 1) := by decide +kernel
theorem dX2_init_13 : decode cX2_init 13 = .ok (.iconst 0, 1) := by decide +kernel
theorem dX2_init_14 : decode cX2_init 14 = .ok (.putfield 15, 3) := by decide +kernel
theorem dX2_init_17 : decode cX2_init 17 = .ok (.return_, 1) := by decide +kernel
theorem dX2_write_0 : decode cX2_write 0 = .ok (.aload_n 0, 1) := by decide +kernel
theorem dX2_write_1 : decode cX2_write 1 = .ok (.getfield 15, 3) := by decide +kernel
theorem dX2_write_4 : decode cX2_write 4 = .ok (.bipush 24, 2) := by decide +kernel
theorem dX2_write_6 : decode cX2_write 6 = .ok (.if_icmp .ge 23, 3) := by decide +kernel
theorem dX2_write_9 : decode cX2_write 9 = .ok (.aload_n 0, 1) := by decide +kernel
theorem dX2_write_10 : decode cX2_write 10 = .ok (.getfield 9, 3) := by decide +kernel
theorem dX2_write_13 : decode cX2_write 13 = .ok (.aload_n 0, 1) := by decide +kernel
theorem dX2_write_14 : decode cX2_write 14 = .ok (.getfield 15, 3) := by decide +kernel
theorem dX2_write_17 : decode cX2_write 17 = .ok (.iload_n 1, 1) := by decide +kernel
theorem dX2_write_18 : decode cX2_write 18 = .ok (.iastore, 1) := by decide +kernel
theorem dX2_write_19 : decode cX2_write 19 = .ok (.aload_n 0, 1) := by decide +kernel
theorem dX2_write_20 : decode cX2_write 20 = .ok (.dup, 1) := by decide +kernel
theorem dX2_write_21 : decode cX2_write 21 = .ok (.getfield 15, 3) := by decide +kernel
theorem dX2_write_24 : decode cX2_write 24 = .ok (.iconst 1, 1) := by decide +kernel
theorem dX2_write_25 : decode cX2_write 25 = .ok (.iadd, 1) := by decide +kernel
theorem dX2_write_26 : decode cX2_write 26 = .ok (.putfield 15, 3) := by decide +kernel
theorem dX2_write_29 : decode cX2_write 29 = .ok (.aload_n 0, 1) := by decide +kernel
theorem dX2_write_30 : decode cX2_write 30 = .ok (.getfield 15, 3) := by decide +kernel
theorem dX2_write_33 : decode cX2_write 33 = .ok (.ireturn, 1) := by decide +kernel
theorem dX2_wipe_0 : decode cX2_wipe 0 = .ok (.aload_n 0, 1) := by decide +kernel
theorem dX2_wipe_1 : decode cX2_wipe 1 = .ok (.getfield 15, 3) := by decide +kernel
theorem dX2_wipe_4 : decode cX2_wipe 4 = .ok (.istore_n 1, 1) := by decide +kernel
theorem dX2_wipe_5 : decode cX2_wipe 5 = .ok (.aload_n 0, 1) := by decide +kernel
theorem dX2_wipe_6 : decode cX2_wipe 6 = .ok (.iconst 0, 1) := by decide +kernel
theorem dX2_wipe_7 : decode cX2_wipe 7 = .ok (.putfield 15, 3) := by decide +kernel
theorem dX2_wipe_10 : decode cX2_wipe 10 = .ok (.iload_n 1, 1) := by decide +kernel
theorem dX2_wipe_11 : decode cX2_wipe 11 = .ok (.ireturn, 1) := by decide +kernel
set_option maxRecDepth 20000 in
theorem ggX2_firstFault_X2_itemOf : GoodIn wsX2_firstFault wsX2_itemOf := goodIn_r _ [6] (by decide +kernel) (by decide +kernel)
set_option maxRecDepth 20000 in
theorem gX2_firstFault_X2_itemOf : GoodIn wsX2_firstFault (va_wsS RX2 19 yX2_itemOf wsX2_itemOf) := goodIn_app (goodIn_of _ (by decide +kernel)) ggX2_firstFault_X2_itemOf
set_option maxRecDepth 20000 in
theorem ggX2_firstFault_X2_reachOf : GoodIn wsX2_firstFault wsX2_reachOf := goodIn_r _ [9] (by decide +kernel) (by decide +kernel)
set_option maxRecDepth 20000 in
theorem gX2_firstFault_X2_reachOf : GoodIn wsX2_firstFault (va_wsS RX2 23 yX2_reachOf wsX2_reachOf) := goodIn_app (goodIn_of _ (by decide +kernel)) ggX2_firstFault_X2_reachOf
set_option maxRecDepth 20000 in
theorem ggX2_firstFault_X6_isSet : GoodIn wsX2_firstFault wsX6_isSet := goodIn_r _ [12] (by decide +kernel) (by decide +kernel)
set_option maxRecDepth 20000 in
theorem gX2_firstFault_X6_isSet_n26 : GoodIn wsX2_firstFault (wsX6_isSet) := ggX2_firstFault_X6_isSet
theorem dX2_firstFault_0 : decode cX2_firstFault 0 = .ok (.iconst 0, 1) := by decide +kernel
theorem dX2_firstFault_1 : decode cX2_firstFault 1 = .ok (.istore_n 1, 1) := by decide +kernel
theorem dX2_firstFault_2 : decode cX2_firstFault 2 = .ok (.iconst 0, 1) := by decide +kernel
theorem dX2_firstFault_3 : decode cX2_firstFault 3 = .ok (.istore_n 2, 1) := by decide +kernel
theorem dX2_firstFault_4 : decode cX2_firstFault 4 = .ok (.iconst 0, 1) := by decide +kernel
theorem dX2_firstFault_5 : decode cX2_firstFault 5 = .ok (.istore_n 3, 1) := by decide +kernel
theorem dX2_firstFault_6 : decode cX2_firstFault 6 = .ok (.iload_n 3, 1) := by decide +kernel
theorem dX2_firstFault_7 : decode cX2_firstFault 7 = .ok (.aload_n 0, 1) := by decide +kernel
theorem dX2_firstFault_8 : decode cX2_firstFault 8 = .ok (.getfield 15, 3) := by decide +kernel
theorem dX2_firstFault_11 : decode cX2_firstFault 11 = .ok (.if_icmp .ge 102, 3) := by decide +kernel
theorem dX2_firstFault_14 : decode cX2_firstFault 14 = .ok (.aload_n 0, 1) := by decide +kernel
theorem dX2_firstFault_15 : decode cX2_firstFault 15 = .ok (.getfield 9, 3) := by decide +kernel
theorem dX2_firstFault_18 : decode cX2_firstFault 18 = .ok (.iload_n 3, 1) := by decide +kernel
theorem dX2_firstFault_19 : decode cX2_firstFault 19 = .ok (.iaload, 1) := by decide +kernel
theorem dX2_firstFault_20 : decode cX2_firstFault 20 = .ok (.invokestatic 19, 3) := by decide +kernel
theorem dX2_firstFault_23 : decode cX2_firstFault 23 = .ok (.istore 4, 2) := by decide +kernel
theorem dX2_firstFault_25 : decode cX2_firstFault 25 = .ok (.iload 4, 2) := by decide +kernel
theorem dX2_firstFault_27 : decode cX2_firstFault 27 = .ok (.iconst (-1), 1) := by decide +kernel
theorem dX2_firstFault_28 : decode cX2_firstFault 28 = .ok (.if_icmp .ne 28, 3) := by decide +kernel
theorem dX2_firstFault_31 : decode cX2_firstFault 31 = .ok (.iload_n 2, 1) := by decide +kernel
theorem dX2_firstFault_32 : decode cX2_firstFault 32 = .ok (.ifCond .eq 20, 3) := by decide +kernel
theorem dX2_firstFault_35 : decode cX2_firstFault 35 = .ok (.aload_n 0, 1) := by decide +kernel
theorem dX2_firstFault_36 : decode cX2_firstFault 36 = .ok (.getfield 9, 3) := by decide +kernel
theorem dX2_firstFault_39 : decode cX2_firstFault 39 = .ok (.iload_n 3, 1) := by decide +kernel
theorem dX2_firstFault_40 : decode cX2_firstFault 40 = .ok (.iaload, 1) := by decide +kernel
theorem dX2_firstFault_41 : decode cX2_firstFault 41 = .ok (.invokestatic 23, 3) := by decide +kernel
theorem dX2_firstFault_44 : decode cX2_firstFault 44 = .ok (.iconst 1, 1) := by decide +kernel
theorem dX2_firstFault_45 : decode cX2_firstFault 45 = .ok (.if_icmp .eq 7, 3) := by decide +kernel
theorem dX2_firstFault_48 : decode cX2_firstFault 48 = .ok (.iconst 1, 1) := by decide +kernel
theorem dX2_firstFault_49 : decode cX2_firstFault 49 = .ok (.goto 22, 3) := by decide +kernel
theorem dX2_firstFault_52 : decode cX2_firstFault 52 = .ok (.iconst 0, 1) := by decide +kernel
theorem dX2_firstFault_53 : decode cX2_firstFault 53 = .ok (.goto 18, 3) := by decide +kernel
theorem dX2_firstFault_56 : decode cX2_firstFault 56 = .ok (.iload_n 1, 1) := by decide +kernel
theorem dX2_firstFault_57 : decode cX2_firstFault 57 = .ok (.i2l, 1) := by decide +kernel
theorem dX2_firstFault_58 : decode cX2_firstFault 58 = .ok (.iload 4, 2) := by decide +kernel
theorem dX2_firstFault_60 : decode cX2_firstFault 60 = .ok (.invokestatic 26, 3) := by decide +kernel
theorem dX2_firstFault_63 : decode cX2_firstFault 63 = .ok (.ifCond .ne 7, 3) := by decide +kernel
theorem dX2_firstFault_66 : decode cX2_firstFault 66 = .ok (.iconst 1, 1) := by decide +kernel
theorem dX2_firstFault_67 : decode cX2_firstFault 67 = .ok (.goto 4, 3) := by decide +kernel
theorem dX2_firstFault_70 : decode cX2_firstFault 70 = .ok (.iconst 0, 1) := by decide +kernel
theorem dX2_firstFault_71 : decode cX2_firstFault 71 = .ok (.istore 5, 2) := by decide +kernel
theorem dX2_firstFault_73 : decode cX2_firstFault 73 = .ok (.iload 5, 2) := by decide +kernel
theorem dX2_firstFault_75 : decode cX2_firstFault 75 = .ok (.ifCond .ne 5, 3) := by decide +kernel
theorem dX2_firstFault_78 : decode cX2_firstFault 78 = .ok (.iload_n 3, 1) := by decide +kernel
theorem dX2_firstFault_79 : decode cX2_firstFault 79 = .ok (.ireturn, 1) := by decide +kernel
theorem dX2_firstFault_80 : decode cX2_firstFault 80 = .ok (.iload 4, 2) := by decide +kernel
theorem dX2_firstFault_82 : decode cX2_firstFault 82 = .ok (.iconst (-1), 1) := by decide +kernel
theorem dX2_firstFault_83 : decode cX2_firstFault 83 = .ok (.if_icmp .eq 7, 3) := by decide +kernel
theorem dX2_firstFault_86 : decode cX2_firstFault 86 = .ok (.iconst 1, 1) := by decide +kernel
theorem dX2_firstFault_87 : decode cX2_firstFault 87 = .ok (.goto 4, 3) := by decide +kernel
theorem dX2_firstFault_90 : decode cX2_firstFault 90 = .ok (.iconst 0, 1) := by decide +kernel
theorem dX2_firstFault_91 : decode cX2_firstFault 91 = .ok (.istore_n 2, 1) := by decide +kernel
theorem dX2_firstFault_92 : decode cX2_firstFault 92 = .ok (.iload_n 1, 1) := by decide +kernel
theorem dX2_firstFault_93 : decode cX2_firstFault 93 = .ok (.iload_n 2, 1) := by decide +kernel
theorem dX2_firstFault_94 : decode cX2_firstFault 94 = .ok (.ifCond .eq 10, 3) := by decide +kernel
theorem dX2_firstFault_97 : decode cX2_firstFault 97 = .ok (.iconst 1, 1) := by decide +kernel
theorem dX2_firstFault_98 : decode cX2_firstFault 98 = .ok (.iload 4, 2) := by decide +kernel
theorem dX2_firstFault_100 : decode cX2_firstFault 100 = .ok (.ishl, 1) := by decide +kernel
theorem dX2_firstFault_101 : decode cX2_firstFault 101 = .ok (.goto 4, 3) := by decide +kernel
theorem dX2_firstFault_104 : decode cX2_firstFault 104 = .ok (.iconst 0, 1) := by decide +kernel
theorem dX2_firstFault_105 : decode cX2_firstFault 105 = .ok (.ior, 1) := by decide +kernel
theorem dX2_firstFault_106 : decode cX2_firstFault 106 = .ok (.istore_n 1, 1) := by decide +kernel
theorem dX2_firstFault_107 : decode cX2_firstFault 107 = .ok (.iinc 3 1, 3) := by decide +kernel
theorem dX2_firstFault_110 : decode cX2_firstFault 110 = .ok (.goto (-104), 3) := by decide +kernel
theorem dX2_firstFault_113 : decode cX2_firstFault 113 = .ok (.aload_n 0, 1) := by decide +kernel
theorem dX2_firstFault_114 : decode cX2_firstFault 114 = .ok (.getfield 15, 3) := by decide +kernel
theorem dX2_firstFault_117 : decode cX2_firstFault 117 = .ok (.ireturn, 1) := by decide +kernel
set_option maxRecDepth 20000 in
theorem ggX2_meaning_X2_itemOf : GoodIn wsX2_meaning wsX2_itemOf := goodIn_r _ [6] (by decide +kernel) (by decide +kernel)
set_option maxRecDepth 20000 in
theorem gX2_meaning_X2_itemOf : GoodIn wsX2_meaning (va_wsS RX2 19 yX2_itemOf wsX2_itemOf) := goodIn_app (goodIn_of _ (by decide +kernel)) ggX2_meaning_X2_itemOf
set_option maxRecDepth 20000 in
theorem ggX2_meaning_X2_reachOf : GoodIn wsX2_meaning wsX2_reachOf := goodIn_r _ [9] (by decide +kernel) (by decide +kernel)
set_option maxRecDepth 20000 in
theorem gX2_meaning_X2_reachOf : GoodIn wsX2_meaning (va_wsS RX2 23 yX2_reachOf wsX2_reachOf) := goodIn_app (goodIn_of _ (by decide +kernel)) ggX2_meaning_X2_reachOf
set_option maxRecDepth 20000 in
theorem ggX2_meaning_X4_rowsFor : GoodIn wsX2_meaning wsX4_rowsFor := goodIn_r _ [13] (by decide +kernel) (by decide +kernel)
set_option maxRecDepth 20000 in
theorem gX2_meaning_X4_rowsFor : GoodIn wsX2_meaning (va_wsS RX2 30 yX4_rowsFor wsX4_rowsFor) := goodIn_app (goodIn_of _ (by decide +kernel)) ggX2_meaning_X4_rowsFor
theorem dX2_meaning_0 : decode cX2_meaning 0 = .ok (.lconst 0, 1) := by decide +kernel
theorem dX2_meaning_1 : decode cX2_meaning 1 = .ok (.lstore_n 1, 1) := by decide +kernel
theorem dX2_meaning_2 : decode cX2_meaning 2 = .ok (.iconst 0, 1) := by decide +kernel
theorem dX2_meaning_3 : decode cX2_meaning 3 = .ok (.istore_n 3, 1) := by decide +kernel
theorem dX2_meaning_4 : decode cX2_meaning 4 = .ok (.iload_n 3, 1) := by decide +kernel
theorem dX2_meaning_5 : decode cX2_meaning 5 = .ok (.aload_n 0, 1) := by decide +kernel
theorem dX2_meaning_6 : decode cX2_meaning 6 = .ok (.getfield 15, 3) := by decide +kernel
theorem dX2_meaning_9 : decode cX2_meaning 9 = .ok (.if_icmp .ge 63, 3) := by decide +kernel
theorem dX2_meaning_12 : decode cX2_meaning 12 = .ok (.aload_n 0, 1) := by decide +kernel
theorem dX2_meaning_13 : decode cX2_meaning 13 = .ok (.getfield 9, 3) := by decide +kernel
theorem dX2_meaning_16 : decode cX2_meaning 16 = .ok (.iload_n 3, 1) := by decide +kernel
theorem dX2_meaning_17 : decode cX2_meaning 17 = .ok (.iaload, 1) := by decide +kernel
theorem dX2_meaning_18 : decode cX2_meaning 18 = .ok (.invokestatic 19, 3) := by decide +kernel
theorem dX2_meaning_21 : decode cX2_meaning 21 = .ok (.istore 4, 2) := by decide +kernel
theorem dX2_meaning_23 : decode cX2_meaning 23 = .ok (.iload 4, 2) := by decide +kernel
theorem dX2_meaning_25 : decode cX2_meaning 25 = .ok (.iconst (-1), 1) := by decide +kernel
theorem dX2_meaning_26 : decode cX2_meaning 26 = .ok (.if_icmp .eq 40, 3) := by decide +kernel
theorem dX2_meaning_29 : decode cX2_meaning 29 = .ok (.iload_n 3, 1) := by decide +kernel
theorem dX2_meaning_30 : decode cX2_meaning 30 = .ok (.iconst 1, 1) := by decide +kernel
theorem dX2_meaning_31 : decode cX2_meaning 31 = .ok (.iadd, 1) := by decide +kernel
theorem dX2_meaning_32 : decode cX2_meaning 32 = .ok (.aload_n 0, 1) := by decide +kernel
theorem dX2_meaning_33 : decode cX2_meaning 33 = .ok (.getfield 15, 3) := by decide +kernel
theorem dX2_meaning_36 : decode cX2_meaning 36 = .ok (.if_icmp .ge 17, 3) := by decide +kernel
theorem dX2_meaning_39 : decode cX2_meaning 39 = .ok (.aload_n 0, 1) := by decide +kernel
theorem dX2_meaning_40 : decode cX2_meaning 40 = .ok (.getfield 9, 3) := by decide +kernel
theorem dX2_meaning_43 : decode cX2_meaning 43 = .ok (.iload_n 3, 1) := by decide +kernel
theorem dX2_meaning_44 : decode cX2_meaning 44 = .ok (.iconst 1, 1) := by decide +kernel
theorem dX2_meaning_45 : decode cX2_meaning 45 = .ok (.iadd, 1) := by decide +kernel
theorem dX2_meaning_46 : decode cX2_meaning 46 = .ok (.iaload, 1) := by decide +kernel
theorem dX2_meaning_47 : decode cX2_meaning 47 = .ok (.invokestatic 23, 3) := by decide +kernel
theorem dX2_meaning_50 : decode cX2_meaning 50 = .ok (.goto 4, 3) := by decide +kernel
theorem dX2_meaning_53 : decode cX2_meaning 53 = .ok (.iconst 1, 1) := by decide +kernel
theorem dX2_meaning_54 : decode cX2_meaning 54 = .ok (.istore 5, 2) := by decide +kernel
theorem dX2_meaning_56 : decode cX2_meaning 56 = .ok (.lload_n 1, 1) := by decide +kernel
theorem dX2_meaning_57 : decode cX2_meaning 57 = .ok (.iload 4, 2) := by decide +kernel
theorem dX2_meaning_59 : decode cX2_meaning 59 = .ok (.iload 5, 2) := by decide +kernel
theorem dX2_meaning_61 : decode cX2_meaning 61 = .ok (.invokestatic 30, 3) := by decide +kernel
theorem dX2_meaning_64 : decode cX2_meaning 64 = .ok (.lor, 1) := by decide +kernel
theorem dX2_meaning_65 : decode cX2_meaning 65 = .ok (.lstore_n 1, 1) := by decide +kernel
theorem dX2_meaning_66 : decode cX2_meaning 66 = .ok (.iinc 3 1, 3) := by decide +kernel
theorem dX2_meaning_69 : decode cX2_meaning 69 = .ok (.goto (-65), 3) := by decide +kernel
theorem dX2_meaning_72 : decode cX2_meaning 72 = .ok (.lload_n 1, 1) := by decide +kernel
theorem dX2_meaning_73 : decode cX2_meaning 73 = .ok (.lreturn, 1) := by decide +kernel
theorem dX2_itemOf_0 : decode cX2_itemOf 0 = .ok (.iload_n 0, 1) := by decide +kernel
theorem dX2_itemOf_1 : decode cX2_itemOf 1 = .ok (.bipush 112, 2) := by decide +kernel
theorem dX2_itemOf_3 : decode cX2_itemOf 3 = .ok (.if_icmp .lt 14, 3) := by decide +kernel
theorem dX2_itemOf_6 : decode cX2_itemOf 6 = .ok (.iload_n 0, 1) := by decide +kernel
theorem dX2_itemOf_7 : decode cX2_itemOf 7 = .ok (.bipush 117, 2) := by decide +kernel
theorem dX2_itemOf_9 : decode cX2_itemOf 9 = .ok (.if_icmp .gt 8, 3) := by decide +kernel
theorem dX2_itemOf_12 : decode cX2_itemOf 12 = .ok (.iload_n 0, 1) := by decide +kernel
theorem dX2_itemOf_13 : decode cX2_itemOf 13 = .ok (.bipush 112, 2) := by decide +kernel
theorem dX2_itemOf_15 : decode cX2_itemOf 15 = .ok (.isub, 1) := by decide +kernel
theorem dX2_itemOf_16 : decode cX2_itemOf 16 = .ok (.ireturn, 1) := by decide +kernel
theorem dX2_itemOf_17 : decode cX2_itemOf 17 = .ok (.iload_n 0, 1) := by decide +kernel
theorem dX2_itemOf_18 : decode cX2_itemOf 18 = .ok (.bipush 80, 2) := by decide +kernel
theorem dX2_itemOf_20 : decode cX2_itemOf 20 = .ok (.if_icmp .lt 19, 3) := by decide +kernel
theorem dX2_itemOf_23 : decode cX2_itemOf 23 = .ok (.iload_n 0, 1) := by decide +kernel
theorem dX2_itemOf_24 : decode cX2_itemOf 24 = .ok (.bipush 85, 2) := by decide +kernel
theorem dX2_itemOf_26 : decode cX2_itemOf 26 = .ok (.if_icmp .gt 13, 3) := by decide +kernel
theorem dX2_itemOf_29 : decode cX2_itemOf 29 = .ok (.iload_n 0, 1) := by decide +kernel
theorem dX2_itemOf_30 : decode cX2_itemOf 30 = .ok (.bipush 80, 2) := by decide +kernel
theorem dX2_itemOf_32 : decode cX2_itemOf 32 = .ok (.isub, 1) := by decide +kernel
theorem dX2_itemOf_33 : decode cX2_itemOf 33 = .ok (.bipush 6, 2) := by decide +kernel
theorem dX2_itemOf_35 : decode cX2_itemOf 35 = .ok (.iadd, 1) := by decide +kernel
theorem dX2_itemOf_36 : decode cX2_itemOf 36 = .ok (.goto 4, 3) := by decide +kernel
theorem dX2_itemOf_39 : decode cX2_itemOf 39 = .ok (.iconst (-1), 1) := by decide +kernel
theorem dX2_itemOf_40 : decode cX2_itemOf 40 = .ok (.ireturn, 1) := by decide +kernel
theorem dX2_reachOf_0 : decode cX2_reachOf 0 = .ok (.iload_n 0, 1) := by decide +kernel
theorem dX2_reachOf_1 : decode cX2_reachOf 1 = .ok (.bipush 43, 2) := by decide +kernel
theorem dX2_reachOf_3 : decode cX2_reachOf 3 = .ok (.if_icmp .ne 5, 3) := by decide +kernel
theorem dX2_reachOf_6 : decode cX2_reachOf 6 = .ok (.iconst 2, 1) := by decide +kernel
theorem dX2_reachOf_7 : decode cX2_reachOf 7 = .ok (.ireturn, 1) := by decide +kernel
theorem dX2_reachOf_8 : decode cX2_reachOf 8 = .ok (.iload_n 0, 1) := by decide +kernel
theorem dX2_reachOf_9 : decode cX2_reachOf 9 = .ok (.bipush 42, 2) := by decide +kernel
theorem dX2_reachOf_11 : decode cX2_reachOf 11 = .ok (.if_icmp .ne 7, 3) := by decide +kernel
theorem dX2_reachOf_14 : decode cX2_reachOf 14 = .ok (.iconst 3, 1) := by decide +kernel
theorem dX2_reachOf_15 : decode cX2_reachOf 15 = .ok (.goto 4, 3) := by decide +kernel
theorem dX2_reachOf_18 : decode cX2_reachOf 18 = .ok (.iconst 1, 1) := by decide +kernel
theorem dX2_reachOf_19 : decode cX2_reachOf 19 = .ok (.ireturn, 1) := by decide +kernel
set_option maxRecDepth 20000 in
theorem ggX3_init_J7_fill_53178 : GoodIn wsX3_init wsJ7_fill_53178 := goodIn_r _ [17] (by decide +kernel) (by decide +kernel)
set_option maxRecDepth 20000 in
theorem gX3_init_J7_fill_53178 : GoodIn wsX3_init (va_wsS RX3 38 yJ7_fill_53178 wsJ7_fill_53178) := goodIn_app (goodIn_of _ (by decide +kernel)) ggX3_init_J7_fill_53178
theorem dX3_init_0 : decode cX3_init 0 = .ok (.aload_n 0, 1) := by decide +kernel
theorem dX3_init_1 : decode cX3_init 1 = .ok (.invokespecial 3, 3) := by decide +kernel
theorem dX3_init_4 : decode cX3_init 4 = .ok (.aload_n 0, 1) := by decide +kernel
theorem dX3_init_5 : decode cX3_init 5 = .ok (.bipush 8, 2) := by decide +kernel
theorem dX3_init_7 : decode cX3_init 7 = .ok (.newarray .int, 2) := by decide +kernel
theorem dX3_init_9 : decode cX3_init 9 = .ok (.putfield 9, 3) := by decide +kernel
theorem dX3_init_12 : decode cX3_init 12 = .ok (.aload_n 0, 1) := by decide +kernel
theorem dX3_init_13 : decode cX3_init 13 = .ok (.bipush 8, 2) := by decide +kernel
theorem dX3_init_15 : decode cX3_init 15 = .ok (.newarray .long, 2) := by decide +kernel
theorem dX3_init_17 : decode cX3_init 17 = .ok (.putfield 15, 3) := by decide +kernel
theorem dX3_init_20 : decode cX3_init 20 = .ok (.aload_n 0, 1) := by decide +kernel
theorem dX3_init_21 : decode cX3_init 21 = .ok (.bipush 64, 2) := by decide +kernel
theorem dX3_init_23 : decode cX3_init 23 = .ok (.newarray .int, 2) := by decide +kernel
theorem dX3_init_25 : decode cX3_init 25 = .ok (.putfield 19, 3) := by decide +kernel
theorem dX3_init_28 : decode cX3_init 28 = .ok (.aload_n 0, 1) := by decide +kernel
theorem dX3_init_29 : decode cX3_init 29 = .ok (.bipush 64, 2) := by decide +kernel
theorem dX3_init_31 : decode cX3_init 31 = .ok (.newarray .long, 2) := by decide +kernel
theorem dX3_init_33 : decode cX3_init 33 = .ok (.putfield 22, 3) := by decide +kernel
theorem dX3_init_36 : decode cX3_init 36 = .ok (.aload_n 0, 1) := by decide +kernel
theorem dX3_init_37 : decode cX3_init 37 = .ok (.bipush 8, 2) := by decide +kernel
theorem dX3_init_39 : decode cX3_init 39 = .ok (.newarray .long, 2) := by decide +kernel
theorem dX3_init_41 : decode cX3_init 41 = .ok (.putfield 25, 3) := by decide +kernel
theorem dX3_init_44 : decode cX3_init 44 = .ok (.aload_n 0, 1) := by decide +kernel
theorem dX3_init_45 : decode cX3_init 45 = .ok (.iconst 0, 1) := by decide +kernel
theorem dX3_init_46 : decode cX3_init 46 = .ok (.putfield 28, 3) := by decide +kernel
theorem dX3_init_49 : decode cX3_init 49 = .ok (.aload_n 0, 1) := by decide +kernel
theorem dX3_init_50 : decode cX3_init 50 = .ok (.iconst 0, 1) := by decide +kernel
theorem dX3_init_51 : decode cX3_init 51 = .ok (.putfield 32, 3) := by decide +kernel
theorem dX3_init_54 : decode cX3_init 54 = .ok (.aload_n 0, 1) := by decide +kernel
theorem dX3_init_55 : decode cX3_init 55 = .ok (.iconst 0, 1) := by decide +kernel
theorem dX3_init_56 : decode cX3_init 56 = .ok (.putfield 35, 3) := by decide +kernel
theorem dX3_init_59 : decode cX3_init 59 = .ok (.aload_n 0, 1) := by decide +kernel
theorem dX3_init_60 : decode cX3_init 60 = .ok (.getfield 19, 3) := by decide +kernel
theorem dX3_init_63 : decode cX3_init 63 = .ok (.iconst (-1), 1) := by decide +kernel
theorem dX3_init_64 : decode cX3_init 64 = .ok (.invokestatic 38, 3) := by decide +kernel
theorem dX3_init_67 : decode cX3_init 67 = .ok (.return_, 1) := by decide +kernel
set_option maxRecDepth 20000 in
theorem ggX3_has_X6_isSet : GoodIn wsX3_has wsX6_isSet := goodIn_r _ [4] (by decide +kernel) (by decide +kernel)
set_option maxRecDepth 20000 in
theorem gX3_has_X6_isSet_n44 : GoodIn wsX3_has (wsX6_isSet) := ggX3_has_X6_isSet
theorem dX3_has_0 : decode cX3_has 0 = .ok (.iload_n 1, 1) := by decide +kernel
theorem dX3_has_1 : decode cX3_has 1 = .ok (.ifCond .lt 25, 3) := by decide +kernel
theorem dX3_has_4 : decode cX3_has 4 = .ok (.iload_n 1, 1) := by decide +kernel
theorem dX3_has_5 : decode cX3_has 5 = .ok (.bipush 8, 2) := by decide +kernel
theorem dX3_has_7 : decode cX3_has 7 = .ok (.if_icmp .ge 19, 3) := by decide +kernel
theorem dX3_has_10 : decode cX3_has 10 = .ok (.aload_n 0, 1) := by decide +kernel
theorem dX3_has_11 : decode cX3_has 11 = .ok (.getfield 28, 3) := by decide +kernel
theorem dX3_has_14 : decode cX3_has 14 = .ok (.i2l, 1) := by decide +kernel
theorem dX3_has_15 : decode cX3_has 15 = .ok (.iload_n 1, 1) := by decide +kernel
theorem dX3_has_16 : decode cX3_has 16 = .ok (.invokestatic 44, 3) := by decide +kernel
theorem dX3_has_19 : decode cX3_has 19 = .ok (.ifCond .eq 7, 3) := by decide +kernel
theorem dX3_has_22 : decode cX3_has 22 = .ok (.iconst 1, 1) := by decide +kernel
theorem dX3_has_23 : decode cX3_has 23 = .ok (.goto 4, 3) := by decide +kernel
theorem dX3_has_26 : decode cX3_has 26 = .ok (.iconst 0, 1) := by decide +kernel
theorem dX3_has_27 : decode cX3_has 27 = .ok (.ireturn, 1) := by decide +kernel
set_option maxRecDepth 20000 in
theorem ggX3_leastFree_X3_has : GoodIn wsX3_leastFree wsX3_has := goodIn_r _ [5, 6, 7, 8, 9, 10, 11, 12, 13, 14, 15, 16, 17] (by decide +kernel) (by decide +kernel)
set_option maxRecDepth 20000 in
theorem gX3_leastFree_X3_has : GoodIn wsX3_leastFree (wsV RX3 48 RX3 yX3_has wsX3_has) := goodIn_app (goodIn_of _ (by decide +kernel)) ggX3_leastFree_X3_has
theorem dX3_leastFree_0 : decode cX3_leastFree 0 = .ok (.iconst 0, 1) := by decide +kernel
theorem dX3_leastFree_1 : decode cX3_leastFree 1 = .ok (.istore_n 1, 1) := by decide +kernel
theorem dX3_leastFree_2 : decode cX3_leastFree 2 = .ok (.iload_n 1, 1) := by decide +kernel
theorem dX3_leastFree_3 : decode cX3_leastFree 3 = .ok (.bipush 8, 2) := by decide +kernel
theorem dX3_leastFree_5 : decode cX3_leastFree 5 = .ok (.if_icmp .ge 19, 3) := by decide +kernel
theorem dX3_leastFree_8 : decode cX3_leastFree 8 = .ok (.aload_n 0, 1) := by decide +kernel
theorem dX3_leastFree_9 : decode cX3_leastFree 9 = .ok (.iload_n 1, 1) := by decide +kernel
theorem dX3_leastFree_10 : decode cX3_leastFree 10 = .ok (.invokevirtual 48, 3) := by decide +kernel
theorem dX3_leastFree_13 : decode cX3_leastFree 13 = .ok (.ifCond .ne 5, 3) := by decide +kernel
theorem dX3_leastFree_16 : decode cX3_leastFree 16 = .ok (.iload_n 1, 1) := by decide +kernel
theorem dX3_leastFree_17 : decode cX3_leastFree 17 = .ok (.ireturn, 1) := by decide +kernel
theorem dX3_leastFree_18 : decode cX3_leastFree 18 = .ok (.iinc 1 1, 3) := by decide +kernel
theorem dX3_leastFree_21 : decode cX3_leastFree 21 = .ok (.goto (-19), 3) := by decide +kernel
theorem dX3_leastFree_24 : decode cX3_leastFree 24 = .ok (.iconst (-1), 1) := by decide +kernel
theorem dX3_leastFree_25 : decode cX3_leastFree 25 = .ok (.ireturn, 1) := by decide +kernel
set_option maxRecDepth 20000 in
theorem ggX3_put_X3_settle : GoodIn wsX3_put wsX3_settle := goodIn_r _ [8, 9, 1, 10, 11, 12, 13, 7, 14, 3, 15, 16, 17, 18, 19, 20, 21, 22, 23, 24, 25, 26, 27, 28, 29, 30] (by decide +kernel) (by decide +kernel)
set_option maxRecDepth 20000 in
theorem gX3_put_X3_settle : GoodIn wsX3_put (wsV RX3 52 RX3 yX3_settle wsX3_settle) := goodIn_app (goodIn_of _ (by decide +kernel)) ggX3_put_X3_settle
theorem dX3_put_0 : decode cX3_put 0 = .ok (.aload_n 0, 1) := by decide +kernel
theorem dX3_put_1 : decode cX3_put 1 = .ok (.dup, 1) := by decide +kernel
theorem dX3_put_2 : decode cX3_put 2 = .ok (.getfield 28, 3) := by decide +kernel
theorem dX3_put_5 : decode cX3_put 5 = .ok (.iconst 1, 1) := by decide +kernel
theorem dX3_put_6 : decode cX3_put 6 = .ok (.iload_n 1, 1) := by decide +kernel
theorem dX3_put_7 : decode cX3_put 7 = .ok (.ishl, 1) := by decide +kernel
theorem dX3_put_8 : decode cX3_put 8 = .ok (.ior, 1) := by decide +kernel
theorem dX3_put_9 : decode cX3_put 9 = .ok (.putfield 28, 3) := by decide +kernel
theorem dX3_put_12 : decode cX3_put 12 = .ok (.aload_n 0, 1) := by decide +kernel
theorem dX3_put_13 : decode cX3_put 13 = .ok (.getfield 9, 3) := by decide +kernel
theorem dX3_put_16 : decode cX3_put 16 = .ok (.iload_n 1, 1) := by decide +kernel
theorem dX3_put_17 : decode cX3_put 17 = .ok (.iload_n 2, 1) := by decide +kernel
theorem dX3_put_18 : decode cX3_put 18 = .ok (.iastore, 1) := by decide +kernel
theorem dX3_put_19 : decode cX3_put 19 = .ok (.aload_n 0, 1) := by decide +kernel
theorem dX3_put_20 : decode cX3_put 20 = .ok (.getfield 15, 3) := by decide +kernel
theorem dX3_put_23 : decode cX3_put 23 = .ok (.iload_n 1, 1) := by decide +kernel
theorem dX3_put_24 : decode cX3_put 24 = .ok (.lload_n 3, 1) := by decide +kernel
theorem dX3_put_25 : decode cX3_put 25 = .ok (.lastore, 1) := by decide +kernel
theorem dX3_put_26 : decode cX3_put 26 = .ok (.aload_n 0, 1) := by decide +kernel
theorem dX3_put_27 : decode cX3_put 27 = .ok (.invokevirtual 52, 3) := by decide +kernel
theorem dX3_put_30 : decode cX3_put 30 = .ok (.return_, 1) := by decide +kernel
set_option maxRecDepth 20000 in
theorem ggX3_remove_X3_joinsFrom : GoodIn wsX3_remove wsX3_joinsFrom := goodIn_r _ [7, 8, 9, 10, 6, 11, 12, 46, 47, 48, 49, 50, 51, 52, 53] (by decide +kernel) (by decide +kernel)
set_option maxRecDepth 20000 in
theorem gX3_remove_X3_joinsFrom : GoodIn wsX3_remove (wsV RX3 55 RX3 yX3_joinsFrom wsX3_joinsFrom) := goodIn_app (goodIn_of _ (by decide +kernel)) ggX3_remove_X3_joinsFrom
set_option maxRecDepth 20000 in
theorem ggX3_remove_X3_joinsTo : GoodIn wsX3_remove wsX3_joinsTo := goodIn_r _ [16, 8, 9, 10, 6, 11, 12, 46, 47, 48, 49, 50, 51, 52, 53] (by decide +kernel) (by decide +kernel)
set_option maxRecDepth 20000 in
theorem gX3_remove_X3_joinsTo : GoodIn wsX3_remove (wsV RX3 59 RX3 yX3_joinsTo wsX3_joinsTo) := goodIn_app (goodIn_of _ (by decide +kernel)) ggX3_remove_X3_joinsTo
set_option maxRecDepth 20000 in
theorem ggX3_remove_X3_setJoin : GoodIn wsX3_remove wsX3_setJoin := goodIn_r _ [20, 12, 21, 22, 23, 24, 25, 26, 27, 46, 47, 48, 49, 50, 51, 52, 53] (by decide +kernel) (by decide +kernel)
set_option maxRecDepth 20000 in
theorem gX3_remove_X3_setJoin : GoodIn wsX3_remove (wsV RX3 62 RX3 yX3_setJoin wsX3_setJoin) := goodIn_app (goodIn_of _ (by decide +kernel)) ggX3_remove_X3_setJoin
set_option maxRecDepth 20000 in
theorem ggX3_remove_X3_settle : GoodIn wsX3_remove wsX3_settle := goodIn_r _ [31, 32, 1, 33, 34, 35, 36, 6, 37, 38, 39, 40, 41, 42, 43, 44, 45, 21, 46, 47, 48, 49, 50, 51, 52, 53] (by decide +kernel) (by decide +kernel)
set_option maxRecDepth 20000 in
theorem gX3_remove_X3_settle : GoodIn wsX3_remove (wsV RX3 52 RX3 yX3_settle wsX3_settle) := goodIn_app (goodIn_of _ (by decide +kernel)) ggX3_remove_X3_settle
theorem dX3_remove_0 : decode cX3_remove 0 = .ok (.aload_n 0, 1) := by decide +kernel
theorem dX3_remove_1 : decode cX3_remove 1 = .ok (.iload_n 1, 1) := by decide +kernel
theorem dX3_remove_2 : decode cX3_remove 2 = .ok (.invokevirtual 55, 3) := by decide +kernel
theorem dX3_remove_5 : decode cX3_remove 5 = .ok (.aload_n 0, 1) := by decide +kernel
theorem dX3_remove_6 : decode cX3_remove 6 = .ok (.iload_n 1, 1) := by decide +kernel
theorem dX3_remove_7 : decode cX3_remove 7 = .ok (.invokevirtual 59, 3) := by decide +kernel
theorem dX3_remove_10 : decode cX3_remove 10 = .ok (.iadd, 1) := by decide +kernel
theorem dX3_remove_11 : decode cX3_remove 11 = .ok (.istore_n 2, 1) := by decide +kernel
theorem dX3_remove_12 : decode cX3_remove 12 = .ok (.iconst 0, 1) := by decide +kernel
theorem dX3_remove_13 : decode cX3_remove 13 = .ok (.istore_n 3, 1) := by decide +kernel
theorem dX3_remove_14 : decode cX3_remove 14 = .ok (.iload_n 3, 1) := by decide +kernel
theorem dX3_remove_15 : decode cX3_remove 15 = .ok (.bipush 8, 2) := by decide +kernel
theorem dX3_remove_17 : decode cX3_remove 17 = .ok (.if_icmp .ge 23, 3) := by decide +kernel
theorem dX3_remove_20 : decode cX3_remove 20 = .ok (.aload_n 0, 1) := by decide +kernel
theorem dX3_remove_21 : decode cX3_remove 21 = .ok (.iload_n 1, 1) := by decide +kernel
theorem dX3_remove_22 : decode cX3_remove 22 = .ok (.iload_n 3, 1) := by decide +kernel
theorem dX3_remove_23 : decode cX3_remove 23 = .ok (.iconst (-1), 1) := by decide +kernel
theorem dX3_remove_24 : decode cX3_remove 24 = .ok (.invokevirtual 62, 3) := by decide +kernel
theorem dX3_remove_27 : decode cX3_remove 27 = .ok (.aload_n 0, 1) := by decide +kernel
theorem dX3_remove_28 : decode cX3_remove 28 = .ok (.iload_n 3, 1) := by decide +kernel
theorem dX3_remove_29 : decode cX3_remove 29 = .ok (.iload_n 1, 1) := by decide +kernel
theorem dX3_remove_30 : decode cX3_remove 30 = .ok (.iconst (-1), 1) := by decide +kernel
theorem dX3_remove_31 : decode cX3_remove 31 = .ok (.invokevirtual 62, 3) := by decide +kernel
theorem dX3_remove_34 : decode cX3_remove 34 = .ok (.iinc 3 1, 3) := by decide +kernel
theorem dX3_remove_37 : decode cX3_remove 37 = .ok (.goto (-23), 3) := by decide +kernel
theorem dX3_remove_40 : decode cX3_remove 40 = .ok (.aload_n 0, 1) := by decide +kernel
theorem dX3_remove_41 : decode cX3_remove 41 = .ok (.dup, 1) := by decide +kernel
theorem dX3_remove_42 : decode cX3_remove 42 = .ok (.getfield 28, 3) := by decide +kernel
theorem dX3_remove_45 : decode cX3_remove 45 = .ok (.iconst 1, 1) := by decide +kernel
theorem dX3_remove_46 : decode cX3_remove 46 = .ok (.iload_n 1, 1) := by decide +kernel
theorem dX3_remove_47 : decode cX3_remove 47 = .ok (.ishl, 1) := by decide +kernel
theorem dX3_remove_48 : decode cX3_remove 48 = .ok (.iconst (-1), 1) := by decide +kernel
theorem dX3_remove_49 : decode cX3_remove 49 = .ok (.ixor, 1) := by decide +kernel
theorem dX3_remove_50 : decode cX3_remove 50 = .ok (.iand, 1) := by decide +kernel
theorem dX3_remove_51 : decode cX3_remove 51 = .ok (.putfield 28, 3) := by decide +kernel
theorem dX3_remove_54 : decode cX3_remove 54 = .ok (.aload_n 0, 1) := by decide +kernel
theorem dX3_remove_55 : decode cX3_remove 55 = .ok (.dup, 1) := by decide +kernel
theorem dX3_remove_56 : decode cX3_remove 56 = .ok (.getfield 32, 3) := by decide +kernel
theorem dX3_remove_59 : decode cX3_remove 59 = .ok (.iconst 1, 1) := by decide +kernel
theorem dX3_remove_60 : decode cX3_remove 60 = .ok (.iadd, 1) := by decide +kernel
theorem dX3_remove_61 : decode cX3_remove 61 = .ok (.putfield 32, 3) := by decide +kernel
theorem dX3_remove_64 : decode cX3_remove 64 = .ok (.aload_n 0, 1) := by decide +kernel
theorem dX3_remove_65 : decode cX3_remove 65 = .ok (.invokevirtual 52, 3) := by decide +kernel
theorem dX3_remove_68 : decode cX3_remove 68 = .ok (.iload_n 2, 1) := by decide +kernel
theorem dX3_remove_69 : decode cX3_remove 69 = .ok (.ireturn, 1) := by decide +kernel
theorem dX3_kindOf_0 : decode cX3_kindOf 0 = .ok (.aload_n 0, 1) := by decide +kernel
theorem dX3_kindOf_1 : decode cX3_kindOf 1 = .ok (.getfield 19, 3) := by decide +kernel
theorem dX3_kindOf_4 : decode cX3_kindOf 4 = .ok (.iload_n 1, 1) := by decide +kernel
theorem dX3_kindOf_5 : decode cX3_kindOf 5 = .ok (.bipush 8, 2) := by decide +kernel
theorem dX3_kindOf_7 : decode cX3_kindOf 7 = .ok (.imul, 1) := by decide +kernel
theorem dX3_kindOf_8 : decode cX3_kindOf 8 = .ok (.iload_n 2, 1) := by decide +kernel
theorem dX3_kindOf_9 : decode cX3_kindOf 9 = .ok (.iadd, 1) := by decide +kernel
theorem dX3_kindOf_10 : decode cX3_kindOf 10 = .ok (.iaload, 1) := by decide +kernel
theorem dX3_kindOf_11 : decode cX3_kindOf 11 = .ok (.ireturn, 1) := by decide +kernel
set_option maxRecDepth 20000 in
theorem ggX3_setKind_X3_setJoin : GoodIn wsX3_setKind wsX3_setJoin := goodIn_r _ [5, 6, 7, 8, 9, 10, 11, 12, 13, 33, 34, 35, 36, 37, 38, 39, 40] (by decide +kernel) (by decide +kernel)
set_option maxRecDepth 20000 in
theorem gX3_setKind_X3_setJoin : GoodIn wsX3_setKind (wsV RX3 62 RX3 yX3_setJoin wsX3_setJoin) := goodIn_app (goodIn_of _ (by decide +kernel)) ggX3_setKind_X3_setJoin
set_option maxRecDepth 20000 in
theorem ggX3_setKind_X3_settle : GoodIn wsX3_setKind wsX3_settle := goodIn_r _ [17, 18, 19, 20, 21, 22, 23, 4, 24, 25, 26, 27, 28, 29, 30, 31, 32, 7, 33, 34, 35, 36, 37, 38, 39, 40] (by decide +kernel) (by decide +kernel)
set_option maxRecDepth 20000 in
theorem gX3_setKind_X3_settle : GoodIn wsX3_setKind (wsV RX3 52 RX3 yX3_settle wsX3_settle) := goodIn_app (goodIn_of _ (by decide +kernel)) ggX3_setKind_X3_settle
theorem dX3_setKind_0 : decode cX3_setKind 0 = .ok (.aload_n 0, 1) := by decide +kernel
theorem dX3_setKind_1 : decode cX3_setKind 1 = .ok (.iload_n 1, 1) := by decide +kernel
theorem dX3_setKind_2 : decode cX3_setKind 2 = .ok (.iload_n 2, 1) := by decide +kernel
theorem dX3_setKind_3 : decode cX3_setKind 3 = .ok (.iload_n 3, 1) := by decide +kernel
theorem dX3_setKind_4 : decode cX3_setKind 4 = .ok (.invokevirtual 62, 3) := by decide +kernel
theorem dX3_setKind_7 : decode cX3_setKind 7 = .ok (.aload_n 0, 1) := by decide +kernel
theorem dX3_setKind_8 : decode cX3_setKind 8 = .ok (.invokevirtual 52, 3) := by decide +kernel
theorem dX3_setKind_11 : decode cX3_setKind 11 = .ok (.return_, 1) := by decide +kernel
set_option maxRecDepth 20000 in
theorem ggX3_lets_X3_kindOf : GoodIn wsX3_lets wsX3_kindOf := goodIn_r _ [5, 6, 7, 8, 9, 10, 11, 12, 13, 14] (by decide +kernel) (by decide +kernel)
set_option maxRecDepth 20000 in
theorem gX3_lets_X3_kindOf : GoodIn wsX3_lets (wsV RX3 66 RX3 yX3_kindOf wsX3_kindOf) := goodIn_app (goodIn_of _ (by decide +kernel)) ggX3_lets_X3_kindOf
theorem dX3_lets_0 : decode cX3_lets 0 = .ok (.aload_n 0, 1) := by decide +kernel
theorem dX3_lets_1 : decode cX3_lets 1 = .ok (.iload_n 1, 1) := by decide +kernel
theorem dX3_lets_2 : decode cX3_lets 2 = .ok (.iload_n 2, 1) := by decide +kernel
theorem dX3_lets_3 : decode cX3_lets 3 = .ok (.invokevirtual 66, 3) := by decide +kernel
theorem dX3_lets_6 : decode cX3_lets 6 = .ok (.istore 4, 2) := by decide +kernel
theorem dX3_lets_8 : decode cX3_lets 8 = .ok (.iload 4, 2) := by decide +kernel
theorem dX3_lets_10 : decode cX3_lets 10 = .ok (.iconst (-1), 1) := by decide +kernel
theorem dX3_lets_11 : decode cX3_lets 11 = .ok (.if_icmp .eq 13, 3) := by decide +kernel
theorem dX3_lets_14 : decode cX3_lets 14 = .ok (.iload_n 3, 1) := by decide +kernel
theorem dX3_lets_15 : decode cX3_lets 15 = .ok (.iload 4, 2) := by decide +kernel
theorem dX3_lets_17 : decode cX3_lets 17 = .ok (.if_icmp .le 7, 3) := by decide +kernel
theorem dX3_lets_20 : decode cX3_lets 20 = .ok (.iconst 1, 1) := by decide +kernel
theorem dX3_lets_21 : decode cX3_lets 21 = .ok (.goto 4, 3) := by decide +kernel
theorem dX3_lets_24 : decode cX3_lets 24 = .ok (.iconst 0, 1) := by decide +kernel
theorem dX3_lets_25 : decode cX3_lets 25 = .ok (.ireturn, 1) := by decide +kernel
set_option maxRecDepth 20000 in
theorem ggX3_reachHeld_X4_greatest : GoodIn wsX3_reachHeld wsX4_greatest := goodIn_r _ [5, 6, 7, 8] (by decide +kernel) (by decide +kernel)
set_option maxRecDepth 20000 in
theorem gX3_reachHeld_X4_greatest : GoodIn wsX3_reachHeld (va_wsS RX3 70 yX4_greatest wsX4_greatest) := goodIn_app (goodIn_of _ (by decide +kernel)) ggX3_reachHeld_X4_greatest
theorem dX3_reachHeld_0 : decode cX3_reachHeld 0 = .ok (.aload_n 0, 1) := by decide +kernel
theorem dX3_reachHeld_1 : decode cX3_reachHeld 1 = .ok (.getfield 25, 3) := by decide +kernel
theorem dX3_reachHeld_4 : decode cX3_reachHeld 4 = .ok (.iload_n 1, 1) := by decide +kernel
theorem dX3_reachHeld_5 : decode cX3_reachHeld 5 = .ok (.laload, 1) := by decide +kernel
theorem dX3_reachHeld_6 : decode cX3_reachHeld 6 = .ok (.iload_n 2, 1) := by decide +kernel
theorem dX3_reachHeld_7 : decode cX3_reachHeld 7 = .ok (.invokestatic 70, 3) := by decide +kernel
theorem dX3_reachHeld_10 : decode cX3_reachHeld 10 = .ok (.ireturn, 1) := by decide +kernel
set_option maxRecDepth 20000 in
theorem ggX3_joinsFrom_X3_kindOf : GoodIn wsX3_joinsFrom wsX3_kindOf := goodIn_r _ [5, 6, 7, 8, 9, 10, 11, 12, 13, 14] (by decide +kernel) (by decide +kernel)
set_option maxRecDepth 20000 in
theorem gX3_joinsFrom_X3_kindOf : GoodIn wsX3_joinsFrom (wsV RX3 66 RX3 yX3_kindOf wsX3_kindOf) := goodIn_app (goodIn_of _ (by decide +kernel)) ggX3_joinsFrom_X3_kindOf
theorem dX3_joinsFrom_0 : decode cX3_joinsFrom 0 = .ok (.iconst 0, 1) := by decide +kernel
theorem dX3_joinsFrom_1 : decode cX3_joinsFrom 1 = .ok (.istore_n 2, 1) := by decide +kernel
theorem dX3_joinsFrom_2 : decode cX3_joinsFrom 2 = .ok (.iconst 0, 1) := by decide +kernel
theorem dX3_joinsFrom_3 : decode cX3_joinsFrom 3 = .ok (.istore_n 3, 1) := by decide +kernel
theorem dX3_joinsFrom_4 : decode cX3_joinsFrom 4 = .ok (.iload_n 3, 1) := by decide +kernel
theorem dX3_joinsFrom_5 : decode cX3_joinsFrom 5 = .ok (.bipush 8, 2) := by decide +kernel
theorem dX3_joinsFrom_7 : decode cX3_joinsFrom 7 = .ok (.if_icmp .ge 27, 3) := by decide +kernel
theorem dX3_joinsFrom_10 : decode cX3_joinsFrom 10 = .ok (.iload_n 2, 1) := by decide +kernel
theorem dX3_joinsFrom_11 : decode cX3_joinsFrom 11 = .ok (.aload_n 0, 1) := by decide +kernel
theorem dX3_joinsFrom_12 : decode cX3_joinsFrom 12 = .ok (.iload_n 1, 1) := by decide +kernel
theorem dX3_joinsFrom_13 : decode cX3_joinsFrom 13 = .ok (.iload_n 3, 1) := by decide +kernel
theorem dX3_joinsFrom_14 : decode cX3_joinsFrom 14 = .ok (.invokevirtual 66, 3) := by decide +kernel
theorem dX3_joinsFrom_17 : decode cX3_joinsFrom 17 = .ok (.iconst (-1), 1) := by decide +kernel
theorem dX3_joinsFrom_18 : decode cX3_joinsFrom 18 = .ok (.if_icmp .ne 7, 3) := by decide +kernel
theorem dX3_joinsFrom_21 : decode cX3_joinsFrom 21 = .ok (.iconst 0, 1) := by decide +kernel
theorem dX3_joinsFrom_22 : decode cX3_joinsFrom 22 = .ok (.goto 4, 3) := by decide +kernel
theorem dX3_joinsFrom_25 : decode cX3_joinsFrom 25 = .ok (.iconst 1, 1) := by decide +kernel
theorem dX3_joinsFrom_26 : decode cX3_joinsFrom 26 = .ok (.iadd, 1) := by decide +kernel
theorem dX3_joinsFrom_27 : decode cX3_joinsFrom 27 = .ok (.istore_n 2, 1) := by decide +kernel
theorem dX3_joinsFrom_28 : decode cX3_joinsFrom 28 = .ok (.iinc 3 1, 3) := by decide +kernel
theorem dX3_joinsFrom_31 : decode cX3_joinsFrom 31 = .ok (.goto (-27), 3) := by decide +kernel
theorem dX3_joinsFrom_34 : decode cX3_joinsFrom 34 = .ok (.iload_n 2, 1) := by decide +kernel
theorem dX3_joinsFrom_35 : decode cX3_joinsFrom 35 = .ok (.ireturn, 1) := by decide +kernel
set_option maxRecDepth 20000 in
theorem ggX3_joinsTo_X3_kindOf : GoodIn wsX3_joinsTo wsX3_kindOf := goodIn_r _ [5, 6, 7, 8, 9, 10, 11, 12, 13, 14] (by decide +kernel) (by decide +kernel)
set_option maxRecDepth 20000 in
theorem gX3_joinsTo_X3_kindOf : GoodIn wsX3_joinsTo (wsV RX3 66 RX3 yX3_kindOf wsX3_kindOf) := goodIn_app (goodIn_of _ (by decide +kernel)) ggX3_joinsTo_X3_kindOf
theorem dX3_joinsTo_0 : decode cX3_joinsTo 0 = .ok (.iconst 0, 1) := by decide +kernel
theorem dX3_joinsTo_1 : decode cX3_joinsTo 1 = .ok (.istore_n 2, 1) := by decide +kernel
theorem dX3_joinsTo_2 : decode cX3_joinsTo 2 = .ok (.iconst 0, 1) := by decide +kernel
theorem dX3_joinsTo_3 : decode cX3_joinsTo 3 = .ok (.istore_n 3, 1) := by decide +kernel
theorem dX3_joinsTo_4 : decode cX3_joinsTo 4 = .ok (.iload_n 3, 1) := by decide +kernel
theorem dX3_joinsTo_5 : decode cX3_joinsTo 5 = .ok (.bipush 8, 2) := by decide +kernel
theorem dX3_joinsTo_7 : decode cX3_joinsTo 7 = .ok (.if_icmp .ge 27, 3) := by decide +kernel
theorem dX3_joinsTo_10 : decode cX3_joinsTo 10 = .ok (.iload_n 2, 1) := by decide +kernel
theorem dX3_joinsTo_11 : decode cX3_joinsTo 11 = .ok (.aload_n 0, 1) := by decide +kernel
theorem dX3_joinsTo_12 : decode cX3_joinsTo 12 = .ok (.iload_n 3, 1) := by decide +kernel
theorem dX3_joinsTo_13 : decode cX3_joinsTo 13 = .ok (.iload_n 1, 1) := by decide +kernel
theorem dX3_joinsTo_14 : decode cX3_joinsTo 14 = .ok (.invokevirtual 66, 3) := by decide +kernel
theorem dX3_joinsTo_17 : decode cX3_joinsTo 17 = .ok (.iconst (-1), 1) := by decide +kernel
theorem dX3_joinsTo_18 : decode cX3_joinsTo 18 = .ok (.if_icmp .ne 7, 3) := by decide +kernel
theorem dX3_joinsTo_21 : decode cX3_joinsTo 21 = .ok (.iconst 0, 1) := by decide +kernel
theorem dX3_joinsTo_22 : decode cX3_joinsTo 22 = .ok (.goto 4, 3) := by decide +kernel
theorem dX3_joinsTo_25 : decode cX3_joinsTo 25 = .ok (.iconst 1, 1) := by decide +kernel
theorem dX3_joinsTo_26 : decode cX3_joinsTo 26 = .ok (.iadd, 1) := by decide +kernel
theorem dX3_joinsTo_27 : decode cX3_joinsTo 27 = .ok (.istore_n 2, 1) := by decide +kernel
theorem dX3_joinsTo_28 : decode cX3_joinsTo 28 = .ok (.iinc 3 1, 3) := by decide +kernel
theorem dX3_joinsTo_31 : decode cX3_joinsTo 31 = .ok (.goto (-27), 3) := by decide +kernel
theorem dX3_joinsTo_34 : decode cX3_joinsTo 34 = .ok (.iload_n 2, 1) := by decide +kernel
theorem dX3_joinsTo_35 : decode cX3_joinsTo 35 = .ok (.ireturn, 1) := by decide +kernel
set_option maxRecDepth 20000 in
theorem ggX3_joins_X3_joinsFrom : GoodIn wsX3_joins wsX3_joinsFrom := goodIn_r _ [5, 6, 7, 8, 4, 9, 10, 11, 12, 13, 14, 15, 16, 17, 18] (by decide +kernel) (by decide +kernel)
set_option maxRecDepth 20000 in
theorem gX3_joins_X3_joinsFrom : GoodIn wsX3_joins (wsV RX3 55 RX3 yX3_joinsFrom wsX3_joinsFrom) := goodIn_app (goodIn_of _ (by decide +kernel)) ggX3_joins_X3_joinsFrom
theorem dX3_joins_0 : decode cX3_joins 0 = .ok (.iconst 0, 1) := by decide +kernel
theorem dX3_joins_1 : decode cX3_joins 1 = .ok (.istore_n 1, 1) := by decide +kernel
theorem dX3_joins_2 : decode cX3_joins 2 = .ok (.iconst 0, 1) := by decide +kernel
theorem dX3_joins_3 : decode cX3_joins 3 = .ok (.istore_n 2, 1) := by decide +kernel
theorem dX3_joins_4 : decode cX3_joins 4 = .ok (.iload_n 2, 1) := by decide +kernel
theorem dX3_joins_5 : decode cX3_joins 5 = .ok (.bipush 8, 2) := by decide +kernel
theorem dX3_joins_7 : decode cX3_joins 7 = .ok (.if_icmp .ge 17, 3) := by decide +kernel
theorem dX3_joins_10 : decode cX3_joins 10 = .ok (.iload_n 1, 1) := by decide +kernel
theorem dX3_joins_11 : decode cX3_joins 11 = .ok (.aload_n 0, 1) := by decide +kernel
theorem dX3_joins_12 : decode cX3_joins 12 = .ok (.iload_n 2, 1) := by decide +kernel
theorem dX3_joins_13 : decode cX3_joins 13 = .ok (.invokevirtual 55, 3) := by decide +kernel
theorem dX3_joins_16 : decode cX3_joins 16 = .ok (.iadd, 1) := by decide +kernel
theorem dX3_joins_17 : decode cX3_joins 17 = .ok (.istore_n 1, 1) := by decide +kernel
theorem dX3_joins_18 : decode cX3_joins 18 = .ok (.iinc 2 1, 3) := by decide +kernel
theorem dX3_joins_21 : decode cX3_joins 21 = .ok (.goto (-17), 3) := by decide +kernel
theorem dX3_joins_24 : decode cX3_joins 24 = .ok (.iload_n 1, 1) := by decide +kernel
theorem dX3_joins_25 : decode cX3_joins 25 = .ok (.ireturn, 1) := by decide +kernel
set_option maxRecDepth 20000 in
theorem ggX3_namesOf_X6_isSet : GoodIn wsX3_namesOf wsX6_isSet := goodIn_r _ [3] (by decide +kernel) (by decide +kernel)
set_option maxRecDepth 20000 in
theorem gX3_namesOf_X6_isSet_n44 : GoodIn wsX3_namesOf (wsX6_isSet) := ggX3_namesOf_X6_isSet
set_option maxRecDepth 20000 in
theorem ggX3_namesOf_X3_namedBy : GoodIn wsX3_namesOf wsX3_namedBy := goodIn_r _ [8, 9, 10, 11, 7, 12, 13, 14, 15, 16, 17, 18, 19, 20, 21] (by decide +kernel) (by decide +kernel)
set_option maxRecDepth 20000 in
theorem gX3_namesOf_X3_namedBy : GoodIn wsX3_namesOf (wsV RX3 76 RX3 yX3_namedBy wsX3_namedBy) := goodIn_app (goodIn_of _ (by decide +kernel)) ggX3_namesOf_X3_namedBy
theorem dX3_namesOf_0 : decode cX3_namesOf 0 = .ok (.iconst 1, 1) := by decide +kernel
theorem dX3_namesOf_1 : decode cX3_namesOf 1 = .ok (.iload_n 1, 1) := by decide +kernel
theorem dX3_namesOf_2 : decode cX3_namesOf 2 = .ok (.ishl, 1) := by decide +kernel
theorem dX3_namesOf_3 : decode cX3_namesOf 3 = .ok (.istore_n 2, 1) := by decide +kernel
theorem dX3_namesOf_4 : decode cX3_namesOf 4 = .ok (.iconst 0, 1) := by decide +kernel
theorem dX3_namesOf_5 : decode cX3_namesOf 5 = .ok (.istore_n 3, 1) := by decide +kernel
theorem dX3_namesOf_6 : decode cX3_namesOf 6 = .ok (.iload_n 3, 1) := by decide +kernel
theorem dX3_namesOf_7 : decode cX3_namesOf 7 = .ok (.bipush 8, 2) := by decide +kernel
theorem dX3_namesOf_9 : decode cX3_namesOf 9 = .ok (.if_icmp .ge 48, 3) := by decide +kernel
theorem dX3_namesOf_12 : decode cX3_namesOf 12 = .ok (.iconst 0, 1) := by decide +kernel
theorem dX3_namesOf_13 : decode cX3_namesOf 13 = .ok (.istore 4, 2) := by decide +kernel
theorem dX3_namesOf_15 : decode cX3_namesOf 15 = .ok (.iload 4, 2) := by decide +kernel
theorem dX3_namesOf_17 : decode cX3_namesOf 17 = .ok (.bipush 8, 2) := by decide +kernel
theorem dX3_namesOf_19 : decode cX3_namesOf 19 = .ok (.if_icmp .ge 32, 3) := by decide +kernel
theorem dX3_namesOf_22 : decode cX3_namesOf 22 = .ok (.iload_n 2, 1) := by decide +kernel
theorem dX3_namesOf_23 : decode cX3_namesOf 23 = .ok (.iload_n 2, 1) := by decide +kernel
theorem dX3_namesOf_24 : decode cX3_namesOf 24 = .ok (.i2l, 1) := by decide +kernel
theorem dX3_namesOf_25 : decode cX3_namesOf 25 = .ok (.iload 4, 2) := by decide +kernel
theorem dX3_namesOf_27 : decode cX3_namesOf 27 = .ok (.invokestatic 44, 3) := by decide +kernel
theorem dX3_namesOf_30 : decode cX3_namesOf 30 = .ok (.ifCond .eq 12, 3) := by decide +kernel
theorem dX3_namesOf_33 : decode cX3_namesOf 33 = .ok (.aload_n 0, 1) := by decide +kernel
theorem dX3_namesOf_34 : decode cX3_namesOf 34 = .ok (.iload 4, 2) := by decide +kernel
theorem dX3_namesOf_36 : decode cX3_namesOf 36 = .ok (.invokevirtual 76, 3) := by decide +kernel
theorem dX3_namesOf_39 : decode cX3_namesOf 39 = .ok (.goto 4, 3) := by decide +kernel
theorem dX3_namesOf_42 : decode cX3_namesOf 42 = .ok (.iconst 0, 1) := by decide +kernel
theorem dX3_namesOf_43 : decode cX3_namesOf 43 = .ok (.ior, 1) := by decide +kernel
theorem dX3_namesOf_44 : decode cX3_namesOf 44 = .ok (.istore_n 2, 1) := by decide +kernel
theorem dX3_namesOf_45 : decode cX3_namesOf 45 = .ok (.iinc 4 1, 3) := by decide +kernel
theorem dX3_namesOf_48 : decode cX3_namesOf 48 = .ok (.goto (-33), 3) := by decide +kernel
