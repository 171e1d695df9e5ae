theorem dX6_kind_28 : decode cX6_kind 28 = .ok (.invokevirtual 108, 3) := by decide +kernel
theorem dX6_kind_31 : decode cX6_kind 31 = .ok (.goto 6, 3) := by decide +kernel
theorem dX6_kind_34 : decode cX6_kind 34 = .ok (.sipush (-1001), 3) := by decide +kernel
theorem dX6_kind_37 : decode cX6_kind 37 = .ok (.ireturn, 1) := by decide +kernel
set_option maxRecDepth 20000 in
theorem ggX6_of_X3_has : GoodIn wsX6_of wsX3_has := goodIn_r _ [6, 7, 8, 9, 10, 50, 51, 52, 53, 54, 55, 56, 57] (by decide +kernel) (by decide +kernel)
set_option maxRecDepth 20000 in
theorem gX6_of_X3_has : GoodIn wsX6_of (wsV RX6 100 RX3 yX3_has wsX3_has) := goodIn_app (goodIn_of _ (by decide +kernel)) ggX6_of_X3_has
set_option maxRecDepth 20000 in
theorem ggX6_of_X4_duties : GoodIn wsX6_of wsX4_duties := goodIn_r _ [14, 15, 16, 13, 17] (by decide +kernel) (by decide +kernel)
set_option maxRecDepth 20000 in
theorem gX6_of_X4_duties : GoodIn wsX6_of (va_wsS RX6 119 yX4_duties wsX4_duties) := goodIn_app (goodIn_of _ (by decide +kernel)) ggX6_of_X4_duties
set_option maxRecDepth 20000 in
theorem ggX6_of_X4_bars : GoodIn wsX6_of wsX4_bars := goodIn_r _ [20, 15, 16, 13, 17] (by decide +kernel) (by decide +kernel)
set_option maxRecDepth 20000 in
theorem gX6_of_X4_bars : GoodIn wsX6_of (va_wsS RX6 122 yX4_bars wsX4_bars) := goodIn_app (goodIn_of _ (by decide +kernel)) ggX6_of_X4_bars
set_option maxRecDepth 20000 in
theorem ggX6_of_X4_meeting : GoodIn wsX6_of wsX4_meeting := goodIn_r _ [23, 15, 16, 13, 17] (by decide +kernel) (by decide +kernel)
set_option maxRecDepth 20000 in
theorem gX6_of_X4_meeting : GoodIn wsX6_of (va_wsS RX6 125 yX4_meeting wsX4_meeting) := goodIn_app (goodIn_of _ (by decide +kernel)) ggX6_of_X4_meeting
set_option maxRecDepth 20000 in
theorem ggX6_of_X3_namesOf : GoodIn wsX6_of wsX3_namesOf := goodIn_r _ [27, 8, 9, 10, 28, 29, 30, 5, 31, 32, 33, 34, 35, 36, 50, 51, 52, 53, 54, 55, 56, 57] (by decide +kernel) (by decide +kernel)
set_option maxRecDepth 20000 in
theorem gX6_of_X3_namesOf : GoodIn wsX6_of (wsV RX6 128 RX3 yX3_namesOf wsX3_namesOf) := goodIn_app (goodIn_of _ (by decide +kernel)) ggX6_of_X3_namesOf
set_option maxRecDepth 20000 in
theorem ggX6_of_X3_joinsFrom : GoodIn wsX6_of wsX3_joinsFrom := goodIn_r _ [40, 32, 33, 34, 5, 35, 36, 50, 51, 52, 53, 54, 55, 56, 57] (by decide +kernel) (by decide +kernel)
set_option maxRecDepth 20000 in
theorem gX6_of_X3_joinsFrom : GoodIn wsX6_of (wsV RX6 131 RX3 yX3_joinsFrom wsX3_joinsFrom) := goodIn_app (goodIn_of _ (by decide +kernel)) ggX6_of_X3_joinsFrom
set_option maxRecDepth 20000 in
theorem ggX6_of_X3_joinsTo : GoodIn wsX6_of wsX3_joinsTo := goodIn_r _ [44, 32, 33, 34, 5, 35, 36, 50, 51, 52, 53, 54, 55, 56, 57] (by decide +kernel) (by decide +kernel)
set_option maxRecDepth 20000 in
theorem gX6_of_X3_joinsTo : GoodIn wsX6_of (wsV RX6 134 RX3 yX3_joinsTo wsX3_joinsTo) := goodIn_app (goodIn_of _ (by decide +kernel)) ggX6_of_X3_joinsTo
theorem dX6_of_0 : decode cX6_of 0 = .ok (.aload_n 0, 1) := by decide +kernel
theorem dX6_of_1 : decode cX6_of 1 = .ok (.getfield 26, 3) := by decide +kernel
theorem dX6_of_4 : decode cX6_of 4 = .ok (.iload_n 1, 1) := by decide +kernel
theorem dX6_of_5 : decode cX6_of 5 = .ok (.invokevirtual 100, 3) := by decide +kernel
theorem dX6_of_8 : decode cX6_of 8 = .ok (.ifCond .ne 7, 3) := by decide +kernel
theorem dX6_of_11 : decode cX6_of 11 = .ok (.sipush (-1001), 3) := by decide +kernel
theorem dX6_of_14 : decode cX6_of 14 = .ok (.ireturn, 1) := by decide +kernel
theorem dX6_of_15 : decode cX6_of 15 = .ok (.iload_n 2, 1) := by decide +kernel
theorem dX6_of_16 : decode cX6_of 16 = .ok (.tableswitch 120 0 6 #[44, 54, 67, 80, 93, 102, 111], 44) := by decide +kernel
theorem dX6_of_60 : decode cX6_of 60 = .ok (.aload_n 0, 1) := by decide +kernel
theorem dX6_of_61 : decode cX6_of 61 = .ok (.getfield 26, 3) := by decide +kernel
theorem dX6_of_64 : decode cX6_of 64 = .ok (.getfield 101, 3) := by decide +kernel
theorem dX6_of_67 : decode cX6_of 67 = .ok (.iload_n 1, 1) := by decide +kernel
theorem dX6_of_68 : decode cX6_of 68 = .ok (.iaload, 1) := by decide +kernel
theorem dX6_of_69 : decode cX6_of 69 = .ok (.ireturn, 1) := by decide +kernel
theorem dX6_of_70 : decode cX6_of 70 = .ok (.aload_n 0, 1) := by decide +kernel
theorem dX6_of_71 : decode cX6_of 71 = .ok (.getfield 26, 3) := by decide +kernel
theorem dX6_of_74 : decode cX6_of 74 = .ok (.getfield 116, 3) := by decide +kernel
theorem dX6_of_77 : decode cX6_of 77 = .ok (.iload_n 1, 1) := by decide +kernel
theorem dX6_of_78 : decode cX6_of 78 = .ok (.laload, 1) := by decide +kernel
theorem dX6_of_79 : decode cX6_of 79 = .ok (.invokestatic 119, 3) := by decide +kernel
theorem dX6_of_82 : decode cX6_of 82 = .ok (.ireturn, 1) := by decide +kernel
theorem dX6_of_83 : decode cX6_of 83 = .ok (.aload_n 0, 1) := by decide +kernel
theorem dX6_of_84 : decode cX6_of 84 = .ok (.getfield 26, 3) := by decide +kernel
theorem dX6_of_87 : decode cX6_of 87 = .ok (.getfield 116, 3) := by decide +kernel
theorem dX6_of_90 : decode cX6_of 90 = .ok (.iload_n 1, 1) := by decide +kernel
theorem dX6_of_91 : decode cX6_of 91 = .ok (.laload, 1) := by decide +kernel
theorem dX6_of_92 : decode cX6_of 92 = .ok (.invokestatic 122, 3) := by decide +kernel
theorem dX6_of_95 : decode cX6_of 95 = .ok (.ireturn, 1) := by decide +kernel
theorem dX6_of_96 : decode cX6_of 96 = .ok (.aload_n 0, 1) := by decide +kernel
theorem dX6_of_97 : decode cX6_of 97 = .ok (.getfield 26, 3) := by decide +kernel
theorem dX6_of_100 : decode cX6_of 100 = .ok (.getfield 116, 3) := by decide +kernel
theorem dX6_of_103 : decode cX6_of 103 = .ok (.iload_n 1, 1) := by decide +kernel
theorem dX6_of_104 : decode cX6_of 104 = .ok (.laload, 1) := by decide +kernel
theorem dX6_of_105 : decode cX6_of 105 = .ok (.invokestatic 125, 3) := by decide +kernel
theorem dX6_of_108 : decode cX6_of 108 = .ok (.ireturn, 1) := by decide +kernel
theorem dX6_of_109 : decode cX6_of 109 = .ok (.aload_n 0, 1) := by decide +kernel
theorem dX6_of_110 : decode cX6_of 110 = .ok (.getfield 26, 3) := by decide +kernel
theorem dX6_of_113 : decode cX6_of 113 = .ok (.iload_n 1, 1) := by decide +kernel
theorem dX6_of_114 : decode cX6_of 114 = .ok (.invokevirtual 128, 3) := by decide +kernel
theorem dX6_of_117 : decode cX6_of 117 = .ok (.ireturn, 1) := by decide +kernel
theorem dX6_of_118 : decode cX6_of 118 = .ok (.aload_n 0, 1) := by decide +kernel
theorem dX6_of_119 : decode cX6_of 119 = .ok (.getfield 26, 3) := by decide +kernel
theorem dX6_of_122 : decode cX6_of 122 = .ok (.iload_n 1, 1) := by decide +kernel
theorem dX6_of_123 : decode cX6_of 123 = .ok (.invokevirtual 131, 3) := by decide +kernel
theorem dX6_of_126 : decode cX6_of 126 = .ok (.ireturn, 1) := by decide +kernel
theorem dX6_of_127 : decode cX6_of 127 = .ok (.aload_n 0, 1) := by decide +kernel
theorem dX6_of_128 : decode cX6_of 128 = .ok (.getfield 26, 3) := by decide +kernel
theorem dX6_of_131 : decode cX6_of 131 = .ok (.iload_n 1, 1) := by decide +kernel
theorem dX6_of_132 : decode cX6_of 132 = .ok (.invokevirtual 134, 3) := by decide +kernel
theorem dX6_of_135 : decode cX6_of 135 = .ok (.ireturn, 1) := by decide +kernel
theorem dX6_of_136 : decode cX6_of 136 = .ok (.sipush (-1002), 3) := by decide +kernel
theorem dX6_of_139 : decode cX6_of 139 = .ok (.ireturn, 1) := by decide +kernel
set_option maxRecDepth 20000 in
theorem ggX6_held_X3_has : GoodIn wsX6_held wsX3_has := goodIn_r _ [6, 7, 8, 9, 10, 28, 29, 30, 31, 32, 33, 34, 35] (by decide +kernel) (by decide +kernel)
set_option maxRecDepth 20000 in
theorem gX6_held_X3_has : GoodIn wsX6_held (wsV RX6 100 RX3 yX3_has wsX3_has) := goodIn_app (goodIn_of _ (by decide +kernel)) ggX6_held_X3_has
set_option maxRecDepth 20000 in
theorem ggX6_held_X6_isItem : GoodIn wsX6_held wsX6_isItem := goodIn_r _ [13] (by decide +kernel) (by decide +kernel)
set_option maxRecDepth 20000 in
theorem gX6_held_X6_isItem : GoodIn wsX6_held (va_wsS RX6 73 yX6_isItem wsX6_isItem) := goodIn_app (goodIn_of _ (by decide +kernel)) ggX6_held_X6_isItem
set_option maxRecDepth 20000 in
theorem ggX6_held_X3_reachHeld : GoodIn wsX6_held wsX3_reachHeld := goodIn_r _ [17, 18, 19, 20, 21, 22, 8, 9, 10, 28, 29, 30, 31, 32, 33, 34, 35] (by decide +kernel) (by decide +kernel)
set_option maxRecDepth 20000 in
theorem gX6_held_X3_reachHeld : GoodIn wsX6_held (wsV RX6 137 RX3 yX3_reachHeld wsX3_reachHeld) := goodIn_app (goodIn_of _ (by decide +kernel)) ggX6_held_X3_reachHeld
theorem dX6_held_0 : decode cX6_held 0 = .ok (.aload_n 0, 1) := by decide +kernel
theorem dX6_held_1 : decode cX6_held 1 = .ok (.getfield 26, 3) := by decide +kernel
theorem dX6_held_4 : decode cX6_held 4 = .ok (.iload_n 1, 1) := by decide +kernel
theorem dX6_held_5 : decode cX6_held 5 = .ok (.invokevirtual 100, 3) := by decide +kernel
theorem dX6_held_8 : decode cX6_held 8 = .ok (.ifCond .ne 7, 3) := by decide +kernel
theorem dX6_held_11 : decode cX6_held 11 = .ok (.sipush (-1001), 3) := by decide +kernel
theorem dX6_held_14 : decode cX6_held 14 = .ok (.ireturn, 1) := by decide +kernel
theorem dX6_held_15 : decode cX6_held 15 = .ok (.iload_n 2, 1) := by decide +kernel
theorem dX6_held_16 : decode cX6_held 16 = .ok (.invokestatic 73, 3) := by decide +kernel
theorem dX6_held_19 : decode cX6_held 19 = .ok (.ifCond .eq 15, 3) := by decide +kernel
theorem dX6_held_22 : decode cX6_held 22 = .ok (.aload_n 0, 1) := by decide +kernel
theorem dX6_held_23 : decode cX6_held 23 = .ok (.getfield 26, 3) := by decide +kernel
theorem dX6_held_26 : decode cX6_held 26 = .ok (.iload_n 1, 1) := by decide +kernel
theorem dX6_held_27 : decode cX6_held 27 = .ok (.iload_n 2, 1) := by decide +kernel
theorem dX6_held_28 : decode cX6_held 28 = .ok (.invokevirtual 137, 3) := by decide +kernel
theorem dX6_held_31 : decode cX6_held 31 = .ok (.goto 6, 3) := by decide +kernel
theorem dX6_held_34 : decode cX6_held 34 = .ok (.sipush (-1002), 3) := by decide +kernel
theorem dX6_held_37 : decode cX6_held 37 = .ok (.ireturn, 1) := by decide +kernel
set_option maxRecDepth 20000 in
theorem ggX6_way_X3_has : GoodIn wsX6_way wsX3_has := goodIn_r _ [7, 8, 9, 10, 11, 55, 56, 57, 58, 59, 60, 61, 62] (by decide +kernel) (by decide +kernel)
set_option maxRecDepth 20000 in
theorem gX6_way_X3_has : GoodIn wsX6_way (wsV RX6 100 RX3 yX3_has wsX3_has) := goodIn_app (goodIn_of _ (by decide +kernel)) ggX6_way_X3_has
set_option maxRecDepth 20000 in
theorem ggX6_way_X6_isItem : GoodIn wsX6_way wsX6_isItem := goodIn_r _ [14] (by decide +kernel) (by decide +kernel)
set_option maxRecDepth 20000 in
theorem gX6_way_X6_isItem : GoodIn wsX6_way (va_wsS RX6 73 yX6_isItem wsX6_isItem) := goodIn_app (goodIn_of _ (by decide +kernel)) ggX6_way_X6_isItem
set_option maxRecDepth 20000 in
theorem ggX6_way_X5_partAt : GoodIn wsX6_way wsX5_partAt := goodIn_r _ [19, 20, 21, 22, 23, 24, 6, 25, 26, 27, 28, 29, 30, 9, 10, 11, 31, 32, 33, 18, 34, 35, 4, 5, 7, 8, 36, 37, 38, 39, 40, 41, 42, 43, 44, 45, 46, 47, 48, 49, 63, 64, 55, 56, 57, 58, 59, 60, 61, 62] (by decide +kernel) (by decide +kernel)
set_option maxRecDepth 20000 in
theorem gX6_way_X5_partAt : GoodIn wsX6_way (wsV RX6 140 RX5 yX5_partAt wsX5_partAt) := goodIn_app (goodIn_of _ (by decide +kernel)) ggX6_way_X5_partAt
theorem dX6_way_0 : decode cX6_way 0 = .ok (.aload_n 0, 1) := by decide +kernel
theorem dX6_way_1 : decode cX6_way 1 = .ok (.getfield 26, 3) := by decide +kernel
theorem dX6_way_4 : decode cX6_way 4 = .ok (.iload_n 1, 1) := by decide +kernel
theorem dX6_way_5 : decode cX6_way 5 = .ok (.invokevirtual 100, 3) := by decide +kernel
theorem dX6_way_8 : decode cX6_way 8 = .ok (.ifCond .ne 7, 3) := by decide +kernel
theorem dX6_way_11 : decode cX6_way 11 = .ok (.sipush (-1001), 3) := by decide +kernel
theorem dX6_way_14 : decode cX6_way 14 = .ok (.ireturn, 1) := by decide +kernel
theorem dX6_way_15 : decode cX6_way 15 = .ok (.iload_n 2, 1) := by decide +kernel
theorem dX6_way_16 : decode cX6_way 16 = .ok (.invokestatic 73, 3) := by decide +kernel
theorem dX6_way_19 : decode cX6_way 19 = .ok (.ifCond .eq 16, 3) := by decide +kernel
theorem dX6_way_22 : decode cX6_way 22 = .ok (.aload_n 0, 1) := by decide +kernel
theorem dX6_way_23 : decode cX6_way 23 = .ok (.getfield 35, 3) := by decide +kernel
theorem dX6_way_26 : decode cX6_way 26 = .ok (.iload_n 1, 1) := by decide +kernel
theorem dX6_way_27 : decode cX6_way 27 = .ok (.iload_n 2, 1) := by decide +kernel
theorem dX6_way_28 : decode cX6_way 28 = .ok (.iload_n 3, 1) := by decide +kernel
theorem dX6_way_29 : decode cX6_way 29 = .ok (.invokevirtual 140, 3) := by decide +kernel
theorem dX6_way_32 : decode cX6_way 32 = .ok (.goto 6, 3) := by decide +kernel
theorem dX6_way_35 : decode cX6_way 35 = .ok (.sipush (-1002), 3) := by decide +kernel
theorem dX6_way_38 : decode cX6_way 38 = .ok (.ireturn, 1) := by decide +kernel
set_option maxRecDepth 20000 in
theorem ggX6_clash_X1_at : GoodIn wsX6_clash wsX1_at := goodIn_r _ [6, 7, 8, 9, 5, 10, 11, 12, 13, 14, 15, 16, 17, 18, 19, 20, 21, 22, 23, 24, 30, 31, 32, 33, 34, 35, 36, 37, 38, 39, 40, 41] (by decide +kernel) (by decide +kernel)
set_option maxRecDepth 20000 in
theorem gX6_clash_X1_at : GoodIn wsX6_clash (wsV RX6 144 RX1 yX1_at wsX1_at) := goodIn_app (goodIn_of _ (by decide +kernel)) ggX6_clash_X1_at
theorem dX6_clash_0 : decode cX6_clash 0 = .ok (.aload_n 0, 1) := by decide +kernel
theorem dX6_clash_1 : decode cX6_clash 1 = .ok (.getfield 42, 3) := by decide +kernel
theorem dX6_clash_4 : decode cX6_clash 4 = .ok (.iload_n 1, 1) := by decide +kernel
theorem dX6_clash_5 : decode cX6_clash 5 = .ok (.invokevirtual 144, 3) := by decide +kernel
theorem dX6_clash_8 : decode cX6_clash 8 = .ok (.istore_n 2, 1) := by decide +kernel
theorem dX6_clash_9 : decode cX6_clash 9 = .ok (.iload_n 2, 1) := by decide +kernel
theorem dX6_clash_10 : decode cX6_clash 10 = .ok (.iconst (-1), 1) := by decide +kernel
theorem dX6_clash_11 : decode cX6_clash 11 = .ok (.if_icmp .ne 9, 3) := by decide +kernel
theorem dX6_clash_14 : decode cX6_clash 14 = .ok (.sipush (-1001), 3) := by decide +kernel
theorem dX6_clash_17 : decode cX6_clash 17 = .ok (.goto 4, 3) := by decide +kernel
theorem dX6_clash_20 : decode cX6_clash 20 = .ok (.iload_n 2, 1) := by decide +kernel
theorem dX6_clash_21 : decode cX6_clash 21 = .ok (.ireturn, 1) := by decide +kernel
set_option maxRecDepth 20000 in
theorem ggX6_cause_X3_has : GoodIn wsX6_cause wsX3_has := goodIn_r _ [7, 8, 9, 10, 11, 65, 66, 67, 68, 69, 70, 71, 72] (by decide +kernel) (by decide +kernel)
set_option maxRecDepth 20000 in
theorem gX6_cause_X3_has : GoodIn wsX6_cause (wsV RX6 100 RX3 yX3_has wsX3_has) := goodIn_app (goodIn_of _ (by decide +kernel)) ggX6_cause_X3_has
set_option maxRecDepth 20000 in
theorem ggX6_cause_X1_fewestFor : GoodIn wsX6_cause wsX1_fewestFor := goodIn_r _ [16, 17, 18, 19, 20, 21, 15, 22, 23, 24, 25, 26, 27, 28, 29, 30, 31, 32, 9, 10, 11, 33, 34, 35, 36, 37, 38, 39, 40, 41, 6, 42, 43, 44, 45, 46, 47, 48, 49, 50, 51, 52, 53, 54, 55, 56, 57, 58, 59, 73, 74, 75, 76, 65, 66, 67, 68, 69, 70, 71, 72] (by decide +kernel) (by decide +kernel)
set_option maxRecDepth 20000 in
theorem gX6_cause_X1_fewestFor : GoodIn wsX6_cause (wsV RX6 147 RX1 yX1_fewestFor wsX1_fewestFor) := goodIn_app (goodIn_of _ (by decide +kernel)) ggX6_cause_X1_fewestFor
theorem dX6_cause_0 : decode cX6_cause 0 = .ok (.aload_n 0, 1) := by decide +kernel
theorem dX6_cause_1 : decode cX6_cause 1 = .ok (.getfield 26, 3) := by decide +kernel
theorem dX6_cause_4 : decode cX6_cause 4 = .ok (.iload_n 1, 1) := by decide +kernel
theorem dX6_cause_5 : decode cX6_cause 5 = .ok (.invokevirtual 100, 3) := by decide +kernel
theorem dX6_cause_8 : decode cX6_cause 8 = .ok (.ifCond .ne 7, 3) := by decide +kernel
theorem dX6_cause_11 : decode cX6_cause 11 = .ok (.sipush (-1001), 3) := by decide +kernel
theorem dX6_cause_14 : decode cX6_cause 14 = .ok (.ireturn, 1) := by decide +kernel
theorem dX6_cause_15 : decode cX6_cause 15 = .ok (.iload_n 2, 1) := by decide +kernel
theorem dX6_cause_16 : decode cX6_cause 16 = .ok (.ifCond .lt 25, 3) := by decide +kernel
theorem dX6_cause_19 : decode cX6_cause 19 = .ok (.iload_n 2, 1) := by decide +kernel
theorem dX6_cause_20 : decode cX6_cause 20 = .ok (.bipush 6, 2) := by decide +kernel
theorem dX6_cause_22 : decode cX6_cause 22 = .ok (.if_icmp .ge 19, 3) := by decide +kernel
theorem dX6_cause_25 : decode cX6_cause 25 = .ok (.aload_n 0, 1) := by decide +kernel
theorem dX6_cause_26 : decode cX6_cause 26 = .ok (.getfield 42, 3) := by decide +kernel
theorem dX6_cause_29 : decode cX6_cause 29 = .ok (.iload_n 1, 1) := by decide +kernel
theorem dX6_cause_30 : decode cX6_cause 30 = .ok (.bipush 6, 2) := by decide +kernel
theorem dX6_cause_32 : decode cX6_cause 32 = .ok (.imul, 1) := by decide +kernel
theorem dX6_cause_33 : decode cX6_cause 33 = .ok (.iload_n 2, 1) := by decide +kernel
theorem dX6_cause_34 : decode cX6_cause 34 = .ok (.iadd, 1) := by decide +kernel
theorem dX6_cause_35 : decode cX6_cause 35 = .ok (.invokevirtual 147, 3) := by decide +kernel
theorem dX6_cause_38 : decode cX6_cause 38 = .ok (.goto 6, 3) := by decide +kernel
theorem dX6_cause_41 : decode cX6_cause 41 = .ok (.sipush (-1002), 3) := by decide +kernel
theorem dX6_cause_44 : decode cX6_cause 44 = .ok (.ireturn, 1) := by decide +kernel
set_option maxRecDepth 20000 in
theorem ggX6_cure_X1_fewestToLeave : GoodIn wsX6_cure wsX1_fewestToLeave := goodIn_r _ [6, 7, 8, 9, 10, 11, 5, 12, 13, 14, 15, 16, 17, 18, 19, 20, 21, 22, 23, 24, 25, 26, 27, 28, 29, 30, 31, 32, 33, 34, 35, 36, 37, 38, 39, 40, 41, 42, 43, 44, 45, 46, 47, 48, 49, 50, 51, 52, 53, 59, 60, 61, 62, 63, 64, 65, 66, 67, 68, 69, 70] (by decide +kernel) (by decide +kernel)
set_option maxRecDepth 20000 in
theorem gX6_cure_X1_fewestToLeave : GoodIn wsX6_cure (wsV RX6 150 RX1 yX1_fewestToLeave wsX1_fewestToLeave) := goodIn_app (goodIn_of _ (by decide +kernel)) ggX6_cure_X1_fewestToLeave
theorem dX6_cure_0 : decode cX6_cure 0 = .ok (.aload_n 0, 1) := by decide +kernel
theorem dX6_cure_1 : decode cX6_cure 1 = .ok (.getfield 42, 3) := by decide +kernel
theorem dX6_cure_4 : decode cX6_cure 4 = .ok (.invokevirtual 150, 3) := by decide +kernel
theorem dX6_cure_7 : decode cX6_cure 7 = .ok (.ireturn, 1) := by decide +kernel
set_option maxRecDepth 20000 in
theorem ggX6_count_J6_bitCount_0f7a4 : GoodIn wsX6_count wsJ6_bitCount_0f7a4 := goodIn_r _ [8, 9, 10, 11] (by decide +kernel) (by decide +kernel)
set_option maxRecDepth 20000 in
theorem gX6_count_J6_bitCount_0f7a4 : GoodIn wsX6_count (va_wsS RX6 159 yJ6_bitCount_0f7a4 wsJ6_bitCount_0f7a4) := goodIn_app (goodIn_of _ (by decide +kernel)) ggX6_count_J6_bitCount_0f7a4
set_option maxRecDepth 20000 in
theorem ggX6_count_X3_joins : GoodIn wsX6_count wsX3_joins := goodIn_r _ [16, 17, 18, 19, 15, 20, 21, 22, 23, 24, 25, 62, 63, 64, 65, 66, 67, 68, 69] (by decide +kernel) (by decide +kernel)
set_option maxRecDepth 20000 in
theorem gX6_count_X3_joins : GoodIn wsX6_count (wsV RX6 164 RX3 yX3_joins wsX3_joins) := goodIn_app (goodIn_of _ (by decide +kernel)) ggX6_count_X3_joins
set_option maxRecDepth 20000 in
theorem ggX6_count_X1_now : GoodIn wsX6_count wsX1_now := goodIn_r _ [30, 31, 32, 33, 29, 34, 35, 36, 37, 38, 39, 40, 41, 70, 71, 72, 73, 62, 63, 64, 65, 66, 67, 68, 69] (by decide +kernel) (by decide +kernel)
set_option maxRecDepth 20000 in
theorem gX6_count_X1_now : GoodIn wsX6_count (wsV RX6 167 RX1 yX1_now wsX1_now) := goodIn_app (goodIn_of _ (by decide +kernel)) ggX6_count_X1_now
set_option maxRecDepth 20000 in
theorem ggX6_count_J13_bitCount_95d88 : GoodIn wsX6_count wsJ13_bitCount_95d88 := goodIn_r _ [45, 46, 47, 48] (by decide +kernel) (by decide +kernel)
set_option maxRecDepth 20000 in
theorem gX6_count_J13_bitCount_95d88 : GoodIn wsX6_count (va_wsS RX6 170 yJ13_bitCount_95d88 wsJ13_bitCount_95d88) := goodIn_app (goodIn_of _ (by decide +kernel)) ggX6_count_J13_bitCount_95d88
set_option maxRecDepth 20000 in
theorem ggX6_count_X1_partsNow : GoodIn wsX6_count wsX1_partsNow := goodIn_r _ [52, 31, 35, 36, 37, 38, 39, 40, 41, 70, 71, 72, 73, 62, 63, 64, 65, 66, 67, 68, 69] (by decide +kernel) (by decide +kernel)
set_option maxRecDepth 20000 in
theorem gX6_count_X1_partsNow : GoodIn wsX6_count (wsV RX6 174 RX1 yX1_partsNow wsX1_partsNow) := goodIn_app (goodIn_of _ (by decide +kernel)) ggX6_count_X1_partsNow
theorem dX6_count_0 : decode cX6_count 0 = .ok (.iload_n 1, 1) := by decide +kernel
theorem dX6_count_1 : decode cX6_count 1 = .ok (.tableswitch 117 0 7 #[47, 55, 63, 74, 82, 90, 101, 109], 47) := by decide +kernel
theorem dX6_count_48 : decode cX6_count 48 = .ok (.aload_n 0, 1) := by decide +kernel
theorem dX6_count_49 : decode cX6_count 49 = .ok (.getfield 12, 3) := by decide +kernel
theorem dX6_count_52 : decode cX6_count 52 = .ok (.getfield 46, 3) := by decide +kernel
theorem dX6_count_55 : decode cX6_count 55 = .ok (.ireturn, 1) := by decide +kernel
theorem dX6_count_56 : decode cX6_count 56 = .ok (.aload_n 0, 1) := by decide +kernel
theorem dX6_count_57 : decode cX6_count 57 = .ok (.getfield 19, 3) := by decide +kernel
theorem dX6_count_60 : decode cX6_count 60 = .ok (.getfield 153, 3) := by decide +kernel
theorem dX6_count_63 : decode cX6_count 63 = .ok (.ireturn, 1) := by decide +kernel
theorem dX6_count_64 : decode cX6_count 64 = .ok (.aload_n 0, 1) := by decide +kernel
theorem dX6_count_65 : decode cX6_count 65 = .ok (.getfield 26, 3) := by decide +kernel
theorem dX6_count_68 : decode cX6_count 68 = .ok (.getfield 156, 3) := by decide +kernel
theorem dX6_count_71 : decode cX6_count 71 = .ok (.invokestatic 159, 3) := by decide +kernel
theorem dX6_count_74 : decode cX6_count 74 = .ok (.ireturn, 1) := by decide +kernel
theorem dX6_count_75 : decode cX6_count 75 = .ok (.aload_n 0, 1) := by decide +kernel
theorem dX6_count_76 : decode cX6_count 76 = .ok (.getfield 26, 3) := by decide +kernel
theorem dX6_count_79 : decode cX6_count 79 = .ok (.getfield 156, 3) := by decide +kernel
theorem dX6_count_82 : decode cX6_count 82 = .ok (.ireturn, 1) := by decide +kernel
theorem dX6_count_83 : decode cX6_count 83 = .ok (.aload_n 0, 1) := by decide +kernel
theorem dX6_count_84 : decode cX6_count 84 = .ok (.getfield 26, 3) := by decide +kernel
theorem dX6_count_87 : decode cX6_count 87 = .ok (.invokevirtual 164, 3) := by decide +kernel
theorem dX6_count_90 : decode cX6_count 90 = .ok (.ireturn, 1) := by decide +kernel
theorem dX6_count_91 : decode cX6_count 91 = .ok (.aload_n 0, 1) := by decide +kernel
theorem dX6_count_92 : decode cX6_count 92 = .ok (.getfield 42, 3) := by decide +kernel
theorem dX6_count_95 : decode cX6_count 95 = .ok (.invokevirtual 167, 3) := by decide +kernel
theorem dX6_count_98 : decode cX6_count 98 = .ok (.invokestatic 170, 3) := by decide +kernel
theorem dX6_count_101 : decode cX6_count 101 = .ok (.ireturn, 1) := by decide +kernel
theorem dX6_count_102 : decode cX6_count 102 = .ok (.aload_n 0, 1) := by decide +kernel
theorem dX6_count_103 : decode cX6_count 103 = .ok (.getfield 42, 3) := by decide +kernel
theorem dX6_count_106 : decode cX6_count 106 = .ok (.invokevirtual 174, 3) := by decide +kernel
theorem dX6_count_109 : decode cX6_count 109 = .ok (.ireturn, 1) := by decide +kernel
theorem dX6_count_110 : decode cX6_count 110 = .ok (.aload_n 0, 1) := by decide +kernel
theorem dX6_count_111 : decode cX6_count 111 = .ok (.getfield 26, 3) := by decide +kernel
theorem dX6_count_114 : decode cX6_count 114 = .ok (.getfield 177, 3) := by decide +kernel
theorem dX6_count_117 : decode cX6_count 117 = .ok (.ireturn, 1) := by decide +kernel
theorem dX6_count_118 : decode cX6_count 118 = .ok (.sipush (-1002), 3) := by decide +kernel
theorem dX6_count_121 : decode cX6_count 121 = .ok (.ireturn, 1) := by decide +kernel
set_option maxRecDepth 20000 in
theorem ggX6_digest_X6_withTerms : GoodIn wsX6_digest wsX6_withTerms := goodIn_r _ [8, 9, 10, 11, 12, 7, 13, 14, 15, 16, 17, 18, 19, 20, 21, 22, 23, 24, 25, 26, 27, 28, 29, 30, 31, 32, 173, 174, 175, 176, 177, 180, 181] (by decide +kernel) (by decide +kernel)
set_option maxRecDepth 20000 in
theorem gX6_digest_X6_withTerms : GoodIn wsX6_digest (wsV RX6 182 RX6 yX6_withTerms wsX6_withTerms) := goodIn_app (goodIn_of _ (by decide +kernel)) ggX6_digest_X6_withTerms
set_option maxRecDepth 20000 in
theorem ggX6_digest_X3_has : GoodIn wsX6_digest wsX3_has := goodIn_r _ [37, 38, 27, 7, 28, 182, 183, 184, 185, 186, 187, 188, 189] (by decide +kernel) (by decide +kernel)
set_option maxRecDepth 20000 in
theorem gX6_digest_X3_has : GoodIn wsX6_digest (wsV RX6 100 RX3 yX3_has wsX3_has) := goodIn_app (goodIn_of _ (by decide +kernel)) ggX6_digest_X3_has
set_option maxRecDepth 20000 in
theorem ggX6_digest_X6_withPart : GoodIn wsX6_digest wsX6_withPart := goodIn_r _ [42, 2, 29, 30, 7, 31, 32, 43, 44, 45, 46, 33, 34, 35, 36, 37, 38, 27, 28, 47, 48, 25, 49, 50, 51, 52, 53, 54, 55, 56, 57, 58, 59, 60, 61, 62, 63, 64, 65, 66, 67, 68, 69, 70, 71, 72, 73, 74, 75, 76, 77, 78, 79, 80, 81, 82, 83, 20, 21, 22, 84, 85, 86, 87, 88, 89, 24, 26, 90, 91, 92, 93, 94, 173, 174, 175, 176, 177, 182, 183, 184, 185, 186, 187, 188, 189] (by decide +kernel) (by decide +kernel)
set_option maxRecDepth 20000 in
theorem gX6_digest_X6_withPart : GoodIn wsX6_digest (wsV RX6 186 RX6 yX6_withPart wsX6_withPart) := goodIn_app (goodIn_of _ (by decide +kernel)) ggX6_digest_X6_withPart
set_option maxRecDepth 20000 in
theorem ggX6_digest_X6_withClashes : GoodIn wsX6_digest wsX6_withClashes := goodIn_r _ [98, 99, 100, 101, 102, 103, 104, 105, 106, 107, 108, 109, 57, 25, 58, 50, 51, 52, 110, 27, 7, 28, 29, 30, 31, 32, 111, 112, 113, 114, 115, 116, 117, 118, 119, 120, 121, 122, 123, 124, 125, 36, 126, 127, 128, 129, 130, 131, 132, 133, 134, 135, 136, 137, 138, 139, 140, 141, 142, 143, 173, 174, 175, 176, 177, 190, 191, 192, 193, 182, 183, 184, 185, 186, 187, 188, 189] (by decide +kernel) (by decide +kernel)
set_option maxRecDepth 20000 in
theorem gX6_digest_X6_withClashes : GoodIn wsX6_digest (wsV RX6 190 RX6 yX6_withClashes wsX6_withClashes) := goodIn_app (goodIn_of _ (by decide +kernel)) ggX6_digest_X6_withClashes
set_option maxRecDepth 20000 in
theorem ggX6_digest_X6_cure : GoodIn wsX6_digest wsX6_cure := goodIn_r _ [147, 99, 148, 149, 150, 103, 151, 105, 115, 116, 101, 102, 104, 106, 107, 108, 109, 57, 25, 58, 50, 51, 52, 117, 118, 119, 120, 121, 122, 123, 124, 125, 36, 126, 127, 27, 7, 28, 128, 129, 130, 131, 132, 133, 134, 135, 136, 137, 138, 139, 140, 141, 142, 143, 173, 174, 175, 176, 177, 190, 191, 192, 193, 182, 183, 184, 185, 186, 187, 188, 189] (by decide +kernel) (by decide +kernel)
set_option maxRecDepth 20000 in
theorem gX6_digest_X6_cure : GoodIn wsX6_digest (wsV RX6 193 RX6 yX6_cure wsX6_cure) := goodIn_app (goodIn_of _ (by decide +kernel)) ggX6_digest_X6_cure
set_option maxRecDepth 20000 in
theorem ggX6_digest_X6_mix : GoodIn wsX6_digest wsX6_mix := goodIn_r _ [31, 32] (by decide +kernel) (by decide +kernel)
set_option maxRecDepth 20000 in
theorem gX6_digest_X6_mix : GoodIn wsX6_digest (va_wsS RX6 196 yX6_mix wsX6_mix) := goodIn_app (goodIn_of _ (by decide +kernel)) ggX6_digest_X6_mix
set_option maxRecDepth 20000 in
theorem ggX6_digest_X6_count : GoodIn wsX6_digest wsX6_count := goodIn_r _ [155, 3, 9, 2, 99, 156, 138, 139, 140, 141, 142, 143, 157, 158, 159, 36, 160, 161, 73, 74, 75, 67, 68, 69, 70, 71, 100, 101, 102, 103, 104, 105, 106, 107, 108, 109, 57, 25, 58, 50, 51, 52, 162, 163, 164, 165, 166, 167, 168, 169, 170, 171, 172, 173, 174, 175, 176, 177, 178, 179, 180, 181, 182, 183, 184, 185, 186, 187, 188, 189, 190, 191, 192, 193] (by decide +kernel) (by decide +kernel)
set_option maxRecDepth 20000 in
theorem gX6_digest_X6_count : GoodIn wsX6_digest (wsV RX6 203 RX6 yX6_count wsX6_count) := goodIn_app (goodIn_of _ (by decide +kernel)) ggX6_digest_X6_count
theorem dX6_digest_0 : decode cX6_digest 0 = .ok (.aload_n 0, 1) := by decide +kernel
theorem dX6_digest_1 : decode cX6_digest 1 = .ok (.ldc2_w 180, 3) := by decide +kernel
theorem dX6_digest_4 : decode cX6_digest 4 = .ok (.invokevirtual 182, 3) := by decide +kernel
theorem dX6_digest_7 : decode cX6_digest 7 = .ok (.lstore_n 1, 1) := by decide +kernel
theorem dX6_digest_8 : decode cX6_digest 8 = .ok (.iconst 0, 1) := by decide +kernel
theorem dX6_digest_9 : decode cX6_digest 9 = .ok (.istore_n 3, 1) := by decide +kernel
theorem dX6_digest_10 : decode cX6_digest 10 = .ok (.iload_n 3, 1) := by decide +kernel
theorem dX6_digest_11 : decode cX6_digest 11 = .ok (.bipush 8, 2) := by decide +kernel
theorem dX6_digest_13 : decode cX6_digest 13 = .ok (.if_icmp .ge 27, 3) := by decide +kernel
theorem dX6_digest_16 : decode cX6_digest 16 = .ok (.aload_n 0, 1) := by decide +kernel
theorem dX6_digest_17 : decode cX6_digest 17 = .ok (.getfield 26, 3) := by decide +kernel
theorem dX6_digest_20 : decode cX6_digest 20 = .ok (.iload_n 3, 1) := by decide +kernel
theorem dX6_digest_21 : decode cX6_digest 21 = .ok (.invokevirtual 100, 3) := by decide +kernel
theorem dX6_digest_24 : decode cX6_digest 24 = .ok (.ifCond .eq 10, 3) := by decide +kernel
theorem dX6_digest_27 : decode cX6_digest 27 = .ok (.aload_n 0, 1) := by decide +kernel
theorem dX6_digest_28 : decode cX6_digest 28 = .ok (.lload_n 1, 1) := by decide +kernel
theorem dX6_digest_29 : decode cX6_digest 29 = .ok (.iload_n 3, 1) := by decide +kernel
theorem dX6_digest_30 : decode cX6_digest 30 = .ok (.invokevirtual 186, 3) := by decide +kernel
theorem dX6_digest_33 : decode cX6_digest 33 = .ok (.lstore_n 1, 1) := by decide +kernel
theorem dX6_digest_34 : decode cX6_digest 34 = .ok (.iinc 3 1, 3) := by decide +kernel
theorem dX6_digest_37 : decode cX6_digest 37 = .ok (.goto (-27), 3) := by decide +kernel
theorem dX6_digest_40 : decode cX6_digest 40 = .ok (.aload_n 0, 1) := by decide +kernel
theorem dX6_digest_41 : decode cX6_digest 41 = .ok (.lload_n 1, 1) := by decide +kernel
theorem dX6_digest_42 : decode cX6_digest 42 = .ok (.invokevirtual 190, 3) := by decide +kernel
theorem dX6_digest_45 : decode cX6_digest 45 = .ok (.lstore_n 1, 1) := by decide +kernel
theorem dX6_digest_46 : decode cX6_digest 46 = .ok (.lload_n 1, 1) := by decide +kernel
theorem dX6_digest_47 : decode cX6_digest 47 = .ok (.aload_n 0, 1) := by decide +kernel
theorem dX6_digest_48 : decode cX6_digest 48 = .ok (.invokevirtual 193, 3) := by decide +kernel
theorem dX6_digest_51 : decode cX6_digest 51 = .ok (.i2l, 1) := by decide +kernel
theorem dX6_digest_52 : decode cX6_digest 52 = .ok (.invokestatic 196, 3) := by decide +kernel
theorem dX6_digest_55 : decode cX6_digest 55 = .ok (.lstore_n 1, 1) := by decide +kernel
theorem dX6_digest_56 : decode cX6_digest 56 = .ok (.iconst 0, 1) := by decide +kernel
theorem dX6_digest_57 : decode cX6_digest 57 = .ok (.istore_n 3, 1) := by decide +kernel
theorem dX6_digest_58 : decode cX6_digest 58 = .ok (.iload_n 3, 1) := by decide +kernel
theorem dX6_digest_59 : decode cX6_digest 59 = .ok (.aload_n 0, 1) := by decide +kernel
theorem dX6_digest_60 : decode cX6_digest 60 = .ok (.getfield 12, 3) := by decide +kernel
theorem dX6_digest_63 : decode cX6_digest 63 = .ok (.getfield 46, 3) := by decide +kernel
theorem dX6_digest_66 : decode cX6_digest 66 = .ok (.if_icmp .ge 24, 3) := by decide +kernel
theorem dX6_digest_69 : decode cX6_digest 69 = .ok (.lload_n 1, 1) := by decide +kernel
theorem dX6_digest_70 : decode cX6_digest 70 = .ok (.aload_n 0, 1) := by decide +kernel
theorem dX6_digest_71 : decode cX6_digest 71 = .ok (.getfield 12, 3) := by decide +kernel
theorem dX6_digest_74 : decode cX6_digest 74 = .ok (.getfield 200, 3) := by decide +kernel
theorem dX6_digest_77 : decode cX6_digest 77 = .ok (.iload_n 3, 1) := by decide +kernel
theorem dX6_digest_78 : decode cX6_digest 78 = .ok (.iaload, 1) := by decide +kernel
theorem dX6_digest_79 : decode cX6_digest 79 = .ok (.i2l, 1) := by decide +kernel
theorem dX6_digest_80 : decode cX6_digest 80 = .ok (.invokestatic 196, 3) := by decide +kernel
theorem dX6_digest_83 : decode cX6_digest 83 = .ok (.lstore_n 1, 1) := by decide +kernel
theorem dX6_digest_84 : decode cX6_digest 84 = .ok (.iinc 3 1, 3) := by decide +kernel
theorem dX6_digest_87 : decode cX6_digest 87 = .ok (.goto (-29), 3) := by decide +kernel
theorem dX6_digest_90 : decode cX6_digest 90 = .ok (.iconst 0, 1) := by decide +kernel
theorem dX6_digest_91 : decode cX6_digest 91 = .ok (.istore_n 3, 1) := by decide +kernel
theorem dX6_digest_92 : decode cX6_digest 92 = .ok (.iload_n 3, 1) := by decide +kernel
theorem dX6_digest_93 : decode cX6_digest 93 = .ok (.bipush 7, 2) := by decide +kernel
theorem dX6_digest_95 : decode cX6_digest 95 = .ok (.if_icmp .gt 20, 3) := by decide +kernel
theorem dX6_digest_98 : decode cX6_digest 98 = .ok (.lload_n 1, 1) := by decide +kernel
theorem dX6_digest_99 : decode cX6_digest 99 = .ok (.aload_n 0, 1) := by decide +kernel
theorem dX6_digest_100 : decode cX6_digest 100 = .ok (.iload_n 3, 1) := by decide +kernel
theorem dX6_digest_101 : decode cX6_digest 101 = .ok (.invokevirtual 203, 3) := by decide +kernel
theorem dX6_digest_104 : decode cX6_digest 104 = .ok (.i2l, 1) := by decide +kernel
theorem dX6_digest_105 : decode cX6_digest 105 = .ok (.invokestatic 196, 3) := by decide +kernel
theorem dX6_digest_108 : decode cX6_digest 108 = .ok (.lstore_n 1, 1) := by decide +kernel
theorem dX6_digest_109 : decode cX6_digest 109 = .ok (.iinc 3 1, 3) := by decide +kernel
theorem dX6_digest_112 : decode cX6_digest 112 = .ok (.goto (-20), 3) := by decide +kernel
theorem dX6_digest_115 : decode cX6_digest 115 = .ok (.lload_n 1, 1) := by decide +kernel
theorem dX6_digest_116 : decode cX6_digest 116 = .ok (.lreturn, 1) := by decide +kernel
set_option maxRecDepth 20000 in
theorem ggX6_withTerms_X6_reach : GoodIn wsX6_withTerms wsX6_reach := goodIn_r _ [6, 1, 7, 8, 9, 10, 11, 12, 13, 14, 5, 15, 16, 17, 18, 19, 20, 21, 26, 27, 28, 29, 30, 31, 32] (by decide +kernel) (by decide +kernel)
set_option maxRecDepth 20000 in
theorem gX6_withTerms_X6_reach : GoodIn wsX6_withTerms (wsV RX6 206 RX6 yX6_reach wsX6_reach) := goodIn_app (goodIn_of _ (by decide +kernel)) ggX6_withTerms_X6_reach
set_option maxRecDepth 20000 in
theorem ggX6_withTerms_X6_mix : GoodIn wsX6_withTerms wsX6_mix := goodIn_r _ [24, 25] (by decide +kernel) (by decide +kernel)
set_option maxRecDepth 20000 in
theorem gX6_withTerms_X6_mix : GoodIn wsX6_withTerms (va_wsS RX6 196 yX6_mix wsX6_mix) := goodIn_app (goodIn_of _ (by decide +kernel)) ggX6_withTerms_X6_mix
theorem dX6_withTerms_0 : decode cX6_withTerms 0 = .ok (.lload_n 1, 1) := by decide +kernel
theorem dX6_withTerms_1 : decode cX6_withTerms 1 = .ok (.lstore_n 3, 1) := by decide +kernel
theorem dX6_withTerms_2 : decode cX6_withTerms 2 = .ok (.iconst 0, 1) := by decide +kernel
theorem dX6_withTerms_3 : decode cX6_withTerms 3 = .ok (.istore 5, 2) := by decide +kernel
theorem dX6_withTerms_5 : decode cX6_withTerms 5 = .ok (.iload 5, 2) := by decide +kernel
theorem dX6_withTerms_7 : decode cX6_withTerms 7 = .ok (.aload_n 0, 1) := by decide +kernel
theorem dX6_withTerms_8 : decode cX6_withTerms 8 = .ok (.getfield 19, 3) := by decide +kernel
theorem dX6_withTerms_11 : decode cX6_withTerms 11 = .ok (.getfield 153, 3) := by decide +kernel
theorem dX6_withTerms_14 : decode cX6_withTerms 14 = .ok (.if_icmp .ge 39, 3) := by decide +kernel
theorem dX6_withTerms_17 : decode cX6_withTerms 17 = .ok (.iconst 0, 1) := by decide +kernel
theorem dX6_withTerms_18 : decode cX6_withTerms 18 = .ok (.istore 6, 2) := by decide +kernel
theorem dX6_withTerms_20 : decode cX6_withTerms 20 = .ok (.iload 6, 2) := by decide +kernel
theorem dX6_withTerms_22 : decode cX6_withTerms 22 = .ok (.bipush 12, 2) := by decide +kernel
theorem dX6_withTerms_24 : decode cX6_withTerms 24 = .ok (.if_icmp .ge 23, 3) := by decide +kernel
theorem dX6_withTerms_27 : decode cX6_withTerms 27 = .ok (.lload_n 3, 1) := by decide +kernel
theorem dX6_withTerms_28 : decode cX6_withTerms 28 = .ok (.aload_n 0, 1) := by decide +kernel
theorem dX6_withTerms_29 : decode cX6_withTerms 29 = .ok (.iload 5, 2) := by decide +kernel
theorem dX6_withTerms_31 : decode cX6_withTerms 31 = .ok (.iload 6, 2) := by decide +kernel
theorem dX6_withTerms_33 : decode cX6_withTerms 33 = .ok (.invokevirtual 206, 3) := by decide +kernel
theorem dX6_withTerms_36 : decode cX6_withTerms 36 = .ok (.i2l, 1) := by decide +kernel
theorem dX6_withTerms_37 : decode cX6_withTerms 37 = .ok (.invokestatic 196, 3) := by decide +kernel
theorem dX6_withTerms_40 : decode cX6_withTerms 40 = .ok (.lstore_n 3, 1) := by decide +kernel
theorem dX6_withTerms_41 : decode cX6_withTerms 41 = .ok (.iinc 6 1, 3) := by decide +kernel
theorem dX6_withTerms_44 : decode cX6_withTerms 44 = .ok (.goto (-24), 3) := by decide +kernel
theorem dX6_withTerms_47 : decode cX6_withTerms 47 = .ok (.iinc 5 1, 3) := by decide +kernel
theorem dX6_withTerms_50 : decode cX6_withTerms 50 = .ok (.goto (-45), 3) := by decide +kernel
theorem dX6_withTerms_53 : decode cX6_withTerms 53 = .ok (.lload_n 3, 1) := by decide +kernel
theorem dX6_withTerms_54 : decode cX6_withTerms 54 = .ok (.lreturn, 1) := by decide +kernel
set_option maxRecDepth 20000 in
theorem ggX6_withPart_X6_mix : GoodIn wsX6_withPart wsX6_mix := goodIn_r _ [5, 6] (by decide +kernel) (by decide +kernel)
set_option maxRecDepth 20000 in
theorem gX6_withPart_X6_mix : GoodIn wsX6_withPart (va_wsS RX6 196 yX6_mix wsX6_mix) := goodIn_app (goodIn_of _ (by decide +kernel)) ggX6_withPart_X6_mix
set_option maxRecDepth 20000 in
theorem ggX6_withPart_X6_of : GoodIn wsX6_withPart wsX6_of := goodIn_r _ [10, 1, 11, 12, 13, 14, 15, 16, 17, 4, 18, 19, 20, 21, 22, 23, 24, 25, 26, 27, 28, 29, 30, 31, 32, 33, 34, 35, 36, 37, 38, 39, 40, 41, 42, 43, 44, 45, 46, 47, 48, 49, 50, 51, 52, 73, 74, 75, 76, 77, 78, 79, 80, 81, 82, 83, 84, 85] (by decide +kernel) (by decide +kernel)
set_option maxRecDepth 20000 in
theorem gX6_withPart_X6_of : GoodIn wsX6_withPart (wsV RX6 209 RX6 yX6_of wsX6_of) := goodIn_app (goodIn_of _ (by decide +kernel)) ggX6_withPart_X6_of
set_option maxRecDepth 20000 in
theorem ggX6_withPart_X6_held : GoodIn wsX6_withPart wsX6_held := goodIn_r _ [56, 1, 11, 12, 13, 14, 15, 16, 17, 4, 18, 57, 58, 59, 60, 61, 62, 63, 64, 65, 66, 21, 67, 73, 74, 75, 76, 77, 78, 79, 80, 81, 82, 83, 84, 85] (by decide +kernel) (by decide +kernel)
set_option maxRecDepth 20000 in
theorem gX6_withPart_X6_held : GoodIn wsX6_withPart (wsV RX6 212 RX6 yX6_held wsX6_held) := goodIn_app (goodIn_of _ (by decide +kernel)) ggX6_withPart_X6_held
set_option maxRecDepth 20000 in
theorem ggX6_withPart_X3_has : GoodIn wsX6_withPart wsX3_has := goodIn_r _ [15, 16, 17, 4, 18, 78, 79, 80, 81, 82, 83, 84, 85] (by decide +kernel) (by decide +kernel)
set_option maxRecDepth 20000 in
theorem gX6_withPart_X3_has : GoodIn wsX6_withPart (wsV RX6 100 RX3 yX3_has wsX3_has) := goodIn_app (goodIn_of _ (by decide +kernel)) ggX6_withPart_X3_has
set_option maxRecDepth 20000 in
theorem ggX6_withPart_X6_kind : GoodIn wsX6_withPart wsX6_kind := goodIn_r _ [71, 1, 11, 12, 13, 14, 15, 16, 17, 4, 18, 72, 41, 42, 43, 44, 73, 74, 75, 76, 77, 78, 79, 80, 81, 82, 83, 84, 85] (by decide +kernel) (by decide +kernel)
set_option maxRecDepth 20000 in
theorem gX6_withPart_X6_kind : GoodIn wsX6_withPart (wsV RX6 215 RX6 yX6_kind wsX6_kind) := goodIn_app (goodIn_of _ (by decide +kernel)) ggX6_withPart_X6_kind
theorem dX6_withPart_0 : decode cX6_withPart 0 = .ok (.lload_n 1, 1) := by decide +kernel
theorem dX6_withPart_1 : decode cX6_withPart 1 = .ok (.iload_n 3, 1) := by decide +kernel
theorem dX6_withPart_2 : decode cX6_withPart 2 = .ok (.i2l, 1) := by decide +kernel
theorem dX6_withPart_3 : decode cX6_withPart 3 = .ok (.invokestatic 196, 3) := by decide +kernel
theorem dX6_withPart_6 : decode cX6_withPart 6 = .ok (.lstore 4, 2) := by decide +kernel
theorem dX6_withPart_8 : decode cX6_withPart 8 = .ok (.iconst 0, 1) := by decide +kernel
theorem dX6_withPart_9 : decode cX6_withPart 9 = .ok (.istore 6, 2) := by decide +kernel
theorem dX6_withPart_11 : decode cX6_withPart 11 = .ok (.iload 6, 2) := by decide +kernel
theorem dX6_withPart_13 : decode cX6_withPart 13 = .ok (.bipush 6, 2) := by decide +kernel
theorem dX6_withPart_15 : decode cX6_withPart 15 = .ok (.if_icmp .gt 24, 3) := by decide +kernel
theorem dX6_withPart_18 : decode cX6_withPart 18 = .ok (.lload 4, 2) := by decide +kernel
theorem dX6_withPart_20 : decode cX6_withPart 20 = .ok (.aload_n 0, 1) := by decide +kernel
theorem dX6_withPart_21 : decode cX6_withPart 21 = .ok (.iload_n 3, 1) := by decide +kernel
theorem dX6_withPart_22 : decode cX6_withPart 22 = .ok (.iload 6, 2) := by decide +kernel
theorem dX6_withPart_24 : decode cX6_withPart 24 = .ok (.invokevirtual 209, 3) := by decide +kernel
theorem dX6_withPart_27 : decode cX6_withPart 27 = .ok (.i2l, 1) := by decide +kernel
theorem dX6_withPart_28 : decode cX6_withPart 28 = .ok (.invokestatic 196, 3) := by decide +kernel
theorem dX6_withPart_31 : decode cX6_withPart 31 = .ok (.lstore 4, 2) := by decide +kernel
theorem dX6_withPart_33 : decode cX6_withPart 33 = .ok (.iinc 6 1, 3) := by decide +kernel
theorem dX6_withPart_36 : decode cX6_withPart 36 = .ok (.goto (-25), 3) := by decide +kernel
theorem dX6_withPart_39 : decode cX6_withPart 39 = .ok (.iconst 0, 1) := by decide +kernel
theorem dX6_withPart_40 : decode cX6_withPart 40 = .ok (.istore 6, 2) := by decide +kernel
theorem dX6_withPart_42 : decode cX6_withPart 42 = .ok (.iload 6, 2) := by decide +kernel
theorem dX6_withPart_44 : decode cX6_withPart 44 = .ok (.bipush 12, 2) := by decide +kernel
theorem dX6_withPart_46 : decode cX6_withPart 46 = .ok (.if_icmp .ge 24, 3) := by decide +kernel
theorem dX6_withPart_49 : decode cX6_withPart 49 = .ok (.lload 4, 2) := by decide +kernel
theorem dX6_withPart_51 : decode cX6_withPart 51 = .ok (.aload_n 0, 1) := by decide +kernel
theorem dX6_withPart_52 : decode cX6_withPart 52 = .ok (.iload_n 3, 1) := by decide +kernel
theorem dX6_withPart_53 : decode cX6_withPart 53 = .ok (.iload 6, 2) := by decide +kernel
theorem dX6_withPart_55 : decode cX6_withPart 55 = .ok (.invokevirtual 212, 3) := by decide +kernel
theorem dX6_withPart_58 : decode cX6_withPart 58 = .ok (.i2l, 1) := by decide +kernel
theorem dX6_withPart_59 : decode cX6_withPart 59 = .ok (.invokestatic 196, 3) := by decide +kernel
theorem dX6_withPart_62 : decode cX6_withPart 62 = .ok (.lstore 4, 2) := by decide +kernel
theorem dX6_withPart_64 : decode cX6_withPart 64 = .ok (.iinc 6 1, 3) := by decide +kernel
theorem dX6_withPart_67 : decode cX6_withPart 67 = .ok (.goto (-25), 3) := by decide +kernel
theorem dX6_withPart_70 : decode cX6_withPart 70 = .ok (.iconst 0, 1) := by decide +kernel
theorem dX6_withPart_71 : decode cX6_withPart 71 = .ok (.istore 6, 2) := by decide +kernel
theorem dX6_withPart_73 : decode cX6_withPart 73 = .ok (.iload 6, 2) := by decide +kernel
theorem dX6_withPart_75 : decode cX6_withPart 75 = .ok (.bipush 8, 2) := by decide +kernel
theorem dX6_withPart_77 : decode cX6_withPart 77 = .ok (.if_icmp .ge 36, 3) := by decide +kernel
theorem dX6_withPart_80 : decode cX6_withPart 80 = .ok (.aload_n 0, 1) := by decide +kernel
theorem dX6_withPart_81 : decode cX6_withPart 81 = .ok (.getfield 26, 3) := by decide +kernel
theorem dX6_withPart_84 : decode cX6_withPart 84 = .ok (.iload 6, 2) := by decide +kernel
theorem dX6_withPart_86 : decode cX6_withPart 86 = .ok (.invokevirtual 100, 3) := by decide +kernel
theorem dX6_withPart_89 : decode cX6_withPart 89 = .ok (.ifCond .eq 18, 3) := by decide +kernel
theorem dX6_withPart_92 : decode cX6_withPart 92 = .ok (.lload 4, 2) := by decide +kernel
theorem dX6_withPart_94 : decode cX6_withPart 94 = .ok (.aload_n 0, 1) := by decide +kernel
theorem dX6_withPart_95 : decode cX6_withPart 95 = .ok (.iload_n 3, 1) := by decide +kernel
theorem dX6_withPart_96 : decode cX6_withPart 96 = .ok (.iload 6, 2) := by decide +kernel
theorem dX6_withPart_98 : decode cX6_withPart 98 = .ok (.invokevirtual 215, 3) := by decide +kernel
theorem dX6_withPart_101 : decode cX6_withPart 101 = .ok (.i2l, 1) := by decide +kernel
theorem dX6_withPart_102 : decode cX6_withPart 102 = .ok (.invokestatic 196, 3) := by decide +kernel
theorem dX6_withPart_105 : decode cX6_withPart 105 = .ok (.lstore 4, 2) := by decide +kernel
theorem dX6_withPart_107 : decode cX6_withPart 107 = .ok (.iinc 6 1, 3) := by decide +kernel
theorem dX6_withPart_110 : decode cX6_withPart 110 = .ok (.goto (-37), 3) := by decide +kernel
theorem dX6_withPart_113 : decode cX6_withPart 113 = .ok (.lload 4, 2) := by decide +kernel
theorem dX6_withPart_115 : decode cX6_withPart 115 = .ok (.lreturn, 1) := by decide +kernel
set_option maxRecDepth 20000 in
theorem ggX6_withClashes_X1_now : GoodIn wsX6_withClashes wsX1_now := goodIn_r _ [6, 7, 8, 9, 5, 10, 11, 12, 13, 14, 15, 16, 17, 65, 66, 67, 68, 69, 70, 71, 72, 73, 74, 75, 76] (by decide +kernel) (by decide +kernel)
set_option maxRecDepth 20000 in
theorem gX6_withClashes_X1_now : GoodIn wsX6_withClashes (wsV RX6 167 RX1 yX1_now wsX1_now) := goodIn_app (goodIn_of _ (by decide +kernel)) ggX6_withClashes_X1_now
set_option maxRecDepth 20000 in
theorem ggX6_withClashes_X6_isSet : GoodIn wsX6_withClashes wsX6_isSet := goodIn_r _ [21] (by decide +kernel) (by decide +kernel)
set_option maxRecDepth 20000 in
theorem gX6_withClashes_X6_isSet : GoodIn wsX6_withClashes (va_wsS RX6 218 yX6_isSet wsX6_isSet) := goodIn_app (goodIn_of _ (by decide +kernel)) ggX6_withClashes_X6_isSet
set_option maxRecDepth 20000 in
theorem ggX6_withClashes_X6_mix : GoodIn wsX6_withClashes wsX6_mix := goodIn_r _ [24, 25] (by decide +kernel) (by decide +kernel)
set_option maxRecDepth 20000 in
theorem gX6_withClashes_X6_mix : GoodIn wsX6_withClashes (va_wsS RX6 196 yX6_mix wsX6_mix) := goodIn_app (goodIn_of _ (by decide +kernel)) ggX6_withClashes_X6_mix
set_option maxRecDepth 20000 in
theorem ggX6_withClashes_X1_fewestFor : GoodIn wsX6_withClashes wsX1_fewestFor := goodIn_r _ [29, 7, 30, 31, 3, 4, 5, 6, 8, 9, 10, 11, 12, 13, 14, 15, 16, 17, 19, 20, 21, 32, 33, 34, 35, 36, 37, 38, 39, 40, 41, 42, 43, 44, 45, 46, 47, 48, 49, 50, 51, 52, 53, 54, 55, 56, 57, 58, 59, 65, 66, 67, 68, 69, 70, 71, 72, 73, 74, 75, 76] (by decide +kernel) (by decide +kernel)
set_option maxRecDepth 20000 in
theorem gX6_withClashes_X1_fewestFor : GoodIn wsX6_withClashes (wsV RX6 147 RX1 yX1_fewestFor wsX1_fewestFor) := goodIn_app (goodIn_of _ (by decide +kernel)) ggX6_withClashes_X1_fewestFor
theorem dX6_withClashes_0 : decode cX6_withClashes 0 = .ok (.lload_n 1, 1) := by decide +kernel
theorem dX6_withClashes_1 : decode cX6_withClashes 1 = .ok (.lstore_n 3, 1) := by decide +kernel
theorem dX6_withClashes_2 : decode cX6_withClashes 2 = .ok (.aload_n 0, 1) := by decide +kernel
theorem dX6_withClashes_3 : decode cX6_withClashes 3 = .ok (.getfield 42, 3) := by decide +kernel
theorem dX6_withClashes_6 : decode cX6_withClashes 6 = .ok (.invokevirtual 167, 3) := by decide +kernel
theorem dX6_withClashes_9 : decode cX6_withClashes 9 = .ok (.lstore 5, 2) := by decide +kernel
theorem dX6_withClashes_11 : decode cX6_withClashes 11 = .ok (.iconst 0, 1) := by decide +kernel
theorem dX6_withClashes_12 : decode cX6_withClashes 12 = .ok (.istore 7, 2) := by decide +kernel
theorem dX6_withClashes_14 : decode cX6_withClashes 14 = .ok (.iload 7, 2) := by decide +kernel
theorem dX6_withClashes_16 : decode cX6_withClashes 16 = .ok (.bipush 48, 2) := by decide +kernel
theorem dX6_withClashes_18 : decode cX6_withClashes 18 = .ok (.if_icmp .ge 42, 3) := by decide +kernel
theorem dX6_withClashes_21 : decode cX6_withClashes 21 = .ok (.lload 5, 2) := by decide +kernel
theorem dX6_withClashes_23 : decode cX6_withClashes 23 = .ok (.iload 7, 2) := by decide +kernel
theorem dX6_withClashes_25 : decode cX6_withClashes 25 = .ok (.invokestatic 218, 3) := by decide +kernel
theorem dX6_withClashes_28 : decode cX6_withClashes 28 = .ok (.ifCond .eq 26, 3) := by decide +kernel
theorem dX6_withClashes_31 : decode cX6_withClashes 31 = .ok (.lload_n 3, 1) := by decide +kernel
theorem dX6_withClashes_32 : decode cX6_withClashes 32 = .ok (.iload 7, 2) := by decide +kernel
theorem dX6_withClashes_34 : decode cX6_withClashes 34 = .ok (.i2l, 1) := by decide +kernel
theorem dX6_withClashes_35 : decode cX6_withClashes 35 = .ok (.invokestatic 196, 3) := by decide +kernel
theorem dX6_withClashes_38 : decode cX6_withClashes 38 = .ok (.lstore_n 3, 1) := by decide +kernel
theorem dX6_withClashes_39 : decode cX6_withClashes 39 = .ok (.lload_n 3, 1) := by decide +kernel
theorem dX6_withClashes_40 : decode cX6_withClashes 40 = .ok (.aload_n 0, 1) := by decide +kernel
theorem dX6_withClashes_41 : decode cX6_withClashes 41 = .ok (.getfield 42, 3) := by decide +kernel
theorem dX6_withClashes_44 : decode cX6_withClashes 44 = .ok (.iload 7, 2) := by decide +kernel
theorem dX6_withClashes_46 : decode cX6_withClashes 46 = .ok (.invokevirtual 147, 3) := by decide +kernel
theorem dX6_withClashes_49 : decode cX6_withClashes 49 = .ok (.i2l, 1) := by decide +kernel
theorem dX6_withClashes_50 : decode cX6_withClashes 50 = .ok (.invokestatic 196, 3) := by decide +kernel
theorem dX6_withClashes_53 : decode cX6_withClashes 53 = .ok (.lstore_n 3, 1) := by decide +kernel
theorem dX6_withClashes_54 : decode cX6_withClashes 54 = .ok (.iinc 7 1, 3) := by decide +kernel
theorem dX6_withClashes_57 : decode cX6_withClashes 57 = .ok (.goto (-43), 3) := by decide +kernel
theorem dX6_withClashes_60 : decode cX6_withClashes 60 = .ok (.lload_n 3, 1) := by decide +kernel
theorem dX6_withClashes_61 : decode cX6_withClashes 61 = .ok (.lreturn, 1) := by decide +kernel
theorem dX6_mix_0 : decode cX6_mix 0 = .ok (.ldc2_w 222, 3) := by decide +kernel
theorem dX6_mix_3 : decode cX6_mix 3 = .ok (.lload_n 0, 1) := by decide +kernel
theorem dX6_mix_4 : decode cX6_mix 4 = .ok (.lmul, 1) := by decide +kernel
theorem dX6_mix_5 : decode cX6_mix 5 = .ok (.lload_n 2, 1) := by decide +kernel
theorem dX6_mix_6 : decode cX6_mix 6 = .ok (.ladd, 1) := by decide +kernel
theorem dX6_mix_7 : decode cX6_mix 7 = .ok (.lreturn, 1) := by decide +kernel
theorem dX6_isItem_0 : decode cX6_isItem 0 = .ok (.iload_n 0, 1) := by decide +kernel
theorem dX6_isItem_1 : decode cX6_isItem 1 = .ok (.ifCond .lt 13, 3) := by decide +kernel
theorem dX6_isItem_4 : decode cX6_isItem 4 = .ok (.iload_n 0, 1) := by decide +kernel
theorem dX6_isItem_5 : decode cX6_isItem 5 = .ok (.bipush 12, 2) := by decide +kernel
theorem dX6_isItem_7 : decode cX6_isItem 7 = .ok (.if_icmp .ge 7, 3) := by decide +kernel
theorem dX6_isItem_10 : decode cX6_isItem 10 = .ok (.iconst 1, 1) := by decide +kernel
theorem dX6_isItem_11 : decode cX6_isItem 11 = .ok (.goto 4, 3) := by decide +kernel
theorem dX6_isItem_14 : decode cX6_isItem 14 = .ok (.iconst 0, 1) := by decide +kernel
theorem dX6_isItem_15 : decode cX6_isItem 15 = .ok (.ireturn, 1) := by decide +kernel
theorem dX6_isSet_0 : decode cX6_isSet 0 = .ok (.lload_n 0, 1) := by decide +kernel
theorem dX6_isSet_1 : decode cX6_isSet 1 = .ok (.iload_n 2, 1) := by decide +kernel
theorem dX6_isSet_2 : decode cX6_isSet 2 = .ok (.lshr, 1) := by decide +kernel
theorem dX6_isSet_3 : decode cX6_isSet 3 = .ok (.lconst 1, 1) := by decide +kernel
theorem dX6_isSet_4 : decode cX6_isSet 4 = .ok (.land, 1) := by decide +kernel
theorem dX6_isSet_5 : decode cX6_isSet 5 = .ok (.lconst 0, 1) := by decide +kernel
theorem dX6_isSet_6 : decode cX6_isSet 6 = .ok (.lcmp, 1) := by decide +kernel
theorem dX6_isSet_7 : decode cX6_isSet 7 = .ok (.ifCond .eq 7, 3) := by decide +kernel
theorem dX6_isSet_10 : decode cX6_isSet 10 = .ok (.iconst 1, 1) := by decide +kernel
theorem dX6_isSet_11 : decode cX6_isSet 11 = .ok (.goto 4, 3) := by decide +kernel
theorem dX6_isSet_14 : decode cX6_isSet 14 = .ok (.iconst 0, 1) := by decide +kernel
theorem dX6_isSet_15 : decode cX6_isSet 15 = .ok (.ireturn, 1) := by decide +kernel
theorem dX7_init_0 : decode cX7_init 0 = .ok (.aload_n 0, 1) := by decide +kernel
theorem dX7_init_1 : decode cX7_init 1 = .ok (.invokespecial 1, 3) := by decide +kernel
theorem dX7_init_4 : decode cX7_init 4 = .ok (.aload_n 0, 1) := by decide +kernel
theorem dX7_init_5 : decode cX7_init 5 = .ok (.bipush 24, 2) := by decide +kernel
theorem dX7_init_7 : decode cX7_init 7 = .ok (.newarray .int, 2) := by decide +kernel
theorem dX7_init_9 : decode cX7_init 9 = .ok (.putfield 7, 3) := by decide +kernel
theorem dX7_init_12 : decode cX7_init 12 = .ok (.aload_n 0, 1) := by decide +kernel
theorem dX7_init_13 : decode cX7_init 13 = .ok (.bipush 108, 2) := by decide +kernel
theorem dX7_init_15 : decode cX7_init 15 = .ok (.newarray .int, 2) := by decide +kernel
theorem dX7_init_17 : decode cX7_init 17 = .ok (.putfield 13, 3) := by decide +kernel
theorem dX7_init_20 : decode cX7_init 20 = .ok (.aload_n 0, 1) := by decide +kernel
theorem dX7_init_21 : decode cX7_init 21 = .ok (.bipush 8, 2) := by decide +kernel
theorem dX7_init_23 : decode cX7_init 23 = .ok (.newarray .int, 2) := by decide +kernel
theorem dX7_init_25 : decode cX7_init 25 = .ok (.putfield 16, 3) := by decide +kernel
theorem dX7_init_28 : decode cX7_init 28 = .ok (.aload_n 0, 1) := by decide +kernel
theorem dX7_init_29 : decode cX7_init 29 = .ok (.bipush 64, 2) := by decide +kernel
theorem dX7_init_31 : decode cX7_init 31 = .ok (.newarray .int, 2) := by decide +kernel
theorem dX7_init_33 : decode cX7_init 33 = .ok (.putfield 19, 3) := by decide +kernel
theorem dX7_init_36 : decode cX7_init 36 = .ok (.aload_n 0, 1) := by decide +kernel
theorem dX7_init_37 : decode cX7_init 37 = .ok (.bipush 8, 2) := by decide +kernel
theorem dX7_init_39 : decode cX7_init 39 = .ok (.newarray .int, 2) := by decide +kernel
theorem dX7_init_41 : decode cX7_init 41 = .ok (.putfield 22, 3) := by decide +kernel
theorem dX7_init_44 : decode cX7_init 44 = .ok (.aload_n 0, 1) := by decide +kernel
theorem dX7_init_45 : decode cX7_init 45 = .ok (.bipush 8, 2) := by decide +kernel
theorem dX7_init_47 : decode cX7_init 47 = .ok (.newarray .int, 2) := by decide +kernel
theorem dX7_init_49 : decode cX7_init 49 = .ok (.putfield 25, 3) := by decide +kernel
theorem dX7_init_52 : decode cX7_init 52 = .ok (.aload_n 0, 1) := by decide +kernel
theorem dX7_init_53 : decode cX7_init 53 = .ok (.bipush 48, 2) := by decide +kernel
theorem dX7_init_55 : decode cX7_init 55 = .ok (.newarray .int, 2) := by decide +kernel
theorem dX7_init_57 : decode cX7_init 57 = .ok (.putfield 28, 3) := by decide +kernel
theorem dX7_init_60 : decode cX7_init 60 = .ok (.return_, 1) := by decide +kernel
theorem dX7_within_0 : decode cX7_within 0 = .ok (.iload_n 0, 1) := by decide +kernel
theorem dX7_within_1 : decode cX7_within 1 = .ok (.iload_n 1, 1) := by decide +kernel
theorem dX7_within_2 : decode cX7_within 2 = .ok (.if_icmp .lt 12, 3) := by decide +kernel
theorem dX7_within_5 : decode cX7_within 5 = .ok (.iload_n 0, 1) := by decide +kernel
theorem dX7_within_6 : decode cX7_within 6 = .ok (.iload_n 2, 1) := by decide +kernel
theorem dX7_within_7 : decode cX7_within 7 = .ok (.if_icmp .gt 7, 3) := by decide +kernel
theorem dX7_within_10 : decode cX7_within 10 = .ok (.iconst 1, 1) := by decide +kernel
theorem dX7_within_11 : decode cX7_within 11 = .ok (.goto 4, 3) := by decide +kernel
theorem dX7_within_14 : decode cX7_within 14 = .ok (.iconst 0, 1) := by decide +kernel
theorem dX7_within_15 : decode cX7_within 15 = .ok (.ireturn, 1) := by decide +kernel
theorem dX7_has_0 : decode cX7_has 0 = .ok (.iload_n 0, 1) := by decide +kernel
theorem dX7_has_1 : decode cX7_has 1 = .ok (.iload_n 1, 1) := by decide +kernel
theorem dX7_has_2 : decode cX7_has 2 = .ok (.ishr, 1) := by decide +kernel
theorem dX7_has_3 : decode cX7_has 3 = .ok (.iconst 1, 1) := by decide +kernel
theorem dX7_has_4 : decode cX7_has 4 = .ok (.iand, 1) := by decide +kernel
theorem dX7_has_5 : decode cX7_has 5 = .ok (.iconst 1, 1) := by decide +kernel
theorem dX7_has_6 : decode cX7_has 6 = .ok (.if_icmp .ne 7, 3) := by decide +kernel
theorem dX7_has_9 : decode cX7_has 9 = .ok (.iconst 1, 1) := by decide +kernel
theorem dX7_has_10 : decode cX7_has 10 = .ok (.goto 4, 3) := by decide +kernel
theorem dX7_has_13 : decode cX7_has 13 = .ok (.iconst 0, 1) := by decide +kernel
theorem dX7_has_14 : decode cX7_has 14 = .ok (.ireturn, 1) := by decide +kernel
theorem dX7_ones_0 : decode cX7_ones 0 = .ok (.iconst 0, 1) := by decide +kernel
theorem dX7_ones_1 : decode cX7_ones 1 = .ok (.istore_n 1, 1) := by decide +kernel
theorem dX7_ones_2 : decode cX7_ones 2 = .ok (.iconst 0, 1) := by decide +kernel
theorem dX7_ones_3 : decode cX7_ones 3 = .ok (.istore_n 2, 1) := by decide +kernel
theorem dX7_ones_4 : decode cX7_ones 4 = .ok (.iload_n 2, 1) := by decide +kernel
theorem dX7_ones_5 : decode cX7_ones 5 = .ok (.bipush 8, 2) := by decide +kernel
theorem dX7_ones_7 : decode cX7_ones 7 = .ok (.if_icmp .ge 17, 3) := by decide +kernel
theorem dX7_ones_10 : decode cX7_ones 10 = .ok (.iload_n 1, 1) := by decide +kernel
theorem dX7_ones_11 : decode cX7_ones 11 = .ok (.iload_n 0, 1) := by decide +kernel
theorem dX7_ones_12 : decode cX7_ones 12 = .ok (.iload_n 2, 1) := by decide +kernel
theorem dX7_ones_13 : decode cX7_ones 13 = .ok (.ishr, 1) := by decide +kernel
theorem dX7_ones_14 : decode cX7_ones 14 = .ok (.iconst 1, 1) := by decide +kernel
theorem dX7_ones_15 : decode cX7_ones 15 = .ok (.iand, 1) := by decide +kernel
theorem dX7_ones_16 : decode cX7_ones 16 = .ok (.iadd, 1) := by decide +kernel
theorem dX7_ones_17 : decode cX7_ones 17 = .ok (.istore_n 1, 1) := by decide +kernel
theorem dX7_ones_18 : decode cX7_ones 18 = .ok (.iinc 2 1, 3) := by decide +kernel
theorem dX7_ones_21 : decode cX7_ones 21 = .ok (.goto (-17), 3) := by decide +kernel
theorem dX7_ones_24 : decode cX7_ones 24 = .ok (.iload_n 1, 1) := by decide +kernel
theorem dX7_ones_25 : decode cX7_ones 25 = .ok (.ireturn, 1) := by decide +kernel
set_option maxRecDepth 20000 in
theorem ggX7_letter_X7_within : GoodIn wsX7_letter wsX7_within := goodIn_r _ [6] (by decide +kernel) (by decide +kernel)
set_option maxRecDepth 20000 in
theorem gX7_letter_X7_within : GoodIn wsX7_letter (va_wsS RX7 31 yX7_within wsX7_within) := goodIn_app (goodIn_of _ (by decide +kernel)) ggX7_letter_X7_within
theorem dX7_letter_0 : decode cX7_letter 0 = .ok (.iload_n 1, 1) := by decide +kernel
theorem dX7_letter_1 : decode cX7_letter 1 = .ok (.bipush 32, 2) := by decide +kernel
theorem dX7_letter_3 : decode cX7_letter 3 = .ok (.bipush 126, 2) := by decide +kernel
theorem dX7_letter_5 : decode cX7_letter 5 = .ok (.invokestatic 31, 3) := by decide +kernel
theorem dX7_letter_8 : decode cX7_letter 8 = .ok (.ifCond .ne 7, 3) := by decide +kernel
theorem dX7_letter_11 : decode cX7_letter 11 = .ok (.sipush (-1002), 3) := by decide +kernel
theorem dX7_letter_14 : decode cX7_letter 14 = .ok (.ireturn, 1) := by decide +kernel
theorem dX7_letter_15 : decode cX7_letter 15 = .ok (.aload_n 0, 1) := by decide +kernel
theorem dX7_letter_16 : decode cX7_letter 16 = .ok (.getfield 35, 3) := by decide +kernel
theorem dX7_letter_19 : decode cX7_letter 19 = .ok (.bipush 24, 2) := by decide +kernel
theorem dX7_letter_21 : decode cX7_letter 21 = .ok (.if_icmp .ne 7, 3) := by decide +kernel
theorem dX7_letter_24 : decode cX7_letter 24 = .ok (.sipush (-1004), 3) := by decide +kernel
theorem dX7_letter_27 : decode cX7_letter 27 = .ok (.ireturn, 1) := by decide +kernel
theorem dX7_letter_28 : decode cX7_letter 28 = .ok (.aload_n 0, 1) := by decide +kernel
theorem dX7_letter_29 : decode cX7_letter 29 = .ok (.getfield 7, 3) := by decide +kernel
theorem dX7_letter_32 : decode cX7_letter 32 = .ok (.aload_n 0, 1) := by decide +kernel
theorem dX7_letter_33 : decode cX7_letter 33 = .ok (.getfield 35, 3) := by decide +kernel
theorem dX7_letter_36 : decode cX7_letter 36 = .ok (.iload_n 1, 1) := by decide +kernel
theorem dX7_letter_37 : decode cX7_letter 37 = .ok (.iastore, 1) := by decide +kernel
theorem dX7_letter_38 : decode cX7_letter 38 = .ok (.aload_n 0, 1) := by decide +kernel
theorem dX7_letter_39 : decode cX7_letter 39 = .ok (.dup, 1) := by decide +kernel
theorem dX7_letter_40 : decode cX7_letter 40 = .ok (.getfield 35, 3) := by decide +kernel
theorem dX7_letter_43 : decode cX7_letter 43 = .ok (.iconst 1, 1) := by decide +kernel
theorem dX7_letter_44 : decode cX7_letter 44 = .ok (.iadd, 1) := by decide +kernel
theorem dX7_letter_45 : decode cX7_letter 45 = .ok (.putfield 35, 3) := by decide +kernel
theorem dX7_letter_48 : decode cX7_letter 48 = .ok (.aload_n 0, 1) := by decide +kernel
theorem dX7_letter_49 : decode cX7_letter 49 = .ok (.getfield 35, 3) := by decide +kernel
theorem dX7_letter_52 : decode cX7_letter 52 = .ok (.ireturn, 1) := by decide +kernel
theorem dX7_blank_0 : decode cX7_blank 0 = .ok (.aload_n 0, 1) := by decide +kernel
theorem dX7_blank_1 : decode cX7_blank 1 = .ok (.getfield 35, 3) := by decide +kernel
theorem dX7_blank_4 : decode cX7_blank 4 = .ok (.istore_n 1, 1) := by decide +kernel
theorem dX7_blank_5 : decode cX7_blank 5 = .ok (.aload_n 0, 1) := by decide +kernel
theorem dX7_blank_6 : decode cX7_blank 6 = .ok (.iconst 0, 1) := by decide +kernel
theorem dX7_blank_7 : decode cX7_blank 7 = .ok (.putfield 35, 3) := by decide +kernel
theorem dX7_blank_10 : decode cX7_blank 10 = .ok (.iload_n 1, 1) := by decide +kernel
theorem dX7_blank_11 : decode cX7_blank 11 = .ok (.ireturn, 1) := by decide +kernel
set_option maxRecDepth 20000 in
theorem ggX7_itemOf_X7_within : GoodIn wsX7_itemOf wsX7_within := goodIn_r _ [4] (by decide +kernel) (by decide +kernel)
set_option maxRecDepth 20000 in
theorem gX7_itemOf_X7_within : GoodIn wsX7_itemOf (va_wsS RX7 31 yX7_within wsX7_within) := goodIn_app (goodIn_of _ (by decide +kernel)) ggX7_itemOf_X7_within
theorem dX7_itemOf_0 : decode cX7_itemOf 0 = .ok (.iload_n 0, 1) := by decide +kernel
theorem dX7_itemOf_1 : decode cX7_itemOf 1 = .ok (.bipush 112, 2) := by decide +kernel
theorem dX7_itemOf_3 : decode cX7_itemOf 3 = .ok (.bipush 117, 2) := by decide +kernel
theorem dX7_itemOf_5 : decode cX7_itemOf 5 = .ok (.invokestatic 31, 3) := by decide +kernel
theorem dX7_itemOf_8 : decode cX7_itemOf 8 = .ok (.ifCond .eq 10, 3) := by decide +kernel
theorem dX7_itemOf_11 : decode cX7_itemOf 11 = .ok (.iload_n 0, 1) := by decide +kernel
theorem dX7_itemOf_12 : decode cX7_itemOf 12 = .ok (.bipush 112, 2) := by decide +kernel
theorem dX7_itemOf_14 : decode cX7_itemOf 14 = .ok (.isub, 1) := by decide +kernel
theorem dX7_itemOf_15 : decode cX7_itemOf 15 = .ok (.goto 25, 3) := by decide +kernel
theorem dX7_itemOf_18 : decode cX7_itemOf 18 = .ok (.iload_n 0, 1) := by decide +kernel
theorem dX7_itemOf_19 : decode cX7_itemOf 19 = .ok (.bipush 80, 2) := by decide +kernel
theorem dX7_itemOf_21 : decode cX7_itemOf 21 = .ok (.bipush 85, 2) := by decide +kernel
theorem dX7_itemOf_23 : decode cX7_itemOf 23 = .ok (.invokestatic 31, 3) := by decide +kernel
theorem dX7_itemOf_26 : decode cX7_itemOf 26 = .ok (.ifCond .eq 13, 3) := by decide +kernel
theorem dX7_itemOf_29 : decode cX7_itemOf 29 = .ok (.iload_n 0, 1) := by decide +kernel
theorem dX7_itemOf_30 : decode cX7_itemOf 30 = .ok (.bipush 80, 2) := by decide +kernel
theorem dX7_itemOf_32 : decode cX7_itemOf 32 = .ok (.isub, 1) := by decide +kernel
theorem dX7_itemOf_33 : decode cX7_itemOf 33 = .ok (.bipush 6, 2) := by decide +kernel
theorem dX7_itemOf_35 : decode cX7_itemOf 35 = .ok (.iadd, 1) := by decide +kernel
theorem dX7_itemOf_36 : decode cX7_itemOf 36 = .ok (.goto 4, 3) := by decide +kernel
theorem dX7_itemOf_39 : decode cX7_itemOf 39 = .ok (.iconst (-1), 1) := by decide +kernel
theorem dX7_itemOf_40 : decode cX7_itemOf 40 = .ok (.ireturn, 1) := by decide +kernel
set_option maxRecDepth 20000 in
theorem ggX7_readPage_X7_itemOf : GoodIn wsX7_readPage wsX7_itemOf := goodIn_r _ [7, 8, 9, 6, 10] (by decide +kernel) (by decide +kernel)
set_option maxRecDepth 20000 in
theorem gX7_readPage_X7_itemOf : GoodIn wsX7_readPage (va_wsS RX7 39 yX7_itemOf wsX7_itemOf) := goodIn_app (goodIn_of _ (by decide +kernel)) ggX7_readPage_X7_itemOf
theorem dX7_readPage_0 : decode cX7_readPage 0 = .ok (.iconst 0, 1) := by decide +kernel
theorem dX7_readPage_1 : decode cX7_readPage 1 = .ok (.istore_n 1, 1) := by decide +kernel
theorem dX7_readPage_2 : decode cX7_readPage 2 = .ok (.iload_n 1, 1) := by decide +kernel
theorem dX7_readPage_3 : decode cX7_readPage 3 = .ok (.bipush 12, 2) := by decide +kernel
theorem dX7_readPage_5 : decode cX7_readPage 5 = .ok (.if_icmp .ge 19, 3) := by decide +kernel
theorem dX7_readPage_8 : decode cX7_readPage 8 = .ok (.aload_n 0, 1) := by decide +kernel
theorem dX7_readPage_9 : decode cX7_readPage 9 = .ok (.getfield 13, 3) := by decide +kernel
theorem dX7_readPage_12 : decode cX7_readPage 12 = .ok (.bipush 96, 2) := by decide +kernel
theorem dX7_readPage_14 : decode cX7_readPage 14 = .ok (.iload_n 1, 1) := by decide +kernel
theorem dX7_readPage_15 : decode cX7_readPage 15 = .ok (.iadd, 1) := by decide +kernel
theorem dX7_readPage_16 : decode cX7_readPage 16 = .ok (.iconst 0, 1) := by decide +kernel
theorem dX7_readPage_17 : decode cX7_readPage 17 = .ok (.iastore, 1) := by decide +kernel
theorem dX7_readPage_18 : decode cX7_readPage 18 = .ok (.iinc 1 1, 3) := by decide +kernel
theorem dX7_readPage_21 : decode cX7_readPage 21 = .ok (.goto (-19), 3) := by decide +kernel
theorem dX7_readPage_24 : decode cX7_readPage 24 = .ok (.iconst 0, 1) := by decide +kernel
theorem dX7_readPage_25 : decode cX7_readPage 25 = .ok (.istore_n 1, 1) := by decide +kernel
theorem dX7_readPage_26 : decode cX7_readPage 26 = .ok (.iconst (-1), 1) := by decide +kernel
theorem dX7_readPage_27 : decode cX7_readPage 27 = .ok (.istore_n 2, 1) := by decide +kernel
theorem dX7_readPage_28 : decode cX7_readPage 28 = .ok (.iconst 1, 1) := by decide +kernel
theorem dX7_readPage_29 : decode cX7_readPage 29 = .ok (.istore_n 3, 1) := by decide +kernel
theorem dX7_readPage_30 : decode cX7_readPage 30 = .ok (.iload_n 3, 1) := by decide +kernel
theorem dX7_readPage_31 : decode cX7_readPage 31 = .ok (.ifCond .eq 124, 3) := by decide +kernel
theorem dX7_readPage_34 : decode cX7_readPage 34 = .ok (.iload_n 1, 1) := by decide +kernel
theorem dX7_readPage_35 : decode cX7_readPage 35 = .ok (.aload_n 0, 1) := by decide +kernel
theorem dX7_readPage_36 : decode cX7_readPage 36 = .ok (.getfield 35, 3) := by decide +kernel
theorem dX7_readPage_39 : decode cX7_readPage 39 = .ok (.if_icmp .ge 116, 3) := by decide +kernel
theorem dX7_readPage_42 : decode cX7_readPage 42 = .ok (.aload_n 0, 1) := by decide +kernel
theorem dX7_readPage_43 : decode cX7_readPage 43 = .ok (.getfield 7, 3) := by decide +kernel
theorem dX7_readPage_46 : decode cX7_readPage 46 = .ok (.iload_n 1, 1) := by decide +kernel
theorem dX7_readPage_47 : decode cX7_readPage 47 = .ok (.iaload, 1) := by decide +kernel
theorem dX7_readPage_48 : decode cX7_readPage 48 = .ok (.istore 4, 2) := by decide +kernel
theorem dX7_readPage_50 : decode cX7_readPage 50 = .ok (.iload 4, 2) := by decide +kernel
theorem dX7_readPage_52 : decode cX7_readPage 52 = .ok (.invokestatic 39, 3) := by decide +kernel
theorem dX7_readPage_55 : decode cX7_readPage 55 = .ok (.istore 5, 2) := by decide +kernel
theorem dX7_readPage_57 : decode cX7_readPage 57 = .ok (.iload 5, 2) := by decide +kernel
theorem dX7_readPage_59 : decode cX7_readPage 59 = .ok (.iconst (-1), 1) := by decide +kernel
theorem dX7_readPage_60 : decode cX7_readPage 60 = .ok (.if_icmp .eq 33, 3) := by decide +kernel
theorem dX7_readPage_63 : decode cX7_readPage 63 = .ok (.aload_n 0, 1) := by decide +kernel
theorem dX7_readPage_64 : decode cX7_readPage 64 = .ok (.getfield 13, 3) := by decide +kernel
theorem dX7_readPage_67 : decode cX7_readPage 67 = .ok (.bipush 96, 2) := by decide +kernel
theorem dX7_readPage_69 : decode cX7_readPage 69 = .ok (.iload 5, 2) := by decide +kernel
theorem dX7_readPage_71 : decode cX7_readPage 71 = .ok (.iadd, 1) := by decide +kernel
theorem dX7_readPage_72 : decode cX7_readPage 72 = .ok (.iaload, 1) := by decide +kernel
theorem dX7_readPage_73 : decode cX7_readPage 73 = .ok (.ifCond .ne 20, 3) := by decide +kernel
theorem dX7_readPage_76 : decode cX7_readPage 76 = .ok (.aload_n 0, 1) := by decide +kernel
theorem dX7_readPage_77 : decode cX7_readPage 77 = .ok (.getfield 13, 3) := by decide +kernel
theorem dX7_readPage_80 : decode cX7_readPage 80 = .ok (.bipush 96, 2) := by decide +kernel
theorem dX7_readPage_82 : decode cX7_readPage 82 = .ok (.iload 5, 2) := by decide +kernel
theorem dX7_readPage_84 : decode cX7_readPage 84 = .ok (.iadd, 1) := by decide +kernel
theorem dX7_readPage_85 : decode cX7_readPage 85 = .ok (.iconst 1, 1) := by decide +kernel
theorem dX7_readPage_86 : decode cX7_readPage 86 = .ok (.iastore, 1) := by decide +kernel
theorem dX7_readPage_87 : decode cX7_readPage 87 = .ok (.iload 5, 2) := by decide +kernel
theorem dX7_readPage_89 : decode cX7_readPage 89 = .ok (.istore_n 2, 1) := by decide +kernel
theorem dX7_readPage_90 : decode cX7_readPage 90 = .ok (.goto 50, 3) := by decide +kernel
theorem dX7_readPage_93 : decode cX7_readPage 93 = .ok (.iload_n 2, 1) := by decide +kernel
theorem dX7_readPage_94 : decode cX7_readPage 94 = .ok (.iconst (-1), 1) := by decide +kernel
theorem dX7_readPage_95 : decode cX7_readPage 95 = .ok (.if_icmp .eq 43, 3) := by decide +kernel
theorem dX7_readPage_98 : decode cX7_readPage 98 = .ok (.iload 4, 2) := by decide +kernel
theorem dX7_readPage_100 : decode cX7_readPage 100 = .ok (.bipush 43, 2) := by decide +kernel
theorem dX7_readPage_102 : decode cX7_readPage 102 = .ok (.if_icmp .eq 10, 3) := by decide +kernel
theorem dX7_readPage_105 : decode cX7_readPage 105 = .ok (.iload 4, 2) := by decide +kernel
theorem dX7_readPage_107 : decode cX7_readPage 107 = .ok (.bipush 42, 2) := by decide +kernel
theorem dX7_readPage_109 : decode cX7_readPage 109 = .ok (.if_icmp .ne 29, 3) := by decide +kernel
theorem dX7_readPage_112 : decode cX7_readPage 112 = .ok (.aload_n 0, 1) := by decide +kernel
theorem dX7_readPage_113 : decode cX7_readPage 113 = .ok (.getfield 13, 3) := by decide +kernel
theorem dX7_readPage_116 : decode cX7_readPage 116 = .ok (.bipush 96, 2) := by decide +kernel
theorem dX7_readPage_118 : decode cX7_readPage 118 = .ok (.iload_n 2, 1) := by decide +kernel
theorem dX7_readPage_119 : decode cX7_readPage 119 = .ok (.iadd, 1) := by decide +kernel
theorem dX7_readPage_120 : decode cX7_readPage 120 = .ok (.iload 4, 2) := by decide +kernel
theorem dX7_readPage_122 : decode cX7_readPage 122 = .ok (.bipush 43, 2) := by decide +kernel
theorem dX7_readPage_124 : decode cX7_readPage 124 = .ok (.if_icmp .ne 7, 3) := by decide +kernel
theorem dX7_readPage_127 : decode cX7_readPage 127 = .ok (.iconst 2, 1) := by decide +kernel
theorem dX7_readPage_128 : decode cX7_readPage 128 = .ok (.goto 4, 3) := by decide +kernel
theorem dX7_readPage_131 : decode cX7_readPage 131 = .ok (.iconst 3, 1) := by decide +kernel
theorem dX7_readPage_132 : decode cX7_readPage 132 = .ok (.iastore, 1) := by decide +kernel
theorem dX7_readPage_133 : decode cX7_readPage 133 = .ok (.iconst (-1), 1) := by decide +kernel
theorem dX7_readPage_134 : decode cX7_readPage 134 = .ok (.istore_n 2, 1) := by decide +kernel
theorem dX7_readPage_135 : decode cX7_readPage 135 = .ok (.goto 5, 3) := by decide +kernel
theorem dX7_readPage_138 : decode cX7_readPage 138 = .ok (.iconst 0, 1) := by decide +kernel
theorem dX7_readPage_139 : decode cX7_readPage 139 = .ok (.istore_n 3, 1) := by decide +kernel
theorem dX7_readPage_140 : decode cX7_readPage 140 = .ok (.iload_n 1, 1) := by decide +kernel
theorem dX7_readPage_141 : decode cX7_readPage 141 = .ok (.iload_n 3, 1) := by decide +kernel
theorem dX7_readPage_142 : decode cX7_readPage 142 = .ok (.ifCond .eq 7, 3) := by decide +kernel
theorem dX7_readPage_145 : decode cX7_readPage 145 = .ok (.iconst 1, 1) := by decide +kernel
theorem dX7_readPage_146 : decode cX7_readPage 146 = .ok (.goto 4, 3) := by decide +kernel
theorem dX7_readPage_149 : decode cX7_readPage 149 = .ok (.iconst 0, 1) := by decide +kernel
theorem dX7_readPage_150 : decode cX7_readPage 150 = .ok (.iadd, 1) := by decide +kernel
theorem dX7_readPage_151 : decode cX7_readPage 151 = .ok (.istore_n 1, 1) := by decide +kernel
theorem dX7_readPage_152 : decode cX7_readPage 152 = .ok (.goto (-122), 3) := by decide +kernel
theorem dX7_readPage_155 : decode cX7_readPage 155 = .ok (.iload_n 1, 1) := by decide +kernel
theorem dX7_readPage_156 : decode cX7_readPage 156 = .ok (.ireturn, 1) := by decide +kernel
set_option maxRecDepth 20000 in
theorem ggX7_fault_X7_readPage : GoodIn wsX7_fault wsX7_readPage := goodIn_r _ [5, 6, 7, 8, 9, 10, 4, 11, 12, 13, 14, 15, 16, 17, 18, 19, 20, 21, 22, 23, 24, 25, 26, 27, 28] (by decide +kernel) (by decide +kernel)
set_option maxRecDepth 20000 in
theorem gX7_fault_X7_readPage : GoodIn wsX7_fault (wsV RX7 43 RX7 yX7_readPage wsX7_readPage) := goodIn_app (goodIn_of _ (by decide +kernel)) ggX7_fault_X7_readPage
theorem dX7_fault_0 : decode cX7_fault 0 = .ok (.aload_n 0, 1) := by decide +kernel
theorem dX7_fault_1 : decode cX7_fault 1 = .ok (.invokevirtual 43, 3) := by decide +kernel
theorem dX7_fault_4 : decode cX7_fault 4 = .ok (.ireturn, 1) := by decide +kernel
theorem dX7_likeRead_0 : decode cX7_likeRead 0 = .ok (.iconst 0, 1) := by decide +kernel
theorem dX7_likeRead_1 : decode cX7_likeRead 1 = .ok (.istore_n 2, 1) := by decide +kernel
theorem dX7_likeRead_2 : decode cX7_likeRead 2 = .ok (.iload_n 2, 1) := by decide +kernel
theorem dX7_likeRead_3 : decode cX7_likeRead 3 = .ok (.aload_n 0, 1) := by decide +kernel
theorem dX7_likeRead_4 : decode cX7_likeRead 4 = .ok (.getfield 47, 3) := by decide +kernel
theorem dX7_likeRead_7 : decode cX7_likeRead 7 = .ok (.if_icmp .ge 67, 3) := by decide +kernel
theorem dX7_likeRead_10 : decode cX7_likeRead 10 = .ok (.iconst 1, 1) := by decide +kernel
theorem dX7_likeRead_11 : decode cX7_likeRead 11 = .ok (.istore_n 3, 1) := by decide +kernel
theorem dX7_likeRead_12 : decode cX7_likeRead 12 = .ok (.iconst 0, 1) := by decide +kernel
theorem dX7_likeRead_13 : decode cX7_likeRead 13 = .ok (.istore 4, 2) := by decide +kernel
theorem dX7_likeRead_15 : decode cX7_likeRead 15 = .ok (.iload 4, 2) := by decide +kernel
theorem dX7_likeRead_17 : decode cX7_likeRead 17 = .ok (.bipush 12, 2) := by decide +kernel
theorem dX7_likeRead_19 : decode cX7_likeRead 19 = .ok (.if_icmp .ge 43, 3) := by decide +kernel
theorem dX7_likeRead_22 : decode cX7_likeRead 22 = .ok (.iload_n 3, 1) := by decide +kernel
theorem dX7_likeRead_23 : decode cX7_likeRead 23 = .ok (.ifCond .eq 31, 3) := by decide +kernel
theorem dX7_likeRead_26 : decode cX7_likeRead 26 = .ok (.aload_n 0, 1) := by decide +kernel
theorem dX7_likeRead_27 : decode cX7_likeRead 27 = .ok (.getfield 13, 3) := by decide +kernel
theorem dX7_likeRead_30 : decode cX7_likeRead 30 = .ok (.bipush 12, 2) := by decide +kernel
theorem dX7_likeRead_32 : decode cX7_likeRead 32 = .ok (.iload_n 2, 1) := by decide +kernel
theorem dX7_likeRead_33 : decode cX7_likeRead 33 = .ok (.imul, 1) := by decide +kernel
theorem dX7_likeRead_34 : decode cX7_likeRead 34 = .ok (.iload 4, 2) := by decide +kernel
theorem dX7_likeRead_36 : decode cX7_likeRead 36 = .ok (.iadd, 1) := by decide +kernel
theorem dX7_likeRead_37 : decode cX7_likeRead 37 = .ok (.iaload, 1) := by decide +kernel
theorem dX7_likeRead_38 : decode cX7_likeRead 38 = .ok (.aload_n 0, 1) := by decide +kernel
theorem dX7_likeRead_39 : decode cX7_likeRead 39 = .ok (.getfield 13, 3) := by decide +kernel
theorem dX7_likeRead_42 : decode cX7_likeRead 42 = .ok (.iload_n 1, 1) := by decide +kernel
theorem dX7_likeRead_43 : decode cX7_likeRead 43 = .ok (.iload 4, 2) := by decide +kernel
theorem dX7_likeRead_45 : decode cX7_likeRead 45 = .ok (.iadd, 1) := by decide +kernel
theorem dX7_likeRead_46 : decode cX7_likeRead 46 = .ok (.iaload, 1) := by decide +kernel
theorem dX7_likeRead_47 : decode cX7_likeRead 47 = .ok (.if_icmp .ne 7, 3) := by decide +kernel
theorem dX7_likeRead_50 : decode cX7_likeRead 50 = .ok (.iconst 1, 1) := by decide +kernel
theorem dX7_likeRead_51 : decode cX7_likeRead 51 = .ok (.goto 4, 3) := by decide +kernel
theorem dX7_likeRead_54 : decode cX7_likeRead 54 = .ok (.iconst 0, 1) := by decide +kernel
theorem dX7_likeRead_55 : decode cX7_likeRead 55 = .ok (.istore_n 3, 1) := by decide +kernel
theorem dX7_likeRead_56 : decode cX7_likeRead 56 = .ok (.iinc 4 1, 3) := by decide +kernel
theorem dX7_likeRead_59 : decode cX7_likeRead 59 = .ok (.goto (-44), 3) := by decide +kernel
theorem dX7_likeRead_62 : decode cX7_likeRead 62 = .ok (.iload_n 3, 1) := by decide +kernel
theorem dX7_likeRead_63 : decode cX7_likeRead 63 = .ok (.ifCond .eq 5, 3) := by decide +kernel
theorem dX7_likeRead_66 : decode cX7_likeRead 66 = .ok (.iload_n 2, 1) := by decide +kernel
theorem dX7_likeRead_67 : decode cX7_likeRead 67 = .ok (.ireturn, 1) := by decide +kernel
theorem dX7_likeRead_68 : decode cX7_likeRead 68 = .ok (.iinc 2 1, 3) := by decide +kernel
theorem dX7_likeRead_71 : decode cX7_likeRead 71 = .ok (.goto (-69), 3) := by decide +kernel
theorem dX7_likeRead_74 : decode cX7_likeRead 74 = .ok (.iconst (-1), 1) := by decide +kernel
theorem dX7_likeRead_75 : decode cX7_likeRead 75 = .ok (.ireturn, 1) := by decide +kernel
set_option maxRecDepth 20000 in
theorem ggX7_terms_X7_readPage : GoodIn wsX7_terms wsX7_readPage := goodIn_r _ [8, 3, 1, 9, 10, 11, 7, 12, 13, 14, 15, 20, 21, 22, 23, 24, 25, 26, 27, 28, 29, 30, 31, 32, 33] (by decide +kernel) (by decide +kernel)
set_option maxRecDepth 20000 in
theorem gX7_terms_X7_readPage : GoodIn wsX7_terms (wsV RX7 43 RX7 yX7_readPage wsX7_readPage) := goodIn_app (goodIn_of _ (by decide +kernel)) ggX7_terms_X7_readPage
set_option maxRecDepth 20000 in
theorem ggX7_terms_X7_likeRead : GoodIn wsX7_terms wsX7_likeRead := goodIn_r _ [19, 2, 3, 20, 21, 22, 23, 24, 25, 26, 27, 28, 29, 30, 31, 32, 33] (by decide +kernel) (by decide +kernel)
set_option maxRecDepth 20000 in
theorem gX7_terms_X7_likeRead : GoodIn wsX7_terms (wsV RX7 50 RX7 yX7_likeRead wsX7_likeRead) := goodIn_app (goodIn_of _ (by decide +kernel)) ggX7_terms_X7_likeRead
theorem dX7_terms_0 : decode cX7_terms 0 = .ok (.aload_n 0, 1) := by decide +kernel
theorem dX7_terms_1 : decode cX7_terms 1 = .ok (.getfield 35, 3) := by decide +kernel
theorem dX7_terms_4 : decode cX7_terms 4 = .ok (.ifCond .eq 14, 3) := by decide +kernel
theorem dX7_terms_7 : decode cX7_terms 7 = .ok (.aload_n 0, 1) := by decide +kernel
theorem dX7_terms_8 : decode cX7_terms 8 = .ok (.invokevirtual 43, 3) := by decide +kernel
theorem dX7_terms_11 : decode cX7_terms 11 = .ok (.aload_n 0, 1) := by decide +kernel
theorem dX7_terms_12 : decode cX7_terms 12 = .ok (.getfield 35, 3) := by decide +kernel
theorem dX7_terms_15 : decode cX7_terms 15 = .ok (.if_icmp .ge 7, 3) := by decide +kernel
theorem dX7_terms_18 : decode cX7_terms 18 = .ok (.sipush (-1003), 3) := by decide +kernel
theorem dX7_terms_21 : decode cX7_terms 21 = .ok (.ireturn, 1) := by decide +kernel
theorem dX7_terms_22 : decode cX7_terms 22 = .ok (.aload_n 0, 1) := by decide +kernel
theorem dX7_terms_23 : decode cX7_terms 23 = .ok (.bipush 96, 2) := by decide +kernel
theorem dX7_terms_25 : decode cX7_terms 25 = .ok (.invokevirtual 50, 3) := by decide +kernel
theorem dX7_terms_28 : decode cX7_terms 28 = .ok (.istore_n 1, 1) := by decide +kernel
theorem dX7_terms_29 : decode cX7_terms 29 = .ok (.iload_n 1, 1) := by decide +kernel
theorem dX7_terms_30 : decode cX7_terms 30 = .ok (.iconst (-1), 1) := by decide +kernel
theorem dX7_terms_31 : decode cX7_terms 31 = .ok (.if_icmp .ne 16, 3) := by decide +kernel
theorem dX7_terms_34 : decode cX7_terms 34 = .ok (.aload_n 0, 1) := by decide +kernel
theorem dX7_terms_35 : decode cX7_terms 35 = .ok (.getfield 47, 3) := by decide +kernel
theorem dX7_terms_38 : decode cX7_terms 38 = .ok (.bipush 8, 2) := by decide +kernel
theorem dX7_terms_40 : decode cX7_terms 40 = .ok (.if_icmp .ne 7, 3) := by decide +kernel
theorem dX7_terms_43 : decode cX7_terms 43 = .ok (.sipush (-1004), 3) := by decide +kernel
theorem dX7_terms_46 : decode cX7_terms 46 = .ok (.ireturn, 1) := by decide +kernel
theorem dX7_terms_47 : decode cX7_terms 47 = .ok (.aload_n 0, 1) := by decide +kernel
theorem dX7_terms_48 : decode cX7_terms 48 = .ok (.iconst 0, 1) := by decide +kernel
theorem dX7_terms_49 : decode cX7_terms 49 = .ok (.putfield 35, 3) := by decide +kernel
theorem dX7_terms_52 : decode cX7_terms 52 = .ok (.iload_n 1, 1) := by decide +kernel
theorem dX7_terms_53 : decode cX7_terms 53 = .ok (.iconst (-1), 1) := by decide +kernel
theorem dX7_terms_54 : decode cX7_terms 54 = .ok (.if_icmp .eq 5, 3) := by decide +kernel
theorem dX7_terms_57 : decode cX7_terms 57 = .ok (.iload_n 1, 1) := by decide +kernel
theorem dX7_terms_58 : decode cX7_terms 58 = .ok (.ireturn, 1) := by decide +kernel
theorem dX7_terms_59 : decode cX7_terms 59 = .ok (.iconst 0, 1) := by decide +kernel
theorem dX7_terms_60 : decode cX7_terms 60 = .ok (.istore_n 2, 1) := by decide +kernel
theorem dX7_terms_61 : decode cX7_terms 61 = .ok (.iload_n 2, 1) := by decide +kernel
theorem dX7_terms_62 : decode cX7_terms 62 = .ok (.bipush 12, 2) := by decide +kernel
theorem dX7_terms_64 : decode cX7_terms 64 = .ok (.if_icmp .ge 32, 3) := by decide +kernel
theorem dX7_terms_67 : decode cX7_terms 67 = .ok (.aload_n 0, 1) := by decide +kernel
theorem dX7_terms_68 : decode cX7_terms 68 = .ok (.getfield 13, 3) := by decide +kernel
theorem dX7_terms_71 : decode cX7_terms 71 = .ok (.bipush 12, 2) := by decide +kernel
theorem dX7_terms_73 : decode cX7_terms 73 = .ok (.aload_n 0, 1) := by decide +kernel
theorem dX7_terms_74 : decode cX7_terms 74 = .ok (.getfield 47, 3) := by decide +kernel
theorem dX7_terms_77 : decode cX7_terms 77 = .ok (.imul, 1) := by decide +kernel
theorem dX7_terms_78 : decode cX7_terms 78 = .ok (.iload_n 2, 1) := by decide +kernel
theorem dX7_terms_79 : decode cX7_terms 79 = .ok (.iadd, 1) := by decide +kernel
theorem dX7_terms_80 : decode cX7_terms 80 = .ok (.aload_n 0, 1) := by decide +kernel
theorem dX7_terms_81 : decode cX7_terms 81 = .ok (.getfield 13, 3) := by decide +kernel
theorem dX7_terms_84 : decode cX7_terms 84 = .ok (.bipush 96, 2) := by decide +kernel
theorem dX7_terms_86 : decode cX7_terms 86 = .ok (.iload_n 2, 1) := by decide +kernel
theorem dX7_terms_87 : decode cX7_terms 87 = .ok (.iadd, 1) := by decide +kernel
theorem dX7_terms_88 : decode cX7_terms 88 = .ok (.iaload, 1) := by decide +kernel
theorem dX7_terms_89 : decode cX7_terms 89 = .ok (.iastore, 1) := by decide +kernel
theorem dX7_terms_90 : decode cX7_terms 90 = .ok (.iinc 2 1, 3) := by decide +kernel
theorem dX7_terms_93 : decode cX7_terms 93 = .ok (.goto (-32), 3) := by decide +kernel
theorem dX7_terms_96 : decode cX7_terms 96 = .ok (.aload_n 0, 1) := by decide +kernel
theorem dX7_terms_97 : decode cX7_terms 97 = .ok (.dup, 1) := by decide +kernel
theorem dX7_terms_98 : decode cX7_terms 98 = .ok (.getfield 47, 3) := by decide +kernel
theorem dX7_terms_101 : decode cX7_terms 101 = .ok (.iconst 1, 1) := by decide +kernel
theorem dX7_terms_102 : decode cX7_terms 102 = .ok (.iadd, 1) := by decide +kernel
theorem dX7_terms_103 : decode cX7_terms 103 = .ok (.putfield 47, 3) := by decide +kernel
theorem dX7_terms_106 : decode cX7_terms 106 = .ok (.aload_n 0, 1) := by decide +kernel
theorem dX7_terms_107 : decode cX7_terms 107 = .ok (.getfield 47, 3) := by decide +kernel
theorem dX7_terms_110 : decode cX7_terms 110 = .ok (.iconst 1, 1) := by decide +kernel
theorem dX7_terms_111 : decode cX7_terms 111 = .ok (.isub, 1) := by decide +kernel
theorem dX7_terms_112 : decode cX7_terms 112 = .ok (.ireturn, 1) := by decide +kernel
set_option maxRecDepth 20000 in
theorem ggX7_isTerms_X7_within : GoodIn wsX7_isTerms wsX7_within := goodIn_r _ [5] (by decide +kernel) (by decide +kernel)
set_option maxRecDepth 20000 in
theorem gX7_isTerms_X7_within : GoodIn wsX7_isTerms (va_wsS RX7 31 yX7_within wsX7_within) := goodIn_app (goodIn_of _ (by decide +kernel)) ggX7_isTerms_X7_within
theorem dX7_isTerms_0 : decode cX7_isTerms 0 = .ok (.iload_n 1, 1) := by decide +kernel
