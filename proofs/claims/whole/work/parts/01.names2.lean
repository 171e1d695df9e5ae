theorem dX3_namesOf_51 : decode cX3_namesOf 51 = .ok (.iinc 3 1, 3) := by decide +kernel
theorem dX3_namesOf_54 : decode cX3_namesOf 54 = .ok (.goto (-48), 3) := by decide +kernel
theorem dX3_namesOf_57 : decode cX3_namesOf 57 = .ok (.iload_n 2, 1) := by decide +kernel
theorem dX3_namesOf_58 : decode cX3_namesOf 58 = .ok (.iconst 1, 1) := by decide +kernel
theorem dX3_namesOf_59 : decode cX3_namesOf 59 = .ok (.iload_n 1, 1) := by decide +kernel
theorem dX3_namesOf_60 : decode cX3_namesOf 60 = .ok (.ishl, 1) := by decide +kernel
theorem dX3_namesOf_61 : decode cX3_namesOf 61 = .ok (.iconst (-1), 1) := by decide +kernel
theorem dX3_namesOf_62 : decode cX3_namesOf 62 = .ok (.ixor, 1) := by decide +kernel
theorem dX3_namesOf_63 : decode cX3_namesOf 63 = .ok (.iand, 1) := by decide +kernel
theorem dX3_namesOf_64 : decode cX3_namesOf 64 = .ok (.ireturn, 1) := by decide +kernel
set_option maxRecDepth 20000 in
theorem ggX3_namedBy_X3_kindOf : GoodIn wsX3_namedBy wsX3_kindOf := goodIn_r _ [5, 6, 7, 8, 9, 10, 11, 12, 13, 14] (by decide +kernel) (by decide +kernel)
set_option maxRecDepth 20000 in
theorem gX3_namedBy_X3_kindOf : GoodIn wsX3_namedBy (wsV RX3 66 RX3 yX3_kindOf wsX3_kindOf) := goodIn_app (goodIn_of _ (by decide +kernel)) ggX3_namedBy_X3_kindOf
theorem dX3_namedBy_0 : decode cX3_namedBy 0 = .ok (.iconst 0, 1) := by decide +kernel
theorem dX3_namedBy_1 : decode cX3_namedBy 1 = .ok (.istore_n 2, 1) := by decide +kernel
theorem dX3_namedBy_2 : decode cX3_namedBy 2 = .ok (.iconst 0, 1) := by decide +kernel
theorem dX3_namedBy_3 : decode cX3_namedBy 3 = .ok (.istore_n 3, 1) := by decide +kernel
theorem dX3_namedBy_4 : decode cX3_namedBy 4 = .ok (.iload_n 3, 1) := by decide +kernel
theorem dX3_namedBy_5 : decode cX3_namedBy 5 = .ok (.bipush 8, 2) := by decide +kernel
theorem dX3_namedBy_7 : decode cX3_namedBy 7 = .ok (.if_icmp .ge 39, 3) := by decide +kernel
theorem dX3_namedBy_10 : decode cX3_namedBy 10 = .ok (.aload_n 0, 1) := by decide +kernel
theorem dX3_namedBy_11 : decode cX3_namedBy 11 = .ok (.iload_n 1, 1) := by decide +kernel
theorem dX3_namedBy_12 : decode cX3_namedBy 12 = .ok (.iload_n 3, 1) := by decide +kernel
theorem dX3_namedBy_13 : decode cX3_namedBy 13 = .ok (.invokevirtual 66, 3) := by decide +kernel
theorem dX3_namedBy_16 : decode cX3_namedBy 16 = .ok (.istore 4, 2) := by decide +kernel
theorem dX3_namedBy_18 : decode cX3_namedBy 18 = .ok (.iload_n 2, 1) := by decide +kernel
theorem dX3_namedBy_19 : decode cX3_namedBy 19 = .ok (.iload 4, 2) := by decide +kernel
theorem dX3_namedBy_21 : decode cX3_namedBy 21 = .ok (.iconst (-1), 1) := by decide +kernel
theorem dX3_namedBy_22 : decode cX3_namedBy 22 = .ok (.if_icmp .eq 15, 3) := by decide +kernel
theorem dX3_namedBy_25 : decode cX3_namedBy 25 = .ok (.iload 4, 2) := by decide +kernel
theorem dX3_namedBy_27 : decode cX3_namedBy 27 = .ok (.iconst 1, 1) := by decide +kernel
theorem dX3_namedBy_28 : decode cX3_namedBy 28 = .ok (.if_icmp .gt 9, 3) := by decide +kernel
theorem dX3_namedBy_31 : decode cX3_namedBy 31 = .ok (.iconst 1, 1) := by decide +kernel
theorem dX3_namedBy_32 : decode cX3_namedBy 32 = .ok (.iload_n 3, 1) := by decide +kernel
theorem dX3_namedBy_33 : decode cX3_namedBy 33 = .ok (.ishl, 1) := by decide +kernel
theorem dX3_namedBy_34 : decode cX3_namedBy 34 = .ok (.goto 4, 3) := by decide +kernel
theorem dX3_namedBy_37 : decode cX3_namedBy 37 = .ok (.iconst 0, 1) := by decide +kernel
theorem dX3_namedBy_38 : decode cX3_namedBy 38 = .ok (.ior, 1) := by decide +kernel
theorem dX3_namedBy_39 : decode cX3_namedBy 39 = .ok (.istore_n 2, 1) := by decide +kernel
theorem dX3_namedBy_40 : decode cX3_namedBy 40 = .ok (.iinc 3 1, 3) := by decide +kernel
theorem dX3_namedBy_43 : decode cX3_namedBy 43 = .ok (.goto (-39), 3) := by decide +kernel
theorem dX3_namedBy_46 : decode cX3_namedBy 46 = .ok (.iload_n 2, 1) := by decide +kernel
theorem dX3_namedBy_47 : decode cX3_namedBy 47 = .ok (.ireturn, 1) := by decide +kernel
set_option maxRecDepth 20000 in
theorem ggX3_spread_X6_isSet : GoodIn wsX3_spread wsX6_isSet := goodIn_r _ [4] (by decide +kernel) (by decide +kernel)
set_option maxRecDepth 20000 in
theorem gX3_spread_X6_isSet_n44 : GoodIn wsX3_spread (wsX6_isSet) := ggX3_spread_X6_isSet
set_option maxRecDepth 20000 in
theorem ggX3_spread_X3_getsMore : GoodIn wsX3_spread wsX3_getsMore := goodIn_r _ [9, 10, 11, 12, 13, 14, 15, 16, 17, 18] (by decide +kernel) (by decide +kernel)
set_option maxRecDepth 20000 in
theorem gX3_spread_X3_getsMore : GoodIn wsX3_spread (wsV RX3 79 RX3 yX3_getsMore wsX3_getsMore) := goodIn_app (goodIn_of _ (by decide +kernel)) ggX3_spread_X3_getsMore
theorem dX3_spread_0 : decode cX3_spread 0 = .ok (.iconst 0, 1) := by decide +kernel
theorem dX3_spread_1 : decode cX3_spread 1 = .ok (.istore_n 3, 1) := by decide +kernel
theorem dX3_spread_2 : decode cX3_spread 2 = .ok (.iload_n 3, 1) := by decide +kernel
theorem dX3_spread_3 : decode cX3_spread 3 = .ok (.bipush 8, 2) := by decide +kernel
theorem dX3_spread_5 : decode cX3_spread 5 = .ok (.if_icmp .ge 31, 3) := by decide +kernel
theorem dX3_spread_8 : decode cX3_spread 8 = .ok (.aload_n 2, 1) := by decide +kernel
theorem dX3_spread_9 : decode cX3_spread 9 = .ok (.iload_n 3, 1) := by decide +kernel
theorem dX3_spread_10 : decode cX3_spread 10 = .ok (.iload_n 1, 1) := by decide +kernel
theorem dX3_spread_11 : decode cX3_spread 11 = .ok (.i2l, 1) := by decide +kernel
theorem dX3_spread_12 : decode cX3_spread 12 = .ok (.iload_n 3, 1) := by decide +kernel
theorem dX3_spread_13 : decode cX3_spread 13 = .ok (.invokestatic 44, 3) := by decide +kernel
theorem dX3_spread_16 : decode cX3_spread 16 = .ok (.ifCond .eq 12, 3) := by decide +kernel
theorem dX3_spread_19 : decode cX3_spread 19 = .ok (.aload_n 0, 1) := by decide +kernel
theorem dX3_spread_20 : decode cX3_spread 20 = .ok (.getfield 15, 3) := by decide +kernel
theorem dX3_spread_23 : decode cX3_spread 23 = .ok (.iload_n 3, 1) := by decide +kernel
theorem dX3_spread_24 : decode cX3_spread 24 = .ok (.laload, 1) := by decide +kernel
theorem dX3_spread_25 : decode cX3_spread 25 = .ok (.goto 4, 3) := by decide +kernel
theorem dX3_spread_28 : decode cX3_spread 28 = .ok (.lconst 0, 1) := by decide +kernel
theorem dX3_spread_29 : decode cX3_spread 29 = .ok (.lastore, 1) := by decide +kernel
theorem dX3_spread_30 : decode cX3_spread 30 = .ok (.iinc 3 1, 3) := by decide +kernel
theorem dX3_spread_33 : decode cX3_spread 33 = .ok (.goto (-31), 3) := by decide +kernel
theorem dX3_spread_36 : decode cX3_spread 36 = .ok (.iconst 1, 1) := by decide +kernel
theorem dX3_spread_37 : decode cX3_spread 37 = .ok (.istore_n 3, 1) := by decide +kernel
theorem dX3_spread_38 : decode cX3_spread 38 = .ok (.iconst 0, 1) := by decide +kernel
theorem dX3_spread_39 : decode cX3_spread 39 = .ok (.istore 4, 2) := by decide +kernel
theorem dX3_spread_41 : decode cX3_spread 41 = .ok (.iload_n 3, 1) := by decide +kernel
theorem dX3_spread_42 : decode cX3_spread 42 = .ok (.ifCond .eq 56, 3) := by decide +kernel
theorem dX3_spread_45 : decode cX3_spread 45 = .ok (.iload 4, 2) := by decide +kernel
theorem dX3_spread_47 : decode cX3_spread 47 = .ok (.bipush 8, 2) := by decide +kernel
theorem dX3_spread_49 : decode cX3_spread 49 = .ok (.if_icmp .ge 49, 3) := by decide +kernel
theorem dX3_spread_52 : decode cX3_spread 52 = .ok (.iconst 0, 1) := by decide +kernel
theorem dX3_spread_53 : decode cX3_spread 53 = .ok (.istore_n 3, 1) := by decide +kernel
theorem dX3_spread_54 : decode cX3_spread 54 = .ok (.iconst 0, 1) := by decide +kernel
theorem dX3_spread_55 : decode cX3_spread 55 = .ok (.istore 5, 2) := by decide +kernel
theorem dX3_spread_57 : decode cX3_spread 57 = .ok (.iload 5, 2) := by decide +kernel
theorem dX3_spread_59 : decode cX3_spread 59 = .ok (.bipush 8, 2) := by decide +kernel
theorem dX3_spread_61 : decode cX3_spread 61 = .ok (.if_icmp .ge 31, 3) := by decide +kernel
theorem dX3_spread_64 : decode cX3_spread 64 = .ok (.iload_n 1, 1) := by decide +kernel
theorem dX3_spread_65 : decode cX3_spread 65 = .ok (.i2l, 1) := by decide +kernel
theorem dX3_spread_66 : decode cX3_spread 66 = .ok (.iload 5, 2) := by decide +kernel
theorem dX3_spread_68 : decode cX3_spread 68 = .ok (.invokestatic 44, 3) := by decide +kernel
theorem dX3_spread_71 : decode cX3_spread 71 = .ok (.ifCond .eq 15, 3) := by decide +kernel
theorem dX3_spread_74 : decode cX3_spread 74 = .ok (.aload_n 0, 1) := by decide +kernel
theorem dX3_spread_75 : decode cX3_spread 75 = .ok (.iload 5, 2) := by decide +kernel
theorem dX3_spread_77 : decode cX3_spread 77 = .ok (.aload_n 2, 1) := by decide +kernel
theorem dX3_spread_78 : decode cX3_spread 78 = .ok (.invokevirtual 79, 3) := by decide +kernel
theorem dX3_spread_81 : decode cX3_spread 81 = .ok (.ifCond .eq 5, 3) := by decide +kernel
theorem dX3_spread_84 : decode cX3_spread 84 = .ok (.iconst 1, 1) := by decide +kernel
theorem dX3_spread_85 : decode cX3_spread 85 = .ok (.istore_n 3, 1) := by decide +kernel
theorem dX3_spread_86 : decode cX3_spread 86 = .ok (.iinc 5 1, 3) := by decide +kernel
theorem dX3_spread_89 : decode cX3_spread 89 = .ok (.goto (-32), 3) := by decide +kernel
theorem dX3_spread_92 : decode cX3_spread 92 = .ok (.iinc 4 1, 3) := by decide +kernel
theorem dX3_spread_95 : decode cX3_spread 95 = .ok (.goto (-54), 3) := by decide +kernel
theorem dX3_spread_98 : decode cX3_spread 98 = .ok (.return_, 1) := by decide +kernel
theorem dX3_getsMore_0 : decode cX3_getsMore 0 = .ok (.aload_n 2, 1) := by decide +kernel
theorem dX3_getsMore_1 : decode cX3_getsMore 1 = .ok (.iload_n 1, 1) := by decide +kernel
theorem dX3_getsMore_2 : decode cX3_getsMore 2 = .ok (.laload, 1) := by decide +kernel
theorem dX3_getsMore_3 : decode cX3_getsMore 3 = .ok (.lstore_n 3, 1) := by decide +kernel
theorem dX3_getsMore_4 : decode cX3_getsMore 4 = .ok (.lload_n 3, 1) := by decide +kernel
theorem dX3_getsMore_5 : decode cX3_getsMore 5 = .ok (.lstore 5, 2) := by decide +kernel
theorem dX3_getsMore_7 : decode cX3_getsMore 7 = .ok (.iconst 0, 1) := by decide +kernel
theorem dX3_getsMore_8 : decode cX3_getsMore 8 = .ok (.istore 7, 2) := by decide +kernel
theorem dX3_getsMore_10 : decode cX3_getsMore 10 = .ok (.iload 7, 2) := by decide +kernel
theorem dX3_getsMore_12 : decode cX3_getsMore 12 = .ok (.bipush 8, 2) := by decide +kernel
theorem dX3_getsMore_14 : decode cX3_getsMore 14 = .ok (.if_icmp .ge 31, 3) := by decide +kernel
theorem dX3_getsMore_17 : decode cX3_getsMore 17 = .ok (.lload 5, 2) := by decide +kernel
theorem dX3_getsMore_19 : decode cX3_getsMore 19 = .ok (.aload_n 2, 1) := by decide +kernel
theorem dX3_getsMore_20 : decode cX3_getsMore 20 = .ok (.iload 7, 2) := by decide +kernel
theorem dX3_getsMore_22 : decode cX3_getsMore 22 = .ok (.laload, 1) := by decide +kernel
theorem dX3_getsMore_23 : decode cX3_getsMore 23 = .ok (.aload_n 0, 1) := by decide +kernel
theorem dX3_getsMore_24 : decode cX3_getsMore 24 = .ok (.getfield 22, 3) := by decide +kernel
theorem dX3_getsMore_27 : decode cX3_getsMore 27 = .ok (.iload_n 1, 1) := by decide +kernel
theorem dX3_getsMore_28 : decode cX3_getsMore 28 = .ok (.bipush 8, 2) := by decide +kernel
theorem dX3_getsMore_30 : decode cX3_getsMore 30 = .ok (.imul, 1) := by decide +kernel
theorem dX3_getsMore_31 : decode cX3_getsMore 31 = .ok (.iload 7, 2) := by decide +kernel
theorem dX3_getsMore_33 : decode cX3_getsMore 33 = .ok (.iadd, 1) := by decide +kernel
theorem dX3_getsMore_34 : decode cX3_getsMore 34 = .ok (.laload, 1) := by decide +kernel
theorem dX3_getsMore_35 : decode cX3_getsMore 35 = .ok (.land, 1) := by decide +kernel
theorem dX3_getsMore_36 : decode cX3_getsMore 36 = .ok (.lor, 1) := by decide +kernel
theorem dX3_getsMore_37 : decode cX3_getsMore 37 = .ok (.lstore 5, 2) := by decide +kernel
theorem dX3_getsMore_39 : decode cX3_getsMore 39 = .ok (.iinc 7 1, 3) := by decide +kernel
theorem dX3_getsMore_42 : decode cX3_getsMore 42 = .ok (.goto (-32), 3) := by decide +kernel
theorem dX3_getsMore_45 : decode cX3_getsMore 45 = .ok (.aload_n 2, 1) := by decide +kernel
theorem dX3_getsMore_46 : decode cX3_getsMore 46 = .ok (.iload_n 1, 1) := by decide +kernel
theorem dX3_getsMore_47 : decode cX3_getsMore 47 = .ok (.lload 5, 2) := by decide +kernel
theorem dX3_getsMore_49 : decode cX3_getsMore 49 = .ok (.lastore, 1) := by decide +kernel
theorem dX3_getsMore_50 : decode cX3_getsMore 50 = .ok (.lload 5, 2) := by decide +kernel
theorem dX3_getsMore_52 : decode cX3_getsMore 52 = .ok (.lload_n 3, 1) := by decide +kernel
theorem dX3_getsMore_53 : decode cX3_getsMore 53 = .ok (.lcmp, 1) := by decide +kernel
theorem dX3_getsMore_54 : decode cX3_getsMore 54 = .ok (.ifCond .eq 7, 3) := by decide +kernel
theorem dX3_getsMore_57 : decode cX3_getsMore 57 = .ok (.iconst 1, 1) := by decide +kernel
theorem dX3_getsMore_58 : decode cX3_getsMore 58 = .ok (.goto 4, 3) := by decide +kernel
theorem dX3_getsMore_61 : decode cX3_getsMore 61 = .ok (.iconst 0, 1) := by decide +kernel
theorem dX3_getsMore_62 : decode cX3_getsMore 62 = .ok (.ireturn, 1) := by decide +kernel
set_option maxRecDepth 20000 in
theorem ggX3_setJoin_X4_letThrough : GoodIn wsX3_setJoin wsX4_letThrough := goodIn_r _ [6, 7, 8] (by decide +kernel) (by decide +kernel)
set_option maxRecDepth 20000 in
theorem gX3_setJoin_X4_letThrough : GoodIn wsX3_setJoin (va_wsS RX3 83 yX4_letThrough wsX4_letThrough) := goodIn_app (goodIn_of _ (by decide +kernel)) ggX3_setJoin_X4_letThrough
theorem dX3_setJoin_0 : decode cX3_setJoin 0 = .ok (.aload_n 0, 1) := by decide +kernel
theorem dX3_setJoin_1 : decode cX3_setJoin 1 = .ok (.getfield 19, 3) := by decide +kernel
theorem dX3_setJoin_4 : decode cX3_setJoin 4 = .ok (.iload_n 1, 1) := by decide +kernel
theorem dX3_setJoin_5 : decode cX3_setJoin 5 = .ok (.bipush 8, 2) := by decide +kernel
theorem dX3_setJoin_7 : decode cX3_setJoin 7 = .ok (.imul, 1) := by decide +kernel
theorem dX3_setJoin_8 : decode cX3_setJoin 8 = .ok (.iload_n 2, 1) := by decide +kernel
theorem dX3_setJoin_9 : decode cX3_setJoin 9 = .ok (.iadd, 1) := by decide +kernel
theorem dX3_setJoin_10 : decode cX3_setJoin 10 = .ok (.iload_n 3, 1) := by decide +kernel
theorem dX3_setJoin_11 : decode cX3_setJoin 11 = .ok (.iastore, 1) := by decide +kernel
theorem dX3_setJoin_12 : decode cX3_setJoin 12 = .ok (.aload_n 0, 1) := by decide +kernel
theorem dX3_setJoin_13 : decode cX3_setJoin 13 = .ok (.getfield 22, 3) := by decide +kernel
theorem dX3_setJoin_16 : decode cX3_setJoin 16 = .ok (.iload_n 1, 1) := by decide +kernel
theorem dX3_setJoin_17 : decode cX3_setJoin 17 = .ok (.bipush 8, 2) := by decide +kernel
theorem dX3_setJoin_19 : decode cX3_setJoin 19 = .ok (.imul, 1) := by decide +kernel
theorem dX3_setJoin_20 : decode cX3_setJoin 20 = .ok (.iload_n 2, 1) := by decide +kernel
theorem dX3_setJoin_21 : decode cX3_setJoin 21 = .ok (.iadd, 1) := by decide +kernel
theorem dX3_setJoin_22 : decode cX3_setJoin 22 = .ok (.iload_n 3, 1) := by decide +kernel
theorem dX3_setJoin_23 : decode cX3_setJoin 23 = .ok (.invokestatic 83, 3) := by decide +kernel
theorem dX3_setJoin_26 : decode cX3_setJoin 26 = .ok (.lastore, 1) := by decide +kernel
theorem dX3_setJoin_27 : decode cX3_setJoin 27 = .ok (.return_, 1) := by decide +kernel
set_option maxRecDepth 20000 in
theorem ggX3_settle_X3_spread : GoodIn wsX3_settle wsX3_spread := goodIn_r _ [8, 9, 10, 11, 12, 13, 14, 15, 7, 16, 17, 18, 19, 20, 21, 22, 23, 24, 25] (by decide +kernel) (by decide +kernel)
set_option maxRecDepth 20000 in
theorem gX3_settle_X3_spread : GoodIn wsX3_settle (wsV RX3 87 RX3 yX3_spread wsX3_spread) := goodIn_app (goodIn_of _ (by decide +kernel)) ggX3_settle_X3_spread
theorem dX3_settle_0 : decode cX3_settle 0 = .ok (.aload_n 0, 1) := by decide +kernel
theorem dX3_settle_1 : decode cX3_settle 1 = .ok (.dup, 1) := by decide +kernel
theorem dX3_settle_2 : decode cX3_settle 2 = .ok (.getfield 35, 3) := by decide +kernel
theorem dX3_settle_5 : decode cX3_settle 5 = .ok (.iconst 1, 1) := by decide +kernel
theorem dX3_settle_6 : decode cX3_settle 6 = .ok (.iadd, 1) := by decide +kernel
theorem dX3_settle_7 : decode cX3_settle 7 = .ok (.putfield 35, 3) := by decide +kernel
theorem dX3_settle_10 : decode cX3_settle 10 = .ok (.aload_n 0, 1) := by decide +kernel
theorem dX3_settle_11 : decode cX3_settle 11 = .ok (.aload_n 0, 1) := by decide +kernel
theorem dX3_settle_12 : decode cX3_settle 12 = .ok (.getfield 28, 3) := by decide +kernel
theorem dX3_settle_15 : decode cX3_settle 15 = .ok (.aload_n 0, 1) := by decide +kernel
theorem dX3_settle_16 : decode cX3_settle 16 = .ok (.getfield 25, 3) := by decide +kernel
theorem dX3_settle_19 : decode cX3_settle 19 = .ok (.invokevirtual 87, 3) := by decide +kernel
theorem dX3_settle_22 : decode cX3_settle 22 = .ok (.return_, 1) := by decide +kernel
theorem dX4_rowsFor_0 : decode cX4_rowsFor 0 = .ok (.lconst 0, 1) := by decide +kernel
theorem dX4_rowsFor_1 : decode cX4_rowsFor 1 = .ok (.lstore_n 2, 1) := by decide +kernel
theorem dX4_rowsFor_2 : decode cX4_rowsFor 2 = .ok (.iconst 0, 1) := by decide +kernel
theorem dX4_rowsFor_3 : decode cX4_rowsFor 3 = .ok (.istore 4, 2) := by decide +kernel
theorem dX4_rowsFor_5 : decode cX4_rowsFor 5 = .ok (.iload 4, 2) := by decide +kernel
theorem dX4_rowsFor_7 : decode cX4_rowsFor 7 = .ok (.iload_n 1, 1) := by decide +kernel
theorem dX4_rowsFor_8 : decode cX4_rowsFor 8 = .ok (.if_icmp .ge 21, 3) := by decide +kernel
theorem dX4_rowsFor_11 : decode cX4_rowsFor 11 = .ok (.lload_n 2, 1) := by decide +kernel
theorem dX4_rowsFor_12 : decode cX4_rowsFor 12 = .ok (.lconst 1, 1) := by decide +kernel
theorem dX4_rowsFor_13 : decode cX4_rowsFor 13 = .ok (.iload 4, 2) := by decide +kernel
theorem dX4_rowsFor_15 : decode cX4_rowsFor 15 = .ok (.bipush 12, 2) := by decide +kernel
theorem dX4_rowsFor_17 : decode cX4_rowsFor 17 = .ok (.imul, 1) := by decide +kernel
theorem dX4_rowsFor_18 : decode cX4_rowsFor 18 = .ok (.iload_n 0, 1) := by decide +kernel
theorem dX4_rowsFor_19 : decode cX4_rowsFor 19 = .ok (.iadd, 1) := by decide +kernel
theorem dX4_rowsFor_20 : decode cX4_rowsFor 20 = .ok (.lshl, 1) := by decide +kernel
theorem dX4_rowsFor_21 : decode cX4_rowsFor 21 = .ok (.lor, 1) := by decide +kernel
theorem dX4_rowsFor_22 : decode cX4_rowsFor 22 = .ok (.lstore_n 2, 1) := by decide +kernel
theorem dX4_rowsFor_23 : decode cX4_rowsFor 23 = .ok (.iinc 4 1, 3) := by decide +kernel
theorem dX4_rowsFor_26 : decode cX4_rowsFor 26 = .ok (.goto (-21), 3) := by decide +kernel
theorem dX4_rowsFor_29 : decode cX4_rowsFor 29 = .ok (.lload_n 2, 1) := by decide +kernel
theorem dX4_rowsFor_30 : decode cX4_rowsFor 30 = .ok (.lreturn, 1) := by decide +kernel
set_option maxRecDepth 20000 in
theorem ggX4_greatest_X6_isSet : GoodIn wsX4_greatest wsX6_isSet := goodIn_r _ [3] (by decide +kernel) (by decide +kernel)
set_option maxRecDepth 20000 in
theorem gX4_greatest_X6_isSet_n9 : GoodIn wsX4_greatest (wsX6_isSet) := ggX4_greatest_X6_isSet
theorem dX4_greatest_0 : decode cX4_greatest 0 = .ok (.iconst 3, 1) := by decide +kernel
theorem dX4_greatest_1 : decode cX4_greatest 1 = .ok (.istore_n 3, 1) := by decide +kernel
theorem dX4_greatest_2 : decode cX4_greatest 2 = .ok (.iload_n 3, 1) := by decide +kernel
theorem dX4_greatest_3 : decode cX4_greatest 3 = .ok (.iconst 1, 1) := by decide +kernel
theorem dX4_greatest_4 : decode cX4_greatest 4 = .ok (.if_icmp .lt 26, 3) := by decide +kernel
theorem dX4_greatest_7 : decode cX4_greatest 7 = .ok (.lload_n 0, 1) := by decide +kernel
theorem dX4_greatest_8 : decode cX4_greatest 8 = .ok (.iload_n 3, 1) := by decide +kernel
theorem dX4_greatest_9 : decode cX4_greatest 9 = .ok (.iconst 1, 1) := by decide +kernel
theorem dX4_greatest_10 : decode cX4_greatest 10 = .ok (.isub, 1) := by decide +kernel
theorem dX4_greatest_11 : decode cX4_greatest 11 = .ok (.bipush 12, 2) := by decide +kernel
theorem dX4_greatest_13 : decode cX4_greatest 13 = .ok (.imul, 1) := by decide +kernel
theorem dX4_greatest_14 : decode cX4_greatest 14 = .ok (.iload_n 2, 1) := by decide +kernel
theorem dX4_greatest_15 : decode cX4_greatest 15 = .ok (.iadd, 1) := by decide +kernel
theorem dX4_greatest_16 : decode cX4_greatest 16 = .ok (.invokestatic 9, 3) := by decide +kernel
theorem dX4_greatest_19 : decode cX4_greatest 19 = .ok (.ifCond .eq 5, 3) := by decide +kernel
theorem dX4_greatest_22 : decode cX4_greatest 22 = .ok (.iload_n 3, 1) := by decide +kernel
theorem dX4_greatest_23 : decode cX4_greatest 23 = .ok (.ireturn, 1) := by decide +kernel
theorem dX4_greatest_24 : decode cX4_greatest 24 = .ok (.iinc 3 (-1), 3) := by decide +kernel
theorem dX4_greatest_27 : decode cX4_greatest 27 = .ok (.goto (-25), 3) := by decide +kernel
theorem dX4_greatest_30 : decode cX4_greatest 30 = .ok (.iconst 0, 1) := by decide +kernel
theorem dX4_greatest_31 : decode cX4_greatest 31 = .ok (.ireturn, 1) := by decide +kernel
theorem dX4_looser_0 : decode cX4_looser 0 = .ok (.lload_n 0, 1) := by decide +kernel
theorem dX4_looser_1 : decode cX4_looser 1 = .ok (.lload_n 2, 1) := by decide +kernel
theorem dX4_looser_2 : decode cX4_looser 2 = .ok (.ldc2_w 13, 3) := by decide +kernel
theorem dX4_looser_5 : decode cX4_looser 5 = .ok (.lxor, 1) := by decide +kernel
theorem dX4_looser_6 : decode cX4_looser 6 = .ok (.land, 1) := by decide +kernel
theorem dX4_looser_7 : decode cX4_looser 7 = .ok (.lconst 0, 1) := by decide +kernel
theorem dX4_looser_8 : decode cX4_looser 8 = .ok (.lcmp, 1) := by decide +kernel
theorem dX4_looser_9 : decode cX4_looser 9 = .ok (.ifCond .ne 7, 3) := by decide +kernel
theorem dX4_looser_12 : decode cX4_looser 12 = .ok (.iconst 1, 1) := by decide +kernel
theorem dX4_looser_13 : decode cX4_looser 13 = .ok (.goto 4, 3) := by decide +kernel
theorem dX4_looser_16 : decode cX4_looser 16 = .ok (.iconst 0, 1) := by decide +kernel
theorem dX4_looser_17 : decode cX4_looser 17 = .ok (.istore 4, 2) := by decide +kernel
theorem dX4_looser_19 : decode cX4_looser 19 = .ok (.lload_n 2, 1) := by decide +kernel
theorem dX4_looser_20 : decode cX4_looser 20 = .ok (.lload_n 0, 1) := by decide +kernel
theorem dX4_looser_21 : decode cX4_looser 21 = .ok (.ldc2_w 13, 3) := by decide +kernel
theorem dX4_looser_24 : decode cX4_looser 24 = .ok (.lxor, 1) := by decide +kernel
theorem dX4_looser_25 : decode cX4_looser 25 = .ok (.land, 1) := by decide +kernel
theorem dX4_looser_26 : decode cX4_looser 26 = .ok (.lconst 0, 1) := by decide +kernel
theorem dX4_looser_27 : decode cX4_looser 27 = .ok (.lcmp, 1) := by decide +kernel
theorem dX4_looser_28 : decode cX4_looser 28 = .ok (.ifCond .ne 7, 3) := by decide +kernel
theorem dX4_looser_31 : decode cX4_looser 31 = .ok (.iconst 2, 1) := by decide +kernel
theorem dX4_looser_32 : decode cX4_looser 32 = .ok (.goto 4, 3) := by decide +kernel
theorem dX4_looser_35 : decode cX4_looser 35 = .ok (.iconst 0, 1) := by decide +kernel
theorem dX4_looser_36 : decode cX4_looser 36 = .ok (.istore 5, 2) := by decide +kernel
theorem dX4_looser_38 : decode cX4_looser 38 = .ok (.iload 4, 2) := by decide +kernel
theorem dX4_looser_40 : decode cX4_looser 40 = .ok (.iload 5, 2) := by decide +kernel
theorem dX4_looser_42 : decode cX4_looser 42 = .ok (.iadd, 1) := by decide +kernel
theorem dX4_looser_43 : decode cX4_looser 43 = .ok (.ireturn, 1) := by decide +kernel
set_option maxRecDepth 20000 in
theorem ggX4_duties_X4_itemsIn : GoodIn wsX4_duties wsX4_itemsIn := goodIn_r _ [4] (by decide +kernel) (by decide +kernel)
set_option maxRecDepth 20000 in
theorem gX4_duties_X4_itemsIn : GoodIn wsX4_duties (va_wsS RX4 15 yX4_itemsIn wsX4_itemsIn) := goodIn_app (goodIn_of _ (by decide +kernel)) ggX4_duties_X4_itemsIn
theorem dX4_duties_0 : decode cX4_duties 0 = .ok (.lload_n 0, 1) := by decide +kernel
theorem dX4_duties_1 : decode cX4_duties 1 = .ok (.invokestatic 15, 3) := by decide +kernel
theorem dX4_duties_4 : decode cX4_duties 4 = .ok (.bipush 63, 2) := by decide +kernel
theorem dX4_duties_6 : decode cX4_duties 6 = .ok (.iand, 1) := by decide +kernel
theorem dX4_duties_7 : decode cX4_duties 7 = .ok (.ireturn, 1) := by decide +kernel
set_option maxRecDepth 20000 in
theorem ggX4_bars_X4_itemsIn : GoodIn wsX4_bars wsX4_itemsIn := goodIn_r _ [4] (by decide +kernel) (by decide +kernel)
set_option maxRecDepth 20000 in
theorem gX4_bars_X4_itemsIn : GoodIn wsX4_bars (va_wsS RX4 15 yX4_itemsIn wsX4_itemsIn) := goodIn_app (goodIn_of _ (by decide +kernel)) ggX4_bars_X4_itemsIn
theorem dX4_bars_0 : decode cX4_bars 0 = .ok (.lload_n 0, 1) := by decide +kernel
theorem dX4_bars_1 : decode cX4_bars 1 = .ok (.invokestatic 15, 3) := by decide +kernel
theorem dX4_bars_4 : decode cX4_bars 4 = .ok (.bipush 6, 2) := by decide +kernel
theorem dX4_bars_6 : decode cX4_bars 6 = .ok (.ishr, 1) := by decide +kernel
theorem dX4_bars_7 : decode cX4_bars 7 = .ok (.ireturn, 1) := by decide +kernel
set_option maxRecDepth 20000 in
theorem ggX4_meeting_X4_itemsIn : GoodIn wsX4_meeting wsX4_itemsIn := goodIn_r _ [4] (by decide +kernel) (by decide +kernel)
set_option maxRecDepth 20000 in
theorem gX4_meeting_X4_itemsIn : GoodIn wsX4_meeting (va_wsS RX4 15 yX4_itemsIn wsX4_itemsIn) := goodIn_app (goodIn_of _ (by decide +kernel)) ggX4_meeting_X4_itemsIn
theorem dX4_meeting_0 : decode cX4_meeting 0 = .ok (.lload_n 0, 1) := by decide +kernel
theorem dX4_meeting_1 : decode cX4_meeting 1 = .ok (.invokestatic 15, 3) := by decide +kernel
theorem dX4_meeting_4 : decode cX4_meeting 4 = .ok (.istore_n 2, 1) := by decide +kernel
theorem dX4_meeting_5 : decode cX4_meeting 5 = .ok (.iload_n 2, 1) := by decide +kernel
theorem dX4_meeting_6 : decode cX4_meeting 6 = .ok (.iload_n 2, 1) := by decide +kernel
theorem dX4_meeting_7 : decode cX4_meeting 7 = .ok (.bipush 6, 2) := by decide +kernel
theorem dX4_meeting_9 : decode cX4_meeting 9 = .ok (.ishr, 1) := by decide +kernel
theorem dX4_meeting_10 : decode cX4_meeting 10 = .ok (.iand, 1) := by decide +kernel
theorem dX4_meeting_11 : decode cX4_meeting 11 = .ok (.ireturn, 1) := by decide +kernel
theorem dX4_letThrough_0 : decode cX4_letThrough 0 = .ok (.iload_n 0, 1) := by decide +kernel
theorem dX4_letThrough_1 : decode cX4_letThrough 1 = .ok (.iconst (-1), 1) := by decide +kernel
theorem dX4_letThrough_2 : decode cX4_letThrough 2 = .ok (.if_icmp .ne 7, 3) := by decide +kernel
theorem dX4_letThrough_5 : decode cX4_letThrough 5 = .ok (.lconst 0, 1) := by decide +kernel
theorem dX4_letThrough_6 : decode cX4_letThrough 6 = .ok (.goto 15, 3) := by decide +kernel
theorem dX4_letThrough_9 : decode cX4_letThrough 9 = .ok (.ldc2_w 21, 3) := by decide +kernel
theorem dX4_letThrough_12 : decode cX4_letThrough 12 = .ok (.ldc2_w 13, 3) := by decide +kernel
theorem dX4_letThrough_15 : decode cX4_letThrough 15 = .ok (.iload_n 0, 1) := by decide +kernel
theorem dX4_letThrough_16 : decode cX4_letThrough 16 = .ok (.bipush 12, 2) := by decide +kernel
theorem dX4_letThrough_18 : decode cX4_letThrough 18 = .ok (.imul, 1) := by decide +kernel
theorem dX4_letThrough_19 : decode cX4_letThrough 19 = .ok (.lshl, 1) := by decide +kernel
theorem dX4_letThrough_20 : decode cX4_letThrough 20 = .ok (.land, 1) := by decide +kernel
theorem dX4_letThrough_21 : decode cX4_letThrough 21 = .ok (.lreturn, 1) := by decide +kernel
theorem dX4_itemsIn_0 : decode cX4_itemsIn 0 = .ok (.lload_n 0, 1) := by decide +kernel
theorem dX4_itemsIn_1 : decode cX4_itemsIn 1 = .ok (.lload_n 0, 1) := by decide +kernel
theorem dX4_itemsIn_2 : decode cX4_itemsIn 2 = .ok (.bipush 12, 2) := by decide +kernel
theorem dX4_itemsIn_4 : decode cX4_itemsIn 4 = .ok (.lshr, 1) := by decide +kernel
theorem dX4_itemsIn_5 : decode cX4_itemsIn 5 = .ok (.lor, 1) := by decide +kernel
theorem dX4_itemsIn_6 : decode cX4_itemsIn 6 = .ok (.lload_n 0, 1) := by decide +kernel
theorem dX4_itemsIn_7 : decode cX4_itemsIn 7 = .ok (.bipush 24, 2) := by decide +kernel
theorem dX4_itemsIn_9 : decode cX4_itemsIn 9 = .ok (.lshr, 1) := by decide +kernel
theorem dX4_itemsIn_10 : decode cX4_itemsIn 10 = .ok (.lor, 1) := by decide +kernel
theorem dX4_itemsIn_11 : decode cX4_itemsIn 11 = .ok (.l2i, 1) := by decide +kernel
theorem dX4_itemsIn_12 : decode cX4_itemsIn 12 = .ok (.sipush 4095, 3) := by decide +kernel
theorem dX4_itemsIn_15 : decode cX4_itemsIn 15 = .ok (.iand, 1) := by decide +kernel
theorem dX4_itemsIn_16 : decode cX4_itemsIn 16 = .ok (.ireturn, 1) := by decide +kernel
theorem dX5_init_0 : decode cX5_init 0 = .ok (.aload_n 0, 1) := by decide +kernel
theorem dX5_init_1 : decode cX5_init 1 = .ok (.invokespecial 3, 3) := by decide +kernel
theorem dX5_init_4 : decode cX5_init 4 = .ok (.aload_n 0, 1) := by decide +kernel
theorem dX5_init_5 : decode cX5_init 5 = .ok (.bipush 8, 2) := by decide +kernel
theorem dX5_init_7 : decode cX5_init 7 = .ok (.newarray .int, 2) := by decide +kernel
theorem dX5_init_9 : decode cX5_init 9 = .ok (.putfield 9, 3) := by decide +kernel
theorem dX5_init_12 : decode cX5_init 12 = .ok (.aload_n 0, 1) := by decide +kernel
theorem dX5_init_13 : decode cX5_init 13 = .ok (.aload_n 1, 1) := by decide +kernel
theorem dX5_init_14 : decode cX5_init 14 = .ok (.putfield 15, 3) := by decide +kernel
theorem dX5_init_17 : decode cX5_init 17 = .ok (.return_, 1) := by decide +kernel
set_option maxRecDepth 20000 in
theorem ggX5_partAt_X3_reachHeld : GoodIn wsX5_partAt wsX3_reachHeld := goodIn_r _ [7, 8, 9, 10, 11, 12, 13, 14, 15, 42, 43, 44, 45, 46, 47, 48, 49] (by decide +kernel) (by decide +kernel)
set_option maxRecDepth 20000 in
theorem gX5_partAt_X3_reachHeld : GoodIn wsX5_partAt (wsV RX5 19 RX3 yX3_reachHeld wsX3_reachHeld) := goodIn_app (goodIn_of _ (by decide +kernel)) ggX5_partAt_X3_reachHeld
set_option maxRecDepth 20000 in
theorem ggX5_partAt_X5_measure : GoodIn wsX5_partAt wsX5_measure := goodIn_r _ [20, 1, 2, 21, 22, 23, 6, 24, 25, 13, 14, 15, 26, 10, 11, 12, 27, 28, 29, 19, 30, 31, 32, 33, 34, 35, 36, 37, 38, 39, 40, 41, 42, 43, 44, 45, 46, 47, 48, 49] (by decide +kernel) (by decide +kernel)
set_option maxRecDepth 20000 in
theorem gX5_partAt_X5_measure : GoodIn wsX5_partAt (wsV RX5 25 RX5 yX5_measure wsX5_measure) := goodIn_app (goodIn_of _ (by decide +kernel)) ggX5_partAt_X5_measure
set_option maxRecDepth 20000 in
theorem ggX5_partAt_X5_nearer : GoodIn wsX5_partAt wsX5_nearer := goodIn_r _ [30, 2, 1, 31, 32, 33, 6, 34, 35, 36, 37, 38, 39, 40, 41, 42, 43, 44, 45, 46, 47, 48, 49] (by decide +kernel) (by decide +kernel)
set_option maxRecDepth 20000 in
theorem gX5_partAt_X5_nearer : GoodIn wsX5_partAt (wsV RX5 29 RX5 yX5_nearer wsX5_nearer) := goodIn_app (goodIn_of _ (by decide +kernel)) ggX5_partAt_X5_nearer
theorem dX5_partAt_0 : decode cX5_partAt 0 = .ok (.aload_n 0, 1) := by decide +kernel
theorem dX5_partAt_1 : decode cX5_partAt 1 = .ok (.getfield 15, 3) := by decide +kernel
theorem dX5_partAt_4 : decode cX5_partAt 4 = .ok (.iload_n 1, 1) := by decide +kernel
theorem dX5_partAt_5 : decode cX5_partAt 5 = .ok (.iload_n 2, 1) := by decide +kernel
theorem dX5_partAt_6 : decode cX5_partAt 6 = .ok (.invokevirtual 19, 3) := by decide +kernel
theorem dX5_partAt_9 : decode cX5_partAt 9 = .ok (.istore 4, 2) := by decide +kernel
theorem dX5_partAt_11 : decode cX5_partAt 11 = .ok (.iload 4, 2) := by decide +kernel
theorem dX5_partAt_13 : decode cX5_partAt 13 = .ok (.ifCond .eq 7, 3) := by decide +kernel
theorem dX5_partAt_16 : decode cX5_partAt 16 = .ok (.iload_n 3, 1) := by decide +kernel
theorem dX5_partAt_17 : decode cX5_partAt 17 = .ok (.ifCond .ge 5, 3) := by decide +kernel
theorem dX5_partAt_20 : decode cX5_partAt 20 = .ok (.iconst (-1), 1) := by decide +kernel
theorem dX5_partAt_21 : decode cX5_partAt 21 = .ok (.ireturn, 1) := by decide +kernel
theorem dX5_partAt_22 : decode cX5_partAt 22 = .ok (.aload_n 0, 1) := by decide +kernel
theorem dX5_partAt_23 : decode cX5_partAt 23 = .ok (.iload_n 2, 1) := by decide +kernel
theorem dX5_partAt_24 : decode cX5_partAt 24 = .ok (.iload 4, 2) := by decide +kernel
theorem dX5_partAt_26 : decode cX5_partAt 26 = .ok (.invokevirtual 25, 3) := by decide +kernel
theorem dX5_partAt_29 : decode cX5_partAt 29 = .ok (.iload_n 3, 1) := by decide +kernel
theorem dX5_partAt_30 : decode cX5_partAt 30 = .ok (.aload_n 0, 1) := by decide +kernel
theorem dX5_partAt_31 : decode cX5_partAt 31 = .ok (.getfield 9, 3) := by decide +kernel
theorem dX5_partAt_34 : decode cX5_partAt 34 = .ok (.iload_n 1, 1) := by decide +kernel
theorem dX5_partAt_35 : decode cX5_partAt 35 = .ok (.iaload, 1) := by decide +kernel
theorem dX5_partAt_36 : decode cX5_partAt 36 = .ok (.if_icmp .le 5, 3) := by decide +kernel
theorem dX5_partAt_39 : decode cX5_partAt 39 = .ok (.iconst (-1), 1) := by decide +kernel
theorem dX5_partAt_40 : decode cX5_partAt 40 = .ok (.ireturn, 1) := by decide +kernel
theorem dX5_partAt_41 : decode cX5_partAt 41 = .ok (.iload_n 1, 1) := by decide +kernel
theorem dX5_partAt_42 : decode cX5_partAt 42 = .ok (.istore 5, 2) := by decide +kernel
theorem dX5_partAt_44 : decode cX5_partAt 44 = .ok (.iconst 0, 1) := by decide +kernel
theorem dX5_partAt_45 : decode cX5_partAt 45 = .ok (.istore 6, 2) := by decide +kernel
theorem dX5_partAt_47 : decode cX5_partAt 47 = .ok (.iload 5, 2) := by decide +kernel
theorem dX5_partAt_49 : decode cX5_partAt 49 = .ok (.iconst (-1), 1) := by decide +kernel
theorem dX5_partAt_50 : decode cX5_partAt 50 = .ok (.if_icmp .eq 34, 3) := by decide +kernel
theorem dX5_partAt_53 : decode cX5_partAt 53 = .ok (.iload 6, 2) := by decide +kernel
theorem dX5_partAt_55 : decode cX5_partAt 55 = .ok (.iload_n 3, 1) := by decide +kernel
theorem dX5_partAt_56 : decode cX5_partAt 56 = .ok (.if_icmp .ge 28, 3) := by decide +kernel
theorem dX5_partAt_59 : decode cX5_partAt 59 = .ok (.aload_n 0, 1) := by decide +kernel
theorem dX5_partAt_60 : decode cX5_partAt 60 = .ok (.iload 5, 2) := by decide +kernel
theorem dX5_partAt_62 : decode cX5_partAt 62 = .ok (.aload_n 0, 1) := by decide +kernel
theorem dX5_partAt_63 : decode cX5_partAt 63 = .ok (.getfield 9, 3) := by decide +kernel
theorem dX5_partAt_66 : decode cX5_partAt 66 = .ok (.iload 5, 2) := by decide +kernel
theorem dX5_partAt_68 : decode cX5_partAt 68 = .ok (.iaload, 1) := by decide +kernel
theorem dX5_partAt_69 : decode cX5_partAt 69 = .ok (.iconst 1, 1) := by decide +kernel
theorem dX5_partAt_70 : decode cX5_partAt 70 = .ok (.isub, 1) := by decide +kernel
theorem dX5_partAt_71 : decode cX5_partAt 71 = .ok (.iload 4, 2) := by decide +kernel
theorem dX5_partAt_73 : decode cX5_partAt 73 = .ok (.invokevirtual 29, 3) := by decide +kernel
theorem dX5_partAt_76 : decode cX5_partAt 76 = .ok (.istore 5, 2) := by decide +kernel
theorem dX5_partAt_78 : decode cX5_partAt 78 = .ok (.iinc 6 1, 3) := by decide +kernel
theorem dX5_partAt_81 : decode cX5_partAt 81 = .ok (.goto (-34), 3) := by decide +kernel
theorem dX5_partAt_84 : decode cX5_partAt 84 = .ok (.iload 5, 2) := by decide +kernel
theorem dX5_partAt_86 : decode cX5_partAt 86 = .ok (.ireturn, 1) := by decide +kernel
set_option maxRecDepth 20000 in
theorem ggX5_measure_X3_has : GoodIn wsX5_measure wsX3_has := goodIn_r _ [7, 8, 9, 10, 11, 32, 33, 34, 35, 36, 37, 38, 39] (by decide +kernel) (by decide +kernel)
set_option maxRecDepth 20000 in
theorem gX5_measure_X3_has : GoodIn wsX5_measure (wsV RX5 33 RX3 yX3_has wsX3_has) := goodIn_app (goodIn_of _ (by decide +kernel)) ggX5_measure_X3_has
set_option maxRecDepth 20000 in
theorem ggX5_measure_X4_greatest : GoodIn wsX5_measure wsX4_greatest := goodIn_r _ [15, 9, 10, 11] (by decide +kernel) (by decide +kernel)
set_option maxRecDepth 20000 in
theorem gX5_measure_X4_greatest : GoodIn wsX5_measure (va_wsS RX5 41 yX4_greatest wsX4_greatest) := goodIn_app (goodIn_of _ (by decide +kernel)) ggX5_measure_X4_greatest
set_option maxRecDepth 20000 in
theorem ggX5_measure_X5_nearer : GoodIn wsX5_measure wsX5_nearer := goodIn_r _ [20, 2, 1, 21, 22, 23, 6, 24, 25, 26, 27, 28, 29, 30, 31, 32, 33, 34, 35, 36, 37, 38, 39] (by decide +kernel) (by decide +kernel)
set_option maxRecDepth 20000 in
theorem gX5_measure_X5_nearer : GoodIn wsX5_measure (wsV RX5 29 RX5 yX5_nearer wsX5_nearer) := goodIn_app (goodIn_of _ (by decide +kernel)) ggX5_measure_X5_nearer
theorem dX5_measure_0 : decode cX5_measure 0 = .ok (.iconst 0, 1) := by decide +kernel
theorem dX5_measure_1 : decode cX5_measure 1 = .ok (.istore_n 3, 1) := by decide +kernel
theorem dX5_measure_2 : decode cX5_measure 2 = .ok (.iload_n 3, 1) := by decide +kernel
theorem dX5_measure_3 : decode cX5_measure 3 = .ok (.bipush 8, 2) := by decide +kernel
theorem dX5_measure_5 : decode cX5_measure 5 = .ok (.if_icmp .ge 60, 3) := by decide +kernel
theorem dX5_measure_8 : decode cX5_measure 8 = .ok (.aload_n 0, 1) := by decide +kernel
theorem dX5_measure_9 : decode cX5_measure 9 = .ok (.getfield 15, 3) := by decide +kernel
theorem dX5_measure_12 : decode cX5_measure 12 = .ok (.iload_n 3, 1) := by decide +kernel
theorem dX5_measure_13 : decode cX5_measure 13 = .ok (.invokevirtual 33, 3) := by decide +kernel
theorem dX5_measure_16 : decode cX5_measure 16 = .ok (.ifCond .eq 24, 3) := by decide +kernel
theorem dX5_measure_19 : decode cX5_measure 19 = .ok (.aload_n 0, 1) := by decide +kernel
theorem dX5_measure_20 : decode cX5_measure 20 = .ok (.getfield 15, 3) := by decide +kernel
theorem dX5_measure_23 : decode cX5_measure 23 = .ok (.getfield 37, 3) := by decide +kernel
theorem dX5_measure_26 : decode cX5_measure 26 = .ok (.iload_n 3, 1) := by decide +kernel
theorem dX5_measure_27 : decode cX5_measure 27 = .ok (.laload, 1) := by decide +kernel
theorem dX5_measure_28 : decode cX5_measure 28 = .ok (.iload_n 1, 1) := by decide +kernel
theorem dX5_measure_29 : decode cX5_measure 29 = .ok (.invokestatic 41, 3) := by decide +kernel
theorem dX5_measure_32 : decode cX5_measure 32 = .ok (.iload_n 2, 1) := by decide +kernel
theorem dX5_measure_33 : decode cX5_measure 33 = .ok (.if_icmp .ne 7, 3) := by decide +kernel
theorem dX5_measure_36 : decode cX5_measure 36 = .ok (.iconst 1, 1) := by decide +kernel
theorem dX5_measure_37 : decode cX5_measure 37 = .ok (.goto 4, 3) := by decide +kernel
theorem dX5_measure_40 : decode cX5_measure 40 = .ok (.iconst 0, 1) := by decide +kernel
theorem dX5_measure_41 : decode cX5_measure 41 = .ok (.istore 4, 2) := by decide +kernel
theorem dX5_measure_43 : decode cX5_measure 43 = .ok (.aload_n 0, 1) := by decide +kernel
theorem dX5_measure_44 : decode cX5_measure 44 = .ok (.getfield 9, 3) := by decide +kernel
theorem dX5_measure_47 : decode cX5_measure 47 = .ok (.iload_n 3, 1) := by decide +kernel
theorem dX5_measure_48 : decode cX5_measure 48 = .ok (.iload 4, 2) := by decide +kernel
theorem dX5_measure_50 : decode cX5_measure 50 = .ok (.ifCond .eq 7, 3) := by decide +kernel
theorem dX5_measure_53 : decode cX5_measure 53 = .ok (.iconst 0, 1) := by decide +kernel
theorem dX5_measure_54 : decode cX5_measure 54 = .ok (.goto 4, 3) := by decide +kernel
theorem dX5_measure_57 : decode cX5_measure 57 = .ok (.iconst (-1), 1) := by decide +kernel
theorem dX5_measure_58 : decode cX5_measure 58 = .ok (.iastore, 1) := by decide +kernel
theorem dX5_measure_59 : decode cX5_measure 59 = .ok (.iinc 3 1, 3) := by decide +kernel
theorem dX5_measure_62 : decode cX5_measure 62 = .ok (.goto (-60), 3) := by decide +kernel
theorem dX5_measure_65 : decode cX5_measure 65 = .ok (.iconst 1, 1) := by decide +kernel
theorem dX5_measure_66 : decode cX5_measure 66 = .ok (.istore_n 3, 1) := by decide +kernel
theorem dX5_measure_67 : decode cX5_measure 67 = .ok (.iload_n 3, 1) := by decide +kernel
theorem dX5_measure_68 : decode cX5_measure 68 = .ok (.bipush 8, 2) := by decide +kernel
theorem dX5_measure_70 : decode cX5_measure 70 = .ok (.if_icmp .ge 58, 3) := by decide +kernel
theorem dX5_measure_73 : decode cX5_measure 73 = .ok (.iconst 0, 1) := by decide +kernel
theorem dX5_measure_74 : decode cX5_measure 74 = .ok (.istore 4, 2) := by decide +kernel
theorem dX5_measure_76 : decode cX5_measure 76 = .ok (.iload 4, 2) := by decide +kernel
theorem dX5_measure_78 : decode cX5_measure 78 = .ok (.bipush 8, 2) := by decide +kernel
theorem dX5_measure_80 : decode cX5_measure 80 = .ok (.if_icmp .ge 42, 3) := by decide +kernel
theorem dX5_measure_83 : decode cX5_measure 83 = .ok (.aload_n 0, 1) := by decide +kernel
theorem dX5_measure_84 : decode cX5_measure 84 = .ok (.getfield 9, 3) := by decide +kernel
theorem dX5_measure_87 : decode cX5_measure 87 = .ok (.iload 4, 2) := by decide +kernel
theorem dX5_measure_89 : decode cX5_measure 89 = .ok (.iaload, 1) := by decide +kernel
theorem dX5_measure_90 : decode cX5_measure 90 = .ok (.iconst (-1), 1) := by decide +kernel
theorem dX5_measure_91 : decode cX5_measure 91 = .ok (.if_icmp .ne 25, 3) := by decide +kernel
theorem dX5_measure_94 : decode cX5_measure 94 = .ok (.aload_n 0, 1) := by decide +kernel
theorem dX5_measure_95 : decode cX5_measure 95 = .ok (.iload 4, 2) := by decide +kernel
theorem dX5_measure_97 : decode cX5_measure 97 = .ok (.iload_n 3, 1) := by decide +kernel
theorem dX5_measure_98 : decode cX5_measure 98 = .ok (.iconst 1, 1) := by decide +kernel
theorem dX5_measure_99 : decode cX5_measure 99 = .ok (.isub, 1) := by decide +kernel
theorem dX5_measure_100 : decode cX5_measure 100 = .ok (.iload_n 2, 1) := by decide +kernel
theorem dX5_measure_101 : decode cX5_measure 101 = .ok (.invokevirtual 29, 3) := by decide +kernel
theorem dX5_measure_104 : decode cX5_measure 104 = .ok (.iconst (-1), 1) := by decide +kernel
theorem dX5_measure_105 : decode cX5_measure 105 = .ok (.if_icmp .eq 11, 3) := by decide +kernel
theorem dX5_measure_108 : decode cX5_measure 108 = .ok (.aload_n 0, 1) := by decide +kernel
theorem dX5_measure_109 : decode cX5_measure 109 = .ok (.getfield 9, 3) := by decide +kernel
theorem dX5_measure_112 : decode cX5_measure 112 = .ok (.iload 4, 2) := by decide +kernel
theorem dX5_measure_114 : decode cX5_measure 114 = .ok (.iload_n 3, 1) := by decide +kernel
theorem dX5_measure_115 : decode cX5_measure 115 = .ok (.iastore, 1) := by decide +kernel
theorem dX5_measure_116 : decode cX5_measure 116 = .ok (.iinc 4 1, 3) := by decide +kernel
theorem dX5_measure_119 : decode cX5_measure 119 = .ok (.goto (-43), 3) := by decide +kernel
theorem dX5_measure_122 : decode cX5_measure 122 = .ok (.iinc 3 1, 3) := by decide +kernel
theorem dX5_measure_125 : decode cX5_measure 125 = .ok (.goto (-58), 3) := by decide +kernel
theorem dX5_measure_128 : decode cX5_measure 128 = .ok (.return_, 1) := by decide +kernel
set_option maxRecDepth 20000 in
theorem ggX5_nearer_X3_lets : GoodIn wsX5_nearer wsX3_lets := goodIn_r _ [7, 8, 9, 10, 6, 11, 12, 15, 16, 17, 18, 19, 20, 21, 22] (by decide +kernel) (by decide +kernel)
set_option maxRecDepth 20000 in
theorem gX5_nearer_X3_lets : GoodIn wsX5_nearer (wsV RX5 47 RX3 yX3_lets wsX3_lets) := goodIn_app (goodIn_of _ (by decide +kernel)) ggX5_nearer_X3_lets
theorem dX5_nearer_0 : decode cX5_nearer 0 = .ok (.iconst 0, 1) := by decide +kernel
theorem dX5_nearer_1 : decode cX5_nearer 1 = .ok (.istore 4, 2) := by decide +kernel
theorem dX5_nearer_3 : decode cX5_nearer 3 = .ok (.iload 4, 2) := by decide +kernel
theorem dX5_nearer_5 : decode cX5_nearer 5 = .ok (.bipush 8, 2) := by decide +kernel
theorem dX5_nearer_7 : decode cX5_nearer 7 = .ok (.if_icmp .ge 37, 3) := by decide +kernel
theorem dX5_nearer_10 : decode cX5_nearer 10 = .ok (.aload_n 0, 1) := by decide +kernel
theorem dX5_nearer_11 : decode cX5_nearer 11 = .ok (.getfield 9, 3) := by decide +kernel
theorem dX5_nearer_14 : decode cX5_nearer 14 = .ok (.iload 4, 2) := by decide +kernel
theorem dX5_nearer_16 : decode cX5_nearer 16 = .ok (.iaload, 1) := by decide +kernel
theorem dX5_nearer_17 : decode cX5_nearer 17 = .ok (.iload_n 2, 1) := by decide +kernel
theorem dX5_nearer_18 : decode cX5_nearer 18 = .ok (.if_icmp .ne 20, 3) := by decide +kernel
theorem dX5_nearer_21 : decode cX5_nearer 21 = .ok (.aload_n 0, 1) := by decide +kernel
theorem dX5_nearer_22 : decode cX5_nearer 22 = .ok (.getfield 15, 3) := by decide +kernel
theorem dX5_nearer_25 : decode cX5_nearer 25 = .ok (.iload_n 1, 1) := by decide +kernel
theorem dX5_nearer_26 : decode cX5_nearer 26 = .ok (.iload 4, 2) := by decide +kernel
theorem dX5_nearer_28 : decode cX5_nearer 28 = .ok (.iload_n 3, 1) := by decide +kernel
theorem dX5_nearer_29 : decode cX5_nearer 29 = .ok (.invokevirtual 47, 3) := by decide +kernel
theorem dX5_nearer_32 : decode cX5_nearer 32 = .ok (.ifCond .eq 6, 3) := by decide +kernel
theorem dX5_nearer_35 : decode cX5_nearer 35 = .ok (.iload 4, 2) := by decide +kernel
theorem dX5_nearer_37 : decode cX5_nearer 37 = .ok (.ireturn, 1) := by decide +kernel
theorem dX5_nearer_38 : decode cX5_nearer 38 = .ok (.iinc 4 1, 3) := by decide +kernel
theorem dX5_nearer_41 : decode cX5_nearer 41 = .ok (.goto (-38), 3) := by decide +kernel
theorem dX5_nearer_44 : decode cX5_nearer 44 = .ok (.iconst (-1), 1) := by decide +kernel
theorem dX5_nearer_45 : decode cX5_nearer 45 = .ok (.ireturn, 1) := by decide +kernel
set_option maxRecDepth 20000 in
theorem ggX6_init_X2_init : GoodIn wsX6_init wsX2_init := goodIn_r _ [25, 26, 2, 3, 27, 28, 29, 66, 67] (by decide +kernel) (by decide +kernel)
set_option maxRecDepth 20000 in
theorem gX6_init_X2_init_n11 : GoodIn wsX6_init (wsX2_init) := ggX6_init_X2_init
set_option maxRecDepth 20000 in
theorem ggX6_init_X0_init : GoodIn wsX6_init wsX0_init := goodIn_r _ [31, 32, 2, 3, 33, 34, 35, 73, 74] (by decide +kernel) (by decide +kernel)
set_option maxRecDepth 20000 in
theorem gX6_init_X0_init_n18 : GoodIn wsX6_init (wsX0_init) := ggX6_init_X0_init
set_option maxRecDepth 20000 in
theorem ggX6_init_X3_init : GoodIn wsX6_init wsX3_init := goodIn_r _ [38, 39, 2, 3, 27, 40, 33, 41, 42, 43, 44, 45, 46, 47, 48, 49, 50, 51, 75, 76, 77, 78, 79, 80, 81, 82] (by decide +kernel) (by decide +kernel)
set_option maxRecDepth 20000 in
theorem gX6_init_X3_init : GoodIn wsX6_init (wsX3_init) := ggX6_init_X3_init
set_option maxRecDepth 20000 in
theorem ggX6_init_X5_init : GoodIn wsX6_init wsX5_init := goodIn_r _ [54, 55, 2, 3, 27, 56, 57, 83, 84] (by decide +kernel) (by decide +kernel)
set_option maxRecDepth 20000 in
theorem gX6_init_X5_init : GoodIn wsX6_init (wsX5_init) := ggX6_init_X5_init
set_option maxRecDepth 20000 in
theorem ggX6_init_X1_init : GoodIn wsX6_init wsX1_init := goodIn_r _ [60, 61, 2, 3, 33, 62, 63, 64, 65, 85, 86, 87, 88] (by decide +kernel) (by decide +kernel)
set_option maxRecDepth 20000 in
theorem gX6_init_X1_init : GoodIn wsX6_init (wsX1_init) := ggX6_init_X1_init
theorem dX6_init_0 : decode cX6_init 0 = .ok (.aload_n 0, 1) := by decide +kernel
theorem dX6_init_1 : decode cX6_init 1 = .ok (.invokespecial 3, 3) := by decide +kernel
theorem dX6_init_4 : decode cX6_init 4 = .ok (.aload_n 0, 1) := by decide +kernel
theorem dX6_init_5 : decode cX6_init 5 = .ok (.new 9, 3) := by decide +kernel
theorem dX6_init_8 : decode cX6_init 8 = .ok (.dup, 1) := by decide +kernel
theorem dX6_init_9 : decode cX6_init 9 = .ok (.invokespecial 11, 3) := by decide +kernel
theorem dX6_init_12 : decode cX6_init 12 = .ok (.putfield 12, 3) := by decide +kernel
theorem dX6_init_15 : decode cX6_init 15 = .ok (.aload_n 0, 1) := by decide +kernel
theorem dX6_init_16 : decode cX6_init 16 = .ok (.new 16, 3) := by decide +kernel
theorem dX6_init_19 : decode cX6_init 19 = .ok (.dup, 1) := by decide +kernel
theorem dX6_init_20 : decode cX6_init 20 = .ok (.invokespecial 18, 3) := by decide +kernel
theorem dX6_init_23 : decode cX6_init 23 = .ok (.putfield 19, 3) := by decide +kernel
theorem dX6_init_26 : decode cX6_init 26 = .ok (.aload_n 0, 1) := by decide +kernel
theorem dX6_init_27 : decode cX6_init 27 = .ok (.new 23, 3) := by decide +kernel
theorem dX6_init_30 : decode cX6_init 30 = .ok (.dup, 1) := by decide +kernel
theorem dX6_init_31 : decode cX6_init 31 = .ok (.invokespecial 25, 3) := by decide +kernel
theorem dX6_init_34 : decode cX6_init 34 = .ok (.putfield 26, 3) := by decide +kernel
theorem dX6_init_37 : decode cX6_init 37 = .ok (.aload_n 0, 1) := by decide +kernel
theorem dX6_init_38 : decode cX6_init 38 = .ok (.new 30, 3) := by decide +kernel
theorem dX6_init_41 : decode cX6_init 41 = .ok (.dup, 1) := by decide +kernel
theorem dX6_init_42 : decode cX6_init 42 = .ok (.aload_n 0, 1) := by decide +kernel
theorem dX6_init_43 : decode cX6_init 43 = .ok (.getfield 26, 3) := by decide +kernel
theorem dX6_init_46 : decode cX6_init 46 = .ok (.invokespecial 32, 3) := by decide +kernel
theorem dX6_init_49 : decode cX6_init 49 = .ok (.putfield 35, 3) := by decide +kernel
theorem dX6_init_52 : decode cX6_init 52 = .ok (.aload_n 0, 1) := by decide +kernel
theorem dX6_init_53 : decode cX6_init 53 = .ok (.new 39, 3) := by decide +kernel
theorem dX6_init_56 : decode cX6_init 56 = .ok (.dup, 1) := by decide +kernel
theorem dX6_init_57 : decode cX6_init 57 = .ok (.aload_n 0, 1) := by decide +kernel
theorem dX6_init_58 : decode cX6_init 58 = .ok (.getfield 26, 3) := by decide +kernel
theorem dX6_init_61 : decode cX6_init 61 = .ok (.invokespecial 41, 3) := by decide +kernel
theorem dX6_init_64 : decode cX6_init 64 = .ok (.putfield 42, 3) := by decide +kernel
theorem dX6_init_67 : decode cX6_init 67 = .ok (.return_, 1) := by decide +kernel
set_option maxRecDepth 20000 in
theorem ggX6_letter_X2_write : GoodIn wsX6_letter wsX2_write := goodIn_r _ [6, 7, 8, 14, 15] (by decide +kernel) (by decide +kernel)
set_option maxRecDepth 20000 in
theorem gX6_letter_X2_write : GoodIn wsX6_letter (wsV RX6 50 RX2 yX2_write wsX2_write) := goodIn_app (goodIn_of _ (by decide +kernel)) ggX6_letter_X2_write
theorem dX6_letter_0 : decode cX6_letter 0 = .ok (.iload_n 1, 1) := by decide +kernel
theorem dX6_letter_1 : decode cX6_letter 1 = .ok (.bipush 32, 2) := by decide +kernel
theorem dX6_letter_3 : decode cX6_letter 3 = .ok (.if_icmp .lt 9, 3) := by decide +kernel
theorem dX6_letter_6 : decode cX6_letter 6 = .ok (.iload_n 1, 1) := by decide +kernel
theorem dX6_letter_7 : decode cX6_letter 7 = .ok (.bipush 126, 2) := by decide +kernel
theorem dX6_letter_9 : decode cX6_letter 9 = .ok (.if_icmp .le 7, 3) := by decide +kernel
theorem dX6_letter_12 : decode cX6_letter 12 = .ok (.sipush (-1002), 3) := by decide +kernel
theorem dX6_letter_15 : decode cX6_letter 15 = .ok (.ireturn, 1) := by decide +kernel
theorem dX6_letter_16 : decode cX6_letter 16 = .ok (.aload_n 0, 1) := by decide +kernel
theorem dX6_letter_17 : decode cX6_letter 17 = .ok (.getfield 12, 3) := by decide +kernel
theorem dX6_letter_20 : decode cX6_letter 20 = .ok (.getfield 46, 3) := by decide +kernel
theorem dX6_letter_23 : decode cX6_letter 23 = .ok (.bipush 24, 2) := by decide +kernel
theorem dX6_letter_25 : decode cX6_letter 25 = .ok (.if_icmp .ge 14, 3) := by decide +kernel
theorem dX6_letter_28 : decode cX6_letter 28 = .ok (.aload_n 0, 1) := by decide +kernel
theorem dX6_letter_29 : decode cX6_letter 29 = .ok (.getfield 12, 3) := by decide +kernel
theorem dX6_letter_32 : decode cX6_letter 32 = .ok (.iload_n 1, 1) := by decide +kernel
theorem dX6_letter_33 : decode cX6_letter 33 = .ok (.invokevirtual 50, 3) := by decide +kernel
theorem dX6_letter_36 : decode cX6_letter 36 = .ok (.goto 6, 3) := by decide +kernel
theorem dX6_letter_39 : decode cX6_letter 39 = .ok (.sipush (-1004), 3) := by decide +kernel
theorem dX6_letter_42 : decode cX6_letter 42 = .ok (.ireturn, 1) := by decide +kernel
set_option maxRecDepth 20000 in
theorem ggX6_blank_X2_wipe : GoodIn wsX6_blank wsX2_wipe := goodIn_r _ [6, 7, 13, 14] (by decide +kernel) (by decide +kernel)
set_option maxRecDepth 20000 in
theorem gX6_blank_X2_wipe : GoodIn wsX6_blank (wsV RX6 54 RX2 yX2_wipe wsX2_wipe) := goodIn_app (goodIn_of _ (by decide +kernel)) ggX6_blank_X2_wipe
theorem dX6_blank_0 : decode cX6_blank 0 = .ok (.aload_n 0, 1) := by decide +kernel
theorem dX6_blank_1 : decode cX6_blank 1 = .ok (.getfield 12, 3) := by decide +kernel
theorem dX6_blank_4 : decode cX6_blank 4 = .ok (.invokevirtual 54, 3) := by decide +kernel
theorem dX6_blank_7 : decode cX6_blank 7 = .ok (.ireturn, 1) := by decide +kernel
set_option maxRecDepth 20000 in
theorem ggX6_fault_X2_firstFault : GoodIn wsX6_fault wsX2_firstFault := goodIn_r _ [6, 7, 8, 9, 10, 5, 11, 12, 13, 14, 15, 16, 17, 23, 24] (by decide +kernel) (by decide +kernel)
set_option maxRecDepth 20000 in
theorem gX6_fault_X2_firstFault : GoodIn wsX6_fault (wsV RX6 58 RX2 yX2_firstFault wsX2_firstFault) := goodIn_app (goodIn_of _ (by decide +kernel)) ggX6_fault_X2_firstFault
theorem dX6_fault_0 : decode cX6_fault 0 = .ok (.aload_n 0, 1) := by decide +kernel
theorem dX6_fault_1 : decode cX6_fault 1 = .ok (.getfield 12, 3) := by decide +kernel
theorem dX6_fault_4 : decode cX6_fault 4 = .ok (.invokevirtual 58, 3) := by decide +kernel
theorem dX6_fault_7 : decode cX6_fault 7 = .ok (.ireturn, 1) := by decide +kernel
set_option maxRecDepth 20000 in
theorem ggX6_terms_X2_firstFault : GoodIn wsX6_terms wsX2_firstFault := goodIn_r _ [7, 8, 9, 10, 11, 6, 12, 13, 14, 15, 16, 17, 18, 47, 48] (by decide +kernel) (by decide +kernel)
set_option maxRecDepth 20000 in
theorem gX6_terms_X2_firstFault : GoodIn wsX6_terms (wsV RX6 58 RX2 yX2_firstFault wsX2_firstFault) := goodIn_app (goodIn_of _ (by decide +kernel)) ggX6_terms_X2_firstFault
set_option maxRecDepth 20000 in
theorem ggX6_terms_X2_meaning : GoodIn wsX6_terms wsX2_meaning := goodIn_r _ [22, 8, 9, 10, 11, 6, 12, 13, 14, 15, 23, 24, 25, 26, 47, 48] (by decide +kernel) (by decide +kernel)
set_option maxRecDepth 20000 in
theorem gX6_terms_X2_meaning : GoodIn wsX6_terms (wsV RX6 61 RX2 yX2_meaning wsX2_meaning) := goodIn_app (goodIn_of _ (by decide +kernel)) ggX6_terms_X2_meaning
set_option maxRecDepth 20000 in
theorem ggX6_terms_X0_numberFor : GoodIn wsX6_terms wsX0_numberFor := goodIn_r _ [31, 32, 33, 34, 35, 36, 30, 37, 49, 50] (by decide +kernel) (by decide +kernel)
set_option maxRecDepth 20000 in
theorem gX6_terms_X0_numberFor : GoodIn wsX6_terms (wsV RX6 65 RX0 yX0_numberFor wsX0_numberFor) := goodIn_app (goodIn_of _ (by decide +kernel)) ggX6_terms_X0_numberFor
set_option maxRecDepth 20000 in
theorem ggX6_terms_X2_wipe : GoodIn wsX6_terms wsX2_wipe := goodIn_r _ [41, 8, 47, 48] (by decide +kernel) (by decide +kernel)
set_option maxRecDepth 20000 in
theorem gX6_terms_X2_wipe : GoodIn wsX6_terms (wsV RX6 54 RX2 yX2_wipe wsX2_wipe) := goodIn_app (goodIn_of _ (by decide +kernel)) ggX6_terms_X2_wipe
theorem dX6_terms_0 : decode cX6_terms 0 = .ok (.aload_n 0, 1) := by decide +kernel
theorem dX6_terms_1 : decode cX6_terms 1 = .ok (.getfield 12, 3) := by decide +kernel
theorem dX6_terms_4 : decode cX6_terms 4 = .ok (.getfield 46, 3) := by decide +kernel
theorem dX6_terms_7 : decode cX6_terms 7 = .ok (.ifCond .eq 20, 3) := by decide +kernel
theorem dX6_terms_10 : decode cX6_terms 10 = .ok (.aload_n 0, 1) := by decide +kernel
theorem dX6_terms_11 : decode cX6_terms 11 = .ok (.getfield 12, 3) := by decide +kernel
theorem dX6_terms_14 : decode cX6_terms 14 = .ok (.invokevirtual 58, 3) := by decide +kernel
theorem dX6_terms_17 : decode cX6_terms 17 = .ok (.aload_n 0, 1) := by decide +kernel
theorem dX6_terms_18 : decode cX6_terms 18 = .ok (.getfield 12, 3) := by decide +kernel
theorem dX6_terms_21 : decode cX6_terms 21 = .ok (.getfield 46, 3) := by decide +kernel
theorem dX6_terms_24 : decode cX6_terms 24 = .ok (.if_icmp .ge 7, 3) := by decide +kernel
theorem dX6_terms_27 : decode cX6_terms 27 = .ok (.sipush (-1003), 3) := by decide +kernel
theorem dX6_terms_30 : decode cX6_terms 30 = .ok (.ireturn, 1) := by decide +kernel
theorem dX6_terms_31 : decode cX6_terms 31 = .ok (.aload_n 0, 1) := by decide +kernel
theorem dX6_terms_32 : decode cX6_terms 32 = .ok (.getfield 19, 3) := by decide +kernel
theorem dX6_terms_35 : decode cX6_terms 35 = .ok (.aload_n 0, 1) := by decide +kernel
theorem dX6_terms_36 : decode cX6_terms 36 = .ok (.getfield 12, 3) := by decide +kernel
theorem dX6_terms_39 : decode cX6_terms 39 = .ok (.invokevirtual 61, 3) := by decide +kernel
theorem dX6_terms_42 : decode cX6_terms 42 = .ok (.invokevirtual 65, 3) := by decide +kernel
theorem dX6_terms_45 : decode cX6_terms 45 = .ok (.istore_n 1, 1) := by decide +kernel
theorem dX6_terms_46 : decode cX6_terms 46 = .ok (.iload_n 1, 1) := by decide +kernel
theorem dX6_terms_47 : decode cX6_terms 47 = .ok (.iconst (-1), 1) := by decide +kernel
theorem dX6_terms_48 : decode cX6_terms 48 = .ok (.if_icmp .ne 7, 3) := by decide +kernel
theorem dX6_terms_51 : decode cX6_terms 51 = .ok (.sipush (-1004), 3) := by decide +kernel
theorem dX6_terms_54 : decode cX6_terms 54 = .ok (.ireturn, 1) := by decide +kernel
theorem dX6_terms_55 : decode cX6_terms 55 = .ok (.aload_n 0, 1) := by decide +kernel
theorem dX6_terms_56 : decode cX6_terms 56 = .ok (.getfield 12, 3) := by decide +kernel
theorem dX6_terms_59 : decode cX6_terms 59 = .ok (.invokevirtual 54, 3) := by decide +kernel
theorem dX6_terms_62 : decode cX6_terms 62 = .ok (.pop, 1) := by decide +kernel
theorem dX6_terms_63 : decode cX6_terms 63 = .ok (.iload_n 1, 1) := by decide +kernel
theorem dX6_terms_64 : decode cX6_terms 64 = .ok (.ireturn, 1) := by decide +kernel
set_option maxRecDepth 20000 in
theorem ggX6_reach_X0_has : GoodIn wsX6_reach wsX0_has := goodIn_r _ [6, 7, 23, 24] (by decide +kernel) (by decide +kernel)
set_option maxRecDepth 20000 in
theorem gX6_reach_X0_has : GoodIn wsX6_reach (wsV RX6 69 RX0 yX0_has wsX0_has) := goodIn_app (goodIn_of _ (by decide +kernel)) ggX6_reach_X0_has
set_option maxRecDepth 20000 in
theorem ggX6_reach_X6_isItem : GoodIn wsX6_reach wsX6_isItem := goodIn_r _ [11] (by decide +kernel) (by decide +kernel)
set_option maxRecDepth 20000 in
theorem gX6_reach_X6_isItem : GoodIn wsX6_reach (va_wsS RX6 73 yX6_isItem wsX6_isItem) := goodIn_app (goodIn_of _ (by decide +kernel)) ggX6_reach_X6_isItem
set_option maxRecDepth 20000 in
theorem ggX6_reach_X4_greatest : GoodIn wsX6_reach wsX4_greatest := goodIn_r _ [15, 16, 10, 17] (by decide +kernel) (by decide +kernel)
set_option maxRecDepth 20000 in
theorem gX6_reach_X4_greatest : GoodIn wsX6_reach (va_wsS RX6 80 yX4_greatest wsX4_greatest) := goodIn_app (goodIn_of _ (by decide +kernel)) ggX6_reach_X4_greatest
theorem dX6_reach_0 : decode cX6_reach 0 = .ok (.aload_n 0, 1) := by decide +kernel
theorem dX6_reach_1 : decode cX6_reach 1 = .ok (.getfield 19, 3) := by decide +kernel
theorem dX6_reach_4 : decode cX6_reach 4 = .ok (.iload_n 1, 1) := by decide +kernel
theorem dX6_reach_5 : decode cX6_reach 5 = .ok (.invokevirtual 69, 3) := by decide +kernel
theorem dX6_reach_8 : decode cX6_reach 8 = .ok (.ifCond .ne 7, 3) := by decide +kernel
theorem dX6_reach_11 : decode cX6_reach 11 = .ok (.sipush (-1001), 3) := by decide +kernel
theorem dX6_reach_14 : decode cX6_reach 14 = .ok (.ireturn, 1) := by decide +kernel
theorem dX6_reach_15 : decode cX6_reach 15 = .ok (.iload_n 2, 1) := by decide +kernel
theorem dX6_reach_16 : decode cX6_reach 16 = .ok (.invokestatic 73, 3) := by decide +kernel
theorem dX6_reach_19 : decode cX6_reach 19 = .ok (.ifCond .eq 19, 3) := by decide +kernel
theorem dX6_reach_22 : decode cX6_reach 22 = .ok (.aload_n 0, 1) := by decide +kernel
theorem dX6_reach_23 : decode cX6_reach 23 = .ok (.getfield 19, 3) := by decide +kernel
theorem dX6_reach_26 : decode cX6_reach 26 = .ok (.getfield 76, 3) := by decide +kernel
theorem dX6_reach_29 : decode cX6_reach 29 = .ok (.iload_n 1, 1) := by decide +kernel
theorem dX6_reach_30 : decode cX6_reach 30 = .ok (.laload, 1) := by decide +kernel
theorem dX6_reach_31 : decode cX6_reach 31 = .ok (.iload_n 2, 1) := by decide +kernel
theorem dX6_reach_32 : decode cX6_reach 32 = .ok (.invokestatic 80, 3) := by decide +kernel
theorem dX6_reach_35 : decode cX6_reach 35 = .ok (.goto 6, 3) := by decide +kernel
theorem dX6_reach_38 : decode cX6_reach 38 = .ok (.sipush (-1002), 3) := by decide +kernel
theorem dX6_reach_41 : decode cX6_reach 41 = .ok (.ireturn, 1) := by decide +kernel
set_option maxRecDepth 20000 in
theorem ggX6_two_X0_has : GoodIn wsX6_two wsX0_has := goodIn_r _ [6, 7, 23, 24] (by decide +kernel) (by decide +kernel)
set_option maxRecDepth 20000 in
theorem gX6_two_X0_has : GoodIn wsX6_two (wsV RX6 69 RX0 yX0_has wsX0_has) := goodIn_app (goodIn_of _ (by decide +kernel)) ggX6_two_X0_has
set_option maxRecDepth 20000 in
theorem ggX6_two_X4_looser : GoodIn wsX6_two wsX4_looser := goodIn_r _ [11, 12] (by decide +kernel) (by decide +kernel)
set_option maxRecDepth 20000 in
theorem gX6_two_X4_looser : GoodIn wsX6_two (va_wsS RX6 86 yX4_looser wsX4_looser) := goodIn_app (goodIn_of _ (by decide +kernel)) ggX6_two_X4_looser
set_option maxRecDepth 20000 in
theorem ggX6_two_X0_find : GoodIn wsX6_two wsX0_find := goodIn_r _ [16, 7, 17, 23, 24] (by decide +kernel) (by decide +kernel)
set_option maxRecDepth 20000 in
theorem gX6_two_X0_find : GoodIn wsX6_two (wsV RX6 90 RX0 yX0_find wsX0_find) := goodIn_app (goodIn_of _ (by decide +kernel)) ggX6_two_X0_find
theorem dX6_two_0 : decode cX6_two 0 = .ok (.aload_n 0, 1) := by decide +kernel
theorem dX6_two_1 : decode cX6_two 1 = .ok (.getfield 19, 3) := by decide +kernel
theorem dX6_two_4 : decode cX6_two 4 = .ok (.iload_n 1, 1) := by decide +kernel
theorem dX6_two_5 : decode cX6_two 5 = .ok (.invokevirtual 69, 3) := by decide +kernel
theorem dX6_two_8 : decode cX6_two 8 = .ok (.ifCond .eq 14, 3) := by decide +kernel
theorem dX6_two_11 : decode cX6_two 11 = .ok (.aload_n 0, 1) := by decide +kernel
theorem dX6_two_12 : decode cX6_two 12 = .ok (.getfield 19, 3) := by decide +kernel
theorem dX6_two_15 : decode cX6_two 15 = .ok (.iload_n 2, 1) := by decide +kernel
theorem dX6_two_16 : decode cX6_two 16 = .ok (.invokevirtual 69, 3) := by decide +kernel
theorem dX6_two_19 : decode cX6_two 19 = .ok (.ifCond .ne 7, 3) := by decide +kernel
theorem dX6_two_22 : decode cX6_two 22 = .ok (.sipush (-1001), 3) := by decide +kernel
theorem dX6_two_25 : decode cX6_two 25 = .ok (.ireturn, 1) := by decide +kernel
theorem dX6_two_26 : decode cX6_two 26 = .ok (.aload_n 0, 1) := by decide +kernel
theorem dX6_two_27 : decode cX6_two 27 = .ok (.getfield 19, 3) := by decide +kernel
theorem dX6_two_30 : decode cX6_two 30 = .ok (.getfield 76, 3) := by decide +kernel
theorem dX6_two_33 : decode cX6_two 33 = .ok (.iload_n 1, 1) := by decide +kernel
theorem dX6_two_34 : decode cX6_two 34 = .ok (.laload, 1) := by decide +kernel
theorem dX6_two_35 : decode cX6_two 35 = .ok (.lstore 4, 2) := by decide +kernel
theorem dX6_two_37 : decode cX6_two 37 = .ok (.aload_n 0, 1) := by decide +kernel
theorem dX6_two_38 : decode cX6_two 38 = .ok (.getfield 19, 3) := by decide +kernel
theorem dX6_two_41 : decode cX6_two 41 = .ok (.getfield 76, 3) := by decide +kernel
theorem dX6_two_44 : decode cX6_two 44 = .ok (.iload_n 2, 1) := by decide +kernel
theorem dX6_two_45 : decode cX6_two 45 = .ok (.laload, 1) := by decide +kernel
theorem dX6_two_46 : decode cX6_two 46 = .ok (.lstore 6, 2) := by decide +kernel
theorem dX6_two_48 : decode cX6_two 48 = .ok (.iload_n 3, 1) := by decide +kernel
theorem dX6_two_49 : decode cX6_two 49 = .ok (.tableswitch 61 0 2 #[27, 35, 48], 27) := by decide +kernel
theorem dX6_two_76 : decode cX6_two 76 = .ok (.lload 4, 2) := by decide +kernel
theorem dX6_two_78 : decode cX6_two 78 = .ok (.lload 6, 2) := by decide +kernel
theorem dX6_two_80 : decode cX6_two 80 = .ok (.invokestatic 86, 3) := by decide +kernel
theorem dX6_two_83 : decode cX6_two 83 = .ok (.ireturn, 1) := by decide +kernel
theorem dX6_two_84 : decode cX6_two 84 = .ok (.aload_n 0, 1) := by decide +kernel
theorem dX6_two_85 : decode cX6_two 85 = .ok (.getfield 19, 3) := by decide +kernel
theorem dX6_two_88 : decode cX6_two 88 = .ok (.lload 4, 2) := by decide +kernel
theorem dX6_two_90 : decode cX6_two 90 = .ok (.lload 6, 2) := by decide +kernel
theorem dX6_two_92 : decode cX6_two 92 = .ok (.lor, 1) := by decide +kernel
theorem dX6_two_93 : decode cX6_two 93 = .ok (.invokevirtual 90, 3) := by decide +kernel
theorem dX6_two_96 : decode cX6_two 96 = .ok (.ireturn, 1) := by decide +kernel
theorem dX6_two_97 : decode cX6_two 97 = .ok (.aload_n 0, 1) := by decide +kernel
theorem dX6_two_98 : decode cX6_two 98 = .ok (.getfield 19, 3) := by decide +kernel
theorem dX6_two_101 : decode cX6_two 101 = .ok (.lload 4, 2) := by decide +kernel
theorem dX6_two_103 : decode cX6_two 103 = .ok (.lload 6, 2) := by decide +kernel
theorem dX6_two_105 : decode cX6_two 105 = .ok (.land, 1) := by decide +kernel
theorem dX6_two_106 : decode cX6_two 106 = .ok (.invokevirtual 90, 3) := by decide +kernel
theorem dX6_two_109 : decode cX6_two 109 = .ok (.ireturn, 1) := by decide +kernel
theorem dX6_two_110 : decode cX6_two 110 = .ok (.sipush (-1002), 3) := by decide +kernel
theorem dX6_two_113 : decode cX6_two 113 = .ok (.ireturn, 1) := by decide +kernel
set_option maxRecDepth 20000 in
theorem ggX6_part_X0_has : GoodIn wsX6_part wsX0_has := goodIn_r _ [7, 8, 48, 49] (by decide +kernel) (by decide +kernel)
set_option maxRecDepth 20000 in
theorem gX6_part_X0_has : GoodIn wsX6_part (wsV RX6 69 RX0 yX0_has wsX0_has) := goodIn_app (goodIn_of _ (by decide +kernel)) ggX6_part_X0_has
set_option maxRecDepth 20000 in
theorem ggX6_part_X3_leastFree : GoodIn wsX6_part wsX3_leastFree := goodIn_r _ [13, 14, 15, 16, 12, 17, 18, 19, 20, 21, 50, 51, 52, 53, 54, 55, 56, 57] (by decide +kernel) (by decide +kernel)
set_option maxRecDepth 20000 in
theorem gX6_part_X3_leastFree : GoodIn wsX6_part (wsV RX6 93 RX3 yX3_leastFree wsX3_leastFree) := goodIn_app (goodIn_of _ (by decide +kernel)) ggX6_part_X3_leastFree
set_option maxRecDepth 20000 in
theorem ggX6_part_X3_put : GoodIn wsX6_part wsX3_put := goodIn_r _ [25, 18, 26, 27, 28, 29, 30, 12, 31, 32, 33, 34, 35, 36, 37, 19, 20, 21, 38, 39, 40, 41, 42, 50, 51, 52, 53, 54, 55, 56, 57] (by decide +kernel) (by decide +kernel)
set_option maxRecDepth 20000 in
theorem gX6_part_X3_put : GoodIn wsX6_part (wsV RX6 96 RX3 yX3_put wsX3_put) := goodIn_app (goodIn_of _ (by decide +kernel)) ggX6_part_X3_put
theorem dX6_part_0 : decode cX6_part 0 = .ok (.aload_n 0, 1) := by decide +kernel
theorem dX6_part_1 : decode cX6_part 1 = .ok (.getfield 19, 3) := by decide +kernel
theorem dX6_part_4 : decode cX6_part 4 = .ok (.iload_n 1, 1) := by decide +kernel
theorem dX6_part_5 : decode cX6_part 5 = .ok (.invokevirtual 69, 3) := by decide +kernel
theorem dX6_part_8 : decode cX6_part 8 = .ok (.ifCond .ne 7, 3) := by decide +kernel
theorem dX6_part_11 : decode cX6_part 11 = .ok (.sipush (-1001), 3) := by decide +kernel
theorem dX6_part_14 : decode cX6_part 14 = .ok (.ireturn, 1) := by decide +kernel
theorem dX6_part_15 : decode cX6_part 15 = .ok (.aload_n 0, 1) := by decide +kernel
theorem dX6_part_16 : decode cX6_part 16 = .ok (.getfield 26, 3) := by decide +kernel
theorem dX6_part_19 : decode cX6_part 19 = .ok (.invokevirtual 93, 3) := by decide +kernel
theorem dX6_part_22 : decode cX6_part 22 = .ok (.istore_n 2, 1) := by decide +kernel
theorem dX6_part_23 : decode cX6_part 23 = .ok (.iload_n 2, 1) := by decide +kernel
theorem dX6_part_24 : decode cX6_part 24 = .ok (.iconst (-1), 1) := by decide +kernel
theorem dX6_part_25 : decode cX6_part 25 = .ok (.if_icmp .ne 7, 3) := by decide +kernel
theorem dX6_part_28 : decode cX6_part 28 = .ok (.sipush (-1004), 3) := by decide +kernel
theorem dX6_part_31 : decode cX6_part 31 = .ok (.ireturn, 1) := by decide +kernel
theorem dX6_part_32 : decode cX6_part 32 = .ok (.aload_n 0, 1) := by decide +kernel
theorem dX6_part_33 : decode cX6_part 33 = .ok (.getfield 26, 3) := by decide +kernel
theorem dX6_part_36 : decode cX6_part 36 = .ok (.iload_n 2, 1) := by decide +kernel
theorem dX6_part_37 : decode cX6_part 37 = .ok (.iload_n 1, 1) := by decide +kernel
theorem dX6_part_38 : decode cX6_part 38 = .ok (.aload_n 0, 1) := by decide +kernel
theorem dX6_part_39 : decode cX6_part 39 = .ok (.getfield 19, 3) := by decide +kernel
theorem dX6_part_42 : decode cX6_part 42 = .ok (.getfield 76, 3) := by decide +kernel
theorem dX6_part_45 : decode cX6_part 45 = .ok (.iload_n 1, 1) := by decide +kernel
theorem dX6_part_46 : decode cX6_part 46 = .ok (.laload, 1) := by decide +kernel
theorem dX6_part_47 : decode cX6_part 47 = .ok (.invokevirtual 96, 3) := by decide +kernel
theorem dX6_part_50 : decode cX6_part 50 = .ok (.iload_n 2, 1) := by decide +kernel
theorem dX6_part_51 : decode cX6_part 51 = .ok (.ireturn, 1) := by decide +kernel
set_option maxRecDepth 20000 in
theorem ggX6_give_X3_has : GoodIn wsX6_give wsX3_has := goodIn_r _ [7, 8, 9, 10, 11, 44, 45, 46, 47, 48, 49, 50, 51] (by decide +kernel) (by decide +kernel)
set_option maxRecDepth 20000 in
theorem gX6_give_X3_has : GoodIn wsX6_give (wsV RX6 100 RX3 yX3_has wsX3_has) := goodIn_app (goodIn_of _ (by decide +kernel)) ggX6_give_X3_has
set_option maxRecDepth 20000 in
theorem ggX6_give_X0_has : GoodIn wsX6_give wsX0_has := goodIn_r _ [16, 17, 52, 53] (by decide +kernel) (by decide +kernel)
set_option maxRecDepth 20000 in
theorem gX6_give_X0_has : GoodIn wsX6_give (wsV RX6 69 RX0 yX0_has wsX0_has) := goodIn_app (goodIn_of _ (by decide +kernel)) ggX6_give_X0_has
set_option maxRecDepth 20000 in
theorem ggX6_give_X3_put : GoodIn wsX6_give wsX3_put := goodIn_r _ [21, 8, 22, 23, 24, 25, 26, 6, 27, 28, 29, 30, 31, 32, 33, 9, 10, 11, 34, 35, 36, 37, 38, 44, 45, 46, 47, 48, 49, 50, 51] (by decide +kernel) (by decide +kernel)
set_option maxRecDepth 20000 in
theorem gX6_give_X3_put : GoodIn wsX6_give (wsV RX6 96 RX3 yX3_put wsX3_put) := goodIn_app (goodIn_of _ (by decide +kernel)) ggX6_give_X3_put
theorem dX6_give_0 : decode cX6_give 0 = .ok (.aload_n 0, 1) := by decide +kernel
theorem dX6_give_1 : decode cX6_give 1 = .ok (.getfield 26, 3) := by decide +kernel
theorem dX6_give_4 : decode cX6_give 4 = .ok (.iload_n 1, 1) := by decide +kernel
theorem dX6_give_5 : decode cX6_give 5 = .ok (.invokevirtual 100, 3) := by decide +kernel
theorem dX6_give_8 : decode cX6_give 8 = .ok (.ifCond .eq 14, 3) := by decide +kernel
theorem dX6_give_11 : decode cX6_give 11 = .ok (.aload_n 0, 1) := by decide +kernel
theorem dX6_give_12 : decode cX6_give 12 = .ok (.getfield 19, 3) := by decide +kernel
theorem dX6_give_15 : decode cX6_give 15 = .ok (.iload_n 2, 1) := by decide +kernel
theorem dX6_give_16 : decode cX6_give 16 = .ok (.invokevirtual 69, 3) := by decide +kernel
theorem dX6_give_19 : decode cX6_give 19 = .ok (.ifCond .ne 7, 3) := by decide +kernel
theorem dX6_give_22 : decode cX6_give 22 = .ok (.sipush (-1001), 3) := by decide +kernel
theorem dX6_give_25 : decode cX6_give 25 = .ok (.ireturn, 1) := by decide +kernel
theorem dX6_give_26 : decode cX6_give 26 = .ok (.aload_n 0, 1) := by decide +kernel
theorem dX6_give_27 : decode cX6_give 27 = .ok (.getfield 26, 3) := by decide +kernel
theorem dX6_give_30 : decode cX6_give 30 = .ok (.getfield 101, 3) := by decide +kernel
theorem dX6_give_33 : decode cX6_give 33 = .ok (.iload_n 1, 1) := by decide +kernel
theorem dX6_give_34 : decode cX6_give 34 = .ok (.iaload, 1) := by decide +kernel
theorem dX6_give_35 : decode cX6_give 35 = .ok (.istore_n 3, 1) := by decide +kernel
theorem dX6_give_36 : decode cX6_give 36 = .ok (.aload_n 0, 1) := by decide +kernel
theorem dX6_give_37 : decode cX6_give 37 = .ok (.getfield 26, 3) := by decide +kernel
theorem dX6_give_40 : decode cX6_give 40 = .ok (.iload_n 1, 1) := by decide +kernel
theorem dX6_give_41 : decode cX6_give 41 = .ok (.iload_n 2, 1) := by decide +kernel
theorem dX6_give_42 : decode cX6_give 42 = .ok (.aload_n 0, 1) := by decide +kernel
theorem dX6_give_43 : decode cX6_give 43 = .ok (.getfield 19, 3) := by decide +kernel
theorem dX6_give_46 : decode cX6_give 46 = .ok (.getfield 76, 3) := by decide +kernel
theorem dX6_give_49 : decode cX6_give 49 = .ok (.iload_n 2, 1) := by decide +kernel
theorem dX6_give_50 : decode cX6_give 50 = .ok (.laload, 1) := by decide +kernel
theorem dX6_give_51 : decode cX6_give 51 = .ok (.invokevirtual 96, 3) := by decide +kernel
theorem dX6_give_54 : decode cX6_give 54 = .ok (.iload_n 3, 1) := by decide +kernel
theorem dX6_give_55 : decode cX6_give 55 = .ok (.ireturn, 1) := by decide +kernel
set_option maxRecDepth 20000 in
theorem ggX6_leave_X3_has : GoodIn wsX6_leave wsX3_has := goodIn_r _ [6, 7, 8, 9, 10, 60, 61, 62, 63, 64, 65, 66, 67] (by decide +kernel) (by decide +kernel)
set_option maxRecDepth 20000 in
theorem gX6_leave_X3_has : GoodIn wsX6_leave (wsV RX6 100 RX3 yX3_has wsX3_has) := goodIn_app (goodIn_of _ (by decide +kernel)) ggX6_leave_X3_has
set_option maxRecDepth 20000 in
theorem ggX6_leave_X3_remove : GoodIn wsX6_leave wsX3_remove := goodIn_r _ [14, 7, 15, 16, 17, 18, 5, 19, 20, 21, 22, 23, 24, 25, 26, 27, 28, 29, 30, 31, 32, 33, 34, 35, 36, 37, 38, 39, 40, 41, 42, 43, 44, 45, 46, 47, 48, 49, 50, 8, 9, 10, 51, 52, 53, 54, 60, 61, 62, 63, 64, 65, 66, 67] (by decide +kernel) (by decide +kernel)
set_option maxRecDepth 20000 in
theorem gX6_leave_X3_remove : GoodIn wsX6_leave (wsV RX6 105 RX3 yX3_remove wsX3_remove) := goodIn_app (goodIn_of _ (by decide +kernel)) ggX6_leave_X3_remove
theorem dX6_leave_0 : decode cX6_leave 0 = .ok (.aload_n 0, 1) := by decide +kernel
theorem dX6_leave_1 : decode cX6_leave 1 = .ok (.getfield 26, 3) := by decide +kernel
theorem dX6_leave_4 : decode cX6_leave 4 = .ok (.iload_n 1, 1) := by decide +kernel
theorem dX6_leave_5 : decode cX6_leave 5 = .ok (.invokevirtual 100, 3) := by decide +kernel
theorem dX6_leave_8 : decode cX6_leave 8 = .ok (.ifCond .eq 14, 3) := by decide +kernel
theorem dX6_leave_11 : decode cX6_leave 11 = .ok (.aload_n 0, 1) := by decide +kernel
theorem dX6_leave_12 : decode cX6_leave 12 = .ok (.getfield 26, 3) := by decide +kernel
theorem dX6_leave_15 : decode cX6_leave 15 = .ok (.iload_n 1, 1) := by decide +kernel
theorem dX6_leave_16 : decode cX6_leave 16 = .ok (.invokevirtual 105, 3) := by decide +kernel
theorem dX6_leave_19 : decode cX6_leave 19 = .ok (.goto 6, 3) := by decide +kernel
theorem dX6_leave_22 : decode cX6_leave 22 = .ok (.sipush (-1001), 3) := by decide +kernel
theorem dX6_leave_25 : decode cX6_leave 25 = .ok (.ireturn, 1) := by decide +kernel
set_option maxRecDepth 20000 in
theorem ggX6_join_X3_has : GoodIn wsX6_join wsX3_has := goodIn_r _ [6, 7, 8, 9, 10, 51, 52, 53, 54, 55, 56, 57, 58] (by decide +kernel) (by decide +kernel)
set_option maxRecDepth 20000 in
theorem gX6_join_X3_has : GoodIn wsX6_join (wsV RX6 100 RX3 yX3_has wsX3_has) := goodIn_app (goodIn_of _ (by decide +kernel)) ggX6_join_X3_has
set_option maxRecDepth 20000 in
theorem ggX6_join_X3_kindOf : GoodIn wsX6_join wsX3_kindOf := goodIn_r _ [14, 15, 51, 52, 53, 54, 55, 56, 57, 58] (by decide +kernel) (by decide +kernel)
set_option maxRecDepth 20000 in
theorem gX6_join_X3_kindOf : GoodIn wsX6_join (wsV RX6 108 RX3 yX3_kindOf wsX3_kindOf) := goodIn_app (goodIn_of _ (by decide +kernel)) ggX6_join_X3_kindOf
set_option maxRecDepth 20000 in
theorem ggX6_join_X3_setKind : GoodIn wsX6_join wsX3_setKind := goodIn_r _ [19, 20, 21, 22, 5, 23, 15, 24, 25, 26, 27, 28, 29, 30, 31, 32, 33, 34, 35, 7, 36, 37, 38, 39, 40, 41, 8, 9, 10, 42, 43, 44, 45, 51, 52, 53, 54, 55, 56, 57, 58] (by decide +kernel) (by decide +kernel)
set_option maxRecDepth 20000 in
theorem gX6_join_X3_setKind : GoodIn wsX6_join (wsV RX6 112 RX3 yX3_setKind wsX3_setKind) := goodIn_app (goodIn_of _ (by decide +kernel)) ggX6_join_X3_setKind
theorem dX6_join_0 : decode cX6_join 0 = .ok (.aload_n 0, 1) := by decide +kernel
theorem dX6_join_1 : decode cX6_join 1 = .ok (.getfield 26, 3) := by decide +kernel
theorem dX6_join_4 : decode cX6_join 4 = .ok (.iload_n 1, 1) := by decide +kernel
theorem dX6_join_5 : decode cX6_join 5 = .ok (.invokevirtual 100, 3) := by decide +kernel
theorem dX6_join_8 : decode cX6_join 8 = .ok (.ifCond .eq 19, 3) := by decide +kernel
theorem dX6_join_11 : decode cX6_join 11 = .ok (.aload_n 0, 1) := by decide +kernel
theorem dX6_join_12 : decode cX6_join 12 = .ok (.getfield 26, 3) := by decide +kernel
theorem dX6_join_15 : decode cX6_join 15 = .ok (.iload_n 2, 1) := by decide +kernel
theorem dX6_join_16 : decode cX6_join 16 = .ok (.invokevirtual 100, 3) := by decide +kernel
theorem dX6_join_19 : decode cX6_join 19 = .ok (.ifCond .eq 8, 3) := by decide +kernel
theorem dX6_join_22 : decode cX6_join 22 = .ok (.iload_n 1, 1) := by decide +kernel
theorem dX6_join_23 : decode cX6_join 23 = .ok (.iload_n 2, 1) := by decide +kernel
theorem dX6_join_24 : decode cX6_join 24 = .ok (.if_icmp .ne 7, 3) := by decide +kernel
theorem dX6_join_27 : decode cX6_join 27 = .ok (.sipush (-1001), 3) := by decide +kernel
theorem dX6_join_30 : decode cX6_join 30 = .ok (.ireturn, 1) := by decide +kernel
theorem dX6_join_31 : decode cX6_join 31 = .ok (.iload_n 3, 1) := by decide +kernel
theorem dX6_join_32 : decode cX6_join 32 = .ok (.iconst (-1), 1) := by decide +kernel
theorem dX6_join_33 : decode cX6_join 33 = .ok (.if_icmp .lt 8, 3) := by decide +kernel
theorem dX6_join_36 : decode cX6_join 36 = .ok (.iload_n 3, 1) := by decide +kernel
theorem dX6_join_37 : decode cX6_join 37 = .ok (.iconst 3, 1) := by decide +kernel
theorem dX6_join_38 : decode cX6_join 38 = .ok (.if_icmp .le 7, 3) := by decide +kernel
theorem dX6_join_41 : decode cX6_join 41 = .ok (.sipush (-1002), 3) := by decide +kernel
theorem dX6_join_44 : decode cX6_join 44 = .ok (.ireturn, 1) := by decide +kernel
theorem dX6_join_45 : decode cX6_join 45 = .ok (.aload_n 0, 1) := by decide +kernel
theorem dX6_join_46 : decode cX6_join 46 = .ok (.getfield 26, 3) := by decide +kernel
theorem dX6_join_49 : decode cX6_join 49 = .ok (.iload_n 1, 1) := by decide +kernel
theorem dX6_join_50 : decode cX6_join 50 = .ok (.iload_n 2, 1) := by decide +kernel
theorem dX6_join_51 : decode cX6_join 51 = .ok (.invokevirtual 108, 3) := by decide +kernel
theorem dX6_join_54 : decode cX6_join 54 = .ok (.istore 4, 2) := by decide +kernel
theorem dX6_join_56 : decode cX6_join 56 = .ok (.aload_n 0, 1) := by decide +kernel
theorem dX6_join_57 : decode cX6_join 57 = .ok (.getfield 26, 3) := by decide +kernel
theorem dX6_join_60 : decode cX6_join 60 = .ok (.iload_n 1, 1) := by decide +kernel
theorem dX6_join_61 : decode cX6_join 61 = .ok (.iload_n 2, 1) := by decide +kernel
theorem dX6_join_62 : decode cX6_join 62 = .ok (.iload_n 3, 1) := by decide +kernel
theorem dX6_join_63 : decode cX6_join 63 = .ok (.invokevirtual 112, 3) := by decide +kernel
theorem dX6_join_66 : decode cX6_join 66 = .ok (.iload 4, 2) := by decide +kernel
theorem dX6_join_68 : decode cX6_join 68 = .ok (.ireturn, 1) := by decide +kernel
set_option maxRecDepth 20000 in
theorem ggX6_kind_X3_has : GoodIn wsX6_kind wsX3_has := goodIn_r _ [6, 7, 8, 9, 10, 21, 22, 23, 24, 25, 26, 27, 28] (by decide +kernel) (by decide +kernel)
set_option maxRecDepth 20000 in
theorem gX6_kind_X3_has : GoodIn wsX6_kind (wsV RX6 100 RX3 yX3_has wsX3_has) := goodIn_app (goodIn_of _ (by decide +kernel)) ggX6_kind_X3_has
set_option maxRecDepth 20000 in
theorem ggX6_kind_X3_kindOf : GoodIn wsX6_kind wsX3_kindOf := goodIn_r _ [14, 15, 21, 22, 23, 24, 25, 26, 27, 28] (by decide +kernel) (by decide +kernel)
set_option maxRecDepth 20000 in
theorem gX6_kind_X3_kindOf : GoodIn wsX6_kind (wsV RX6 108 RX3 yX3_kindOf wsX3_kindOf) := goodIn_app (goodIn_of _ (by decide +kernel)) ggX6_kind_X3_kindOf
theorem dX6_kind_0 : decode cX6_kind 0 = .ok (.aload_n 0, 1) := by decide +kernel
theorem dX6_kind_1 : decode cX6_kind 1 = .ok (.getfield 26, 3) := by decide +kernel
theorem dX6_kind_4 : decode cX6_kind 4 = .ok (.iload_n 1, 1) := by decide +kernel
theorem dX6_kind_5 : decode cX6_kind 5 = .ok (.invokevirtual 100, 3) := by decide +kernel
theorem dX6_kind_8 : decode cX6_kind 8 = .ok (.ifCond .eq 26, 3) := by decide +kernel
theorem dX6_kind_11 : decode cX6_kind 11 = .ok (.aload_n 0, 1) := by decide +kernel
theorem dX6_kind_12 : decode cX6_kind 12 = .ok (.getfield 26, 3) := by decide +kernel
theorem dX6_kind_15 : decode cX6_kind 15 = .ok (.iload_n 2, 1) := by decide +kernel
theorem dX6_kind_16 : decode cX6_kind 16 = .ok (.invokevirtual 100, 3) := by decide +kernel
theorem dX6_kind_19 : decode cX6_kind 19 = .ok (.ifCond .eq 15, 3) := by decide +kernel
theorem dX6_kind_22 : decode cX6_kind 22 = .ok (.aload_n 0, 1) := by decide +kernel
theorem dX6_kind_23 : decode cX6_kind 23 = .ok (.getfield 26, 3) := by decide +kernel
theorem dX6_kind_26 : decode cX6_kind 26 = .ok (.iload_n 1, 1) := by decide +kernel
theorem dX6_kind_27 : decode cX6_kind 27 = .ok (.iload_n 2, 1) := by decide +kernel
