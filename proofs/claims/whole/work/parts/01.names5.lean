theorem dX7_way_0 : decode cX7_way 0 = .ok (.aload_n 0, 1) := by decide +kernel
theorem dX7_way_1 : decode cX7_way 1 = .ok (.iload_n 1, 1) := by decide +kernel
theorem dX7_way_2 : decode cX7_way 2 = .ok (.invokevirtual 71, 3) := by decide +kernel
theorem dX7_way_5 : decode cX7_way 5 = .ok (.ifCond .ne 7, 3) := by decide +kernel
theorem dX7_way_8 : decode cX7_way 8 = .ok (.sipush (-1001), 3) := by decide +kernel
theorem dX7_way_11 : decode cX7_way 11 = .ok (.ireturn, 1) := by decide +kernel
theorem dX7_way_12 : decode cX7_way 12 = .ok (.iload_n 2, 1) := by decide +kernel
theorem dX7_way_13 : decode cX7_way 13 = .ok (.iconst 0, 1) := by decide +kernel
theorem dX7_way_14 : decode cX7_way 14 = .ok (.bipush 11, 2) := by decide +kernel
theorem dX7_way_16 : decode cX7_way 16 = .ok (.invokestatic 31, 3) := by decide +kernel
theorem dX7_way_19 : decode cX7_way 19 = .ok (.ifCond .ne 7, 3) := by decide +kernel
theorem dX7_way_22 : decode cX7_way 22 = .ok (.sipush (-1002), 3) := by decide +kernel
theorem dX7_way_25 : decode cX7_way 25 = .ok (.ireturn, 1) := by decide +kernel
theorem dX7_way_26 : decode cX7_way 26 = .ok (.aload_n 0, 1) := by decide +kernel
theorem dX7_way_27 : decode cX7_way 27 = .ok (.iload_n 1, 1) := by decide +kernel
theorem dX7_way_28 : decode cX7_way 28 = .ok (.iload_n 2, 1) := by decide +kernel
theorem dX7_way_29 : decode cX7_way 29 = .ok (.invokevirtual 107, 3) := by decide +kernel
theorem dX7_way_32 : decode cX7_way 32 = .ok (.iload_n 3, 1) := by decide +kernel
theorem dX7_way_33 : decode cX7_way 33 = .ok (.iconst 0, 1) := by decide +kernel
theorem dX7_way_34 : decode cX7_way 34 = .ok (.aload_n 0, 1) := by decide +kernel
theorem dX7_way_35 : decode cX7_way 35 = .ok (.getfield 100, 3) := by decide +kernel
theorem dX7_way_38 : decode cX7_way 38 = .ok (.iconst 1, 1) := by decide +kernel
theorem dX7_way_39 : decode cX7_way 39 = .ok (.isub, 1) := by decide +kernel
theorem dX7_way_40 : decode cX7_way 40 = .ok (.invokestatic 31, 3) := by decide +kernel
theorem dX7_way_43 : decode cX7_way 43 = .ok (.ifCond .eq 12, 3) := by decide +kernel
theorem dX7_way_46 : decode cX7_way 46 = .ok (.aload_n 0, 1) := by decide +kernel
theorem dX7_way_47 : decode cX7_way 47 = .ok (.getfield 22, 3) := by decide +kernel
theorem dX7_way_50 : decode cX7_way 50 = .ok (.iload_n 3, 1) := by decide +kernel
theorem dX7_way_51 : decode cX7_way 51 = .ok (.iaload, 1) := by decide +kernel
theorem dX7_way_52 : decode cX7_way 52 = .ok (.goto 4, 3) := by decide +kernel
theorem dX7_way_55 : decode cX7_way 55 = .ok (.iconst (-1), 1) := by decide +kernel
theorem dX7_way_56 : decode cX7_way 56 = .ok (.ireturn, 1) := by decide +kernel
set_option maxRecDepth 20000 in
theorem ggX7_namesOf_X7_isLet : GoodIn wsX7_namesOf wsX7_isLet := goodIn_r _ [5, 6, 7, 8, 9, 4, 10, 11, 12, 13, 14, 15, 16, 17, 18, 19, 20, 21, 22, 23, 24] (by decide +kernel) (by decide +kernel)
set_option maxRecDepth 20000 in
theorem gX7_namesOf_X7_isLet : GoodIn wsX7_namesOf (wsV RX7 97 RX7 yX7_isLet wsX7_isLet) := goodIn_app (goodIn_of _ (by decide +kernel)) ggX7_namesOf_X7_isLet
set_option maxRecDepth 20000 in
theorem ggX7_namesOf_X7_has : GoodIn wsX7_namesOf wsX7_has := goodIn_r _ [10] (by decide +kernel) (by decide +kernel)
set_option maxRecDepth 20000 in
theorem gX7_namesOf_X7_has : GoodIn wsX7_namesOf (va_wsS RX7 68 yX7_has wsX7_has) := goodIn_app (goodIn_of _ (by decide +kernel)) ggX7_namesOf_X7_has
theorem dX7_namesOf_0 : decode cX7_namesOf 0 = .ok (.iconst 1, 1) := by decide +kernel
theorem dX7_namesOf_1 : decode cX7_namesOf 1 = .ok (.iload_n 1, 1) := by decide +kernel
theorem dX7_namesOf_2 : decode cX7_namesOf 2 = .ok (.ishl, 1) := by decide +kernel
theorem dX7_namesOf_3 : decode cX7_namesOf 3 = .ok (.istore_n 2, 1) := by decide +kernel
theorem dX7_namesOf_4 : decode cX7_namesOf 4 = .ok (.iconst 0, 1) := by decide +kernel
theorem dX7_namesOf_5 : decode cX7_namesOf 5 = .ok (.istore_n 3, 1) := by decide +kernel
theorem dX7_namesOf_6 : decode cX7_namesOf 6 = .ok (.iload_n 3, 1) := by decide +kernel
theorem dX7_namesOf_7 : decode cX7_namesOf 7 = .ok (.iload_n 2, 1) := by decide +kernel
theorem dX7_namesOf_8 : decode cX7_namesOf 8 = .ok (.if_icmp .eq 72, 3) := by decide +kernel
theorem dX7_namesOf_11 : decode cX7_namesOf 11 = .ok (.iload_n 2, 1) := by decide +kernel
theorem dX7_namesOf_12 : decode cX7_namesOf 12 = .ok (.istore_n 3, 1) := by decide +kernel
theorem dX7_namesOf_13 : decode cX7_namesOf 13 = .ok (.iconst 0, 1) := by decide +kernel
theorem dX7_namesOf_14 : decode cX7_namesOf 14 = .ok (.istore 4, 2) := by decide +kernel
theorem dX7_namesOf_16 : decode cX7_namesOf 16 = .ok (.iload 4, 2) := by decide +kernel
theorem dX7_namesOf_18 : decode cX7_namesOf 18 = .ok (.bipush 64, 2) := by decide +kernel
theorem dX7_namesOf_20 : decode cX7_namesOf 20 = .ok (.if_icmp .ge 57, 3) := by decide +kernel
theorem dX7_namesOf_23 : decode cX7_namesOf 23 = .ok (.aload_n 0, 1) := by decide +kernel
theorem dX7_namesOf_24 : decode cX7_namesOf 24 = .ok (.iload 4, 2) := by decide +kernel
theorem dX7_namesOf_26 : decode cX7_namesOf 26 = .ok (.bipush 8, 2) := by decide +kernel
theorem dX7_namesOf_28 : decode cX7_namesOf 28 = .ok (.idiv, 1) := by decide +kernel
theorem dX7_namesOf_29 : decode cX7_namesOf 29 = .ok (.iload 4, 2) := by decide +kernel
theorem dX7_namesOf_31 : decode cX7_namesOf 31 = .ok (.bipush 8, 2) := by decide +kernel
theorem dX7_namesOf_33 : decode cX7_namesOf 33 = .ok (.irem, 1) := by decide +kernel
theorem dX7_namesOf_34 : decode cX7_namesOf 34 = .ok (.iconst 2, 1) := by decide +kernel
theorem dX7_namesOf_35 : decode cX7_namesOf 35 = .ok (.invokevirtual 97, 3) := by decide +kernel
theorem dX7_namesOf_38 : decode cX7_namesOf 38 = .ok (.istore 5, 2) := by decide +kernel
theorem dX7_namesOf_40 : decode cX7_namesOf 40 = .ok (.iload_n 2, 1) := by decide +kernel
theorem dX7_namesOf_41 : decode cX7_namesOf 41 = .ok (.iload 5, 2) := by decide +kernel
theorem dX7_namesOf_43 : decode cX7_namesOf 43 = .ok (.ifCond .eq 25, 3) := by decide +kernel
theorem dX7_namesOf_46 : decode cX7_namesOf 46 = .ok (.iload_n 3, 1) := by decide +kernel
theorem dX7_namesOf_47 : decode cX7_namesOf 47 = .ok (.iload 4, 2) := by decide +kernel
theorem dX7_namesOf_49 : decode cX7_namesOf 49 = .ok (.bipush 8, 2) := by decide +kernel
theorem dX7_namesOf_51 : decode cX7_namesOf 51 = .ok (.idiv, 1) := by decide +kernel
theorem dX7_namesOf_52 : decode cX7_namesOf 52 = .ok (.invokestatic 68, 3) := by decide +kernel
theorem dX7_namesOf_55 : decode cX7_namesOf 55 = .ok (.ifCond .eq 13, 3) := by decide +kernel
theorem dX7_namesOf_58 : decode cX7_namesOf 58 = .ok (.iconst 1, 1) := by decide +kernel
theorem dX7_namesOf_59 : decode cX7_namesOf 59 = .ok (.iload 4, 2) := by decide +kernel
theorem dX7_namesOf_61 : decode cX7_namesOf 61 = .ok (.bipush 8, 2) := by decide +kernel
theorem dX7_namesOf_63 : decode cX7_namesOf 63 = .ok (.irem, 1) := by decide +kernel
theorem dX7_namesOf_64 : decode cX7_namesOf 64 = .ok (.ishl, 1) := by decide +kernel
theorem dX7_namesOf_65 : decode cX7_namesOf 65 = .ok (.goto 4, 3) := by decide +kernel
theorem dX7_namesOf_68 : decode cX7_namesOf 68 = .ok (.iconst 0, 1) := by decide +kernel
theorem dX7_namesOf_69 : decode cX7_namesOf 69 = .ok (.ior, 1) := by decide +kernel
theorem dX7_namesOf_70 : decode cX7_namesOf 70 = .ok (.istore_n 2, 1) := by decide +kernel
theorem dX7_namesOf_71 : decode cX7_namesOf 71 = .ok (.iinc 4 1, 3) := by decide +kernel
theorem dX7_namesOf_74 : decode cX7_namesOf 74 = .ok (.goto (-58), 3) := by decide +kernel
theorem dX7_namesOf_77 : decode cX7_namesOf 77 = .ok (.goto (-71), 3) := by decide +kernel
theorem dX7_namesOf_80 : decode cX7_namesOf 80 = .ok (.iload_n 2, 1) := by decide +kernel
theorem dX7_namesOf_81 : decode cX7_namesOf 81 = .ok (.iconst 1, 1) := by decide +kernel
theorem dX7_namesOf_82 : decode cX7_namesOf 82 = .ok (.iload_n 1, 1) := by decide +kernel
theorem dX7_namesOf_83 : decode cX7_namesOf 83 = .ok (.ishl, 1) := by decide +kernel
theorem dX7_namesOf_84 : decode cX7_namesOf 84 = .ok (.iconst (-1), 1) := by decide +kernel
theorem dX7_namesOf_85 : decode cX7_namesOf 85 = .ok (.ixor, 1) := by decide +kernel
theorem dX7_namesOf_86 : decode cX7_namesOf 86 = .ok (.iand, 1) := by decide +kernel
theorem dX7_namesOf_87 : decode cX7_namesOf 87 = .ok (.ireturn, 1) := by decide +kernel
set_option maxRecDepth 20000 in
theorem ggX7_actsOf_X7_heldBy : GoodIn wsX7_actsOf wsX7_heldBy := goodIn_r _ [6, 7, 8, 9, 5, 10, 11, 12, 13, 14, 15, 16, 17, 18, 19, 20, 21, 22, 23, 24, 25, 26, 27, 28, 29, 30, 31, 32, 33, 34] (by decide +kernel) (by decide +kernel)
set_option maxRecDepth 20000 in
theorem gX7_actsOf_X7_heldBy : GoodIn wsX7_actsOf (wsV RX7 91 RX7 yX7_heldBy wsX7_heldBy) := goodIn_app (goodIn_of _ (by decide +kernel)) ggX7_actsOf_X7_heldBy
set_option maxRecDepth 20000 in
theorem ggX7_actsOf_X7_has : GoodIn wsX7_actsOf wsX7_has := goodIn_r _ [14] (by decide +kernel) (by decide +kernel)
set_option maxRecDepth 20000 in
theorem gX7_actsOf_X7_has : GoodIn wsX7_actsOf (va_wsS RX7 68 yX7_has wsX7_has) := goodIn_app (goodIn_of _ (by decide +kernel)) ggX7_actsOf_X7_has
theorem dX7_actsOf_0 : decode cX7_actsOf 0 = .ok (.iconst 0, 1) := by decide +kernel
theorem dX7_actsOf_1 : decode cX7_actsOf 1 = .ok (.istore_n 3, 1) := by decide +kernel
theorem dX7_actsOf_2 : decode cX7_actsOf 2 = .ok (.iconst 0, 1) := by decide +kernel
theorem dX7_actsOf_3 : decode cX7_actsOf 3 = .ok (.istore 4, 2) := by decide +kernel
theorem dX7_actsOf_5 : decode cX7_actsOf 5 = .ok (.iload 4, 2) := by decide +kernel
theorem dX7_actsOf_7 : decode cX7_actsOf 7 = .ok (.bipush 6, 2) := by decide +kernel
theorem dX7_actsOf_9 : decode cX7_actsOf 9 = .ok (.if_icmp .ge 97, 3) := by decide +kernel
theorem dX7_actsOf_12 : decode cX7_actsOf 12 = .ok (.aload_n 0, 1) := by decide +kernel
theorem dX7_actsOf_13 : decode cX7_actsOf 13 = .ok (.aload_n 0, 1) := by decide +kernel
theorem dX7_actsOf_14 : decode cX7_actsOf 14 = .ok (.getfield 65, 3) := by decide +kernel
theorem dX7_actsOf_17 : decode cX7_actsOf 17 = .ok (.iload 4, 2) := by decide +kernel
theorem dX7_actsOf_19 : decode cX7_actsOf 19 = .ok (.invokevirtual 91, 3) := by decide +kernel
theorem dX7_actsOf_22 : decode cX7_actsOf 22 = .ok (.iload_n 1, 1) := by decide +kernel
theorem dX7_actsOf_23 : decode cX7_actsOf 23 = .ok (.invokestatic 68, 3) := by decide +kernel
theorem dX7_actsOf_26 : decode cX7_actsOf 26 = .ok (.istore 5, 2) := by decide +kernel
theorem dX7_actsOf_28 : decode cX7_actsOf 28 = .ok (.aload_n 0, 1) := by decide +kernel
theorem dX7_actsOf_29 : decode cX7_actsOf 29 = .ok (.aload_n 0, 1) := by decide +kernel
theorem dX7_actsOf_30 : decode cX7_actsOf 30 = .ok (.getfield 65, 3) := by decide +kernel
theorem dX7_actsOf_33 : decode cX7_actsOf 33 = .ok (.iload 4, 2) := by decide +kernel
theorem dX7_actsOf_35 : decode cX7_actsOf 35 = .ok (.bipush 6, 2) := by decide +kernel
theorem dX7_actsOf_37 : decode cX7_actsOf 37 = .ok (.iadd, 1) := by decide +kernel
theorem dX7_actsOf_38 : decode cX7_actsOf 38 = .ok (.invokevirtual 91, 3) := by decide +kernel
theorem dX7_actsOf_41 : decode cX7_actsOf 41 = .ok (.iload_n 1, 1) := by decide +kernel
theorem dX7_actsOf_42 : decode cX7_actsOf 42 = .ok (.invokestatic 68, 3) := by decide +kernel
theorem dX7_actsOf_45 : decode cX7_actsOf 45 = .ok (.istore 6, 2) := by decide +kernel
theorem dX7_actsOf_47 : decode cX7_actsOf 47 = .ok (.iload_n 2, 1) := by decide +kernel
theorem dX7_actsOf_48 : decode cX7_actsOf 48 = .ok (.iconst 1, 1) := by decide +kernel
theorem dX7_actsOf_49 : decode cX7_actsOf 49 = .ok (.if_icmp .ne 8, 3) := by decide +kernel
theorem dX7_actsOf_52 : decode cX7_actsOf 52 = .ok (.iload 5, 2) := by decide +kernel
theorem dX7_actsOf_54 : decode cX7_actsOf 54 = .ok (.goto 28, 3) := by decide +kernel
theorem dX7_actsOf_57 : decode cX7_actsOf 57 = .ok (.iload_n 2, 1) := by decide +kernel
theorem dX7_actsOf_58 : decode cX7_actsOf 58 = .ok (.iconst 2, 1) := by decide +kernel
theorem dX7_actsOf_59 : decode cX7_actsOf 59 = .ok (.if_icmp .ne 8, 3) := by decide +kernel
theorem dX7_actsOf_62 : decode cX7_actsOf 62 = .ok (.iload 6, 2) := by decide +kernel
theorem dX7_actsOf_64 : decode cX7_actsOf 64 = .ok (.goto 18, 3) := by decide +kernel
theorem dX7_actsOf_67 : decode cX7_actsOf 67 = .ok (.iload 5, 2) := by decide +kernel
theorem dX7_actsOf_69 : decode cX7_actsOf 69 = .ok (.ifCond .eq 12, 3) := by decide +kernel
theorem dX7_actsOf_72 : decode cX7_actsOf 72 = .ok (.iload 6, 2) := by decide +kernel
theorem dX7_actsOf_74 : decode cX7_actsOf 74 = .ok (.ifCond .eq 7, 3) := by decide +kernel
theorem dX7_actsOf_77 : decode cX7_actsOf 77 = .ok (.iconst 1, 1) := by decide +kernel
theorem dX7_actsOf_78 : decode cX7_actsOf 78 = .ok (.goto 4, 3) := by decide +kernel
theorem dX7_actsOf_81 : decode cX7_actsOf 81 = .ok (.iconst 0, 1) := by decide +kernel
theorem dX7_actsOf_82 : decode cX7_actsOf 82 = .ok (.istore 7, 2) := by decide +kernel
theorem dX7_actsOf_84 : decode cX7_actsOf 84 = .ok (.iload_n 3, 1) := by decide +kernel
theorem dX7_actsOf_85 : decode cX7_actsOf 85 = .ok (.iload 7, 2) := by decide +kernel
theorem dX7_actsOf_87 : decode cX7_actsOf 87 = .ok (.ifCond .eq 10, 3) := by decide +kernel
theorem dX7_actsOf_90 : decode cX7_actsOf 90 = .ok (.iconst 1, 1) := by decide +kernel
theorem dX7_actsOf_91 : decode cX7_actsOf 91 = .ok (.iload 4, 2) := by decide +kernel
theorem dX7_actsOf_93 : decode cX7_actsOf 93 = .ok (.ishl, 1) := by decide +kernel
theorem dX7_actsOf_94 : decode cX7_actsOf 94 = .ok (.goto 4, 3) := by decide +kernel
theorem dX7_actsOf_97 : decode cX7_actsOf 97 = .ok (.iconst 0, 1) := by decide +kernel
theorem dX7_actsOf_98 : decode cX7_actsOf 98 = .ok (.ior, 1) := by decide +kernel
theorem dX7_actsOf_99 : decode cX7_actsOf 99 = .ok (.istore_n 3, 1) := by decide +kernel
theorem dX7_actsOf_100 : decode cX7_actsOf 100 = .ok (.iinc 4 1, 3) := by decide +kernel
theorem dX7_actsOf_103 : decode cX7_actsOf 103 = .ok (.goto (-98), 3) := by decide +kernel
theorem dX7_actsOf_106 : decode cX7_actsOf 106 = .ok (.iload_n 3, 1) := by decide +kernel
theorem dX7_actsOf_107 : decode cX7_actsOf 107 = .ok (.ireturn, 1) := by decide +kernel
set_option maxRecDepth 20000 in
theorem ggX7_partNow_X7_namesOf : GoodIn wsX7_partNow wsX7_namesOf := goodIn_r _ [6, 7, 8, 9, 5, 10, 11, 12, 13, 14, 15, 41, 42, 43, 44, 45, 46, 47, 48, 49, 50, 51, 52, 53, 54] (by decide +kernel) (by decide +kernel)
set_option maxRecDepth 20000 in
theorem gX7_partNow_X7_namesOf : GoodIn wsX7_partNow (wsV RX7 110 RX7 yX7_namesOf wsX7_namesOf) := goodIn_app (goodIn_of _ (by decide +kernel)) ggX7_partNow_X7_namesOf
set_option maxRecDepth 20000 in
theorem ggX7_partNow_X7_usesOf : GoodIn wsX7_partNow wsX7_usesOf := goodIn_r _ [19, 12, 11, 13, 14, 5, 15, 41, 42, 43, 44, 45, 46, 47, 48, 49, 50, 51, 52, 53, 54] (by decide +kernel) (by decide +kernel)
set_option maxRecDepth 20000 in
theorem gX7_partNow_X7_usesOf : GoodIn wsX7_partNow (wsV RX7 74 RX7 yX7_usesOf wsX7_usesOf) := goodIn_app (goodIn_of _ (by decide +kernel)) ggX7_partNow_X7_usesOf
set_option maxRecDepth 20000 in
theorem ggX7_partNow_X7_usersOf : GoodIn wsX7_partNow wsX7_usersOf := goodIn_r _ [23, 12, 11, 13, 14, 5, 15, 41, 42, 43, 44, 45, 46, 47, 48, 49, 50, 51, 52, 53, 54] (by decide +kernel) (by decide +kernel)
set_option maxRecDepth 20000 in
theorem gX7_partNow_X7_usersOf : GoodIn wsX7_partNow (wsV RX7 77 RX7 yX7_usersOf wsX7_usersOf) := goodIn_app (goodIn_of _ (by decide +kernel)) ggX7_partNow_X7_usersOf
set_option maxRecDepth 20000 in
theorem ggX7_partNow_X7_actsOf : GoodIn wsX7_partNow wsX7_actsOf := goodIn_r _ [27, 12, 28, 29, 30, 5, 31, 32, 33, 34, 35, 11, 13, 14, 15, 36, 37, 38, 39, 40, 1, 41, 42, 43, 44, 45, 46, 47, 48, 49, 50, 51, 52, 53, 54] (by decide +kernel) (by decide +kernel)
set_option maxRecDepth 20000 in
theorem gX7_partNow_X7_actsOf : GoodIn wsX7_partNow (wsV RX7 113 RX7 yX7_actsOf wsX7_actsOf) := goodIn_app (goodIn_of _ (by decide +kernel)) ggX7_partNow_X7_actsOf
theorem dX7_partNow_0 : decode cX7_partNow 0 = .ok (.iload_n 2, 1) := by decide +kernel
theorem dX7_partNow_1 : decode cX7_partNow 1 = .ok (.tableswitch 68 0 6 #[43, 68, 68, 68, 50, 56, 62], 43) := by decide +kernel
theorem dX7_partNow_44 : decode cX7_partNow 44 = .ok (.aload_n 0, 1) := by decide +kernel
theorem dX7_partNow_45 : decode cX7_partNow 45 = .ok (.getfield 16, 3) := by decide +kernel
theorem dX7_partNow_48 : decode cX7_partNow 48 = .ok (.iload_n 1, 1) := by decide +kernel
theorem dX7_partNow_49 : decode cX7_partNow 49 = .ok (.iaload, 1) := by decide +kernel
theorem dX7_partNow_50 : decode cX7_partNow 50 = .ok (.ireturn, 1) := by decide +kernel
theorem dX7_partNow_51 : decode cX7_partNow 51 = .ok (.aload_n 0, 1) := by decide +kernel
theorem dX7_partNow_52 : decode cX7_partNow 52 = .ok (.iload_n 1, 1) := by decide +kernel
theorem dX7_partNow_53 : decode cX7_partNow 53 = .ok (.invokevirtual 110, 3) := by decide +kernel
theorem dX7_partNow_56 : decode cX7_partNow 56 = .ok (.ireturn, 1) := by decide +kernel
theorem dX7_partNow_57 : decode cX7_partNow 57 = .ok (.aload_n 0, 1) := by decide +kernel
theorem dX7_partNow_58 : decode cX7_partNow 58 = .ok (.iload_n 1, 1) := by decide +kernel
theorem dX7_partNow_59 : decode cX7_partNow 59 = .ok (.invokevirtual 74, 3) := by decide +kernel
theorem dX7_partNow_62 : decode cX7_partNow 62 = .ok (.ireturn, 1) := by decide +kernel
theorem dX7_partNow_63 : decode cX7_partNow 63 = .ok (.aload_n 0, 1) := by decide +kernel
theorem dX7_partNow_64 : decode cX7_partNow 64 = .ok (.iload_n 1, 1) := by decide +kernel
theorem dX7_partNow_65 : decode cX7_partNow 65 = .ok (.invokevirtual 77, 3) := by decide +kernel
theorem dX7_partNow_68 : decode cX7_partNow 68 = .ok (.ireturn, 1) := by decide +kernel
theorem dX7_partNow_69 : decode cX7_partNow 69 = .ok (.aload_n 0, 1) := by decide +kernel
theorem dX7_partNow_70 : decode cX7_partNow 70 = .ok (.iload_n 1, 1) := by decide +kernel
theorem dX7_partNow_71 : decode cX7_partNow 71 = .ok (.iload_n 2, 1) := by decide +kernel
theorem dX7_partNow_72 : decode cX7_partNow 72 = .ok (.invokevirtual 113, 3) := by decide +kernel
theorem dX7_partNow_75 : decode cX7_partNow 75 = .ok (.ireturn, 1) := by decide +kernel
set_option maxRecDepth 20000 in
theorem ggX7_of_X7_isPart : GoodIn wsX7_of wsX7_isPart := goodIn_r _ [5, 6, 7, 8, 4, 9, 10, 11, 12, 52, 53, 54, 55, 56, 57, 58, 59, 60, 61, 62, 63, 64, 65] (by decide +kernel) (by decide +kernel)
set_option maxRecDepth 20000 in
theorem gX7_of_X7_isPart : GoodIn wsX7_of (wsV RX7 71 RX7 yX7_isPart wsX7_isPart) := goodIn_app (goodIn_of _ (by decide +kernel)) ggX7_of_X7_isPart
set_option maxRecDepth 20000 in
theorem ggX7_of_X7_within : GoodIn wsX7_of wsX7_within := goodIn_r _ [9] (by decide +kernel) (by decide +kernel)
set_option maxRecDepth 20000 in
theorem gX7_of_X7_within : GoodIn wsX7_of (va_wsS RX7 31 yX7_within wsX7_within) := goodIn_app (goodIn_of _ (by decide +kernel)) ggX7_of_X7_within
set_option maxRecDepth 20000 in
theorem ggX7_of_X7_partNow : GoodIn wsX7_of wsX7_partNow := goodIn_r _ [16, 17, 18, 19, 20, 4, 21, 22, 23, 24, 25, 26, 6, 10, 11, 12, 27, 28, 29, 30, 31, 32, 33, 34, 35, 36, 37, 38, 39, 40, 41, 42, 43, 44, 45, 46, 47, 48, 49, 50, 51, 52, 53, 54, 55, 56, 57, 58, 59, 60, 61, 62, 63, 64, 65] (by decide +kernel) (by decide +kernel)
set_option maxRecDepth 20000 in
theorem gX7_of_X7_partNow : GoodIn wsX7_of (wsV RX7 116 RX7 yX7_partNow wsX7_partNow) := goodIn_app (goodIn_of _ (by decide +kernel)) ggX7_of_X7_partNow
theorem dX7_of_0 : decode cX7_of 0 = .ok (.aload_n 0, 1) := by decide +kernel
theorem dX7_of_1 : decode cX7_of 1 = .ok (.iload_n 1, 1) := by decide +kernel
theorem dX7_of_2 : decode cX7_of 2 = .ok (.invokevirtual 71, 3) := by decide +kernel
theorem dX7_of_5 : decode cX7_of 5 = .ok (.ifCond .ne 7, 3) := by decide +kernel
theorem dX7_of_8 : decode cX7_of 8 = .ok (.sipush (-1001), 3) := by decide +kernel
theorem dX7_of_11 : decode cX7_of 11 = .ok (.ireturn, 1) := by decide +kernel
theorem dX7_of_12 : decode cX7_of 12 = .ok (.iload_n 2, 1) := by decide +kernel
theorem dX7_of_13 : decode cX7_of 13 = .ok (.iconst 0, 1) := by decide +kernel
theorem dX7_of_14 : decode cX7_of 14 = .ok (.bipush 6, 2) := by decide +kernel
theorem dX7_of_16 : decode cX7_of 16 = .ok (.invokestatic 31, 3) := by decide +kernel
theorem dX7_of_19 : decode cX7_of 19 = .ok (.ifCond .eq 12, 3) := by decide +kernel
theorem dX7_of_22 : decode cX7_of 22 = .ok (.aload_n 0, 1) := by decide +kernel
theorem dX7_of_23 : decode cX7_of 23 = .ok (.iload_n 1, 1) := by decide +kernel
theorem dX7_of_24 : decode cX7_of 24 = .ok (.iload_n 2, 1) := by decide +kernel
theorem dX7_of_25 : decode cX7_of 25 = .ok (.invokevirtual 116, 3) := by decide +kernel
theorem dX7_of_28 : decode cX7_of 28 = .ok (.goto 6, 3) := by decide +kernel
theorem dX7_of_31 : decode cX7_of 31 = .ok (.sipush (-1002), 3) := by decide +kernel
theorem dX7_of_34 : decode cX7_of 34 = .ok (.ireturn, 1) := by decide +kernel
set_option maxRecDepth 20000 in
theorem ggX7_layClashes_X7_clashing : GoodIn wsX7_layClashes wsX7_clashing := goodIn_r _ [8, 9, 10, 11, 7, 12, 13, 14, 15, 16, 17, 18, 19, 20, 21, 22, 23, 24, 25, 26, 27, 28, 29, 30, 31, 32, 33, 34, 35, 36, 37, 38, 39, 40] (by decide +kernel) (by decide +kernel)
set_option maxRecDepth 20000 in
theorem gX7_layClashes_X7_clashing : GoodIn wsX7_layClashes (wsV RX7 122 RX7 yX7_clashing wsX7_clashing) := goodIn_app (goodIn_of _ (by decide +kernel)) ggX7_layClashes_X7_clashing
set_option maxRecDepth 20000 in
theorem ggX7_layClashes_X7_has : GoodIn wsX7_layClashes wsX7_has := goodIn_r _ [20] (by decide +kernel) (by decide +kernel)
set_option maxRecDepth 20000 in
theorem gX7_layClashes_X7_has : GoodIn wsX7_layClashes (va_wsS RX7 68 yX7_has wsX7_has) := goodIn_app (goodIn_of _ (by decide +kernel)) ggX7_layClashes_X7_has
theorem dX7_layClashes_0 : decode cX7_layClashes 0 = .ok (.aload_n 0, 1) := by decide +kernel
theorem dX7_layClashes_1 : decode cX7_layClashes 1 = .ok (.iconst 0, 1) := by decide +kernel
theorem dX7_layClashes_2 : decode cX7_layClashes 2 = .ok (.putfield 119, 3) := by decide +kernel
theorem dX7_layClashes_5 : decode cX7_layClashes 5 = .ok (.iconst 0, 1) := by decide +kernel
theorem dX7_layClashes_6 : decode cX7_layClashes 6 = .ok (.istore_n 1, 1) := by decide +kernel
theorem dX7_layClashes_7 : decode cX7_layClashes 7 = .ok (.iload_n 1, 1) := by decide +kernel
theorem dX7_layClashes_8 : decode cX7_layClashes 8 = .ok (.bipush 8, 2) := by decide +kernel
theorem dX7_layClashes_10 : decode cX7_layClashes 10 = .ok (.if_icmp .ge 64, 3) := by decide +kernel
theorem dX7_layClashes_13 : decode cX7_layClashes 13 = .ok (.iconst 0, 1) := by decide +kernel
theorem dX7_layClashes_14 : decode cX7_layClashes 14 = .ok (.istore_n 2, 1) := by decide +kernel
theorem dX7_layClashes_15 : decode cX7_layClashes 15 = .ok (.iload_n 2, 1) := by decide +kernel
theorem dX7_layClashes_16 : decode cX7_layClashes 16 = .ok (.bipush 6, 2) := by decide +kernel
theorem dX7_layClashes_18 : decode cX7_layClashes 18 = .ok (.if_icmp .ge 50, 3) := by decide +kernel
theorem dX7_layClashes_21 : decode cX7_layClashes 21 = .ok (.aload_n 0, 1) := by decide +kernel
theorem dX7_layClashes_22 : decode cX7_layClashes 22 = .ok (.aload_n 0, 1) := by decide +kernel
theorem dX7_layClashes_23 : decode cX7_layClashes 23 = .ok (.getfield 65, 3) := by decide +kernel
theorem dX7_layClashes_26 : decode cX7_layClashes 26 = .ok (.iload_n 2, 1) := by decide +kernel
theorem dX7_layClashes_27 : decode cX7_layClashes 27 = .ok (.invokevirtual 122, 3) := by decide +kernel
theorem dX7_layClashes_30 : decode cX7_layClashes 30 = .ok (.iload_n 1, 1) := by decide +kernel
theorem dX7_layClashes_31 : decode cX7_layClashes 31 = .ok (.invokestatic 68, 3) := by decide +kernel
theorem dX7_layClashes_34 : decode cX7_layClashes 34 = .ok (.ifCond .eq 28, 3) := by decide +kernel
theorem dX7_layClashes_37 : decode cX7_layClashes 37 = .ok (.aload_n 0, 1) := by decide +kernel
theorem dX7_layClashes_38 : decode cX7_layClashes 38 = .ok (.getfield 28, 3) := by decide +kernel
theorem dX7_layClashes_41 : decode cX7_layClashes 41 = .ok (.aload_n 0, 1) := by decide +kernel
theorem dX7_layClashes_42 : decode cX7_layClashes 42 = .ok (.getfield 119, 3) := by decide +kernel
theorem dX7_layClashes_45 : decode cX7_layClashes 45 = .ok (.bipush 6, 2) := by decide +kernel
theorem dX7_layClashes_47 : decode cX7_layClashes 47 = .ok (.iload_n 1, 1) := by decide +kernel
theorem dX7_layClashes_48 : decode cX7_layClashes 48 = .ok (.imul, 1) := by decide +kernel
theorem dX7_layClashes_49 : decode cX7_layClashes 49 = .ok (.iload_n 2, 1) := by decide +kernel
theorem dX7_layClashes_50 : decode cX7_layClashes 50 = .ok (.iadd, 1) := by decide +kernel
theorem dX7_layClashes_51 : decode cX7_layClashes 51 = .ok (.iastore, 1) := by decide +kernel
theorem dX7_layClashes_52 : decode cX7_layClashes 52 = .ok (.aload_n 0, 1) := by decide +kernel
theorem dX7_layClashes_53 : decode cX7_layClashes 53 = .ok (.dup, 1) := by decide +kernel
theorem dX7_layClashes_54 : decode cX7_layClashes 54 = .ok (.getfield 119, 3) := by decide +kernel
theorem dX7_layClashes_57 : decode cX7_layClashes 57 = .ok (.iconst 1, 1) := by decide +kernel
theorem dX7_layClashes_58 : decode cX7_layClashes 58 = .ok (.iadd, 1) := by decide +kernel
theorem dX7_layClashes_59 : decode cX7_layClashes 59 = .ok (.putfield 119, 3) := by decide +kernel
theorem dX7_layClashes_62 : decode cX7_layClashes 62 = .ok (.iinc 2 1, 3) := by decide +kernel
theorem dX7_layClashes_65 : decode cX7_layClashes 65 = .ok (.goto (-50), 3) := by decide +kernel
theorem dX7_layClashes_68 : decode cX7_layClashes 68 = .ok (.iinc 1 1, 3) := by decide +kernel
theorem dX7_layClashes_71 : decode cX7_layClashes 71 = .ok (.goto (-64), 3) := by decide +kernel
theorem dX7_layClashes_74 : decode cX7_layClashes 74 = .ok (.return_, 1) := by decide +kernel
set_option maxRecDepth 20000 in
theorem ggX7_clash_X7_layClashes : GoodIn wsX7_clash wsX7_layClashes := goodIn_r _ [7, 1, 8, 2, 9, 10, 11, 6, 12, 13, 14, 15, 16, 17, 18, 19, 20, 21, 22, 23, 24, 25, 26, 27, 28, 29, 30, 34, 35, 36, 37, 38, 39, 40, 41, 42, 43, 44, 45, 46, 47] (by decide +kernel) (by decide +kernel)
set_option maxRecDepth 20000 in
theorem gX7_clash_X7_layClashes : GoodIn wsX7_clash (wsV RX7 125 RX7 yX7_layClashes wsX7_layClashes) := goodIn_app (goodIn_of _ (by decide +kernel)) ggX7_clash_X7_layClashes
set_option maxRecDepth 20000 in
theorem ggX7_clash_X7_within : GoodIn wsX7_clash wsX7_within := goodIn_r _ [33] (by decide +kernel) (by decide +kernel)
set_option maxRecDepth 20000 in
theorem gX7_clash_X7_within : GoodIn wsX7_clash (va_wsS RX7 31 yX7_within wsX7_within) := goodIn_app (goodIn_of _ (by decide +kernel)) ggX7_clash_X7_within
theorem dX7_clash_0 : decode cX7_clash 0 = .ok (.aload_n 0, 1) := by decide +kernel
theorem dX7_clash_1 : decode cX7_clash 1 = .ok (.invokevirtual 125, 3) := by decide +kernel
theorem dX7_clash_4 : decode cX7_clash 4 = .ok (.iload_n 1, 1) := by decide +kernel
theorem dX7_clash_5 : decode cX7_clash 5 = .ok (.iconst 0, 1) := by decide +kernel
theorem dX7_clash_6 : decode cX7_clash 6 = .ok (.aload_n 0, 1) := by decide +kernel
theorem dX7_clash_7 : decode cX7_clash 7 = .ok (.getfield 119, 3) := by decide +kernel
theorem dX7_clash_10 : decode cX7_clash 10 = .ok (.iconst 1, 1) := by decide +kernel
theorem dX7_clash_11 : decode cX7_clash 11 = .ok (.isub, 1) := by decide +kernel
theorem dX7_clash_12 : decode cX7_clash 12 = .ok (.invokestatic 31, 3) := by decide +kernel
theorem dX7_clash_15 : decode cX7_clash 15 = .ok (.ifCond .eq 12, 3) := by decide +kernel
theorem dX7_clash_18 : decode cX7_clash 18 = .ok (.aload_n 0, 1) := by decide +kernel
theorem dX7_clash_19 : decode cX7_clash 19 = .ok (.getfield 28, 3) := by decide +kernel
theorem dX7_clash_22 : decode cX7_clash 22 = .ok (.iload_n 1, 1) := by decide +kernel
theorem dX7_clash_23 : decode cX7_clash 23 = .ok (.iaload, 1) := by decide +kernel
theorem dX7_clash_24 : decode cX7_clash 24 = .ok (.goto 6, 3) := by decide +kernel
theorem dX7_clash_27 : decode cX7_clash 27 = .ok (.sipush (-1001), 3) := by decide +kernel
theorem dX7_clash_30 : decode cX7_clash 30 = .ok (.ireturn, 1) := by decide +kernel
set_option maxRecDepth 20000 in
theorem ggX7_causeNow_X7_has : GoodIn wsX7_causeNow wsX7_has := goodIn_r _ [5] (by decide +kernel) (by decide +kernel)
set_option maxRecDepth 20000 in
theorem gX7_causeNow_X7_has : GoodIn wsX7_causeNow (va_wsS RX7 68 yX7_has wsX7_has) := goodIn_app (goodIn_of _ (by decide +kernel)) ggX7_causeNow_X7_has
set_option maxRecDepth 20000 in
theorem ggX7_causeNow_X7_ones : GoodIn wsX7_causeNow wsX7_ones := goodIn_r _ [8] (by decide +kernel) (by decide +kernel)
set_option maxRecDepth 20000 in
theorem gX7_causeNow_X7_ones : GoodIn wsX7_causeNow (va_wsS RX7 128 yX7_ones wsX7_ones) := goodIn_app (goodIn_of _ (by decide +kernel)) ggX7_causeNow_X7_ones
set_option maxRecDepth 20000 in
theorem ggX7_causeNow_X7_clashing : GoodIn wsX7_causeNow wsX7_clashing := goodIn_r _ [12, 13, 14, 15, 4, 16, 17, 18, 19, 20, 21, 2, 3, 5, 22, 23, 24, 25, 26, 27, 28, 29, 30, 31, 32, 33, 34, 35, 36, 37, 38, 39, 40, 41] (by decide +kernel) (by decide +kernel)
set_option maxRecDepth 20000 in
theorem gX7_causeNow_X7_clashing : GoodIn wsX7_causeNow (wsV RX7 122 RX7 yX7_clashing wsX7_clashing) := goodIn_app (goodIn_of _ (by decide +kernel)) ggX7_causeNow_X7_clashing
theorem dX7_causeNow_0 : decode cX7_causeNow 0 = .ok (.iconst 1, 1) := by decide +kernel
theorem dX7_causeNow_1 : decode cX7_causeNow 1 = .ok (.istore_n 3, 1) := by decide +kernel
theorem dX7_causeNow_2 : decode cX7_causeNow 2 = .ok (.iload_n 3, 1) := by decide +kernel
theorem dX7_causeNow_3 : decode cX7_causeNow 3 = .ok (.bipush 8, 2) := by decide +kernel
theorem dX7_causeNow_5 : decode cX7_causeNow 5 = .ok (.if_icmp .gt 85, 3) := by decide +kernel
theorem dX7_causeNow_8 : decode cX7_causeNow 8 = .ok (.iconst 1, 1) := by decide +kernel
theorem dX7_causeNow_9 : decode cX7_causeNow 9 = .ok (.istore 4, 2) := by decide +kernel
theorem dX7_causeNow_11 : decode cX7_causeNow 11 = .ok (.iload 4, 2) := by decide +kernel
theorem dX7_causeNow_13 : decode cX7_causeNow 13 = .ok (.sipush 256, 3) := by decide +kernel
theorem dX7_causeNow_16 : decode cX7_causeNow 16 = .ok (.if_icmp .ge 68, 3) := by decide +kernel
theorem dX7_causeNow_19 : decode cX7_causeNow 19 = .ok (.iload 4, 2) := by decide +kernel
theorem dX7_causeNow_21 : decode cX7_causeNow 21 = .ok (.aload_n 0, 1) := by decide +kernel
theorem dX7_causeNow_22 : decode cX7_causeNow 22 = .ok (.getfield 65, 3) := by decide +kernel
theorem dX7_causeNow_25 : decode cX7_causeNow 25 = .ok (.iconst (-1), 1) := by decide +kernel
theorem dX7_causeNow_26 : decode cX7_causeNow 26 = .ok (.ixor, 1) := by decide +kernel
theorem dX7_causeNow_27 : decode cX7_causeNow 27 = .ok (.iand, 1) := by decide +kernel
theorem dX7_causeNow_28 : decode cX7_causeNow 28 = .ok (.ifCond .ne 25, 3) := by decide +kernel
theorem dX7_causeNow_31 : decode cX7_causeNow 31 = .ok (.iload 4, 2) := by decide +kernel
theorem dX7_causeNow_33 : decode cX7_causeNow 33 = .ok (.iload_n 1, 1) := by decide +kernel
theorem dX7_causeNow_34 : decode cX7_causeNow 34 = .ok (.invokestatic 68, 3) := by decide +kernel
theorem dX7_causeNow_37 : decode cX7_causeNow 37 = .ok (.ifCond .eq 16, 3) := by decide +kernel
theorem dX7_causeNow_40 : decode cX7_causeNow 40 = .ok (.iload 4, 2) := by decide +kernel
theorem dX7_causeNow_42 : decode cX7_causeNow 42 = .ok (.invokestatic 128, 3) := by decide +kernel
theorem dX7_causeNow_45 : decode cX7_causeNow 45 = .ok (.iload_n 3, 1) := by decide +kernel
theorem dX7_causeNow_46 : decode cX7_causeNow 46 = .ok (.if_icmp .ne 7, 3) := by decide +kernel
theorem dX7_causeNow_49 : decode cX7_causeNow 49 = .ok (.iconst 1, 1) := by decide +kernel
theorem dX7_causeNow_50 : decode cX7_causeNow 50 = .ok (.goto 4, 3) := by decide +kernel
theorem dX7_causeNow_53 : decode cX7_causeNow 53 = .ok (.iconst 0, 1) := by decide +kernel
theorem dX7_causeNow_54 : decode cX7_causeNow 54 = .ok (.istore 5, 2) := by decide +kernel
theorem dX7_causeNow_56 : decode cX7_causeNow 56 = .ok (.iload 5, 2) := by decide +kernel
theorem dX7_causeNow_58 : decode cX7_causeNow 58 = .ok (.ifCond .eq 20, 3) := by decide +kernel
theorem dX7_causeNow_61 : decode cX7_causeNow 61 = .ok (.aload_n 0, 1) := by decide +kernel
theorem dX7_causeNow_62 : decode cX7_causeNow 62 = .ok (.iload 4, 2) := by decide +kernel
theorem dX7_causeNow_64 : decode cX7_causeNow 64 = .ok (.iload_n 2, 1) := by decide +kernel
theorem dX7_causeNow_65 : decode cX7_causeNow 65 = .ok (.invokevirtual 122, 3) := by decide +kernel
theorem dX7_causeNow_68 : decode cX7_causeNow 68 = .ok (.iload_n 1, 1) := by decide +kernel
theorem dX7_causeNow_69 : decode cX7_causeNow 69 = .ok (.invokestatic 68, 3) := by decide +kernel
theorem dX7_causeNow_72 : decode cX7_causeNow 72 = .ok (.ifCond .eq 6, 3) := by decide +kernel
theorem dX7_causeNow_75 : decode cX7_causeNow 75 = .ok (.iload 4, 2) := by decide +kernel
theorem dX7_causeNow_77 : decode cX7_causeNow 77 = .ok (.ireturn, 1) := by decide +kernel
theorem dX7_causeNow_78 : decode cX7_causeNow 78 = .ok (.iinc 4 1, 3) := by decide +kernel
theorem dX7_causeNow_81 : decode cX7_causeNow 81 = .ok (.goto (-70), 3) := by decide +kernel
theorem dX7_causeNow_84 : decode cX7_causeNow 84 = .ok (.iinc 3 1, 3) := by decide +kernel
theorem dX7_causeNow_87 : decode cX7_causeNow 87 = .ok (.goto (-85), 3) := by decide +kernel
theorem dX7_causeNow_90 : decode cX7_causeNow 90 = .ok (.iconst (-1), 1) := by decide +kernel
theorem dX7_causeNow_91 : decode cX7_causeNow 91 = .ok (.ireturn, 1) := by decide +kernel
set_option maxRecDepth 20000 in
theorem ggX7_cause_X7_isPart : GoodIn wsX7_cause wsX7_isPart := goodIn_r _ [5, 6, 7, 8, 4, 9, 10, 11, 12, 39, 40, 41, 42, 43, 44, 45, 46, 47, 48, 49, 50, 51, 52] (by decide +kernel) (by decide +kernel)
set_option maxRecDepth 20000 in
theorem gX7_cause_X7_isPart : GoodIn wsX7_cause (wsV RX7 71 RX7 yX7_isPart wsX7_isPart) := goodIn_app (goodIn_of _ (by decide +kernel)) ggX7_cause_X7_isPart
set_option maxRecDepth 20000 in
theorem ggX7_cause_X7_within : GoodIn wsX7_cause wsX7_within := goodIn_r _ [9] (by decide +kernel) (by decide +kernel)
set_option maxRecDepth 20000 in
theorem gX7_cause_X7_within : GoodIn wsX7_cause (va_wsS RX7 31 yX7_within wsX7_within) := goodIn_app (goodIn_of _ (by decide +kernel)) ggX7_cause_X7_within
set_option maxRecDepth 20000 in
theorem ggX7_cause_X7_causeNow : GoodIn wsX7_cause wsX7_causeNow := goodIn_r _ [16, 6, 10, 11, 4, 12, 17, 18, 19, 20, 21, 22, 23, 24, 25, 26, 27, 28, 29, 30, 31, 32, 33, 34, 35, 36, 37, 38, 39, 40, 41, 42, 43, 44, 45, 46, 47, 48, 49, 50, 51, 52] (by decide +kernel) (by decide +kernel)
set_option maxRecDepth 20000 in
theorem gX7_cause_X7_causeNow : GoodIn wsX7_cause (wsV RX7 131 RX7 yX7_causeNow wsX7_causeNow) := goodIn_app (goodIn_of _ (by decide +kernel)) ggX7_cause_X7_causeNow
theorem dX7_cause_0 : decode cX7_cause 0 = .ok (.aload_n 0, 1) := by decide +kernel
theorem dX7_cause_1 : decode cX7_cause 1 = .ok (.iload_n 1, 1) := by decide +kernel
theorem dX7_cause_2 : decode cX7_cause 2 = .ok (.invokevirtual 71, 3) := by decide +kernel
theorem dX7_cause_5 : decode cX7_cause 5 = .ok (.ifCond .ne 7, 3) := by decide +kernel
theorem dX7_cause_8 : decode cX7_cause 8 = .ok (.sipush (-1001), 3) := by decide +kernel
theorem dX7_cause_11 : decode cX7_cause 11 = .ok (.ireturn, 1) := by decide +kernel
theorem dX7_cause_12 : decode cX7_cause 12 = .ok (.iload_n 2, 1) := by decide +kernel
theorem dX7_cause_13 : decode cX7_cause 13 = .ok (.iconst 0, 1) := by decide +kernel
theorem dX7_cause_14 : decode cX7_cause 14 = .ok (.iconst 5, 1) := by decide +kernel
theorem dX7_cause_15 : decode cX7_cause 15 = .ok (.invokestatic 31, 3) := by decide +kernel
theorem dX7_cause_18 : decode cX7_cause 18 = .ok (.ifCond .eq 12, 3) := by decide +kernel
theorem dX7_cause_21 : decode cX7_cause 21 = .ok (.aload_n 0, 1) := by decide +kernel
theorem dX7_cause_22 : decode cX7_cause 22 = .ok (.iload_n 1, 1) := by decide +kernel
theorem dX7_cause_23 : decode cX7_cause 23 = .ok (.iload_n 2, 1) := by decide +kernel
theorem dX7_cause_24 : decode cX7_cause 24 = .ok (.invokevirtual 131, 3) := by decide +kernel
theorem dX7_cause_27 : decode cX7_cause 27 = .ok (.goto 6, 3) := by decide +kernel
theorem dX7_cause_30 : decode cX7_cause 30 = .ok (.sipush (-1002), 3) := by decide +kernel
theorem dX7_cause_33 : decode cX7_cause 33 = .ok (.ireturn, 1) := by decide +kernel
set_option maxRecDepth 20000 in
theorem ggX7_isClean_X7_clashing : GoodIn wsX7_isClean wsX7_clashing := goodIn_r _ [5, 6, 7, 8, 4, 9, 10, 11, 12, 13, 14, 15, 16, 17, 18, 19, 20, 21, 22, 23, 24, 25, 26, 27, 28, 29, 30, 31, 32, 33, 34, 35, 36, 37] (by decide +kernel) (by decide +kernel)
set_option maxRecDepth 20000 in
theorem gX7_isClean_X7_clashing : GoodIn wsX7_isClean (wsV RX7 122 RX7 yX7_clashing wsX7_clashing) := goodIn_app (goodIn_of _ (by decide +kernel)) ggX7_isClean_X7_clashing
theorem dX7_isClean_0 : decode cX7_isClean 0 = .ok (.iconst 1, 1) := by decide +kernel
theorem dX7_isClean_1 : decode cX7_isClean 1 = .ok (.istore_n 2, 1) := by decide +kernel
theorem dX7_isClean_2 : decode cX7_isClean 2 = .ok (.iconst 0, 1) := by decide +kernel
theorem dX7_isClean_3 : decode cX7_isClean 3 = .ok (.istore_n 3, 1) := by decide +kernel
theorem dX7_isClean_4 : decode cX7_isClean 4 = .ok (.iload_n 3, 1) := by decide +kernel
theorem dX7_isClean_5 : decode cX7_isClean 5 = .ok (.bipush 6, 2) := by decide +kernel
theorem dX7_isClean_7 : decode cX7_isClean 7 = .ok (.if_icmp .ge 28, 3) := by decide +kernel
theorem dX7_isClean_10 : decode cX7_isClean 10 = .ok (.iload_n 2, 1) := by decide +kernel
theorem dX7_isClean_11 : decode cX7_isClean 11 = .ok (.ifCond .eq 24, 3) := by decide +kernel
theorem dX7_isClean_14 : decode cX7_isClean 14 = .ok (.aload_n 0, 1) := by decide +kernel
theorem dX7_isClean_15 : decode cX7_isClean 15 = .ok (.iload_n 1, 1) := by decide +kernel
theorem dX7_isClean_16 : decode cX7_isClean 16 = .ok (.iload_n 3, 1) := by decide +kernel
theorem dX7_isClean_17 : decode cX7_isClean 17 = .ok (.invokevirtual 122, 3) := by decide +kernel
theorem dX7_isClean_20 : decode cX7_isClean 20 = .ok (.ifCond .ne 7, 3) := by decide +kernel
theorem dX7_isClean_23 : decode cX7_isClean 23 = .ok (.iconst 1, 1) := by decide +kernel
theorem dX7_isClean_24 : decode cX7_isClean 24 = .ok (.goto 4, 3) := by decide +kernel
theorem dX7_isClean_27 : decode cX7_isClean 27 = .ok (.iconst 0, 1) := by decide +kernel
theorem dX7_isClean_28 : decode cX7_isClean 28 = .ok (.istore_n 2, 1) := by decide +kernel
theorem dX7_isClean_29 : decode cX7_isClean 29 = .ok (.iinc 3 1, 3) := by decide +kernel
theorem dX7_isClean_32 : decode cX7_isClean 32 = .ok (.goto (-28), 3) := by decide +kernel
theorem dX7_isClean_35 : decode cX7_isClean 35 = .ok (.iload_n 2, 1) := by decide +kernel
theorem dX7_isClean_36 : decode cX7_isClean 36 = .ok (.ireturn, 1) := by decide +kernel
set_option maxRecDepth 20000 in
theorem ggX7_cureNow_X7_ones : GoodIn wsX7_cureNow wsX7_ones := goodIn_r _ [5] (by decide +kernel) (by decide +kernel)
set_option maxRecDepth 20000 in
theorem gX7_cureNow_X7_ones : GoodIn wsX7_cureNow (va_wsS RX7 128 yX7_ones wsX7_ones) := goodIn_app (goodIn_of _ (by decide +kernel)) ggX7_cureNow_X7_ones
set_option maxRecDepth 20000 in
theorem ggX7_cureNow_X7_isClean : GoodIn wsX7_cureNow wsX7_isClean := goodIn_r _ [9, 10, 11, 12, 4, 13, 14, 15, 16, 17, 18, 19, 20, 21, 22, 23, 24, 25, 26, 27, 28, 29, 30, 31, 32, 33, 34, 35, 36, 37, 38, 39, 40, 41, 42, 43, 44, 45] (by decide +kernel) (by decide +kernel)
set_option maxRecDepth 20000 in
theorem gX7_cureNow_X7_isClean : GoodIn wsX7_cureNow (wsV RX7 134 RX7 yX7_isClean wsX7_isClean) := goodIn_app (goodIn_of _ (by decide +kernel)) ggX7_cureNow_X7_isClean
theorem dX7_cureNow_0 : decode cX7_cureNow 0 = .ok (.iconst 0, 1) := by decide +kernel
theorem dX7_cureNow_1 : decode cX7_cureNow 1 = .ok (.istore_n 1, 1) := by decide +kernel
theorem dX7_cureNow_2 : decode cX7_cureNow 2 = .ok (.iload_n 1, 1) := by decide +kernel
theorem dX7_cureNow_3 : decode cX7_cureNow 3 = .ok (.bipush 8, 2) := by decide +kernel
theorem dX7_cureNow_5 : decode cX7_cureNow 5 = .ok (.if_icmp .ge 60, 3) := by decide +kernel
theorem dX7_cureNow_8 : decode cX7_cureNow 8 = .ok (.iconst 0, 1) := by decide +kernel
theorem dX7_cureNow_9 : decode cX7_cureNow 9 = .ok (.istore_n 2, 1) := by decide +kernel
theorem dX7_cureNow_10 : decode cX7_cureNow 10 = .ok (.iload_n 2, 1) := by decide +kernel
theorem dX7_cureNow_11 : decode cX7_cureNow 11 = .ok (.sipush 256, 3) := by decide +kernel
theorem dX7_cureNow_14 : decode cX7_cureNow 14 = .ok (.if_icmp .ge 45, 3) := by decide +kernel
theorem dX7_cureNow_17 : decode cX7_cureNow 17 = .ok (.iload_n 2, 1) := by decide +kernel
theorem dX7_cureNow_18 : decode cX7_cureNow 18 = .ok (.aload_n 0, 1) := by decide +kernel
theorem dX7_cureNow_19 : decode cX7_cureNow 19 = .ok (.getfield 65, 3) := by decide +kernel
theorem dX7_cureNow_22 : decode cX7_cureNow 22 = .ok (.iconst (-1), 1) := by decide +kernel
theorem dX7_cureNow_23 : decode cX7_cureNow 23 = .ok (.ixor, 1) := by decide +kernel
theorem dX7_cureNow_24 : decode cX7_cureNow 24 = .ok (.iand, 1) := by decide +kernel
theorem dX7_cureNow_25 : decode cX7_cureNow 25 = .ok (.ifCond .ne 28, 3) := by decide +kernel
theorem dX7_cureNow_28 : decode cX7_cureNow 28 = .ok (.iload_n 2, 1) := by decide +kernel
theorem dX7_cureNow_29 : decode cX7_cureNow 29 = .ok (.invokestatic 128, 3) := by decide +kernel
theorem dX7_cureNow_32 : decode cX7_cureNow 32 = .ok (.iload_n 1, 1) := by decide +kernel
theorem dX7_cureNow_33 : decode cX7_cureNow 33 = .ok (.if_icmp .ne 20, 3) := by decide +kernel
theorem dX7_cureNow_36 : decode cX7_cureNow 36 = .ok (.aload_n 0, 1) := by decide +kernel
theorem dX7_cureNow_37 : decode cX7_cureNow 37 = .ok (.aload_n 0, 1) := by decide +kernel
theorem dX7_cureNow_38 : decode cX7_cureNow 38 = .ok (.getfield 65, 3) := by decide +kernel
theorem dX7_cureNow_41 : decode cX7_cureNow 41 = .ok (.iload_n 2, 1) := by decide +kernel
theorem dX7_cureNow_42 : decode cX7_cureNow 42 = .ok (.iconst (-1), 1) := by decide +kernel
theorem dX7_cureNow_43 : decode cX7_cureNow 43 = .ok (.ixor, 1) := by decide +kernel
theorem dX7_cureNow_44 : decode cX7_cureNow 44 = .ok (.iand, 1) := by decide +kernel
theorem dX7_cureNow_45 : decode cX7_cureNow 45 = .ok (.invokevirtual 134, 3) := by decide +kernel
theorem dX7_cureNow_48 : decode cX7_cureNow 48 = .ok (.ifCond .eq 5, 3) := by decide +kernel
theorem dX7_cureNow_51 : decode cX7_cureNow 51 = .ok (.iload_n 2, 1) := by decide +kernel
theorem dX7_cureNow_52 : decode cX7_cureNow 52 = .ok (.ireturn, 1) := by decide +kernel
theorem dX7_cureNow_53 : decode cX7_cureNow 53 = .ok (.iinc 2 1, 3) := by decide +kernel
theorem dX7_cureNow_56 : decode cX7_cureNow 56 = .ok (.goto (-46), 3) := by decide +kernel
theorem dX7_cureNow_59 : decode cX7_cureNow 59 = .ok (.iinc 1 1, 3) := by decide +kernel
theorem dX7_cureNow_62 : decode cX7_cureNow 62 = .ok (.goto (-60), 3) := by decide +kernel
theorem dX7_cureNow_65 : decode cX7_cureNow 65 = .ok (.aload_n 0, 1) := by decide +kernel
theorem dX7_cureNow_66 : decode cX7_cureNow 66 = .ok (.getfield 65, 3) := by decide +kernel
theorem dX7_cureNow_69 : decode cX7_cureNow 69 = .ok (.ireturn, 1) := by decide +kernel
set_option maxRecDepth 20000 in
theorem ggX7_cure_X7_cureNow : GoodIn wsX7_cure wsX7_cureNow := goodIn_r _ [5, 6, 7, 8, 4, 9, 10, 11, 12, 13, 14, 15, 16, 17, 18, 19, 20, 21, 22, 23, 24, 25, 26, 27, 28, 29, 30, 31, 32, 33, 34, 35, 36, 37, 38, 39, 40, 41, 42, 43, 44, 45, 46, 47, 48, 49] (by decide +kernel) (by decide +kernel)
set_option maxRecDepth 20000 in
theorem gX7_cure_X7_cureNow : GoodIn wsX7_cure (wsV RX7 137 RX7 yX7_cureNow wsX7_cureNow) := goodIn_app (goodIn_of _ (by decide +kernel)) ggX7_cure_X7_cureNow
theorem dX7_cure_0 : decode cX7_cure 0 = .ok (.aload_n 0, 1) := by decide +kernel
theorem dX7_cure_1 : decode cX7_cure 1 = .ok (.invokevirtual 137, 3) := by decide +kernel
theorem dX7_cure_4 : decode cX7_cure 4 = .ok (.ireturn, 1) := by decide +kernel
set_option maxRecDepth 20000 in
theorem ggX7_joins_X7_has : GoodIn wsX7_joins wsX7_has := goodIn_r _ [5] (by decide +kernel) (by decide +kernel)
set_option maxRecDepth 20000 in
theorem gX7_joins_X7_has : GoodIn wsX7_joins (va_wsS RX7 68 yX7_has wsX7_has) := goodIn_app (goodIn_of _ (by decide +kernel)) ggX7_joins_X7_has
set_option maxRecDepth 20000 in
theorem ggX7_joins_X7_usesOf : GoodIn wsX7_joins wsX7_usesOf := goodIn_r _ [9, 1, 10, 2, 3, 4, 5, 11, 12, 13, 14, 15, 16, 17, 18, 19, 20, 21, 22, 23, 24] (by decide +kernel) (by decide +kernel)
set_option maxRecDepth 20000 in
theorem gX7_joins_X7_usesOf : GoodIn wsX7_joins (wsV RX7 74 RX7 yX7_usesOf wsX7_usesOf) := goodIn_app (goodIn_of _ (by decide +kernel)) ggX7_joins_X7_usesOf
theorem dX7_joins_0 : decode cX7_joins 0 = .ok (.iconst 0, 1) := by decide +kernel
theorem dX7_joins_1 : decode cX7_joins 1 = .ok (.istore_n 1, 1) := by decide +kernel
theorem dX7_joins_2 : decode cX7_joins 2 = .ok (.iconst 0, 1) := by decide +kernel
theorem dX7_joins_3 : decode cX7_joins 3 = .ok (.istore_n 2, 1) := by decide +kernel
theorem dX7_joins_4 : decode cX7_joins 4 = .ok (.iload_n 2, 1) := by decide +kernel
theorem dX7_joins_5 : decode cX7_joins 5 = .ok (.bipush 8, 2) := by decide +kernel
theorem dX7_joins_7 : decode cX7_joins 7 = .ok (.if_icmp .ge 32, 3) := by decide +kernel
theorem dX7_joins_10 : decode cX7_joins 10 = .ok (.iload_n 1, 1) := by decide +kernel
theorem dX7_joins_11 : decode cX7_joins 11 = .ok (.aload_n 0, 1) := by decide +kernel
theorem dX7_joins_12 : decode cX7_joins 12 = .ok (.getfield 65, 3) := by decide +kernel
theorem dX7_joins_15 : decode cX7_joins 15 = .ok (.iload_n 2, 1) := by decide +kernel
theorem dX7_joins_16 : decode cX7_joins 16 = .ok (.invokestatic 68, 3) := by decide +kernel
theorem dX7_joins_19 : decode cX7_joins 19 = .ok (.ifCond .eq 11, 3) := by decide +kernel
theorem dX7_joins_22 : decode cX7_joins 22 = .ok (.aload_n 0, 1) := by decide +kernel
theorem dX7_joins_23 : decode cX7_joins 23 = .ok (.iload_n 2, 1) := by decide +kernel
theorem dX7_joins_24 : decode cX7_joins 24 = .ok (.invokevirtual 74, 3) := by decide +kernel
theorem dX7_joins_27 : decode cX7_joins 27 = .ok (.goto 4, 3) := by decide +kernel
theorem dX7_joins_30 : decode cX7_joins 30 = .ok (.iconst 0, 1) := by decide +kernel
theorem dX7_joins_31 : decode cX7_joins 31 = .ok (.iadd, 1) := by decide +kernel
theorem dX7_joins_32 : decode cX7_joins 32 = .ok (.istore_n 1, 1) := by decide +kernel
theorem dX7_joins_33 : decode cX7_joins 33 = .ok (.iinc 2 1, 3) := by decide +kernel
theorem dX7_joins_36 : decode cX7_joins 36 = .ok (.goto (-32), 3) := by decide +kernel
theorem dX7_joins_39 : decode cX7_joins 39 = .ok (.iload_n 1, 1) := by decide +kernel
theorem dX7_joins_40 : decode cX7_joins 40 = .ok (.ireturn, 1) := by decide +kernel
set_option maxRecDepth 20000 in
theorem ggX7_clashMany_X7_layClashes : GoodIn wsX7_clashMany wsX7_layClashes := goodIn_r _ [7, 1, 8, 2, 9, 10, 11, 6, 12, 13, 14, 15, 16, 17, 18, 19, 20, 21, 22, 23, 24, 25, 26, 27, 28, 29, 30, 34, 35, 36, 37, 38, 39, 40, 41, 42, 43, 44, 45, 46, 47] (by decide +kernel) (by decide +kernel)
set_option maxRecDepth 20000 in
theorem gX7_clashMany_X7_layClashes : GoodIn wsX7_clashMany (wsV RX7 125 RX7 yX7_layClashes wsX7_layClashes) := goodIn_app (goodIn_of _ (by decide +kernel)) ggX7_clashMany_X7_layClashes
set_option maxRecDepth 20000 in
theorem ggX7_clashMany_X7_ones : GoodIn wsX7_clashMany wsX7_ones := goodIn_r _ [33] (by decide +kernel) (by decide +kernel)
set_option maxRecDepth 20000 in
theorem gX7_clashMany_X7_ones : GoodIn wsX7_clashMany (va_wsS RX7 128 yX7_ones wsX7_ones) := goodIn_app (goodIn_of _ (by decide +kernel)) ggX7_clashMany_X7_ones
theorem dX7_clashMany_0 : decode cX7_clashMany 0 = .ok (.aload_n 0, 1) := by decide +kernel
theorem dX7_clashMany_1 : decode cX7_clashMany 1 = .ok (.invokevirtual 125, 3) := by decide +kernel
theorem dX7_clashMany_4 : decode cX7_clashMany 4 = .ok (.iconst 0, 1) := by decide +kernel
theorem dX7_clashMany_5 : decode cX7_clashMany 5 = .ok (.istore_n 2, 1) := by decide +kernel
theorem dX7_clashMany_6 : decode cX7_clashMany 6 = .ok (.iconst 0, 1) := by decide +kernel
theorem dX7_clashMany_7 : decode cX7_clashMany 7 = .ok (.istore_n 3, 1) := by decide +kernel
theorem dX7_clashMany_8 : decode cX7_clashMany 8 = .ok (.iload_n 3, 1) := by decide +kernel
theorem dX7_clashMany_9 : decode cX7_clashMany 9 = .ok (.aload_n 0, 1) := by decide +kernel
theorem dX7_clashMany_10 : decode cX7_clashMany 10 = .ok (.getfield 119, 3) := by decide +kernel
theorem dX7_clashMany_13 : decode cX7_clashMany 13 = .ok (.if_icmp .ge 23, 3) := by decide +kernel
theorem dX7_clashMany_16 : decode cX7_clashMany 16 = .ok (.iload_n 2, 1) := by decide +kernel
theorem dX7_clashMany_17 : decode cX7_clashMany 17 = .ok (.iconst 1, 1) := by decide +kernel
theorem dX7_clashMany_18 : decode cX7_clashMany 18 = .ok (.aload_n 0, 1) := by decide +kernel
theorem dX7_clashMany_19 : decode cX7_clashMany 19 = .ok (.getfield 28, 3) := by decide +kernel
theorem dX7_clashMany_22 : decode cX7_clashMany 22 = .ok (.iload_n 3, 1) := by decide +kernel
theorem dX7_clashMany_23 : decode cX7_clashMany 23 = .ok (.iaload, 1) := by decide +kernel
theorem dX7_clashMany_24 : decode cX7_clashMany 24 = .ok (.bipush 6, 2) := by decide +kernel
theorem dX7_clashMany_26 : decode cX7_clashMany 26 = .ok (.idiv, 1) := by decide +kernel
theorem dX7_clashMany_27 : decode cX7_clashMany 27 = .ok (.ishl, 1) := by decide +kernel
theorem dX7_clashMany_28 : decode cX7_clashMany 28 = .ok (.ior, 1) := by decide +kernel
theorem dX7_clashMany_29 : decode cX7_clashMany 29 = .ok (.istore_n 2, 1) := by decide +kernel
theorem dX7_clashMany_30 : decode cX7_clashMany 30 = .ok (.iinc 3 1, 3) := by decide +kernel
theorem dX7_clashMany_33 : decode cX7_clashMany 33 = .ok (.goto (-25), 3) := by decide +kernel
theorem dX7_clashMany_36 : decode cX7_clashMany 36 = .ok (.iload_n 1, 1) := by decide +kernel
theorem dX7_clashMany_37 : decode cX7_clashMany 37 = .ok (.ifCond .eq 10, 3) := by decide +kernel
theorem dX7_clashMany_40 : decode cX7_clashMany 40 = .ok (.iload_n 2, 1) := by decide +kernel
theorem dX7_clashMany_41 : decode cX7_clashMany 41 = .ok (.invokestatic 128, 3) := by decide +kernel
theorem dX7_clashMany_44 : decode cX7_clashMany 44 = .ok (.goto 7, 3) := by decide +kernel
theorem dX7_clashMany_47 : decode cX7_clashMany 47 = .ok (.aload_n 0, 1) := by decide +kernel
theorem dX7_clashMany_48 : decode cX7_clashMany 48 = .ok (.getfield 119, 3) := by decide +kernel
theorem dX7_clashMany_51 : decode cX7_clashMany 51 = .ok (.ireturn, 1) := by decide +kernel
set_option maxRecDepth 20000 in
theorem ggX7_howMany_X7_ones : GoodIn wsX7_howMany wsX7_ones := goodIn_r _ [8] (by decide +kernel) (by decide +kernel)
set_option maxRecDepth 20000 in
theorem gX7_howMany_X7_ones : GoodIn wsX7_howMany (va_wsS RX7 128 yX7_ones wsX7_ones) := goodIn_app (goodIn_of _ (by decide +kernel)) ggX7_howMany_X7_ones
set_option maxRecDepth 20000 in
theorem ggX7_howMany_X7_joins : GoodIn wsX7_howMany wsX7_joins := goodIn_r _ [12, 3, 13, 14, 7, 15, 16, 17, 18, 19, 20, 49, 50, 51, 52, 53, 54, 55, 56, 57, 58, 59, 60, 61, 62] (by decide +kernel) (by decide +kernel)
set_option maxRecDepth 20000 in
theorem gX7_howMany_X7_joins : GoodIn wsX7_howMany (wsV RX7 140 RX7 yX7_joins wsX7_joins) := goodIn_app (goodIn_of _ (by decide +kernel)) ggX7_howMany_X7_joins
set_option maxRecDepth 20000 in
theorem ggX7_howMany_X7_clashMany : GoodIn wsX7_howMany wsX7_clashMany := goodIn_r _ [24, 25, 26, 27, 28, 29, 7, 30, 3, 31, 32, 33, 34, 35, 36, 37, 38, 39, 40, 41, 42, 20, 13, 14, 15, 43, 44, 45, 46, 47, 48, 5, 6, 8, 49, 50, 51, 52, 53, 54, 55, 56, 57, 58, 59, 60, 61, 62] (by decide +kernel) (by decide +kernel)
set_option maxRecDepth 20000 in
theorem gX7_howMany_X7_clashMany : GoodIn wsX7_howMany (wsV RX7 143 RX7 yX7_clashMany wsX7_clashMany) := goodIn_app (goodIn_of _ (by decide +kernel)) ggX7_howMany_X7_clashMany
theorem dX7_howMany_0 : decode cX7_howMany 0 = .ok (.iload_n 1, 1) := by decide +kernel
theorem dX7_howMany_1 : decode cX7_howMany 1 = .ok (.tableswitch 92 0 7 #[47, 52, 57, 65, 70, 75, 81, 87], 47) := by decide +kernel
theorem dX7_howMany_48 : decode cX7_howMany 48 = .ok (.aload_n 0, 1) := by decide +kernel
theorem dX7_howMany_49 : decode cX7_howMany 49 = .ok (.getfield 35, 3) := by decide +kernel
theorem dX7_howMany_52 : decode cX7_howMany 52 = .ok (.ireturn, 1) := by decide +kernel
theorem dX7_howMany_53 : decode cX7_howMany 53 = .ok (.aload_n 0, 1) := by decide +kernel
theorem dX7_howMany_54 : decode cX7_howMany 54 = .ok (.getfield 47, 3) := by decide +kernel
theorem dX7_howMany_57 : decode cX7_howMany 57 = .ok (.ireturn, 1) := by decide +kernel
theorem dX7_howMany_58 : decode cX7_howMany 58 = .ok (.aload_n 0, 1) := by decide +kernel
theorem dX7_howMany_59 : decode cX7_howMany 59 = .ok (.getfield 65, 3) := by decide +kernel
theorem dX7_howMany_62 : decode cX7_howMany 62 = .ok (.invokestatic 128, 3) := by decide +kernel
theorem dX7_howMany_65 : decode cX7_howMany 65 = .ok (.ireturn, 1) := by decide +kernel
theorem dX7_howMany_66 : decode cX7_howMany 66 = .ok (.aload_n 0, 1) := by decide +kernel
theorem dX7_howMany_67 : decode cX7_howMany 67 = .ok (.getfield 65, 3) := by decide +kernel
theorem dX7_howMany_70 : decode cX7_howMany 70 = .ok (.ireturn, 1) := by decide +kernel
theorem dX7_howMany_71 : decode cX7_howMany 71 = .ok (.aload_n 0, 1) := by decide +kernel
theorem dX7_howMany_72 : decode cX7_howMany 72 = .ok (.invokevirtual 140, 3) := by decide +kernel
theorem dX7_howMany_75 : decode cX7_howMany 75 = .ok (.ireturn, 1) := by decide +kernel
theorem dX7_howMany_76 : decode cX7_howMany 76 = .ok (.aload_n 0, 1) := by decide +kernel
theorem dX7_howMany_77 : decode cX7_howMany 77 = .ok (.iconst 0, 1) := by decide +kernel
theorem dX7_howMany_78 : decode cX7_howMany 78 = .ok (.invokevirtual 143, 3) := by decide +kernel
theorem dX7_howMany_81 : decode cX7_howMany 81 = .ok (.ireturn, 1) := by decide +kernel
theorem dX7_howMany_82 : decode cX7_howMany 82 = .ok (.aload_n 0, 1) := by decide +kernel
theorem dX7_howMany_83 : decode cX7_howMany 83 = .ok (.iconst 1, 1) := by decide +kernel
theorem dX7_howMany_84 : decode cX7_howMany 84 = .ok (.invokevirtual 143, 3) := by decide +kernel
theorem dX7_howMany_87 : decode cX7_howMany 87 = .ok (.ireturn, 1) := by decide +kernel
theorem dX7_howMany_88 : decode cX7_howMany 88 = .ok (.aload_n 0, 1) := by decide +kernel
theorem dX7_howMany_89 : decode cX7_howMany 89 = .ok (.getfield 80, 3) := by decide +kernel
theorem dX7_howMany_92 : decode cX7_howMany 92 = .ok (.ireturn, 1) := by decide +kernel
theorem dX7_howMany_93 : decode cX7_howMany 93 = .ok (.sipush (-1002), 3) := by decide +kernel
theorem dX7_howMany_96 : decode cX7_howMany 96 = .ok (.ireturn, 1) := by decide +kernel
set_option maxRecDepth 20000 in
theorem ggX7_count_X7_howMany : GoodIn wsX7_count wsX7_howMany := goodIn_r _ [5, 6, 7, 8, 9, 10, 11, 4, 12, 13, 14, 15, 16, 17, 18, 19, 20, 21, 22, 23, 24, 25, 26, 27, 28, 29, 30, 31, 32, 33, 34, 35, 36, 37, 38, 39, 40, 41, 42, 43, 44, 45, 46, 47, 48, 49, 50, 51, 52, 53, 54, 55, 56, 57, 58, 59, 60, 61, 62, 63, 64, 65, 66] (by decide +kernel) (by decide +kernel)
set_option maxRecDepth 20000 in
theorem gX7_count_X7_howMany : GoodIn wsX7_count (wsV RX7 147 RX7 yX7_howMany wsX7_howMany) := goodIn_app (goodIn_of _ (by decide +kernel)) ggX7_count_X7_howMany
theorem dX7_count_0 : decode cX7_count 0 = .ok (.aload_n 0, 1) := by decide +kernel
theorem dX7_count_1 : decode cX7_count 1 = .ok (.iload_n 1, 1) := by decide +kernel
theorem dX7_count_2 : decode cX7_count 2 = .ok (.invokevirtual 147, 3) := by decide +kernel
theorem dX7_count_5 : decode cX7_count 5 = .ok (.ireturn, 1) := by decide +kernel
theorem dX7_mix_0 : decode cX7_mix 0 = .ok (.aload_n 0, 1) := by decide +kernel
theorem dX7_mix_1 : decode cX7_mix 1 = .ok (.ldc2_w 150, 3) := by decide +kernel
theorem dX7_mix_4 : decode cX7_mix 4 = .ok (.aload_n 0, 1) := by decide +kernel
theorem dX7_mix_5 : decode cX7_mix 5 = .ok (.getfield 152, 3) := by decide +kernel
theorem dX7_mix_8 : decode cX7_mix 8 = .ok (.lmul, 1) := by decide +kernel
theorem dX7_mix_9 : decode cX7_mix 9 = .ok (.lload_n 1, 1) := by decide +kernel
theorem dX7_mix_10 : decode cX7_mix 10 = .ok (.ladd, 1) := by decide +kernel
theorem dX7_mix_11 : decode cX7_mix 11 = .ok (.putfield 152, 3) := by decide +kernel
theorem dX7_mix_14 : decode cX7_mix 14 = .ok (.return_, 1) := by decide +kernel
set_option maxRecDepth 20000 in
theorem ggX7_mixPart_X7_mix : GoodIn wsX7_mixPart wsX7_mix := goodIn_r _ [7, 8, 9, 55, 56, 57, 58, 59, 60, 61, 62, 63, 64, 65, 66, 67, 68] (by decide +kernel) (by decide +kernel)
set_option maxRecDepth 20000 in
theorem gX7_mixPart_X7_mix : GoodIn wsX7_mixPart (wsV RX7 156 RX7 yX7_mix wsX7_mix) := goodIn_app (goodIn_of _ (by decide +kernel)) ggX7_mixPart_X7_mix
set_option maxRecDepth 20000 in
theorem ggX7_mixPart_X7_partNow : GoodIn wsX7_mixPart wsX7_partNow := goodIn_r _ [13, 14, 15, 16, 17, 6, 18, 19, 20, 21, 22, 2, 1, 23, 24, 25, 26, 27, 28, 29, 30, 31, 32, 33, 34, 35, 36, 37, 38, 39, 40, 41, 42, 43, 44, 45, 46, 47, 48, 49, 50, 55, 56, 57, 58, 59, 60, 61, 62, 63, 64, 65, 66, 67, 68] (by decide +kernel) (by decide +kernel)
set_option maxRecDepth 20000 in
theorem gX7_mixPart_X7_partNow : GoodIn wsX7_mixPart (wsV RX7 116 RX7 yX7_partNow wsX7_partNow) := goodIn_app (goodIn_of _ (by decide +kernel)) ggX7_mixPart_X7_partNow
set_option maxRecDepth 20000 in
theorem ggX7_mixPart_X7_heldNow : GoodIn wsX7_mixPart wsX7_heldNow := goodIn_r _ [54, 1, 42, 43, 44, 6, 45, 2, 23, 24, 25, 46, 47, 48, 49, 50, 14, 55, 56, 57, 58, 59, 60, 61, 62, 63, 64, 65, 66, 67, 68] (by decide +kernel) (by decide +kernel)
set_option maxRecDepth 20000 in
theorem gX7_mixPart_X7_heldNow : GoodIn wsX7_mixPart (wsV RX7 94 RX7 yX7_heldNow wsX7_heldNow) := goodIn_app (goodIn_of _ (by decide +kernel)) ggX7_mixPart_X7_heldNow
set_option maxRecDepth 20000 in
theorem ggX7_mixPart_X7_has : GoodIn wsX7_mixPart wsX7_has := goodIn_r _ [25] (by decide +kernel) (by decide +kernel)
set_option maxRecDepth 20000 in
theorem gX7_mixPart_X7_has : GoodIn wsX7_mixPart (va_wsS RX7 68 yX7_has wsX7_has) := goodIn_app (goodIn_of _ (by decide +kernel)) ggX7_mixPart_X7_has
theorem dX7_mixPart_0 : decode cX7_mixPart 0 = .ok (.aload_n 0, 1) := by decide +kernel
theorem dX7_mixPart_1 : decode cX7_mixPart 1 = .ok (.iload_n 1, 1) := by decide +kernel
theorem dX7_mixPart_2 : decode cX7_mixPart 2 = .ok (.i2l, 1) := by decide +kernel
theorem dX7_mixPart_3 : decode cX7_mixPart 3 = .ok (.invokevirtual 156, 3) := by decide +kernel
theorem dX7_mixPart_6 : decode cX7_mixPart 6 = .ok (.iconst 0, 1) := by decide +kernel
theorem dX7_mixPart_7 : decode cX7_mixPart 7 = .ok (.istore_n 2, 1) := by decide +kernel
theorem dX7_mixPart_8 : decode cX7_mixPart 8 = .ok (.iload_n 2, 1) := by decide +kernel
theorem dX7_mixPart_9 : decode cX7_mixPart 9 = .ok (.bipush 7, 2) := by decide +kernel
theorem dX7_mixPart_11 : decode cX7_mixPart 11 = .ok (.if_icmp .ge 20, 3) := by decide +kernel
theorem dX7_mixPart_14 : decode cX7_mixPart 14 = .ok (.aload_n 0, 1) := by decide +kernel
theorem dX7_mixPart_15 : decode cX7_mixPart 15 = .ok (.aload_n 0, 1) := by decide +kernel
theorem dX7_mixPart_16 : decode cX7_mixPart 16 = .ok (.iload_n 1, 1) := by decide +kernel
theorem dX7_mixPart_17 : decode cX7_mixPart 17 = .ok (.iload_n 2, 1) := by decide +kernel
theorem dX7_mixPart_18 : decode cX7_mixPart 18 = .ok (.invokevirtual 116, 3) := by decide +kernel
theorem dX7_mixPart_21 : decode cX7_mixPart 21 = .ok (.i2l, 1) := by decide +kernel
theorem dX7_mixPart_22 : decode cX7_mixPart 22 = .ok (.invokevirtual 156, 3) := by decide +kernel
theorem dX7_mixPart_25 : decode cX7_mixPart 25 = .ok (.iinc 2 1, 3) := by decide +kernel
theorem dX7_mixPart_28 : decode cX7_mixPart 28 = .ok (.goto (-20), 3) := by decide +kernel
theorem dX7_mixPart_31 : decode cX7_mixPart 31 = .ok (.iconst 0, 1) := by decide +kernel
theorem dX7_mixPart_32 : decode cX7_mixPart 32 = .ok (.istore_n 2, 1) := by decide +kernel
theorem dX7_mixPart_33 : decode cX7_mixPart 33 = .ok (.iload_n 2, 1) := by decide +kernel
theorem dX7_mixPart_34 : decode cX7_mixPart 34 = .ok (.bipush 12, 2) := by decide +kernel
theorem dX7_mixPart_36 : decode cX7_mixPart 36 = .ok (.if_icmp .ge 20, 3) := by decide +kernel
theorem dX7_mixPart_39 : decode cX7_mixPart 39 = .ok (.aload_n 0, 1) := by decide +kernel
theorem dX7_mixPart_40 : decode cX7_mixPart 40 = .ok (.aload_n 0, 1) := by decide +kernel
theorem dX7_mixPart_41 : decode cX7_mixPart 41 = .ok (.iload_n 1, 1) := by decide +kernel
theorem dX7_mixPart_42 : decode cX7_mixPart 42 = .ok (.iload_n 2, 1) := by decide +kernel
theorem dX7_mixPart_43 : decode cX7_mixPart 43 = .ok (.invokevirtual 94, 3) := by decide +kernel
theorem dX7_mixPart_46 : decode cX7_mixPart 46 = .ok (.i2l, 1) := by decide +kernel
theorem dX7_mixPart_47 : decode cX7_mixPart 47 = .ok (.invokevirtual 156, 3) := by decide +kernel
theorem dX7_mixPart_50 : decode cX7_mixPart 50 = .ok (.iinc 2 1, 3) := by decide +kernel
theorem dX7_mixPart_53 : decode cX7_mixPart 53 = .ok (.goto (-20), 3) := by decide +kernel
theorem dX7_mixPart_56 : decode cX7_mixPart 56 = .ok (.iconst 0, 1) := by decide +kernel
theorem dX7_mixPart_57 : decode cX7_mixPart 57 = .ok (.istore_n 2, 1) := by decide +kernel
theorem dX7_mixPart_58 : decode cX7_mixPart 58 = .ok (.iload_n 2, 1) := by decide +kernel
theorem dX7_mixPart_59 : decode cX7_mixPart 59 = .ok (.bipush 8, 2) := by decide +kernel
theorem dX7_mixPart_61 : decode cX7_mixPart 61 = .ok (.if_icmp .ge 36, 3) := by decide +kernel
theorem dX7_mixPart_64 : decode cX7_mixPart 64 = .ok (.aload_n 0, 1) := by decide +kernel
theorem dX7_mixPart_65 : decode cX7_mixPart 65 = .ok (.getfield 65, 3) := by decide +kernel
theorem dX7_mixPart_68 : decode cX7_mixPart 68 = .ok (.iload_n 2, 1) := by decide +kernel
theorem dX7_mixPart_69 : decode cX7_mixPart 69 = .ok (.invokestatic 68, 3) := by decide +kernel
theorem dX7_mixPart_72 : decode cX7_mixPart 72 = .ok (.ifCond .eq 19, 3) := by decide +kernel
theorem dX7_mixPart_75 : decode cX7_mixPart 75 = .ok (.aload_n 0, 1) := by decide +kernel
theorem dX7_mixPart_76 : decode cX7_mixPart 76 = .ok (.aload_n 0, 1) := by decide +kernel
theorem dX7_mixPart_77 : decode cX7_mixPart 77 = .ok (.getfield 19, 3) := by decide +kernel
theorem dX7_mixPart_80 : decode cX7_mixPart 80 = .ok (.bipush 8, 2) := by decide +kernel
theorem dX7_mixPart_82 : decode cX7_mixPart 82 = .ok (.iload_n 1, 1) := by decide +kernel
theorem dX7_mixPart_83 : decode cX7_mixPart 83 = .ok (.imul, 1) := by decide +kernel
theorem dX7_mixPart_84 : decode cX7_mixPart 84 = .ok (.iload_n 2, 1) := by decide +kernel
theorem dX7_mixPart_85 : decode cX7_mixPart 85 = .ok (.iadd, 1) := by decide +kernel
theorem dX7_mixPart_86 : decode cX7_mixPart 86 = .ok (.iaload, 1) := by decide +kernel
theorem dX7_mixPart_87 : decode cX7_mixPart 87 = .ok (.i2l, 1) := by decide +kernel
theorem dX7_mixPart_88 : decode cX7_mixPart 88 = .ok (.invokevirtual 156, 3) := by decide +kernel
theorem dX7_mixPart_91 : decode cX7_mixPart 91 = .ok (.iinc 2 1, 3) := by decide +kernel
theorem dX7_mixPart_94 : decode cX7_mixPart 94 = .ok (.goto (-36), 3) := by decide +kernel
theorem dX7_mixPart_97 : decode cX7_mixPart 97 = .ok (.return_, 1) := by decide +kernel
set_option maxRecDepth 20000 in
theorem ggX7_digest_X7_mix : GoodIn wsX7_digest wsX7_mix := goodIn_r _ [14, 15, 2, 101, 102, 103, 104, 105, 106, 107, 108, 109, 110, 111, 112, 113, 114] (by decide +kernel) (by decide +kernel)
set_option maxRecDepth 20000 in
theorem gX7_digest_X7_mix : GoodIn wsX7_digest (wsV RX7 156 RX7 yX7_mix wsX7_mix) := goodIn_app (goodIn_of _ (by decide +kernel)) ggX7_digest_X7_mix
set_option maxRecDepth 20000 in
theorem ggX7_digest_X7_has : GoodIn wsX7_digest wsX7_has := goodIn_r _ [18] (by decide +kernel) (by decide +kernel)
set_option maxRecDepth 20000 in
theorem gX7_digest_X7_has : GoodIn wsX7_digest (va_wsS RX7 68 yX7_has wsX7_has) := goodIn_app (goodIn_of _ (by decide +kernel)) ggX7_digest_X7_has
set_option maxRecDepth 20000 in
theorem ggX7_digest_X7_mixPart : GoodIn wsX7_digest wsX7_mixPart := goodIn_r _ [22, 5, 23, 10, 11, 12, 13, 14, 15, 2, 24, 25, 26, 27, 28, 29, 30, 31, 32, 33, 34, 35, 36, 16, 17, 18, 37, 38, 39, 40, 41, 42, 43, 44, 45, 46, 47, 48, 49, 50, 51, 52, 53, 54, 55, 56, 57, 58, 59, 60, 4, 61, 62, 63, 64, 101, 102, 103, 104, 105, 106, 107, 108, 109, 110, 111, 112, 113, 114] (by decide +kernel) (by decide +kernel)
set_option maxRecDepth 20000 in
theorem gX7_digest_X7_mixPart : GoodIn wsX7_digest (wsV RX7 162 RX7 yX7_mixPart wsX7_mixPart) := goodIn_app (goodIn_of _ (by decide +kernel)) ggX7_digest_X7_mixPart
set_option maxRecDepth 20000 in
theorem ggX7_digest_X7_layClashes : GoodIn wsX7_digest wsX7_layClashes := goodIn_r _ [68, 6, 5, 7, 69, 70, 71, 13, 72, 49, 50, 51, 52, 53, 54, 55, 56, 23, 16, 17, 18, 57, 58, 59, 60, 4, 28, 101, 102, 103, 104, 105, 106, 107, 108, 109, 110, 111, 112, 113, 114] (by decide +kernel) (by decide +kernel)
set_option maxRecDepth 20000 in
theorem gX7_digest_X7_layClashes : GoodIn wsX7_digest (wsV RX7 125 RX7 yX7_layClashes wsX7_layClashes) := goodIn_app (goodIn_of _ (by decide +kernel)) ggX7_digest_X7_layClashes
set_option maxRecDepth 20000 in
theorem ggX7_digest_X7_causeNow : GoodIn wsX7_digest wsX7_causeNow := goodIn_r _ [76, 5, 16, 17, 13, 18, 77, 78, 79, 69, 70, 71, 72, 49, 50, 51, 52, 53, 54, 55, 56, 23, 57, 58, 59, 60, 4, 28, 101, 102, 103, 104, 105, 106, 107, 108, 109, 110, 111, 112, 113, 114] (by decide +kernel) (by decide +kernel)
set_option maxRecDepth 20000 in
theorem gX7_digest_X7_causeNow : GoodIn wsX7_digest (wsV RX7 131 RX7 yX7_causeNow wsX7_causeNow) := goodIn_app (goodIn_of _ (by decide +kernel)) ggX7_digest_X7_causeNow
set_option maxRecDepth 20000 in
theorem ggX7_digest_X7_cureNow : GoodIn wsX7_digest wsX7_cureNow := goodIn_r _ [83, 5, 77, 78, 13, 79, 84, 85, 86, 87, 69, 70, 71, 72, 49, 50, 51, 52, 53, 54, 55, 56, 23, 16, 17, 18, 57, 58, 59, 60, 4, 28, 101, 102, 103, 104, 105, 106, 107, 108, 109, 110, 111, 112, 113, 114] (by decide +kernel) (by decide +kernel)
set_option maxRecDepth 20000 in
theorem gX7_digest_X7_cureNow : GoodIn wsX7_digest (wsV RX7 137 RX7 yX7_cureNow wsX7_cureNow) := goodIn_app (goodIn_of _ (by decide +kernel)) ggX7_digest_X7_cureNow
set_option maxRecDepth 20000 in
theorem ggX7_digest_X7_howMany : GoodIn wsX7_digest wsX7_howMany := goodIn_r _ [91, 8, 3, 5, 92, 77, 78, 13, 79, 93, 94, 95, 96, 16, 17, 18, 37, 38, 39, 40, 23, 97, 98, 99, 100, 6, 7, 65, 66, 67, 68, 69, 70, 71, 72, 49, 50, 51, 52, 53, 54, 55, 56, 57, 58, 59, 60, 4, 28, 101, 102, 103, 104, 105, 106, 107, 108, 109, 110, 111, 112, 113, 114] (by decide +kernel) (by decide +kernel)
set_option maxRecDepth 20000 in
theorem gX7_digest_X7_howMany : GoodIn wsX7_digest (wsV RX7 147 RX7 yX7_howMany wsX7_howMany) := goodIn_app (goodIn_of _ (by decide +kernel)) ggX7_digest_X7_howMany
theorem dX7_digest_0 : decode cX7_digest 0 = .ok (.aload_n 0, 1) := by decide +kernel
theorem dX7_digest_1 : decode cX7_digest 1 = .ok (.ldc2_w 160, 3) := by decide +kernel
theorem dX7_digest_4 : decode cX7_digest 4 = .ok (.putfield 152, 3) := by decide +kernel
theorem dX7_digest_7 : decode cX7_digest 7 = .ok (.iconst 0, 1) := by decide +kernel
theorem dX7_digest_8 : decode cX7_digest 8 = .ok (.istore_n 1, 1) := by decide +kernel
theorem dX7_digest_9 : decode cX7_digest 9 = .ok (.iload_n 1, 1) := by decide +kernel
theorem dX7_digest_10 : decode cX7_digest 10 = .ok (.bipush 12, 2) := by decide +kernel
theorem dX7_digest_12 : decode cX7_digest 12 = .ok (.aload_n 0, 1) := by decide +kernel
theorem dX7_digest_13 : decode cX7_digest 13 = .ok (.getfield 47, 3) := by decide +kernel
theorem dX7_digest_16 : decode cX7_digest 16 = .ok (.imul, 1) := by decide +kernel
theorem dX7_digest_17 : decode cX7_digest 17 = .ok (.if_icmp .ge 20, 3) := by decide +kernel
theorem dX7_digest_20 : decode cX7_digest 20 = .ok (.aload_n 0, 1) := by decide +kernel
theorem dX7_digest_21 : decode cX7_digest 21 = .ok (.aload_n 0, 1) := by decide +kernel
theorem dX7_digest_22 : decode cX7_digest 22 = .ok (.getfield 13, 3) := by decide +kernel
theorem dX7_digest_25 : decode cX7_digest 25 = .ok (.iload_n 1, 1) := by decide +kernel
theorem dX7_digest_26 : decode cX7_digest 26 = .ok (.iaload, 1) := by decide +kernel
theorem dX7_digest_27 : decode cX7_digest 27 = .ok (.i2l, 1) := by decide +kernel
theorem dX7_digest_28 : decode cX7_digest 28 = .ok (.invokevirtual 156, 3) := by decide +kernel
theorem dX7_digest_31 : decode cX7_digest 31 = .ok (.iinc 1 1, 3) := by decide +kernel
theorem dX7_digest_34 : decode cX7_digest 34 = .ok (.goto (-25), 3) := by decide +kernel
theorem dX7_digest_37 : decode cX7_digest 37 = .ok (.iconst 0, 1) := by decide +kernel
theorem dX7_digest_38 : decode cX7_digest 38 = .ok (.istore_n 1, 1) := by decide +kernel
theorem dX7_digest_39 : decode cX7_digest 39 = .ok (.iload_n 1, 1) := by decide +kernel
theorem dX7_digest_40 : decode cX7_digest 40 = .ok (.bipush 8, 2) := by decide +kernel
theorem dX7_digest_42 : decode cX7_digest 42 = .ok (.if_icmp .ge 25, 3) := by decide +kernel
theorem dX7_digest_45 : decode cX7_digest 45 = .ok (.aload_n 0, 1) := by decide +kernel
theorem dX7_digest_46 : decode cX7_digest 46 = .ok (.getfield 65, 3) := by decide +kernel
theorem dX7_digest_49 : decode cX7_digest 49 = .ok (.iload_n 1, 1) := by decide +kernel
theorem dX7_digest_50 : decode cX7_digest 50 = .ok (.invokestatic 68, 3) := by decide +kernel
theorem dX7_digest_53 : decode cX7_digest 53 = .ok (.ifCond .eq 8, 3) := by decide +kernel
theorem dX7_digest_56 : decode cX7_digest 56 = .ok (.aload_n 0, 1) := by decide +kernel
theorem dX7_digest_57 : decode cX7_digest 57 = .ok (.iload_n 1, 1) := by decide +kernel
theorem dX7_digest_58 : decode cX7_digest 58 = .ok (.invokevirtual 162, 3) := by decide +kernel
theorem dX7_digest_61 : decode cX7_digest 61 = .ok (.iinc 1 1, 3) := by decide +kernel
theorem dX7_digest_64 : decode cX7_digest 64 = .ok (.goto (-25), 3) := by decide +kernel
theorem dX7_digest_67 : decode cX7_digest 67 = .ok (.aload_n 0, 1) := by decide +kernel
theorem dX7_digest_68 : decode cX7_digest 68 = .ok (.invokevirtual 125, 3) := by decide +kernel
theorem dX7_digest_71 : decode cX7_digest 71 = .ok (.iconst 0, 1) := by decide +kernel
theorem dX7_digest_72 : decode cX7_digest 72 = .ok (.istore_n 1, 1) := by decide +kernel
theorem dX7_digest_73 : decode cX7_digest 73 = .ok (.iload_n 1, 1) := by decide +kernel
theorem dX7_digest_74 : decode cX7_digest 74 = .ok (.aload_n 0, 1) := by decide +kernel
theorem dX7_digest_75 : decode cX7_digest 75 = .ok (.getfield 119, 3) := by decide +kernel
theorem dX7_digest_78 : decode cX7_digest 78 = .ok (.if_icmp .ge 47, 3) := by decide +kernel
theorem dX7_digest_81 : decode cX7_digest 81 = .ok (.aload_n 0, 1) := by decide +kernel
theorem dX7_digest_82 : decode cX7_digest 82 = .ok (.aload_n 0, 1) := by decide +kernel
theorem dX7_digest_83 : decode cX7_digest 83 = .ok (.getfield 28, 3) := by decide +kernel
theorem dX7_digest_86 : decode cX7_digest 86 = .ok (.iload_n 1, 1) := by decide +kernel
theorem dX7_digest_87 : decode cX7_digest 87 = .ok (.iaload, 1) := by decide +kernel
theorem dX7_digest_88 : decode cX7_digest 88 = .ok (.i2l, 1) := by decide +kernel
theorem dX7_digest_89 : decode cX7_digest 89 = .ok (.invokevirtual 156, 3) := by decide +kernel
theorem dX7_digest_92 : decode cX7_digest 92 = .ok (.aload_n 0, 1) := by decide +kernel
theorem dX7_digest_93 : decode cX7_digest 93 = .ok (.aload_n 0, 1) := by decide +kernel
theorem dX7_digest_94 : decode cX7_digest 94 = .ok (.aload_n 0, 1) := by decide +kernel
theorem dX7_digest_95 : decode cX7_digest 95 = .ok (.getfield 28, 3) := by decide +kernel
theorem dX7_digest_98 : decode cX7_digest 98 = .ok (.iload_n 1, 1) := by decide +kernel
theorem dX7_digest_99 : decode cX7_digest 99 = .ok (.iaload, 1) := by decide +kernel
theorem dX7_digest_100 : decode cX7_digest 100 = .ok (.bipush 6, 2) := by decide +kernel
theorem dX7_digest_102 : decode cX7_digest 102 = .ok (.idiv, 1) := by decide +kernel
theorem dX7_digest_103 : decode cX7_digest 103 = .ok (.aload_n 0, 1) := by decide +kernel
theorem dX7_digest_104 : decode cX7_digest 104 = .ok (.getfield 28, 3) := by decide +kernel
theorem dX7_digest_107 : decode cX7_digest 107 = .ok (.iload_n 1, 1) := by decide +kernel
theorem dX7_digest_108 : decode cX7_digest 108 = .ok (.iaload, 1) := by decide +kernel
theorem dX7_digest_109 : decode cX7_digest 109 = .ok (.bipush 6, 2) := by decide +kernel
theorem dX7_digest_111 : decode cX7_digest 111 = .ok (.irem, 1) := by decide +kernel
theorem dX7_digest_112 : decode cX7_digest 112 = .ok (.invokevirtual 131, 3) := by decide +kernel
theorem dX7_digest_115 : decode cX7_digest 115 = .ok (.i2l, 1) := by decide +kernel
theorem dX7_digest_116 : decode cX7_digest 116 = .ok (.invokevirtual 156, 3) := by decide +kernel
theorem dX7_digest_119 : decode cX7_digest 119 = .ok (.iinc 1 1, 3) := by decide +kernel
theorem dX7_digest_122 : decode cX7_digest 122 = .ok (.goto (-49), 3) := by decide +kernel
theorem dX7_digest_125 : decode cX7_digest 125 = .ok (.aload_n 0, 1) := by decide +kernel
theorem dX7_digest_126 : decode cX7_digest 126 = .ok (.aload_n 0, 1) := by decide +kernel
theorem dX7_digest_127 : decode cX7_digest 127 = .ok (.invokevirtual 137, 3) := by decide +kernel
theorem dX7_digest_130 : decode cX7_digest 130 = .ok (.i2l, 1) := by decide +kernel
theorem dX7_digest_131 : decode cX7_digest 131 = .ok (.invokevirtual 156, 3) := by decide +kernel
theorem dX7_digest_134 : decode cX7_digest 134 = .ok (.iconst 0, 1) := by decide +kernel
theorem dX7_digest_135 : decode cX7_digest 135 = .ok (.istore_n 1, 1) := by decide +kernel
theorem dX7_digest_136 : decode cX7_digest 136 = .ok (.iload_n 1, 1) := by decide +kernel
theorem dX7_digest_137 : decode cX7_digest 137 = .ok (.aload_n 0, 1) := by decide +kernel
theorem dX7_digest_138 : decode cX7_digest 138 = .ok (.getfield 35, 3) := by decide +kernel
theorem dX7_digest_141 : decode cX7_digest 141 = .ok (.if_icmp .ge 20, 3) := by decide +kernel
theorem dX7_digest_144 : decode cX7_digest 144 = .ok (.aload_n 0, 1) := by decide +kernel
theorem dX7_digest_145 : decode cX7_digest 145 = .ok (.aload_n 0, 1) := by decide +kernel
theorem dX7_digest_146 : decode cX7_digest 146 = .ok (.getfield 7, 3) := by decide +kernel
theorem dX7_digest_149 : decode cX7_digest 149 = .ok (.iload_n 1, 1) := by decide +kernel
theorem dX7_digest_150 : decode cX7_digest 150 = .ok (.iaload, 1) := by decide +kernel
theorem dX7_digest_151 : decode cX7_digest 151 = .ok (.i2l, 1) := by decide +kernel
theorem dX7_digest_152 : decode cX7_digest 152 = .ok (.invokevirtual 156, 3) := by decide +kernel
theorem dX7_digest_155 : decode cX7_digest 155 = .ok (.iinc 1 1, 3) := by decide +kernel
theorem dX7_digest_158 : decode cX7_digest 158 = .ok (.goto (-22), 3) := by decide +kernel
theorem dX7_digest_161 : decode cX7_digest 161 = .ok (.iconst 0, 1) := by decide +kernel
theorem dX7_digest_162 : decode cX7_digest 162 = .ok (.istore_n 1, 1) := by decide +kernel
theorem dX7_digest_163 : decode cX7_digest 163 = .ok (.iload_n 1, 1) := by decide +kernel
theorem dX7_digest_164 : decode cX7_digest 164 = .ok (.bipush 8, 2) := by decide +kernel
theorem dX7_digest_166 : decode cX7_digest 166 = .ok (.if_icmp .ge 19, 3) := by decide +kernel
theorem dX7_digest_169 : decode cX7_digest 169 = .ok (.aload_n 0, 1) := by decide +kernel
theorem dX7_digest_170 : decode cX7_digest 170 = .ok (.aload_n 0, 1) := by decide +kernel
theorem dX7_digest_171 : decode cX7_digest 171 = .ok (.iload_n 1, 1) := by decide +kernel
theorem dX7_digest_172 : decode cX7_digest 172 = .ok (.invokevirtual 147, 3) := by decide +kernel
theorem dX7_digest_175 : decode cX7_digest 175 = .ok (.i2l, 1) := by decide +kernel
theorem dX7_digest_176 : decode cX7_digest 176 = .ok (.invokevirtual 156, 3) := by decide +kernel
theorem dX7_digest_179 : decode cX7_digest 179 = .ok (.iinc 1 1, 3) := by decide +kernel
theorem dX7_digest_182 : decode cX7_digest 182 = .ok (.goto (-19), 3) := by decide +kernel
theorem dX7_digest_185 : decode cX7_digest 185 = .ok (.aload_n 0, 1) := by decide +kernel
theorem dX7_digest_186 : decode cX7_digest 186 = .ok (.getfield 152, 3) := by decide +kernel
theorem dX7_digest_189 : decode cX7_digest 189 = .ok (.lreturn, 1) := by decide +kernel
theorem dJ6_bitCount_0f7a4_0 : decode cJ6_bitCount_0f7a4 0 = .ok (.iload_n 0, 1) := by decide +kernel
theorem dJ6_bitCount_0f7a4_1 : decode cJ6_bitCount_0f7a4 1 = .ok (.iload_n 0, 1) := by decide +kernel
theorem dJ6_bitCount_0f7a4_2 : decode cJ6_bitCount_0f7a4 2 = .ok (.iconst 1, 1) := by decide +kernel
theorem dJ6_bitCount_0f7a4_3 : decode cJ6_bitCount_0f7a4 3 = .ok (.iushr, 1) := by decide +kernel
theorem dJ6_bitCount_0f7a4_4 : decode cJ6_bitCount_0f7a4 4 = .ok (.ldc_w 265, 3) := by decide +kernel
theorem dJ6_bitCount_0f7a4_7 : decode cJ6_bitCount_0f7a4 7 = .ok (.iand, 1) := by decide +kernel
theorem dJ6_bitCount_0f7a4_8 : decode cJ6_bitCount_0f7a4 8 = .ok (.isub, 1) := by decide +kernel
theorem dJ6_bitCount_0f7a4_9 : decode cJ6_bitCount_0f7a4 9 = .ok (.istore_n 0, 1) := by decide +kernel
theorem dJ6_bitCount_0f7a4_10 : decode cJ6_bitCount_0f7a4 10 = .ok (.iload_n 0, 1) := by decide +kernel
theorem dJ6_bitCount_0f7a4_11 : decode cJ6_bitCount_0f7a4 11 = .ok (.ldc_w 266, 3) := by decide +kernel
theorem dJ6_bitCount_0f7a4_14 : decode cJ6_bitCount_0f7a4 14 = .ok (.iand, 1) := by decide +kernel
theorem dJ6_bitCount_0f7a4_15 : decode cJ6_bitCount_0f7a4 15 = .ok (.iload_n 0, 1) := by decide +kernel
theorem dJ6_bitCount_0f7a4_16 : decode cJ6_bitCount_0f7a4 16 = .ok (.iconst 2, 1) := by decide +kernel
theorem dJ6_bitCount_0f7a4_17 : decode cJ6_bitCount_0f7a4 17 = .ok (.iushr, 1) := by decide +kernel
theorem dJ6_bitCount_0f7a4_18 : decode cJ6_bitCount_0f7a4 18 = .ok (.ldc_w 266, 3) := by decide +kernel
theorem dJ6_bitCount_0f7a4_21 : decode cJ6_bitCount_0f7a4 21 = .ok (.iand, 1) := by decide +kernel
theorem dJ6_bitCount_0f7a4_22 : decode cJ6_bitCount_0f7a4 22 = .ok (.iadd, 1) := by decide +kernel
theorem dJ6_bitCount_0f7a4_23 : decode cJ6_bitCount_0f7a4 23 = .ok (.istore_n 0, 1) := by decide +kernel
theorem dJ6_bitCount_0f7a4_24 : decode cJ6_bitCount_0f7a4 24 = .ok (.iload_n 0, 1) := by decide +kernel
theorem dJ6_bitCount_0f7a4_25 : decode cJ6_bitCount_0f7a4 25 = .ok (.iload_n 0, 1) := by decide +kernel
theorem dJ6_bitCount_0f7a4_26 : decode cJ6_bitCount_0f7a4 26 = .ok (.iconst 4, 1) := by decide +kernel
theorem dJ6_bitCount_0f7a4_27 : decode cJ6_bitCount_0f7a4 27 = .ok (.iushr, 1) := by decide +kernel
theorem dJ6_bitCount_0f7a4_28 : decode cJ6_bitCount_0f7a4 28 = .ok (.iadd, 1) := by decide +kernel
theorem dJ6_bitCount_0f7a4_29 : decode cJ6_bitCount_0f7a4 29 = .ok (.ldc_w 267, 3) := by decide +kernel
theorem dJ6_bitCount_0f7a4_32 : decode cJ6_bitCount_0f7a4 32 = .ok (.iand, 1) := by decide +kernel
theorem dJ6_bitCount_0f7a4_33 : decode cJ6_bitCount_0f7a4 33 = .ok (.istore_n 0, 1) := by decide +kernel
theorem dJ6_bitCount_0f7a4_34 : decode cJ6_bitCount_0f7a4 34 = .ok (.iload_n 0, 1) := by decide +kernel
theorem dJ6_bitCount_0f7a4_35 : decode cJ6_bitCount_0f7a4 35 = .ok (.iload_n 0, 1) := by decide +kernel
theorem dJ6_bitCount_0f7a4_36 : decode cJ6_bitCount_0f7a4 36 = .ok (.bipush 8, 2) := by decide +kernel
theorem dJ6_bitCount_0f7a4_38 : decode cJ6_bitCount_0f7a4 38 = .ok (.iushr, 1) := by decide +kernel
theorem dJ6_bitCount_0f7a4_39 : decode cJ6_bitCount_0f7a4 39 = .ok (.iadd, 1) := by decide +kernel
theorem dJ6_bitCount_0f7a4_40 : decode cJ6_bitCount_0f7a4 40 = .ok (.istore_n 0, 1) := by decide +kernel
theorem dJ6_bitCount_0f7a4_41 : decode cJ6_bitCount_0f7a4 41 = .ok (.iload_n 0, 1) := by decide +kernel
theorem dJ6_bitCount_0f7a4_42 : decode cJ6_bitCount_0f7a4 42 = .ok (.iload_n 0, 1) := by decide +kernel
theorem dJ6_bitCount_0f7a4_43 : decode cJ6_bitCount_0f7a4 43 = .ok (.bipush 16, 2) := by decide +kernel
theorem dJ6_bitCount_0f7a4_45 : decode cJ6_bitCount_0f7a4 45 = .ok (.iushr, 1) := by decide +kernel
theorem dJ6_bitCount_0f7a4_46 : decode cJ6_bitCount_0f7a4 46 = .ok (.iadd, 1) := by decide +kernel
theorem dJ6_bitCount_0f7a4_47 : decode cJ6_bitCount_0f7a4 47 = .ok (.istore_n 0, 1) := by decide +kernel
theorem dJ6_bitCount_0f7a4_48 : decode cJ6_bitCount_0f7a4 48 = .ok (.iload_n 0, 1) := by decide +kernel
theorem dJ6_bitCount_0f7a4_49 : decode cJ6_bitCount_0f7a4 49 = .ok (.bipush 63, 2) := by decide +kernel
theorem dJ6_bitCount_0f7a4_51 : decode cJ6_bitCount_0f7a4 51 = .ok (.iand, 1) := by decide +kernel
theorem dJ6_bitCount_0f7a4_52 : decode cJ6_bitCount_0f7a4 52 = .ok (.ireturn, 1) := by decide +kernel
theorem dJ13_bitCount_95d88_0 : decode cJ13_bitCount_95d88 0 = .ok (.lload_n 0, 1) := by decide +kernel
theorem dJ13_bitCount_95d88_1 : decode cJ13_bitCount_95d88 1 = .ok (.lload_n 0, 1) := by decide +kernel
theorem dJ13_bitCount_95d88_2 : decode cJ13_bitCount_95d88 2 = .ok (.iconst 1, 1) := by decide +kernel
theorem dJ13_bitCount_95d88_3 : decode cJ13_bitCount_95d88 3 = .ok (.lushr, 1) := by decide +kernel
theorem dJ13_bitCount_95d88_4 : decode cJ13_bitCount_95d88 4 = .ok (.ldc2_w 314, 3) := by decide +kernel
theorem dJ13_bitCount_95d88_7 : decode cJ13_bitCount_95d88 7 = .ok (.land, 1) := by decide +kernel
theorem dJ13_bitCount_95d88_8 : decode cJ13_bitCount_95d88 8 = .ok (.lsub, 1) := by decide +kernel
theorem dJ13_bitCount_95d88_9 : decode cJ13_bitCount_95d88 9 = .ok (.lstore_n 0, 1) := by decide +kernel
theorem dJ13_bitCount_95d88_10 : decode cJ13_bitCount_95d88 10 = .ok (.lload_n 0, 1) := by decide +kernel
theorem dJ13_bitCount_95d88_11 : decode cJ13_bitCount_95d88 11 = .ok (.ldc2_w 316, 3) := by decide +kernel
theorem dJ13_bitCount_95d88_14 : decode cJ13_bitCount_95d88 14 = .ok (.land, 1) := by decide +kernel
theorem dJ13_bitCount_95d88_15 : decode cJ13_bitCount_95d88 15 = .ok (.lload_n 0, 1) := by decide +kernel
theorem dJ13_bitCount_95d88_16 : decode cJ13_bitCount_95d88 16 = .ok (.iconst 2, 1) := by decide +kernel
theorem dJ13_bitCount_95d88_17 : decode cJ13_bitCount_95d88 17 = .ok (.lushr, 1) := by decide +kernel
theorem dJ13_bitCount_95d88_18 : decode cJ13_bitCount_95d88 18 = .ok (.ldc2_w 316, 3) := by decide +kernel
theorem dJ13_bitCount_95d88_21 : decode cJ13_bitCount_95d88 21 = .ok (.land, 1) := by decide +kernel
theorem dJ13_bitCount_95d88_22 : decode cJ13_bitCount_95d88 22 = .ok (.ladd, 1) := by decide +kernel
theorem dJ13_bitCount_95d88_23 : decode cJ13_bitCount_95d88 23 = .ok (.lstore_n 0, 1) := by decide +kernel
theorem dJ13_bitCount_95d88_24 : decode cJ13_bitCount_95d88 24 = .ok (.lload_n 0, 1) := by decide +kernel
theorem dJ13_bitCount_95d88_25 : decode cJ13_bitCount_95d88 25 = .ok (.lload_n 0, 1) := by decide +kernel
theorem dJ13_bitCount_95d88_26 : decode cJ13_bitCount_95d88 26 = .ok (.iconst 4, 1) := by decide +kernel
theorem dJ13_bitCount_95d88_27 : decode cJ13_bitCount_95d88 27 = .ok (.lushr, 1) := by decide +kernel
theorem dJ13_bitCount_95d88_28 : decode cJ13_bitCount_95d88 28 = .ok (.ladd, 1) := by decide +kernel
theorem dJ13_bitCount_95d88_29 : decode cJ13_bitCount_95d88 29 = .ok (.ldc2_w 318, 3) := by decide +kernel
theorem dJ13_bitCount_95d88_32 : decode cJ13_bitCount_95d88 32 = .ok (.land, 1) := by decide +kernel
theorem dJ13_bitCount_95d88_33 : decode cJ13_bitCount_95d88 33 = .ok (.lstore_n 0, 1) := by decide +kernel
theorem dJ13_bitCount_95d88_34 : decode cJ13_bitCount_95d88 34 = .ok (.lload_n 0, 1) := by decide +kernel
theorem dJ13_bitCount_95d88_35 : decode cJ13_bitCount_95d88 35 = .ok (.lload_n 0, 1) := by decide +kernel
theorem dJ13_bitCount_95d88_36 : decode cJ13_bitCount_95d88 36 = .ok (.bipush 8, 2) := by decide +kernel
theorem dJ13_bitCount_95d88_38 : decode cJ13_bitCount_95d88 38 = .ok (.lushr, 1) := by decide +kernel
theorem dJ13_bitCount_95d88_39 : decode cJ13_bitCount_95d88 39 = .ok (.ladd, 1) := by decide +kernel
theorem dJ13_bitCount_95d88_40 : decode cJ13_bitCount_95d88 40 = .ok (.lstore_n 0, 1) := by decide +kernel
theorem dJ13_bitCount_95d88_41 : decode cJ13_bitCount_95d88 41 = .ok (.lload_n 0, 1) := by decide +kernel
theorem dJ13_bitCount_95d88_42 : decode cJ13_bitCount_95d88 42 = .ok (.lload_n 0, 1) := by decide +kernel
theorem dJ13_bitCount_95d88_43 : decode cJ13_bitCount_95d88 43 = .ok (.bipush 16, 2) := by decide +kernel
theorem dJ13_bitCount_95d88_45 : decode cJ13_bitCount_95d88 45 = .ok (.lushr, 1) := by decide +kernel
theorem dJ13_bitCount_95d88_46 : decode cJ13_bitCount_95d88 46 = .ok (.ladd, 1) := by decide +kernel
theorem dJ13_bitCount_95d88_47 : decode cJ13_bitCount_95d88 47 = .ok (.lstore_n 0, 1) := by decide +kernel
theorem dJ13_bitCount_95d88_48 : decode cJ13_bitCount_95d88 48 = .ok (.lload_n 0, 1) := by decide +kernel
theorem dJ13_bitCount_95d88_49 : decode cJ13_bitCount_95d88 49 = .ok (.lload_n 0, 1) := by decide +kernel
theorem dJ13_bitCount_95d88_50 : decode cJ13_bitCount_95d88 50 = .ok (.bipush 32, 2) := by decide +kernel
theorem dJ13_bitCount_95d88_52 : decode cJ13_bitCount_95d88 52 = .ok (.lushr, 1) := by decide +kernel
theorem dJ13_bitCount_95d88_53 : decode cJ13_bitCount_95d88 53 = .ok (.ladd, 1) := by decide +kernel
theorem dJ13_bitCount_95d88_54 : decode cJ13_bitCount_95d88 54 = .ok (.lstore_n 0, 1) := by decide +kernel
theorem dJ13_bitCount_95d88_55 : decode cJ13_bitCount_95d88 55 = .ok (.lload_n 0, 1) := by decide +kernel
theorem dJ13_bitCount_95d88_56 : decode cJ13_bitCount_95d88 56 = .ok (.l2i, 1) := by decide +kernel
theorem dJ13_bitCount_95d88_57 : decode cJ13_bitCount_95d88 57 = .ok (.bipush 127, 2) := by decide +kernel
theorem dJ13_bitCount_95d88_59 : decode cJ13_bitCount_95d88 59 = .ok (.iand, 1) := by decide +kernel
theorem dJ13_bitCount_95d88_60 : decode cJ13_bitCount_95d88 60 = .ok (.ireturn, 1) := by decide +kernel
