theorem dX7_isTerms_1 : decode cX7_isTerms 1 = .ok (.iconst 0, 1) := by decide +kernel
theorem dX7_isTerms_2 : decode cX7_isTerms 2 = .ok (.aload_n 0, 1) := by decide +kernel
theorem dX7_isTerms_3 : decode cX7_isTerms 3 = .ok (.getfield 47, 3) := by decide +kernel
theorem dX7_isTerms_6 : decode cX7_isTerms 6 = .ok (.iconst 1, 1) := by decide +kernel
theorem dX7_isTerms_7 : decode cX7_isTerms 7 = .ok (.isub, 1) := by decide +kernel
theorem dX7_isTerms_8 : decode cX7_isTerms 8 = .ok (.invokestatic 31, 3) := by decide +kernel
theorem dX7_isTerms_11 : decode cX7_isTerms 11 = .ok (.ireturn, 1) := by decide +kernel
set_option maxRecDepth 20000 in
theorem ggX7_reach_X7_isTerms : GoodIn wsX7_reach wsX7_isTerms := goodIn_r _ [6, 7, 8, 9, 5, 10, 11, 12, 13, 14, 15, 16, 17, 18, 19, 20, 21, 22, 23, 24] (by decide +kernel) (by decide +kernel)
set_option maxRecDepth 20000 in
theorem gX7_reach_X7_isTerms : GoodIn wsX7_reach (wsV RX7 53 RX7 yX7_isTerms wsX7_isTerms) := goodIn_app (goodIn_of _ (by decide +kernel)) ggX7_reach_X7_isTerms
set_option maxRecDepth 20000 in
theorem ggX7_reach_X7_within : GoodIn wsX7_reach wsX7_within := goodIn_r _ [10] (by decide +kernel) (by decide +kernel)
set_option maxRecDepth 20000 in
theorem gX7_reach_X7_within : GoodIn wsX7_reach (va_wsS RX7 31 yX7_within wsX7_within) := goodIn_app (goodIn_of _ (by decide +kernel)) ggX7_reach_X7_within
theorem dX7_reach_0 : decode cX7_reach 0 = .ok (.aload_n 0, 1) := by decide +kernel
theorem dX7_reach_1 : decode cX7_reach 1 = .ok (.iload_n 1, 1) := by decide +kernel
theorem dX7_reach_2 : decode cX7_reach 2 = .ok (.invokevirtual 53, 3) := by decide +kernel
theorem dX7_reach_5 : decode cX7_reach 5 = .ok (.ifCond .ne 7, 3) := by decide +kernel
theorem dX7_reach_8 : decode cX7_reach 8 = .ok (.sipush (-1001), 3) := by decide +kernel
theorem dX7_reach_11 : decode cX7_reach 11 = .ok (.ireturn, 1) := by decide +kernel
theorem dX7_reach_12 : decode cX7_reach 12 = .ok (.iload_n 2, 1) := by decide +kernel
theorem dX7_reach_13 : decode cX7_reach 13 = .ok (.iconst 0, 1) := by decide +kernel
theorem dX7_reach_14 : decode cX7_reach 14 = .ok (.bipush 11, 2) := by decide +kernel
theorem dX7_reach_16 : decode cX7_reach 16 = .ok (.invokestatic 31, 3) := by decide +kernel
theorem dX7_reach_19 : decode cX7_reach 19 = .ok (.ifCond .eq 17, 3) := by decide +kernel
theorem dX7_reach_22 : decode cX7_reach 22 = .ok (.aload_n 0, 1) := by decide +kernel
theorem dX7_reach_23 : decode cX7_reach 23 = .ok (.getfield 13, 3) := by decide +kernel
theorem dX7_reach_26 : decode cX7_reach 26 = .ok (.bipush 12, 2) := by decide +kernel
theorem dX7_reach_28 : decode cX7_reach 28 = .ok (.iload_n 1, 1) := by decide +kernel
theorem dX7_reach_29 : decode cX7_reach 29 = .ok (.imul, 1) := by decide +kernel
theorem dX7_reach_30 : decode cX7_reach 30 = .ok (.iload_n 2, 1) := by decide +kernel
theorem dX7_reach_31 : decode cX7_reach 31 = .ok (.iadd, 1) := by decide +kernel
theorem dX7_reach_32 : decode cX7_reach 32 = .ok (.iaload, 1) := by decide +kernel
theorem dX7_reach_33 : decode cX7_reach 33 = .ok (.goto 6, 3) := by decide +kernel
theorem dX7_reach_36 : decode cX7_reach 36 = .ok (.sipush (-1002), 3) := by decide +kernel
theorem dX7_reach_39 : decode cX7_reach 39 = .ok (.ireturn, 1) := by decide +kernel
theorem dX7_isLooser_0 : decode cX7_isLooser 0 = .ok (.iconst 1, 1) := by decide +kernel
theorem dX7_isLooser_1 : decode cX7_isLooser 1 = .ok (.istore_n 3, 1) := by decide +kernel
theorem dX7_isLooser_2 : decode cX7_isLooser 2 = .ok (.iconst 0, 1) := by decide +kernel
theorem dX7_isLooser_3 : decode cX7_isLooser 3 = .ok (.istore 4, 2) := by decide +kernel
theorem dX7_isLooser_5 : decode cX7_isLooser 5 = .ok (.iload 4, 2) := by decide +kernel
theorem dX7_isLooser_7 : decode cX7_isLooser 7 = .ok (.bipush 12, 2) := by decide +kernel
theorem dX7_isLooser_9 : decode cX7_isLooser 9 = .ok (.if_icmp .ge 46, 3) := by decide +kernel
theorem dX7_isLooser_12 : decode cX7_isLooser 12 = .ok (.iload_n 3, 1) := by decide +kernel
theorem dX7_isLooser_13 : decode cX7_isLooser 13 = .ok (.ifCond .eq 34, 3) := by decide +kernel
theorem dX7_isLooser_16 : decode cX7_isLooser 16 = .ok (.aload_n 0, 1) := by decide +kernel
theorem dX7_isLooser_17 : decode cX7_isLooser 17 = .ok (.getfield 13, 3) := by decide +kernel
theorem dX7_isLooser_20 : decode cX7_isLooser 20 = .ok (.bipush 12, 2) := by decide +kernel
theorem dX7_isLooser_22 : decode cX7_isLooser 22 = .ok (.iload_n 1, 1) := by decide +kernel
theorem dX7_isLooser_23 : decode cX7_isLooser 23 = .ok (.imul, 1) := by decide +kernel
theorem dX7_isLooser_24 : decode cX7_isLooser 24 = .ok (.iload 4, 2) := by decide +kernel
theorem dX7_isLooser_26 : decode cX7_isLooser 26 = .ok (.iadd, 1) := by decide +kernel
theorem dX7_isLooser_27 : decode cX7_isLooser 27 = .ok (.iaload, 1) := by decide +kernel
theorem dX7_isLooser_28 : decode cX7_isLooser 28 = .ok (.aload_n 0, 1) := by decide +kernel
theorem dX7_isLooser_29 : decode cX7_isLooser 29 = .ok (.getfield 13, 3) := by decide +kernel
theorem dX7_isLooser_32 : decode cX7_isLooser 32 = .ok (.bipush 12, 2) := by decide +kernel
theorem dX7_isLooser_34 : decode cX7_isLooser 34 = .ok (.iload_n 2, 1) := by decide +kernel
theorem dX7_isLooser_35 : decode cX7_isLooser 35 = .ok (.imul, 1) := by decide +kernel
theorem dX7_isLooser_36 : decode cX7_isLooser 36 = .ok (.iload 4, 2) := by decide +kernel
theorem dX7_isLooser_38 : decode cX7_isLooser 38 = .ok (.iadd, 1) := by decide +kernel
theorem dX7_isLooser_39 : decode cX7_isLooser 39 = .ok (.iaload, 1) := by decide +kernel
theorem dX7_isLooser_40 : decode cX7_isLooser 40 = .ok (.if_icmp .gt 7, 3) := by decide +kernel
theorem dX7_isLooser_43 : decode cX7_isLooser 43 = .ok (.iconst 1, 1) := by decide +kernel
theorem dX7_isLooser_44 : decode cX7_isLooser 44 = .ok (.goto 4, 3) := by decide +kernel
theorem dX7_isLooser_47 : decode cX7_isLooser 47 = .ok (.iconst 0, 1) := by decide +kernel
theorem dX7_isLooser_48 : decode cX7_isLooser 48 = .ok (.istore_n 3, 1) := by decide +kernel
theorem dX7_isLooser_49 : decode cX7_isLooser 49 = .ok (.iinc 4 1, 3) := by decide +kernel
theorem dX7_isLooser_52 : decode cX7_isLooser 52 = .ok (.goto (-47), 3) := by decide +kernel
theorem dX7_isLooser_55 : decode cX7_isLooser 55 = .ok (.iload_n 3, 1) := by decide +kernel
theorem dX7_isLooser_56 : decode cX7_isLooser 56 = .ok (.ireturn, 1) := by decide +kernel
set_option maxRecDepth 20000 in
theorem ggX7_puts_X7_likeRead : GoodIn wsX7_puts wsX7_likeRead := goodIn_r _ [6, 7, 1, 8, 9, 10, 11, 12, 13, 14, 15, 16, 17, 18, 19, 20, 21] (by decide +kernel) (by decide +kernel)
set_option maxRecDepth 20000 in
theorem gX7_puts_X7_likeRead : GoodIn wsX7_puts (wsV RX7 50 RX7 yX7_likeRead wsX7_likeRead) := goodIn_app (goodIn_of _ (by decide +kernel)) ggX7_puts_X7_likeRead
theorem dX7_puts_0 : decode cX7_puts 0 = .ok (.iconst 0, 1) := by decide +kernel
theorem dX7_puts_1 : decode cX7_puts 1 = .ok (.istore 4, 2) := by decide +kernel
theorem dX7_puts_3 : decode cX7_puts 3 = .ok (.iload 4, 2) := by decide +kernel
theorem dX7_puts_5 : decode cX7_puts 5 = .ok (.bipush 12, 2) := by decide +kernel
theorem dX7_puts_7 : decode cX7_puts 7 = .ok (.if_icmp .ge 70, 3) := by decide +kernel
theorem dX7_puts_10 : decode cX7_puts 10 = .ok (.aload_n 0, 1) := by decide +kernel
theorem dX7_puts_11 : decode cX7_puts 11 = .ok (.getfield 13, 3) := by decide +kernel
theorem dX7_puts_14 : decode cX7_puts 14 = .ok (.bipush 12, 2) := by decide +kernel
theorem dX7_puts_16 : decode cX7_puts 16 = .ok (.iload_n 1, 1) := by decide +kernel
theorem dX7_puts_17 : decode cX7_puts 17 = .ok (.imul, 1) := by decide +kernel
theorem dX7_puts_18 : decode cX7_puts 18 = .ok (.iload 4, 2) := by decide +kernel
theorem dX7_puts_20 : decode cX7_puts 20 = .ok (.iadd, 1) := by decide +kernel
theorem dX7_puts_21 : decode cX7_puts 21 = .ok (.iaload, 1) := by decide +kernel
theorem dX7_puts_22 : decode cX7_puts 22 = .ok (.istore 5, 2) := by decide +kernel
theorem dX7_puts_24 : decode cX7_puts 24 = .ok (.aload_n 0, 1) := by decide +kernel
theorem dX7_puts_25 : decode cX7_puts 25 = .ok (.getfield 13, 3) := by decide +kernel
theorem dX7_puts_28 : decode cX7_puts 28 = .ok (.bipush 12, 2) := by decide +kernel
theorem dX7_puts_30 : decode cX7_puts 30 = .ok (.iload_n 2, 1) := by decide +kernel
theorem dX7_puts_31 : decode cX7_puts 31 = .ok (.imul, 1) := by decide +kernel
theorem dX7_puts_32 : decode cX7_puts 32 = .ok (.iload 4, 2) := by decide +kernel
theorem dX7_puts_34 : decode cX7_puts 34 = .ok (.iadd, 1) := by decide +kernel
theorem dX7_puts_35 : decode cX7_puts 35 = .ok (.iaload, 1) := by decide +kernel
theorem dX7_puts_36 : decode cX7_puts 36 = .ok (.istore 6, 2) := by decide +kernel
theorem dX7_puts_38 : decode cX7_puts 38 = .ok (.aload_n 0, 1) := by decide +kernel
theorem dX7_puts_39 : decode cX7_puts 39 = .ok (.getfield 13, 3) := by decide +kernel
theorem dX7_puts_42 : decode cX7_puts 42 = .ok (.bipush 96, 2) := by decide +kernel
theorem dX7_puts_44 : decode cX7_puts 44 = .ok (.iload 4, 2) := by decide +kernel
theorem dX7_puts_46 : decode cX7_puts 46 = .ok (.iadd, 1) := by decide +kernel
theorem dX7_puts_47 : decode cX7_puts 47 = .ok (.iload 5, 2) := by decide +kernel
theorem dX7_puts_49 : decode cX7_puts 49 = .ok (.iload 6, 2) := by decide +kernel
theorem dX7_puts_51 : decode cX7_puts 51 = .ok (.if_icmp .le 7, 3) := by decide +kernel
theorem dX7_puts_54 : decode cX7_puts 54 = .ok (.iconst 1, 1) := by decide +kernel
theorem dX7_puts_55 : decode cX7_puts 55 = .ok (.goto 4, 3) := by decide +kernel
theorem dX7_puts_58 : decode cX7_puts 58 = .ok (.iconst 0, 1) := by decide +kernel
theorem dX7_puts_59 : decode cX7_puts 59 = .ok (.iload_n 3, 1) := by decide +kernel
theorem dX7_puts_60 : decode cX7_puts 60 = .ok (.if_icmp .ne 8, 3) := by decide +kernel
theorem dX7_puts_63 : decode cX7_puts 63 = .ok (.iload 5, 2) := by decide +kernel
theorem dX7_puts_65 : decode cX7_puts 65 = .ok (.goto 5, 3) := by decide +kernel
theorem dX7_puts_68 : decode cX7_puts 68 = .ok (.iload 6, 2) := by decide +kernel
theorem dX7_puts_70 : decode cX7_puts 70 = .ok (.iastore, 1) := by decide +kernel
theorem dX7_puts_71 : decode cX7_puts 71 = .ok (.iinc 4 1, 3) := by decide +kernel
theorem dX7_puts_74 : decode cX7_puts 74 = .ok (.goto (-71), 3) := by decide +kernel
theorem dX7_puts_77 : decode cX7_puts 77 = .ok (.aload_n 0, 1) := by decide +kernel
theorem dX7_puts_78 : decode cX7_puts 78 = .ok (.bipush 96, 2) := by decide +kernel
theorem dX7_puts_80 : decode cX7_puts 80 = .ok (.invokevirtual 50, 3) := by decide +kernel
theorem dX7_puts_83 : decode cX7_puts 83 = .ok (.ireturn, 1) := by decide +kernel
set_option maxRecDepth 20000 in
theorem ggX7_two_X7_isTerms : GoodIn wsX7_two wsX7_isTerms := goodIn_r _ [5, 6, 7, 8, 4, 9, 23, 24, 25, 26, 27, 28, 29, 30, 31, 32, 33, 34, 35, 36] (by decide +kernel) (by decide +kernel)
set_option maxRecDepth 20000 in
theorem gX7_two_X7_isTerms : GoodIn wsX7_two (wsV RX7 53 RX7 yX7_isTerms wsX7_isTerms) := goodIn_app (goodIn_of _ (by decide +kernel)) ggX7_two_X7_isTerms
set_option maxRecDepth 20000 in
theorem ggX7_two_X7_within : GoodIn wsX7_two wsX7_within := goodIn_r _ [9] (by decide +kernel) (by decide +kernel)
set_option maxRecDepth 20000 in
theorem gX7_two_X7_within : GoodIn wsX7_two (va_wsS RX7 31 yX7_within wsX7_within) := goodIn_app (goodIn_of _ (by decide +kernel)) ggX7_two_X7_within
set_option maxRecDepth 20000 in
theorem ggX7_two_X7_isLooser : GoodIn wsX7_two wsX7_isLooser := goodIn_r _ [13, 14, 23, 24, 25, 26, 27, 28, 29, 30, 31, 32, 33, 34, 35, 36] (by decide +kernel) (by decide +kernel)
set_option maxRecDepth 20000 in
theorem gX7_two_X7_isLooser : GoodIn wsX7_two (wsV RX7 57 RX7 yX7_isLooser wsX7_isLooser) := goodIn_app (goodIn_of _ (by decide +kernel)) ggX7_two_X7_isLooser
set_option maxRecDepth 20000 in
theorem ggX7_two_X7_puts : GoodIn wsX7_two wsX7_puts := goodIn_r _ [18, 14, 19, 20, 21, 4, 22, 6, 23, 24, 25, 26, 27, 28, 29, 30, 31, 32, 33, 34, 35, 36] (by decide +kernel) (by decide +kernel)
set_option maxRecDepth 20000 in
theorem gX7_two_X7_puts : GoodIn wsX7_two (wsV RX7 61 RX7 yX7_puts wsX7_puts) := goodIn_app (goodIn_of _ (by decide +kernel)) ggX7_two_X7_puts
theorem dX7_two_0 : decode cX7_two 0 = .ok (.aload_n 0, 1) := by decide +kernel
theorem dX7_two_1 : decode cX7_two 1 = .ok (.iload_n 1, 1) := by decide +kernel
theorem dX7_two_2 : decode cX7_two 2 = .ok (.invokevirtual 53, 3) := by decide +kernel
theorem dX7_two_5 : decode cX7_two 5 = .ok (.ifCond .eq 11, 3) := by decide +kernel
theorem dX7_two_8 : decode cX7_two 8 = .ok (.aload_n 0, 1) := by decide +kernel
theorem dX7_two_9 : decode cX7_two 9 = .ok (.iload_n 2, 1) := by decide +kernel
theorem dX7_two_10 : decode cX7_two 10 = .ok (.invokevirtual 53, 3) := by decide +kernel
theorem dX7_two_13 : decode cX7_two 13 = .ok (.ifCond .ne 7, 3) := by decide +kernel
theorem dX7_two_16 : decode cX7_two 16 = .ok (.sipush (-1001), 3) := by decide +kernel
theorem dX7_two_19 : decode cX7_two 19 = .ok (.ireturn, 1) := by decide +kernel
theorem dX7_two_20 : decode cX7_two 20 = .ok (.iload_n 3, 1) := by decide +kernel
theorem dX7_two_21 : decode cX7_two 21 = .ok (.iconst 0, 1) := by decide +kernel
theorem dX7_two_22 : decode cX7_two 22 = .ok (.iconst 2, 1) := by decide +kernel
theorem dX7_two_23 : decode cX7_two 23 = .ok (.invokestatic 31, 3) := by decide +kernel
theorem dX7_two_26 : decode cX7_two 26 = .ok (.ifCond .ne 7, 3) := by decide +kernel
theorem dX7_two_29 : decode cX7_two 29 = .ok (.sipush (-1002), 3) := by decide +kernel
theorem dX7_two_32 : decode cX7_two 32 = .ok (.ireturn, 1) := by decide +kernel
theorem dX7_two_33 : decode cX7_two 33 = .ok (.iload_n 3, 1) := by decide +kernel
theorem dX7_two_34 : decode cX7_two 34 = .ok (.ifCond .ne 33, 3) := by decide +kernel
theorem dX7_two_37 : decode cX7_two 37 = .ok (.aload_n 0, 1) := by decide +kernel
theorem dX7_two_38 : decode cX7_two 38 = .ok (.iload_n 1, 1) := by decide +kernel
theorem dX7_two_39 : decode cX7_two 39 = .ok (.iload_n 2, 1) := by decide +kernel
theorem dX7_two_40 : decode cX7_two 40 = .ok (.invokevirtual 57, 3) := by decide +kernel
theorem dX7_two_43 : decode cX7_two 43 = .ok (.ifCond .eq 7, 3) := by decide +kernel
theorem dX7_two_46 : decode cX7_two 46 = .ok (.iconst 1, 1) := by decide +kernel
theorem dX7_two_47 : decode cX7_two 47 = .ok (.goto 4, 3) := by decide +kernel
theorem dX7_two_50 : decode cX7_two 50 = .ok (.iconst 0, 1) := by decide +kernel
theorem dX7_two_51 : decode cX7_two 51 = .ok (.aload_n 0, 1) := by decide +kernel
theorem dX7_two_52 : decode cX7_two 52 = .ok (.iload_n 2, 1) := by decide +kernel
theorem dX7_two_53 : decode cX7_two 53 = .ok (.iload_n 1, 1) := by decide +kernel
theorem dX7_two_54 : decode cX7_two 54 = .ok (.invokevirtual 57, 3) := by decide +kernel
theorem dX7_two_57 : decode cX7_two 57 = .ok (.ifCond .eq 7, 3) := by decide +kernel
theorem dX7_two_60 : decode cX7_two 60 = .ok (.iconst 2, 1) := by decide +kernel
theorem dX7_two_61 : decode cX7_two 61 = .ok (.goto 4, 3) := by decide +kernel
theorem dX7_two_64 : decode cX7_two 64 = .ok (.iconst 0, 1) := by decide +kernel
theorem dX7_two_65 : decode cX7_two 65 = .ok (.iadd, 1) := by decide +kernel
theorem dX7_two_66 : decode cX7_two 66 = .ok (.ireturn, 1) := by decide +kernel
theorem dX7_two_67 : decode cX7_two 67 = .ok (.aload_n 0, 1) := by decide +kernel
theorem dX7_two_68 : decode cX7_two 68 = .ok (.iload_n 1, 1) := by decide +kernel
theorem dX7_two_69 : decode cX7_two 69 = .ok (.iload_n 2, 1) := by decide +kernel
theorem dX7_two_70 : decode cX7_two 70 = .ok (.iload_n 3, 1) := by decide +kernel
theorem dX7_two_71 : decode cX7_two 71 = .ok (.iconst 1, 1) := by decide +kernel
theorem dX7_two_72 : decode cX7_two 72 = .ok (.if_icmp .ne 7, 3) := by decide +kernel
theorem dX7_two_75 : decode cX7_two 75 = .ok (.iconst 1, 1) := by decide +kernel
theorem dX7_two_76 : decode cX7_two 76 = .ok (.goto 4, 3) := by decide +kernel
theorem dX7_two_79 : decode cX7_two 79 = .ok (.iconst 0, 1) := by decide +kernel
theorem dX7_two_80 : decode cX7_two 80 = .ok (.invokevirtual 61, 3) := by decide +kernel
theorem dX7_two_83 : decode cX7_two 83 = .ok (.ireturn, 1) := by decide +kernel
set_option maxRecDepth 20000 in
theorem ggX7_isPart_X7_within : GoodIn wsX7_isPart wsX7_within := goodIn_r _ [5] (by decide +kernel) (by decide +kernel)
set_option maxRecDepth 20000 in
theorem gX7_isPart_X7_within : GoodIn wsX7_isPart (va_wsS RX7 31 yX7_within wsX7_within) := goodIn_app (goodIn_of _ (by decide +kernel)) ggX7_isPart_X7_within
set_option maxRecDepth 20000 in
theorem ggX7_isPart_X7_has : GoodIn wsX7_isPart wsX7_has := goodIn_r _ [8] (by decide +kernel) (by decide +kernel)
set_option maxRecDepth 20000 in
theorem gX7_isPart_X7_has : GoodIn wsX7_isPart (va_wsS RX7 68 yX7_has wsX7_has) := goodIn_app (goodIn_of _ (by decide +kernel)) ggX7_isPart_X7_has
theorem dX7_isPart_0 : decode cX7_isPart 0 = .ok (.iload_n 1, 1) := by decide +kernel
theorem dX7_isPart_1 : decode cX7_isPart 1 = .ok (.iconst 0, 1) := by decide +kernel
theorem dX7_isPart_2 : decode cX7_isPart 2 = .ok (.bipush 7, 2) := by decide +kernel
theorem dX7_isPart_4 : decode cX7_isPart 4 = .ok (.invokestatic 31, 3) := by decide +kernel
theorem dX7_isPart_7 : decode cX7_isPart 7 = .ok (.ifCond .eq 18, 3) := by decide +kernel
theorem dX7_isPart_10 : decode cX7_isPart 10 = .ok (.aload_n 0, 1) := by decide +kernel
theorem dX7_isPart_11 : decode cX7_isPart 11 = .ok (.getfield 65, 3) := by decide +kernel
theorem dX7_isPart_14 : decode cX7_isPart 14 = .ok (.iload_n 1, 1) := by decide +kernel
theorem dX7_isPart_15 : decode cX7_isPart 15 = .ok (.invokestatic 68, 3) := by decide +kernel
theorem dX7_isPart_18 : decode cX7_isPart 18 = .ok (.ifCond .eq 7, 3) := by decide +kernel
theorem dX7_isPart_21 : decode cX7_isPart 21 = .ok (.iconst 1, 1) := by decide +kernel
theorem dX7_isPart_22 : decode cX7_isPart 22 = .ok (.goto 4, 3) := by decide +kernel
theorem dX7_isPart_25 : decode cX7_isPart 25 = .ok (.iconst 0, 1) := by decide +kernel
theorem dX7_isPart_26 : decode cX7_isPart 26 = .ok (.ireturn, 1) := by decide +kernel
set_option maxRecDepth 20000 in
theorem ggX7_part_X7_isTerms : GoodIn wsX7_part wsX7_isTerms := goodIn_r _ [8, 9, 10, 11, 7, 12, 16, 17, 18, 19, 20, 21, 22, 23, 24, 25, 26, 27, 28, 29] (by decide +kernel) (by decide +kernel)
set_option maxRecDepth 20000 in
theorem gX7_part_X7_isTerms : GoodIn wsX7_part (wsV RX7 53 RX7 yX7_isTerms wsX7_isTerms) := goodIn_app (goodIn_of _ (by decide +kernel)) ggX7_part_X7_isTerms
set_option maxRecDepth 20000 in
theorem ggX7_part_X7_has : GoodIn wsX7_part wsX7_has := goodIn_r _ [15] (by decide +kernel) (by decide +kernel)
set_option maxRecDepth 20000 in
theorem gX7_part_X7_has : GoodIn wsX7_part (va_wsS RX7 68 yX7_has wsX7_has) := goodIn_app (goodIn_of _ (by decide +kernel)) ggX7_part_X7_has
theorem dX7_part_0 : decode cX7_part 0 = .ok (.aload_n 0, 1) := by decide +kernel
theorem dX7_part_1 : decode cX7_part 1 = .ok (.iload_n 1, 1) := by decide +kernel
theorem dX7_part_2 : decode cX7_part 2 = .ok (.invokevirtual 53, 3) := by decide +kernel
theorem dX7_part_5 : decode cX7_part 5 = .ok (.ifCond .ne 7, 3) := by decide +kernel
theorem dX7_part_8 : decode cX7_part 8 = .ok (.sipush (-1001), 3) := by decide +kernel
theorem dX7_part_11 : decode cX7_part 11 = .ok (.ireturn, 1) := by decide +kernel
theorem dX7_part_12 : decode cX7_part 12 = .ok (.aload_n 0, 1) := by decide +kernel
theorem dX7_part_13 : decode cX7_part 13 = .ok (.getfield 65, 3) := by decide +kernel
theorem dX7_part_16 : decode cX7_part 16 = .ok (.sipush 255, 3) := by decide +kernel
theorem dX7_part_19 : decode cX7_part 19 = .ok (.if_icmp .ne 7, 3) := by decide +kernel
theorem dX7_part_22 : decode cX7_part 22 = .ok (.sipush (-1004), 3) := by decide +kernel
theorem dX7_part_25 : decode cX7_part 25 = .ok (.ireturn, 1) := by decide +kernel
theorem dX7_part_26 : decode cX7_part 26 = .ok (.iconst 0, 1) := by decide +kernel
theorem dX7_part_27 : decode cX7_part 27 = .ok (.istore_n 2, 1) := by decide +kernel
theorem dX7_part_28 : decode cX7_part 28 = .ok (.aload_n 0, 1) := by decide +kernel
theorem dX7_part_29 : decode cX7_part 29 = .ok (.getfield 65, 3) := by decide +kernel
theorem dX7_part_32 : decode cX7_part 32 = .ok (.iload_n 2, 1) := by decide +kernel
theorem dX7_part_33 : decode cX7_part 33 = .ok (.invokestatic 68, 3) := by decide +kernel
theorem dX7_part_36 : decode cX7_part 36 = .ok (.ifCond .eq 9, 3) := by decide +kernel
theorem dX7_part_39 : decode cX7_part 39 = .ok (.iinc 2 1, 3) := by decide +kernel
theorem dX7_part_42 : decode cX7_part 42 = .ok (.goto (-14), 3) := by decide +kernel
theorem dX7_part_45 : decode cX7_part 45 = .ok (.aload_n 0, 1) := by decide +kernel
theorem dX7_part_46 : decode cX7_part 46 = .ok (.dup, 1) := by decide +kernel
theorem dX7_part_47 : decode cX7_part 47 = .ok (.getfield 65, 3) := by decide +kernel
theorem dX7_part_50 : decode cX7_part 50 = .ok (.iconst 1, 1) := by decide +kernel
theorem dX7_part_51 : decode cX7_part 51 = .ok (.iload_n 2, 1) := by decide +kernel
theorem dX7_part_52 : decode cX7_part 52 = .ok (.ishl, 1) := by decide +kernel
theorem dX7_part_53 : decode cX7_part 53 = .ok (.ior, 1) := by decide +kernel
theorem dX7_part_54 : decode cX7_part 54 = .ok (.putfield 65, 3) := by decide +kernel
theorem dX7_part_57 : decode cX7_part 57 = .ok (.aload_n 0, 1) := by decide +kernel
theorem dX7_part_58 : decode cX7_part 58 = .ok (.getfield 16, 3) := by decide +kernel
theorem dX7_part_61 : decode cX7_part 61 = .ok (.iload_n 2, 1) := by decide +kernel
theorem dX7_part_62 : decode cX7_part 62 = .ok (.iload_n 1, 1) := by decide +kernel
theorem dX7_part_63 : decode cX7_part 63 = .ok (.iastore, 1) := by decide +kernel
theorem dX7_part_64 : decode cX7_part 64 = .ok (.iconst 0, 1) := by decide +kernel
theorem dX7_part_65 : decode cX7_part 65 = .ok (.istore_n 3, 1) := by decide +kernel
theorem dX7_part_66 : decode cX7_part 66 = .ok (.iload_n 3, 1) := by decide +kernel
theorem dX7_part_67 : decode cX7_part 67 = .ok (.bipush 8, 2) := by decide +kernel
theorem dX7_part_69 : decode cX7_part 69 = .ok (.if_icmp .ge 33, 3) := by decide +kernel
theorem dX7_part_72 : decode cX7_part 72 = .ok (.aload_n 0, 1) := by decide +kernel
theorem dX7_part_73 : decode cX7_part 73 = .ok (.getfield 19, 3) := by decide +kernel
theorem dX7_part_76 : decode cX7_part 76 = .ok (.bipush 8, 2) := by decide +kernel
theorem dX7_part_78 : decode cX7_part 78 = .ok (.iload_n 2, 1) := by decide +kernel
theorem dX7_part_79 : decode cX7_part 79 = .ok (.imul, 1) := by decide +kernel
theorem dX7_part_80 : decode cX7_part 80 = .ok (.iload_n 3, 1) := by decide +kernel
theorem dX7_part_81 : decode cX7_part 81 = .ok (.iadd, 1) := by decide +kernel
theorem dX7_part_82 : decode cX7_part 82 = .ok (.iconst (-1), 1) := by decide +kernel
theorem dX7_part_83 : decode cX7_part 83 = .ok (.iastore, 1) := by decide +kernel
theorem dX7_part_84 : decode cX7_part 84 = .ok (.aload_n 0, 1) := by decide +kernel
theorem dX7_part_85 : decode cX7_part 85 = .ok (.getfield 19, 3) := by decide +kernel
theorem dX7_part_88 : decode cX7_part 88 = .ok (.bipush 8, 2) := by decide +kernel
theorem dX7_part_90 : decode cX7_part 90 = .ok (.iload_n 3, 1) := by decide +kernel
theorem dX7_part_91 : decode cX7_part 91 = .ok (.imul, 1) := by decide +kernel
theorem dX7_part_92 : decode cX7_part 92 = .ok (.iload_n 2, 1) := by decide +kernel
theorem dX7_part_93 : decode cX7_part 93 = .ok (.iadd, 1) := by decide +kernel
theorem dX7_part_94 : decode cX7_part 94 = .ok (.iconst (-1), 1) := by decide +kernel
theorem dX7_part_95 : decode cX7_part 95 = .ok (.iastore, 1) := by decide +kernel
theorem dX7_part_96 : decode cX7_part 96 = .ok (.iinc 3 1, 3) := by decide +kernel
theorem dX7_part_99 : decode cX7_part 99 = .ok (.goto (-33), 3) := by decide +kernel
theorem dX7_part_102 : decode cX7_part 102 = .ok (.iload_n 2, 1) := by decide +kernel
theorem dX7_part_103 : decode cX7_part 103 = .ok (.ireturn, 1) := by decide +kernel
set_option maxRecDepth 20000 in
theorem ggX7_give_X7_isPart : GoodIn wsX7_give wsX7_isPart := goodIn_r _ [6, 7, 8, 9, 5, 10, 11, 12, 13, 19, 20, 21, 22, 23, 24, 25, 26, 27, 28, 29, 30, 31, 32] (by decide +kernel) (by decide +kernel)
set_option maxRecDepth 20000 in
theorem gX7_give_X7_isPart : GoodIn wsX7_give (wsV RX7 71 RX7 yX7_isPart wsX7_isPart) := goodIn_app (goodIn_of _ (by decide +kernel)) ggX7_give_X7_isPart
set_option maxRecDepth 20000 in
theorem ggX7_give_X7_isTerms : GoodIn wsX7_give wsX7_isTerms := goodIn_r _ [17, 18, 8, 9, 5, 10, 19, 20, 21, 22, 23, 24, 25, 26, 27, 28, 29, 30, 31, 32] (by decide +kernel) (by decide +kernel)
set_option maxRecDepth 20000 in
theorem gX7_give_X7_isTerms : GoodIn wsX7_give (wsV RX7 53 RX7 yX7_isTerms wsX7_isTerms) := goodIn_app (goodIn_of _ (by decide +kernel)) ggX7_give_X7_isTerms
theorem dX7_give_0 : decode cX7_give 0 = .ok (.aload_n 0, 1) := by decide +kernel
theorem dX7_give_1 : decode cX7_give 1 = .ok (.iload_n 1, 1) := by decide +kernel
theorem dX7_give_2 : decode cX7_give 2 = .ok (.invokevirtual 71, 3) := by decide +kernel
theorem dX7_give_5 : decode cX7_give 5 = .ok (.ifCond .eq 11, 3) := by decide +kernel
theorem dX7_give_8 : decode cX7_give 8 = .ok (.aload_n 0, 1) := by decide +kernel
theorem dX7_give_9 : decode cX7_give 9 = .ok (.iload_n 2, 1) := by decide +kernel
theorem dX7_give_10 : decode cX7_give 10 = .ok (.invokevirtual 53, 3) := by decide +kernel
theorem dX7_give_13 : decode cX7_give 13 = .ok (.ifCond .ne 7, 3) := by decide +kernel
theorem dX7_give_16 : decode cX7_give 16 = .ok (.sipush (-1001), 3) := by decide +kernel
theorem dX7_give_19 : decode cX7_give 19 = .ok (.ireturn, 1) := by decide +kernel
theorem dX7_give_20 : decode cX7_give 20 = .ok (.aload_n 0, 1) := by decide +kernel
theorem dX7_give_21 : decode cX7_give 21 = .ok (.getfield 16, 3) := by decide +kernel
theorem dX7_give_24 : decode cX7_give 24 = .ok (.iload_n 1, 1) := by decide +kernel
theorem dX7_give_25 : decode cX7_give 25 = .ok (.iaload, 1) := by decide +kernel
theorem dX7_give_26 : decode cX7_give 26 = .ok (.istore_n 3, 1) := by decide +kernel
theorem dX7_give_27 : decode cX7_give 27 = .ok (.aload_n 0, 1) := by decide +kernel
theorem dX7_give_28 : decode cX7_give 28 = .ok (.getfield 16, 3) := by decide +kernel
theorem dX7_give_31 : decode cX7_give 31 = .ok (.iload_n 1, 1) := by decide +kernel
theorem dX7_give_32 : decode cX7_give 32 = .ok (.iload_n 2, 1) := by decide +kernel
theorem dX7_give_33 : decode cX7_give 33 = .ok (.iastore, 1) := by decide +kernel
theorem dX7_give_34 : decode cX7_give 34 = .ok (.iload_n 3, 1) := by decide +kernel
theorem dX7_give_35 : decode cX7_give 35 = .ok (.ireturn, 1) := by decide +kernel
set_option maxRecDepth 20000 in
theorem ggX7_usesOf_X7_has : GoodIn wsX7_usesOf wsX7_has := goodIn_r _ [6] (by decide +kernel) (by decide +kernel)
set_option maxRecDepth 20000 in
theorem gX7_usesOf_X7_has : GoodIn wsX7_usesOf (va_wsS RX7 68 yX7_has wsX7_has) := goodIn_app (goodIn_of _ (by decide +kernel)) ggX7_usesOf_X7_has
theorem dX7_usesOf_0 : decode cX7_usesOf 0 = .ok (.iconst 0, 1) := by decide +kernel
theorem dX7_usesOf_1 : decode cX7_usesOf 1 = .ok (.istore_n 2, 1) := by decide +kernel
theorem dX7_usesOf_2 : decode cX7_usesOf 2 = .ok (.iconst 0, 1) := by decide +kernel
theorem dX7_usesOf_3 : decode cX7_usesOf 3 = .ok (.istore_n 3, 1) := by decide +kernel
theorem dX7_usesOf_4 : decode cX7_usesOf 4 = .ok (.iload_n 3, 1) := by decide +kernel
theorem dX7_usesOf_5 : decode cX7_usesOf 5 = .ok (.bipush 8, 2) := by decide +kernel
theorem dX7_usesOf_7 : decode cX7_usesOf 7 = .ok (.if_icmp .ge 43, 3) := by decide +kernel
theorem dX7_usesOf_10 : decode cX7_usesOf 10 = .ok (.iload_n 2, 1) := by decide +kernel
theorem dX7_usesOf_11 : decode cX7_usesOf 11 = .ok (.aload_n 0, 1) := by decide +kernel
theorem dX7_usesOf_12 : decode cX7_usesOf 12 = .ok (.getfield 65, 3) := by decide +kernel
theorem dX7_usesOf_15 : decode cX7_usesOf 15 = .ok (.iload_n 3, 1) := by decide +kernel
theorem dX7_usesOf_16 : decode cX7_usesOf 16 = .ok (.invokestatic 68, 3) := by decide +kernel
theorem dX7_usesOf_19 : decode cX7_usesOf 19 = .ok (.ifCond .eq 22, 3) := by decide +kernel
theorem dX7_usesOf_22 : decode cX7_usesOf 22 = .ok (.aload_n 0, 1) := by decide +kernel
theorem dX7_usesOf_23 : decode cX7_usesOf 23 = .ok (.getfield 19, 3) := by decide +kernel
theorem dX7_usesOf_26 : decode cX7_usesOf 26 = .ok (.bipush 8, 2) := by decide +kernel
theorem dX7_usesOf_28 : decode cX7_usesOf 28 = .ok (.iload_n 1, 1) := by decide +kernel
theorem dX7_usesOf_29 : decode cX7_usesOf 29 = .ok (.imul, 1) := by decide +kernel
theorem dX7_usesOf_30 : decode cX7_usesOf 30 = .ok (.iload_n 3, 1) := by decide +kernel
theorem dX7_usesOf_31 : decode cX7_usesOf 31 = .ok (.iadd, 1) := by decide +kernel
theorem dX7_usesOf_32 : decode cX7_usesOf 32 = .ok (.iaload, 1) := by decide +kernel
theorem dX7_usesOf_33 : decode cX7_usesOf 33 = .ok (.iconst (-1), 1) := by decide +kernel
theorem dX7_usesOf_34 : decode cX7_usesOf 34 = .ok (.if_icmp .eq 7, 3) := by decide +kernel
theorem dX7_usesOf_37 : decode cX7_usesOf 37 = .ok (.iconst 1, 1) := by decide +kernel
theorem dX7_usesOf_38 : decode cX7_usesOf 38 = .ok (.goto 4, 3) := by decide +kernel
theorem dX7_usesOf_41 : decode cX7_usesOf 41 = .ok (.iconst 0, 1) := by decide +kernel
theorem dX7_usesOf_42 : decode cX7_usesOf 42 = .ok (.iadd, 1) := by decide +kernel
theorem dX7_usesOf_43 : decode cX7_usesOf 43 = .ok (.istore_n 2, 1) := by decide +kernel
theorem dX7_usesOf_44 : decode cX7_usesOf 44 = .ok (.iinc 3 1, 3) := by decide +kernel
theorem dX7_usesOf_47 : decode cX7_usesOf 47 = .ok (.goto (-43), 3) := by decide +kernel
theorem dX7_usesOf_50 : decode cX7_usesOf 50 = .ok (.iload_n 2, 1) := by decide +kernel
theorem dX7_usesOf_51 : decode cX7_usesOf 51 = .ok (.ireturn, 1) := by decide +kernel
set_option maxRecDepth 20000 in
theorem ggX7_usersOf_X7_has : GoodIn wsX7_usersOf wsX7_has := goodIn_r _ [6] (by decide +kernel) (by decide +kernel)
set_option maxRecDepth 20000 in
theorem gX7_usersOf_X7_has : GoodIn wsX7_usersOf (va_wsS RX7 68 yX7_has wsX7_has) := goodIn_app (goodIn_of _ (by decide +kernel)) ggX7_usersOf_X7_has
theorem dX7_usersOf_0 : decode cX7_usersOf 0 = .ok (.iconst 0, 1) := by decide +kernel
theorem dX7_usersOf_1 : decode cX7_usersOf 1 = .ok (.istore_n 2, 1) := by decide +kernel
theorem dX7_usersOf_2 : decode cX7_usersOf 2 = .ok (.iconst 0, 1) := by decide +kernel
theorem dX7_usersOf_3 : decode cX7_usersOf 3 = .ok (.istore_n 3, 1) := by decide +kernel
theorem dX7_usersOf_4 : decode cX7_usersOf 4 = .ok (.iload_n 3, 1) := by decide +kernel
theorem dX7_usersOf_5 : decode cX7_usersOf 5 = .ok (.bipush 8, 2) := by decide +kernel
theorem dX7_usersOf_7 : decode cX7_usersOf 7 = .ok (.if_icmp .ge 43, 3) := by decide +kernel
theorem dX7_usersOf_10 : decode cX7_usersOf 10 = .ok (.iload_n 2, 1) := by decide +kernel
theorem dX7_usersOf_11 : decode cX7_usersOf 11 = .ok (.aload_n 0, 1) := by decide +kernel
theorem dX7_usersOf_12 : decode cX7_usersOf 12 = .ok (.getfield 65, 3) := by decide +kernel
theorem dX7_usersOf_15 : decode cX7_usersOf 15 = .ok (.iload_n 3, 1) := by decide +kernel
theorem dX7_usersOf_16 : decode cX7_usersOf 16 = .ok (.invokestatic 68, 3) := by decide +kernel
theorem dX7_usersOf_19 : decode cX7_usersOf 19 = .ok (.ifCond .eq 22, 3) := by decide +kernel
theorem dX7_usersOf_22 : decode cX7_usersOf 22 = .ok (.aload_n 0, 1) := by decide +kernel
theorem dX7_usersOf_23 : decode cX7_usersOf 23 = .ok (.getfield 19, 3) := by decide +kernel
theorem dX7_usersOf_26 : decode cX7_usersOf 26 = .ok (.bipush 8, 2) := by decide +kernel
theorem dX7_usersOf_28 : decode cX7_usersOf 28 = .ok (.iload_n 3, 1) := by decide +kernel
theorem dX7_usersOf_29 : decode cX7_usersOf 29 = .ok (.imul, 1) := by decide +kernel
theorem dX7_usersOf_30 : decode cX7_usersOf 30 = .ok (.iload_n 1, 1) := by decide +kernel
theorem dX7_usersOf_31 : decode cX7_usersOf 31 = .ok (.iadd, 1) := by decide +kernel
theorem dX7_usersOf_32 : decode cX7_usersOf 32 = .ok (.iaload, 1) := by decide +kernel
theorem dX7_usersOf_33 : decode cX7_usersOf 33 = .ok (.iconst (-1), 1) := by decide +kernel
theorem dX7_usersOf_34 : decode cX7_usersOf 34 = .ok (.if_icmp .eq 7, 3) := by decide +kernel
theorem dX7_usersOf_37 : decode cX7_usersOf 37 = .ok (.iconst 1, 1) := by decide +kernel
theorem dX7_usersOf_38 : decode cX7_usersOf 38 = .ok (.goto 4, 3) := by decide +kernel
theorem dX7_usersOf_41 : decode cX7_usersOf 41 = .ok (.iconst 0, 1) := by decide +kernel
theorem dX7_usersOf_42 : decode cX7_usersOf 42 = .ok (.iadd, 1) := by decide +kernel
theorem dX7_usersOf_43 : decode cX7_usersOf 43 = .ok (.istore_n 2, 1) := by decide +kernel
theorem dX7_usersOf_44 : decode cX7_usersOf 44 = .ok (.iinc 3 1, 3) := by decide +kernel
theorem dX7_usersOf_47 : decode cX7_usersOf 47 = .ok (.goto (-43), 3) := by decide +kernel
theorem dX7_usersOf_50 : decode cX7_usersOf 50 = .ok (.iload_n 2, 1) := by decide +kernel
theorem dX7_usersOf_51 : decode cX7_usersOf 51 = .ok (.ireturn, 1) := by decide +kernel
set_option maxRecDepth 20000 in
theorem ggX7_leave_X7_isPart : GoodIn wsX7_leave wsX7_isPart := goodIn_r _ [7, 1, 8, 9, 6, 10, 11, 12, 13, 23, 24, 25, 26, 27, 28, 29, 30, 31, 32, 33, 34, 35, 36] (by decide +kernel) (by decide +kernel)
set_option maxRecDepth 20000 in
theorem gX7_leave_X7_isPart : GoodIn wsX7_leave (wsV RX7 71 RX7 yX7_isPart wsX7_isPart) := goodIn_app (goodIn_of _ (by decide +kernel)) ggX7_leave_X7_isPart
set_option maxRecDepth 20000 in
theorem ggX7_leave_X7_usesOf : GoodIn wsX7_leave wsX7_usesOf := goodIn_r _ [17, 1, 18, 11, 12, 6, 13, 23, 24, 25, 26, 27, 28, 29, 30, 31, 32, 33, 34, 35, 36] (by decide +kernel) (by decide +kernel)
set_option maxRecDepth 20000 in
theorem gX7_leave_X7_usesOf : GoodIn wsX7_leave (wsV RX7 74 RX7 yX7_usesOf wsX7_usesOf) := goodIn_app (goodIn_of _ (by decide +kernel)) ggX7_leave_X7_usesOf
set_option maxRecDepth 20000 in
theorem ggX7_leave_X7_usersOf : GoodIn wsX7_leave wsX7_usersOf := goodIn_r _ [22, 1, 18, 11, 12, 6, 13, 23, 24, 25, 26, 27, 28, 29, 30, 31, 32, 33, 34, 35, 36] (by decide +kernel) (by decide +kernel)
set_option maxRecDepth 20000 in
theorem gX7_leave_X7_usersOf : GoodIn wsX7_leave (wsV RX7 77 RX7 yX7_usersOf wsX7_usersOf) := goodIn_app (goodIn_of _ (by decide +kernel)) ggX7_leave_X7_usersOf
theorem dX7_leave_0 : decode cX7_leave 0 = .ok (.aload_n 0, 1) := by decide +kernel
theorem dX7_leave_1 : decode cX7_leave 1 = .ok (.iload_n 1, 1) := by decide +kernel
theorem dX7_leave_2 : decode cX7_leave 2 = .ok (.invokevirtual 71, 3) := by decide +kernel
theorem dX7_leave_5 : decode cX7_leave 5 = .ok (.ifCond .ne 7, 3) := by decide +kernel
theorem dX7_leave_8 : decode cX7_leave 8 = .ok (.sipush (-1001), 3) := by decide +kernel
theorem dX7_leave_11 : decode cX7_leave 11 = .ok (.ireturn, 1) := by decide +kernel
theorem dX7_leave_12 : decode cX7_leave 12 = .ok (.aload_n 0, 1) := by decide +kernel
theorem dX7_leave_13 : decode cX7_leave 13 = .ok (.iload_n 1, 1) := by decide +kernel
theorem dX7_leave_14 : decode cX7_leave 14 = .ok (.invokevirtual 74, 3) := by decide +kernel
theorem dX7_leave_17 : decode cX7_leave 17 = .ok (.aload_n 0, 1) := by decide +kernel
theorem dX7_leave_18 : decode cX7_leave 18 = .ok (.iload_n 1, 1) := by decide +kernel
theorem dX7_leave_19 : decode cX7_leave 19 = .ok (.invokevirtual 77, 3) := by decide +kernel
theorem dX7_leave_22 : decode cX7_leave 22 = .ok (.iadd, 1) := by decide +kernel
theorem dX7_leave_23 : decode cX7_leave 23 = .ok (.istore_n 2, 1) := by decide +kernel
theorem dX7_leave_24 : decode cX7_leave 24 = .ok (.aload_n 0, 1) := by decide +kernel
theorem dX7_leave_25 : decode cX7_leave 25 = .ok (.dup, 1) := by decide +kernel
theorem dX7_leave_26 : decode cX7_leave 26 = .ok (.getfield 65, 3) := by decide +kernel
theorem dX7_leave_29 : decode cX7_leave 29 = .ok (.iconst 1, 1) := by decide +kernel
theorem dX7_leave_30 : decode cX7_leave 30 = .ok (.iload_n 1, 1) := by decide +kernel
theorem dX7_leave_31 : decode cX7_leave 31 = .ok (.ishl, 1) := by decide +kernel
theorem dX7_leave_32 : decode cX7_leave 32 = .ok (.iconst (-1), 1) := by decide +kernel
theorem dX7_leave_33 : decode cX7_leave 33 = .ok (.ixor, 1) := by decide +kernel
theorem dX7_leave_34 : decode cX7_leave 34 = .ok (.iand, 1) := by decide +kernel
theorem dX7_leave_35 : decode cX7_leave 35 = .ok (.putfield 65, 3) := by decide +kernel
theorem dX7_leave_38 : decode cX7_leave 38 = .ok (.aload_n 0, 1) := by decide +kernel
theorem dX7_leave_39 : decode cX7_leave 39 = .ok (.dup, 1) := by decide +kernel
theorem dX7_leave_40 : decode cX7_leave 40 = .ok (.getfield 80, 3) := by decide +kernel
theorem dX7_leave_43 : decode cX7_leave 43 = .ok (.iconst 1, 1) := by decide +kernel
theorem dX7_leave_44 : decode cX7_leave 44 = .ok (.iadd, 1) := by decide +kernel
theorem dX7_leave_45 : decode cX7_leave 45 = .ok (.putfield 80, 3) := by decide +kernel
theorem dX7_leave_48 : decode cX7_leave 48 = .ok (.iload_n 2, 1) := by decide +kernel
theorem dX7_leave_49 : decode cX7_leave 49 = .ok (.ireturn, 1) := by decide +kernel
set_option maxRecDepth 20000 in
theorem ggX7_join_X7_isPart : GoodIn wsX7_join wsX7_isPart := goodIn_r _ [6, 7, 8, 9, 5, 10, 11, 12, 13, 14, 15, 16, 17, 18, 19, 20, 21, 22, 23, 24, 25, 26, 27] (by decide +kernel) (by decide +kernel)
set_option maxRecDepth 20000 in
theorem gX7_join_X7_isPart : GoodIn wsX7_join (wsV RX7 71 RX7 yX7_isPart wsX7_isPart) := goodIn_app (goodIn_of _ (by decide +kernel)) ggX7_join_X7_isPart
set_option maxRecDepth 20000 in
theorem ggX7_join_X7_within : GoodIn wsX7_join wsX7_within := goodIn_r _ [10] (by decide +kernel) (by decide +kernel)
set_option maxRecDepth 20000 in
theorem gX7_join_X7_within : GoodIn wsX7_join (va_wsS RX7 31 yX7_within wsX7_within) := goodIn_app (goodIn_of _ (by decide +kernel)) ggX7_join_X7_within
theorem dX7_join_0 : decode cX7_join 0 = .ok (.aload_n 0, 1) := by decide +kernel
theorem dX7_join_1 : decode cX7_join 1 = .ok (.iload_n 1, 1) := by decide +kernel
theorem dX7_join_2 : decode cX7_join 2 = .ok (.invokevirtual 71, 3) := by decide +kernel
theorem dX7_join_5 : decode cX7_join 5 = .ok (.ifCond .eq 16, 3) := by decide +kernel
theorem dX7_join_8 : decode cX7_join 8 = .ok (.aload_n 0, 1) := by decide +kernel
theorem dX7_join_9 : decode cX7_join 9 = .ok (.iload_n 2, 1) := by decide +kernel
theorem dX7_join_10 : decode cX7_join 10 = .ok (.invokevirtual 71, 3) := by decide +kernel
theorem dX7_join_13 : decode cX7_join 13 = .ok (.ifCond .eq 8, 3) := by decide +kernel
theorem dX7_join_16 : decode cX7_join 16 = .ok (.iload_n 1, 1) := by decide +kernel
theorem dX7_join_17 : decode cX7_join 17 = .ok (.iload_n 2, 1) := by decide +kernel
theorem dX7_join_18 : decode cX7_join 18 = .ok (.if_icmp .ne 7, 3) := by decide +kernel
theorem dX7_join_21 : decode cX7_join 21 = .ok (.sipush (-1001), 3) := by decide +kernel
theorem dX7_join_24 : decode cX7_join 24 = .ok (.ireturn, 1) := by decide +kernel
theorem dX7_join_25 : decode cX7_join 25 = .ok (.iload_n 3, 1) := by decide +kernel
theorem dX7_join_26 : decode cX7_join 26 = .ok (.iconst (-1), 1) := by decide +kernel
theorem dX7_join_27 : decode cX7_join 27 = .ok (.iconst 3, 1) := by decide +kernel
theorem dX7_join_28 : decode cX7_join 28 = .ok (.invokestatic 31, 3) := by decide +kernel
theorem dX7_join_31 : decode cX7_join 31 = .ok (.ifCond .ne 7, 3) := by decide +kernel
theorem dX7_join_34 : decode cX7_join 34 = .ok (.sipush (-1002), 3) := by decide +kernel
theorem dX7_join_37 : decode cX7_join 37 = .ok (.ireturn, 1) := by decide +kernel
theorem dX7_join_38 : decode cX7_join 38 = .ok (.aload_n 0, 1) := by decide +kernel
theorem dX7_join_39 : decode cX7_join 39 = .ok (.getfield 19, 3) := by decide +kernel
theorem dX7_join_42 : decode cX7_join 42 = .ok (.bipush 8, 2) := by decide +kernel
theorem dX7_join_44 : decode cX7_join 44 = .ok (.iload_n 1, 1) := by decide +kernel
theorem dX7_join_45 : decode cX7_join 45 = .ok (.imul, 1) := by decide +kernel
theorem dX7_join_46 : decode cX7_join 46 = .ok (.iload_n 2, 1) := by decide +kernel
theorem dX7_join_47 : decode cX7_join 47 = .ok (.iadd, 1) := by decide +kernel
theorem dX7_join_48 : decode cX7_join 48 = .ok (.iaload, 1) := by decide +kernel
theorem dX7_join_49 : decode cX7_join 49 = .ok (.istore 4, 2) := by decide +kernel
theorem dX7_join_51 : decode cX7_join 51 = .ok (.aload_n 0, 1) := by decide +kernel
theorem dX7_join_52 : decode cX7_join 52 = .ok (.getfield 19, 3) := by decide +kernel
theorem dX7_join_55 : decode cX7_join 55 = .ok (.bipush 8, 2) := by decide +kernel
theorem dX7_join_57 : decode cX7_join 57 = .ok (.iload_n 1, 1) := by decide +kernel
theorem dX7_join_58 : decode cX7_join 58 = .ok (.imul, 1) := by decide +kernel
theorem dX7_join_59 : decode cX7_join 59 = .ok (.iload_n 2, 1) := by decide +kernel
theorem dX7_join_60 : decode cX7_join 60 = .ok (.iadd, 1) := by decide +kernel
theorem dX7_join_61 : decode cX7_join 61 = .ok (.iload_n 3, 1) := by decide +kernel
theorem dX7_join_62 : decode cX7_join 62 = .ok (.iastore, 1) := by decide +kernel
theorem dX7_join_63 : decode cX7_join 63 = .ok (.iload 4, 2) := by decide +kernel
theorem dX7_join_65 : decode cX7_join 65 = .ok (.ireturn, 1) := by decide +kernel
set_option maxRecDepth 20000 in
theorem ggX7_kind_X7_isPart : GoodIn wsX7_kind wsX7_isPart := goodIn_r _ [6, 7, 8, 9, 5, 10, 11, 12, 13, 14, 15, 16, 17, 18, 19, 20, 21, 22, 23, 24, 25, 26, 27] (by decide +kernel) (by decide +kernel)
set_option maxRecDepth 20000 in
theorem gX7_kind_X7_isPart : GoodIn wsX7_kind (wsV RX7 71 RX7 yX7_isPart wsX7_isPart) := goodIn_app (goodIn_of _ (by decide +kernel)) ggX7_kind_X7_isPart
theorem dX7_kind_0 : decode cX7_kind 0 = .ok (.aload_n 0, 1) := by decide +kernel
theorem dX7_kind_1 : decode cX7_kind 1 = .ok (.iload_n 1, 1) := by decide +kernel
theorem dX7_kind_2 : decode cX7_kind 2 = .ok (.invokevirtual 71, 3) := by decide +kernel
theorem dX7_kind_5 : decode cX7_kind 5 = .ok (.ifCond .eq 25, 3) := by decide +kernel
theorem dX7_kind_8 : decode cX7_kind 8 = .ok (.aload_n 0, 1) := by decide +kernel
theorem dX7_kind_9 : decode cX7_kind 9 = .ok (.iload_n 2, 1) := by decide +kernel
theorem dX7_kind_10 : decode cX7_kind 10 = .ok (.invokevirtual 71, 3) := by decide +kernel
theorem dX7_kind_13 : decode cX7_kind 13 = .ok (.ifCond .eq 17, 3) := by decide +kernel
theorem dX7_kind_16 : decode cX7_kind 16 = .ok (.aload_n 0, 1) := by decide +kernel
theorem dX7_kind_17 : decode cX7_kind 17 = .ok (.getfield 19, 3) := by decide +kernel
theorem dX7_kind_20 : decode cX7_kind 20 = .ok (.bipush 8, 2) := by decide +kernel
theorem dX7_kind_22 : decode cX7_kind 22 = .ok (.iload_n 1, 1) := by decide +kernel
theorem dX7_kind_23 : decode cX7_kind 23 = .ok (.imul, 1) := by decide +kernel
theorem dX7_kind_24 : decode cX7_kind 24 = .ok (.iload_n 2, 1) := by decide +kernel
theorem dX7_kind_25 : decode cX7_kind 25 = .ok (.iadd, 1) := by decide +kernel
theorem dX7_kind_26 : decode cX7_kind 26 = .ok (.iaload, 1) := by decide +kernel
theorem dX7_kind_27 : decode cX7_kind 27 = .ok (.goto 6, 3) := by decide +kernel
theorem dX7_kind_30 : decode cX7_kind 30 = .ok (.sipush (-1001), 3) := by decide +kernel
theorem dX7_kind_33 : decode cX7_kind 33 = .ok (.ireturn, 1) := by decide +kernel
theorem dX7_ownReach_0 : decode cX7_ownReach 0 = .ok (.aload_n 0, 1) := by decide +kernel
theorem dX7_ownReach_1 : decode cX7_ownReach 1 = .ok (.getfield 13, 3) := by decide +kernel
theorem dX7_ownReach_4 : decode cX7_ownReach 4 = .ok (.bipush 12, 2) := by decide +kernel
theorem dX7_ownReach_6 : decode cX7_ownReach 6 = .ok (.aload_n 0, 1) := by decide +kernel
theorem dX7_ownReach_7 : decode cX7_ownReach 7 = .ok (.getfield 16, 3) := by decide +kernel
theorem dX7_ownReach_10 : decode cX7_ownReach 10 = .ok (.iload_n 1, 1) := by decide +kernel
theorem dX7_ownReach_11 : decode cX7_ownReach 11 = .ok (.iaload, 1) := by decide +kernel
theorem dX7_ownReach_12 : decode cX7_ownReach 12 = .ok (.imul, 1) := by decide +kernel
theorem dX7_ownReach_13 : decode cX7_ownReach 13 = .ok (.iload_n 2, 1) := by decide +kernel
theorem dX7_ownReach_14 : decode cX7_ownReach 14 = .ok (.iadd, 1) := by decide +kernel
theorem dX7_ownReach_15 : decode cX7_ownReach 15 = .ok (.iaload, 1) := by decide +kernel
theorem dX7_ownReach_16 : decode cX7_ownReach 16 = .ok (.ireturn, 1) := by decide +kernel
set_option maxRecDepth 20000 in
theorem ggX7_withReach_X7_has : GoodIn wsX7_withReach wsX7_has := goodIn_r _ [5] (by decide +kernel) (by decide +kernel)
set_option maxRecDepth 20000 in
theorem gX7_withReach_X7_has : GoodIn wsX7_withReach (va_wsS RX7 68 yX7_has wsX7_has) := goodIn_app (goodIn_of _ (by decide +kernel)) ggX7_withReach_X7_has
set_option maxRecDepth 20000 in
theorem ggX7_withReach_X7_ownReach : GoodIn wsX7_withReach wsX7_ownReach := goodIn_r _ [9, 10, 11, 12, 13, 14, 15, 16, 17, 18, 19, 20, 21, 22, 23, 24, 25] (by decide +kernel) (by decide +kernel)
set_option maxRecDepth 20000 in
theorem gX7_withReach_X7_ownReach : GoodIn wsX7_withReach (wsV RX7 83 RX7 yX7_ownReach wsX7_ownReach) := goodIn_app (goodIn_of _ (by decide +kernel)) ggX7_withReach_X7_ownReach
theorem dX7_withReach_0 : decode cX7_withReach 0 = .ok (.iconst 0, 1) := by decide +kernel
theorem dX7_withReach_1 : decode cX7_withReach 1 = .ok (.istore 4, 2) := by decide +kernel
theorem dX7_withReach_3 : decode cX7_withReach 3 = .ok (.iconst 0, 1) := by decide +kernel
theorem dX7_withReach_4 : decode cX7_withReach 4 = .ok (.istore 5, 2) := by decide +kernel
theorem dX7_withReach_6 : decode cX7_withReach 6 = .ok (.iload 5, 2) := by decide +kernel
theorem dX7_withReach_8 : decode cX7_withReach 8 = .ok (.bipush 8, 2) := by decide +kernel
theorem dX7_withReach_10 : decode cX7_withReach 10 = .ok (.if_icmp .ge 42, 3) := by decide +kernel
theorem dX7_withReach_13 : decode cX7_withReach 13 = .ok (.iload 4, 2) := by decide +kernel
theorem dX7_withReach_15 : decode cX7_withReach 15 = .ok (.iload_n 1, 1) := by decide +kernel
theorem dX7_withReach_16 : decode cX7_withReach 16 = .ok (.iload 5, 2) := by decide +kernel
theorem dX7_withReach_18 : decode cX7_withReach 18 = .ok (.invokestatic 68, 3) := by decide +kernel
theorem dX7_withReach_21 : decode cX7_withReach 21 = .ok (.ifCond .eq 21, 3) := by decide +kernel
theorem dX7_withReach_24 : decode cX7_withReach 24 = .ok (.aload_n 0, 1) := by decide +kernel
theorem dX7_withReach_25 : decode cX7_withReach 25 = .ok (.iload 5, 2) := by decide +kernel
theorem dX7_withReach_27 : decode cX7_withReach 27 = .ok (.iload_n 2, 1) := by decide +kernel
theorem dX7_withReach_28 : decode cX7_withReach 28 = .ok (.invokevirtual 83, 3) := by decide +kernel
theorem dX7_withReach_31 : decode cX7_withReach 31 = .ok (.iload_n 3, 1) := by decide +kernel
theorem dX7_withReach_32 : decode cX7_withReach 32 = .ok (.if_icmp .ne 10, 3) := by decide +kernel
theorem dX7_withReach_35 : decode cX7_withReach 35 = .ok (.iconst 1, 1) := by decide +kernel
theorem dX7_withReach_36 : decode cX7_withReach 36 = .ok (.iload 5, 2) := by decide +kernel
theorem dX7_withReach_38 : decode cX7_withReach 38 = .ok (.ishl, 1) := by decide +kernel
theorem dX7_withReach_39 : decode cX7_withReach 39 = .ok (.goto 4, 3) := by decide +kernel
theorem dX7_withReach_42 : decode cX7_withReach 42 = .ok (.iconst 0, 1) := by decide +kernel
theorem dX7_withReach_43 : decode cX7_withReach 43 = .ok (.ior, 1) := by decide +kernel
theorem dX7_withReach_44 : decode cX7_withReach 44 = .ok (.istore 4, 2) := by decide +kernel
theorem dX7_withReach_46 : decode cX7_withReach 46 = .ok (.iinc 5 1, 3) := by decide +kernel
theorem dX7_withReach_49 : decode cX7_withReach 49 = .ok (.goto (-43), 3) := by decide +kernel
theorem dX7_withReach_52 : decode cX7_withReach 52 = .ok (.iconst 0, 1) := by decide +kernel
theorem dX7_withReach_53 : decode cX7_withReach 53 = .ok (.istore 5, 2) := by decide +kernel
theorem dX7_withReach_55 : decode cX7_withReach 55 = .ok (.iload 5, 2) := by decide +kernel
theorem dX7_withReach_57 : decode cX7_withReach 57 = .ok (.iload 4, 2) := by decide +kernel
theorem dX7_withReach_59 : decode cX7_withReach 59 = .ok (.if_icmp .eq 101, 3) := by decide +kernel
theorem dX7_withReach_62 : decode cX7_withReach 62 = .ok (.iload 4, 2) := by decide +kernel
theorem dX7_withReach_64 : decode cX7_withReach 64 = .ok (.istore 5, 2) := by decide +kernel
theorem dX7_withReach_66 : decode cX7_withReach 66 = .ok (.iconst 0, 1) := by decide +kernel
theorem dX7_withReach_67 : decode cX7_withReach 67 = .ok (.istore 6, 2) := by decide +kernel
theorem dX7_withReach_69 : decode cX7_withReach 69 = .ok (.iload 6, 2) := by decide +kernel
theorem dX7_withReach_71 : decode cX7_withReach 71 = .ok (.bipush 64, 2) := by decide +kernel
theorem dX7_withReach_73 : decode cX7_withReach 73 = .ok (.if_icmp .ge 84, 3) := by decide +kernel
theorem dX7_withReach_76 : decode cX7_withReach 76 = .ok (.iload_n 1, 1) := by decide +kernel
theorem dX7_withReach_77 : decode cX7_withReach 77 = .ok (.iload 6, 2) := by decide +kernel
theorem dX7_withReach_79 : decode cX7_withReach 79 = .ok (.bipush 8, 2) := by decide +kernel
theorem dX7_withReach_81 : decode cX7_withReach 81 = .ok (.idiv, 1) := by decide +kernel
theorem dX7_withReach_82 : decode cX7_withReach 82 = .ok (.invokestatic 68, 3) := by decide +kernel
theorem dX7_withReach_85 : decode cX7_withReach 85 = .ok (.ifCond .eq 42, 3) := by decide +kernel
theorem dX7_withReach_88 : decode cX7_withReach 88 = .ok (.iload 5, 2) := by decide +kernel
theorem dX7_withReach_90 : decode cX7_withReach 90 = .ok (.iload 6, 2) := by decide +kernel
theorem dX7_withReach_92 : decode cX7_withReach 92 = .ok (.bipush 8, 2) := by decide +kernel
theorem dX7_withReach_94 : decode cX7_withReach 94 = .ok (.irem, 1) := by decide +kernel
theorem dX7_withReach_95 : decode cX7_withReach 95 = .ok (.invokestatic 68, 3) := by decide +kernel
theorem dX7_withReach_98 : decode cX7_withReach 98 = .ok (.ifCond .eq 29, 3) := by decide +kernel
theorem dX7_withReach_101 : decode cX7_withReach 101 = .ok (.aload_n 0, 1) := by decide +kernel
theorem dX7_withReach_102 : decode cX7_withReach 102 = .ok (.getfield 19, 3) := by decide +kernel
theorem dX7_withReach_105 : decode cX7_withReach 105 = .ok (.iload 6, 2) := by decide +kernel
theorem dX7_withReach_107 : decode cX7_withReach 107 = .ok (.iaload, 1) := by decide +kernel
theorem dX7_withReach_108 : decode cX7_withReach 108 = .ok (.iconst (-1), 1) := by decide +kernel
theorem dX7_withReach_109 : decode cX7_withReach 109 = .ok (.if_icmp .eq 18, 3) := by decide +kernel
theorem dX7_withReach_112 : decode cX7_withReach 112 = .ok (.aload_n 0, 1) := by decide +kernel
theorem dX7_withReach_113 : decode cX7_withReach 113 = .ok (.getfield 19, 3) := by decide +kernel
theorem dX7_withReach_116 : decode cX7_withReach 116 = .ok (.iload 6, 2) := by decide +kernel
theorem dX7_withReach_118 : decode cX7_withReach 118 = .ok (.iaload, 1) := by decide +kernel
theorem dX7_withReach_119 : decode cX7_withReach 119 = .ok (.iload_n 3, 1) := by decide +kernel
theorem dX7_withReach_120 : decode cX7_withReach 120 = .ok (.if_icmp .ge 7, 3) := by decide +kernel
theorem dX7_withReach_123 : decode cX7_withReach 123 = .ok (.iconst 1, 1) := by decide +kernel
theorem dX7_withReach_124 : decode cX7_withReach 124 = .ok (.goto 4, 3) := by decide +kernel
theorem dX7_withReach_127 : decode cX7_withReach 127 = .ok (.iconst 0, 1) := by decide +kernel
theorem dX7_withReach_128 : decode cX7_withReach 128 = .ok (.istore 7, 2) := by decide +kernel
theorem dX7_withReach_130 : decode cX7_withReach 130 = .ok (.iload 4, 2) := by decide +kernel
theorem dX7_withReach_132 : decode cX7_withReach 132 = .ok (.iload 7, 2) := by decide +kernel
theorem dX7_withReach_134 : decode cX7_withReach 134 = .ok (.ifCond .eq 13, 3) := by decide +kernel
theorem dX7_withReach_137 : decode cX7_withReach 137 = .ok (.iconst 1, 1) := by decide +kernel
theorem dX7_withReach_138 : decode cX7_withReach 138 = .ok (.iload 6, 2) := by decide +kernel
theorem dX7_withReach_140 : decode cX7_withReach 140 = .ok (.bipush 8, 2) := by decide +kernel
theorem dX7_withReach_142 : decode cX7_withReach 142 = .ok (.idiv, 1) := by decide +kernel
theorem dX7_withReach_143 : decode cX7_withReach 143 = .ok (.ishl, 1) := by decide +kernel
theorem dX7_withReach_144 : decode cX7_withReach 144 = .ok (.goto 4, 3) := by decide +kernel
theorem dX7_withReach_147 : decode cX7_withReach 147 = .ok (.iconst 0, 1) := by decide +kernel
theorem dX7_withReach_148 : decode cX7_withReach 148 = .ok (.ior, 1) := by decide +kernel
theorem dX7_withReach_149 : decode cX7_withReach 149 = .ok (.istore 4, 2) := by decide +kernel
theorem dX7_withReach_151 : decode cX7_withReach 151 = .ok (.iinc 6 1, 3) := by decide +kernel
theorem dX7_withReach_154 : decode cX7_withReach 154 = .ok (.goto (-85), 3) := by decide +kernel
theorem dX7_withReach_157 : decode cX7_withReach 157 = .ok (.goto (-102), 3) := by decide +kernel
theorem dX7_withReach_160 : decode cX7_withReach 160 = .ok (.iload 4, 2) := by decide +kernel
theorem dX7_withReach_162 : decode cX7_withReach 162 = .ok (.ireturn, 1) := by decide +kernel
set_option maxRecDepth 20000 in
theorem ggX7_heldNow_X7_withReach : GoodIn wsX7_heldNow wsX7_withReach := goodIn_r _ [6, 7, 8, 9, 5, 10, 11, 12, 13, 14, 15, 16, 17, 18, 19, 20, 21, 22, 23, 24, 25, 26, 27, 28, 29, 30] (by decide +kernel) (by decide +kernel)
set_option maxRecDepth 20000 in
theorem gX7_heldNow_X7_withReach : GoodIn wsX7_heldNow (wsV RX7 87 RX7 yX7_withReach wsX7_withReach) := goodIn_app (goodIn_of _ (by decide +kernel)) ggX7_heldNow_X7_withReach
set_option maxRecDepth 20000 in
theorem ggX7_heldNow_X7_has : GoodIn wsX7_heldNow wsX7_has := goodIn_r _ [10] (by decide +kernel) (by decide +kernel)
set_option maxRecDepth 20000 in
theorem gX7_heldNow_X7_has : GoodIn wsX7_heldNow (va_wsS RX7 68 yX7_has wsX7_has) := goodIn_app (goodIn_of _ (by decide +kernel)) ggX7_heldNow_X7_has
theorem dX7_heldNow_0 : decode cX7_heldNow 0 = .ok (.iconst 3, 1) := by decide +kernel
theorem dX7_heldNow_1 : decode cX7_heldNow 1 = .ok (.istore_n 3, 1) := by decide +kernel
theorem dX7_heldNow_2 : decode cX7_heldNow 2 = .ok (.iload_n 3, 1) := by decide +kernel
theorem dX7_heldNow_3 : decode cX7_heldNow 3 = .ok (.ifCond .le 26, 3) := by decide +kernel
theorem dX7_heldNow_6 : decode cX7_heldNow 6 = .ok (.aload_n 0, 1) := by decide +kernel
theorem dX7_heldNow_7 : decode cX7_heldNow 7 = .ok (.aload_n 0, 1) := by decide +kernel
theorem dX7_heldNow_8 : decode cX7_heldNow 8 = .ok (.getfield 65, 3) := by decide +kernel
theorem dX7_heldNow_11 : decode cX7_heldNow 11 = .ok (.iload_n 2, 1) := by decide +kernel
theorem dX7_heldNow_12 : decode cX7_heldNow 12 = .ok (.iload_n 3, 1) := by decide +kernel
theorem dX7_heldNow_13 : decode cX7_heldNow 13 = .ok (.invokevirtual 87, 3) := by decide +kernel
theorem dX7_heldNow_16 : decode cX7_heldNow 16 = .ok (.iload_n 1, 1) := by decide +kernel
theorem dX7_heldNow_17 : decode cX7_heldNow 17 = .ok (.invokestatic 68, 3) := by decide +kernel
theorem dX7_heldNow_20 : decode cX7_heldNow 20 = .ok (.ifCond .ne 9, 3) := by decide +kernel
theorem dX7_heldNow_23 : decode cX7_heldNow 23 = .ok (.iinc 3 (-1), 3) := by decide +kernel
theorem dX7_heldNow_26 : decode cX7_heldNow 26 = .ok (.goto (-24), 3) := by decide +kernel
theorem dX7_heldNow_29 : decode cX7_heldNow 29 = .ok (.iload_n 3, 1) := by decide +kernel
theorem dX7_heldNow_30 : decode cX7_heldNow 30 = .ok (.ireturn, 1) := by decide +kernel
set_option maxRecDepth 20000 in
theorem ggX7_heldBy_X7_withReach : GoodIn wsX7_heldBy wsX7_withReach := goodIn_r _ [5, 6, 7, 8, 4, 9, 10, 11, 12, 13, 14, 15, 16, 17, 18, 19, 20, 21, 22, 23, 24, 25, 26, 27, 28, 29] (by decide +kernel) (by decide +kernel)
set_option maxRecDepth 20000 in
theorem gX7_heldBy_X7_withReach : GoodIn wsX7_heldBy (wsV RX7 87 RX7 yX7_withReach wsX7_withReach) := goodIn_app (goodIn_of _ (by decide +kernel)) ggX7_heldBy_X7_withReach
theorem dX7_heldBy_0 : decode cX7_heldBy 0 = .ok (.aload_n 0, 1) := by decide +kernel
theorem dX7_heldBy_1 : decode cX7_heldBy 1 = .ok (.iload_n 1, 1) := by decide +kernel
theorem dX7_heldBy_2 : decode cX7_heldBy 2 = .ok (.iload_n 2, 1) := by decide +kernel
theorem dX7_heldBy_3 : decode cX7_heldBy 3 = .ok (.iconst 1, 1) := by decide +kernel
theorem dX7_heldBy_4 : decode cX7_heldBy 4 = .ok (.invokevirtual 87, 3) := by decide +kernel
theorem dX7_heldBy_7 : decode cX7_heldBy 7 = .ok (.aload_n 0, 1) := by decide +kernel
theorem dX7_heldBy_8 : decode cX7_heldBy 8 = .ok (.iload_n 1, 1) := by decide +kernel
theorem dX7_heldBy_9 : decode cX7_heldBy 9 = .ok (.iload_n 2, 1) := by decide +kernel
theorem dX7_heldBy_10 : decode cX7_heldBy 10 = .ok (.iconst 2, 1) := by decide +kernel
theorem dX7_heldBy_11 : decode cX7_heldBy 11 = .ok (.invokevirtual 87, 3) := by decide +kernel
theorem dX7_heldBy_14 : decode cX7_heldBy 14 = .ok (.ior, 1) := by decide +kernel
theorem dX7_heldBy_15 : decode cX7_heldBy 15 = .ok (.aload_n 0, 1) := by decide +kernel
theorem dX7_heldBy_16 : decode cX7_heldBy 16 = .ok (.iload_n 1, 1) := by decide +kernel
theorem dX7_heldBy_17 : decode cX7_heldBy 17 = .ok (.iload_n 2, 1) := by decide +kernel
theorem dX7_heldBy_18 : decode cX7_heldBy 18 = .ok (.iconst 3, 1) := by decide +kernel
theorem dX7_heldBy_19 : decode cX7_heldBy 19 = .ok (.invokevirtual 87, 3) := by decide +kernel
theorem dX7_heldBy_22 : decode cX7_heldBy 22 = .ok (.ior, 1) := by decide +kernel
theorem dX7_heldBy_23 : decode cX7_heldBy 23 = .ok (.ireturn, 1) := by decide +kernel
set_option maxRecDepth 20000 in
theorem ggX7_clashing_X7_heldBy : GoodIn wsX7_clashing wsX7_heldBy := goodIn_r _ [5, 6, 7, 8, 4, 9, 10, 11, 12, 13, 14, 15, 16, 17, 18, 19, 20, 21, 22, 23, 24, 25, 26, 27, 28, 29, 30, 31, 32, 33] (by decide +kernel) (by decide +kernel)
set_option maxRecDepth 20000 in
theorem gX7_clashing_X7_heldBy : GoodIn wsX7_clashing (wsV RX7 91 RX7 yX7_heldBy wsX7_heldBy) := goodIn_app (goodIn_of _ (by decide +kernel)) ggX7_clashing_X7_heldBy
theorem dX7_clashing_0 : decode cX7_clashing 0 = .ok (.aload_n 0, 1) := by decide +kernel
theorem dX7_clashing_1 : decode cX7_clashing 1 = .ok (.iload_n 1, 1) := by decide +kernel
theorem dX7_clashing_2 : decode cX7_clashing 2 = .ok (.iload_n 2, 1) := by decide +kernel
theorem dX7_clashing_3 : decode cX7_clashing 3 = .ok (.invokevirtual 91, 3) := by decide +kernel
theorem dX7_clashing_6 : decode cX7_clashing 6 = .ok (.aload_n 0, 1) := by decide +kernel
theorem dX7_clashing_7 : decode cX7_clashing 7 = .ok (.iload_n 1, 1) := by decide +kernel
theorem dX7_clashing_8 : decode cX7_clashing 8 = .ok (.iload_n 2, 1) := by decide +kernel
theorem dX7_clashing_9 : decode cX7_clashing 9 = .ok (.bipush 6, 2) := by decide +kernel
theorem dX7_clashing_11 : decode cX7_clashing 11 = .ok (.iadd, 1) := by decide +kernel
theorem dX7_clashing_12 : decode cX7_clashing 12 = .ok (.invokevirtual 91, 3) := by decide +kernel
theorem dX7_clashing_15 : decode cX7_clashing 15 = .ok (.iand, 1) := by decide +kernel
theorem dX7_clashing_16 : decode cX7_clashing 16 = .ok (.ireturn, 1) := by decide +kernel
set_option maxRecDepth 20000 in
theorem ggX7_held_X7_isPart : GoodIn wsX7_held wsX7_isPart := goodIn_r _ [5, 6, 7, 8, 4, 9, 10, 11, 12, 28, 29, 30, 31, 32, 33, 34, 35, 36, 37, 38, 39, 40, 41] (by decide +kernel) (by decide +kernel)
set_option maxRecDepth 20000 in
theorem gX7_held_X7_isPart : GoodIn wsX7_held (wsV RX7 71 RX7 yX7_isPart wsX7_isPart) := goodIn_app (goodIn_of _ (by decide +kernel)) ggX7_held_X7_isPart
set_option maxRecDepth 20000 in
theorem ggX7_held_X7_within : GoodIn wsX7_held wsX7_within := goodIn_r _ [9] (by decide +kernel) (by decide +kernel)
set_option maxRecDepth 20000 in
theorem gX7_held_X7_within : GoodIn wsX7_held (va_wsS RX7 31 yX7_within wsX7_within) := goodIn_app (goodIn_of _ (by decide +kernel)) ggX7_held_X7_within
set_option maxRecDepth 20000 in
theorem ggX7_held_X7_heldNow : GoodIn wsX7_held wsX7_heldNow := goodIn_r _ [16, 6, 17, 18, 19, 4, 20, 21, 10, 11, 12, 22, 23, 24, 25, 26, 27, 28, 29, 30, 31, 32, 33, 34, 35, 36, 37, 38, 39, 40, 41] (by decide +kernel) (by decide +kernel)
set_option maxRecDepth 20000 in
theorem gX7_held_X7_heldNow : GoodIn wsX7_held (wsV RX7 94 RX7 yX7_heldNow wsX7_heldNow) := goodIn_app (goodIn_of _ (by decide +kernel)) ggX7_held_X7_heldNow
theorem dX7_held_0 : decode cX7_held 0 = .ok (.aload_n 0, 1) := by decide +kernel
theorem dX7_held_1 : decode cX7_held 1 = .ok (.iload_n 1, 1) := by decide +kernel
theorem dX7_held_2 : decode cX7_held 2 = .ok (.invokevirtual 71, 3) := by decide +kernel
theorem dX7_held_5 : decode cX7_held 5 = .ok (.ifCond .ne 7, 3) := by decide +kernel
theorem dX7_held_8 : decode cX7_held 8 = .ok (.sipush (-1001), 3) := by decide +kernel
theorem dX7_held_11 : decode cX7_held 11 = .ok (.ireturn, 1) := by decide +kernel
theorem dX7_held_12 : decode cX7_held 12 = .ok (.iload_n 2, 1) := by decide +kernel
theorem dX7_held_13 : decode cX7_held 13 = .ok (.iconst 0, 1) := by decide +kernel
theorem dX7_held_14 : decode cX7_held 14 = .ok (.bipush 11, 2) := by decide +kernel
theorem dX7_held_16 : decode cX7_held 16 = .ok (.invokestatic 31, 3) := by decide +kernel
theorem dX7_held_19 : decode cX7_held 19 = .ok (.ifCond .eq 12, 3) := by decide +kernel
theorem dX7_held_22 : decode cX7_held 22 = .ok (.aload_n 0, 1) := by decide +kernel
theorem dX7_held_23 : decode cX7_held 23 = .ok (.iload_n 1, 1) := by decide +kernel
theorem dX7_held_24 : decode cX7_held 24 = .ok (.iload_n 2, 1) := by decide +kernel
theorem dX7_held_25 : decode cX7_held 25 = .ok (.invokevirtual 94, 3) := by decide +kernel
theorem dX7_held_28 : decode cX7_held 28 = .ok (.goto 6, 3) := by decide +kernel
theorem dX7_held_31 : decode cX7_held 31 = .ok (.sipush (-1002), 3) := by decide +kernel
theorem dX7_held_34 : decode cX7_held 34 = .ok (.ireturn, 1) := by decide +kernel
set_option maxRecDepth 20000 in
theorem ggX7_layFar_X7_has : GoodIn wsX7_layFar wsX7_has := goodIn_r _ [6] (by decide +kernel) (by decide +kernel)
set_option maxRecDepth 20000 in
theorem gX7_layFar_X7_has : GoodIn wsX7_layFar (va_wsS RX7 68 yX7_has wsX7_has) := goodIn_app (goodIn_of _ (by decide +kernel)) ggX7_layFar_X7_has
set_option maxRecDepth 20000 in
theorem ggX7_layFar_X7_ownReach : GoodIn wsX7_layFar wsX7_ownReach := goodIn_r _ [10, 11, 12, 18, 19, 20, 21, 22, 23, 24, 25, 26, 27, 28, 29, 30, 31] (by decide +kernel) (by decide +kernel)
set_option maxRecDepth 20000 in
theorem gX7_layFar_X7_ownReach : GoodIn wsX7_layFar (wsV RX7 83 RX7 yX7_ownReach wsX7_ownReach) := goodIn_app (goodIn_of _ (by decide +kernel)) ggX7_layFar_X7_ownReach
set_option maxRecDepth 20000 in
theorem ggX7_layFar_X7_isLet : GoodIn wsX7_layFar wsX7_isLet := goodIn_r _ [16, 17, 2, 3, 4, 5, 6, 18, 19, 20, 21, 22, 23, 24, 25, 26, 27, 28, 29, 30, 31] (by decide +kernel) (by decide +kernel)
set_option maxRecDepth 20000 in
theorem gX7_layFar_X7_isLet : GoodIn wsX7_layFar (wsV RX7 97 RX7 yX7_isLet wsX7_isLet) := goodIn_app (goodIn_of _ (by decide +kernel)) ggX7_layFar_X7_isLet
theorem dX7_layFar_0 : decode cX7_layFar 0 = .ok (.iconst 0, 1) := by decide +kernel
theorem dX7_layFar_1 : decode cX7_layFar 1 = .ok (.istore_n 3, 1) := by decide +kernel
theorem dX7_layFar_2 : decode cX7_layFar 2 = .ok (.iload_n 3, 1) := by decide +kernel
theorem dX7_layFar_3 : decode cX7_layFar 3 = .ok (.bipush 8, 2) := by decide +kernel
theorem dX7_layFar_5 : decode cX7_layFar 5 = .ok (.if_icmp .ge 42, 3) := by decide +kernel
theorem dX7_layFar_8 : decode cX7_layFar 8 = .ok (.aload_n 0, 1) := by decide +kernel
theorem dX7_layFar_9 : decode cX7_layFar 9 = .ok (.getfield 25, 3) := by decide +kernel
theorem dX7_layFar_12 : decode cX7_layFar 12 = .ok (.iload_n 3, 1) := by decide +kernel
theorem dX7_layFar_13 : decode cX7_layFar 13 = .ok (.aload_n 0, 1) := by decide +kernel
theorem dX7_layFar_14 : decode cX7_layFar 14 = .ok (.getfield 65, 3) := by decide +kernel
theorem dX7_layFar_17 : decode cX7_layFar 17 = .ok (.iload_n 3, 1) := by decide +kernel
theorem dX7_layFar_18 : decode cX7_layFar 18 = .ok (.invokestatic 68, 3) := by decide +kernel
theorem dX7_layFar_21 : decode cX7_layFar 21 = .ok (.ifCond .eq 17, 3) := by decide +kernel
theorem dX7_layFar_24 : decode cX7_layFar 24 = .ok (.aload_n 0, 1) := by decide +kernel
theorem dX7_layFar_25 : decode cX7_layFar 25 = .ok (.iload_n 3, 1) := by decide +kernel
theorem dX7_layFar_26 : decode cX7_layFar 26 = .ok (.iload_n 1, 1) := by decide +kernel
theorem dX7_layFar_27 : decode cX7_layFar 27 = .ok (.invokevirtual 83, 3) := by decide +kernel
theorem dX7_layFar_30 : decode cX7_layFar 30 = .ok (.iload_n 2, 1) := by decide +kernel
theorem dX7_layFar_31 : decode cX7_layFar 31 = .ok (.if_icmp .ne 7, 3) := by decide +kernel
theorem dX7_layFar_34 : decode cX7_layFar 34 = .ok (.iconst 0, 1) := by decide +kernel
theorem dX7_layFar_35 : decode cX7_layFar 35 = .ok (.goto 5, 3) := by decide +kernel
theorem dX7_layFar_38 : decode cX7_layFar 38 = .ok (.bipush 8, 2) := by decide +kernel
theorem dX7_layFar_40 : decode cX7_layFar 40 = .ok (.iastore, 1) := by decide +kernel
theorem dX7_layFar_41 : decode cX7_layFar 41 = .ok (.iinc 3 1, 3) := by decide +kernel
theorem dX7_layFar_44 : decode cX7_layFar 44 = .ok (.goto (-42), 3) := by decide +kernel
theorem dX7_layFar_47 : decode cX7_layFar 47 = .ok (.iconst 0, 1) := by decide +kernel
theorem dX7_layFar_48 : decode cX7_layFar 48 = .ok (.istore_n 3, 1) := by decide +kernel
theorem dX7_layFar_49 : decode cX7_layFar 49 = .ok (.iload_n 3, 1) := by decide +kernel
theorem dX7_layFar_50 : decode cX7_layFar 50 = .ok (.bipush 8, 2) := by decide +kernel
theorem dX7_layFar_52 : decode cX7_layFar 52 = .ok (.if_icmp .ge 90, 3) := by decide +kernel
theorem dX7_layFar_55 : decode cX7_layFar 55 = .ok (.iconst 0, 1) := by decide +kernel
theorem dX7_layFar_56 : decode cX7_layFar 56 = .ok (.istore 4, 2) := by decide +kernel
theorem dX7_layFar_58 : decode cX7_layFar 58 = .ok (.iload 4, 2) := by decide +kernel
theorem dX7_layFar_60 : decode cX7_layFar 60 = .ok (.bipush 64, 2) := by decide +kernel
theorem dX7_layFar_62 : decode cX7_layFar 62 = .ok (.if_icmp .ge 74, 3) := by decide +kernel
theorem dX7_layFar_65 : decode cX7_layFar 65 = .ok (.aload_n 0, 1) := by decide +kernel
theorem dX7_layFar_66 : decode cX7_layFar 66 = .ok (.iload 4, 2) := by decide +kernel
theorem dX7_layFar_68 : decode cX7_layFar 68 = .ok (.bipush 8, 2) := by decide +kernel
theorem dX7_layFar_70 : decode cX7_layFar 70 = .ok (.idiv, 1) := by decide +kernel
theorem dX7_layFar_71 : decode cX7_layFar 71 = .ok (.iload 4, 2) := by decide +kernel
theorem dX7_layFar_73 : decode cX7_layFar 73 = .ok (.bipush 8, 2) := by decide +kernel
theorem dX7_layFar_75 : decode cX7_layFar 75 = .ok (.irem, 1) := by decide +kernel
theorem dX7_layFar_76 : decode cX7_layFar 76 = .ok (.iload_n 2, 1) := by decide +kernel
theorem dX7_layFar_77 : decode cX7_layFar 77 = .ok (.invokevirtual 97, 3) := by decide +kernel
theorem dX7_layFar_80 : decode cX7_layFar 80 = .ok (.ifCond .eq 50, 3) := by decide +kernel
theorem dX7_layFar_83 : decode cX7_layFar 83 = .ok (.aload_n 0, 1) := by decide +kernel
theorem dX7_layFar_84 : decode cX7_layFar 84 = .ok (.getfield 25, 3) := by decide +kernel
theorem dX7_layFar_87 : decode cX7_layFar 87 = .ok (.iload 4, 2) := by decide +kernel
theorem dX7_layFar_89 : decode cX7_layFar 89 = .ok (.bipush 8, 2) := by decide +kernel
theorem dX7_layFar_91 : decode cX7_layFar 91 = .ok (.irem, 1) := by decide +kernel
theorem dX7_layFar_92 : decode cX7_layFar 92 = .ok (.iaload, 1) := by decide +kernel
theorem dX7_layFar_93 : decode cX7_layFar 93 = .ok (.iconst 1, 1) := by decide +kernel
theorem dX7_layFar_94 : decode cX7_layFar 94 = .ok (.iadd, 1) := by decide +kernel
theorem dX7_layFar_95 : decode cX7_layFar 95 = .ok (.aload_n 0, 1) := by decide +kernel
theorem dX7_layFar_96 : decode cX7_layFar 96 = .ok (.getfield 25, 3) := by decide +kernel
theorem dX7_layFar_99 : decode cX7_layFar 99 = .ok (.iload 4, 2) := by decide +kernel
theorem dX7_layFar_101 : decode cX7_layFar 101 = .ok (.bipush 8, 2) := by decide +kernel
theorem dX7_layFar_103 : decode cX7_layFar 103 = .ok (.idiv, 1) := by decide +kernel
theorem dX7_layFar_104 : decode cX7_layFar 104 = .ok (.iaload, 1) := by decide +kernel
theorem dX7_layFar_105 : decode cX7_layFar 105 = .ok (.if_icmp .ge 25, 3) := by decide +kernel
theorem dX7_layFar_108 : decode cX7_layFar 108 = .ok (.aload_n 0, 1) := by decide +kernel
theorem dX7_layFar_109 : decode cX7_layFar 109 = .ok (.getfield 25, 3) := by decide +kernel
theorem dX7_layFar_112 : decode cX7_layFar 112 = .ok (.iload 4, 2) := by decide +kernel
theorem dX7_layFar_114 : decode cX7_layFar 114 = .ok (.bipush 8, 2) := by decide +kernel
theorem dX7_layFar_116 : decode cX7_layFar 116 = .ok (.idiv, 1) := by decide +kernel
theorem dX7_layFar_117 : decode cX7_layFar 117 = .ok (.aload_n 0, 1) := by decide +kernel
theorem dX7_layFar_118 : decode cX7_layFar 118 = .ok (.getfield 25, 3) := by decide +kernel
theorem dX7_layFar_121 : decode cX7_layFar 121 = .ok (.iload 4, 2) := by decide +kernel
theorem dX7_layFar_123 : decode cX7_layFar 123 = .ok (.bipush 8, 2) := by decide +kernel
theorem dX7_layFar_125 : decode cX7_layFar 125 = .ok (.irem, 1) := by decide +kernel
theorem dX7_layFar_126 : decode cX7_layFar 126 = .ok (.iaload, 1) := by decide +kernel
theorem dX7_layFar_127 : decode cX7_layFar 127 = .ok (.iconst 1, 1) := by decide +kernel
theorem dX7_layFar_128 : decode cX7_layFar 128 = .ok (.iadd, 1) := by decide +kernel
theorem dX7_layFar_129 : decode cX7_layFar 129 = .ok (.iastore, 1) := by decide +kernel
theorem dX7_layFar_130 : decode cX7_layFar 130 = .ok (.iinc 4 1, 3) := by decide +kernel
theorem dX7_layFar_133 : decode cX7_layFar 133 = .ok (.goto (-75), 3) := by decide +kernel
theorem dX7_layFar_136 : decode cX7_layFar 136 = .ok (.iinc 3 1, 3) := by decide +kernel
theorem dX7_layFar_139 : decode cX7_layFar 139 = .ok (.goto (-90), 3) := by decide +kernel
theorem dX7_layFar_142 : decode cX7_layFar 142 = .ok (.return_, 1) := by decide +kernel
set_option maxRecDepth 20000 in
theorem ggX7_isLet_X7_has : GoodIn wsX7_isLet wsX7_has := goodIn_r _ [6] (by decide +kernel) (by decide +kernel)
set_option maxRecDepth 20000 in
theorem gX7_isLet_X7_has : GoodIn wsX7_isLet (va_wsS RX7 68 yX7_has wsX7_has) := goodIn_app (goodIn_of _ (by decide +kernel)) ggX7_isLet_X7_has
theorem dX7_isLet_0 : decode cX7_isLet 0 = .ok (.aload_n 0, 1) := by decide +kernel
theorem dX7_isLet_1 : decode cX7_isLet 1 = .ok (.getfield 19, 3) := by decide +kernel
theorem dX7_isLet_4 : decode cX7_isLet 4 = .ok (.bipush 8, 2) := by decide +kernel
theorem dX7_isLet_6 : decode cX7_isLet 6 = .ok (.iload_n 1, 1) := by decide +kernel
theorem dX7_isLet_7 : decode cX7_isLet 7 = .ok (.imul, 1) := by decide +kernel
theorem dX7_isLet_8 : decode cX7_isLet 8 = .ok (.iload_n 2, 1) := by decide +kernel
theorem dX7_isLet_9 : decode cX7_isLet 9 = .ok (.iadd, 1) := by decide +kernel
theorem dX7_isLet_10 : decode cX7_isLet 10 = .ok (.iaload, 1) := by decide +kernel
theorem dX7_isLet_11 : decode cX7_isLet 11 = .ok (.istore 4, 2) := by decide +kernel
theorem dX7_isLet_13 : decode cX7_isLet 13 = .ok (.aload_n 0, 1) := by decide +kernel
theorem dX7_isLet_14 : decode cX7_isLet 14 = .ok (.getfield 65, 3) := by decide +kernel
theorem dX7_isLet_17 : decode cX7_isLet 17 = .ok (.iload_n 1, 1) := by decide +kernel
theorem dX7_isLet_18 : decode cX7_isLet 18 = .ok (.invokestatic 68, 3) := by decide +kernel
theorem dX7_isLet_21 : decode cX7_isLet 21 = .ok (.ifCond .eq 30, 3) := by decide +kernel
theorem dX7_isLet_24 : decode cX7_isLet 24 = .ok (.aload_n 0, 1) := by decide +kernel
theorem dX7_isLet_25 : decode cX7_isLet 25 = .ok (.getfield 65, 3) := by decide +kernel
theorem dX7_isLet_28 : decode cX7_isLet 28 = .ok (.iload_n 2, 1) := by decide +kernel
theorem dX7_isLet_29 : decode cX7_isLet 29 = .ok (.invokestatic 68, 3) := by decide +kernel
theorem dX7_isLet_32 : decode cX7_isLet 32 = .ok (.ifCond .eq 19, 3) := by decide +kernel
theorem dX7_isLet_35 : decode cX7_isLet 35 = .ok (.iload 4, 2) := by decide +kernel
theorem dX7_isLet_37 : decode cX7_isLet 37 = .ok (.iconst (-1), 1) := by decide +kernel
theorem dX7_isLet_38 : decode cX7_isLet 38 = .ok (.if_icmp .eq 13, 3) := by decide +kernel
theorem dX7_isLet_41 : decode cX7_isLet 41 = .ok (.iload 4, 2) := by decide +kernel
theorem dX7_isLet_43 : decode cX7_isLet 43 = .ok (.iload_n 3, 1) := by decide +kernel
theorem dX7_isLet_44 : decode cX7_isLet 44 = .ok (.if_icmp .ge 7, 3) := by decide +kernel
theorem dX7_isLet_47 : decode cX7_isLet 47 = .ok (.iconst 1, 1) := by decide +kernel
theorem dX7_isLet_48 : decode cX7_isLet 48 = .ok (.goto 4, 3) := by decide +kernel
theorem dX7_isLet_51 : decode cX7_isLet 51 = .ok (.iconst 0, 1) := by decide +kernel
theorem dX7_isLet_52 : decode cX7_isLet 52 = .ok (.ireturn, 1) := by decide +kernel
set_option maxRecDepth 20000 in
theorem ggX7_layWay_X7_heldNow : GoodIn wsX7_layWay wsX7_heldNow := goodIn_r _ [8, 9, 10, 11, 12, 7, 13, 14, 15, 16, 17, 18, 19, 20, 21, 22, 23, 32, 33, 34, 35, 36, 37, 38, 39, 40, 41, 42, 43, 44, 45] (by decide +kernel) (by decide +kernel)
set_option maxRecDepth 20000 in
theorem gX7_layWay_X7_heldNow : GoodIn wsX7_layWay (wsV RX7 94 RX7 yX7_heldNow wsX7_heldNow) := goodIn_app (goodIn_of _ (by decide +kernel)) ggX7_layWay_X7_heldNow
set_option maxRecDepth 20000 in
theorem ggX7_layWay_X7_layFar : GoodIn wsX7_layWay wsX7_layFar := goodIn_r _ [27, 3, 9, 15, 16, 7, 17, 18, 19, 20, 21, 22, 23, 28, 29, 30, 31, 14, 32, 33, 34, 35, 36, 37, 38, 39, 40, 41, 42, 43, 44, 45] (by decide +kernel) (by decide +kernel)
set_option maxRecDepth 20000 in
theorem gX7_layWay_X7_layFar : GoodIn wsX7_layWay (wsV RX7 103 RX7 yX7_layFar wsX7_layFar) := goodIn_app (goodIn_of _ (by decide +kernel)) ggX7_layWay_X7_layFar
set_option maxRecDepth 20000 in
theorem ggX7_layWay_X7_isLet : GoodIn wsX7_layWay wsX7_isLet := goodIn_r _ [31, 14, 9, 15, 16, 7, 17, 32, 33, 34, 35, 36, 37, 38, 39, 40, 41, 42, 43, 44, 45] (by decide +kernel) (by decide +kernel)
set_option maxRecDepth 20000 in
theorem gX7_layWay_X7_isLet : GoodIn wsX7_layWay (wsV RX7 97 RX7 yX7_isLet wsX7_isLet) := goodIn_app (goodIn_of _ (by decide +kernel)) ggX7_layWay_X7_isLet
theorem dX7_layWay_0 : decode cX7_layWay 0 = .ok (.aload_n 0, 1) := by decide +kernel
theorem dX7_layWay_1 : decode cX7_layWay 1 = .ok (.iload_n 1, 1) := by decide +kernel
theorem dX7_layWay_2 : decode cX7_layWay 2 = .ok (.iload_n 2, 1) := by decide +kernel
theorem dX7_layWay_3 : decode cX7_layWay 3 = .ok (.invokevirtual 94, 3) := by decide +kernel
theorem dX7_layWay_6 : decode cX7_layWay 6 = .ok (.istore_n 3, 1) := by decide +kernel
theorem dX7_layWay_7 : decode cX7_layWay 7 = .ok (.aload_n 0, 1) := by decide +kernel
theorem dX7_layWay_8 : decode cX7_layWay 8 = .ok (.iconst 0, 1) := by decide +kernel
theorem dX7_layWay_9 : decode cX7_layWay 9 = .ok (.putfield 100, 3) := by decide +kernel
theorem dX7_layWay_12 : decode cX7_layWay 12 = .ok (.iload_n 3, 1) := by decide +kernel
theorem dX7_layWay_13 : decode cX7_layWay 13 = .ok (.ifCond .ne 4, 3) := by decide +kernel
theorem dX7_layWay_16 : decode cX7_layWay 16 = .ok (.return_, 1) := by decide +kernel
theorem dX7_layWay_17 : decode cX7_layWay 17 = .ok (.aload_n 0, 1) := by decide +kernel
theorem dX7_layWay_18 : decode cX7_layWay 18 = .ok (.iload_n 2, 1) := by decide +kernel
theorem dX7_layWay_19 : decode cX7_layWay 19 = .ok (.iload_n 3, 1) := by decide +kernel
theorem dX7_layWay_20 : decode cX7_layWay 20 = .ok (.invokevirtual 103, 3) := by decide +kernel
theorem dX7_layWay_23 : decode cX7_layWay 23 = .ok (.iload_n 1, 1) := by decide +kernel
theorem dX7_layWay_24 : decode cX7_layWay 24 = .ok (.istore 4, 2) := by decide +kernel
theorem dX7_layWay_26 : decode cX7_layWay 26 = .ok (.aload_n 0, 1) := by decide +kernel
theorem dX7_layWay_27 : decode cX7_layWay 27 = .ok (.getfield 22, 3) := by decide +kernel
theorem dX7_layWay_30 : decode cX7_layWay 30 = .ok (.iconst 0, 1) := by decide +kernel
theorem dX7_layWay_31 : decode cX7_layWay 31 = .ok (.iload 4, 2) := by decide +kernel
theorem dX7_layWay_33 : decode cX7_layWay 33 = .ok (.iastore, 1) := by decide +kernel
theorem dX7_layWay_34 : decode cX7_layWay 34 = .ok (.aload_n 0, 1) := by decide +kernel
theorem dX7_layWay_35 : decode cX7_layWay 35 = .ok (.iconst 1, 1) := by decide +kernel
theorem dX7_layWay_36 : decode cX7_layWay 36 = .ok (.putfield 100, 3) := by decide +kernel
theorem dX7_layWay_39 : decode cX7_layWay 39 = .ok (.aload_n 0, 1) := by decide +kernel
theorem dX7_layWay_40 : decode cX7_layWay 40 = .ok (.getfield 25, 3) := by decide +kernel
theorem dX7_layWay_43 : decode cX7_layWay 43 = .ok (.iload 4, 2) := by decide +kernel
theorem dX7_layWay_45 : decode cX7_layWay 45 = .ok (.iaload, 1) := by decide +kernel
theorem dX7_layWay_46 : decode cX7_layWay 46 = .ok (.ifCond .le 71, 3) := by decide +kernel
theorem dX7_layWay_49 : decode cX7_layWay 49 = .ok (.iconst 0, 1) := by decide +kernel
theorem dX7_layWay_50 : decode cX7_layWay 50 = .ok (.istore 5, 2) := by decide +kernel
theorem dX7_layWay_52 : decode cX7_layWay 52 = .ok (.aload_n 0, 1) := by decide +kernel
theorem dX7_layWay_53 : decode cX7_layWay 53 = .ok (.iload 4, 2) := by decide +kernel
theorem dX7_layWay_55 : decode cX7_layWay 55 = .ok (.iload 5, 2) := by decide +kernel
theorem dX7_layWay_57 : decode cX7_layWay 57 = .ok (.iload_n 3, 1) := by decide +kernel
theorem dX7_layWay_58 : decode cX7_layWay 58 = .ok (.invokevirtual 97, 3) := by decide +kernel
theorem dX7_layWay_61 : decode cX7_layWay 61 = .ok (.ifCond .eq 22, 3) := by decide +kernel
theorem dX7_layWay_64 : decode cX7_layWay 64 = .ok (.aload_n 0, 1) := by decide +kernel
theorem dX7_layWay_65 : decode cX7_layWay 65 = .ok (.getfield 25, 3) := by decide +kernel
theorem dX7_layWay_68 : decode cX7_layWay 68 = .ok (.iload 5, 2) := by decide +kernel
theorem dX7_layWay_70 : decode cX7_layWay 70 = .ok (.iaload, 1) := by decide +kernel
theorem dX7_layWay_71 : decode cX7_layWay 71 = .ok (.iconst 1, 1) := by decide +kernel
theorem dX7_layWay_72 : decode cX7_layWay 72 = .ok (.iadd, 1) := by decide +kernel
theorem dX7_layWay_73 : decode cX7_layWay 73 = .ok (.aload_n 0, 1) := by decide +kernel
theorem dX7_layWay_74 : decode cX7_layWay 74 = .ok (.getfield 25, 3) := by decide +kernel
theorem dX7_layWay_77 : decode cX7_layWay 77 = .ok (.iload 4, 2) := by decide +kernel
theorem dX7_layWay_79 : decode cX7_layWay 79 = .ok (.iaload, 1) := by decide +kernel
theorem dX7_layWay_80 : decode cX7_layWay 80 = .ok (.if_icmp .eq 9, 3) := by decide +kernel
theorem dX7_layWay_83 : decode cX7_layWay 83 = .ok (.iinc 5 1, 3) := by decide +kernel
theorem dX7_layWay_86 : decode cX7_layWay 86 = .ok (.goto (-34), 3) := by decide +kernel
theorem dX7_layWay_89 : decode cX7_layWay 89 = .ok (.iload 5, 2) := by decide +kernel
theorem dX7_layWay_91 : decode cX7_layWay 91 = .ok (.istore 4, 2) := by decide +kernel
theorem dX7_layWay_93 : decode cX7_layWay 93 = .ok (.aload_n 0, 1) := by decide +kernel
theorem dX7_layWay_94 : decode cX7_layWay 94 = .ok (.getfield 22, 3) := by decide +kernel
theorem dX7_layWay_97 : decode cX7_layWay 97 = .ok (.aload_n 0, 1) := by decide +kernel
theorem dX7_layWay_98 : decode cX7_layWay 98 = .ok (.getfield 100, 3) := by decide +kernel
theorem dX7_layWay_101 : decode cX7_layWay 101 = .ok (.iload 4, 2) := by decide +kernel
theorem dX7_layWay_103 : decode cX7_layWay 103 = .ok (.iastore, 1) := by decide +kernel
theorem dX7_layWay_104 : decode cX7_layWay 104 = .ok (.aload_n 0, 1) := by decide +kernel
theorem dX7_layWay_105 : decode cX7_layWay 105 = .ok (.dup, 1) := by decide +kernel
theorem dX7_layWay_106 : decode cX7_layWay 106 = .ok (.getfield 100, 3) := by decide +kernel
theorem dX7_layWay_109 : decode cX7_layWay 109 = .ok (.iconst 1, 1) := by decide +kernel
theorem dX7_layWay_110 : decode cX7_layWay 110 = .ok (.iadd, 1) := by decide +kernel
theorem dX7_layWay_111 : decode cX7_layWay 111 = .ok (.putfield 100, 3) := by decide +kernel
theorem dX7_layWay_114 : decode cX7_layWay 114 = .ok (.goto (-75), 3) := by decide +kernel
theorem dX7_layWay_117 : decode cX7_layWay 117 = .ok (.return_, 1) := by decide +kernel
set_option maxRecDepth 20000 in
theorem ggX7_way_X7_isPart : GoodIn wsX7_way wsX7_isPart := goodIn_r _ [7, 8, 9, 10, 6, 11, 12, 13, 14, 43, 44, 45, 46, 47, 48, 49, 50, 51, 52, 53, 54, 55, 56] (by decide +kernel) (by decide +kernel)
set_option maxRecDepth 20000 in
theorem gX7_way_X7_isPart : GoodIn wsX7_way (wsV RX7 71 RX7 yX7_isPart wsX7_isPart) := goodIn_app (goodIn_of _ (by decide +kernel)) ggX7_way_X7_isPart
set_option maxRecDepth 20000 in
theorem ggX7_way_X7_within : GoodIn wsX7_way wsX7_within := goodIn_r _ [11] (by decide +kernel) (by decide +kernel)
set_option maxRecDepth 20000 in
theorem gX7_way_X7_within : GoodIn wsX7_way (va_wsS RX7 31 yX7_within wsX7_within) := goodIn_app (goodIn_of _ (by decide +kernel)) ggX7_way_X7_within
set_option maxRecDepth 20000 in
theorem ggX7_way_X7_layWay : GoodIn wsX7_way wsX7_layWay := goodIn_r _ [18, 1, 2, 19, 20, 21, 22, 6, 23, 8, 24, 25, 26, 27, 28, 12, 13, 14, 29, 30, 31, 32, 33, 34, 35, 36, 37, 38, 39, 40, 41, 42, 43, 44, 45, 46, 47, 48, 49, 50, 51, 52, 53, 54, 55, 56] (by decide +kernel) (by decide +kernel)
set_option maxRecDepth 20000 in
theorem gX7_way_X7_layWay : GoodIn wsX7_way (wsV RX7 107 RX7 yX7_layWay wsX7_layWay) := goodIn_app (goodIn_of _ (by decide +kernel)) ggX7_way_X7_layWay
