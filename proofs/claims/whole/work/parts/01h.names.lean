theorem dX5_markOf_44 : decode cX5_markOf 44 = .ok (.iaload, 1) := by decide +kernel
theorem dX5_markOf_45 : decode cX5_markOf 45 = .ok (.imul, 1) := by decide +kernel
theorem dX5_markOf_46 : decode cX5_markOf 46 = .ok (.if_icmp .ge 63, 3) := by decide +kernel
theorem dX5_markOf_49 : decode cX5_markOf 49 = .ok (.iload 4, 2) := by decide +kernel
theorem dX5_markOf_51 : decode cX5_markOf 51 = .ok (.iload_n 1, 1) := by decide +kernel
theorem dX5_markOf_52 : decode cX5_markOf 52 = .ok (.if_icmp .lt 9, 3) := by decide +kernel
theorem dX5_markOf_55 : decode cX5_markOf 55 = .ok (.iload 5, 2) := by decide +kernel
theorem dX5_markOf_57 : decode cX5_markOf 57 = .ok (.iload_n 2, 1) := by decide +kernel
theorem dX5_markOf_58 : decode cX5_markOf 58 = .ok (.if_icmp .gt 51, 3) := by decide +kernel
theorem dX5_markOf_61 : decode cX5_markOf 61 = .ok (.iload 4, 2) := by decide +kernel
theorem dX5_markOf_63 : decode cX5_markOf 63 = .ok (.iload 5, 2) := by decide +kernel
theorem dX5_markOf_65 : decode cX5_markOf 65 = .ok (.invokestatic 57, 3) := by decide +kernel
theorem dX5_markOf_68 : decode cX5_markOf 68 = .ok (.istore 6, 2) := by decide +kernel
theorem dX5_markOf_70 : decode cX5_markOf 70 = .ok (.aload_n 0, 1) := by decide +kernel
theorem dX5_markOf_71 : decode cX5_markOf 71 = .ok (.getfield 37, 3) := by decide +kernel
theorem dX5_markOf_74 : decode cX5_markOf 74 = .ok (.iload 6, 2) := by decide +kernel
theorem dX5_markOf_76 : decode cX5_markOf 76 = .ok (.baload, 1) := by decide +kernel
theorem dX5_markOf_77 : decode cX5_markOf 77 = .ok (.ifCond .eq 15, 3) := by decide +kernel
theorem dX5_markOf_80 : decode cX5_markOf 80 = .ok (.iload 6, 2) := by decide +kernel
theorem dX5_markOf_82 : decode cX5_markOf 82 = .ok (.iconst 1, 1) := by decide +kernel
theorem dX5_markOf_83 : decode cX5_markOf 83 = .ok (.iadd, 1) := by decide +kernel
theorem dX5_markOf_84 : decode cX5_markOf 84 = .ok (.bipush 101, 2) := by decide +kernel
theorem dX5_markOf_86 : decode cX5_markOf 86 = .ok (.irem, 1) := by decide +kernel
theorem dX5_markOf_87 : decode cX5_markOf 87 = .ok (.istore 6, 2) := by decide +kernel
theorem dX5_markOf_89 : decode cX5_markOf 89 = .ok (.goto (-19), 3) := by decide +kernel
theorem dX5_markOf_92 : decode cX5_markOf 92 = .ok (.aload_n 0, 1) := by decide +kernel
theorem dX5_markOf_93 : decode cX5_markOf 93 = .ok (.getfield 37, 3) := by decide +kernel
theorem dX5_markOf_96 : decode cX5_markOf 96 = .ok (.iload 6, 2) := by decide +kernel
theorem dX5_markOf_98 : decode cX5_markOf 98 = .ok (.iconst 1, 1) := by decide +kernel
theorem dX5_markOf_99 : decode cX5_markOf 99 = .ok (.bastore, 1) := by decide +kernel
theorem dX5_markOf_100 : decode cX5_markOf 100 = .ok (.iload 6, 2) := by decide +kernel
theorem dX5_markOf_102 : decode cX5_markOf 102 = .ok (.istore_n 3, 1) := by decide +kernel
theorem dX5_markOf_103 : decode cX5_markOf 103 = .ok (.iinc 5 1, 3) := by decide +kernel
theorem dX5_markOf_106 : decode cX5_markOf 106 = .ok (.goto (-71), 3) := by decide +kernel
theorem dX5_markOf_109 : decode cX5_markOf 109 = .ok (.iinc 4 1, 3) := by decide +kernel
theorem dX5_markOf_112 : decode cX5_markOf 112 = .ok (.goto (-86), 3) := by decide +kernel
theorem dX5_markOf_115 : decode cX5_markOf 115 = .ok (.iload_n 3, 1) := by decide +kernel
theorem dX5_markOf_116 : decode cX5_markOf 116 = .ok (.ireturn, 1) := by decide +kernel
set_option maxRecDepth 20000 in
theorem ggX5_at_X5_in : GoodIn wsX5_at wsX5_in := goodIn_r _ [5] (by decide +kernel) (by decide +kernel)
set_option maxRecDepth 20000 in
theorem gX5_at_X5_in : GoodIn wsX5_at (va_wsS RX5 88 yX5_in wsX5_in) := goodIn_app (goodIn_of _ (by decide +kernel)) ggX5_at_X5_in
set_option maxRecDepth 20000 in
theorem ggX5_at_X5_refuses : GoodIn wsX5_at wsX5_refuses := goodIn_r _ [9, 10, 11, 12, 13, 14, 15, 16, 17, 18, 19, 20, 21, 22, 23, 24, 25, 26, 27, 28, 29] (by decide +kernel) (by decide +kernel)
set_option maxRecDepth 20000 in
theorem gX5_at_X5_refuses : GoodIn wsX5_at (wsV RX5 82 RX5 yX5_refuses wsX5_refuses) := goodIn_app (goodIn_of _ (by decide +kernel)) ggX5_at_X5_refuses
theorem dX5_at_0 : decode cX5_at 0 = .ok (.iload_n 1, 1) := by decide +kernel
theorem dX5_at_1 : decode cX5_at 1 = .ok (.iconst 0, 1) := by decide +kernel
theorem dX5_at_2 : decode cX5_at 2 = .ok (.bipush 100, 2) := by decide +kernel
theorem dX5_at_4 : decode cX5_at 4 = .ok (.invokestatic 88, 3) := by decide +kernel
theorem dX5_at_7 : decode cX5_at 7 = .ok (.ifCond .eq 12, 3) := by decide +kernel
theorem dX5_at_10 : decode cX5_at 10 = .ok (.aload_n 0, 1) := by decide +kernel
theorem dX5_at_11 : decode cX5_at 11 = .ok (.getfield 22, 3) := by decide +kernel
theorem dX5_at_14 : decode cX5_at 14 = .ok (.iload_n 1, 1) := by decide +kernel
theorem dX5_at_15 : decode cX5_at 15 = .ok (.iaload, 1) := by decide +kernel
theorem dX5_at_16 : decode cX5_at 16 = .ok (.goto 9, 3) := by decide +kernel
theorem dX5_at_19 : decode cX5_at 19 = .ok (.aload_n 0, 1) := by decide +kernel
theorem dX5_at_20 : decode cX5_at 20 = .ok (.bipush (-2), 2) := by decide +kernel
theorem dX5_at_22 : decode cX5_at 22 = .ok (.invokevirtual 82, 3) := by decide +kernel
theorem dX5_at_25 : decode cX5_at 25 = .ok (.ireturn, 1) := by decide +kernel
set_option maxRecDepth 20000 in
theorem ggX5_name_X5_refuses : GoodIn wsX5_name wsX5_refuses := goodIn_r _ [5, 6, 12, 13, 14, 15, 16, 17, 18, 19, 20, 21, 22, 23, 24, 25, 26, 27, 28, 29, 30] (by decide +kernel) (by decide +kernel)
set_option maxRecDepth 20000 in
theorem gX5_name_X5_refuses : GoodIn wsX5_name (wsV RX5 82 RX5 yX5_refuses wsX5_refuses) := goodIn_app (goodIn_of _ (by decide +kernel)) ggX5_name_X5_refuses
set_option maxRecDepth 20000 in
theorem ggX5_name_X5_isHost : GoodIn wsX5_name wsX5_isHost := goodIn_r _ [10, 11, 12, 13, 14, 15, 16, 17, 18, 19, 20, 21, 22, 23, 24, 25, 26, 27, 28, 29, 30] (by decide +kernel) (by decide +kernel)
set_option maxRecDepth 20000 in
theorem gX5_name_X5_isHost : GoodIn wsX5_name (wsV RX5 92 RX5 yX5_isHost wsX5_isHost) := goodIn_app (goodIn_of _ (by decide +kernel)) ggX5_name_X5_isHost
theorem dX5_name_0 : decode cX5_name 0 = .ok (.iload_n 1, 1) := by decide +kernel
theorem dX5_name_1 : decode cX5_name 1 = .ok (.ifCond .ge 10, 3) := by decide +kernel
theorem dX5_name_4 : decode cX5_name 4 = .ok (.aload_n 0, 1) := by decide +kernel
theorem dX5_name_5 : decode cX5_name 5 = .ok (.bipush (-2), 2) := by decide +kernel
theorem dX5_name_7 : decode cX5_name 7 = .ok (.invokevirtual 82, 3) := by decide +kernel
theorem dX5_name_10 : decode cX5_name 10 = .ok (.ireturn, 1) := by decide +kernel
theorem dX5_name_11 : decode cX5_name 11 = .ok (.iload_n 1, 1) := by decide +kernel
theorem dX5_name_12 : decode cX5_name 12 = .ok (.istore_n 2, 1) := by decide +kernel
theorem dX5_name_13 : decode cX5_name 13 = .ok (.iconst 0, 1) := by decide +kernel
theorem dX5_name_14 : decode cX5_name 14 = .ok (.istore_n 3, 1) := by decide +kernel
theorem dX5_name_15 : decode cX5_name 15 = .ok (.iload_n 3, 1) := by decide +kernel
theorem dX5_name_16 : decode cX5_name 16 = .ok (.bipush 100, 2) := by decide +kernel
theorem dX5_name_18 : decode cX5_name 18 = .ok (.if_icmp .ge 26, 3) := by decide +kernel
theorem dX5_name_21 : decode cX5_name 21 = .ok (.aload_n 0, 1) := by decide +kernel
theorem dX5_name_22 : decode cX5_name 22 = .ok (.iload_n 3, 1) := by decide +kernel
theorem dX5_name_23 : decode cX5_name 23 = .ok (.invokevirtual 92, 3) := by decide +kernel
theorem dX5_name_26 : decode cX5_name 26 = .ok (.ifCond .eq 12, 3) := by decide +kernel
theorem dX5_name_29 : decode cX5_name 29 = .ok (.iload_n 2, 1) := by decide +kernel
theorem dX5_name_30 : decode cX5_name 30 = .ok (.ifCond .ne 5, 3) := by decide +kernel
theorem dX5_name_33 : decode cX5_name 33 = .ok (.iload_n 3, 1) := by decide +kernel
theorem dX5_name_34 : decode cX5_name 34 = .ok (.ireturn, 1) := by decide +kernel
theorem dX5_name_35 : decode cX5_name 35 = .ok (.iinc 2 (-1), 3) := by decide +kernel
theorem dX5_name_38 : decode cX5_name 38 = .ok (.iinc 3 1, 3) := by decide +kernel
theorem dX5_name_41 : decode cX5_name 41 = .ok (.goto (-26), 3) := by decide +kernel
theorem dX5_name_44 : decode cX5_name 44 = .ok (.iconst (-1), 1) := by decide +kernel
theorem dX5_name_45 : decode cX5_name 45 = .ok (.ireturn, 1) := by decide +kernel
theorem dX5_shareOf_0 : decode cX5_shareOf 0 = .ok (.iconst 0, 1) := by decide +kernel
theorem dX5_shareOf_1 : decode cX5_shareOf 1 = .ok (.istore_n 2, 1) := by decide +kernel
theorem dX5_shareOf_2 : decode cX5_shareOf 2 = .ok (.iconst 0, 1) := by decide +kernel
theorem dX5_shareOf_3 : decode cX5_shareOf 3 = .ok (.istore_n 3, 1) := by decide +kernel
theorem dX5_shareOf_4 : decode cX5_shareOf 4 = .ok (.iload_n 3, 1) := by decide +kernel
theorem dX5_shareOf_5 : decode cX5_shareOf 5 = .ok (.bipush 101, 2) := by decide +kernel
theorem dX5_shareOf_7 : decode cX5_shareOf 7 = .ok (.if_icmp .ge 54, 3) := by decide +kernel
theorem dX5_shareOf_10 : decode cX5_shareOf 10 = .ok (.iload_n 3, 1) := by decide +kernel
theorem dX5_shareOf_11 : decode cX5_shareOf 11 = .ok (.istore 4, 2) := by decide +kernel
theorem dX5_shareOf_13 : decode cX5_shareOf 13 = .ok (.aload_n 0, 1) := by decide +kernel
theorem dX5_shareOf_14 : decode cX5_shareOf 14 = .ok (.getfield 22, 3) := by decide +kernel
theorem dX5_shareOf_17 : decode cX5_shareOf 17 = .ok (.iload 4, 2) := by decide +kernel
theorem dX5_shareOf_19 : decode cX5_shareOf 19 = .ok (.iaload, 1) := by decide +kernel
theorem dX5_shareOf_20 : decode cX5_shareOf 20 = .ok (.iconst (-1), 1) := by decide +kernel
theorem dX5_shareOf_21 : decode cX5_shareOf 21 = .ok (.if_icmp .ne 15, 3) := by decide +kernel
theorem dX5_shareOf_24 : decode cX5_shareOf 24 = .ok (.iload 4, 2) := by decide +kernel
theorem dX5_shareOf_26 : decode cX5_shareOf 26 = .ok (.iconst 1, 1) := by decide +kernel
theorem dX5_shareOf_27 : decode cX5_shareOf 27 = .ok (.iadd, 1) := by decide +kernel
theorem dX5_shareOf_28 : decode cX5_shareOf 28 = .ok (.bipush 101, 2) := by decide +kernel
theorem dX5_shareOf_30 : decode cX5_shareOf 30 = .ok (.irem, 1) := by decide +kernel
theorem dX5_shareOf_31 : decode cX5_shareOf 31 = .ok (.istore 4, 2) := by decide +kernel
theorem dX5_shareOf_33 : decode cX5_shareOf 33 = .ok (.goto (-20), 3) := by decide +kernel
theorem dX5_shareOf_36 : decode cX5_shareOf 36 = .ok (.iload_n 2, 1) := by decide +kernel
theorem dX5_shareOf_37 : decode cX5_shareOf 37 = .ok (.aload_n 0, 1) := by decide +kernel
theorem dX5_shareOf_38 : decode cX5_shareOf 38 = .ok (.getfield 22, 3) := by decide +kernel
theorem dX5_shareOf_41 : decode cX5_shareOf 41 = .ok (.iload 4, 2) := by decide +kernel
theorem dX5_shareOf_43 : decode cX5_shareOf 43 = .ok (.iaload, 1) := by decide +kernel
theorem dX5_shareOf_44 : decode cX5_shareOf 44 = .ok (.iload_n 1, 1) := by decide +kernel
theorem dX5_shareOf_45 : decode cX5_shareOf 45 = .ok (.if_icmp .ne 7, 3) := by decide +kernel
theorem dX5_shareOf_48 : decode cX5_shareOf 48 = .ok (.iconst 1, 1) := by decide +kernel
theorem dX5_shareOf_49 : decode cX5_shareOf 49 = .ok (.goto 4, 3) := by decide +kernel
theorem dX5_shareOf_52 : decode cX5_shareOf 52 = .ok (.iconst 0, 1) := by decide +kernel
theorem dX5_shareOf_53 : decode cX5_shareOf 53 = .ok (.iadd, 1) := by decide +kernel
theorem dX5_shareOf_54 : decode cX5_shareOf 54 = .ok (.istore_n 2, 1) := by decide +kernel
theorem dX5_shareOf_55 : decode cX5_shareOf 55 = .ok (.iinc 3 1, 3) := by decide +kernel
theorem dX5_shareOf_58 : decode cX5_shareOf 58 = .ok (.goto (-54), 3) := by decide +kernel
theorem dX5_shareOf_61 : decode cX5_shareOf 61 = .ok (.iload_n 2, 1) := by decide +kernel
theorem dX5_shareOf_62 : decode cX5_shareOf 62 = .ok (.ireturn, 1) := by decide +kernel
set_option maxRecDepth 20000 in
theorem ggX5_share_X5_isName : GoodIn wsX5_share wsX5_isName := goodIn_r _ [4, 5, 6, 3, 7] (by decide +kernel) (by decide +kernel)
set_option maxRecDepth 20000 in
theorem gX5_share_X5_isName : GoodIn wsX5_share (va_wsS RX5 95 yX5_isName wsX5_isName) := goodIn_app (goodIn_of _ (by decide +kernel)) ggX5_share_X5_isName
set_option maxRecDepth 20000 in
theorem ggX5_share_X5_refuses : GoodIn wsX5_share wsX5_refuses := goodIn_r _ [11, 12, 23, 24, 25, 26, 27, 28, 29, 30, 31, 32, 33, 34, 35, 36, 37, 38, 39, 40, 41] (by decide +kernel) (by decide +kernel)
set_option maxRecDepth 20000 in
theorem gX5_share_X5_refuses : GoodIn wsX5_share (wsV RX5 82 RX5 yX5_refuses wsX5_refuses) := goodIn_app (goodIn_of _ (by decide +kernel)) ggX5_share_X5_refuses
set_option maxRecDepth 20000 in
theorem ggX5_share_X5_isHost : GoodIn wsX5_share wsX5_isHost := goodIn_r _ [16, 17, 23, 24, 25, 26, 27, 28, 29, 30, 31, 32, 33, 34, 35, 36, 37, 38, 39, 40, 41] (by decide +kernel) (by decide +kernel)
set_option maxRecDepth 20000 in
theorem gX5_share_X5_isHost : GoodIn wsX5_share (wsV RX5 92 RX5 yX5_isHost wsX5_isHost) := goodIn_app (goodIn_of _ (by decide +kernel)) ggX5_share_X5_isHost
set_option maxRecDepth 20000 in
theorem ggX5_share_X5_shareOf : GoodIn wsX5_share wsX5_shareOf := goodIn_r _ [21, 22, 23, 24, 25, 26, 27, 28, 29, 30, 31, 32, 33, 34, 35, 36, 37, 38, 39, 40, 41] (by decide +kernel) (by decide +kernel)
set_option maxRecDepth 20000 in
theorem gX5_share_X5_shareOf : GoodIn wsX5_share (wsV RX5 140 RX5 yX5_shareOf wsX5_shareOf) := goodIn_app (goodIn_of _ (by decide +kernel)) ggX5_share_X5_shareOf
theorem dX5_share_0 : decode cX5_share 0 = .ok (.iload_n 1, 1) := by decide +kernel
theorem dX5_share_1 : decode cX5_share 1 = .ok (.invokestatic 95, 3) := by decide +kernel
theorem dX5_share_4 : decode cX5_share 4 = .ok (.ifCond .ne 10, 3) := by decide +kernel
theorem dX5_share_7 : decode cX5_share 7 = .ok (.aload_n 0, 1) := by decide +kernel
theorem dX5_share_8 : decode cX5_share 8 = .ok (.bipush (-2), 2) := by decide +kernel
theorem dX5_share_10 : decode cX5_share 10 = .ok (.invokevirtual 82, 3) := by decide +kernel
theorem dX5_share_13 : decode cX5_share 13 = .ok (.ireturn, 1) := by decide +kernel
theorem dX5_share_14 : decode cX5_share 14 = .ok (.aload_n 0, 1) := by decide +kernel
theorem dX5_share_15 : decode cX5_share 15 = .ok (.iload_n 1, 1) := by decide +kernel
theorem dX5_share_16 : decode cX5_share 16 = .ok (.invokevirtual 92, 3) := by decide +kernel
theorem dX5_share_19 : decode cX5_share 19 = .ok (.ifCond .eq 11, 3) := by decide +kernel
theorem dX5_share_22 : decode cX5_share 22 = .ok (.aload_n 0, 1) := by decide +kernel
theorem dX5_share_23 : decode cX5_share 23 = .ok (.iload_n 1, 1) := by decide +kernel
theorem dX5_share_24 : decode cX5_share 24 = .ok (.invokevirtual 140, 3) := by decide +kernel
theorem dX5_share_27 : decode cX5_share 27 = .ok (.goto 9, 3) := by decide +kernel
theorem dX5_share_30 : decode cX5_share 30 = .ok (.aload_n 0, 1) := by decide +kernel
theorem dX5_share_31 : decode cX5_share 31 = .ok (.bipush (-3), 2) := by decide +kernel
theorem dX5_share_33 : decode cX5_share 33 = .ok (.invokevirtual 82, 3) := by decide +kernel
theorem dX5_share_36 : decode cX5_share 36 = .ok (.ireturn, 1) := by decide +kernel
set_option maxRecDepth 20000 in
theorem ggX5_has_X5_isKey : GoodIn wsX5_has wsX5_isKey := goodIn_r _ [5, 6, 7, 4, 8] (by decide +kernel) (by decide +kernel)
set_option maxRecDepth 20000 in
theorem gX5_has_X5_isKey : GoodIn wsX5_has (va_wsS RX5 101 yX5_isKey wsX5_isKey) := goodIn_app (goodIn_of _ (by decide +kernel)) ggX5_has_X5_isKey
set_option maxRecDepth 20000 in
theorem ggX5_has_X5_refuses : GoodIn wsX5_has wsX5_refuses := goodIn_r _ [12, 13, 19, 20, 21, 22, 23, 24, 25, 26, 27, 28, 29, 30, 31, 32, 33, 34, 35, 36, 37] (by decide +kernel) (by decide +kernel)
set_option maxRecDepth 20000 in
theorem gX5_has_X5_refuses : GoodIn wsX5_has (wsV RX5 82 RX5 yX5_refuses wsX5_refuses) := goodIn_app (goodIn_of _ (by decide +kernel)) ggX5_has_X5_refuses
set_option maxRecDepth 20000 in
theorem ggX5_has_X5_rowOf : GoodIn wsX5_has wsX5_rowOf := goodIn_r _ [17, 18, 19, 20, 21, 22, 23, 24, 25, 26, 27, 28, 29, 30, 31, 32, 33, 34, 35, 36, 37] (by decide +kernel) (by decide +kernel)
set_option maxRecDepth 20000 in
theorem gX5_has_X5_rowOf : GoodIn wsX5_has (wsV RX5 104 RX5 yX5_rowOf wsX5_rowOf) := goodIn_app (goodIn_of _ (by decide +kernel)) ggX5_has_X5_rowOf
theorem dX5_has_0 : decode cX5_has 0 = .ok (.iload_n 1, 1) := by decide +kernel
theorem dX5_has_1 : decode cX5_has 1 = .ok (.invokestatic 101, 3) := by decide +kernel
theorem dX5_has_4 : decode cX5_has 4 = .ok (.ifCond .ne 10, 3) := by decide +kernel
theorem dX5_has_7 : decode cX5_has 7 = .ok (.aload_n 0, 1) := by decide +kernel
theorem dX5_has_8 : decode cX5_has 8 = .ok (.bipush (-2), 2) := by decide +kernel
theorem dX5_has_10 : decode cX5_has 10 = .ok (.invokevirtual 82, 3) := by decide +kernel
theorem dX5_has_13 : decode cX5_has 13 = .ok (.ireturn, 1) := by decide +kernel
theorem dX5_has_14 : decode cX5_has 14 = .ok (.aload_n 0, 1) := by decide +kernel
theorem dX5_has_15 : decode cX5_has 15 = .ok (.iload_n 1, 1) := by decide +kernel
theorem dX5_has_16 : decode cX5_has 16 = .ok (.invokevirtual 104, 3) := by decide +kernel
theorem dX5_has_19 : decode cX5_has 19 = .ok (.istore_n 2, 1) := by decide +kernel
theorem dX5_has_20 : decode cX5_has 20 = .ok (.iload_n 2, 1) := by decide +kernel
theorem dX5_has_21 : decode cX5_has 21 = .ok (.iconst (-1), 1) := by decide +kernel
theorem dX5_has_22 : decode cX5_has 22 = .ok (.if_icmp .ne 12, 3) := by decide +kernel
theorem dX5_has_25 : decode cX5_has 25 = .ok (.aload_n 0, 1) := by decide +kernel
theorem dX5_has_26 : decode cX5_has 26 = .ok (.bipush (-3), 2) := by decide +kernel
theorem dX5_has_28 : decode cX5_has 28 = .ok (.invokevirtual 82, 3) := by decide +kernel
theorem dX5_has_31 : decode cX5_has 31 = .ok (.goto 17, 3) := by decide +kernel
theorem dX5_has_34 : decode cX5_has 34 = .ok (.aload_n 0, 1) := by decide +kernel
theorem dX5_has_35 : decode cX5_has 35 = .ok (.getfield 25, 3) := by decide +kernel
theorem dX5_has_38 : decode cX5_has 38 = .ok (.iload_n 2, 1) := by decide +kernel
theorem dX5_has_39 : decode cX5_has 39 = .ok (.ifCond .ge 7, 3) := by decide +kernel
theorem dX5_has_42 : decode cX5_has 42 = .ok (.iconst 0, 1) := by decide +kernel
theorem dX5_has_43 : decode cX5_has 43 = .ok (.goto 4, 3) := by decide +kernel
theorem dX5_has_46 : decode cX5_has 46 = .ok (.iload_n 2, 1) := by decide +kernel
theorem dX5_has_47 : decode cX5_has 47 = .ok (.iaload, 1) := by decide +kernel
theorem dX5_has_48 : decode cX5_has 48 = .ok (.ireturn, 1) := by decide +kernel
set_option maxRecDepth 20000 in
theorem ggX5_aboutKey_X5_placeOf : GoodIn wsX5_aboutKey wsX5_placeOf := goodIn_r _ [8] (by decide +kernel) (by decide +kernel)
set_option maxRecDepth 20000 in
theorem gX5_aboutKey_X5_placeOf : GoodIn wsX5_aboutKey (va_wsS RX5 64 yX5_placeOf wsX5_placeOf) := goodIn_app (goodIn_of _ (by decide +kernel)) ggX5_aboutKey_X5_placeOf
theorem dX5_aboutKey_0 : decode cX5_aboutKey 0 = .ok (.aload_n 0, 1) := by decide +kernel
theorem dX5_aboutKey_1 : decode cX5_aboutKey 1 = .ok (.getfield 7, 3) := by decide +kernel
theorem dX5_aboutKey_4 : decode cX5_aboutKey 4 = .ok (.bipush 100, 2) := by decide +kernel
theorem dX5_aboutKey_6 : decode cX5_aboutKey 6 = .ok (.iload_n 1, 1) := by decide +kernel
theorem dX5_aboutKey_7 : decode cX5_aboutKey 7 = .ok (.iadd, 1) := by decide +kernel
theorem dX5_aboutKey_8 : decode cX5_aboutKey 8 = .ok (.iaload, 1) := by decide +kernel
theorem dX5_aboutKey_9 : decode cX5_aboutKey 9 = .ok (.invokestatic 64, 3) := by decide +kernel
theorem dX5_aboutKey_12 : decode cX5_aboutKey 12 = .ok (.istore_n 3, 1) := by decide +kernel
theorem dX5_aboutKey_13 : decode cX5_aboutKey 13 = .ok (.iload_n 2, 1) := by decide +kernel
theorem dX5_aboutKey_14 : decode cX5_aboutKey 14 = .ok (.ifCond .eq 13, 3) := by decide +kernel
theorem dX5_aboutKey_17 : decode cX5_aboutKey 17 = .ok (.aload_n 0, 1) := by decide +kernel
theorem dX5_aboutKey_18 : decode cX5_aboutKey 18 = .ok (.getfield 25, 3) := by decide +kernel
theorem dX5_aboutKey_21 : decode cX5_aboutKey 21 = .ok (.iload_n 1, 1) := by decide +kernel
theorem dX5_aboutKey_22 : decode cX5_aboutKey 22 = .ok (.iaload, 1) := by decide +kernel
theorem dX5_aboutKey_23 : decode cX5_aboutKey 23 = .ok (.iconst (-1), 1) := by decide +kernel
theorem dX5_aboutKey_24 : decode cX5_aboutKey 24 = .ok (.if_icmp .ne 13, 3) := by decide +kernel
theorem dX5_aboutKey_27 : decode cX5_aboutKey 27 = .ok (.iload_n 2, 1) := by decide +kernel
theorem dX5_aboutKey_28 : decode cX5_aboutKey 28 = .ok (.ifCond .ne 7, 3) := by decide +kernel
theorem dX5_aboutKey_31 : decode cX5_aboutKey 31 = .ok (.iload_n 3, 1) := by decide +kernel
theorem dX5_aboutKey_32 : decode cX5_aboutKey 32 = .ok (.goto 4, 3) := by decide +kernel
theorem dX5_aboutKey_35 : decode cX5_aboutKey 35 = .ok (.iconst (-1), 1) := by decide +kernel
theorem dX5_aboutKey_36 : decode cX5_aboutKey 36 = .ok (.ireturn, 1) := by decide +kernel
theorem dX5_aboutKey_37 : decode cX5_aboutKey 37 = .ok (.iconst 0, 1) := by decide +kernel
theorem dX5_aboutKey_38 : decode cX5_aboutKey 38 = .ok (.istore 4, 2) := by decide +kernel
theorem dX5_aboutKey_40 : decode cX5_aboutKey 40 = .ok (.iconst 0, 1) := by decide +kernel
theorem dX5_aboutKey_41 : decode cX5_aboutKey 41 = .ok (.istore 5, 2) := by decide +kernel
theorem dX5_aboutKey_43 : decode cX5_aboutKey 43 = .ok (.iload_n 3, 1) := by decide +kernel
theorem dX5_aboutKey_44 : decode cX5_aboutKey 44 = .ok (.istore 6, 2) := by decide +kernel
theorem dX5_aboutKey_46 : decode cX5_aboutKey 46 = .ok (.iload 6, 2) := by decide +kernel
theorem dX5_aboutKey_48 : decode cX5_aboutKey 48 = .ok (.aload_n 0, 1) := by decide +kernel
theorem dX5_aboutKey_49 : decode cX5_aboutKey 49 = .ok (.getfield 28, 3) := by decide +kernel
theorem dX5_aboutKey_52 : decode cX5_aboutKey 52 = .ok (.iload_n 1, 1) := by decide +kernel
theorem dX5_aboutKey_53 : decode cX5_aboutKey 53 = .ok (.iaload, 1) := by decide +kernel
theorem dX5_aboutKey_54 : decode cX5_aboutKey 54 = .ok (.if_icmp .eq 39, 3) := by decide +kernel
theorem dX5_aboutKey_57 : decode cX5_aboutKey 57 = .ok (.iload 4, 2) := by decide +kernel
theorem dX5_aboutKey_59 : decode cX5_aboutKey 59 = .ok (.aload_n 0, 1) := by decide +kernel
theorem dX5_aboutKey_60 : decode cX5_aboutKey 60 = .ok (.getfield 22, 3) := by decide +kernel
theorem dX5_aboutKey_63 : decode cX5_aboutKey 63 = .ok (.iload 6, 2) := by decide +kernel
theorem dX5_aboutKey_65 : decode cX5_aboutKey 65 = .ok (.iaload, 1) := by decide +kernel
theorem dX5_aboutKey_66 : decode cX5_aboutKey 66 = .ok (.iconst (-1), 1) := by decide +kernel
theorem dX5_aboutKey_67 : decode cX5_aboutKey 67 = .ok (.if_icmp .ne 7, 3) := by decide +kernel
theorem dX5_aboutKey_70 : decode cX5_aboutKey 70 = .ok (.iconst 0, 1) := by decide +kernel
theorem dX5_aboutKey_71 : decode cX5_aboutKey 71 = .ok (.goto 4, 3) := by decide +kernel
theorem dX5_aboutKey_74 : decode cX5_aboutKey 74 = .ok (.iconst 1, 1) := by decide +kernel
theorem dX5_aboutKey_75 : decode cX5_aboutKey 75 = .ok (.iadd, 1) := by decide +kernel
theorem dX5_aboutKey_76 : decode cX5_aboutKey 76 = .ok (.istore 4, 2) := by decide +kernel
theorem dX5_aboutKey_78 : decode cX5_aboutKey 78 = .ok (.iinc 5 1, 3) := by decide +kernel
theorem dX5_aboutKey_81 : decode cX5_aboutKey 81 = .ok (.iload 6, 2) := by decide +kernel
theorem dX5_aboutKey_83 : decode cX5_aboutKey 83 = .ok (.iconst 1, 1) := by decide +kernel
theorem dX5_aboutKey_84 : decode cX5_aboutKey 84 = .ok (.iadd, 1) := by decide +kernel
theorem dX5_aboutKey_85 : decode cX5_aboutKey 85 = .ok (.bipush 101, 2) := by decide +kernel
theorem dX5_aboutKey_87 : decode cX5_aboutKey 87 = .ok (.irem, 1) := by decide +kernel
theorem dX5_aboutKey_88 : decode cX5_aboutKey 88 = .ok (.istore 6, 2) := by decide +kernel
theorem dX5_aboutKey_90 : decode cX5_aboutKey 90 = .ok (.goto (-44), 3) := by decide +kernel
theorem dX5_aboutKey_93 : decode cX5_aboutKey 93 = .ok (.iload_n 2, 1) := by decide +kernel
theorem dX5_aboutKey_94 : decode cX5_aboutKey 94 = .ok (.iconst 1, 1) := by decide +kernel
theorem dX5_aboutKey_95 : decode cX5_aboutKey 95 = .ok (.if_icmp .ne 8, 3) := by decide +kernel
theorem dX5_aboutKey_98 : decode cX5_aboutKey 98 = .ok (.iload 4, 2) := by decide +kernel
theorem dX5_aboutKey_100 : decode cX5_aboutKey 100 = .ok (.goto 5, 3) := by decide +kernel
theorem dX5_aboutKey_103 : decode cX5_aboutKey 103 = .ok (.iload 5, 2) := by decide +kernel
theorem dX5_aboutKey_105 : decode cX5_aboutKey 105 = .ok (.ireturn, 1) := by decide +kernel
set_option maxRecDepth 20000 in
theorem ggX5_about_X5_isKey : GoodIn wsX5_about wsX5_isKey := goodIn_r _ [4, 5, 6, 3, 7] (by decide +kernel) (by decide +kernel)
set_option maxRecDepth 20000 in
theorem gX5_about_X5_isKey : GoodIn wsX5_about (va_wsS RX5 101 yX5_isKey wsX5_isKey) := goodIn_app (goodIn_of _ (by decide +kernel)) ggX5_about_X5_isKey
set_option maxRecDepth 20000 in
theorem ggX5_about_X5_in : GoodIn wsX5_about wsX5_in := goodIn_r _ [7] (by decide +kernel) (by decide +kernel)
set_option maxRecDepth 20000 in
theorem gX5_about_X5_in : GoodIn wsX5_about (va_wsS RX5 88 yX5_in wsX5_in) := goodIn_app (goodIn_of _ (by decide +kernel)) ggX5_about_X5_in
set_option maxRecDepth 20000 in
theorem ggX5_about_X5_refuses : GoodIn wsX5_about wsX5_refuses := goodIn_r _ [11, 12, 28, 29, 30, 31, 32, 33, 34, 35, 36, 37, 38, 39, 40, 41, 42, 43, 44, 45, 46] (by decide +kernel) (by decide +kernel)
set_option maxRecDepth 20000 in
theorem gX5_about_X5_refuses : GoodIn wsX5_about (wsV RX5 82 RX5 yX5_refuses wsX5_refuses) := goodIn_app (goodIn_of _ (by decide +kernel)) ggX5_about_X5_refuses
set_option maxRecDepth 20000 in
theorem ggX5_about_X5_rowOf : GoodIn wsX5_about wsX5_rowOf := goodIn_r _ [16, 17, 28, 29, 30, 31, 32, 33, 34, 35, 36, 37, 38, 39, 40, 41, 42, 43, 44, 45, 46] (by decide +kernel) (by decide +kernel)
set_option maxRecDepth 20000 in
theorem gX5_about_X5_rowOf : GoodIn wsX5_about (wsV RX5 104 RX5 yX5_rowOf wsX5_rowOf) := goodIn_app (goodIn_of _ (by decide +kernel)) ggX5_about_X5_rowOf
set_option maxRecDepth 20000 in
theorem ggX5_about_X5_aboutKey : GoodIn wsX5_about wsX5_aboutKey := goodIn_r _ [21, 17, 22, 23, 24, 25, 26, 3, 27, 28, 29, 30, 31, 32, 33, 34, 35, 36, 37, 38, 39, 40, 41, 42, 43, 44, 45, 46] (by decide +kernel) (by decide +kernel)
set_option maxRecDepth 20000 in
theorem gX5_about_X5_aboutKey : GoodIn wsX5_about (wsV RX5 143 RX5 yX5_aboutKey wsX5_aboutKey) := goodIn_app (goodIn_of _ (by decide +kernel)) ggX5_about_X5_aboutKey
theorem dX5_about_0 : decode cX5_about 0 = .ok (.iload_n 1, 1) := by decide +kernel
theorem dX5_about_1 : decode cX5_about 1 = .ok (.invokestatic 101, 3) := by decide +kernel
theorem dX5_about_4 : decode cX5_about 4 = .ok (.ifCond .eq 12, 3) := by decide +kernel
theorem dX5_about_7 : decode cX5_about 7 = .ok (.iload_n 2, 1) := by decide +kernel
theorem dX5_about_8 : decode cX5_about 8 = .ok (.iconst 0, 1) := by decide +kernel
theorem dX5_about_9 : decode cX5_about 9 = .ok (.iconst 2, 1) := by decide +kernel
theorem dX5_about_10 : decode cX5_about 10 = .ok (.invokestatic 88, 3) := by decide +kernel
theorem dX5_about_13 : decode cX5_about 13 = .ok (.ifCond .ne 10, 3) := by decide +kernel
theorem dX5_about_16 : decode cX5_about 16 = .ok (.aload_n 0, 1) := by decide +kernel
theorem dX5_about_17 : decode cX5_about 17 = .ok (.bipush (-2), 2) := by decide +kernel
theorem dX5_about_19 : decode cX5_about 19 = .ok (.invokevirtual 82, 3) := by decide +kernel
theorem dX5_about_22 : decode cX5_about 22 = .ok (.ireturn, 1) := by decide +kernel
theorem dX5_about_23 : decode cX5_about 23 = .ok (.aload_n 0, 1) := by decide +kernel
theorem dX5_about_24 : decode cX5_about 24 = .ok (.iload_n 1, 1) := by decide +kernel
theorem dX5_about_25 : decode cX5_about 25 = .ok (.invokevirtual 104, 3) := by decide +kernel
theorem dX5_about_28 : decode cX5_about 28 = .ok (.istore_n 3, 1) := by decide +kernel
theorem dX5_about_29 : decode cX5_about 29 = .ok (.iload_n 3, 1) := by decide +kernel
theorem dX5_about_30 : decode cX5_about 30 = .ok (.iconst (-1), 1) := by decide +kernel
theorem dX5_about_31 : decode cX5_about 31 = .ok (.if_icmp .ne 12, 3) := by decide +kernel
theorem dX5_about_34 : decode cX5_about 34 = .ok (.aload_n 0, 1) := by decide +kernel
theorem dX5_about_35 : decode cX5_about 35 = .ok (.bipush (-3), 2) := by decide +kernel
theorem dX5_about_37 : decode cX5_about 37 = .ok (.invokevirtual 82, 3) := by decide +kernel
theorem dX5_about_40 : decode cX5_about 40 = .ok (.goto 17, 3) := by decide +kernel
theorem dX5_about_43 : decode cX5_about 43 = .ok (.aload_n 0, 1) := by decide +kernel
theorem dX5_about_44 : decode cX5_about 44 = .ok (.iload_n 3, 1) := by decide +kernel
theorem dX5_about_45 : decode cX5_about 45 = .ok (.ifCond .ge 7, 3) := by decide +kernel
theorem dX5_about_48 : decode cX5_about 48 = .ok (.iconst 0, 1) := by decide +kernel
theorem dX5_about_49 : decode cX5_about 49 = .ok (.goto 4, 3) := by decide +kernel
theorem dX5_about_52 : decode cX5_about 52 = .ok (.iload_n 3, 1) := by decide +kernel
theorem dX5_about_53 : decode cX5_about 53 = .ok (.iload_n 2, 1) := by decide +kernel
theorem dX5_about_54 : decode cX5_about 54 = .ok (.invokevirtual 143, 3) := by decide +kernel
theorem dX5_about_57 : decode cX5_about 57 = .ok (.ireturn, 1) := by decide +kernel
set_option maxRecDepth 20000 in
theorem ggX5_would_X5_mayCome : GoodIn wsX5_would wsX5_mayCome := goodIn_r _ [6, 7, 8, 9, 5, 10, 11, 12, 13, 14, 15, 16, 17, 66, 67, 68, 69, 70, 71, 72, 73, 74, 75, 76, 77, 78, 79, 80, 81, 82, 83, 84] (by decide +kernel) (by decide +kernel)
set_option maxRecDepth 20000 in
theorem gX5_would_X5_mayCome : GoodIn wsX5_would (wsV RX5 107 RX5 yX5_mayCome wsX5_mayCome) := goodIn_app (goodIn_of _ (by decide +kernel)) ggX5_would_X5_mayCome
set_option maxRecDepth 20000 in
theorem ggX5_would_X5_refuses : GoodIn wsX5_would wsX5_refuses := goodIn_r _ [21, 22, 66, 67, 68, 69, 70, 71, 72, 73, 74, 75, 76, 77, 78, 79, 80, 81, 82, 83, 84] (by decide +kernel) (by decide +kernel)
set_option maxRecDepth 20000 in
theorem gX5_would_X5_refuses : GoodIn wsX5_would (wsV RX5 82 RX5 yX5_refuses wsX5_refuses) := goodIn_app (goodIn_of _ (by decide +kernel)) ggX5_would_X5_refuses
set_option maxRecDepth 20000 in
theorem ggX5_would_X5_hold : GoodIn wsX5_would wsX5_hold := goodIn_r _ [26, 27, 7, 28, 1, 66, 67, 68, 69, 70, 71, 72, 73, 74, 75, 76, 77, 78, 79, 80, 81, 82, 83, 84] (by decide +kernel) (by decide +kernel)
set_option maxRecDepth 20000 in
theorem gX5_would_X5_hold : GoodIn wsX5_would (wsV RX5 110 RX5 yX5_hold wsX5_hold) := goodIn_app (goodIn_of _ (by decide +kernel)) ggX5_would_X5_hold
set_option maxRecDepth 20000 in
theorem ggX5_would_X5_doKey : GoodIn wsX5_would wsX5_doKey := goodIn_r _ [32, 7, 2, 3, 4, 5, 6, 8, 9, 10, 11, 12, 13, 14, 15, 16, 17, 66, 67, 68, 69, 70, 71, 72, 73, 74, 75, 76, 77, 78, 79, 80, 81, 82, 83, 84] (by decide +kernel) (by decide +kernel)
set_option maxRecDepth 20000 in
theorem gX5_would_X5_doKey : GoodIn wsX5_would (wsV RX5 125 RX5 yX5_doKey wsX5_doKey) := goodIn_app (goodIn_of _ (by decide +kernel)) ggX5_would_X5_doKey
set_option maxRecDepth 20000 in
theorem ggX5_would_X5_lay : GoodIn wsX5_would wsX5_lay := goodIn_r _ [36, 37, 7, 1, 38, 39, 40, 41, 42, 5, 43, 44, 45, 46, 47, 48, 49, 50, 51, 52, 53, 54, 55, 56, 57, 58, 59, 60, 61, 66, 67, 68, 69, 70, 71, 72, 73, 74, 75, 76, 77, 78, 79, 80, 81, 82, 83, 84] (by decide +kernel) (by decide +kernel)
set_option maxRecDepth 20000 in
theorem gX5_would_X5_lay : GoodIn wsX5_would (wsV RX5 50 RX5 yX5_lay wsX5_lay) := goodIn_app (goodIn_of _ (by decide +kernel)) ggX5_would_X5_lay
set_option maxRecDepth 20000 in
theorem ggX5_would_X5_rowOf : GoodIn wsX5_would wsX5_rowOf := goodIn_r _ [17, 7, 66, 67, 68, 69, 70, 71, 72, 73, 74, 75, 76, 77, 78, 79, 80, 81, 82, 83, 84] (by decide +kernel) (by decide +kernel)
set_option maxRecDepth 20000 in
theorem gX5_would_X5_rowOf : GoodIn wsX5_would (wsV RX5 104 RX5 yX5_rowOf wsX5_rowOf) := goodIn_app (goodIn_of _ (by decide +kernel)) ggX5_would_X5_rowOf
set_option maxRecDepth 20000 in
theorem ggX5_would_X5_release : GoodIn wsX5_would wsX5_release := goodIn_r _ [65, 7, 27, 66, 67, 68, 69, 70, 71, 72, 73, 74, 75, 76, 77, 78, 79, 80, 81, 82, 83, 84] (by decide +kernel) (by decide +kernel)
set_option maxRecDepth 20000 in
theorem gX5_would_X5_release : GoodIn wsX5_would (wsV RX5 146 RX5 yX5_release wsX5_release) := goodIn_app (goodIn_of _ (by decide +kernel)) ggX5_would_X5_release
theorem dX5_would_0 : decode cX5_would 0 = .ok (.aload_n 0, 1) := by decide +kernel
theorem dX5_would_1 : decode cX5_would 1 = .ok (.iload_n 1, 1) := by decide +kernel
theorem dX5_would_2 : decode cX5_would 2 = .ok (.invokevirtual 107, 3) := by decide +kernel
theorem dX5_would_5 : decode cX5_would 5 = .ok (.istore_n 2, 1) := by decide +kernel
theorem dX5_would_6 : decode cX5_would 6 = .ok (.iload_n 2, 1) := by decide +kernel
theorem dX5_would_7 : decode cX5_would 7 = .ok (.ifCond .eq 9, 3) := by decide +kernel
theorem dX5_would_10 : decode cX5_would 10 = .ok (.aload_n 0, 1) := by decide +kernel
theorem dX5_would_11 : decode cX5_would 11 = .ok (.iload_n 2, 1) := by decide +kernel
theorem dX5_would_12 : decode cX5_would 12 = .ok (.invokevirtual 82, 3) := by decide +kernel
theorem dX5_would_15 : decode cX5_would 15 = .ok (.ireturn, 1) := by decide +kernel
theorem dX5_would_16 : decode cX5_would 16 = .ok (.aload_n 0, 1) := by decide +kernel
theorem dX5_would_17 : decode cX5_would 17 = .ok (.invokevirtual 110, 3) := by decide +kernel
theorem dX5_would_20 : decode cX5_would 20 = .ok (.aload_n 0, 1) := by decide +kernel
theorem dX5_would_21 : decode cX5_would 21 = .ok (.iload_n 1, 1) := by decide +kernel
theorem dX5_would_22 : decode cX5_would 22 = .ok (.invokevirtual 125, 3) := by decide +kernel
theorem dX5_would_25 : decode cX5_would 25 = .ok (.pop, 1) := by decide +kernel
theorem dX5_would_26 : decode cX5_would 26 = .ok (.aload_n 0, 1) := by decide +kernel
theorem dX5_would_27 : decode cX5_would 27 = .ok (.invokevirtual 50, 3) := by decide +kernel
theorem dX5_would_30 : decode cX5_would 30 = .ok (.aload_n 0, 1) := by decide +kernel
theorem dX5_would_31 : decode cX5_would 31 = .ok (.getfield 25, 3) := by decide +kernel
theorem dX5_would_34 : decode cX5_would 34 = .ok (.aload_n 0, 1) := by decide +kernel
theorem dX5_would_35 : decode cX5_would 35 = .ok (.iload_n 1, 1) := by decide +kernel
theorem dX5_would_36 : decode cX5_would 36 = .ok (.invokevirtual 104, 3) := by decide +kernel
theorem dX5_would_39 : decode cX5_would 39 = .ok (.iaload, 1) := by decide +kernel
theorem dX5_would_40 : decode cX5_would 40 = .ok (.istore_n 3, 1) := by decide +kernel
theorem dX5_would_41 : decode cX5_would 41 = .ok (.aload_n 0, 1) := by decide +kernel
theorem dX5_would_42 : decode cX5_would 42 = .ok (.invokevirtual 146, 3) := by decide +kernel
theorem dX5_would_45 : decode cX5_would 45 = .ok (.aload_n 0, 1) := by decide +kernel
theorem dX5_would_46 : decode cX5_would 46 = .ok (.invokevirtual 50, 3) := by decide +kernel
theorem dX5_would_49 : decode cX5_would 49 = .ok (.iload_n 3, 1) := by decide +kernel
theorem dX5_would_50 : decode cX5_would 50 = .ok (.ireturn, 1) := by decide +kernel
set_option maxRecDepth 20000 in
theorem ggX5_without_X5_isName : GoodIn wsX5_without wsX5_isName := goodIn_r _ [4, 5, 6, 3, 7] (by decide +kernel) (by decide +kernel)
set_option maxRecDepth 20000 in
theorem gX5_without_X5_isName : GoodIn wsX5_without (va_wsS RX5 95 yX5_isName wsX5_isName) := goodIn_app (goodIn_of _ (by decide +kernel)) ggX5_without_X5_isName
set_option maxRecDepth 20000 in
theorem ggX5_without_X5_refuses : GoodIn wsX5_without wsX5_refuses := goodIn_r _ [11, 12, 66, 67, 68, 69, 70, 71, 72, 73, 74, 75, 76, 77, 78, 79, 80, 81, 82, 83, 84] (by decide +kernel) (by decide +kernel)
set_option maxRecDepth 20000 in
theorem gX5_without_X5_refuses : GoodIn wsX5_without (wsV RX5 82 RX5 yX5_refuses wsX5_refuses) := goodIn_app (goodIn_of _ (by decide +kernel)) ggX5_without_X5_refuses
set_option maxRecDepth 20000 in
theorem ggX5_without_X5_isHost : GoodIn wsX5_without wsX5_isHost := goodIn_r _ [16, 17, 66, 67, 68, 69, 70, 71, 72, 73, 74, 75, 76, 77, 78, 79, 80, 81, 82, 83, 84] (by decide +kernel) (by decide +kernel)
set_option maxRecDepth 20000 in
theorem gX5_without_X5_isHost : GoodIn wsX5_without (wsV RX5 92 RX5 yX5_isHost wsX5_isHost) := goodIn_app (goodIn_of _ (by decide +kernel)) ggX5_without_X5_isHost
set_option maxRecDepth 20000 in
theorem ggX5_without_X5_hold : GoodIn wsX5_without wsX5_hold := goodIn_r _ [21, 22, 17, 23, 24, 66, 67, 68, 69, 70, 71, 72, 73, 74, 75, 76, 77, 78, 79, 80, 81, 82, 83, 84] (by decide +kernel) (by decide +kernel)
set_option maxRecDepth 20000 in
theorem gX5_without_X5_hold : GoodIn wsX5_without (wsV RX5 110 RX5 yX5_hold wsX5_hold) := goodIn_app (goodIn_of _ (by decide +kernel)) ggX5_without_X5_hold
set_option maxRecDepth 20000 in
theorem ggX5_without_X5_doGoes : GoodIn wsX5_without wsX5_doGoes := goodIn_r _ [28, 17, 1, 2, 3, 4, 5, 6, 7, 13, 14, 15, 16, 66, 67, 68, 69, 70, 71, 72, 73, 74, 75, 76, 77, 78, 79, 80, 81, 82, 83, 84] (by decide +kernel) (by decide +kernel)
set_option maxRecDepth 20000 in
theorem gX5_without_X5_doGoes : GoodIn wsX5_without (wsV RX5 122 RX5 yX5_doGoes wsX5_doGoes) := goodIn_app (goodIn_of _ (by decide +kernel)) ggX5_without_X5_doGoes
set_option maxRecDepth 20000 in
theorem ggX5_without_X5_lay : GoodIn wsX5_without wsX5_lay := goodIn_r _ [32, 33, 17, 24, 34, 35, 36, 37, 38, 3, 39, 40, 41, 42, 43, 44, 45, 46, 47, 48, 49, 50, 51, 52, 53, 54, 55, 56, 57, 66, 67, 68, 69, 70, 71, 72, 73, 74, 75, 76, 77, 78, 79, 80, 81, 82, 83, 84] (by decide +kernel) (by decide +kernel)
set_option maxRecDepth 20000 in
theorem gX5_without_X5_lay : GoodIn wsX5_without (wsV RX5 50 RX5 yX5_lay wsX5_lay) := goodIn_app (goodIn_of _ (by decide +kernel)) ggX5_without_X5_lay
set_option maxRecDepth 20000 in
theorem ggX5_without_X5_moved : GoodIn wsX5_without wsX5_moved := goodIn_r _ [61, 17, 22, 24, 23, 66, 67, 68, 69, 70, 71, 72, 73, 74, 75, 76, 77, 78, 79, 80, 81, 82, 83, 84] (by decide +kernel) (by decide +kernel)
set_option maxRecDepth 20000 in
theorem gX5_without_X5_moved : GoodIn wsX5_without (wsV RX5 75 RX5 yX5_moved wsX5_moved) := goodIn_app (goodIn_of _ (by decide +kernel)) ggX5_without_X5_moved
set_option maxRecDepth 20000 in
theorem ggX5_without_X5_release : GoodIn wsX5_without wsX5_release := goodIn_r _ [65, 17, 22, 66, 67, 68, 69, 70, 71, 72, 73, 74, 75, 76, 77, 78, 79, 80, 81, 82, 83, 84] (by decide +kernel) (by decide +kernel)
set_option maxRecDepth 20000 in
theorem gX5_without_X5_release : GoodIn wsX5_without (wsV RX5 146 RX5 yX5_release wsX5_release) := goodIn_app (goodIn_of _ (by decide +kernel)) ggX5_without_X5_release
theorem dX5_without_0 : decode cX5_without 0 = .ok (.iload_n 1, 1) := by decide +kernel
theorem dX5_without_1 : decode cX5_without 1 = .ok (.invokestatic 95, 3) := by decide +kernel
theorem dX5_without_4 : decode cX5_without 4 = .ok (.ifCond .ne 10, 3) := by decide +kernel
theorem dX5_without_7 : decode cX5_without 7 = .ok (.aload_n 0, 1) := by decide +kernel
theorem dX5_without_8 : decode cX5_without 8 = .ok (.bipush (-2), 2) := by decide +kernel
theorem dX5_without_10 : decode cX5_without 10 = .ok (.invokevirtual 82, 3) := by decide +kernel
theorem dX5_without_13 : decode cX5_without 13 = .ok (.ireturn, 1) := by decide +kernel
theorem dX5_without_14 : decode cX5_without 14 = .ok (.aload_n 0, 1) := by decide +kernel
theorem dX5_without_15 : decode cX5_without 15 = .ok (.iload_n 1, 1) := by decide +kernel
theorem dX5_without_16 : decode cX5_without 16 = .ok (.invokevirtual 92, 3) := by decide +kernel
theorem dX5_without_19 : decode cX5_without 19 = .ok (.ifCond .ne 10, 3) := by decide +kernel
theorem dX5_without_22 : decode cX5_without 22 = .ok (.aload_n 0, 1) := by decide +kernel
theorem dX5_without_23 : decode cX5_without 23 = .ok (.bipush (-3), 2) := by decide +kernel
theorem dX5_without_25 : decode cX5_without 25 = .ok (.invokevirtual 82, 3) := by decide +kernel
theorem dX5_without_28 : decode cX5_without 28 = .ok (.ireturn, 1) := by decide +kernel
theorem dX5_without_29 : decode cX5_without 29 = .ok (.aload_n 0, 1) := by decide +kernel
theorem dX5_without_30 : decode cX5_without 30 = .ok (.invokevirtual 110, 3) := by decide +kernel
theorem dX5_without_33 : decode cX5_without 33 = .ok (.aload_n 0, 1) := by decide +kernel
theorem dX5_without_34 : decode cX5_without 34 = .ok (.iload_n 1, 1) := by decide +kernel
theorem dX5_without_35 : decode cX5_without 35 = .ok (.invokevirtual 122, 3) := by decide +kernel
theorem dX5_without_38 : decode cX5_without 38 = .ok (.pop, 1) := by decide +kernel
theorem dX5_without_39 : decode cX5_without 39 = .ok (.aload_n 0, 1) := by decide +kernel
theorem dX5_without_40 : decode cX5_without 40 = .ok (.invokevirtual 50, 3) := by decide +kernel
theorem dX5_without_43 : decode cX5_without 43 = .ok (.aload_n 0, 1) := by decide +kernel
theorem dX5_without_44 : decode cX5_without 44 = .ok (.invokevirtual 75, 3) := by decide +kernel
theorem dX5_without_47 : decode cX5_without 47 = .ok (.istore_n 2, 1) := by decide +kernel
theorem dX5_without_48 : decode cX5_without 48 = .ok (.aload_n 0, 1) := by decide +kernel
theorem dX5_without_49 : decode cX5_without 49 = .ok (.invokevirtual 146, 3) := by decide +kernel
theorem dX5_without_52 : decode cX5_without 52 = .ok (.aload_n 0, 1) := by decide +kernel
theorem dX5_without_53 : decode cX5_without 53 = .ok (.invokevirtual 50, 3) := by decide +kernel
theorem dX5_without_56 : decode cX5_without 56 = .ok (.iload_n 2, 1) := by decide +kernel
theorem dX5_without_57 : decode cX5_without 57 = .ok (.ireturn, 1) := by decide +kernel
set_option maxRecDepth 20000 in
theorem ggX5_marks_X5_weights : GoodIn wsX5_marks wsX5_weights := goodIn_r _ [5, 6, 7, 8, 9, 10, 11, 12, 13, 14, 15, 16, 17, 18, 19, 20, 21, 22, 23, 24, 25] (by decide +kernel) (by decide +kernel)
set_option maxRecDepth 20000 in
theorem gX5_marks_X5_weights : GoodIn wsX5_marks (wsV RX5 53 RX5 yX5_weights wsX5_weights) := goodIn_app (goodIn_of _ (by decide +kernel)) ggX5_marks_X5_weights
theorem dX5_marks_0 : decode cX5_marks 0 = .ok (.iconst 2, 1) := by decide +kernel
theorem dX5_marks_1 : decode cX5_marks 1 = .ok (.aload_n 0, 1) := by decide +kernel
theorem dX5_marks_2 : decode cX5_marks 2 = .ok (.invokevirtual 53, 3) := by decide +kernel
theorem dX5_marks_5 : decode cX5_marks 5 = .ok (.imul, 1) := by decide +kernel
theorem dX5_marks_6 : decode cX5_marks 6 = .ok (.ireturn, 1) := by decide +kernel
set_option maxRecDepth 20000 in
theorem ggX5_byHosts_X5_isHost : GoodIn wsX5_byHosts wsX5_isHost := goodIn_r _ [6, 7, 16, 17, 18, 19, 20, 21, 22, 23, 24, 25, 26, 27, 28, 29, 30, 31, 32, 33, 34] (by decide +kernel) (by decide +kernel)
set_option maxRecDepth 20000 in
theorem gX5_byHosts_X5_isHost : GoodIn wsX5_byHosts (wsV RX5 92 RX5 yX5_isHost wsX5_isHost) := goodIn_app (goodIn_of _ (by decide +kernel)) ggX5_byHosts_X5_isHost
set_option maxRecDepth 20000 in
theorem ggX5_byHosts_X5_bound : GoodIn wsX5_byHosts wsX5_bound := goodIn_r _ [11, 7, 12, 13, 14, 5, 15, 16, 17, 18, 19, 20, 21, 22, 23, 24, 25, 26, 27, 28, 29, 30, 31, 32, 33, 34] (by decide +kernel) (by decide +kernel)
set_option maxRecDepth 20000 in
theorem gX5_byHosts_X5_bound : GoodIn wsX5_byHosts (wsV RX5 72 RX5 yX5_bound wsX5_bound) := goodIn_app (goodIn_of _ (by decide +kernel)) ggX5_byHosts_X5_bound
theorem dX5_byHosts_0 : decode cX5_byHosts 0 = .ok (.iconst 0, 1) := by decide +kernel
theorem dX5_byHosts_1 : decode cX5_byHosts 1 = .ok (.istore_n 2, 1) := by decide +kernel
theorem dX5_byHosts_2 : decode cX5_byHosts 2 = .ok (.iconst 0, 1) := by decide +kernel
theorem dX5_byHosts_3 : decode cX5_byHosts 3 = .ok (.istore_n 3, 1) := by decide +kernel
theorem dX5_byHosts_4 : decode cX5_byHosts 4 = .ok (.iconst 0, 1) := by decide +kernel
theorem dX5_byHosts_5 : decode cX5_byHosts 5 = .ok (.istore 4, 2) := by decide +kernel
theorem dX5_byHosts_7 : decode cX5_byHosts 7 = .ok (.iload 4, 2) := by decide +kernel
theorem dX5_byHosts_9 : decode cX5_byHosts 9 = .ok (.bipush 100, 2) := by decide +kernel
theorem dX5_byHosts_11 : decode cX5_byHosts 11 = .ok (.if_icmp .ge 65, 3) := by decide +kernel
theorem dX5_byHosts_14 : decode cX5_byHosts 14 = .ok (.iload_n 2, 1) := by decide +kernel
theorem dX5_byHosts_15 : decode cX5_byHosts 15 = .ok (.aload_n 0, 1) := by decide +kernel
theorem dX5_byHosts_16 : decode cX5_byHosts 16 = .ok (.iload 4, 2) := by decide +kernel
theorem dX5_byHosts_18 : decode cX5_byHosts 18 = .ok (.invokevirtual 92, 3) := by decide +kernel
theorem dX5_byHosts_21 : decode cX5_byHosts 21 = .ok (.ifCond .eq 23, 3) := by decide +kernel
theorem dX5_byHosts_24 : decode cX5_byHosts 24 = .ok (.aload_n 0, 1) := by decide +kernel
theorem dX5_byHosts_25 : decode cX5_byHosts 25 = .ok (.getfield 31, 3) := by decide +kernel
theorem dX5_byHosts_28 : decode cX5_byHosts 28 = .ok (.iload 4, 2) := by decide +kernel
theorem dX5_byHosts_30 : decode cX5_byHosts 30 = .ok (.iaload, 1) := by decide +kernel
theorem dX5_byHosts_31 : decode cX5_byHosts 31 = .ok (.aload_n 0, 1) := by decide +kernel
theorem dX5_byHosts_32 : decode cX5_byHosts 32 = .ok (.iload 4, 2) := by decide +kernel
theorem dX5_byHosts_34 : decode cX5_byHosts 34 = .ok (.invokevirtual 72, 3) := by decide +kernel
theorem dX5_byHosts_37 : decode cX5_byHosts 37 = .ok (.if_icmp .ne 7, 3) := by decide +kernel
theorem dX5_byHosts_40 : decode cX5_byHosts 40 = .ok (.iconst 1, 1) := by decide +kernel
theorem dX5_byHosts_41 : decode cX5_byHosts 41 = .ok (.goto 4, 3) := by decide +kernel
theorem dX5_byHosts_44 : decode cX5_byHosts 44 = .ok (.iconst 0, 1) := by decide +kernel
theorem dX5_byHosts_45 : decode cX5_byHosts 45 = .ok (.iadd, 1) := by decide +kernel
theorem dX5_byHosts_46 : decode cX5_byHosts 46 = .ok (.istore_n 2, 1) := by decide +kernel
theorem dX5_byHosts_47 : decode cX5_byHosts 47 = .ok (.aload_n 0, 1) := by decide +kernel
theorem dX5_byHosts_48 : decode cX5_byHosts 48 = .ok (.getfield 31, 3) := by decide +kernel
theorem dX5_byHosts_51 : decode cX5_byHosts 51 = .ok (.iload 4, 2) := by decide +kernel
theorem dX5_byHosts_53 : decode cX5_byHosts 53 = .ok (.iaload, 1) := by decide +kernel
theorem dX5_byHosts_54 : decode cX5_byHosts 54 = .ok (.iload_n 3, 1) := by decide +kernel
theorem dX5_byHosts_55 : decode cX5_byHosts 55 = .ok (.if_icmp .le 13, 3) := by decide +kernel
theorem dX5_byHosts_58 : decode cX5_byHosts 58 = .ok (.aload_n 0, 1) := by decide +kernel
theorem dX5_byHosts_59 : decode cX5_byHosts 59 = .ok (.getfield 31, 3) := by decide +kernel
theorem dX5_byHosts_62 : decode cX5_byHosts 62 = .ok (.iload 4, 2) := by decide +kernel
theorem dX5_byHosts_64 : decode cX5_byHosts 64 = .ok (.iaload, 1) := by decide +kernel
theorem dX5_byHosts_65 : decode cX5_byHosts 65 = .ok (.goto 4, 3) := by decide +kernel
theorem dX5_byHosts_68 : decode cX5_byHosts 68 = .ok (.iload_n 3, 1) := by decide +kernel
theorem dX5_byHosts_69 : decode cX5_byHosts 69 = .ok (.istore_n 3, 1) := by decide +kernel
theorem dX5_byHosts_70 : decode cX5_byHosts 70 = .ok (.iinc 4 1, 3) := by decide +kernel
theorem dX5_byHosts_73 : decode cX5_byHosts 73 = .ok (.goto (-66), 3) := by decide +kernel
theorem dX5_byHosts_76 : decode cX5_byHosts 76 = .ok (.iload_n 1, 1) := by decide +kernel
theorem dX5_byHosts_77 : decode cX5_byHosts 77 = .ok (.ifCond .eq 7, 3) := by decide +kernel
theorem dX5_byHosts_80 : decode cX5_byHosts 80 = .ok (.iload_n 2, 1) := by decide +kernel
theorem dX5_byHosts_81 : decode cX5_byHosts 81 = .ok (.goto 4, 3) := by decide +kernel
theorem dX5_byHosts_84 : decode cX5_byHosts 84 = .ok (.iload_n 3, 1) := by decide +kernel
theorem dX5_byHosts_85 : decode cX5_byHosts 85 = .ok (.ireturn, 1) := by decide +kernel
set_option maxRecDepth 20000 in
theorem ggX5_passedAll_X5_aboutKey : GoodIn wsX5_passedAll wsX5_aboutKey := goodIn_r _ [7, 1, 2, 8, 9, 10, 11, 6, 12, 13, 14, 15, 16, 17, 18, 19, 20, 21, 22, 23, 24, 25, 26, 27, 28, 29, 30, 31] (by decide +kernel) (by decide +kernel)
set_option maxRecDepth 20000 in
theorem gX5_passedAll_X5_aboutKey : GoodIn wsX5_passedAll (wsV RX5 143 RX5 yX5_aboutKey wsX5_aboutKey) := goodIn_app (goodIn_of _ (by decide +kernel)) ggX5_passedAll_X5_aboutKey
theorem dX5_passedAll_0 : decode cX5_passedAll 0 = .ok (.iconst 0, 1) := by decide +kernel
theorem dX5_passedAll_1 : decode cX5_passedAll 1 = .ok (.istore_n 1, 1) := by decide +kernel
theorem dX5_passedAll_2 : decode cX5_passedAll 2 = .ok (.iconst 0, 1) := by decide +kernel
theorem dX5_passedAll_3 : decode cX5_passedAll 3 = .ok (.istore_n 2, 1) := by decide +kernel
theorem dX5_passedAll_4 : decode cX5_passedAll 4 = .ok (.iload_n 2, 1) := by decide +kernel
theorem dX5_passedAll_5 : decode cX5_passedAll 5 = .ok (.aload_n 0, 1) := by decide +kernel
theorem dX5_passedAll_6 : decode cX5_passedAll 6 = .ok (.getfield 7, 3) := by decide +kernel
theorem dX5_passedAll_9 : decode cX5_passedAll 9 = .ok (.sipush 140, 3) := by decide +kernel
theorem dX5_passedAll_12 : decode cX5_passedAll 12 = .ok (.iaload, 1) := by decide +kernel
theorem dX5_passedAll_13 : decode cX5_passedAll 13 = .ok (.if_icmp .ge 32, 3) := by decide +kernel
theorem dX5_passedAll_16 : decode cX5_passedAll 16 = .ok (.iload_n 1, 1) := by decide +kernel
theorem dX5_passedAll_17 : decode cX5_passedAll 17 = .ok (.aload_n 0, 1) := by decide +kernel
theorem dX5_passedAll_18 : decode cX5_passedAll 18 = .ok (.getfield 25, 3) := by decide +kernel
theorem dX5_passedAll_21 : decode cX5_passedAll 21 = .ok (.iload_n 2, 1) := by decide +kernel
theorem dX5_passedAll_22 : decode cX5_passedAll 22 = .ok (.iaload, 1) := by decide +kernel
theorem dX5_passedAll_23 : decode cX5_passedAll 23 = .ok (.iconst (-1), 1) := by decide +kernel
theorem dX5_passedAll_24 : decode cX5_passedAll 24 = .ok (.if_icmp .ne 7, 3) := by decide +kernel
theorem dX5_passedAll_27 : decode cX5_passedAll 27 = .ok (.iconst 0, 1) := by decide +kernel
theorem dX5_passedAll_28 : decode cX5_passedAll 28 = .ok (.goto 9, 3) := by decide +kernel
theorem dX5_passedAll_31 : decode cX5_passedAll 31 = .ok (.aload_n 0, 1) := by decide +kernel
theorem dX5_passedAll_32 : decode cX5_passedAll 32 = .ok (.iload_n 2, 1) := by decide +kernel
theorem dX5_passedAll_33 : decode cX5_passedAll 33 = .ok (.iconst 1, 1) := by decide +kernel
theorem dX5_passedAll_34 : decode cX5_passedAll 34 = .ok (.invokevirtual 143, 3) := by decide +kernel
theorem dX5_passedAll_37 : decode cX5_passedAll 37 = .ok (.iadd, 1) := by decide +kernel
theorem dX5_passedAll_38 : decode cX5_passedAll 38 = .ok (.istore_n 1, 1) := by decide +kernel
theorem dX5_passedAll_39 : decode cX5_passedAll 39 = .ok (.iinc 2 1, 3) := by decide +kernel
theorem dX5_passedAll_42 : decode cX5_passedAll 42 = .ok (.goto (-38), 3) := by decide +kernel
theorem dX5_passedAll_45 : decode cX5_passedAll 45 = .ok (.iload_n 1, 1) := by decide +kernel
theorem dX5_passedAll_46 : decode cX5_passedAll 46 = .ok (.ireturn, 1) := by decide +kernel
set_option maxRecDepth 20000 in
theorem ggX5_counted_X5_hostMany : GoodIn wsX5_counted wsX5_hostMany := goodIn_r _ [6, 7, 8, 9, 5, 10, 1, 42, 43, 44, 45, 46, 47, 48, 49, 50, 51, 52, 53, 54, 55, 56, 57, 58, 59, 60] (by decide +kernel) (by decide +kernel)
set_option maxRecDepth 20000 in
theorem gX5_counted_X5_hostMany : GoodIn wsX5_counted (wsV RX5 98 RX5 yX5_hostMany wsX5_hostMany) := goodIn_app (goodIn_of _ (by decide +kernel)) ggX5_counted_X5_hostMany
set_option maxRecDepth 20000 in
theorem ggX5_counted_X5_marks : GoodIn wsX5_counted wsX5_marks := goodIn_r _ [14, 15, 16, 17, 5, 18, 1, 42, 43, 44, 45, 46, 47, 48, 49, 50, 51, 52, 53, 54, 55, 56, 57, 58, 59, 60] (by decide +kernel) (by decide +kernel)
set_option maxRecDepth 20000 in
theorem gX5_counted_X5_marks : GoodIn wsX5_counted (wsV RX5 149 RX5 yX5_marks wsX5_marks) := goodIn_app (goodIn_of _ (by decide +kernel)) ggX5_counted_X5_marks
set_option maxRecDepth 20000 in
theorem ggX5_counted_X5_byHosts : GoodIn wsX5_counted wsX5_byHosts := goodIn_r _ [22, 23, 7, 8, 9, 5, 10, 1, 24, 25, 26, 27, 15, 16, 17, 18, 42, 43, 44, 45, 46, 47, 48, 49, 50, 51, 52, 53, 54, 55, 56, 57, 58, 59, 60] (by decide +kernel) (by decide +kernel)
set_option maxRecDepth 20000 in
theorem gX5_counted_X5_byHosts : GoodIn wsX5_counted (wsV RX5 152 RX5 yX5_byHosts wsX5_byHosts) := goodIn_app (goodIn_of _ (by decide +kernel)) ggX5_counted_X5_byHosts
set_option maxRecDepth 20000 in
theorem ggX5_counted_X5_passedAll : GoodIn wsX5_counted wsX5_passedAll := goodIn_r _ [31, 1, 32, 33, 34, 35, 5, 36, 37, 38, 39, 40, 41, 42, 43, 44, 45, 46, 47, 48, 49, 50, 51, 52, 53, 54, 55, 56, 57, 58, 59, 60] (by decide +kernel) (by decide +kernel)
set_option maxRecDepth 20000 in
theorem gX5_counted_X5_passedAll : GoodIn wsX5_counted (wsV RX5 156 RX5 yX5_passedAll wsX5_passedAll) := goodIn_app (goodIn_of _ (by decide +kernel)) ggX5_counted_X5_passedAll
set_option maxRecDepth 20000 in
theorem ggX5_counted_X5_weights : GoodIn wsX5_counted wsX5_weights := goodIn_r _ [18, 1, 42, 43, 44, 45, 46, 47, 48, 49, 50, 51, 52, 53, 54, 55, 56, 57, 58, 59, 60] (by decide +kernel) (by decide +kernel)
set_option maxRecDepth 20000 in
theorem gX5_counted_X5_weights : GoodIn wsX5_counted (wsV RX5 53 RX5 yX5_weights wsX5_weights) := goodIn_app (goodIn_of _ (by decide +kernel)) ggX5_counted_X5_weights
theorem dX5_counted_0 : decode cX5_counted 0 = .ok (.iload_n 1, 1) := by decide +kernel
theorem dX5_counted_1 : decode cX5_counted 1 = .ok (.tableswitch 101 0 7 #[47, 52, 61, 70, 75, 84, 90, 95], 47) := by decide +kernel
theorem dX5_counted_48 : decode cX5_counted 48 = .ok (.aload_n 0, 1) := by decide +kernel
theorem dX5_counted_49 : decode cX5_counted 49 = .ok (.invokevirtual 98, 3) := by decide +kernel
theorem dX5_counted_52 : decode cX5_counted 52 = .ok (.ireturn, 1) := by decide +kernel
theorem dX5_counted_53 : decode cX5_counted 53 = .ok (.aload_n 0, 1) := by decide +kernel
theorem dX5_counted_54 : decode cX5_counted 54 = .ok (.getfield 7, 3) := by decide +kernel
theorem dX5_counted_57 : decode cX5_counted 57 = .ok (.sipush 140, 3) := by decide +kernel
theorem dX5_counted_60 : decode cX5_counted 60 = .ok (.iaload, 1) := by decide +kernel
theorem dX5_counted_61 : decode cX5_counted 61 = .ok (.ireturn, 1) := by decide +kernel
theorem dX5_counted_62 : decode cX5_counted 62 = .ok (.aload_n 0, 1) := by decide +kernel
theorem dX5_counted_63 : decode cX5_counted 63 = .ok (.getfield 7, 3) := by decide +kernel
theorem dX5_counted_66 : decode cX5_counted 66 = .ok (.sipush 141, 3) := by decide +kernel
theorem dX5_counted_69 : decode cX5_counted 69 = .ok (.iaload, 1) := by decide +kernel
theorem dX5_counted_70 : decode cX5_counted 70 = .ok (.ireturn, 1) := by decide +kernel
theorem dX5_counted_71 : decode cX5_counted 71 = .ok (.aload_n 0, 1) := by decide +kernel
theorem dX5_counted_72 : decode cX5_counted 72 = .ok (.invokevirtual 149, 3) := by decide +kernel
theorem dX5_counted_75 : decode cX5_counted 75 = .ok (.ireturn, 1) := by decide +kernel
theorem dX5_counted_76 : decode cX5_counted 76 = .ok (.aload_n 0, 1) := by decide +kernel
theorem dX5_counted_77 : decode cX5_counted 77 = .ok (.getfield 7, 3) := by decide +kernel
theorem dX5_counted_80 : decode cX5_counted 80 = .ok (.sipush 142, 3) := by decide +kernel
theorem dX5_counted_83 : decode cX5_counted 83 = .ok (.iaload, 1) := by decide +kernel
theorem dX5_counted_84 : decode cX5_counted 84 = .ok (.ireturn, 1) := by decide +kernel
theorem dX5_counted_85 : decode cX5_counted 85 = .ok (.aload_n 0, 1) := by decide +kernel
theorem dX5_counted_86 : decode cX5_counted 86 = .ok (.iconst 1, 1) := by decide +kernel
theorem dX5_counted_87 : decode cX5_counted 87 = .ok (.invokevirtual 152, 3) := by decide +kernel
theorem dX5_counted_90 : decode cX5_counted 90 = .ok (.ireturn, 1) := by decide +kernel
theorem dX5_counted_91 : decode cX5_counted 91 = .ok (.aload_n 0, 1) := by decide +kernel
theorem dX5_counted_92 : decode cX5_counted 92 = .ok (.invokevirtual 156, 3) := by decide +kernel
theorem dX5_counted_95 : decode cX5_counted 95 = .ok (.ireturn, 1) := by decide +kernel
theorem dX5_counted_96 : decode cX5_counted 96 = .ok (.aload_n 0, 1) := by decide +kernel
theorem dX5_counted_97 : decode cX5_counted 97 = .ok (.iconst 0, 1) := by decide +kernel
theorem dX5_counted_98 : decode cX5_counted 98 = .ok (.invokevirtual 152, 3) := by decide +kernel
theorem dX5_counted_101 : decode cX5_counted 101 = .ok (.ireturn, 1) := by decide +kernel
theorem dX5_counted_102 : decode cX5_counted 102 = .ok (.aload_n 0, 1) := by decide +kernel
theorem dX5_counted_103 : decode cX5_counted 103 = .ok (.invokevirtual 53, 3) := by decide +kernel
theorem dX5_counted_106 : decode cX5_counted 106 = .ok (.ireturn, 1) := by decide +kernel
set_option maxRecDepth 20000 in
theorem ggX5_count_X5_in : GoodIn wsX5_count wsX5_in := goodIn_r _ [4] (by decide +kernel) (by decide +kernel)
set_option maxRecDepth 20000 in
theorem gX5_count_X5_in : GoodIn wsX5_count (va_wsS RX5 88 yX5_in wsX5_in) := goodIn_app (goodIn_of _ (by decide +kernel)) ggX5_count_X5_in
set_option maxRecDepth 20000 in
theorem ggX5_count_X5_counted : GoodIn wsX5_count wsX5_counted := goodIn_r _ [8, 9, 10, 11, 12, 3, 13, 14, 15, 16, 17, 18, 19, 20, 21, 22, 23, 24, 25, 26, 27, 28, 29, 30, 31, 32, 33, 34, 35, 36, 37, 38, 39, 40, 41, 42, 43, 44, 45, 46, 47, 48, 54, 55, 56, 57, 58, 59, 60, 61, 62, 63, 64, 65, 66, 67, 68, 69, 70, 71, 72] (by decide +kernel) (by decide +kernel)
set_option maxRecDepth 20000 in
theorem gX5_count_X5_counted : GoodIn wsX5_count (wsV RX5 159 RX5 yX5_counted wsX5_counted) := goodIn_app (goodIn_of _ (by decide +kernel)) ggX5_count_X5_counted
set_option maxRecDepth 20000 in
theorem ggX5_count_X5_refuses : GoodIn wsX5_count wsX5_refuses := goodIn_r _ [52, 53, 54, 55, 56, 57, 58, 59, 60, 61, 62, 63, 64, 65, 66, 67, 68, 69, 70, 71, 72] (by decide +kernel) (by decide +kernel)
set_option maxRecDepth 20000 in
theorem gX5_count_X5_refuses : GoodIn wsX5_count (wsV RX5 82 RX5 yX5_refuses wsX5_refuses) := goodIn_app (goodIn_of _ (by decide +kernel)) ggX5_count_X5_refuses
theorem dX5_count_0 : decode cX5_count 0 = .ok (.iload_n 1, 1) := by decide +kernel
theorem dX5_count_1 : decode cX5_count 1 = .ok (.iconst 0, 1) := by decide +kernel
theorem dX5_count_2 : decode cX5_count 2 = .ok (.bipush 8, 2) := by decide +kernel
theorem dX5_count_4 : decode cX5_count 4 = .ok (.invokestatic 88, 3) := by decide +kernel
theorem dX5_count_7 : decode cX5_count 7 = .ok (.ifCond .eq 11, 3) := by decide +kernel
theorem dX5_count_10 : decode cX5_count 10 = .ok (.aload_n 0, 1) := by decide +kernel
theorem dX5_count_11 : decode cX5_count 11 = .ok (.iload_n 1, 1) := by decide +kernel
theorem dX5_count_12 : decode cX5_count 12 = .ok (.invokevirtual 159, 3) := by decide +kernel
theorem dX5_count_15 : decode cX5_count 15 = .ok (.goto 9, 3) := by decide +kernel
theorem dX5_count_18 : decode cX5_count 18 = .ok (.aload_n 0, 1) := by decide +kernel
theorem dX5_count_19 : decode cX5_count 19 = .ok (.bipush (-2), 2) := by decide +kernel
theorem dX5_count_21 : decode cX5_count 21 = .ok (.invokevirtual 82, 3) := by decide +kernel
theorem dX5_count_24 : decode cX5_count 24 = .ok (.ireturn, 1) := by decide +kernel
set_option maxRecDepth 20000 in
theorem ggX5_type_X5_in : GoodIn wsX5_type wsX5_in := goodIn_r _ [6] (by decide +kernel) (by decide +kernel)
set_option maxRecDepth 20000 in
theorem gX5_type_X5_in : GoodIn wsX5_type (va_wsS RX5 88 yX5_in wsX5_in) := goodIn_app (goodIn_of _ (by decide +kernel)) ggX5_type_X5_in
set_option maxRecDepth 20000 in
theorem ggX5_type_X5_refuses : GoodIn wsX5_type wsX5_refuses := goodIn_r _ [10, 11, 12, 13, 14, 15, 16, 17, 18, 19, 20, 21, 22, 23, 24, 25, 26, 27, 28, 29, 30] (by decide +kernel) (by decide +kernel)
set_option maxRecDepth 20000 in
theorem gX5_type_X5_refuses : GoodIn wsX5_type (wsV RX5 82 RX5 yX5_refuses wsX5_refuses) := goodIn_app (goodIn_of _ (by decide +kernel)) ggX5_type_X5_refuses
theorem dX5_type_0 : decode cX5_type 0 = .ok (.iload_n 1, 1) := by decide +kernel
theorem dX5_type_1 : decode cX5_type 1 = .ok (.iconst 0, 1) := by decide +kernel
theorem dX5_type_2 : decode cX5_type 2 = .ok (.bipush 127, 2) := by decide +kernel
theorem dX5_type_4 : decode cX5_type 4 = .ok (.invokestatic 88, 3) := by decide +kernel
theorem dX5_type_7 : decode cX5_type 7 = .ok (.ifCond .ne 10, 3) := by decide +kernel
theorem dX5_type_10 : decode cX5_type 10 = .ok (.aload_n 0, 1) := by decide +kernel
theorem dX5_type_11 : decode cX5_type 11 = .ok (.bipush (-2), 2) := by decide +kernel
theorem dX5_type_13 : decode cX5_type 13 = .ok (.invokevirtual 82, 3) := by decide +kernel
theorem dX5_type_16 : decode cX5_type 16 = .ok (.ireturn, 1) := by decide +kernel
theorem dX5_type_17 : decode cX5_type 17 = .ok (.aload_n 0, 1) := by decide +kernel
theorem dX5_type_18 : decode cX5_type 18 = .ok (.getfield 162, 3) := by decide +kernel
theorem dX5_type_21 : decode cX5_type 21 = .ok (.bipush 120, 2) := by decide +kernel
theorem dX5_type_23 : decode cX5_type 23 = .ok (.if_icmp .ne 10, 3) := by decide +kernel
theorem dX5_type_26 : decode cX5_type 26 = .ok (.aload_n 0, 1) := by decide +kernel
theorem dX5_type_27 : decode cX5_type 27 = .ok (.bipush (-4), 2) := by decide +kernel
theorem dX5_type_29 : decode cX5_type 29 = .ok (.invokevirtual 82, 3) := by decide +kernel
theorem dX5_type_32 : decode cX5_type 32 = .ok (.ireturn, 1) := by decide +kernel
theorem dX5_type_33 : decode cX5_type 33 = .ok (.aload_n 0, 1) := by decide +kernel
theorem dX5_type_34 : decode cX5_type 34 = .ok (.getfield 41, 3) := by decide +kernel
theorem dX5_type_37 : decode cX5_type 37 = .ok (.aload_n 0, 1) := by decide +kernel
theorem dX5_type_38 : decode cX5_type 38 = .ok (.getfield 162, 3) := by decide +kernel
theorem dX5_type_41 : decode cX5_type 41 = .ok (.iload_n 1, 1) := by decide +kernel
theorem dX5_type_42 : decode cX5_type 42 = .ok (.iastore, 1) := by decide +kernel
theorem dX5_type_43 : decode cX5_type 43 = .ok (.aload_n 0, 1) := by decide +kernel
theorem dX5_type_44 : decode cX5_type 44 = .ok (.dup, 1) := by decide +kernel
theorem dX5_type_45 : decode cX5_type 45 = .ok (.getfield 162, 3) := by decide +kernel
theorem dX5_type_48 : decode cX5_type 48 = .ok (.iconst 1, 1) := by decide +kernel
theorem dX5_type_49 : decode cX5_type 49 = .ok (.iadd, 1) := by decide +kernel
theorem dX5_type_50 : decode cX5_type 50 = .ok (.putfield 162, 3) := by decide +kernel
theorem dX5_type_53 : decode cX5_type 53 = .ok (.aload_n 0, 1) := by decide +kernel
theorem dX5_type_54 : decode cX5_type 54 = .ok (.getfield 162, 3) := by decide +kernel
theorem dX5_type_57 : decode cX5_type 57 = .ok (.ireturn, 1) := by decide +kernel
theorem dX5_clear_0 : decode cX5_clear 0 = .ok (.aload_n 0, 1) := by decide +kernel
theorem dX5_clear_1 : decode cX5_clear 1 = .ok (.getfield 162, 3) := by decide +kernel
theorem dX5_clear_4 : decode cX5_clear 4 = .ok (.istore_n 1, 1) := by decide +kernel
theorem dX5_clear_5 : decode cX5_clear 5 = .ok (.aload_n 0, 1) := by decide +kernel
theorem dX5_clear_6 : decode cX5_clear 6 = .ok (.iconst 0, 1) := by decide +kernel
theorem dX5_clear_7 : decode cX5_clear 7 = .ok (.putfield 162, 3) := by decide +kernel
theorem dX5_clear_10 : decode cX5_clear 10 = .ok (.iload_n 1, 1) := by decide +kernel
theorem dX5_clear_11 : decode cX5_clear 11 = .ok (.ireturn, 1) := by decide +kernel
theorem dX5_here_0 : decode cX5_here 0 = .ok (.aload_n 0, 1) := by decide +kernel
theorem dX5_here_1 : decode cX5_here 1 = .ok (.getfield 165, 3) := by decide +kernel
theorem dX5_here_4 : decode cX5_here 4 = .ok (.aload_n 0, 1) := by decide +kernel
theorem dX5_here_5 : decode cX5_here 5 = .ok (.getfield 162, 3) := by decide +kernel
theorem dX5_here_8 : decode cX5_here 8 = .ok (.if_icmp .ge 30, 3) := by decide +kernel
theorem dX5_here_11 : decode cX5_here 11 = .ok (.aload_n 0, 1) := by decide +kernel
theorem dX5_here_12 : decode cX5_here 12 = .ok (.getfield 41, 3) := by decide +kernel
theorem dX5_here_15 : decode cX5_here 15 = .ok (.aload_n 0, 1) := by decide +kernel
theorem dX5_here_16 : decode cX5_here 16 = .ok (.getfield 165, 3) := by decide +kernel
theorem dX5_here_19 : decode cX5_here 19 = .ok (.iaload, 1) := by decide +kernel
theorem dX5_here_20 : decode cX5_here 20 = .ok (.bipush 32, 2) := by decide +kernel
theorem dX5_here_22 : decode cX5_here 22 = .ok (.if_icmp .ne 16, 3) := by decide +kernel
theorem dX5_here_25 : decode cX5_here 25 = .ok (.aload_n 0, 1) := by decide +kernel
theorem dX5_here_26 : decode cX5_here 26 = .ok (.dup, 1) := by decide +kernel
theorem dX5_here_27 : decode cX5_here 27 = .ok (.getfield 165, 3) := by decide +kernel
theorem dX5_here_30 : decode cX5_here 30 = .ok (.iconst 1, 1) := by decide +kernel
theorem dX5_here_31 : decode cX5_here 31 = .ok (.iadd, 1) := by decide +kernel
theorem dX5_here_32 : decode cX5_here 32 = .ok (.putfield 165, 3) := by decide +kernel
theorem dX5_here_35 : decode cX5_here 35 = .ok (.goto (-35), 3) := by decide +kernel
theorem dX5_here_38 : decode cX5_here 38 = .ok (.aload_n 0, 1) := by decide +kernel
theorem dX5_here_39 : decode cX5_here 39 = .ok (.getfield 165, 3) := by decide +kernel
theorem dX5_here_42 : decode cX5_here 42 = .ok (.aload_n 0, 1) := by decide +kernel
theorem dX5_here_43 : decode cX5_here 43 = .ok (.getfield 162, 3) := by decide +kernel
theorem dX5_here_46 : decode cX5_here 46 = .ok (.if_icmp .ge 15, 3) := by decide +kernel
theorem dX5_here_49 : decode cX5_here 49 = .ok (.aload_n 0, 1) := by decide +kernel
theorem dX5_here_50 : decode cX5_here 50 = .ok (.getfield 41, 3) := by decide +kernel
theorem dX5_here_53 : decode cX5_here 53 = .ok (.aload_n 0, 1) := by decide +kernel
theorem dX5_here_54 : decode cX5_here 54 = .ok (.getfield 165, 3) := by decide +kernel
theorem dX5_here_57 : decode cX5_here 57 = .ok (.iaload, 1) := by decide +kernel
theorem dX5_here_58 : decode cX5_here 58 = .ok (.goto 4, 3) := by decide +kernel
theorem dX5_here_61 : decode cX5_here 61 = .ok (.iconst (-1), 1) := by decide +kernel
theorem dX5_here_62 : decode cX5_here 62 = .ok (.ireturn, 1) := by decide +kernel
theorem dX5_must_0 : decode cX5_must 0 = .ok (.aload_n 0, 1) := by decide +kernel
theorem dX5_must_1 : decode cX5_must 1 = .ok (.getfield 168, 3) := by decide +kernel
theorem dX5_must_4 : decode cX5_must 4 = .ok (.iconst (-1), 1) := by decide +kernel
theorem dX5_must_5 : decode cX5_must 5 = .ok (.if_icmp .ne 28, 3) := by decide +kernel
theorem dX5_must_8 : decode cX5_must 8 = .ok (.iload_n 1, 1) := by decide +kernel
theorem dX5_must_9 : decode cX5_must 9 = .ok (.ifCond .eq 16, 3) := by decide +kernel
theorem dX5_must_12 : decode cX5_must 12 = .ok (.aload_n 0, 1) := by decide +kernel
theorem dX5_must_13 : decode cX5_must 13 = .ok (.dup, 1) := by decide +kernel
theorem dX5_must_14 : decode cX5_must 14 = .ok (.getfield 165, 3) := by decide +kernel
theorem dX5_must_17 : decode cX5_must 17 = .ok (.iconst 1, 1) := by decide +kernel
theorem dX5_must_18 : decode cX5_must 18 = .ok (.iadd, 1) := by decide +kernel
theorem dX5_must_19 : decode cX5_must 19 = .ok (.putfield 165, 3) := by decide +kernel
theorem dX5_must_22 : decode cX5_must 22 = .ok (.goto 11, 3) := by decide +kernel
theorem dX5_must_25 : decode cX5_must 25 = .ok (.aload_n 0, 1) := by decide +kernel
theorem dX5_must_26 : decode cX5_must 26 = .ok (.aload_n 0, 1) := by decide +kernel
theorem dX5_must_27 : decode cX5_must 27 = .ok (.getfield 165, 3) := by decide +kernel
theorem dX5_must_30 : decode cX5_must 30 = .ok (.putfield 168, 3) := by decide +kernel
theorem dX5_must_33 : decode cX5_must 33 = .ok (.return_, 1) := by decide +kernel
set_option maxRecDepth 20000 in
theorem ggX5_isFigure_X5_in : GoodIn wsX5_isFigure wsX5_in := goodIn_r _ [7] (by decide +kernel) (by decide +kernel)
set_option maxRecDepth 20000 in
theorem gX5_isFigure_X5_in : GoodIn wsX5_isFigure (va_wsS RX5 88 yX5_in wsX5_in) := goodIn_app (goodIn_of _ (by decide +kernel)) ggX5_isFigure_X5_in
theorem dX5_isFigure_0 : decode cX5_isFigure 0 = .ok (.aload_n 0, 1) := by decide +kernel
theorem dX5_isFigure_1 : decode cX5_isFigure 1 = .ok (.getfield 165, 3) := by decide +kernel
theorem dX5_isFigure_4 : decode cX5_isFigure 4 = .ok (.aload_n 0, 1) := by decide +kernel
theorem dX5_isFigure_5 : decode cX5_isFigure 5 = .ok (.getfield 162, 3) := by decide +kernel
theorem dX5_isFigure_8 : decode cX5_isFigure 8 = .ok (.if_icmp .ge 26, 3) := by decide +kernel
theorem dX5_isFigure_11 : decode cX5_isFigure 11 = .ok (.aload_n 0, 1) := by decide +kernel
theorem dX5_isFigure_12 : decode cX5_isFigure 12 = .ok (.getfield 41, 3) := by decide +kernel
theorem dX5_isFigure_15 : decode cX5_isFigure 15 = .ok (.aload_n 0, 1) := by decide +kernel
theorem dX5_isFigure_16 : decode cX5_isFigure 16 = .ok (.getfield 165, 3) := by decide +kernel
theorem dX5_isFigure_19 : decode cX5_isFigure 19 = .ok (.iaload, 1) := by decide +kernel
theorem dX5_isFigure_20 : decode cX5_isFigure 20 = .ok (.bipush 48, 2) := by decide +kernel
theorem dX5_isFigure_22 : decode cX5_isFigure 22 = .ok (.bipush 57, 2) := by decide +kernel
theorem dX5_isFigure_24 : decode cX5_isFigure 24 = .ok (.invokestatic 88, 3) := by decide +kernel
theorem dX5_isFigure_27 : decode cX5_isFigure 27 = .ok (.ifCond .eq 7, 3) := by decide +kernel
theorem dX5_isFigure_30 : decode cX5_isFigure 30 = .ok (.iconst 1, 1) := by decide +kernel
theorem dX5_isFigure_31 : decode cX5_isFigure 31 = .ok (.goto 4, 3) := by decide +kernel
theorem dX5_isFigure_34 : decode cX5_isFigure 34 = .ok (.iconst 0, 1) := by decide +kernel
theorem dX5_isFigure_35 : decode cX5_isFigure 35 = .ok (.ireturn, 1) := by decide +kernel
set_option maxRecDepth 20000 in
theorem ggX5_number_X5_here : GoodIn wsX5_number wsX5_here := goodIn_r _ [8, 3, 9, 2, 21, 22, 23, 24, 25, 26, 27, 28, 29, 30, 31, 32, 33, 34, 35, 36, 37, 38, 39] (by decide +kernel) (by decide +kernel)
set_option maxRecDepth 20000 in
theorem gX5_number_X5_here : GoodIn wsX5_number (wsV RX5 171 RX5 yX5_here wsX5_here) := goodIn_app (goodIn_of _ (by decide +kernel)) ggX5_number_X5_here
set_option maxRecDepth 20000 in
theorem ggX5_number_X5_in : GoodIn wsX5_number wsX5_in := goodIn_r _ [12] (by decide +kernel) (by decide +kernel)
set_option maxRecDepth 20000 in
theorem gX5_number_X5_in : GoodIn wsX5_number (va_wsS RX5 88 yX5_in wsX5_in) := goodIn_app (goodIn_of _ (by decide +kernel)) ggX5_number_X5_in
set_option maxRecDepth 20000 in
theorem ggX5_number_X5_must : GoodIn wsX5_number wsX5_must := goodIn_r _ [16, 1, 3, 21, 22, 23, 24, 25, 26, 27, 28, 29, 30, 31, 32, 33, 34, 35, 36, 37, 38, 39] (by decide +kernel) (by decide +kernel)
set_option maxRecDepth 20000 in
theorem gX5_number_X5_must : GoodIn wsX5_number (wsV RX5 174 RX5 yX5_must wsX5_must) := goodIn_app (goodIn_of _ (by decide +kernel)) ggX5_number_X5_must
set_option maxRecDepth 20000 in
theorem ggX5_number_X5_isFigure : GoodIn wsX5_number wsX5_isFigure := goodIn_r _ [20, 3, 9, 2, 10, 11, 7, 12, 21, 22, 23, 24, 25, 26, 27, 28, 29, 30, 31, 32, 33, 34, 35, 36, 37, 38, 39] (by decide +kernel) (by decide +kernel)
set_option maxRecDepth 20000 in
theorem gX5_number_X5_isFigure : GoodIn wsX5_number (wsV RX5 178 RX5 yX5_isFigure wsX5_isFigure) := goodIn_app (goodIn_of _ (by decide +kernel)) ggX5_number_X5_isFigure
theorem dX5_number_0 : decode cX5_number 0 = .ok (.aload_n 0, 1) := by decide +kernel
theorem dX5_number_1 : decode cX5_number 1 = .ok (.aload_n 0, 1) := by decide +kernel
theorem dX5_number_2 : decode cX5_number 2 = .ok (.invokevirtual 171, 3) := by decide +kernel
theorem dX5_number_5 : decode cX5_number 5 = .ok (.bipush 48, 2) := by decide +kernel
theorem dX5_number_7 : decode cX5_number 7 = .ok (.bipush 57, 2) := by decide +kernel
theorem dX5_number_9 : decode cX5_number 9 = .ok (.invokestatic 88, 3) := by decide +kernel
theorem dX5_number_12 : decode cX5_number 12 = .ok (.invokevirtual 174, 3) := by decide +kernel
theorem dX5_number_15 : decode cX5_number 15 = .ok (.aload_n 0, 1) := by decide +kernel
theorem dX5_number_16 : decode cX5_number 16 = .ok (.getfield 168, 3) := by decide +kernel
theorem dX5_number_19 : decode cX5_number 19 = .ok (.iconst (-1), 1) := by decide +kernel
theorem dX5_number_20 : decode cX5_number 20 = .ok (.if_icmp .eq 5, 3) := by decide +kernel
theorem dX5_number_23 : decode cX5_number 23 = .ok (.iconst 0, 1) := by decide +kernel
theorem dX5_number_24 : decode cX5_number 24 = .ok (.ireturn, 1) := by decide +kernel
theorem dX5_number_25 : decode cX5_number 25 = .ok (.aload_n 0, 1) := by decide +kernel
theorem dX5_number_26 : decode cX5_number 26 = .ok (.getfield 41, 3) := by decide +kernel
theorem dX5_number_29 : decode cX5_number 29 = .ok (.aload_n 0, 1) := by decide +kernel
theorem dX5_number_30 : decode cX5_number 30 = .ok (.getfield 165, 3) := by decide +kernel
theorem dX5_number_33 : decode cX5_number 33 = .ok (.iconst 1, 1) := by decide +kernel
theorem dX5_number_34 : decode cX5_number 34 = .ok (.isub, 1) := by decide +kernel
theorem dX5_number_35 : decode cX5_number 35 = .ok (.iaload, 1) := by decide +kernel
theorem dX5_number_36 : decode cX5_number 36 = .ok (.bipush 48, 2) := by decide +kernel
theorem dX5_number_38 : decode cX5_number 38 = .ok (.isub, 1) := by decide +kernel
theorem dX5_number_39 : decode cX5_number 39 = .ok (.istore_n 1, 1) := by decide +kernel
theorem dX5_number_40 : decode cX5_number 40 = .ok (.iconst 0, 1) := by decide +kernel
theorem dX5_number_41 : decode cX5_number 41 = .ok (.istore_n 2, 1) := by decide +kernel
theorem dX5_number_42 : decode cX5_number 42 = .ok (.iload_n 2, 1) := by decide +kernel
theorem dX5_number_43 : decode cX5_number 43 = .ok (.iconst 2, 1) := by decide +kernel
theorem dX5_number_44 : decode cX5_number 44 = .ok (.if_icmp .ge 44, 3) := by decide +kernel
theorem dX5_number_47 : decode cX5_number 47 = .ok (.aload_n 0, 1) := by decide +kernel
theorem dX5_number_48 : decode cX5_number 48 = .ok (.invokevirtual 178, 3) := by decide +kernel
theorem dX5_number_51 : decode cX5_number 51 = .ok (.ifCond .eq 37, 3) := by decide +kernel
theorem dX5_number_54 : decode cX5_number 54 = .ok (.bipush 10, 2) := by decide +kernel
theorem dX5_number_56 : decode cX5_number 56 = .ok (.iload_n 1, 1) := by decide +kernel
theorem dX5_number_57 : decode cX5_number 57 = .ok (.imul, 1) := by decide +kernel
theorem dX5_number_58 : decode cX5_number 58 = .ok (.aload_n 0, 1) := by decide +kernel
theorem dX5_number_59 : decode cX5_number 59 = .ok (.getfield 41, 3) := by decide +kernel
theorem dX5_number_62 : decode cX5_number 62 = .ok (.aload_n 0, 1) := by decide +kernel
theorem dX5_number_63 : decode cX5_number 63 = .ok (.getfield 165, 3) := by decide +kernel
theorem dX5_number_66 : decode cX5_number 66 = .ok (.iaload, 1) := by decide +kernel
theorem dX5_number_67 : decode cX5_number 67 = .ok (.iadd, 1) := by decide +kernel
