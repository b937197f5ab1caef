theorem dX1_mostLoad_22 : decode cX1_mostLoad 22 = .ok (.invokestatic 102, 3) := by decide +kernel
theorem dX1_mostLoad_25 : decode cX1_mostLoad 25 = .ok (.istore_n 1, 1) := by decide +kernel
theorem dX1_mostLoad_26 : decode cX1_mostLoad 26 = .ok (.iinc 2 1, 3) := by decide +kernel
theorem dX1_mostLoad_29 : decode cX1_mostLoad 29 = .ok (.goto (-25), 3) := by decide +kernel
theorem dX1_mostLoad_32 : decode cX1_mostLoad 32 = .ok (.iload_n 1, 1) := by decide +kernel
theorem dX1_mostLoad_33 : decode cX1_mostLoad 33 = .ok (.ireturn, 1) := by decide +kernel
theorem dX2_init_0 : decode cX2_init 0 = .ok (.aload_n 0, 1) := by decide +kernel
theorem dX2_init_1 : decode cX2_init 1 = .ok (.invokespecial 3, 3) := by decide +kernel
theorem dX2_init_4 : decode cX2_init 4 = .ok (.aload_n 0, 1) := by decide +kernel
theorem dX2_init_5 : decode cX2_init 5 = .ok (.bipush 120, 2) := by decide +kernel
theorem dX2_init_7 : decode cX2_init 7 = .ok (.newarray .int, 2) := by decide +kernel
theorem dX2_init_9 : decode cX2_init 9 = .ok (.putfield 9, 3) := by decide +kernel
theorem dX2_init_12 : decode cX2_init 12 = .ok (.aload_n 0, 1) := by decide +kernel
theorem dX2_init_13 : decode cX2_init 13 = .ok (.iconst 0, 1) := by decide +kernel
theorem dX2_init_14 : decode cX2_init 14 = .ok (.putfield 15, 3) := by decide +kernel
theorem dX2_init_17 : decode cX2_init 17 = .ok (.aload_n 0, 1) := by decide +kernel
theorem dX2_init_18 : decode cX2_init 18 = .ok (.bipush 40, 2) := by decide +kernel
theorem dX2_init_20 : decode cX2_init 20 = .ok (.newarray .int, 2) := by decide +kernel
theorem dX2_init_22 : decode cX2_init 22 = .ok (.putfield 19, 3) := by decide +kernel
theorem dX2_init_25 : decode cX2_init 25 = .ok (.aload_n 0, 1) := by decide +kernel
theorem dX2_init_26 : decode cX2_init 26 = .ok (.bipush 40, 2) := by decide +kernel
theorem dX2_init_28 : decode cX2_init 28 = .ok (.newarray .int, 2) := by decide +kernel
theorem dX2_init_30 : decode cX2_init 30 = .ok (.putfield 22, 3) := by decide +kernel
theorem dX2_init_33 : decode cX2_init 33 = .ok (.aload_n 0, 1) := by decide +kernel
theorem dX2_init_34 : decode cX2_init 34 = .ok (.bipush 40, 2) := by decide +kernel
theorem dX2_init_36 : decode cX2_init 36 = .ok (.newarray .int, 2) := by decide +kernel
theorem dX2_init_38 : decode cX2_init 38 = .ok (.putfield 25, 3) := by decide +kernel
theorem dX2_init_41 : decode cX2_init 41 = .ok (.aload_n 0, 1) := by decide +kernel
theorem dX2_init_42 : decode cX2_init 42 = .ok (.iconst 0, 1) := by decide +kernel
theorem dX2_init_43 : decode cX2_init 43 = .ok (.putfield 28, 3) := by decide +kernel
theorem dX2_init_46 : decode cX2_init 46 = .ok (.aload_n 0, 1) := by decide +kernel
theorem dX2_init_47 : decode cX2_init 47 = .ok (.iconst 0, 1) := by decide +kernel
theorem dX2_init_48 : decode cX2_init 48 = .ok (.putfield 31, 3) := by decide +kernel
theorem dX2_init_51 : decode cX2_init 51 = .ok (.aload_n 0, 1) := by decide +kernel
theorem dX2_init_52 : decode cX2_init 52 = .ok (.iconst 0, 1) := by decide +kernel
theorem dX2_init_53 : decode cX2_init 53 = .ok (.putfield 34, 3) := by decide +kernel
theorem dX2_init_56 : decode cX2_init 56 = .ok (.aload_n 0, 1) := by decide +kernel
theorem dX2_init_57 : decode cX2_init 57 = .ok (.iconst 0, 1) := by decide +kernel
theorem dX2_init_58 : decode cX2_init 58 = .ok (.putfield 37, 3) := by decide +kernel
theorem dX2_init_61 : decode cX2_init 61 = .ok (.aload_n 0, 1) := by decide +kernel
theorem dX2_init_62 : decode cX2_init 62 = .ok (.iconst 0, 1) := by decide +kernel
theorem dX2_init_63 : decode cX2_init 63 = .ok (.putfield 40, 3) := by decide +kernel
theorem dX2_init_66 : decode cX2_init 66 = .ok (.return_, 1) := by decide +kernel
theorem dX2_append_0 : decode cX2_append 0 = .ok (.aload_n 0, 1) := by decide +kernel
theorem dX2_append_1 : decode cX2_append 1 = .ok (.getfield 15, 3) := by decide +kernel
theorem dX2_append_4 : decode cX2_append 4 = .ok (.bipush 120, 2) := by decide +kernel
theorem dX2_append_6 : decode cX2_append 6 = .ok (.if_icmp .lt 5, 3) := by decide +kernel
theorem dX2_append_9 : decode cX2_append 9 = .ok (.iconst 0, 1) := by decide +kernel
theorem dX2_append_10 : decode cX2_append 10 = .ok (.ireturn, 1) := by decide +kernel
theorem dX2_append_11 : decode cX2_append 11 = .ok (.aload_n 0, 1) := by decide +kernel
theorem dX2_append_12 : decode cX2_append 12 = .ok (.getfield 9, 3) := by decide +kernel
theorem dX2_append_15 : decode cX2_append 15 = .ok (.aload_n 0, 1) := by decide +kernel
theorem dX2_append_16 : decode cX2_append 16 = .ok (.getfield 15, 3) := by decide +kernel
theorem dX2_append_19 : decode cX2_append 19 = .ok (.iload_n 1, 1) := by decide +kernel
theorem dX2_append_20 : decode cX2_append 20 = .ok (.iastore, 1) := by decide +kernel
theorem dX2_append_21 : decode cX2_append 21 = .ok (.aload_n 0, 1) := by decide +kernel
theorem dX2_append_22 : decode cX2_append 22 = .ok (.dup, 1) := by decide +kernel
theorem dX2_append_23 : decode cX2_append 23 = .ok (.getfield 15, 3) := by decide +kernel
theorem dX2_append_26 : decode cX2_append 26 = .ok (.iconst 1, 1) := by decide +kernel
theorem dX2_append_27 : decode cX2_append 27 = .ok (.iadd, 1) := by decide +kernel
theorem dX2_append_28 : decode cX2_append 28 = .ok (.putfield 15, 3) := by decide +kernel
theorem dX2_append_31 : decode cX2_append 31 = .ok (.iconst 1, 1) := by decide +kernel
theorem dX2_append_32 : decode cX2_append 32 = .ok (.ireturn, 1) := by decide +kernel
set_option maxRecDepth 20000 in
theorem ggX2_read_X2_accepts : GoodIn wsX2_read wsX2_accepts := goodIn_r _ [9, 2, 10, 11, 8, 12, 13, 14, 15, 16, 17, 18, 19, 20, 21, 22, 23, 24, 1, 25, 26, 27, 28, 29, 30, 31, 32, 33, 34, 35, 36, 37, 38, 39, 40, 41, 42, 43, 44, 45, 46, 47, 48, 49, 50, 51] (by decide +kernel) (by decide +kernel)
set_option maxRecDepth 20000 in
theorem gX2_read_X2_accepts : GoodIn wsX2_read (wsV RX2 43 RX2 yX2_accepts wsX2_accepts) := goodIn_app (goodIn_of _ (by decide +kernel)) ggX2_read_X2_accepts
theorem dX2_read_0 : decode cX2_read 0 = .ok (.aload_n 0, 1) := by decide +kernel
theorem dX2_read_1 : decode cX2_read 1 = .ok (.iconst 0, 1) := by decide +kernel
theorem dX2_read_2 : decode cX2_read 2 = .ok (.putfield 28, 3) := by decide +kernel
theorem dX2_read_5 : decode cX2_read 5 = .ok (.aload_n 0, 1) := by decide +kernel
theorem dX2_read_6 : decode cX2_read 6 = .ok (.iconst 0, 1) := by decide +kernel
theorem dX2_read_7 : decode cX2_read 7 = .ok (.putfield 31, 3) := by decide +kernel
theorem dX2_read_10 : decode cX2_read 10 = .ok (.iconst 0, 1) := by decide +kernel
theorem dX2_read_11 : decode cX2_read 11 = .ok (.istore_n 1, 1) := by decide +kernel
theorem dX2_read_12 : decode cX2_read 12 = .ok (.iload_n 1, 1) := by decide +kernel
theorem dX2_read_13 : decode cX2_read 13 = .ok (.aload_n 0, 1) := by decide +kernel
theorem dX2_read_14 : decode cX2_read 14 = .ok (.getfield 15, 3) := by decide +kernel
theorem dX2_read_17 : decode cX2_read 17 = .ok (.if_icmp .ge 24, 3) := by decide +kernel
theorem dX2_read_20 : decode cX2_read 20 = .ok (.aload_n 0, 1) := by decide +kernel
theorem dX2_read_21 : decode cX2_read 21 = .ok (.aload_n 0, 1) := by decide +kernel
theorem dX2_read_22 : decode cX2_read 22 = .ok (.getfield 9, 3) := by decide +kernel
theorem dX2_read_25 : decode cX2_read 25 = .ok (.iload_n 1, 1) := by decide +kernel
theorem dX2_read_26 : decode cX2_read 26 = .ok (.iaload, 1) := by decide +kernel
theorem dX2_read_27 : decode cX2_read 27 = .ok (.invokevirtual 43, 3) := by decide +kernel
theorem dX2_read_30 : decode cX2_read 30 = .ok (.ifCond .ne 5, 3) := by decide +kernel
theorem dX2_read_33 : decode cX2_read 33 = .ok (.iload_n 1, 1) := by decide +kernel
theorem dX2_read_34 : decode cX2_read 34 = .ok (.ireturn, 1) := by decide +kernel
theorem dX2_read_35 : decode cX2_read 35 = .ok (.iinc 1 1, 3) := by decide +kernel
theorem dX2_read_38 : decode cX2_read 38 = .ok (.goto (-26), 3) := by decide +kernel
theorem dX2_read_41 : decode cX2_read 41 = .ok (.aload_n 0, 1) := by decide +kernel
theorem dX2_read_42 : decode cX2_read 42 = .ok (.getfield 31, 3) := by decide +kernel
theorem dX2_read_45 : decode cX2_read 45 = .ok (.ifCond .ne 14, 3) := by decide +kernel
theorem dX2_read_48 : decode cX2_read 48 = .ok (.aload_n 0, 1) := by decide +kernel
theorem dX2_read_49 : decode cX2_read 49 = .ok (.getfield 28, 3) := by decide +kernel
theorem dX2_read_52 : decode cX2_read 52 = .ok (.ifCond .le 7, 3) := by decide +kernel
theorem dX2_read_55 : decode cX2_read 55 = .ok (.iconst (-1), 1) := by decide +kernel
theorem dX2_read_56 : decode cX2_read 56 = .ok (.goto 7, 3) := by decide +kernel
theorem dX2_read_59 : decode cX2_read 59 = .ok (.aload_n 0, 1) := by decide +kernel
theorem dX2_read_60 : decode cX2_read 60 = .ok (.getfield 15, 3) := by decide +kernel
theorem dX2_read_63 : decode cX2_read 63 = .ok (.ireturn, 1) := by decide +kernel
set_option maxRecDepth 20000 in
theorem ggX2_accepts_X2_isFigure : GoodIn wsX2_accepts wsX2_isFigure := goodIn_r _ [5] (by decide +kernel) (by decide +kernel)
set_option maxRecDepth 20000 in
theorem gX2_accepts_X2_isFigure : GoodIn wsX2_accepts (va_wsS RX2 47 yX2_isFigure wsX2_isFigure) := goodIn_app (goodIn_of _ (by decide +kernel)) ggX2_accepts_X2_isFigure
set_option maxRecDepth 20000 in
theorem ggX2_accepts_X2_addsFigure : GoodIn wsX2_accepts wsX2_addsFigure := goodIn_r _ [9, 10, 11, 36, 37, 38, 39, 40, 41, 42, 43, 44, 45] (by decide +kernel) (by decide +kernel)
set_option maxRecDepth 20000 in
theorem gX2_accepts_X2_addsFigure : GoodIn wsX2_accepts (wsV RX2 50 RX2 yX2_addsFigure wsX2_addsFigure) := goodIn_app (goodIn_of _ (by decide +kernel)) ggX2_accepts_X2_addsFigure
set_option maxRecDepth 20000 in
theorem ggX2_accepts_X2_endNumber : GoodIn wsX2_accepts wsX2_endNumber := goodIn_r _ [15, 16, 17, 18, 11, 19, 20, 1, 21, 22, 4, 23, 36, 37, 38, 39, 40, 41, 42, 43, 44, 45] (by decide +kernel) (by decide +kernel)
set_option maxRecDepth 20000 in
theorem gX2_accepts_X2_endNumber : GoodIn wsX2_accepts (wsV RX2 53 RX2 yX2_endNumber wsX2_endNumber) := goodIn_app (goodIn_of _ (by decide +kernel)) ggX2_accepts_X2_endNumber
set_option maxRecDepth 20000 in
theorem ggX2_accepts_X2_startsOrder : GoodIn wsX2_accepts wsX2_startsOrder := goodIn_r _ [27, 18, 20, 16, 1, 21, 22, 4, 23, 36, 37, 38, 39, 40, 41, 42, 43, 44, 45] (by decide +kernel) (by decide +kernel)
set_option maxRecDepth 20000 in
theorem gX2_accepts_X2_startsOrder : GoodIn wsX2_accepts (wsV RX2 56 RX2 yX2_startsOrder wsX2_startsOrder) := goodIn_app (goodIn_of _ (by decide +kernel)) ggX2_accepts_X2_startsOrder
set_option maxRecDepth 20000 in
theorem ggX2_accepts_X2_startsNumber : GoodIn wsX2_accepts wsX2_startsNumber := goodIn_r _ [31, 11, 10, 1, 2, 3, 4, 5, 6, 7, 8, 9, 36, 37, 38, 39, 40, 41, 42, 43, 44, 45] (by decide +kernel) (by decide +kernel)
set_option maxRecDepth 20000 in
theorem gX2_accepts_X2_startsNumber : GoodIn wsX2_accepts (wsV RX2 59 RX2 yX2_startsNumber wsX2_startsNumber) := goodIn_app (goodIn_of _ (by decide +kernel)) ggX2_accepts_X2_startsNumber
set_option maxRecDepth 20000 in
theorem ggX2_accepts_X2_endsOrder : GoodIn wsX2_accepts wsX2_endsOrder := goodIn_r _ [35, 18, 1, 36, 37, 38, 39, 40, 41, 42, 43, 44, 45] (by decide +kernel) (by decide +kernel)
set_option maxRecDepth 20000 in
theorem gX2_accepts_X2_endsOrder : GoodIn wsX2_accepts (wsV RX2 62 RX2 yX2_endsOrder wsX2_endsOrder) := goodIn_app (goodIn_of _ (by decide +kernel)) ggX2_accepts_X2_endsOrder
theorem dX2_accepts_0 : decode cX2_accepts 0 = .ok (.aload_n 0, 1) := by decide +kernel
theorem dX2_accepts_1 : decode cX2_accepts 1 = .ok (.getfield 31, 3) := by decide +kernel
theorem dX2_accepts_4 : decode cX2_accepts 4 = .ok (.iconst 2, 1) := by decide +kernel
theorem dX2_accepts_5 : decode cX2_accepts 5 = .ok (.if_icmp .ne 20, 3) := by decide +kernel
theorem dX2_accepts_8 : decode cX2_accepts 8 = .ok (.iload_n 1, 1) := by decide +kernel
theorem dX2_accepts_9 : decode cX2_accepts 9 = .ok (.invokestatic 47, 3) := by decide +kernel
theorem dX2_accepts_12 : decode cX2_accepts 12 = .ok (.ifCond .eq 9, 3) := by decide +kernel
theorem dX2_accepts_15 : decode cX2_accepts 15 = .ok (.aload_n 0, 1) := by decide +kernel
theorem dX2_accepts_16 : decode cX2_accepts 16 = .ok (.iload_n 1, 1) := by decide +kernel
theorem dX2_accepts_17 : decode cX2_accepts 17 = .ok (.invokevirtual 50, 3) := by decide +kernel
theorem dX2_accepts_20 : decode cX2_accepts 20 = .ok (.ireturn, 1) := by decide +kernel
theorem dX2_accepts_21 : decode cX2_accepts 21 = .ok (.aload_n 0, 1) := by decide +kernel
theorem dX2_accepts_22 : decode cX2_accepts 22 = .ok (.invokevirtual 53, 3) := by decide +kernel
theorem dX2_accepts_25 : decode cX2_accepts 25 = .ok (.iload_n 1, 1) := by decide +kernel
theorem dX2_accepts_26 : decode cX2_accepts 26 = .ok (.bipush 32, 2) := by decide +kernel
theorem dX2_accepts_28 : decode cX2_accepts 28 = .ok (.if_icmp .ne 5, 3) := by decide +kernel
theorem dX2_accepts_31 : decode cX2_accepts 31 = .ok (.iconst 1, 1) := by decide +kernel
theorem dX2_accepts_32 : decode cX2_accepts 32 = .ok (.ireturn, 1) := by decide +kernel
theorem dX2_accepts_33 : decode cX2_accepts 33 = .ok (.aload_n 0, 1) := by decide +kernel
theorem dX2_accepts_34 : decode cX2_accepts 34 = .ok (.getfield 31, 3) := by decide +kernel
theorem dX2_accepts_37 : decode cX2_accepts 37 = .ok (.lookupswitch 39 #[(0, 27), (1, 33)], 27) := by decide +kernel
theorem dX2_accepts_64 : decode cX2_accepts 64 = .ok (.aload_n 0, 1) := by decide +kernel
theorem dX2_accepts_65 : decode cX2_accepts 65 = .ok (.iload_n 1, 1) := by decide +kernel
theorem dX2_accepts_66 : decode cX2_accepts 66 = .ok (.invokevirtual 56, 3) := by decide +kernel
theorem dX2_accepts_69 : decode cX2_accepts 69 = .ok (.ireturn, 1) := by decide +kernel
theorem dX2_accepts_70 : decode cX2_accepts 70 = .ok (.aload_n 0, 1) := by decide +kernel
theorem dX2_accepts_71 : decode cX2_accepts 71 = .ok (.iload_n 1, 1) := by decide +kernel
theorem dX2_accepts_72 : decode cX2_accepts 72 = .ok (.invokevirtual 59, 3) := by decide +kernel
theorem dX2_accepts_75 : decode cX2_accepts 75 = .ok (.ireturn, 1) := by decide +kernel
theorem dX2_accepts_76 : decode cX2_accepts 76 = .ok (.aload_n 0, 1) := by decide +kernel
theorem dX2_accepts_77 : decode cX2_accepts 77 = .ok (.iload_n 1, 1) := by decide +kernel
theorem dX2_accepts_78 : decode cX2_accepts 78 = .ok (.invokevirtual 62, 3) := by decide +kernel
theorem dX2_accepts_81 : decode cX2_accepts 81 = .ok (.ireturn, 1) := by decide +kernel
set_option maxRecDepth 20000 in
theorem ggX2_startsOrder_X2_numbersOf : GoodIn wsX2_startsOrder wsX2_numbersOf := goodIn_r _ [8] (by decide +kernel) (by decide +kernel)
set_option maxRecDepth 20000 in
theorem gX2_startsOrder_X2_numbersOf : GoodIn wsX2_startsOrder (va_wsS RX2 65 yX2_numbersOf wsX2_numbersOf) := goodIn_app (goodIn_of _ (by decide +kernel)) ggX2_startsOrder_X2_numbersOf
theorem dX2_startsOrder_0 : decode cX2_startsOrder 0 = .ok (.iload_n 1, 1) := by decide +kernel
theorem dX2_startsOrder_1 : decode cX2_startsOrder 1 = .ok (.invokestatic 65, 3) := by decide +kernel
theorem dX2_startsOrder_4 : decode cX2_startsOrder 4 = .ok (.ifCond .eq 12, 3) := by decide +kernel
theorem dX2_startsOrder_7 : decode cX2_startsOrder 7 = .ok (.aload_n 0, 1) := by decide +kernel
theorem dX2_startsOrder_8 : decode cX2_startsOrder 8 = .ok (.getfield 28, 3) := by decide +kernel
theorem dX2_startsOrder_11 : decode cX2_startsOrder 11 = .ok (.bipush 40, 2) := by decide +kernel
theorem dX2_startsOrder_13 : decode cX2_startsOrder 13 = .ok (.if_icmp .lt 5, 3) := by decide +kernel
theorem dX2_startsOrder_16 : decode cX2_startsOrder 16 = .ok (.iconst 0, 1) := by decide +kernel
theorem dX2_startsOrder_17 : decode cX2_startsOrder 17 = .ok (.ireturn, 1) := by decide +kernel
theorem dX2_startsOrder_18 : decode cX2_startsOrder 18 = .ok (.aload_n 0, 1) := by decide +kernel
theorem dX2_startsOrder_19 : decode cX2_startsOrder 19 = .ok (.getfield 19, 3) := by decide +kernel
theorem dX2_startsOrder_22 : decode cX2_startsOrder 22 = .ok (.aload_n 0, 1) := by decide +kernel
theorem dX2_startsOrder_23 : decode cX2_startsOrder 23 = .ok (.getfield 28, 3) := by decide +kernel
theorem dX2_startsOrder_26 : decode cX2_startsOrder 26 = .ok (.iload_n 1, 1) := by decide +kernel
theorem dX2_startsOrder_27 : decode cX2_startsOrder 27 = .ok (.iastore, 1) := by decide +kernel
theorem dX2_startsOrder_28 : decode cX2_startsOrder 28 = .ok (.aload_n 0, 1) := by decide +kernel
theorem dX2_startsOrder_29 : decode cX2_startsOrder 29 = .ok (.iconst 0, 1) := by decide +kernel
theorem dX2_startsOrder_30 : decode cX2_startsOrder 30 = .ok (.putfield 34, 3) := by decide +kernel
theorem dX2_startsOrder_33 : decode cX2_startsOrder 33 = .ok (.aload_n 0, 1) := by decide +kernel
theorem dX2_startsOrder_34 : decode cX2_startsOrder 34 = .ok (.iconst 1, 1) := by decide +kernel
theorem dX2_startsOrder_35 : decode cX2_startsOrder 35 = .ok (.putfield 31, 3) := by decide +kernel
theorem dX2_startsOrder_38 : decode cX2_startsOrder 38 = .ok (.iconst 1, 1) := by decide +kernel
theorem dX2_startsOrder_39 : decode cX2_startsOrder 39 = .ok (.ireturn, 1) := by decide +kernel
set_option maxRecDepth 20000 in
theorem ggX2_startsNumber_X2_isFigure : GoodIn wsX2_startsNumber wsX2_isFigure := goodIn_r _ [7] (by decide +kernel) (by decide +kernel)
set_option maxRecDepth 20000 in
theorem gX2_startsNumber_X2_isFigure : GoodIn wsX2_startsNumber (va_wsS RX2 47 yX2_isFigure wsX2_isFigure) := goodIn_app (goodIn_of _ (by decide +kernel)) ggX2_startsNumber_X2_isFigure
set_option maxRecDepth 20000 in
theorem ggX2_startsNumber_X2_addsFigure : GoodIn wsX2_startsNumber wsX2_addsFigure := goodIn_r _ [11, 2, 1, 12, 13, 14, 15, 16, 17, 18, 19, 20, 21] (by decide +kernel) (by decide +kernel)
set_option maxRecDepth 20000 in
theorem gX2_startsNumber_X2_addsFigure : GoodIn wsX2_startsNumber (wsV RX2 50 RX2 yX2_addsFigure wsX2_addsFigure) := goodIn_app (goodIn_of _ (by decide +kernel)) ggX2_startsNumber_X2_addsFigure
theorem dX2_startsNumber_0 : decode cX2_startsNumber 0 = .ok (.iload_n 1, 1) := by decide +kernel
theorem dX2_startsNumber_1 : decode cX2_startsNumber 1 = .ok (.invokestatic 47, 3) := by decide +kernel
theorem dX2_startsNumber_4 : decode cX2_startsNumber 4 = .ok (.ifCond .ne 5, 3) := by decide +kernel
theorem dX2_startsNumber_7 : decode cX2_startsNumber 7 = .ok (.iconst 0, 1) := by decide +kernel
theorem dX2_startsNumber_8 : decode cX2_startsNumber 8 = .ok (.ireturn, 1) := by decide +kernel
theorem dX2_startsNumber_9 : decode cX2_startsNumber 9 = .ok (.aload_n 0, 1) := by decide +kernel
theorem dX2_startsNumber_10 : decode cX2_startsNumber 10 = .ok (.iconst 0, 1) := by decide +kernel
theorem dX2_startsNumber_11 : decode cX2_startsNumber 11 = .ok (.putfield 40, 3) := by decide +kernel
theorem dX2_startsNumber_14 : decode cX2_startsNumber 14 = .ok (.aload_n 0, 1) := by decide +kernel
theorem dX2_startsNumber_15 : decode cX2_startsNumber 15 = .ok (.iconst 0, 1) := by decide +kernel
theorem dX2_startsNumber_16 : decode cX2_startsNumber 16 = .ok (.putfield 37, 3) := by decide +kernel
theorem dX2_startsNumber_19 : decode cX2_startsNumber 19 = .ok (.aload_n 0, 1) := by decide +kernel
theorem dX2_startsNumber_20 : decode cX2_startsNumber 20 = .ok (.iconst 2, 1) := by decide +kernel
theorem dX2_startsNumber_21 : decode cX2_startsNumber 21 = .ok (.putfield 31, 3) := by decide +kernel
theorem dX2_startsNumber_24 : decode cX2_startsNumber 24 = .ok (.aload_n 0, 1) := by decide +kernel
theorem dX2_startsNumber_25 : decode cX2_startsNumber 25 = .ok (.iload_n 1, 1) := by decide +kernel
theorem dX2_startsNumber_26 : decode cX2_startsNumber 26 = .ok (.invokevirtual 50, 3) := by decide +kernel
theorem dX2_startsNumber_29 : decode cX2_startsNumber 29 = .ok (.ireturn, 1) := by decide +kernel
theorem dX2_addsFigure_0 : decode cX2_addsFigure 0 = .ok (.aload_n 0, 1) := by decide +kernel
theorem dX2_addsFigure_1 : decode cX2_addsFigure 1 = .ok (.getfield 37, 3) := by decide +kernel
theorem dX2_addsFigure_4 : decode cX2_addsFigure 4 = .ok (.iconst 3, 1) := by decide +kernel
theorem dX2_addsFigure_5 : decode cX2_addsFigure 5 = .ok (.if_icmp .lt 5, 3) := by decide +kernel
theorem dX2_addsFigure_8 : decode cX2_addsFigure 8 = .ok (.iconst 0, 1) := by decide +kernel
theorem dX2_addsFigure_9 : decode cX2_addsFigure 9 = .ok (.ireturn, 1) := by decide +kernel
theorem dX2_addsFigure_10 : decode cX2_addsFigure 10 = .ok (.aload_n 0, 1) := by decide +kernel
theorem dX2_addsFigure_11 : decode cX2_addsFigure 11 = .ok (.bipush 10, 2) := by decide +kernel
theorem dX2_addsFigure_13 : decode cX2_addsFigure 13 = .ok (.aload_n 0, 1) := by decide +kernel
theorem dX2_addsFigure_14 : decode cX2_addsFigure 14 = .ok (.getfield 40, 3) := by decide +kernel
theorem dX2_addsFigure_17 : decode cX2_addsFigure 17 = .ok (.imul, 1) := by decide +kernel
theorem dX2_addsFigure_18 : decode cX2_addsFigure 18 = .ok (.iload_n 1, 1) := by decide +kernel
theorem dX2_addsFigure_19 : decode cX2_addsFigure 19 = .ok (.bipush 48, 2) := by decide +kernel
theorem dX2_addsFigure_21 : decode cX2_addsFigure 21 = .ok (.isub, 1) := by decide +kernel
theorem dX2_addsFigure_22 : decode cX2_addsFigure 22 = .ok (.iadd, 1) := by decide +kernel
theorem dX2_addsFigure_23 : decode cX2_addsFigure 23 = .ok (.putfield 40, 3) := by decide +kernel
theorem dX2_addsFigure_26 : decode cX2_addsFigure 26 = .ok (.aload_n 0, 1) := by decide +kernel
theorem dX2_addsFigure_27 : decode cX2_addsFigure 27 = .ok (.dup, 1) := by decide +kernel
theorem dX2_addsFigure_28 : decode cX2_addsFigure 28 = .ok (.getfield 37, 3) := by decide +kernel
theorem dX2_addsFigure_31 : decode cX2_addsFigure 31 = .ok (.iconst 1, 1) := by decide +kernel
theorem dX2_addsFigure_32 : decode cX2_addsFigure 32 = .ok (.iadd, 1) := by decide +kernel
theorem dX2_addsFigure_33 : decode cX2_addsFigure 33 = .ok (.putfield 37, 3) := by decide +kernel
theorem dX2_addsFigure_36 : decode cX2_addsFigure 36 = .ok (.iconst 1, 1) := by decide +kernel
theorem dX2_addsFigure_37 : decode cX2_addsFigure 37 = .ok (.ireturn, 1) := by decide +kernel
set_option maxRecDepth 20000 in
theorem ggX2_endNumber_X2_numbersOf : GoodIn wsX2_endNumber wsX2_numbersOf := goodIn_r _ [11] (by decide +kernel) (by decide +kernel)
set_option maxRecDepth 20000 in
theorem gX2_endNumber_X2_numbersOf : GoodIn wsX2_endNumber (va_wsS RX2 65 yX2_numbersOf wsX2_numbersOf) := goodIn_app (goodIn_of _ (by decide +kernel)) ggX2_endNumber_X2_numbersOf
theorem dX2_endNumber_0 : decode cX2_endNumber 0 = .ok (.aload_n 0, 1) := by decide +kernel
theorem dX2_endNumber_1 : decode cX2_endNumber 1 = .ok (.getfield 34, 3) := by decide +kernel
theorem dX2_endNumber_4 : decode cX2_endNumber 4 = .ok (.ifCond .ne 19, 3) := by decide +kernel
theorem dX2_endNumber_7 : decode cX2_endNumber 7 = .ok (.aload_n 0, 1) := by decide +kernel
theorem dX2_endNumber_8 : decode cX2_endNumber 8 = .ok (.getfield 22, 3) := by decide +kernel
theorem dX2_endNumber_11 : decode cX2_endNumber 11 = .ok (.aload_n 0, 1) := by decide +kernel
theorem dX2_endNumber_12 : decode cX2_endNumber 12 = .ok (.getfield 28, 3) := by decide +kernel
theorem dX2_endNumber_15 : decode cX2_endNumber 15 = .ok (.aload_n 0, 1) := by decide +kernel
theorem dX2_endNumber_16 : decode cX2_endNumber 16 = .ok (.getfield 40, 3) := by decide +kernel
theorem dX2_endNumber_19 : decode cX2_endNumber 19 = .ok (.iastore, 1) := by decide +kernel
theorem dX2_endNumber_20 : decode cX2_endNumber 20 = .ok (.goto 16, 3) := by decide +kernel
theorem dX2_endNumber_23 : decode cX2_endNumber 23 = .ok (.aload_n 0, 1) := by decide +kernel
theorem dX2_endNumber_24 : decode cX2_endNumber 24 = .ok (.getfield 25, 3) := by decide +kernel
theorem dX2_endNumber_27 : decode cX2_endNumber 27 = .ok (.aload_n 0, 1) := by decide +kernel
theorem dX2_endNumber_28 : decode cX2_endNumber 28 = .ok (.getfield 28, 3) := by decide +kernel
theorem dX2_endNumber_31 : decode cX2_endNumber 31 = .ok (.aload_n 0, 1) := by decide +kernel
theorem dX2_endNumber_32 : decode cX2_endNumber 32 = .ok (.getfield 40, 3) := by decide +kernel
theorem dX2_endNumber_35 : decode cX2_endNumber 35 = .ok (.iastore, 1) := by decide +kernel
theorem dX2_endNumber_36 : decode cX2_endNumber 36 = .ok (.aload_n 0, 1) := by decide +kernel
theorem dX2_endNumber_37 : decode cX2_endNumber 37 = .ok (.dup, 1) := by decide +kernel
theorem dX2_endNumber_38 : decode cX2_endNumber 38 = .ok (.getfield 34, 3) := by decide +kernel
theorem dX2_endNumber_41 : decode cX2_endNumber 41 = .ok (.iconst 1, 1) := by decide +kernel
theorem dX2_endNumber_42 : decode cX2_endNumber 42 = .ok (.iadd, 1) := by decide +kernel
theorem dX2_endNumber_43 : decode cX2_endNumber 43 = .ok (.putfield 34, 3) := by decide +kernel
theorem dX2_endNumber_46 : decode cX2_endNumber 46 = .ok (.aload_n 0, 1) := by decide +kernel
theorem dX2_endNumber_47 : decode cX2_endNumber 47 = .ok (.aload_n 0, 1) := by decide +kernel
theorem dX2_endNumber_48 : decode cX2_endNumber 48 = .ok (.getfield 34, 3) := by decide +kernel
theorem dX2_endNumber_51 : decode cX2_endNumber 51 = .ok (.aload_n 0, 1) := by decide +kernel
theorem dX2_endNumber_52 : decode cX2_endNumber 52 = .ok (.getfield 19, 3) := by decide +kernel
theorem dX2_endNumber_55 : decode cX2_endNumber 55 = .ok (.aload_n 0, 1) := by decide +kernel
theorem dX2_endNumber_56 : decode cX2_endNumber 56 = .ok (.getfield 28, 3) := by decide +kernel
theorem dX2_endNumber_59 : decode cX2_endNumber 59 = .ok (.iaload, 1) := by decide +kernel
theorem dX2_endNumber_60 : decode cX2_endNumber 60 = .ok (.invokestatic 65, 3) := by decide +kernel
theorem dX2_endNumber_63 : decode cX2_endNumber 63 = .ok (.if_icmp .ge 7, 3) := by decide +kernel
theorem dX2_endNumber_66 : decode cX2_endNumber 66 = .ok (.iconst 1, 1) := by decide +kernel
theorem dX2_endNumber_67 : decode cX2_endNumber 67 = .ok (.goto 4, 3) := by decide +kernel
theorem dX2_endNumber_70 : decode cX2_endNumber 70 = .ok (.iconst 3, 1) := by decide +kernel
theorem dX2_endNumber_71 : decode cX2_endNumber 71 = .ok (.putfield 31, 3) := by decide +kernel
theorem dX2_endNumber_74 : decode cX2_endNumber 74 = .ok (.return_, 1) := by decide +kernel
theorem dX2_endsOrder_0 : decode cX2_endsOrder 0 = .ok (.iload_n 1, 1) := by decide +kernel
theorem dX2_endsOrder_1 : decode cX2_endsOrder 1 = .ok (.bipush 59, 2) := by decide +kernel
theorem dX2_endsOrder_3 : decode cX2_endsOrder 3 = .ok (.if_icmp .eq 5, 3) := by decide +kernel
theorem dX2_endsOrder_6 : decode cX2_endsOrder 6 = .ok (.iconst 0, 1) := by decide +kernel
theorem dX2_endsOrder_7 : decode cX2_endsOrder 7 = .ok (.ireturn, 1) := by decide +kernel
theorem dX2_endsOrder_8 : decode cX2_endsOrder 8 = .ok (.aload_n 0, 1) := by decide +kernel
theorem dX2_endsOrder_9 : decode cX2_endsOrder 9 = .ok (.dup, 1) := by decide +kernel
theorem dX2_endsOrder_10 : decode cX2_endsOrder 10 = .ok (.getfield 28, 3) := by decide +kernel
theorem dX2_endsOrder_13 : decode cX2_endsOrder 13 = .ok (.iconst 1, 1) := by decide +kernel
theorem dX2_endsOrder_14 : decode cX2_endsOrder 14 = .ok (.iadd, 1) := by decide +kernel
theorem dX2_endsOrder_15 : decode cX2_endsOrder 15 = .ok (.putfield 28, 3) := by decide +kernel
theorem dX2_endsOrder_18 : decode cX2_endsOrder 18 = .ok (.aload_n 0, 1) := by decide +kernel
theorem dX2_endsOrder_19 : decode cX2_endsOrder 19 = .ok (.iconst 0, 1) := by decide +kernel
theorem dX2_endsOrder_20 : decode cX2_endsOrder 20 = .ok (.putfield 31, 3) := by decide +kernel
theorem dX2_endsOrder_23 : decode cX2_endsOrder 23 = .ok (.iconst 1, 1) := by decide +kernel
theorem dX2_endsOrder_24 : decode cX2_endsOrder 24 = .ok (.ireturn, 1) := by decide +kernel
theorem dX2_isFigure_0 : decode cX2_isFigure 0 = .ok (.iload_n 0, 1) := by decide +kernel
theorem dX2_isFigure_1 : decode cX2_isFigure 1 = .ok (.bipush 48, 2) := by decide +kernel
theorem dX2_isFigure_3 : decode cX2_isFigure 3 = .ok (.if_icmp .lt 13, 3) := by decide +kernel
theorem dX2_isFigure_6 : decode cX2_isFigure 6 = .ok (.iload_n 0, 1) := by decide +kernel
theorem dX2_isFigure_7 : decode cX2_isFigure 7 = .ok (.bipush 57, 2) := by decide +kernel
theorem dX2_isFigure_9 : decode cX2_isFigure 9 = .ok (.if_icmp .gt 7, 3) := by decide +kernel
theorem dX2_isFigure_12 : decode cX2_isFigure 12 = .ok (.iconst 1, 1) := by decide +kernel
theorem dX2_isFigure_13 : decode cX2_isFigure 13 = .ok (.goto 4, 3) := by decide +kernel
theorem dX2_isFigure_16 : decode cX2_isFigure 16 = .ok (.iconst 0, 1) := by decide +kernel
theorem dX2_isFigure_17 : decode cX2_isFigure 17 = .ok (.ireturn, 1) := by decide +kernel
theorem dX2_numbersOf_0 : decode cX2_numbersOf 0 = .ok (.iload_n 0, 1) := by decide +kernel
theorem dX2_numbersOf_1 : decode cX2_numbersOf 1 = .ok (.tableswitch 99 100 119 #[97, 97, 99, 97, 95, 99, 99, 97, 99, 99, 99, 99, 99, 99, 99, 99, 99, 99, 99, 95], 95) := by decide +kernel
theorem dX2_numbersOf_96 : decode cX2_numbersOf 96 = .ok (.iconst 2, 1) := by decide +kernel
theorem dX2_numbersOf_97 : decode cX2_numbersOf 97 = .ok (.ireturn, 1) := by decide +kernel
theorem dX2_numbersOf_98 : decode cX2_numbersOf 98 = .ok (.iconst 1, 1) := by decide +kernel
theorem dX2_numbersOf_99 : decode cX2_numbersOf 99 = .ok (.ireturn, 1) := by decide +kernel
theorem dX2_numbersOf_100 : decode cX2_numbersOf 100 = .ok (.iconst 0, 1) := by decide +kernel
theorem dX2_numbersOf_101 : decode cX2_numbersOf 101 = .ok (.ireturn, 1) := by decide +kernel
theorem dX3_init_0 : decode cX3_init 0 = .ok (.aload_n 0, 1) := by decide +kernel
theorem dX3_init_1 : decode cX3_init 1 = .ok (.invokespecial 3, 3) := by decide +kernel
theorem dX3_init_4 : decode cX3_init 4 = .ok (.aload_n 0, 1) := by decide +kernel
theorem dX3_init_5 : decode cX3_init 5 = .ok (.bipush 6, 2) := by decide +kernel
theorem dX3_init_7 : decode cX3_init 7 = .ok (.newarray .int, 2) := by decide +kernel
theorem dX3_init_9 : decode cX3_init 9 = .ok (.putfield 9, 3) := by decide +kernel
theorem dX3_init_12 : decode cX3_init 12 = .ok (.aload_n 0, 1) := by decide +kernel
theorem dX3_init_13 : decode cX3_init 13 = .ok (.bipush 6, 2) := by decide +kernel
theorem dX3_init_15 : decode cX3_init 15 = .ok (.newarray .int, 2) := by decide +kernel
theorem dX3_init_17 : decode cX3_init 17 = .ok (.putfield 15, 3) := by decide +kernel
theorem dX3_init_20 : decode cX3_init 20 = .ok (.aload_n 0, 1) := by decide +kernel
theorem dX3_init_21 : decode cX3_init 21 = .ok (.bipush 40, 2) := by decide +kernel
theorem dX3_init_23 : decode cX3_init 23 = .ok (.newarray .int, 2) := by decide +kernel
theorem dX3_init_25 : decode cX3_init 25 = .ok (.putfield 18, 3) := by decide +kernel
theorem dX3_init_28 : decode cX3_init 28 = .ok (.aload_n 0, 1) := by decide +kernel
theorem dX3_init_29 : decode cX3_init 29 = .ok (.iconst 0, 1) := by decide +kernel
theorem dX3_init_30 : decode cX3_init 30 = .ok (.putfield 21, 3) := by decide +kernel
theorem dX3_init_33 : decode cX3_init 33 = .ok (.aload_n 0, 1) := by decide +kernel
theorem dX3_init_34 : decode cX3_init 34 = .ok (.iconst 0, 1) := by decide +kernel
theorem dX3_init_35 : decode cX3_init 35 = .ok (.putfield 25, 3) := by decide +kernel
theorem dX3_init_38 : decode cX3_init 38 = .ok (.aload_n 0, 1) := by decide +kernel
theorem dX3_init_39 : decode cX3_init 39 = .ok (.bipush 25, 2) := by decide +kernel
theorem dX3_init_41 : decode cX3_init 41 = .ok (.putfield 28, 3) := by decide +kernel
theorem dX3_init_44 : decode cX3_init 44 = .ok (.aload_n 0, 1) := by decide +kernel
theorem dX3_init_45 : decode cX3_init 45 = .ok (.iconst 0, 1) := by decide +kernel
theorem dX3_init_46 : decode cX3_init 46 = .ok (.putfield 31, 3) := by decide +kernel
theorem dX3_init_49 : decode cX3_init 49 = .ok (.return_, 1) := by decide +kernel
theorem dX3_copyFrom_0 : decode cX3_copyFrom 0 = .ok (.aload_n 1, 1) := by decide +kernel
theorem dX3_copyFrom_1 : decode cX3_copyFrom 1 = .ok (.getfield 9, 3) := by decide +kernel
theorem dX3_copyFrom_4 : decode cX3_copyFrom 4 = .ok (.iconst 0, 1) := by decide +kernel
theorem dX3_copyFrom_5 : decode cX3_copyFrom 5 = .ok (.aload_n 0, 1) := by decide +kernel
theorem dX3_copyFrom_6 : decode cX3_copyFrom 6 = .ok (.getfield 9, 3) := by decide +kernel
theorem dX3_copyFrom_9 : decode cX3_copyFrom 9 = .ok (.iconst 0, 1) := by decide +kernel
theorem dX3_copyFrom_10 : decode cX3_copyFrom 10 = .ok (.bipush 6, 2) := by decide +kernel
theorem dX3_copyFrom_12 : decode cX3_copyFrom 12 = .ok (.invokestatic 34, 3) := by decide +kernel
theorem dX3_copyFrom_15 : decode cX3_copyFrom 15 = .ok (.aload_n 1, 1) := by decide +kernel
theorem dX3_copyFrom_16 : decode cX3_copyFrom 16 = .ok (.getfield 15, 3) := by decide +kernel
theorem dX3_copyFrom_19 : decode cX3_copyFrom 19 = .ok (.iconst 0, 1) := by decide +kernel
theorem dX3_copyFrom_20 : decode cX3_copyFrom 20 = .ok (.aload_n 0, 1) := by decide +kernel
theorem dX3_copyFrom_21 : decode cX3_copyFrom 21 = .ok (.getfield 15, 3) := by decide +kernel
theorem dX3_copyFrom_24 : decode cX3_copyFrom 24 = .ok (.iconst 0, 1) := by decide +kernel
theorem dX3_copyFrom_25 : decode cX3_copyFrom 25 = .ok (.bipush 6, 2) := by decide +kernel
theorem dX3_copyFrom_27 : decode cX3_copyFrom 27 = .ok (.invokestatic 34, 3) := by decide +kernel
theorem dX3_copyFrom_30 : decode cX3_copyFrom 30 = .ok (.aload_n 1, 1) := by decide +kernel
theorem dX3_copyFrom_31 : decode cX3_copyFrom 31 = .ok (.getfield 18, 3) := by decide +kernel
theorem dX3_copyFrom_34 : decode cX3_copyFrom 34 = .ok (.iconst 0, 1) := by decide +kernel
theorem dX3_copyFrom_35 : decode cX3_copyFrom 35 = .ok (.aload_n 0, 1) := by decide +kernel
theorem dX3_copyFrom_36 : decode cX3_copyFrom 36 = .ok (.getfield 18, 3) := by decide +kernel
theorem dX3_copyFrom_39 : decode cX3_copyFrom 39 = .ok (.iconst 0, 1) := by decide +kernel
theorem dX3_copyFrom_40 : decode cX3_copyFrom 40 = .ok (.bipush 40, 2) := by decide +kernel
theorem dX3_copyFrom_42 : decode cX3_copyFrom 42 = .ok (.invokestatic 34, 3) := by decide +kernel
theorem dX3_copyFrom_45 : decode cX3_copyFrom 45 = .ok (.aload_n 0, 1) := by decide +kernel
theorem dX3_copyFrom_46 : decode cX3_copyFrom 46 = .ok (.aload_n 1, 1) := by decide +kernel
theorem dX3_copyFrom_47 : decode cX3_copyFrom 47 = .ok (.getfield 21, 3) := by decide +kernel
theorem dX3_copyFrom_50 : decode cX3_copyFrom 50 = .ok (.putfield 21, 3) := by decide +kernel
theorem dX3_copyFrom_53 : decode cX3_copyFrom 53 = .ok (.aload_n 0, 1) := by decide +kernel
theorem dX3_copyFrom_54 : decode cX3_copyFrom 54 = .ok (.aload_n 1, 1) := by decide +kernel
theorem dX3_copyFrom_55 : decode cX3_copyFrom 55 = .ok (.getfield 25, 3) := by decide +kernel
theorem dX3_copyFrom_58 : decode cX3_copyFrom 58 = .ok (.putfield 25, 3) := by decide +kernel
theorem dX3_copyFrom_61 : decode cX3_copyFrom 61 = .ok (.aload_n 0, 1) := by decide +kernel
theorem dX3_copyFrom_62 : decode cX3_copyFrom 62 = .ok (.aload_n 1, 1) := by decide +kernel
theorem dX3_copyFrom_63 : decode cX3_copyFrom 63 = .ok (.getfield 28, 3) := by decide +kernel
theorem dX3_copyFrom_66 : decode cX3_copyFrom 66 = .ok (.putfield 28, 3) := by decide +kernel
theorem dX3_copyFrom_69 : decode cX3_copyFrom 69 = .ok (.aload_n 0, 1) := by decide +kernel
theorem dX3_copyFrom_70 : decode cX3_copyFrom 70 = .ok (.aload_n 1, 1) := by decide +kernel
theorem dX3_copyFrom_71 : decode cX3_copyFrom 71 = .ok (.getfield 31, 3) := by decide +kernel
theorem dX3_copyFrom_74 : decode cX3_copyFrom 74 = .ok (.putfield 31, 3) := by decide +kernel
theorem dX3_copyFrom_77 : decode cX3_copyFrom 77 = .ok (.return_, 1) := by decide +kernel
theorem dX3_findHost_0 : decode cX3_findHost 0 = .ok (.iconst 0, 1) := by decide +kernel
theorem dX3_findHost_1 : decode cX3_findHost 1 = .ok (.istore_n 2, 1) := by decide +kernel
theorem dX3_findHost_2 : decode cX3_findHost 2 = .ok (.iload_n 2, 1) := by decide +kernel
theorem dX3_findHost_3 : decode cX3_findHost 3 = .ok (.aload_n 0, 1) := by decide +kernel
theorem dX3_findHost_4 : decode cX3_findHost 4 = .ok (.getfield 21, 3) := by decide +kernel
theorem dX3_findHost_7 : decode cX3_findHost 7 = .ok (.if_icmp .ge 21, 3) := by decide +kernel
theorem dX3_findHost_10 : decode cX3_findHost 10 = .ok (.aload_n 0, 1) := by decide +kernel
theorem dX3_findHost_11 : decode cX3_findHost 11 = .ok (.getfield 9, 3) := by decide +kernel
theorem dX3_findHost_14 : decode cX3_findHost 14 = .ok (.iload_n 2, 1) := by decide +kernel
theorem dX3_findHost_15 : decode cX3_findHost 15 = .ok (.iaload, 1) := by decide +kernel
theorem dX3_findHost_16 : decode cX3_findHost 16 = .ok (.iload_n 1, 1) := by decide +kernel
theorem dX3_findHost_17 : decode cX3_findHost 17 = .ok (.if_icmp .ne 5, 3) := by decide +kernel
theorem dX3_findHost_20 : decode cX3_findHost 20 = .ok (.iload_n 2, 1) := by decide +kernel
theorem dX3_findHost_21 : decode cX3_findHost 21 = .ok (.ireturn, 1) := by decide +kernel
theorem dX3_findHost_22 : decode cX3_findHost 22 = .ok (.iinc 2 1, 3) := by decide +kernel
theorem dX3_findHost_25 : decode cX3_findHost 25 = .ok (.goto (-23), 3) := by decide +kernel
theorem dX3_findHost_28 : decode cX3_findHost 28 = .ok (.iconst (-1), 1) := by decide +kernel
theorem dX3_findHost_29 : decode cX3_findHost 29 = .ok (.ireturn, 1) := by decide +kernel
theorem dX3_findKey_0 : decode cX3_findKey 0 = .ok (.iconst 0, 1) := by decide +kernel
theorem dX3_findKey_1 : decode cX3_findKey 1 = .ok (.istore_n 2, 1) := by decide +kernel
theorem dX3_findKey_2 : decode cX3_findKey 2 = .ok (.iload_n 2, 1) := by decide +kernel
theorem dX3_findKey_3 : decode cX3_findKey 3 = .ok (.aload_n 0, 1) := by decide +kernel
theorem dX3_findKey_4 : decode cX3_findKey 4 = .ok (.getfield 25, 3) := by decide +kernel
theorem dX3_findKey_7 : decode cX3_findKey 7 = .ok (.if_icmp .ge 21, 3) := by decide +kernel
theorem dX3_findKey_10 : decode cX3_findKey 10 = .ok (.aload_n 0, 1) := by decide +kernel
theorem dX3_findKey_11 : decode cX3_findKey 11 = .ok (.getfield 18, 3) := by decide +kernel
theorem dX3_findKey_14 : decode cX3_findKey 14 = .ok (.iload_n 2, 1) := by decide +kernel
theorem dX3_findKey_15 : decode cX3_findKey 15 = .ok (.iaload, 1) := by decide +kernel
theorem dX3_findKey_16 : decode cX3_findKey 16 = .ok (.iload_n 1, 1) := by decide +kernel
theorem dX3_findKey_17 : decode cX3_findKey 17 = .ok (.if_icmp .ne 5, 3) := by decide +kernel
theorem dX3_findKey_20 : decode cX3_findKey 20 = .ok (.iload_n 2, 1) := by decide +kernel
theorem dX3_findKey_21 : decode cX3_findKey 21 = .ok (.ireturn, 1) := by decide +kernel
theorem dX3_findKey_22 : decode cX3_findKey 22 = .ok (.iinc 2 1, 3) := by decide +kernel
theorem dX3_findKey_25 : decode cX3_findKey 25 = .ok (.goto (-23), 3) := by decide +kernel
theorem dX3_findKey_28 : decode cX3_findKey 28 = .ok (.iconst (-1), 1) := by decide +kernel
theorem dX3_findKey_29 : decode cX3_findKey 29 = .ok (.ireturn, 1) := by decide +kernel
theorem dX3_nameOf_0 : decode cX3_nameOf 0 = .ok (.iload_n 1, 1) := by decide +kernel
theorem dX3_nameOf_1 : decode cX3_nameOf 1 = .ok (.ifCond .lt 20, 3) := by decide +kernel
theorem dX3_nameOf_4 : decode cX3_nameOf 4 = .ok (.iload_n 1, 1) := by decide +kernel
theorem dX3_nameOf_5 : decode cX3_nameOf 5 = .ok (.aload_n 0, 1) := by decide +kernel
theorem dX3_nameOf_6 : decode cX3_nameOf 6 = .ok (.getfield 21, 3) := by decide +kernel
theorem dX3_nameOf_9 : decode cX3_nameOf 9 = .ok (.if_icmp .ge 12, 3) := by decide +kernel
theorem dX3_nameOf_12 : decode cX3_nameOf 12 = .ok (.aload_n 0, 1) := by decide +kernel
theorem dX3_nameOf_13 : decode cX3_nameOf 13 = .ok (.getfield 9, 3) := by decide +kernel
theorem dX3_nameOf_16 : decode cX3_nameOf 16 = .ok (.iload_n 1, 1) := by decide +kernel
theorem dX3_nameOf_17 : decode cX3_nameOf 17 = .ok (.iaload, 1) := by decide +kernel
theorem dX3_nameOf_18 : decode cX3_nameOf 18 = .ok (.goto 4, 3) := by decide +kernel
theorem dX3_nameOf_21 : decode cX3_nameOf 21 = .ok (.iconst (-1), 1) := by decide +kernel
theorem dX3_nameOf_22 : decode cX3_nameOf 22 = .ok (.ireturn, 1) := by decide +kernel
theorem dX3_allWeights_0 : decode cX3_allWeights 0 = .ok (.iconst 0, 1) := by decide +kernel
theorem dX3_allWeights_1 : decode cX3_allWeights 1 = .ok (.istore_n 1, 1) := by decide +kernel
theorem dX3_allWeights_2 : decode cX3_allWeights 2 = .ok (.iconst 0, 1) := by decide +kernel
theorem dX3_allWeights_3 : decode cX3_allWeights 3 = .ok (.istore_n 2, 1) := by decide +kernel
theorem dX3_allWeights_4 : decode cX3_allWeights 4 = .ok (.iload_n 2, 1) := by decide +kernel
theorem dX3_allWeights_5 : decode cX3_allWeights 5 = .ok (.aload_n 0, 1) := by decide +kernel
theorem dX3_allWeights_6 : decode cX3_allWeights 6 = .ok (.getfield 21, 3) := by decide +kernel
theorem dX3_allWeights_9 : decode cX3_allWeights 9 = .ok (.if_icmp .ge 18, 3) := by decide +kernel
theorem dX3_allWeights_12 : decode cX3_allWeights 12 = .ok (.iload_n 1, 1) := by decide +kernel
theorem dX3_allWeights_13 : decode cX3_allWeights 13 = .ok (.aload_n 0, 1) := by decide +kernel
theorem dX3_allWeights_14 : decode cX3_allWeights 14 = .ok (.getfield 15, 3) := by decide +kernel
theorem dX3_allWeights_17 : decode cX3_allWeights 17 = .ok (.iload_n 2, 1) := by decide +kernel
theorem dX3_allWeights_18 : decode cX3_allWeights 18 = .ok (.iaload, 1) := by decide +kernel
theorem dX3_allWeights_19 : decode cX3_allWeights 19 = .ok (.iadd, 1) := by decide +kernel
theorem dX3_allWeights_20 : decode cX3_allWeights 20 = .ok (.istore_n 1, 1) := by decide +kernel
theorem dX3_allWeights_21 : decode cX3_allWeights 21 = .ok (.iinc 2 1, 3) := by decide +kernel
theorem dX3_allWeights_24 : decode cX3_allWeights 24 = .ok (.goto (-20), 3) := by decide +kernel
theorem dX3_allWeights_27 : decode cX3_allWeights 27 = .ok (.iload_n 1, 1) := by decide +kernel
theorem dX3_allWeights_28 : decode cX3_allWeights 28 = .ok (.ireturn, 1) := by decide +kernel
set_option maxRecDepth 20000 in
theorem ggX3_take_X3_addHost : GoodIn wsX3_take wsX3_addHost := goodIn_r _ [5, 6, 7, 8, 9, 10, 11, 12, 13, 14, 15, 16, 4, 17, 47, 48, 49, 50, 51, 52, 53] (by decide +kernel) (by decide +kernel)
set_option maxRecDepth 20000 in
theorem gX3_take_X3_addHost : GoodIn wsX3_take (wsV RX3 40 RX3 yX3_addHost wsX3_addHost) := goodIn_app (goodIn_of _ (by decide +kernel)) ggX3_take_X3_addHost
set_option maxRecDepth 20000 in
theorem ggX3_take_X3_weighAnew : GoodIn wsX3_take wsX3_weighAnew := goodIn_r _ [21, 8, 9, 10, 11, 12, 13, 14, 15, 16, 4, 17, 6, 7, 47, 48, 49, 50, 51, 52, 53] (by decide +kernel) (by decide +kernel)
set_option maxRecDepth 20000 in
theorem gX3_take_X3_weighAnew : GoodIn wsX3_take (wsV RX3 44 RX3 yX3_weighAnew wsX3_weighAnew) := goodIn_app (goodIn_of _ (by decide +kernel)) ggX3_take_X3_weighAnew
set_option maxRecDepth 20000 in
theorem ggX3_take_X3_removeHost : GoodIn wsX3_take wsX3_removeHost := goodIn_r _ [25, 6, 7, 8, 9, 10, 11, 14, 15, 16, 4, 17, 47, 48, 49, 50, 51, 52, 53] (by decide +kernel) (by decide +kernel)
set_option maxRecDepth 20000 in
theorem gX3_take_X3_removeHost : GoodIn wsX3_take (wsV RX3 47 RX3 yX3_removeHost wsX3_removeHost) := goodIn_app (goodIn_of _ (by decide +kernel)) ggX3_take_X3_removeHost
set_option maxRecDepth 20000 in
theorem ggX3_take_X3_addKey : GoodIn wsX3_take wsX3_addKey := goodIn_r _ [29, 30, 31, 32, 10, 33, 34, 35, 36, 4, 37, 47, 48, 49, 50, 51, 52, 53] (by decide +kernel) (by decide +kernel)
set_option maxRecDepth 20000 in
theorem gX3_take_X3_addKey : GoodIn wsX3_take (wsV RX3 51 RX3 yX3_addKey wsX3_addKey) := goodIn_app (goodIn_of _ (by decide +kernel)) ggX3_take_X3_addKey
set_option maxRecDepth 20000 in
theorem ggX3_take_X3_removeKey : GoodIn wsX3_take wsX3_removeKey := goodIn_r _ [41, 30, 31, 32, 10, 33, 34, 35, 36, 4, 37, 47, 48, 49, 50, 51, 52, 53] (by decide +kernel) (by decide +kernel)
set_option maxRecDepth 20000 in
theorem gX3_take_X3_removeKey : GoodIn wsX3_take (wsV RX3 54 RX3 yX3_removeKey wsX3_removeKey) := goodIn_app (goodIn_of _ (by decide +kernel)) ggX3_take_X3_removeKey
set_option maxRecDepth 20000 in
theorem ggX3_take_X3_changeExtra : GoodIn wsX3_take wsX3_changeExtra := goodIn_r _ [45, 46, 47, 48, 49, 50, 51, 52, 53] (by decide +kernel) (by decide +kernel)
set_option maxRecDepth 20000 in
theorem gX3_take_X3_changeExtra : GoodIn wsX3_take (wsV RX3 57 RX3 yX3_changeExtra wsX3_changeExtra) := goodIn_app (goodIn_of _ (by decide +kernel)) ggX3_take_X3_changeExtra
theorem dX3_take_0 : decode cX3_take 0 = .ok (.iload_n 1, 1) := by decide +kernel
theorem dX3_take_1 : decode cX3_take 1 = .ok (.lookupswitch 83 #[(100, 77), (103, 65), (104, 51), (107, 71), (119, 58)], 51) := by decide +kernel
theorem dX3_take_52 : decode cX3_take 52 = .ok (.aload_n 0, 1) := by decide +kernel
theorem dX3_take_53 : decode cX3_take 53 = .ok (.iload_n 2, 1) := by decide +kernel
theorem dX3_take_54 : decode cX3_take 54 = .ok (.iload_n 3, 1) := by decide +kernel
theorem dX3_take_55 : decode cX3_take 55 = .ok (.invokevirtual 40, 3) := by decide +kernel
theorem dX3_take_58 : decode cX3_take 58 = .ok (.ireturn, 1) := by decide +kernel
theorem dX3_take_59 : decode cX3_take 59 = .ok (.aload_n 0, 1) := by decide +kernel
theorem dX3_take_60 : decode cX3_take 60 = .ok (.iload_n 2, 1) := by decide +kernel
theorem dX3_take_61 : decode cX3_take 61 = .ok (.iload_n 3, 1) := by decide +kernel
theorem dX3_take_62 : decode cX3_take 62 = .ok (.invokevirtual 44, 3) := by decide +kernel
theorem dX3_take_65 : decode cX3_take 65 = .ok (.ireturn, 1) := by decide +kernel
theorem dX3_take_66 : decode cX3_take 66 = .ok (.aload_n 0, 1) := by decide +kernel
theorem dX3_take_67 : decode cX3_take 67 = .ok (.iload_n 2, 1) := by decide +kernel
theorem dX3_take_68 : decode cX3_take 68 = .ok (.invokevirtual 47, 3) := by decide +kernel
theorem dX3_take_71 : decode cX3_take 71 = .ok (.ireturn, 1) := by decide +kernel
theorem dX3_take_72 : decode cX3_take 72 = .ok (.aload_n 0, 1) := by decide +kernel
theorem dX3_take_73 : decode cX3_take 73 = .ok (.iload_n 2, 1) := by decide +kernel
theorem dX3_take_74 : decode cX3_take 74 = .ok (.invokevirtual 51, 3) := by decide +kernel
theorem dX3_take_77 : decode cX3_take 77 = .ok (.ireturn, 1) := by decide +kernel
theorem dX3_take_78 : decode cX3_take 78 = .ok (.aload_n 0, 1) := by decide +kernel
theorem dX3_take_79 : decode cX3_take 79 = .ok (.iload_n 2, 1) := by decide +kernel
theorem dX3_take_80 : decode cX3_take 80 = .ok (.invokevirtual 54, 3) := by decide +kernel
theorem dX3_take_83 : decode cX3_take 83 = .ok (.ireturn, 1) := by decide +kernel
theorem dX3_take_84 : decode cX3_take 84 = .ok (.aload_n 0, 1) := by decide +kernel
theorem dX3_take_85 : decode cX3_take 85 = .ok (.iload_n 2, 1) := by decide +kernel
theorem dX3_take_86 : decode cX3_take 86 = .ok (.invokevirtual 57, 3) := by decide +kernel
theorem dX3_take_89 : decode cX3_take 89 = .ok (.ireturn, 1) := by decide +kernel
set_option maxRecDepth 20000 in
theorem ggX3_addHost_X4_isName : GoodIn wsX3_addHost wsX4_isName := goodIn_r _ [6] (by decide +kernel) (by decide +kernel)
set_option maxRecDepth 20000 in
theorem gX3_addHost_X4_isName_n60 : GoodIn wsX3_addHost (wsX4_isName) := ggX3_addHost_X4_isName
set_option maxRecDepth 20000 in
theorem ggX3_addHost_X4_isWeight : GoodIn wsX3_addHost wsX4_isWeight := goodIn_r _ [8] (by decide +kernel) (by decide +kernel)
set_option maxRecDepth 20000 in
theorem gX3_addHost_X4_isWeight_n64 : GoodIn wsX3_addHost (wsX4_isWeight) := ggX3_addHost_X4_isWeight
set_option maxRecDepth 20000 in
theorem ggX3_addHost_X3_findHost : GoodIn wsX3_addHost wsX3_findHost := goodIn_r _ [13, 1, 2, 14, 15, 16, 17, 18, 19, 20] (by decide +kernel) (by decide +kernel)
set_option maxRecDepth 20000 in
theorem gX3_addHost_X3_findHost : GoodIn wsX3_addHost (wsV RX3 67 RX3 yX3_findHost wsX3_findHost) := goodIn_app (goodIn_of _ (by decide +kernel)) ggX3_addHost_X3_findHost
theorem dX3_addHost_0 : decode cX3_addHost 0 = .ok (.iload_n 1, 1) := by decide +kernel
theorem dX3_addHost_1 : decode cX3_addHost 1 = .ok (.invokestatic 60, 3) := by decide +kernel
theorem dX3_addHost_4 : decode cX3_addHost 4 = .ok (.ifCond .eq 10, 3) := by decide +kernel
theorem dX3_addHost_7 : decode cX3_addHost 7 = .ok (.iload_n 2, 1) := by decide +kernel
theorem dX3_addHost_8 : decode cX3_addHost 8 = .ok (.invokestatic 64, 3) := by decide +kernel
theorem dX3_addHost_11 : decode cX3_addHost 11 = .ok (.ifCond .ne 6, 3) := by decide +kernel
theorem dX3_addHost_14 : decode cX3_addHost 14 = .ok (.bipush (-2), 2) := by decide +kernel
theorem dX3_addHost_16 : decode cX3_addHost 16 = .ok (.ireturn, 1) := by decide +kernel
theorem dX3_addHost_17 : decode cX3_addHost 17 = .ok (.aload_n 0, 1) := by decide +kernel
theorem dX3_addHost_18 : decode cX3_addHost 18 = .ok (.iload_n 1, 1) := by decide +kernel
theorem dX3_addHost_19 : decode cX3_addHost 19 = .ok (.invokevirtual 67, 3) := by decide +kernel
theorem dX3_addHost_22 : decode cX3_addHost 22 = .ok (.ifCond .lt 6, 3) := by decide +kernel
theorem dX3_addHost_25 : decode cX3_addHost 25 = .ok (.bipush (-3), 2) := by decide +kernel
theorem dX3_addHost_27 : decode cX3_addHost 27 = .ok (.ireturn, 1) := by decide +kernel
theorem dX3_addHost_28 : decode cX3_addHost 28 = .ok (.aload_n 0, 1) := by decide +kernel
theorem dX3_addHost_29 : decode cX3_addHost 29 = .ok (.getfield 21, 3) := by decide +kernel
theorem dX3_addHost_32 : decode cX3_addHost 32 = .ok (.bipush 6, 2) := by decide +kernel
theorem dX3_addHost_34 : decode cX3_addHost 34 = .ok (.if_icmp .lt 6, 3) := by decide +kernel
theorem dX3_addHost_37 : decode cX3_addHost 37 = .ok (.bipush (-4), 2) := by decide +kernel
theorem dX3_addHost_39 : decode cX3_addHost 39 = .ok (.ireturn, 1) := by decide +kernel
theorem dX3_addHost_40 : decode cX3_addHost 40 = .ok (.aload_n 0, 1) := by decide +kernel
theorem dX3_addHost_41 : decode cX3_addHost 41 = .ok (.getfield 21, 3) := by decide +kernel
theorem dX3_addHost_44 : decode cX3_addHost 44 = .ok (.istore_n 3, 1) := by decide +kernel
theorem dX3_addHost_45 : decode cX3_addHost 45 = .ok (.iload_n 3, 1) := by decide +kernel
theorem dX3_addHost_46 : decode cX3_addHost 46 = .ok (.ifCond .le 49, 3) := by decide +kernel
theorem dX3_addHost_49 : decode cX3_addHost 49 = .ok (.aload_n 0, 1) := by decide +kernel
theorem dX3_addHost_50 : decode cX3_addHost 50 = .ok (.getfield 9, 3) := by decide +kernel
theorem dX3_addHost_53 : decode cX3_addHost 53 = .ok (.iload_n 3, 1) := by decide +kernel
theorem dX3_addHost_54 : decode cX3_addHost 54 = .ok (.iconst 1, 1) := by decide +kernel
theorem dX3_addHost_55 : decode cX3_addHost 55 = .ok (.isub, 1) := by decide +kernel
theorem dX3_addHost_56 : decode cX3_addHost 56 = .ok (.iaload, 1) := by decide +kernel
theorem dX3_addHost_57 : decode cX3_addHost 57 = .ok (.iload_n 1, 1) := by decide +kernel
theorem dX3_addHost_58 : decode cX3_addHost 58 = .ok (.if_icmp .le 37, 3) := by decide +kernel
theorem dX3_addHost_61 : decode cX3_addHost 61 = .ok (.aload_n 0, 1) := by decide +kernel
theorem dX3_addHost_62 : decode cX3_addHost 62 = .ok (.getfield 9, 3) := by decide +kernel
theorem dX3_addHost_65 : decode cX3_addHost 65 = .ok (.iload_n 3, 1) := by decide +kernel
theorem dX3_addHost_66 : decode cX3_addHost 66 = .ok (.aload_n 0, 1) := by decide +kernel
theorem dX3_addHost_67 : decode cX3_addHost 67 = .ok (.getfield 9, 3) := by decide +kernel
theorem dX3_addHost_70 : decode cX3_addHost 70 = .ok (.iload_n 3, 1) := by decide +kernel
theorem dX3_addHost_71 : decode cX3_addHost 71 = .ok (.iconst 1, 1) := by decide +kernel
theorem dX3_addHost_72 : decode cX3_addHost 72 = .ok (.isub, 1) := by decide +kernel
theorem dX3_addHost_73 : decode cX3_addHost 73 = .ok (.iaload, 1) := by decide +kernel
theorem dX3_addHost_74 : decode cX3_addHost 74 = .ok (.iastore, 1) := by decide +kernel
theorem dX3_addHost_75 : decode cX3_addHost 75 = .ok (.aload_n 0, 1) := by decide +kernel
theorem dX3_addHost_76 : decode cX3_addHost 76 = .ok (.getfield 15, 3) := by decide +kernel
theorem dX3_addHost_79 : decode cX3_addHost 79 = .ok (.iload_n 3, 1) := by decide +kernel
theorem dX3_addHost_80 : decode cX3_addHost 80 = .ok (.aload_n 0, 1) := by decide +kernel
theorem dX3_addHost_81 : decode cX3_addHost 81 = .ok (.getfield 15, 3) := by decide +kernel
theorem dX3_addHost_84 : decode cX3_addHost 84 = .ok (.iload_n 3, 1) := by decide +kernel
theorem dX3_addHost_85 : decode cX3_addHost 85 = .ok (.iconst 1, 1) := by decide +kernel
theorem dX3_addHost_86 : decode cX3_addHost 86 = .ok (.isub, 1) := by decide +kernel
theorem dX3_addHost_87 : decode cX3_addHost 87 = .ok (.iaload, 1) := by decide +kernel
theorem dX3_addHost_88 : decode cX3_addHost 88 = .ok (.iastore, 1) := by decide +kernel
theorem dX3_addHost_89 : decode cX3_addHost 89 = .ok (.iinc 3 (-1), 3) := by decide +kernel
theorem dX3_addHost_92 : decode cX3_addHost 92 = .ok (.goto (-47), 3) := by decide +kernel
theorem dX3_addHost_95 : decode cX3_addHost 95 = .ok (.aload_n 0, 1) := by decide +kernel
theorem dX3_addHost_96 : decode cX3_addHost 96 = .ok (.getfield 9, 3) := by decide +kernel
theorem dX3_addHost_99 : decode cX3_addHost 99 = .ok (.iload_n 3, 1) := by decide +kernel
theorem dX3_addHost_100 : decode cX3_addHost 100 = .ok (.iload_n 1, 1) := by decide +kernel
theorem dX3_addHost_101 : decode cX3_addHost 101 = .ok (.iastore, 1) := by decide +kernel
theorem dX3_addHost_102 : decode cX3_addHost 102 = .ok (.aload_n 0, 1) := by decide +kernel
theorem dX3_addHost_103 : decode cX3_addHost 103 = .ok (.getfield 15, 3) := by decide +kernel
theorem dX3_addHost_106 : decode cX3_addHost 106 = .ok (.iload_n 3, 1) := by decide +kernel
theorem dX3_addHost_107 : decode cX3_addHost 107 = .ok (.iload_n 2, 1) := by decide +kernel
theorem dX3_addHost_108 : decode cX3_addHost 108 = .ok (.iastore, 1) := by decide +kernel
theorem dX3_addHost_109 : decode cX3_addHost 109 = .ok (.aload_n 0, 1) := by decide +kernel
theorem dX3_addHost_110 : decode cX3_addHost 110 = .ok (.dup, 1) := by decide +kernel
theorem dX3_addHost_111 : decode cX3_addHost 111 = .ok (.getfield 21, 3) := by decide +kernel
theorem dX3_addHost_114 : decode cX3_addHost 114 = .ok (.iconst 1, 1) := by decide +kernel
theorem dX3_addHost_115 : decode cX3_addHost 115 = .ok (.iadd, 1) := by decide +kernel
theorem dX3_addHost_116 : decode cX3_addHost 116 = .ok (.putfield 21, 3) := by decide +kernel
theorem dX3_addHost_119 : decode cX3_addHost 119 = .ok (.iconst 0, 1) := by decide +kernel
theorem dX3_addHost_120 : decode cX3_addHost 120 = .ok (.ireturn, 1) := by decide +kernel
set_option maxRecDepth 20000 in
theorem ggX3_weighAnew_X4_isName : GoodIn wsX3_weighAnew wsX4_isName := goodIn_r _ [4] (by decide +kernel) (by decide +kernel)
set_option maxRecDepth 20000 in
theorem gX3_weighAnew_X4_isName_n60 : GoodIn wsX3_weighAnew (wsX4_isName) := ggX3_weighAnew_X4_isName
set_option maxRecDepth 20000 in
theorem ggX3_weighAnew_X4_isWeight : GoodIn wsX3_weighAnew wsX4_isWeight := goodIn_r _ [6] (by decide +kernel) (by decide +kernel)
set_option maxRecDepth 20000 in
theorem gX3_weighAnew_X4_isWeight_n64 : GoodIn wsX3_weighAnew (wsX4_isWeight) := ggX3_weighAnew_X4_isWeight
set_option maxRecDepth 20000 in
theorem ggX3_weighAnew_X3_findHost : GoodIn wsX3_weighAnew wsX3_findHost := goodIn_r _ [11, 12, 13, 14, 15, 16, 17, 18, 19, 20] (by decide +kernel) (by decide +kernel)
set_option maxRecDepth 20000 in
theorem gX3_weighAnew_X3_findHost : GoodIn wsX3_weighAnew (wsV RX3 67 RX3 yX3_findHost wsX3_findHost) := goodIn_app (goodIn_of _ (by decide +kernel)) ggX3_weighAnew_X3_findHost
theorem dX3_weighAnew_0 : decode cX3_weighAnew 0 = .ok (.iload_n 1, 1) := by decide +kernel
theorem dX3_weighAnew_1 : decode cX3_weighAnew 1 = .ok (.invokestatic 60, 3) := by decide +kernel
theorem dX3_weighAnew_4 : decode cX3_weighAnew 4 = .ok (.ifCond .eq 10, 3) := by decide +kernel
theorem dX3_weighAnew_7 : decode cX3_weighAnew 7 = .ok (.iload_n 2, 1) := by decide +kernel
theorem dX3_weighAnew_8 : decode cX3_weighAnew 8 = .ok (.invokestatic 64, 3) := by decide +kernel
theorem dX3_weighAnew_11 : decode cX3_weighAnew 11 = .ok (.ifCond .ne 6, 3) := by decide +kernel
theorem dX3_weighAnew_14 : decode cX3_weighAnew 14 = .ok (.bipush (-2), 2) := by decide +kernel
theorem dX3_weighAnew_16 : decode cX3_weighAnew 16 = .ok (.ireturn, 1) := by decide +kernel
theorem dX3_weighAnew_17 : decode cX3_weighAnew 17 = .ok (.aload_n 0, 1) := by decide +kernel
theorem dX3_weighAnew_18 : decode cX3_weighAnew 18 = .ok (.iload_n 1, 1) := by decide +kernel
theorem dX3_weighAnew_19 : decode cX3_weighAnew 19 = .ok (.invokevirtual 67, 3) := by decide +kernel
theorem dX3_weighAnew_22 : decode cX3_weighAnew 22 = .ok (.istore_n 3, 1) := by decide +kernel
theorem dX3_weighAnew_23 : decode cX3_weighAnew 23 = .ok (.iload_n 3, 1) := by decide +kernel
theorem dX3_weighAnew_24 : decode cX3_weighAnew 24 = .ok (.ifCond .ge 6, 3) := by decide +kernel
theorem dX3_weighAnew_27 : decode cX3_weighAnew 27 = .ok (.bipush (-3), 2) := by decide +kernel
theorem dX3_weighAnew_29 : decode cX3_weighAnew 29 = .ok (.ireturn, 1) := by decide +kernel
theorem dX3_weighAnew_30 : decode cX3_weighAnew 30 = .ok (.aload_n 0, 1) := by decide +kernel
theorem dX3_weighAnew_31 : decode cX3_weighAnew 31 = .ok (.getfield 15, 3) := by decide +kernel
theorem dX3_weighAnew_34 : decode cX3_weighAnew 34 = .ok (.iload_n 3, 1) := by decide +kernel
theorem dX3_weighAnew_35 : decode cX3_weighAnew 35 = .ok (.iload_n 2, 1) := by decide +kernel
theorem dX3_weighAnew_36 : decode cX3_weighAnew 36 = .ok (.iastore, 1) := by decide +kernel
theorem dX3_weighAnew_37 : decode cX3_weighAnew 37 = .ok (.iconst 0, 1) := by decide +kernel
theorem dX3_weighAnew_38 : decode cX3_weighAnew 38 = .ok (.ireturn, 1) := by decide +kernel
set_option maxRecDepth 20000 in
theorem ggX3_removeHost_X4_isName : GoodIn wsX3_removeHost wsX4_isName := goodIn_r _ [6] (by decide +kernel) (by decide +kernel)
set_option maxRecDepth 20000 in
theorem gX3_removeHost_X4_isName_n60 : GoodIn wsX3_removeHost (wsX4_isName) := ggX3_removeHost_X4_isName
set_option maxRecDepth 20000 in
theorem ggX3_removeHost_X3_findHost : GoodIn wsX3_removeHost wsX3_findHost := goodIn_r _ [11, 1, 2, 12, 13, 14, 15, 16, 17, 18] (by decide +kernel) (by decide +kernel)
set_option maxRecDepth 20000 in
theorem gX3_removeHost_X3_findHost : GoodIn wsX3_removeHost (wsV RX3 67 RX3 yX3_findHost wsX3_findHost) := goodIn_app (goodIn_of _ (by decide +kernel)) ggX3_removeHost_X3_findHost
theorem dX3_removeHost_0 : decode cX3_removeHost 0 = .ok (.iload_n 1, 1) := by decide +kernel
theorem dX3_removeHost_1 : decode cX3_removeHost 1 = .ok (.invokestatic 60, 3) := by decide +kernel
theorem dX3_removeHost_4 : decode cX3_removeHost 4 = .ok (.ifCond .ne 6, 3) := by decide +kernel
theorem dX3_removeHost_7 : decode cX3_removeHost 7 = .ok (.bipush (-2), 2) := by decide +kernel
theorem dX3_removeHost_9 : decode cX3_removeHost 9 = .ok (.ireturn, 1) := by decide +kernel
theorem dX3_removeHost_10 : decode cX3_removeHost 10 = .ok (.aload_n 0, 1) := by decide +kernel
theorem dX3_removeHost_11 : decode cX3_removeHost 11 = .ok (.iload_n 1, 1) := by decide +kernel
theorem dX3_removeHost_12 : decode cX3_removeHost 12 = .ok (.invokevirtual 67, 3) := by decide +kernel
theorem dX3_removeHost_15 : decode cX3_removeHost 15 = .ok (.istore_n 2, 1) := by decide +kernel
theorem dX3_removeHost_16 : decode cX3_removeHost 16 = .ok (.iload_n 2, 1) := by decide +kernel
theorem dX3_removeHost_17 : decode cX3_removeHost 17 = .ok (.ifCond .ge 6, 3) := by decide +kernel
theorem dX3_removeHost_20 : decode cX3_removeHost 20 = .ok (.bipush (-3), 2) := by decide +kernel
theorem dX3_removeHost_22 : decode cX3_removeHost 22 = .ok (.ireturn, 1) := by decide +kernel
theorem dX3_removeHost_23 : decode cX3_removeHost 23 = .ok (.iload_n 2, 1) := by decide +kernel
theorem dX3_removeHost_24 : decode cX3_removeHost 24 = .ok (.iconst 1, 1) := by decide +kernel
theorem dX3_removeHost_25 : decode cX3_removeHost 25 = .ok (.iadd, 1) := by decide +kernel
theorem dX3_removeHost_26 : decode cX3_removeHost 26 = .ok (.istore_n 3, 1) := by decide +kernel
theorem dX3_removeHost_27 : decode cX3_removeHost 27 = .ok (.iload_n 3, 1) := by decide +kernel
theorem dX3_removeHost_28 : decode cX3_removeHost 28 = .ok (.aload_n 0, 1) := by decide +kernel
theorem dX3_removeHost_29 : decode cX3_removeHost 29 = .ok (.getfield 21, 3) := by decide +kernel
theorem dX3_removeHost_32 : decode cX3_removeHost 32 = .ok (.if_icmp .ge 37, 3) := by decide +kernel
theorem dX3_removeHost_35 : decode cX3_removeHost 35 = .ok (.aload_n 0, 1) := by decide +kernel
theorem dX3_removeHost_36 : decode cX3_removeHost 36 = .ok (.getfield 9, 3) := by decide +kernel
theorem dX3_removeHost_39 : decode cX3_removeHost 39 = .ok (.iload_n 3, 1) := by decide +kernel
theorem dX3_removeHost_40 : decode cX3_removeHost 40 = .ok (.iconst 1, 1) := by decide +kernel
theorem dX3_removeHost_41 : decode cX3_removeHost 41 = .ok (.isub, 1) := by decide +kernel
theorem dX3_removeHost_42 : decode cX3_removeHost 42 = .ok (.aload_n 0, 1) := by decide +kernel
theorem dX3_removeHost_43 : decode cX3_removeHost 43 = .ok (.getfield 9, 3) := by decide +kernel
theorem dX3_removeHost_46 : decode cX3_removeHost 46 = .ok (.iload_n 3, 1) := by decide +kernel
theorem dX3_removeHost_47 : decode cX3_removeHost 47 = .ok (.iaload, 1) := by decide +kernel
theorem dX3_removeHost_48 : decode cX3_removeHost 48 = .ok (.iastore, 1) := by decide +kernel
theorem dX3_removeHost_49 : decode cX3_removeHost 49 = .ok (.aload_n 0, 1) := by decide +kernel
theorem dX3_removeHost_50 : decode cX3_removeHost 50 = .ok (.getfield 15, 3) := by decide +kernel
theorem dX3_removeHost_53 : decode cX3_removeHost 53 = .ok (.iload_n 3, 1) := by decide +kernel
theorem dX3_removeHost_54 : decode cX3_removeHost 54 = .ok (.iconst 1, 1) := by decide +kernel
theorem dX3_removeHost_55 : decode cX3_removeHost 55 = .ok (.isub, 1) := by decide +kernel
theorem dX3_removeHost_56 : decode cX3_removeHost 56 = .ok (.aload_n 0, 1) := by decide +kernel
theorem dX3_removeHost_57 : decode cX3_removeHost 57 = .ok (.getfield 15, 3) := by decide +kernel
theorem dX3_removeHost_60 : decode cX3_removeHost 60 = .ok (.iload_n 3, 1) := by decide +kernel
theorem dX3_removeHost_61 : decode cX3_removeHost 61 = .ok (.iaload, 1) := by decide +kernel
theorem dX3_removeHost_62 : decode cX3_removeHost 62 = .ok (.iastore, 1) := by decide +kernel
theorem dX3_removeHost_63 : decode cX3_removeHost 63 = .ok (.iinc 3 1, 3) := by decide +kernel
theorem dX3_removeHost_66 : decode cX3_removeHost 66 = .ok (.goto (-39), 3) := by decide +kernel
theorem dX3_removeHost_69 : decode cX3_removeHost 69 = .ok (.aload_n 0, 1) := by decide +kernel
theorem dX3_removeHost_70 : decode cX3_removeHost 70 = .ok (.dup, 1) := by decide +kernel
theorem dX3_removeHost_71 : decode cX3_removeHost 71 = .ok (.getfield 21, 3) := by decide +kernel
theorem dX3_removeHost_74 : decode cX3_removeHost 74 = .ok (.iconst 1, 1) := by decide +kernel
theorem dX3_removeHost_75 : decode cX3_removeHost 75 = .ok (.isub, 1) := by decide +kernel
theorem dX3_removeHost_76 : decode cX3_removeHost 76 = .ok (.putfield 21, 3) := by decide +kernel
theorem dX3_removeHost_79 : decode cX3_removeHost 79 = .ok (.iconst 0, 1) := by decide +kernel
theorem dX3_removeHost_80 : decode cX3_removeHost 80 = .ok (.ireturn, 1) := by decide +kernel
set_option maxRecDepth 20000 in
theorem ggX3_addKey_X4_isKey : GoodIn wsX3_addKey wsX4_isKey := goodIn_r _ [5] (by decide +kernel) (by decide +kernel)
set_option maxRecDepth 20000 in
theorem gX3_addKey_X4_isKey_n70 : GoodIn wsX3_addKey (wsX4_isKey) := ggX3_addKey_X4_isKey
set_option maxRecDepth 20000 in
theorem ggX3_addKey_X3_findKey : GoodIn wsX3_addKey wsX3_findKey := goodIn_r _ [10, 1, 2, 11, 12, 13, 14, 15, 16, 17] (by decide +kernel) (by decide +kernel)
set_option maxRecDepth 20000 in
theorem gX3_addKey_X3_findKey : GoodIn wsX3_addKey (wsV RX3 73 RX3 yX3_findKey wsX3_findKey) := goodIn_app (goodIn_of _ (by decide +kernel)) ggX3_addKey_X3_findKey
theorem dX3_addKey_0 : decode cX3_addKey 0 = .ok (.iload_n 1, 1) := by decide +kernel
theorem dX3_addKey_1 : decode cX3_addKey 1 = .ok (.invokestatic 70, 3) := by decide +kernel
theorem dX3_addKey_4 : decode cX3_addKey 4 = .ok (.ifCond .ne 6, 3) := by decide +kernel
theorem dX3_addKey_7 : decode cX3_addKey 7 = .ok (.bipush (-2), 2) := by decide +kernel
theorem dX3_addKey_9 : decode cX3_addKey 9 = .ok (.ireturn, 1) := by decide +kernel
theorem dX3_addKey_10 : decode cX3_addKey 10 = .ok (.aload_n 0, 1) := by decide +kernel
theorem dX3_addKey_11 : decode cX3_addKey 11 = .ok (.iload_n 1, 1) := by decide +kernel
theorem dX3_addKey_12 : decode cX3_addKey 12 = .ok (.invokevirtual 73, 3) := by decide +kernel
theorem dX3_addKey_15 : decode cX3_addKey 15 = .ok (.ifCond .lt 6, 3) := by decide +kernel
theorem dX3_addKey_18 : decode cX3_addKey 18 = .ok (.bipush (-3), 2) := by decide +kernel
theorem dX3_addKey_20 : decode cX3_addKey 20 = .ok (.ireturn, 1) := by decide +kernel
theorem dX3_addKey_21 : decode cX3_addKey 21 = .ok (.aload_n 0, 1) := by decide +kernel
theorem dX3_addKey_22 : decode cX3_addKey 22 = .ok (.getfield 25, 3) := by decide +kernel
theorem dX3_addKey_25 : decode cX3_addKey 25 = .ok (.bipush 40, 2) := by decide +kernel
theorem dX3_addKey_27 : decode cX3_addKey 27 = .ok (.if_icmp .lt 6, 3) := by decide +kernel
theorem dX3_addKey_30 : decode cX3_addKey 30 = .ok (.bipush (-4), 2) := by decide +kernel
theorem dX3_addKey_32 : decode cX3_addKey 32 = .ok (.ireturn, 1) := by decide +kernel
theorem dX3_addKey_33 : decode cX3_addKey 33 = .ok (.aload_n 0, 1) := by decide +kernel
theorem dX3_addKey_34 : decode cX3_addKey 34 = .ok (.getfield 25, 3) := by decide +kernel
theorem dX3_addKey_37 : decode cX3_addKey 37 = .ok (.istore_n 2, 1) := by decide +kernel
theorem dX3_addKey_38 : decode cX3_addKey 38 = .ok (.iload_n 2, 1) := by decide +kernel
theorem dX3_addKey_39 : decode cX3_addKey 39 = .ok (.ifCond .le 35, 3) := by decide +kernel
theorem dX3_addKey_42 : decode cX3_addKey 42 = .ok (.aload_n 0, 1) := by decide +kernel
theorem dX3_addKey_43 : decode cX3_addKey 43 = .ok (.getfield 18, 3) := by decide +kernel
theorem dX3_addKey_46 : decode cX3_addKey 46 = .ok (.iload_n 2, 1) := by decide +kernel
theorem dX3_addKey_47 : decode cX3_addKey 47 = .ok (.iconst 1, 1) := by decide +kernel
theorem dX3_addKey_48 : decode cX3_addKey 48 = .ok (.isub, 1) := by decide +kernel
theorem dX3_addKey_49 : decode cX3_addKey 49 = .ok (.iaload, 1) := by decide +kernel
theorem dX3_addKey_50 : decode cX3_addKey 50 = .ok (.iload_n 1, 1) := by decide +kernel
theorem dX3_addKey_51 : decode cX3_addKey 51 = .ok (.if_icmp .le 23, 3) := by decide +kernel
theorem dX3_addKey_54 : decode cX3_addKey 54 = .ok (.aload_n 0, 1) := by decide +kernel
theorem dX3_addKey_55 : decode cX3_addKey 55 = .ok (.getfield 18, 3) := by decide +kernel
theorem dX3_addKey_58 : decode cX3_addKey 58 = .ok (.iload_n 2, 1) := by decide +kernel
theorem dX3_addKey_59 : decode cX3_addKey 59 = .ok (.aload_n 0, 1) := by decide +kernel
theorem dX3_addKey_60 : decode cX3_addKey 60 = .ok (.getfield 18, 3) := by decide +kernel
theorem dX3_addKey_63 : decode cX3_addKey 63 = .ok (.iload_n 2, 1) := by decide +kernel
theorem dX3_addKey_64 : decode cX3_addKey 64 = .ok (.iconst 1, 1) := by decide +kernel
theorem dX3_addKey_65 : decode cX3_addKey 65 = .ok (.isub, 1) := by decide +kernel
theorem dX3_addKey_66 : decode cX3_addKey 66 = .ok (.iaload, 1) := by decide +kernel
theorem dX3_addKey_67 : decode cX3_addKey 67 = .ok (.iastore, 1) := by decide +kernel
theorem dX3_addKey_68 : decode cX3_addKey 68 = .ok (.iinc 2 (-1), 3) := by decide +kernel
theorem dX3_addKey_71 : decode cX3_addKey 71 = .ok (.goto (-33), 3) := by decide +kernel
theorem dX3_addKey_74 : decode cX3_addKey 74 = .ok (.aload_n 0, 1) := by decide +kernel
theorem dX3_addKey_75 : decode cX3_addKey 75 = .ok (.getfield 18, 3) := by decide +kernel
theorem dX3_addKey_78 : decode cX3_addKey 78 = .ok (.iload_n 2, 1) := by decide +kernel
theorem dX3_addKey_79 : decode cX3_addKey 79 = .ok (.iload_n 1, 1) := by decide +kernel
theorem dX3_addKey_80 : decode cX3_addKey 80 = .ok (.iastore, 1) := by decide +kernel
theorem dX3_addKey_81 : decode cX3_addKey 81 = .ok (.aload_n 0, 1) := by decide +kernel
theorem dX3_addKey_82 : decode cX3_addKey 82 = .ok (.dup, 1) := by decide +kernel
theorem dX3_addKey_83 : decode cX3_addKey 83 = .ok (.getfield 25, 3) := by decide +kernel
theorem dX3_addKey_86 : decode cX3_addKey 86 = .ok (.iconst 1, 1) := by decide +kernel
theorem dX3_addKey_87 : decode cX3_addKey 87 = .ok (.iadd, 1) := by decide +kernel
theorem dX3_addKey_88 : decode cX3_addKey 88 = .ok (.putfield 25, 3) := by decide +kernel
theorem dX3_addKey_91 : decode cX3_addKey 91 = .ok (.iconst 0, 1) := by decide +kernel
theorem dX3_addKey_92 : decode cX3_addKey 92 = .ok (.ireturn, 1) := by decide +kernel
set_option maxRecDepth 20000 in
theorem ggX3_removeKey_X4_isKey : GoodIn wsX3_removeKey wsX4_isKey := goodIn_r _ [5] (by decide +kernel) (by decide +kernel)
set_option maxRecDepth 20000 in
theorem gX3_removeKey_X4_isKey_n70 : GoodIn wsX3_removeKey (wsX4_isKey) := ggX3_removeKey_X4_isKey
set_option maxRecDepth 20000 in
theorem ggX3_removeKey_X3_findKey : GoodIn wsX3_removeKey wsX3_findKey := goodIn_r _ [10, 1, 2, 11, 12, 13, 14, 15, 16, 17] (by decide +kernel) (by decide +kernel)
set_option maxRecDepth 20000 in
theorem gX3_removeKey_X3_findKey : GoodIn wsX3_removeKey (wsV RX3 73 RX3 yX3_findKey wsX3_findKey) := goodIn_app (goodIn_of _ (by decide +kernel)) ggX3_removeKey_X3_findKey
theorem dX3_removeKey_0 : decode cX3_removeKey 0 = .ok (.iload_n 1, 1) := by decide +kernel
theorem dX3_removeKey_1 : decode cX3_removeKey 1 = .ok (.invokestatic 70, 3) := by decide +kernel
theorem dX3_removeKey_4 : decode cX3_removeKey 4 = .ok (.ifCond .ne 6, 3) := by decide +kernel
theorem dX3_removeKey_7 : decode cX3_removeKey 7 = .ok (.bipush (-2), 2) := by decide +kernel
theorem dX3_removeKey_9 : decode cX3_removeKey 9 = .ok (.ireturn, 1) := by decide +kernel
theorem dX3_removeKey_10 : decode cX3_removeKey 10 = .ok (.aload_n 0, 1) := by decide +kernel
theorem dX3_removeKey_11 : decode cX3_removeKey 11 = .ok (.iload_n 1, 1) := by decide +kernel
theorem dX3_removeKey_12 : decode cX3_removeKey 12 = .ok (.invokevirtual 73, 3) := by decide +kernel
