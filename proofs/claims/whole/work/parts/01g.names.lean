theorem dX5_push_4 : decode cX5_push 4 = .ok (.aload_n 0, 1) := by decide +kernel
theorem dX5_push_5 : decode cX5_push 5 = .ok (.getfield 7, 3) := by decide +kernel
theorem dX5_push_8 : decode cX5_push 8 = .ok (.sipush 142, 3) := by decide +kernel
theorem dX5_push_11 : decode cX5_push 11 = .ok (.aload_n 0, 1) := by decide +kernel
theorem dX5_push_12 : decode cX5_push 12 = .ok (.invokevirtual 75, 3) := by decide +kernel
theorem dX5_push_15 : decode cX5_push 15 = .ok (.iastore, 1) := by decide +kernel
theorem dX5_push_16 : decode cX5_push 16 = .ok (.aload_n 0, 1) := by decide +kernel
theorem dX5_push_17 : decode cX5_push 17 = .ok (.getfield 78, 3) := by decide +kernel
theorem dX5_push_20 : decode cX5_push 20 = .ok (.iconst 5, 1) := by decide +kernel
theorem dX5_push_21 : decode cX5_push 21 = .ok (.if_icmp .ne 44, 3) := by decide +kernel
theorem dX5_push_24 : decode cX5_push 24 = .ok (.iconst 0, 1) := by decide +kernel
theorem dX5_push_25 : decode cX5_push 25 = .ok (.istore_n 1, 1) := by decide +kernel
theorem dX5_push_26 : decode cX5_push 26 = .ok (.iload_n 1, 1) := by decide +kernel
theorem dX5_push_27 : decode cX5_push 27 = .ok (.sipush 572, 3) := by decide +kernel
theorem dX5_push_30 : decode cX5_push 30 = .ok (.if_icmp .ge 25, 3) := by decide +kernel
theorem dX5_push_33 : decode cX5_push 33 = .ok (.aload_n 0, 1) := by decide +kernel
theorem dX5_push_34 : decode cX5_push 34 = .ok (.getfield 16, 3) := by decide +kernel
theorem dX5_push_37 : decode cX5_push 37 = .ok (.iload_n 1, 1) := by decide +kernel
theorem dX5_push_38 : decode cX5_push 38 = .ok (.aload_n 0, 1) := by decide +kernel
theorem dX5_push_39 : decode cX5_push 39 = .ok (.getfield 16, 3) := by decide +kernel
theorem dX5_push_42 : decode cX5_push 42 = .ok (.iload_n 1, 1) := by decide +kernel
theorem dX5_push_43 : decode cX5_push 43 = .ok (.sipush 143, 3) := by decide +kernel
theorem dX5_push_46 : decode cX5_push 46 = .ok (.iadd, 1) := by decide +kernel
theorem dX5_push_47 : decode cX5_push 47 = .ok (.iaload, 1) := by decide +kernel
theorem dX5_push_48 : decode cX5_push 48 = .ok (.iastore, 1) := by decide +kernel
theorem dX5_push_49 : decode cX5_push 49 = .ok (.iinc 1 1, 3) := by decide +kernel
theorem dX5_push_52 : decode cX5_push 52 = .ok (.goto (-26), 3) := by decide +kernel
theorem dX5_push_55 : decode cX5_push 55 = .ok (.aload_n 0, 1) := by decide +kernel
theorem dX5_push_56 : decode cX5_push 56 = .ok (.dup, 1) := by decide +kernel
theorem dX5_push_57 : decode cX5_push 57 = .ok (.getfield 78, 3) := by decide +kernel
theorem dX5_push_60 : decode cX5_push 60 = .ok (.iconst 1, 1) := by decide +kernel
theorem dX5_push_61 : decode cX5_push 61 = .ok (.isub, 1) := by decide +kernel
theorem dX5_push_62 : decode cX5_push 62 = .ok (.putfield 78, 3) := by decide +kernel
theorem dX5_push_65 : decode cX5_push 65 = .ok (.iconst 0, 1) := by decide +kernel
theorem dX5_push_66 : decode cX5_push 66 = .ok (.istore_n 1, 1) := by decide +kernel
theorem dX5_push_67 : decode cX5_push 67 = .ok (.iload_n 1, 1) := by decide +kernel
theorem dX5_push_68 : decode cX5_push 68 = .ok (.sipush 143, 3) := by decide +kernel
theorem dX5_push_71 : decode cX5_push 71 = .ok (.if_icmp .ge 30, 3) := by decide +kernel
theorem dX5_push_74 : decode cX5_push 74 = .ok (.aload_n 0, 1) := by decide +kernel
theorem dX5_push_75 : decode cX5_push 75 = .ok (.getfield 16, 3) := by decide +kernel
theorem dX5_push_78 : decode cX5_push 78 = .ok (.sipush 143, 3) := by decide +kernel
theorem dX5_push_81 : decode cX5_push 81 = .ok (.aload_n 0, 1) := by decide +kernel
theorem dX5_push_82 : decode cX5_push 82 = .ok (.getfield 78, 3) := by decide +kernel
theorem dX5_push_85 : decode cX5_push 85 = .ok (.imul, 1) := by decide +kernel
theorem dX5_push_86 : decode cX5_push 86 = .ok (.iload_n 1, 1) := by decide +kernel
theorem dX5_push_87 : decode cX5_push 87 = .ok (.iadd, 1) := by decide +kernel
theorem dX5_push_88 : decode cX5_push 88 = .ok (.aload_n 0, 1) := by decide +kernel
theorem dX5_push_89 : decode cX5_push 89 = .ok (.getfield 13, 3) := by decide +kernel
theorem dX5_push_92 : decode cX5_push 92 = .ok (.iload_n 1, 1) := by decide +kernel
theorem dX5_push_93 : decode cX5_push 93 = .ok (.iaload, 1) := by decide +kernel
theorem dX5_push_94 : decode cX5_push 94 = .ok (.iastore, 1) := by decide +kernel
theorem dX5_push_95 : decode cX5_push 95 = .ok (.iinc 1 1, 3) := by decide +kernel
theorem dX5_push_98 : decode cX5_push 98 = .ok (.goto (-31), 3) := by decide +kernel
theorem dX5_push_101 : decode cX5_push 101 = .ok (.aload_n 0, 1) := by decide +kernel
theorem dX5_push_102 : decode cX5_push 102 = .ok (.dup, 1) := by decide +kernel
theorem dX5_push_103 : decode cX5_push 103 = .ok (.getfield 78, 3) := by decide +kernel
theorem dX5_push_106 : decode cX5_push 106 = .ok (.iconst 1, 1) := by decide +kernel
theorem dX5_push_107 : decode cX5_push 107 = .ok (.iadd, 1) := by decide +kernel
theorem dX5_push_108 : decode cX5_push 108 = .ok (.putfield 78, 3) := by decide +kernel
theorem dX5_push_111 : decode cX5_push 111 = .ok (.return_, 1) := by decide +kernel
set_option maxRecDepth 20000 in
theorem ggX5_ends_X5_refuses : GoodIn wsX5_ends wsX5_refuses := goodIn_r _ [6, 7, 50, 51, 52, 53, 54, 55, 56, 57, 58, 59, 60, 61, 62, 63, 64, 65, 66, 67, 68] (by decide +kernel) (by decide +kernel)
set_option maxRecDepth 20000 in
theorem gX5_ends_X5_refuses : GoodIn wsX5_ends (wsV RX5 82 RX5 yX5_refuses wsX5_refuses) := goodIn_app (goodIn_of _ (by decide +kernel)) ggX5_ends_X5_refuses
set_option maxRecDepth 20000 in
theorem ggX5_ends_X5_push : GoodIn wsX5_ends wsX5_push := goodIn_r _ [11, 1, 12, 13, 14, 15, 16, 17, 5, 18, 19, 20, 21, 22, 23, 24, 25, 26, 27, 28, 29, 30, 31, 32, 33, 34, 35, 36, 37, 38, 39, 40, 41, 42, 43, 44, 45, 46, 47, 48, 49, 50, 51, 52, 53, 54, 55, 56, 57, 58, 59, 60, 61, 62, 63, 64, 65, 66, 67, 68] (by decide +kernel) (by decide +kernel)
set_option maxRecDepth 20000 in
theorem gX5_ends_X5_push : GoodIn wsX5_ends (wsV RX5 85 RX5 yX5_push wsX5_push) := goodIn_app (goodIn_of _ (by decide +kernel)) ggX5_ends_X5_push
theorem dX5_ends_0 : decode cX5_ends 0 = .ok (.iload_n 1, 1) := by decide +kernel
theorem dX5_ends_1 : decode cX5_ends 1 = .ok (.ifCond .eq 9, 3) := by decide +kernel
theorem dX5_ends_4 : decode cX5_ends 4 = .ok (.aload_n 0, 1) := by decide +kernel
theorem dX5_ends_5 : decode cX5_ends 5 = .ok (.iload_n 1, 1) := by decide +kernel
theorem dX5_ends_6 : decode cX5_ends 6 = .ok (.invokevirtual 82, 3) := by decide +kernel
theorem dX5_ends_9 : decode cX5_ends 9 = .ok (.ireturn, 1) := by decide +kernel
theorem dX5_ends_10 : decode cX5_ends 10 = .ok (.aload_n 0, 1) := by decide +kernel
theorem dX5_ends_11 : decode cX5_ends 11 = .ok (.invokevirtual 85, 3) := by decide +kernel
theorem dX5_ends_14 : decode cX5_ends 14 = .ok (.aload_n 0, 1) := by decide +kernel
theorem dX5_ends_15 : decode cX5_ends 15 = .ok (.getfield 7, 3) := by decide +kernel
theorem dX5_ends_18 : decode cX5_ends 18 = .ok (.sipush 142, 3) := by decide +kernel
theorem dX5_ends_21 : decode cX5_ends 21 = .ok (.iaload, 1) := by decide +kernel
theorem dX5_ends_22 : decode cX5_ends 22 = .ok (.ireturn, 1) := by decide +kernel
set_option maxRecDepth 20000 in
theorem ggX5_back_X5_refuses : GoodIn wsX5_back wsX5_refuses := goodIn_r _ [8, 9, 40, 41, 42, 43, 44, 45, 46, 47, 48, 49, 50, 51, 52, 53, 54, 55, 56, 57, 58] (by decide +kernel) (by decide +kernel)
set_option maxRecDepth 20000 in
theorem gX5_back_X5_refuses : GoodIn wsX5_back (wsV RX5 82 RX5 yX5_refuses wsX5_refuses) := goodIn_app (goodIn_of _ (by decide +kernel)) ggX5_back_X5_refuses
set_option maxRecDepth 20000 in
theorem ggX5_back_X5_lay : GoodIn wsX5_back wsX5_lay := goodIn_r _ [13, 14, 2, 15, 16, 17, 18, 19, 20, 7, 21, 22, 23, 24, 25, 26, 27, 28, 29, 30, 31, 32, 33, 34, 35, 36, 37, 38, 39, 40, 41, 42, 43, 44, 45, 46, 47, 48, 49, 50, 51, 52, 53, 54, 55, 56, 57, 58] (by decide +kernel) (by decide +kernel)
set_option maxRecDepth 20000 in
theorem gX5_back_X5_lay : GoodIn wsX5_back (wsV RX5 50 RX5 yX5_lay wsX5_lay) := goodIn_app (goodIn_of _ (by decide +kernel)) ggX5_back_X5_lay
theorem dX5_back_0 : decode cX5_back 0 = .ok (.aload_n 0, 1) := by decide +kernel
theorem dX5_back_1 : decode cX5_back 1 = .ok (.getfield 78, 3) := by decide +kernel
theorem dX5_back_4 : decode cX5_back 4 = .ok (.ifCond .ne 10, 3) := by decide +kernel
theorem dX5_back_7 : decode cX5_back 7 = .ok (.aload_n 0, 1) := by decide +kernel
theorem dX5_back_8 : decode cX5_back 8 = .ok (.bipush (-3), 2) := by decide +kernel
theorem dX5_back_10 : decode cX5_back 10 = .ok (.invokevirtual 82, 3) := by decide +kernel
theorem dX5_back_13 : decode cX5_back 13 = .ok (.ireturn, 1) := by decide +kernel
theorem dX5_back_14 : decode cX5_back 14 = .ok (.aload_n 0, 1) := by decide +kernel
theorem dX5_back_15 : decode cX5_back 15 = .ok (.dup, 1) := by decide +kernel
theorem dX5_back_16 : decode cX5_back 16 = .ok (.getfield 78, 3) := by decide +kernel
theorem dX5_back_19 : decode cX5_back 19 = .ok (.iconst 1, 1) := by decide +kernel
theorem dX5_back_20 : decode cX5_back 20 = .ok (.isub, 1) := by decide +kernel
theorem dX5_back_21 : decode cX5_back 21 = .ok (.putfield 78, 3) := by decide +kernel
theorem dX5_back_24 : decode cX5_back 24 = .ok (.iconst 0, 1) := by decide +kernel
theorem dX5_back_25 : decode cX5_back 25 = .ok (.istore_n 1, 1) := by decide +kernel
theorem dX5_back_26 : decode cX5_back 26 = .ok (.iload_n 1, 1) := by decide +kernel
theorem dX5_back_27 : decode cX5_back 27 = .ok (.sipush 143, 3) := by decide +kernel
theorem dX5_back_30 : decode cX5_back 30 = .ok (.if_icmp .ge 30, 3) := by decide +kernel
theorem dX5_back_33 : decode cX5_back 33 = .ok (.aload_n 0, 1) := by decide +kernel
theorem dX5_back_34 : decode cX5_back 34 = .ok (.getfield 7, 3) := by decide +kernel
theorem dX5_back_37 : decode cX5_back 37 = .ok (.iload_n 1, 1) := by decide +kernel
theorem dX5_back_38 : decode cX5_back 38 = .ok (.aload_n 0, 1) := by decide +kernel
theorem dX5_back_39 : decode cX5_back 39 = .ok (.getfield 16, 3) := by decide +kernel
theorem dX5_back_42 : decode cX5_back 42 = .ok (.sipush 143, 3) := by decide +kernel
theorem dX5_back_45 : decode cX5_back 45 = .ok (.aload_n 0, 1) := by decide +kernel
theorem dX5_back_46 : decode cX5_back 46 = .ok (.getfield 78, 3) := by decide +kernel
theorem dX5_back_49 : decode cX5_back 49 = .ok (.imul, 1) := by decide +kernel
theorem dX5_back_50 : decode cX5_back 50 = .ok (.iload_n 1, 1) := by decide +kernel
theorem dX5_back_51 : decode cX5_back 51 = .ok (.iadd, 1) := by decide +kernel
theorem dX5_back_52 : decode cX5_back 52 = .ok (.iaload, 1) := by decide +kernel
theorem dX5_back_53 : decode cX5_back 53 = .ok (.iastore, 1) := by decide +kernel
theorem dX5_back_54 : decode cX5_back 54 = .ok (.iinc 1 1, 3) := by decide +kernel
theorem dX5_back_57 : decode cX5_back 57 = .ok (.goto (-31), 3) := by decide +kernel
theorem dX5_back_60 : decode cX5_back 60 = .ok (.aload_n 0, 1) := by decide +kernel
theorem dX5_back_61 : decode cX5_back 61 = .ok (.invokevirtual 50, 3) := by decide +kernel
theorem dX5_back_64 : decode cX5_back 64 = .ok (.aload_n 0, 1) := by decide +kernel
theorem dX5_back_65 : decode cX5_back 65 = .ok (.getfield 78, 3) := by decide +kernel
theorem dX5_back_68 : decode cX5_back 68 = .ok (.ireturn, 1) := by decide +kernel
set_option maxRecDepth 20000 in
theorem ggX5_isName_X5_in : GoodIn wsX5_isName wsX5_in := goodIn_r _ [4] (by decide +kernel) (by decide +kernel)
set_option maxRecDepth 20000 in
theorem gX5_isName_X5_in : GoodIn wsX5_isName (va_wsS RX5 88 yX5_in wsX5_in) := goodIn_app (goodIn_of _ (by decide +kernel)) ggX5_isName_X5_in
theorem dX5_isName_0 : decode cX5_isName 0 = .ok (.iload_n 0, 1) := by decide +kernel
theorem dX5_isName_1 : decode cX5_isName 1 = .ok (.iconst 0, 1) := by decide +kernel
theorem dX5_isName_2 : decode cX5_isName 2 = .ok (.bipush 99, 2) := by decide +kernel
theorem dX5_isName_4 : decode cX5_isName 4 = .ok (.invokestatic 88, 3) := by decide +kernel
theorem dX5_isName_7 : decode cX5_isName 7 = .ok (.ireturn, 1) := by decide +kernel
theorem dX5_isHost_0 : decode cX5_isHost 0 = .ok (.aload_n 0, 1) := by decide +kernel
theorem dX5_isHost_1 : decode cX5_isHost 1 = .ok (.getfield 7, 3) := by decide +kernel
theorem dX5_isHost_4 : decode cX5_isHost 4 = .ok (.iload_n 1, 1) := by decide +kernel
theorem dX5_isHost_5 : decode cX5_isHost 5 = .ok (.iaload, 1) := by decide +kernel
theorem dX5_isHost_6 : decode cX5_isHost 6 = .ok (.ifCond .le 7, 3) := by decide +kernel
theorem dX5_isHost_9 : decode cX5_isHost 9 = .ok (.iconst 1, 1) := by decide +kernel
theorem dX5_isHost_10 : decode cX5_isHost 10 = .ok (.goto 4, 3) := by decide +kernel
theorem dX5_isHost_13 : decode cX5_isHost 13 = .ok (.iconst 0, 1) := by decide +kernel
theorem dX5_isHost_14 : decode cX5_isHost 14 = .ok (.ireturn, 1) := by decide +kernel
set_option maxRecDepth 20000 in
theorem ggX5_hostMany_X5_isHost : GoodIn wsX5_hostMany wsX5_isHost := goodIn_r _ [5, 6, 7, 8, 9, 10, 11, 12, 13, 14, 15, 16, 17, 18, 19, 20, 21, 22, 23, 24, 25] (by decide +kernel) (by decide +kernel)
set_option maxRecDepth 20000 in
theorem gX5_hostMany_X5_isHost : GoodIn wsX5_hostMany (wsV RX5 92 RX5 yX5_isHost wsX5_isHost) := goodIn_app (goodIn_of _ (by decide +kernel)) ggX5_hostMany_X5_isHost
theorem dX5_hostMany_0 : decode cX5_hostMany 0 = .ok (.iconst 0, 1) := by decide +kernel
theorem dX5_hostMany_1 : decode cX5_hostMany 1 = .ok (.istore_n 1, 1) := by decide +kernel
theorem dX5_hostMany_2 : decode cX5_hostMany 2 = .ok (.iconst 0, 1) := by decide +kernel
theorem dX5_hostMany_3 : decode cX5_hostMany 3 = .ok (.istore_n 2, 1) := by decide +kernel
theorem dX5_hostMany_4 : decode cX5_hostMany 4 = .ok (.iload_n 2, 1) := by decide +kernel
theorem dX5_hostMany_5 : decode cX5_hostMany 5 = .ok (.bipush 100, 2) := by decide +kernel
theorem dX5_hostMany_7 : decode cX5_hostMany 7 = .ok (.if_icmp .ge 25, 3) := by decide +kernel
theorem dX5_hostMany_10 : decode cX5_hostMany 10 = .ok (.iload_n 1, 1) := by decide +kernel
theorem dX5_hostMany_11 : decode cX5_hostMany 11 = .ok (.aload_n 0, 1) := by decide +kernel
theorem dX5_hostMany_12 : decode cX5_hostMany 12 = .ok (.iload_n 2, 1) := by decide +kernel
theorem dX5_hostMany_13 : decode cX5_hostMany 13 = .ok (.invokevirtual 92, 3) := by decide +kernel
theorem dX5_hostMany_16 : decode cX5_hostMany 16 = .ok (.ifCond .eq 7, 3) := by decide +kernel
theorem dX5_hostMany_19 : decode cX5_hostMany 19 = .ok (.iconst 1, 1) := by decide +kernel
theorem dX5_hostMany_20 : decode cX5_hostMany 20 = .ok (.goto 4, 3) := by decide +kernel
theorem dX5_hostMany_23 : decode cX5_hostMany 23 = .ok (.iconst 0, 1) := by decide +kernel
theorem dX5_hostMany_24 : decode cX5_hostMany 24 = .ok (.iadd, 1) := by decide +kernel
theorem dX5_hostMany_25 : decode cX5_hostMany 25 = .ok (.istore_n 1, 1) := by decide +kernel
theorem dX5_hostMany_26 : decode cX5_hostMany 26 = .ok (.iinc 2 1, 3) := by decide +kernel
theorem dX5_hostMany_29 : decode cX5_hostMany 29 = .ok (.goto (-25), 3) := by decide +kernel
theorem dX5_hostMany_32 : decode cX5_hostMany 32 = .ok (.iload_n 1, 1) := by decide +kernel
theorem dX5_hostMany_33 : decode cX5_hostMany 33 = .ok (.ireturn, 1) := by decide +kernel
set_option maxRecDepth 20000 in
theorem ggX5_isKey_X5_in : GoodIn wsX5_isKey wsX5_in := goodIn_r _ [4] (by decide +kernel) (by decide +kernel)
set_option maxRecDepth 20000 in
theorem gX5_isKey_X5_in : GoodIn wsX5_isKey (va_wsS RX5 88 yX5_in wsX5_in) := goodIn_app (goodIn_of _ (by decide +kernel)) ggX5_isKey_X5_in
theorem dX5_isKey_0 : decode cX5_isKey 0 = .ok (.iload_n 0, 1) := by decide +kernel
theorem dX5_isKey_1 : decode cX5_isKey 1 = .ok (.iconst 0, 1) := by decide +kernel
theorem dX5_isKey_2 : decode cX5_isKey 2 = .ok (.sipush 999, 3) := by decide +kernel
theorem dX5_isKey_5 : decode cX5_isKey 5 = .ok (.invokestatic 88, 3) := by decide +kernel
theorem dX5_isKey_8 : decode cX5_isKey 8 = .ok (.ireturn, 1) := by decide +kernel
theorem dX5_rowOf_0 : decode cX5_rowOf 0 = .ok (.iconst (-1), 1) := by decide +kernel
theorem dX5_rowOf_1 : decode cX5_rowOf 1 = .ok (.istore_n 2, 1) := by decide +kernel
theorem dX5_rowOf_2 : decode cX5_rowOf 2 = .ok (.iconst 0, 1) := by decide +kernel
theorem dX5_rowOf_3 : decode cX5_rowOf 3 = .ok (.istore_n 3, 1) := by decide +kernel
theorem dX5_rowOf_4 : decode cX5_rowOf 4 = .ok (.iload_n 3, 1) := by decide +kernel
theorem dX5_rowOf_5 : decode cX5_rowOf 5 = .ok (.aload_n 0, 1) := by decide +kernel
theorem dX5_rowOf_6 : decode cX5_rowOf 6 = .ok (.getfield 7, 3) := by decide +kernel
theorem dX5_rowOf_9 : decode cX5_rowOf 9 = .ok (.sipush 140, 3) := by decide +kernel
theorem dX5_rowOf_12 : decode cX5_rowOf 12 = .ok (.iaload, 1) := by decide +kernel
theorem dX5_rowOf_13 : decode cX5_rowOf 13 = .ok (.if_icmp .ge 28, 3) := by decide +kernel
theorem dX5_rowOf_16 : decode cX5_rowOf 16 = .ok (.aload_n 0, 1) := by decide +kernel
theorem dX5_rowOf_17 : decode cX5_rowOf 17 = .ok (.getfield 7, 3) := by decide +kernel
theorem dX5_rowOf_20 : decode cX5_rowOf 20 = .ok (.bipush 100, 2) := by decide +kernel
theorem dX5_rowOf_22 : decode cX5_rowOf 22 = .ok (.iload_n 3, 1) := by decide +kernel
theorem dX5_rowOf_23 : decode cX5_rowOf 23 = .ok (.iadd, 1) := by decide +kernel
theorem dX5_rowOf_24 : decode cX5_rowOf 24 = .ok (.iaload, 1) := by decide +kernel
theorem dX5_rowOf_25 : decode cX5_rowOf 25 = .ok (.iload_n 1, 1) := by decide +kernel
theorem dX5_rowOf_26 : decode cX5_rowOf 26 = .ok (.if_icmp .ne 7, 3) := by decide +kernel
theorem dX5_rowOf_29 : decode cX5_rowOf 29 = .ok (.iload_n 3, 1) := by decide +kernel
theorem dX5_rowOf_30 : decode cX5_rowOf 30 = .ok (.goto 4, 3) := by decide +kernel
theorem dX5_rowOf_33 : decode cX5_rowOf 33 = .ok (.iload_n 2, 1) := by decide +kernel
theorem dX5_rowOf_34 : decode cX5_rowOf 34 = .ok (.istore_n 2, 1) := by decide +kernel
theorem dX5_rowOf_35 : decode cX5_rowOf 35 = .ok (.iinc 3 1, 3) := by decide +kernel
theorem dX5_rowOf_38 : decode cX5_rowOf 38 = .ok (.goto (-34), 3) := by decide +kernel
theorem dX5_rowOf_41 : decode cX5_rowOf 41 = .ok (.iload_n 2, 1) := by decide +kernel
theorem dX5_rowOf_42 : decode cX5_rowOf 42 = .ok (.ireturn, 1) := by decide +kernel
set_option maxRecDepth 20000 in
theorem ggX5_doHost_X5_isName : GoodIn wsX5_doHost wsX5_isName := goodIn_r _ [5, 6, 7, 4, 8] (by decide +kernel) (by decide +kernel)
set_option maxRecDepth 20000 in
theorem gX5_doHost_X5_isName : GoodIn wsX5_doHost (va_wsS RX5 95 yX5_isName wsX5_isName) := goodIn_app (goodIn_of _ (by decide +kernel)) ggX5_doHost_X5_isName
set_option maxRecDepth 20000 in
theorem ggX5_doHost_X5_in : GoodIn wsX5_doHost wsX5_in := goodIn_r _ [8] (by decide +kernel) (by decide +kernel)
set_option maxRecDepth 20000 in
theorem gX5_doHost_X5_in : GoodIn wsX5_doHost (va_wsS RX5 88 yX5_in wsX5_in) := goodIn_app (goodIn_of _ (by decide +kernel)) ggX5_doHost_X5_in
set_option maxRecDepth 20000 in
theorem ggX5_doHost_X5_isHost : GoodIn wsX5_doHost wsX5_isHost := goodIn_r _ [12, 1, 17, 18, 19, 20, 21, 22, 23, 24, 25, 26, 27, 28, 29, 30, 31, 32, 33, 34, 35] (by decide +kernel) (by decide +kernel)
set_option maxRecDepth 20000 in
theorem gX5_doHost_X5_isHost : GoodIn wsX5_doHost (wsV RX5 92 RX5 yX5_isHost wsX5_isHost) := goodIn_app (goodIn_of _ (by decide +kernel)) ggX5_doHost_X5_isHost
set_option maxRecDepth 20000 in
theorem ggX5_doHost_X5_hostMany : GoodIn wsX5_doHost wsX5_hostMany := goodIn_r _ [16, 9, 10, 11, 4, 12, 1, 17, 18, 19, 20, 21, 22, 23, 24, 25, 26, 27, 28, 29, 30, 31, 32, 33, 34, 35] (by decide +kernel) (by decide +kernel)
set_option maxRecDepth 20000 in
theorem gX5_doHost_X5_hostMany : GoodIn wsX5_doHost (wsV RX5 98 RX5 yX5_hostMany wsX5_hostMany) := goodIn_app (goodIn_of _ (by decide +kernel)) ggX5_doHost_X5_hostMany
theorem dX5_doHost_0 : decode cX5_doHost 0 = .ok (.iload_n 1, 1) := by decide +kernel
theorem dX5_doHost_1 : decode cX5_doHost 1 = .ok (.invokestatic 95, 3) := by decide +kernel
theorem dX5_doHost_4 : decode cX5_doHost 4 = .ok (.ifCond .eq 12, 3) := by decide +kernel
theorem dX5_doHost_7 : decode cX5_doHost 7 = .ok (.iload_n 2, 1) := by decide +kernel
theorem dX5_doHost_8 : decode cX5_doHost 8 = .ok (.iconst 1, 1) := by decide +kernel
theorem dX5_doHost_9 : decode cX5_doHost 9 = .ok (.iconst 4, 1) := by decide +kernel
theorem dX5_doHost_10 : decode cX5_doHost 10 = .ok (.invokestatic 88, 3) := by decide +kernel
theorem dX5_doHost_13 : decode cX5_doHost 13 = .ok (.ifCond .ne 6, 3) := by decide +kernel
theorem dX5_doHost_16 : decode cX5_doHost 16 = .ok (.bipush (-2), 2) := by decide +kernel
theorem dX5_doHost_18 : decode cX5_doHost 18 = .ok (.ireturn, 1) := by decide +kernel
theorem dX5_doHost_19 : decode cX5_doHost 19 = .ok (.aload_n 0, 1) := by decide +kernel
theorem dX5_doHost_20 : decode cX5_doHost 20 = .ok (.iload_n 1, 1) := by decide +kernel
theorem dX5_doHost_21 : decode cX5_doHost 21 = .ok (.invokevirtual 92, 3) := by decide +kernel
theorem dX5_doHost_24 : decode cX5_doHost 24 = .ok (.ifCond .eq 6, 3) := by decide +kernel
theorem dX5_doHost_27 : decode cX5_doHost 27 = .ok (.bipush (-3), 2) := by decide +kernel
theorem dX5_doHost_29 : decode cX5_doHost 29 = .ok (.ireturn, 1) := by decide +kernel
theorem dX5_doHost_30 : decode cX5_doHost 30 = .ok (.aload_n 0, 1) := by decide +kernel
theorem dX5_doHost_31 : decode cX5_doHost 31 = .ok (.invokevirtual 98, 3) := by decide +kernel
theorem dX5_doHost_34 : decode cX5_doHost 34 = .ok (.bipush 6, 2) := by decide +kernel
theorem dX5_doHost_36 : decode cX5_doHost 36 = .ok (.if_icmp .ne 6, 3) := by decide +kernel
theorem dX5_doHost_39 : decode cX5_doHost 39 = .ok (.bipush (-4), 2) := by decide +kernel
theorem dX5_doHost_41 : decode cX5_doHost 41 = .ok (.ireturn, 1) := by decide +kernel
theorem dX5_doHost_42 : decode cX5_doHost 42 = .ok (.aload_n 0, 1) := by decide +kernel
theorem dX5_doHost_43 : decode cX5_doHost 43 = .ok (.getfield 7, 3) := by decide +kernel
theorem dX5_doHost_46 : decode cX5_doHost 46 = .ok (.iload_n 1, 1) := by decide +kernel
theorem dX5_doHost_47 : decode cX5_doHost 47 = .ok (.iload_n 2, 1) := by decide +kernel
theorem dX5_doHost_48 : decode cX5_doHost 48 = .ok (.iastore, 1) := by decide +kernel
theorem dX5_doHost_49 : decode cX5_doHost 49 = .ok (.iconst 0, 1) := by decide +kernel
theorem dX5_doHost_50 : decode cX5_doHost 50 = .ok (.ireturn, 1) := by decide +kernel
set_option maxRecDepth 20000 in
theorem ggX5_doWeighs_X5_isName : GoodIn wsX5_doWeighs wsX5_isName := goodIn_r _ [5, 6, 7, 4, 8] (by decide +kernel) (by decide +kernel)
set_option maxRecDepth 20000 in
theorem gX5_doWeighs_X5_isName : GoodIn wsX5_doWeighs (va_wsS RX5 95 yX5_isName wsX5_isName) := goodIn_app (goodIn_of _ (by decide +kernel)) ggX5_doWeighs_X5_isName
set_option maxRecDepth 20000 in
theorem ggX5_doWeighs_X5_in : GoodIn wsX5_doWeighs wsX5_in := goodIn_r _ [8] (by decide +kernel) (by decide +kernel)
set_option maxRecDepth 20000 in
theorem gX5_doWeighs_X5_in : GoodIn wsX5_doWeighs (va_wsS RX5 88 yX5_in wsX5_in) := goodIn_app (goodIn_of _ (by decide +kernel)) ggX5_doWeighs_X5_in
set_option maxRecDepth 20000 in
theorem ggX5_doWeighs_X5_isHost : GoodIn wsX5_doWeighs wsX5_isHost := goodIn_r _ [12, 1, 13, 14, 15, 16, 17, 18, 19, 20, 21, 22, 23, 24, 25, 26, 27, 28, 29, 30, 31] (by decide +kernel) (by decide +kernel)
set_option maxRecDepth 20000 in
theorem gX5_doWeighs_X5_isHost : GoodIn wsX5_doWeighs (wsV RX5 92 RX5 yX5_isHost wsX5_isHost) := goodIn_app (goodIn_of _ (by decide +kernel)) ggX5_doWeighs_X5_isHost
theorem dX5_doWeighs_0 : decode cX5_doWeighs 0 = .ok (.iload_n 1, 1) := by decide +kernel
theorem dX5_doWeighs_1 : decode cX5_doWeighs 1 = .ok (.invokestatic 95, 3) := by decide +kernel
theorem dX5_doWeighs_4 : decode cX5_doWeighs 4 = .ok (.ifCond .eq 12, 3) := by decide +kernel
theorem dX5_doWeighs_7 : decode cX5_doWeighs 7 = .ok (.iload_n 2, 1) := by decide +kernel
theorem dX5_doWeighs_8 : decode cX5_doWeighs 8 = .ok (.iconst 1, 1) := by decide +kernel
theorem dX5_doWeighs_9 : decode cX5_doWeighs 9 = .ok (.iconst 4, 1) := by decide +kernel
theorem dX5_doWeighs_10 : decode cX5_doWeighs 10 = .ok (.invokestatic 88, 3) := by decide +kernel
theorem dX5_doWeighs_13 : decode cX5_doWeighs 13 = .ok (.ifCond .ne 6, 3) := by decide +kernel
theorem dX5_doWeighs_16 : decode cX5_doWeighs 16 = .ok (.bipush (-2), 2) := by decide +kernel
theorem dX5_doWeighs_18 : decode cX5_doWeighs 18 = .ok (.ireturn, 1) := by decide +kernel
theorem dX5_doWeighs_19 : decode cX5_doWeighs 19 = .ok (.aload_n 0, 1) := by decide +kernel
theorem dX5_doWeighs_20 : decode cX5_doWeighs 20 = .ok (.iload_n 1, 1) := by decide +kernel
theorem dX5_doWeighs_21 : decode cX5_doWeighs 21 = .ok (.invokevirtual 92, 3) := by decide +kernel
theorem dX5_doWeighs_24 : decode cX5_doWeighs 24 = .ok (.ifCond .ne 6, 3) := by decide +kernel
theorem dX5_doWeighs_27 : decode cX5_doWeighs 27 = .ok (.bipush (-3), 2) := by decide +kernel
theorem dX5_doWeighs_29 : decode cX5_doWeighs 29 = .ok (.ireturn, 1) := by decide +kernel
theorem dX5_doWeighs_30 : decode cX5_doWeighs 30 = .ok (.aload_n 0, 1) := by decide +kernel
theorem dX5_doWeighs_31 : decode cX5_doWeighs 31 = .ok (.getfield 7, 3) := by decide +kernel
theorem dX5_doWeighs_34 : decode cX5_doWeighs 34 = .ok (.iload_n 1, 1) := by decide +kernel
theorem dX5_doWeighs_35 : decode cX5_doWeighs 35 = .ok (.iload_n 2, 1) := by decide +kernel
theorem dX5_doWeighs_36 : decode cX5_doWeighs 36 = .ok (.iastore, 1) := by decide +kernel
theorem dX5_doWeighs_37 : decode cX5_doWeighs 37 = .ok (.iconst 0, 1) := by decide +kernel
theorem dX5_doWeighs_38 : decode cX5_doWeighs 38 = .ok (.ireturn, 1) := by decide +kernel
set_option maxRecDepth 20000 in
theorem ggX5_doGoes_X5_isName : GoodIn wsX5_doGoes wsX5_isName := goodIn_r _ [5, 6, 7, 4, 8] (by decide +kernel) (by decide +kernel)
set_option maxRecDepth 20000 in
theorem gX5_doGoes_X5_isName : GoodIn wsX5_doGoes (va_wsS RX5 95 yX5_isName wsX5_isName) := goodIn_app (goodIn_of _ (by decide +kernel)) ggX5_doGoes_X5_isName
set_option maxRecDepth 20000 in
theorem ggX5_doGoes_X5_isHost : GoodIn wsX5_doGoes wsX5_isHost := goodIn_r _ [12, 1, 13, 14, 15, 16, 17, 18, 19, 20, 21, 22, 23, 24, 25, 26, 27, 28, 29, 30, 31] (by decide +kernel) (by decide +kernel)
set_option maxRecDepth 20000 in
theorem gX5_doGoes_X5_isHost : GoodIn wsX5_doGoes (wsV RX5 92 RX5 yX5_isHost wsX5_isHost) := goodIn_app (goodIn_of _ (by decide +kernel)) ggX5_doGoes_X5_isHost
theorem dX5_doGoes_0 : decode cX5_doGoes 0 = .ok (.iload_n 1, 1) := by decide +kernel
theorem dX5_doGoes_1 : decode cX5_doGoes 1 = .ok (.invokestatic 95, 3) := by decide +kernel
theorem dX5_doGoes_4 : decode cX5_doGoes 4 = .ok (.ifCond .ne 6, 3) := by decide +kernel
theorem dX5_doGoes_7 : decode cX5_doGoes 7 = .ok (.bipush (-2), 2) := by decide +kernel
theorem dX5_doGoes_9 : decode cX5_doGoes 9 = .ok (.ireturn, 1) := by decide +kernel
theorem dX5_doGoes_10 : decode cX5_doGoes 10 = .ok (.aload_n 0, 1) := by decide +kernel
theorem dX5_doGoes_11 : decode cX5_doGoes 11 = .ok (.iload_n 1, 1) := by decide +kernel
theorem dX5_doGoes_12 : decode cX5_doGoes 12 = .ok (.invokevirtual 92, 3) := by decide +kernel
theorem dX5_doGoes_15 : decode cX5_doGoes 15 = .ok (.ifCond .ne 6, 3) := by decide +kernel
theorem dX5_doGoes_18 : decode cX5_doGoes 18 = .ok (.bipush (-3), 2) := by decide +kernel
theorem dX5_doGoes_20 : decode cX5_doGoes 20 = .ok (.ireturn, 1) := by decide +kernel
theorem dX5_doGoes_21 : decode cX5_doGoes 21 = .ok (.aload_n 0, 1) := by decide +kernel
theorem dX5_doGoes_22 : decode cX5_doGoes 22 = .ok (.getfield 7, 3) := by decide +kernel
theorem dX5_doGoes_25 : decode cX5_doGoes 25 = .ok (.iload_n 1, 1) := by decide +kernel
theorem dX5_doGoes_26 : decode cX5_doGoes 26 = .ok (.iconst 0, 1) := by decide +kernel
theorem dX5_doGoes_27 : decode cX5_doGoes 27 = .ok (.iastore, 1) := by decide +kernel
theorem dX5_doGoes_28 : decode cX5_doGoes 28 = .ok (.iconst 0, 1) := by decide +kernel
theorem dX5_doGoes_29 : decode cX5_doGoes 29 = .ok (.ireturn, 1) := by decide +kernel
set_option maxRecDepth 20000 in
theorem ggX5_mayCome_X5_isKey : GoodIn wsX5_mayCome wsX5_isKey := goodIn_r _ [5, 6, 7, 4, 8] (by decide +kernel) (by decide +kernel)
set_option maxRecDepth 20000 in
theorem gX5_mayCome_X5_isKey : GoodIn wsX5_mayCome (va_wsS RX5 101 yX5_isKey wsX5_isKey) := goodIn_app (goodIn_of _ (by decide +kernel)) ggX5_mayCome_X5_isKey
set_option maxRecDepth 20000 in
theorem ggX5_mayCome_X5_rowOf : GoodIn wsX5_mayCome wsX5_rowOf := goodIn_r _ [12, 1, 13, 14, 15, 16, 17, 18, 19, 20, 21, 22, 23, 24, 25, 26, 27, 28, 29, 30, 31] (by decide +kernel) (by decide +kernel)
set_option maxRecDepth 20000 in
theorem gX5_mayCome_X5_rowOf : GoodIn wsX5_mayCome (wsV RX5 104 RX5 yX5_rowOf wsX5_rowOf) := goodIn_app (goodIn_of _ (by decide +kernel)) ggX5_mayCome_X5_rowOf
theorem dX5_mayCome_0 : decode cX5_mayCome 0 = .ok (.iload_n 1, 1) := by decide +kernel
theorem dX5_mayCome_1 : decode cX5_mayCome 1 = .ok (.invokestatic 101, 3) := by decide +kernel
theorem dX5_mayCome_4 : decode cX5_mayCome 4 = .ok (.ifCond .ne 6, 3) := by decide +kernel
theorem dX5_mayCome_7 : decode cX5_mayCome 7 = .ok (.bipush (-2), 2) := by decide +kernel
theorem dX5_mayCome_9 : decode cX5_mayCome 9 = .ok (.ireturn, 1) := by decide +kernel
theorem dX5_mayCome_10 : decode cX5_mayCome 10 = .ok (.aload_n 0, 1) := by decide +kernel
theorem dX5_mayCome_11 : decode cX5_mayCome 11 = .ok (.iload_n 1, 1) := by decide +kernel
theorem dX5_mayCome_12 : decode cX5_mayCome 12 = .ok (.invokevirtual 104, 3) := by decide +kernel
theorem dX5_mayCome_15 : decode cX5_mayCome 15 = .ok (.iconst (-1), 1) := by decide +kernel
theorem dX5_mayCome_16 : decode cX5_mayCome 16 = .ok (.if_icmp .eq 8, 3) := by decide +kernel
theorem dX5_mayCome_19 : decode cX5_mayCome 19 = .ok (.bipush (-3), 2) := by decide +kernel
theorem dX5_mayCome_21 : decode cX5_mayCome 21 = .ok (.goto 22, 3) := by decide +kernel
theorem dX5_mayCome_24 : decode cX5_mayCome 24 = .ok (.aload_n 0, 1) := by decide +kernel
theorem dX5_mayCome_25 : decode cX5_mayCome 25 = .ok (.getfield 7, 3) := by decide +kernel
theorem dX5_mayCome_28 : decode cX5_mayCome 28 = .ok (.sipush 140, 3) := by decide +kernel
theorem dX5_mayCome_31 : decode cX5_mayCome 31 = .ok (.iaload, 1) := by decide +kernel
theorem dX5_mayCome_32 : decode cX5_mayCome 32 = .ok (.bipush 40, 2) := by decide +kernel
theorem dX5_mayCome_34 : decode cX5_mayCome 34 = .ok (.if_icmp .ne 8, 3) := by decide +kernel
theorem dX5_mayCome_37 : decode cX5_mayCome 37 = .ok (.bipush (-4), 2) := by decide +kernel
theorem dX5_mayCome_39 : decode cX5_mayCome 39 = .ok (.goto 4, 3) := by decide +kernel
theorem dX5_mayCome_42 : decode cX5_mayCome 42 = .ok (.iconst 0, 1) := by decide +kernel
theorem dX5_mayCome_43 : decode cX5_mayCome 43 = .ok (.ireturn, 1) := by decide +kernel
set_option maxRecDepth 20000 in
theorem ggX5_doKey_X5_mayCome : GoodIn wsX5_doKey wsX5_mayCome := goodIn_r _ [6, 1, 7, 8, 5, 9, 10, 11, 12, 13, 14, 15, 16, 17, 18, 19, 20, 21, 22, 23, 24, 25, 26, 27, 28, 29, 30, 31, 32, 33, 34, 35] (by decide +kernel) (by decide +kernel)
set_option maxRecDepth 20000 in
theorem gX5_doKey_X5_mayCome : GoodIn wsX5_doKey (wsV RX5 107 RX5 yX5_mayCome wsX5_mayCome) := goodIn_app (goodIn_of _ (by decide +kernel)) ggX5_doKey_X5_mayCome
theorem dX5_doKey_0 : decode cX5_doKey 0 = .ok (.aload_n 0, 1) := by decide +kernel
theorem dX5_doKey_1 : decode cX5_doKey 1 = .ok (.iload_n 1, 1) := by decide +kernel
theorem dX5_doKey_2 : decode cX5_doKey 2 = .ok (.invokevirtual 107, 3) := by decide +kernel
theorem dX5_doKey_5 : decode cX5_doKey 5 = .ok (.istore_n 2, 1) := by decide +kernel
theorem dX5_doKey_6 : decode cX5_doKey 6 = .ok (.iload_n 2, 1) := by decide +kernel
theorem dX5_doKey_7 : decode cX5_doKey 7 = .ok (.ifCond .eq 5, 3) := by decide +kernel
theorem dX5_doKey_10 : decode cX5_doKey 10 = .ok (.iload_n 2, 1) := by decide +kernel
theorem dX5_doKey_11 : decode cX5_doKey 11 = .ok (.ireturn, 1) := by decide +kernel
theorem dX5_doKey_12 : decode cX5_doKey 12 = .ok (.aload_n 0, 1) := by decide +kernel
theorem dX5_doKey_13 : decode cX5_doKey 13 = .ok (.getfield 7, 3) := by decide +kernel
theorem dX5_doKey_16 : decode cX5_doKey 16 = .ok (.sipush 140, 3) := by decide +kernel
theorem dX5_doKey_19 : decode cX5_doKey 19 = .ok (.iaload, 1) := by decide +kernel
theorem dX5_doKey_20 : decode cX5_doKey 20 = .ok (.istore_n 3, 1) := by decide +kernel
theorem dX5_doKey_21 : decode cX5_doKey 21 = .ok (.iload_n 3, 1) := by decide +kernel
theorem dX5_doKey_22 : decode cX5_doKey 22 = .ok (.ifCond .le 44, 3) := by decide +kernel
theorem dX5_doKey_25 : decode cX5_doKey 25 = .ok (.aload_n 0, 1) := by decide +kernel
theorem dX5_doKey_26 : decode cX5_doKey 26 = .ok (.getfield 7, 3) := by decide +kernel
theorem dX5_doKey_29 : decode cX5_doKey 29 = .ok (.bipush 100, 2) := by decide +kernel
theorem dX5_doKey_31 : decode cX5_doKey 31 = .ok (.iload_n 3, 1) := by decide +kernel
theorem dX5_doKey_32 : decode cX5_doKey 32 = .ok (.iadd, 1) := by decide +kernel
theorem dX5_doKey_33 : decode cX5_doKey 33 = .ok (.iconst 1, 1) := by decide +kernel
theorem dX5_doKey_34 : decode cX5_doKey 34 = .ok (.isub, 1) := by decide +kernel
theorem dX5_doKey_35 : decode cX5_doKey 35 = .ok (.iaload, 1) := by decide +kernel
theorem dX5_doKey_36 : decode cX5_doKey 36 = .ok (.iload_n 1, 1) := by decide +kernel
theorem dX5_doKey_37 : decode cX5_doKey 37 = .ok (.if_icmp .le 29, 3) := by decide +kernel
theorem dX5_doKey_40 : decode cX5_doKey 40 = .ok (.aload_n 0, 1) := by decide +kernel
theorem dX5_doKey_41 : decode cX5_doKey 41 = .ok (.getfield 7, 3) := by decide +kernel
theorem dX5_doKey_44 : decode cX5_doKey 44 = .ok (.bipush 100, 2) := by decide +kernel
theorem dX5_doKey_46 : decode cX5_doKey 46 = .ok (.iload_n 3, 1) := by decide +kernel
theorem dX5_doKey_47 : decode cX5_doKey 47 = .ok (.iadd, 1) := by decide +kernel
theorem dX5_doKey_48 : decode cX5_doKey 48 = .ok (.aload_n 0, 1) := by decide +kernel
theorem dX5_doKey_49 : decode cX5_doKey 49 = .ok (.getfield 7, 3) := by decide +kernel
theorem dX5_doKey_52 : decode cX5_doKey 52 = .ok (.bipush 100, 2) := by decide +kernel
theorem dX5_doKey_54 : decode cX5_doKey 54 = .ok (.iload_n 3, 1) := by decide +kernel
theorem dX5_doKey_55 : decode cX5_doKey 55 = .ok (.iadd, 1) := by decide +kernel
theorem dX5_doKey_56 : decode cX5_doKey 56 = .ok (.iconst 1, 1) := by decide +kernel
theorem dX5_doKey_57 : decode cX5_doKey 57 = .ok (.isub, 1) := by decide +kernel
theorem dX5_doKey_58 : decode cX5_doKey 58 = .ok (.iaload, 1) := by decide +kernel
theorem dX5_doKey_59 : decode cX5_doKey 59 = .ok (.iastore, 1) := by decide +kernel
theorem dX5_doKey_60 : decode cX5_doKey 60 = .ok (.iinc 3 (-1), 3) := by decide +kernel
theorem dX5_doKey_63 : decode cX5_doKey 63 = .ok (.goto (-42), 3) := by decide +kernel
theorem dX5_doKey_66 : decode cX5_doKey 66 = .ok (.aload_n 0, 1) := by decide +kernel
theorem dX5_doKey_67 : decode cX5_doKey 67 = .ok (.getfield 7, 3) := by decide +kernel
theorem dX5_doKey_70 : decode cX5_doKey 70 = .ok (.bipush 100, 2) := by decide +kernel
theorem dX5_doKey_72 : decode cX5_doKey 72 = .ok (.iload_n 3, 1) := by decide +kernel
theorem dX5_doKey_73 : decode cX5_doKey 73 = .ok (.iadd, 1) := by decide +kernel
theorem dX5_doKey_74 : decode cX5_doKey 74 = .ok (.iload_n 1, 1) := by decide +kernel
theorem dX5_doKey_75 : decode cX5_doKey 75 = .ok (.iastore, 1) := by decide +kernel
theorem dX5_doKey_76 : decode cX5_doKey 76 = .ok (.aload_n 0, 1) := by decide +kernel
theorem dX5_doKey_77 : decode cX5_doKey 77 = .ok (.getfield 7, 3) := by decide +kernel
theorem dX5_doKey_80 : decode cX5_doKey 80 = .ok (.sipush 140, 3) := by decide +kernel
theorem dX5_doKey_83 : decode cX5_doKey 83 = .ok (.dup2, 1) := by decide +kernel
theorem dX5_doKey_84 : decode cX5_doKey 84 = .ok (.iaload, 1) := by decide +kernel
theorem dX5_doKey_85 : decode cX5_doKey 85 = .ok (.iconst 1, 1) := by decide +kernel
theorem dX5_doKey_86 : decode cX5_doKey 86 = .ok (.iadd, 1) := by decide +kernel
theorem dX5_doKey_87 : decode cX5_doKey 87 = .ok (.iastore, 1) := by decide +kernel
theorem dX5_doKey_88 : decode cX5_doKey 88 = .ok (.iconst 0, 1) := by decide +kernel
theorem dX5_doKey_89 : decode cX5_doKey 89 = .ok (.ireturn, 1) := by decide +kernel
set_option maxRecDepth 20000 in
theorem ggX5_doDrops_X5_isKey : GoodIn wsX5_doDrops wsX5_isKey := goodIn_r _ [5, 6, 7, 4, 8] (by decide +kernel) (by decide +kernel)
set_option maxRecDepth 20000 in
theorem gX5_doDrops_X5_isKey : GoodIn wsX5_doDrops (va_wsS RX5 101 yX5_isKey wsX5_isKey) := goodIn_app (goodIn_of _ (by decide +kernel)) ggX5_doDrops_X5_isKey
set_option maxRecDepth 20000 in
theorem ggX5_doDrops_X5_rowOf : GoodIn wsX5_doDrops wsX5_rowOf := goodIn_r _ [12, 1, 13, 14, 15, 16, 17, 18, 19, 20, 21, 22, 23, 24, 25, 26, 27, 28, 29, 30, 31] (by decide +kernel) (by decide +kernel)
set_option maxRecDepth 20000 in
theorem gX5_doDrops_X5_rowOf : GoodIn wsX5_doDrops (wsV RX5 104 RX5 yX5_rowOf wsX5_rowOf) := goodIn_app (goodIn_of _ (by decide +kernel)) ggX5_doDrops_X5_rowOf
theorem dX5_doDrops_0 : decode cX5_doDrops 0 = .ok (.iload_n 1, 1) := by decide +kernel
theorem dX5_doDrops_1 : decode cX5_doDrops 1 = .ok (.invokestatic 101, 3) := by decide +kernel
theorem dX5_doDrops_4 : decode cX5_doDrops 4 = .ok (.ifCond .ne 6, 3) := by decide +kernel
theorem dX5_doDrops_7 : decode cX5_doDrops 7 = .ok (.bipush (-2), 2) := by decide +kernel
theorem dX5_doDrops_9 : decode cX5_doDrops 9 = .ok (.ireturn, 1) := by decide +kernel
theorem dX5_doDrops_10 : decode cX5_doDrops 10 = .ok (.aload_n 0, 1) := by decide +kernel
theorem dX5_doDrops_11 : decode cX5_doDrops 11 = .ok (.iload_n 1, 1) := by decide +kernel
theorem dX5_doDrops_12 : decode cX5_doDrops 12 = .ok (.invokevirtual 104, 3) := by decide +kernel
theorem dX5_doDrops_15 : decode cX5_doDrops 15 = .ok (.istore_n 2, 1) := by decide +kernel
theorem dX5_doDrops_16 : decode cX5_doDrops 16 = .ok (.iload_n 2, 1) := by decide +kernel
theorem dX5_doDrops_17 : decode cX5_doDrops 17 = .ok (.iconst (-1), 1) := by decide +kernel
theorem dX5_doDrops_18 : decode cX5_doDrops 18 = .ok (.if_icmp .ne 6, 3) := by decide +kernel
theorem dX5_doDrops_21 : decode cX5_doDrops 21 = .ok (.bipush (-3), 2) := by decide +kernel
theorem dX5_doDrops_23 : decode cX5_doDrops 23 = .ok (.ireturn, 1) := by decide +kernel
theorem dX5_doDrops_24 : decode cX5_doDrops 24 = .ok (.aload_n 0, 1) := by decide +kernel
theorem dX5_doDrops_25 : decode cX5_doDrops 25 = .ok (.getfield 7, 3) := by decide +kernel
theorem dX5_doDrops_28 : decode cX5_doDrops 28 = .ok (.sipush 140, 3) := by decide +kernel
theorem dX5_doDrops_31 : decode cX5_doDrops 31 = .ok (.dup2, 1) := by decide +kernel
theorem dX5_doDrops_32 : decode cX5_doDrops 32 = .ok (.iaload, 1) := by decide +kernel
theorem dX5_doDrops_33 : decode cX5_doDrops 33 = .ok (.iconst 1, 1) := by decide +kernel
theorem dX5_doDrops_34 : decode cX5_doDrops 34 = .ok (.isub, 1) := by decide +kernel
theorem dX5_doDrops_35 : decode cX5_doDrops 35 = .ok (.iastore, 1) := by decide +kernel
theorem dX5_doDrops_36 : decode cX5_doDrops 36 = .ok (.iload_n 2, 1) := by decide +kernel
theorem dX5_doDrops_37 : decode cX5_doDrops 37 = .ok (.istore_n 3, 1) := by decide +kernel
theorem dX5_doDrops_38 : decode cX5_doDrops 38 = .ok (.iload_n 3, 1) := by decide +kernel
theorem dX5_doDrops_39 : decode cX5_doDrops 39 = .ok (.aload_n 0, 1) := by decide +kernel
theorem dX5_doDrops_40 : decode cX5_doDrops 40 = .ok (.getfield 7, 3) := by decide +kernel
theorem dX5_doDrops_43 : decode cX5_doDrops 43 = .ok (.sipush 140, 3) := by decide +kernel
theorem dX5_doDrops_46 : decode cX5_doDrops 46 = .ok (.iaload, 1) := by decide +kernel
theorem dX5_doDrops_47 : decode cX5_doDrops 47 = .ok (.if_icmp .ge 29, 3) := by decide +kernel
theorem dX5_doDrops_50 : decode cX5_doDrops 50 = .ok (.aload_n 0, 1) := by decide +kernel
theorem dX5_doDrops_51 : decode cX5_doDrops 51 = .ok (.getfield 7, 3) := by decide +kernel
theorem dX5_doDrops_54 : decode cX5_doDrops 54 = .ok (.bipush 100, 2) := by decide +kernel
theorem dX5_doDrops_56 : decode cX5_doDrops 56 = .ok (.iload_n 3, 1) := by decide +kernel
theorem dX5_doDrops_57 : decode cX5_doDrops 57 = .ok (.iadd, 1) := by decide +kernel
theorem dX5_doDrops_58 : decode cX5_doDrops 58 = .ok (.aload_n 0, 1) := by decide +kernel
theorem dX5_doDrops_59 : decode cX5_doDrops 59 = .ok (.getfield 7, 3) := by decide +kernel
theorem dX5_doDrops_62 : decode cX5_doDrops 62 = .ok (.bipush 100, 2) := by decide +kernel
theorem dX5_doDrops_64 : decode cX5_doDrops 64 = .ok (.iload_n 3, 1) := by decide +kernel
theorem dX5_doDrops_65 : decode cX5_doDrops 65 = .ok (.iadd, 1) := by decide +kernel
theorem dX5_doDrops_66 : decode cX5_doDrops 66 = .ok (.iconst 1, 1) := by decide +kernel
theorem dX5_doDrops_67 : decode cX5_doDrops 67 = .ok (.iadd, 1) := by decide +kernel
theorem dX5_doDrops_68 : decode cX5_doDrops 68 = .ok (.iaload, 1) := by decide +kernel
theorem dX5_doDrops_69 : decode cX5_doDrops 69 = .ok (.iastore, 1) := by decide +kernel
theorem dX5_doDrops_70 : decode cX5_doDrops 70 = .ok (.iinc 3 1, 3) := by decide +kernel
theorem dX5_doDrops_73 : decode cX5_doDrops 73 = .ok (.goto (-35), 3) := by decide +kernel
theorem dX5_doDrops_76 : decode cX5_doDrops 76 = .ok (.iconst 0, 1) := by decide +kernel
theorem dX5_doDrops_77 : decode cX5_doDrops 77 = .ok (.ireturn, 1) := by decide +kernel
set_option maxRecDepth 20000 in
theorem ggX5_doExtra_X5_in : GoodIn wsX5_doExtra wsX5_in := goodIn_r _ [5] (by decide +kernel) (by decide +kernel)
set_option maxRecDepth 20000 in
theorem gX5_doExtra_X5_in : GoodIn wsX5_doExtra (va_wsS RX5 88 yX5_in wsX5_in) := goodIn_app (goodIn_of _ (by decide +kernel)) ggX5_doExtra_X5_in
theorem dX5_doExtra_0 : decode cX5_doExtra 0 = .ok (.iload_n 1, 1) := by decide +kernel
theorem dX5_doExtra_1 : decode cX5_doExtra 1 = .ok (.iconst 0, 1) := by decide +kernel
theorem dX5_doExtra_2 : decode cX5_doExtra 2 = .ok (.sipush 200, 3) := by decide +kernel
theorem dX5_doExtra_5 : decode cX5_doExtra 5 = .ok (.invokestatic 88, 3) := by decide +kernel
theorem dX5_doExtra_8 : decode cX5_doExtra 8 = .ok (.ifCond .ne 6, 3) := by decide +kernel
theorem dX5_doExtra_11 : decode cX5_doExtra 11 = .ok (.bipush (-2), 2) := by decide +kernel
theorem dX5_doExtra_13 : decode cX5_doExtra 13 = .ok (.ireturn, 1) := by decide +kernel
theorem dX5_doExtra_14 : decode cX5_doExtra 14 = .ok (.aload_n 0, 1) := by decide +kernel
theorem dX5_doExtra_15 : decode cX5_doExtra 15 = .ok (.getfield 7, 3) := by decide +kernel
theorem dX5_doExtra_18 : decode cX5_doExtra 18 = .ok (.sipush 141, 3) := by decide +kernel
theorem dX5_doExtra_21 : decode cX5_doExtra 21 = .ok (.iload_n 1, 1) := by decide +kernel
theorem dX5_doExtra_22 : decode cX5_doExtra 22 = .ok (.iastore, 1) := by decide +kernel
theorem dX5_doExtra_23 : decode cX5_doExtra 23 = .ok (.iconst 0, 1) := by decide +kernel
theorem dX5_doExtra_24 : decode cX5_doExtra 24 = .ok (.ireturn, 1) := by decide +kernel
set_option maxRecDepth 20000 in
theorem ggX5_host_X5_hold : GoodIn wsX5_host wsX5_hold := goodIn_r _ [5, 6, 7, 8, 9, 76, 77, 78, 79, 80, 81, 82, 83, 84, 85, 86, 87, 88, 89, 90, 91, 92, 93, 94] (by decide +kernel) (by decide +kernel)
set_option maxRecDepth 20000 in
theorem gX5_host_X5_hold : GoodIn wsX5_host (wsV RX5 110 RX5 yX5_hold wsX5_hold) := goodIn_app (goodIn_of _ (by decide +kernel)) ggX5_host_X5_hold
set_option maxRecDepth 20000 in
theorem ggX5_host_X5_doHost : GoodIn wsX5_host wsX5_doHost := goodIn_r _ [13, 7, 14, 15, 4, 16, 17, 18, 19, 20, 21, 22, 23, 24, 25, 26, 27, 76, 77, 78, 79, 80, 81, 82, 83, 84, 85, 86, 87, 88, 89, 90, 91, 92, 93, 94] (by decide +kernel) (by decide +kernel)
set_option maxRecDepth 20000 in
theorem gX5_host_X5_doHost : GoodIn wsX5_host (wsV RX5 113 RX5 yX5_doHost wsX5_doHost) := goodIn_app (goodIn_of _ (by decide +kernel)) ggX5_host_X5_doHost
set_option maxRecDepth 20000 in
theorem ggX5_host_X5_ends : GoodIn wsX5_host wsX5_ends := goodIn_r _ [31, 7, 32, 33, 34, 4, 35, 36, 37, 38, 39, 40, 41, 42, 6, 43, 44, 45, 46, 47, 9, 48, 49, 50, 51, 52, 53, 54, 55, 56, 57, 58, 59, 60, 61, 62, 63, 64, 65, 66, 67, 68, 69, 70, 71, 72, 73, 74, 75, 8, 76, 77, 78, 79, 80, 81, 82, 83, 84, 85, 86, 87, 88, 89, 90, 91, 92, 93, 94] (by decide +kernel) (by decide +kernel)
set_option maxRecDepth 20000 in
theorem gX5_host_X5_ends : GoodIn wsX5_host (wsV RX5 116 RX5 yX5_ends wsX5_ends) := goodIn_app (goodIn_of _ (by decide +kernel)) ggX5_host_X5_ends
theorem dX5_host_0 : decode cX5_host 0 = .ok (.aload_n 0, 1) := by decide +kernel
theorem dX5_host_1 : decode cX5_host 1 = .ok (.invokevirtual 110, 3) := by decide +kernel
theorem dX5_host_4 : decode cX5_host 4 = .ok (.aload_n 0, 1) := by decide +kernel
theorem dX5_host_5 : decode cX5_host 5 = .ok (.aload_n 0, 1) := by decide +kernel
theorem dX5_host_6 : decode cX5_host 6 = .ok (.iload_n 1, 1) := by decide +kernel
theorem dX5_host_7 : decode cX5_host 7 = .ok (.iload_n 2, 1) := by decide +kernel
theorem dX5_host_8 : decode cX5_host 8 = .ok (.invokevirtual 113, 3) := by decide +kernel
theorem dX5_host_11 : decode cX5_host 11 = .ok (.invokevirtual 116, 3) := by decide +kernel
theorem dX5_host_14 : decode cX5_host 14 = .ok (.ireturn, 1) := by decide +kernel
set_option maxRecDepth 20000 in
theorem ggX5_weighs_X5_hold : GoodIn wsX5_weighs wsX5_hold := goodIn_r _ [5, 6, 7, 8, 9, 72, 73, 74, 75, 76, 77, 78, 79, 80, 81, 82, 83, 84, 85, 86, 87, 88, 89, 90] (by decide +kernel) (by decide +kernel)
set_option maxRecDepth 20000 in
theorem gX5_weighs_X5_hold : GoodIn wsX5_weighs (wsV RX5 110 RX5 yX5_hold wsX5_hold) := goodIn_app (goodIn_of _ (by decide +kernel)) ggX5_weighs_X5_hold
set_option maxRecDepth 20000 in
theorem ggX5_weighs_X5_doWeighs : GoodIn wsX5_weighs wsX5_doWeighs := goodIn_r _ [13, 7, 14, 15, 4, 16, 17, 18, 19, 20, 21, 22, 23, 72, 73, 74, 75, 76, 77, 78, 79, 80, 81, 82, 83, 84, 85, 86, 87, 88, 89, 90] (by decide +kernel) (by decide +kernel)
set_option maxRecDepth 20000 in
theorem gX5_weighs_X5_doWeighs : GoodIn wsX5_weighs (wsV RX5 119 RX5 yX5_doWeighs wsX5_doWeighs) := goodIn_app (goodIn_of _ (by decide +kernel)) ggX5_weighs_X5_doWeighs
set_option maxRecDepth 20000 in
theorem ggX5_weighs_X5_ends : GoodIn wsX5_weighs wsX5_ends := goodIn_r _ [27, 7, 28, 29, 30, 4, 31, 32, 33, 34, 35, 36, 37, 38, 6, 39, 40, 41, 42, 43, 9, 44, 45, 46, 47, 48, 49, 50, 51, 52, 53, 54, 55, 56, 57, 58, 59, 60, 61, 62, 63, 64, 65, 66, 67, 68, 69, 70, 71, 8, 72, 73, 74, 75, 76, 77, 78, 79, 80, 81, 82, 83, 84, 85, 86, 87, 88, 89, 90] (by decide +kernel) (by decide +kernel)
set_option maxRecDepth 20000 in
theorem gX5_weighs_X5_ends : GoodIn wsX5_weighs (wsV RX5 116 RX5 yX5_ends wsX5_ends) := goodIn_app (goodIn_of _ (by decide +kernel)) ggX5_weighs_X5_ends
theorem dX5_weighs_0 : decode cX5_weighs 0 = .ok (.aload_n 0, 1) := by decide +kernel
theorem dX5_weighs_1 : decode cX5_weighs 1 = .ok (.invokevirtual 110, 3) := by decide +kernel
theorem dX5_weighs_4 : decode cX5_weighs 4 = .ok (.aload_n 0, 1) := by decide +kernel
theorem dX5_weighs_5 : decode cX5_weighs 5 = .ok (.aload_n 0, 1) := by decide +kernel
theorem dX5_weighs_6 : decode cX5_weighs 6 = .ok (.iload_n 1, 1) := by decide +kernel
theorem dX5_weighs_7 : decode cX5_weighs 7 = .ok (.iload_n 2, 1) := by decide +kernel
theorem dX5_weighs_8 : decode cX5_weighs 8 = .ok (.invokevirtual 119, 3) := by decide +kernel
theorem dX5_weighs_11 : decode cX5_weighs 11 = .ok (.invokevirtual 116, 3) := by decide +kernel
theorem dX5_weighs_14 : decode cX5_weighs 14 = .ok (.ireturn, 1) := by decide +kernel
set_option maxRecDepth 20000 in
theorem ggX5_goes_X5_hold : GoodIn wsX5_goes wsX5_hold := goodIn_r _ [5, 6, 7, 8, 9, 72, 73, 74, 75, 76, 77, 78, 79, 80, 81, 82, 83, 84, 85, 86, 87, 88, 89, 90] (by decide +kernel) (by decide +kernel)
set_option maxRecDepth 20000 in
theorem gX5_goes_X5_hold : GoodIn wsX5_goes (wsV RX5 110 RX5 yX5_hold wsX5_hold) := goodIn_app (goodIn_of _ (by decide +kernel)) ggX5_goes_X5_hold
set_option maxRecDepth 20000 in
theorem ggX5_goes_X5_doGoes : GoodIn wsX5_goes wsX5_doGoes := goodIn_r _ [13, 7, 14, 15, 4, 16, 17, 18, 19, 20, 21, 22, 23, 72, 73, 74, 75, 76, 77, 78, 79, 80, 81, 82, 83, 84, 85, 86, 87, 88, 89, 90] (by decide +kernel) (by decide +kernel)
set_option maxRecDepth 20000 in
theorem gX5_goes_X5_doGoes : GoodIn wsX5_goes (wsV RX5 122 RX5 yX5_doGoes wsX5_doGoes) := goodIn_app (goodIn_of _ (by decide +kernel)) ggX5_goes_X5_doGoes
set_option maxRecDepth 20000 in
theorem ggX5_goes_X5_ends : GoodIn wsX5_goes wsX5_ends := goodIn_r _ [27, 7, 28, 29, 30, 4, 31, 32, 33, 34, 35, 36, 37, 38, 6, 39, 40, 41, 42, 43, 9, 44, 45, 46, 47, 48, 49, 50, 51, 52, 53, 54, 55, 56, 57, 58, 59, 60, 61, 62, 63, 64, 65, 66, 67, 68, 69, 70, 71, 8, 72, 73, 74, 75, 76, 77, 78, 79, 80, 81, 82, 83, 84, 85, 86, 87, 88, 89, 90] (by decide +kernel) (by decide +kernel)
set_option maxRecDepth 20000 in
theorem gX5_goes_X5_ends : GoodIn wsX5_goes (wsV RX5 116 RX5 yX5_ends wsX5_ends) := goodIn_app (goodIn_of _ (by decide +kernel)) ggX5_goes_X5_ends
theorem dX5_goes_0 : decode cX5_goes 0 = .ok (.aload_n 0, 1) := by decide +kernel
theorem dX5_goes_1 : decode cX5_goes 1 = .ok (.invokevirtual 110, 3) := by decide +kernel
theorem dX5_goes_4 : decode cX5_goes 4 = .ok (.aload_n 0, 1) := by decide +kernel
theorem dX5_goes_5 : decode cX5_goes 5 = .ok (.aload_n 0, 1) := by decide +kernel
theorem dX5_goes_6 : decode cX5_goes 6 = .ok (.iload_n 1, 1) := by decide +kernel
theorem dX5_goes_7 : decode cX5_goes 7 = .ok (.invokevirtual 122, 3) := by decide +kernel
theorem dX5_goes_10 : decode cX5_goes 10 = .ok (.invokevirtual 116, 3) := by decide +kernel
theorem dX5_goes_13 : decode cX5_goes 13 = .ok (.ireturn, 1) := by decide +kernel
set_option maxRecDepth 20000 in
theorem ggX5_key_X5_hold : GoodIn wsX5_key wsX5_hold := goodIn_r _ [6, 7, 8, 9, 1, 72, 73, 74, 75, 76, 77, 78, 79, 80, 81, 82, 83, 84, 85, 86, 87, 88, 89, 90] (by decide +kernel) (by decide +kernel)
set_option maxRecDepth 20000 in
theorem gX5_key_X5_hold : GoodIn wsX5_key (wsV RX5 110 RX5 yX5_hold wsX5_hold) := goodIn_app (goodIn_of _ (by decide +kernel)) ggX5_key_X5_hold
set_option maxRecDepth 20000 in
theorem ggX5_key_X5_doKey : GoodIn wsX5_key wsX5_doKey := goodIn_r _ [13, 8, 14, 15, 16, 5, 17, 18, 19, 20, 21, 22, 23, 24, 25, 26, 27, 72, 73, 74, 75, 76, 77, 78, 79, 80, 81, 82, 83, 84, 85, 86, 87, 88, 89, 90] (by decide +kernel) (by decide +kernel)
set_option maxRecDepth 20000 in
theorem gX5_key_X5_doKey : GoodIn wsX5_key (wsV RX5 125 RX5 yX5_doKey wsX5_doKey) := goodIn_app (goodIn_of _ (by decide +kernel)) ggX5_key_X5_doKey
set_option maxRecDepth 20000 in
theorem ggX5_key_X5_refuses : GoodIn wsX5_key wsX5_refuses := goodIn_r _ [31, 32, 72, 73, 74, 75, 76, 77, 78, 79, 80, 81, 82, 83, 84, 85, 86, 87, 88, 89, 90] (by decide +kernel) (by decide +kernel)
set_option maxRecDepth 20000 in
theorem gX5_key_X5_refuses : GoodIn wsX5_key (wsV RX5 82 RX5 yX5_refuses wsX5_refuses) := goodIn_app (goodIn_of _ (by decide +kernel)) ggX5_key_X5_refuses
set_option maxRecDepth 20000 in
theorem ggX5_key_X5_push : GoodIn wsX5_key wsX5_push := goodIn_r _ [36, 8, 37, 38, 7, 39, 40, 41, 5, 42, 43, 1, 44, 45, 46, 47, 48, 49, 50, 51, 52, 53, 54, 55, 56, 57, 58, 59, 60, 61, 62, 63, 64, 65, 66, 67, 68, 69, 70, 71, 9, 72, 73, 74, 75, 76, 77, 78, 79, 80, 81, 82, 83, 84, 85, 86, 87, 88, 89, 90] (by decide +kernel) (by decide +kernel)
set_option maxRecDepth 20000 in
theorem gX5_key_X5_push : GoodIn wsX5_key (wsV RX5 85 RX5 yX5_push wsX5_push) := goodIn_app (goodIn_of _ (by decide +kernel)) ggX5_key_X5_push
set_option maxRecDepth 20000 in
theorem ggX5_key_X5_rowOf : GoodIn wsX5_key wsX5_rowOf := goodIn_r _ [27, 8, 72, 73, 74, 75, 76, 77, 78, 79, 80, 81, 82, 83, 84, 85, 86, 87, 88, 89, 90] (by decide +kernel) (by decide +kernel)
set_option maxRecDepth 20000 in
theorem gX5_key_X5_rowOf : GoodIn wsX5_key (wsV RX5 104 RX5 yX5_rowOf wsX5_rowOf) := goodIn_app (goodIn_of _ (by decide +kernel)) ggX5_key_X5_rowOf
theorem dX5_key_0 : decode cX5_key 0 = .ok (.aload_n 0, 1) := by decide +kernel
theorem dX5_key_1 : decode cX5_key 1 = .ok (.invokevirtual 110, 3) := by decide +kernel
theorem dX5_key_4 : decode cX5_key 4 = .ok (.aload_n 0, 1) := by decide +kernel
theorem dX5_key_5 : decode cX5_key 5 = .ok (.iload_n 1, 1) := by decide +kernel
theorem dX5_key_6 : decode cX5_key 6 = .ok (.invokevirtual 125, 3) := by decide +kernel
theorem dX5_key_9 : decode cX5_key 9 = .ok (.istore_n 2, 1) := by decide +kernel
theorem dX5_key_10 : decode cX5_key 10 = .ok (.iload_n 2, 1) := by decide +kernel
theorem dX5_key_11 : decode cX5_key 11 = .ok (.ifCond .eq 9, 3) := by decide +kernel
theorem dX5_key_14 : decode cX5_key 14 = .ok (.aload_n 0, 1) := by decide +kernel
theorem dX5_key_15 : decode cX5_key 15 = .ok (.iload_n 2, 1) := by decide +kernel
theorem dX5_key_16 : decode cX5_key 16 = .ok (.invokevirtual 82, 3) := by decide +kernel
theorem dX5_key_19 : decode cX5_key 19 = .ok (.ireturn, 1) := by decide +kernel
theorem dX5_key_20 : decode cX5_key 20 = .ok (.aload_n 0, 1) := by decide +kernel
theorem dX5_key_21 : decode cX5_key 21 = .ok (.invokevirtual 85, 3) := by decide +kernel
theorem dX5_key_24 : decode cX5_key 24 = .ok (.aload_n 0, 1) := by decide +kernel
theorem dX5_key_25 : decode cX5_key 25 = .ok (.getfield 25, 3) := by decide +kernel
theorem dX5_key_28 : decode cX5_key 28 = .ok (.aload_n 0, 1) := by decide +kernel
theorem dX5_key_29 : decode cX5_key 29 = .ok (.iload_n 1, 1) := by decide +kernel
theorem dX5_key_30 : decode cX5_key 30 = .ok (.invokevirtual 104, 3) := by decide +kernel
theorem dX5_key_33 : decode cX5_key 33 = .ok (.iaload, 1) := by decide +kernel
theorem dX5_key_34 : decode cX5_key 34 = .ok (.ireturn, 1) := by decide +kernel
set_option maxRecDepth 20000 in
theorem ggX5_drops_X5_hold : GoodIn wsX5_drops wsX5_hold := goodIn_r _ [5, 6, 7, 8, 9, 72, 73, 74, 75, 76, 77, 78, 79, 80, 81, 82, 83, 84, 85, 86, 87, 88, 89, 90] (by decide +kernel) (by decide +kernel)
set_option maxRecDepth 20000 in
theorem gX5_drops_X5_hold : GoodIn wsX5_drops (wsV RX5 110 RX5 yX5_hold wsX5_hold) := goodIn_app (goodIn_of _ (by decide +kernel)) ggX5_drops_X5_hold
set_option maxRecDepth 20000 in
theorem ggX5_drops_X5_doDrops : GoodIn wsX5_drops wsX5_doDrops := goodIn_r _ [13, 7, 14, 15, 4, 16, 17, 18, 19, 20, 21, 22, 23, 72, 73, 74, 75, 76, 77, 78, 79, 80, 81, 82, 83, 84, 85, 86, 87, 88, 89, 90] (by decide +kernel) (by decide +kernel)
set_option maxRecDepth 20000 in
theorem gX5_drops_X5_doDrops : GoodIn wsX5_drops (wsV RX5 128 RX5 yX5_doDrops wsX5_doDrops) := goodIn_app (goodIn_of _ (by decide +kernel)) ggX5_drops_X5_doDrops
set_option maxRecDepth 20000 in
theorem ggX5_drops_X5_ends : GoodIn wsX5_drops wsX5_ends := goodIn_r _ [27, 7, 28, 29, 30, 4, 31, 32, 33, 34, 35, 36, 37, 38, 6, 39, 40, 41, 42, 43, 9, 44, 45, 46, 47, 48, 49, 50, 51, 52, 53, 54, 55, 56, 57, 58, 59, 60, 61, 62, 63, 64, 65, 66, 67, 68, 69, 70, 71, 8, 72, 73, 74, 75, 76, 77, 78, 79, 80, 81, 82, 83, 84, 85, 86, 87, 88, 89, 90] (by decide +kernel) (by decide +kernel)
set_option maxRecDepth 20000 in
theorem gX5_drops_X5_ends : GoodIn wsX5_drops (wsV RX5 116 RX5 yX5_ends wsX5_ends) := goodIn_app (goodIn_of _ (by decide +kernel)) ggX5_drops_X5_ends
theorem dX5_drops_0 : decode cX5_drops 0 = .ok (.aload_n 0, 1) := by decide +kernel
theorem dX5_drops_1 : decode cX5_drops 1 = .ok (.invokevirtual 110, 3) := by decide +kernel
theorem dX5_drops_4 : decode cX5_drops 4 = .ok (.aload_n 0, 1) := by decide +kernel
theorem dX5_drops_5 : decode cX5_drops 5 = .ok (.aload_n 0, 1) := by decide +kernel
theorem dX5_drops_6 : decode cX5_drops 6 = .ok (.iload_n 1, 1) := by decide +kernel
theorem dX5_drops_7 : decode cX5_drops 7 = .ok (.invokevirtual 128, 3) := by decide +kernel
theorem dX5_drops_10 : decode cX5_drops 10 = .ok (.invokevirtual 116, 3) := by decide +kernel
theorem dX5_drops_13 : decode cX5_drops 13 = .ok (.ireturn, 1) := by decide +kernel
set_option maxRecDepth 20000 in
theorem ggX5_extra_X5_hold : GoodIn wsX5_extra wsX5_hold := goodIn_r _ [5, 6, 7, 8, 9, 65, 66, 67, 68, 69, 70, 71, 72, 73, 74, 75, 76, 77, 78, 79, 80, 81, 82, 83] (by decide +kernel) (by decide +kernel)
set_option maxRecDepth 20000 in
theorem gX5_extra_X5_hold : GoodIn wsX5_extra (wsV RX5 110 RX5 yX5_hold wsX5_hold) := goodIn_app (goodIn_of _ (by decide +kernel)) ggX5_extra_X5_hold
set_option maxRecDepth 20000 in
theorem ggX5_extra_X5_doExtra : GoodIn wsX5_extra wsX5_doExtra := goodIn_r _ [13, 7, 14, 15, 4, 16, 65, 66, 67, 68, 69, 70, 71, 72, 73, 74, 75, 76, 77, 78, 79, 80, 81, 82, 83] (by decide +kernel) (by decide +kernel)
set_option maxRecDepth 20000 in
theorem gX5_extra_X5_doExtra : GoodIn wsX5_extra (wsV RX5 131 RX5 yX5_doExtra wsX5_doExtra) := goodIn_app (goodIn_of _ (by decide +kernel)) ggX5_extra_X5_doExtra
set_option maxRecDepth 20000 in
theorem ggX5_extra_X5_ends : GoodIn wsX5_extra wsX5_ends := goodIn_r _ [20, 7, 21, 22, 23, 4, 24, 25, 26, 27, 28, 29, 30, 31, 6, 32, 33, 34, 35, 36, 9, 37, 38, 39, 40, 41, 42, 43, 44, 45, 46, 47, 48, 49, 50, 51, 52, 53, 54, 55, 56, 57, 58, 59, 60, 61, 62, 63, 64, 8, 65, 66, 67, 68, 69, 70, 71, 72, 73, 74, 75, 76, 77, 78, 79, 80, 81, 82, 83] (by decide +kernel) (by decide +kernel)
set_option maxRecDepth 20000 in
theorem gX5_extra_X5_ends : GoodIn wsX5_extra (wsV RX5 116 RX5 yX5_ends wsX5_ends) := goodIn_app (goodIn_of _ (by decide +kernel)) ggX5_extra_X5_ends
theorem dX5_extra_0 : decode cX5_extra 0 = .ok (.aload_n 0, 1) := by decide +kernel
theorem dX5_extra_1 : decode cX5_extra 1 = .ok (.invokevirtual 110, 3) := by decide +kernel
theorem dX5_extra_4 : decode cX5_extra 4 = .ok (.aload_n 0, 1) := by decide +kernel
theorem dX5_extra_5 : decode cX5_extra 5 = .ok (.aload_n 0, 1) := by decide +kernel
theorem dX5_extra_6 : decode cX5_extra 6 = .ok (.iload_n 1, 1) := by decide +kernel
theorem dX5_extra_7 : decode cX5_extra 7 = .ok (.invokevirtual 131, 3) := by decide +kernel
theorem dX5_extra_10 : decode cX5_extra 10 = .ok (.invokevirtual 116, 3) := by decide +kernel
theorem dX5_extra_13 : decode cX5_extra 13 = .ok (.ireturn, 1) := by decide +kernel
set_option maxRecDepth 20000 in
theorem ggX5_ofHost_X5_bound : GoodIn wsX5_ofHost wsX5_bound := goodIn_r _ [8, 1, 9, 10, 11, 7, 12, 13, 14, 15, 16, 17, 18, 19, 20, 21, 22, 23, 24, 25, 26, 27, 28, 29, 30, 31] (by decide +kernel) (by decide +kernel)
set_option maxRecDepth 20000 in
theorem gX5_ofHost_X5_bound : GoodIn wsX5_ofHost (wsV RX5 72 RX5 yX5_bound wsX5_bound) := goodIn_app (goodIn_of _ (by decide +kernel)) ggX5_ofHost_X5_bound
theorem dX5_ofHost_0 : decode cX5_ofHost 0 = .ok (.iload_n 2, 1) := by decide +kernel
theorem dX5_ofHost_1 : decode cX5_ofHost 1 = .ok (.iconst 3, 1) := by decide +kernel
theorem dX5_ofHost_2 : decode cX5_ofHost 2 = .ok (.if_icmp .ge 36, 3) := by decide +kernel
theorem dX5_ofHost_5 : decode cX5_ofHost 5 = .ok (.iload_n 2, 1) := by decide +kernel
theorem dX5_ofHost_6 : decode cX5_ofHost 6 = .ok (.ifCond .ne 12, 3) := by decide +kernel
theorem dX5_ofHost_9 : decode cX5_ofHost 9 = .ok (.aload_n 0, 1) := by decide +kernel
theorem dX5_ofHost_10 : decode cX5_ofHost 10 = .ok (.getfield 7, 3) := by decide +kernel
theorem dX5_ofHost_13 : decode cX5_ofHost 13 = .ok (.iload_n 1, 1) := by decide +kernel
theorem dX5_ofHost_14 : decode cX5_ofHost 14 = .ok (.iaload, 1) := by decide +kernel
theorem dX5_ofHost_15 : decode cX5_ofHost 15 = .ok (.goto 22, 3) := by decide +kernel
theorem dX5_ofHost_18 : decode cX5_ofHost 18 = .ok (.iload_n 2, 1) := by decide +kernel
theorem dX5_ofHost_19 : decode cX5_ofHost 19 = .ok (.iconst 1, 1) := by decide +kernel
theorem dX5_ofHost_20 : decode cX5_ofHost 20 = .ok (.if_icmp .ne 11, 3) := by decide +kernel
theorem dX5_ofHost_23 : decode cX5_ofHost 23 = .ok (.aload_n 0, 1) := by decide +kernel
theorem dX5_ofHost_24 : decode cX5_ofHost 24 = .ok (.iload_n 1, 1) := by decide +kernel
theorem dX5_ofHost_25 : decode cX5_ofHost 25 = .ok (.invokevirtual 72, 3) := by decide +kernel
theorem dX5_ofHost_28 : decode cX5_ofHost 28 = .ok (.goto 9, 3) := by decide +kernel
theorem dX5_ofHost_31 : decode cX5_ofHost 31 = .ok (.aload_n 0, 1) := by decide +kernel
theorem dX5_ofHost_32 : decode cX5_ofHost 32 = .ok (.getfield 31, 3) := by decide +kernel
theorem dX5_ofHost_35 : decode cX5_ofHost 35 = .ok (.iload_n 1, 1) := by decide +kernel
theorem dX5_ofHost_36 : decode cX5_ofHost 36 = .ok (.iaload, 1) := by decide +kernel
theorem dX5_ofHost_37 : decode cX5_ofHost 37 = .ok (.ireturn, 1) := by decide +kernel
theorem dX5_ofHost_38 : decode cX5_ofHost 38 = .ok (.iload_n 2, 1) := by decide +kernel
theorem dX5_ofHost_39 : decode cX5_ofHost 39 = .ok (.iconst 3, 1) := by decide +kernel
theorem dX5_ofHost_40 : decode cX5_ofHost 40 = .ok (.isub, 1) := by decide +kernel
theorem dX5_ofHost_41 : decode cX5_ofHost 41 = .ok (.istore_n 3, 1) := by decide +kernel
theorem dX5_ofHost_42 : decode cX5_ofHost 42 = .ok (.iconst 0, 1) := by decide +kernel
theorem dX5_ofHost_43 : decode cX5_ofHost 43 = .ok (.istore 4, 2) := by decide +kernel
theorem dX5_ofHost_45 : decode cX5_ofHost 45 = .ok (.iload 4, 2) := by decide +kernel
theorem dX5_ofHost_47 : decode cX5_ofHost 47 = .ok (.aload_n 0, 1) := by decide +kernel
theorem dX5_ofHost_48 : decode cX5_ofHost 48 = .ok (.getfield 7, 3) := by decide +kernel
theorem dX5_ofHost_51 : decode cX5_ofHost 51 = .ok (.sipush 140, 3) := by decide +kernel
theorem dX5_ofHost_54 : decode cX5_ofHost 54 = .ok (.iaload, 1) := by decide +kernel
theorem dX5_ofHost_55 : decode cX5_ofHost 55 = .ok (.if_icmp .ge 38, 3) := by decide +kernel
theorem dX5_ofHost_58 : decode cX5_ofHost 58 = .ok (.aload_n 0, 1) := by decide +kernel
theorem dX5_ofHost_59 : decode cX5_ofHost 59 = .ok (.getfield 25, 3) := by decide +kernel
theorem dX5_ofHost_62 : decode cX5_ofHost 62 = .ok (.iload 4, 2) := by decide +kernel
theorem dX5_ofHost_64 : decode cX5_ofHost 64 = .ok (.iaload, 1) := by decide +kernel
theorem dX5_ofHost_65 : decode cX5_ofHost 65 = .ok (.iload_n 1, 1) := by decide +kernel
theorem dX5_ofHost_66 : decode cX5_ofHost 66 = .ok (.if_icmp .ne 21, 3) := by decide +kernel
theorem dX5_ofHost_69 : decode cX5_ofHost 69 = .ok (.iload_n 3, 1) := by decide +kernel
theorem dX5_ofHost_70 : decode cX5_ofHost 70 = .ok (.ifCond .ne 14, 3) := by decide +kernel
theorem dX5_ofHost_73 : decode cX5_ofHost 73 = .ok (.aload_n 0, 1) := by decide +kernel
theorem dX5_ofHost_74 : decode cX5_ofHost 74 = .ok (.getfield 7, 3) := by decide +kernel
theorem dX5_ofHost_77 : decode cX5_ofHost 77 = .ok (.bipush 100, 2) := by decide +kernel
theorem dX5_ofHost_79 : decode cX5_ofHost 79 = .ok (.iload 4, 2) := by decide +kernel
theorem dX5_ofHost_81 : decode cX5_ofHost 81 = .ok (.iadd, 1) := by decide +kernel
theorem dX5_ofHost_82 : decode cX5_ofHost 82 = .ok (.iaload, 1) := by decide +kernel
theorem dX5_ofHost_83 : decode cX5_ofHost 83 = .ok (.ireturn, 1) := by decide +kernel
theorem dX5_ofHost_84 : decode cX5_ofHost 84 = .ok (.iinc 3 (-1), 3) := by decide +kernel
theorem dX5_ofHost_87 : decode cX5_ofHost 87 = .ok (.iinc 4 1, 3) := by decide +kernel
theorem dX5_ofHost_90 : decode cX5_ofHost 90 = .ok (.goto (-45), 3) := by decide +kernel
theorem dX5_ofHost_93 : decode cX5_ofHost 93 = .ok (.iconst (-1), 1) := by decide +kernel
theorem dX5_ofHost_94 : decode cX5_ofHost 94 = .ok (.ireturn, 1) := by decide +kernel
set_option maxRecDepth 20000 in
theorem ggX5_of_X5_isName : GoodIn wsX5_of wsX5_isName := goodIn_r _ [4, 5, 6, 3, 7] (by decide +kernel) (by decide +kernel)
set_option maxRecDepth 20000 in
theorem gX5_of_X5_isName : GoodIn wsX5_of (va_wsS RX5 95 yX5_isName wsX5_isName) := goodIn_app (goodIn_of _ (by decide +kernel)) ggX5_of_X5_isName
set_option maxRecDepth 20000 in
theorem ggX5_of_X5_in : GoodIn wsX5_of wsX5_in := goodIn_r _ [7] (by decide +kernel) (by decide +kernel)
set_option maxRecDepth 20000 in
theorem gX5_of_X5_in : GoodIn wsX5_of (va_wsS RX5 88 yX5_in wsX5_in) := goodIn_app (goodIn_of _ (by decide +kernel)) ggX5_of_X5_in
set_option maxRecDepth 20000 in
theorem ggX5_of_X5_refuses : GoodIn wsX5_of wsX5_refuses := goodIn_r _ [11, 12, 32, 33, 34, 35, 36, 37, 38, 39, 40, 41, 42, 43, 44, 45, 46, 47, 48, 49, 50] (by decide +kernel) (by decide +kernel)
set_option maxRecDepth 20000 in
theorem gX5_of_X5_refuses : GoodIn wsX5_of (wsV RX5 82 RX5 yX5_refuses wsX5_refuses) := goodIn_app (goodIn_of _ (by decide +kernel)) ggX5_of_X5_refuses
set_option maxRecDepth 20000 in
theorem ggX5_of_X5_isHost : GoodIn wsX5_of wsX5_isHost := goodIn_r _ [16, 17, 32, 33, 34, 35, 36, 37, 38, 39, 40, 41, 42, 43, 44, 45, 46, 47, 48, 49, 50] (by decide +kernel) (by decide +kernel)
set_option maxRecDepth 20000 in
theorem gX5_of_X5_isHost : GoodIn wsX5_of (wsV RX5 92 RX5 yX5_isHost wsX5_isHost) := goodIn_app (goodIn_of _ (by decide +kernel)) ggX5_of_X5_isHost
set_option maxRecDepth 20000 in
theorem ggX5_of_X5_ofHost : GoodIn wsX5_of wsX5_ofHost := goodIn_r _ [21, 17, 22, 23, 24, 25, 26, 3, 27, 28, 29, 30, 31, 32, 33, 34, 35, 36, 37, 38, 39, 40, 41, 42, 43, 44, 45, 46, 47, 48, 49, 50] (by decide +kernel) (by decide +kernel)
set_option maxRecDepth 20000 in
theorem gX5_of_X5_ofHost : GoodIn wsX5_of (wsV RX5 134 RX5 yX5_ofHost wsX5_ofHost) := goodIn_app (goodIn_of _ (by decide +kernel)) ggX5_of_X5_ofHost
theorem dX5_of_0 : decode cX5_of 0 = .ok (.iload_n 1, 1) := by decide +kernel
theorem dX5_of_1 : decode cX5_of 1 = .ok (.invokestatic 95, 3) := by decide +kernel
theorem dX5_of_4 : decode cX5_of 4 = .ok (.ifCond .eq 13, 3) := by decide +kernel
theorem dX5_of_7 : decode cX5_of 7 = .ok (.iload_n 2, 1) := by decide +kernel
theorem dX5_of_8 : decode cX5_of 8 = .ok (.iconst 0, 1) := by decide +kernel
theorem dX5_of_9 : decode cX5_of 9 = .ok (.bipush 42, 2) := by decide +kernel
theorem dX5_of_11 : decode cX5_of 11 = .ok (.invokestatic 88, 3) := by decide +kernel
theorem dX5_of_14 : decode cX5_of 14 = .ok (.ifCond .ne 10, 3) := by decide +kernel
theorem dX5_of_17 : decode cX5_of 17 = .ok (.aload_n 0, 1) := by decide +kernel
theorem dX5_of_18 : decode cX5_of 18 = .ok (.bipush (-2), 2) := by decide +kernel
theorem dX5_of_20 : decode cX5_of 20 = .ok (.invokevirtual 82, 3) := by decide +kernel
theorem dX5_of_23 : decode cX5_of 23 = .ok (.ireturn, 1) := by decide +kernel
theorem dX5_of_24 : decode cX5_of 24 = .ok (.aload_n 0, 1) := by decide +kernel
theorem dX5_of_25 : decode cX5_of 25 = .ok (.iload_n 1, 1) := by decide +kernel
theorem dX5_of_26 : decode cX5_of 26 = .ok (.invokevirtual 92, 3) := by decide +kernel
theorem dX5_of_29 : decode cX5_of 29 = .ok (.ifCond .eq 12, 3) := by decide +kernel
theorem dX5_of_32 : decode cX5_of 32 = .ok (.aload_n 0, 1) := by decide +kernel
theorem dX5_of_33 : decode cX5_of 33 = .ok (.iload_n 1, 1) := by decide +kernel
theorem dX5_of_34 : decode cX5_of 34 = .ok (.iload_n 2, 1) := by decide +kernel
theorem dX5_of_35 : decode cX5_of 35 = .ok (.invokevirtual 134, 3) := by decide +kernel
theorem dX5_of_38 : decode cX5_of 38 = .ok (.goto 9, 3) := by decide +kernel
theorem dX5_of_41 : decode cX5_of 41 = .ok (.aload_n 0, 1) := by decide +kernel
theorem dX5_of_42 : decode cX5_of 42 = .ok (.bipush (-3), 2) := by decide +kernel
theorem dX5_of_44 : decode cX5_of 44 = .ok (.invokevirtual 82, 3) := by decide +kernel
theorem dX5_of_47 : decode cX5_of 47 = .ok (.ireturn, 1) := by decide +kernel
set_option maxRecDepth 20000 in
theorem ggX5_mark_X5_isName : GoodIn wsX5_mark wsX5_isName := goodIn_r _ [5, 6, 7, 4, 8] (by decide +kernel) (by decide +kernel)
set_option maxRecDepth 20000 in
theorem gX5_mark_X5_isName : GoodIn wsX5_mark (va_wsS RX5 95 yX5_isName wsX5_isName) := goodIn_app (goodIn_of _ (by decide +kernel)) ggX5_mark_X5_isName
set_option maxRecDepth 20000 in
theorem ggX5_mark_X5_in : GoodIn wsX5_mark wsX5_in := goodIn_r _ [8] (by decide +kernel) (by decide +kernel)
set_option maxRecDepth 20000 in
theorem gX5_mark_X5_in : GoodIn wsX5_mark (va_wsS RX5 88 yX5_in wsX5_in) := goodIn_app (goodIn_of _ (by decide +kernel)) ggX5_mark_X5_in
set_option maxRecDepth 20000 in
theorem ggX5_mark_X5_refuses : GoodIn wsX5_mark wsX5_refuses := goodIn_r _ [12, 13, 26, 27, 28, 29, 30, 31, 32, 33, 34, 35, 36, 37, 38, 39, 40, 41, 42, 43, 44] (by decide +kernel) (by decide +kernel)
set_option maxRecDepth 20000 in
theorem gX5_mark_X5_refuses : GoodIn wsX5_mark (wsV RX5 82 RX5 yX5_refuses wsX5_refuses) := goodIn_app (goodIn_of _ (by decide +kernel)) ggX5_mark_X5_refuses
set_option maxRecDepth 20000 in
theorem ggX5_mark_X5_isHost : GoodIn wsX5_mark wsX5_isHost := goodIn_r _ [17, 1, 26, 27, 28, 29, 30, 31, 32, 33, 34, 35, 36, 37, 38, 39, 40, 41, 42, 43, 44] (by decide +kernel) (by decide +kernel)
set_option maxRecDepth 20000 in
theorem gX5_mark_X5_isHost : GoodIn wsX5_mark (wsV RX5 92 RX5 yX5_isHost wsX5_isHost) := goodIn_app (goodIn_of _ (by decide +kernel)) ggX5_mark_X5_isHost
set_option maxRecDepth 20000 in
theorem ggX5_mark_X5_markOf : GoodIn wsX5_mark wsX5_markOf := goodIn_r _ [21, 22, 1, 23, 24, 4, 25, 26, 27, 28, 29, 30, 31, 32, 33, 34, 35, 36, 37, 38, 39, 40, 41, 42, 43, 44] (by decide +kernel) (by decide +kernel)
set_option maxRecDepth 20000 in
theorem gX5_mark_X5_markOf : GoodIn wsX5_mark (wsV RX5 137 RX5 yX5_markOf wsX5_markOf) := goodIn_app (goodIn_of _ (by decide +kernel)) ggX5_mark_X5_markOf
theorem dX5_mark_0 : decode cX5_mark 0 = .ok (.iload_n 1, 1) := by decide +kernel
theorem dX5_mark_1 : decode cX5_mark 1 = .ok (.invokestatic 95, 3) := by decide +kernel
theorem dX5_mark_4 : decode cX5_mark 4 = .ok (.ifCond .eq 13, 3) := by decide +kernel
theorem dX5_mark_7 : decode cX5_mark 7 = .ok (.iload_n 2, 1) := by decide +kernel
theorem dX5_mark_8 : decode cX5_mark 8 = .ok (.iconst 0, 1) := by decide +kernel
theorem dX5_mark_9 : decode cX5_mark 9 = .ok (.bipush 7, 2) := by decide +kernel
theorem dX5_mark_11 : decode cX5_mark 11 = .ok (.invokestatic 88, 3) := by decide +kernel
theorem dX5_mark_14 : decode cX5_mark 14 = .ok (.ifCond .ne 10, 3) := by decide +kernel
theorem dX5_mark_17 : decode cX5_mark 17 = .ok (.aload_n 0, 1) := by decide +kernel
theorem dX5_mark_18 : decode cX5_mark 18 = .ok (.bipush (-2), 2) := by decide +kernel
theorem dX5_mark_20 : decode cX5_mark 20 = .ok (.invokevirtual 82, 3) := by decide +kernel
theorem dX5_mark_23 : decode cX5_mark 23 = .ok (.ireturn, 1) := by decide +kernel
theorem dX5_mark_24 : decode cX5_mark 24 = .ok (.aload_n 0, 1) := by decide +kernel
theorem dX5_mark_25 : decode cX5_mark 25 = .ok (.iload_n 1, 1) := by decide +kernel
theorem dX5_mark_26 : decode cX5_mark 26 = .ok (.invokevirtual 92, 3) := by decide +kernel
theorem dX5_mark_29 : decode cX5_mark 29 = .ok (.ifCond .ne 10, 3) := by decide +kernel
theorem dX5_mark_32 : decode cX5_mark 32 = .ok (.aload_n 0, 1) := by decide +kernel
theorem dX5_mark_33 : decode cX5_mark 33 = .ok (.bipush (-3), 2) := by decide +kernel
theorem dX5_mark_35 : decode cX5_mark 35 = .ok (.invokevirtual 82, 3) := by decide +kernel
theorem dX5_mark_38 : decode cX5_mark 38 = .ok (.ireturn, 1) := by decide +kernel
theorem dX5_mark_39 : decode cX5_mark 39 = .ok (.iload_n 2, 1) := by decide +kernel
theorem dX5_mark_40 : decode cX5_mark 40 = .ok (.iconst 2, 1) := by decide +kernel
theorem dX5_mark_41 : decode cX5_mark 41 = .ok (.aload_n 0, 1) := by decide +kernel
theorem dX5_mark_42 : decode cX5_mark 42 = .ok (.getfield 7, 3) := by decide +kernel
theorem dX5_mark_45 : decode cX5_mark 45 = .ok (.iload_n 1, 1) := by decide +kernel
theorem dX5_mark_46 : decode cX5_mark 46 = .ok (.iaload, 1) := by decide +kernel
theorem dX5_mark_47 : decode cX5_mark 47 = .ok (.imul, 1) := by decide +kernel
theorem dX5_mark_48 : decode cX5_mark 48 = .ok (.if_icmp .ge 12, 3) := by decide +kernel
theorem dX5_mark_51 : decode cX5_mark 51 = .ok (.aload_n 0, 1) := by decide +kernel
theorem dX5_mark_52 : decode cX5_mark 52 = .ok (.iload_n 1, 1) := by decide +kernel
theorem dX5_mark_53 : decode cX5_mark 53 = .ok (.iload_n 2, 1) := by decide +kernel
theorem dX5_mark_54 : decode cX5_mark 54 = .ok (.invokevirtual 137, 3) := by decide +kernel
theorem dX5_mark_57 : decode cX5_mark 57 = .ok (.goto 4, 3) := by decide +kernel
theorem dX5_mark_60 : decode cX5_mark 60 = .ok (.iconst (-1), 1) := by decide +kernel
theorem dX5_mark_61 : decode cX5_mark 61 = .ok (.ireturn, 1) := by decide +kernel
set_option maxRecDepth 20000 in
theorem ggX5_markOf_X5_first : GoodIn wsX5_markOf wsX5_first := goodIn_r _ [6] (by decide +kernel) (by decide +kernel)
set_option maxRecDepth 20000 in
theorem gX5_markOf_X5_first : GoodIn wsX5_markOf (va_wsS RX5 57 yX5_first wsX5_first) := goodIn_app (goodIn_of _ (by decide +kernel)) ggX5_markOf_X5_first
theorem dX5_markOf_0 : decode cX5_markOf 0 = .ok (.iconst 0, 1) := by decide +kernel
theorem dX5_markOf_1 : decode cX5_markOf 1 = .ok (.istore_n 3, 1) := by decide +kernel
theorem dX5_markOf_2 : decode cX5_markOf 2 = .ok (.iload_n 3, 1) := by decide +kernel
theorem dX5_markOf_3 : decode cX5_markOf 3 = .ok (.bipush 101, 2) := by decide +kernel
theorem dX5_markOf_5 : decode cX5_markOf 5 = .ok (.if_icmp .ge 16, 3) := by decide +kernel
theorem dX5_markOf_8 : decode cX5_markOf 8 = .ok (.aload_n 0, 1) := by decide +kernel
theorem dX5_markOf_9 : decode cX5_markOf 9 = .ok (.getfield 37, 3) := by decide +kernel
theorem dX5_markOf_12 : decode cX5_markOf 12 = .ok (.iload_n 3, 1) := by decide +kernel
theorem dX5_markOf_13 : decode cX5_markOf 13 = .ok (.iconst 0, 1) := by decide +kernel
theorem dX5_markOf_14 : decode cX5_markOf 14 = .ok (.bastore, 1) := by decide +kernel
theorem dX5_markOf_15 : decode cX5_markOf 15 = .ok (.iinc 3 1, 3) := by decide +kernel
theorem dX5_markOf_18 : decode cX5_markOf 18 = .ok (.goto (-16), 3) := by decide +kernel
theorem dX5_markOf_21 : decode cX5_markOf 21 = .ok (.iconst (-1), 1) := by decide +kernel
theorem dX5_markOf_22 : decode cX5_markOf 22 = .ok (.istore_n 3, 1) := by decide +kernel
theorem dX5_markOf_23 : decode cX5_markOf 23 = .ok (.iconst 0, 1) := by decide +kernel
theorem dX5_markOf_24 : decode cX5_markOf 24 = .ok (.istore 4, 2) := by decide +kernel
theorem dX5_markOf_26 : decode cX5_markOf 26 = .ok (.iload 4, 2) := by decide +kernel
theorem dX5_markOf_28 : decode cX5_markOf 28 = .ok (.iload_n 1, 1) := by decide +kernel
theorem dX5_markOf_29 : decode cX5_markOf 29 = .ok (.if_icmp .gt 86, 3) := by decide +kernel
theorem dX5_markOf_32 : decode cX5_markOf 32 = .ok (.iconst 0, 1) := by decide +kernel
theorem dX5_markOf_33 : decode cX5_markOf 33 = .ok (.istore 5, 2) := by decide +kernel
theorem dX5_markOf_35 : decode cX5_markOf 35 = .ok (.iload 5, 2) := by decide +kernel
theorem dX5_markOf_37 : decode cX5_markOf 37 = .ok (.iconst 2, 1) := by decide +kernel
theorem dX5_markOf_38 : decode cX5_markOf 38 = .ok (.aload_n 0, 1) := by decide +kernel
theorem dX5_markOf_39 : decode cX5_markOf 39 = .ok (.getfield 7, 3) := by decide +kernel
theorem dX5_markOf_42 : decode cX5_markOf 42 = .ok (.iload 4, 2) := by decide +kernel
