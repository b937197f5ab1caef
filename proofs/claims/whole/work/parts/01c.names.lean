theorem inlX0 : ∀ w ∈ wsX00, w ∈ wsL_law := fun _ h => List.mem_append_left _ (List.mem_append_left _ (List.mem_append_left _ (List.mem_append_right _ h)))
theorem inX0 : ∀ w ∈ wsX00, w ∈ lw_tbl := fun w h => wsL_law_in w (inlX0 w h)
theorem inlX1 : ∀ w ∈ wsX10, w ∈ wsL_law := fun _ h => List.mem_append_left _ (List.mem_append_left _ (List.mem_append_left _ (List.mem_append_left _ (List.mem_append_right _ h))))
theorem inX1 : ∀ w ∈ wsX10, w ∈ lw_tbl := fun w h => wsL_law_in w (inlX1 w h)
theorem inlX2 : ∀ w ∈ wsX20, w ∈ wsL_law := fun _ h => List.mem_append_left _ (List.mem_append_left _ (List.mem_append_right _ h))
theorem inX2 : ∀ w ∈ wsX20, w ∈ lw_tbl := fun w h => wsL_law_in w (inlX2 w h)
theorem inlX3 : ∀ w ∈ wsX30, w ∈ wsL_law := fun _ h => List.mem_append_left _ (List.mem_append_right _ h)
theorem inX3 : ∀ w ∈ wsX30, w ∈ lw_tbl := fun w h => wsL_law_in w (inlX3 w h)
theorem inlX4 : ∀ w ∈ wsX40, w ∈ wsL_law := fun _ h => List.mem_append_left _ (List.mem_append_left _ (List.mem_append_left _ (List.mem_append_left _ (List.mem_append_left _ (List.mem_append_left _ (List.mem_append_right _ h))))))
theorem inX4 : ∀ w ∈ wsX40, w ∈ lw_tbl := fun w h => wsL_law_in w (inlX4 w h)
theorem inlX5 : ∀ w ∈ wsX50, w ∈ wsL_law := fun _ h => List.mem_append_left _ (List.mem_append_left _ (List.mem_append_left _ (List.mem_append_left _ (List.mem_append_left _ (List.mem_append_right _ h)))))
theorem inX5 : ∀ w ∈ wsX50, w ∈ lw_tbl := fun w h => wsL_law_in w (inlX5 w h)
theorem inJ9 : ∀ w ∈ wsJ90, w ∈ lw_tbl := by decide +kernel
theorem inJ10 : ∀ w ∈ wsJ100, w ∈ lw_tbl := by decide +kernel
set_option maxRecDepth 20000 in
theorem ggX0_init_X3_init : GoodIn wsX0_init wsX3_init := goodIn_r _ [10, 11, 2, 3, 12, 13, 14, 15, 16, 17, 18, 19, 22, 23, 24, 25, 26, 27, 28] (by decide +kernel) (by decide +kernel)
set_option maxRecDepth 20000 in
theorem gX0_init_X3_init_n21 : GoodIn wsX0_init (wsX3_init) := ggX0_init_X3_init
theorem dX0_init_0 : decode cX0_init 0 = .ok (.aload_n 0, 1) := by decide +kernel
theorem dX0_init_1 : decode cX0_init 1 = .ok (.invokespecial 3, 3) := by decide +kernel
theorem dX0_init_4 : decode cX0_init 4 = .ok (.aload_n 0, 1) := by decide +kernel
theorem dX0_init_5 : decode cX0_init 5 = .ok (.iconst 5, 1) := by decide +kernel
theorem dX0_init_6 : decode cX0_init 6 = .ok (.anewarray 9, 3) := by decide +kernel
theorem dX0_init_9 : decode cX0_init 9 = .ok (.putfield 11, 3) := by decide +kernel
theorem dX0_init_12 : decode cX0_init 12 = .ok (.aload_n 0, 1) := by decide +kernel
theorem dX0_init_13 : decode cX0_init 13 = .ok (.iconst 0, 1) := by decide +kernel
theorem dX0_init_14 : decode cX0_init 14 = .ok (.putfield 17, 3) := by decide +kernel
theorem dX0_init_17 : decode cX0_init 17 = .ok (.iconst 0, 1) := by decide +kernel
theorem dX0_init_18 : decode cX0_init 18 = .ok (.istore_n 1, 1) := by decide +kernel
theorem dX0_init_19 : decode cX0_init 19 = .ok (.iload_n 1, 1) := by decide +kernel
theorem dX0_init_20 : decode cX0_init 20 = .ok (.iconst 5, 1) := by decide +kernel
theorem dX0_init_21 : decode cX0_init 21 = .ok (.if_icmp .ge 22, 3) := by decide +kernel
theorem dX0_init_24 : decode cX0_init 24 = .ok (.aload_n 0, 1) := by decide +kernel
theorem dX0_init_25 : decode cX0_init 25 = .ok (.getfield 11, 3) := by decide +kernel
theorem dX0_init_28 : decode cX0_init 28 = .ok (.iload_n 1, 1) := by decide +kernel
theorem dX0_init_29 : decode cX0_init 29 = .ok (.new 9, 3) := by decide +kernel
theorem dX0_init_32 : decode cX0_init 32 = .ok (.dup, 1) := by decide +kernel
theorem dX0_init_33 : decode cX0_init 33 = .ok (.invokespecial 21, 3) := by decide +kernel
theorem dX0_init_36 : decode cX0_init 36 = .ok (.aastore, 1) := by decide +kernel
theorem dX0_init_37 : decode cX0_init 37 = .ok (.iinc 1 1, 3) := by decide +kernel
theorem dX0_init_40 : decode cX0_init 40 = .ok (.goto (-21), 3) := by decide +kernel
theorem dX0_init_43 : decode cX0_init 43 = .ok (.return_, 1) := by decide +kernel
set_option maxRecDepth 20000 in
theorem ggX0_keep_X0_forgetOldest : GoodIn wsX0_keep wsX0_forgetOldest := goodIn_r _ [7, 2, 1, 24, 25] (by decide +kernel) (by decide +kernel)
set_option maxRecDepth 20000 in
theorem gX0_keep_X0_forgetOldest : GoodIn wsX0_keep (wsV RX0 22 RX0 yX0_forgetOldest wsX0_forgetOldest) := goodIn_app (goodIn_of _ (by decide +kernel)) ggX0_keep_X0_forgetOldest
set_option maxRecDepth 20000 in
theorem ggX0_keep_X3_copyFrom : GoodIn wsX0_keep wsX3_copyFrom := goodIn_r _ [12, 13, 14, 15, 16, 17, 18, 19, 20, 21, 22, 23, 26, 27, 28, 29, 30, 31, 32] (by decide +kernel) (by decide +kernel)
set_option maxRecDepth 20000 in
theorem gX0_keep_X3_copyFrom : GoodIn wsX0_keep (wsV RX0 25 RX3 yX3_copyFrom wsX3_copyFrom) := goodIn_app (goodIn_of _ (by decide +kernel)) ggX0_keep_X3_copyFrom
theorem dX0_keep_0 : decode cX0_keep 0 = .ok (.aload_n 0, 1) := by decide +kernel
theorem dX0_keep_1 : decode cX0_keep 1 = .ok (.getfield 17, 3) := by decide +kernel
theorem dX0_keep_4 : decode cX0_keep 4 = .ok (.iconst 5, 1) := by decide +kernel
theorem dX0_keep_5 : decode cX0_keep 5 = .ok (.if_icmp .lt 7, 3) := by decide +kernel
theorem dX0_keep_8 : decode cX0_keep 8 = .ok (.aload_n 0, 1) := by decide +kernel
theorem dX0_keep_9 : decode cX0_keep 9 = .ok (.invokevirtual 22, 3) := by decide +kernel
theorem dX0_keep_12 : decode cX0_keep 12 = .ok (.aload_n 0, 1) := by decide +kernel
theorem dX0_keep_13 : decode cX0_keep 13 = .ok (.getfield 11, 3) := by decide +kernel
theorem dX0_keep_16 : decode cX0_keep 16 = .ok (.aload_n 0, 1) := by decide +kernel
theorem dX0_keep_17 : decode cX0_keep 17 = .ok (.getfield 17, 3) := by decide +kernel
theorem dX0_keep_20 : decode cX0_keep 20 = .ok (.aaload, 1) := by decide +kernel
theorem dX0_keep_21 : decode cX0_keep 21 = .ok (.aload_n 1, 1) := by decide +kernel
theorem dX0_keep_22 : decode cX0_keep 22 = .ok (.invokevirtual 25, 3) := by decide +kernel
theorem dX0_keep_25 : decode cX0_keep 25 = .ok (.aload_n 0, 1) := by decide +kernel
theorem dX0_keep_26 : decode cX0_keep 26 = .ok (.dup, 1) := by decide +kernel
theorem dX0_keep_27 : decode cX0_keep 27 = .ok (.getfield 17, 3) := by decide +kernel
theorem dX0_keep_30 : decode cX0_keep 30 = .ok (.iconst 1, 1) := by decide +kernel
theorem dX0_keep_31 : decode cX0_keep 31 = .ok (.iadd, 1) := by decide +kernel
theorem dX0_keep_32 : decode cX0_keep 32 = .ok (.putfield 17, 3) := by decide +kernel
theorem dX0_keep_35 : decode cX0_keep 35 = .ok (.return_, 1) := by decide +kernel
theorem dX0_forgetOldest_0 : decode cX0_forgetOldest 0 = .ok (.aload_n 0, 1) := by decide +kernel
theorem dX0_forgetOldest_1 : decode cX0_forgetOldest 1 = .ok (.getfield 11, 3) := by decide +kernel
theorem dX0_forgetOldest_4 : decode cX0_forgetOldest 4 = .ok (.iconst 0, 1) := by decide +kernel
theorem dX0_forgetOldest_5 : decode cX0_forgetOldest 5 = .ok (.aaload, 1) := by decide +kernel
theorem dX0_forgetOldest_6 : decode cX0_forgetOldest 6 = .ok (.astore_n 1, 1) := by decide +kernel
theorem dX0_forgetOldest_7 : decode cX0_forgetOldest 7 = .ok (.iconst 1, 1) := by decide +kernel
theorem dX0_forgetOldest_8 : decode cX0_forgetOldest 8 = .ok (.istore_n 2, 1) := by decide +kernel
theorem dX0_forgetOldest_9 : decode cX0_forgetOldest 9 = .ok (.iload_n 2, 1) := by decide +kernel
theorem dX0_forgetOldest_10 : decode cX0_forgetOldest 10 = .ok (.iconst 5, 1) := by decide +kernel
theorem dX0_forgetOldest_11 : decode cX0_forgetOldest 11 = .ok (.if_icmp .ge 23, 3) := by decide +kernel
theorem dX0_forgetOldest_14 : decode cX0_forgetOldest 14 = .ok (.aload_n 0, 1) := by decide +kernel
theorem dX0_forgetOldest_15 : decode cX0_forgetOldest 15 = .ok (.getfield 11, 3) := by decide +kernel
theorem dX0_forgetOldest_18 : decode cX0_forgetOldest 18 = .ok (.iload_n 2, 1) := by decide +kernel
theorem dX0_forgetOldest_19 : decode cX0_forgetOldest 19 = .ok (.iconst 1, 1) := by decide +kernel
theorem dX0_forgetOldest_20 : decode cX0_forgetOldest 20 = .ok (.isub, 1) := by decide +kernel
theorem dX0_forgetOldest_21 : decode cX0_forgetOldest 21 = .ok (.aload_n 0, 1) := by decide +kernel
theorem dX0_forgetOldest_22 : decode cX0_forgetOldest 22 = .ok (.getfield 11, 3) := by decide +kernel
theorem dX0_forgetOldest_25 : decode cX0_forgetOldest 25 = .ok (.iload_n 2, 1) := by decide +kernel
theorem dX0_forgetOldest_26 : decode cX0_forgetOldest 26 = .ok (.aaload, 1) := by decide +kernel
theorem dX0_forgetOldest_27 : decode cX0_forgetOldest 27 = .ok (.aastore, 1) := by decide +kernel
theorem dX0_forgetOldest_28 : decode cX0_forgetOldest 28 = .ok (.iinc 2 1, 3) := by decide +kernel
theorem dX0_forgetOldest_31 : decode cX0_forgetOldest 31 = .ok (.goto (-22), 3) := by decide +kernel
theorem dX0_forgetOldest_34 : decode cX0_forgetOldest 34 = .ok (.aload_n 0, 1) := by decide +kernel
theorem dX0_forgetOldest_35 : decode cX0_forgetOldest 35 = .ok (.getfield 11, 3) := by decide +kernel
theorem dX0_forgetOldest_38 : decode cX0_forgetOldest 38 = .ok (.iconst 4, 1) := by decide +kernel
theorem dX0_forgetOldest_39 : decode cX0_forgetOldest 39 = .ok (.aload_n 1, 1) := by decide +kernel
theorem dX0_forgetOldest_40 : decode cX0_forgetOldest 40 = .ok (.aastore, 1) := by decide +kernel
theorem dX0_forgetOldest_41 : decode cX0_forgetOldest 41 = .ok (.aload_n 0, 1) := by decide +kernel
theorem dX0_forgetOldest_42 : decode cX0_forgetOldest 42 = .ok (.iconst 4, 1) := by decide +kernel
theorem dX0_forgetOldest_43 : decode cX0_forgetOldest 43 = .ok (.putfield 17, 3) := by decide +kernel
theorem dX0_forgetOldest_46 : decode cX0_forgetOldest 46 = .ok (.return_, 1) := by decide +kernel
set_option maxRecDepth 20000 in
theorem ggX0_takeBack_X3_copyFrom : GoodIn wsX0_takeBack wsX3_copyFrom := goodIn_r _ [7, 8, 9, 10, 11, 12, 13, 14, 15, 16, 17, 18, 21, 22, 23, 24, 25, 26, 27] (by decide +kernel) (by decide +kernel)
set_option maxRecDepth 20000 in
theorem gX0_takeBack_X3_copyFrom : GoodIn wsX0_takeBack (wsV RX0 25 RX3 yX3_copyFrom wsX3_copyFrom) := goodIn_app (goodIn_of _ (by decide +kernel)) ggX0_takeBack_X3_copyFrom
theorem dX0_takeBack_0 : decode cX0_takeBack 0 = .ok (.aload_n 0, 1) := by decide +kernel
theorem dX0_takeBack_1 : decode cX0_takeBack 1 = .ok (.getfield 17, 3) := by decide +kernel
theorem dX0_takeBack_4 : decode cX0_takeBack 4 = .ok (.ifCond .le 26, 3) := by decide +kernel
theorem dX0_takeBack_7 : decode cX0_takeBack 7 = .ok (.aload_n 0, 1) := by decide +kernel
theorem dX0_takeBack_8 : decode cX0_takeBack 8 = .ok (.dup, 1) := by decide +kernel
theorem dX0_takeBack_9 : decode cX0_takeBack 9 = .ok (.getfield 17, 3) := by decide +kernel
theorem dX0_takeBack_12 : decode cX0_takeBack 12 = .ok (.iconst 1, 1) := by decide +kernel
theorem dX0_takeBack_13 : decode cX0_takeBack 13 = .ok (.isub, 1) := by decide +kernel
theorem dX0_takeBack_14 : decode cX0_takeBack 14 = .ok (.putfield 17, 3) := by decide +kernel
theorem dX0_takeBack_17 : decode cX0_takeBack 17 = .ok (.aload_n 1, 1) := by decide +kernel
theorem dX0_takeBack_18 : decode cX0_takeBack 18 = .ok (.aload_n 0, 1) := by decide +kernel
theorem dX0_takeBack_19 : decode cX0_takeBack 19 = .ok (.getfield 11, 3) := by decide +kernel
theorem dX0_takeBack_22 : decode cX0_takeBack 22 = .ok (.aload_n 0, 1) := by decide +kernel
theorem dX0_takeBack_23 : decode cX0_takeBack 23 = .ok (.getfield 17, 3) := by decide +kernel
theorem dX0_takeBack_26 : decode cX0_takeBack 26 = .ok (.aaload, 1) := by decide +kernel
theorem dX0_takeBack_27 : decode cX0_takeBack 27 = .ok (.invokevirtual 25, 3) := by decide +kernel
theorem dX0_takeBack_30 : decode cX0_takeBack 30 = .ok (.return_, 1) := by decide +kernel
set_option maxRecDepth 20000 in
theorem ggX1_init_X3_init : GoodIn wsX1_init wsX3_init := goodIn_r _ [17, 18, 2, 3, 8, 19, 20, 21, 22, 23, 24, 25, 64, 65, 66, 67, 68, 69, 70] (by decide +kernel) (by decide +kernel)
set_option maxRecDepth 20000 in
theorem gX1_init_X3_init_n11 : GoodIn wsX1_init (wsX3_init) := ggX1_init_X3_init
set_option maxRecDepth 20000 in
theorem ggX1_init_X1_lay : GoodIn wsX1_init wsX1_lay := goodIn_r _ [30, 7, 31, 32, 33, 34, 29, 35, 9, 36, 37, 38, 10, 39, 40, 41, 42, 43, 44, 45, 46, 47, 48, 49, 50, 11, 12, 51, 52, 53, 6, 54, 22, 20, 55, 56, 57, 58, 13, 14, 15, 59, 60, 61, 62, 63, 71, 72, 73, 74, 75, 76, 77, 78, 64, 65, 66, 67, 68, 69, 70] (by decide +kernel) (by decide +kernel)
set_option maxRecDepth 20000 in
theorem gX1_init_X1_lay : GoodIn wsX1_init (wsV RX1 40 RX1 yX1_lay wsX1_lay) := goodIn_app (goodIn_of _ (by decide +kernel)) ggX1_init_X1_lay
theorem dX1_init_0 : decode cX1_init 0 = .ok (.aload_n 0, 1) := by decide +kernel
theorem dX1_init_1 : decode cX1_init 1 = .ok (.invokespecial 3, 3) := by decide +kernel
theorem dX1_init_4 : decode cX1_init 4 = .ok (.aload_n 0, 1) := by decide +kernel
theorem dX1_init_5 : decode cX1_init 5 = .ok (.new 9, 3) := by decide +kernel
theorem dX1_init_8 : decode cX1_init 8 = .ok (.dup, 1) := by decide +kernel
theorem dX1_init_9 : decode cX1_init 9 = .ok (.invokespecial 11, 3) := by decide +kernel
theorem dX1_init_12 : decode cX1_init 12 = .ok (.putfield 12, 3) := by decide +kernel
theorem dX1_init_15 : decode cX1_init 15 = .ok (.aload_n 0, 1) := by decide +kernel
theorem dX1_init_16 : decode cX1_init 16 = .ok (.bipush 101, 2) := by decide +kernel
theorem dX1_init_18 : decode cX1_init 18 = .ok (.newarray .int, 2) := by decide +kernel
theorem dX1_init_20 : decode cX1_init 20 = .ok (.putfield 18, 3) := by decide +kernel
theorem dX1_init_23 : decode cX1_init 23 = .ok (.aload_n 0, 1) := by decide +kernel
theorem dX1_init_24 : decode cX1_init 24 = .ok (.bipush 48, 2) := by decide +kernel
theorem dX1_init_26 : decode cX1_init 26 = .ok (.newarray .int, 2) := by decide +kernel
theorem dX1_init_28 : decode cX1_init 28 = .ok (.putfield 22, 3) := by decide +kernel
theorem dX1_init_31 : decode cX1_init 31 = .ok (.aload_n 0, 1) := by decide +kernel
theorem dX1_init_32 : decode cX1_init 32 = .ok (.bipush 6, 2) := by decide +kernel
theorem dX1_init_34 : decode cX1_init 34 = .ok (.newarray .int, 2) := by decide +kernel
theorem dX1_init_36 : decode cX1_init 36 = .ok (.putfield 25, 3) := by decide +kernel
theorem dX1_init_39 : decode cX1_init 39 = .ok (.aload_n 0, 1) := by decide +kernel
theorem dX1_init_40 : decode cX1_init 40 = .ok (.bipush 6, 2) := by decide +kernel
theorem dX1_init_42 : decode cX1_init 42 = .ok (.newarray .int, 2) := by decide +kernel
theorem dX1_init_44 : decode cX1_init 44 = .ok (.putfield 28, 3) := by decide +kernel
theorem dX1_init_47 : decode cX1_init 47 = .ok (.aload_n 0, 1) := by decide +kernel
theorem dX1_init_48 : decode cX1_init 48 = .ok (.bipush 40, 2) := by decide +kernel
theorem dX1_init_50 : decode cX1_init 50 = .ok (.newarray .int, 2) := by decide +kernel
theorem dX1_init_52 : decode cX1_init 52 = .ok (.putfield 31, 3) := by decide +kernel
theorem dX1_init_55 : decode cX1_init 55 = .ok (.aload_n 0, 1) := by decide +kernel
theorem dX1_init_56 : decode cX1_init 56 = .ok (.bipush 40, 2) := by decide +kernel
theorem dX1_init_58 : decode cX1_init 58 = .ok (.newarray .int, 2) := by decide +kernel
theorem dX1_init_60 : decode cX1_init 60 = .ok (.putfield 34, 3) := by decide +kernel
theorem dX1_init_63 : decode cX1_init 63 = .ok (.aload_n 0, 1) := by decide +kernel
theorem dX1_init_64 : decode cX1_init 64 = .ok (.bipush 40, 2) := by decide +kernel
theorem dX1_init_66 : decode cX1_init 66 = .ok (.newarray .int, 2) := by decide +kernel
theorem dX1_init_68 : decode cX1_init 68 = .ok (.putfield 37, 3) := by decide +kernel
theorem dX1_init_71 : decode cX1_init 71 = .ok (.aload_n 0, 1) := by decide +kernel
theorem dX1_init_72 : decode cX1_init 72 = .ok (.invokevirtual 40, 3) := by decide +kernel
theorem dX1_init_75 : decode cX1_init 75 = .ok (.return_, 1) := by decide +kernel
set_option maxRecDepth 20000 in
theorem ggX1_lay_X1_setMarks : GoodIn wsX1_lay wsX1_setMarks := goodIn_r _ [7, 8, 1, 9, 10, 11, 12, 13, 14, 15, 6, 16, 17, 18, 19, 46, 47, 48, 49, 50, 51, 52, 53, 54, 55, 56, 57, 58, 59, 60] (by decide +kernel) (by decide +kernel)
set_option maxRecDepth 20000 in
theorem gX1_lay_X1_setMarks : GoodIn wsX1_lay (wsV RX1 43 RX1 yX1_setMarks wsX1_setMarks) := goodIn_app (goodIn_of _ (by decide +kernel)) ggX1_lay_X1_setMarks
set_option maxRecDepth 20000 in
theorem ggX1_lay_X1_setBounds : GoodIn wsX1_lay wsX1_setBounds := goodIn_r _ [23, 1, 9, 2, 10, 24, 25, 26, 27, 28, 29, 30, 31, 32, 33, 46, 47, 48, 49, 50, 51, 52, 53, 54, 55, 56, 57, 58, 59, 60] (by decide +kernel) (by decide +kernel)
set_option maxRecDepth 20000 in
theorem gX1_lay_X1_setBounds : GoodIn wsX1_lay (wsV RX1 46 RX1 yX1_setBounds wsX1_setBounds) := goodIn_app (goodIn_of _ (by decide +kernel)) ggX1_lay_X1_setBounds
set_option maxRecDepth 20000 in
theorem ggX1_lay_X1_layKey : GoodIn wsX1_lay wsX1_layKey := goodIn_r _ [37, 38, 39, 40, 8, 26, 25, 41, 42, 43, 6, 44, 1, 45, 17, 18, 19, 46, 47, 48, 49, 50, 51, 52, 53, 54, 55, 56, 57, 58, 59, 60] (by decide +kernel) (by decide +kernel)
set_option maxRecDepth 20000 in
theorem gX1_lay_X1_layKey : GoodIn wsX1_lay (wsV RX1 53 RX1 yX1_layKey wsX1_layKey) := goodIn_app (goodIn_of _ (by decide +kernel)) ggX1_lay_X1_layKey
theorem dX1_lay_0 : decode cX1_lay 0 = .ok (.aload_n 0, 1) := by decide +kernel
theorem dX1_lay_1 : decode cX1_lay 1 = .ok (.invokevirtual 43, 3) := by decide +kernel
theorem dX1_lay_4 : decode cX1_lay 4 = .ok (.aload_n 0, 1) := by decide +kernel
theorem dX1_lay_5 : decode cX1_lay 5 = .ok (.invokevirtual 46, 3) := by decide +kernel
theorem dX1_lay_8 : decode cX1_lay 8 = .ok (.iconst 0, 1) := by decide +kernel
theorem dX1_lay_9 : decode cX1_lay 9 = .ok (.istore_n 1, 1) := by decide +kernel
theorem dX1_lay_10 : decode cX1_lay 10 = .ok (.iload_n 1, 1) := by decide +kernel
theorem dX1_lay_11 : decode cX1_lay 11 = .ok (.aload_n 0, 1) := by decide +kernel
theorem dX1_lay_12 : decode cX1_lay 12 = .ok (.getfield 12, 3) := by decide +kernel
theorem dX1_lay_15 : decode cX1_lay 15 = .ok (.getfield 49, 3) := by decide +kernel
theorem dX1_lay_18 : decode cX1_lay 18 = .ok (.if_icmp .ge 14, 3) := by decide +kernel
theorem dX1_lay_21 : decode cX1_lay 21 = .ok (.aload_n 0, 1) := by decide +kernel
theorem dX1_lay_22 : decode cX1_lay 22 = .ok (.iload_n 1, 1) := by decide +kernel
theorem dX1_lay_23 : decode cX1_lay 23 = .ok (.invokevirtual 53, 3) := by decide +kernel
theorem dX1_lay_26 : decode cX1_lay 26 = .ok (.iinc 1 1, 3) := by decide +kernel
theorem dX1_lay_29 : decode cX1_lay 29 = .ok (.goto (-19), 3) := by decide +kernel
theorem dX1_lay_32 : decode cX1_lay 32 = .ok (.return_, 1) := by decide +kernel
set_option maxRecDepth 20000 in
theorem ggX1_setMarks_X1_freePlaceFrom : GoodIn wsX1_setMarks wsX1_freePlaceFrom := goodIn_r _ [11, 1, 12, 13, 10, 14, 15, 16, 17, 18, 19, 20, 21, 22] (by decide +kernel) (by decide +kernel)
set_option maxRecDepth 20000 in
theorem gX1_setMarks_X1_freePlaceFrom : GoodIn wsX1_setMarks (wsV RX1 66 RX1 yX1_freePlaceFrom wsX1_freePlaceFrom) := goodIn_app (goodIn_of _ (by decide +kernel)) ggX1_setMarks_X1_freePlaceFrom
theorem dX1_setMarks_0 : decode cX1_setMarks 0 = .ok (.iconst 0, 1) := by decide +kernel
theorem dX1_setMarks_1 : decode cX1_setMarks 1 = .ok (.istore_n 1, 1) := by decide +kernel
theorem dX1_setMarks_2 : decode cX1_setMarks 2 = .ok (.iload_n 1, 1) := by decide +kernel
theorem dX1_setMarks_3 : decode cX1_setMarks 3 = .ok (.bipush 101, 2) := by decide +kernel
theorem dX1_setMarks_5 : decode cX1_setMarks 5 = .ok (.if_icmp .ge 16, 3) := by decide +kernel
theorem dX1_setMarks_8 : decode cX1_setMarks 8 = .ok (.aload_n 0, 1) := by decide +kernel
theorem dX1_setMarks_9 : decode cX1_setMarks 9 = .ok (.getfield 18, 3) := by decide +kernel
theorem dX1_setMarks_12 : decode cX1_setMarks 12 = .ok (.iload_n 1, 1) := by decide +kernel
theorem dX1_setMarks_13 : decode cX1_setMarks 13 = .ok (.iconst (-1), 1) := by decide +kernel
theorem dX1_setMarks_14 : decode cX1_setMarks 14 = .ok (.iastore, 1) := by decide +kernel
theorem dX1_setMarks_15 : decode cX1_setMarks 15 = .ok (.iinc 1 1, 3) := by decide +kernel
theorem dX1_setMarks_18 : decode cX1_setMarks 18 = .ok (.goto (-16), 3) := by decide +kernel
theorem dX1_setMarks_21 : decode cX1_setMarks 21 = .ok (.iconst 0, 1) := by decide +kernel
theorem dX1_setMarks_22 : decode cX1_setMarks 22 = .ok (.istore_n 1, 1) := by decide +kernel
theorem dX1_setMarks_23 : decode cX1_setMarks 23 = .ok (.iload_n 1, 1) := by decide +kernel
theorem dX1_setMarks_24 : decode cX1_setMarks 24 = .ok (.aload_n 0, 1) := by decide +kernel
theorem dX1_setMarks_25 : decode cX1_setMarks 25 = .ok (.getfield 12, 3) := by decide +kernel
theorem dX1_setMarks_28 : decode cX1_setMarks 28 = .ok (.getfield 57, 3) := by decide +kernel
theorem dX1_setMarks_31 : decode cX1_setMarks 31 = .ok (.if_icmp .ge 83, 3) := by decide +kernel
theorem dX1_setMarks_34 : decode cX1_setMarks 34 = .ok (.iconst 2, 1) := by decide +kernel
theorem dX1_setMarks_35 : decode cX1_setMarks 35 = .ok (.aload_n 0, 1) := by decide +kernel
theorem dX1_setMarks_36 : decode cX1_setMarks 36 = .ok (.getfield 12, 3) := by decide +kernel
theorem dX1_setMarks_39 : decode cX1_setMarks 39 = .ok (.getfield 60, 3) := by decide +kernel
theorem dX1_setMarks_42 : decode cX1_setMarks 42 = .ok (.iload_n 1, 1) := by decide +kernel
theorem dX1_setMarks_43 : decode cX1_setMarks 43 = .ok (.iaload, 1) := by decide +kernel
theorem dX1_setMarks_44 : decode cX1_setMarks 44 = .ok (.imul, 1) := by decide +kernel
theorem dX1_setMarks_45 : decode cX1_setMarks 45 = .ok (.istore_n 2, 1) := by decide +kernel
theorem dX1_setMarks_46 : decode cX1_setMarks 46 = .ok (.iconst 0, 1) := by decide +kernel
theorem dX1_setMarks_47 : decode cX1_setMarks 47 = .ok (.istore_n 3, 1) := by decide +kernel
theorem dX1_setMarks_48 : decode cX1_setMarks 48 = .ok (.iload_n 3, 1) := by decide +kernel
theorem dX1_setMarks_49 : decode cX1_setMarks 49 = .ok (.iload_n 2, 1) := by decide +kernel
theorem dX1_setMarks_50 : decode cX1_setMarks 50 = .ok (.if_icmp .ge 58, 3) := by decide +kernel
theorem dX1_setMarks_53 : decode cX1_setMarks 53 = .ok (.aload_n 0, 1) := by decide +kernel
theorem dX1_setMarks_54 : decode cX1_setMarks 54 = .ok (.bipush 41, 2) := by decide +kernel
theorem dX1_setMarks_56 : decode cX1_setMarks 56 = .ok (.aload_n 0, 1) := by decide +kernel
theorem dX1_setMarks_57 : decode cX1_setMarks 57 = .ok (.getfield 12, 3) := by decide +kernel
theorem dX1_setMarks_60 : decode cX1_setMarks 60 = .ok (.getfield 63, 3) := by decide +kernel
theorem dX1_setMarks_63 : decode cX1_setMarks 63 = .ok (.iload_n 1, 1) := by decide +kernel
theorem dX1_setMarks_64 : decode cX1_setMarks 64 = .ok (.iaload, 1) := by decide +kernel
theorem dX1_setMarks_65 : decode cX1_setMarks 65 = .ok (.imul, 1) := by decide +kernel
theorem dX1_setMarks_66 : decode cX1_setMarks 66 = .ok (.bipush 29, 2) := by decide +kernel
theorem dX1_setMarks_68 : decode cX1_setMarks 68 = .ok (.iload_n 3, 1) := by decide +kernel
theorem dX1_setMarks_69 : decode cX1_setMarks 69 = .ok (.imul, 1) := by decide +kernel
theorem dX1_setMarks_70 : decode cX1_setMarks 70 = .ok (.iadd, 1) := by decide +kernel
theorem dX1_setMarks_71 : decode cX1_setMarks 71 = .ok (.iconst 5, 1) := by decide +kernel
theorem dX1_setMarks_72 : decode cX1_setMarks 72 = .ok (.iadd, 1) := by decide +kernel
theorem dX1_setMarks_73 : decode cX1_setMarks 73 = .ok (.bipush 101, 2) := by decide +kernel
theorem dX1_setMarks_75 : decode cX1_setMarks 75 = .ok (.irem, 1) := by decide +kernel
theorem dX1_setMarks_76 : decode cX1_setMarks 76 = .ok (.invokevirtual 66, 3) := by decide +kernel
theorem dX1_setMarks_79 : decode cX1_setMarks 79 = .ok (.istore 4, 2) := by decide +kernel
theorem dX1_setMarks_81 : decode cX1_setMarks 81 = .ok (.aload_n 0, 1) := by decide +kernel
theorem dX1_setMarks_82 : decode cX1_setMarks 82 = .ok (.getfield 18, 3) := by decide +kernel
theorem dX1_setMarks_85 : decode cX1_setMarks 85 = .ok (.iload 4, 2) := by decide +kernel
theorem dX1_setMarks_87 : decode cX1_setMarks 87 = .ok (.iload_n 1, 1) := by decide +kernel
theorem dX1_setMarks_88 : decode cX1_setMarks 88 = .ok (.iastore, 1) := by decide +kernel
theorem dX1_setMarks_89 : decode cX1_setMarks 89 = .ok (.aload_n 0, 1) := by decide +kernel
theorem dX1_setMarks_90 : decode cX1_setMarks 90 = .ok (.getfield 22, 3) := by decide +kernel
theorem dX1_setMarks_93 : decode cX1_setMarks 93 = .ok (.iload_n 1, 1) := by decide +kernel
theorem dX1_setMarks_94 : decode cX1_setMarks 94 = .ok (.bipush 8, 2) := by decide +kernel
theorem dX1_setMarks_96 : decode cX1_setMarks 96 = .ok (.imul, 1) := by decide +kernel
theorem dX1_setMarks_97 : decode cX1_setMarks 97 = .ok (.iload_n 3, 1) := by decide +kernel
theorem dX1_setMarks_98 : decode cX1_setMarks 98 = .ok (.iadd, 1) := by decide +kernel
theorem dX1_setMarks_99 : decode cX1_setMarks 99 = .ok (.iload 4, 2) := by decide +kernel
theorem dX1_setMarks_101 : decode cX1_setMarks 101 = .ok (.iastore, 1) := by decide +kernel
theorem dX1_setMarks_102 : decode cX1_setMarks 102 = .ok (.iinc 3 1, 3) := by decide +kernel
theorem dX1_setMarks_105 : decode cX1_setMarks 105 = .ok (.goto (-57), 3) := by decide +kernel
theorem dX1_setMarks_108 : decode cX1_setMarks 108 = .ok (.iinc 1 1, 3) := by decide +kernel
theorem dX1_setMarks_111 : decode cX1_setMarks 111 = .ok (.goto (-88), 3) := by decide +kernel
theorem dX1_setMarks_114 : decode cX1_setMarks 114 = .ok (.return_, 1) := by decide +kernel
set_option maxRecDepth 20000 in
theorem ggX1_freePlaceFrom_X1_placeBehind : GoodIn wsX1_freePlaceFrom wsX1_placeBehind := goodIn_r _ [5] (by decide +kernel) (by decide +kernel)
set_option maxRecDepth 20000 in
theorem gX1_freePlaceFrom_X1_placeBehind : GoodIn wsX1_freePlaceFrom (va_wsS RX1 70 yX1_placeBehind wsX1_placeBehind) := goodIn_app (goodIn_of _ (by decide +kernel)) ggX1_freePlaceFrom_X1_placeBehind
theorem dX1_freePlaceFrom_0 : decode cX1_freePlaceFrom 0 = .ok (.iload_n 1, 1) := by decide +kernel
theorem dX1_freePlaceFrom_1 : decode cX1_freePlaceFrom 1 = .ok (.istore_n 2, 1) := by decide +kernel
theorem dX1_freePlaceFrom_2 : decode cX1_freePlaceFrom 2 = .ok (.iconst 0, 1) := by decide +kernel
theorem dX1_freePlaceFrom_3 : decode cX1_freePlaceFrom 3 = .ok (.istore_n 3, 1) := by decide +kernel
theorem dX1_freePlaceFrom_4 : decode cX1_freePlaceFrom 4 = .ok (.iload_n 3, 1) := by decide +kernel
theorem dX1_freePlaceFrom_5 : decode cX1_freePlaceFrom 5 = .ok (.bipush 101, 2) := by decide +kernel
theorem dX1_freePlaceFrom_7 : decode cX1_freePlaceFrom 7 = .ok (.if_icmp .ge 24, 3) := by decide +kernel
theorem dX1_freePlaceFrom_10 : decode cX1_freePlaceFrom 10 = .ok (.aload_n 0, 1) := by decide +kernel
theorem dX1_freePlaceFrom_11 : decode cX1_freePlaceFrom 11 = .ok (.getfield 18, 3) := by decide +kernel
theorem dX1_freePlaceFrom_14 : decode cX1_freePlaceFrom 14 = .ok (.iload_n 2, 1) := by decide +kernel
theorem dX1_freePlaceFrom_15 : decode cX1_freePlaceFrom 15 = .ok (.iaload, 1) := by decide +kernel
theorem dX1_freePlaceFrom_16 : decode cX1_freePlaceFrom 16 = .ok (.iconst (-1), 1) := by decide +kernel
theorem dX1_freePlaceFrom_17 : decode cX1_freePlaceFrom 17 = .ok (.if_icmp .eq 14, 3) := by decide +kernel
theorem dX1_freePlaceFrom_20 : decode cX1_freePlaceFrom 20 = .ok (.iload_n 2, 1) := by decide +kernel
theorem dX1_freePlaceFrom_21 : decode cX1_freePlaceFrom 21 = .ok (.invokestatic 70, 3) := by decide +kernel
theorem dX1_freePlaceFrom_24 : decode cX1_freePlaceFrom 24 = .ok (.istore_n 2, 1) := by decide +kernel
theorem dX1_freePlaceFrom_25 : decode cX1_freePlaceFrom 25 = .ok (.iinc 3 1, 3) := by decide +kernel
theorem dX1_freePlaceFrom_28 : decode cX1_freePlaceFrom 28 = .ok (.goto (-24), 3) := by decide +kernel
theorem dX1_freePlaceFrom_31 : decode cX1_freePlaceFrom 31 = .ok (.iload_n 2, 1) := by decide +kernel
theorem dX1_freePlaceFrom_32 : decode cX1_freePlaceFrom 32 = .ok (.ireturn, 1) := by decide +kernel
set_option maxRecDepth 20000 in
theorem ggX1_setBounds_X3_allWeights : GoodIn wsX1_setBounds wsX3_allWeights := goodIn_r _ [12, 13, 14, 23, 24, 25, 26, 27, 28, 29] (by decide +kernel) (by decide +kernel)
set_option maxRecDepth 20000 in
theorem gX1_setBounds_X3_allWeights : GoodIn wsX1_setBounds (wsV RX1 73 RX3 yX3_allWeights wsX3_allWeights) := goodIn_app (goodIn_of _ (by decide +kernel)) ggX1_setBounds_X3_allWeights
theorem dX1_setBounds_0 : decode cX1_setBounds 0 = .ok (.bipush 100, 2) := by decide +kernel
theorem dX1_setBounds_2 : decode cX1_setBounds 2 = .ok (.aload_n 0, 1) := by decide +kernel
theorem dX1_setBounds_3 : decode cX1_setBounds 3 = .ok (.getfield 12, 3) := by decide +kernel
theorem dX1_setBounds_6 : decode cX1_setBounds 6 = .ok (.invokevirtual 73, 3) := by decide +kernel
theorem dX1_setBounds_9 : decode cX1_setBounds 9 = .ok (.imul, 1) := by decide +kernel
theorem dX1_setBounds_10 : decode cX1_setBounds 10 = .ok (.istore_n 1, 1) := by decide +kernel
theorem dX1_setBounds_11 : decode cX1_setBounds 11 = .ok (.iconst 0, 1) := by decide +kernel
theorem dX1_setBounds_12 : decode cX1_setBounds 12 = .ok (.istore_n 2, 1) := by decide +kernel
theorem dX1_setBounds_13 : decode cX1_setBounds 13 = .ok (.iload_n 2, 1) := by decide +kernel
theorem dX1_setBounds_14 : decode cX1_setBounds 14 = .ok (.aload_n 0, 1) := by decide +kernel
theorem dX1_setBounds_15 : decode cX1_setBounds 15 = .ok (.getfield 12, 3) := by decide +kernel
theorem dX1_setBounds_18 : decode cX1_setBounds 18 = .ok (.getfield 57, 3) := by decide +kernel
theorem dX1_setBounds_21 : decode cX1_setBounds 21 = .ok (.if_icmp .ge 62, 3) := by decide +kernel
theorem dX1_setBounds_24 : decode cX1_setBounds 24 = .ok (.iload_n 1, 1) := by decide +kernel
theorem dX1_setBounds_25 : decode cX1_setBounds 25 = .ok (.ifCond .le 58, 3) := by decide +kernel
theorem dX1_setBounds_28 : decode cX1_setBounds 28 = .ok (.aload_n 0, 1) := by decide +kernel
theorem dX1_setBounds_29 : decode cX1_setBounds 29 = .ok (.getfield 12, 3) := by decide +kernel
theorem dX1_setBounds_32 : decode cX1_setBounds 32 = .ok (.getfield 49, 3) := by decide +kernel
theorem dX1_setBounds_35 : decode cX1_setBounds 35 = .ok (.aload_n 0, 1) := by decide +kernel
theorem dX1_setBounds_36 : decode cX1_setBounds 36 = .ok (.getfield 12, 3) := by decide +kernel
theorem dX1_setBounds_39 : decode cX1_setBounds 39 = .ok (.getfield 60, 3) := by decide +kernel
theorem dX1_setBounds_42 : decode cX1_setBounds 42 = .ok (.iload_n 2, 1) := by decide +kernel
theorem dX1_setBounds_43 : decode cX1_setBounds 43 = .ok (.iaload, 1) := by decide +kernel
theorem dX1_setBounds_44 : decode cX1_setBounds 44 = .ok (.imul, 1) := by decide +kernel
theorem dX1_setBounds_45 : decode cX1_setBounds 45 = .ok (.bipush 100, 2) := by decide +kernel
theorem dX1_setBounds_47 : decode cX1_setBounds 47 = .ok (.aload_n 0, 1) := by decide +kernel
theorem dX1_setBounds_48 : decode cX1_setBounds 48 = .ok (.getfield 12, 3) := by decide +kernel
theorem dX1_setBounds_51 : decode cX1_setBounds 51 = .ok (.getfield 77, 3) := by decide +kernel
theorem dX1_setBounds_54 : decode cX1_setBounds 54 = .ok (.iadd, 1) := by decide +kernel
theorem dX1_setBounds_55 : decode cX1_setBounds 55 = .ok (.imul, 1) := by decide +kernel
theorem dX1_setBounds_56 : decode cX1_setBounds 56 = .ok (.istore_n 3, 1) := by decide +kernel
theorem dX1_setBounds_57 : decode cX1_setBounds 57 = .ok (.aload_n 0, 1) := by decide +kernel
theorem dX1_setBounds_58 : decode cX1_setBounds 58 = .ok (.getfield 25, 3) := by decide +kernel
theorem dX1_setBounds_61 : decode cX1_setBounds 61 = .ok (.iload_n 2, 1) := by decide +kernel
theorem dX1_setBounds_62 : decode cX1_setBounds 62 = .ok (.iload_n 3, 1) := by decide +kernel
theorem dX1_setBounds_63 : decode cX1_setBounds 63 = .ok (.iload_n 1, 1) := by decide +kernel
theorem dX1_setBounds_64 : decode cX1_setBounds 64 = .ok (.iadd, 1) := by decide +kernel
theorem dX1_setBounds_65 : decode cX1_setBounds 65 = .ok (.iconst 1, 1) := by decide +kernel
theorem dX1_setBounds_66 : decode cX1_setBounds 66 = .ok (.isub, 1) := by decide +kernel
theorem dX1_setBounds_67 : decode cX1_setBounds 67 = .ok (.iload_n 1, 1) := by decide +kernel
theorem dX1_setBounds_68 : decode cX1_setBounds 68 = .ok (.idiv, 1) := by decide +kernel
theorem dX1_setBounds_69 : decode cX1_setBounds 69 = .ok (.iastore, 1) := by decide +kernel
theorem dX1_setBounds_70 : decode cX1_setBounds 70 = .ok (.aload_n 0, 1) := by decide +kernel
theorem dX1_setBounds_71 : decode cX1_setBounds 71 = .ok (.getfield 28, 3) := by decide +kernel
theorem dX1_setBounds_74 : decode cX1_setBounds 74 = .ok (.iload_n 2, 1) := by decide +kernel
theorem dX1_setBounds_75 : decode cX1_setBounds 75 = .ok (.iconst 0, 1) := by decide +kernel
theorem dX1_setBounds_76 : decode cX1_setBounds 76 = .ok (.iastore, 1) := by decide +kernel
theorem dX1_setBounds_77 : decode cX1_setBounds 77 = .ok (.iinc 2 1, 3) := by decide +kernel
theorem dX1_setBounds_80 : decode cX1_setBounds 80 = .ok (.goto (-67), 3) := by decide +kernel
theorem dX1_setBounds_83 : decode cX1_setBounds 83 = .ok (.return_, 1) := by decide +kernel
set_option maxRecDepth 20000 in
theorem ggX1_layKey_X1_placeOfKey : GoodIn wsX1_layKey wsX1_placeOfKey := goodIn_r _ [11, 12, 13, 17, 18, 19, 20, 21, 22, 23, 24, 25, 26, 27, 28, 29, 30, 31] (by decide +kernel) (by decide +kernel)
set_option maxRecDepth 20000 in
theorem gX1_layKey_X1_placeOfKey : GoodIn wsX1_layKey (wsV RX1 80 RX1 yX1_placeOfKey wsX1_placeOfKey) := goodIn_app (goodIn_of _ (by decide +kernel)) ggX1_layKey_X1_placeOfKey
set_option maxRecDepth 20000 in
theorem ggX1_layKey_X1_placeBehind : GoodIn wsX1_layKey wsX1_placeBehind := goodIn_r _ [16] (by decide +kernel) (by decide +kernel)
set_option maxRecDepth 20000 in
theorem gX1_layKey_X1_placeBehind : GoodIn wsX1_layKey (va_wsS RX1 70 yX1_placeBehind wsX1_placeBehind) := goodIn_app (goodIn_of _ (by decide +kernel)) ggX1_layKey_X1_placeBehind
theorem dX1_layKey_0 : decode cX1_layKey 0 = .ok (.aload_n 0, 1) := by decide +kernel
theorem dX1_layKey_1 : decode cX1_layKey 1 = .ok (.getfield 31, 3) := by decide +kernel
theorem dX1_layKey_4 : decode cX1_layKey 4 = .ok (.iload_n 1, 1) := by decide +kernel
theorem dX1_layKey_5 : decode cX1_layKey 5 = .ok (.iconst (-1), 1) := by decide +kernel
theorem dX1_layKey_6 : decode cX1_layKey 6 = .ok (.iastore, 1) := by decide +kernel
theorem dX1_layKey_7 : decode cX1_layKey 7 = .ok (.aload_n 0, 1) := by decide +kernel
theorem dX1_layKey_8 : decode cX1_layKey 8 = .ok (.getfield 34, 3) := by decide +kernel
theorem dX1_layKey_11 : decode cX1_layKey 11 = .ok (.iload_n 1, 1) := by decide +kernel
theorem dX1_layKey_12 : decode cX1_layKey 12 = .ok (.iconst (-1), 1) := by decide +kernel
theorem dX1_layKey_13 : decode cX1_layKey 13 = .ok (.iastore, 1) := by decide +kernel
theorem dX1_layKey_14 : decode cX1_layKey 14 = .ok (.aload_n 0, 1) := by decide +kernel
theorem dX1_layKey_15 : decode cX1_layKey 15 = .ok (.getfield 37, 3) := by decide +kernel
theorem dX1_layKey_18 : decode cX1_layKey 18 = .ok (.iload_n 1, 1) := by decide +kernel
theorem dX1_layKey_19 : decode cX1_layKey 19 = .ok (.iconst (-1), 1) := by decide +kernel
theorem dX1_layKey_20 : decode cX1_layKey 20 = .ok (.iastore, 1) := by decide +kernel
theorem dX1_layKey_21 : decode cX1_layKey 21 = .ok (.aload_n 0, 1) := by decide +kernel
theorem dX1_layKey_22 : decode cX1_layKey 22 = .ok (.iload_n 1, 1) := by decide +kernel
theorem dX1_layKey_23 : decode cX1_layKey 23 = .ok (.invokevirtual 80, 3) := by decide +kernel
theorem dX1_layKey_26 : decode cX1_layKey 26 = .ok (.istore_n 2, 1) := by decide +kernel
theorem dX1_layKey_27 : decode cX1_layKey 27 = .ok (.iconst 0, 1) := by decide +kernel
theorem dX1_layKey_28 : decode cX1_layKey 28 = .ok (.istore_n 3, 1) := by decide +kernel
theorem dX1_layKey_29 : decode cX1_layKey 29 = .ok (.iconst 0, 1) := by decide +kernel
theorem dX1_layKey_30 : decode cX1_layKey 30 = .ok (.istore 4, 2) := by decide +kernel
theorem dX1_layKey_32 : decode cX1_layKey 32 = .ok (.iload 4, 2) := by decide +kernel
theorem dX1_layKey_34 : decode cX1_layKey 34 = .ok (.bipush 101, 2) := by decide +kernel
theorem dX1_layKey_36 : decode cX1_layKey 36 = .ok (.if_icmp .ge 89, 3) := by decide +kernel
theorem dX1_layKey_39 : decode cX1_layKey 39 = .ok (.aload_n 0, 1) := by decide +kernel
theorem dX1_layKey_40 : decode cX1_layKey 40 = .ok (.getfield 18, 3) := by decide +kernel
theorem dX1_layKey_43 : decode cX1_layKey 43 = .ok (.iload_n 2, 1) := by decide +kernel
theorem dX1_layKey_44 : decode cX1_layKey 44 = .ok (.iaload, 1) := by decide +kernel
theorem dX1_layKey_45 : decode cX1_layKey 45 = .ok (.istore 5, 2) := by decide +kernel
theorem dX1_layKey_47 : decode cX1_layKey 47 = .ok (.iload 5, 2) := by decide +kernel
theorem dX1_layKey_49 : decode cX1_layKey 49 = .ok (.iconst (-1), 1) := by decide +kernel
theorem dX1_layKey_50 : decode cX1_layKey 50 = .ok (.if_icmp .eq 55, 3) := by decide +kernel
theorem dX1_layKey_53 : decode cX1_layKey 53 = .ok (.aload_n 0, 1) := by decide +kernel
theorem dX1_layKey_54 : decode cX1_layKey 54 = .ok (.getfield 28, 3) := by decide +kernel
theorem dX1_layKey_57 : decode cX1_layKey 57 = .ok (.iload 5, 2) := by decide +kernel
theorem dX1_layKey_59 : decode cX1_layKey 59 = .ok (.iaload, 1) := by decide +kernel
theorem dX1_layKey_60 : decode cX1_layKey 60 = .ok (.aload_n 0, 1) := by decide +kernel
theorem dX1_layKey_61 : decode cX1_layKey 61 = .ok (.getfield 25, 3) := by decide +kernel
theorem dX1_layKey_64 : decode cX1_layKey 64 = .ok (.iload 5, 2) := by decide +kernel
theorem dX1_layKey_66 : decode cX1_layKey 66 = .ok (.iaload, 1) := by decide +kernel
theorem dX1_layKey_67 : decode cX1_layKey 67 = .ok (.if_icmp .ge 38, 3) := by decide +kernel
theorem dX1_layKey_70 : decode cX1_layKey 70 = .ok (.aload_n 0, 1) := by decide +kernel
theorem dX1_layKey_71 : decode cX1_layKey 71 = .ok (.getfield 31, 3) := by decide +kernel
theorem dX1_layKey_74 : decode cX1_layKey 74 = .ok (.iload_n 1, 1) := by decide +kernel
theorem dX1_layKey_75 : decode cX1_layKey 75 = .ok (.iload 5, 2) := by decide +kernel
theorem dX1_layKey_77 : decode cX1_layKey 77 = .ok (.iastore, 1) := by decide +kernel
theorem dX1_layKey_78 : decode cX1_layKey 78 = .ok (.aload_n 0, 1) := by decide +kernel
theorem dX1_layKey_79 : decode cX1_layKey 79 = .ok (.getfield 34, 3) := by decide +kernel
theorem dX1_layKey_82 : decode cX1_layKey 82 = .ok (.iload_n 1, 1) := by decide +kernel
theorem dX1_layKey_83 : decode cX1_layKey 83 = .ok (.iload_n 3, 1) := by decide +kernel
theorem dX1_layKey_84 : decode cX1_layKey 84 = .ok (.iastore, 1) := by decide +kernel
theorem dX1_layKey_85 : decode cX1_layKey 85 = .ok (.aload_n 0, 1) := by decide +kernel
theorem dX1_layKey_86 : decode cX1_layKey 86 = .ok (.getfield 37, 3) := by decide +kernel
theorem dX1_layKey_89 : decode cX1_layKey 89 = .ok (.iload_n 1, 1) := by decide +kernel
theorem dX1_layKey_90 : decode cX1_layKey 90 = .ok (.iload 4, 2) := by decide +kernel
theorem dX1_layKey_92 : decode cX1_layKey 92 = .ok (.iastore, 1) := by decide +kernel
theorem dX1_layKey_93 : decode cX1_layKey 93 = .ok (.aload_n 0, 1) := by decide +kernel
theorem dX1_layKey_94 : decode cX1_layKey 94 = .ok (.getfield 28, 3) := by decide +kernel
theorem dX1_layKey_97 : decode cX1_layKey 97 = .ok (.iload 5, 2) := by decide +kernel
theorem dX1_layKey_99 : decode cX1_layKey 99 = .ok (.dup2, 1) := by decide +kernel
theorem dX1_layKey_100 : decode cX1_layKey 100 = .ok (.iaload, 1) := by decide +kernel
theorem dX1_layKey_101 : decode cX1_layKey 101 = .ok (.iconst 1, 1) := by decide +kernel
theorem dX1_layKey_102 : decode cX1_layKey 102 = .ok (.iadd, 1) := by decide +kernel
theorem dX1_layKey_103 : decode cX1_layKey 103 = .ok (.iastore, 1) := by decide +kernel
theorem dX1_layKey_104 : decode cX1_layKey 104 = .ok (.return_, 1) := by decide +kernel
theorem dX1_layKey_105 : decode cX1_layKey 105 = .ok (.iload 5, 2) := by decide +kernel
theorem dX1_layKey_107 : decode cX1_layKey 107 = .ok (.iconst (-1), 1) := by decide +kernel
theorem dX1_layKey_108 : decode cX1_layKey 108 = .ok (.if_icmp .eq 6, 3) := by decide +kernel
theorem dX1_layKey_111 : decode cX1_layKey 111 = .ok (.iinc 3 1, 3) := by decide +kernel
theorem dX1_layKey_114 : decode cX1_layKey 114 = .ok (.iload_n 2, 1) := by decide +kernel
theorem dX1_layKey_115 : decode cX1_layKey 115 = .ok (.invokestatic 70, 3) := by decide +kernel
theorem dX1_layKey_118 : decode cX1_layKey 118 = .ok (.istore_n 2, 1) := by decide +kernel
theorem dX1_layKey_119 : decode cX1_layKey 119 = .ok (.iinc 4 1, 3) := by decide +kernel
theorem dX1_layKey_122 : decode cX1_layKey 122 = .ok (.goto (-90), 3) := by decide +kernel
theorem dX1_layKey_125 : decode cX1_layKey 125 = .ok (.return_, 1) := by decide +kernel
theorem dX1_placeBehind_0 : decode cX1_placeBehind 0 = .ok (.iload_n 0, 1) := by decide +kernel
theorem dX1_placeBehind_1 : decode cX1_placeBehind 1 = .ok (.iconst 1, 1) := by decide +kernel
theorem dX1_placeBehind_2 : decode cX1_placeBehind 2 = .ok (.iadd, 1) := by decide +kernel
theorem dX1_placeBehind_3 : decode cX1_placeBehind 3 = .ok (.bipush 101, 2) := by decide +kernel
theorem dX1_placeBehind_5 : decode cX1_placeBehind 5 = .ok (.if_icmp .ge 9, 3) := by decide +kernel
theorem dX1_placeBehind_8 : decode cX1_placeBehind 8 = .ok (.iload_n 0, 1) := by decide +kernel
theorem dX1_placeBehind_9 : decode cX1_placeBehind 9 = .ok (.iconst 1, 1) := by decide +kernel
theorem dX1_placeBehind_10 : decode cX1_placeBehind 10 = .ok (.iadd, 1) := by decide +kernel
theorem dX1_placeBehind_11 : decode cX1_placeBehind 11 = .ok (.goto 4, 3) := by decide +kernel
theorem dX1_placeBehind_14 : decode cX1_placeBehind 14 = .ok (.iconst 0, 1) := by decide +kernel
theorem dX1_placeBehind_15 : decode cX1_placeBehind 15 = .ok (.ireturn, 1) := by decide +kernel
theorem dX1_placeOfKey_0 : decode cX1_placeOfKey 0 = .ok (.bipush 53, 2) := by decide +kernel
theorem dX1_placeOfKey_2 : decode cX1_placeOfKey 2 = .ok (.aload_n 0, 1) := by decide +kernel
theorem dX1_placeOfKey_3 : decode cX1_placeOfKey 3 = .ok (.getfield 12, 3) := by decide +kernel
theorem dX1_placeOfKey_6 : decode cX1_placeOfKey 6 = .ok (.getfield 83, 3) := by decide +kernel
theorem dX1_placeOfKey_9 : decode cX1_placeOfKey 9 = .ok (.iload_n 1, 1) := by decide +kernel
theorem dX1_placeOfKey_10 : decode cX1_placeOfKey 10 = .ok (.iaload, 1) := by decide +kernel
theorem dX1_placeOfKey_11 : decode cX1_placeOfKey 11 = .ok (.imul, 1) := by decide +kernel
theorem dX1_placeOfKey_12 : decode cX1_placeOfKey 12 = .ok (.bipush 17, 2) := by decide +kernel
theorem dX1_placeOfKey_14 : decode cX1_placeOfKey 14 = .ok (.iadd, 1) := by decide +kernel
theorem dX1_placeOfKey_15 : decode cX1_placeOfKey 15 = .ok (.bipush 101, 2) := by decide +kernel
theorem dX1_placeOfKey_17 : decode cX1_placeOfKey 17 = .ok (.irem, 1) := by decide +kernel
theorem dX1_placeOfKey_18 : decode cX1_placeOfKey 18 = .ok (.ireturn, 1) := by decide +kernel
set_option maxRecDepth 20000 in
theorem ggX1_hostNameOfKey_X3_findKey : GoodIn wsX1_hostNameOfKey wsX3_findKey := goodIn_r _ [7, 8, 9, 24, 25, 26, 27, 28, 29, 30] (by decide +kernel) (by decide +kernel)
set_option maxRecDepth 20000 in
theorem gX1_hostNameOfKey_X3_findKey : GoodIn wsX1_hostNameOfKey (wsV RX1 86 RX3 yX3_findKey wsX3_findKey) := goodIn_app (goodIn_of _ (by decide +kernel)) ggX1_hostNameOfKey_X3_findKey
set_option maxRecDepth 20000 in
theorem ggX1_hostNameOfKey_X3_nameOf : GoodIn wsX1_hostNameOfKey wsX3_nameOf := goodIn_r _ [13, 14, 15, 24, 25, 26, 27, 28, 29, 30] (by decide +kernel) (by decide +kernel)
set_option maxRecDepth 20000 in
theorem gX1_hostNameOfKey_X3_nameOf : GoodIn wsX1_hostNameOfKey (wsV RX1 89 RX3 yX3_nameOf wsX3_nameOf) := goodIn_app (goodIn_of _ (by decide +kernel)) ggX1_hostNameOfKey_X3_nameOf
theorem dX1_hostNameOfKey_0 : decode cX1_hostNameOfKey 0 = .ok (.aload_n 0, 1) := by decide +kernel
theorem dX1_hostNameOfKey_1 : decode cX1_hostNameOfKey 1 = .ok (.getfield 12, 3) := by decide +kernel
theorem dX1_hostNameOfKey_4 : decode cX1_hostNameOfKey 4 = .ok (.iload_n 1, 1) := by decide +kernel
theorem dX1_hostNameOfKey_5 : decode cX1_hostNameOfKey 5 = .ok (.invokevirtual 86, 3) := by decide +kernel
theorem dX1_hostNameOfKey_8 : decode cX1_hostNameOfKey 8 = .ok (.istore_n 2, 1) := by decide +kernel
theorem dX1_hostNameOfKey_9 : decode cX1_hostNameOfKey 9 = .ok (.iload_n 2, 1) := by decide +kernel
theorem dX1_hostNameOfKey_10 : decode cX1_hostNameOfKey 10 = .ok (.ifCond .ge 7, 3) := by decide +kernel
theorem dX1_hostNameOfKey_13 : decode cX1_hostNameOfKey 13 = .ok (.iconst (-1), 1) := by decide +kernel
theorem dX1_hostNameOfKey_14 : decode cX1_hostNameOfKey 14 = .ok (.goto 16, 3) := by decide +kernel
theorem dX1_hostNameOfKey_17 : decode cX1_hostNameOfKey 17 = .ok (.aload_n 0, 1) := by decide +kernel
theorem dX1_hostNameOfKey_18 : decode cX1_hostNameOfKey 18 = .ok (.getfield 12, 3) := by decide +kernel
theorem dX1_hostNameOfKey_21 : decode cX1_hostNameOfKey 21 = .ok (.aload_n 0, 1) := by decide +kernel
theorem dX1_hostNameOfKey_22 : decode cX1_hostNameOfKey 22 = .ok (.getfield 31, 3) := by decide +kernel
theorem dX1_hostNameOfKey_25 : decode cX1_hostNameOfKey 25 = .ok (.iload_n 2, 1) := by decide +kernel
theorem dX1_hostNameOfKey_26 : decode cX1_hostNameOfKey 26 = .ok (.iaload, 1) := by decide +kernel
theorem dX1_hostNameOfKey_27 : decode cX1_hostNameOfKey 27 = .ok (.invokevirtual 89, 3) := by decide +kernel
theorem dX1_hostNameOfKey_30 : decode cX1_hostNameOfKey 30 = .ok (.ireturn, 1) := by decide +kernel
set_option maxRecDepth 20000 in
theorem ggX1_movedSince_X3_nameOf : GoodIn wsX1_movedSince wsX3_nameOf := goodIn_r _ [9, 10, 11, 31, 32, 33, 34, 35, 36, 37] (by decide +kernel) (by decide +kernel)
set_option maxRecDepth 20000 in
theorem gX1_movedSince_X3_nameOf : GoodIn wsX1_movedSince (wsV RX1 89 RX3 yX3_nameOf wsX3_nameOf) := goodIn_app (goodIn_of _ (by decide +kernel)) ggX1_movedSince_X3_nameOf
set_option maxRecDepth 20000 in
theorem ggX1_movedSince_X3_findKey : GoodIn wsX1_movedSince wsX3_findKey := goodIn_r _ [15, 16, 17, 31, 32, 33, 34, 35, 36, 37] (by decide +kernel) (by decide +kernel)
set_option maxRecDepth 20000 in
theorem gX1_movedSince_X3_findKey : GoodIn wsX1_movedSince (wsV RX1 86 RX3 yX3_findKey wsX3_findKey) := goodIn_app (goodIn_of _ (by decide +kernel)) ggX1_movedSince_X3_findKey
set_option maxRecDepth 20000 in
theorem ggX1_movedSince_X1_hostNameOfKey : GoodIn wsX1_movedSince wsX1_hostNameOfKey := goodIn_r _ [22, 1, 4, 12, 13, 14, 8, 15, 16, 17, 5, 6, 7, 9, 10, 11, 23, 24, 25, 26, 27, 28, 29, 30, 31, 32, 33, 34, 35, 36, 37] (by decide +kernel) (by decide +kernel)
set_option maxRecDepth 20000 in
theorem gX1_movedSince_X1_hostNameOfKey : GoodIn wsX1_movedSince (wsV RX1 92 RX1 yX1_hostNameOfKey wsX1_hostNameOfKey) := goodIn_app (goodIn_of _ (by decide +kernel)) ggX1_movedSince_X1_hostNameOfKey
theorem dX1_movedSince_0 : decode cX1_movedSince 0 = .ok (.iconst 0, 1) := by decide +kernel
theorem dX1_movedSince_1 : decode cX1_movedSince 1 = .ok (.istore_n 2, 1) := by decide +kernel
theorem dX1_movedSince_2 : decode cX1_movedSince 2 = .ok (.iconst 0, 1) := by decide +kernel
theorem dX1_movedSince_3 : decode cX1_movedSince 3 = .ok (.istore_n 3, 1) := by decide +kernel
theorem dX1_movedSince_4 : decode cX1_movedSince 4 = .ok (.iload_n 3, 1) := by decide +kernel
theorem dX1_movedSince_5 : decode cX1_movedSince 5 = .ok (.aload_n 1, 1) := by decide +kernel
theorem dX1_movedSince_6 : decode cX1_movedSince 6 = .ok (.getfield 12, 3) := by decide +kernel
theorem dX1_movedSince_9 : decode cX1_movedSince 9 = .ok (.getfield 49, 3) := by decide +kernel
theorem dX1_movedSince_12 : decode cX1_movedSince 12 = .ok (.if_icmp .ge 61, 3) := by decide +kernel
theorem dX1_movedSince_15 : decode cX1_movedSince 15 = .ok (.aload_n 1, 1) := by decide +kernel
theorem dX1_movedSince_16 : decode cX1_movedSince 16 = .ok (.getfield 12, 3) := by decide +kernel
theorem dX1_movedSince_19 : decode cX1_movedSince 19 = .ok (.getfield 83, 3) := by decide +kernel
theorem dX1_movedSince_22 : decode cX1_movedSince 22 = .ok (.iload_n 3, 1) := by decide +kernel
theorem dX1_movedSince_23 : decode cX1_movedSince 23 = .ok (.iaload, 1) := by decide +kernel
theorem dX1_movedSince_24 : decode cX1_movedSince 24 = .ok (.istore 4, 2) := by decide +kernel
theorem dX1_movedSince_26 : decode cX1_movedSince 26 = .ok (.aload_n 1, 1) := by decide +kernel
theorem dX1_movedSince_27 : decode cX1_movedSince 27 = .ok (.getfield 12, 3) := by decide +kernel
theorem dX1_movedSince_30 : decode cX1_movedSince 30 = .ok (.aload_n 1, 1) := by decide +kernel
theorem dX1_movedSince_31 : decode cX1_movedSince 31 = .ok (.getfield 31, 3) := by decide +kernel
theorem dX1_movedSince_34 : decode cX1_movedSince 34 = .ok (.iload_n 3, 1) := by decide +kernel
theorem dX1_movedSince_35 : decode cX1_movedSince 35 = .ok (.iaload, 1) := by decide +kernel
theorem dX1_movedSince_36 : decode cX1_movedSince 36 = .ok (.invokevirtual 89, 3) := by decide +kernel
theorem dX1_movedSince_39 : decode cX1_movedSince 39 = .ok (.istore 5, 2) := by decide +kernel
theorem dX1_movedSince_41 : decode cX1_movedSince 41 = .ok (.aload_n 0, 1) := by decide +kernel
theorem dX1_movedSince_42 : decode cX1_movedSince 42 = .ok (.getfield 12, 3) := by decide +kernel
theorem dX1_movedSince_45 : decode cX1_movedSince 45 = .ok (.iload 4, 2) := by decide +kernel
theorem dX1_movedSince_47 : decode cX1_movedSince 47 = .ok (.invokevirtual 86, 3) := by decide +kernel
theorem dX1_movedSince_50 : decode cX1_movedSince 50 = .ok (.ifCond .lt 17, 3) := by decide +kernel
theorem dX1_movedSince_53 : decode cX1_movedSince 53 = .ok (.aload_n 0, 1) := by decide +kernel
theorem dX1_movedSince_54 : decode cX1_movedSince 54 = .ok (.iload 4, 2) := by decide +kernel
theorem dX1_movedSince_56 : decode cX1_movedSince 56 = .ok (.invokevirtual 92, 3) := by decide +kernel
theorem dX1_movedSince_59 : decode cX1_movedSince 59 = .ok (.iload 5, 2) := by decide +kernel
theorem dX1_movedSince_61 : decode cX1_movedSince 61 = .ok (.if_icmp .eq 6, 3) := by decide +kernel
theorem dX1_movedSince_64 : decode cX1_movedSince 64 = .ok (.iinc 2 1, 3) := by decide +kernel
theorem dX1_movedSince_67 : decode cX1_movedSince 67 = .ok (.iinc 3 1, 3) := by decide +kernel
theorem dX1_movedSince_70 : decode cX1_movedSince 70 = .ok (.goto (-66), 3) := by decide +kernel
theorem dX1_movedSince_73 : decode cX1_movedSince 73 = .ok (.iload_n 2, 1) := by decide +kernel
theorem dX1_movedSince_74 : decode cX1_movedSince 74 = .ok (.ireturn, 1) := by decide +kernel
set_option maxRecDepth 20000 in
theorem ggX1_hostFact_X1_keyOfHost : GoodIn wsX1_hostFact wsX1_keyOfHost := goodIn_r _ [9, 1, 10, 11, 12, 13, 14, 15, 16, 17, 18, 19, 20, 21, 22, 23, 24, 25, 26, 27] (by decide +kernel) (by decide +kernel)
set_option maxRecDepth 20000 in
theorem gX1_hostFact_X1_keyOfHost : GoodIn wsX1_hostFact (wsV RX1 95 RX1 yX1_keyOfHost wsX1_keyOfHost) := goodIn_app (goodIn_of _ (by decide +kernel)) ggX1_hostFact_X1_keyOfHost
theorem dX1_hostFact_0 : decode cX1_hostFact 0 = .ok (.iload_n 2, 1) := by decide +kernel
theorem dX1_hostFact_1 : decode cX1_hostFact 1 = .ok (.tableswitch 51 0 2 #[27, 37, 44], 27) := by decide +kernel
theorem dX1_hostFact_28 : decode cX1_hostFact 28 = .ok (.aload_n 0, 1) := by decide +kernel
theorem dX1_hostFact_29 : decode cX1_hostFact 29 = .ok (.getfield 12, 3) := by decide +kernel
theorem dX1_hostFact_32 : decode cX1_hostFact 32 = .ok (.getfield 60, 3) := by decide +kernel
theorem dX1_hostFact_35 : decode cX1_hostFact 35 = .ok (.iload_n 1, 1) := by decide +kernel
theorem dX1_hostFact_36 : decode cX1_hostFact 36 = .ok (.iaload, 1) := by decide +kernel
theorem dX1_hostFact_37 : decode cX1_hostFact 37 = .ok (.ireturn, 1) := by decide +kernel
theorem dX1_hostFact_38 : decode cX1_hostFact 38 = .ok (.aload_n 0, 1) := by decide +kernel
theorem dX1_hostFact_39 : decode cX1_hostFact 39 = .ok (.getfield 25, 3) := by decide +kernel
theorem dX1_hostFact_42 : decode cX1_hostFact 42 = .ok (.iload_n 1, 1) := by decide +kernel
theorem dX1_hostFact_43 : decode cX1_hostFact 43 = .ok (.iaload, 1) := by decide +kernel
theorem dX1_hostFact_44 : decode cX1_hostFact 44 = .ok (.ireturn, 1) := by decide +kernel
theorem dX1_hostFact_45 : decode cX1_hostFact 45 = .ok (.aload_n 0, 1) := by decide +kernel
theorem dX1_hostFact_46 : decode cX1_hostFact 46 = .ok (.getfield 28, 3) := by decide +kernel
theorem dX1_hostFact_49 : decode cX1_hostFact 49 = .ok (.iload_n 1, 1) := by decide +kernel
theorem dX1_hostFact_50 : decode cX1_hostFact 50 = .ok (.iaload, 1) := by decide +kernel
theorem dX1_hostFact_51 : decode cX1_hostFact 51 = .ok (.ireturn, 1) := by decide +kernel
theorem dX1_hostFact_52 : decode cX1_hostFact 52 = .ok (.aload_n 0, 1) := by decide +kernel
theorem dX1_hostFact_53 : decode cX1_hostFact 53 = .ok (.iload_n 1, 1) := by decide +kernel
theorem dX1_hostFact_54 : decode cX1_hostFact 54 = .ok (.iload_n 2, 1) := by decide +kernel
theorem dX1_hostFact_55 : decode cX1_hostFact 55 = .ok (.iconst 3, 1) := by decide +kernel
theorem dX1_hostFact_56 : decode cX1_hostFact 56 = .ok (.isub, 1) := by decide +kernel
theorem dX1_hostFact_57 : decode cX1_hostFact 57 = .ok (.invokevirtual 95, 3) := by decide +kernel
theorem dX1_hostFact_60 : decode cX1_hostFact 60 = .ok (.ireturn, 1) := by decide +kernel
theorem dX1_keyOfHost_0 : decode cX1_keyOfHost 0 = .ok (.iconst 0, 1) := by decide +kernel
theorem dX1_keyOfHost_1 : decode cX1_keyOfHost 1 = .ok (.istore_n 3, 1) := by decide +kernel
theorem dX1_keyOfHost_2 : decode cX1_keyOfHost 2 = .ok (.iconst 0, 1) := by decide +kernel
theorem dX1_keyOfHost_3 : decode cX1_keyOfHost 3 = .ok (.istore 4, 2) := by decide +kernel
theorem dX1_keyOfHost_5 : decode cX1_keyOfHost 5 = .ok (.iload 4, 2) := by decide +kernel
theorem dX1_keyOfHost_7 : decode cX1_keyOfHost 7 = .ok (.aload_n 0, 1) := by decide +kernel
theorem dX1_keyOfHost_8 : decode cX1_keyOfHost 8 = .ok (.getfield 12, 3) := by decide +kernel
theorem dX1_keyOfHost_11 : decode cX1_keyOfHost 11 = .ok (.getfield 49, 3) := by decide +kernel
theorem dX1_keyOfHost_14 : decode cX1_keyOfHost 14 = .ok (.if_icmp .ge 39, 3) := by decide +kernel
theorem dX1_keyOfHost_17 : decode cX1_keyOfHost 17 = .ok (.aload_n 0, 1) := by decide +kernel
theorem dX1_keyOfHost_18 : decode cX1_keyOfHost 18 = .ok (.getfield 31, 3) := by decide +kernel
theorem dX1_keyOfHost_21 : decode cX1_keyOfHost 21 = .ok (.iload 4, 2) := by decide +kernel
theorem dX1_keyOfHost_23 : decode cX1_keyOfHost 23 = .ok (.iaload, 1) := by decide +kernel
theorem dX1_keyOfHost_24 : decode cX1_keyOfHost 24 = .ok (.iload_n 1, 1) := by decide +kernel
theorem dX1_keyOfHost_25 : decode cX1_keyOfHost 25 = .ok (.if_icmp .ne 22, 3) := by decide +kernel
theorem dX1_keyOfHost_28 : decode cX1_keyOfHost 28 = .ok (.iload_n 3, 1) := by decide +kernel
theorem dX1_keyOfHost_29 : decode cX1_keyOfHost 29 = .ok (.iload_n 2, 1) := by decide +kernel
theorem dX1_keyOfHost_30 : decode cX1_keyOfHost 30 = .ok (.if_icmp .ne 14, 3) := by decide +kernel
theorem dX1_keyOfHost_33 : decode cX1_keyOfHost 33 = .ok (.aload_n 0, 1) := by decide +kernel
theorem dX1_keyOfHost_34 : decode cX1_keyOfHost 34 = .ok (.getfield 12, 3) := by decide +kernel
theorem dX1_keyOfHost_37 : decode cX1_keyOfHost 37 = .ok (.getfield 83, 3) := by decide +kernel
theorem dX1_keyOfHost_40 : decode cX1_keyOfHost 40 = .ok (.iload 4, 2) := by decide +kernel
theorem dX1_keyOfHost_42 : decode cX1_keyOfHost 42 = .ok (.iaload, 1) := by decide +kernel
theorem dX1_keyOfHost_43 : decode cX1_keyOfHost 43 = .ok (.ireturn, 1) := by decide +kernel
theorem dX1_keyOfHost_44 : decode cX1_keyOfHost 44 = .ok (.iinc 3 1, 3) := by decide +kernel
theorem dX1_keyOfHost_47 : decode cX1_keyOfHost 47 = .ok (.iinc 4 1, 3) := by decide +kernel
theorem dX1_keyOfHost_50 : decode cX1_keyOfHost 50 = .ok (.goto (-45), 3) := by decide +kernel
theorem dX1_keyOfHost_53 : decode cX1_keyOfHost 53 = .ok (.iconst (-1), 1) := by decide +kernel
theorem dX1_keyOfHost_54 : decode cX1_keyOfHost 54 = .ok (.ireturn, 1) := by decide +kernel
set_option maxRecDepth 20000 in
theorem ggX1_keyFact_X1_placeOfKey : GoodIn wsX1_keyFact wsX1_placeOfKey := goodIn_r _ [7, 8, 9, 10, 11, 12, 13, 14, 15, 16, 17, 18, 19, 20, 21, 22, 23, 24] (by decide +kernel) (by decide +kernel)
set_option maxRecDepth 20000 in
theorem gX1_keyFact_X1_placeOfKey : GoodIn wsX1_keyFact (wsV RX1 80 RX1 yX1_placeOfKey wsX1_placeOfKey) := goodIn_app (goodIn_of _ (by decide +kernel)) ggX1_keyFact_X1_placeOfKey
theorem dX1_keyFact_0 : decode cX1_keyFact 0 = .ok (.iload_n 2, 1) := by decide +kernel
theorem dX1_keyFact_1 : decode cX1_keyFact 1 = .ok (.lookupswitch 40 #[(0, 27), (1, 33)], 27) := by decide +kernel
theorem dX1_keyFact_28 : decode cX1_keyFact 28 = .ok (.aload_n 0, 1) := by decide +kernel
theorem dX1_keyFact_29 : decode cX1_keyFact 29 = .ok (.iload_n 1, 1) := by decide +kernel
theorem dX1_keyFact_30 : decode cX1_keyFact 30 = .ok (.invokevirtual 80, 3) := by decide +kernel
theorem dX1_keyFact_33 : decode cX1_keyFact 33 = .ok (.ireturn, 1) := by decide +kernel
theorem dX1_keyFact_34 : decode cX1_keyFact 34 = .ok (.aload_n 0, 1) := by decide +kernel
theorem dX1_keyFact_35 : decode cX1_keyFact 35 = .ok (.getfield 34, 3) := by decide +kernel
theorem dX1_keyFact_38 : decode cX1_keyFact 38 = .ok (.iload_n 1, 1) := by decide +kernel
theorem dX1_keyFact_39 : decode cX1_keyFact 39 = .ok (.iaload, 1) := by decide +kernel
theorem dX1_keyFact_40 : decode cX1_keyFact 40 = .ok (.ireturn, 1) := by decide +kernel
theorem dX1_keyFact_41 : decode cX1_keyFact 41 = .ok (.aload_n 0, 1) := by decide +kernel
theorem dX1_keyFact_42 : decode cX1_keyFact 42 = .ok (.getfield 37, 3) := by decide +kernel
theorem dX1_keyFact_45 : decode cX1_keyFact 45 = .ok (.iload_n 1, 1) := by decide +kernel
theorem dX1_keyFact_46 : decode cX1_keyFact 46 = .ok (.iaload, 1) := by decide +kernel
theorem dX1_keyFact_47 : decode cX1_keyFact 47 = .ok (.ireturn, 1) := by decide +kernel
theorem dX1_placeOfMark_0 : decode cX1_placeOfMark 0 = .ok (.iload_n 2, 1) := by decide +kernel
theorem dX1_placeOfMark_1 : decode cX1_placeOfMark 1 = .ok (.iconst 2, 1) := by decide +kernel
theorem dX1_placeOfMark_2 : decode cX1_placeOfMark 2 = .ok (.aload_n 0, 1) := by decide +kernel
theorem dX1_placeOfMark_3 : decode cX1_placeOfMark 3 = .ok (.getfield 12, 3) := by decide +kernel
theorem dX1_placeOfMark_6 : decode cX1_placeOfMark 6 = .ok (.getfield 60, 3) := by decide +kernel
theorem dX1_placeOfMark_9 : decode cX1_placeOfMark 9 = .ok (.iload_n 1, 1) := by decide +kernel
theorem dX1_placeOfMark_10 : decode cX1_placeOfMark 10 = .ok (.iaload, 1) := by decide +kernel
theorem dX1_placeOfMark_11 : decode cX1_placeOfMark 11 = .ok (.imul, 1) := by decide +kernel
theorem dX1_placeOfMark_12 : decode cX1_placeOfMark 12 = .ok (.if_icmp .ge 17, 3) := by decide +kernel
theorem dX1_placeOfMark_15 : decode cX1_placeOfMark 15 = .ok (.aload_n 0, 1) := by decide +kernel
theorem dX1_placeOfMark_16 : decode cX1_placeOfMark 16 = .ok (.getfield 22, 3) := by decide +kernel
theorem dX1_placeOfMark_19 : decode cX1_placeOfMark 19 = .ok (.iload_n 1, 1) := by decide +kernel
theorem dX1_placeOfMark_20 : decode cX1_placeOfMark 20 = .ok (.bipush 8, 2) := by decide +kernel
theorem dX1_placeOfMark_22 : decode cX1_placeOfMark 22 = .ok (.imul, 1) := by decide +kernel
theorem dX1_placeOfMark_23 : decode cX1_placeOfMark 23 = .ok (.iload_n 2, 1) := by decide +kernel
theorem dX1_placeOfMark_24 : decode cX1_placeOfMark 24 = .ok (.iadd, 1) := by decide +kernel
theorem dX1_placeOfMark_25 : decode cX1_placeOfMark 25 = .ok (.iaload, 1) := by decide +kernel
theorem dX1_placeOfMark_26 : decode cX1_placeOfMark 26 = .ok (.goto 4, 3) := by decide +kernel
theorem dX1_placeOfMark_29 : decode cX1_placeOfMark 29 = .ok (.iconst (-1), 1) := by decide +kernel
theorem dX1_placeOfMark_30 : decode cX1_placeOfMark 30 = .ok (.ireturn, 1) := by decide +kernel
set_option maxRecDepth 20000 in
theorem ggX1_placesLeadingTo_X1_firstOwner : GoodIn wsX1_placesLeadingTo wsX1_firstOwner := goodIn_r _ [6, 1, 7, 8, 9, 10, 11, 12, 13, 14] (by decide +kernel) (by decide +kernel)
set_option maxRecDepth 20000 in
theorem gX1_placesLeadingTo_X1_firstOwner : GoodIn wsX1_placesLeadingTo (wsV RX1 99 RX1 yX1_firstOwner wsX1_firstOwner) := goodIn_app (goodIn_of _ (by decide +kernel)) ggX1_placesLeadingTo_X1_firstOwner
theorem dX1_placesLeadingTo_0 : decode cX1_placesLeadingTo 0 = .ok (.aload_n 0, 1) := by decide +kernel
theorem dX1_placesLeadingTo_1 : decode cX1_placesLeadingTo 1 = .ok (.invokevirtual 99, 3) := by decide +kernel
theorem dX1_placesLeadingTo_4 : decode cX1_placesLeadingTo 4 = .ok (.istore_n 2, 1) := by decide +kernel
theorem dX1_placesLeadingTo_5 : decode cX1_placesLeadingTo 5 = .ok (.iconst 0, 1) := by decide +kernel
theorem dX1_placesLeadingTo_6 : decode cX1_placesLeadingTo 6 = .ok (.istore_n 3, 1) := by decide +kernel
theorem dX1_placesLeadingTo_7 : decode cX1_placesLeadingTo 7 = .ok (.bipush 100, 2) := by decide +kernel
theorem dX1_placesLeadingTo_9 : decode cX1_placesLeadingTo 9 = .ok (.istore 4, 2) := by decide +kernel
theorem dX1_placesLeadingTo_11 : decode cX1_placesLeadingTo 11 = .ok (.iload 4, 2) := by decide +kernel
theorem dX1_placesLeadingTo_13 : decode cX1_placesLeadingTo 13 = .ok (.ifCond .lt 36, 3) := by decide +kernel
theorem dX1_placesLeadingTo_16 : decode cX1_placesLeadingTo 16 = .ok (.aload_n 0, 1) := by decide +kernel
theorem dX1_placesLeadingTo_17 : decode cX1_placesLeadingTo 17 = .ok (.getfield 18, 3) := by decide +kernel
theorem dX1_placesLeadingTo_20 : decode cX1_placesLeadingTo 20 = .ok (.iload 4, 2) := by decide +kernel
theorem dX1_placesLeadingTo_22 : decode cX1_placesLeadingTo 22 = .ok (.iaload, 1) := by decide +kernel
theorem dX1_placesLeadingTo_23 : decode cX1_placesLeadingTo 23 = .ok (.iconst (-1), 1) := by decide +kernel
theorem dX1_placesLeadingTo_24 : decode cX1_placesLeadingTo 24 = .ok (.if_icmp .eq 11, 3) := by decide +kernel
theorem dX1_placesLeadingTo_27 : decode cX1_placesLeadingTo 27 = .ok (.aload_n 0, 1) := by decide +kernel
theorem dX1_placesLeadingTo_28 : decode cX1_placesLeadingTo 28 = .ok (.getfield 18, 3) := by decide +kernel
theorem dX1_placesLeadingTo_31 : decode cX1_placesLeadingTo 31 = .ok (.iload 4, 2) := by decide +kernel
theorem dX1_placesLeadingTo_33 : decode cX1_placesLeadingTo 33 = .ok (.iaload, 1) := by decide +kernel
theorem dX1_placesLeadingTo_34 : decode cX1_placesLeadingTo 34 = .ok (.istore_n 2, 1) := by decide +kernel
theorem dX1_placesLeadingTo_35 : decode cX1_placesLeadingTo 35 = .ok (.iload_n 2, 1) := by decide +kernel
theorem dX1_placesLeadingTo_36 : decode cX1_placesLeadingTo 36 = .ok (.iload_n 1, 1) := by decide +kernel
theorem dX1_placesLeadingTo_37 : decode cX1_placesLeadingTo 37 = .ok (.if_icmp .ne 6, 3) := by decide +kernel
theorem dX1_placesLeadingTo_40 : decode cX1_placesLeadingTo 40 = .ok (.iinc 3 1, 3) := by decide +kernel
theorem dX1_placesLeadingTo_43 : decode cX1_placesLeadingTo 43 = .ok (.iinc 4 (-1), 3) := by decide +kernel
theorem dX1_placesLeadingTo_46 : decode cX1_placesLeadingTo 46 = .ok (.goto (-35), 3) := by decide +kernel
theorem dX1_placesLeadingTo_49 : decode cX1_placesLeadingTo 49 = .ok (.iload_n 3, 1) := by decide +kernel
theorem dX1_placesLeadingTo_50 : decode cX1_placesLeadingTo 50 = .ok (.ireturn, 1) := by decide +kernel
theorem dX1_firstOwner_0 : decode cX1_firstOwner 0 = .ok (.iconst 0, 1) := by decide +kernel
theorem dX1_firstOwner_1 : decode cX1_firstOwner 1 = .ok (.istore_n 1, 1) := by decide +kernel
theorem dX1_firstOwner_2 : decode cX1_firstOwner 2 = .ok (.iload_n 1, 1) := by decide +kernel
theorem dX1_firstOwner_3 : decode cX1_firstOwner 3 = .ok (.bipush 101, 2) := by decide +kernel
theorem dX1_firstOwner_5 : decode cX1_firstOwner 5 = .ok (.if_icmp .ge 26, 3) := by decide +kernel
theorem dX1_firstOwner_8 : decode cX1_firstOwner 8 = .ok (.aload_n 0, 1) := by decide +kernel
theorem dX1_firstOwner_9 : decode cX1_firstOwner 9 = .ok (.getfield 18, 3) := by decide +kernel
theorem dX1_firstOwner_12 : decode cX1_firstOwner 12 = .ok (.iload_n 1, 1) := by decide +kernel
theorem dX1_firstOwner_13 : decode cX1_firstOwner 13 = .ok (.iaload, 1) := by decide +kernel
theorem dX1_firstOwner_14 : decode cX1_firstOwner 14 = .ok (.iconst (-1), 1) := by decide +kernel
theorem dX1_firstOwner_15 : decode cX1_firstOwner 15 = .ok (.if_icmp .eq 10, 3) := by decide +kernel
theorem dX1_firstOwner_18 : decode cX1_firstOwner 18 = .ok (.aload_n 0, 1) := by decide +kernel
theorem dX1_firstOwner_19 : decode cX1_firstOwner 19 = .ok (.getfield 18, 3) := by decide +kernel
theorem dX1_firstOwner_22 : decode cX1_firstOwner 22 = .ok (.iload_n 1, 1) := by decide +kernel
theorem dX1_firstOwner_23 : decode cX1_firstOwner 23 = .ok (.iaload, 1) := by decide +kernel
theorem dX1_firstOwner_24 : decode cX1_firstOwner 24 = .ok (.ireturn, 1) := by decide +kernel
theorem dX1_firstOwner_25 : decode cX1_firstOwner 25 = .ok (.iinc 1 1, 3) := by decide +kernel
theorem dX1_firstOwner_28 : decode cX1_firstOwner 28 = .ok (.goto (-26), 3) := by decide +kernel
theorem dX1_firstOwner_31 : decode cX1_firstOwner 31 = .ok (.iconst (-1), 1) := by decide +kernel
theorem dX1_firstOwner_32 : decode cX1_firstOwner 32 = .ok (.ireturn, 1) := by decide +kernel
theorem dX1_fullHosts_0 : decode cX1_fullHosts 0 = .ok (.iconst 0, 1) := by decide +kernel
theorem dX1_fullHosts_1 : decode cX1_fullHosts 1 = .ok (.istore_n 1, 1) := by decide +kernel
theorem dX1_fullHosts_2 : decode cX1_fullHosts 2 = .ok (.iconst 0, 1) := by decide +kernel
theorem dX1_fullHosts_3 : decode cX1_fullHosts 3 = .ok (.istore_n 2, 1) := by decide +kernel
theorem dX1_fullHosts_4 : decode cX1_fullHosts 4 = .ok (.iload_n 2, 1) := by decide +kernel
theorem dX1_fullHosts_5 : decode cX1_fullHosts 5 = .ok (.aload_n 0, 1) := by decide +kernel
theorem dX1_fullHosts_6 : decode cX1_fullHosts 6 = .ok (.getfield 12, 3) := by decide +kernel
theorem dX1_fullHosts_9 : decode cX1_fullHosts 9 = .ok (.getfield 57, 3) := by decide +kernel
theorem dX1_fullHosts_12 : decode cX1_fullHosts 12 = .ok (.if_icmp .ge 27, 3) := by decide +kernel
theorem dX1_fullHosts_15 : decode cX1_fullHosts 15 = .ok (.aload_n 0, 1) := by decide +kernel
theorem dX1_fullHosts_16 : decode cX1_fullHosts 16 = .ok (.getfield 28, 3) := by decide +kernel
theorem dX1_fullHosts_19 : decode cX1_fullHosts 19 = .ok (.iload_n 2, 1) := by decide +kernel
theorem dX1_fullHosts_20 : decode cX1_fullHosts 20 = .ok (.iaload, 1) := by decide +kernel
theorem dX1_fullHosts_21 : decode cX1_fullHosts 21 = .ok (.aload_n 0, 1) := by decide +kernel
theorem dX1_fullHosts_22 : decode cX1_fullHosts 22 = .ok (.getfield 25, 3) := by decide +kernel
theorem dX1_fullHosts_25 : decode cX1_fullHosts 25 = .ok (.iload_n 2, 1) := by decide +kernel
theorem dX1_fullHosts_26 : decode cX1_fullHosts 26 = .ok (.iaload, 1) := by decide +kernel
theorem dX1_fullHosts_27 : decode cX1_fullHosts 27 = .ok (.if_icmp .ne 6, 3) := by decide +kernel
theorem dX1_fullHosts_30 : decode cX1_fullHosts 30 = .ok (.iinc 1 1, 3) := by decide +kernel
theorem dX1_fullHosts_33 : decode cX1_fullHosts 33 = .ok (.iinc 2 1, 3) := by decide +kernel
theorem dX1_fullHosts_36 : decode cX1_fullHosts 36 = .ok (.goto (-32), 3) := by decide +kernel
theorem dX1_fullHosts_39 : decode cX1_fullHosts 39 = .ok (.iload_n 1, 1) := by decide +kernel
theorem dX1_fullHosts_40 : decode cX1_fullHosts 40 = .ok (.ireturn, 1) := by decide +kernel
theorem dX1_allPassed_0 : decode cX1_allPassed 0 = .ok (.iconst 0, 1) := by decide +kernel
theorem dX1_allPassed_1 : decode cX1_allPassed 1 = .ok (.istore_n 1, 1) := by decide +kernel
theorem dX1_allPassed_2 : decode cX1_allPassed 2 = .ok (.iconst 0, 1) := by decide +kernel
theorem dX1_allPassed_3 : decode cX1_allPassed 3 = .ok (.istore_n 2, 1) := by decide +kernel
theorem dX1_allPassed_4 : decode cX1_allPassed 4 = .ok (.iload_n 2, 1) := by decide +kernel
theorem dX1_allPassed_5 : decode cX1_allPassed 5 = .ok (.aload_n 0, 1) := by decide +kernel
theorem dX1_allPassed_6 : decode cX1_allPassed 6 = .ok (.getfield 12, 3) := by decide +kernel
theorem dX1_allPassed_9 : decode cX1_allPassed 9 = .ok (.getfield 49, 3) := by decide +kernel
theorem dX1_allPassed_12 : decode cX1_allPassed 12 = .ok (.if_icmp .ge 28, 3) := by decide +kernel
theorem dX1_allPassed_15 : decode cX1_allPassed 15 = .ok (.aload_n 0, 1) := by decide +kernel
theorem dX1_allPassed_16 : decode cX1_allPassed 16 = .ok (.getfield 34, 3) := by decide +kernel
theorem dX1_allPassed_19 : decode cX1_allPassed 19 = .ok (.iload_n 2, 1) := by decide +kernel
theorem dX1_allPassed_20 : decode cX1_allPassed 20 = .ok (.iaload, 1) := by decide +kernel
theorem dX1_allPassed_21 : decode cX1_allPassed 21 = .ok (.iconst (-1), 1) := by decide +kernel
theorem dX1_allPassed_22 : decode cX1_allPassed 22 = .ok (.if_icmp .eq 12, 3) := by decide +kernel
theorem dX1_allPassed_25 : decode cX1_allPassed 25 = .ok (.iload_n 1, 1) := by decide +kernel
theorem dX1_allPassed_26 : decode cX1_allPassed 26 = .ok (.aload_n 0, 1) := by decide +kernel
theorem dX1_allPassed_27 : decode cX1_allPassed 27 = .ok (.getfield 34, 3) := by decide +kernel
theorem dX1_allPassed_30 : decode cX1_allPassed 30 = .ok (.iload_n 2, 1) := by decide +kernel
theorem dX1_allPassed_31 : decode cX1_allPassed 31 = .ok (.iaload, 1) := by decide +kernel
theorem dX1_allPassed_32 : decode cX1_allPassed 32 = .ok (.iadd, 1) := by decide +kernel
theorem dX1_allPassed_33 : decode cX1_allPassed 33 = .ok (.istore_n 1, 1) := by decide +kernel
theorem dX1_allPassed_34 : decode cX1_allPassed 34 = .ok (.iinc 2 1, 3) := by decide +kernel
theorem dX1_allPassed_37 : decode cX1_allPassed 37 = .ok (.goto (-33), 3) := by decide +kernel
theorem dX1_allPassed_40 : decode cX1_allPassed 40 = .ok (.iload_n 1, 1) := by decide +kernel
theorem dX1_allPassed_41 : decode cX1_allPassed 41 = .ok (.ireturn, 1) := by decide +kernel
theorem dX1_mostLoad_0 : decode cX1_mostLoad 0 = .ok (.iconst 0, 1) := by decide +kernel
theorem dX1_mostLoad_1 : decode cX1_mostLoad 1 = .ok (.istore_n 1, 1) := by decide +kernel
theorem dX1_mostLoad_2 : decode cX1_mostLoad 2 = .ok (.iconst 0, 1) := by decide +kernel
theorem dX1_mostLoad_3 : decode cX1_mostLoad 3 = .ok (.istore_n 2, 1) := by decide +kernel
theorem dX1_mostLoad_4 : decode cX1_mostLoad 4 = .ok (.iload_n 2, 1) := by decide +kernel
theorem dX1_mostLoad_5 : decode cX1_mostLoad 5 = .ok (.aload_n 0, 1) := by decide +kernel
theorem dX1_mostLoad_6 : decode cX1_mostLoad 6 = .ok (.getfield 12, 3) := by decide +kernel
theorem dX1_mostLoad_9 : decode cX1_mostLoad 9 = .ok (.getfield 57, 3) := by decide +kernel
theorem dX1_mostLoad_12 : decode cX1_mostLoad 12 = .ok (.if_icmp .ge 20, 3) := by decide +kernel
theorem dX1_mostLoad_15 : decode cX1_mostLoad 15 = .ok (.iload_n 1, 1) := by decide +kernel
theorem dX1_mostLoad_16 : decode cX1_mostLoad 16 = .ok (.aload_n 0, 1) := by decide +kernel
theorem dX1_mostLoad_17 : decode cX1_mostLoad 17 = .ok (.getfield 28, 3) := by decide +kernel
theorem dX1_mostLoad_20 : decode cX1_mostLoad 20 = .ok (.iload_n 2, 1) := by decide +kernel
theorem dX1_mostLoad_21 : decode cX1_mostLoad 21 = .ok (.iaload, 1) := by decide +kernel
