theorem dX4_digestHosts_20 : decode cX4_digestHosts 20 = .ok (.ldc2_w 170, 3) := by decide +kernel
theorem dX4_digestHosts_23 : decode cX4_digestHosts 23 = .ok (.lload_n 3, 1) := by decide +kernel
theorem dX4_digestHosts_24 : decode cX4_digestHosts 24 = .ok (.lmul, 1) := by decide +kernel
theorem dX4_digestHosts_25 : decode cX4_digestHosts 25 = .ok (.aload_n 0, 1) := by decide +kernel
theorem dX4_digestHosts_26 : decode cX4_digestHosts 26 = .ok (.getfield 12, 3) := by decide +kernel
theorem dX4_digestHosts_29 : decode cX4_digestHosts 29 = .ok (.getfield 58, 3) := by decide +kernel
theorem dX4_digestHosts_32 : decode cX4_digestHosts 32 = .ok (.getfield 188, 3) := by decide +kernel
theorem dX4_digestHosts_35 : decode cX4_digestHosts 35 = .ok (.iload 5, 2) := by decide +kernel
theorem dX4_digestHosts_37 : decode cX4_digestHosts 37 = .ok (.iaload, 1) := by decide +kernel
theorem dX4_digestHosts_38 : decode cX4_digestHosts 38 = .ok (.i2l, 1) := by decide +kernel
theorem dX4_digestHosts_39 : decode cX4_digestHosts 39 = .ok (.ladd, 1) := by decide +kernel
theorem dX4_digestHosts_40 : decode cX4_digestHosts 40 = .ok (.lstore_n 3, 1) := by decide +kernel
theorem dX4_digestHosts_41 : decode cX4_digestHosts 41 = .ok (.iconst 0, 1) := by decide +kernel
theorem dX4_digestHosts_42 : decode cX4_digestHosts 42 = .ok (.istore 6, 2) := by decide +kernel
theorem dX4_digestHosts_44 : decode cX4_digestHosts 44 = .ok (.iload 6, 2) := by decide +kernel
theorem dX4_digestHosts_46 : decode cX4_digestHosts 46 = .ok (.iconst 3, 1) := by decide +kernel
theorem dX4_digestHosts_47 : decode cX4_digestHosts 47 = .ok (.if_icmp .ge 28, 3) := by decide +kernel
theorem dX4_digestHosts_50 : decode cX4_digestHosts 50 = .ok (.ldc2_w 170, 3) := by decide +kernel
theorem dX4_digestHosts_53 : decode cX4_digestHosts 53 = .ok (.lload_n 3, 1) := by decide +kernel
theorem dX4_digestHosts_54 : decode cX4_digestHosts 54 = .ok (.lmul, 1) := by decide +kernel
theorem dX4_digestHosts_55 : decode cX4_digestHosts 55 = .ok (.aload_n 0, 1) := by decide +kernel
theorem dX4_digestHosts_56 : decode cX4_digestHosts 56 = .ok (.getfield 12, 3) := by decide +kernel
theorem dX4_digestHosts_59 : decode cX4_digestHosts 59 = .ok (.iload 5, 2) := by decide +kernel
theorem dX4_digestHosts_61 : decode cX4_digestHosts 61 = .ok (.iload 6, 2) := by decide +kernel
theorem dX4_digestHosts_63 : decode cX4_digestHosts 63 = .ok (.invokevirtual 67, 3) := by decide +kernel
theorem dX4_digestHosts_66 : decode cX4_digestHosts 66 = .ok (.i2l, 1) := by decide +kernel
theorem dX4_digestHosts_67 : decode cX4_digestHosts 67 = .ok (.ladd, 1) := by decide +kernel
theorem dX4_digestHosts_68 : decode cX4_digestHosts 68 = .ok (.lstore_n 3, 1) := by decide +kernel
theorem dX4_digestHosts_69 : decode cX4_digestHosts 69 = .ok (.iinc 6 1, 3) := by decide +kernel
theorem dX4_digestHosts_72 : decode cX4_digestHosts 72 = .ok (.goto (-28), 3) := by decide +kernel
theorem dX4_digestHosts_75 : decode cX4_digestHosts 75 = .ok (.iinc 5 1, 3) := by decide +kernel
theorem dX4_digestHosts_78 : decode cX4_digestHosts 78 = .ok (.goto (-73), 3) := by decide +kernel
theorem dX4_digestHosts_81 : decode cX4_digestHosts 81 = .ok (.lload_n 3, 1) := by decide +kernel
theorem dX4_digestHosts_82 : decode cX4_digestHosts 82 = .ok (.lreturn, 1) := by decide +kernel
set_option maxRecDepth 20000 in
theorem ggX4_digestKeys_X3_nameOf : GoodIn wsX4_digestKeys wsX3_nameOf := goodIn_r _ [11, 12, 13, 42, 43, 44, 45, 46, 47, 48] (by decide +kernel) (by decide +kernel)
set_option maxRecDepth 20000 in
theorem gX4_digestKeys_X3_nameOf : GoodIn wsX4_digestKeys (wsV RX4 78 RX3 yX3_nameOf wsX3_nameOf) := goodIn_app (goodIn_of _ (by decide +kernel)) ggX4_digestKeys_X3_nameOf
set_option maxRecDepth 20000 in
theorem ggX4_digestKeys_X1_keyFact : GoodIn wsX4_digestKeys wsX1_keyFact := goodIn_r _ [18, 19, 20, 21, 22, 23, 17, 24, 25, 26, 34, 35, 36, 37, 38, 39, 40, 41, 42, 43, 44, 45, 46, 47, 48] (by decide +kernel) (by decide +kernel)
set_option maxRecDepth 20000 in
theorem gX4_digestKeys_X1_keyFact : GoodIn wsX4_digestKeys (wsV RX4 93 RX1 yX1_keyFact wsX1_keyFact) := goodIn_app (goodIn_of _ (by decide +kernel)) ggX4_digestKeys_X1_keyFact
theorem dX4_digestKeys_0 : decode cX4_digestKeys 0 = .ok (.lload_n 1, 1) := by decide +kernel
theorem dX4_digestKeys_1 : decode cX4_digestKeys 1 = .ok (.lstore_n 3, 1) := by decide +kernel
theorem dX4_digestKeys_2 : decode cX4_digestKeys 2 = .ok (.iconst 0, 1) := by decide +kernel
theorem dX4_digestKeys_3 : decode cX4_digestKeys 3 = .ok (.istore 5, 2) := by decide +kernel
theorem dX4_digestKeys_5 : decode cX4_digestKeys 5 = .ok (.iload 5, 2) := by decide +kernel
theorem dX4_digestKeys_7 : decode cX4_digestKeys 7 = .ok (.aload_n 0, 1) := by decide +kernel
theorem dX4_digestKeys_8 : decode cX4_digestKeys 8 = .ok (.getfield 12, 3) := by decide +kernel
theorem dX4_digestKeys_11 : decode cX4_digestKeys 11 = .ok (.getfield 58, 3) := by decide +kernel
theorem dX4_digestKeys_14 : decode cX4_digestKeys 14 = .ok (.getfield 106, 3) := by decide +kernel
theorem dX4_digestKeys_17 : decode cX4_digestKeys 17 = .ok (.if_icmp .ge 92, 3) := by decide +kernel
theorem dX4_digestKeys_20 : decode cX4_digestKeys 20 = .ok (.ldc2_w 170, 3) := by decide +kernel
theorem dX4_digestKeys_23 : decode cX4_digestKeys 23 = .ok (.lload_n 3, 1) := by decide +kernel
theorem dX4_digestKeys_24 : decode cX4_digestKeys 24 = .ok (.lmul, 1) := by decide +kernel
theorem dX4_digestKeys_25 : decode cX4_digestKeys 25 = .ok (.aload_n 0, 1) := by decide +kernel
theorem dX4_digestKeys_26 : decode cX4_digestKeys 26 = .ok (.getfield 12, 3) := by decide +kernel
theorem dX4_digestKeys_29 : decode cX4_digestKeys 29 = .ok (.getfield 58, 3) := by decide +kernel
theorem dX4_digestKeys_32 : decode cX4_digestKeys 32 = .ok (.getfield 191, 3) := by decide +kernel
theorem dX4_digestKeys_35 : decode cX4_digestKeys 35 = .ok (.iload 5, 2) := by decide +kernel
theorem dX4_digestKeys_37 : decode cX4_digestKeys 37 = .ok (.iaload, 1) := by decide +kernel
theorem dX4_digestKeys_38 : decode cX4_digestKeys 38 = .ok (.i2l, 1) := by decide +kernel
theorem dX4_digestKeys_39 : decode cX4_digestKeys 39 = .ok (.ladd, 1) := by decide +kernel
theorem dX4_digestKeys_40 : decode cX4_digestKeys 40 = .ok (.lstore_n 3, 1) := by decide +kernel
theorem dX4_digestKeys_41 : decode cX4_digestKeys 41 = .ok (.ldc2_w 170, 3) := by decide +kernel
theorem dX4_digestKeys_44 : decode cX4_digestKeys 44 = .ok (.lload_n 3, 1) := by decide +kernel
theorem dX4_digestKeys_45 : decode cX4_digestKeys 45 = .ok (.lmul, 1) := by decide +kernel
theorem dX4_digestKeys_46 : decode cX4_digestKeys 46 = .ok (.aload_n 0, 1) := by decide +kernel
theorem dX4_digestKeys_47 : decode cX4_digestKeys 47 = .ok (.getfield 12, 3) := by decide +kernel
theorem dX4_digestKeys_50 : decode cX4_digestKeys 50 = .ok (.getfield 58, 3) := by decide +kernel
theorem dX4_digestKeys_53 : decode cX4_digestKeys 53 = .ok (.aload_n 0, 1) := by decide +kernel
theorem dX4_digestKeys_54 : decode cX4_digestKeys 54 = .ok (.getfield 12, 3) := by decide +kernel
theorem dX4_digestKeys_57 : decode cX4_digestKeys 57 = .ok (.getfield 90, 3) := by decide +kernel
theorem dX4_digestKeys_60 : decode cX4_digestKeys 60 = .ok (.iload 5, 2) := by decide +kernel
theorem dX4_digestKeys_62 : decode cX4_digestKeys 62 = .ok (.iaload, 1) := by decide +kernel
theorem dX4_digestKeys_63 : decode cX4_digestKeys 63 = .ok (.invokevirtual 78, 3) := by decide +kernel
theorem dX4_digestKeys_66 : decode cX4_digestKeys 66 = .ok (.i2l, 1) := by decide +kernel
theorem dX4_digestKeys_67 : decode cX4_digestKeys 67 = .ok (.ladd, 1) := by decide +kernel
theorem dX4_digestKeys_68 : decode cX4_digestKeys 68 = .ok (.lstore_n 3, 1) := by decide +kernel
theorem dX4_digestKeys_69 : decode cX4_digestKeys 69 = .ok (.iconst 0, 1) := by decide +kernel
theorem dX4_digestKeys_70 : decode cX4_digestKeys 70 = .ok (.istore 6, 2) := by decide +kernel
theorem dX4_digestKeys_72 : decode cX4_digestKeys 72 = .ok (.iload 6, 2) := by decide +kernel
theorem dX4_digestKeys_74 : decode cX4_digestKeys 74 = .ok (.iconst 3, 1) := by decide +kernel
theorem dX4_digestKeys_75 : decode cX4_digestKeys 75 = .ok (.if_icmp .ge 28, 3) := by decide +kernel
theorem dX4_digestKeys_78 : decode cX4_digestKeys 78 = .ok (.ldc2_w 170, 3) := by decide +kernel
theorem dX4_digestKeys_81 : decode cX4_digestKeys 81 = .ok (.lload_n 3, 1) := by decide +kernel
theorem dX4_digestKeys_82 : decode cX4_digestKeys 82 = .ok (.lmul, 1) := by decide +kernel
theorem dX4_digestKeys_83 : decode cX4_digestKeys 83 = .ok (.aload_n 0, 1) := by decide +kernel
theorem dX4_digestKeys_84 : decode cX4_digestKeys 84 = .ok (.getfield 12, 3) := by decide +kernel
theorem dX4_digestKeys_87 : decode cX4_digestKeys 87 = .ok (.iload 5, 2) := by decide +kernel
theorem dX4_digestKeys_89 : decode cX4_digestKeys 89 = .ok (.iload 6, 2) := by decide +kernel
theorem dX4_digestKeys_91 : decode cX4_digestKeys 91 = .ok (.invokevirtual 93, 3) := by decide +kernel
theorem dX4_digestKeys_94 : decode cX4_digestKeys 94 = .ok (.i2l, 1) := by decide +kernel
theorem dX4_digestKeys_95 : decode cX4_digestKeys 95 = .ok (.ladd, 1) := by decide +kernel
theorem dX4_digestKeys_96 : decode cX4_digestKeys 96 = .ok (.lstore_n 3, 1) := by decide +kernel
theorem dX4_digestKeys_97 : decode cX4_digestKeys 97 = .ok (.iinc 6 1, 3) := by decide +kernel
theorem dX4_digestKeys_100 : decode cX4_digestKeys 100 = .ok (.goto (-28), 3) := by decide +kernel
theorem dX4_digestKeys_103 : decode cX4_digestKeys 103 = .ok (.iinc 5 1, 3) := by decide +kernel
theorem dX4_digestKeys_106 : decode cX4_digestKeys 106 = .ok (.goto (-101), 3) := by decide +kernel
theorem dX4_digestKeys_109 : decode cX4_digestKeys 109 = .ok (.lload_n 3, 1) := by decide +kernel
theorem dX4_digestKeys_110 : decode cX4_digestKeys 110 = .ok (.lreturn, 1) := by decide +kernel
set_option maxRecDepth 20000 in
theorem ggX4_tellOne_X3_copyFrom : GoodIn wsX4_tellOne wsX3_copyFrom := goodIn_r _ [9, 10, 11, 12, 13, 14, 15, 16, 17, 18, 19, 20, 162, 163, 164, 165, 166, 167, 168] (by decide +kernel) (by decide +kernel)
set_option maxRecDepth 20000 in
theorem gX4_tellOne_X3_copyFrom : GoodIn wsX4_tellOne (wsV RX4 137 RX3 yX3_copyFrom wsX3_copyFrom) := goodIn_app (goodIn_of _ (by decide +kernel)) ggX4_tellOne_X3_copyFrom
set_option maxRecDepth 20000 in
theorem ggX4_tellOne_X3_take : GoodIn wsX4_tellOne wsX3_take := goodIn_r _ [24, 25, 26, 27, 8, 28, 17, 10, 15, 29, 30, 31, 32, 33, 34, 35, 36, 37, 38, 39, 40, 41, 42, 43, 44, 45, 46, 47, 48, 49, 18, 16, 50, 51, 52, 53, 54, 55, 56, 57, 58, 59, 60, 61, 62, 63, 19, 162, 163, 164, 165, 166, 167, 168] (by decide +kernel) (by decide +kernel)
set_option maxRecDepth 20000 in
theorem gX4_tellOne_X3_take : GoodIn wsX4_tellOne (wsV RX4 153 RX3 yX3_take wsX3_take) := goodIn_app (goodIn_of _ (by decide +kernel)) ggX4_tellOne_X3_take
set_option maxRecDepth 20000 in
theorem ggX4_tellOne_X4_refuse : GoodIn wsX4_tellOne wsX4_refuse := goodIn_r _ [67, 68, 69, 70, 147, 148, 149, 150, 151, 152, 153] (by decide +kernel) (by decide +kernel)
set_option maxRecDepth 20000 in
theorem gX4_tellOne_X4_refuse : GoodIn wsX4_tellOne (wsV RX4 55 RX4 yX4_refuse wsX4_refuse) := goodIn_app (goodIn_of _ (by decide +kernel)) ggX4_tellOne_X4_refuse
set_option maxRecDepth 20000 in
theorem ggX4_tellOne_X4_keepDraft : GoodIn wsX4_tellOne wsX4_keepDraft := goodIn_r _ [74, 1, 2, 3, 4, 75, 76, 77, 78, 79, 80, 81, 82, 83, 84, 85, 86, 87, 88, 89, 90, 91, 92, 93, 94, 95, 96, 97, 98, 99, 100, 101, 102, 103, 104, 105, 106, 107, 108, 8, 109, 17, 15, 110, 111, 112, 113, 114, 115, 116, 117, 118, 119, 120, 121, 122, 123, 124, 125, 126, 127, 128, 129, 10, 130, 53, 54, 55, 18, 16, 131, 132, 133, 134, 135, 136, 137, 138, 139, 140, 141, 142, 143, 144, 145, 146, 6, 7, 9, 11, 12, 13, 14, 19, 20, 147, 148, 149, 150, 151, 152, 153, 154, 155, 156, 157, 158, 159, 160, 161, 162, 163, 164, 165, 166, 167, 168, 169, 170] (by decide +kernel) (by decide +kernel)
set_option maxRecDepth 20000 in
theorem gX4_tellOne_X4_keepDraft : GoodIn wsX4_tellOne (wsV RX4 156 RX4 yX4_keepDraft wsX4_keepDraft) := goodIn_app (goodIn_of _ (by decide +kernel)) ggX4_tellOne_X4_keepDraft
theorem dX4_tellOne_0 : decode cX4_tellOne 0 = .ok (.aload_n 0, 1) := by decide +kernel
theorem dX4_tellOne_1 : decode cX4_tellOne 1 = .ok (.getfield 16, 3) := by decide +kernel
theorem dX4_tellOne_4 : decode cX4_tellOne 4 = .ok (.getfield 58, 3) := by decide +kernel
theorem dX4_tellOne_7 : decode cX4_tellOne 7 = .ok (.aload_n 0, 1) := by decide +kernel
theorem dX4_tellOne_8 : decode cX4_tellOne 8 = .ok (.getfield 12, 3) := by decide +kernel
theorem dX4_tellOne_11 : decode cX4_tellOne 11 = .ok (.getfield 58, 3) := by decide +kernel
theorem dX4_tellOne_14 : decode cX4_tellOne 14 = .ok (.invokevirtual 137, 3) := by decide +kernel
theorem dX4_tellOne_17 : decode cX4_tellOne 17 = .ok (.aload_n 0, 1) := by decide +kernel
theorem dX4_tellOne_18 : decode cX4_tellOne 18 = .ok (.getfield 16, 3) := by decide +kernel
theorem dX4_tellOne_21 : decode cX4_tellOne 21 = .ok (.getfield 58, 3) := by decide +kernel
theorem dX4_tellOne_24 : decode cX4_tellOne 24 = .ok (.iload_n 1, 1) := by decide +kernel
theorem dX4_tellOne_25 : decode cX4_tellOne 25 = .ok (.iload_n 2, 1) := by decide +kernel
theorem dX4_tellOne_26 : decode cX4_tellOne 26 = .ok (.iload_n 3, 1) := by decide +kernel
theorem dX4_tellOne_27 : decode cX4_tellOne 27 = .ok (.invokevirtual 153, 3) := by decide +kernel
theorem dX4_tellOne_30 : decode cX4_tellOne 30 = .ok (.istore 4, 2) := by decide +kernel
theorem dX4_tellOne_32 : decode cX4_tellOne 32 = .ok (.iload 4, 2) := by decide +kernel
theorem dX4_tellOne_34 : decode cX4_tellOne 34 = .ok (.ifCond .eq 10, 3) := by decide +kernel
theorem dX4_tellOne_37 : decode cX4_tellOne 37 = .ok (.aload_n 0, 1) := by decide +kernel
theorem dX4_tellOne_38 : decode cX4_tellOne 38 = .ok (.iload 4, 2) := by decide +kernel
theorem dX4_tellOne_40 : decode cX4_tellOne 40 = .ok (.invokevirtual 55, 3) := by decide +kernel
theorem dX4_tellOne_43 : decode cX4_tellOne 43 = .ok (.ireturn, 1) := by decide +kernel
theorem dX4_tellOne_44 : decode cX4_tellOne 44 = .ok (.aload_n 0, 1) := by decide +kernel
theorem dX4_tellOne_45 : decode cX4_tellOne 45 = .ok (.invokevirtual 156, 3) := by decide +kernel
theorem dX4_tellOne_48 : decode cX4_tellOne 48 = .ok (.aload_n 0, 1) := by decide +kernel
theorem dX4_tellOne_49 : decode cX4_tellOne 49 = .ok (.getfield 12, 3) := by decide +kernel
theorem dX4_tellOne_52 : decode cX4_tellOne 52 = .ok (.getfield 58, 3) := by decide +kernel
theorem dX4_tellOne_55 : decode cX4_tellOne 55 = .ok (.getfield 116, 3) := by decide +kernel
theorem dX4_tellOne_58 : decode cX4_tellOne 58 = .ok (.ireturn, 1) := by decide +kernel
set_option maxRecDepth 20000 in
theorem ggX4_tryOne_X3_copyFrom : GoodIn wsX4_tryOne wsX3_copyFrom := goodIn_r _ [8, 9, 10, 11, 12, 13, 14, 15, 16, 17, 18, 19, 124, 125, 126, 127, 128, 129, 130] (by decide +kernel) (by decide +kernel)
set_option maxRecDepth 20000 in
theorem gX4_tryOne_X3_copyFrom : GoodIn wsX4_tryOne (wsV RX4 137 RX3 yX3_copyFrom wsX3_copyFrom) := goodIn_app (goodIn_of _ (by decide +kernel)) ggX4_tryOne_X3_copyFrom
set_option maxRecDepth 20000 in
theorem ggX4_tryOne_X3_take : GoodIn wsX4_tryOne wsX3_take := goodIn_r _ [23, 24, 25, 26, 7, 27, 16, 9, 14, 28, 29, 30, 31, 32, 33, 34, 35, 36, 37, 38, 39, 40, 41, 42, 43, 44, 45, 46, 47, 48, 17, 15, 49, 50, 51, 52, 53, 54, 55, 56, 57, 58, 59, 60, 61, 62, 18, 124, 125, 126, 127, 128, 129, 130] (by decide +kernel) (by decide +kernel)
set_option maxRecDepth 20000 in
theorem gX4_tryOne_X3_take : GoodIn wsX4_tryOne (wsV RX4 153 RX3 yX3_take wsX3_take) := goodIn_app (goodIn_of _ (by decide +kernel)) ggX4_tryOne_X3_take
set_option maxRecDepth 20000 in
theorem ggX4_tryOne_X1_lay : GoodIn wsX4_tryOne wsX1_lay := goodIn_r _ [67, 68, 69, 70, 71, 72, 66, 73, 74, 75, 76, 77, 78, 79, 80, 81, 82, 83, 84, 85, 86, 87, 88, 89, 90, 91, 92, 93, 94, 95, 7, 96, 16, 14, 97, 98, 99, 100, 101, 102, 103, 104, 105, 106, 107, 108, 116, 117, 118, 119, 120, 121, 122, 123, 124, 125, 126, 127, 128, 129, 130] (by decide +kernel) (by decide +kernel)
set_option maxRecDepth 20000 in
theorem gX4_tryOne_X1_lay : GoodIn wsX4_tryOne (wsV RX4 165 RX1 yX1_lay wsX1_lay) := goodIn_app (goodIn_of _ (by decide +kernel)) ggX4_tryOne_X1_lay
theorem dX4_tryOne_0 : decode cX4_tryOne 0 = .ok (.aload_n 0, 1) := by decide +kernel
theorem dX4_tryOne_1 : decode cX4_tryOne 1 = .ok (.getfield 16, 3) := by decide +kernel
theorem dX4_tryOne_4 : decode cX4_tryOne 4 = .ok (.getfield 58, 3) := by decide +kernel
theorem dX4_tryOne_7 : decode cX4_tryOne 7 = .ok (.aload_n 0, 1) := by decide +kernel
theorem dX4_tryOne_8 : decode cX4_tryOne 8 = .ok (.getfield 12, 3) := by decide +kernel
theorem dX4_tryOne_11 : decode cX4_tryOne 11 = .ok (.getfield 58, 3) := by decide +kernel
theorem dX4_tryOne_14 : decode cX4_tryOne 14 = .ok (.invokevirtual 137, 3) := by decide +kernel
theorem dX4_tryOne_17 : decode cX4_tryOne 17 = .ok (.aload_n 0, 1) := by decide +kernel
theorem dX4_tryOne_18 : decode cX4_tryOne 18 = .ok (.getfield 16, 3) := by decide +kernel
theorem dX4_tryOne_21 : decode cX4_tryOne 21 = .ok (.getfield 58, 3) := by decide +kernel
theorem dX4_tryOne_24 : decode cX4_tryOne 24 = .ok (.iload_n 1, 1) := by decide +kernel
theorem dX4_tryOne_25 : decode cX4_tryOne 25 = .ok (.iload_n 2, 1) := by decide +kernel
theorem dX4_tryOne_26 : decode cX4_tryOne 26 = .ok (.iconst 0, 1) := by decide +kernel
theorem dX4_tryOne_27 : decode cX4_tryOne 27 = .ok (.invokevirtual 153, 3) := by decide +kernel
theorem dX4_tryOne_30 : decode cX4_tryOne 30 = .ok (.istore_n 3, 1) := by decide +kernel
theorem dX4_tryOne_31 : decode cX4_tryOne 31 = .ok (.iload_n 3, 1) := by decide +kernel
theorem dX4_tryOne_32 : decode cX4_tryOne 32 = .ok (.ifCond .ne 10, 3) := by decide +kernel
theorem dX4_tryOne_35 : decode cX4_tryOne 35 = .ok (.aload_n 0, 1) := by decide +kernel
theorem dX4_tryOne_36 : decode cX4_tryOne 36 = .ok (.getfield 16, 3) := by decide +kernel
theorem dX4_tryOne_39 : decode cX4_tryOne 39 = .ok (.invokevirtual 165, 3) := by decide +kernel
theorem dX4_tryOne_42 : decode cX4_tryOne 42 = .ok (.iload_n 3, 1) := by decide +kernel
theorem dX4_tryOne_43 : decode cX4_tryOne 43 = .ok (.ireturn, 1) := by decide +kernel
set_option maxRecDepth 20000 in
theorem ggX4_keepDraft_X1_lay : GoodIn wsX4_keepDraft wsX1_lay := goodIn_r _ [10, 11, 12, 13, 14, 15, 9, 16, 17, 18, 19, 20, 21, 22, 23, 24, 25, 26, 27, 28, 29, 30, 31, 32, 33, 34, 35, 36, 37, 38, 39, 40, 41, 42, 43, 44, 45, 46, 47, 48, 49, 50, 51, 52, 53, 54, 102, 103, 104, 105, 106, 107, 108, 109, 110, 111, 112, 113, 114, 115, 116] (by decide +kernel) (by decide +kernel)
set_option maxRecDepth 20000 in
theorem gX4_keepDraft_X1_lay : GoodIn wsX4_keepDraft (wsV RX4 165 RX1 yX1_lay wsX1_lay) := goodIn_app (goodIn_of _ (by decide +kernel)) ggX4_keepDraft_X1_lay
set_option maxRecDepth 20000 in
theorem ggX4_keepDraft_X1_movedSince : GoodIn wsX4_keepDraft wsX1_movedSince := goodIn_r _ [58, 11, 12, 54, 47, 59, 60, 61, 39, 62, 41, 63, 64, 65, 66, 67, 68, 69, 70, 71, 72, 9, 73, 102, 103, 104, 105, 106, 107, 108, 109, 110, 111, 112, 113, 114, 115, 116] (by decide +kernel) (by decide +kernel)
set_option maxRecDepth 20000 in
theorem gX4_keepDraft_X1_movedSince : GoodIn wsX4_keepDraft (wsV RX4 99 RX1 yX1_movedSince wsX1_movedSince) := goodIn_app (goodIn_of _ (by decide +kernel)) ggX4_keepDraft_X1_movedSince
set_option maxRecDepth 20000 in
theorem ggX4_keepDraft_X0_keep : GoodIn wsX4_keepDraft wsX0_keep := goodIn_r _ [78, 79, 80, 81, 82, 83, 77, 84, 85, 86, 87, 39, 88, 63, 89, 90, 91, 92, 42, 69, 41, 68, 93, 94, 117, 118, 110, 111, 112, 113, 114, 115, 116] (by decide +kernel) (by decide +kernel)
set_option maxRecDepth 20000 in
theorem gX4_keepDraft_X0_keep : GoodIn wsX4_keepDraft (wsV RX4 194 RX0 yX0_keep wsX0_keep) := goodIn_app (goodIn_of _ (by decide +kernel)) ggX4_keepDraft_X0_keep
theorem dX4_keepDraft_0 : decode cX4_keepDraft 0 = .ok (.aload_n 0, 1) := by decide +kernel
theorem dX4_keepDraft_1 : decode cX4_keepDraft 1 = .ok (.getfield 16, 3) := by decide +kernel
theorem dX4_keepDraft_4 : decode cX4_keepDraft 4 = .ok (.invokevirtual 165, 3) := by decide +kernel
theorem dX4_keepDraft_7 : decode cX4_keepDraft 7 = .ok (.aload_n 0, 1) := by decide +kernel
theorem dX4_keepDraft_8 : decode cX4_keepDraft 8 = .ok (.getfield 16, 3) := by decide +kernel
theorem dX4_keepDraft_11 : decode cX4_keepDraft 11 = .ok (.getfield 58, 3) := by decide +kernel
theorem dX4_keepDraft_14 : decode cX4_keepDraft 14 = .ok (.aload_n 0, 1) := by decide +kernel
theorem dX4_keepDraft_15 : decode cX4_keepDraft 15 = .ok (.getfield 16, 3) := by decide +kernel
theorem dX4_keepDraft_18 : decode cX4_keepDraft 18 = .ok (.aload_n 0, 1) := by decide +kernel
theorem dX4_keepDraft_19 : decode cX4_keepDraft 19 = .ok (.getfield 12, 3) := by decide +kernel
theorem dX4_keepDraft_22 : decode cX4_keepDraft 22 = .ok (.invokevirtual 99, 3) := by decide +kernel
theorem dX4_keepDraft_25 : decode cX4_keepDraft 25 = .ok (.putfield 116, 3) := by decide +kernel
theorem dX4_keepDraft_28 : decode cX4_keepDraft 28 = .ok (.aload_n 0, 1) := by decide +kernel
theorem dX4_keepDraft_29 : decode cX4_keepDraft 29 = .ok (.getfield 22, 3) := by decide +kernel
theorem dX4_keepDraft_32 : decode cX4_keepDraft 32 = .ok (.aload_n 0, 1) := by decide +kernel
theorem dX4_keepDraft_33 : decode cX4_keepDraft 33 = .ok (.getfield 12, 3) := by decide +kernel
theorem dX4_keepDraft_36 : decode cX4_keepDraft 36 = .ok (.getfield 58, 3) := by decide +kernel
theorem dX4_keepDraft_39 : decode cX4_keepDraft 39 = .ok (.invokevirtual 194, 3) := by decide +kernel
theorem dX4_keepDraft_42 : decode cX4_keepDraft 42 = .ok (.aload_n 0, 1) := by decide +kernel
theorem dX4_keepDraft_43 : decode cX4_keepDraft 43 = .ok (.getfield 12, 3) := by decide +kernel
theorem dX4_keepDraft_46 : decode cX4_keepDraft 46 = .ok (.astore_n 1, 1) := by decide +kernel
theorem dX4_keepDraft_47 : decode cX4_keepDraft 47 = .ok (.aload_n 0, 1) := by decide +kernel
theorem dX4_keepDraft_48 : decode cX4_keepDraft 48 = .ok (.aload_n 0, 1) := by decide +kernel
theorem dX4_keepDraft_49 : decode cX4_keepDraft 49 = .ok (.getfield 16, 3) := by decide +kernel
theorem dX4_keepDraft_52 : decode cX4_keepDraft 52 = .ok (.putfield 12, 3) := by decide +kernel
theorem dX4_keepDraft_55 : decode cX4_keepDraft 55 = .ok (.aload_n 0, 1) := by decide +kernel
theorem dX4_keepDraft_56 : decode cX4_keepDraft 56 = .ok (.aload_n 1, 1) := by decide +kernel
theorem dX4_keepDraft_57 : decode cX4_keepDraft 57 = .ok (.putfield 16, 3) := by decide +kernel
theorem dX4_keepDraft_60 : decode cX4_keepDraft 60 = .ok (.return_, 1) := by decide +kernel
theorem dX4_refuse_0 : decode cX4_refuse 0 = .ok (.iload_n 1, 1) := by decide +kernel
theorem dX4_refuse_1 : decode cX4_refuse 1 = .ok (.bipush (-2), 2) := by decide +kernel
theorem dX4_refuse_3 : decode cX4_refuse 3 = .ok (.if_icmp .ne 16, 3) := by decide +kernel
theorem dX4_refuse_6 : decode cX4_refuse 6 = .ok (.aload_n 0, 1) := by decide +kernel
theorem dX4_refuse_7 : decode cX4_refuse 7 = .ok (.dup, 1) := by decide +kernel
theorem dX4_refuse_8 : decode cX4_refuse 8 = .ok (.getfield 33, 3) := by decide +kernel
theorem dX4_refuse_11 : decode cX4_refuse 11 = .ok (.iconst 1, 1) := by decide +kernel
theorem dX4_refuse_12 : decode cX4_refuse 12 = .ok (.iadd, 1) := by decide +kernel
theorem dX4_refuse_13 : decode cX4_refuse 13 = .ok (.putfield 33, 3) := by decide +kernel
theorem dX4_refuse_16 : decode cX4_refuse 16 = .ok (.goto 32, 3) := by decide +kernel
theorem dX4_refuse_19 : decode cX4_refuse 19 = .ok (.iload_n 1, 1) := by decide +kernel
theorem dX4_refuse_20 : decode cX4_refuse 20 = .ok (.bipush (-3), 2) := by decide +kernel
theorem dX4_refuse_22 : decode cX4_refuse 22 = .ok (.if_icmp .ne 16, 3) := by decide +kernel
theorem dX4_refuse_25 : decode cX4_refuse 25 = .ok (.aload_n 0, 1) := by decide +kernel
theorem dX4_refuse_26 : decode cX4_refuse 26 = .ok (.dup, 1) := by decide +kernel
theorem dX4_refuse_27 : decode cX4_refuse 27 = .ok (.getfield 37, 3) := by decide +kernel
theorem dX4_refuse_30 : decode cX4_refuse 30 = .ok (.iconst 1, 1) := by decide +kernel
theorem dX4_refuse_31 : decode cX4_refuse 31 = .ok (.iadd, 1) := by decide +kernel
theorem dX4_refuse_32 : decode cX4_refuse 32 = .ok (.putfield 37, 3) := by decide +kernel
theorem dX4_refuse_35 : decode cX4_refuse 35 = .ok (.goto 13, 3) := by decide +kernel
theorem dX4_refuse_38 : decode cX4_refuse 38 = .ok (.aload_n 0, 1) := by decide +kernel
theorem dX4_refuse_39 : decode cX4_refuse 39 = .ok (.dup, 1) := by decide +kernel
theorem dX4_refuse_40 : decode cX4_refuse 40 = .ok (.getfield 40, 3) := by decide +kernel
theorem dX4_refuse_43 : decode cX4_refuse 43 = .ok (.iconst 1, 1) := by decide +kernel
theorem dX4_refuse_44 : decode cX4_refuse 44 = .ok (.iadd, 1) := by decide +kernel
theorem dX4_refuse_45 : decode cX4_refuse 45 = .ok (.putfield 40, 3) := by decide +kernel
theorem dX4_refuse_48 : decode cX4_refuse 48 = .ok (.iload_n 1, 1) := by decide +kernel
theorem dX4_refuse_49 : decode cX4_refuse 49 = .ok (.ireturn, 1) := by decide +kernel
theorem dX4_isName_0 : decode cX4_isName 0 = .ok (.iload_n 0, 1) := by decide +kernel
theorem dX4_isName_1 : decode cX4_isName 1 = .ok (.ifCond .lt 13, 3) := by decide +kernel
theorem dX4_isName_4 : decode cX4_isName 4 = .ok (.iload_n 0, 1) := by decide +kernel
theorem dX4_isName_5 : decode cX4_isName 5 = .ok (.bipush 99, 2) := by decide +kernel
theorem dX4_isName_7 : decode cX4_isName 7 = .ok (.if_icmp .gt 7, 3) := by decide +kernel
theorem dX4_isName_10 : decode cX4_isName 10 = .ok (.iconst 1, 1) := by decide +kernel
theorem dX4_isName_11 : decode cX4_isName 11 = .ok (.goto 4, 3) := by decide +kernel
theorem dX4_isName_14 : decode cX4_isName 14 = .ok (.iconst 0, 1) := by decide +kernel
theorem dX4_isName_15 : decode cX4_isName 15 = .ok (.ireturn, 1) := by decide +kernel
theorem dX4_isWeight_0 : decode cX4_isWeight 0 = .ok (.iload_n 0, 1) := by decide +kernel
theorem dX4_isWeight_1 : decode cX4_isWeight 1 = .ok (.iconst 1, 1) := by decide +kernel
theorem dX4_isWeight_2 : decode cX4_isWeight 2 = .ok (.if_icmp .lt 12, 3) := by decide +kernel
theorem dX4_isWeight_5 : decode cX4_isWeight 5 = .ok (.iload_n 0, 1) := by decide +kernel
theorem dX4_isWeight_6 : decode cX4_isWeight 6 = .ok (.iconst 4, 1) := by decide +kernel
theorem dX4_isWeight_7 : decode cX4_isWeight 7 = .ok (.if_icmp .gt 7, 3) := by decide +kernel
theorem dX4_isWeight_10 : decode cX4_isWeight 10 = .ok (.iconst 1, 1) := by decide +kernel
theorem dX4_isWeight_11 : decode cX4_isWeight 11 = .ok (.goto 4, 3) := by decide +kernel
theorem dX4_isWeight_14 : decode cX4_isWeight 14 = .ok (.iconst 0, 1) := by decide +kernel
theorem dX4_isWeight_15 : decode cX4_isWeight 15 = .ok (.ireturn, 1) := by decide +kernel
theorem dX4_isKey_0 : decode cX4_isKey 0 = .ok (.iload_n 0, 1) := by decide +kernel
theorem dX4_isKey_1 : decode cX4_isKey 1 = .ok (.ifCond .lt 14, 3) := by decide +kernel
theorem dX4_isKey_4 : decode cX4_isKey 4 = .ok (.iload_n 0, 1) := by decide +kernel
theorem dX4_isKey_5 : decode cX4_isKey 5 = .ok (.sipush 999, 3) := by decide +kernel
theorem dX4_isKey_8 : decode cX4_isKey 8 = .ok (.if_icmp .gt 7, 3) := by decide +kernel
theorem dX4_isKey_11 : decode cX4_isKey 11 = .ok (.iconst 1, 1) := by decide +kernel
theorem dX4_isKey_12 : decode cX4_isKey 12 = .ok (.goto 4, 3) := by decide +kernel
theorem dX4_isKey_15 : decode cX4_isKey 15 = .ok (.iconst 0, 1) := by decide +kernel
theorem dX4_isKey_16 : decode cX4_isKey 16 = .ok (.ireturn, 1) := by decide +kernel
set_option maxRecDepth 20000 in
theorem ggX5_init_X5_lay : GoodIn wsX5_init wsX5_lay := goodIn_r _ [23, 12, 5, 10, 9, 11, 24, 25, 26, 22, 27, 28, 29, 30, 31, 32, 33, 34, 35, 36, 37, 38, 39, 40, 41, 42, 43, 44, 45, 46, 47, 48, 49, 50, 51, 52, 53, 54, 55, 56, 57, 58, 59, 60, 61, 62, 63, 64] (by decide +kernel) (by decide +kernel)
set_option maxRecDepth 20000 in
theorem gX5_init_X5_lay : GoodIn wsX5_init (wsV RX5 50 RX5 yX5_lay wsX5_lay) := goodIn_app (goodIn_of _ (by decide +kernel)) ggX5_init_X5_lay
theorem dX5_init_0 : decode cX5_init 0 = .ok (.aload_n 0, 1) := by decide +kernel
theorem dX5_init_1 : decode cX5_init 1 = .ok (.invokespecial 1, 3) := by decide +kernel
theorem dX5_init_4 : decode cX5_init 4 = .ok (.aload_n 0, 1) := by decide +kernel
theorem dX5_init_5 : decode cX5_init 5 = .ok (.sipush 143, 3) := by decide +kernel
theorem dX5_init_8 : decode cX5_init 8 = .ok (.newarray .int, 2) := by decide +kernel
theorem dX5_init_10 : decode cX5_init 10 = .ok (.putfield 7, 3) := by decide +kernel
theorem dX5_init_13 : decode cX5_init 13 = .ok (.aload_n 0, 1) := by decide +kernel
theorem dX5_init_14 : decode cX5_init 14 = .ok (.sipush 143, 3) := by decide +kernel
theorem dX5_init_17 : decode cX5_init 17 = .ok (.newarray .int, 2) := by decide +kernel
theorem dX5_init_19 : decode cX5_init 19 = .ok (.putfield 13, 3) := by decide +kernel
theorem dX5_init_22 : decode cX5_init 22 = .ok (.aload_n 0, 1) := by decide +kernel
theorem dX5_init_23 : decode cX5_init 23 = .ok (.sipush 715, 3) := by decide +kernel
theorem dX5_init_26 : decode cX5_init 26 = .ok (.newarray .int, 2) := by decide +kernel
theorem dX5_init_28 : decode cX5_init 28 = .ok (.putfield 16, 3) := by decide +kernel
theorem dX5_init_31 : decode cX5_init 31 = .ok (.aload_n 0, 1) := by decide +kernel
theorem dX5_init_32 : decode cX5_init 32 = .ok (.iconst 3, 1) := by decide +kernel
theorem dX5_init_33 : decode cX5_init 33 = .ok (.newarray .int, 2) := by decide +kernel
theorem dX5_init_35 : decode cX5_init 35 = .ok (.putfield 19, 3) := by decide +kernel
theorem dX5_init_38 : decode cX5_init 38 = .ok (.aload_n 0, 1) := by decide +kernel
theorem dX5_init_39 : decode cX5_init 39 = .ok (.bipush 101, 2) := by decide +kernel
theorem dX5_init_41 : decode cX5_init 41 = .ok (.newarray .int, 2) := by decide +kernel
theorem dX5_init_43 : decode cX5_init 43 = .ok (.putfield 22, 3) := by decide +kernel
theorem dX5_init_46 : decode cX5_init 46 = .ok (.aload_n 0, 1) := by decide +kernel
theorem dX5_init_47 : decode cX5_init 47 = .ok (.bipush 40, 2) := by decide +kernel
theorem dX5_init_49 : decode cX5_init 49 = .ok (.newarray .int, 2) := by decide +kernel
theorem dX5_init_51 : decode cX5_init 51 = .ok (.putfield 25, 3) := by decide +kernel
theorem dX5_init_54 : decode cX5_init 54 = .ok (.aload_n 0, 1) := by decide +kernel
theorem dX5_init_55 : decode cX5_init 55 = .ok (.bipush 40, 2) := by decide +kernel
theorem dX5_init_57 : decode cX5_init 57 = .ok (.newarray .int, 2) := by decide +kernel
theorem dX5_init_59 : decode cX5_init 59 = .ok (.putfield 28, 3) := by decide +kernel
theorem dX5_init_62 : decode cX5_init 62 = .ok (.aload_n 0, 1) := by decide +kernel
theorem dX5_init_63 : decode cX5_init 63 = .ok (.bipush 100, 2) := by decide +kernel
theorem dX5_init_65 : decode cX5_init 65 = .ok (.newarray .int, 2) := by decide +kernel
theorem dX5_init_67 : decode cX5_init 67 = .ok (.putfield 31, 3) := by decide +kernel
theorem dX5_init_70 : decode cX5_init 70 = .ok (.aload_n 0, 1) := by decide +kernel
theorem dX5_init_71 : decode cX5_init 71 = .ok (.bipush 40, 2) := by decide +kernel
theorem dX5_init_73 : decode cX5_init 73 = .ok (.newarray .int, 2) := by decide +kernel
theorem dX5_init_75 : decode cX5_init 75 = .ok (.putfield 34, 3) := by decide +kernel
theorem dX5_init_78 : decode cX5_init 78 = .ok (.aload_n 0, 1) := by decide +kernel
theorem dX5_init_79 : decode cX5_init 79 = .ok (.bipush 101, 2) := by decide +kernel
theorem dX5_init_81 : decode cX5_init 81 = .ok (.newarray .boolean, 2) := by decide +kernel
theorem dX5_init_83 : decode cX5_init 83 = .ok (.putfield 37, 3) := by decide +kernel
theorem dX5_init_86 : decode cX5_init 86 = .ok (.aload_n 0, 1) := by decide +kernel
theorem dX5_init_87 : decode cX5_init 87 = .ok (.bipush 120, 2) := by decide +kernel
theorem dX5_init_89 : decode cX5_init 89 = .ok (.newarray .int, 2) := by decide +kernel
theorem dX5_init_91 : decode cX5_init 91 = .ok (.putfield 41, 3) := by decide +kernel
theorem dX5_init_94 : decode cX5_init 94 = .ok (.aload_n 0, 1) := by decide +kernel
theorem dX5_init_95 : decode cX5_init 95 = .ok (.bipush 40, 2) := by decide +kernel
theorem dX5_init_97 : decode cX5_init 97 = .ok (.newarray .int, 2) := by decide +kernel
theorem dX5_init_99 : decode cX5_init 99 = .ok (.putfield 44, 3) := by decide +kernel
theorem dX5_init_102 : decode cX5_init 102 = .ok (.aload_n 0, 1) := by decide +kernel
theorem dX5_init_103 : decode cX5_init 103 = .ok (.bipush 80, 2) := by decide +kernel
theorem dX5_init_105 : decode cX5_init 105 = .ok (.newarray .int, 2) := by decide +kernel
theorem dX5_init_107 : decode cX5_init 107 = .ok (.putfield 47, 3) := by decide +kernel
theorem dX5_init_110 : decode cX5_init 110 = .ok (.aload_n 0, 1) := by decide +kernel
theorem dX5_init_111 : decode cX5_init 111 = .ok (.getfield 7, 3) := by decide +kernel
theorem dX5_init_114 : decode cX5_init 114 = .ok (.sipush 141, 3) := by decide +kernel
theorem dX5_init_117 : decode cX5_init 117 = .ok (.bipush 25, 2) := by decide +kernel
theorem dX5_init_119 : decode cX5_init 119 = .ok (.iastore, 1) := by decide +kernel
theorem dX5_init_120 : decode cX5_init 120 = .ok (.aload_n 0, 1) := by decide +kernel
theorem dX5_init_121 : decode cX5_init 121 = .ok (.invokevirtual 50, 3) := by decide +kernel
theorem dX5_init_124 : decode cX5_init 124 = .ok (.return_, 1) := by decide +kernel
theorem dX5_in_0 : decode cX5_in 0 = .ok (.iload_n 0, 1) := by decide +kernel
theorem dX5_in_1 : decode cX5_in 1 = .ok (.iload_n 1, 1) := by decide +kernel
theorem dX5_in_2 : decode cX5_in 2 = .ok (.if_icmp .lt 12, 3) := by decide +kernel
theorem dX5_in_5 : decode cX5_in 5 = .ok (.iload_n 0, 1) := by decide +kernel
theorem dX5_in_6 : decode cX5_in 6 = .ok (.iload_n 2, 1) := by decide +kernel
theorem dX5_in_7 : decode cX5_in 7 = .ok (.if_icmp .gt 7, 3) := by decide +kernel
theorem dX5_in_10 : decode cX5_in 10 = .ok (.iconst 1, 1) := by decide +kernel
theorem dX5_in_11 : decode cX5_in 11 = .ok (.goto 4, 3) := by decide +kernel
theorem dX5_in_14 : decode cX5_in 14 = .ok (.iconst 0, 1) := by decide +kernel
theorem dX5_in_15 : decode cX5_in 15 = .ok (.ireturn, 1) := by decide +kernel
theorem dX5_refuses_0 : decode cX5_refuses 0 = .ok (.aload_n 0, 1) := by decide +kernel
theorem dX5_refuses_1 : decode cX5_refuses 1 = .ok (.getfield 19, 3) := by decide +kernel
theorem dX5_refuses_4 : decode cX5_refuses 4 = .ok (.bipush (-2), 2) := by decide +kernel
theorem dX5_refuses_6 : decode cX5_refuses 6 = .ok (.iload_n 1, 1) := by decide +kernel
theorem dX5_refuses_7 : decode cX5_refuses 7 = .ok (.isub, 1) := by decide +kernel
theorem dX5_refuses_8 : decode cX5_refuses 8 = .ok (.dup2, 1) := by decide +kernel
theorem dX5_refuses_9 : decode cX5_refuses 9 = .ok (.iaload, 1) := by decide +kernel
theorem dX5_refuses_10 : decode cX5_refuses 10 = .ok (.iconst 1, 1) := by decide +kernel
theorem dX5_refuses_11 : decode cX5_refuses 11 = .ok (.iadd, 1) := by decide +kernel
theorem dX5_refuses_12 : decode cX5_refuses 12 = .ok (.iastore, 1) := by decide +kernel
theorem dX5_refuses_13 : decode cX5_refuses 13 = .ok (.iload_n 1, 1) := by decide +kernel
theorem dX5_refuses_14 : decode cX5_refuses 14 = .ok (.ireturn, 1) := by decide +kernel
theorem dX5_weights_0 : decode cX5_weights 0 = .ok (.iconst 0, 1) := by decide +kernel
theorem dX5_weights_1 : decode cX5_weights 1 = .ok (.istore_n 1, 1) := by decide +kernel
theorem dX5_weights_2 : decode cX5_weights 2 = .ok (.iconst 0, 1) := by decide +kernel
theorem dX5_weights_3 : decode cX5_weights 3 = .ok (.istore_n 2, 1) := by decide +kernel
theorem dX5_weights_4 : decode cX5_weights 4 = .ok (.iload_n 2, 1) := by decide +kernel
theorem dX5_weights_5 : decode cX5_weights 5 = .ok (.bipush 100, 2) := by decide +kernel
theorem dX5_weights_7 : decode cX5_weights 7 = .ok (.if_icmp .ge 18, 3) := by decide +kernel
theorem dX5_weights_10 : decode cX5_weights 10 = .ok (.iload_n 1, 1) := by decide +kernel
theorem dX5_weights_11 : decode cX5_weights 11 = .ok (.aload_n 0, 1) := by decide +kernel
theorem dX5_weights_12 : decode cX5_weights 12 = .ok (.getfield 7, 3) := by decide +kernel
theorem dX5_weights_15 : decode cX5_weights 15 = .ok (.iload_n 2, 1) := by decide +kernel
theorem dX5_weights_16 : decode cX5_weights 16 = .ok (.iaload, 1) := by decide +kernel
theorem dX5_weights_17 : decode cX5_weights 17 = .ok (.iadd, 1) := by decide +kernel
theorem dX5_weights_18 : decode cX5_weights 18 = .ok (.istore_n 1, 1) := by decide +kernel
theorem dX5_weights_19 : decode cX5_weights 19 = .ok (.iinc 2 1, 3) := by decide +kernel
theorem dX5_weights_22 : decode cX5_weights 22 = .ok (.goto (-18), 3) := by decide +kernel
theorem dX5_weights_25 : decode cX5_weights 25 = .ok (.iload_n 1, 1) := by decide +kernel
theorem dX5_weights_26 : decode cX5_weights 26 = .ok (.ireturn, 1) := by decide +kernel
set_option maxRecDepth 20000 in
theorem ggX5_bound_X5_weights : GoodIn wsX5_bound wsX5_weights := goodIn_r _ [6, 1, 7, 8, 9, 10, 11, 12, 13, 14, 15, 16, 17, 18, 19, 20, 21, 22, 23, 24, 25] (by decide +kernel) (by decide +kernel)
set_option maxRecDepth 20000 in
theorem gX5_bound_X5_weights : GoodIn wsX5_bound (wsV RX5 53 RX5 yX5_weights wsX5_weights) := goodIn_app (goodIn_of _ (by decide +kernel)) ggX5_bound_X5_weights
theorem dX5_bound_0 : decode cX5_bound 0 = .ok (.aload_n 0, 1) := by decide +kernel
theorem dX5_bound_1 : decode cX5_bound 1 = .ok (.getfield 7, 3) := by decide +kernel
theorem dX5_bound_4 : decode cX5_bound 4 = .ok (.sipush 140, 3) := by decide +kernel
theorem dX5_bound_7 : decode cX5_bound 7 = .ok (.iaload, 1) := by decide +kernel
theorem dX5_bound_8 : decode cX5_bound 8 = .ok (.aload_n 0, 1) := by decide +kernel
theorem dX5_bound_9 : decode cX5_bound 9 = .ok (.getfield 7, 3) := by decide +kernel
theorem dX5_bound_12 : decode cX5_bound 12 = .ok (.iload_n 1, 1) := by decide +kernel
theorem dX5_bound_13 : decode cX5_bound 13 = .ok (.iaload, 1) := by decide +kernel
theorem dX5_bound_14 : decode cX5_bound 14 = .ok (.imul, 1) := by decide +kernel
theorem dX5_bound_15 : decode cX5_bound 15 = .ok (.bipush 100, 2) := by decide +kernel
theorem dX5_bound_17 : decode cX5_bound 17 = .ok (.aload_n 0, 1) := by decide +kernel
theorem dX5_bound_18 : decode cX5_bound 18 = .ok (.getfield 7, 3) := by decide +kernel
theorem dX5_bound_21 : decode cX5_bound 21 = .ok (.sipush 141, 3) := by decide +kernel
theorem dX5_bound_24 : decode cX5_bound 24 = .ok (.iaload, 1) := by decide +kernel
theorem dX5_bound_25 : decode cX5_bound 25 = .ok (.iadd, 1) := by decide +kernel
theorem dX5_bound_26 : decode cX5_bound 26 = .ok (.imul, 1) := by decide +kernel
theorem dX5_bound_27 : decode cX5_bound 27 = .ok (.istore_n 2, 1) := by decide +kernel
theorem dX5_bound_28 : decode cX5_bound 28 = .ok (.bipush 100, 2) := by decide +kernel
theorem dX5_bound_30 : decode cX5_bound 30 = .ok (.aload_n 0, 1) := by decide +kernel
theorem dX5_bound_31 : decode cX5_bound 31 = .ok (.invokevirtual 53, 3) := by decide +kernel
theorem dX5_bound_34 : decode cX5_bound 34 = .ok (.imul, 1) := by decide +kernel
theorem dX5_bound_35 : decode cX5_bound 35 = .ok (.istore_n 3, 1) := by decide +kernel
theorem dX5_bound_36 : decode cX5_bound 36 = .ok (.iload_n 3, 1) := by decide +kernel
theorem dX5_bound_37 : decode cX5_bound 37 = .ok (.ifCond .ne 7, 3) := by decide +kernel
theorem dX5_bound_40 : decode cX5_bound 40 = .ok (.iconst 0, 1) := by decide +kernel
theorem dX5_bound_41 : decode cX5_bound 41 = .ok (.goto 10, 3) := by decide +kernel
theorem dX5_bound_44 : decode cX5_bound 44 = .ok (.iload_n 2, 1) := by decide +kernel
theorem dX5_bound_45 : decode cX5_bound 45 = .ok (.iload_n 3, 1) := by decide +kernel
theorem dX5_bound_46 : decode cX5_bound 46 = .ok (.iadd, 1) := by decide +kernel
theorem dX5_bound_47 : decode cX5_bound 47 = .ok (.iconst 1, 1) := by decide +kernel
theorem dX5_bound_48 : decode cX5_bound 48 = .ok (.isub, 1) := by decide +kernel
theorem dX5_bound_49 : decode cX5_bound 49 = .ok (.iload_n 3, 1) := by decide +kernel
theorem dX5_bound_50 : decode cX5_bound 50 = .ok (.idiv, 1) := by decide +kernel
theorem dX5_bound_51 : decode cX5_bound 51 = .ok (.ireturn, 1) := by decide +kernel
theorem dX5_first_0 : decode cX5_first 0 = .ok (.bipush 41, 2) := by decide +kernel
theorem dX5_first_2 : decode cX5_first 2 = .ok (.iload_n 0, 1) := by decide +kernel
theorem dX5_first_3 : decode cX5_first 3 = .ok (.imul, 1) := by decide +kernel
theorem dX5_first_4 : decode cX5_first 4 = .ok (.bipush 29, 2) := by decide +kernel
theorem dX5_first_6 : decode cX5_first 6 = .ok (.iload_n 1, 1) := by decide +kernel
theorem dX5_first_7 : decode cX5_first 7 = .ok (.imul, 1) := by decide +kernel
theorem dX5_first_8 : decode cX5_first 8 = .ok (.iadd, 1) := by decide +kernel
theorem dX5_first_9 : decode cX5_first 9 = .ok (.iconst 5, 1) := by decide +kernel
theorem dX5_first_10 : decode cX5_first 10 = .ok (.iadd, 1) := by decide +kernel
theorem dX5_first_11 : decode cX5_first 11 = .ok (.bipush 101, 2) := by decide +kernel
theorem dX5_first_13 : decode cX5_first 13 = .ok (.irem, 1) := by decide +kernel
theorem dX5_first_14 : decode cX5_first 14 = .ok (.ireturn, 1) := by decide +kernel
set_option maxRecDepth 20000 in
theorem ggX5_layMarks_X5_first : GoodIn wsX5_layMarks wsX5_first := goodIn_r _ [6] (by decide +kernel) (by decide +kernel)
set_option maxRecDepth 20000 in
theorem gX5_layMarks_X5_first : GoodIn wsX5_layMarks (va_wsS RX5 57 yX5_first wsX5_first) := goodIn_app (goodIn_of _ (by decide +kernel)) ggX5_layMarks_X5_first
theorem dX5_layMarks_0 : decode cX5_layMarks 0 = .ok (.iconst 0, 1) := by decide +kernel
theorem dX5_layMarks_1 : decode cX5_layMarks 1 = .ok (.istore_n 1, 1) := by decide +kernel
theorem dX5_layMarks_2 : decode cX5_layMarks 2 = .ok (.iload_n 1, 1) := by decide +kernel
theorem dX5_layMarks_3 : decode cX5_layMarks 3 = .ok (.bipush 101, 2) := by decide +kernel
theorem dX5_layMarks_5 : decode cX5_layMarks 5 = .ok (.if_icmp .ge 16, 3) := by decide +kernel
theorem dX5_layMarks_8 : decode cX5_layMarks 8 = .ok (.aload_n 0, 1) := by decide +kernel
theorem dX5_layMarks_9 : decode cX5_layMarks 9 = .ok (.getfield 22, 3) := by decide +kernel
theorem dX5_layMarks_12 : decode cX5_layMarks 12 = .ok (.iload_n 1, 1) := by decide +kernel
theorem dX5_layMarks_13 : decode cX5_layMarks 13 = .ok (.iconst (-1), 1) := by decide +kernel
theorem dX5_layMarks_14 : decode cX5_layMarks 14 = .ok (.iastore, 1) := by decide +kernel
theorem dX5_layMarks_15 : decode cX5_layMarks 15 = .ok (.iinc 1 1, 3) := by decide +kernel
theorem dX5_layMarks_18 : decode cX5_layMarks 18 = .ok (.goto (-16), 3) := by decide +kernel
theorem dX5_layMarks_21 : decode cX5_layMarks 21 = .ok (.iconst 0, 1) := by decide +kernel
theorem dX5_layMarks_22 : decode cX5_layMarks 22 = .ok (.istore_n 1, 1) := by decide +kernel
theorem dX5_layMarks_23 : decode cX5_layMarks 23 = .ok (.iload_n 1, 1) := by decide +kernel
theorem dX5_layMarks_24 : decode cX5_layMarks 24 = .ok (.bipush 100, 2) := by decide +kernel
theorem dX5_layMarks_26 : decode cX5_layMarks 26 = .ok (.if_icmp .ge 62, 3) := by decide +kernel
theorem dX5_layMarks_29 : decode cX5_layMarks 29 = .ok (.iconst 0, 1) := by decide +kernel
theorem dX5_layMarks_30 : decode cX5_layMarks 30 = .ok (.istore_n 2, 1) := by decide +kernel
theorem dX5_layMarks_31 : decode cX5_layMarks 31 = .ok (.iload_n 2, 1) := by decide +kernel
theorem dX5_layMarks_32 : decode cX5_layMarks 32 = .ok (.iconst 2, 1) := by decide +kernel
theorem dX5_layMarks_33 : decode cX5_layMarks 33 = .ok (.aload_n 0, 1) := by decide +kernel
theorem dX5_layMarks_34 : decode cX5_layMarks 34 = .ok (.getfield 7, 3) := by decide +kernel
theorem dX5_layMarks_37 : decode cX5_layMarks 37 = .ok (.iload_n 1, 1) := by decide +kernel
theorem dX5_layMarks_38 : decode cX5_layMarks 38 = .ok (.iaload, 1) := by decide +kernel
theorem dX5_layMarks_39 : decode cX5_layMarks 39 = .ok (.imul, 1) := by decide +kernel
theorem dX5_layMarks_40 : decode cX5_layMarks 40 = .ok (.if_icmp .ge 42, 3) := by decide +kernel
theorem dX5_layMarks_43 : decode cX5_layMarks 43 = .ok (.iload_n 1, 1) := by decide +kernel
theorem dX5_layMarks_44 : decode cX5_layMarks 44 = .ok (.iload_n 2, 1) := by decide +kernel
theorem dX5_layMarks_45 : decode cX5_layMarks 45 = .ok (.invokestatic 57, 3) := by decide +kernel
theorem dX5_layMarks_48 : decode cX5_layMarks 48 = .ok (.istore_n 3, 1) := by decide +kernel
theorem dX5_layMarks_49 : decode cX5_layMarks 49 = .ok (.aload_n 0, 1) := by decide +kernel
theorem dX5_layMarks_50 : decode cX5_layMarks 50 = .ok (.getfield 22, 3) := by decide +kernel
theorem dX5_layMarks_53 : decode cX5_layMarks 53 = .ok (.iload_n 3, 1) := by decide +kernel
theorem dX5_layMarks_54 : decode cX5_layMarks 54 = .ok (.iaload, 1) := by decide +kernel
theorem dX5_layMarks_55 : decode cX5_layMarks 55 = .ok (.iconst (-1), 1) := by decide +kernel
theorem dX5_layMarks_56 : decode cX5_layMarks 56 = .ok (.if_icmp .eq 13, 3) := by decide +kernel
theorem dX5_layMarks_59 : decode cX5_layMarks 59 = .ok (.iload_n 3, 1) := by decide +kernel
theorem dX5_layMarks_60 : decode cX5_layMarks 60 = .ok (.iconst 1, 1) := by decide +kernel
theorem dX5_layMarks_61 : decode cX5_layMarks 61 = .ok (.iadd, 1) := by decide +kernel
theorem dX5_layMarks_62 : decode cX5_layMarks 62 = .ok (.bipush 101, 2) := by decide +kernel
theorem dX5_layMarks_64 : decode cX5_layMarks 64 = .ok (.irem, 1) := by decide +kernel
theorem dX5_layMarks_65 : decode cX5_layMarks 65 = .ok (.istore_n 3, 1) := by decide +kernel
theorem dX5_layMarks_66 : decode cX5_layMarks 66 = .ok (.goto (-17), 3) := by decide +kernel
theorem dX5_layMarks_69 : decode cX5_layMarks 69 = .ok (.aload_n 0, 1) := by decide +kernel
theorem dX5_layMarks_70 : decode cX5_layMarks 70 = .ok (.getfield 22, 3) := by decide +kernel
theorem dX5_layMarks_73 : decode cX5_layMarks 73 = .ok (.iload_n 3, 1) := by decide +kernel
theorem dX5_layMarks_74 : decode cX5_layMarks 74 = .ok (.iload_n 1, 1) := by decide +kernel
theorem dX5_layMarks_75 : decode cX5_layMarks 75 = .ok (.iastore, 1) := by decide +kernel
theorem dX5_layMarks_76 : decode cX5_layMarks 76 = .ok (.iinc 2 1, 3) := by decide +kernel
theorem dX5_layMarks_79 : decode cX5_layMarks 79 = .ok (.goto (-48), 3) := by decide +kernel
theorem dX5_layMarks_82 : decode cX5_layMarks 82 = .ok (.iinc 1 1, 3) := by decide +kernel
theorem dX5_layMarks_85 : decode cX5_layMarks 85 = .ok (.goto (-62), 3) := by decide +kernel
theorem dX5_layMarks_88 : decode cX5_layMarks 88 = .ok (.return_, 1) := by decide +kernel
theorem dX5_placeOf_0 : decode cX5_placeOf 0 = .ok (.bipush 53, 2) := by decide +kernel
theorem dX5_placeOf_2 : decode cX5_placeOf 2 = .ok (.iload_n 0, 1) := by decide +kernel
theorem dX5_placeOf_3 : decode cX5_placeOf 3 = .ok (.imul, 1) := by decide +kernel
theorem dX5_placeOf_4 : decode cX5_placeOf 4 = .ok (.bipush 17, 2) := by decide +kernel
theorem dX5_placeOf_6 : decode cX5_placeOf 6 = .ok (.iadd, 1) := by decide +kernel
theorem dX5_placeOf_7 : decode cX5_placeOf 7 = .ok (.bipush 101, 2) := by decide +kernel
theorem dX5_placeOf_9 : decode cX5_placeOf 9 = .ok (.irem, 1) := by decide +kernel
theorem dX5_placeOf_10 : decode cX5_placeOf 10 = .ok (.ireturn, 1) := by decide +kernel
set_option maxRecDepth 20000 in
theorem ggX5_lay_X5_layMarks : GoodIn wsX5_lay wsX5_layMarks := goodIn_r _ [10, 4, 2, 11, 12, 9, 13, 29, 30, 31, 32, 33, 34, 35, 36, 37, 38, 39, 40, 41, 42, 43, 44, 45, 46, 47] (by decide +kernel) (by decide +kernel)
set_option maxRecDepth 20000 in
theorem gX5_lay_X5_layMarks : GoodIn wsX5_lay (wsV RX5 61 RX5 yX5_layMarks wsX5_layMarks) := goodIn_app (goodIn_of _ (by decide +kernel)) ggX5_lay_X5_layMarks
set_option maxRecDepth 20000 in
theorem ggX5_lay_X5_weights : GoodIn wsX5_lay wsX5_weights := goodIn_r _ [17, 2, 29, 30, 31, 32, 33, 34, 35, 36, 37, 38, 39, 40, 41, 42, 43, 44, 45, 46, 47] (by decide +kernel) (by decide +kernel)
set_option maxRecDepth 20000 in
theorem gX5_lay_X5_weights : GoodIn wsX5_lay (wsV RX5 53 RX5 yX5_weights wsX5_weights) := goodIn_app (goodIn_of _ (by decide +kernel)) ggX5_lay_X5_weights
set_option maxRecDepth 20000 in
theorem ggX5_lay_X5_placeOf : GoodIn wsX5_lay wsX5_placeOf := goodIn_r _ [20] (by decide +kernel) (by decide +kernel)
set_option maxRecDepth 20000 in
theorem gX5_lay_X5_placeOf : GoodIn wsX5_lay (va_wsS RX5 64 yX5_placeOf wsX5_placeOf) := goodIn_app (goodIn_of _ (by decide +kernel)) ggX5_lay_X5_placeOf
set_option maxRecDepth 20000 in
theorem ggX5_lay_X5_isRoom : GoodIn wsX5_lay wsX5_isRoom := goodIn_r _ [24, 4, 1, 25, 26, 27, 9, 28, 2, 14, 15, 16, 17, 29, 30, 31, 32, 33, 34, 35, 36, 37, 38, 39, 40, 41, 42, 43, 44, 45, 46, 47] (by decide +kernel) (by decide +kernel)
set_option maxRecDepth 20000 in
theorem gX5_lay_X5_isRoom : GoodIn wsX5_lay (wsV RX5 68 RX5 yX5_isRoom wsX5_isRoom) := goodIn_app (goodIn_of _ (by decide +kernel)) ggX5_lay_X5_isRoom
theorem dX5_lay_0 : decode cX5_lay 0 = .ok (.aload_n 0, 1) := by decide +kernel
theorem dX5_lay_1 : decode cX5_lay 1 = .ok (.invokevirtual 61, 3) := by decide +kernel
theorem dX5_lay_4 : decode cX5_lay 4 = .ok (.iconst 0, 1) := by decide +kernel
theorem dX5_lay_5 : decode cX5_lay 5 = .ok (.istore_n 1, 1) := by decide +kernel
theorem dX5_lay_6 : decode cX5_lay 6 = .ok (.iload_n 1, 1) := by decide +kernel
theorem dX5_lay_7 : decode cX5_lay 7 = .ok (.bipush 100, 2) := by decide +kernel
theorem dX5_lay_9 : decode cX5_lay 9 = .ok (.if_icmp .ge 16, 3) := by decide +kernel
theorem dX5_lay_12 : decode cX5_lay 12 = .ok (.aload_n 0, 1) := by decide +kernel
theorem dX5_lay_13 : decode cX5_lay 13 = .ok (.getfield 31, 3) := by decide +kernel
theorem dX5_lay_16 : decode cX5_lay 16 = .ok (.iload_n 1, 1) := by decide +kernel
theorem dX5_lay_17 : decode cX5_lay 17 = .ok (.iconst 0, 1) := by decide +kernel
theorem dX5_lay_18 : decode cX5_lay 18 = .ok (.iastore, 1) := by decide +kernel
theorem dX5_lay_19 : decode cX5_lay 19 = .ok (.iinc 1 1, 3) := by decide +kernel
theorem dX5_lay_22 : decode cX5_lay 22 = .ok (.goto (-16), 3) := by decide +kernel
theorem dX5_lay_25 : decode cX5_lay 25 = .ok (.aload_n 0, 1) := by decide +kernel
theorem dX5_lay_26 : decode cX5_lay 26 = .ok (.invokevirtual 53, 3) := by decide +kernel
theorem dX5_lay_29 : decode cX5_lay 29 = .ok (.ifCond .ne 7, 3) := by decide +kernel
theorem dX5_lay_32 : decode cX5_lay 32 = .ok (.iconst 1, 1) := by decide +kernel
theorem dX5_lay_33 : decode cX5_lay 33 = .ok (.goto 4, 3) := by decide +kernel
theorem dX5_lay_36 : decode cX5_lay 36 = .ok (.iconst 0, 1) := by decide +kernel
theorem dX5_lay_37 : decode cX5_lay 37 = .ok (.istore_n 1, 1) := by decide +kernel
theorem dX5_lay_38 : decode cX5_lay 38 = .ok (.iconst 0, 1) := by decide +kernel
theorem dX5_lay_39 : decode cX5_lay 39 = .ok (.istore_n 2, 1) := by decide +kernel
theorem dX5_lay_40 : decode cX5_lay 40 = .ok (.iload_n 2, 1) := by decide +kernel
theorem dX5_lay_41 : decode cX5_lay 41 = .ok (.aload_n 0, 1) := by decide +kernel
theorem dX5_lay_42 : decode cX5_lay 42 = .ok (.getfield 7, 3) := by decide +kernel
theorem dX5_lay_45 : decode cX5_lay 45 = .ok (.sipush 140, 3) := by decide +kernel
theorem dX5_lay_48 : decode cX5_lay 48 = .ok (.iaload, 1) := by decide +kernel
theorem dX5_lay_49 : decode cX5_lay 49 = .ok (.if_icmp .ge 103, 3) := by decide +kernel
theorem dX5_lay_52 : decode cX5_lay 52 = .ok (.aload_n 0, 1) := by decide +kernel
theorem dX5_lay_53 : decode cX5_lay 53 = .ok (.getfield 7, 3) := by decide +kernel
theorem dX5_lay_56 : decode cX5_lay 56 = .ok (.bipush 100, 2) := by decide +kernel
theorem dX5_lay_58 : decode cX5_lay 58 = .ok (.iload_n 2, 1) := by decide +kernel
theorem dX5_lay_59 : decode cX5_lay 59 = .ok (.iadd, 1) := by decide +kernel
theorem dX5_lay_60 : decode cX5_lay 60 = .ok (.iaload, 1) := by decide +kernel
theorem dX5_lay_61 : decode cX5_lay 61 = .ok (.invokestatic 64, 3) := by decide +kernel
theorem dX5_lay_64 : decode cX5_lay 64 = .ok (.istore_n 3, 1) := by decide +kernel
theorem dX5_lay_65 : decode cX5_lay 65 = .ok (.iconst 0, 1) := by decide +kernel
theorem dX5_lay_66 : decode cX5_lay 66 = .ok (.istore 4, 2) := by decide +kernel
theorem dX5_lay_68 : decode cX5_lay 68 = .ok (.iload 4, 2) := by decide +kernel
theorem dX5_lay_70 : decode cX5_lay 70 = .ok (.bipush 101, 2) := by decide +kernel
theorem dX5_lay_72 : decode cX5_lay 72 = .ok (.if_icmp .ge 28, 3) := by decide +kernel
theorem dX5_lay_75 : decode cX5_lay 75 = .ok (.iload_n 1, 1) := by decide +kernel
theorem dX5_lay_76 : decode cX5_lay 76 = .ok (.ifCond .ne 24, 3) := by decide +kernel
theorem dX5_lay_79 : decode cX5_lay 79 = .ok (.aload_n 0, 1) := by decide +kernel
theorem dX5_lay_80 : decode cX5_lay 80 = .ok (.iload_n 3, 1) := by decide +kernel
theorem dX5_lay_81 : decode cX5_lay 81 = .ok (.invokevirtual 68, 3) := by decide +kernel
theorem dX5_lay_84 : decode cX5_lay 84 = .ok (.ifCond .ne 16, 3) := by decide +kernel
theorem dX5_lay_87 : decode cX5_lay 87 = .ok (.iload_n 3, 1) := by decide +kernel
theorem dX5_lay_88 : decode cX5_lay 88 = .ok (.iconst 1, 1) := by decide +kernel
theorem dX5_lay_89 : decode cX5_lay 89 = .ok (.iadd, 1) := by decide +kernel
theorem dX5_lay_90 : decode cX5_lay 90 = .ok (.bipush 101, 2) := by decide +kernel
theorem dX5_lay_92 : decode cX5_lay 92 = .ok (.irem, 1) := by decide +kernel
theorem dX5_lay_93 : decode cX5_lay 93 = .ok (.istore_n 3, 1) := by decide +kernel
theorem dX5_lay_94 : decode cX5_lay 94 = .ok (.iinc 4 1, 3) := by decide +kernel
theorem dX5_lay_97 : decode cX5_lay 97 = .ok (.goto (-29), 3) := by decide +kernel
theorem dX5_lay_100 : decode cX5_lay 100 = .ok (.aload_n 0, 1) := by decide +kernel
theorem dX5_lay_101 : decode cX5_lay 101 = .ok (.getfield 25, 3) := by decide +kernel
theorem dX5_lay_104 : decode cX5_lay 104 = .ok (.iload_n 2, 1) := by decide +kernel
theorem dX5_lay_105 : decode cX5_lay 105 = .ok (.iload_n 1, 1) := by decide +kernel
theorem dX5_lay_106 : decode cX5_lay 106 = .ok (.ifCond .eq 7, 3) := by decide +kernel
theorem dX5_lay_109 : decode cX5_lay 109 = .ok (.iconst (-1), 1) := by decide +kernel
theorem dX5_lay_110 : decode cX5_lay 110 = .ok (.goto 9, 3) := by decide +kernel
theorem dX5_lay_113 : decode cX5_lay 113 = .ok (.aload_n 0, 1) := by decide +kernel
theorem dX5_lay_114 : decode cX5_lay 114 = .ok (.getfield 22, 3) := by decide +kernel
theorem dX5_lay_117 : decode cX5_lay 117 = .ok (.iload_n 3, 1) := by decide +kernel
theorem dX5_lay_118 : decode cX5_lay 118 = .ok (.iaload, 1) := by decide +kernel
theorem dX5_lay_119 : decode cX5_lay 119 = .ok (.iastore, 1) := by decide +kernel
theorem dX5_lay_120 : decode cX5_lay 120 = .ok (.aload_n 0, 1) := by decide +kernel
theorem dX5_lay_121 : decode cX5_lay 121 = .ok (.getfield 28, 3) := by decide +kernel
theorem dX5_lay_124 : decode cX5_lay 124 = .ok (.iload_n 2, 1) := by decide +kernel
theorem dX5_lay_125 : decode cX5_lay 125 = .ok (.iload_n 3, 1) := by decide +kernel
theorem dX5_lay_126 : decode cX5_lay 126 = .ok (.iastore, 1) := by decide +kernel
theorem dX5_lay_127 : decode cX5_lay 127 = .ok (.iload_n 1, 1) := by decide +kernel
theorem dX5_lay_128 : decode cX5_lay 128 = .ok (.ifCond .ne 18, 3) := by decide +kernel
theorem dX5_lay_131 : decode cX5_lay 131 = .ok (.aload_n 0, 1) := by decide +kernel
theorem dX5_lay_132 : decode cX5_lay 132 = .ok (.getfield 31, 3) := by decide +kernel
theorem dX5_lay_135 : decode cX5_lay 135 = .ok (.aload_n 0, 1) := by decide +kernel
theorem dX5_lay_136 : decode cX5_lay 136 = .ok (.getfield 22, 3) := by decide +kernel
theorem dX5_lay_139 : decode cX5_lay 139 = .ok (.iload_n 3, 1) := by decide +kernel
theorem dX5_lay_140 : decode cX5_lay 140 = .ok (.iaload, 1) := by decide +kernel
theorem dX5_lay_141 : decode cX5_lay 141 = .ok (.dup2, 1) := by decide +kernel
theorem dX5_lay_142 : decode cX5_lay 142 = .ok (.iaload, 1) := by decide +kernel
theorem dX5_lay_143 : decode cX5_lay 143 = .ok (.iconst 1, 1) := by decide +kernel
theorem dX5_lay_144 : decode cX5_lay 144 = .ok (.iadd, 1) := by decide +kernel
theorem dX5_lay_145 : decode cX5_lay 145 = .ok (.iastore, 1) := by decide +kernel
theorem dX5_lay_146 : decode cX5_lay 146 = .ok (.iinc 2 1, 3) := by decide +kernel
theorem dX5_lay_149 : decode cX5_lay 149 = .ok (.goto (-109), 3) := by decide +kernel
theorem dX5_lay_152 : decode cX5_lay 152 = .ok (.return_, 1) := by decide +kernel
set_option maxRecDepth 20000 in
theorem ggX5_isRoom_X5_bound : GoodIn wsX5_isRoom wsX5_bound := goodIn_r _ [7, 8, 9, 10, 11, 6, 12, 13, 14, 15, 16, 17, 18, 19, 20, 21, 22, 23, 24, 25, 26, 27, 28, 29, 30, 31] (by decide +kernel) (by decide +kernel)
set_option maxRecDepth 20000 in
theorem gX5_isRoom_X5_bound : GoodIn wsX5_isRoom (wsV RX5 72 RX5 yX5_bound wsX5_bound) := goodIn_app (goodIn_of _ (by decide +kernel)) ggX5_isRoom_X5_bound
theorem dX5_isRoom_0 : decode cX5_isRoom 0 = .ok (.aload_n 0, 1) := by decide +kernel
theorem dX5_isRoom_1 : decode cX5_isRoom 1 = .ok (.getfield 22, 3) := by decide +kernel
theorem dX5_isRoom_4 : decode cX5_isRoom 4 = .ok (.iload_n 1, 1) := by decide +kernel
theorem dX5_isRoom_5 : decode cX5_isRoom 5 = .ok (.iaload, 1) := by decide +kernel
theorem dX5_isRoom_6 : decode cX5_isRoom 6 = .ok (.istore_n 2, 1) := by decide +kernel
theorem dX5_isRoom_7 : decode cX5_isRoom 7 = .ok (.iload_n 2, 1) := by decide +kernel
theorem dX5_isRoom_8 : decode cX5_isRoom 8 = .ok (.iconst (-1), 1) := by decide +kernel
theorem dX5_isRoom_9 : decode cX5_isRoom 9 = .ok (.if_icmp .eq 37, 3) := by decide +kernel
theorem dX5_isRoom_12 : decode cX5_isRoom 12 = .ok (.aload_n 0, 1) := by decide +kernel
theorem dX5_isRoom_13 : decode cX5_isRoom 13 = .ok (.getfield 31, 3) := by decide +kernel
theorem dX5_isRoom_16 : decode cX5_isRoom 16 = .ok (.iload_n 2, 1) := by decide +kernel
theorem dX5_isRoom_17 : decode cX5_isRoom 17 = .ok (.ifCond .ge 7, 3) := by decide +kernel
theorem dX5_isRoom_20 : decode cX5_isRoom 20 = .ok (.iconst 0, 1) := by decide +kernel
theorem dX5_isRoom_21 : decode cX5_isRoom 21 = .ok (.goto 4, 3) := by decide +kernel
theorem dX5_isRoom_24 : decode cX5_isRoom 24 = .ok (.iload_n 2, 1) := by decide +kernel
theorem dX5_isRoom_25 : decode cX5_isRoom 25 = .ok (.iaload, 1) := by decide +kernel
theorem dX5_isRoom_26 : decode cX5_isRoom 26 = .ok (.aload_n 0, 1) := by decide +kernel
theorem dX5_isRoom_27 : decode cX5_isRoom 27 = .ok (.iload_n 2, 1) := by decide +kernel
theorem dX5_isRoom_28 : decode cX5_isRoom 28 = .ok (.ifCond .ge 7, 3) := by decide +kernel
theorem dX5_isRoom_31 : decode cX5_isRoom 31 = .ok (.iconst 0, 1) := by decide +kernel
theorem dX5_isRoom_32 : decode cX5_isRoom 32 = .ok (.goto 4, 3) := by decide +kernel
theorem dX5_isRoom_35 : decode cX5_isRoom 35 = .ok (.iload_n 2, 1) := by decide +kernel
theorem dX5_isRoom_36 : decode cX5_isRoom 36 = .ok (.invokevirtual 72, 3) := by decide +kernel
theorem dX5_isRoom_39 : decode cX5_isRoom 39 = .ok (.if_icmp .ge 7, 3) := by decide +kernel
theorem dX5_isRoom_42 : decode cX5_isRoom 42 = .ok (.iconst 1, 1) := by decide +kernel
theorem dX5_isRoom_43 : decode cX5_isRoom 43 = .ok (.goto 4, 3) := by decide +kernel
theorem dX5_isRoom_46 : decode cX5_isRoom 46 = .ok (.iconst 0, 1) := by decide +kernel
theorem dX5_isRoom_47 : decode cX5_isRoom 47 = .ok (.ireturn, 1) := by decide +kernel
theorem dX5_hold_0 : decode cX5_hold 0 = .ok (.iconst 0, 1) := by decide +kernel
theorem dX5_hold_1 : decode cX5_hold 1 = .ok (.istore_n 1, 1) := by decide +kernel
theorem dX5_hold_2 : decode cX5_hold 2 = .ok (.iload_n 1, 1) := by decide +kernel
theorem dX5_hold_3 : decode cX5_hold 3 = .ok (.sipush 143, 3) := by decide +kernel
theorem dX5_hold_6 : decode cX5_hold 6 = .ok (.if_icmp .ge 21, 3) := by decide +kernel
theorem dX5_hold_9 : decode cX5_hold 9 = .ok (.aload_n 0, 1) := by decide +kernel
theorem dX5_hold_10 : decode cX5_hold 10 = .ok (.getfield 13, 3) := by decide +kernel
theorem dX5_hold_13 : decode cX5_hold 13 = .ok (.iload_n 1, 1) := by decide +kernel
theorem dX5_hold_14 : decode cX5_hold 14 = .ok (.aload_n 0, 1) := by decide +kernel
theorem dX5_hold_15 : decode cX5_hold 15 = .ok (.getfield 7, 3) := by decide +kernel
theorem dX5_hold_18 : decode cX5_hold 18 = .ok (.iload_n 1, 1) := by decide +kernel
theorem dX5_hold_19 : decode cX5_hold 19 = .ok (.iaload, 1) := by decide +kernel
theorem dX5_hold_20 : decode cX5_hold 20 = .ok (.iastore, 1) := by decide +kernel
theorem dX5_hold_21 : decode cX5_hold 21 = .ok (.iinc 1 1, 3) := by decide +kernel
theorem dX5_hold_24 : decode cX5_hold 24 = .ok (.goto (-22), 3) := by decide +kernel
theorem dX5_hold_27 : decode cX5_hold 27 = .ok (.iconst 0, 1) := by decide +kernel
theorem dX5_hold_28 : decode cX5_hold 28 = .ok (.istore_n 1, 1) := by decide +kernel
theorem dX5_hold_29 : decode cX5_hold 29 = .ok (.iload_n 1, 1) := by decide +kernel
theorem dX5_hold_30 : decode cX5_hold 30 = .ok (.bipush 40, 2) := by decide +kernel
theorem dX5_hold_32 : decode cX5_hold 32 = .ok (.if_icmp .ge 21, 3) := by decide +kernel
theorem dX5_hold_35 : decode cX5_hold 35 = .ok (.aload_n 0, 1) := by decide +kernel
theorem dX5_hold_36 : decode cX5_hold 36 = .ok (.getfield 34, 3) := by decide +kernel
theorem dX5_hold_39 : decode cX5_hold 39 = .ok (.iload_n 1, 1) := by decide +kernel
theorem dX5_hold_40 : decode cX5_hold 40 = .ok (.aload_n 0, 1) := by decide +kernel
theorem dX5_hold_41 : decode cX5_hold 41 = .ok (.getfield 25, 3) := by decide +kernel
theorem dX5_hold_44 : decode cX5_hold 44 = .ok (.iload_n 1, 1) := by decide +kernel
theorem dX5_hold_45 : decode cX5_hold 45 = .ok (.iaload, 1) := by decide +kernel
theorem dX5_hold_46 : decode cX5_hold 46 = .ok (.iastore, 1) := by decide +kernel
theorem dX5_hold_47 : decode cX5_hold 47 = .ok (.iinc 1 1, 3) := by decide +kernel
theorem dX5_hold_50 : decode cX5_hold 50 = .ok (.goto (-21), 3) := by decide +kernel
theorem dX5_hold_53 : decode cX5_hold 53 = .ok (.return_, 1) := by decide +kernel
theorem dX5_release_0 : decode cX5_release 0 = .ok (.iconst 0, 1) := by decide +kernel
theorem dX5_release_1 : decode cX5_release 1 = .ok (.istore_n 1, 1) := by decide +kernel
theorem dX5_release_2 : decode cX5_release 2 = .ok (.iload_n 1, 1) := by decide +kernel
theorem dX5_release_3 : decode cX5_release 3 = .ok (.sipush 143, 3) := by decide +kernel
theorem dX5_release_6 : decode cX5_release 6 = .ok (.if_icmp .ge 21, 3) := by decide +kernel
theorem dX5_release_9 : decode cX5_release 9 = .ok (.aload_n 0, 1) := by decide +kernel
theorem dX5_release_10 : decode cX5_release 10 = .ok (.getfield 7, 3) := by decide +kernel
theorem dX5_release_13 : decode cX5_release 13 = .ok (.iload_n 1, 1) := by decide +kernel
theorem dX5_release_14 : decode cX5_release 14 = .ok (.aload_n 0, 1) := by decide +kernel
theorem dX5_release_15 : decode cX5_release 15 = .ok (.getfield 13, 3) := by decide +kernel
theorem dX5_release_18 : decode cX5_release 18 = .ok (.iload_n 1, 1) := by decide +kernel
theorem dX5_release_19 : decode cX5_release 19 = .ok (.iaload, 1) := by decide +kernel
theorem dX5_release_20 : decode cX5_release 20 = .ok (.iastore, 1) := by decide +kernel
theorem dX5_release_21 : decode cX5_release 21 = .ok (.iinc 1 1, 3) := by decide +kernel
theorem dX5_release_24 : decode cX5_release 24 = .ok (.goto (-22), 3) := by decide +kernel
theorem dX5_release_27 : decode cX5_release 27 = .ok (.return_, 1) := by decide +kernel
theorem dX5_moved_0 : decode cX5_moved 0 = .ok (.iconst 0, 1) := by decide +kernel
theorem dX5_moved_1 : decode cX5_moved 1 = .ok (.istore_n 1, 1) := by decide +kernel
theorem dX5_moved_2 : decode cX5_moved 2 = .ok (.iconst 0, 1) := by decide +kernel
theorem dX5_moved_3 : decode cX5_moved 3 = .ok (.istore_n 2, 1) := by decide +kernel
theorem dX5_moved_4 : decode cX5_moved 4 = .ok (.iload_n 2, 1) := by decide +kernel
theorem dX5_moved_5 : decode cX5_moved 5 = .ok (.aload_n 0, 1) := by decide +kernel
theorem dX5_moved_6 : decode cX5_moved 6 = .ok (.getfield 7, 3) := by decide +kernel
theorem dX5_moved_9 : decode cX5_moved 9 = .ok (.sipush 140, 3) := by decide +kernel
theorem dX5_moved_12 : decode cX5_moved 12 = .ok (.iaload, 1) := by decide +kernel
theorem dX5_moved_13 : decode cX5_moved 13 = .ok (.if_icmp .ge 73, 3) := by decide +kernel
theorem dX5_moved_16 : decode cX5_moved 16 = .ok (.iconst 0, 1) := by decide +kernel
theorem dX5_moved_17 : decode cX5_moved 17 = .ok (.istore_n 3, 1) := by decide +kernel
theorem dX5_moved_18 : decode cX5_moved 18 = .ok (.iload_n 3, 1) := by decide +kernel
theorem dX5_moved_19 : decode cX5_moved 19 = .ok (.aload_n 0, 1) := by decide +kernel
theorem dX5_moved_20 : decode cX5_moved 20 = .ok (.getfield 13, 3) := by decide +kernel
theorem dX5_moved_23 : decode cX5_moved 23 = .ok (.sipush 140, 3) := by decide +kernel
theorem dX5_moved_26 : decode cX5_moved 26 = .ok (.iaload, 1) := by decide +kernel
theorem dX5_moved_27 : decode cX5_moved 27 = .ok (.if_icmp .ge 53, 3) := by decide +kernel
theorem dX5_moved_30 : decode cX5_moved 30 = .ok (.iload_n 1, 1) := by decide +kernel
theorem dX5_moved_31 : decode cX5_moved 31 = .ok (.aload_n 0, 1) := by decide +kernel
theorem dX5_moved_32 : decode cX5_moved 32 = .ok (.getfield 7, 3) := by decide +kernel
theorem dX5_moved_35 : decode cX5_moved 35 = .ok (.bipush 100, 2) := by decide +kernel
theorem dX5_moved_37 : decode cX5_moved 37 = .ok (.iload_n 2, 1) := by decide +kernel
theorem dX5_moved_38 : decode cX5_moved 38 = .ok (.iadd, 1) := by decide +kernel
theorem dX5_moved_39 : decode cX5_moved 39 = .ok (.iaload, 1) := by decide +kernel
theorem dX5_moved_40 : decode cX5_moved 40 = .ok (.aload_n 0, 1) := by decide +kernel
theorem dX5_moved_41 : decode cX5_moved 41 = .ok (.getfield 13, 3) := by decide +kernel
theorem dX5_moved_44 : decode cX5_moved 44 = .ok (.bipush 100, 2) := by decide +kernel
theorem dX5_moved_46 : decode cX5_moved 46 = .ok (.iload_n 3, 1) := by decide +kernel
theorem dX5_moved_47 : decode cX5_moved 47 = .ok (.iadd, 1) := by decide +kernel
theorem dX5_moved_48 : decode cX5_moved 48 = .ok (.iaload, 1) := by decide +kernel
theorem dX5_moved_49 : decode cX5_moved 49 = .ok (.if_icmp .ne 22, 3) := by decide +kernel
theorem dX5_moved_52 : decode cX5_moved 52 = .ok (.aload_n 0, 1) := by decide +kernel
theorem dX5_moved_53 : decode cX5_moved 53 = .ok (.getfield 25, 3) := by decide +kernel
theorem dX5_moved_56 : decode cX5_moved 56 = .ok (.iload_n 2, 1) := by decide +kernel
theorem dX5_moved_57 : decode cX5_moved 57 = .ok (.iaload, 1) := by decide +kernel
theorem dX5_moved_58 : decode cX5_moved 58 = .ok (.aload_n 0, 1) := by decide +kernel
theorem dX5_moved_59 : decode cX5_moved 59 = .ok (.getfield 34, 3) := by decide +kernel
theorem dX5_moved_62 : decode cX5_moved 62 = .ok (.iload_n 3, 1) := by decide +kernel
theorem dX5_moved_63 : decode cX5_moved 63 = .ok (.iaload, 1) := by decide +kernel
theorem dX5_moved_64 : decode cX5_moved 64 = .ok (.if_icmp .eq 7, 3) := by decide +kernel
theorem dX5_moved_67 : decode cX5_moved 67 = .ok (.iconst 1, 1) := by decide +kernel
theorem dX5_moved_68 : decode cX5_moved 68 = .ok (.goto 4, 3) := by decide +kernel
theorem dX5_moved_71 : decode cX5_moved 71 = .ok (.iconst 0, 1) := by decide +kernel
theorem dX5_moved_72 : decode cX5_moved 72 = .ok (.iadd, 1) := by decide +kernel
theorem dX5_moved_73 : decode cX5_moved 73 = .ok (.istore_n 1, 1) := by decide +kernel
theorem dX5_moved_74 : decode cX5_moved 74 = .ok (.iinc 3 1, 3) := by decide +kernel
theorem dX5_moved_77 : decode cX5_moved 77 = .ok (.goto (-59), 3) := by decide +kernel
theorem dX5_moved_80 : decode cX5_moved 80 = .ok (.iinc 2 1, 3) := by decide +kernel
theorem dX5_moved_83 : decode cX5_moved 83 = .ok (.goto (-79), 3) := by decide +kernel
theorem dX5_moved_86 : decode cX5_moved 86 = .ok (.iload_n 1, 1) := by decide +kernel
theorem dX5_moved_87 : decode cX5_moved 87 = .ok (.ireturn, 1) := by decide +kernel
set_option maxRecDepth 20000 in
theorem ggX5_push_X5_lay : GoodIn wsX5_push wsX5_lay := goodIn_r _ [9, 10, 1, 11, 12, 13, 14, 15, 16, 8, 17, 18, 19, 20, 21, 22, 23, 24, 25, 26, 27, 28, 29, 30, 31, 32, 33, 34, 35, 41, 42, 43, 44, 45, 46, 47, 48, 49, 50, 51, 52, 53, 54, 55, 56, 57, 58, 59] (by decide +kernel) (by decide +kernel)
set_option maxRecDepth 20000 in
theorem gX5_push_X5_lay : GoodIn wsX5_push (wsV RX5 50 RX5 yX5_lay wsX5_lay) := goodIn_app (goodIn_of _ (by decide +kernel)) ggX5_push_X5_lay
set_option maxRecDepth 20000 in
theorem ggX5_push_X5_moved : GoodIn wsX5_push wsX5_moved := goodIn_r _ [39, 1, 4, 11, 40, 41, 42, 43, 44, 45, 46, 47, 48, 49, 50, 51, 52, 53, 54, 55, 56, 57, 58, 59] (by decide +kernel) (by decide +kernel)
set_option maxRecDepth 20000 in
theorem gX5_push_X5_moved : GoodIn wsX5_push (wsV RX5 75 RX5 yX5_moved wsX5_moved) := goodIn_app (goodIn_of _ (by decide +kernel)) ggX5_push_X5_moved
theorem dX5_push_0 : decode cX5_push 0 = .ok (.aload_n 0, 1) := by decide +kernel
theorem dX5_push_1 : decode cX5_push 1 = .ok (.invokevirtual 50, 3) := by decide +kernel
