theorem dX3_removeKey_15 : decode cX3_removeKey 15 = .ok (.istore_n 2, 1) := by decide +kernel
theorem dX3_removeKey_16 : decode cX3_removeKey 16 = .ok (.iload_n 2, 1) := by decide +kernel
theorem dX3_removeKey_17 : decode cX3_removeKey 17 = .ok (.ifCond .ge 6, 3) := by decide +kernel
theorem dX3_removeKey_20 : decode cX3_removeKey 20 = .ok (.bipush (-3), 2) := by decide +kernel
theorem dX3_removeKey_22 : decode cX3_removeKey 22 = .ok (.ireturn, 1) := by decide +kernel
theorem dX3_removeKey_23 : decode cX3_removeKey 23 = .ok (.iload_n 2, 1) := by decide +kernel
theorem dX3_removeKey_24 : decode cX3_removeKey 24 = .ok (.iconst 1, 1) := by decide +kernel
theorem dX3_removeKey_25 : decode cX3_removeKey 25 = .ok (.iadd, 1) := by decide +kernel
theorem dX3_removeKey_26 : decode cX3_removeKey 26 = .ok (.istore_n 3, 1) := by decide +kernel
theorem dX3_removeKey_27 : decode cX3_removeKey 27 = .ok (.iload_n 3, 1) := by decide +kernel
theorem dX3_removeKey_28 : decode cX3_removeKey 28 = .ok (.aload_n 0, 1) := by decide +kernel
theorem dX3_removeKey_29 : decode cX3_removeKey 29 = .ok (.getfield 25, 3) := by decide +kernel
theorem dX3_removeKey_32 : decode cX3_removeKey 32 = .ok (.if_icmp .ge 23, 3) := by decide +kernel
theorem dX3_removeKey_35 : decode cX3_removeKey 35 = .ok (.aload_n 0, 1) := by decide +kernel
theorem dX3_removeKey_36 : decode cX3_removeKey 36 = .ok (.getfield 18, 3) := by decide +kernel
theorem dX3_removeKey_39 : decode cX3_removeKey 39 = .ok (.iload_n 3, 1) := by decide +kernel
theorem dX3_removeKey_40 : decode cX3_removeKey 40 = .ok (.iconst 1, 1) := by decide +kernel
theorem dX3_removeKey_41 : decode cX3_removeKey 41 = .ok (.isub, 1) := by decide +kernel
theorem dX3_removeKey_42 : decode cX3_removeKey 42 = .ok (.aload_n 0, 1) := by decide +kernel
theorem dX3_removeKey_43 : decode cX3_removeKey 43 = .ok (.getfield 18, 3) := by decide +kernel
theorem dX3_removeKey_46 : decode cX3_removeKey 46 = .ok (.iload_n 3, 1) := by decide +kernel
theorem dX3_removeKey_47 : decode cX3_removeKey 47 = .ok (.iaload, 1) := by decide +kernel
theorem dX3_removeKey_48 : decode cX3_removeKey 48 = .ok (.iastore, 1) := by decide +kernel
theorem dX3_removeKey_49 : decode cX3_removeKey 49 = .ok (.iinc 3 1, 3) := by decide +kernel
theorem dX3_removeKey_52 : decode cX3_removeKey 52 = .ok (.goto (-25), 3) := by decide +kernel
theorem dX3_removeKey_55 : decode cX3_removeKey 55 = .ok (.aload_n 0, 1) := by decide +kernel
theorem dX3_removeKey_56 : decode cX3_removeKey 56 = .ok (.dup, 1) := by decide +kernel
theorem dX3_removeKey_57 : decode cX3_removeKey 57 = .ok (.getfield 25, 3) := by decide +kernel
theorem dX3_removeKey_60 : decode cX3_removeKey 60 = .ok (.iconst 1, 1) := by decide +kernel
theorem dX3_removeKey_61 : decode cX3_removeKey 61 = .ok (.isub, 1) := by decide +kernel
theorem dX3_removeKey_62 : decode cX3_removeKey 62 = .ok (.putfield 25, 3) := by decide +kernel
theorem dX3_removeKey_65 : decode cX3_removeKey 65 = .ok (.iconst 0, 1) := by decide +kernel
theorem dX3_removeKey_66 : decode cX3_removeKey 66 = .ok (.ireturn, 1) := by decide +kernel
theorem dX3_changeExtra_0 : decode cX3_changeExtra 0 = .ok (.iload_n 1, 1) := by decide +kernel
theorem dX3_changeExtra_1 : decode cX3_changeExtra 1 = .ok (.ifCond .lt 10, 3) := by decide +kernel
theorem dX3_changeExtra_4 : decode cX3_changeExtra 4 = .ok (.iload_n 1, 1) := by decide +kernel
theorem dX3_changeExtra_5 : decode cX3_changeExtra 5 = .ok (.sipush 200, 3) := by decide +kernel
theorem dX3_changeExtra_8 : decode cX3_changeExtra 8 = .ok (.if_icmp .le 6, 3) := by decide +kernel
theorem dX3_changeExtra_11 : decode cX3_changeExtra 11 = .ok (.bipush (-2), 2) := by decide +kernel
theorem dX3_changeExtra_13 : decode cX3_changeExtra 13 = .ok (.ireturn, 1) := by decide +kernel
theorem dX3_changeExtra_14 : decode cX3_changeExtra 14 = .ok (.aload_n 0, 1) := by decide +kernel
theorem dX3_changeExtra_15 : decode cX3_changeExtra 15 = .ok (.iload_n 1, 1) := by decide +kernel
theorem dX3_changeExtra_16 : decode cX3_changeExtra 16 = .ok (.putfield 28, 3) := by decide +kernel
theorem dX3_changeExtra_19 : decode cX3_changeExtra 19 = .ok (.iconst 0, 1) := by decide +kernel
theorem dX3_changeExtra_20 : decode cX3_changeExtra 20 = .ok (.ireturn, 1) := by decide +kernel
set_option maxRecDepth 20000 in
theorem ggX4_init_X1_init : GoodIn wsX4_init wsX1_init := goodIn_r _ [22, 23, 2, 3, 24, 25, 26, 27, 28, 29, 30, 31, 32, 33, 34, 35, 36, 37, 38, 39, 40, 41, 42, 43, 44, 45, 46, 47, 48, 6, 49, 50, 51, 52, 53, 54, 55, 56, 57, 58, 59, 60, 61, 62, 63, 64, 65, 66, 67, 68, 69, 70, 71, 72, 73, 74, 75, 76, 77, 78, 79, 80, 81, 82, 130, 131, 132, 133, 134, 135, 136, 103, 104, 105, 106, 107, 108, 109, 110] (by decide +kernel) (by decide +kernel)
set_option maxRecDepth 20000 in
theorem gX4_init_X1_init : GoodIn wsX4_init (wsX1_init) := ggX4_init_X1_init
set_option maxRecDepth 20000 in
theorem ggX4_init_X0_init : GoodIn wsX4_init wsX0_init := goodIn_r _ [85, 86, 2, 3, 87, 88, 89, 25, 26, 36, 37, 38, 28, 39, 40, 41, 42, 43, 44, 45, 118, 119, 130, 131, 132, 133, 134, 135, 136] (by decide +kernel) (by decide +kernel)
set_option maxRecDepth 20000 in
theorem gX4_init_X0_init : GoodIn wsX4_init (wsX0_init) := ggX4_init_X0_init
set_option maxRecDepth 20000 in
theorem ggX4_init_X2_init : GoodIn wsX4_init wsX2_init := goodIn_r _ [91, 92, 2, 3, 28, 93, 94, 95, 96, 97, 98, 99, 100, 101, 102, 120, 121, 122, 123, 124, 125, 126, 127, 128, 129] (by decide +kernel) (by decide +kernel)
set_option maxRecDepth 20000 in
theorem gX4_init_X2_init_n28 : GoodIn wsX4_init (wsX2_init) := ggX4_init_X2_init
theorem dX4_init_0 : decode cX4_init 0 = .ok (.aload_n 0, 1) := by decide +kernel
theorem dX4_init_1 : decode cX4_init 1 = .ok (.invokespecial 3, 3) := by decide +kernel
theorem dX4_init_4 : decode cX4_init 4 = .ok (.aload_n 0, 1) := by decide +kernel
theorem dX4_init_5 : decode cX4_init 5 = .ok (.new 9, 3) := by decide +kernel
theorem dX4_init_8 : decode cX4_init 8 = .ok (.dup, 1) := by decide +kernel
theorem dX4_init_9 : decode cX4_init 9 = .ok (.invokespecial 11, 3) := by decide +kernel
theorem dX4_init_12 : decode cX4_init 12 = .ok (.putfield 12, 3) := by decide +kernel
theorem dX4_init_15 : decode cX4_init 15 = .ok (.aload_n 0, 1) := by decide +kernel
theorem dX4_init_16 : decode cX4_init 16 = .ok (.new 9, 3) := by decide +kernel
theorem dX4_init_19 : decode cX4_init 19 = .ok (.dup, 1) := by decide +kernel
theorem dX4_init_20 : decode cX4_init 20 = .ok (.invokespecial 11, 3) := by decide +kernel
theorem dX4_init_23 : decode cX4_init 23 = .ok (.putfield 16, 3) := by decide +kernel
theorem dX4_init_26 : decode cX4_init 26 = .ok (.aload_n 0, 1) := by decide +kernel
theorem dX4_init_27 : decode cX4_init 27 = .ok (.new 19, 3) := by decide +kernel
theorem dX4_init_30 : decode cX4_init 30 = .ok (.dup, 1) := by decide +kernel
theorem dX4_init_31 : decode cX4_init 31 = .ok (.invokespecial 21, 3) := by decide +kernel
theorem dX4_init_34 : decode cX4_init 34 = .ok (.putfield 22, 3) := by decide +kernel
theorem dX4_init_37 : decode cX4_init 37 = .ok (.aload_n 0, 1) := by decide +kernel
theorem dX4_init_38 : decode cX4_init 38 = .ok (.new 26, 3) := by decide +kernel
theorem dX4_init_41 : decode cX4_init 41 = .ok (.dup, 1) := by decide +kernel
theorem dX4_init_42 : decode cX4_init 42 = .ok (.invokespecial 28, 3) := by decide +kernel
theorem dX4_init_45 : decode cX4_init 45 = .ok (.putfield 29, 3) := by decide +kernel
theorem dX4_init_48 : decode cX4_init 48 = .ok (.aload_n 0, 1) := by decide +kernel
theorem dX4_init_49 : decode cX4_init 49 = .ok (.iconst 0, 1) := by decide +kernel
theorem dX4_init_50 : decode cX4_init 50 = .ok (.putfield 33, 3) := by decide +kernel
theorem dX4_init_53 : decode cX4_init 53 = .ok (.aload_n 0, 1) := by decide +kernel
theorem dX4_init_54 : decode cX4_init 54 = .ok (.iconst 0, 1) := by decide +kernel
theorem dX4_init_55 : decode cX4_init 55 = .ok (.putfield 37, 3) := by decide +kernel
theorem dX4_init_58 : decode cX4_init 58 = .ok (.aload_n 0, 1) := by decide +kernel
theorem dX4_init_59 : decode cX4_init 59 = .ok (.iconst 0, 1) := by decide +kernel
theorem dX4_init_60 : decode cX4_init 60 = .ok (.putfield 40, 3) := by decide +kernel
theorem dX4_init_63 : decode cX4_init 63 = .ok (.return_, 1) := by decide +kernel
set_option maxRecDepth 20000 in
theorem ggX4_host_X4_tellOne : GoodIn wsX4_host wsX4_tellOne := goodIn_r _ [5, 6, 7, 8, 9, 10, 11, 12, 13, 14, 15, 16, 17, 18, 19, 20, 21, 22, 23, 24, 25, 26, 27, 28, 29, 30, 31, 32, 33, 34, 4, 35, 36, 37, 38, 39, 40, 41, 42, 43, 44, 45, 46, 47, 48, 49, 50, 51, 52, 53, 54, 55, 56, 57, 58, 59, 60, 61, 62, 63, 64, 65, 66, 67, 68, 69, 70, 71, 72, 73, 74, 75, 76, 77, 78, 79, 80, 81, 82, 83, 84, 85, 86, 87, 88, 89, 90, 91, 92, 93, 94, 95, 96, 97, 98, 99, 100, 101, 102, 103, 104, 105, 106, 107, 108, 109, 110, 111, 112, 113, 114, 115, 116, 117, 118, 119, 120, 121, 122, 123, 124, 125, 126, 127, 128, 129, 130, 131, 132, 133, 134, 135, 136, 137, 138, 139, 140, 141, 142, 143, 144, 145, 146, 147, 148, 149, 150, 151, 152, 153, 154, 155, 156, 157, 158, 159, 160, 161, 162, 163, 164, 165, 166, 167, 168, 169, 170, 171, 172, 173, 174] (by decide +kernel) (by decide +kernel)
set_option maxRecDepth 20000 in
theorem gX4_host_X4_tellOne : GoodIn wsX4_host (wsV RX4 43 RX4 yX4_tellOne wsX4_tellOne) := goodIn_app (goodIn_of _ (by decide +kernel)) ggX4_host_X4_tellOne
theorem dX4_host_0 : decode cX4_host 0 = .ok (.aload_n 0, 1) := by decide +kernel
theorem dX4_host_1 : decode cX4_host 1 = .ok (.bipush 104, 2) := by decide +kernel
theorem dX4_host_3 : decode cX4_host 3 = .ok (.iload_n 1, 1) := by decide +kernel
theorem dX4_host_4 : decode cX4_host 4 = .ok (.iload_n 2, 1) := by decide +kernel
theorem dX4_host_5 : decode cX4_host 5 = .ok (.invokevirtual 43, 3) := by decide +kernel
theorem dX4_host_8 : decode cX4_host 8 = .ok (.ireturn, 1) := by decide +kernel
set_option maxRecDepth 20000 in
theorem ggX4_weighs_X4_tellOne : GoodIn wsX4_weighs wsX4_tellOne := goodIn_r _ [5, 6, 7, 8, 9, 10, 11, 12, 13, 14, 15, 16, 17, 18, 19, 20, 21, 22, 23, 24, 25, 26, 27, 28, 29, 30, 31, 32, 33, 34, 4, 35, 36, 37, 38, 39, 40, 41, 42, 43, 44, 45, 46, 47, 48, 49, 50, 51, 52, 53, 54, 55, 56, 57, 58, 59, 60, 61, 62, 63, 64, 65, 66, 67, 68, 69, 70, 71, 72, 73, 74, 75, 76, 77, 78, 79, 80, 81, 82, 83, 84, 85, 86, 87, 88, 89, 90, 91, 92, 93, 94, 95, 96, 97, 98, 99, 100, 101, 102, 103, 104, 105, 106, 107, 108, 109, 110, 111, 112, 113, 114, 115, 116, 117, 118, 119, 120, 121, 122, 123, 124, 125, 126, 127, 128, 129, 130, 131, 132, 133, 134, 135, 136, 137, 138, 139, 140, 141, 142, 143, 144, 145, 146, 147, 148, 149, 150, 151, 152, 153, 154, 155, 156, 157, 158, 159, 160, 161, 162, 163, 164, 165, 166, 167, 168, 169, 170, 171, 172, 173, 174] (by decide +kernel) (by decide +kernel)
set_option maxRecDepth 20000 in
theorem gX4_weighs_X4_tellOne : GoodIn wsX4_weighs (wsV RX4 43 RX4 yX4_tellOne wsX4_tellOne) := goodIn_app (goodIn_of _ (by decide +kernel)) ggX4_weighs_X4_tellOne
theorem dX4_weighs_0 : decode cX4_weighs 0 = .ok (.aload_n 0, 1) := by decide +kernel
theorem dX4_weighs_1 : decode cX4_weighs 1 = .ok (.bipush 119, 2) := by decide +kernel
theorem dX4_weighs_3 : decode cX4_weighs 3 = .ok (.iload_n 1, 1) := by decide +kernel
theorem dX4_weighs_4 : decode cX4_weighs 4 = .ok (.iload_n 2, 1) := by decide +kernel
theorem dX4_weighs_5 : decode cX4_weighs 5 = .ok (.invokevirtual 43, 3) := by decide +kernel
theorem dX4_weighs_8 : decode cX4_weighs 8 = .ok (.ireturn, 1) := by decide +kernel
set_option maxRecDepth 20000 in
theorem ggX4_goes_X4_tellOne : GoodIn wsX4_goes wsX4_tellOne := goodIn_r _ [5, 6, 7, 8, 9, 10, 11, 12, 13, 14, 15, 16, 17, 18, 19, 20, 21, 22, 23, 24, 25, 26, 27, 28, 29, 30, 31, 32, 33, 34, 4, 35, 36, 37, 38, 39, 40, 41, 42, 43, 44, 45, 46, 47, 48, 49, 50, 51, 52, 53, 54, 55, 56, 57, 58, 59, 60, 61, 62, 63, 64, 65, 66, 67, 68, 69, 70, 71, 72, 73, 74, 75, 76, 77, 78, 79, 80, 81, 82, 83, 84, 85, 86, 87, 88, 89, 90, 91, 92, 93, 94, 95, 96, 97, 98, 99, 100, 101, 102, 103, 104, 105, 106, 107, 108, 109, 110, 111, 112, 113, 114, 115, 116, 117, 118, 119, 120, 121, 122, 123, 124, 125, 126, 127, 128, 129, 130, 131, 132, 133, 134, 135, 136, 137, 138, 139, 140, 141, 142, 143, 144, 145, 146, 147, 148, 149, 150, 151, 152, 153, 154, 155, 156, 157, 158, 159, 160, 161, 162, 163, 164, 165, 166, 167, 168, 169, 170, 171, 172, 173, 174] (by decide +kernel) (by decide +kernel)
set_option maxRecDepth 20000 in
theorem gX4_goes_X4_tellOne : GoodIn wsX4_goes (wsV RX4 43 RX4 yX4_tellOne wsX4_tellOne) := goodIn_app (goodIn_of _ (by decide +kernel)) ggX4_goes_X4_tellOne
theorem dX4_goes_0 : decode cX4_goes 0 = .ok (.aload_n 0, 1) := by decide +kernel
theorem dX4_goes_1 : decode cX4_goes 1 = .ok (.bipush 103, 2) := by decide +kernel
theorem dX4_goes_3 : decode cX4_goes 3 = .ok (.iload_n 1, 1) := by decide +kernel
theorem dX4_goes_4 : decode cX4_goes 4 = .ok (.iconst 0, 1) := by decide +kernel
theorem dX4_goes_5 : decode cX4_goes 5 = .ok (.invokevirtual 43, 3) := by decide +kernel
theorem dX4_goes_8 : decode cX4_goes 8 = .ok (.ireturn, 1) := by decide +kernel
set_option maxRecDepth 20000 in
theorem ggX4_key_X4_tellOne : GoodIn wsX4_key wsX4_tellOne := goodIn_r _ [6, 7, 8, 1, 9, 10, 11, 12, 13, 14, 15, 16, 17, 18, 19, 20, 21, 22, 23, 24, 25, 26, 27, 28, 29, 30, 31, 32, 33, 34, 5, 35, 36, 37, 38, 39, 40, 41, 42, 43, 44, 45, 46, 47, 48, 49, 50, 51, 52, 53, 54, 55, 56, 57, 58, 59, 60, 61, 62, 63, 64, 65, 66, 67, 68, 69, 70, 71, 72, 73, 74, 75, 76, 77, 78, 79, 80, 81, 82, 83, 84, 85, 86, 87, 88, 89, 90, 91, 92, 93, 94, 95, 96, 97, 98, 99, 100, 101, 102, 103, 104, 105, 106, 107, 108, 109, 110, 111, 112, 113, 114, 115, 116, 117, 118, 119, 120, 121, 122, 123, 124, 125, 126, 127, 128, 129, 130, 131, 132, 133, 134, 135, 136, 137, 138, 139, 140, 141, 142, 143, 144, 145, 146, 147, 148, 149, 150, 152, 153, 154, 155, 156, 157, 158, 159, 160, 161, 162, 163, 164, 165, 166, 167, 168, 169, 170, 171, 172, 173, 174, 175] (by decide +kernel) (by decide +kernel)
set_option maxRecDepth 20000 in
theorem gX4_key_X4_tellOne : GoodIn wsX4_key (wsV RX4 43 RX4 yX4_tellOne wsX4_tellOne) := goodIn_app (goodIn_of _ (by decide +kernel)) ggX4_key_X4_tellOne
set_option maxRecDepth 20000 in
theorem ggX4_key_X1_hostNameOfKey : GoodIn wsX4_key wsX1_hostNameOfKey := goodIn_r _ [138, 85, 118, 134, 57, 58, 13, 59, 23, 21, 130, 131, 132, 133, 22, 15, 159, 160, 161, 162, 163, 164, 165, 166, 167, 168, 169, 170, 171, 172, 173] (by decide +kernel) (by decide +kernel)
set_option maxRecDepth 20000 in
theorem gX4_key_X1_hostNameOfKey : GoodIn wsX4_key (wsV RX4 47 RX1 yX1_hostNameOfKey wsX1_hostNameOfKey) := goodIn_app (goodIn_of _ (by decide +kernel)) ggX4_key_X1_hostNameOfKey
theorem dX4_key_0 : decode cX4_key 0 = .ok (.aload_n 0, 1) := by decide +kernel
theorem dX4_key_1 : decode cX4_key 1 = .ok (.bipush 107, 2) := by decide +kernel
theorem dX4_key_3 : decode cX4_key 3 = .ok (.iload_n 1, 1) := by decide +kernel
theorem dX4_key_4 : decode cX4_key 4 = .ok (.iconst 0, 1) := by decide +kernel
theorem dX4_key_5 : decode cX4_key 5 = .ok (.invokevirtual 43, 3) := by decide +kernel
theorem dX4_key_8 : decode cX4_key 8 = .ok (.istore_n 2, 1) := by decide +kernel
theorem dX4_key_9 : decode cX4_key 9 = .ok (.iload_n 2, 1) := by decide +kernel
theorem dX4_key_10 : decode cX4_key 10 = .ok (.ifCond .ge 7, 3) := by decide +kernel
theorem dX4_key_13 : decode cX4_key 13 = .ok (.iload_n 2, 1) := by decide +kernel
theorem dX4_key_14 : decode cX4_key 14 = .ok (.goto 11, 3) := by decide +kernel
theorem dX4_key_17 : decode cX4_key 17 = .ok (.aload_n 0, 1) := by decide +kernel
theorem dX4_key_18 : decode cX4_key 18 = .ok (.getfield 12, 3) := by decide +kernel
theorem dX4_key_21 : decode cX4_key 21 = .ok (.iload_n 1, 1) := by decide +kernel
theorem dX4_key_22 : decode cX4_key 22 = .ok (.invokevirtual 47, 3) := by decide +kernel
theorem dX4_key_25 : decode cX4_key 25 = .ok (.ireturn, 1) := by decide +kernel
set_option maxRecDepth 20000 in
theorem ggX4_drops_X4_tellOne : GoodIn wsX4_drops wsX4_tellOne := goodIn_r _ [5, 6, 7, 8, 9, 10, 11, 12, 13, 14, 15, 16, 17, 18, 19, 20, 21, 22, 23, 24, 25, 26, 27, 28, 29, 30, 31, 32, 33, 34, 4, 35, 36, 37, 38, 39, 40, 41, 42, 43, 44, 45, 46, 47, 48, 49, 50, 51, 52, 53, 54, 55, 56, 57, 58, 59, 60, 61, 62, 63, 64, 65, 66, 67, 68, 69, 70, 71, 72, 73, 74, 75, 76, 77, 78, 79, 80, 81, 82, 83, 84, 85, 86, 87, 88, 89, 90, 91, 92, 93, 94, 95, 96, 97, 98, 99, 100, 101, 102, 103, 104, 105, 106, 107, 108, 109, 110, 111, 112, 113, 114, 115, 116, 117, 118, 119, 120, 121, 122, 123, 124, 125, 126, 127, 128, 129, 130, 131, 132, 133, 134, 135, 136, 137, 138, 139, 140, 141, 142, 143, 144, 145, 146, 147, 148, 149, 150, 151, 152, 153, 154, 155, 156, 157, 158, 159, 160, 161, 162, 163, 164, 165, 166, 167, 168, 169, 170, 171, 172, 173, 174] (by decide +kernel) (by decide +kernel)
set_option maxRecDepth 20000 in
theorem gX4_drops_X4_tellOne : GoodIn wsX4_drops (wsV RX4 43 RX4 yX4_tellOne wsX4_tellOne) := goodIn_app (goodIn_of _ (by decide +kernel)) ggX4_drops_X4_tellOne
theorem dX4_drops_0 : decode cX4_drops 0 = .ok (.aload_n 0, 1) := by decide +kernel
theorem dX4_drops_1 : decode cX4_drops 1 = .ok (.bipush 100, 2) := by decide +kernel
theorem dX4_drops_3 : decode cX4_drops 3 = .ok (.iload_n 1, 1) := by decide +kernel
theorem dX4_drops_4 : decode cX4_drops 4 = .ok (.iconst 0, 1) := by decide +kernel
theorem dX4_drops_5 : decode cX4_drops 5 = .ok (.invokevirtual 43, 3) := by decide +kernel
theorem dX4_drops_8 : decode cX4_drops 8 = .ok (.ireturn, 1) := by decide +kernel
set_option maxRecDepth 20000 in
theorem ggX4_extra_X4_tellOne : GoodIn wsX4_extra wsX4_tellOne := goodIn_r _ [5, 6, 7, 8, 9, 10, 11, 12, 13, 14, 15, 16, 17, 18, 19, 20, 21, 22, 23, 24, 25, 26, 27, 28, 29, 30, 31, 32, 33, 34, 4, 35, 36, 37, 38, 39, 40, 41, 42, 43, 44, 45, 46, 47, 48, 49, 50, 51, 52, 53, 54, 55, 56, 57, 58, 59, 60, 61, 62, 63, 64, 65, 66, 67, 68, 69, 70, 71, 72, 73, 74, 75, 76, 77, 78, 79, 80, 81, 82, 83, 84, 85, 86, 87, 88, 89, 90, 91, 92, 93, 94, 95, 96, 97, 98, 99, 100, 101, 102, 103, 104, 105, 106, 107, 108, 109, 110, 111, 112, 113, 114, 115, 116, 117, 118, 119, 120, 121, 122, 123, 124, 125, 126, 127, 128, 129, 130, 131, 132, 133, 134, 135, 136, 137, 138, 139, 140, 141, 142, 143, 144, 145, 146, 147, 148, 149, 150, 151, 152, 153, 154, 155, 156, 157, 158, 159, 160, 161, 162, 163, 164, 165, 166, 167, 168, 169, 170, 171, 172, 173, 174] (by decide +kernel) (by decide +kernel)
set_option maxRecDepth 20000 in
theorem gX4_extra_X4_tellOne : GoodIn wsX4_extra (wsV RX4 43 RX4 yX4_tellOne wsX4_tellOne) := goodIn_app (goodIn_of _ (by decide +kernel)) ggX4_extra_X4_tellOne
theorem dX4_extra_0 : decode cX4_extra 0 = .ok (.aload_n 0, 1) := by decide +kernel
theorem dX4_extra_1 : decode cX4_extra 1 = .ok (.bipush 101, 2) := by decide +kernel
theorem dX4_extra_3 : decode cX4_extra 3 = .ok (.iload_n 1, 1) := by decide +kernel
theorem dX4_extra_4 : decode cX4_extra 4 = .ok (.iconst 0, 1) := by decide +kernel
theorem dX4_extra_5 : decode cX4_extra 5 = .ok (.invokevirtual 43, 3) := by decide +kernel
theorem dX4_extra_8 : decode cX4_extra 8 = .ok (.ireturn, 1) := by decide +kernel
set_option maxRecDepth 20000 in
theorem ggX4_of_X4_isName : GoodIn wsX4_of wsX4_isName := goodIn_r _ [6] (by decide +kernel) (by decide +kernel)
set_option maxRecDepth 20000 in
theorem gX4_of_X4_isName : GoodIn wsX4_of (va_wsS RX4 51 yX4_isName wsX4_isName) := goodIn_app (goodIn_of _ (by decide +kernel)) ggX4_of_X4_isName
set_option maxRecDepth 20000 in
theorem ggX4_of_X4_refuse : GoodIn wsX4_of wsX4_refuse := goodIn_r _ [10, 11, 12, 13, 37, 38, 39, 40, 41, 42, 43] (by decide +kernel) (by decide +kernel)
set_option maxRecDepth 20000 in
theorem gX4_of_X4_refuse : GoodIn wsX4_of (wsV RX4 55 RX4 yX4_refuse wsX4_refuse) := goodIn_app (goodIn_of _ (by decide +kernel)) ggX4_of_X4_refuse
set_option maxRecDepth 20000 in
theorem ggX4_of_X3_findHost : GoodIn wsX4_of wsX3_findHost := goodIn_r _ [18, 19, 20, 52, 53, 54, 55, 56, 57, 58] (by decide +kernel) (by decide +kernel)
set_option maxRecDepth 20000 in
theorem gX4_of_X3_findHost : GoodIn wsX4_of (wsV RX4 62 RX3 yX3_findHost wsX3_findHost) := goodIn_app (goodIn_of _ (by decide +kernel)) ggX4_of_X3_findHost
set_option maxRecDepth 20000 in
theorem ggX4_of_X1_hostFact : GoodIn wsX4_of wsX1_hostFact := goodIn_r _ [25, 26, 27, 28, 29, 30, 31, 32, 24, 33, 34, 35, 36, 44, 45, 46, 47, 48, 49, 50, 51, 52, 53, 54, 55, 56, 57, 58] (by decide +kernel) (by decide +kernel)
set_option maxRecDepth 20000 in
theorem gX4_of_X1_hostFact : GoodIn wsX4_of (wsV RX4 67 RX1 yX1_hostFact wsX1_hostFact) := goodIn_app (goodIn_of _ (by decide +kernel)) ggX4_of_X1_hostFact
theorem dX4_of_0 : decode cX4_of 0 = .ok (.iload_n 1, 1) := by decide +kernel
theorem dX4_of_1 : decode cX4_of 1 = .ok (.invokestatic 51, 3) := by decide +kernel
theorem dX4_of_4 : decode cX4_of 4 = .ok (.ifCond .eq 13, 3) := by decide +kernel
theorem dX4_of_7 : decode cX4_of 7 = .ok (.iload_n 2, 1) := by decide +kernel
theorem dX4_of_8 : decode cX4_of 8 = .ok (.ifCond .lt 9, 3) := by decide +kernel
theorem dX4_of_11 : decode cX4_of 11 = .ok (.iload_n 2, 1) := by decide +kernel
theorem dX4_of_12 : decode cX4_of 12 = .ok (.bipush 43, 2) := by decide +kernel
theorem dX4_of_14 : decode cX4_of 14 = .ok (.if_icmp .lt 10, 3) := by decide +kernel
theorem dX4_of_17 : decode cX4_of 17 = .ok (.aload_n 0, 1) := by decide +kernel
theorem dX4_of_18 : decode cX4_of 18 = .ok (.bipush (-2), 2) := by decide +kernel
theorem dX4_of_20 : decode cX4_of 20 = .ok (.invokevirtual 55, 3) := by decide +kernel
theorem dX4_of_23 : decode cX4_of 23 = .ok (.ireturn, 1) := by decide +kernel
theorem dX4_of_24 : decode cX4_of 24 = .ok (.aload_n 0, 1) := by decide +kernel
theorem dX4_of_25 : decode cX4_of 25 = .ok (.getfield 12, 3) := by decide +kernel
theorem dX4_of_28 : decode cX4_of 28 = .ok (.getfield 58, 3) := by decide +kernel
theorem dX4_of_31 : decode cX4_of 31 = .ok (.iload_n 1, 1) := by decide +kernel
theorem dX4_of_32 : decode cX4_of 32 = .ok (.invokevirtual 62, 3) := by decide +kernel
theorem dX4_of_35 : decode cX4_of 35 = .ok (.istore_n 3, 1) := by decide +kernel
theorem dX4_of_36 : decode cX4_of 36 = .ok (.iload_n 3, 1) := by decide +kernel
theorem dX4_of_37 : decode cX4_of 37 = .ok (.ifCond .ge 12, 3) := by decide +kernel
theorem dX4_of_40 : decode cX4_of 40 = .ok (.aload_n 0, 1) := by decide +kernel
theorem dX4_of_41 : decode cX4_of 41 = .ok (.bipush (-3), 2) := by decide +kernel
theorem dX4_of_43 : decode cX4_of 43 = .ok (.invokevirtual 55, 3) := by decide +kernel
theorem dX4_of_46 : decode cX4_of 46 = .ok (.goto 12, 3) := by decide +kernel
theorem dX4_of_49 : decode cX4_of 49 = .ok (.aload_n 0, 1) := by decide +kernel
theorem dX4_of_50 : decode cX4_of 50 = .ok (.getfield 12, 3) := by decide +kernel
theorem dX4_of_53 : decode cX4_of 53 = .ok (.iload_n 3, 1) := by decide +kernel
theorem dX4_of_54 : decode cX4_of 54 = .ok (.iload_n 2, 1) := by decide +kernel
theorem dX4_of_55 : decode cX4_of 55 = .ok (.invokevirtual 67, 3) := by decide +kernel
theorem dX4_of_58 : decode cX4_of 58 = .ok (.ireturn, 1) := by decide +kernel
set_option maxRecDepth 20000 in
theorem ggX4_mark_X4_isName : GoodIn wsX4_mark wsX4_isName := goodIn_r _ [6] (by decide +kernel) (by decide +kernel)
set_option maxRecDepth 20000 in
theorem gX4_mark_X4_isName : GoodIn wsX4_mark (va_wsS RX4 51 yX4_isName wsX4_isName) := goodIn_app (goodIn_of _ (by decide +kernel)) ggX4_mark_X4_isName
set_option maxRecDepth 20000 in
theorem ggX4_mark_X4_refuse : GoodIn wsX4_mark wsX4_refuse := goodIn_r _ [10, 11, 12, 13, 29, 30, 31, 32, 33, 34, 35] (by decide +kernel) (by decide +kernel)
set_option maxRecDepth 20000 in
theorem gX4_mark_X4_refuse : GoodIn wsX4_mark (wsV RX4 55 RX4 yX4_refuse wsX4_refuse) := goodIn_app (goodIn_of _ (by decide +kernel)) ggX4_mark_X4_refuse
set_option maxRecDepth 20000 in
theorem ggX4_mark_X3_findHost : GoodIn wsX4_mark wsX3_findHost := goodIn_r _ [18, 19, 20, 44, 45, 46, 47, 48, 49, 50] (by decide +kernel) (by decide +kernel)
set_option maxRecDepth 20000 in
theorem gX4_mark_X3_findHost : GoodIn wsX4_mark (wsV RX4 62 RX3 yX3_findHost wsX3_findHost) := goodIn_app (goodIn_of _ (by decide +kernel)) ggX4_mark_X3_findHost
set_option maxRecDepth 20000 in
theorem ggX4_mark_X1_placeOfMark : GoodIn wsX4_mark wsX1_placeOfMark := goodIn_r _ [25, 26, 27, 28, 36, 37, 38, 39, 40, 41, 42, 43, 44, 45, 46, 47, 48, 49, 50] (by decide +kernel) (by decide +kernel)
set_option maxRecDepth 20000 in
theorem gX4_mark_X1_placeOfMark : GoodIn wsX4_mark (wsV RX4 71 RX1 yX1_placeOfMark wsX1_placeOfMark) := goodIn_app (goodIn_of _ (by decide +kernel)) ggX4_mark_X1_placeOfMark
theorem dX4_mark_0 : decode cX4_mark 0 = .ok (.iload_n 1, 1) := by decide +kernel
theorem dX4_mark_1 : decode cX4_mark 1 = .ok (.invokestatic 51, 3) := by decide +kernel
theorem dX4_mark_4 : decode cX4_mark 4 = .ok (.ifCond .eq 13, 3) := by decide +kernel
theorem dX4_mark_7 : decode cX4_mark 7 = .ok (.iload_n 2, 1) := by decide +kernel
theorem dX4_mark_8 : decode cX4_mark 8 = .ok (.ifCond .lt 9, 3) := by decide +kernel
theorem dX4_mark_11 : decode cX4_mark 11 = .ok (.iload_n 2, 1) := by decide +kernel
theorem dX4_mark_12 : decode cX4_mark 12 = .ok (.bipush 8, 2) := by decide +kernel
theorem dX4_mark_14 : decode cX4_mark 14 = .ok (.if_icmp .lt 10, 3) := by decide +kernel
theorem dX4_mark_17 : decode cX4_mark 17 = .ok (.aload_n 0, 1) := by decide +kernel
theorem dX4_mark_18 : decode cX4_mark 18 = .ok (.bipush (-2), 2) := by decide +kernel
theorem dX4_mark_20 : decode cX4_mark 20 = .ok (.invokevirtual 55, 3) := by decide +kernel
theorem dX4_mark_23 : decode cX4_mark 23 = .ok (.ireturn, 1) := by decide +kernel
theorem dX4_mark_24 : decode cX4_mark 24 = .ok (.aload_n 0, 1) := by decide +kernel
theorem dX4_mark_25 : decode cX4_mark 25 = .ok (.getfield 12, 3) := by decide +kernel
theorem dX4_mark_28 : decode cX4_mark 28 = .ok (.getfield 58, 3) := by decide +kernel
theorem dX4_mark_31 : decode cX4_mark 31 = .ok (.iload_n 1, 1) := by decide +kernel
theorem dX4_mark_32 : decode cX4_mark 32 = .ok (.invokevirtual 62, 3) := by decide +kernel
theorem dX4_mark_35 : decode cX4_mark 35 = .ok (.istore_n 3, 1) := by decide +kernel
theorem dX4_mark_36 : decode cX4_mark 36 = .ok (.iload_n 3, 1) := by decide +kernel
theorem dX4_mark_37 : decode cX4_mark 37 = .ok (.ifCond .ge 12, 3) := by decide +kernel
theorem dX4_mark_40 : decode cX4_mark 40 = .ok (.aload_n 0, 1) := by decide +kernel
theorem dX4_mark_41 : decode cX4_mark 41 = .ok (.bipush (-3), 2) := by decide +kernel
theorem dX4_mark_43 : decode cX4_mark 43 = .ok (.invokevirtual 55, 3) := by decide +kernel
theorem dX4_mark_46 : decode cX4_mark 46 = .ok (.goto 12, 3) := by decide +kernel
theorem dX4_mark_49 : decode cX4_mark 49 = .ok (.aload_n 0, 1) := by decide +kernel
theorem dX4_mark_50 : decode cX4_mark 50 = .ok (.getfield 12, 3) := by decide +kernel
theorem dX4_mark_53 : decode cX4_mark 53 = .ok (.iload_n 3, 1) := by decide +kernel
theorem dX4_mark_54 : decode cX4_mark 54 = .ok (.iload_n 2, 1) := by decide +kernel
theorem dX4_mark_55 : decode cX4_mark 55 = .ok (.invokevirtual 71, 3) := by decide +kernel
theorem dX4_mark_58 : decode cX4_mark 58 = .ok (.ireturn, 1) := by decide +kernel
set_option maxRecDepth 20000 in
theorem ggX4_at_X4_refuse : GoodIn wsX4_at wsX4_refuse := goodIn_r _ [8, 9, 10, 11, 19, 20, 21, 22, 23, 24, 25] (by decide +kernel) (by decide +kernel)
set_option maxRecDepth 20000 in
theorem gX4_at_X4_refuse : GoodIn wsX4_at (wsV RX4 55 RX4 yX4_refuse wsX4_refuse) := goodIn_app (goodIn_of _ (by decide +kernel)) ggX4_at_X4_refuse
set_option maxRecDepth 20000 in
theorem ggX4_at_X3_nameOf : GoodIn wsX4_at wsX3_nameOf := goodIn_r _ [16, 17, 18, 34, 35, 36, 37, 38, 39, 40] (by decide +kernel) (by decide +kernel)
set_option maxRecDepth 20000 in
theorem gX4_at_X3_nameOf : GoodIn wsX4_at (wsV RX4 78 RX3 yX3_nameOf wsX3_nameOf) := goodIn_app (goodIn_of _ (by decide +kernel)) ggX4_at_X3_nameOf
theorem dX4_at_0 : decode cX4_at 0 = .ok (.iload_n 1, 1) := by decide +kernel
theorem dX4_at_1 : decode cX4_at 1 = .ok (.ifCond .lt 9, 3) := by decide +kernel
theorem dX4_at_4 : decode cX4_at 4 = .ok (.iload_n 1, 1) := by decide +kernel
theorem dX4_at_5 : decode cX4_at 5 = .ok (.bipush 101, 2) := by decide +kernel
theorem dX4_at_7 : decode cX4_at 7 = .ok (.if_icmp .lt 10, 3) := by decide +kernel
theorem dX4_at_10 : decode cX4_at 10 = .ok (.aload_n 0, 1) := by decide +kernel
theorem dX4_at_11 : decode cX4_at 11 = .ok (.bipush (-2), 2) := by decide +kernel
theorem dX4_at_13 : decode cX4_at 13 = .ok (.invokevirtual 55, 3) := by decide +kernel
theorem dX4_at_16 : decode cX4_at 16 = .ok (.ireturn, 1) := by decide +kernel
theorem dX4_at_17 : decode cX4_at 17 = .ok (.aload_n 0, 1) := by decide +kernel
theorem dX4_at_18 : decode cX4_at 18 = .ok (.getfield 12, 3) := by decide +kernel
theorem dX4_at_21 : decode cX4_at 21 = .ok (.getfield 58, 3) := by decide +kernel
theorem dX4_at_24 : decode cX4_at 24 = .ok (.aload_n 0, 1) := by decide +kernel
theorem dX4_at_25 : decode cX4_at 25 = .ok (.getfield 12, 3) := by decide +kernel
theorem dX4_at_28 : decode cX4_at 28 = .ok (.getfield 74, 3) := by decide +kernel
theorem dX4_at_31 : decode cX4_at 31 = .ok (.iload_n 1, 1) := by decide +kernel
theorem dX4_at_32 : decode cX4_at 32 = .ok (.iaload, 1) := by decide +kernel
theorem dX4_at_33 : decode cX4_at 33 = .ok (.invokevirtual 78, 3) := by decide +kernel
theorem dX4_at_36 : decode cX4_at 36 = .ok (.ireturn, 1) := by decide +kernel
set_option maxRecDepth 20000 in
theorem ggX4_name_X4_refuse : GoodIn wsX4_name wsX4_refuse := goodIn_r _ [7, 8, 9, 10, 18, 19, 20, 21, 22, 23, 24] (by decide +kernel) (by decide +kernel)
set_option maxRecDepth 20000 in
theorem gX4_name_X4_refuse : GoodIn wsX4_name (wsV RX4 55 RX4 yX4_refuse wsX4_refuse) := goodIn_app (goodIn_of _ (by decide +kernel)) ggX4_name_X4_refuse
set_option maxRecDepth 20000 in
theorem ggX4_name_X3_nameOf : GoodIn wsX4_name wsX3_nameOf := goodIn_r _ [15, 16, 17, 33, 34, 35, 36, 37, 38, 39] (by decide +kernel) (by decide +kernel)
set_option maxRecDepth 20000 in
theorem gX4_name_X3_nameOf : GoodIn wsX4_name (wsV RX4 78 RX3 yX3_nameOf wsX3_nameOf) := goodIn_app (goodIn_of _ (by decide +kernel)) ggX4_name_X3_nameOf
theorem dX4_name_0 : decode cX4_name 0 = .ok (.iload_n 1, 1) := by decide +kernel
theorem dX4_name_1 : decode cX4_name 1 = .ok (.ifCond .ge 12, 3) := by decide +kernel
theorem dX4_name_4 : decode cX4_name 4 = .ok (.aload_n 0, 1) := by decide +kernel
theorem dX4_name_5 : decode cX4_name 5 = .ok (.bipush (-2), 2) := by decide +kernel
theorem dX4_name_7 : decode cX4_name 7 = .ok (.invokevirtual 55, 3) := by decide +kernel
theorem dX4_name_10 : decode cX4_name 10 = .ok (.goto 14, 3) := by decide +kernel
theorem dX4_name_13 : decode cX4_name 13 = .ok (.aload_n 0, 1) := by decide +kernel
theorem dX4_name_14 : decode cX4_name 14 = .ok (.getfield 12, 3) := by decide +kernel
theorem dX4_name_17 : decode cX4_name 17 = .ok (.getfield 58, 3) := by decide +kernel
theorem dX4_name_20 : decode cX4_name 20 = .ok (.iload_n 1, 1) := by decide +kernel
theorem dX4_name_21 : decode cX4_name 21 = .ok (.invokevirtual 78, 3) := by decide +kernel
theorem dX4_name_24 : decode cX4_name 24 = .ok (.ireturn, 1) := by decide +kernel
set_option maxRecDepth 20000 in
theorem ggX4_share_X4_isName : GoodIn wsX4_share wsX4_isName := goodIn_r _ [6] (by decide +kernel) (by decide +kernel)
set_option maxRecDepth 20000 in
theorem gX4_share_X4_isName : GoodIn wsX4_share (va_wsS RX4 51 yX4_isName wsX4_isName) := goodIn_app (goodIn_of _ (by decide +kernel)) ggX4_share_X4_isName
set_option maxRecDepth 20000 in
theorem ggX4_share_X4_refuse : GoodIn wsX4_share wsX4_refuse := goodIn_r _ [10, 11, 12, 13, 31, 32, 33, 34, 35, 36, 37] (by decide +kernel) (by decide +kernel)
set_option maxRecDepth 20000 in
theorem gX4_share_X4_refuse : GoodIn wsX4_share (wsV RX4 55 RX4 yX4_refuse wsX4_refuse) := goodIn_app (goodIn_of _ (by decide +kernel)) ggX4_share_X4_refuse
set_option maxRecDepth 20000 in
theorem ggX4_share_X3_findHost : GoodIn wsX4_share wsX3_findHost := goodIn_r _ [18, 19, 20, 46, 47, 48, 49, 50, 51, 52] (by decide +kernel) (by decide +kernel)
set_option maxRecDepth 20000 in
theorem gX4_share_X3_findHost : GoodIn wsX4_share (wsV RX4 62 RX3 yX3_findHost wsX3_findHost) := goodIn_app (goodIn_of _ (by decide +kernel)) ggX4_share_X3_findHost
set_option maxRecDepth 20000 in
theorem ggX4_share_X1_placesLeadingTo : GoodIn wsX4_share wsX1_placesLeadingTo := goodIn_r _ [25, 26, 27, 28, 29, 24, 30, 38, 39, 40, 41, 42, 43, 44, 45] (by decide +kernel) (by decide +kernel)
set_option maxRecDepth 20000 in
theorem gX4_share_X1_placesLeadingTo : GoodIn wsX4_share (wsV RX4 81 RX1 yX1_placesLeadingTo wsX1_placesLeadingTo) := goodIn_app (goodIn_of _ (by decide +kernel)) ggX4_share_X1_placesLeadingTo
theorem dX4_share_0 : decode cX4_share 0 = .ok (.iload_n 1, 1) := by decide +kernel
theorem dX4_share_1 : decode cX4_share 1 = .ok (.invokestatic 51, 3) := by decide +kernel
theorem dX4_share_4 : decode cX4_share 4 = .ok (.ifCond .ne 10, 3) := by decide +kernel
theorem dX4_share_7 : decode cX4_share 7 = .ok (.aload_n 0, 1) := by decide +kernel
theorem dX4_share_8 : decode cX4_share 8 = .ok (.bipush (-2), 2) := by decide +kernel
theorem dX4_share_10 : decode cX4_share 10 = .ok (.invokevirtual 55, 3) := by decide +kernel
theorem dX4_share_13 : decode cX4_share 13 = .ok (.ireturn, 1) := by decide +kernel
theorem dX4_share_14 : decode cX4_share 14 = .ok (.aload_n 0, 1) := by decide +kernel
theorem dX4_share_15 : decode cX4_share 15 = .ok (.getfield 12, 3) := by decide +kernel
theorem dX4_share_18 : decode cX4_share 18 = .ok (.getfield 58, 3) := by decide +kernel
theorem dX4_share_21 : decode cX4_share 21 = .ok (.iload_n 1, 1) := by decide +kernel
theorem dX4_share_22 : decode cX4_share 22 = .ok (.invokevirtual 62, 3) := by decide +kernel
theorem dX4_share_25 : decode cX4_share 25 = .ok (.istore_n 2, 1) := by decide +kernel
theorem dX4_share_26 : decode cX4_share 26 = .ok (.iload_n 2, 1) := by decide +kernel
theorem dX4_share_27 : decode cX4_share 27 = .ok (.ifCond .ge 12, 3) := by decide +kernel
theorem dX4_share_30 : decode cX4_share 30 = .ok (.aload_n 0, 1) := by decide +kernel
theorem dX4_share_31 : decode cX4_share 31 = .ok (.bipush (-3), 2) := by decide +kernel
theorem dX4_share_33 : decode cX4_share 33 = .ok (.invokevirtual 55, 3) := by decide +kernel
theorem dX4_share_36 : decode cX4_share 36 = .ok (.goto 11, 3) := by decide +kernel
theorem dX4_share_39 : decode cX4_share 39 = .ok (.aload_n 0, 1) := by decide +kernel
theorem dX4_share_40 : decode cX4_share 40 = .ok (.getfield 12, 3) := by decide +kernel
theorem dX4_share_43 : decode cX4_share 43 = .ok (.iload_n 2, 1) := by decide +kernel
theorem dX4_share_44 : decode cX4_share 44 = .ok (.invokevirtual 81, 3) := by decide +kernel
theorem dX4_share_47 : decode cX4_share 47 = .ok (.ireturn, 1) := by decide +kernel
set_option maxRecDepth 20000 in
theorem ggX4_has_X4_isKey : GoodIn wsX4_has wsX4_isKey := goodIn_r _ [7] (by decide +kernel) (by decide +kernel)
set_option maxRecDepth 20000 in
theorem gX4_has_X4_isKey : GoodIn wsX4_has (va_wsS RX4 84 yX4_isKey wsX4_isKey) := goodIn_app (goodIn_of _ (by decide +kernel)) ggX4_has_X4_isKey
set_option maxRecDepth 20000 in
theorem ggX4_has_X4_refuse : GoodIn wsX4_has wsX4_refuse := goodIn_r _ [11, 12, 13, 14, 28, 29, 30, 31, 32, 33, 34] (by decide +kernel) (by decide +kernel)
set_option maxRecDepth 20000 in
theorem gX4_has_X4_refuse : GoodIn wsX4_has (wsV RX4 55 RX4 yX4_refuse wsX4_refuse) := goodIn_app (goodIn_of _ (by decide +kernel)) ggX4_has_X4_refuse
set_option maxRecDepth 20000 in
theorem ggX4_has_X3_findKey : GoodIn wsX4_has wsX3_findKey := goodIn_r _ [19, 20, 21, 43, 44, 45, 46, 47, 48, 49] (by decide +kernel) (by decide +kernel)
set_option maxRecDepth 20000 in
theorem gX4_has_X3_findKey : GoodIn wsX4_has (wsV RX4 87 RX3 yX3_findKey wsX3_findKey) := goodIn_app (goodIn_of _ (by decide +kernel)) ggX4_has_X3_findKey
set_option maxRecDepth 20000 in
theorem ggX4_has_X3_nameOf : GoodIn wsX4_has wsX3_nameOf := goodIn_r _ [25, 26, 27, 43, 44, 45, 46, 47, 48, 49] (by decide +kernel) (by decide +kernel)
set_option maxRecDepth 20000 in
theorem gX4_has_X3_nameOf : GoodIn wsX4_has (wsV RX4 78 RX3 yX3_nameOf wsX3_nameOf) := goodIn_app (goodIn_of _ (by decide +kernel)) ggX4_has_X3_nameOf
theorem dX4_has_0 : decode cX4_has 0 = .ok (.iload_n 1, 1) := by decide +kernel
theorem dX4_has_1 : decode cX4_has 1 = .ok (.invokestatic 84, 3) := by decide +kernel
theorem dX4_has_4 : decode cX4_has 4 = .ok (.ifCond .ne 10, 3) := by decide +kernel
theorem dX4_has_7 : decode cX4_has 7 = .ok (.aload_n 0, 1) := by decide +kernel
theorem dX4_has_8 : decode cX4_has 8 = .ok (.bipush (-2), 2) := by decide +kernel
theorem dX4_has_10 : decode cX4_has 10 = .ok (.invokevirtual 55, 3) := by decide +kernel
theorem dX4_has_13 : decode cX4_has 13 = .ok (.ireturn, 1) := by decide +kernel
theorem dX4_has_14 : decode cX4_has 14 = .ok (.aload_n 0, 1) := by decide +kernel
theorem dX4_has_15 : decode cX4_has 15 = .ok (.getfield 12, 3) := by decide +kernel
theorem dX4_has_18 : decode cX4_has 18 = .ok (.getfield 58, 3) := by decide +kernel
theorem dX4_has_21 : decode cX4_has 21 = .ok (.iload_n 1, 1) := by decide +kernel
theorem dX4_has_22 : decode cX4_has 22 = .ok (.invokevirtual 87, 3) := by decide +kernel
theorem dX4_has_25 : decode cX4_has 25 = .ok (.istore_n 2, 1) := by decide +kernel
theorem dX4_has_26 : decode cX4_has 26 = .ok (.iload_n 2, 1) := by decide +kernel
theorem dX4_has_27 : decode cX4_has 27 = .ok (.ifCond .ge 12, 3) := by decide +kernel
theorem dX4_has_30 : decode cX4_has 30 = .ok (.aload_n 0, 1) := by decide +kernel
theorem dX4_has_31 : decode cX4_has 31 = .ok (.bipush (-3), 2) := by decide +kernel
theorem dX4_has_33 : decode cX4_has 33 = .ok (.invokevirtual 55, 3) := by decide +kernel
theorem dX4_has_36 : decode cX4_has 36 = .ok (.goto 22, 3) := by decide +kernel
theorem dX4_has_39 : decode cX4_has 39 = .ok (.aload_n 0, 1) := by decide +kernel
theorem dX4_has_40 : decode cX4_has 40 = .ok (.getfield 12, 3) := by decide +kernel
theorem dX4_has_43 : decode cX4_has 43 = .ok (.getfield 58, 3) := by decide +kernel
theorem dX4_has_46 : decode cX4_has 46 = .ok (.aload_n 0, 1) := by decide +kernel
theorem dX4_has_47 : decode cX4_has 47 = .ok (.getfield 12, 3) := by decide +kernel
theorem dX4_has_50 : decode cX4_has 50 = .ok (.getfield 90, 3) := by decide +kernel
theorem dX4_has_53 : decode cX4_has 53 = .ok (.iload_n 2, 1) := by decide +kernel
theorem dX4_has_54 : decode cX4_has 54 = .ok (.iaload, 1) := by decide +kernel
theorem dX4_has_55 : decode cX4_has 55 = .ok (.invokevirtual 78, 3) := by decide +kernel
theorem dX4_has_58 : decode cX4_has 58 = .ok (.ireturn, 1) := by decide +kernel
set_option maxRecDepth 20000 in
theorem ggX4_about_X4_isKey : GoodIn wsX4_about wsX4_isKey := goodIn_r _ [6] (by decide +kernel) (by decide +kernel)
set_option maxRecDepth 20000 in
theorem gX4_about_X4_isKey : GoodIn wsX4_about (va_wsS RX4 84 yX4_isKey wsX4_isKey) := goodIn_app (goodIn_of _ (by decide +kernel)) ggX4_about_X4_isKey
set_option maxRecDepth 20000 in
theorem ggX4_about_X4_refuse : GoodIn wsX4_about wsX4_refuse := goodIn_r _ [10, 11, 12, 13, 34, 35, 36, 37, 38, 39, 40] (by decide +kernel) (by decide +kernel)
set_option maxRecDepth 20000 in
theorem gX4_about_X4_refuse : GoodIn wsX4_about (wsV RX4 55 RX4 yX4_refuse wsX4_refuse) := goodIn_app (goodIn_of _ (by decide +kernel)) ggX4_about_X4_refuse
set_option maxRecDepth 20000 in
theorem ggX4_about_X3_findKey : GoodIn wsX4_about wsX3_findKey := goodIn_r _ [18, 19, 20, 49, 50, 51, 52, 53, 54, 55] (by decide +kernel) (by decide +kernel)
set_option maxRecDepth 20000 in
theorem gX4_about_X3_findKey : GoodIn wsX4_about (wsV RX4 87 RX3 yX3_findKey wsX3_findKey) := goodIn_app (goodIn_of _ (by decide +kernel)) ggX4_about_X3_findKey
set_option maxRecDepth 20000 in
theorem ggX4_about_X1_keyFact : GoodIn wsX4_about wsX1_keyFact := goodIn_r _ [25, 26, 27, 28, 29, 30, 24, 31, 32, 33, 41, 42, 43, 44, 45, 46, 47, 48, 49, 50, 51, 52, 53, 54, 55] (by decide +kernel) (by decide +kernel)
set_option maxRecDepth 20000 in
theorem gX4_about_X1_keyFact : GoodIn wsX4_about (wsV RX4 93 RX1 yX1_keyFact wsX1_keyFact) := goodIn_app (goodIn_of _ (by decide +kernel)) ggX4_about_X1_keyFact
theorem dX4_about_0 : decode cX4_about 0 = .ok (.iload_n 1, 1) := by decide +kernel
theorem dX4_about_1 : decode cX4_about 1 = .ok (.invokestatic 84, 3) := by decide +kernel
theorem dX4_about_4 : decode cX4_about 4 = .ok (.ifCond .eq 12, 3) := by decide +kernel
theorem dX4_about_7 : decode cX4_about 7 = .ok (.iload_n 2, 1) := by decide +kernel
theorem dX4_about_8 : decode cX4_about 8 = .ok (.ifCond .lt 8, 3) := by decide +kernel
theorem dX4_about_11 : decode cX4_about 11 = .ok (.iload_n 2, 1) := by decide +kernel
theorem dX4_about_12 : decode cX4_about 12 = .ok (.iconst 3, 1) := by decide +kernel
theorem dX4_about_13 : decode cX4_about 13 = .ok (.if_icmp .lt 10, 3) := by decide +kernel
theorem dX4_about_16 : decode cX4_about 16 = .ok (.aload_n 0, 1) := by decide +kernel
theorem dX4_about_17 : decode cX4_about 17 = .ok (.bipush (-2), 2) := by decide +kernel
theorem dX4_about_19 : decode cX4_about 19 = .ok (.invokevirtual 55, 3) := by decide +kernel
theorem dX4_about_22 : decode cX4_about 22 = .ok (.ireturn, 1) := by decide +kernel
theorem dX4_about_23 : decode cX4_about 23 = .ok (.aload_n 0, 1) := by decide +kernel
theorem dX4_about_24 : decode cX4_about 24 = .ok (.getfield 12, 3) := by decide +kernel
theorem dX4_about_27 : decode cX4_about 27 = .ok (.getfield 58, 3) := by decide +kernel
theorem dX4_about_30 : decode cX4_about 30 = .ok (.iload_n 1, 1) := by decide +kernel
theorem dX4_about_31 : decode cX4_about 31 = .ok (.invokevirtual 87, 3) := by decide +kernel
theorem dX4_about_34 : decode cX4_about 34 = .ok (.istore_n 3, 1) := by decide +kernel
theorem dX4_about_35 : decode cX4_about 35 = .ok (.iload_n 3, 1) := by decide +kernel
theorem dX4_about_36 : decode cX4_about 36 = .ok (.ifCond .ge 12, 3) := by decide +kernel
theorem dX4_about_39 : decode cX4_about 39 = .ok (.aload_n 0, 1) := by decide +kernel
theorem dX4_about_40 : decode cX4_about 40 = .ok (.bipush (-3), 2) := by decide +kernel
theorem dX4_about_42 : decode cX4_about 42 = .ok (.invokevirtual 55, 3) := by decide +kernel
theorem dX4_about_45 : decode cX4_about 45 = .ok (.goto 12, 3) := by decide +kernel
theorem dX4_about_48 : decode cX4_about 48 = .ok (.aload_n 0, 1) := by decide +kernel
theorem dX4_about_49 : decode cX4_about 49 = .ok (.getfield 12, 3) := by decide +kernel
theorem dX4_about_52 : decode cX4_about 52 = .ok (.iload_n 3, 1) := by decide +kernel
theorem dX4_about_53 : decode cX4_about 53 = .ok (.iload_n 2, 1) := by decide +kernel
theorem dX4_about_54 : decode cX4_about 54 = .ok (.invokevirtual 93, 3) := by decide +kernel
theorem dX4_about_57 : decode cX4_about 57 = .ok (.ireturn, 1) := by decide +kernel
set_option maxRecDepth 20000 in
theorem ggX4_would_X4_tryOne : GoodIn wsX4_would wsX4_tryOne := goodIn_r _ [6, 1, 7, 8, 9, 10, 11, 12, 13, 14, 15, 16, 17, 18, 19, 20, 21, 22, 23, 24, 25, 26, 27, 28, 29, 30, 31, 32, 33, 5, 34, 35, 36, 37, 38, 39, 40, 41, 42, 43, 44, 45, 46, 47, 48, 49, 50, 51, 52, 53, 54, 55, 56, 57, 58, 59, 60, 61, 62, 63, 64, 65, 66, 67, 68, 69, 70, 71, 72, 73, 74, 75, 76, 77, 78, 79, 80, 81, 82, 83, 84, 85, 86, 87, 88, 89, 90, 91, 92, 93, 94, 95, 96, 97, 98, 99, 100, 101, 102, 103, 104, 105, 106, 107, 108, 109, 110, 111, 112, 129, 130, 131, 132, 133, 134, 135, 136, 137, 138, 139, 140, 141, 142, 143, 144, 145, 146, 147, 148, 149, 150] (by decide +kernel) (by decide +kernel)
set_option maxRecDepth 20000 in
theorem gX4_would_X4_tryOne : GoodIn wsX4_would (wsV RX4 96 RX4 yX4_tryOne wsX4_tryOne) := goodIn_app (goodIn_of _ (by decide +kernel)) ggX4_would_X4_tryOne
set_option maxRecDepth 20000 in
theorem ggX4_would_X1_hostNameOfKey : GoodIn wsX4_would wsX1_hostNameOfKey := goodIn_r _ [116, 72, 105, 117, 56, 57, 12, 58, 22, 20, 118, 119, 120, 121, 21, 14, 136, 137, 138, 139, 140, 141, 142, 143, 144, 145, 146, 147, 148, 149, 150] (by decide +kernel) (by decide +kernel)
set_option maxRecDepth 20000 in
theorem gX4_would_X1_hostNameOfKey : GoodIn wsX4_would (wsV RX4 47 RX1 yX1_hostNameOfKey wsX1_hostNameOfKey) := goodIn_app (goodIn_of _ (by decide +kernel)) ggX4_would_X1_hostNameOfKey
set_option maxRecDepth 20000 in
theorem ggX4_would_X4_refuse : GoodIn wsX4_would wsX4_refuse := goodIn_r _ [125, 126, 127, 128, 129, 130, 131, 132, 133, 134, 135] (by decide +kernel) (by decide +kernel)
set_option maxRecDepth 20000 in
theorem gX4_would_X4_refuse : GoodIn wsX4_would (wsV RX4 55 RX4 yX4_refuse wsX4_refuse) := goodIn_app (goodIn_of _ (by decide +kernel)) ggX4_would_X4_refuse
theorem dX4_would_0 : decode cX4_would 0 = .ok (.aload_n 0, 1) := by decide +kernel
theorem dX4_would_1 : decode cX4_would 1 = .ok (.bipush 107, 2) := by decide +kernel
theorem dX4_would_3 : decode cX4_would 3 = .ok (.iload_n 1, 1) := by decide +kernel
theorem dX4_would_4 : decode cX4_would 4 = .ok (.invokevirtual 96, 3) := by decide +kernel
theorem dX4_would_7 : decode cX4_would 7 = .ok (.istore_n 2, 1) := by decide +kernel
theorem dX4_would_8 : decode cX4_would 8 = .ok (.iload_n 2, 1) := by decide +kernel
theorem dX4_would_9 : decode cX4_would 9 = .ok (.ifCond .ne 14, 3) := by decide +kernel
theorem dX4_would_12 : decode cX4_would 12 = .ok (.aload_n 0, 1) := by decide +kernel
theorem dX4_would_13 : decode cX4_would 13 = .ok (.getfield 16, 3) := by decide +kernel
theorem dX4_would_16 : decode cX4_would 16 = .ok (.iload_n 1, 1) := by decide +kernel
theorem dX4_would_17 : decode cX4_would 17 = .ok (.invokevirtual 47, 3) := by decide +kernel
theorem dX4_would_20 : decode cX4_would 20 = .ok (.goto 8, 3) := by decide +kernel
theorem dX4_would_23 : decode cX4_would 23 = .ok (.aload_n 0, 1) := by decide +kernel
theorem dX4_would_24 : decode cX4_would 24 = .ok (.iload_n 2, 1) := by decide +kernel
theorem dX4_would_25 : decode cX4_would 25 = .ok (.invokevirtual 55, 3) := by decide +kernel
theorem dX4_would_28 : decode cX4_would 28 = .ok (.ireturn, 1) := by decide +kernel
set_option maxRecDepth 20000 in
theorem ggX4_without_X4_tryOne : GoodIn wsX4_without wsX4_tryOne := goodIn_r _ [7, 1, 8, 2, 9, 10, 11, 12, 13, 14, 15, 16, 17, 18, 19, 20, 21, 22, 23, 24, 25, 26, 27, 28, 29, 30, 31, 32, 33, 6, 34, 35, 36, 37, 38, 39, 40, 41, 42, 43, 44, 45, 46, 47, 48, 49, 50, 51, 52, 53, 54, 55, 56, 57, 58, 59, 60, 61, 62, 63, 64, 65, 66, 67, 68, 69, 70, 71, 72, 73, 74, 75, 76, 77, 78, 79, 80, 81, 82, 83, 84, 85, 86, 87, 88, 89, 90, 91, 92, 93, 94, 95, 96, 97, 98, 99, 100, 101, 102, 103, 104, 105, 106, 107, 108, 109, 110, 111, 112, 133, 134, 135, 136, 137, 138, 139, 140, 141, 142, 143, 144, 145, 146, 147, 148, 149, 150, 151, 152, 153, 154] (by decide +kernel) (by decide +kernel)
set_option maxRecDepth 20000 in
theorem gX4_without_X4_tryOne : GoodIn wsX4_without (wsV RX4 96 RX4 yX4_tryOne wsX4_tryOne) := goodIn_app (goodIn_of _ (by decide +kernel)) ggX4_without_X4_tryOne
set_option maxRecDepth 20000 in
theorem ggX4_without_X1_movedSince : GoodIn wsX4_without wsX1_movedSince := goodIn_r _ [116, 72, 73, 112, 105, 117, 118, 119, 12, 120, 21, 14, 121, 56, 57, 58, 22, 20, 122, 123, 124, 70, 125, 140, 141, 142, 143, 144, 145, 146, 147, 148, 149, 150, 151, 152, 153, 154] (by decide +kernel) (by decide +kernel)
set_option maxRecDepth 20000 in
theorem gX4_without_X1_movedSince : GoodIn wsX4_without (wsV RX4 99 RX1 yX1_movedSince wsX1_movedSince) := goodIn_app (goodIn_of _ (by decide +kernel)) ggX4_without_X1_movedSince
set_option maxRecDepth 20000 in
theorem ggX4_without_X4_refuse : GoodIn wsX4_without wsX4_refuse := goodIn_r _ [129, 130, 131, 132, 133, 134, 135, 136, 137, 138, 139] (by decide +kernel) (by decide +kernel)
set_option maxRecDepth 20000 in
theorem gX4_without_X4_refuse : GoodIn wsX4_without (wsV RX4 55 RX4 yX4_refuse wsX4_refuse) := goodIn_app (goodIn_of _ (by decide +kernel)) ggX4_without_X4_refuse
theorem dX4_without_0 : decode cX4_without 0 = .ok (.aload_n 0, 1) := by decide +kernel
theorem dX4_without_1 : decode cX4_without 1 = .ok (.bipush 103, 2) := by decide +kernel
theorem dX4_without_3 : decode cX4_without 3 = .ok (.iload_n 1, 1) := by decide +kernel
theorem dX4_without_4 : decode cX4_without 4 = .ok (.invokevirtual 96, 3) := by decide +kernel
theorem dX4_without_7 : decode cX4_without 7 = .ok (.istore_n 2, 1) := by decide +kernel
theorem dX4_without_8 : decode cX4_without 8 = .ok (.iload_n 2, 1) := by decide +kernel
theorem dX4_without_9 : decode cX4_without 9 = .ok (.ifCond .ne 17, 3) := by decide +kernel
theorem dX4_without_12 : decode cX4_without 12 = .ok (.aload_n 0, 1) := by decide +kernel
theorem dX4_without_13 : decode cX4_without 13 = .ok (.getfield 16, 3) := by decide +kernel
theorem dX4_without_16 : decode cX4_without 16 = .ok (.aload_n 0, 1) := by decide +kernel
theorem dX4_without_17 : decode cX4_without 17 = .ok (.getfield 12, 3) := by decide +kernel
theorem dX4_without_20 : decode cX4_without 20 = .ok (.invokevirtual 99, 3) := by decide +kernel
theorem dX4_without_23 : decode cX4_without 23 = .ok (.goto 8, 3) := by decide +kernel
theorem dX4_without_26 : decode cX4_without 26 = .ok (.aload_n 0, 1) := by decide +kernel
theorem dX4_without_27 : decode cX4_without 27 = .ok (.iload_n 2, 1) := by decide +kernel
theorem dX4_without_28 : decode cX4_without 28 = .ok (.invokevirtual 55, 3) := by decide +kernel
theorem dX4_without_31 : decode cX4_without 31 = .ok (.ireturn, 1) := by decide +kernel
set_option maxRecDepth 20000 in
theorem ggX4_count_X3_allWeights : GoodIn wsX4_count wsX3_allWeights := goodIn_r _ [11, 12, 13, 60, 61, 62, 63, 64, 65, 66] (by decide +kernel) (by decide +kernel)
set_option maxRecDepth 20000 in
theorem gX4_count_X3_allWeights : GoodIn wsX4_count (wsV RX4 112 RX3 yX3_allWeights wsX3_allWeights) := goodIn_app (goodIn_of _ (by decide +kernel)) ggX4_count_X3_allWeights
set_option maxRecDepth 20000 in
theorem ggX4_count_X1_fullHosts : GoodIn wsX4_count wsX1_fullHosts := goodIn_r _ [18, 19, 20, 21, 22, 52, 53, 54, 55, 56, 57, 58, 59, 60, 61, 62, 63, 64, 65, 66] (by decide +kernel) (by decide +kernel)
set_option maxRecDepth 20000 in
theorem gX4_count_X1_fullHosts : GoodIn wsX4_count (wsV RX4 119 RX1 yX1_fullHosts wsX1_fullHosts) := goodIn_app (goodIn_of _ (by decide +kernel)) ggX4_count_X1_fullHosts
set_option maxRecDepth 20000 in
theorem ggX4_count_X1_allPassed : GoodIn wsX4_count wsX1_allPassed := goodIn_r _ [26, 19, 27, 28, 52, 53, 54, 55, 56, 57, 58, 59, 60, 61, 62, 63, 64, 65, 66] (by decide +kernel) (by decide +kernel)
set_option maxRecDepth 20000 in
theorem gX4_count_X1_allPassed : GoodIn wsX4_count (wsV RX4 122 RX1 yX1_allPassed wsX1_allPassed) := goodIn_app (goodIn_of _ (by decide +kernel)) ggX4_count_X1_allPassed
set_option maxRecDepth 20000 in
theorem ggX4_count_X1_mostLoad : GoodIn wsX4_count wsX1_mostLoad := goodIn_r _ [32, 19, 20, 21, 33, 34, 35, 36, 52, 53, 54, 55, 56, 57, 58, 59, 60, 61, 62, 63, 64, 65, 66] (by decide +kernel) (by decide +kernel)
set_option maxRecDepth 20000 in
theorem gX4_count_X1_mostLoad : GoodIn wsX4_count (wsV RX4 125 RX1 yX1_mostLoad wsX1_mostLoad) := goodIn_app (goodIn_of _ (by decide +kernel)) ggX4_count_X1_mostLoad
set_option maxRecDepth 20000 in
theorem ggX4_count_X4_refuse : GoodIn wsX4_count wsX4_refuse := goodIn_r _ [41, 42, 43, 44, 45, 46, 47, 48, 49, 50, 51] (by decide +kernel) (by decide +kernel)
set_option maxRecDepth 20000 in
theorem gX4_count_X4_refuse : GoodIn wsX4_count (wsV RX4 55 RX4 yX4_refuse wsX4_refuse) := goodIn_app (goodIn_of _ (by decide +kernel)) ggX4_count_X4_refuse
theorem dX4_count_0 : decode cX4_count 0 = .ok (.iload_n 1, 1) := by decide +kernel
theorem dX4_count_1 : decode cX4_count 1 = .ok (.tableswitch 143 0 8 #[51, 62, 73, 84, 97, 108, 116, 124, 132], 51) := by decide +kernel
theorem dX4_count_52 : decode cX4_count 52 = .ok (.aload_n 0, 1) := by decide +kernel
theorem dX4_count_53 : decode cX4_count 53 = .ok (.getfield 12, 3) := by decide +kernel
theorem dX4_count_56 : decode cX4_count 56 = .ok (.getfield 58, 3) := by decide +kernel
theorem dX4_count_59 : decode cX4_count 59 = .ok (.getfield 103, 3) := by decide +kernel
theorem dX4_count_62 : decode cX4_count 62 = .ok (.ireturn, 1) := by decide +kernel
theorem dX4_count_63 : decode cX4_count 63 = .ok (.aload_n 0, 1) := by decide +kernel
theorem dX4_count_64 : decode cX4_count 64 = .ok (.getfield 12, 3) := by decide +kernel
theorem dX4_count_67 : decode cX4_count 67 = .ok (.getfield 58, 3) := by decide +kernel
theorem dX4_count_70 : decode cX4_count 70 = .ok (.getfield 106, 3) := by decide +kernel
theorem dX4_count_73 : decode cX4_count 73 = .ok (.ireturn, 1) := by decide +kernel
theorem dX4_count_74 : decode cX4_count 74 = .ok (.aload_n 0, 1) := by decide +kernel
theorem dX4_count_75 : decode cX4_count 75 = .ok (.getfield 12, 3) := by decide +kernel
theorem dX4_count_78 : decode cX4_count 78 = .ok (.getfield 58, 3) := by decide +kernel
theorem dX4_count_81 : decode cX4_count 81 = .ok (.getfield 109, 3) := by decide +kernel
theorem dX4_count_84 : decode cX4_count 84 = .ok (.ireturn, 1) := by decide +kernel
theorem dX4_count_85 : decode cX4_count 85 = .ok (.iconst 2, 1) := by decide +kernel
theorem dX4_count_86 : decode cX4_count 86 = .ok (.aload_n 0, 1) := by decide +kernel
theorem dX4_count_87 : decode cX4_count 87 = .ok (.getfield 12, 3) := by decide +kernel
theorem dX4_count_90 : decode cX4_count 90 = .ok (.getfield 58, 3) := by decide +kernel
theorem dX4_count_93 : decode cX4_count 93 = .ok (.invokevirtual 112, 3) := by decide +kernel
theorem dX4_count_96 : decode cX4_count 96 = .ok (.imul, 1) := by decide +kernel
theorem dX4_count_97 : decode cX4_count 97 = .ok (.ireturn, 1) := by decide +kernel
theorem dX4_count_98 : decode cX4_count 98 = .ok (.aload_n 0, 1) := by decide +kernel
theorem dX4_count_99 : decode cX4_count 99 = .ok (.getfield 12, 3) := by decide +kernel
theorem dX4_count_102 : decode cX4_count 102 = .ok (.getfield 58, 3) := by decide +kernel
theorem dX4_count_105 : decode cX4_count 105 = .ok (.getfield 116, 3) := by decide +kernel
theorem dX4_count_108 : decode cX4_count 108 = .ok (.ireturn, 1) := by decide +kernel
theorem dX4_count_109 : decode cX4_count 109 = .ok (.aload_n 0, 1) := by decide +kernel
theorem dX4_count_110 : decode cX4_count 110 = .ok (.getfield 12, 3) := by decide +kernel
theorem dX4_count_113 : decode cX4_count 113 = .ok (.invokevirtual 119, 3) := by decide +kernel
theorem dX4_count_116 : decode cX4_count 116 = .ok (.ireturn, 1) := by decide +kernel
theorem dX4_count_117 : decode cX4_count 117 = .ok (.aload_n 0, 1) := by decide +kernel
theorem dX4_count_118 : decode cX4_count 118 = .ok (.getfield 12, 3) := by decide +kernel
theorem dX4_count_121 : decode cX4_count 121 = .ok (.invokevirtual 122, 3) := by decide +kernel
theorem dX4_count_124 : decode cX4_count 124 = .ok (.ireturn, 1) := by decide +kernel
theorem dX4_count_125 : decode cX4_count 125 = .ok (.aload_n 0, 1) := by decide +kernel
theorem dX4_count_126 : decode cX4_count 126 = .ok (.getfield 12, 3) := by decide +kernel
theorem dX4_count_129 : decode cX4_count 129 = .ok (.invokevirtual 125, 3) := by decide +kernel
theorem dX4_count_132 : decode cX4_count 132 = .ok (.ireturn, 1) := by decide +kernel
theorem dX4_count_133 : decode cX4_count 133 = .ok (.aload_n 0, 1) := by decide +kernel
theorem dX4_count_134 : decode cX4_count 134 = .ok (.getfield 12, 3) := by decide +kernel
theorem dX4_count_137 : decode cX4_count 137 = .ok (.getfield 58, 3) := by decide +kernel
theorem dX4_count_140 : decode cX4_count 140 = .ok (.invokevirtual 112, 3) := by decide +kernel
theorem dX4_count_143 : decode cX4_count 143 = .ok (.ireturn, 1) := by decide +kernel
theorem dX4_count_144 : decode cX4_count 144 = .ok (.aload_n 0, 1) := by decide +kernel
theorem dX4_count_145 : decode cX4_count 145 = .ok (.bipush (-2), 2) := by decide +kernel
theorem dX4_count_147 : decode cX4_count 147 = .ok (.invokevirtual 55, 3) := by decide +kernel
theorem dX4_count_150 : decode cX4_count 150 = .ok (.ireturn, 1) := by decide +kernel
set_option maxRecDepth 20000 in
theorem ggX4_type_X4_refuse : GoodIn wsX4_type wsX4_refuse := goodIn_r _ [7, 8, 9, 10, 18, 19, 20, 21, 22, 23, 24] (by decide +kernel) (by decide +kernel)
set_option maxRecDepth 20000 in
theorem gX4_type_X4_refuse : GoodIn wsX4_type (wsV RX4 55 RX4 yX4_refuse wsX4_refuse) := goodIn_app (goodIn_of _ (by decide +kernel)) ggX4_type_X4_refuse
set_option maxRecDepth 20000 in
theorem ggX4_type_X2_append : GoodIn wsX4_type wsX2_append := goodIn_r _ [15, 16, 17, 25, 26, 27, 28, 29, 30, 31, 32, 33, 34] (by decide +kernel) (by decide +kernel)
set_option maxRecDepth 20000 in
theorem gX4_type_X2_append : GoodIn wsX4_type (wsV RX4 128 RX2 yX2_append wsX2_append) := goodIn_app (goodIn_of _ (by decide +kernel)) ggX4_type_X2_append
theorem dX4_type_0 : decode cX4_type 0 = .ok (.iload_n 1, 1) := by decide +kernel
theorem dX4_type_1 : decode cX4_type 1 = .ok (.ifCond .lt 9, 3) := by decide +kernel
theorem dX4_type_4 : decode cX4_type 4 = .ok (.iload_n 1, 1) := by decide +kernel
theorem dX4_type_5 : decode cX4_type 5 = .ok (.bipush 127, 2) := by decide +kernel
theorem dX4_type_7 : decode cX4_type 7 = .ok (.if_icmp .le 10, 3) := by decide +kernel
theorem dX4_type_10 : decode cX4_type 10 = .ok (.aload_n 0, 1) := by decide +kernel
theorem dX4_type_11 : decode cX4_type 11 = .ok (.bipush (-2), 2) := by decide +kernel
theorem dX4_type_13 : decode cX4_type 13 = .ok (.invokevirtual 55, 3) := by decide +kernel
theorem dX4_type_16 : decode cX4_type 16 = .ok (.ireturn, 1) := by decide +kernel
theorem dX4_type_17 : decode cX4_type 17 = .ok (.aload_n 0, 1) := by decide +kernel
theorem dX4_type_18 : decode cX4_type 18 = .ok (.getfield 29, 3) := by decide +kernel
theorem dX4_type_21 : decode cX4_type 21 = .ok (.iload_n 1, 1) := by decide +kernel
theorem dX4_type_22 : decode cX4_type 22 = .ok (.invokevirtual 128, 3) := by decide +kernel
theorem dX4_type_25 : decode cX4_type 25 = .ok (.ifCond .eq 13, 3) := by decide +kernel
theorem dX4_type_28 : decode cX4_type 28 = .ok (.aload_n 0, 1) := by decide +kernel
theorem dX4_type_29 : decode cX4_type 29 = .ok (.getfield 29, 3) := by decide +kernel
theorem dX4_type_32 : decode cX4_type 32 = .ok (.getfield 131, 3) := by decide +kernel
theorem dX4_type_35 : decode cX4_type 35 = .ok (.goto 9, 3) := by decide +kernel
theorem dX4_type_38 : decode cX4_type 38 = .ok (.aload_n 0, 1) := by decide +kernel
theorem dX4_type_39 : decode cX4_type 39 = .ok (.bipush (-4), 2) := by decide +kernel
theorem dX4_type_41 : decode cX4_type 41 = .ok (.invokevirtual 55, 3) := by decide +kernel
theorem dX4_type_44 : decode cX4_type 44 = .ok (.ireturn, 1) := by decide +kernel
theorem dX4_clear_0 : decode cX4_clear 0 = .ok (.aload_n 0, 1) := by decide +kernel
theorem dX4_clear_1 : decode cX4_clear 1 = .ok (.getfield 29, 3) := by decide +kernel
theorem dX4_clear_4 : decode cX4_clear 4 = .ok (.getfield 131, 3) := by decide +kernel
theorem dX4_clear_7 : decode cX4_clear 7 = .ok (.istore_n 1, 1) := by decide +kernel
theorem dX4_clear_8 : decode cX4_clear 8 = .ok (.aload_n 0, 1) := by decide +kernel
theorem dX4_clear_9 : decode cX4_clear 9 = .ok (.getfield 29, 3) := by decide +kernel
theorem dX4_clear_12 : decode cX4_clear 12 = .ok (.iconst 0, 1) := by decide +kernel
theorem dX4_clear_13 : decode cX4_clear 13 = .ok (.putfield 131, 3) := by decide +kernel
theorem dX4_clear_16 : decode cX4_clear 16 = .ok (.iload_n 1, 1) := by decide +kernel
theorem dX4_clear_17 : decode cX4_clear 17 = .ok (.ireturn, 1) := by decide +kernel
set_option maxRecDepth 20000 in
theorem ggX4_does_X2_read : GoodIn wsX4_does wsX2_read := goodIn_r _ [13, 14, 15, 16, 17, 18, 19, 20, 12, 21, 22, 23, 24, 25, 26, 27, 28, 29, 30, 31, 32, 33, 34, 35, 36, 37, 38, 39, 40, 41, 42, 43, 44, 45, 46, 47, 48, 49, 50, 51, 52, 53, 205, 206, 207, 208, 209, 210, 211, 212, 213, 214] (by decide +kernel) (by decide +kernel)
set_option maxRecDepth 20000 in
theorem gX4_does_X2_read : GoodIn wsX4_does (wsV RX4 134 RX2 yX2_read wsX2_read) := goodIn_app (goodIn_of _ (by decide +kernel)) ggX4_does_X2_read
set_option maxRecDepth 20000 in
theorem ggX4_does_X3_copyFrom : GoodIn wsX4_does wsX3_copyFrom := goodIn_r _ [58, 59, 60, 61, 62, 63, 64, 65, 66, 67, 68, 69, 215, 216, 217, 218, 219, 220, 221] (by decide +kernel) (by decide +kernel)
set_option maxRecDepth 20000 in
theorem gX4_does_X3_copyFrom : GoodIn wsX4_does (wsV RX4 137 RX3 yX3_copyFrom wsX3_copyFrom) := goodIn_app (goodIn_of _ (by decide +kernel)) ggX4_does_X3_copyFrom
set_option maxRecDepth 20000 in
theorem ggX4_does_X3_take : GoodIn wsX4_does wsX3_take := goodIn_r _ [73, 74, 75, 76, 57, 77, 66, 59, 64, 78, 79, 80, 81, 82, 83, 84, 85, 86, 87, 88, 89, 90, 91, 92, 93, 94, 95, 96, 97, 98, 67, 65, 99, 100, 101, 102, 103, 104, 105, 106, 107, 108, 109, 110, 111, 112, 68, 215, 216, 217, 218, 219, 220, 221] (by decide +kernel) (by decide +kernel)
set_option maxRecDepth 20000 in
theorem gX4_does_X3_take : GoodIn wsX4_does (wsV RX4 153 RX3 yX3_take wsX3_take) := goodIn_app (goodIn_of _ (by decide +kernel)) ggX4_does_X3_take
set_option maxRecDepth 20000 in
theorem ggX4_does_X4_keepDraft : GoodIn wsX4_does wsX4_keepDraft := goodIn_r _ [116, 2, 3, 4, 117, 118, 119, 120, 121, 122, 123, 124, 125, 126, 127, 128, 129, 130, 131, 132, 133, 134, 135, 136, 137, 138, 139, 140, 141, 142, 143, 144, 145, 146, 147, 148, 149, 150, 151, 57, 152, 66, 64, 153, 154, 155, 156, 157, 158, 159, 160, 161, 162, 163, 164, 165, 166, 167, 168, 169, 170, 171, 172, 59, 173, 102, 103, 104, 67, 65, 174, 175, 176, 177, 178, 179, 180, 181, 182, 183, 184, 185, 186, 187, 188, 189, 55, 56, 58, 60, 61, 62, 63, 68, 69, 190, 191, 192, 193, 194, 195, 196, 197, 198, 199, 200, 201, 202, 203, 204, 215, 216, 217, 218, 219, 220, 221, 222, 223] (by decide +kernel) (by decide +kernel)
set_option maxRecDepth 20000 in
theorem gX4_does_X4_keepDraft : GoodIn wsX4_does (wsV RX4 156 RX4 yX4_keepDraft wsX4_keepDraft) := goodIn_app (goodIn_of _ (by decide +kernel)) ggX4_does_X4_keepDraft
theorem dX4_does_0 : decode cX4_does 0 = .ok (.aload_n 0, 1) := by decide +kernel
theorem dX4_does_1 : decode cX4_does 1 = .ok (.getfield 29, 3) := by decide +kernel
theorem dX4_does_4 : decode cX4_does 4 = .ok (.invokevirtual 134, 3) := by decide +kernel
theorem dX4_does_7 : decode cX4_does 7 = .ok (.istore_n 1, 1) := by decide +kernel
theorem dX4_does_8 : decode cX4_does 8 = .ok (.iload_n 1, 1) := by decide +kernel
theorem dX4_does_9 : decode cX4_does 9 = .ok (.iconst (-1), 1) := by decide +kernel
theorem dX4_does_10 : decode cX4_does 10 = .ok (.if_icmp .eq 8, 3) := by decide +kernel
theorem dX4_does_13 : decode cX4_does 13 = .ok (.bipush (-10), 2) := by decide +kernel
theorem dX4_does_15 : decode cX4_does 15 = .ok (.iload_n 1, 1) := by decide +kernel
theorem dX4_does_16 : decode cX4_does 16 = .ok (.isub, 1) := by decide +kernel
theorem dX4_does_17 : decode cX4_does 17 = .ok (.ireturn, 1) := by decide +kernel
theorem dX4_does_18 : decode cX4_does 18 = .ok (.aload_n 0, 1) := by decide +kernel
theorem dX4_does_19 : decode cX4_does 19 = .ok (.getfield 16, 3) := by decide +kernel
theorem dX4_does_22 : decode cX4_does 22 = .ok (.getfield 58, 3) := by decide +kernel
theorem dX4_does_25 : decode cX4_does 25 = .ok (.aload_n 0, 1) := by decide +kernel
theorem dX4_does_26 : decode cX4_does 26 = .ok (.getfield 12, 3) := by decide +kernel
theorem dX4_does_29 : decode cX4_does 29 = .ok (.getfield 58, 3) := by decide +kernel
theorem dX4_does_32 : decode cX4_does 32 = .ok (.invokevirtual 137, 3) := by decide +kernel
theorem dX4_does_35 : decode cX4_does 35 = .ok (.iconst 0, 1) := by decide +kernel
theorem dX4_does_36 : decode cX4_does 36 = .ok (.istore_n 2, 1) := by decide +kernel
theorem dX4_does_37 : decode cX4_does 37 = .ok (.iload_n 2, 1) := by decide +kernel
theorem dX4_does_38 : decode cX4_does 38 = .ok (.aload_n 0, 1) := by decide +kernel
theorem dX4_does_39 : decode cX4_does 39 = .ok (.getfield 29, 3) := by decide +kernel
theorem dX4_does_42 : decode cX4_does 42 = .ok (.getfield 141, 3) := by decide +kernel
theorem dX4_does_45 : decode cX4_does 45 = .ok (.if_icmp .ge 55, 3) := by decide +kernel
theorem dX4_does_48 : decode cX4_does 48 = .ok (.aload_n 0, 1) := by decide +kernel
theorem dX4_does_49 : decode cX4_does 49 = .ok (.getfield 16, 3) := by decide +kernel
theorem dX4_does_52 : decode cX4_does 52 = .ok (.getfield 58, 3) := by decide +kernel
theorem dX4_does_55 : decode cX4_does 55 = .ok (.aload_n 0, 1) := by decide +kernel
theorem dX4_does_56 : decode cX4_does 56 = .ok (.getfield 29, 3) := by decide +kernel
theorem dX4_does_59 : decode cX4_does 59 = .ok (.getfield 144, 3) := by decide +kernel
theorem dX4_does_62 : decode cX4_does 62 = .ok (.iload_n 2, 1) := by decide +kernel
theorem dX4_does_63 : decode cX4_does 63 = .ok (.iaload, 1) := by decide +kernel
theorem dX4_does_64 : decode cX4_does 64 = .ok (.aload_n 0, 1) := by decide +kernel
theorem dX4_does_65 : decode cX4_does 65 = .ok (.getfield 29, 3) := by decide +kernel
theorem dX4_does_68 : decode cX4_does 68 = .ok (.getfield 147, 3) := by decide +kernel
theorem dX4_does_71 : decode cX4_does 71 = .ok (.iload_n 2, 1) := by decide +kernel
theorem dX4_does_72 : decode cX4_does 72 = .ok (.iaload, 1) := by decide +kernel
theorem dX4_does_73 : decode cX4_does 73 = .ok (.aload_n 0, 1) := by decide +kernel
theorem dX4_does_74 : decode cX4_does 74 = .ok (.getfield 29, 3) := by decide +kernel
theorem dX4_does_77 : decode cX4_does 77 = .ok (.getfield 150, 3) := by decide +kernel
theorem dX4_does_80 : decode cX4_does 80 = .ok (.iload_n 2, 1) := by decide +kernel
theorem dX4_does_81 : decode cX4_does 81 = .ok (.iaload, 1) := by decide +kernel
theorem dX4_does_82 : decode cX4_does 82 = .ok (.invokevirtual 153, 3) := by decide +kernel
theorem dX4_does_85 : decode cX4_does 85 = .ok (.ifCond .eq 9, 3) := by decide +kernel
theorem dX4_does_88 : decode cX4_does 88 = .ok (.sipush (-1000), 3) := by decide +kernel
theorem dX4_does_91 : decode cX4_does 91 = .ok (.iload_n 2, 1) := by decide +kernel
theorem dX4_does_92 : decode cX4_does 92 = .ok (.isub, 1) := by decide +kernel
theorem dX4_does_93 : decode cX4_does 93 = .ok (.ireturn, 1) := by decide +kernel
theorem dX4_does_94 : decode cX4_does 94 = .ok (.iinc 2 1, 3) := by decide +kernel
theorem dX4_does_97 : decode cX4_does 97 = .ok (.goto (-60), 3) := by decide +kernel
theorem dX4_does_100 : decode cX4_does 100 = .ok (.aload_n 0, 1) := by decide +kernel
theorem dX4_does_101 : decode cX4_does 101 = .ok (.invokevirtual 156, 3) := by decide +kernel
theorem dX4_does_104 : decode cX4_does 104 = .ok (.aload_n 0, 1) := by decide +kernel
theorem dX4_does_105 : decode cX4_does 105 = .ok (.getfield 29, 3) := by decide +kernel
theorem dX4_does_108 : decode cX4_does 108 = .ok (.getfield 141, 3) := by decide +kernel
theorem dX4_does_111 : decode cX4_does 111 = .ok (.ireturn, 1) := by decide +kernel
set_option maxRecDepth 20000 in
theorem ggX4_back_X4_refuse : GoodIn wsX4_back wsX4_refuse := goodIn_r _ [9, 10, 11, 12, 82, 83, 84, 85, 86, 87, 88] (by decide +kernel) (by decide +kernel)
set_option maxRecDepth 20000 in
theorem gX4_back_X4_refuse : GoodIn wsX4_back (wsV RX4 55 RX4 yX4_refuse wsX4_refuse) := goodIn_app (goodIn_of _ (by decide +kernel)) ggX4_back_X4_refuse
set_option maxRecDepth 20000 in
theorem ggX4_back_X0_takeBack : GoodIn wsX4_back wsX0_takeBack := goodIn_r _ [17, 18, 19, 20, 21, 22, 23, 24, 25, 26, 27, 28, 29, 30, 31, 32, 33, 34, 35, 89, 90, 99, 100, 101, 102, 103, 104, 105] (by decide +kernel) (by decide +kernel)
set_option maxRecDepth 20000 in
theorem gX4_back_X0_takeBack : GoodIn wsX4_back (wsV RX4 162 RX0 yX0_takeBack wsX0_takeBack) := goodIn_app (goodIn_of _ (by decide +kernel)) ggX4_back_X0_takeBack
set_option maxRecDepth 20000 in
theorem ggX4_back_X1_lay : GoodIn wsX4_back wsX1_lay := goodIn_r _ [40, 41, 42, 43, 44, 45, 39, 46, 47, 48, 49, 50, 51, 52, 53, 54, 55, 56, 57, 58, 59, 60, 61, 62, 63, 64, 65, 66, 67, 68, 23, 69, 32, 30, 70, 71, 72, 73, 74, 75, 76, 77, 78, 79, 80, 81, 91, 92, 93, 94, 95, 96, 97, 98, 99, 100, 101, 102, 103, 104, 105] (by decide +kernel) (by decide +kernel)
set_option maxRecDepth 20000 in
theorem gX4_back_X1_lay : GoodIn wsX4_back (wsV RX4 165 RX1 yX1_lay wsX1_lay) := goodIn_app (goodIn_of _ (by decide +kernel)) ggX4_back_X1_lay
theorem dX4_back_0 : decode cX4_back 0 = .ok (.aload_n 0, 1) := by decide +kernel
theorem dX4_back_1 : decode cX4_back 1 = .ok (.getfield 22, 3) := by decide +kernel
theorem dX4_back_4 : decode cX4_back 4 = .ok (.getfield 159, 3) := by decide +kernel
theorem dX4_back_7 : decode cX4_back 7 = .ok (.ifCond .ne 10, 3) := by decide +kernel
theorem dX4_back_10 : decode cX4_back 10 = .ok (.aload_n 0, 1) := by decide +kernel
theorem dX4_back_11 : decode cX4_back 11 = .ok (.bipush (-3), 2) := by decide +kernel
theorem dX4_back_13 : decode cX4_back 13 = .ok (.invokevirtual 55, 3) := by decide +kernel
theorem dX4_back_16 : decode cX4_back 16 = .ok (.ireturn, 1) := by decide +kernel
theorem dX4_back_17 : decode cX4_back 17 = .ok (.aload_n 0, 1) := by decide +kernel
theorem dX4_back_18 : decode cX4_back 18 = .ok (.getfield 22, 3) := by decide +kernel
theorem dX4_back_21 : decode cX4_back 21 = .ok (.aload_n 0, 1) := by decide +kernel
theorem dX4_back_22 : decode cX4_back 22 = .ok (.getfield 12, 3) := by decide +kernel
theorem dX4_back_25 : decode cX4_back 25 = .ok (.getfield 58, 3) := by decide +kernel
theorem dX4_back_28 : decode cX4_back 28 = .ok (.invokevirtual 162, 3) := by decide +kernel
theorem dX4_back_31 : decode cX4_back 31 = .ok (.aload_n 0, 1) := by decide +kernel
theorem dX4_back_32 : decode cX4_back 32 = .ok (.getfield 12, 3) := by decide +kernel
theorem dX4_back_35 : decode cX4_back 35 = .ok (.invokevirtual 165, 3) := by decide +kernel
theorem dX4_back_38 : decode cX4_back 38 = .ok (.aload_n 0, 1) := by decide +kernel
theorem dX4_back_39 : decode cX4_back 39 = .ok (.getfield 22, 3) := by decide +kernel
theorem dX4_back_42 : decode cX4_back 42 = .ok (.getfield 159, 3) := by decide +kernel
theorem dX4_back_45 : decode cX4_back 45 = .ok (.ireturn, 1) := by decide +kernel
set_option maxRecDepth 20000 in
theorem ggX4_told_X4_refuse : GoodIn wsX4_told wsX4_refuse := goodIn_r _ [12, 1, 2, 3, 13, 14, 15, 16, 17, 18, 19] (by decide +kernel) (by decide +kernel)
set_option maxRecDepth 20000 in
theorem gX4_told_X4_refuse : GoodIn wsX4_told (wsV RX4 55 RX4 yX4_refuse wsX4_refuse) := goodIn_app (goodIn_of _ (by decide +kernel)) ggX4_told_X4_refuse
theorem dX4_told_0 : decode cX4_told 0 = .ok (.iload_n 1, 1) := by decide +kernel
theorem dX4_told_1 : decode cX4_told 1 = .ok (.tableswitch 66 0 4 #[35, 40, 45, 50, 58], 35) := by decide +kernel
theorem dX4_told_36 : decode cX4_told 36 = .ok (.aload_n 0, 1) := by decide +kernel
theorem dX4_told_37 : decode cX4_told 37 = .ok (.getfield 33, 3) := by decide +kernel
theorem dX4_told_40 : decode cX4_told 40 = .ok (.ireturn, 1) := by decide +kernel
theorem dX4_told_41 : decode cX4_told 41 = .ok (.aload_n 0, 1) := by decide +kernel
theorem dX4_told_42 : decode cX4_told 42 = .ok (.getfield 37, 3) := by decide +kernel
theorem dX4_told_45 : decode cX4_told 45 = .ok (.ireturn, 1) := by decide +kernel
theorem dX4_told_46 : decode cX4_told 46 = .ok (.aload_n 0, 1) := by decide +kernel
theorem dX4_told_47 : decode cX4_told 47 = .ok (.getfield 40, 3) := by decide +kernel
theorem dX4_told_50 : decode cX4_told 50 = .ok (.ireturn, 1) := by decide +kernel
theorem dX4_told_51 : decode cX4_told 51 = .ok (.aload_n 0, 1) := by decide +kernel
theorem dX4_told_52 : decode cX4_told 52 = .ok (.getfield 29, 3) := by decide +kernel
theorem dX4_told_55 : decode cX4_told 55 = .ok (.getfield 131, 3) := by decide +kernel
theorem dX4_told_58 : decode cX4_told 58 = .ok (.ireturn, 1) := by decide +kernel
theorem dX4_told_59 : decode cX4_told 59 = .ok (.aload_n 0, 1) := by decide +kernel
theorem dX4_told_60 : decode cX4_told 60 = .ok (.getfield 22, 3) := by decide +kernel
theorem dX4_told_63 : decode cX4_told 63 = .ok (.getfield 159, 3) := by decide +kernel
theorem dX4_told_66 : decode cX4_told 66 = .ok (.ireturn, 1) := by decide +kernel
theorem dX4_told_67 : decode cX4_told 67 = .ok (.aload_n 0, 1) := by decide +kernel
theorem dX4_told_68 : decode cX4_told 68 = .ok (.bipush (-2), 2) := by decide +kernel
theorem dX4_told_70 : decode cX4_told 70 = .ok (.invokevirtual 55, 3) := by decide +kernel
theorem dX4_told_73 : decode cX4_told 73 = .ok (.ireturn, 1) := by decide +kernel
set_option maxRecDepth 20000 in
theorem ggX4_digest_X4_told : GoodIn wsX4_digest wsX4_told := goodIn_r _ [7, 8, 9, 10, 11, 12, 13, 14, 15, 16, 17, 6, 18, 100, 101, 102, 103, 104, 105, 106, 107, 108, 109, 110, 111, 112, 113, 114, 115, 116, 117, 118] (by decide +kernel) (by decide +kernel)
set_option maxRecDepth 20000 in
theorem gX4_digest_X4_told : GoodIn wsX4_digest (wsV RX4 172 RX4 yX4_told wsX4_told) := goodIn_app (goodIn_of _ (by decide +kernel)) ggX4_digest_X4_told
set_option maxRecDepth 20000 in
theorem ggX4_digest_X4_count : GoodIn wsX4_digest wsX4_count := goodIn_r _ [22, 23, 24, 25, 26, 27, 28, 29, 30, 31, 32, 33, 34, 35, 36, 37, 38, 39, 40, 41, 42, 43, 44, 45, 46, 47, 48, 49, 50, 51, 52, 53, 54, 55, 56, 57, 58, 15, 16, 17, 6, 18, 8, 9, 10, 100, 101, 102, 103, 104, 105, 106, 119, 120, 121, 122, 123, 124, 125, 126, 127, 128, 129, 130, 131, 132, 133] (by decide +kernel) (by decide +kernel)
set_option maxRecDepth 20000 in
theorem gX4_digest_X4_count : GoodIn wsX4_digest (wsV RX4 175 RX4 yX4_count wsX4_count) := goodIn_app (goodIn_of _ (by decide +kernel)) ggX4_digest_X4_count
set_option maxRecDepth 20000 in
theorem ggX4_digest_X4_at : GoodIn wsX4_digest wsX4_at := goodIn_r _ [62, 23, 24, 63, 15, 16, 17, 6, 18, 8, 9, 10, 64, 65, 66, 32, 67, 34, 68, 100, 101, 102, 103, 104, 105, 106, 119, 120, 121, 122, 123, 124, 125, 126, 127, 128, 129, 130, 131, 132, 133] (by decide +kernel) (by decide +kernel)
set_option maxRecDepth 20000 in
theorem gX4_digest_X4_at : GoodIn wsX4_digest (wsV RX4 178 RX4 yX4_at wsX4_at) := goodIn_app (goodIn_of _ (by decide +kernel)) ggX4_digest_X4_at
set_option maxRecDepth 20000 in
theorem ggX4_digest_X4_digestHosts : GoodIn wsX4_digest wsX4_digestHosts := goodIn_r _ [72, 23, 24, 25, 2, 73, 74, 75, 76, 39, 77, 41, 78, 44, 43, 79, 80, 81, 82, 49, 83, 84, 100, 101, 102, 103, 104, 105, 106, 119, 120, 121, 122, 123, 124, 125, 126, 127, 128, 129, 130, 131, 132, 133] (by decide +kernel) (by decide +kernel)
set_option maxRecDepth 20000 in
theorem gX4_digest_X4_digestHosts : GoodIn wsX4_digest (wsV RX4 181 RX4 yX4_digestHosts wsX4_digestHosts) := goodIn_app (goodIn_of _ (by decide +kernel)) ggX4_digest_X4_digestHosts
set_option maxRecDepth 20000 in
theorem ggX4_digest_X4_digestKeys : GoodIn wsX4_digest wsX4_digestKeys := goodIn_r _ [88, 23, 24, 26, 2, 89, 90, 64, 65, 66, 32, 67, 34, 68, 91, 92, 93, 39, 94, 50, 95, 96, 97, 98, 99, 41, 84, 100, 101, 102, 103, 104, 105, 106, 119, 120, 121, 122, 123, 124, 125, 126, 127, 128, 129, 130, 131, 132, 133] (by decide +kernel) (by decide +kernel)
set_option maxRecDepth 20000 in
theorem gX4_digest_X4_digestKeys : GoodIn wsX4_digest (wsV RX4 185 RX4 yX4_digestKeys wsX4_digestKeys) := goodIn_app (goodIn_of _ (by decide +kernel)) ggX4_digest_X4_digestKeys
theorem dX4_digest_0 : decode cX4_digest 0 = .ok (.ldc2_w 168, 3) := by decide +kernel
theorem dX4_digest_3 : decode cX4_digest 3 = .ok (.lstore_n 1, 1) := by decide +kernel
theorem dX4_digest_4 : decode cX4_digest 4 = .ok (.iconst 0, 1) := by decide +kernel
theorem dX4_digest_5 : decode cX4_digest 5 = .ok (.istore_n 3, 1) := by decide +kernel
theorem dX4_digest_6 : decode cX4_digest 6 = .ok (.iload_n 3, 1) := by decide +kernel
theorem dX4_digest_7 : decode cX4_digest 7 = .ok (.iconst 5, 1) := by decide +kernel
theorem dX4_digest_8 : decode cX4_digest 8 = .ok (.if_icmp .ge 22, 3) := by decide +kernel
theorem dX4_digest_11 : decode cX4_digest 11 = .ok (.ldc2_w 170, 3) := by decide +kernel
theorem dX4_digest_14 : decode cX4_digest 14 = .ok (.lload_n 1, 1) := by decide +kernel
theorem dX4_digest_15 : decode cX4_digest 15 = .ok (.lmul, 1) := by decide +kernel
theorem dX4_digest_16 : decode cX4_digest 16 = .ok (.aload_n 0, 1) := by decide +kernel
theorem dX4_digest_17 : decode cX4_digest 17 = .ok (.iload_n 3, 1) := by decide +kernel
theorem dX4_digest_18 : decode cX4_digest 18 = .ok (.invokevirtual 172, 3) := by decide +kernel
theorem dX4_digest_21 : decode cX4_digest 21 = .ok (.i2l, 1) := by decide +kernel
theorem dX4_digest_22 : decode cX4_digest 22 = .ok (.ladd, 1) := by decide +kernel
theorem dX4_digest_23 : decode cX4_digest 23 = .ok (.lstore_n 1, 1) := by decide +kernel
theorem dX4_digest_24 : decode cX4_digest 24 = .ok (.iinc 3 1, 3) := by decide +kernel
theorem dX4_digest_27 : decode cX4_digest 27 = .ok (.goto (-21), 3) := by decide +kernel
theorem dX4_digest_30 : decode cX4_digest 30 = .ok (.iconst 0, 1) := by decide +kernel
theorem dX4_digest_31 : decode cX4_digest 31 = .ok (.istore_n 3, 1) := by decide +kernel
theorem dX4_digest_32 : decode cX4_digest 32 = .ok (.iload_n 3, 1) := by decide +kernel
theorem dX4_digest_33 : decode cX4_digest 33 = .ok (.bipush 9, 2) := by decide +kernel
theorem dX4_digest_35 : decode cX4_digest 35 = .ok (.if_icmp .ge 22, 3) := by decide +kernel
theorem dX4_digest_38 : decode cX4_digest 38 = .ok (.ldc2_w 170, 3) := by decide +kernel
theorem dX4_digest_41 : decode cX4_digest 41 = .ok (.lload_n 1, 1) := by decide +kernel
theorem dX4_digest_42 : decode cX4_digest 42 = .ok (.lmul, 1) := by decide +kernel
theorem dX4_digest_43 : decode cX4_digest 43 = .ok (.aload_n 0, 1) := by decide +kernel
theorem dX4_digest_44 : decode cX4_digest 44 = .ok (.iload_n 3, 1) := by decide +kernel
theorem dX4_digest_45 : decode cX4_digest 45 = .ok (.invokevirtual 175, 3) := by decide +kernel
theorem dX4_digest_48 : decode cX4_digest 48 = .ok (.i2l, 1) := by decide +kernel
theorem dX4_digest_49 : decode cX4_digest 49 = .ok (.ladd, 1) := by decide +kernel
theorem dX4_digest_50 : decode cX4_digest 50 = .ok (.lstore_n 1, 1) := by decide +kernel
theorem dX4_digest_51 : decode cX4_digest 51 = .ok (.iinc 3 1, 3) := by decide +kernel
theorem dX4_digest_54 : decode cX4_digest 54 = .ok (.goto (-22), 3) := by decide +kernel
theorem dX4_digest_57 : decode cX4_digest 57 = .ok (.iconst 0, 1) := by decide +kernel
theorem dX4_digest_58 : decode cX4_digest 58 = .ok (.istore_n 3, 1) := by decide +kernel
theorem dX4_digest_59 : decode cX4_digest 59 = .ok (.iload_n 3, 1) := by decide +kernel
theorem dX4_digest_60 : decode cX4_digest 60 = .ok (.bipush 101, 2) := by decide +kernel
theorem dX4_digest_62 : decode cX4_digest 62 = .ok (.if_icmp .ge 22, 3) := by decide +kernel
theorem dX4_digest_65 : decode cX4_digest 65 = .ok (.ldc2_w 170, 3) := by decide +kernel
theorem dX4_digest_68 : decode cX4_digest 68 = .ok (.lload_n 1, 1) := by decide +kernel
theorem dX4_digest_69 : decode cX4_digest 69 = .ok (.lmul, 1) := by decide +kernel
theorem dX4_digest_70 : decode cX4_digest 70 = .ok (.aload_n 0, 1) := by decide +kernel
theorem dX4_digest_71 : decode cX4_digest 71 = .ok (.iload_n 3, 1) := by decide +kernel
theorem dX4_digest_72 : decode cX4_digest 72 = .ok (.invokevirtual 178, 3) := by decide +kernel
theorem dX4_digest_75 : decode cX4_digest 75 = .ok (.i2l, 1) := by decide +kernel
theorem dX4_digest_76 : decode cX4_digest 76 = .ok (.ladd, 1) := by decide +kernel
theorem dX4_digest_77 : decode cX4_digest 77 = .ok (.lstore_n 1, 1) := by decide +kernel
theorem dX4_digest_78 : decode cX4_digest 78 = .ok (.iinc 3 1, 3) := by decide +kernel
theorem dX4_digest_81 : decode cX4_digest 81 = .ok (.goto (-22), 3) := by decide +kernel
theorem dX4_digest_84 : decode cX4_digest 84 = .ok (.aload_n 0, 1) := by decide +kernel
theorem dX4_digest_85 : decode cX4_digest 85 = .ok (.aload_n 0, 1) := by decide +kernel
theorem dX4_digest_86 : decode cX4_digest 86 = .ok (.lload_n 1, 1) := by decide +kernel
theorem dX4_digest_87 : decode cX4_digest 87 = .ok (.invokevirtual 181, 3) := by decide +kernel
theorem dX4_digest_90 : decode cX4_digest 90 = .ok (.invokevirtual 185, 3) := by decide +kernel
theorem dX4_digest_93 : decode cX4_digest 93 = .ok (.lreturn, 1) := by decide +kernel
set_option maxRecDepth 20000 in
theorem ggX4_digestHosts_X1_hostFact : GoodIn wsX4_digestHosts wsX1_hostFact := goodIn_r _ [10, 11, 12, 13, 14, 15, 16, 17, 9, 18, 19, 20, 21, 29, 30, 31, 32, 33, 34, 35, 36, 37, 38, 39, 40, 41, 42, 43] (by decide +kernel) (by decide +kernel)
set_option maxRecDepth 20000 in
theorem gX4_digestHosts_X1_hostFact : GoodIn wsX4_digestHosts (wsV RX4 67 RX1 yX1_hostFact wsX1_hostFact) := goodIn_app (goodIn_of _ (by decide +kernel)) ggX4_digestHosts_X1_hostFact
theorem dX4_digestHosts_0 : decode cX4_digestHosts 0 = .ok (.lload_n 1, 1) := by decide +kernel
theorem dX4_digestHosts_1 : decode cX4_digestHosts 1 = .ok (.lstore_n 3, 1) := by decide +kernel
theorem dX4_digestHosts_2 : decode cX4_digestHosts 2 = .ok (.iconst 0, 1) := by decide +kernel
theorem dX4_digestHosts_3 : decode cX4_digestHosts 3 = .ok (.istore 5, 2) := by decide +kernel
theorem dX4_digestHosts_5 : decode cX4_digestHosts 5 = .ok (.iload 5, 2) := by decide +kernel
theorem dX4_digestHosts_7 : decode cX4_digestHosts 7 = .ok (.aload_n 0, 1) := by decide +kernel
theorem dX4_digestHosts_8 : decode cX4_digestHosts 8 = .ok (.getfield 12, 3) := by decide +kernel
theorem dX4_digestHosts_11 : decode cX4_digestHosts 11 = .ok (.getfield 58, 3) := by decide +kernel
theorem dX4_digestHosts_14 : decode cX4_digestHosts 14 = .ok (.getfield 103, 3) := by decide +kernel
theorem dX4_digestHosts_17 : decode cX4_digestHosts 17 = .ok (.if_icmp .ge 64, 3) := by decide +kernel
