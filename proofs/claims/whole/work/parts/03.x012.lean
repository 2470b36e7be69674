set_option maxRecDepth 20000 in
theorem ggX0_init_X3_init : GoodIn wsX0_init wsX3_init := goodIn_r _ [15, 16, 2, 3, 12, 17, 18, 19, 20, 21, 22, 23, 24, 25, 26, 27, 28, 29, 30, 31, 32, 33, 34, 35, 36, 37, 38, 39, 46, 47] (by decide +kernel) (by decide +kernel)
set_option maxRecDepth 20000 in
theorem gX0_init_X3_init_n11 : GoodIn wsX0_init (wsX3_init) := ggX0_init_X3_init
theorem dX0_init_0 : decode cX0_init 0 = .ok (.aload_n 0, 1) := by decide +kernel
theorem dX0_init_1 : decode cX0_init 1 = .ok (.invokespecial 3, 3) := by decide +kernel
theorem dX0_init_4 : decode cX0_init 4 = .ok (.aload_n 0, 1) := by decide +kernel
theorem dX0_init_5 : decode cX0_init 5 = .ok (.new 9, 3) := by decide +kernel
theorem dX0_init_8 : decode cX0_init 8 = .ok (.dup, 1) := by decide +kernel
theorem dX0_init_9 : decode cX0_init 9 = .ok (.invokespecial 11, 3) := by decide +kernel
theorem dX0_init_12 : decode cX0_init 12 = .ok (.putfield 12, 3) := by decide +kernel
theorem dX0_init_15 : decode cX0_init 15 = .ok (.aload_n 0, 1) := by decide +kernel
theorem dX0_init_16 : decode cX0_init 16 = .ok (.bipush (-6), 2) := by decide +kernel
theorem dX0_init_18 : decode cX0_init 18 = .ok (.putfield 18, 3) := by decide +kernel
theorem dX0_init_21 : decode cX0_init 21 = .ok (.aload_n 0, 1) := by decide +kernel
theorem dX0_init_22 : decode cX0_init 22 = .ok (.bipush (-6), 2) := by decide +kernel
theorem dX0_init_24 : decode cX0_init 24 = .ok (.putfield 22, 3) := by decide +kernel
theorem dX0_init_27 : decode cX0_init 27 = .ok (.aload_n 0, 1) := by decide +kernel
theorem dX0_init_28 : decode cX0_init 28 = .ok (.bipush (-6), 2) := by decide +kernel
theorem dX0_init_30 : decode cX0_init 30 = .ok (.putfield 25, 3) := by decide +kernel
theorem dX0_init_33 : decode cX0_init 33 = .ok (.aload_n 0, 1) := by decide +kernel
theorem dX0_init_34 : decode cX0_init 34 = .ok (.bipush (-6), 2) := by decide +kernel
theorem dX0_init_36 : decode cX0_init 36 = .ok (.putfield 28, 3) := by decide +kernel
theorem dX0_init_39 : decode cX0_init 39 = .ok (.aload_n 0, 1) := by decide +kernel
theorem dX0_init_40 : decode cX0_init 40 = .ok (.bipush 16, 2) := by decide +kernel
theorem dX0_init_42 : decode cX0_init 42 = .ok (.newarray .int, 2) := by decide +kernel
theorem dX0_init_44 : decode cX0_init 44 = .ok (.putfield 31, 3) := by decide +kernel
theorem dX0_init_47 : decode cX0_init 47 = .ok (.return_, 1) := by decide +kernel
theorem dX0_forget_0 : decode cX0_forget 0 = .ok (.aload_n 0, 1) := by decide +kernel
theorem dX0_forget_1 : decode cX0_forget 1 = .ok (.bipush (-6), 2) := by decide +kernel
theorem dX0_forget_3 : decode cX0_forget 3 = .ok (.putfield 18, 3) := by decide +kernel
theorem dX0_forget_6 : decode cX0_forget 6 = .ok (.aload_n 0, 1) := by decide +kernel
theorem dX0_forget_7 : decode cX0_forget 7 = .ok (.bipush (-6), 2) := by decide +kernel
theorem dX0_forget_9 : decode cX0_forget 9 = .ok (.putfield 22, 3) := by decide +kernel
theorem dX0_forget_12 : decode cX0_forget 12 = .ok (.aload_n 0, 1) := by decide +kernel
theorem dX0_forget_13 : decode cX0_forget 13 = .ok (.bipush (-6), 2) := by decide +kernel
theorem dX0_forget_15 : decode cX0_forget 15 = .ok (.putfield 25, 3) := by decide +kernel
theorem dX0_forget_18 : decode cX0_forget 18 = .ok (.aload_n 0, 1) := by decide +kernel
theorem dX0_forget_19 : decode cX0_forget 19 = .ok (.bipush (-6), 2) := by decide +kernel
theorem dX0_forget_21 : decode cX0_forget 21 = .ok (.putfield 28, 3) := by decide +kernel
theorem dX0_forget_24 : decode cX0_forget 24 = .ok (.return_, 1) := by decide +kernel
set_option maxRecDepth 20000 in
theorem ggX0_meeting_X3_choose : GoodIn wsX0_meeting wsX3_choose := goodIn_r _ [6, 7, 8, 9, 10, 11, 12, 13, 14, 15, 16, 17, 18, 19, 20, 21, 22, 23, 24, 5, 25, 26, 27, 28, 29, 30, 31, 32, 33, 34, 35, 36, 37, 38, 39, 40, 41, 42, 43, 44, 45, 46, 47, 97, 98, 99, 100, 101, 102, 103, 104, 105, 106, 107, 108, 109, 110, 111, 112, 113, 114, 115, 116] (by decide +kernel) (by decide +kernel)
set_option maxRecDepth 20000 in
theorem gX0_meeting_X3_choose : GoodIn wsX0_meeting (wsV RX0 35 RX3 yX3_choose wsX3_choose) := goodIn_app (goodIn_of _ (by decide +kernel)) ggX0_meeting_X3_choose
set_option maxRecDepth 20000 in
theorem ggX0_meeting_X3_total : GoodIn wsX0_meeting wsX3_total := goodIn_r _ [51, 52, 53, 54, 55, 56, 5, 57, 7, 19, 20, 21, 58, 59, 60, 61, 35, 9, 62, 63, 64, 65, 66, 67, 13, 68, 69, 70, 71, 10, 11, 14, 27, 36, 37, 38, 39, 26, 29, 40, 28, 72, 73, 74, 75, 76, 77, 78, 79, 80, 81, 82, 12, 83, 84, 85, 86, 87, 88, 89, 90, 97, 98, 99, 100, 101, 102, 103, 104, 105, 106, 107, 108, 109, 110, 111, 112, 113, 114, 115, 116] (by decide +kernel) (by decide +kernel)
set_option maxRecDepth 20000 in
theorem gX0_meeting_X3_total : GoodIn wsX0_meeting (wsV RX0 39 RX3 yX3_total wsX3_total) := goodIn_app (goodIn_of _ (by decide +kernel)) ggX0_meeting_X3_total
theorem dX0_meeting_0 : decode cX0_meeting 0 = .ok (.aload_n 0, 1) := by decide +kernel
theorem dX0_meeting_1 : decode cX0_meeting 1 = .ok (.getfield 12, 3) := by decide +kernel
theorem dX0_meeting_4 : decode cX0_meeting 4 = .ok (.aload_n 1, 1) := by decide +kernel
theorem dX0_meeting_5 : decode cX0_meeting 5 = .ok (.iload_n 2, 1) := by decide +kernel
theorem dX0_meeting_6 : decode cX0_meeting 6 = .ok (.invokevirtual 35, 3) := by decide +kernel
theorem dX0_meeting_9 : decode cX0_meeting 9 = .ok (.aload_n 0, 1) := by decide +kernel
theorem dX0_meeting_10 : decode cX0_meeting 10 = .ok (.getfield 12, 3) := by decide +kernel
theorem dX0_meeting_13 : decode cX0_meeting 13 = .ok (.invokevirtual 39, 3) := by decide +kernel
theorem dX0_meeting_16 : decode cX0_meeting 16 = .ok (.ireturn, 1) := by decide +kernel
set_option maxRecDepth 20000 in
theorem ggX0_total_X2_all : GoodIn wsX0_total wsX2_all := goodIn_r _ [7, 8, 102, 103] (by decide +kernel) (by decide +kernel)
set_option maxRecDepth 20000 in
theorem gX0_total_X2_all : GoodIn wsX0_total (wsV RX0 43 RX2 yX2_all wsX2_all) := goodIn_app (goodIn_of _ (by decide +kernel)) ggX0_total_X2_all
set_option maxRecDepth 20000 in
theorem ggX0_total_X3_choose : GoodIn wsX0_total wsX3_choose := goodIn_r _ [13, 14, 15, 16, 17, 18, 19, 20, 21, 22, 23, 24, 25, 26, 27, 28, 29, 30, 31, 12, 32, 33, 34, 35, 36, 37, 38, 39, 40, 41, 42, 43, 44, 45, 46, 47, 48, 49, 50, 6, 51, 8, 52, 104, 105, 106, 107, 108, 109, 110, 111, 112, 102, 103, 113, 114, 115, 116, 117, 118, 119, 120, 121] (by decide +kernel) (by decide +kernel)
set_option maxRecDepth 20000 in
theorem gX0_total_X3_choose : GoodIn wsX0_total (wsV RX0 35 RX3 yX3_choose wsX3_choose) := goodIn_app (goodIn_of _ (by decide +kernel)) ggX0_total_X3_choose
set_option maxRecDepth 20000 in
theorem ggX0_total_X3_total : GoodIn wsX0_total wsX3_total := goodIn_r _ [56, 57, 58, 59, 60, 61, 12, 62, 14, 26, 27, 28, 63, 64, 65, 66, 42, 16, 67, 68, 69, 70, 71, 72, 20, 73, 74, 75, 76, 17, 18, 21, 34, 43, 44, 45, 46, 33, 36, 47, 35, 77, 78, 79, 80, 81, 82, 83, 84, 85, 86, 87, 19, 88, 89, 90, 91, 92, 93, 94, 95, 104, 105, 106, 107, 108, 109, 110, 111, 112, 102, 103, 113, 114, 115, 116, 117, 118, 119, 120, 121] (by decide +kernel) (by decide +kernel)
set_option maxRecDepth 20000 in
theorem gX0_total_X3_total : GoodIn wsX0_total (wsV RX0 39 RX3 yX3_total wsX3_total) := goodIn_app (goodIn_of _ (by decide +kernel)) ggX0_total_X3_total
theorem dX0_total_0 : decode cX0_total 0 = .ok (.aload_n 0, 1) := by decide +kernel
theorem dX0_total_1 : decode cX0_total 1 = .ok (.getfield 18, 3) := by decide +kernel
theorem dX0_total_4 : decode cX0_total 4 = .ok (.bipush (-6), 2) := by decide +kernel
theorem dX0_total_6 : decode cX0_total 6 = .ok (.if_icmp .ne 26, 3) := by decide +kernel
theorem dX0_total_9 : decode cX0_total 9 = .ok (.aload_n 0, 1) := by decide +kernel
theorem dX0_total_10 : decode cX0_total 10 = .ok (.getfield 12, 3) := by decide +kernel
theorem dX0_total_13 : decode cX0_total 13 = .ok (.aload_n 1, 1) := by decide +kernel
theorem dX0_total_14 : decode cX0_total 14 = .ok (.aload_n 1, 1) := by decide +kernel
theorem dX0_total_15 : decode cX0_total 15 = .ok (.invokevirtual 43, 3) := by decide +kernel
theorem dX0_total_18 : decode cX0_total 18 = .ok (.invokevirtual 35, 3) := by decide +kernel
theorem dX0_total_21 : decode cX0_total 21 = .ok (.aload_n 0, 1) := by decide +kernel
theorem dX0_total_22 : decode cX0_total 22 = .ok (.aload_n 0, 1) := by decide +kernel
theorem dX0_total_23 : decode cX0_total 23 = .ok (.getfield 12, 3) := by decide +kernel
theorem dX0_total_26 : decode cX0_total 26 = .ok (.invokevirtual 39, 3) := by decide +kernel
theorem dX0_total_29 : decode cX0_total 29 = .ok (.putfield 18, 3) := by decide +kernel
theorem dX0_total_32 : decode cX0_total 32 = .ok (.aload_n 0, 1) := by decide +kernel
theorem dX0_total_33 : decode cX0_total 33 = .ok (.getfield 18, 3) := by decide +kernel
theorem dX0_total_36 : decode cX0_total 36 = .ok (.ireturn, 1) := by decide +kernel
set_option maxRecDepth 20000 in
theorem ggX0_totalWith_X2_all : GoodIn wsX0_totalWith wsX2_all := goodIn_r _ [6, 7, 102, 103] (by decide +kernel) (by decide +kernel)
set_option maxRecDepth 20000 in
theorem gX0_totalWith_X2_all : GoodIn wsX0_totalWith (wsV RX0 43 RX2 yX2_all wsX2_all) := goodIn_app (goodIn_of _ (by decide +kernel)) ggX0_totalWith_X2_all
set_option maxRecDepth 20000 in
theorem ggX0_totalWith_X3_choose : GoodIn wsX0_totalWith wsX3_choose := goodIn_r _ [12, 13, 14, 15, 16, 17, 18, 19, 20, 21, 22, 23, 24, 25, 26, 27, 28, 29, 30, 11, 31, 32, 33, 34, 35, 36, 37, 38, 39, 40, 41, 42, 43, 44, 45, 46, 47, 48, 49, 5, 50, 7, 51, 104, 105, 106, 107, 108, 109, 110, 111, 112, 102, 103, 113, 114, 115, 116, 117, 118, 119, 120, 121] (by decide +kernel) (by decide +kernel)
set_option maxRecDepth 20000 in
theorem gX0_totalWith_X3_choose : GoodIn wsX0_totalWith (wsV RX0 35 RX3 yX3_choose wsX3_choose) := goodIn_app (goodIn_of _ (by decide +kernel)) ggX0_totalWith_X3_choose
set_option maxRecDepth 20000 in
theorem ggX0_totalWith_X3_take : GoodIn wsX0_totalWith wsX3_take := goodIn_r _ [31, 32, 13, 33, 34, 35, 19, 16, 18, 36, 37, 38, 11, 39, 40, 41, 15, 42, 43, 44, 45, 46, 47, 48, 49, 5, 50, 7, 51, 113, 114, 115, 116, 117, 118, 119, 120, 121, 104, 105, 106, 107, 108, 109, 110, 111, 112, 102, 103] (by decide +kernel) (by decide +kernel)
set_option maxRecDepth 20000 in
theorem gX0_totalWith_X3_take : GoodIn wsX0_totalWith (wsV RX0 48 RX3 yX3_take wsX3_take) := goodIn_app (goodIn_of _ (by decide +kernel)) ggX0_totalWith_X3_take
set_option maxRecDepth 20000 in
theorem ggX0_totalWith_X3_total : GoodIn wsX0_totalWith wsX3_total := goodIn_r _ [56, 57, 58, 59, 60, 61, 11, 62, 13, 25, 26, 27, 63, 64, 65, 66, 41, 15, 67, 68, 69, 70, 71, 72, 19, 73, 74, 75, 76, 16, 17, 20, 33, 42, 43, 44, 45, 32, 35, 46, 34, 77, 78, 79, 80, 81, 82, 83, 84, 85, 86, 87, 18, 88, 89, 90, 91, 92, 93, 94, 95, 104, 105, 106, 107, 108, 109, 110, 111, 112, 102, 103, 113, 114, 115, 116, 117, 118, 119, 120, 121] (by decide +kernel) (by decide +kernel)
set_option maxRecDepth 20000 in
theorem gX0_totalWith_X3_total : GoodIn wsX0_totalWith (wsV RX0 39 RX3 yX3_total wsX3_total) := goodIn_app (goodIn_of _ (by decide +kernel)) ggX0_totalWith_X3_total
theorem dX0_totalWith_0 : decode cX0_totalWith 0 = .ok (.aload_n 0, 1) := by decide +kernel
theorem dX0_totalWith_1 : decode cX0_totalWith 1 = .ok (.getfield 12, 3) := by decide +kernel
theorem dX0_totalWith_4 : decode cX0_totalWith 4 = .ok (.aload_n 1, 1) := by decide +kernel
theorem dX0_totalWith_5 : decode cX0_totalWith 5 = .ok (.aload_n 1, 1) := by decide +kernel
theorem dX0_totalWith_6 : decode cX0_totalWith 6 = .ok (.invokevirtual 43, 3) := by decide +kernel
theorem dX0_totalWith_9 : decode cX0_totalWith 9 = .ok (.invokevirtual 35, 3) := by decide +kernel
theorem dX0_totalWith_12 : decode cX0_totalWith 12 = .ok (.aload_n 0, 1) := by decide +kernel
theorem dX0_totalWith_13 : decode cX0_totalWith 13 = .ok (.getfield 12, 3) := by decide +kernel
theorem dX0_totalWith_16 : decode cX0_totalWith 16 = .ok (.aload_n 2, 1) := by decide +kernel
theorem dX0_totalWith_17 : decode cX0_totalWith 17 = .ok (.invokevirtual 48, 3) := by decide +kernel
theorem dX0_totalWith_20 : decode cX0_totalWith 20 = .ok (.aload_n 0, 1) := by decide +kernel
theorem dX0_totalWith_21 : decode cX0_totalWith 21 = .ok (.getfield 12, 3) := by decide +kernel
theorem dX0_totalWith_24 : decode cX0_totalWith 24 = .ok (.invokevirtual 39, 3) := by decide +kernel
theorem dX0_totalWith_27 : decode cX0_totalWith 27 = .ok (.ireturn, 1) := by decide +kernel
set_option maxRecDepth 20000 in
theorem ggX0_placeIn_X2_all : GoodIn wsX0_placeIn wsX2_all := goodIn_r _ [8, 9, 102, 103] (by decide +kernel) (by decide +kernel)
set_option maxRecDepth 20000 in
theorem gX0_placeIn_X2_all : GoodIn wsX0_placeIn (wsV RX0 43 RX2 yX2_all wsX2_all) := goodIn_app (goodIn_of _ (by decide +kernel)) ggX0_placeIn_X2_all
set_option maxRecDepth 20000 in
theorem ggX0_placeIn_X3_choose : GoodIn wsX0_placeIn wsX3_choose := goodIn_r _ [14, 15, 16, 17, 18, 19, 20, 21, 22, 23, 24, 25, 26, 27, 28, 29, 30, 31, 32, 13, 33, 34, 35, 36, 37, 38, 39, 40, 41, 42, 43, 44, 45, 46, 47, 48, 49, 50, 51, 7, 52, 9, 53, 104, 105, 106, 107, 108, 109, 110, 111, 112, 102, 103, 113, 114, 115, 116, 117, 118, 119, 120, 121] (by decide +kernel) (by decide +kernel)
set_option maxRecDepth 20000 in
theorem gX0_placeIn_X3_choose : GoodIn wsX0_placeIn (wsV RX0 35 RX3 yX3_choose wsX3_choose) := goodIn_app (goodIn_of _ (by decide +kernel)) ggX0_placeIn_X3_choose
set_option maxRecDepth 20000 in
theorem ggX0_placeIn_X3_passOver : GoodIn wsX0_placeIn wsX3_passOver := goodIn_r _ [57, 58, 15, 27, 28, 29, 59, 60, 61, 13, 62, 43, 17, 63, 64, 65, 66, 67, 68, 21, 69, 70, 71, 72, 18, 19, 22, 35, 44, 45, 46, 47, 34, 37, 48, 36, 73, 74, 75, 76, 77, 78, 79, 80, 81, 82, 83, 20, 84, 85, 86, 87, 88, 89, 90, 91, 104, 105, 106, 107, 108, 109, 110, 111, 112, 102, 103, 113, 114, 115, 116, 117, 118, 119, 120, 121] (by decide +kernel) (by decide +kernel)
set_option maxRecDepth 20000 in
theorem gX0_placeIn_X3_passOver : GoodIn wsX0_placeIn (wsV RX0 52 RX3 yX3_passOver wsX3_passOver) := goodIn_app (goodIn_of _ (by decide +kernel)) ggX0_placeIn_X3_passOver
set_option maxRecDepth 20000 in
theorem ggX0_placeIn_X3_placeOf : GoodIn wsX0_placeIn wsX3_placeOf := goodIn_r _ [95, 48, 43, 104, 105, 106, 107, 108, 109, 110, 111, 112] (by decide +kernel) (by decide +kernel)
set_option maxRecDepth 20000 in
theorem gX0_placeIn_X3_placeOf : GoodIn wsX0_placeIn (wsV RX0 56 RX3 yX3_placeOf wsX3_placeOf) := goodIn_app (goodIn_of _ (by decide +kernel)) ggX0_placeIn_X3_placeOf
theorem dX0_placeIn_0 : decode cX0_placeIn 0 = .ok (.iload_n 2, 1) := by decide +kernel
theorem dX0_placeIn_1 : decode cX0_placeIn 1 = .ok (.aload_n 0, 1) := by decide +kernel
theorem dX0_placeIn_2 : decode cX0_placeIn 2 = .ok (.getfield 28, 3) := by decide +kernel
theorem dX0_placeIn_5 : decode cX0_placeIn 5 = .ok (.if_icmp .eq 66, 3) := by decide +kernel
theorem dX0_placeIn_8 : decode cX0_placeIn 8 = .ok (.aload_n 0, 1) := by decide +kernel
theorem dX0_placeIn_9 : decode cX0_placeIn 9 = .ok (.getfield 12, 3) := by decide +kernel
theorem dX0_placeIn_12 : decode cX0_placeIn 12 = .ok (.aload_n 1, 1) := by decide +kernel
theorem dX0_placeIn_13 : decode cX0_placeIn 13 = .ok (.aload_n 1, 1) := by decide +kernel
theorem dX0_placeIn_14 : decode cX0_placeIn 14 = .ok (.invokevirtual 43, 3) := by decide +kernel
theorem dX0_placeIn_17 : decode cX0_placeIn 17 = .ok (.invokevirtual 35, 3) := by decide +kernel
theorem dX0_placeIn_20 : decode cX0_placeIn 20 = .ok (.aload_n 0, 1) := by decide +kernel
theorem dX0_placeIn_21 : decode cX0_placeIn 21 = .ok (.getfield 12, 3) := by decide +kernel
theorem dX0_placeIn_24 : decode cX0_placeIn 24 = .ok (.iload_n 2, 1) := by decide +kernel
theorem dX0_placeIn_25 : decode cX0_placeIn 25 = .ok (.invokevirtual 52, 3) := by decide +kernel
theorem dX0_placeIn_28 : decode cX0_placeIn 28 = .ok (.ifCond .ne 6, 3) := by decide +kernel
theorem dX0_placeIn_31 : decode cX0_placeIn 31 = .ok (.bipush (-6), 2) := by decide +kernel
theorem dX0_placeIn_33 : decode cX0_placeIn 33 = .ok (.ireturn, 1) := by decide +kernel
theorem dX0_placeIn_34 : decode cX0_placeIn 34 = .ok (.iconst 0, 1) := by decide +kernel
theorem dX0_placeIn_35 : decode cX0_placeIn 35 = .ok (.istore 4, 2) := by decide +kernel
theorem dX0_placeIn_37 : decode cX0_placeIn 37 = .ok (.iload 4, 2) := by decide +kernel
theorem dX0_placeIn_39 : decode cX0_placeIn 39 = .ok (.bipush 16, 2) := by decide +kernel
theorem dX0_placeIn_41 : decode cX0_placeIn 41 = .ok (.if_icmp .ge 25, 3) := by decide +kernel
theorem dX0_placeIn_44 : decode cX0_placeIn 44 = .ok (.aload_n 0, 1) := by decide +kernel
theorem dX0_placeIn_45 : decode cX0_placeIn 45 = .ok (.getfield 31, 3) := by decide +kernel
theorem dX0_placeIn_48 : decode cX0_placeIn 48 = .ok (.iload 4, 2) := by decide +kernel
theorem dX0_placeIn_50 : decode cX0_placeIn 50 = .ok (.aload_n 0, 1) := by decide +kernel
theorem dX0_placeIn_51 : decode cX0_placeIn 51 = .ok (.getfield 12, 3) := by decide +kernel
theorem dX0_placeIn_54 : decode cX0_placeIn 54 = .ok (.iload 4, 2) := by decide +kernel
theorem dX0_placeIn_56 : decode cX0_placeIn 56 = .ok (.invokevirtual 56, 3) := by decide +kernel
theorem dX0_placeIn_59 : decode cX0_placeIn 59 = .ok (.iastore, 1) := by decide +kernel
theorem dX0_placeIn_60 : decode cX0_placeIn 60 = .ok (.iinc 4 1, 3) := by decide +kernel
theorem dX0_placeIn_63 : decode cX0_placeIn 63 = .ok (.goto (-26), 3) := by decide +kernel
theorem dX0_placeIn_66 : decode cX0_placeIn 66 = .ok (.aload_n 0, 1) := by decide +kernel
theorem dX0_placeIn_67 : decode cX0_placeIn 67 = .ok (.iload_n 2, 1) := by decide +kernel
theorem dX0_placeIn_68 : decode cX0_placeIn 68 = .ok (.putfield 28, 3) := by decide +kernel
theorem dX0_placeIn_71 : decode cX0_placeIn 71 = .ok (.aload_n 0, 1) := by decide +kernel
theorem dX0_placeIn_72 : decode cX0_placeIn 72 = .ok (.getfield 31, 3) := by decide +kernel
theorem dX0_placeIn_75 : decode cX0_placeIn 75 = .ok (.iload_n 3, 1) := by decide +kernel
theorem dX0_placeIn_76 : decode cX0_placeIn 76 = .ok (.iaload, 1) := by decide +kernel
theorem dX0_placeIn_77 : decode cX0_placeIn 77 = .ok (.ireturn, 1) := by decide +kernel
set_option maxRecDepth 20000 in
theorem ggX0_needlessSet_X2_all : GoodIn wsX0_needlessSet wsX2_all := goodIn_r _ [7, 8, 133, 134] (by decide +kernel) (by decide +kernel)
set_option maxRecDepth 20000 in
theorem gX0_needlessSet_X2_all : GoodIn wsX0_needlessSet (wsV RX0 43 RX2 yX2_all wsX2_all) := goodIn_app (goodIn_of _ (by decide +kernel)) ggX0_needlessSet_X2_all
set_option maxRecDepth 20000 in
theorem ggX0_needlessSet_X0_isNeedlessAmong : GoodIn wsX0_needlessSet wsX0_isNeedlessAmong := goodIn_r _ [13, 14, 15, 16, 17, 18, 19, 20, 21, 22, 23, 24, 25, 26, 27, 28, 29, 30, 31, 32, 33, 34, 35, 36, 37, 38, 39, 40, 41, 42, 43, 44, 45, 46, 47, 48, 49, 50, 51, 52, 53, 54, 55, 56, 57, 6, 58, 8, 59, 60, 61, 62, 63, 64, 65, 66, 67, 68, 69, 70, 71, 72, 73, 74, 75, 76, 77, 78, 79, 80, 81, 82, 83, 84, 85, 86, 87, 88, 89, 90, 91, 92, 93, 94, 95, 96, 97, 98, 99, 100, 101, 102, 103, 104, 105, 106, 107, 108, 109, 110, 111, 112, 113, 114, 115, 116, 117, 118, 119, 120, 121, 122, 123, 124, 125, 126, 127, 128, 129, 130, 131, 132, 133, 134, 135, 136, 137, 138, 139, 140, 141, 142, 143, 144, 145, 146, 147, 148, 149, 150, 151, 152] (by decide +kernel) (by decide +kernel)
set_option maxRecDepth 20000 in
theorem gX0_needlessSet_X0_isNeedlessAmong : GoodIn wsX0_needlessSet (wsV RX0 63 RX0 yX0_isNeedlessAmong wsX0_isNeedlessAmong) := goodIn_app (goodIn_of _ (by decide +kernel)) ggX0_needlessSet_X0_isNeedlessAmong
theorem dX0_needlessSet_0 : decode cX0_needlessSet 0 = .ok (.aload_n 0, 1) := by decide +kernel
theorem dX0_needlessSet_1 : decode cX0_needlessSet 1 = .ok (.getfield 22, 3) := by decide +kernel
theorem dX0_needlessSet_4 : decode cX0_needlessSet 4 = .ok (.bipush (-6), 2) := by decide +kernel
theorem dX0_needlessSet_6 : decode cX0_needlessSet 6 = .ok (.if_icmp .ne 45, 3) := by decide +kernel
theorem dX0_needlessSet_9 : decode cX0_needlessSet 9 = .ok (.iconst 0, 1) := by decide +kernel
theorem dX0_needlessSet_10 : decode cX0_needlessSet 10 = .ok (.istore_n 2, 1) := by decide +kernel
theorem dX0_needlessSet_11 : decode cX0_needlessSet 11 = .ok (.iconst 0, 1) := by decide +kernel
theorem dX0_needlessSet_12 : decode cX0_needlessSet 12 = .ok (.istore_n 3, 1) := by decide +kernel
theorem dX0_needlessSet_13 : decode cX0_needlessSet 13 = .ok (.iload_n 3, 1) := by decide +kernel
theorem dX0_needlessSet_14 : decode cX0_needlessSet 14 = .ok (.aload_n 1, 1) := by decide +kernel
theorem dX0_needlessSet_15 : decode cX0_needlessSet 15 = .ok (.getfield 60, 3) := by decide +kernel
theorem dX0_needlessSet_18 : decode cX0_needlessSet 18 = .ok (.if_icmp .ge 28, 3) := by decide +kernel
theorem dX0_needlessSet_21 : decode cX0_needlessSet 21 = .ok (.aload_n 0, 1) := by decide +kernel
theorem dX0_needlessSet_22 : decode cX0_needlessSet 22 = .ok (.aload_n 1, 1) := by decide +kernel
theorem dX0_needlessSet_23 : decode cX0_needlessSet 23 = .ok (.aload_n 1, 1) := by decide +kernel
theorem dX0_needlessSet_24 : decode cX0_needlessSet 24 = .ok (.invokevirtual 43, 3) := by decide +kernel
theorem dX0_needlessSet_27 : decode cX0_needlessSet 27 = .ok (.iload_n 3, 1) := by decide +kernel
theorem dX0_needlessSet_28 : decode cX0_needlessSet 28 = .ok (.invokevirtual 63, 3) := by decide +kernel
theorem dX0_needlessSet_31 : decode cX0_needlessSet 31 = .ok (.ifCond .eq 9, 3) := by decide +kernel
theorem dX0_needlessSet_34 : decode cX0_needlessSet 34 = .ok (.iload_n 2, 1) := by decide +kernel
theorem dX0_needlessSet_35 : decode cX0_needlessSet 35 = .ok (.iconst 1, 1) := by decide +kernel
theorem dX0_needlessSet_36 : decode cX0_needlessSet 36 = .ok (.iload_n 3, 1) := by decide +kernel
theorem dX0_needlessSet_37 : decode cX0_needlessSet 37 = .ok (.ishl, 1) := by decide +kernel
theorem dX0_needlessSet_38 : decode cX0_needlessSet 38 = .ok (.ior, 1) := by decide +kernel
theorem dX0_needlessSet_39 : decode cX0_needlessSet 39 = .ok (.istore_n 2, 1) := by decide +kernel
theorem dX0_needlessSet_40 : decode cX0_needlessSet 40 = .ok (.iinc 3 1, 3) := by decide +kernel
theorem dX0_needlessSet_43 : decode cX0_needlessSet 43 = .ok (.goto (-30), 3) := by decide +kernel
theorem dX0_needlessSet_46 : decode cX0_needlessSet 46 = .ok (.aload_n 0, 1) := by decide +kernel
theorem dX0_needlessSet_47 : decode cX0_needlessSet 47 = .ok (.iload_n 2, 1) := by decide +kernel
theorem dX0_needlessSet_48 : decode cX0_needlessSet 48 = .ok (.putfield 22, 3) := by decide +kernel
theorem dX0_needlessSet_51 : decode cX0_needlessSet 51 = .ok (.aload_n 0, 1) := by decide +kernel
theorem dX0_needlessSet_52 : decode cX0_needlessSet 52 = .ok (.getfield 22, 3) := by decide +kernel
theorem dX0_needlessSet_55 : decode cX0_needlessSet 55 = .ok (.ireturn, 1) := by decide +kernel
set_option maxRecDepth 20000 in
theorem ggX0_coreSet_X2_all : GoodIn wsX0_coreSet wsX2_all := goodIn_r _ [7, 8, 133, 134] (by decide +kernel) (by decide +kernel)
set_option maxRecDepth 20000 in
theorem gX0_coreSet_X2_all : GoodIn wsX0_coreSet (wsV RX0 43 RX2 yX2_all wsX2_all) := goodIn_app (goodIn_of _ (by decide +kernel)) ggX0_coreSet_X2_all
set_option maxRecDepth 20000 in
theorem ggX0_coreSet_X0_isNeedlessAmong : GoodIn wsX0_coreSet wsX0_isNeedlessAmong := goodIn_r _ [13, 14, 15, 16, 17, 18, 19, 20, 21, 22, 23, 24, 25, 26, 27, 28, 29, 30, 31, 32, 33, 34, 35, 36, 37, 38, 39, 40, 41, 42, 43, 44, 45, 46, 47, 48, 49, 50, 51, 52, 53, 54, 55, 56, 57, 6, 58, 8, 59, 60, 61, 62, 63, 64, 65, 66, 67, 68, 69, 70, 71, 72, 73, 74, 75, 76, 77, 78, 79, 80, 81, 82, 83, 84, 85, 86, 87, 88, 89, 90, 91, 92, 93, 94, 95, 96, 97, 98, 99, 100, 101, 102, 103, 104, 105, 106, 107, 108, 109, 110, 111, 112, 113, 114, 115, 116, 117, 118, 119, 120, 121, 122, 123, 124, 125, 126, 127, 128, 129, 130, 131, 132, 133, 134, 135, 136, 137, 138, 139, 140, 141, 142, 143, 144, 145, 146, 147, 148, 149, 150, 151, 152] (by decide +kernel) (by decide +kernel)
set_option maxRecDepth 20000 in
theorem gX0_coreSet_X0_isNeedlessAmong : GoodIn wsX0_coreSet (wsV RX0 63 RX0 yX0_isNeedlessAmong wsX0_isNeedlessAmong) := goodIn_app (goodIn_of _ (by decide +kernel)) ggX0_coreSet_X0_isNeedlessAmong
theorem dX0_coreSet_0 : decode cX0_coreSet 0 = .ok (.aload_n 0, 1) := by decide +kernel
theorem dX0_coreSet_1 : decode cX0_coreSet 1 = .ok (.getfield 25, 3) := by decide +kernel
theorem dX0_coreSet_4 : decode cX0_coreSet 4 = .ok (.bipush (-6), 2) := by decide +kernel
theorem dX0_coreSet_6 : decode cX0_coreSet 6 = .ok (.if_icmp .ne 48, 3) := by decide +kernel
theorem dX0_coreSet_9 : decode cX0_coreSet 9 = .ok (.aload_n 1, 1) := by decide +kernel
theorem dX0_coreSet_10 : decode cX0_coreSet 10 = .ok (.invokevirtual 43, 3) := by decide +kernel
theorem dX0_coreSet_13 : decode cX0_coreSet 13 = .ok (.istore_n 2, 1) := by decide +kernel
theorem dX0_coreSet_14 : decode cX0_coreSet 14 = .ok (.aload_n 1, 1) := by decide +kernel
theorem dX0_coreSet_15 : decode cX0_coreSet 15 = .ok (.getfield 60, 3) := by decide +kernel
theorem dX0_coreSet_18 : decode cX0_coreSet 18 = .ok (.iconst 1, 1) := by decide +kernel
theorem dX0_coreSet_19 : decode cX0_coreSet 19 = .ok (.isub, 1) := by decide +kernel
theorem dX0_coreSet_20 : decode cX0_coreSet 20 = .ok (.istore_n 3, 1) := by decide +kernel
theorem dX0_coreSet_21 : decode cX0_coreSet 21 = .ok (.iload_n 3, 1) := by decide +kernel
theorem dX0_coreSet_22 : decode cX0_coreSet 22 = .ok (.ifCond .lt 27, 3) := by decide +kernel
theorem dX0_coreSet_25 : decode cX0_coreSet 25 = .ok (.aload_n 0, 1) := by decide +kernel
theorem dX0_coreSet_26 : decode cX0_coreSet 26 = .ok (.aload_n 1, 1) := by decide +kernel
theorem dX0_coreSet_27 : decode cX0_coreSet 27 = .ok (.iload_n 2, 1) := by decide +kernel
theorem dX0_coreSet_28 : decode cX0_coreSet 28 = .ok (.iload_n 3, 1) := by decide +kernel
theorem dX0_coreSet_29 : decode cX0_coreSet 29 = .ok (.invokevirtual 63, 3) := by decide +kernel
theorem dX0_coreSet_32 : decode cX0_coreSet 32 = .ok (.ifCond .eq 11, 3) := by decide +kernel
theorem dX0_coreSet_35 : decode cX0_coreSet 35 = .ok (.iload_n 2, 1) := by decide +kernel
theorem dX0_coreSet_36 : decode cX0_coreSet 36 = .ok (.iconst 1, 1) := by decide +kernel
theorem dX0_coreSet_37 : decode cX0_coreSet 37 = .ok (.iload_n 3, 1) := by decide +kernel
theorem dX0_coreSet_38 : decode cX0_coreSet 38 = .ok (.ishl, 1) := by decide +kernel
theorem dX0_coreSet_39 : decode cX0_coreSet 39 = .ok (.iconst (-1), 1) := by decide +kernel
theorem dX0_coreSet_40 : decode cX0_coreSet 40 = .ok (.ixor, 1) := by decide +kernel
theorem dX0_coreSet_41 : decode cX0_coreSet 41 = .ok (.iand, 1) := by decide +kernel
theorem dX0_coreSet_42 : decode cX0_coreSet 42 = .ok (.istore_n 2, 1) := by decide +kernel
theorem dX0_coreSet_43 : decode cX0_coreSet 43 = .ok (.iinc 3 (-1), 3) := by decide +kernel
theorem dX0_coreSet_46 : decode cX0_coreSet 46 = .ok (.goto (-25), 3) := by decide +kernel
theorem dX0_coreSet_49 : decode cX0_coreSet 49 = .ok (.aload_n 0, 1) := by decide +kernel
theorem dX0_coreSet_50 : decode cX0_coreSet 50 = .ok (.iload_n 2, 1) := by decide +kernel
theorem dX0_coreSet_51 : decode cX0_coreSet 51 = .ok (.putfield 25, 3) := by decide +kernel
theorem dX0_coreSet_54 : decode cX0_coreSet 54 = .ok (.aload_n 0, 1) := by decide +kernel
theorem dX0_coreSet_55 : decode cX0_coreSet 55 = .ok (.getfield 25, 3) := by decide +kernel
theorem dX0_coreSet_58 : decode cX0_coreSet 58 = .ok (.ireturn, 1) := by decide +kernel
set_option maxRecDepth 20000 in
theorem ggX0_isNeedlessAmong_X3_choose : GoodIn wsX0_isNeedlessAmong wsX3_choose := goodIn_r _ [7, 8, 9, 10, 11, 12, 13, 14, 15, 16, 17, 18, 19, 20, 21, 22, 23, 24, 25, 6, 26, 27, 28, 29, 30, 31, 32, 33, 34, 35, 36, 37, 38, 39, 40, 41, 42, 43, 44, 45, 46, 47, 48, 124, 125, 126, 127, 128, 129, 130, 131, 132, 122, 123, 133, 134, 135, 136, 137, 138, 139, 140, 141] (by decide +kernel) (by decide +kernel)
set_option maxRecDepth 20000 in
theorem gX0_isNeedlessAmong_X3_choose : GoodIn wsX0_isNeedlessAmong (wsV RX0 35 RX3 yX3_choose wsX3_choose) := goodIn_app (goodIn_of _ (by decide +kernel)) ggX0_isNeedlessAmong_X3_choose
set_option maxRecDepth 20000 in
theorem ggX0_isNeedlessAmong_X1_opposite : GoodIn wsX0_isNeedlessAmong wsX1_opposite := goodIn_r _ [53, 54, 55, 52, 56, 57, 58, 59, 60, 61, 62, 63, 64, 65, 66, 67, 68, 69, 70, 71, 72, 73, 74, 75, 76, 133, 134, 135, 136, 137, 138, 139, 140, 141] (by decide +kernel) (by decide +kernel)
set_option maxRecDepth 20000 in
theorem gX0_isNeedlessAmong_X1_opposite : GoodIn wsX0_isNeedlessAmong (wsV RX0 71 RX1 yX1_opposite wsX1_opposite) := goodIn_app (goodIn_of _ (by decide +kernel)) ggX0_isNeedlessAmong_X1_opposite
set_option maxRecDepth 20000 in
theorem ggX0_isNeedlessAmong_X3_take : GoodIn wsX0_isNeedlessAmong wsX3_take := goodIn_r _ [26, 27, 8, 28, 29, 30, 14, 11, 13, 31, 32, 33, 6, 34, 35, 36, 10, 37, 38, 39, 40, 41, 42, 43, 44, 45, 46, 47, 48, 133, 134, 135, 136, 137, 138, 139, 140, 141, 124, 125, 126, 127, 128, 129, 130, 131, 132, 122, 123] (by decide +kernel) (by decide +kernel)
set_option maxRecDepth 20000 in
theorem gX0_isNeedlessAmong_X3_take : GoodIn wsX0_isNeedlessAmong (wsV RX0 48 RX3 yX3_take wsX3_take) := goodIn_app (goodIn_of _ (by decide +kernel)) ggX0_isNeedlessAmong_X3_take
set_option maxRecDepth 20000 in
theorem ggX0_isNeedlessAmong_X3_passOver : GoodIn wsX0_isNeedlessAmong wsX3_passOver := goodIn_r _ [81, 82, 8, 20, 21, 22, 83, 84, 85, 6, 86, 36, 10, 87, 88, 89, 90, 91, 92, 14, 93, 94, 95, 96, 11, 12, 15, 28, 37, 38, 39, 40, 27, 30, 41, 29, 97, 98, 99, 100, 101, 102, 103, 104, 105, 106, 107, 13, 108, 109, 110, 111, 112, 113, 114, 115, 124, 125, 126, 127, 128, 129, 130, 131, 132, 122, 123, 133, 134, 135, 136, 137, 138, 139, 140, 141] (by decide +kernel) (by decide +kernel)
set_option maxRecDepth 20000 in
theorem gX0_isNeedlessAmong_X3_passOver : GoodIn wsX0_isNeedlessAmong (wsV RX0 52 RX3 yX3_passOver wsX3_passOver) := goodIn_app (goodIn_of _ (by decide +kernel)) ggX0_isNeedlessAmong_X3_passOver
theorem dX0_isNeedlessAmong_0 : decode cX0_isNeedlessAmong 0 = .ok (.aload_n 0, 1) := by decide +kernel
theorem dX0_isNeedlessAmong_1 : decode cX0_isNeedlessAmong 1 = .ok (.getfield 12, 3) := by decide +kernel
theorem dX0_isNeedlessAmong_4 : decode cX0_isNeedlessAmong 4 = .ok (.aload_n 1, 1) := by decide +kernel
theorem dX0_isNeedlessAmong_5 : decode cX0_isNeedlessAmong 5 = .ok (.iload_n 2, 1) := by decide +kernel
theorem dX0_isNeedlessAmong_6 : decode cX0_isNeedlessAmong 6 = .ok (.iconst 1, 1) := by decide +kernel
theorem dX0_isNeedlessAmong_7 : decode cX0_isNeedlessAmong 7 = .ok (.iload_n 3, 1) := by decide +kernel
theorem dX0_isNeedlessAmong_8 : decode cX0_isNeedlessAmong 8 = .ok (.ishl, 1) := by decide +kernel
theorem dX0_isNeedlessAmong_9 : decode cX0_isNeedlessAmong 9 = .ok (.iconst (-1), 1) := by decide +kernel
theorem dX0_isNeedlessAmong_10 : decode cX0_isNeedlessAmong 10 = .ok (.ixor, 1) := by decide +kernel
theorem dX0_isNeedlessAmong_11 : decode cX0_isNeedlessAmong 11 = .ok (.iand, 1) := by decide +kernel
theorem dX0_isNeedlessAmong_12 : decode cX0_isNeedlessAmong 12 = .ok (.invokevirtual 35, 3) := by decide +kernel
theorem dX0_isNeedlessAmong_15 : decode cX0_isNeedlessAmong 15 = .ok (.aload_n 0, 1) := by decide +kernel
theorem dX0_isNeedlessAmong_16 : decode cX0_isNeedlessAmong 16 = .ok (.getfield 12, 3) := by decide +kernel
theorem dX0_isNeedlessAmong_19 : decode cX0_isNeedlessAmong 19 = .ok (.aload_n 1, 1) := by decide +kernel
theorem dX0_isNeedlessAmong_20 : decode cX0_isNeedlessAmong 20 = .ok (.getfield 67, 3) := by decide +kernel
theorem dX0_isNeedlessAmong_23 : decode cX0_isNeedlessAmong 23 = .ok (.iload_n 3, 1) := by decide +kernel
theorem dX0_isNeedlessAmong_24 : decode cX0_isNeedlessAmong 24 = .ok (.aaload, 1) := by decide +kernel
theorem dX0_isNeedlessAmong_25 : decode cX0_isNeedlessAmong 25 = .ok (.invokevirtual 71, 3) := by decide +kernel
theorem dX0_isNeedlessAmong_28 : decode cX0_isNeedlessAmong 28 = .ok (.invokevirtual 48, 3) := by decide +kernel
theorem dX0_isNeedlessAmong_31 : decode cX0_isNeedlessAmong 31 = .ok (.aload_n 0, 1) := by decide +kernel
theorem dX0_isNeedlessAmong_32 : decode cX0_isNeedlessAmong 32 = .ok (.getfield 12, 3) := by decide +kernel
theorem dX0_isNeedlessAmong_35 : decode cX0_isNeedlessAmong 35 = .ok (.iconst 0, 1) := by decide +kernel
theorem dX0_isNeedlessAmong_36 : decode cX0_isNeedlessAmong 36 = .ok (.invokevirtual 52, 3) := by decide +kernel
theorem dX0_isNeedlessAmong_39 : decode cX0_isNeedlessAmong 39 = .ok (.ifCond .ne 7, 3) := by decide +kernel
theorem dX0_isNeedlessAmong_42 : decode cX0_isNeedlessAmong 42 = .ok (.iconst 1, 1) := by decide +kernel
theorem dX0_isNeedlessAmong_43 : decode cX0_isNeedlessAmong 43 = .ok (.goto 4, 3) := by decide +kernel
theorem dX0_isNeedlessAmong_46 : decode cX0_isNeedlessAmong 46 = .ok (.iconst 0, 1) := by decide +kernel
theorem dX0_isNeedlessAmong_47 : decode cX0_isNeedlessAmong 47 = .ok (.ireturn, 1) := by decide +kernel
theorem dX1_init_0 : decode cX1_init 0 = .ok (.aload_n 0, 1) := by decide +kernel
theorem dX1_init_1 : decode cX1_init 1 = .ok (.invokespecial 5, 3) := by decide +kernel
theorem dX1_init_4 : decode cX1_init 4 = .ok (.aload_n 0, 1) := by decide +kernel
theorem dX1_init_5 : decode cX1_init 5 = .ok (.bipush (-6), 2) := by decide +kernel
theorem dX1_init_7 : decode cX1_init 7 = .ok (.putfield 11, 3) := by decide +kernel
theorem dX1_init_10 : decode cX1_init 10 = .ok (.aload_n 0, 1) := by decide +kernel
theorem dX1_init_11 : decode cX1_init 11 = .ok (.bipush (-6), 2) := by decide +kernel
theorem dX1_init_13 : decode cX1_init 13 = .ok (.putfield 15, 3) := by decide +kernel
theorem dX1_init_16 : decode cX1_init 16 = .ok (.aload_n 0, 1) := by decide +kernel
theorem dX1_init_17 : decode cX1_init 17 = .ok (.bipush 16, 2) := by decide +kernel
theorem dX1_init_19 : decode cX1_init 19 = .ok (.newarray .int, 2) := by decide +kernel
theorem dX1_init_21 : decode cX1_init 21 = .ok (.putfield 18, 3) := by decide +kernel
theorem dX1_init_24 : decode cX1_init 24 = .ok (.aload_n 0, 1) := by decide +kernel
theorem dX1_init_25 : decode cX1_init 25 = .ok (.iload_n 1, 1) := by decide +kernel
theorem dX1_init_26 : decode cX1_init 26 = .ok (.putfield 22, 3) := by decide +kernel
theorem dX1_init_29 : decode cX1_init 29 = .ok (.aload_n 0, 1) := by decide +kernel
theorem dX1_init_30 : decode cX1_init 30 = .ok (.iload_n 2, 1) := by decide +kernel
theorem dX1_init_31 : decode cX1_init 31 = .ok (.putfield 25, 3) := by decide +kernel
theorem dX1_init_34 : decode cX1_init 34 = .ok (.aload_n 0, 1) := by decide +kernel
theorem dX1_init_35 : decode cX1_init 35 = .ok (.iload_n 3, 1) := by decide +kernel
theorem dX1_init_36 : decode cX1_init 36 = .ok (.putfield 28, 3) := by decide +kernel
theorem dX1_init_39 : decode cX1_init 39 = .ok (.aload_n 0, 1) := by decide +kernel
theorem dX1_init_40 : decode cX1_init 40 = .ok (.iload 4, 2) := by decide +kernel
theorem dX1_init_42 : decode cX1_init 42 = .ok (.putfield 31, 3) := by decide +kernel
theorem dX1_init_45 : decode cX1_init 45 = .ok (.aload_n 0, 1) := by decide +kernel
theorem dX1_init_46 : decode cX1_init 46 = .ok (.iload 5, 2) := by decide +kernel
theorem dX1_init_48 : decode cX1_init 48 = .ok (.putfield 34, 3) := by decide +kernel
theorem dX1_init_51 : decode cX1_init 51 = .ok (.aload_n 0, 1) := by decide +kernel
theorem dX1_init_52 : decode cX1_init 52 = .ok (.iload_n 2, 1) := by decide +kernel
theorem dX1_init_53 : decode cX1_init 53 = .ok (.iload_n 3, 1) := by decide +kernel
theorem dX1_init_54 : decode cX1_init 54 = .ok (.iload 4, 2) := by decide +kernel
theorem dX1_init_56 : decode cX1_init 56 = .ok (.invokestatic 37, 3) := by decide +kernel
theorem dX1_init_59 : decode cX1_init 59 = .ok (.invokestatic 37, 3) := by decide +kernel
theorem dX1_init_62 : decode cX1_init 62 = .ok (.iconst 4, 1) := by decide +kernel
theorem dX1_init_63 : decode cX1_init 63 = .ok (.idiv, 1) := by decide +kernel
theorem dX1_init_64 : decode cX1_init 64 = .ok (.putfield 43, 3) := by decide +kernel
theorem dX1_init_67 : decode cX1_init 67 = .ok (.return_, 1) := by decide +kernel
set_option maxRecDepth 20000 in
theorem ggX1_of_X1_init : GoodIn wsX1_of wsX1_init := goodIn_r _ [6, 7, 8, 9, 10, 11, 12, 13, 14, 15, 16, 17, 18, 19, 20, 21, 22, 23, 56, 57, 58, 59, 60, 61, 62, 63, 64] (by decide +kernel) (by decide +kernel)
set_option maxRecDepth 20000 in
theorem gX1_of_X1_init : GoodIn wsX1_of (wsX1_init) := ggX1_of_X1_init
set_option maxRecDepth 20000 in
theorem ggX1_of_X1_findLowItems : GoodIn wsX1_of wsX1_findLowItems := goodIn_r _ [27, 23, 10, 19, 20, 21, 22, 11, 28, 29, 30, 31, 32, 33, 3, 34, 14, 35, 36, 37, 38, 15, 16, 17, 56, 57, 58, 59, 60, 61, 62, 63, 64] (by decide +kernel) (by decide +kernel)
set_option maxRecDepth 20000 in
theorem gX1_of_X1_findLowItems : GoodIn wsX1_of (wsV RX1 49 RX1 yX1_findLowItems wsX1_findLowItems) := goodIn_app (goodIn_of _ (by decide +kernel)) ggX1_of_X1_findLowItems
set_option maxRecDepth 20000 in
theorem ggX1_of_X1_fillAllowed : GoodIn wsX1_of wsX1_fillAllowed := goodIn_r _ [42, 31, 32, 33, 3, 34, 14, 43, 44, 45, 46, 47, 48, 21, 49, 18, 50, 51, 52, 53, 54, 23, 55, 10, 13, 35, 36, 37, 38, 15, 16, 17, 56, 57, 58, 59, 60, 61, 62, 63, 64] (by decide +kernel) (by decide +kernel)
set_option maxRecDepth 20000 in
theorem gX1_of_X1_fillAllowed : GoodIn wsX1_of (wsV RX1 52 RX1 yX1_fillAllowed wsX1_fillAllowed) := goodIn_app (goodIn_of _ (by decide +kernel)) ggX1_of_X1_fillAllowed
theorem dX1_of_0 : decode cX1_of 0 = .ok (.new 1, 3) := by decide +kernel
theorem dX1_of_3 : decode cX1_of 3 = .ok (.dup, 1) := by decide +kernel
theorem dX1_of_4 : decode cX1_of 4 = .ok (.iload_n 0, 1) := by decide +kernel
theorem dX1_of_5 : decode cX1_of 5 = .ok (.iload_n 1, 1) := by decide +kernel
theorem dX1_of_6 : decode cX1_of 6 = .ok (.iload_n 2, 1) := by decide +kernel
theorem dX1_of_7 : decode cX1_of 7 = .ok (.iload_n 3, 1) := by decide +kernel
theorem dX1_of_8 : decode cX1_of 8 = .ok (.iload 4, 2) := by decide +kernel
theorem dX1_of_10 : decode cX1_of 10 = .ok (.invokespecial 46, 3) := by decide +kernel
theorem dX1_of_13 : decode cX1_of 13 = .ok (.astore 5, 2) := by decide +kernel
theorem dX1_of_15 : decode cX1_of 15 = .ok (.aload 5, 2) := by decide +kernel
theorem dX1_of_17 : decode cX1_of 17 = .ok (.invokevirtual 49, 3) := by decide +kernel
theorem dX1_of_20 : decode cX1_of 20 = .ok (.aload 5, 2) := by decide +kernel
theorem dX1_of_22 : decode cX1_of 22 = .ok (.invokevirtual 52, 3) := by decide +kernel
theorem dX1_of_25 : decode cX1_of 25 = .ok (.aload 5, 2) := by decide +kernel
theorem dX1_of_27 : decode cX1_of 27 = .ok (.areturn, 1) := by decide +kernel
set_option maxRecDepth 20000 in
theorem ggX1_opposite_X1_init : GoodIn wsX1_opposite wsX1_init := goodIn_r _ [15, 16, 17, 18, 9, 10, 19, 11, 4, 5, 6, 7, 8, 20, 21, 22, 23, 24, 25, 26, 27, 28, 29, 30, 31, 32, 33] (by decide +kernel) (by decide +kernel)
set_option maxRecDepth 20000 in
theorem gX1_opposite_X1_init : GoodIn wsX1_opposite (wsX1_init) := ggX1_opposite_X1_init
theorem dX1_opposite_0 : decode cX1_opposite 0 = .ok (.new 1, 3) := by decide +kernel
theorem dX1_opposite_3 : decode cX1_opposite 3 = .ok (.dup, 1) := by decide +kernel
theorem dX1_opposite_4 : decode cX1_opposite 4 = .ok (.aload_n 0, 1) := by decide +kernel
theorem dX1_opposite_5 : decode cX1_opposite 5 = .ok (.getfield 22, 3) := by decide +kernel
theorem dX1_opposite_8 : decode cX1_opposite 8 = .ok (.aload_n 0, 1) := by decide +kernel
theorem dX1_opposite_9 : decode cX1_opposite 9 = .ok (.getfield 25, 3) := by decide +kernel
theorem dX1_opposite_12 : decode cX1_opposite 12 = .ok (.aload_n 0, 1) := by decide +kernel
theorem dX1_opposite_13 : decode cX1_opposite 13 = .ok (.getfield 28, 3) := by decide +kernel
theorem dX1_opposite_16 : decode cX1_opposite 16 = .ok (.aload_n 0, 1) := by decide +kernel
theorem dX1_opposite_17 : decode cX1_opposite 17 = .ok (.getfield 31, 3) := by decide +kernel
theorem dX1_opposite_20 : decode cX1_opposite 20 = .ok (.aload_n 0, 1) := by decide +kernel
theorem dX1_opposite_21 : decode cX1_opposite 21 = .ok (.getfield 34, 3) := by decide +kernel
theorem dX1_opposite_24 : decode cX1_opposite 24 = .ok (.invokespecial 46, 3) := by decide +kernel
theorem dX1_opposite_27 : decode cX1_opposite 27 = .ok (.astore_n 1, 1) := by decide +kernel
theorem dX1_opposite_28 : decode cX1_opposite 28 = .ok (.aload_n 1, 1) := by decide +kernel
theorem dX1_opposite_29 : decode cX1_opposite 29 = .ok (.aload_n 0, 1) := by decide +kernel
theorem dX1_opposite_30 : decode cX1_opposite 30 = .ok (.getfield 11, 3) := by decide +kernel
theorem dX1_opposite_33 : decode cX1_opposite 33 = .ok (.putfield 11, 3) := by decide +kernel
theorem dX1_opposite_36 : decode cX1_opposite 36 = .ok (.aload_n 1, 1) := by decide +kernel
theorem dX1_opposite_37 : decode cX1_opposite 37 = .ok (.aload_n 0, 1) := by decide +kernel
theorem dX1_opposite_38 : decode cX1_opposite 38 = .ok (.getfield 15, 3) := by decide +kernel
theorem dX1_opposite_41 : decode cX1_opposite 41 = .ok (.putfield 15, 3) := by decide +kernel
theorem dX1_opposite_44 : decode cX1_opposite 44 = .ok (.iconst 0, 1) := by decide +kernel
theorem dX1_opposite_45 : decode cX1_opposite 45 = .ok (.istore_n 2, 1) := by decide +kernel
theorem dX1_opposite_46 : decode cX1_opposite 46 = .ok (.iload_n 2, 1) := by decide +kernel
theorem dX1_opposite_47 : decode cX1_opposite 47 = .ok (.bipush 16, 2) := by decide +kernel
theorem dX1_opposite_49 : decode cX1_opposite 49 = .ok (.if_icmp .ge 26, 3) := by decide +kernel
theorem dX1_opposite_52 : decode cX1_opposite 52 = .ok (.aload_n 1, 1) := by decide +kernel
theorem dX1_opposite_53 : decode cX1_opposite 53 = .ok (.getfield 18, 3) := by decide +kernel
theorem dX1_opposite_56 : decode cX1_opposite 56 = .ok (.iload_n 2, 1) := by decide +kernel
theorem dX1_opposite_57 : decode cX1_opposite 57 = .ok (.ldc 55, 2) := by decide +kernel
theorem dX1_opposite_59 : decode cX1_opposite 59 = .ok (.aload_n 0, 1) := by decide +kernel
theorem dX1_opposite_60 : decode cX1_opposite 60 = .ok (.getfield 18, 3) := by decide +kernel
theorem dX1_opposite_63 : decode cX1_opposite 63 = .ok (.iload_n 2, 1) := by decide +kernel
theorem dX1_opposite_64 : decode cX1_opposite 64 = .ok (.iaload, 1) := by decide +kernel
theorem dX1_opposite_65 : decode cX1_opposite 65 = .ok (.iconst (-1), 1) := by decide +kernel
theorem dX1_opposite_66 : decode cX1_opposite 66 = .ok (.ixor, 1) := by decide +kernel
theorem dX1_opposite_67 : decode cX1_opposite 67 = .ok (.iand, 1) := by decide +kernel
theorem dX1_opposite_68 : decode cX1_opposite 68 = .ok (.iastore, 1) := by decide +kernel
theorem dX1_opposite_69 : decode cX1_opposite 69 = .ok (.iinc 2 1, 3) := by decide +kernel
theorem dX1_opposite_72 : decode cX1_opposite 72 = .ok (.goto (-26), 3) := by decide +kernel
theorem dX1_opposite_75 : decode cX1_opposite 75 = .ok (.aload_n 1, 1) := by decide +kernel
theorem dX1_opposite_76 : decode cX1_opposite 76 = .ok (.areturn, 1) := by decide +kernel
theorem dX1_items_0 : decode cX1_items 0 = .ok (.aload_n 0, 1) := by decide +kernel
theorem dX1_items_1 : decode cX1_items 1 = .ok (.getfield 22, 3) := by decide +kernel
theorem dX1_items_4 : decode cX1_items 4 = .ok (.iconst 5, 1) := by decide +kernel
theorem dX1_items_5 : decode cX1_items 5 = .ok (.if_icmp .ne 7, 3) := by decide +kernel
theorem dX1_items_8 : decode cX1_items 8 = .ok (.iconst 1, 1) := by decide +kernel
theorem dX1_items_9 : decode cX1_items 9 = .ok (.goto 17, 3) := by decide +kernel
theorem dX1_items_12 : decode cX1_items 12 = .ok (.aload_n 0, 1) := by decide +kernel
theorem dX1_items_13 : decode cX1_items 13 = .ok (.getfield 22, 3) := by decide +kernel
theorem dX1_items_16 : decode cX1_items 16 = .ok (.bipush 6, 2) := by decide +kernel
theorem dX1_items_18 : decode cX1_items 18 = .ok (.if_icmp .ne 7, 3) := by decide +kernel
theorem dX1_items_21 : decode cX1_items 21 = .ok (.iconst 3, 1) := by decide +kernel
theorem dX1_items_22 : decode cX1_items 22 = .ok (.goto 4, 3) := by decide +kernel
theorem dX1_items_25 : decode cX1_items 25 = .ok (.iconst 2, 1) := by decide +kernel
theorem dX1_items_26 : decode cX1_items 26 = .ok (.ireturn, 1) := by decide +kernel
theorem dX1_itemAt_0 : decode cX1_itemAt 0 = .ok (.iload_n 1, 1) := by decide +kernel
theorem dX1_itemAt_1 : decode cX1_itemAt 1 = .ok (.ifCond .ne 10, 3) := by decide +kernel
theorem dX1_itemAt_4 : decode cX1_itemAt 4 = .ok (.aload_n 0, 1) := by decide +kernel
theorem dX1_itemAt_5 : decode cX1_itemAt 5 = .ok (.getfield 25, 3) := by decide +kernel
theorem dX1_itemAt_8 : decode cX1_itemAt 8 = .ok (.goto 19, 3) := by decide +kernel
theorem dX1_itemAt_11 : decode cX1_itemAt 11 = .ok (.iload_n 1, 1) := by decide +kernel
theorem dX1_itemAt_12 : decode cX1_itemAt 12 = .ok (.iconst 1, 1) := by decide +kernel
theorem dX1_itemAt_13 : decode cX1_itemAt 13 = .ok (.if_icmp .ne 10, 3) := by decide +kernel
theorem dX1_itemAt_16 : decode cX1_itemAt 16 = .ok (.aload_n 0, 1) := by decide +kernel
theorem dX1_itemAt_17 : decode cX1_itemAt 17 = .ok (.getfield 28, 3) := by decide +kernel
theorem dX1_itemAt_20 : decode cX1_itemAt 20 = .ok (.goto 7, 3) := by decide +kernel
theorem dX1_itemAt_23 : decode cX1_itemAt 23 = .ok (.aload_n 0, 1) := by decide +kernel
theorem dX1_itemAt_24 : decode cX1_itemAt 24 = .ok (.getfield 31, 3) := by decide +kernel
theorem dX1_itemAt_27 : decode cX1_itemAt 27 = .ok (.ireturn, 1) := by decide +kernel
set_option maxRecDepth 20000 in
theorem ggX1_findLowItems_X1_items : GoodIn wsX1_findLowItems wsX1_items := goodIn_r _ [15, 16, 24, 25, 26, 27, 28, 29, 30, 31, 32] (by decide +kernel) (by decide +kernel)
set_option maxRecDepth 20000 in
theorem gX1_findLowItems_X1_items : GoodIn wsX1_findLowItems (wsV RX1 56 RX1 yX1_items wsX1_items) := goodIn_app (goodIn_of _ (by decide +kernel)) ggX1_findLowItems_X1_items
set_option maxRecDepth 20000 in
theorem ggX1_findLowItems_X1_itemAt : GoodIn wsX1_findLowItems wsX1_itemAt := goodIn_r _ [20, 21, 22, 23, 24, 25, 26, 27, 28, 29, 30, 31, 32] (by decide +kernel) (by decide +kernel)
set_option maxRecDepth 20000 in
theorem gX1_findLowItems_X1_itemAt : GoodIn wsX1_findLowItems (wsV RX1 60 RX1 yX1_itemAt wsX1_itemAt) := goodIn_app (goodIn_of _ (by decide +kernel)) ggX1_findLowItems_X1_itemAt
theorem dX1_findLowItems_0 : decode cX1_findLowItems 0 = .ok (.iconst 0, 1) := by decide +kernel
theorem dX1_findLowItems_1 : decode cX1_findLowItems 1 = .ok (.istore_n 1, 1) := by decide +kernel
theorem dX1_findLowItems_2 : decode cX1_findLowItems 2 = .ok (.iload_n 1, 1) := by decide +kernel
theorem dX1_findLowItems_3 : decode cX1_findLowItems 3 = .ok (.aload_n 0, 1) := by decide +kernel
theorem dX1_findLowItems_4 : decode cX1_findLowItems 4 = .ok (.invokevirtual 56, 3) := by decide +kernel
theorem dX1_findLowItems_7 : decode cX1_findLowItems 7 = .ok (.if_icmp .ge 66, 3) := by decide +kernel
theorem dX1_findLowItems_10 : decode cX1_findLowItems 10 = .ok (.aload_n 0, 1) := by decide +kernel
theorem dX1_findLowItems_11 : decode cX1_findLowItems 11 = .ok (.iload_n 1, 1) := by decide +kernel
theorem dX1_findLowItems_12 : decode cX1_findLowItems 12 = .ok (.invokevirtual 60, 3) := by decide +kernel
theorem dX1_findLowItems_15 : decode cX1_findLowItems 15 = .ok (.istore_n 2, 1) := by decide +kernel
theorem dX1_findLowItems_16 : decode cX1_findLowItems 16 = .ok (.iload_n 2, 1) := by decide +kernel
theorem dX1_findLowItems_17 : decode cX1_findLowItems 17 = .ok (.iconst 4, 1) := by decide +kernel
theorem dX1_findLowItems_18 : decode cX1_findLowItems 18 = .ok (.idiv, 1) := by decide +kernel
theorem dX1_findLowItems_19 : decode cX1_findLowItems 19 = .ok (.aload_n 0, 1) := by decide +kernel
theorem dX1_findLowItems_20 : decode cX1_findLowItems 20 = .ok (.getfield 43, 3) := by decide +kernel
theorem dX1_findLowItems_23 : decode cX1_findLowItems 23 = .ok (.if_icmp .ge 44, 3) := by decide +kernel
theorem dX1_findLowItems_26 : decode cX1_findLowItems 26 = .ok (.aload_n 0, 1) := by decide +kernel
theorem dX1_findLowItems_27 : decode cX1_findLowItems 27 = .ok (.getfield 11, 3) := by decide +kernel
theorem dX1_findLowItems_30 : decode cX1_findLowItems 30 = .ok (.bipush (-6), 2) := by decide +kernel
theorem dX1_findLowItems_32 : decode cX1_findLowItems 32 = .ok (.if_icmp .ne 11, 3) := by decide +kernel
theorem dX1_findLowItems_35 : decode cX1_findLowItems 35 = .ok (.aload_n 0, 1) := by decide +kernel
theorem dX1_findLowItems_36 : decode cX1_findLowItems 36 = .ok (.iload_n 2, 1) := by decide +kernel
theorem dX1_findLowItems_37 : decode cX1_findLowItems 37 = .ok (.putfield 11, 3) := by decide +kernel
theorem dX1_findLowItems_40 : decode cX1_findLowItems 40 = .ok (.goto 27, 3) := by decide +kernel
theorem dX1_findLowItems_43 : decode cX1_findLowItems 43 = .ok (.aload_n 0, 1) := by decide +kernel
theorem dX1_findLowItems_44 : decode cX1_findLowItems 44 = .ok (.aload_n 0, 1) := by decide +kernel
theorem dX1_findLowItems_45 : decode cX1_findLowItems 45 = .ok (.getfield 11, 3) := by decide +kernel
theorem dX1_findLowItems_48 : decode cX1_findLowItems 48 = .ok (.iload_n 2, 1) := by decide +kernel
theorem dX1_findLowItems_49 : decode cX1_findLowItems 49 = .ok (.invokestatic 37, 3) := by decide +kernel
theorem dX1_findLowItems_52 : decode cX1_findLowItems 52 = .ok (.putfield 15, 3) := by decide +kernel
theorem dX1_findLowItems_55 : decode cX1_findLowItems 55 = .ok (.aload_n 0, 1) := by decide +kernel
theorem dX1_findLowItems_56 : decode cX1_findLowItems 56 = .ok (.aload_n 0, 1) := by decide +kernel
theorem dX1_findLowItems_57 : decode cX1_findLowItems 57 = .ok (.getfield 11, 3) := by decide +kernel
theorem dX1_findLowItems_60 : decode cX1_findLowItems 60 = .ok (.iload_n 2, 1) := by decide +kernel
theorem dX1_findLowItems_61 : decode cX1_findLowItems 61 = .ok (.invokestatic 64, 3) := by decide +kernel
theorem dX1_findLowItems_64 : decode cX1_findLowItems 64 = .ok (.putfield 11, 3) := by decide +kernel
theorem dX1_findLowItems_67 : decode cX1_findLowItems 67 = .ok (.iinc 1 1, 3) := by decide +kernel
theorem dX1_findLowItems_70 : decode cX1_findLowItems 70 = .ok (.goto (-68), 3) := by decide +kernel
theorem dX1_findLowItems_73 : decode cX1_findLowItems 73 = .ok (.return_, 1) := by decide +kernel
set_option maxRecDepth 20000 in
theorem ggX1_fillAllowed_X1_items : GoodIn wsX1_fillAllowed wsX1_items := goodIn_r _ [5, 6, 32, 33, 34, 35, 36, 37, 38, 39, 40] (by decide +kernel) (by decide +kernel)
set_option maxRecDepth 20000 in
theorem gX1_fillAllowed_X1_items : GoodIn wsX1_fillAllowed (wsV RX1 56 RX1 yX1_items wsX1_items) := goodIn_app (goodIn_of _ (by decide +kernel)) ggX1_fillAllowed_X1_items
set_option maxRecDepth 20000 in
theorem ggX1_fillAllowed_X1_isMetBy : GoodIn wsX1_fillAllowed wsX1_isMetBy := goodIn_r _ [10, 6, 11, 12, 13, 14, 15, 32, 33, 34, 35, 36, 37, 38, 39, 40] (by decide +kernel) (by decide +kernel)
set_option maxRecDepth 20000 in
theorem gX1_fillAllowed_X1_isMetBy : GoodIn wsX1_fillAllowed (wsV RX1 67 RX1 yX1_isMetBy wsX1_isMetBy) := goodIn_app (goodIn_of _ (by decide +kernel)) ggX1_fillAllowed_X1_isMetBy
set_option maxRecDepth 20000 in
theorem ggX1_fillAllowed_X1_allowColumns : GoodIn wsX1_fillAllowed wsX1_allowColumns := goodIn_r _ [19, 20, 21, 22, 23, 24, 1, 2, 3, 4, 5, 6, 25, 26, 27, 28, 29, 30, 31, 32, 33, 34, 35, 36, 37, 38, 39, 40] (by decide +kernel) (by decide +kernel)
set_option maxRecDepth 20000 in
theorem gX1_fillAllowed_X1_allowColumns : GoodIn wsX1_fillAllowed (wsV RX1 71 RX1 yX1_allowColumns wsX1_allowColumns) := goodIn_app (goodIn_of _ (by decide +kernel)) ggX1_fillAllowed_X1_allowColumns
theorem dX1_fillAllowed_0 : decode cX1_fillAllowed 0 = .ok (.iconst 1, 1) := by decide +kernel
theorem dX1_fillAllowed_1 : decode cX1_fillAllowed 1 = .ok (.iconst 2, 1) := by decide +kernel
theorem dX1_fillAllowed_2 : decode cX1_fillAllowed 2 = .ok (.aload_n 0, 1) := by decide +kernel
theorem dX1_fillAllowed_3 : decode cX1_fillAllowed 3 = .ok (.invokevirtual 56, 3) := by decide +kernel
theorem dX1_fillAllowed_6 : decode cX1_fillAllowed 6 = .ok (.imul, 1) := by decide +kernel
theorem dX1_fillAllowed_7 : decode cX1_fillAllowed 7 = .ok (.ishl, 1) := by decide +kernel
theorem dX1_fillAllowed_8 : decode cX1_fillAllowed 8 = .ok (.istore_n 1, 1) := by decide +kernel
theorem dX1_fillAllowed_9 : decode cX1_fillAllowed 9 = .ok (.iconst 0, 1) := by decide +kernel
theorem dX1_fillAllowed_10 : decode cX1_fillAllowed 10 = .ok (.istore_n 2, 1) := by decide +kernel
theorem dX1_fillAllowed_11 : decode cX1_fillAllowed 11 = .ok (.iload_n 2, 1) := by decide +kernel
theorem dX1_fillAllowed_12 : decode cX1_fillAllowed 12 = .ok (.iload_n 1, 1) := by decide +kernel
theorem dX1_fillAllowed_13 : decode cX1_fillAllowed 13 = .ok (.if_icmp .ge 34, 3) := by decide +kernel
theorem dX1_fillAllowed_16 : decode cX1_fillAllowed 16 = .ok (.aload_n 0, 1) := by decide +kernel
theorem dX1_fillAllowed_17 : decode cX1_fillAllowed 17 = .ok (.iload_n 2, 1) := by decide +kernel
theorem dX1_fillAllowed_18 : decode cX1_fillAllowed 18 = .ok (.iconst 3, 1) := by decide +kernel
theorem dX1_fillAllowed_19 : decode cX1_fillAllowed 19 = .ok (.iand, 1) := by decide +kernel
theorem dX1_fillAllowed_20 : decode cX1_fillAllowed 20 = .ok (.iload_n 2, 1) := by decide +kernel
theorem dX1_fillAllowed_21 : decode cX1_fillAllowed 21 = .ok (.iconst 2, 1) := by decide +kernel
theorem dX1_fillAllowed_22 : decode cX1_fillAllowed 22 = .ok (.ishr, 1) := by decide +kernel
theorem dX1_fillAllowed_23 : decode cX1_fillAllowed 23 = .ok (.iconst 3, 1) := by decide +kernel
theorem dX1_fillAllowed_24 : decode cX1_fillAllowed 24 = .ok (.iand, 1) := by decide +kernel
theorem dX1_fillAllowed_25 : decode cX1_fillAllowed 25 = .ok (.iload_n 2, 1) := by decide +kernel
theorem dX1_fillAllowed_26 : decode cX1_fillAllowed 26 = .ok (.iconst 4, 1) := by decide +kernel
theorem dX1_fillAllowed_27 : decode cX1_fillAllowed 27 = .ok (.ishr, 1) := by decide +kernel
theorem dX1_fillAllowed_28 : decode cX1_fillAllowed 28 = .ok (.iconst 3, 1) := by decide +kernel
theorem dX1_fillAllowed_29 : decode cX1_fillAllowed 29 = .ok (.iand, 1) := by decide +kernel
theorem dX1_fillAllowed_30 : decode cX1_fillAllowed 30 = .ok (.invokevirtual 67, 3) := by decide +kernel
theorem dX1_fillAllowed_33 : decode cX1_fillAllowed 33 = .ok (.ifCond .eq 8, 3) := by decide +kernel
theorem dX1_fillAllowed_36 : decode cX1_fillAllowed 36 = .ok (.aload_n 0, 1) := by decide +kernel
theorem dX1_fillAllowed_37 : decode cX1_fillAllowed 37 = .ok (.iload_n 2, 1) := by decide +kernel
theorem dX1_fillAllowed_38 : decode cX1_fillAllowed 38 = .ok (.invokevirtual 71, 3) := by decide +kernel
theorem dX1_fillAllowed_41 : decode cX1_fillAllowed 41 = .ok (.iinc 2 1, 3) := by decide +kernel
theorem dX1_fillAllowed_44 : decode cX1_fillAllowed 44 = .ok (.goto (-33), 3) := by decide +kernel
theorem dX1_fillAllowed_47 : decode cX1_fillAllowed 47 = .ok (.return_, 1) := by decide +kernel
theorem dX1_isMetBy_0 : decode cX1_isMetBy 0 = .ok (.aload_n 0, 1) := by decide +kernel
theorem dX1_isMetBy_1 : decode cX1_isMetBy 1 = .ok (.getfield 22, 3) := by decide +kernel
theorem dX1_isMetBy_4 : decode cX1_isMetBy 4 = .ok (.tableswitch 118 0 5 #[40, 51, 62, 73, 86, 102], 40) := by decide +kernel
theorem dX1_isMetBy_44 : decode cX1_isMetBy 44 = .ok (.iload_n 1, 1) := by decide +kernel
theorem dX1_isMetBy_45 : decode cX1_isMetBy 45 = .ok (.iload_n 2, 1) := by decide +kernel
theorem dX1_isMetBy_46 : decode cX1_isMetBy 46 = .ok (.if_icmp .ne 7, 3) := by decide +kernel
theorem dX1_isMetBy_49 : decode cX1_isMetBy 49 = .ok (.iconst 1, 1) := by decide +kernel
theorem dX1_isMetBy_50 : decode cX1_isMetBy 50 = .ok (.goto 4, 3) := by decide +kernel
theorem dX1_isMetBy_53 : decode cX1_isMetBy 53 = .ok (.iconst 0, 1) := by decide +kernel
theorem dX1_isMetBy_54 : decode cX1_isMetBy 54 = .ok (.ireturn, 1) := by decide +kernel
theorem dX1_isMetBy_55 : decode cX1_isMetBy 55 = .ok (.iload_n 1, 1) := by decide +kernel
theorem dX1_isMetBy_56 : decode cX1_isMetBy 56 = .ok (.iload_n 2, 1) := by decide +kernel
theorem dX1_isMetBy_57 : decode cX1_isMetBy 57 = .ok (.if_icmp .eq 7, 3) := by decide +kernel
theorem dX1_isMetBy_60 : decode cX1_isMetBy 60 = .ok (.iconst 1, 1) := by decide +kernel
theorem dX1_isMetBy_61 : decode cX1_isMetBy 61 = .ok (.goto 4, 3) := by decide +kernel
theorem dX1_isMetBy_64 : decode cX1_isMetBy 64 = .ok (.iconst 0, 1) := by decide +kernel
theorem dX1_isMetBy_65 : decode cX1_isMetBy 65 = .ok (.ireturn, 1) := by decide +kernel
theorem dX1_isMetBy_66 : decode cX1_isMetBy 66 = .ok (.iload_n 1, 1) := by decide +kernel
theorem dX1_isMetBy_67 : decode cX1_isMetBy 67 = .ok (.iload_n 2, 1) := by decide +kernel
theorem dX1_isMetBy_68 : decode cX1_isMetBy 68 = .ok (.if_icmp .ge 7, 3) := by decide +kernel
theorem dX1_isMetBy_71 : decode cX1_isMetBy 71 = .ok (.iconst 1, 1) := by decide +kernel
theorem dX1_isMetBy_72 : decode cX1_isMetBy 72 = .ok (.goto 4, 3) := by decide +kernel
theorem dX1_isMetBy_75 : decode cX1_isMetBy 75 = .ok (.iconst 0, 1) := by decide +kernel
theorem dX1_isMetBy_76 : decode cX1_isMetBy 76 = .ok (.ireturn, 1) := by decide +kernel
theorem dX1_isMetBy_77 : decode cX1_isMetBy 77 = .ok (.iload_n 1, 1) := by decide +kernel
theorem dX1_isMetBy_78 : decode cX1_isMetBy 78 = .ok (.iconst 1, 1) := by decide +kernel
theorem dX1_isMetBy_79 : decode cX1_isMetBy 79 = .ok (.iadd, 1) := by decide +kernel
theorem dX1_isMetBy_80 : decode cX1_isMetBy 80 = .ok (.iload_n 2, 1) := by decide +kernel
theorem dX1_isMetBy_81 : decode cX1_isMetBy 81 = .ok (.if_icmp .ne 7, 3) := by decide +kernel
theorem dX1_isMetBy_84 : decode cX1_isMetBy 84 = .ok (.iconst 1, 1) := by decide +kernel
theorem dX1_isMetBy_85 : decode cX1_isMetBy 85 = .ok (.goto 4, 3) := by decide +kernel
theorem dX1_isMetBy_88 : decode cX1_isMetBy 88 = .ok (.iconst 0, 1) := by decide +kernel
theorem dX1_isMetBy_89 : decode cX1_isMetBy 89 = .ok (.ireturn, 1) := by decide +kernel
theorem dX1_isMetBy_90 : decode cX1_isMetBy 90 = .ok (.iload_n 1, 1) := by decide +kernel
theorem dX1_isMetBy_91 : decode cX1_isMetBy 91 = .ok (.iload_n 2, 1) := by decide +kernel
theorem dX1_isMetBy_92 : decode cX1_isMetBy 92 = .ok (.isub, 1) := by decide +kernel
theorem dX1_isMetBy_93 : decode cX1_isMetBy 93 = .ok (.invokestatic 75, 3) := by decide +kernel
theorem dX1_isMetBy_96 : decode cX1_isMetBy 96 = .ok (.iconst 1, 1) := by decide +kernel
theorem dX1_isMetBy_97 : decode cX1_isMetBy 97 = .ok (.if_icmp .ne 7, 3) := by decide +kernel
theorem dX1_isMetBy_100 : decode cX1_isMetBy 100 = .ok (.iconst 1, 1) := by decide +kernel
theorem dX1_isMetBy_101 : decode cX1_isMetBy 101 = .ok (.goto 4, 3) := by decide +kernel
theorem dX1_isMetBy_104 : decode cX1_isMetBy 104 = .ok (.iconst 0, 1) := by decide +kernel
theorem dX1_isMetBy_105 : decode cX1_isMetBy 105 = .ok (.ireturn, 1) := by decide +kernel
theorem dX1_isMetBy_106 : decode cX1_isMetBy 106 = .ok (.iload_n 1, 1) := by decide +kernel
theorem dX1_isMetBy_107 : decode cX1_isMetBy 107 = .ok (.iconst 1, 1) := by decide +kernel
theorem dX1_isMetBy_108 : decode cX1_isMetBy 108 = .ok (.iadd, 1) := by decide +kernel
theorem dX1_isMetBy_109 : decode cX1_isMetBy 109 = .ok (.aload_n 0, 1) := by decide +kernel
theorem dX1_isMetBy_110 : decode cX1_isMetBy 110 = .ok (.getfield 34, 3) := by decide +kernel
theorem dX1_isMetBy_113 : decode cX1_isMetBy 113 = .ok (.if_icmp .ne 7, 3) := by decide +kernel
theorem dX1_isMetBy_116 : decode cX1_isMetBy 116 = .ok (.iconst 1, 1) := by decide +kernel
theorem dX1_isMetBy_117 : decode cX1_isMetBy 117 = .ok (.goto 4, 3) := by decide +kernel
theorem dX1_isMetBy_120 : decode cX1_isMetBy 120 = .ok (.iconst 0, 1) := by decide +kernel
theorem dX1_isMetBy_121 : decode cX1_isMetBy 121 = .ok (.ireturn, 1) := by decide +kernel
theorem dX1_isMetBy_122 : decode cX1_isMetBy 122 = .ok (.iload_n 1, 1) := by decide +kernel
theorem dX1_isMetBy_123 : decode cX1_isMetBy 123 = .ok (.iload_n 2, 1) := by decide +kernel
theorem dX1_isMetBy_124 : decode cX1_isMetBy 124 = .ok (.if_icmp .eq 8, 3) := by decide +kernel
theorem dX1_isMetBy_127 : decode cX1_isMetBy 127 = .ok (.iload_n 1, 1) := by decide +kernel
theorem dX1_isMetBy_128 : decode cX1_isMetBy 128 = .ok (.iload_n 3, 1) := by decide +kernel
theorem dX1_isMetBy_129 : decode cX1_isMetBy 129 = .ok (.if_icmp .ne 7, 3) := by decide +kernel
theorem dX1_isMetBy_132 : decode cX1_isMetBy 132 = .ok (.iconst 1, 1) := by decide +kernel
theorem dX1_isMetBy_133 : decode cX1_isMetBy 133 = .ok (.goto 4, 3) := by decide +kernel
theorem dX1_isMetBy_136 : decode cX1_isMetBy 136 = .ok (.iconst 0, 1) := by decide +kernel
theorem dX1_isMetBy_137 : decode cX1_isMetBy 137 = .ok (.ireturn, 1) := by decide +kernel
set_option maxRecDepth 20000 in
theorem ggX1_allowColumns_X1_items : GoodIn wsX1_allowColumns wsX1_items := goodIn_r _ [10, 11, 19, 20, 21, 22, 23, 24, 25, 26, 27] (by decide +kernel) (by decide +kernel)
set_option maxRecDepth 20000 in
theorem gX1_allowColumns_X1_items : GoodIn wsX1_allowColumns (wsV RX1 56 RX1 yX1_items wsX1_items) := goodIn_app (goodIn_of _ (by decide +kernel)) ggX1_allowColumns_X1_items
set_option maxRecDepth 20000 in
theorem ggX1_allowColumns_X1_itemAt : GoodIn wsX1_allowColumns wsX1_itemAt := goodIn_r _ [15, 16, 17, 18, 19, 20, 21, 22, 23, 24, 25, 26, 27] (by decide +kernel) (by decide +kernel)
set_option maxRecDepth 20000 in
theorem gX1_allowColumns_X1_itemAt : GoodIn wsX1_allowColumns (wsV RX1 60 RX1 yX1_itemAt wsX1_itemAt) := goodIn_app (goodIn_of _ (by decide +kernel)) ggX1_allowColumns_X1_itemAt
theorem dX1_allowColumns_0 : decode cX1_allowColumns 0 = .ok (.ldc 55, 2) := by decide +kernel
theorem dX1_allowColumns_2 : decode cX1_allowColumns 2 = .ok (.istore_n 2, 1) := by decide +kernel
theorem dX1_allowColumns_3 : decode cX1_allowColumns 3 = .ok (.iconst 0, 1) := by decide +kernel
theorem dX1_allowColumns_4 : decode cX1_allowColumns 4 = .ok (.istore_n 3, 1) := by decide +kernel
theorem dX1_allowColumns_5 : decode cX1_allowColumns 5 = .ok (.iconst 0, 1) := by decide +kernel
theorem dX1_allowColumns_6 : decode cX1_allowColumns 6 = .ok (.istore 4, 2) := by decide +kernel
theorem dX1_allowColumns_8 : decode cX1_allowColumns 8 = .ok (.iload 4, 2) := by decide +kernel
theorem dX1_allowColumns_10 : decode cX1_allowColumns 10 = .ok (.aload_n 0, 1) := by decide +kernel
theorem dX1_allowColumns_11 : decode cX1_allowColumns 11 = .ok (.invokevirtual 56, 3) := by decide +kernel
theorem dX1_allowColumns_14 : decode cX1_allowColumns 14 = .ok (.if_icmp .ge 78, 3) := by decide +kernel
theorem dX1_allowColumns_17 : decode cX1_allowColumns 17 = .ok (.aload_n 0, 1) := by decide +kernel
theorem dX1_allowColumns_18 : decode cX1_allowColumns 18 = .ok (.iload 4, 2) := by decide +kernel
theorem dX1_allowColumns_20 : decode cX1_allowColumns 20 = .ok (.invokevirtual 60, 3) := by decide +kernel
theorem dX1_allowColumns_23 : decode cX1_allowColumns 23 = .ok (.istore 5, 2) := by decide +kernel
theorem dX1_allowColumns_25 : decode cX1_allowColumns 25 = .ok (.iload_n 1, 1) := by decide +kernel
theorem dX1_allowColumns_26 : decode cX1_allowColumns 26 = .ok (.iconst 2, 1) := by decide +kernel
theorem dX1_allowColumns_27 : decode cX1_allowColumns 27 = .ok (.iload 4, 2) := by decide +kernel
theorem dX1_allowColumns_29 : decode cX1_allowColumns 29 = .ok (.imul, 1) := by decide +kernel
theorem dX1_allowColumns_30 : decode cX1_allowColumns 30 = .ok (.ishr, 1) := by decide +kernel
theorem dX1_allowColumns_31 : decode cX1_allowColumns 31 = .ok (.iconst 3, 1) := by decide +kernel
theorem dX1_allowColumns_32 : decode cX1_allowColumns 32 = .ok (.iand, 1) := by decide +kernel
theorem dX1_allowColumns_33 : decode cX1_allowColumns 33 = .ok (.istore 6, 2) := by decide +kernel
theorem dX1_allowColumns_35 : decode cX1_allowColumns 35 = .ok (.iload 5, 2) := by decide +kernel
theorem dX1_allowColumns_37 : decode cX1_allowColumns 37 = .ok (.iconst 4, 1) := by decide +kernel
theorem dX1_allowColumns_38 : decode cX1_allowColumns 38 = .ok (.idiv, 1) := by decide +kernel
theorem dX1_allowColumns_39 : decode cX1_allowColumns 39 = .ok (.aload_n 0, 1) := by decide +kernel
theorem dX1_allowColumns_40 : decode cX1_allowColumns 40 = .ok (.getfield 43, 3) := by decide +kernel
theorem dX1_allowColumns_43 : decode cX1_allowColumns 43 = .ok (.if_icmp .ne 22, 3) := by decide +kernel
theorem dX1_allowColumns_46 : decode cX1_allowColumns 46 = .ok (.iload_n 2, 1) := by decide +kernel
theorem dX1_allowColumns_47 : decode cX1_allowColumns 47 = .ok (.getstatic 78, 3) := by decide +kernel
theorem dX1_allowColumns_50 : decode cX1_allowColumns 50 = .ok (.iconst 4, 1) := by decide +kernel
theorem dX1_allowColumns_51 : decode cX1_allowColumns 51 = .ok (.iload 5, 2) := by decide +kernel
theorem dX1_allowColumns_53 : decode cX1_allowColumns 53 = .ok (.iconst 3, 1) := by decide +kernel
theorem dX1_allowColumns_54 : decode cX1_allowColumns 54 = .ok (.iand, 1) := by decide +kernel
theorem dX1_allowColumns_55 : decode cX1_allowColumns 55 = .ok (.imul, 1) := by decide +kernel
theorem dX1_allowColumns_56 : decode cX1_allowColumns 56 = .ok (.iload 6, 2) := by decide +kernel
theorem dX1_allowColumns_58 : decode cX1_allowColumns 58 = .ok (.iadd, 1) := by decide +kernel
theorem dX1_allowColumns_59 : decode cX1_allowColumns 59 = .ok (.iaload, 1) := by decide +kernel
theorem dX1_allowColumns_60 : decode cX1_allowColumns 60 = .ok (.iand, 1) := by decide +kernel
theorem dX1_allowColumns_61 : decode cX1_allowColumns 61 = .ok (.istore_n 2, 1) := by decide +kernel
theorem dX1_allowColumns_62 : decode cX1_allowColumns 62 = .ok (.goto 24, 3) := by decide +kernel
theorem dX1_allowColumns_65 : decode cX1_allowColumns 65 = .ok (.iload_n 3, 1) := by decide +kernel
theorem dX1_allowColumns_66 : decode cX1_allowColumns 66 = .ok (.iload 5, 2) := by decide +kernel
theorem dX1_allowColumns_68 : decode cX1_allowColumns 68 = .ok (.aload_n 0, 1) := by decide +kernel
theorem dX1_allowColumns_69 : decode cX1_allowColumns 69 = .ok (.getfield 11, 3) := by decide +kernel
theorem dX1_allowColumns_72 : decode cX1_allowColumns 72 = .ok (.if_icmp .ne 10, 3) := by decide +kernel
theorem dX1_allowColumns_75 : decode cX1_allowColumns 75 = .ok (.iconst 4, 1) := by decide +kernel
theorem dX1_allowColumns_76 : decode cX1_allowColumns 76 = .ok (.iload 6, 2) := by decide +kernel
theorem dX1_allowColumns_78 : decode cX1_allowColumns 78 = .ok (.imul, 1) := by decide +kernel
theorem dX1_allowColumns_79 : decode cX1_allowColumns 79 = .ok (.goto 5, 3) := by decide +kernel
theorem dX1_allowColumns_82 : decode cX1_allowColumns 82 = .ok (.iload 6, 2) := by decide +kernel
theorem dX1_allowColumns_84 : decode cX1_allowColumns 84 = .ok (.iadd, 1) := by decide +kernel
theorem dX1_allowColumns_85 : decode cX1_allowColumns 85 = .ok (.istore_n 3, 1) := by decide +kernel
theorem dX1_allowColumns_86 : decode cX1_allowColumns 86 = .ok (.iinc 4 1, 3) := by decide +kernel
theorem dX1_allowColumns_89 : decode cX1_allowColumns 89 = .ok (.goto (-81), 3) := by decide +kernel
theorem dX1_allowColumns_92 : decode cX1_allowColumns 92 = .ok (.aload_n 0, 1) := by decide +kernel
theorem dX1_allowColumns_93 : decode cX1_allowColumns 93 = .ok (.getfield 18, 3) := by decide +kernel
theorem dX1_allowColumns_96 : decode cX1_allowColumns 96 = .ok (.iload_n 3, 1) := by decide +kernel
theorem dX1_allowColumns_97 : decode cX1_allowColumns 97 = .ok (.dup2, 1) := by decide +kernel
theorem dX1_allowColumns_98 : decode cX1_allowColumns 98 = .ok (.iaload, 1) := by decide +kernel
theorem dX1_allowColumns_99 : decode cX1_allowColumns 99 = .ok (.iload_n 2, 1) := by decide +kernel
theorem dX1_allowColumns_100 : decode cX1_allowColumns 100 = .ok (.ior, 1) := by decide +kernel
theorem dX1_allowColumns_101 : decode cX1_allowColumns 101 = .ok (.iastore, 1) := by decide +kernel
theorem dX1_allowColumns_102 : decode cX1_allowColumns 102 = .ok (.return_, 1) := by decide +kernel
theorem dX2_init_0 : decode cX2_init 0 = .ok (.aload_n 0, 1) := by decide +kernel
theorem dX2_init_1 : decode cX2_init 1 = .ok (.invokespecial 3, 3) := by decide +kernel
theorem dX2_init_4 : decode cX2_init 4 = .ok (.aload_n 0, 1) := by decide +kernel
theorem dX2_init_5 : decode cX2_init 5 = .ok (.bipush 12, 2) := by decide +kernel
theorem dX2_init_7 : decode cX2_init 7 = .ok (.anewarray 9, 3) := by decide +kernel
theorem dX2_init_10 : decode cX2_init 10 = .ok (.putfield 11, 3) := by decide +kernel
theorem dX2_init_13 : decode cX2_init 13 = .ok (.aload_n 0, 1) := by decide +kernel
theorem dX2_init_14 : decode cX2_init 14 = .ok (.iconst 0, 1) := by decide +kernel
theorem dX2_init_15 : decode cX2_init 15 = .ok (.putfield 17, 3) := by decide +kernel
theorem dX2_init_18 : decode cX2_init 18 = .ok (.return_, 1) := by decide +kernel
theorem dX2_add_0 : decode cX2_add 0 = .ok (.aload_n 0, 1) := by decide +kernel
theorem dX2_add_1 : decode cX2_add 1 = .ok (.getfield 17, 3) := by decide +kernel
theorem dX2_add_4 : decode cX2_add 4 = .ok (.bipush 12, 2) := by decide +kernel
theorem dX2_add_6 : decode cX2_add 6 = .ok (.if_icmp .ge 23, 3) := by decide +kernel
theorem dX2_add_9 : decode cX2_add 9 = .ok (.aload_n 0, 1) := by decide +kernel
theorem dX2_add_10 : decode cX2_add 10 = .ok (.getfield 11, 3) := by decide +kernel
theorem dX2_add_13 : decode cX2_add 13 = .ok (.aload_n 0, 1) := by decide +kernel
theorem dX2_add_14 : decode cX2_add 14 = .ok (.getfield 17, 3) := by decide +kernel
theorem dX2_add_17 : decode cX2_add 17 = .ok (.aload_n 1, 1) := by decide +kernel
theorem dX2_add_18 : decode cX2_add 18 = .ok (.aastore, 1) := by decide +kernel
theorem dX2_add_19 : decode cX2_add 19 = .ok (.aload_n 0, 1) := by decide +kernel
theorem dX2_add_20 : decode cX2_add 20 = .ok (.dup, 1) := by decide +kernel
theorem dX2_add_21 : decode cX2_add 21 = .ok (.getfield 17, 3) := by decide +kernel
theorem dX2_add_24 : decode cX2_add 24 = .ok (.iconst 1, 1) := by decide +kernel
theorem dX2_add_25 : decode cX2_add 25 = .ok (.iadd, 1) := by decide +kernel
theorem dX2_add_26 : decode cX2_add 26 = .ok (.putfield 17, 3) := by decide +kernel
theorem dX2_add_29 : decode cX2_add 29 = .ok (.return_, 1) := by decide +kernel
theorem dX2_remove_0 : decode cX2_remove 0 = .ok (.iload_n 1, 1) := by decide +kernel
theorem dX2_remove_1 : decode cX2_remove 1 = .ok (.istore_n 2, 1) := by decide +kernel
theorem dX2_remove_2 : decode cX2_remove 2 = .ok (.iload_n 2, 1) := by decide +kernel
theorem dX2_remove_3 : decode cX2_remove 3 = .ok (.aload_n 0, 1) := by decide +kernel
theorem dX2_remove_4 : decode cX2_remove 4 = .ok (.getfield 17, 3) := by decide +kernel
theorem dX2_remove_7 : decode cX2_remove 7 = .ok (.iconst 1, 1) := by decide +kernel
theorem dX2_remove_8 : decode cX2_remove 8 = .ok (.isub, 1) := by decide +kernel
theorem dX2_remove_9 : decode cX2_remove 9 = .ok (.if_icmp .ge 23, 3) := by decide +kernel
theorem dX2_remove_12 : decode cX2_remove 12 = .ok (.aload_n 0, 1) := by decide +kernel
theorem dX2_remove_13 : decode cX2_remove 13 = .ok (.getfield 11, 3) := by decide +kernel
theorem dX2_remove_16 : decode cX2_remove 16 = .ok (.iload_n 2, 1) := by decide +kernel
theorem dX2_remove_17 : decode cX2_remove 17 = .ok (.aload_n 0, 1) := by decide +kernel
theorem dX2_remove_18 : decode cX2_remove 18 = .ok (.getfield 11, 3) := by decide +kernel
theorem dX2_remove_21 : decode cX2_remove 21 = .ok (.iload_n 2, 1) := by decide +kernel
theorem dX2_remove_22 : decode cX2_remove 22 = .ok (.iconst 1, 1) := by decide +kernel
theorem dX2_remove_23 : decode cX2_remove 23 = .ok (.iadd, 1) := by decide +kernel
theorem dX2_remove_24 : decode cX2_remove 24 = .ok (.aaload, 1) := by decide +kernel
theorem dX2_remove_25 : decode cX2_remove 25 = .ok (.aastore, 1) := by decide +kernel
theorem dX2_remove_26 : decode cX2_remove 26 = .ok (.iinc 2 1, 3) := by decide +kernel
theorem dX2_remove_29 : decode cX2_remove 29 = .ok (.goto (-27), 3) := by decide +kernel
theorem dX2_remove_32 : decode cX2_remove 32 = .ok (.aload_n 0, 1) := by decide +kernel
theorem dX2_remove_33 : decode cX2_remove 33 = .ok (.dup, 1) := by decide +kernel
theorem dX2_remove_34 : decode cX2_remove 34 = .ok (.getfield 17, 3) := by decide +kernel
theorem dX2_remove_37 : decode cX2_remove 37 = .ok (.iconst 1, 1) := by decide +kernel
theorem dX2_remove_38 : decode cX2_remove 38 = .ok (.isub, 1) := by decide +kernel
theorem dX2_remove_39 : decode cX2_remove 39 = .ok (.putfield 17, 3) := by decide +kernel
theorem dX2_remove_42 : decode cX2_remove 42 = .ok (.return_, 1) := by decide +kernel
theorem dX2_copy_0 : decode cX2_copy 0 = .ok (.aload_n 0, 1) := by decide +kernel
theorem dX2_copy_1 : decode cX2_copy 1 = .ok (.aload_n 1, 1) := by decide +kernel
theorem dX2_copy_2 : decode cX2_copy 2 = .ok (.getfield 17, 3) := by decide +kernel
theorem dX2_copy_5 : decode cX2_copy 5 = .ok (.putfield 17, 3) := by decide +kernel
theorem dX2_copy_8 : decode cX2_copy 8 = .ok (.iconst 0, 1) := by decide +kernel
theorem dX2_copy_9 : decode cX2_copy 9 = .ok (.istore_n 2, 1) := by decide +kernel
theorem dX2_copy_10 : decode cX2_copy 10 = .ok (.iload_n 2, 1) := by decide +kernel
theorem dX2_copy_11 : decode cX2_copy 11 = .ok (.aload_n 0, 1) := by decide +kernel
theorem dX2_copy_12 : decode cX2_copy 12 = .ok (.getfield 17, 3) := by decide +kernel
theorem dX2_copy_15 : decode cX2_copy 15 = .ok (.if_icmp .ge 21, 3) := by decide +kernel
theorem dX2_copy_18 : decode cX2_copy 18 = .ok (.aload_n 0, 1) := by decide +kernel
theorem dX2_copy_19 : decode cX2_copy 19 = .ok (.getfield 11, 3) := by decide +kernel
theorem dX2_copy_22 : decode cX2_copy 22 = .ok (.iload_n 2, 1) := by decide +kernel
theorem dX2_copy_23 : decode cX2_copy 23 = .ok (.aload_n 1, 1) := by decide +kernel
theorem dX2_copy_24 : decode cX2_copy 24 = .ok (.getfield 11, 3) := by decide +kernel
theorem dX2_copy_27 : decode cX2_copy 27 = .ok (.iload_n 2, 1) := by decide +kernel
theorem dX2_copy_28 : decode cX2_copy 28 = .ok (.aaload, 1) := by decide +kernel
theorem dX2_copy_29 : decode cX2_copy 29 = .ok (.aastore, 1) := by decide +kernel
theorem dX2_copy_30 : decode cX2_copy 30 = .ok (.iinc 2 1, 3) := by decide +kernel
theorem dX2_copy_33 : decode cX2_copy 33 = .ok (.goto (-23), 3) := by decide +kernel
theorem dX2_copy_36 : decode cX2_copy 36 = .ok (.return_, 1) := by decide +kernel
theorem dX2_all_0 : decode cX2_all 0 = .ok (.iconst 1, 1) := by decide +kernel
theorem dX2_all_1 : decode cX2_all 1 = .ok (.aload_n 0, 1) := by decide +kernel
theorem dX2_all_2 : decode cX2_all 2 = .ok (.getfield 17, 3) := by decide +kernel
theorem dX2_all_5 : decode cX2_all 5 = .ok (.ishl, 1) := by decide +kernel
theorem dX2_all_6 : decode cX2_all 6 = .ok (.iconst 1, 1) := by decide +kernel
theorem dX2_all_7 : decode cX2_all 7 = .ok (.isub, 1) := by decide +kernel
theorem dX2_all_8 : decode cX2_all 8 = .ok (.ireturn, 1) := by decide +kernel
theorem dX2_ofKind_0 : decode cX2_ofKind 0 = .ok (.iconst 0, 1) := by decide +kernel
theorem dX2_ofKind_1 : decode cX2_ofKind 1 = .ok (.istore_n 2, 1) := by decide +kernel
theorem dX2_ofKind_2 : decode cX2_ofKind 2 = .ok (.iconst 0, 1) := by decide +kernel
theorem dX2_ofKind_3 : decode cX2_ofKind 3 = .ok (.istore_n 3, 1) := by decide +kernel
theorem dX2_ofKind_4 : decode cX2_ofKind 4 = .ok (.iload_n 3, 1) := by decide +kernel
theorem dX2_ofKind_5 : decode cX2_ofKind 5 = .ok (.aload_n 0, 1) := by decide +kernel
theorem dX2_ofKind_6 : decode cX2_ofKind 6 = .ok (.getfield 17, 3) := by decide +kernel
theorem dX2_ofKind_9 : decode cX2_ofKind 9 = .ok (.if_icmp .ge 25, 3) := by decide +kernel
theorem dX2_ofKind_12 : decode cX2_ofKind 12 = .ok (.aload_n 0, 1) := by decide +kernel
theorem dX2_ofKind_13 : decode cX2_ofKind 13 = .ok (.getfield 11, 3) := by decide +kernel
theorem dX2_ofKind_16 : decode cX2_ofKind 16 = .ok (.iload_n 3, 1) := by decide +kernel
theorem dX2_ofKind_17 : decode cX2_ofKind 17 = .ok (.aaload, 1) := by decide +kernel
theorem dX2_ofKind_18 : decode cX2_ofKind 18 = .ok (.getfield 21, 3) := by decide +kernel
theorem dX2_ofKind_21 : decode cX2_ofKind 21 = .ok (.iload_n 1, 1) := by decide +kernel
theorem dX2_ofKind_22 : decode cX2_ofKind 22 = .ok (.if_icmp .ne 6, 3) := by decide +kernel
theorem dX2_ofKind_25 : decode cX2_ofKind 25 = .ok (.iinc 2 1, 3) := by decide +kernel
theorem dX2_ofKind_28 : decode cX2_ofKind 28 = .ok (.iinc 3 1, 3) := by decide +kernel
theorem dX2_ofKind_31 : decode cX2_ofKind 31 = .ok (.goto (-27), 3) := by decide +kernel
theorem dX2_ofKind_34 : decode cX2_ofKind 34 = .ok (.iload_n 2, 1) := by decide +kernel
theorem dX2_ofKind_35 : decode cX2_ofKind 35 = .ok (.ireturn, 1) := by decide +kernel
