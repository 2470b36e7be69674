set_option maxRecDepth 20000 in
theorem ggX6_init_X5_init : GoodIn wsX6_init wsX5_init := goodIn_r _ [24, 25, 2, 3, 26, 27, 28, 63, 64] (by decide +kernel) (by decide +kernel)
set_option maxRecDepth 20000 in
theorem gX6_init_X5_init_n9 : GoodIn wsX6_init (wsX5_init) := ggX6_init_X5_init
set_option maxRecDepth 20000 in
theorem ggX6_init_X2_init : GoodIn wsX6_init wsX2_init := goodIn_r _ [30, 31, 2, 3, 32, 33, 34, 72, 73] (by decide +kernel) (by decide +kernel)
set_option maxRecDepth 20000 in
theorem gX6_init_X2_init_n18 : GoodIn wsX6_init (wsX2_init) := ggX6_init_X2_init
set_option maxRecDepth 20000 in
theorem ggX6_init_X0_init : GoodIn wsX6_init wsX0_init := goodIn_r _ [36, 37, 2, 3, 38, 39, 40, 41, 42, 43, 44, 45, 26, 46, 47, 48, 49, 50, 51, 52, 9, 10, 53, 54, 55, 29, 30, 31, 32, 33, 34, 84, 85, 86, 87, 88, 89, 90, 91, 92, 74, 75, 76, 77, 78, 79, 72, 73] (by decide +kernel) (by decide +kernel)
set_option maxRecDepth 20000 in
theorem gX6_init_X0_init_n29 : GoodIn wsX6_init (wsX0_init) := ggX6_init_X0_init
set_option maxRecDepth 20000 in
theorem ggX6_init_X4_init : GoodIn wsX6_init wsX4_init := goodIn_r _ [57, 58, 2, 3, 26, 59, 60, 61, 62, 80, 81, 82, 83] (by decide +kernel) (by decide +kernel)
set_option maxRecDepth 20000 in
theorem gX6_init_X4_init_n36 : GoodIn wsX6_init (wsX4_init) := ggX6_init_X4_init
theorem dX6_init_0 : decode cX6_init 0 = .ok (.aload_n 0, 1) := by decide +kernel
theorem dX6_init_1 : decode cX6_init 1 = .ok (.invokespecial 1, 3) := by decide +kernel
theorem dX6_init_4 : decode cX6_init 4 = .ok (.aload_n 0, 1) := by decide +kernel
theorem dX6_init_5 : decode cX6_init 5 = .ok (.new 7, 3) := by decide +kernel
theorem dX6_init_8 : decode cX6_init 8 = .ok (.dup, 1) := by decide +kernel
theorem dX6_init_9 : decode cX6_init 9 = .ok (.invokespecial 9, 3) := by decide +kernel
theorem dX6_init_12 : decode cX6_init 12 = .ok (.putfield 10, 3) := by decide +kernel
theorem dX6_init_15 : decode cX6_init 15 = .ok (.aload_n 0, 1) := by decide +kernel
theorem dX6_init_16 : decode cX6_init 16 = .ok (.new 16, 3) := by decide +kernel
theorem dX6_init_19 : decode cX6_init 19 = .ok (.dup, 1) := by decide +kernel
theorem dX6_init_20 : decode cX6_init 20 = .ok (.invokespecial 18, 3) := by decide +kernel
theorem dX6_init_23 : decode cX6_init 23 = .ok (.putfield 19, 3) := by decide +kernel
theorem dX6_init_26 : decode cX6_init 26 = .ok (.aload_n 0, 1) := by decide +kernel
theorem dX6_init_27 : decode cX6_init 27 = .ok (.iconst 2, 1) := by decide +kernel
theorem dX6_init_28 : decode cX6_init 28 = .ok (.anewarray 16, 3) := by decide +kernel
theorem dX6_init_31 : decode cX6_init 31 = .ok (.putfield 23, 3) := by decide +kernel
theorem dX6_init_34 : decode cX6_init 34 = .ok (.aload_n 0, 1) := by decide +kernel
theorem dX6_init_35 : decode cX6_init 35 = .ok (.new 27, 3) := by decide +kernel
theorem dX6_init_38 : decode cX6_init 38 = .ok (.dup, 1) := by decide +kernel
theorem dX6_init_39 : decode cX6_init 39 = .ok (.invokespecial 29, 3) := by decide +kernel
theorem dX6_init_42 : decode cX6_init 42 = .ok (.putfield 30, 3) := by decide +kernel
theorem dX6_init_45 : decode cX6_init 45 = .ok (.aload_n 0, 1) := by decide +kernel
theorem dX6_init_46 : decode cX6_init 46 = .ok (.new 34, 3) := by decide +kernel
theorem dX6_init_49 : decode cX6_init 49 = .ok (.dup, 1) := by decide +kernel
theorem dX6_init_50 : decode cX6_init 50 = .ok (.invokespecial 36, 3) := by decide +kernel
theorem dX6_init_53 : decode cX6_init 53 = .ok (.putfield 37, 3) := by decide +kernel
theorem dX6_init_56 : decode cX6_init 56 = .ok (.aload_n 0, 1) := by decide +kernel
theorem dX6_init_57 : decode cX6_init 57 = .ok (.iconst 0, 1) := by decide +kernel
theorem dX6_init_58 : decode cX6_init 58 = .ok (.putfield 41, 3) := by decide +kernel
theorem dX6_init_61 : decode cX6_init 61 = .ok (.aload_n 0, 1) := by decide +kernel
theorem dX6_init_62 : decode cX6_init 62 = .ok (.bipush (-6), 2) := by decide +kernel
theorem dX6_init_64 : decode cX6_init 64 = .ok (.putfield 45, 3) := by decide +kernel
theorem dX6_init_67 : decode cX6_init 67 = .ok (.iconst 0, 1) := by decide +kernel
theorem dX6_init_68 : decode cX6_init 68 = .ok (.istore_n 1, 1) := by decide +kernel
theorem dX6_init_69 : decode cX6_init 69 = .ok (.iload_n 1, 1) := by decide +kernel
theorem dX6_init_70 : decode cX6_init 70 = .ok (.iconst 2, 1) := by decide +kernel
theorem dX6_init_71 : decode cX6_init 71 = .ok (.if_icmp .ge 22, 3) := by decide +kernel
theorem dX6_init_74 : decode cX6_init 74 = .ok (.aload_n 0, 1) := by decide +kernel
theorem dX6_init_75 : decode cX6_init 75 = .ok (.getfield 23, 3) := by decide +kernel
theorem dX6_init_78 : decode cX6_init 78 = .ok (.iload_n 1, 1) := by decide +kernel
theorem dX6_init_79 : decode cX6_init 79 = .ok (.new 16, 3) := by decide +kernel
theorem dX6_init_82 : decode cX6_init 82 = .ok (.dup, 1) := by decide +kernel
theorem dX6_init_83 : decode cX6_init 83 = .ok (.invokespecial 18, 3) := by decide +kernel
theorem dX6_init_86 : decode cX6_init 86 = .ok (.aastore, 1) := by decide +kernel
theorem dX6_init_87 : decode cX6_init 87 = .ok (.iinc 1 1, 3) := by decide +kernel
theorem dX6_init_90 : decode cX6_init 90 = .ok (.goto (-21), 3) := by decide +kernel
theorem dX6_init_93 : decode cX6_init 93 = .ok (.return_, 1) := by decide +kernel
set_option maxRecDepth 20000 in
theorem ggX6_say_X5_add : GoodIn wsX6_say wsX5_add := goodIn_r _ [7, 8, 9, 17, 18] (by decide +kernel) (by decide +kernel)
set_option maxRecDepth 20000 in
theorem gX6_say_X5_add : GoodIn wsX6_say (wsV RX6 51 RX5 yX5_add wsX5_add) := goodIn_app (goodIn_of _ (by decide +kernel)) ggX6_say_X5_add
theorem dX6_say_0 : decode cX6_say 0 = .ok (.iload_n 1, 1) := by decide +kernel
theorem dX6_say_1 : decode cX6_say 1 = .ok (.bipush 33, 2) := by decide +kernel
theorem dX6_say_3 : decode cX6_say 3 = .ok (.if_icmp .lt 9, 3) := by decide +kernel
theorem dX6_say_6 : decode cX6_say 6 = .ok (.iload_n 1, 1) := by decide +kernel
theorem dX6_say_7 : decode cX6_say 7 = .ok (.bipush 126, 2) := by decide +kernel
theorem dX6_say_9 : decode cX6_say 9 = .ok (.if_icmp .le 6, 3) := by decide +kernel
theorem dX6_say_12 : decode cX6_say 12 = .ok (.bipush (-2), 2) := by decide +kernel
theorem dX6_say_14 : decode cX6_say 14 = .ok (.ireturn, 1) := by decide +kernel
theorem dX6_say_15 : decode cX6_say 15 = .ok (.aload_n 0, 1) := by decide +kernel
theorem dX6_say_16 : decode cX6_say 16 = .ok (.getfield 10, 3) := by decide +kernel
theorem dX6_say_19 : decode cX6_say 19 = .ok (.getfield 48, 3) := by decide +kernel
theorem dX6_say_22 : decode cX6_say 22 = .ok (.bipush 10, 2) := by decide +kernel
theorem dX6_say_24 : decode cX6_say 24 = .ok (.if_icmp .lt 6, 3) := by decide +kernel
theorem dX6_say_27 : decode cX6_say 27 = .ok (.bipush (-4), 2) := by decide +kernel
theorem dX6_say_29 : decode cX6_say 29 = .ok (.ireturn, 1) := by decide +kernel
theorem dX6_say_30 : decode cX6_say 30 = .ok (.aload_n 0, 1) := by decide +kernel
theorem dX6_say_31 : decode cX6_say 31 = .ok (.getfield 10, 3) := by decide +kernel
theorem dX6_say_34 : decode cX6_say 34 = .ok (.iload_n 1, 1) := by decide +kernel
theorem dX6_say_35 : decode cX6_say 35 = .ok (.invokevirtual 51, 3) := by decide +kernel
theorem dX6_say_38 : decode cX6_say 38 = .ok (.aload_n 0, 1) := by decide +kernel
theorem dX6_say_39 : decode cX6_say 39 = .ok (.getfield 10, 3) := by decide +kernel
theorem dX6_say_42 : decode cX6_say 42 = .ok (.getfield 48, 3) := by decide +kernel
theorem dX6_say_45 : decode cX6_say 45 = .ok (.ireturn, 1) := by decide +kernel
theorem dX6_wipe_0 : decode cX6_wipe 0 = .ok (.aload_n 0, 1) := by decide +kernel
theorem dX6_wipe_1 : decode cX6_wipe 1 = .ok (.getfield 10, 3) := by decide +kernel
theorem dX6_wipe_4 : decode cX6_wipe 4 = .ok (.getfield 48, 3) := by decide +kernel
theorem dX6_wipe_7 : decode cX6_wipe 7 = .ok (.istore_n 1, 1) := by decide +kernel
theorem dX6_wipe_8 : decode cX6_wipe 8 = .ok (.aload_n 0, 1) := by decide +kernel
theorem dX6_wipe_9 : decode cX6_wipe 9 = .ok (.getfield 10, 3) := by decide +kernel
theorem dX6_wipe_12 : decode cX6_wipe 12 = .ok (.iconst 0, 1) := by decide +kernel
theorem dX6_wipe_13 : decode cX6_wipe 13 = .ok (.putfield 48, 3) := by decide +kernel
theorem dX6_wipe_16 : decode cX6_wipe 16 = .ok (.iload_n 1, 1) := by decide +kernel
theorem dX6_wipe_17 : decode cX6_wipe 17 = .ok (.ireturn, 1) := by decide +kernel
set_option maxRecDepth 20000 in
theorem ggX6_fault_X5_faultPlace : GoodIn wsX6_fault wsX5_faultPlace := goodIn_r _ [6, 7, 8, 9, 10, 5, 11, 12, 13, 14, 15, 16, 17, 18, 19, 20, 21, 22, 23, 24, 25, 33, 34] (by decide +kernel) (by decide +kernel)
set_option maxRecDepth 20000 in
theorem gX6_fault_X5_faultPlace : GoodIn wsX6_fault (wsV RX6 55 RX5 yX5_faultPlace wsX5_faultPlace) := goodIn_app (goodIn_of _ (by decide +kernel)) ggX6_fault_X5_faultPlace
theorem dX6_fault_0 : decode cX6_fault 0 = .ok (.aload_n 0, 1) := by decide +kernel
theorem dX6_fault_1 : decode cX6_fault 1 = .ok (.getfield 10, 3) := by decide +kernel
theorem dX6_fault_4 : decode cX6_fault 4 = .ok (.invokevirtual 55, 3) := by decide +kernel
theorem dX6_fault_7 : decode cX6_fault 7 = .ok (.ireturn, 1) := by decide +kernel
set_option maxRecDepth 20000 in
theorem ggX6_clue_X5_faultPlace : GoodIn wsX6_clue wsX5_faultPlace := goodIn_r _ [10, 11, 12, 13, 14, 9, 15, 16, 17, 18, 19, 20, 21, 22, 23, 24, 25, 26, 27, 28, 29, 138, 139] (by decide +kernel) (by decide +kernel)
set_option maxRecDepth 20000 in
theorem gX6_clue_X5_faultPlace : GoodIn wsX6_clue (wsV RX6 55 RX5 yX5_faultPlace wsX5_faultPlace) := goodIn_app (goodIn_of _ (by decide +kernel)) ggX6_clue_X5_faultPlace
set_option maxRecDepth 20000 in
theorem ggX6_clue_X5_repeatsAnItem : GoodIn wsX6_clue wsX5_repeatsAnItem := goodIn_r _ [33, 16, 11, 34, 35, 36, 9, 37, 138, 139] (by decide +kernel) (by decide +kernel)
set_option maxRecDepth 20000 in
theorem gX6_clue_X5_repeatsAnItem : GoodIn wsX6_clue (wsV RX6 59 RX5 yX5_repeatsAnItem wsX5_repeatsAnItem) := goodIn_app (goodIn_of _ (by decide +kernel)) ggX6_clue_X5_repeatsAnItem
set_option maxRecDepth 20000 in
theorem ggX6_clue_X5_toClue : GoodIn wsX6_clue wsX5_toClue := goodIn_r _ [41, 16, 11, 34, 35, 36, 9, 37, 42, 43, 44, 45, 46, 47, 48, 49, 50, 51, 52, 53, 54, 55, 56, 57, 58, 59, 60, 61, 62, 63, 64, 65, 66, 67, 68, 69, 70, 71, 72, 73, 74, 75, 76, 77, 78, 79, 80, 81, 82, 83, 84, 85, 86, 87, 88, 89, 90, 91, 92, 93, 94, 95, 96, 97, 98, 99, 23, 24, 25, 138, 139, 140, 141, 142, 143, 144, 145, 146, 147, 148] (by decide +kernel) (by decide +kernel)
set_option maxRecDepth 20000 in
theorem gX6_clue_X5_toClue : GoodIn wsX6_clue (wsV RX6 64 RX5 yX5_toClue wsX5_toClue) := goodIn_app (goodIn_of _ (by decide +kernel)) ggX6_clue_X5_toClue
set_option maxRecDepth 20000 in
theorem ggX6_clue_X2_add : GoodIn wsX6_clue wsX2_add := goodIn_r _ [104, 105, 106, 136, 137] (by decide +kernel) (by decide +kernel)
set_option maxRecDepth 20000 in
theorem gX6_clue_X2_add : GoodIn wsX6_clue (wsV RX6 68 RX2 yX2_add wsX2_add) := goodIn_app (goodIn_of _ (by decide +kernel)) ggX6_clue_X2_add
set_option maxRecDepth 20000 in
theorem ggX6_clue_X6_forgetWhatWasFound : GoodIn wsX6_clue wsX6_forgetWhatWasFound := goodIn_r _ [111, 112, 113, 114, 115, 116, 117, 118, 119, 120, 121, 122, 123, 124, 125, 126, 127, 128, 129, 130, 131, 132, 133, 134, 135, 149, 150, 151, 152, 153, 154, 155, 156, 157, 158] (by decide +kernel) (by decide +kernel)
set_option maxRecDepth 20000 in
theorem gX6_clue_X6_forgetWhatWasFound : GoodIn wsX6_clue (wsV RX6 71 RX6 yX6_forgetWhatWasFound wsX6_forgetWhatWasFound) := goodIn_app (goodIn_of _ (by decide +kernel)) ggX6_clue_X6_forgetWhatWasFound
theorem dX6_clue_0 : decode cX6_clue 0 = .ok (.aload_n 0, 1) := by decide +kernel
theorem dX6_clue_1 : decode cX6_clue 1 = .ok (.getfield 10, 3) := by decide +kernel
theorem dX6_clue_4 : decode cX6_clue 4 = .ok (.invokevirtual 55, 3) := by decide +kernel
theorem dX6_clue_7 : decode cX6_clue 7 = .ok (.istore_n 1, 1) := by decide +kernel
theorem dX6_clue_8 : decode cX6_clue 8 = .ok (.iload_n 1, 1) := by decide +kernel
theorem dX6_clue_9 : decode cX6_clue 9 = .ok (.bipush (-6), 2) := by decide +kernel
theorem dX6_clue_11 : decode cX6_clue 11 = .ok (.if_icmp .eq 11, 3) := by decide +kernel
theorem dX6_clue_14 : decode cX6_clue 14 = .ok (.aload_n 0, 1) := by decide +kernel
theorem dX6_clue_15 : decode cX6_clue 15 = .ok (.iload_n 1, 1) := by decide +kernel
theorem dX6_clue_16 : decode cX6_clue 16 = .ok (.putfield 45, 3) := by decide +kernel
theorem dX6_clue_19 : decode cX6_clue 19 = .ok (.bipush (-7), 2) := by decide +kernel
theorem dX6_clue_21 : decode cX6_clue 21 = .ok (.ireturn, 1) := by decide +kernel
theorem dX6_clue_22 : decode cX6_clue 22 = .ok (.aload_n 0, 1) := by decide +kernel
theorem dX6_clue_23 : decode cX6_clue 23 = .ok (.getfield 10, 3) := by decide +kernel
theorem dX6_clue_26 : decode cX6_clue 26 = .ok (.invokevirtual 59, 3) := by decide +kernel
theorem dX6_clue_29 : decode cX6_clue 29 = .ok (.ifCond .eq 6, 3) := by decide +kernel
theorem dX6_clue_32 : decode cX6_clue 32 = .ok (.bipush (-5), 2) := by decide +kernel
theorem dX6_clue_34 : decode cX6_clue 34 = .ok (.ireturn, 1) := by decide +kernel
theorem dX6_clue_35 : decode cX6_clue 35 = .ok (.aload_n 0, 1) := by decide +kernel
theorem dX6_clue_36 : decode cX6_clue 36 = .ok (.getfield 19, 3) := by decide +kernel
theorem dX6_clue_39 : decode cX6_clue 39 = .ok (.getfield 63, 3) := by decide +kernel
theorem dX6_clue_42 : decode cX6_clue 42 = .ok (.bipush 12, 2) := by decide +kernel
theorem dX6_clue_44 : decode cX6_clue 44 = .ok (.if_icmp .lt 6, 3) := by decide +kernel
theorem dX6_clue_47 : decode cX6_clue 47 = .ok (.bipush (-4), 2) := by decide +kernel
theorem dX6_clue_49 : decode cX6_clue 49 = .ok (.ireturn, 1) := by decide +kernel
theorem dX6_clue_50 : decode cX6_clue 50 = .ok (.aload_n 0, 1) := by decide +kernel
theorem dX6_clue_51 : decode cX6_clue 51 = .ok (.getfield 19, 3) := by decide +kernel
theorem dX6_clue_54 : decode cX6_clue 54 = .ok (.aload_n 0, 1) := by decide +kernel
theorem dX6_clue_55 : decode cX6_clue 55 = .ok (.getfield 10, 3) := by decide +kernel
theorem dX6_clue_58 : decode cX6_clue 58 = .ok (.invokevirtual 64, 3) := by decide +kernel
theorem dX6_clue_61 : decode cX6_clue 61 = .ok (.invokevirtual 68, 3) := by decide +kernel
theorem dX6_clue_64 : decode cX6_clue 64 = .ok (.aload_n 0, 1) := by decide +kernel
theorem dX6_clue_65 : decode cX6_clue 65 = .ok (.getfield 10, 3) := by decide +kernel
theorem dX6_clue_68 : decode cX6_clue 68 = .ok (.iconst 0, 1) := by decide +kernel
theorem dX6_clue_69 : decode cX6_clue 69 = .ok (.putfield 48, 3) := by decide +kernel
theorem dX6_clue_72 : decode cX6_clue 72 = .ok (.aload_n 0, 1) := by decide +kernel
theorem dX6_clue_73 : decode cX6_clue 73 = .ok (.invokevirtual 71, 3) := by decide +kernel
theorem dX6_clue_76 : decode cX6_clue 76 = .ok (.aload_n 0, 1) := by decide +kernel
theorem dX6_clue_77 : decode cX6_clue 77 = .ok (.getfield 19, 3) := by decide +kernel
theorem dX6_clue_80 : decode cX6_clue 80 = .ok (.getfield 63, 3) := by decide +kernel
theorem dX6_clue_83 : decode cX6_clue 83 = .ok (.iconst 1, 1) := by decide +kernel
theorem dX6_clue_84 : decode cX6_clue 84 = .ok (.isub, 1) := by decide +kernel
theorem dX6_clue_85 : decode cX6_clue 85 = .ok (.ireturn, 1) := by decide +kernel
set_option maxRecDepth 20000 in
theorem ggX6_drop_X6_isClue : GoodIn wsX6_drop wsX6_isClue := goodIn_r _ [7, 1, 2, 36, 37, 38, 39, 40, 41, 42, 43, 44] (by decide +kernel) (by decide +kernel)
set_option maxRecDepth 20000 in
theorem gX6_drop_X6_isClue : GoodIn wsX6_drop (wsV RX6 74 RX6 yX6_isClue wsX6_isClue) := goodIn_app (goodIn_of _ (by decide +kernel)) ggX6_drop_X6_isClue
set_option maxRecDepth 20000 in
theorem ggX6_drop_X2_remove : GoodIn wsX6_drop wsX2_remove := goodIn_r _ [12, 13, 14, 43, 44] (by decide +kernel) (by decide +kernel)
set_option maxRecDepth 20000 in
theorem gX6_drop_X2_remove : GoodIn wsX6_drop (wsV RX6 78 RX2 yX2_remove wsX2_remove) := goodIn_app (goodIn_of _ (by decide +kernel)) ggX6_drop_X2_remove
set_option maxRecDepth 20000 in
theorem ggX6_drop_X6_forgetWhatWasFound : GoodIn wsX6_drop wsX6_forgetWhatWasFound := goodIn_r _ [18, 19, 20, 21, 22, 23, 24, 25, 26, 27, 28, 29, 30, 31, 32, 33, 34, 35, 36, 37, 38, 39, 40, 41, 42, 45, 46, 47, 48, 49, 50, 51, 52, 53, 54] (by decide +kernel) (by decide +kernel)
set_option maxRecDepth 20000 in
theorem gX6_drop_X6_forgetWhatWasFound : GoodIn wsX6_drop (wsV RX6 71 RX6 yX6_forgetWhatWasFound wsX6_forgetWhatWasFound) := goodIn_app (goodIn_of _ (by decide +kernel)) ggX6_drop_X6_forgetWhatWasFound
theorem dX6_drop_0 : decode cX6_drop 0 = .ok (.aload_n 0, 1) := by decide +kernel
theorem dX6_drop_1 : decode cX6_drop 1 = .ok (.iload_n 1, 1) := by decide +kernel
theorem dX6_drop_2 : decode cX6_drop 2 = .ok (.invokevirtual 74, 3) := by decide +kernel
theorem dX6_drop_5 : decode cX6_drop 5 = .ok (.ifCond .ne 5, 3) := by decide +kernel
theorem dX6_drop_8 : decode cX6_drop 8 = .ok (.iconst (-1), 1) := by decide +kernel
theorem dX6_drop_9 : decode cX6_drop 9 = .ok (.ireturn, 1) := by decide +kernel
theorem dX6_drop_10 : decode cX6_drop 10 = .ok (.aload_n 0, 1) := by decide +kernel
theorem dX6_drop_11 : decode cX6_drop 11 = .ok (.getfield 19, 3) := by decide +kernel
theorem dX6_drop_14 : decode cX6_drop 14 = .ok (.iload_n 1, 1) := by decide +kernel
theorem dX6_drop_15 : decode cX6_drop 15 = .ok (.invokevirtual 78, 3) := by decide +kernel
theorem dX6_drop_18 : decode cX6_drop 18 = .ok (.aload_n 0, 1) := by decide +kernel
theorem dX6_drop_19 : decode cX6_drop 19 = .ok (.invokevirtual 71, 3) := by decide +kernel
theorem dX6_drop_22 : decode cX6_drop 22 = .ok (.aload_n 0, 1) := by decide +kernel
theorem dX6_drop_23 : decode cX6_drop 23 = .ok (.getfield 19, 3) := by decide +kernel
theorem dX6_drop_26 : decode cX6_drop 26 = .ok (.getfield 63, 3) := by decide +kernel
theorem dX6_drop_29 : decode cX6_drop 29 = .ok (.ireturn, 1) := by decide +kernel
set_option maxRecDepth 20000 in
theorem ggX6_told_X6_isClue : GoodIn wsX6_told wsX6_isClue := goodIn_r _ [12, 1, 13, 14, 15, 16, 17, 18, 19, 20, 21, 22] (by decide +kernel) (by decide +kernel)
set_option maxRecDepth 20000 in
theorem gX6_told_X6_isClue : GoodIn wsX6_told (wsV RX6 74 RX6 yX6_isClue wsX6_isClue) := goodIn_app (goodIn_of _ (by decide +kernel)) ggX6_told_X6_isClue
theorem dX6_told_0 : decode cX6_told 0 = .ok (.aload_n 0, 1) := by decide +kernel
theorem dX6_told_1 : decode cX6_told 1 = .ok (.iload_n 1, 1) := by decide +kernel
theorem dX6_told_2 : decode cX6_told 2 = .ok (.invokevirtual 74, 3) := by decide +kernel
theorem dX6_told_5 : decode cX6_told 5 = .ok (.ifCond .ne 5, 3) := by decide +kernel
theorem dX6_told_8 : decode cX6_told 8 = .ok (.iconst (-1), 1) := by decide +kernel
theorem dX6_told_9 : decode cX6_told 9 = .ok (.ireturn, 1) := by decide +kernel
theorem dX6_told_10 : decode cX6_told 10 = .ok (.aload_n 0, 1) := by decide +kernel
theorem dX6_told_11 : decode cX6_told 11 = .ok (.getfield 19, 3) := by decide +kernel
theorem dX6_told_14 : decode cX6_told 14 = .ok (.getfield 81, 3) := by decide +kernel
theorem dX6_told_17 : decode cX6_told 17 = .ok (.iload_n 1, 1) := by decide +kernel
theorem dX6_told_18 : decode cX6_told 18 = .ok (.aaload, 1) := by decide +kernel
theorem dX6_told_19 : decode cX6_told 19 = .ok (.astore_n 3, 1) := by decide +kernel
theorem dX6_told_20 : decode cX6_told 20 = .ok (.iload_n 2, 1) := by decide +kernel
theorem dX6_told_21 : decode cX6_told 21 = .ok (.tableswitch 60 0 4 #[35, 40, 45, 50, 55], 35) := by decide +kernel
theorem dX6_told_56 : decode cX6_told 56 = .ok (.aload_n 3, 1) := by decide +kernel
theorem dX6_told_57 : decode cX6_told 57 = .ok (.getfield 85, 3) := by decide +kernel
theorem dX6_told_60 : decode cX6_told 60 = .ok (.ireturn, 1) := by decide +kernel
theorem dX6_told_61 : decode cX6_told 61 = .ok (.aload_n 3, 1) := by decide +kernel
theorem dX6_told_62 : decode cX6_told 62 = .ok (.getfield 90, 3) := by decide +kernel
theorem dX6_told_65 : decode cX6_told 65 = .ok (.ireturn, 1) := by decide +kernel
theorem dX6_told_66 : decode cX6_told 66 = .ok (.aload_n 3, 1) := by decide +kernel
theorem dX6_told_67 : decode cX6_told 67 = .ok (.getfield 93, 3) := by decide +kernel
theorem dX6_told_70 : decode cX6_told 70 = .ok (.ireturn, 1) := by decide +kernel
theorem dX6_told_71 : decode cX6_told 71 = .ok (.aload_n 3, 1) := by decide +kernel
theorem dX6_told_72 : decode cX6_told 72 = .ok (.getfield 96, 3) := by decide +kernel
theorem dX6_told_75 : decode cX6_told 75 = .ok (.ireturn, 1) := by decide +kernel
theorem dX6_told_76 : decode cX6_told 76 = .ok (.aload_n 3, 1) := by decide +kernel
theorem dX6_told_77 : decode cX6_told 77 = .ok (.getfield 99, 3) := by decide +kernel
theorem dX6_told_80 : decode cX6_told 80 = .ok (.ireturn, 1) := by decide +kernel
theorem dX6_told_81 : decode cX6_told 81 = .ok (.bipush (-2), 2) := by decide +kernel
theorem dX6_told_83 : decode cX6_told 83 = .ok (.ireturn, 1) := by decide +kernel
set_option maxRecDepth 20000 in
theorem ggX6_answers_X0_total : GoodIn wsX6_answers wsX0_total := goodIn_r _ [7, 8, 9, 10, 11, 12, 13, 14, 15, 16, 17, 18, 19, 20, 21, 22, 23, 24, 25, 26, 27, 28, 29, 30, 31, 32, 33, 34, 35, 36, 37, 38, 39, 40, 41, 42, 43, 44, 45, 46, 47, 48, 49, 50, 51, 52, 53, 54, 55, 56, 57, 58, 59, 60, 61, 62, 63, 64, 65, 66, 67, 68, 69, 70, 71, 72, 73, 74, 75, 76, 77, 78, 79, 80, 81, 82, 83, 84, 85, 86, 87, 88, 89, 90, 91, 92, 93, 94, 95, 96, 97, 98, 99, 100, 101, 102, 110, 111, 112, 113, 114, 115, 116, 117, 118, 119, 120, 121, 122, 123, 124, 125, 126, 127, 128, 129, 130, 131, 132, 133, 134, 135] (by decide +kernel) (by decide +kernel)
set_option maxRecDepth 20000 in
theorem gX6_answers_X0_total : GoodIn wsX6_answers (wsV RX6 102 RX0 yX0_total wsX0_total) := goodIn_app (goodIn_of _ (by decide +kernel)) ggX6_answers_X0_total
theorem dX6_answers_0 : decode cX6_answers 0 = .ok (.aload_n 0, 1) := by decide +kernel
theorem dX6_answers_1 : decode cX6_answers 1 = .ok (.getfield 30, 3) := by decide +kernel
theorem dX6_answers_4 : decode cX6_answers 4 = .ok (.aload_n 0, 1) := by decide +kernel
theorem dX6_answers_5 : decode cX6_answers 5 = .ok (.getfield 19, 3) := by decide +kernel
theorem dX6_answers_8 : decode cX6_answers 8 = .ok (.invokevirtual 102, 3) := by decide +kernel
theorem dX6_answers_11 : decode cX6_answers 11 = .ok (.ireturn, 1) := by decide +kernel
set_option maxRecDepth 20000 in
theorem ggX6_answer_X6_isItem : GoodIn wsX6_answer wsX6_isItem := goodIn_r _ [6] (by decide +kernel) (by decide +kernel)
set_option maxRecDepth 20000 in
theorem gX6_answer_X6_isItem : GoodIn wsX6_answer (va_wsS RX6 106 yX6_isItem wsX6_isItem) := goodIn_app (goodIn_of _ (by decide +kernel)) ggX6_answer_X6_isItem
set_option maxRecDepth 20000 in
theorem ggX6_answer_X0_placeIn : GoodIn wsX6_answer wsX0_placeIn := goodIn_r _ [11, 12, 13, 14, 15, 16, 17, 18, 19, 20, 21, 22, 23, 24, 25, 26, 27, 28, 29, 30, 31, 32, 33, 34, 35, 36, 37, 38, 5, 39, 40, 41, 42, 43, 44, 45, 46, 47, 48, 49, 50, 51, 52, 53, 54, 55, 56, 57, 58, 59, 60, 61, 62, 63, 64, 65, 66, 67, 68, 69, 70, 71, 72, 73, 74, 75, 76, 77, 78, 79, 80, 81, 82, 83, 84, 85, 86, 87, 88, 89, 90, 91, 92, 93, 94, 95, 96, 97, 98, 99, 100, 101, 102, 103, 104, 105, 113, 114, 115, 116, 117, 118, 119, 120, 121, 122, 123, 124, 125, 126, 127, 128, 129, 130, 131, 132, 133, 134, 135, 136, 137, 138] (by decide +kernel) (by decide +kernel)
set_option maxRecDepth 20000 in
theorem gX6_answer_X0_placeIn : GoodIn wsX6_answer (wsV RX6 109 RX0 yX0_placeIn wsX0_placeIn) := goodIn_app (goodIn_of _ (by decide +kernel)) ggX6_answer_X0_placeIn
theorem dX6_answer_0 : decode cX6_answer 0 = .ok (.iload_n 1, 1) := by decide +kernel
theorem dX6_answer_1 : decode cX6_answer 1 = .ok (.ifCond .lt 10, 3) := by decide +kernel
theorem dX6_answer_4 : decode cX6_answer 4 = .ok (.iload_n 2, 1) := by decide +kernel
theorem dX6_answer_5 : decode cX6_answer 5 = .ok (.invokestatic 106, 3) := by decide +kernel
theorem dX6_answer_8 : decode cX6_answer 8 = .ok (.ifCond .ne 6, 3) := by decide +kernel
theorem dX6_answer_11 : decode cX6_answer 11 = .ok (.bipush (-2), 2) := by decide +kernel
theorem dX6_answer_13 : decode cX6_answer 13 = .ok (.ireturn, 1) := by decide +kernel
theorem dX6_answer_14 : decode cX6_answer 14 = .ok (.aload_n 0, 1) := by decide +kernel
theorem dX6_answer_15 : decode cX6_answer 15 = .ok (.getfield 30, 3) := by decide +kernel
theorem dX6_answer_18 : decode cX6_answer 18 = .ok (.aload_n 0, 1) := by decide +kernel
theorem dX6_answer_19 : decode cX6_answer 19 = .ok (.getfield 19, 3) := by decide +kernel
theorem dX6_answer_22 : decode cX6_answer 22 = .ok (.iload_n 1, 1) := by decide +kernel
theorem dX6_answer_23 : decode cX6_answer 23 = .ok (.iload_n 2, 1) := by decide +kernel
theorem dX6_answer_24 : decode cX6_answer 24 = .ok (.invokevirtual 109, 3) := by decide +kernel
theorem dX6_answer_27 : decode cX6_answer 27 = .ok (.ireturn, 1) := by decide +kernel
set_option maxRecDepth 20000 in
theorem ggX6_often_X6_isItem : GoodIn wsX6_often wsX6_isItem := goodIn_r _ [6] (by decide +kernel) (by decide +kernel)
set_option maxRecDepth 20000 in
theorem gX6_often_X6_isItem : GoodIn wsX6_often (va_wsS RX6 106 yX6_isItem wsX6_isItem) := goodIn_app (goodIn_of _ (by decide +kernel)) ggX6_often_X6_isItem
set_option maxRecDepth 20000 in
theorem ggX6_often_X6_isPlace : GoodIn wsX6_often wsX6_isPlace := goodIn_r _ [9] (by decide +kernel) (by decide +kernel)
set_option maxRecDepth 20000 in
theorem gX6_often_X6_isPlace : GoodIn wsX6_often (va_wsS RX6 113 yX6_isPlace wsX6_isPlace) := goodIn_app (goodIn_of _ (by decide +kernel)) ggX6_often_X6_isPlace
set_option maxRecDepth 20000 in
theorem ggX6_often_X1_of : GoodIn wsX6_often wsX1_of := goodIn_r _ [13, 14, 15, 12, 16, 17, 18, 19, 20, 21, 22, 23, 24, 25, 26, 27, 28, 29, 30, 31, 32, 33, 34, 35, 36, 37, 38, 39, 40, 41, 42, 43, 44, 45, 46, 47, 48, 49, 50, 51, 52, 53, 54, 55, 56, 57, 58, 59, 60, 61, 62, 63, 64, 65, 66, 67, 174, 175, 176, 177, 178, 179, 180, 181, 182] (by decide +kernel) (by decide +kernel)
set_option maxRecDepth 20000 in
theorem gX6_often_X1_of : GoodIn wsX6_often (va_wsS RX6 116 yX1_of wsX1_of) := goodIn_app (goodIn_of _ (by decide +kernel)) ggX6_often_X1_of
set_option maxRecDepth 20000 in
theorem ggX6_often_X0_totalWith : GoodIn wsX6_often wsX0_totalWith := goodIn_r _ [72, 73, 74, 75, 76, 77, 78, 79, 80, 81, 82, 83, 84, 85, 86, 87, 88, 89, 90, 91, 92, 93, 94, 95, 96, 97, 5, 98, 99, 100, 101, 102, 103, 104, 105, 106, 107, 108, 109, 110, 111, 112, 113, 114, 115, 116, 117, 118, 119, 120, 121, 122, 123, 124, 125, 126, 127, 128, 129, 130, 131, 132, 133, 134, 135, 136, 137, 138, 139, 140, 141, 142, 143, 144, 145, 146, 147, 148, 149, 150, 151, 152, 153, 154, 155, 156, 157, 158, 159, 160, 161, 162, 163, 164, 165, 166, 183, 184, 185, 186, 187, 188, 189, 190, 191, 192, 193, 194, 195, 196, 197, 198, 199, 174, 175, 176, 177, 178, 179, 180, 181, 182] (by decide +kernel) (by decide +kernel)
set_option maxRecDepth 20000 in
theorem gX6_often_X0_totalWith : GoodIn wsX6_often (wsV RX6 120 RX0 yX0_totalWith wsX0_totalWith) := goodIn_app (goodIn_of _ (by decide +kernel)) ggX6_often_X0_totalWith
theorem dX6_often_0 : decode cX6_often 0 = .ok (.iload_n 1, 1) := by decide +kernel
theorem dX6_often_1 : decode cX6_often 1 = .ok (.invokestatic 106, 3) := by decide +kernel
theorem dX6_often_4 : decode cX6_often 4 = .ok (.ifCond .eq 10, 3) := by decide +kernel
theorem dX6_often_7 : decode cX6_often 7 = .ok (.iload_n 2, 1) := by decide +kernel
theorem dX6_often_8 : decode cX6_often 8 = .ok (.invokestatic 113, 3) := by decide +kernel
theorem dX6_often_11 : decode cX6_often 11 = .ok (.ifCond .ne 6, 3) := by decide +kernel
theorem dX6_often_14 : decode cX6_often 14 = .ok (.bipush (-2), 2) := by decide +kernel
theorem dX6_often_16 : decode cX6_often 16 = .ok (.ireturn, 1) := by decide +kernel
theorem dX6_often_17 : decode cX6_often 17 = .ok (.aload_n 0, 1) := by decide +kernel
theorem dX6_often_18 : decode cX6_often 18 = .ok (.getfield 30, 3) := by decide +kernel
theorem dX6_often_21 : decode cX6_often 21 = .ok (.aload_n 0, 1) := by decide +kernel
theorem dX6_often_22 : decode cX6_often 22 = .ok (.getfield 19, 3) := by decide +kernel
theorem dX6_often_25 : decode cX6_often 25 = .ok (.iconst 5, 1) := by decide +kernel
theorem dX6_often_26 : decode cX6_often 26 = .ok (.iload_n 1, 1) := by decide +kernel
theorem dX6_often_27 : decode cX6_often 27 = .ok (.bipush (-6), 2) := by decide +kernel
theorem dX6_often_29 : decode cX6_often 29 = .ok (.bipush (-6), 2) := by decide +kernel
theorem dX6_often_31 : decode cX6_often 31 = .ok (.iload_n 2, 1) := by decide +kernel
theorem dX6_often_32 : decode cX6_often 32 = .ok (.invokestatic 116, 3) := by decide +kernel
theorem dX6_often_35 : decode cX6_often 35 = .ok (.invokevirtual 120, 3) := by decide +kernel
theorem dX6_often_38 : decode cX6_often 38 = .ok (.ireturn, 1) := by decide +kernel
set_option maxRecDepth 20000 in
theorem ggX6_together_X6_isItem : GoodIn wsX6_together wsX6_isItem := goodIn_r _ [6] (by decide +kernel) (by decide +kernel)
set_option maxRecDepth 20000 in
theorem gX6_together_X6_isItem : GoodIn wsX6_together (va_wsS RX6 106 yX6_isItem wsX6_isItem) := goodIn_app (goodIn_of _ (by decide +kernel)) ggX6_together_X6_isItem
set_option maxRecDepth 20000 in
theorem ggX6_together_X0_total : GoodIn wsX6_together wsX0_total := goodIn_r _ [11, 12, 13, 14, 15, 16, 17, 18, 19, 20, 21, 22, 23, 24, 25, 26, 27, 28, 29, 30, 31, 32, 33, 34, 35, 36, 37, 5, 38, 39, 40, 41, 42, 43, 44, 45, 46, 47, 48, 49, 50, 51, 52, 53, 54, 55, 56, 57, 58, 59, 60, 61, 62, 63, 64, 65, 66, 67, 68, 69, 70, 71, 72, 73, 74, 75, 76, 77, 78, 79, 80, 81, 82, 83, 84, 85, 86, 87, 88, 89, 90, 91, 92, 93, 94, 95, 96, 97, 98, 99, 100, 101, 102, 103, 104, 105, 176, 177, 178, 179, 180, 181, 182, 183, 184, 185, 186, 187, 188, 189, 190, 191, 192, 193, 194, 195, 196, 197, 198, 199, 200, 201] (by decide +kernel) (by decide +kernel)
set_option maxRecDepth 20000 in
theorem gX6_together_X0_total : GoodIn wsX6_together (wsV RX6 102 RX0 yX0_total wsX0_total) := goodIn_app (goodIn_of _ (by decide +kernel)) ggX6_together_X0_total
set_option maxRecDepth 20000 in
theorem ggX6_together_X1_of : GoodIn wsX6_together wsX1_of := goodIn_r _ [109, 110, 111, 108, 112, 113, 114, 115, 116, 117, 118, 119, 120, 121, 122, 123, 124, 125, 126, 127, 128, 129, 130, 131, 132, 133, 134, 135, 136, 137, 138, 139, 140, 141, 142, 143, 144, 145, 146, 147, 148, 149, 150, 151, 152, 153, 154, 155, 156, 157, 158, 159, 160, 161, 162, 163, 193, 194, 195, 196, 197, 198, 199, 200, 201] (by decide +kernel) (by decide +kernel)
set_option maxRecDepth 20000 in
theorem gX6_together_X1_of : GoodIn wsX6_together (va_wsS RX6 116 yX1_of wsX1_of) := goodIn_app (goodIn_of _ (by decide +kernel)) ggX6_together_X1_of
set_option maxRecDepth 20000 in
theorem ggX6_together_X0_totalWith : GoodIn wsX6_together wsX0_totalWith := goodIn_r _ [167, 13, 14, 15, 16, 17, 18, 19, 20, 21, 22, 23, 24, 25, 26, 27, 28, 29, 30, 31, 32, 33, 34, 35, 36, 37, 5, 38, 39, 40, 41, 42, 43, 44, 45, 46, 47, 48, 49, 50, 51, 52, 53, 54, 55, 56, 57, 58, 59, 60, 61, 62, 168, 63, 64, 65, 66, 67, 68, 69, 70, 71, 72, 73, 74, 75, 76, 77, 78, 79, 80, 81, 82, 83, 84, 85, 86, 87, 88, 89, 90, 91, 92, 93, 94, 95, 96, 97, 98, 99, 100, 101, 102, 103, 104, 105, 176, 177, 178, 179, 180, 181, 182, 183, 184, 185, 186, 187, 188, 189, 190, 191, 192, 193, 194, 195, 196, 197, 198, 199, 200, 201] (by decide +kernel) (by decide +kernel)
set_option maxRecDepth 20000 in
theorem gX6_together_X0_totalWith : GoodIn wsX6_together (wsV RX6 120 RX0 yX0_totalWith wsX0_totalWith) := goodIn_app (goodIn_of _ (by decide +kernel)) ggX6_together_X0_totalWith
theorem dX6_together_0 : decode cX6_together 0 = .ok (.iload_n 1, 1) := by decide +kernel
theorem dX6_together_1 : decode cX6_together 1 = .ok (.invokestatic 106, 3) := by decide +kernel
theorem dX6_together_4 : decode cX6_together 4 = .ok (.ifCond .eq 10, 3) := by decide +kernel
theorem dX6_together_7 : decode cX6_together 7 = .ok (.iload_n 2, 1) := by decide +kernel
theorem dX6_together_8 : decode cX6_together 8 = .ok (.invokestatic 106, 3) := by decide +kernel
theorem dX6_together_11 : decode cX6_together 11 = .ok (.ifCond .ne 6, 3) := by decide +kernel
theorem dX6_together_14 : decode cX6_together 14 = .ok (.bipush (-2), 2) := by decide +kernel
theorem dX6_together_16 : decode cX6_together 16 = .ok (.ireturn, 1) := by decide +kernel
theorem dX6_together_17 : decode cX6_together 17 = .ok (.iload_n 1, 1) := by decide +kernel
theorem dX6_together_18 : decode cX6_together 18 = .ok (.iload_n 2, 1) := by decide +kernel
theorem dX6_together_19 : decode cX6_together 19 = .ok (.if_icmp .ne 15, 3) := by decide +kernel
theorem dX6_together_22 : decode cX6_together 22 = .ok (.aload_n 0, 1) := by decide +kernel
theorem dX6_together_23 : decode cX6_together 23 = .ok (.getfield 30, 3) := by decide +kernel
theorem dX6_together_26 : decode cX6_together 26 = .ok (.aload_n 0, 1) := by decide +kernel
theorem dX6_together_27 : decode cX6_together 27 = .ok (.getfield 19, 3) := by decide +kernel
theorem dX6_together_30 : decode cX6_together 30 = .ok (.invokevirtual 102, 3) := by decide +kernel
theorem dX6_together_33 : decode cX6_together 33 = .ok (.ireturn, 1) := by decide +kernel
theorem dX6_together_34 : decode cX6_together 34 = .ok (.aload_n 0, 1) := by decide +kernel
theorem dX6_together_35 : decode cX6_together 35 = .ok (.getfield 30, 3) := by decide +kernel
theorem dX6_together_38 : decode cX6_together 38 = .ok (.aload_n 0, 1) := by decide +kernel
theorem dX6_together_39 : decode cX6_together 39 = .ok (.getfield 19, 3) := by decide +kernel
theorem dX6_together_42 : decode cX6_together 42 = .ok (.iconst 0, 1) := by decide +kernel
theorem dX6_together_43 : decode cX6_together 43 = .ok (.iload_n 1, 1) := by decide +kernel
theorem dX6_together_44 : decode cX6_together 44 = .ok (.iload_n 2, 1) := by decide +kernel
theorem dX6_together_45 : decode cX6_together 45 = .ok (.bipush (-6), 2) := by decide +kernel
theorem dX6_together_47 : decode cX6_together 47 = .ok (.bipush (-6), 2) := by decide +kernel
theorem dX6_together_49 : decode cX6_together 49 = .ok (.invokestatic 116, 3) := by decide +kernel
theorem dX6_together_52 : decode cX6_together 52 = .ok (.invokevirtual 120, 3) := by decide +kernel
theorem dX6_together_55 : decode cX6_together 55 = .ok (.ireturn, 1) := by decide +kernel
set_option maxRecDepth 20000 in
theorem ggX6_met_X2_all : GoodIn wsX6_met wsX2_all := goodIn_r _ [7, 8, 109, 110] (by decide +kernel) (by decide +kernel)
set_option maxRecDepth 20000 in
theorem gX6_met_X2_all : GoodIn wsX6_met (wsV RX6 124 RX2 yX2_all wsX2_all) := goodIn_app (goodIn_of _ (by decide +kernel)) ggX6_met_X2_all
set_option maxRecDepth 20000 in
theorem ggX6_met_X0_meeting : GoodIn wsX6_met wsX0_meeting := goodIn_r _ [13, 14, 15, 16, 17, 18, 19, 20, 21, 22, 23, 24, 25, 26, 27, 28, 29, 30, 31, 32, 33, 34, 35, 36, 37, 38, 39, 40, 41, 42, 43, 44, 45, 46, 47, 48, 49, 50, 51, 52, 53, 54, 55, 56, 6, 57, 8, 58, 59, 60, 61, 62, 63, 64, 65, 66, 67, 68, 69, 70, 71, 72, 73, 74, 75, 76, 77, 78, 79, 80, 81, 82, 83, 84, 85, 86, 87, 88, 89, 90, 91, 92, 93, 94, 95, 96, 97, 98, 99, 100, 101, 111, 112, 113, 114, 115, 116, 117, 118, 119, 120, 121, 122, 123, 124, 125, 109, 110, 126, 127, 128, 129, 130, 131, 132, 133, 134] (by decide +kernel) (by decide +kernel)
set_option maxRecDepth 20000 in
theorem gX6_met_X0_meeting : GoodIn wsX6_met (wsV RX6 127 RX0 yX0_meeting wsX0_meeting) := goodIn_app (goodIn_of _ (by decide +kernel)) ggX6_met_X0_meeting
theorem dX6_met_0 : decode cX6_met 0 = .ok (.iload_n 1, 1) := by decide +kernel
theorem dX6_met_1 : decode cX6_met 1 = .ok (.aload_n 0, 1) := by decide +kernel
theorem dX6_met_2 : decode cX6_met 2 = .ok (.getfield 19, 3) := by decide +kernel
theorem dX6_met_5 : decode cX6_met 5 = .ok (.invokevirtual 124, 3) := by decide +kernel
theorem dX6_met_8 : decode cX6_met 8 = .ok (.iconst (-1), 1) := by decide +kernel
theorem dX6_met_9 : decode cX6_met 9 = .ok (.ixor, 1) := by decide +kernel
theorem dX6_met_10 : decode cX6_met 10 = .ok (.iand, 1) := by decide +kernel
theorem dX6_met_11 : decode cX6_met 11 = .ok (.ifCond .eq 6, 3) := by decide +kernel
theorem dX6_met_14 : decode cX6_met 14 = .ok (.bipush (-2), 2) := by decide +kernel
theorem dX6_met_16 : decode cX6_met 16 = .ok (.ireturn, 1) := by decide +kernel
theorem dX6_met_17 : decode cX6_met 17 = .ok (.aload_n 0, 1) := by decide +kernel
theorem dX6_met_18 : decode cX6_met 18 = .ok (.getfield 30, 3) := by decide +kernel
theorem dX6_met_21 : decode cX6_met 21 = .ok (.aload_n 0, 1) := by decide +kernel
theorem dX6_met_22 : decode cX6_met 22 = .ok (.getfield 19, 3) := by decide +kernel
theorem dX6_met_25 : decode cX6_met 25 = .ok (.iload_n 1, 1) := by decide +kernel
theorem dX6_met_26 : decode cX6_met 26 = .ok (.invokevirtual 127, 3) := by decide +kernel
theorem dX6_met_29 : decode cX6_met 29 = .ok (.ireturn, 1) := by decide +kernel
set_option maxRecDepth 20000 in
theorem ggX6_needless_X0_needlessSet : GoodIn wsX6_needless wsX0_needlessSet := goodIn_r _ [7, 8, 9, 10, 11, 12, 13, 14, 15, 16, 17, 18, 6, 19, 20, 21, 22, 23, 24, 25, 26, 27, 28, 29, 30, 31, 32, 33, 34, 35, 36, 37, 38, 39, 40, 41, 42, 43, 44, 45, 46, 47, 48, 49, 50, 51, 52, 53, 54, 55, 56, 57, 58, 59, 60, 61, 62, 63, 64, 65, 66, 67, 68, 69, 70, 71, 72, 73, 74, 75, 76, 77, 78, 79, 80, 81, 82, 83, 84, 85, 86, 87, 88, 89, 90, 91, 92, 93, 94, 95, 96, 97, 98, 99, 100, 101, 102, 103, 104, 105, 106, 107, 108, 109, 110, 111, 112, 113, 114, 115, 116, 117, 118, 119, 120, 121, 122, 123, 124, 125, 126, 127, 128, 129, 130, 131, 132, 140, 141, 142, 143, 144, 145, 146, 147, 148, 149, 150, 151, 152, 153, 154, 155, 156, 157, 158, 159, 160, 161, 162, 163, 164, 165] (by decide +kernel) (by decide +kernel)
set_option maxRecDepth 20000 in
theorem gX6_needless_X0_needlessSet : GoodIn wsX6_needless (wsV RX6 131 RX0 yX0_needlessSet wsX0_needlessSet) := goodIn_app (goodIn_of _ (by decide +kernel)) ggX6_needless_X0_needlessSet
theorem dX6_needless_0 : decode cX6_needless 0 = .ok (.aload_n 0, 1) := by decide +kernel
theorem dX6_needless_1 : decode cX6_needless 1 = .ok (.getfield 30, 3) := by decide +kernel
theorem dX6_needless_4 : decode cX6_needless 4 = .ok (.aload_n 0, 1) := by decide +kernel
theorem dX6_needless_5 : decode cX6_needless 5 = .ok (.getfield 19, 3) := by decide +kernel
theorem dX6_needless_8 : decode cX6_needless 8 = .ok (.invokevirtual 131, 3) := by decide +kernel
theorem dX6_needless_11 : decode cX6_needless 11 = .ok (.ireturn, 1) := by decide +kernel
set_option maxRecDepth 20000 in
theorem ggX6_core_X0_coreSet : GoodIn wsX6_core wsX0_coreSet := goodIn_r _ [7, 8, 9, 10, 11, 12, 13, 14, 15, 16, 17, 18, 6, 19, 20, 21, 22, 23, 24, 25, 26, 27, 28, 29, 30, 31, 32, 33, 34, 35, 36, 37, 38, 39, 40, 41, 42, 43, 44, 45, 46, 47, 48, 49, 50, 51, 52, 53, 54, 55, 56, 57, 58, 59, 60, 61, 62, 63, 64, 65, 66, 67, 68, 69, 70, 71, 72, 73, 74, 75, 76, 77, 78, 79, 80, 81, 82, 83, 84, 85, 86, 87, 88, 89, 90, 91, 92, 93, 94, 95, 96, 97, 98, 99, 100, 101, 102, 103, 104, 105, 106, 107, 108, 109, 110, 111, 112, 113, 114, 115, 116, 117, 118, 119, 120, 121, 122, 123, 124, 125, 126, 127, 128, 129, 130, 131, 132, 140, 141, 142, 143, 144, 145, 146, 147, 148, 149, 150, 151, 152, 153, 154, 155, 156, 157, 158, 159, 160, 161, 162, 163, 164, 165] (by decide +kernel) (by decide +kernel)
set_option maxRecDepth 20000 in
theorem gX6_core_X0_coreSet : GoodIn wsX6_core (wsV RX6 134 RX0 yX0_coreSet wsX0_coreSet) := goodIn_app (goodIn_of _ (by decide +kernel)) ggX6_core_X0_coreSet
theorem dX6_core_0 : decode cX6_core 0 = .ok (.aload_n 0, 1) := by decide +kernel
theorem dX6_core_1 : decode cX6_core 1 = .ok (.getfield 30, 3) := by decide +kernel
theorem dX6_core_4 : decode cX6_core 4 = .ok (.aload_n 0, 1) := by decide +kernel
theorem dX6_core_5 : decode cX6_core 5 = .ok (.getfield 19, 3) := by decide +kernel
theorem dX6_core_8 : decode cX6_core 8 = .ok (.invokevirtual 134, 3) := by decide +kernel
theorem dX6_core_11 : decode cX6_core 11 = .ok (.ireturn, 1) := by decide +kernel
set_option maxRecDepth 20000 in
theorem ggX6_trim_X0_coreSet : GoodIn wsX6_trim wsX0_coreSet := goodIn_r _ [8, 9, 10, 11, 12, 13, 14, 15, 16, 17, 18, 19, 7, 20, 21, 22, 23, 24, 25, 26, 27, 28, 29, 30, 31, 32, 33, 34, 35, 36, 37, 38, 39, 40, 41, 42, 43, 44, 45, 46, 47, 48, 49, 50, 51, 52, 53, 54, 55, 56, 57, 58, 59, 60, 61, 62, 63, 64, 65, 66, 67, 68, 69, 70, 71, 72, 73, 74, 75, 76, 77, 78, 79, 80, 81, 82, 83, 84, 85, 86, 87, 88, 89, 90, 91, 92, 93, 94, 95, 96, 97, 98, 99, 100, 101, 102, 103, 104, 105, 106, 107, 108, 109, 110, 111, 112, 113, 114, 115, 116, 117, 118, 119, 120, 121, 122, 123, 124, 125, 126, 127, 128, 129, 130, 131, 132, 133, 166, 167, 168, 169, 170, 171, 164, 165, 172, 173, 174, 175, 176, 177, 178, 179, 180, 181, 182, 183, 184, 185, 186, 187, 188, 189] (by decide +kernel) (by decide +kernel)
set_option maxRecDepth 20000 in
theorem gX6_trim_X0_coreSet : GoodIn wsX6_trim (wsV RX6 134 RX0 yX0_coreSet wsX0_coreSet) := goodIn_app (goodIn_of _ (by decide +kernel)) ggX6_trim_X0_coreSet
set_option maxRecDepth 20000 in
theorem ggX6_trim_X6_isIn : GoodIn wsX6_trim wsX6_isIn := goodIn_r _ [42] (by decide +kernel) (by decide +kernel)
set_option maxRecDepth 20000 in
theorem gX6_trim_X6_isIn : GoodIn wsX6_trim (va_wsS RX6 137 yX6_isIn wsX6_isIn) := goodIn_app (goodIn_of _ (by decide +kernel)) ggX6_trim_X6_isIn
set_option maxRecDepth 20000 in
theorem ggX6_trim_X2_remove : GoodIn wsX6_trim wsX2_remove := goodIn_r _ [138, 16, 66, 164, 165] (by decide +kernel) (by decide +kernel)
set_option maxRecDepth 20000 in
theorem gX6_trim_X2_remove : GoodIn wsX6_trim (wsV RX6 78 RX2 yX2_remove wsX2_remove) := goodIn_app (goodIn_of _ (by decide +kernel)) ggX6_trim_X2_remove
set_option maxRecDepth 20000 in
theorem ggX6_trim_X6_forgetWhatWasFound : GoodIn wsX6_trim wsX6_forgetWhatWasFound := goodIn_r _ [142, 1, 143, 144, 145, 146, 7, 147, 148, 149, 9, 150, 151, 152, 153, 154, 155, 156, 157, 158, 159, 160, 161, 162, 163, 166, 167, 168, 169, 170, 171, 190, 191, 192, 193] (by decide +kernel) (by decide +kernel)
set_option maxRecDepth 20000 in
theorem gX6_trim_X6_forgetWhatWasFound : GoodIn wsX6_trim (wsV RX6 71 RX6 yX6_forgetWhatWasFound wsX6_forgetWhatWasFound) := goodIn_app (goodIn_of _ (by decide +kernel)) ggX6_trim_X6_forgetWhatWasFound
theorem dX6_trim_0 : decode cX6_trim 0 = .ok (.aload_n 0, 1) := by decide +kernel
theorem dX6_trim_1 : decode cX6_trim 1 = .ok (.getfield 30, 3) := by decide +kernel
theorem dX6_trim_4 : decode cX6_trim 4 = .ok (.aload_n 0, 1) := by decide +kernel
theorem dX6_trim_5 : decode cX6_trim 5 = .ok (.getfield 19, 3) := by decide +kernel
theorem dX6_trim_8 : decode cX6_trim 8 = .ok (.invokevirtual 134, 3) := by decide +kernel
theorem dX6_trim_11 : decode cX6_trim 11 = .ok (.istore_n 1, 1) := by decide +kernel
theorem dX6_trim_12 : decode cX6_trim 12 = .ok (.aload_n 0, 1) := by decide +kernel
theorem dX6_trim_13 : decode cX6_trim 13 = .ok (.getfield 19, 3) := by decide +kernel
theorem dX6_trim_16 : decode cX6_trim 16 = .ok (.getfield 63, 3) := by decide +kernel
theorem dX6_trim_19 : decode cX6_trim 19 = .ok (.iconst 1, 1) := by decide +kernel
theorem dX6_trim_20 : decode cX6_trim 20 = .ok (.isub, 1) := by decide +kernel
theorem dX6_trim_21 : decode cX6_trim 21 = .ok (.istore_n 2, 1) := by decide +kernel
theorem dX6_trim_22 : decode cX6_trim 22 = .ok (.iload_n 2, 1) := by decide +kernel
theorem dX6_trim_23 : decode cX6_trim 23 = .ok (.ifCond .lt 25, 3) := by decide +kernel
theorem dX6_trim_26 : decode cX6_trim 26 = .ok (.iload_n 1, 1) := by decide +kernel
theorem dX6_trim_27 : decode cX6_trim 27 = .ok (.iload_n 2, 1) := by decide +kernel
theorem dX6_trim_28 : decode cX6_trim 28 = .ok (.invokestatic 137, 3) := by decide +kernel
theorem dX6_trim_31 : decode cX6_trim 31 = .ok (.ifCond .ne 11, 3) := by decide +kernel
theorem dX6_trim_34 : decode cX6_trim 34 = .ok (.aload_n 0, 1) := by decide +kernel
theorem dX6_trim_35 : decode cX6_trim 35 = .ok (.getfield 19, 3) := by decide +kernel
theorem dX6_trim_38 : decode cX6_trim 38 = .ok (.iload_n 2, 1) := by decide +kernel
theorem dX6_trim_39 : decode cX6_trim 39 = .ok (.invokevirtual 78, 3) := by decide +kernel
theorem dX6_trim_42 : decode cX6_trim 42 = .ok (.iinc 2 (-1), 3) := by decide +kernel
theorem dX6_trim_45 : decode cX6_trim 45 = .ok (.goto (-23), 3) := by decide +kernel
theorem dX6_trim_48 : decode cX6_trim 48 = .ok (.aload_n 0, 1) := by decide +kernel
theorem dX6_trim_49 : decode cX6_trim 49 = .ok (.invokevirtual 71, 3) := by decide +kernel
theorem dX6_trim_52 : decode cX6_trim 52 = .ok (.aload_n 0, 1) := by decide +kernel
theorem dX6_trim_53 : decode cX6_trim 53 = .ok (.getfield 19, 3) := by decide +kernel
theorem dX6_trim_56 : decode cX6_trim 56 = .ok (.getfield 63, 3) := by decide +kernel
theorem dX6_trim_59 : decode cX6_trim 59 = .ok (.ireturn, 1) := by decide +kernel
set_option maxRecDepth 20000 in
theorem ggX6_step_X4_solve : GoodIn wsX6_step wsX4_solve := goodIn_r _ [9, 10, 11, 12, 13, 14, 15, 16, 17, 18, 19, 20, 8, 21, 22, 23, 24, 25, 26, 27, 28, 29, 30, 31, 32, 33, 34, 35, 36, 37, 38, 39, 40, 41, 42, 43, 44, 45, 46, 47, 48, 49, 50, 51, 52, 53, 54, 55, 56, 57, 58, 59, 60, 61, 62, 63, 64, 65, 66, 67, 68, 69, 70, 71, 72, 73, 74, 75, 76, 77, 78, 79, 80, 81, 82, 90, 91, 92, 93, 94, 95, 96, 97, 98, 99, 100, 101, 102, 103, 104] (by decide +kernel) (by decide +kernel)
set_option maxRecDepth 20000 in
theorem gX6_step_X4_solve : GoodIn wsX6_step (wsV RX6 141 RX4 yX4_solve wsX4_solve) := goodIn_app (goodIn_of _ (by decide +kernel)) ggX6_step_X4_solve
theorem dX6_step_0 : decode cX6_step 0 = .ok (.iload_n 1, 1) := by decide +kernel
theorem dX6_step_1 : decode cX6_step 1 = .ok (.iconst (-1), 1) := by decide +kernel
theorem dX6_step_2 : decode cX6_step 2 = .ok (.if_icmp .lt 12, 3) := by decide +kernel
theorem dX6_step_5 : decode cX6_step 5 = .ok (.iload_n 2, 1) := by decide +kernel
theorem dX6_step_6 : decode cX6_step 6 = .ok (.ifCond .lt 8, 3) := by decide +kernel
theorem dX6_step_9 : decode cX6_step 9 = .ok (.iload_n 2, 1) := by decide +kernel
theorem dX6_step_10 : decode cX6_step 10 = .ok (.iconst 3, 1) := by decide +kernel
theorem dX6_step_11 : decode cX6_step 11 = .ok (.if_icmp .le 6, 3) := by decide +kernel
theorem dX6_step_14 : decode cX6_step 14 = .ok (.bipush (-2), 2) := by decide +kernel
theorem dX6_step_16 : decode cX6_step 16 = .ok (.ireturn, 1) := by decide +kernel
theorem dX6_step_17 : decode cX6_step 17 = .ok (.aload_n 0, 1) := by decide +kernel
theorem dX6_step_18 : decode cX6_step 18 = .ok (.getfield 37, 3) := by decide +kernel
theorem dX6_step_21 : decode cX6_step 21 = .ok (.aload_n 0, 1) := by decide +kernel
theorem dX6_step_22 : decode cX6_step 22 = .ok (.getfield 19, 3) := by decide +kernel
theorem dX6_step_25 : decode cX6_step 25 = .ok (.invokevirtual 141, 3) := by decide +kernel
theorem dX6_step_28 : decode cX6_step 28 = .ok (.iload_n 1, 1) := by decide +kernel
theorem dX6_step_29 : decode cX6_step 29 = .ok (.iconst (-1), 1) := by decide +kernel
theorem dX6_step_30 : decode cX6_step 30 = .ok (.if_icmp .ne 11, 3) := by decide +kernel
theorem dX6_step_33 : decode cX6_step 33 = .ok (.aload_n 0, 1) := by decide +kernel
theorem dX6_step_34 : decode cX6_step 34 = .ok (.getfield 37, 3) := by decide +kernel
theorem dX6_step_37 : decode cX6_step 37 = .ok (.getfield 145, 3) := by decide +kernel
theorem dX6_step_40 : decode cX6_step 40 = .ok (.ireturn, 1) := by decide +kernel
theorem dX6_step_41 : decode cX6_step 41 = .ok (.iload_n 1, 1) := by decide +kernel
theorem dX6_step_42 : decode cX6_step 42 = .ok (.aload_n 0, 1) := by decide +kernel
theorem dX6_step_43 : decode cX6_step 43 = .ok (.getfield 37, 3) := by decide +kernel
theorem dX6_step_46 : decode cX6_step 46 = .ok (.getfield 145, 3) := by decide +kernel
theorem dX6_step_49 : decode cX6_step 49 = .ok (.if_icmp .ge 19, 3) := by decide +kernel
theorem dX6_step_52 : decode cX6_step 52 = .ok (.aload_n 0, 1) := by decide +kernel
theorem dX6_step_53 : decode cX6_step 53 = .ok (.getfield 37, 3) := by decide +kernel
theorem dX6_step_56 : decode cX6_step 56 = .ok (.getfield 146, 3) := by decide +kernel
theorem dX6_step_59 : decode cX6_step 59 = .ok (.iconst 4, 1) := by decide +kernel
theorem dX6_step_60 : decode cX6_step 60 = .ok (.iload_n 1, 1) := by decide +kernel
theorem dX6_step_61 : decode cX6_step 61 = .ok (.imul, 1) := by decide +kernel
theorem dX6_step_62 : decode cX6_step 62 = .ok (.iload_n 2, 1) := by decide +kernel
theorem dX6_step_63 : decode cX6_step 63 = .ok (.iadd, 1) := by decide +kernel
theorem dX6_step_64 : decode cX6_step 64 = .ok (.iaload, 1) := by decide +kernel
theorem dX6_step_65 : decode cX6_step 65 = .ok (.goto 5, 3) := by decide +kernel
theorem dX6_step_68 : decode cX6_step 68 = .ok (.bipush (-6), 2) := by decide +kernel
theorem dX6_step_70 : decode cX6_step 70 = .ok (.ireturn, 1) := by decide +kernel
set_option maxRecDepth 20000 in
theorem ggX6_left_X6_isItem : GoodIn wsX6_left wsX6_isItem := goodIn_r _ [6] (by decide +kernel) (by decide +kernel)
set_option maxRecDepth 20000 in
theorem gX6_left_X6_isItem : GoodIn wsX6_left (va_wsS RX6 106 yX6_isItem wsX6_isItem) := goodIn_app (goodIn_of _ (by decide +kernel)) ggX6_left_X6_isItem
set_option maxRecDepth 20000 in
theorem ggX6_left_X4_solve : GoodIn wsX6_left wsX4_solve := goodIn_r _ [11, 12, 13, 14, 15, 16, 17, 18, 19, 20, 21, 22, 10, 23, 24, 25, 26, 27, 28, 29, 30, 31, 32, 33, 34, 35, 36, 37, 38, 39, 40, 41, 42, 43, 44, 45, 46, 47, 48, 49, 50, 51, 52, 53, 54, 55, 56, 57, 58, 59, 60, 61, 62, 63, 64, 65, 66, 67, 68, 69, 70, 71, 72, 73, 74, 75, 76, 77, 78, 79, 80, 81, 82, 5, 83, 99, 100, 101, 102, 103, 104, 105, 106, 107, 108, 109, 110, 111, 112, 113] (by decide +kernel) (by decide +kernel)
set_option maxRecDepth 20000 in
theorem gX6_left_X4_solve : GoodIn wsX6_left (wsV RX6 141 RX4 yX4_solve wsX4_solve) := goodIn_app (goodIn_of _ (by decide +kernel)) ggX6_left_X4_solve
set_option maxRecDepth 20000 in
theorem ggX6_left_X4_leftBehind : GoodIn wsX6_left wsX4_leftBehind := goodIn_r _ [87, 14, 88, 89, 90, 91, 15, 99, 100, 101, 102] (by decide +kernel) (by decide +kernel)
set_option maxRecDepth 20000 in
theorem gX6_left_X4_leftBehind : GoodIn wsX6_left (wsV RX6 150 RX4 yX4_leftBehind wsX4_leftBehind) := goodIn_app (goodIn_of _ (by decide +kernel)) ggX6_left_X4_leftBehind
theorem dX6_left_0 : decode cX6_left 0 = .ok (.iload_n 1, 1) := by decide +kernel
theorem dX6_left_1 : decode cX6_left 1 = .ok (.invokestatic 106, 3) := by decide +kernel
theorem dX6_left_4 : decode cX6_left 4 = .ok (.ifCond .eq 7, 3) := by decide +kernel
theorem dX6_left_7 : decode cX6_left 7 = .ok (.iload_n 2, 1) := by decide +kernel
theorem dX6_left_8 : decode cX6_left 8 = .ok (.ifCond .ge 6, 3) := by decide +kernel
theorem dX6_left_11 : decode cX6_left 11 = .ok (.bipush (-2), 2) := by decide +kernel
theorem dX6_left_13 : decode cX6_left 13 = .ok (.ireturn, 1) := by decide +kernel
theorem dX6_left_14 : decode cX6_left 14 = .ok (.aload_n 0, 1) := by decide +kernel
theorem dX6_left_15 : decode cX6_left 15 = .ok (.getfield 37, 3) := by decide +kernel
theorem dX6_left_18 : decode cX6_left 18 = .ok (.aload_n 0, 1) := by decide +kernel
theorem dX6_left_19 : decode cX6_left 19 = .ok (.getfield 19, 3) := by decide +kernel
theorem dX6_left_22 : decode cX6_left 22 = .ok (.invokevirtual 141, 3) := by decide +kernel
theorem dX6_left_25 : decode cX6_left 25 = .ok (.aload_n 0, 1) := by decide +kernel
theorem dX6_left_26 : decode cX6_left 26 = .ok (.getfield 37, 3) := by decide +kernel
theorem dX6_left_29 : decode cX6_left 29 = .ok (.iload_n 1, 1) := by decide +kernel
theorem dX6_left_30 : decode cX6_left 30 = .ok (.iload_n 2, 1) := by decide +kernel
theorem dX6_left_31 : decode cX6_left 31 = .ok (.invokevirtual 150, 3) := by decide +kernel
theorem dX6_left_34 : decode cX6_left 34 = .ok (.ireturn, 1) := by decide +kernel
set_option maxRecDepth 20000 in
theorem ggX6_end_X4_solve : GoodIn wsX6_end wsX4_solve := goodIn_r _ [7, 8, 9, 10, 11, 12, 13, 14, 15, 16, 17, 18, 6, 19, 20, 21, 22, 23, 24, 25, 26, 27, 28, 29, 30, 31, 32, 33, 34, 35, 36, 37, 38, 39, 40, 41, 42, 43, 44, 45, 46, 47, 48, 49, 50, 51, 52, 53, 54, 55, 56, 57, 58, 59, 60, 61, 62, 63, 64, 65, 66, 67, 68, 69, 70, 71, 72, 73, 74, 75, 76, 77, 78, 79, 80, 92, 93, 94, 95, 96, 97, 98, 99, 100, 101, 102, 103, 104, 105, 106] (by decide +kernel) (by decide +kernel)
set_option maxRecDepth 20000 in
theorem gX6_end_X4_solve : GoodIn wsX6_end (wsV RX6 141 RX4 yX4_solve wsX4_solve) := goodIn_app (goodIn_of _ (by decide +kernel)) ggX6_end_X4_solve
set_option maxRecDepth 20000 in
theorem ggX6_end_X4_howItEnds : GoodIn wsX6_end wsX4_howItEnds := goodIn_r _ [84, 9, 48, 49, 50, 51, 52, 53, 54, 92, 93, 94, 95] (by decide +kernel) (by decide +kernel)
set_option maxRecDepth 20000 in
theorem gX6_end_X4_howItEnds : GoodIn wsX6_end (wsV RX6 154 RX4 yX4_howItEnds wsX4_howItEnds) := goodIn_app (goodIn_of _ (by decide +kernel)) ggX6_end_X4_howItEnds
theorem dX6_end_0 : decode cX6_end 0 = .ok (.aload_n 0, 1) := by decide +kernel
theorem dX6_end_1 : decode cX6_end 1 = .ok (.getfield 37, 3) := by decide +kernel
theorem dX6_end_4 : decode cX6_end 4 = .ok (.aload_n 0, 1) := by decide +kernel
theorem dX6_end_5 : decode cX6_end 5 = .ok (.getfield 19, 3) := by decide +kernel
theorem dX6_end_8 : decode cX6_end 8 = .ok (.invokevirtual 141, 3) := by decide +kernel
theorem dX6_end_11 : decode cX6_end 11 = .ok (.aload_n 0, 1) := by decide +kernel
theorem dX6_end_12 : decode cX6_end 12 = .ok (.getfield 37, 3) := by decide +kernel
theorem dX6_end_15 : decode cX6_end 15 = .ok (.invokevirtual 154, 3) := by decide +kernel
theorem dX6_end_18 : decode cX6_end 18 = .ok (.ireturn, 1) := by decide +kernel
set_option maxRecDepth 20000 in
theorem ggX6_image_X2_copy : GoodIn wsX6_image wsX2_copy := goodIn_r _ [8, 9, 10, 18, 19] (by decide +kernel) (by decide +kernel)
set_option maxRecDepth 20000 in
theorem gX6_image_X2_copy : GoodIn wsX6_image (wsV RX6 157 RX2 yX2_copy wsX2_copy) := goodIn_app (goodIn_of _ (by decide +kernel)) ggX6_image_X2_copy
theorem dX6_image_0 : decode cX6_image 0 = .ok (.iload_n 1, 1) := by decide +kernel
theorem dX6_image_1 : decode cX6_image 1 = .ok (.ifCond .lt 8, 3) := by decide +kernel
theorem dX6_image_4 : decode cX6_image 4 = .ok (.iload_n 1, 1) := by decide +kernel
theorem dX6_image_5 : decode cX6_image 5 = .ok (.iconst 2, 1) := by decide +kernel
theorem dX6_image_6 : decode cX6_image 6 = .ok (.if_icmp .lt 6, 3) := by decide +kernel
theorem dX6_image_9 : decode cX6_image 9 = .ok (.bipush (-2), 2) := by decide +kernel
theorem dX6_image_11 : decode cX6_image 11 = .ok (.ireturn, 1) := by decide +kernel
theorem dX6_image_12 : decode cX6_image 12 = .ok (.aload_n 0, 1) := by decide +kernel
theorem dX6_image_13 : decode cX6_image 13 = .ok (.getfield 23, 3) := by decide +kernel
theorem dX6_image_16 : decode cX6_image 16 = .ok (.iload_n 1, 1) := by decide +kernel
theorem dX6_image_17 : decode cX6_image 17 = .ok (.aaload, 1) := by decide +kernel
theorem dX6_image_18 : decode cX6_image 18 = .ok (.aload_n 0, 1) := by decide +kernel
theorem dX6_image_19 : decode cX6_image 19 = .ok (.getfield 19, 3) := by decide +kernel
theorem dX6_image_22 : decode cX6_image 22 = .ok (.invokevirtual 157, 3) := by decide +kernel
theorem dX6_image_25 : decode cX6_image 25 = .ok (.aload_n 0, 1) := by decide +kernel
theorem dX6_image_26 : decode cX6_image 26 = .ok (.dup, 1) := by decide +kernel
theorem dX6_image_27 : decode cX6_image 27 = .ok (.getfield 41, 3) := by decide +kernel
theorem dX6_image_30 : decode cX6_image 30 = .ok (.iconst 1, 1) := by decide +kernel
theorem dX6_image_31 : decode cX6_image 31 = .ok (.iload_n 1, 1) := by decide +kernel
theorem dX6_image_32 : decode cX6_image 32 = .ok (.ishl, 1) := by decide +kernel
theorem dX6_image_33 : decode cX6_image 33 = .ok (.ior, 1) := by decide +kernel
theorem dX6_image_34 : decode cX6_image 34 = .ok (.putfield 41, 3) := by decide +kernel
theorem dX6_image_37 : decode cX6_image 37 = .ok (.iconst 1, 1) := by decide +kernel
theorem dX6_image_38 : decode cX6_image 38 = .ok (.ireturn, 1) := by decide +kernel
set_option maxRecDepth 20000 in
theorem ggX6_restore_X6_isIn : GoodIn wsX6_restore wsX6_isIn := goodIn_r _ [7] (by decide +kernel) (by decide +kernel)
set_option maxRecDepth 20000 in
theorem gX6_restore_X6_isIn : GoodIn wsX6_restore (va_wsS RX6 137 yX6_isIn wsX6_isIn) := goodIn_app (goodIn_of _ (by decide +kernel)) ggX6_restore_X6_isIn
set_option maxRecDepth 20000 in
theorem ggX6_restore_X2_copy : GoodIn wsX6_restore wsX2_copy := goodIn_r _ [12, 13, 14, 43, 44] (by decide +kernel) (by decide +kernel)
set_option maxRecDepth 20000 in
theorem gX6_restore_X2_copy : GoodIn wsX6_restore (wsV RX6 157 RX2 yX2_copy wsX2_copy) := goodIn_app (goodIn_of _ (by decide +kernel)) ggX6_restore_X2_copy
set_option maxRecDepth 20000 in
theorem ggX6_restore_X6_forgetWhatWasFound : GoodIn wsX6_restore wsX6_forgetWhatWasFound := goodIn_r _ [18, 19, 20, 21, 22, 23, 24, 25, 26, 27, 28, 29, 30, 31, 32, 33, 34, 35, 36, 37, 38, 39, 40, 41, 42, 45, 46, 47, 48, 49, 50, 51, 52, 53, 54] (by decide +kernel) (by decide +kernel)
set_option maxRecDepth 20000 in
theorem gX6_restore_X6_forgetWhatWasFound : GoodIn wsX6_restore (wsV RX6 71 RX6 yX6_forgetWhatWasFound wsX6_forgetWhatWasFound) := goodIn_app (goodIn_of _ (by decide +kernel)) ggX6_restore_X6_forgetWhatWasFound
theorem dX6_restore_0 : decode cX6_restore 0 = .ok (.iload_n 1, 1) := by decide +kernel
theorem dX6_restore_1 : decode cX6_restore 1 = .ok (.ifCond .lt 8, 3) := by decide +kernel
theorem dX6_restore_4 : decode cX6_restore 4 = .ok (.iload_n 1, 1) := by decide +kernel
theorem dX6_restore_5 : decode cX6_restore 5 = .ok (.iconst 2, 1) := by decide +kernel
theorem dX6_restore_6 : decode cX6_restore 6 = .ok (.if_icmp .lt 6, 3) := by decide +kernel
theorem dX6_restore_9 : decode cX6_restore 9 = .ok (.bipush (-2), 2) := by decide +kernel
theorem dX6_restore_11 : decode cX6_restore 11 = .ok (.ireturn, 1) := by decide +kernel
theorem dX6_restore_12 : decode cX6_restore 12 = .ok (.aload_n 0, 1) := by decide +kernel
theorem dX6_restore_13 : decode cX6_restore 13 = .ok (.getfield 41, 3) := by decide +kernel
theorem dX6_restore_16 : decode cX6_restore 16 = .ok (.iload_n 1, 1) := by decide +kernel
theorem dX6_restore_17 : decode cX6_restore 17 = .ok (.invokestatic 137, 3) := by decide +kernel
theorem dX6_restore_20 : decode cX6_restore 20 = .ok (.ifCond .ne 6, 3) := by decide +kernel
theorem dX6_restore_23 : decode cX6_restore 23 = .ok (.bipush (-3), 2) := by decide +kernel
theorem dX6_restore_25 : decode cX6_restore 25 = .ok (.ireturn, 1) := by decide +kernel
theorem dX6_restore_26 : decode cX6_restore 26 = .ok (.aload_n 0, 1) := by decide +kernel
theorem dX6_restore_27 : decode cX6_restore 27 = .ok (.getfield 19, 3) := by decide +kernel
theorem dX6_restore_30 : decode cX6_restore 30 = .ok (.aload_n 0, 1) := by decide +kernel
theorem dX6_restore_31 : decode cX6_restore 31 = .ok (.getfield 23, 3) := by decide +kernel
theorem dX6_restore_34 : decode cX6_restore 34 = .ok (.iload_n 1, 1) := by decide +kernel
theorem dX6_restore_35 : decode cX6_restore 35 = .ok (.aaload, 1) := by decide +kernel
theorem dX6_restore_36 : decode cX6_restore 36 = .ok (.invokevirtual 157, 3) := by decide +kernel
theorem dX6_restore_39 : decode cX6_restore 39 = .ok (.aload_n 0, 1) := by decide +kernel
theorem dX6_restore_40 : decode cX6_restore 40 = .ok (.invokevirtual 71, 3) := by decide +kernel
theorem dX6_restore_43 : decode cX6_restore 43 = .ok (.iconst 1, 1) := by decide +kernel
theorem dX6_restore_44 : decode cX6_restore 44 = .ok (.ireturn, 1) := by decide +kernel
set_option maxRecDepth 20000 in
theorem ggX6_count_X2_ofKind : GoodIn wsX6_count wsX2_ofKind := goodIn_r _ [11, 12, 13, 14, 22, 23, 26, 27, 28, 29, 30, 31, 32, 33, 34] (by decide +kernel) (by decide +kernel)
set_option maxRecDepth 20000 in
theorem gX6_count_X2_ofKind : GoodIn wsX6_count (wsV RX6 160 RX2 yX2_ofKind wsX2_ofKind) := goodIn_app (goodIn_of _ (by decide +kernel)) ggX6_count_X2_ofKind
theorem dX6_count_0 : decode cX6_count 0 = .ok (.iload_n 1, 1) := by decide +kernel
theorem dX6_count_1 : decode cX6_count 1 = .ok (.bipush 10, 2) := by decide +kernel
theorem dX6_count_3 : decode cX6_count 3 = .ok (.if_icmp .lt 21, 3) := by decide +kernel
theorem dX6_count_6 : decode cX6_count 6 = .ok (.iload_n 1, 1) := by decide +kernel
theorem dX6_count_7 : decode cX6_count 7 = .ok (.bipush 17, 2) := by decide +kernel
theorem dX6_count_9 : decode cX6_count 9 = .ok (.if_icmp .ge 15, 3) := by decide +kernel
theorem dX6_count_12 : decode cX6_count 12 = .ok (.aload_n 0, 1) := by decide +kernel
theorem dX6_count_13 : decode cX6_count 13 = .ok (.getfield 19, 3) := by decide +kernel
theorem dX6_count_16 : decode cX6_count 16 = .ok (.iload_n 1, 1) := by decide +kernel
theorem dX6_count_17 : decode cX6_count 17 = .ok (.bipush 10, 2) := by decide +kernel
theorem dX6_count_19 : decode cX6_count 19 = .ok (.isub, 1) := by decide +kernel
theorem dX6_count_20 : decode cX6_count 20 = .ok (.invokevirtual 160, 3) := by decide +kernel
theorem dX6_count_23 : decode cX6_count 23 = .ok (.ireturn, 1) := by decide +kernel
theorem dX6_count_24 : decode cX6_count 24 = .ok (.iload_n 1, 1) := by decide +kernel
theorem dX6_count_25 : decode cX6_count 25 = .ok (.tableswitch 57 0 3 #[31, 39, 47, 52], 31) := by decide +kernel
theorem dX6_count_56 : decode cX6_count 56 = .ok (.aload_n 0, 1) := by decide +kernel
theorem dX6_count_57 : decode cX6_count 57 = .ok (.getfield 19, 3) := by decide +kernel
theorem dX6_count_60 : decode cX6_count 60 = .ok (.getfield 63, 3) := by decide +kernel
theorem dX6_count_63 : decode cX6_count 63 = .ok (.ireturn, 1) := by decide +kernel
theorem dX6_count_64 : decode cX6_count 64 = .ok (.aload_n 0, 1) := by decide +kernel
theorem dX6_count_65 : decode cX6_count 65 = .ok (.getfield 10, 3) := by decide +kernel
theorem dX6_count_68 : decode cX6_count 68 = .ok (.getfield 48, 3) := by decide +kernel
theorem dX6_count_71 : decode cX6_count 71 = .ok (.ireturn, 1) := by decide +kernel
theorem dX6_count_72 : decode cX6_count 72 = .ok (.aload_n 0, 1) := by decide +kernel
theorem dX6_count_73 : decode cX6_count 73 = .ok (.getfield 45, 3) := by decide +kernel
theorem dX6_count_76 : decode cX6_count 76 = .ok (.ireturn, 1) := by decide +kernel
theorem dX6_count_77 : decode cX6_count 77 = .ok (.aload_n 0, 1) := by decide +kernel
theorem dX6_count_78 : decode cX6_count 78 = .ok (.getfield 41, 3) := by decide +kernel
theorem dX6_count_81 : decode cX6_count 81 = .ok (.ireturn, 1) := by decide +kernel
theorem dX6_count_82 : decode cX6_count 82 = .ok (.bipush (-2), 2) := by decide +kernel
theorem dX6_count_84 : decode cX6_count 84 = .ok (.ireturn, 1) := by decide +kernel
set_option maxRecDepth 20000 in
theorem ggX6_forgetWhatWasFound_X0_forget : GoodIn wsX6_forgetWhatWasFound wsX0_forget := goodIn_r _ [7, 8, 9, 10, 11, 25, 26, 27, 28, 29, 30] (by decide +kernel) (by decide +kernel)
set_option maxRecDepth 20000 in
theorem gX6_forgetWhatWasFound_X0_forget : GoodIn wsX6_forgetWhatWasFound (wsV RX6 164 RX0 yX0_forget wsX0_forget) := goodIn_app (goodIn_of _ (by decide +kernel)) ggX6_forgetWhatWasFound_X0_forget
set_option maxRecDepth 20000 in
theorem ggX6_forgetWhatWasFound_X4_forget : GoodIn wsX6_forgetWhatWasFound wsX4_forget := goodIn_r _ [16, 17, 31, 32, 33, 34] (by decide +kernel) (by decide +kernel)
set_option maxRecDepth 20000 in
theorem gX6_forgetWhatWasFound_X4_forget : GoodIn wsX6_forgetWhatWasFound (wsV RX6 167 RX4 yX4_forget wsX4_forget) := goodIn_app (goodIn_of _ (by decide +kernel)) ggX6_forgetWhatWasFound_X4_forget
theorem dX6_forgetWhatWasFound_0 : decode cX6_forgetWhatWasFound 0 = .ok (.aload_n 0, 1) := by decide +kernel
theorem dX6_forgetWhatWasFound_1 : decode cX6_forgetWhatWasFound 1 = .ok (.getfield 30, 3) := by decide +kernel
theorem dX6_forgetWhatWasFound_4 : decode cX6_forgetWhatWasFound 4 = .ok (.invokevirtual 164, 3) := by decide +kernel
theorem dX6_forgetWhatWasFound_7 : decode cX6_forgetWhatWasFound 7 = .ok (.aload_n 0, 1) := by decide +kernel
theorem dX6_forgetWhatWasFound_8 : decode cX6_forgetWhatWasFound 8 = .ok (.getfield 37, 3) := by decide +kernel
theorem dX6_forgetWhatWasFound_11 : decode cX6_forgetWhatWasFound 11 = .ok (.invokevirtual 167, 3) := by decide +kernel
theorem dX6_forgetWhatWasFound_14 : decode cX6_forgetWhatWasFound 14 = .ok (.return_, 1) := by decide +kernel
theorem dX6_isClue_0 : decode cX6_isClue 0 = .ok (.iload_n 1, 1) := by decide +kernel
theorem dX6_isClue_1 : decode cX6_isClue 1 = .ok (.ifCond .lt 18, 3) := by decide +kernel
theorem dX6_isClue_4 : decode cX6_isClue 4 = .ok (.iload_n 1, 1) := by decide +kernel
theorem dX6_isClue_5 : decode cX6_isClue 5 = .ok (.aload_n 0, 1) := by decide +kernel
theorem dX6_isClue_6 : decode cX6_isClue 6 = .ok (.getfield 19, 3) := by decide +kernel
theorem dX6_isClue_9 : decode cX6_isClue 9 = .ok (.getfield 63, 3) := by decide +kernel
theorem dX6_isClue_12 : decode cX6_isClue 12 = .ok (.if_icmp .ge 7, 3) := by decide +kernel
theorem dX6_isClue_15 : decode cX6_isClue 15 = .ok (.iconst 1, 1) := by decide +kernel
theorem dX6_isClue_16 : decode cX6_isClue 16 = .ok (.goto 4, 3) := by decide +kernel
theorem dX6_isClue_19 : decode cX6_isClue 19 = .ok (.iconst 0, 1) := by decide +kernel
theorem dX6_isClue_20 : decode cX6_isClue 20 = .ok (.ireturn, 1) := by decide +kernel
theorem dX6_isItem_0 : decode cX6_isItem 0 = .ok (.iload_n 0, 1) := by decide +kernel
theorem dX6_isItem_1 : decode cX6_isItem 1 = .ok (.ifCond .lt 13, 3) := by decide +kernel
theorem dX6_isItem_4 : decode cX6_isItem 4 = .ok (.iload_n 0, 1) := by decide +kernel
theorem dX6_isItem_5 : decode cX6_isItem 5 = .ok (.bipush 16, 2) := by decide +kernel
theorem dX6_isItem_7 : decode cX6_isItem 7 = .ok (.if_icmp .ge 7, 3) := by decide +kernel
theorem dX6_isItem_10 : decode cX6_isItem 10 = .ok (.iconst 1, 1) := by decide +kernel
theorem dX6_isItem_11 : decode cX6_isItem 11 = .ok (.goto 4, 3) := by decide +kernel
theorem dX6_isItem_14 : decode cX6_isItem 14 = .ok (.iconst 0, 1) := by decide +kernel
theorem dX6_isItem_15 : decode cX6_isItem 15 = .ok (.ireturn, 1) := by decide +kernel
theorem dX6_isPlace_0 : decode cX6_isPlace 0 = .ok (.iload_n 0, 1) := by decide +kernel
theorem dX6_isPlace_1 : decode cX6_isPlace 1 = .ok (.iconst 1, 1) := by decide +kernel
theorem dX6_isPlace_2 : decode cX6_isPlace 2 = .ok (.if_icmp .lt 12, 3) := by decide +kernel
theorem dX6_isPlace_5 : decode cX6_isPlace 5 = .ok (.iload_n 0, 1) := by decide +kernel
theorem dX6_isPlace_6 : decode cX6_isPlace 6 = .ok (.iconst 4, 1) := by decide +kernel
theorem dX6_isPlace_7 : decode cX6_isPlace 7 = .ok (.if_icmp .gt 7, 3) := by decide +kernel
theorem dX6_isPlace_10 : decode cX6_isPlace 10 = .ok (.iconst 1, 1) := by decide +kernel
theorem dX6_isPlace_11 : decode cX6_isPlace 11 = .ok (.goto 4, 3) := by decide +kernel
theorem dX6_isPlace_14 : decode cX6_isPlace 14 = .ok (.iconst 0, 1) := by decide +kernel
theorem dX6_isPlace_15 : decode cX6_isPlace 15 = .ok (.ireturn, 1) := by decide +kernel
theorem dX6_isIn_0 : decode cX6_isIn 0 = .ok (.iload_n 0, 1) := by decide +kernel
theorem dX6_isIn_1 : decode cX6_isIn 1 = .ok (.iload_n 1, 1) := by decide +kernel
theorem dX6_isIn_2 : decode cX6_isIn 2 = .ok (.ishr, 1) := by decide +kernel
theorem dX6_isIn_3 : decode cX6_isIn 3 = .ok (.iconst 1, 1) := by decide +kernel
theorem dX6_isIn_4 : decode cX6_isIn 4 = .ok (.iand, 1) := by decide +kernel
theorem dX6_isIn_5 : decode cX6_isIn 5 = .ok (.ifCond .eq 7, 3) := by decide +kernel
theorem dX6_isIn_8 : decode cX6_isIn 8 = .ok (.iconst 1, 1) := by decide +kernel
theorem dX6_isIn_9 : decode cX6_isIn 9 = .ok (.goto 4, 3) := by decide +kernel
theorem dX6_isIn_12 : decode cX6_isIn 12 = .ok (.iconst 0, 1) := by decide +kernel
theorem dX6_isIn_13 : decode cX6_isIn 13 = .ok (.ireturn, 1) := by decide +kernel
