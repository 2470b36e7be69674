set_option maxRecDepth 20000 in
theorem ggX3_init_X2_init : GoodIn wsX3_init wsX2_init := goodIn_r _ [14, 15, 2, 3, 16, 17, 18, 28, 29] (by decide +kernel) (by decide +kernel)
set_option maxRecDepth 20000 in
theorem gX3_init_X2_init_n22 : GoodIn wsX3_init (wsX2_init) := ggX3_init_X2_init
theorem dX3_init_0 : decode cX3_init 0 = .ok (.aload_n 0, 1) := by decide +kernel
theorem dX3_init_1 : decode cX3_init 1 = .ok (.invokespecial 7, 3) := by decide +kernel
theorem dX3_init_4 : decode cX3_init 4 = .ok (.aload_n 0, 1) := by decide +kernel
theorem dX3_init_5 : decode cX3_init 5 = .ok (.iconst 4, 1) := by decide +kernel
theorem dX3_init_6 : decode cX3_init 6 = .ok (.newarray .int, 2) := by decide +kernel
theorem dX3_init_8 : decode cX3_init 8 = .ok (.putfield 13, 3) := by decide +kernel
theorem dX3_init_11 : decode cX3_init 11 = .ok (.aload_n 0, 1) := by decide +kernel
theorem dX3_init_12 : decode cX3_init 12 = .ok (.sipush 144, 3) := by decide +kernel
theorem dX3_init_15 : decode cX3_init 15 = .ok (.newarray .int, 2) := by decide +kernel
theorem dX3_init_17 : decode cX3_init 17 = .ok (.putfield 17, 3) := by decide +kernel
theorem dX3_init_20 : decode cX3_init 20 = .ok (.aload_n 0, 1) := by decide +kernel
theorem dX3_init_21 : decode cX3_init 21 = .ok (.new 20, 3) := by decide +kernel
theorem dX3_init_24 : decode cX3_init 24 = .ok (.dup, 1) := by decide +kernel
theorem dX3_init_25 : decode cX3_init 25 = .ok (.invokespecial 22, 3) := by decide +kernel
theorem dX3_init_28 : decode cX3_init 28 = .ok (.putfield 23, 3) := by decide +kernel
theorem dX3_init_31 : decode cX3_init 31 = .ok (.aload_n 0, 1) := by decide +kernel
theorem dX3_init_32 : decode cX3_init 32 = .ok (.new 20, 3) := by decide +kernel
theorem dX3_init_35 : decode cX3_init 35 = .ok (.dup, 1) := by decide +kernel
theorem dX3_init_36 : decode cX3_init 36 = .ok (.invokespecial 22, 3) := by decide +kernel
theorem dX3_init_39 : decode cX3_init 39 = .ok (.putfield 27, 3) := by decide +kernel
theorem dX3_init_42 : decode cX3_init 42 = .ok (.aload_n 0, 1) := by decide +kernel
theorem dX3_init_43 : decode cX3_init 43 = .ok (.iconst 4, 1) := by decide +kernel
theorem dX3_init_44 : decode cX3_init 44 = .ok (.newarray .int, 2) := by decide +kernel
theorem dX3_init_46 : decode cX3_init 46 = .ok (.putfield 30, 3) := by decide +kernel
theorem dX3_init_49 : decode cX3_init 49 = .ok (.return_, 1) := by decide +kernel
set_option maxRecDepth 20000 in
theorem ggX3_choose_J7_fill_53178 : GoodIn wsX3_choose wsJ7_fill_53178 := goodIn_r _ [12] (by decide +kernel) (by decide +kernel)
set_option maxRecDepth 20000 in
theorem gX3_choose_J7_fill_53178 : GoodIn wsX3_choose (va_wsS RX3 34 yJ7_fill_53178 wsJ7_fill_53178) := goodIn_app (goodIn_of _ (by decide +kernel)) ggX3_choose_J7_fill_53178
set_option maxRecDepth 20000 in
theorem ggX3_choose_X6_isIn : GoodIn wsX3_choose wsX6_isIn := goodIn_r _ [15] (by decide +kernel) (by decide +kernel)
set_option maxRecDepth 20000 in
theorem gX3_choose_X6_isIn_n48 : GoodIn wsX3_choose (wsX6_isIn) := ggX3_choose_X6_isIn
set_option maxRecDepth 20000 in
theorem ggX3_choose_X3_take : GoodIn wsX3_choose wsX3_take := goodIn_r _ [20, 21, 1, 22, 23, 24, 7, 4, 6, 25, 26, 27, 19, 28, 29, 30, 3, 31, 32, 33, 34, 35, 36, 37, 38, 39, 40, 41, 42, 54, 55, 56, 57, 58, 59, 60, 61, 62, 43, 44, 45, 46, 47, 48, 49, 50, 51, 52, 53] (by decide +kernel) (by decide +kernel)
set_option maxRecDepth 20000 in
theorem gX3_choose_X3_take : GoodIn wsX3_choose (wsV RX3 56 RX3 yX3_take wsX3_take) := goodIn_app (goodIn_of _ (by decide +kernel)) ggX3_choose_X3_take
theorem dX3_choose_0 : decode cX3_choose 0 = .ok (.aload_n 0, 1) := by decide +kernel
theorem dX3_choose_1 : decode cX3_choose 1 = .ok (.getfield 13, 3) := by decide +kernel
theorem dX3_choose_4 : decode cX3_choose 4 = .ok (.ldc 33, 2) := by decide +kernel
theorem dX3_choose_6 : decode cX3_choose 6 = .ok (.invokestatic 34, 3) := by decide +kernel
theorem dX3_choose_9 : decode cX3_choose 9 = .ok (.aload_n 0, 1) := by decide +kernel
theorem dX3_choose_10 : decode cX3_choose 10 = .ok (.getfield 17, 3) := by decide +kernel
theorem dX3_choose_13 : decode cX3_choose 13 = .ok (.ldc 33, 2) := by decide +kernel
theorem dX3_choose_15 : decode cX3_choose 15 = .ok (.invokestatic 34, 3) := by decide +kernel
theorem dX3_choose_18 : decode cX3_choose 18 = .ok (.aload_n 0, 1) := by decide +kernel
theorem dX3_choose_19 : decode cX3_choose 19 = .ok (.getfield 23, 3) := by decide +kernel
theorem dX3_choose_22 : decode cX3_choose 22 = .ok (.iconst 0, 1) := by decide +kernel
theorem dX3_choose_23 : decode cX3_choose 23 = .ok (.putfield 40, 3) := by decide +kernel
theorem dX3_choose_26 : decode cX3_choose 26 = .ok (.aload_n 0, 1) := by decide +kernel
theorem dX3_choose_27 : decode cX3_choose 27 = .ok (.getfield 27, 3) := by decide +kernel
theorem dX3_choose_30 : decode cX3_choose 30 = .ok (.iconst 0, 1) := by decide +kernel
theorem dX3_choose_31 : decode cX3_choose 31 = .ok (.putfield 40, 3) := by decide +kernel
theorem dX3_choose_34 : decode cX3_choose 34 = .ok (.aload_n 0, 1) := by decide +kernel
theorem dX3_choose_35 : decode cX3_choose 35 = .ok (.iconst 0, 1) := by decide +kernel
theorem dX3_choose_36 : decode cX3_choose 36 = .ok (.putfield 44, 3) := by decide +kernel
theorem dX3_choose_39 : decode cX3_choose 39 = .ok (.iconst 0, 1) := by decide +kernel
theorem dX3_choose_40 : decode cX3_choose 40 = .ok (.istore_n 3, 1) := by decide +kernel
theorem dX3_choose_41 : decode cX3_choose 41 = .ok (.iload_n 3, 1) := by decide +kernel
theorem dX3_choose_42 : decode cX3_choose 42 = .ok (.aload_n 1, 1) := by decide +kernel
theorem dX3_choose_43 : decode cX3_choose 43 = .ok (.getfield 40, 3) := by decide +kernel
theorem dX3_choose_46 : decode cX3_choose 46 = .ok (.if_icmp .ge 27, 3) := by decide +kernel
theorem dX3_choose_49 : decode cX3_choose 49 = .ok (.iload_n 2, 1) := by decide +kernel
theorem dX3_choose_50 : decode cX3_choose 50 = .ok (.iload_n 3, 1) := by decide +kernel
theorem dX3_choose_51 : decode cX3_choose 51 = .ok (.invokestatic 48, 3) := by decide +kernel
theorem dX3_choose_54 : decode cX3_choose 54 = .ok (.ifCond .eq 13, 3) := by decide +kernel
theorem dX3_choose_57 : decode cX3_choose 57 = .ok (.aload_n 0, 1) := by decide +kernel
theorem dX3_choose_58 : decode cX3_choose 58 = .ok (.aload_n 1, 1) := by decide +kernel
theorem dX3_choose_59 : decode cX3_choose 59 = .ok (.getfield 52, 3) := by decide +kernel
theorem dX3_choose_62 : decode cX3_choose 62 = .ok (.iload_n 3, 1) := by decide +kernel
theorem dX3_choose_63 : decode cX3_choose 63 = .ok (.aaload, 1) := by decide +kernel
theorem dX3_choose_64 : decode cX3_choose 64 = .ok (.invokevirtual 56, 3) := by decide +kernel
theorem dX3_choose_67 : decode cX3_choose 67 = .ok (.iinc 3 1, 3) := by decide +kernel
theorem dX3_choose_70 : decode cX3_choose 70 = .ok (.goto (-29), 3) := by decide +kernel
theorem dX3_choose_73 : decode cX3_choose 73 = .ok (.return_, 1) := by decide +kernel
set_option maxRecDepth 20000 in
theorem ggX3_take_X3_takePair : GoodIn wsX3_take wsX3_takePair := goodIn_r _ [13, 14, 3, 15, 16, 17, 18, 19, 12, 20, 1, 5, 21, 4, 29, 30, 31, 32, 33, 34, 35, 36, 37, 38, 39, 40, 41, 42, 43, 44, 45, 46] (by decide +kernel) (by decide +kernel)
set_option maxRecDepth 20000 in
theorem gX3_take_X3_takePair : GoodIn wsX3_take (wsV RX3 72 RX3 yX3_takePair wsX3_takePair) := goodIn_app (goodIn_of _ (by decide +kernel)) ggX3_take_X3_takePair
set_option maxRecDepth 20000 in
theorem ggX3_take_X2_add : GoodIn wsX3_take wsX2_add := goodIn_r _ [26, 27, 28, 47, 48] (by decide +kernel) (by decide +kernel)
set_option maxRecDepth 20000 in
theorem gX3_take_X2_add : GoodIn wsX3_take (wsV RX3 76 RX2 yX2_add wsX2_add) := goodIn_app (goodIn_of _ (by decide +kernel)) ggX3_take_X2_add
theorem dX3_take_0 : decode cX3_take 0 = .ok (.aload_n 1, 1) := by decide +kernel
theorem dX3_take_1 : decode cX3_take 1 = .ok (.getfield 60, 3) := by decide +kernel
theorem dX3_take_4 : decode cX3_take 4 = .ok (.bipush (-6), 2) := by decide +kernel
theorem dX3_take_6 : decode cX3_take 6 = .ok (.if_icmp .ne 22, 3) := by decide +kernel
theorem dX3_take_9 : decode cX3_take 9 = .ok (.aload_n 0, 1) := by decide +kernel
theorem dX3_take_10 : decode cX3_take 10 = .ok (.getfield 13, 3) := by decide +kernel
theorem dX3_take_13 : decode cX3_take 13 = .ok (.aload_n 1, 1) := by decide +kernel
theorem dX3_take_14 : decode cX3_take 14 = .ok (.getfield 63, 3) := by decide +kernel
theorem dX3_take_17 : decode cX3_take 17 = .ok (.dup2, 1) := by decide +kernel
theorem dX3_take_18 : decode cX3_take 18 = .ok (.iaload, 1) := by decide +kernel
theorem dX3_take_19 : decode cX3_take 19 = .ok (.aload_n 1, 1) := by decide +kernel
theorem dX3_take_20 : decode cX3_take 20 = .ok (.getfield 66, 3) := by decide +kernel
theorem dX3_take_23 : decode cX3_take 23 = .ok (.iconst 0, 1) := by decide +kernel
theorem dX3_take_24 : decode cX3_take 24 = .ok (.iaload, 1) := by decide +kernel
theorem dX3_take_25 : decode cX3_take 25 = .ok (.iand, 1) := by decide +kernel
theorem dX3_take_26 : decode cX3_take 26 = .ok (.iastore, 1) := by decide +kernel
theorem dX3_take_27 : decode cX3_take 27 = .ok (.return_, 1) := by decide +kernel
theorem dX3_take_28 : decode cX3_take 28 = .ok (.aload_n 1, 1) := by decide +kernel
theorem dX3_take_29 : decode cX3_take 29 = .ok (.getfield 60, 3) := by decide +kernel
theorem dX3_take_32 : decode cX3_take 32 = .ok (.iconst 4, 1) := by decide +kernel
theorem dX3_take_33 : decode cX3_take 33 = .ok (.idiv, 1) := by decide +kernel
theorem dX3_take_34 : decode cX3_take 34 = .ok (.istore_n 2, 1) := by decide +kernel
theorem dX3_take_35 : decode cX3_take 35 = .ok (.aload_n 1, 1) := by decide +kernel
theorem dX3_take_36 : decode cX3_take 36 = .ok (.getfield 69, 3) := by decide +kernel
theorem dX3_take_39 : decode cX3_take 39 = .ok (.bipush (-6), 2) := by decide +kernel
theorem dX3_take_41 : decode cX3_take 41 = .ok (.if_icmp .ne 7, 3) := by decide +kernel
theorem dX3_take_44 : decode cX3_take 44 = .ok (.iload_n 2, 1) := by decide +kernel
theorem dX3_take_45 : decode cX3_take 45 = .ok (.goto 9, 3) := by decide +kernel
theorem dX3_take_48 : decode cX3_take 48 = .ok (.aload_n 1, 1) := by decide +kernel
theorem dX3_take_49 : decode cX3_take 49 = .ok (.getfield 69, 3) := by decide +kernel
theorem dX3_take_52 : decode cX3_take 52 = .ok (.iconst 4, 1) := by decide +kernel
theorem dX3_take_53 : decode cX3_take 53 = .ok (.idiv, 1) := by decide +kernel
theorem dX3_take_54 : decode cX3_take 54 = .ok (.istore_n 3, 1) := by decide +kernel
theorem dX3_take_55 : decode cX3_take 55 = .ok (.aload_n 0, 1) := by decide +kernel
theorem dX3_take_56 : decode cX3_take 56 = .ok (.aload_n 0, 1) := by decide +kernel
theorem dX3_take_57 : decode cX3_take 57 = .ok (.getfield 44, 3) := by decide +kernel
theorem dX3_take_60 : decode cX3_take 60 = .ok (.ifCond .ne 8, 3) := by decide +kernel
theorem dX3_take_63 : decode cX3_take 63 = .ok (.iload_n 3, 1) := by decide +kernel
theorem dX3_take_64 : decode cX3_take 64 = .ok (.iconst 2, 1) := by decide +kernel
theorem dX3_take_65 : decode cX3_take 65 = .ok (.if_icmp .ne 7, 3) := by decide +kernel
theorem dX3_take_68 : decode cX3_take 68 = .ok (.iconst 1, 1) := by decide +kernel
theorem dX3_take_69 : decode cX3_take 69 = .ok (.goto 4, 3) := by decide +kernel
theorem dX3_take_72 : decode cX3_take 72 = .ok (.iconst 0, 1) := by decide +kernel
theorem dX3_take_73 : decode cX3_take 73 = .ok (.putfield 44, 3) := by decide +kernel
theorem dX3_take_76 : decode cX3_take 76 = .ok (.iload_n 3, 1) := by decide +kernel
theorem dX3_take_77 : decode cX3_take 77 = .ok (.iload_n 2, 1) := by decide +kernel
theorem dX3_take_78 : decode cX3_take 78 = .ok (.if_icmp .ne 12, 3) := by decide +kernel
theorem dX3_take_81 : decode cX3_take 81 = .ok (.aload_n 0, 1) := by decide +kernel
theorem dX3_take_82 : decode cX3_take 82 = .ok (.aload_n 1, 1) := by decide +kernel
theorem dX3_take_83 : decode cX3_take 83 = .ok (.iload_n 2, 1) := by decide +kernel
theorem dX3_take_84 : decode cX3_take 84 = .ok (.invokevirtual 72, 3) := by decide +kernel
theorem dX3_take_87 : decode cX3_take 87 = .ok (.goto 27, 3) := by decide +kernel
theorem dX3_take_90 : decode cX3_take 90 = .ok (.iload_n 3, 1) := by decide +kernel
theorem dX3_take_91 : decode cX3_take 91 = .ok (.iconst 1, 1) := by decide +kernel
theorem dX3_take_92 : decode cX3_take 92 = .ok (.if_icmp .ne 14, 3) := by decide +kernel
theorem dX3_take_95 : decode cX3_take 95 = .ok (.aload_n 0, 1) := by decide +kernel
theorem dX3_take_96 : decode cX3_take 96 = .ok (.getfield 23, 3) := by decide +kernel
theorem dX3_take_99 : decode cX3_take 99 = .ok (.aload_n 1, 1) := by decide +kernel
theorem dX3_take_100 : decode cX3_take 100 = .ok (.invokevirtual 76, 3) := by decide +kernel
theorem dX3_take_103 : decode cX3_take 103 = .ok (.goto 11, 3) := by decide +kernel
theorem dX3_take_106 : decode cX3_take 106 = .ok (.aload_n 0, 1) := by decide +kernel
theorem dX3_take_107 : decode cX3_take 107 = .ok (.getfield 27, 3) := by decide +kernel
theorem dX3_take_110 : decode cX3_take 110 = .ok (.aload_n 1, 1) := by decide +kernel
theorem dX3_take_111 : decode cX3_take 111 = .ok (.invokevirtual 76, 3) := by decide +kernel
theorem dX3_take_114 : decode cX3_take 114 = .ok (.return_, 1) := by decide +kernel
set_option maxRecDepth 20000 in
theorem ggX3_takePair_X3_allowedNow : GoodIn wsX3_takePair wsX3_allowedNow := goodIn_r _ [9, 10, 11, 12, 3, 13, 14, 15, 16, 17, 18, 19, 20, 21, 22, 23, 24, 25, 26, 27, 28, 29, 30, 31] (by decide +kernel) (by decide +kernel)
set_option maxRecDepth 20000 in
theorem gX3_takePair_X3_allowedNow : GoodIn wsX3_takePair (wsV RX3 82 RX3 yX3_allowedNow wsX3_allowedNow) := goodIn_app (goodIn_of _ (by decide +kernel)) ggX3_takePair_X3_allowedNow
theorem dX3_takePair_0 : decode cX3_takePair 0 = .ok (.getstatic 79, 3) := by decide +kernel
theorem dX3_takePair_3 : decode cX3_takePair 3 = .ok (.iconst 4, 1) := by decide +kernel
theorem dX3_takePair_4 : decode cX3_takePair 4 = .ok (.iload_n 2, 1) := by decide +kernel
theorem dX3_takePair_5 : decode cX3_takePair 5 = .ok (.imul, 1) := by decide +kernel
theorem dX3_takePair_6 : decode cX3_takePair 6 = .ok (.aload_n 1, 1) := by decide +kernel
theorem dX3_takePair_7 : decode cX3_takePair 7 = .ok (.getfield 63, 3) := by decide +kernel
theorem dX3_takePair_10 : decode cX3_takePair 10 = .ok (.iadd, 1) := by decide +kernel
theorem dX3_takePair_11 : decode cX3_takePair 11 = .ok (.iaload, 1) := by decide +kernel
theorem dX3_takePair_12 : decode cX3_takePair 12 = .ok (.istore_n 3, 1) := by decide +kernel
theorem dX3_takePair_13 : decode cX3_takePair 13 = .ok (.iconst 0, 1) := by decide +kernel
theorem dX3_takePair_14 : decode cX3_takePair 14 = .ok (.istore 4, 2) := by decide +kernel
theorem dX3_takePair_16 : decode cX3_takePair 16 = .ok (.iload 4, 2) := by decide +kernel
theorem dX3_takePair_18 : decode cX3_takePair 18 = .ok (.bipush 24, 2) := by decide +kernel
theorem dX3_takePair_20 : decode cX3_takePair 20 = .ok (.if_icmp .ge 34, 3) := by decide +kernel
theorem dX3_takePair_23 : decode cX3_takePair 23 = .ok (.aload_n 0, 1) := by decide +kernel
theorem dX3_takePair_24 : decode cX3_takePair 24 = .ok (.getfield 30, 3) := by decide +kernel
theorem dX3_takePair_27 : decode cX3_takePair 27 = .ok (.iload_n 2, 1) := by decide +kernel
theorem dX3_takePair_28 : decode cX3_takePair 28 = .ok (.iload 4, 2) := by decide +kernel
theorem dX3_takePair_30 : decode cX3_takePair 30 = .ok (.iastore, 1) := by decide +kernel
theorem dX3_takePair_31 : decode cX3_takePair 31 = .ok (.aload_n 0, 1) := by decide +kernel
theorem dX3_takePair_32 : decode cX3_takePair 32 = .ok (.getfield 17, 3) := by decide +kernel
theorem dX3_takePair_35 : decode cX3_takePair 35 = .ok (.iload_n 3, 1) := by decide +kernel
theorem dX3_takePair_36 : decode cX3_takePair 36 = .ok (.iload 4, 2) := by decide +kernel
theorem dX3_takePair_38 : decode cX3_takePair 38 = .ok (.iadd, 1) := by decide +kernel
theorem dX3_takePair_39 : decode cX3_takePair 39 = .ok (.dup2, 1) := by decide +kernel
theorem dX3_takePair_40 : decode cX3_takePair 40 = .ok (.iaload, 1) := by decide +kernel
theorem dX3_takePair_41 : decode cX3_takePair 41 = .ok (.aload_n 0, 1) := by decide +kernel
theorem dX3_takePair_42 : decode cX3_takePair 42 = .ok (.aload_n 1, 1) := by decide +kernel
theorem dX3_takePair_43 : decode cX3_takePair 43 = .ok (.invokevirtual 82, 3) := by decide +kernel
theorem dX3_takePair_46 : decode cX3_takePair 46 = .ok (.iand, 1) := by decide +kernel
theorem dX3_takePair_47 : decode cX3_takePair 47 = .ok (.iastore, 1) := by decide +kernel
theorem dX3_takePair_48 : decode cX3_takePair 48 = .ok (.iinc 4 1, 3) := by decide +kernel
theorem dX3_takePair_51 : decode cX3_takePair 51 = .ok (.goto (-35), 3) := by decide +kernel
theorem dX3_takePair_54 : decode cX3_takePair 54 = .ok (.return_, 1) := by decide +kernel
theorem dX3_allowedNow_0 : decode cX3_allowedNow 0 = .ok (.aload_n 1, 1) := by decide +kernel
theorem dX3_allowedNow_1 : decode cX3_allowedNow 1 = .ok (.getfield 60, 3) := by decide +kernel
theorem dX3_allowedNow_4 : decode cX3_allowedNow 4 = .ok (.istore_n 2, 1) := by decide +kernel
theorem dX3_allowedNow_5 : decode cX3_allowedNow 5 = .ok (.aload_n 1, 1) := by decide +kernel
theorem dX3_allowedNow_6 : decode cX3_allowedNow 6 = .ok (.getfield 69, 3) := by decide +kernel
theorem dX3_allowedNow_9 : decode cX3_allowedNow 9 = .ok (.istore_n 3, 1) := by decide +kernel
theorem dX3_allowedNow_10 : decode cX3_allowedNow 10 = .ok (.getstatic 86, 3) := by decide +kernel
theorem dX3_allowedNow_13 : decode cX3_allowedNow 13 = .ok (.iconst 4, 1) := by decide +kernel
theorem dX3_allowedNow_14 : decode cX3_allowedNow 14 = .ok (.aload_n 0, 1) := by decide +kernel
theorem dX3_allowedNow_15 : decode cX3_allowedNow 15 = .ok (.getfield 30, 3) := by decide +kernel
theorem dX3_allowedNow_18 : decode cX3_allowedNow 18 = .ok (.iload_n 2, 1) := by decide +kernel
theorem dX3_allowedNow_19 : decode cX3_allowedNow 19 = .ok (.iconst 4, 1) := by decide +kernel
theorem dX3_allowedNow_20 : decode cX3_allowedNow 20 = .ok (.idiv, 1) := by decide +kernel
theorem dX3_allowedNow_21 : decode cX3_allowedNow 21 = .ok (.iaload, 1) := by decide +kernel
theorem dX3_allowedNow_22 : decode cX3_allowedNow 22 = .ok (.imul, 1) := by decide +kernel
theorem dX3_allowedNow_23 : decode cX3_allowedNow 23 = .ok (.iload_n 2, 1) := by decide +kernel
theorem dX3_allowedNow_24 : decode cX3_allowedNow 24 = .ok (.iconst 3, 1) := by decide +kernel
theorem dX3_allowedNow_25 : decode cX3_allowedNow 25 = .ok (.iand, 1) := by decide +kernel
theorem dX3_allowedNow_26 : decode cX3_allowedNow 26 = .ok (.iadd, 1) := by decide +kernel
theorem dX3_allowedNow_27 : decode cX3_allowedNow 27 = .ok (.iaload, 1) := by decide +kernel
theorem dX3_allowedNow_28 : decode cX3_allowedNow 28 = .ok (.istore 4, 2) := by decide +kernel
theorem dX3_allowedNow_30 : decode cX3_allowedNow 30 = .ok (.iload_n 3, 1) := by decide +kernel
theorem dX3_allowedNow_31 : decode cX3_allowedNow 31 = .ok (.bipush (-6), 2) := by decide +kernel
theorem dX3_allowedNow_33 : decode cX3_allowedNow 33 = .ok (.if_icmp .ne 7, 3) := by decide +kernel
theorem dX3_allowedNow_36 : decode cX3_allowedNow 36 = .ok (.iconst 0, 1) := by decide +kernel
theorem dX3_allowedNow_37 : decode cX3_allowedNow 37 = .ok (.goto 21, 3) := by decide +kernel
theorem dX3_allowedNow_40 : decode cX3_allowedNow 40 = .ok (.getstatic 86, 3) := by decide +kernel
theorem dX3_allowedNow_43 : decode cX3_allowedNow 43 = .ok (.iconst 4, 1) := by decide +kernel
theorem dX3_allowedNow_44 : decode cX3_allowedNow 44 = .ok (.aload_n 0, 1) := by decide +kernel
theorem dX3_allowedNow_45 : decode cX3_allowedNow 45 = .ok (.getfield 30, 3) := by decide +kernel
theorem dX3_allowedNow_48 : decode cX3_allowedNow 48 = .ok (.iload_n 3, 1) := by decide +kernel
theorem dX3_allowedNow_49 : decode cX3_allowedNow 49 = .ok (.iconst 4, 1) := by decide +kernel
theorem dX3_allowedNow_50 : decode cX3_allowedNow 50 = .ok (.idiv, 1) := by decide +kernel
theorem dX3_allowedNow_51 : decode cX3_allowedNow 51 = .ok (.iaload, 1) := by decide +kernel
theorem dX3_allowedNow_52 : decode cX3_allowedNow 52 = .ok (.imul, 1) := by decide +kernel
theorem dX3_allowedNow_53 : decode cX3_allowedNow 53 = .ok (.iload_n 3, 1) := by decide +kernel
theorem dX3_allowedNow_54 : decode cX3_allowedNow 54 = .ok (.iconst 3, 1) := by decide +kernel
theorem dX3_allowedNow_55 : decode cX3_allowedNow 55 = .ok (.iand, 1) := by decide +kernel
theorem dX3_allowedNow_56 : decode cX3_allowedNow 56 = .ok (.iadd, 1) := by decide +kernel
theorem dX3_allowedNow_57 : decode cX3_allowedNow 57 = .ok (.iaload, 1) := by decide +kernel
theorem dX3_allowedNow_58 : decode cX3_allowedNow 58 = .ok (.istore 5, 2) := by decide +kernel
theorem dX3_allowedNow_60 : decode cX3_allowedNow 60 = .ok (.aload_n 1, 1) := by decide +kernel
theorem dX3_allowedNow_61 : decode cX3_allowedNow 61 = .ok (.getfield 66, 3) := by decide +kernel
theorem dX3_allowedNow_64 : decode cX3_allowedNow 64 = .ok (.iconst 4, 1) := by decide +kernel
theorem dX3_allowedNow_65 : decode cX3_allowedNow 65 = .ok (.iload 4, 2) := by decide +kernel
theorem dX3_allowedNow_67 : decode cX3_allowedNow 67 = .ok (.imul, 1) := by decide +kernel
theorem dX3_allowedNow_68 : decode cX3_allowedNow 68 = .ok (.iload 5, 2) := by decide +kernel
theorem dX3_allowedNow_70 : decode cX3_allowedNow 70 = .ok (.iadd, 1) := by decide +kernel
theorem dX3_allowedNow_71 : decode cX3_allowedNow 71 = .ok (.iaload, 1) := by decide +kernel
theorem dX3_allowedNow_72 : decode cX3_allowedNow 72 = .ok (.ireturn, 1) := by decide +kernel
theorem dX3_placeOf_0 : decode cX3_placeOf 0 = .ok (.getstatic 86, 3) := by decide +kernel
theorem dX3_placeOf_3 : decode cX3_placeOf 3 = .ok (.iconst 4, 1) := by decide +kernel
theorem dX3_placeOf_4 : decode cX3_placeOf 4 = .ok (.aload_n 0, 1) := by decide +kernel
theorem dX3_placeOf_5 : decode cX3_placeOf 5 = .ok (.getfield 30, 3) := by decide +kernel
theorem dX3_placeOf_8 : decode cX3_placeOf 8 = .ok (.iload_n 1, 1) := by decide +kernel
theorem dX3_placeOf_9 : decode cX3_placeOf 9 = .ok (.iconst 4, 1) := by decide +kernel
theorem dX3_placeOf_10 : decode cX3_placeOf 10 = .ok (.idiv, 1) := by decide +kernel
theorem dX3_placeOf_11 : decode cX3_placeOf 11 = .ok (.iaload, 1) := by decide +kernel
theorem dX3_placeOf_12 : decode cX3_placeOf 12 = .ok (.imul, 1) := by decide +kernel
theorem dX3_placeOf_13 : decode cX3_placeOf 13 = .ok (.iload_n 1, 1) := by decide +kernel
theorem dX3_placeOf_14 : decode cX3_placeOf 14 = .ok (.iconst 3, 1) := by decide +kernel
theorem dX3_placeOf_15 : decode cX3_placeOf 15 = .ok (.iand, 1) := by decide +kernel
theorem dX3_placeOf_16 : decode cX3_placeOf 16 = .ok (.iadd, 1) := by decide +kernel
theorem dX3_placeOf_17 : decode cX3_placeOf 17 = .ok (.iaload, 1) := by decide +kernel
theorem dX3_placeOf_18 : decode cX3_placeOf 18 = .ok (.iconst 1, 1) := by decide +kernel
theorem dX3_placeOf_19 : decode cX3_placeOf 19 = .ok (.iadd, 1) := by decide +kernel
theorem dX3_placeOf_20 : decode cX3_placeOf 20 = .ok (.ireturn, 1) := by decide +kernel
set_option maxRecDepth 20000 in
theorem ggX3_total_X3_passOver : GoodIn wsX3_total wsX3_passOver := goodIn_r _ [7, 2, 8, 9, 10, 11, 12, 13, 14, 6, 15, 16, 17, 18, 19, 20, 21, 22, 23, 24, 25, 26, 27, 28, 29, 30, 31, 32, 33, 34, 35, 36, 37, 38, 39, 40, 41, 42, 43, 44, 45, 46, 47, 48, 49, 50, 51, 52, 53, 54, 55, 56, 57, 58, 59, 60, 61, 62, 63, 64, 65, 66, 67, 68, 69, 70, 71, 72, 73, 74, 75, 76, 77, 78, 79, 80] (by decide +kernel) (by decide +kernel)
set_option maxRecDepth 20000 in
theorem gX3_total_X3_passOver : GoodIn wsX3_total (wsV RX3 90 RX3 yX3_passOver wsX3_passOver) := goodIn_app (goodIn_of _ (by decide +kernel)) ggX3_total_X3_passOver
theorem dX3_total_0 : decode cX3_total 0 = .ok (.aload_n 0, 1) := by decide +kernel
theorem dX3_total_1 : decode cX3_total 1 = .ok (.ldc 89, 2) := by decide +kernel
theorem dX3_total_3 : decode cX3_total 3 = .ok (.invokevirtual 90, 3) := by decide +kernel
theorem dX3_total_6 : decode cX3_total 6 = .ok (.pop, 1) := by decide +kernel
theorem dX3_total_7 : decode cX3_total 7 = .ok (.ldc 89, 2) := by decide +kernel
theorem dX3_total_9 : decode cX3_total 9 = .ok (.aload_n 0, 1) := by decide +kernel
theorem dX3_total_10 : decode cX3_total 10 = .ok (.getfield 94, 3) := by decide +kernel
theorem dX3_total_13 : decode cX3_total 13 = .ok (.isub, 1) := by decide +kernel
theorem dX3_total_14 : decode cX3_total 14 = .ok (.ireturn, 1) := by decide +kernel
set_option maxRecDepth 20000 in
theorem ggX3_passOver_X6_isIn : GoodIn wsX3_passOver wsX6_isIn := goodIn_r _ [5] (by decide +kernel) (by decide +kernel)
set_option maxRecDepth 20000 in
theorem gX3_passOver_X6_isIn_n48 : GoodIn wsX3_passOver (wsX6_isIn) := ggX3_passOver_X6_isIn
set_option maxRecDepth 20000 in
theorem ggX3_passOver_X3_passOverWithA : GoodIn wsX3_passOver wsX3_passOverWithA := goodIn_r _ [10, 11, 2, 12, 1, 3, 4, 5, 13, 14, 15, 9, 16, 17, 18, 19, 20, 21, 22, 23, 24, 25, 26, 27, 28, 29, 30, 31, 32, 33, 34, 35, 36, 37, 38, 39, 40, 41, 42, 43, 44, 45, 46, 47, 48, 49, 50, 51, 52, 53, 54, 55, 56, 57, 58, 59, 60, 61, 62, 63, 64, 65, 66, 67, 68, 69, 70, 71, 72, 73, 74, 75] (by decide +kernel) (by decide +kernel)
set_option maxRecDepth 20000 in
theorem gX3_passOver_X3_passOverWithA : GoodIn wsX3_passOver (wsV RX3 97 RX3 yX3_passOverWithA wsX3_passOverWithA) := goodIn_app (goodIn_of _ (by decide +kernel)) ggX3_passOver_X3_passOverWithA
theorem dX3_passOver_0 : decode cX3_passOver 0 = .ok (.aload_n 0, 1) := by decide +kernel
theorem dX3_passOver_1 : decode cX3_passOver 1 = .ok (.iload_n 1, 1) := by decide +kernel
theorem dX3_passOver_2 : decode cX3_passOver 2 = .ok (.putfield 94, 3) := by decide +kernel
theorem dX3_passOver_5 : decode cX3_passOver 5 = .ok (.iconst 0, 1) := by decide +kernel
theorem dX3_passOver_6 : decode cX3_passOver 6 = .ok (.istore_n 2, 1) := by decide +kernel
theorem dX3_passOver_7 : decode cX3_passOver 7 = .ok (.iload_n 2, 1) := by decide +kernel
theorem dX3_passOver_8 : decode cX3_passOver 8 = .ok (.bipush 24, 2) := by decide +kernel
theorem dX3_passOver_10 : decode cX3_passOver 10 = .ok (.if_icmp .ge 32, 3) := by decide +kernel
theorem dX3_passOver_13 : decode cX3_passOver 13 = .ok (.aload_n 0, 1) := by decide +kernel
theorem dX3_passOver_14 : decode cX3_passOver 14 = .ok (.getfield 13, 3) := by decide +kernel
theorem dX3_passOver_17 : decode cX3_passOver 17 = .ok (.iconst 0, 1) := by decide +kernel
theorem dX3_passOver_18 : decode cX3_passOver 18 = .ok (.iaload, 1) := by decide +kernel
theorem dX3_passOver_19 : decode cX3_passOver 19 = .ok (.iload_n 2, 1) := by decide +kernel
theorem dX3_passOver_20 : decode cX3_passOver 20 = .ok (.invokestatic 48, 3) := by decide +kernel
theorem dX3_passOver_23 : decode cX3_passOver 23 = .ok (.ifCond .eq 13, 3) := by decide +kernel
theorem dX3_passOver_26 : decode cX3_passOver 26 = .ok (.aload_n 0, 1) := by decide +kernel
theorem dX3_passOver_27 : decode cX3_passOver 27 = .ok (.iload_n 2, 1) := by decide +kernel
theorem dX3_passOver_28 : decode cX3_passOver 28 = .ok (.invokevirtual 97, 3) := by decide +kernel
theorem dX3_passOver_31 : decode cX3_passOver 31 = .ok (.ifCond .eq 5, 3) := by decide +kernel
theorem dX3_passOver_34 : decode cX3_passOver 34 = .ok (.iconst 1, 1) := by decide +kernel
theorem dX3_passOver_35 : decode cX3_passOver 35 = .ok (.ireturn, 1) := by decide +kernel
theorem dX3_passOver_36 : decode cX3_passOver 36 = .ok (.iinc 2 1, 3) := by decide +kernel
theorem dX3_passOver_39 : decode cX3_passOver 39 = .ok (.goto (-32), 3) := by decide +kernel
theorem dX3_passOver_42 : decode cX3_passOver 42 = .ok (.iconst 0, 1) := by decide +kernel
theorem dX3_passOver_43 : decode cX3_passOver 43 = .ok (.ireturn, 1) := by decide +kernel
set_option maxRecDepth 20000 in
theorem ggX3_passOverWithA_X6_isIn : GoodIn wsX3_passOverWithA wsX6_isIn := goodIn_r _ [7] (by decide +kernel) (by decide +kernel)
set_option maxRecDepth 20000 in
theorem gX3_passOverWithA_X6_isIn_n48 : GoodIn wsX3_passOverWithA (wsX6_isIn) := ggX3_passOverWithA_X6_isIn
set_option maxRecDepth 20000 in
theorem ggX3_passOverWithA_X3_totalWithB : GoodIn wsX3_passOverWithA wsX3_totalWithB := goodIn_r _ [12, 13, 14, 15, 16, 17, 18, 11, 19, 1, 2, 3, 20, 21, 22, 23, 24, 25, 26, 27, 28, 29, 30, 31, 32, 33, 34, 35, 36, 37, 38, 5, 6, 7, 39, 40, 41, 42, 43, 52, 53, 54, 55, 56, 57, 58, 59, 60, 61, 62, 63, 64, 65, 66, 67, 68, 69, 70, 71] (by decide +kernel) (by decide +kernel)
set_option maxRecDepth 20000 in
theorem gX3_passOverWithA_X3_totalWithB : GoodIn wsX3_passOverWithA (wsV RX3 100 RX3 yX3_totalWithB wsX3_totalWithB) := goodIn_app (goodIn_of _ (by decide +kernel)) ggX3_passOverWithA_X3_totalWithB
set_option maxRecDepth 20000 in
theorem ggX3_passOverWithA_X3_lookAtC : GoodIn wsX3_passOverWithA wsX3_lookAtC := goodIn_r _ [47, 13, 4, 5, 6, 7, 39, 40, 41, 11, 42, 1, 14, 3, 43, 21, 22, 24, 25, 26, 27, 28, 29, 30, 31, 32, 33, 34, 35, 36, 37, 38, 48, 49, 50, 51, 52, 53, 54, 55, 56, 57, 58, 59, 60, 61, 62, 63, 64, 65, 66, 67, 68, 69, 70, 71] (by decide +kernel) (by decide +kernel)
set_option maxRecDepth 20000 in
theorem gX3_passOverWithA_X3_lookAtC : GoodIn wsX3_passOverWithA (wsV RX3 104 RX3 yX3_lookAtC wsX3_lookAtC) := goodIn_app (goodIn_of _ (by decide +kernel)) ggX3_passOverWithA_X3_lookAtC
theorem dX3_passOverWithA_0 : decode cX3_passOverWithA 0 = .ok (.aload_n 0, 1) := by decide +kernel
theorem dX3_passOverWithA_1 : decode cX3_passOverWithA 1 = .ok (.getfield 30, 3) := by decide +kernel
theorem dX3_passOverWithA_4 : decode cX3_passOverWithA 4 = .ok (.iconst 0, 1) := by decide +kernel
theorem dX3_passOverWithA_5 : decode cX3_passOverWithA 5 = .ok (.iload_n 1, 1) := by decide +kernel
theorem dX3_passOverWithA_6 : decode cX3_passOverWithA 6 = .ok (.iastore, 1) := by decide +kernel
theorem dX3_passOverWithA_7 : decode cX3_passOverWithA 7 = .ok (.aload_n 0, 1) := by decide +kernel
theorem dX3_passOverWithA_8 : decode cX3_passOverWithA 8 = .ok (.getfield 13, 3) := by decide +kernel
theorem dX3_passOverWithA_11 : decode cX3_passOverWithA 11 = .ok (.iconst 1, 1) := by decide +kernel
theorem dX3_passOverWithA_12 : decode cX3_passOverWithA 12 = .ok (.iaload, 1) := by decide +kernel
theorem dX3_passOverWithA_13 : decode cX3_passOverWithA 13 = .ok (.aload_n 0, 1) := by decide +kernel
theorem dX3_passOverWithA_14 : decode cX3_passOverWithA 14 = .ok (.getfield 17, 3) := by decide +kernel
theorem dX3_passOverWithA_17 : decode cX3_passOverWithA 17 = .ok (.iconst 0, 1) := by decide +kernel
theorem dX3_passOverWithA_18 : decode cX3_passOverWithA 18 = .ok (.iload_n 1, 1) := by decide +kernel
theorem dX3_passOverWithA_19 : decode cX3_passOverWithA 19 = .ok (.iadd, 1) := by decide +kernel
theorem dX3_passOverWithA_20 : decode cX3_passOverWithA 20 = .ok (.iaload, 1) := by decide +kernel
theorem dX3_passOverWithA_21 : decode cX3_passOverWithA 21 = .ok (.iand, 1) := by decide +kernel
theorem dX3_passOverWithA_22 : decode cX3_passOverWithA 22 = .ok (.istore_n 2, 1) := by decide +kernel
theorem dX3_passOverWithA_23 : decode cX3_passOverWithA 23 = .ok (.iconst 0, 1) := by decide +kernel
theorem dX3_passOverWithA_24 : decode cX3_passOverWithA 24 = .ok (.istore_n 3, 1) := by decide +kernel
theorem dX3_passOverWithA_25 : decode cX3_passOverWithA 25 = .ok (.iload_n 3, 1) := by decide +kernel
theorem dX3_passOverWithA_26 : decode cX3_passOverWithA 26 = .ok (.bipush 24, 2) := by decide +kernel
theorem dX3_passOverWithA_28 : decode cX3_passOverWithA 28 = .ok (.if_icmp .ge 50, 3) := by decide +kernel
theorem dX3_passOverWithA_31 : decode cX3_passOverWithA 31 = .ok (.iload_n 2, 1) := by decide +kernel
theorem dX3_passOverWithA_32 : decode cX3_passOverWithA 32 = .ok (.iload_n 3, 1) := by decide +kernel
theorem dX3_passOverWithA_33 : decode cX3_passOverWithA 33 = .ok (.invokestatic 48, 3) := by decide +kernel
theorem dX3_passOverWithA_36 : decode cX3_passOverWithA 36 = .ok (.ifCond .eq 36, 3) := by decide +kernel
theorem dX3_passOverWithA_39 : decode cX3_passOverWithA 39 = .ok (.aload_n 0, 1) := by decide +kernel
theorem dX3_passOverWithA_40 : decode cX3_passOverWithA 40 = .ok (.iload_n 3, 1) := by decide +kernel
theorem dX3_passOverWithA_41 : decode cX3_passOverWithA 41 = .ok (.invokevirtual 100, 3) := by decide +kernel
theorem dX3_passOverWithA_44 : decode cX3_passOverWithA 44 = .ok (.istore 4, 2) := by decide +kernel
theorem dX3_passOverWithA_46 : decode cX3_passOverWithA 46 = .ok (.aload_n 0, 1) := by decide +kernel
theorem dX3_passOverWithA_47 : decode cX3_passOverWithA 47 = .ok (.getfield 94, 3) := by decide +kernel
theorem dX3_passOverWithA_50 : decode cX3_passOverWithA 50 = .ok (.iload 4, 2) := by decide +kernel
theorem dX3_passOverWithA_52 : decode cX3_passOverWithA 52 = .ok (.if_icmp .ge 9, 3) := by decide +kernel
theorem dX3_passOverWithA_55 : decode cX3_passOverWithA 55 = .ok (.aload_n 0, 1) := by decide +kernel
theorem dX3_passOverWithA_56 : decode cX3_passOverWithA 56 = .ok (.invokevirtual 104, 3) := by decide +kernel
theorem dX3_passOverWithA_59 : decode cX3_passOverWithA 59 = .ok (.iconst 1, 1) := by decide +kernel
theorem dX3_passOverWithA_60 : decode cX3_passOverWithA 60 = .ok (.ireturn, 1) := by decide +kernel
theorem dX3_passOverWithA_61 : decode cX3_passOverWithA 61 = .ok (.aload_n 0, 1) := by decide +kernel
theorem dX3_passOverWithA_62 : decode cX3_passOverWithA 62 = .ok (.dup, 1) := by decide +kernel
theorem dX3_passOverWithA_63 : decode cX3_passOverWithA 63 = .ok (.getfield 94, 3) := by decide +kernel
theorem dX3_passOverWithA_66 : decode cX3_passOverWithA 66 = .ok (.iload 4, 2) := by decide +kernel
theorem dX3_passOverWithA_68 : decode cX3_passOverWithA 68 = .ok (.isub, 1) := by decide +kernel
theorem dX3_passOverWithA_69 : decode cX3_passOverWithA 69 = .ok (.putfield 94, 3) := by decide +kernel
theorem dX3_passOverWithA_72 : decode cX3_passOverWithA 72 = .ok (.iinc 3 1, 3) := by decide +kernel
theorem dX3_passOverWithA_75 : decode cX3_passOverWithA 75 = .ok (.goto (-50), 3) := by decide +kernel
theorem dX3_passOverWithA_78 : decode cX3_passOverWithA 78 = .ok (.iconst 0, 1) := by decide +kernel
theorem dX3_passOverWithA_79 : decode cX3_passOverWithA 79 = .ok (.ireturn, 1) := by decide +kernel
set_option maxRecDepth 20000 in
theorem ggX3_totalWithB_X3_chooseB : GoodIn wsX3_totalWithB wsX3_chooseB := goodIn_r _ [8, 9, 10, 11, 1, 2, 12, 13, 14, 15, 16, 17, 18, 7, 19, 20, 21, 22, 23, 39, 40, 41, 42, 43, 44, 45, 46, 47, 48, 49, 50, 51, 52, 53, 54, 55, 56, 57, 58] (by decide +kernel) (by decide +kernel)
set_option maxRecDepth 20000 in
theorem gX3_totalWithB_X3_chooseB : GoodIn wsX3_totalWithB (wsV RX3 107 RX3 yX3_chooseB wsX3_chooseB) := goodIn_app (goodIn_of _ (by decide +kernel)) ggX3_totalWithB_X3_chooseB
set_option maxRecDepth 20000 in
theorem ggX3_totalWithB_J6_bitCount_0f7a4 : GoodIn wsX3_totalWithB wsJ6_bitCount_0f7a4 := goodIn_r _ [27, 28, 29, 30] (by decide +kernel) (by decide +kernel)
set_option maxRecDepth 20000 in
theorem gX3_totalWithB_J6_bitCount_0f7a4 : GoodIn wsX3_totalWithB (va_wsS RX3 117 yJ6_bitCount_0f7a4 wsJ6_bitCount_0f7a4) := goodIn_app (goodIn_of _ (by decide +kernel)) ggX3_totalWithB_J6_bitCount_0f7a4
set_option maxRecDepth 20000 in
theorem ggX3_totalWithB_X6_isIn : GoodIn wsX3_totalWithB wsX6_isIn := goodIn_r _ [33] (by decide +kernel) (by decide +kernel)
set_option maxRecDepth 20000 in
theorem gX3_totalWithB_X6_isIn_n48 : GoodIn wsX3_totalWithB (wsX6_isIn) := ggX3_totalWithB_X6_isIn
set_option maxRecDepth 20000 in
theorem ggX3_totalWithB_X3_ordersOfDWithC : GoodIn wsX3_totalWithB wsX3_ordersOfDWithC := goodIn_r _ [37, 9, 2, 11, 38, 13, 14, 16, 17, 18, 7, 19, 20, 21, 22, 23, 39, 40, 41, 42, 43, 44, 45, 46, 47, 48, 49, 50, 51, 52, 53, 54, 55, 56, 57, 58] (by decide +kernel) (by decide +kernel)
set_option maxRecDepth 20000 in
theorem gX3_totalWithB_X3_ordersOfDWithC : GoodIn wsX3_totalWithB (wsV RX3 122 RX3 yX3_ordersOfDWithC wsX3_ordersOfDWithC) := goodIn_app (goodIn_of _ (by decide +kernel)) ggX3_totalWithB_X3_ordersOfDWithC
theorem dX3_totalWithB_0 : decode cX3_totalWithB 0 = .ok (.aload_n 0, 1) := by decide +kernel
theorem dX3_totalWithB_1 : decode cX3_totalWithB 1 = .ok (.iload_n 1, 1) := by decide +kernel
theorem dX3_totalWithB_2 : decode cX3_totalWithB 2 = .ok (.invokevirtual 107, 3) := by decide +kernel
theorem dX3_totalWithB_5 : decode cX3_totalWithB 5 = .ok (.aload_n 0, 1) := by decide +kernel
theorem dX3_totalWithB_6 : decode cX3_totalWithB 6 = .ok (.getfield 111, 3) := by decide +kernel
theorem dX3_totalWithB_9 : decode cX3_totalWithB 9 = .ok (.ifCond .eq 10, 3) := by decide +kernel
theorem dX3_totalWithB_12 : decode cX3_totalWithB 12 = .ok (.aload_n 0, 1) := by decide +kernel
theorem dX3_totalWithB_13 : decode cX3_totalWithB 13 = .ok (.getfield 114, 3) := by decide +kernel
theorem dX3_totalWithB_16 : decode cX3_totalWithB 16 = .ok (.ifCond .ne 5, 3) := by decide +kernel
theorem dX3_totalWithB_19 : decode cX3_totalWithB 19 = .ok (.iconst 0, 1) := by decide +kernel
theorem dX3_totalWithB_20 : decode cX3_totalWithB 20 = .ok (.ireturn, 1) := by decide +kernel
theorem dX3_totalWithB_21 : decode cX3_totalWithB 21 = .ok (.aload_n 0, 1) := by decide +kernel
theorem dX3_totalWithB_22 : decode cX3_totalWithB 22 = .ok (.getfield 44, 3) := by decide +kernel
theorem dX3_totalWithB_25 : decode cX3_totalWithB 25 = .ok (.ifCond .ne 19, 3) := by decide +kernel
theorem dX3_totalWithB_28 : decode cX3_totalWithB 28 = .ok (.aload_n 0, 1) := by decide +kernel
theorem dX3_totalWithB_29 : decode cX3_totalWithB 29 = .ok (.getfield 111, 3) := by decide +kernel
theorem dX3_totalWithB_32 : decode cX3_totalWithB 32 = .ok (.invokestatic 117, 3) := by decide +kernel
theorem dX3_totalWithB_35 : decode cX3_totalWithB 35 = .ok (.aload_n 0, 1) := by decide +kernel
theorem dX3_totalWithB_36 : decode cX3_totalWithB 36 = .ok (.getfield 114, 3) := by decide +kernel
theorem dX3_totalWithB_39 : decode cX3_totalWithB 39 = .ok (.invokestatic 117, 3) := by decide +kernel
theorem dX3_totalWithB_42 : decode cX3_totalWithB 42 = .ok (.imul, 1) := by decide +kernel
theorem dX3_totalWithB_43 : decode cX3_totalWithB 43 = .ok (.ireturn, 1) := by decide +kernel
theorem dX3_totalWithB_44 : decode cX3_totalWithB 44 = .ok (.iconst 0, 1) := by decide +kernel
theorem dX3_totalWithB_45 : decode cX3_totalWithB 45 = .ok (.istore_n 2, 1) := by decide +kernel
theorem dX3_totalWithB_46 : decode cX3_totalWithB 46 = .ok (.iconst 0, 1) := by decide +kernel
theorem dX3_totalWithB_47 : decode cX3_totalWithB 47 = .ok (.istore_n 3, 1) := by decide +kernel
theorem dX3_totalWithB_48 : decode cX3_totalWithB 48 = .ok (.iload_n 3, 1) := by decide +kernel
theorem dX3_totalWithB_49 : decode cX3_totalWithB 49 = .ok (.bipush 24, 2) := by decide +kernel
theorem dX3_totalWithB_51 : decode cX3_totalWithB 51 = .ok (.if_icmp .ge 31, 3) := by decide +kernel
theorem dX3_totalWithB_54 : decode cX3_totalWithB 54 = .ok (.aload_n 0, 1) := by decide +kernel
theorem dX3_totalWithB_55 : decode cX3_totalWithB 55 = .ok (.getfield 111, 3) := by decide +kernel
theorem dX3_totalWithB_58 : decode cX3_totalWithB 58 = .ok (.iload_n 3, 1) := by decide +kernel
theorem dX3_totalWithB_59 : decode cX3_totalWithB 59 = .ok (.invokestatic 48, 3) := by decide +kernel
theorem dX3_totalWithB_62 : decode cX3_totalWithB 62 = .ok (.ifCond .eq 14, 3) := by decide +kernel
theorem dX3_totalWithB_65 : decode cX3_totalWithB 65 = .ok (.iload_n 2, 1) := by decide +kernel
theorem dX3_totalWithB_66 : decode cX3_totalWithB 66 = .ok (.aload_n 0, 1) := by decide +kernel
theorem dX3_totalWithB_67 : decode cX3_totalWithB 67 = .ok (.iload_n 3, 1) := by decide +kernel
theorem dX3_totalWithB_68 : decode cX3_totalWithB 68 = .ok (.invokevirtual 122, 3) := by decide +kernel
theorem dX3_totalWithB_71 : decode cX3_totalWithB 71 = .ok (.invokestatic 117, 3) := by decide +kernel
theorem dX3_totalWithB_74 : decode cX3_totalWithB 74 = .ok (.iadd, 1) := by decide +kernel
theorem dX3_totalWithB_75 : decode cX3_totalWithB 75 = .ok (.istore_n 2, 1) := by decide +kernel
theorem dX3_totalWithB_76 : decode cX3_totalWithB 76 = .ok (.iinc 3 1, 3) := by decide +kernel
theorem dX3_totalWithB_79 : decode cX3_totalWithB 79 = .ok (.goto (-31), 3) := by decide +kernel
theorem dX3_totalWithB_82 : decode cX3_totalWithB 82 = .ok (.iload_n 2, 1) := by decide +kernel
theorem dX3_totalWithB_83 : decode cX3_totalWithB 83 = .ok (.ireturn, 1) := by decide +kernel
set_option maxRecDepth 20000 in
theorem ggX3_chooseB_X3_allowedNow : GoodIn wsX3_chooseB wsX3_allowedNow := goodIn_r _ [14, 15, 16, 17, 1, 18, 30, 31, 32, 33, 34, 35, 36, 37, 38, 19, 20, 21, 22, 23, 24, 25, 26, 27] (by decide +kernel) (by decide +kernel)
set_option maxRecDepth 20000 in
theorem gX3_chooseB_X3_allowedNow : GoodIn wsX3_chooseB (wsV RX3 82 RX3 yX3_allowedNow wsX3_allowedNow) := goodIn_app (goodIn_of _ (by decide +kernel)) ggX3_chooseB_X3_allowedNow
theorem dX3_chooseB_0 : decode cX3_chooseB 0 = .ok (.aload_n 0, 1) := by decide +kernel
theorem dX3_chooseB_1 : decode cX3_chooseB 1 = .ok (.getfield 30, 3) := by decide +kernel
theorem dX3_chooseB_4 : decode cX3_chooseB 4 = .ok (.iconst 0, 1) := by decide +kernel
theorem dX3_chooseB_5 : decode cX3_chooseB 5 = .ok (.iaload, 1) := by decide +kernel
theorem dX3_chooseB_6 : decode cX3_chooseB 6 = .ok (.istore_n 2, 1) := by decide +kernel
theorem dX3_chooseB_7 : decode cX3_chooseB 7 = .ok (.aload_n 0, 1) := by decide +kernel
theorem dX3_chooseB_8 : decode cX3_chooseB 8 = .ok (.getfield 30, 3) := by decide +kernel
theorem dX3_chooseB_11 : decode cX3_chooseB 11 = .ok (.iconst 1, 1) := by decide +kernel
theorem dX3_chooseB_12 : decode cX3_chooseB 12 = .ok (.iload_n 1, 1) := by decide +kernel
theorem dX3_chooseB_13 : decode cX3_chooseB 13 = .ok (.iastore, 1) := by decide +kernel
theorem dX3_chooseB_14 : decode cX3_chooseB 14 = .ok (.aload_n 0, 1) := by decide +kernel
theorem dX3_chooseB_15 : decode cX3_chooseB 15 = .ok (.aload_n 0, 1) := by decide +kernel
theorem dX3_chooseB_16 : decode cX3_chooseB 16 = .ok (.getfield 13, 3) := by decide +kernel
theorem dX3_chooseB_19 : decode cX3_chooseB 19 = .ok (.iconst 2, 1) := by decide +kernel
theorem dX3_chooseB_20 : decode cX3_chooseB 20 = .ok (.iaload, 1) := by decide +kernel
theorem dX3_chooseB_21 : decode cX3_chooseB 21 = .ok (.aload_n 0, 1) := by decide +kernel
theorem dX3_chooseB_22 : decode cX3_chooseB 22 = .ok (.getfield 17, 3) := by decide +kernel
theorem dX3_chooseB_25 : decode cX3_chooseB 25 = .ok (.bipush 24, 2) := by decide +kernel
theorem dX3_chooseB_27 : decode cX3_chooseB 27 = .ok (.iload_n 2, 1) := by decide +kernel
theorem dX3_chooseB_28 : decode cX3_chooseB 28 = .ok (.iadd, 1) := by decide +kernel
theorem dX3_chooseB_29 : decode cX3_chooseB 29 = .ok (.iaload, 1) := by decide +kernel
theorem dX3_chooseB_30 : decode cX3_chooseB 30 = .ok (.iand, 1) := by decide +kernel
theorem dX3_chooseB_31 : decode cX3_chooseB 31 = .ok (.aload_n 0, 1) := by decide +kernel
theorem dX3_chooseB_32 : decode cX3_chooseB 32 = .ok (.getfield 17, 3) := by decide +kernel
theorem dX3_chooseB_35 : decode cX3_chooseB 35 = .ok (.bipush 72, 2) := by decide +kernel
theorem dX3_chooseB_37 : decode cX3_chooseB 37 = .ok (.iload_n 1, 1) := by decide +kernel
theorem dX3_chooseB_38 : decode cX3_chooseB 38 = .ok (.iadd, 1) := by decide +kernel
theorem dX3_chooseB_39 : decode cX3_chooseB 39 = .ok (.iaload, 1) := by decide +kernel
theorem dX3_chooseB_40 : decode cX3_chooseB 40 = .ok (.iand, 1) := by decide +kernel
theorem dX3_chooseB_41 : decode cX3_chooseB 41 = .ok (.putfield 111, 3) := by decide +kernel
theorem dX3_chooseB_44 : decode cX3_chooseB 44 = .ok (.aload_n 0, 1) := by decide +kernel
theorem dX3_chooseB_45 : decode cX3_chooseB 45 = .ok (.aload_n 0, 1) := by decide +kernel
theorem dX3_chooseB_46 : decode cX3_chooseB 46 = .ok (.getfield 13, 3) := by decide +kernel
theorem dX3_chooseB_49 : decode cX3_chooseB 49 = .ok (.iconst 3, 1) := by decide +kernel
theorem dX3_chooseB_50 : decode cX3_chooseB 50 = .ok (.iaload, 1) := by decide +kernel
theorem dX3_chooseB_51 : decode cX3_chooseB 51 = .ok (.aload_n 0, 1) := by decide +kernel
theorem dX3_chooseB_52 : decode cX3_chooseB 52 = .ok (.getfield 17, 3) := by decide +kernel
theorem dX3_chooseB_55 : decode cX3_chooseB 55 = .ok (.bipush 48, 2) := by decide +kernel
theorem dX3_chooseB_57 : decode cX3_chooseB 57 = .ok (.iload_n 2, 1) := by decide +kernel
theorem dX3_chooseB_58 : decode cX3_chooseB 58 = .ok (.iadd, 1) := by decide +kernel
theorem dX3_chooseB_59 : decode cX3_chooseB 59 = .ok (.iaload, 1) := by decide +kernel
theorem dX3_chooseB_60 : decode cX3_chooseB 60 = .ok (.iand, 1) := by decide +kernel
theorem dX3_chooseB_61 : decode cX3_chooseB 61 = .ok (.aload_n 0, 1) := by decide +kernel
theorem dX3_chooseB_62 : decode cX3_chooseB 62 = .ok (.getfield 17, 3) := by decide +kernel
theorem dX3_chooseB_65 : decode cX3_chooseB 65 = .ok (.bipush 96, 2) := by decide +kernel
theorem dX3_chooseB_67 : decode cX3_chooseB 67 = .ok (.iload_n 1, 1) := by decide +kernel
theorem dX3_chooseB_68 : decode cX3_chooseB 68 = .ok (.iadd, 1) := by decide +kernel
theorem dX3_chooseB_69 : decode cX3_chooseB 69 = .ok (.iaload, 1) := by decide +kernel
theorem dX3_chooseB_70 : decode cX3_chooseB 70 = .ok (.iand, 1) := by decide +kernel
theorem dX3_chooseB_71 : decode cX3_chooseB 71 = .ok (.putfield 114, 3) := by decide +kernel
theorem dX3_chooseB_74 : decode cX3_chooseB 74 = .ok (.iconst 0, 1) := by decide +kernel
theorem dX3_chooseB_75 : decode cX3_chooseB 75 = .ok (.istore_n 3, 1) := by decide +kernel
theorem dX3_chooseB_76 : decode cX3_chooseB 76 = .ok (.iload_n 3, 1) := by decide +kernel
theorem dX3_chooseB_77 : decode cX3_chooseB 77 = .ok (.aload_n 0, 1) := by decide +kernel
theorem dX3_chooseB_78 : decode cX3_chooseB 78 = .ok (.getfield 23, 3) := by decide +kernel
theorem dX3_chooseB_81 : decode cX3_chooseB 81 = .ok (.getfield 40, 3) := by decide +kernel
theorem dX3_chooseB_84 : decode cX3_chooseB 84 = .ok (.if_icmp .ge 62, 3) := by decide +kernel
theorem dX3_chooseB_87 : decode cX3_chooseB 87 = .ok (.aload_n 0, 1) := by decide +kernel
theorem dX3_chooseB_88 : decode cX3_chooseB 88 = .ok (.getfield 23, 3) := by decide +kernel
theorem dX3_chooseB_91 : decode cX3_chooseB 91 = .ok (.getfield 52, 3) := by decide +kernel
theorem dX3_chooseB_94 : decode cX3_chooseB 94 = .ok (.iload_n 3, 1) := by decide +kernel
theorem dX3_chooseB_95 : decode cX3_chooseB 95 = .ok (.aaload, 1) := by decide +kernel
theorem dX3_chooseB_96 : decode cX3_chooseB 96 = .ok (.astore 4, 2) := by decide +kernel
theorem dX3_chooseB_98 : decode cX3_chooseB 98 = .ok (.aload 4, 2) := by decide +kernel
theorem dX3_chooseB_100 : decode cX3_chooseB 100 = .ok (.getfield 63, 3) := by decide +kernel
theorem dX3_chooseB_103 : decode cX3_chooseB 103 = .ok (.iconst 2, 1) := by decide +kernel
theorem dX3_chooseB_104 : decode cX3_chooseB 104 = .ok (.if_icmp .ne 21, 3) := by decide +kernel
theorem dX3_chooseB_107 : decode cX3_chooseB 107 = .ok (.aload_n 0, 1) := by decide +kernel
theorem dX3_chooseB_108 : decode cX3_chooseB 108 = .ok (.dup, 1) := by decide +kernel
theorem dX3_chooseB_109 : decode cX3_chooseB 109 = .ok (.getfield 111, 3) := by decide +kernel
theorem dX3_chooseB_112 : decode cX3_chooseB 112 = .ok (.aload_n 0, 1) := by decide +kernel
theorem dX3_chooseB_113 : decode cX3_chooseB 113 = .ok (.aload 4, 2) := by decide +kernel
theorem dX3_chooseB_115 : decode cX3_chooseB 115 = .ok (.invokevirtual 82, 3) := by decide +kernel
theorem dX3_chooseB_118 : decode cX3_chooseB 118 = .ok (.iand, 1) := by decide +kernel
theorem dX3_chooseB_119 : decode cX3_chooseB 119 = .ok (.putfield 111, 3) := by decide +kernel
theorem dX3_chooseB_122 : decode cX3_chooseB 122 = .ok (.goto 18, 3) := by decide +kernel
theorem dX3_chooseB_125 : decode cX3_chooseB 125 = .ok (.aload_n 0, 1) := by decide +kernel
theorem dX3_chooseB_126 : decode cX3_chooseB 126 = .ok (.dup, 1) := by decide +kernel
theorem dX3_chooseB_127 : decode cX3_chooseB 127 = .ok (.getfield 114, 3) := by decide +kernel
theorem dX3_chooseB_130 : decode cX3_chooseB 130 = .ok (.aload_n 0, 1) := by decide +kernel
theorem dX3_chooseB_131 : decode cX3_chooseB 131 = .ok (.aload 4, 2) := by decide +kernel
theorem dX3_chooseB_133 : decode cX3_chooseB 133 = .ok (.invokevirtual 82, 3) := by decide +kernel
theorem dX3_chooseB_136 : decode cX3_chooseB 136 = .ok (.iand, 1) := by decide +kernel
theorem dX3_chooseB_137 : decode cX3_chooseB 137 = .ok (.putfield 114, 3) := by decide +kernel
theorem dX3_chooseB_140 : decode cX3_chooseB 140 = .ok (.iinc 3 1, 3) := by decide +kernel
theorem dX3_chooseB_143 : decode cX3_chooseB 143 = .ok (.goto (-67), 3) := by decide +kernel
theorem dX3_chooseB_146 : decode cX3_chooseB 146 = .ok (.return_, 1) := by decide +kernel
set_option maxRecDepth 20000 in
theorem ggX3_ordersOfDWithC_X3_allowedNow : GoodIn wsX3_ordersOfDWithC wsX3_allowedNow := goodIn_r _ [11, 12, 13, 14, 1, 15, 27, 28, 29, 30, 31, 32, 33, 34, 35, 16, 17, 18, 19, 20, 21, 22, 23, 24] (by decide +kernel) (by decide +kernel)
set_option maxRecDepth 20000 in
theorem gX3_ordersOfDWithC_X3_allowedNow : GoodIn wsX3_ordersOfDWithC (wsV RX3 82 RX3 yX3_allowedNow wsX3_allowedNow) := goodIn_app (goodIn_of _ (by decide +kernel)) ggX3_ordersOfDWithC_X3_allowedNow
theorem dX3_ordersOfDWithC_0 : decode cX3_ordersOfDWithC 0 = .ok (.aload_n 0, 1) := by decide +kernel
theorem dX3_ordersOfDWithC_1 : decode cX3_ordersOfDWithC 1 = .ok (.getfield 30, 3) := by decide +kernel
theorem dX3_ordersOfDWithC_4 : decode cX3_ordersOfDWithC 4 = .ok (.iconst 2, 1) := by decide +kernel
theorem dX3_ordersOfDWithC_5 : decode cX3_ordersOfDWithC 5 = .ok (.iload_n 1, 1) := by decide +kernel
theorem dX3_ordersOfDWithC_6 : decode cX3_ordersOfDWithC 6 = .ok (.iastore, 1) := by decide +kernel
theorem dX3_ordersOfDWithC_7 : decode cX3_ordersOfDWithC 7 = .ok (.aload_n 0, 1) := by decide +kernel
theorem dX3_ordersOfDWithC_8 : decode cX3_ordersOfDWithC 8 = .ok (.getfield 114, 3) := by decide +kernel
theorem dX3_ordersOfDWithC_11 : decode cX3_ordersOfDWithC 11 = .ok (.aload_n 0, 1) := by decide +kernel
theorem dX3_ordersOfDWithC_12 : decode cX3_ordersOfDWithC 12 = .ok (.getfield 17, 3) := by decide +kernel
theorem dX3_ordersOfDWithC_15 : decode cX3_ordersOfDWithC 15 = .ok (.bipush 120, 2) := by decide +kernel
theorem dX3_ordersOfDWithC_17 : decode cX3_ordersOfDWithC 17 = .ok (.iload_n 1, 1) := by decide +kernel
theorem dX3_ordersOfDWithC_18 : decode cX3_ordersOfDWithC 18 = .ok (.iadd, 1) := by decide +kernel
theorem dX3_ordersOfDWithC_19 : decode cX3_ordersOfDWithC 19 = .ok (.iaload, 1) := by decide +kernel
theorem dX3_ordersOfDWithC_20 : decode cX3_ordersOfDWithC 20 = .ok (.iand, 1) := by decide +kernel
theorem dX3_ordersOfDWithC_21 : decode cX3_ordersOfDWithC 21 = .ok (.istore_n 2, 1) := by decide +kernel
theorem dX3_ordersOfDWithC_22 : decode cX3_ordersOfDWithC 22 = .ok (.iconst 0, 1) := by decide +kernel
theorem dX3_ordersOfDWithC_23 : decode cX3_ordersOfDWithC 23 = .ok (.istore_n 3, 1) := by decide +kernel
theorem dX3_ordersOfDWithC_24 : decode cX3_ordersOfDWithC 24 = .ok (.iload_n 3, 1) := by decide +kernel
theorem dX3_ordersOfDWithC_25 : decode cX3_ordersOfDWithC 25 = .ok (.aload_n 0, 1) := by decide +kernel
theorem dX3_ordersOfDWithC_26 : decode cX3_ordersOfDWithC 26 = .ok (.getfield 27, 3) := by decide +kernel
theorem dX3_ordersOfDWithC_29 : decode cX3_ordersOfDWithC 29 = .ok (.getfield 40, 3) := by decide +kernel
theorem dX3_ordersOfDWithC_32 : decode cX3_ordersOfDWithC 32 = .ok (.if_icmp .ge 29, 3) := by decide +kernel
theorem dX3_ordersOfDWithC_35 : decode cX3_ordersOfDWithC 35 = .ok (.iload_n 2, 1) := by decide +kernel
theorem dX3_ordersOfDWithC_36 : decode cX3_ordersOfDWithC 36 = .ok (.ifCond .eq 25, 3) := by decide +kernel
theorem dX3_ordersOfDWithC_39 : decode cX3_ordersOfDWithC 39 = .ok (.iload_n 2, 1) := by decide +kernel
theorem dX3_ordersOfDWithC_40 : decode cX3_ordersOfDWithC 40 = .ok (.aload_n 0, 1) := by decide +kernel
theorem dX3_ordersOfDWithC_41 : decode cX3_ordersOfDWithC 41 = .ok (.aload_n 0, 1) := by decide +kernel
theorem dX3_ordersOfDWithC_42 : decode cX3_ordersOfDWithC 42 = .ok (.getfield 27, 3) := by decide +kernel
theorem dX3_ordersOfDWithC_45 : decode cX3_ordersOfDWithC 45 = .ok (.getfield 52, 3) := by decide +kernel
theorem dX3_ordersOfDWithC_48 : decode cX3_ordersOfDWithC 48 = .ok (.iload_n 3, 1) := by decide +kernel
theorem dX3_ordersOfDWithC_49 : decode cX3_ordersOfDWithC 49 = .ok (.aaload, 1) := by decide +kernel
theorem dX3_ordersOfDWithC_50 : decode cX3_ordersOfDWithC 50 = .ok (.invokevirtual 82, 3) := by decide +kernel
theorem dX3_ordersOfDWithC_53 : decode cX3_ordersOfDWithC 53 = .ok (.iand, 1) := by decide +kernel
theorem dX3_ordersOfDWithC_54 : decode cX3_ordersOfDWithC 54 = .ok (.istore_n 2, 1) := by decide +kernel
theorem dX3_ordersOfDWithC_55 : decode cX3_ordersOfDWithC 55 = .ok (.iinc 3 1, 3) := by decide +kernel
theorem dX3_ordersOfDWithC_58 : decode cX3_ordersOfDWithC 58 = .ok (.goto (-34), 3) := by decide +kernel
theorem dX3_ordersOfDWithC_61 : decode cX3_ordersOfDWithC 61 = .ok (.iload_n 2, 1) := by decide +kernel
theorem dX3_ordersOfDWithC_62 : decode cX3_ordersOfDWithC 62 = .ok (.ireturn, 1) := by decide +kernel
set_option maxRecDepth 20000 in
theorem ggX3_lookAtC_X6_isIn : GoodIn wsX3_lookAtC wsX6_isIn := goodIn_r _ [5] (by decide +kernel) (by decide +kernel)
set_option maxRecDepth 20000 in
theorem gX3_lookAtC_X6_isIn_n48 : GoodIn wsX3_lookAtC (wsX6_isIn) := ggX3_lookAtC_X6_isIn
set_option maxRecDepth 20000 in
theorem ggX3_lookAtC_X3_ordersOfDWithC : GoodIn wsX3_lookAtC wsX3_ordersOfDWithC := goodIn_r _ [10, 11, 12, 13, 14, 15, 16, 17, 18, 19, 9, 20, 21, 22, 23, 24, 36, 37, 38, 39, 40, 41, 42, 43, 44, 45, 46, 47, 48, 49, 50, 51, 52, 53, 54, 55] (by decide +kernel) (by decide +kernel)
set_option maxRecDepth 20000 in
theorem gX3_lookAtC_X3_ordersOfDWithC : GoodIn wsX3_lookAtC (wsV RX3 122 RX3 yX3_ordersOfDWithC wsX3_ordersOfDWithC) := goodIn_app (goodIn_of _ (by decide +kernel)) ggX3_lookAtC_X3_ordersOfDWithC
set_option maxRecDepth 20000 in
theorem ggX3_lookAtC_J6_bitCount_0f7a4 : GoodIn wsX3_lookAtC wsJ6_bitCount_0f7a4 := goodIn_r _ [28, 29, 30, 31] (by decide +kernel) (by decide +kernel)
set_option maxRecDepth 20000 in
theorem gX3_lookAtC_J6_bitCount_0f7a4 : GoodIn wsX3_lookAtC (va_wsS RX3 117 yJ6_bitCount_0f7a4 wsJ6_bitCount_0f7a4) := goodIn_app (goodIn_of _ (by decide +kernel)) ggX3_lookAtC_J6_bitCount_0f7a4
set_option maxRecDepth 20000 in
theorem ggX3_lookAtC_X3_lookAtD : GoodIn wsX3_lookAtC wsX3_lookAtD := goodIn_r _ [35, 2, 11, 3, 4, 5, 36, 37, 38, 39, 40, 41, 42, 43, 44] (by decide +kernel) (by decide +kernel)
set_option maxRecDepth 20000 in
theorem gX3_lookAtC_X3_lookAtD : GoodIn wsX3_lookAtC (wsV RX3 125 RX3 yX3_lookAtD wsX3_lookAtD) := goodIn_app (goodIn_of _ (by decide +kernel)) ggX3_lookAtC_X3_lookAtD
theorem dX3_lookAtC_0 : decode cX3_lookAtC 0 = .ok (.iconst 0, 1) := by decide +kernel
theorem dX3_lookAtC_1 : decode cX3_lookAtC 1 = .ok (.istore_n 1, 1) := by decide +kernel
theorem dX3_lookAtC_2 : decode cX3_lookAtC 2 = .ok (.iload_n 1, 1) := by decide +kernel
theorem dX3_lookAtC_3 : decode cX3_lookAtC 3 = .ok (.bipush 24, 2) := by decide +kernel
theorem dX3_lookAtC_5 : decode cX3_lookAtC 5 = .ok (.if_icmp .ge 55, 3) := by decide +kernel
theorem dX3_lookAtC_8 : decode cX3_lookAtC 8 = .ok (.aload_n 0, 1) := by decide +kernel
theorem dX3_lookAtC_9 : decode cX3_lookAtC 9 = .ok (.getfield 111, 3) := by decide +kernel
theorem dX3_lookAtC_12 : decode cX3_lookAtC 12 = .ok (.iload_n 1, 1) := by decide +kernel
theorem dX3_lookAtC_13 : decode cX3_lookAtC 13 = .ok (.invokestatic 48, 3) := by decide +kernel
theorem dX3_lookAtC_16 : decode cX3_lookAtC 16 = .ok (.ifCond .eq 38, 3) := by decide +kernel
theorem dX3_lookAtC_19 : decode cX3_lookAtC 19 = .ok (.aload_n 0, 1) := by decide +kernel
theorem dX3_lookAtC_20 : decode cX3_lookAtC 20 = .ok (.iload_n 1, 1) := by decide +kernel
theorem dX3_lookAtC_21 : decode cX3_lookAtC 21 = .ok (.invokevirtual 122, 3) := by decide +kernel
theorem dX3_lookAtC_24 : decode cX3_lookAtC 24 = .ok (.istore_n 2, 1) := by decide +kernel
theorem dX3_lookAtC_25 : decode cX3_lookAtC 25 = .ok (.iload_n 2, 1) := by decide +kernel
theorem dX3_lookAtC_26 : decode cX3_lookAtC 26 = .ok (.invokestatic 117, 3) := by decide +kernel
theorem dX3_lookAtC_29 : decode cX3_lookAtC 29 = .ok (.istore_n 3, 1) := by decide +kernel
theorem dX3_lookAtC_30 : decode cX3_lookAtC 30 = .ok (.aload_n 0, 1) := by decide +kernel
theorem dX3_lookAtC_31 : decode cX3_lookAtC 31 = .ok (.getfield 94, 3) := by decide +kernel
theorem dX3_lookAtC_34 : decode cX3_lookAtC 34 = .ok (.iload_n 3, 1) := by decide +kernel
theorem dX3_lookAtC_35 : decode cX3_lookAtC 35 = .ok (.if_icmp .ge 9, 3) := by decide +kernel
theorem dX3_lookAtC_38 : decode cX3_lookAtC 38 = .ok (.aload_n 0, 1) := by decide +kernel
theorem dX3_lookAtC_39 : decode cX3_lookAtC 39 = .ok (.iload_n 2, 1) := by decide +kernel
theorem dX3_lookAtC_40 : decode cX3_lookAtC 40 = .ok (.invokevirtual 125, 3) := by decide +kernel
theorem dX3_lookAtC_43 : decode cX3_lookAtC 43 = .ok (.return_, 1) := by decide +kernel
theorem dX3_lookAtC_44 : decode cX3_lookAtC 44 = .ok (.aload_n 0, 1) := by decide +kernel
theorem dX3_lookAtC_45 : decode cX3_lookAtC 45 = .ok (.dup, 1) := by decide +kernel
theorem dX3_lookAtC_46 : decode cX3_lookAtC 46 = .ok (.getfield 94, 3) := by decide +kernel
theorem dX3_lookAtC_49 : decode cX3_lookAtC 49 = .ok (.iload_n 3, 1) := by decide +kernel
theorem dX3_lookAtC_50 : decode cX3_lookAtC 50 = .ok (.isub, 1) := by decide +kernel
theorem dX3_lookAtC_51 : decode cX3_lookAtC 51 = .ok (.putfield 94, 3) := by decide +kernel
theorem dX3_lookAtC_54 : decode cX3_lookAtC 54 = .ok (.iinc 1 1, 3) := by decide +kernel
theorem dX3_lookAtC_57 : decode cX3_lookAtC 57 = .ok (.goto (-55), 3) := by decide +kernel
theorem dX3_lookAtC_60 : decode cX3_lookAtC 60 = .ok (.return_, 1) := by decide +kernel
set_option maxRecDepth 20000 in
theorem ggX3_lookAtD_X6_isIn : GoodIn wsX3_lookAtD wsX6_isIn := goodIn_r _ [5] (by decide +kernel) (by decide +kernel)
set_option maxRecDepth 20000 in
theorem gX3_lookAtD_X6_isIn_n48 : GoodIn wsX3_lookAtD (wsX6_isIn) := ggX3_lookAtD_X6_isIn
theorem dX3_lookAtD_0 : decode cX3_lookAtD 0 = .ok (.iconst 0, 1) := by decide +kernel
theorem dX3_lookAtD_1 : decode cX3_lookAtD 1 = .ok (.istore_n 2, 1) := by decide +kernel
theorem dX3_lookAtD_2 : decode cX3_lookAtD 2 = .ok (.iload_n 2, 1) := by decide +kernel
theorem dX3_lookAtD_3 : decode cX3_lookAtD 3 = .ok (.bipush 24, 2) := by decide +kernel
theorem dX3_lookAtD_5 : decode cX3_lookAtD 5 = .ok (.if_icmp .ge 42, 3) := by decide +kernel
theorem dX3_lookAtD_8 : decode cX3_lookAtD 8 = .ok (.iload_n 1, 1) := by decide +kernel
theorem dX3_lookAtD_9 : decode cX3_lookAtD 9 = .ok (.iload_n 2, 1) := by decide +kernel
theorem dX3_lookAtD_10 : decode cX3_lookAtD 10 = .ok (.invokestatic 48, 3) := by decide +kernel
theorem dX3_lookAtD_13 : decode cX3_lookAtD 13 = .ok (.ifCond .eq 28, 3) := by decide +kernel
theorem dX3_lookAtD_16 : decode cX3_lookAtD 16 = .ok (.aload_n 0, 1) := by decide +kernel
theorem dX3_lookAtD_17 : decode cX3_lookAtD 17 = .ok (.getfield 94, 3) := by decide +kernel
theorem dX3_lookAtD_20 : decode cX3_lookAtD 20 = .ok (.ifCond .ne 11, 3) := by decide +kernel
theorem dX3_lookAtD_23 : decode cX3_lookAtD 23 = .ok (.aload_n 0, 1) := by decide +kernel
theorem dX3_lookAtD_24 : decode cX3_lookAtD 24 = .ok (.getfield 30, 3) := by decide +kernel
theorem dX3_lookAtD_27 : decode cX3_lookAtD 27 = .ok (.iconst 3, 1) := by decide +kernel
theorem dX3_lookAtD_28 : decode cX3_lookAtD 28 = .ok (.iload_n 2, 1) := by decide +kernel
theorem dX3_lookAtD_29 : decode cX3_lookAtD 29 = .ok (.iastore, 1) := by decide +kernel
theorem dX3_lookAtD_30 : decode cX3_lookAtD 30 = .ok (.return_, 1) := by decide +kernel
theorem dX3_lookAtD_31 : decode cX3_lookAtD 31 = .ok (.aload_n 0, 1) := by decide +kernel
theorem dX3_lookAtD_32 : decode cX3_lookAtD 32 = .ok (.dup, 1) := by decide +kernel
theorem dX3_lookAtD_33 : decode cX3_lookAtD 33 = .ok (.getfield 94, 3) := by decide +kernel
theorem dX3_lookAtD_36 : decode cX3_lookAtD 36 = .ok (.iconst 1, 1) := by decide +kernel
theorem dX3_lookAtD_37 : decode cX3_lookAtD 37 = .ok (.isub, 1) := by decide +kernel
theorem dX3_lookAtD_38 : decode cX3_lookAtD 38 = .ok (.putfield 94, 3) := by decide +kernel
theorem dX3_lookAtD_41 : decode cX3_lookAtD 41 = .ok (.iinc 2 1, 3) := by decide +kernel
theorem dX3_lookAtD_44 : decode cX3_lookAtD 44 = .ok (.goto (-42), 3) := by decide +kernel
theorem dX3_lookAtD_47 : decode cX3_lookAtD 47 = .ok (.return_, 1) := by decide +kernel
theorem dX4_init_0 : decode cX4_init 0 = .ok (.aload_n 0, 1) := by decide +kernel
theorem dX4_init_1 : decode cX4_init 1 = .ok (.invokespecial 3, 3) := by decide +kernel
theorem dX4_init_4 : decode cX4_init 4 = .ok (.aload_n 0, 1) := by decide +kernel
theorem dX4_init_5 : decode cX4_init 5 = .ok (.bipush 16, 2) := by decide +kernel
theorem dX4_init_7 : decode cX4_init 7 = .ok (.newarray .int, 2) := by decide +kernel
theorem dX4_init_9 : decode cX4_init 9 = .ok (.putfield 9, 3) := by decide +kernel
theorem dX4_init_12 : decode cX4_init 12 = .ok (.aload_n 0, 1) := by decide +kernel
theorem dX4_init_13 : decode cX4_init 13 = .ok (.sipush 256, 3) := by decide +kernel
theorem dX4_init_16 : decode cX4_init 16 = .ok (.newarray .int, 2) := by decide +kernel
theorem dX4_init_18 : decode cX4_init 18 = .ok (.putfield 15, 3) := by decide +kernel
theorem dX4_init_21 : decode cX4_init 21 = .ok (.aload_n 0, 1) := by decide +kernel
theorem dX4_init_22 : decode cX4_init 22 = .ok (.iconst 0, 1) := by decide +kernel
theorem dX4_init_23 : decode cX4_init 23 = .ok (.putfield 18, 3) := by decide +kernel
theorem dX4_init_26 : decode cX4_init 26 = .ok (.aload_n 0, 1) := by decide +kernel
theorem dX4_init_27 : decode cX4_init 27 = .ok (.iconst 0, 1) := by decide +kernel
theorem dX4_init_28 : decode cX4_init 28 = .ok (.putfield 22, 3) := by decide +kernel
theorem dX4_init_31 : decode cX4_init 31 = .ok (.return_, 1) := by decide +kernel
theorem dX4_forget_0 : decode cX4_forget 0 = .ok (.aload_n 0, 1) := by decide +kernel
theorem dX4_forget_1 : decode cX4_forget 1 = .ok (.iconst 0, 1) := by decide +kernel
theorem dX4_forget_2 : decode cX4_forget 2 = .ok (.putfield 22, 3) := by decide +kernel
theorem dX4_forget_5 : decode cX4_forget 5 = .ok (.return_, 1) := by decide +kernel
set_option maxRecDepth 20000 in
theorem ggX4_solve_J7_fill_53178 : GoodIn wsX4_solve wsJ7_fill_53178 := goodIn_r _ [8] (by decide +kernel) (by decide +kernel)
set_option maxRecDepth 20000 in
theorem gX4_solve_J7_fill_53178 : GoodIn wsX4_solve (va_wsS RX4 26 yJ7_fill_53178 wsJ7_fill_53178) := goodIn_app (goodIn_of _ (by decide +kernel)) ggX4_solve_J7_fill_53178
set_option maxRecDepth 20000 in
theorem ggX4_solve_X4_strikeByClue : GoodIn wsX4_solve wsX4_strikeByClue := goodIn_r _ [13, 14, 15, 2, 16, 17, 18, 19, 20, 21, 22, 23, 24, 25, 26, 27, 28, 29, 30, 31, 12, 32, 33, 34, 35, 36, 37, 38, 39, 40, 41, 42, 43, 44, 45, 46, 47, 48, 49, 50, 51, 52, 53, 54, 55, 56, 57, 58, 59, 3, 4, 79, 80, 75, 76, 77, 78, 81, 82, 83, 84, 85, 86, 87, 88, 89] (by decide +kernel) (by decide +kernel)
set_option maxRecDepth 20000 in
theorem gX4_solve_X4_strikeByClue : GoodIn wsX4_solve (wsV RX4 32 RX4 yX4_strikeByClue wsX4_strikeByClue) := goodIn_app (goodIn_of _ (by decide +kernel)) ggX4_solve_X4_strikeByClue
set_option maxRecDepth 20000 in
theorem ggX4_solve_X4_strikeByOnlyPlace : GoodIn wsX4_solve wsX4_strikeByOnlyPlace := goodIn_r _ [63, 2, 42, 43, 44, 45, 46, 47, 48, 49, 50, 12, 51, 52, 53, 54, 55, 56, 57, 58, 59, 3, 4, 75, 76, 77, 78] (by decide +kernel) (by decide +kernel)
set_option maxRecDepth 20000 in
theorem gX4_solve_X4_strikeByOnlyPlace : GoodIn wsX4_solve (wsV RX4 36 RX4 yX4_strikeByOnlyPlace wsX4_strikeByOnlyPlace) := goodIn_app (goodIn_of _ (by decide +kernel)) ggX4_solve_X4_strikeByOnlyPlace
set_option maxRecDepth 20000 in
theorem ggX4_solve_X4_strikeByOnlyItem : GoodIn wsX4_solve wsX4_strikeByOnlyItem := goodIn_r _ [67, 2, 68, 69, 70, 12, 71, 72, 73, 74, 49, 50, 51, 52, 53, 44, 54, 55, 56, 57, 58, 59, 3, 4, 75, 76, 77, 78] (by decide +kernel) (by decide +kernel)
set_option maxRecDepth 20000 in
theorem gX4_solve_X4_strikeByOnlyItem : GoodIn wsX4_solve (wsV RX4 40 RX4 yX4_strikeByOnlyItem wsX4_strikeByOnlyItem) := goodIn_app (goodIn_of _ (by decide +kernel)) ggX4_solve_X4_strikeByOnlyItem
theorem dX4_solve_0 : decode cX4_solve 0 = .ok (.aload_n 0, 1) := by decide +kernel
theorem dX4_solve_1 : decode cX4_solve 1 = .ok (.getfield 22, 3) := by decide +kernel
theorem dX4_solve_4 : decode cX4_solve 4 = .ok (.ifCond .eq 4, 3) := by decide +kernel
theorem dX4_solve_7 : decode cX4_solve 7 = .ok (.return_, 1) := by decide +kernel
theorem dX4_solve_8 : decode cX4_solve 8 = .ok (.aload_n 0, 1) := by decide +kernel
theorem dX4_solve_9 : decode cX4_solve 9 = .ok (.getfield 9, 3) := by decide +kernel
theorem dX4_solve_12 : decode cX4_solve 12 = .ok (.bipush 30, 2) := by decide +kernel
theorem dX4_solve_14 : decode cX4_solve 14 = .ok (.invokestatic 26, 3) := by decide +kernel
theorem dX4_solve_17 : decode cX4_solve 17 = .ok (.aload_n 0, 1) := by decide +kernel
theorem dX4_solve_18 : decode cX4_solve 18 = .ok (.iconst 0, 1) := by decide +kernel
theorem dX4_solve_19 : decode cX4_solve 19 = .ok (.putfield 18, 3) := by decide +kernel
theorem dX4_solve_22 : decode cX4_solve 22 = .ok (.iconst 0, 1) := by decide +kernel
theorem dX4_solve_23 : decode cX4_solve 23 = .ok (.istore_n 2, 1) := by decide +kernel
theorem dX4_solve_24 : decode cX4_solve 24 = .ok (.iload_n 2, 1) := by decide +kernel
theorem dX4_solve_25 : decode cX4_solve 25 = .ok (.bipush 64, 2) := by decide +kernel
theorem dX4_solve_27 : decode cX4_solve 27 = .ok (.if_icmp .ge 62, 3) := by decide +kernel
theorem dX4_solve_30 : decode cX4_solve 30 = .ok (.aload_n 0, 1) := by decide +kernel
theorem dX4_solve_31 : decode cX4_solve 31 = .ok (.aload_n 1, 1) := by decide +kernel
theorem dX4_solve_32 : decode cX4_solve 32 = .ok (.invokevirtual 32, 3) := by decide +kernel
theorem dX4_solve_35 : decode cX4_solve 35 = .ok (.ifCond .ne 17, 3) := by decide +kernel
theorem dX4_solve_38 : decode cX4_solve 38 = .ok (.aload_n 0, 1) := by decide +kernel
theorem dX4_solve_39 : decode cX4_solve 39 = .ok (.invokevirtual 36, 3) := by decide +kernel
theorem dX4_solve_42 : decode cX4_solve 42 = .ok (.ifCond .ne 10, 3) := by decide +kernel
theorem dX4_solve_45 : decode cX4_solve 45 = .ok (.aload_n 0, 1) := by decide +kernel
theorem dX4_solve_46 : decode cX4_solve 46 = .ok (.invokevirtual 40, 3) := by decide +kernel
theorem dX4_solve_49 : decode cX4_solve 49 = .ok (.ifCond .eq 7, 3) := by decide +kernel
theorem dX4_solve_52 : decode cX4_solve 52 = .ok (.iconst 1, 1) := by decide +kernel
theorem dX4_solve_53 : decode cX4_solve 53 = .ok (.goto 4, 3) := by decide +kernel
theorem dX4_solve_56 : decode cX4_solve 56 = .ok (.iconst 0, 1) := by decide +kernel
theorem dX4_solve_57 : decode cX4_solve 57 = .ok (.istore_n 3, 1) := by decide +kernel
theorem dX4_solve_58 : decode cX4_solve 58 = .ok (.iload_n 3, 1) := by decide +kernel
theorem dX4_solve_59 : decode cX4_solve 59 = .ok (.ifCond .eq 30, 3) := by decide +kernel
theorem dX4_solve_62 : decode cX4_solve 62 = .ok (.aload_n 0, 1) := by decide +kernel
theorem dX4_solve_63 : decode cX4_solve 63 = .ok (.getfield 9, 3) := by decide +kernel
theorem dX4_solve_66 : decode cX4_solve 66 = .ok (.aload_n 0, 1) := by decide +kernel
theorem dX4_solve_67 : decode cX4_solve 67 = .ok (.getfield 15, 3) := by decide +kernel
theorem dX4_solve_70 : decode cX4_solve 70 = .ok (.iconst 4, 1) := by decide +kernel
theorem dX4_solve_71 : decode cX4_solve 71 = .ok (.iload_n 2, 1) := by decide +kernel
theorem dX4_solve_72 : decode cX4_solve 72 = .ok (.imul, 1) := by decide +kernel
theorem dX4_solve_73 : decode cX4_solve 73 = .ok (.iconst 2, 1) := by decide +kernel
theorem dX4_solve_74 : decode cX4_solve 74 = .ok (.iadd, 1) := by decide +kernel
theorem dX4_solve_75 : decode cX4_solve 75 = .ok (.iaload, 1) := by decide +kernel
theorem dX4_solve_76 : decode cX4_solve 76 = .ok (.iaload, 1) := by decide +kernel
theorem dX4_solve_77 : decode cX4_solve 77 = .ok (.ifCond .ne 6, 3) := by decide +kernel
theorem dX4_solve_80 : decode cX4_solve 80 = .ok (.goto 9, 3) := by decide +kernel
theorem dX4_solve_83 : decode cX4_solve 83 = .ok (.iinc 2 1, 3) := by decide +kernel
theorem dX4_solve_86 : decode cX4_solve 86 = .ok (.goto (-62), 3) := by decide +kernel
theorem dX4_solve_89 : decode cX4_solve 89 = .ok (.aload_n 0, 1) := by decide +kernel
theorem dX4_solve_90 : decode cX4_solve 90 = .ok (.iconst 1, 1) := by decide +kernel
theorem dX4_solve_91 : decode cX4_solve 91 = .ok (.putfield 22, 3) := by decide +kernel
theorem dX4_solve_94 : decode cX4_solve 94 = .ok (.return_, 1) := by decide +kernel
theorem dX4_strike_0 : decode cX4_strike 0 = .ok (.aload_n 0, 1) := by decide +kernel
theorem dX4_strike_1 : decode cX4_strike 1 = .ok (.getfield 9, 3) := by decide +kernel
theorem dX4_strike_4 : decode cX4_strike 4 = .ok (.iload_n 3, 1) := by decide +kernel
theorem dX4_strike_5 : decode cX4_strike 5 = .ok (.dup2, 1) := by decide +kernel
theorem dX4_strike_6 : decode cX4_strike 6 = .ok (.iaload, 1) := by decide +kernel
theorem dX4_strike_7 : decode cX4_strike 7 = .ok (.iconst 1, 1) := by decide +kernel
theorem dX4_strike_8 : decode cX4_strike 8 = .ok (.iload 4, 2) := by decide +kernel
theorem dX4_strike_10 : decode cX4_strike 10 = .ok (.ishl, 1) := by decide +kernel
theorem dX4_strike_11 : decode cX4_strike 11 = .ok (.iconst (-1), 1) := by decide +kernel
theorem dX4_strike_12 : decode cX4_strike 12 = .ok (.ixor, 1) := by decide +kernel
theorem dX4_strike_13 : decode cX4_strike 13 = .ok (.iand, 1) := by decide +kernel
theorem dX4_strike_14 : decode cX4_strike 14 = .ok (.iastore, 1) := by decide +kernel
theorem dX4_strike_15 : decode cX4_strike 15 = .ok (.iconst 4, 1) := by decide +kernel
theorem dX4_strike_16 : decode cX4_strike 16 = .ok (.aload_n 0, 1) := by decide +kernel
theorem dX4_strike_17 : decode cX4_strike 17 = .ok (.getfield 18, 3) := by decide +kernel
theorem dX4_strike_20 : decode cX4_strike 20 = .ok (.imul, 1) := by decide +kernel
theorem dX4_strike_21 : decode cX4_strike 21 = .ok (.istore 5, 2) := by decide +kernel
theorem dX4_strike_23 : decode cX4_strike 23 = .ok (.aload_n 0, 1) := by decide +kernel
theorem dX4_strike_24 : decode cX4_strike 24 = .ok (.getfield 15, 3) := by decide +kernel
theorem dX4_strike_27 : decode cX4_strike 27 = .ok (.iload 5, 2) := by decide +kernel
theorem dX4_strike_29 : decode cX4_strike 29 = .ok (.iload_n 1, 1) := by decide +kernel
theorem dX4_strike_30 : decode cX4_strike 30 = .ok (.iastore, 1) := by decide +kernel
theorem dX4_strike_31 : decode cX4_strike 31 = .ok (.aload_n 0, 1) := by decide +kernel
theorem dX4_strike_32 : decode cX4_strike 32 = .ok (.getfield 15, 3) := by decide +kernel
theorem dX4_strike_35 : decode cX4_strike 35 = .ok (.iload 5, 2) := by decide +kernel
theorem dX4_strike_37 : decode cX4_strike 37 = .ok (.iconst 1, 1) := by decide +kernel
theorem dX4_strike_38 : decode cX4_strike 38 = .ok (.iadd, 1) := by decide +kernel
theorem dX4_strike_39 : decode cX4_strike 39 = .ok (.iload_n 2, 1) := by decide +kernel
theorem dX4_strike_40 : decode cX4_strike 40 = .ok (.iastore, 1) := by decide +kernel
theorem dX4_strike_41 : decode cX4_strike 41 = .ok (.aload_n 0, 1) := by decide +kernel
theorem dX4_strike_42 : decode cX4_strike 42 = .ok (.getfield 15, 3) := by decide +kernel
theorem dX4_strike_45 : decode cX4_strike 45 = .ok (.iload 5, 2) := by decide +kernel
theorem dX4_strike_47 : decode cX4_strike 47 = .ok (.iconst 2, 1) := by decide +kernel
theorem dX4_strike_48 : decode cX4_strike 48 = .ok (.iadd, 1) := by decide +kernel
theorem dX4_strike_49 : decode cX4_strike 49 = .ok (.iload_n 3, 1) := by decide +kernel
theorem dX4_strike_50 : decode cX4_strike 50 = .ok (.iastore, 1) := by decide +kernel
theorem dX4_strike_51 : decode cX4_strike 51 = .ok (.aload_n 0, 1) := by decide +kernel
theorem dX4_strike_52 : decode cX4_strike 52 = .ok (.getfield 15, 3) := by decide +kernel
theorem dX4_strike_55 : decode cX4_strike 55 = .ok (.iload 5, 2) := by decide +kernel
theorem dX4_strike_57 : decode cX4_strike 57 = .ok (.iconst 3, 1) := by decide +kernel
theorem dX4_strike_58 : decode cX4_strike 58 = .ok (.iadd, 1) := by decide +kernel
theorem dX4_strike_59 : decode cX4_strike 59 = .ok (.iload 4, 2) := by decide +kernel
theorem dX4_strike_61 : decode cX4_strike 61 = .ok (.iastore, 1) := by decide +kernel
theorem dX4_strike_62 : decode cX4_strike 62 = .ok (.aload_n 0, 1) := by decide +kernel
theorem dX4_strike_63 : decode cX4_strike 63 = .ok (.dup, 1) := by decide +kernel
theorem dX4_strike_64 : decode cX4_strike 64 = .ok (.getfield 18, 3) := by decide +kernel
theorem dX4_strike_67 : decode cX4_strike 67 = .ok (.iconst 1, 1) := by decide +kernel
theorem dX4_strike_68 : decode cX4_strike 68 = .ok (.iadd, 1) := by decide +kernel
theorem dX4_strike_69 : decode cX4_strike 69 = .ok (.putfield 18, 3) := by decide +kernel
theorem dX4_strike_72 : decode cX4_strike 72 = .ok (.return_, 1) := by decide +kernel
set_option maxRecDepth 20000 in
theorem ggX4_strikeByClue_X1_items : GoodIn wsX4_strikeByClue wsX1_items := goodIn_r _ [8, 9, 57, 58, 59, 60, 61, 62, 63, 64, 65] (by decide +kernel) (by decide +kernel)
set_option maxRecDepth 20000 in
theorem gX4_strikeByClue_X1_items : GoodIn wsX4_strikeByClue (wsV RX4 50 RX1 yX1_items wsX1_items) := goodIn_app (goodIn_of _ (by decide +kernel)) ggX4_strikeByClue_X1_items
set_option maxRecDepth 20000 in
theorem ggX4_strikeByClue_X1_itemAt : GoodIn wsX4_strikeByClue wsX1_itemAt := goodIn_r _ [13, 14, 15, 16, 57, 58, 59, 60, 61, 62, 63, 64, 65] (by decide +kernel) (by decide +kernel)
set_option maxRecDepth 20000 in
theorem gX4_strikeByClue_X1_itemAt : GoodIn wsX4_strikeByClue (wsV RX4 56 RX1 yX1_itemAt wsX1_itemAt) := goodIn_app (goodIn_of _ (by decide +kernel)) ggX4_strikeByClue_X1_itemAt
set_option maxRecDepth 20000 in
theorem ggX4_strikeByClue_X4_supported : GoodIn wsX4_strikeByClue wsX4_supported := goodIn_r _ [21, 22, 23, 3, 24, 25, 26, 20, 27, 28, 29, 30, 10, 11, 12, 7, 13, 14, 15, 16, 31, 32, 33, 34, 35, 36, 37, 57, 58, 59, 60, 61, 62, 63, 64, 65, 53, 54, 55, 56] (by decide +kernel) (by decide +kernel)
set_option maxRecDepth 20000 in
theorem gX4_strikeByClue_X4_supported : GoodIn wsX4_strikeByClue (wsV RX4 60 RX4 yX4_supported wsX4_supported) := goodIn_app (goodIn_of _ (by decide +kernel)) ggX4_strikeByClue_X4_supported
set_option maxRecDepth 20000 in
theorem ggX4_strikeByClue_X4_firstOf : GoodIn wsX4_strikeByClue wsX4_firstOf := goodIn_r _ [40, 41, 42, 33, 43, 44] (by decide +kernel) (by decide +kernel)
set_option maxRecDepth 20000 in
theorem gX4_strikeByClue_X4_firstOf : GoodIn wsX4_strikeByClue (va_wsS RX4 64 yX4_firstOf wsX4_firstOf) := goodIn_app (goodIn_of _ (by decide +kernel)) ggX4_strikeByClue_X4_firstOf
set_option maxRecDepth 20000 in
theorem ggX4_strikeByClue_X4_strike : GoodIn wsX4_strikeByClue wsX4_strike := goodIn_r _ [48, 3, 49, 50, 53, 54, 55, 56] (by decide +kernel) (by decide +kernel)
set_option maxRecDepth 20000 in
theorem gX4_strikeByClue_X4_strike : GoodIn wsX4_strikeByClue (wsV RX4 67 RX4 yX4_strike wsX4_strike) := goodIn_app (goodIn_of _ (by decide +kernel)) ggX4_strikeByClue_X4_strike
theorem dX4_strikeByClue_0 : decode cX4_strikeByClue 0 = .ok (.iconst 0, 1) := by decide +kernel
theorem dX4_strikeByClue_1 : decode cX4_strikeByClue 1 = .ok (.istore_n 2, 1) := by decide +kernel
theorem dX4_strikeByClue_2 : decode cX4_strikeByClue 2 = .ok (.iload_n 2, 1) := by decide +kernel
theorem dX4_strikeByClue_3 : decode cX4_strikeByClue 3 = .ok (.aload_n 1, 1) := by decide +kernel
theorem dX4_strikeByClue_4 : decode cX4_strikeByClue 4 = .ok (.getfield 43, 3) := by decide +kernel
theorem dX4_strikeByClue_7 : decode cX4_strikeByClue 7 = .ok (.if_icmp .ge 81, 3) := by decide +kernel
theorem dX4_strikeByClue_10 : decode cX4_strikeByClue 10 = .ok (.aload_n 1, 1) := by decide +kernel
theorem dX4_strikeByClue_11 : decode cX4_strikeByClue 11 = .ok (.getfield 46, 3) := by decide +kernel
theorem dX4_strikeByClue_14 : decode cX4_strikeByClue 14 = .ok (.iload_n 2, 1) := by decide +kernel
theorem dX4_strikeByClue_15 : decode cX4_strikeByClue 15 = .ok (.aaload, 1) := by decide +kernel
theorem dX4_strikeByClue_16 : decode cX4_strikeByClue 16 = .ok (.astore_n 3, 1) := by decide +kernel
theorem dX4_strikeByClue_17 : decode cX4_strikeByClue 17 = .ok (.iconst 0, 1) := by decide +kernel
theorem dX4_strikeByClue_18 : decode cX4_strikeByClue 18 = .ok (.istore 4, 2) := by decide +kernel
theorem dX4_strikeByClue_20 : decode cX4_strikeByClue 20 = .ok (.iload 4, 2) := by decide +kernel
theorem dX4_strikeByClue_22 : decode cX4_strikeByClue 22 = .ok (.aload_n 3, 1) := by decide +kernel
theorem dX4_strikeByClue_23 : decode cX4_strikeByClue 23 = .ok (.invokevirtual 50, 3) := by decide +kernel
theorem dX4_strikeByClue_26 : decode cX4_strikeByClue 26 = .ok (.if_icmp .ge 56, 3) := by decide +kernel
theorem dX4_strikeByClue_29 : decode cX4_strikeByClue 29 = .ok (.aload_n 3, 1) := by decide +kernel
theorem dX4_strikeByClue_30 : decode cX4_strikeByClue 30 = .ok (.iload 4, 2) := by decide +kernel
theorem dX4_strikeByClue_32 : decode cX4_strikeByClue 32 = .ok (.invokevirtual 56, 3) := by decide +kernel
theorem dX4_strikeByClue_35 : decode cX4_strikeByClue 35 = .ok (.istore 5, 2) := by decide +kernel
theorem dX4_strikeByClue_37 : decode cX4_strikeByClue 37 = .ok (.aload_n 0, 1) := by decide +kernel
theorem dX4_strikeByClue_38 : decode cX4_strikeByClue 38 = .ok (.getfield 9, 3) := by decide +kernel
theorem dX4_strikeByClue_41 : decode cX4_strikeByClue 41 = .ok (.iload 5, 2) := by decide +kernel
theorem dX4_strikeByClue_43 : decode cX4_strikeByClue 43 = .ok (.iaload, 1) := by decide +kernel
theorem dX4_strikeByClue_44 : decode cX4_strikeByClue 44 = .ok (.aload_n 0, 1) := by decide +kernel
theorem dX4_strikeByClue_45 : decode cX4_strikeByClue 45 = .ok (.aload_n 3, 1) := by decide +kernel
theorem dX4_strikeByClue_46 : decode cX4_strikeByClue 46 = .ok (.iload 4, 2) := by decide +kernel
theorem dX4_strikeByClue_48 : decode cX4_strikeByClue 48 = .ok (.invokevirtual 60, 3) := by decide +kernel
theorem dX4_strikeByClue_51 : decode cX4_strikeByClue 51 = .ok (.iconst (-1), 1) := by decide +kernel
theorem dX4_strikeByClue_52 : decode cX4_strikeByClue 52 = .ok (.ixor, 1) := by decide +kernel
theorem dX4_strikeByClue_53 : decode cX4_strikeByClue 53 = .ok (.iand, 1) := by decide +kernel
theorem dX4_strikeByClue_54 : decode cX4_strikeByClue 54 = .ok (.istore 6, 2) := by decide +kernel
theorem dX4_strikeByClue_56 : decode cX4_strikeByClue 56 = .ok (.iload 6, 2) := by decide +kernel
theorem dX4_strikeByClue_58 : decode cX4_strikeByClue 58 = .ok (.ifCond .eq 18, 3) := by decide +kernel
theorem dX4_strikeByClue_61 : decode cX4_strikeByClue 61 = .ok (.aload_n 0, 1) := by decide +kernel
theorem dX4_strikeByClue_62 : decode cX4_strikeByClue 62 = .ok (.iconst 0, 1) := by decide +kernel
theorem dX4_strikeByClue_63 : decode cX4_strikeByClue 63 = .ok (.iload_n 2, 1) := by decide +kernel
theorem dX4_strikeByClue_64 : decode cX4_strikeByClue 64 = .ok (.iload 5, 2) := by decide +kernel
theorem dX4_strikeByClue_66 : decode cX4_strikeByClue 66 = .ok (.iload 6, 2) := by decide +kernel
theorem dX4_strikeByClue_68 : decode cX4_strikeByClue 68 = .ok (.invokestatic 64, 3) := by decide +kernel
theorem dX4_strikeByClue_71 : decode cX4_strikeByClue 71 = .ok (.invokevirtual 67, 3) := by decide +kernel
theorem dX4_strikeByClue_74 : decode cX4_strikeByClue 74 = .ok (.iconst 1, 1) := by decide +kernel
theorem dX4_strikeByClue_75 : decode cX4_strikeByClue 75 = .ok (.ireturn, 1) := by decide +kernel
theorem dX4_strikeByClue_76 : decode cX4_strikeByClue 76 = .ok (.iinc 4 1, 3) := by decide +kernel
theorem dX4_strikeByClue_79 : decode cX4_strikeByClue 79 = .ok (.goto (-59), 3) := by decide +kernel
theorem dX4_strikeByClue_82 : decode cX4_strikeByClue 82 = .ok (.iinc 2 1, 3) := by decide +kernel
theorem dX4_strikeByClue_85 : decode cX4_strikeByClue 85 = .ok (.goto (-83), 3) := by decide +kernel
theorem dX4_strikeByClue_88 : decode cX4_strikeByClue 88 = .ok (.iconst 0, 1) := by decide +kernel
theorem dX4_strikeByClue_89 : decode cX4_strikeByClue 89 = .ok (.ireturn, 1) := by decide +kernel
set_option maxRecDepth 20000 in
theorem ggX4_supported_X4_supportedByEither : GoodIn wsX4_supported wsX4_supportedByEither := goodIn_r _ [8, 3, 9, 10, 11, 36, 37, 38, 39, 27, 28, 29, 30, 31, 32, 33, 34, 35] (by decide +kernel) (by decide +kernel)
set_option maxRecDepth 20000 in
theorem gX4_supported_X4_supportedByEither : GoodIn wsX4_supported (wsV RX4 77 RX4 yX4_supportedByEither wsX4_supportedByEither) := goodIn_app (goodIn_of _ (by decide +kernel)) ggX4_supported_X4_supportedByEither
set_option maxRecDepth 20000 in
theorem ggX4_supported_X1_itemAt : GoodIn wsX4_supported wsX1_itemAt := goodIn_r _ [16, 17, 18, 19, 27, 28, 29, 30, 31, 32, 33, 34, 35] (by decide +kernel) (by decide +kernel)
set_option maxRecDepth 20000 in
theorem gX4_supported_X1_itemAt : GoodIn wsX4_supported (wsV RX4 56 RX1 yX1_itemAt wsX1_itemAt) := goodIn_app (goodIn_of _ (by decide +kernel)) ggX4_supported_X1_itemAt
set_option maxRecDepth 20000 in
theorem ggX4_supported_J6_bitCount_0f7a4 : GoodIn wsX4_supported wsJ6_bitCount_0f7a4 := goodIn_r _ [23, 24, 25, 26] (by decide +kernel) (by decide +kernel)
set_option maxRecDepth 20000 in
theorem gX4_supported_J6_bitCount_0f7a4 : GoodIn wsX4_supported (va_wsS RX4 80 yJ6_bitCount_0f7a4 wsJ6_bitCount_0f7a4) := goodIn_app (goodIn_of _ (by decide +kernel)) ggX4_supported_J6_bitCount_0f7a4
theorem dX4_supported_0 : decode cX4_supported 0 = .ok (.aload_n 1, 1) := by decide +kernel
theorem dX4_supported_1 : decode cX4_supported 1 = .ok (.getfield 71, 3) := by decide +kernel
theorem dX4_supported_4 : decode cX4_supported 4 = .ok (.iconst 5, 1) := by decide +kernel
theorem dX4_supported_5 : decode cX4_supported 5 = .ok (.if_icmp .ne 10, 3) := by decide +kernel
theorem dX4_supported_8 : decode cX4_supported 8 = .ok (.iconst 1, 1) := by decide +kernel
theorem dX4_supported_9 : decode cX4_supported 9 = .ok (.aload_n 1, 1) := by decide +kernel
theorem dX4_supported_10 : decode cX4_supported 10 = .ok (.getfield 74, 3) := by decide +kernel
theorem dX4_supported_13 : decode cX4_supported 13 = .ok (.ishl, 1) := by decide +kernel
theorem dX4_supported_14 : decode cX4_supported 14 = .ok (.ireturn, 1) := by decide +kernel
theorem dX4_supported_15 : decode cX4_supported 15 = .ok (.aload_n 1, 1) := by decide +kernel
theorem dX4_supported_16 : decode cX4_supported 16 = .ok (.getfield 71, 3) := by decide +kernel
theorem dX4_supported_19 : decode cX4_supported 19 = .ok (.bipush 6, 2) := by decide +kernel
theorem dX4_supported_21 : decode cX4_supported 21 = .ok (.if_icmp .ne 10, 3) := by decide +kernel
theorem dX4_supported_24 : decode cX4_supported 24 = .ok (.aload_n 0, 1) := by decide +kernel
theorem dX4_supported_25 : decode cX4_supported 25 = .ok (.aload_n 1, 1) := by decide +kernel
theorem dX4_supported_26 : decode cX4_supported 26 = .ok (.iload_n 2, 1) := by decide +kernel
theorem dX4_supported_27 : decode cX4_supported 27 = .ok (.invokevirtual 77, 3) := by decide +kernel
theorem dX4_supported_30 : decode cX4_supported 30 = .ok (.ireturn, 1) := by decide +kernel
theorem dX4_supported_31 : decode cX4_supported 31 = .ok (.aload_n 0, 1) := by decide +kernel
theorem dX4_supported_32 : decode cX4_supported 32 = .ok (.getfield 9, 3) := by decide +kernel
theorem dX4_supported_35 : decode cX4_supported 35 = .ok (.aload_n 1, 1) := by decide +kernel
theorem dX4_supported_36 : decode cX4_supported 36 = .ok (.iconst 1, 1) := by decide +kernel
theorem dX4_supported_37 : decode cX4_supported 37 = .ok (.iload_n 2, 1) := by decide +kernel
theorem dX4_supported_38 : decode cX4_supported 38 = .ok (.isub, 1) := by decide +kernel
theorem dX4_supported_39 : decode cX4_supported 39 = .ok (.invokevirtual 56, 3) := by decide +kernel
theorem dX4_supported_42 : decode cX4_supported 42 = .ok (.iaload, 1) := by decide +kernel
theorem dX4_supported_43 : decode cX4_supported 43 = .ok (.istore_n 3, 1) := by decide +kernel
theorem dX4_supported_44 : decode cX4_supported 44 = .ok (.iload_n 3, 1) := by decide +kernel
theorem dX4_supported_45 : decode cX4_supported 45 = .ok (.iconst 1, 1) := by decide +kernel
theorem dX4_supported_46 : decode cX4_supported 46 = .ok (.ishr, 1) := by decide +kernel
theorem dX4_supported_47 : decode cX4_supported 47 = .ok (.istore 4, 2) := by decide +kernel
theorem dX4_supported_49 : decode cX4_supported 49 = .ok (.iload_n 3, 1) := by decide +kernel
theorem dX4_supported_50 : decode cX4_supported 50 = .ok (.iconst 1, 1) := by decide +kernel
theorem dX4_supported_51 : decode cX4_supported 51 = .ok (.ishl, 1) := by decide +kernel
theorem dX4_supported_52 : decode cX4_supported 52 = .ok (.istore 5, 2) := by decide +kernel
theorem dX4_supported_54 : decode cX4_supported 54 = .ok (.aload_n 1, 1) := by decide +kernel
theorem dX4_supported_55 : decode cX4_supported 55 = .ok (.getfield 71, 3) := by decide +kernel
theorem dX4_supported_58 : decode cX4_supported 58 = .ok (.tableswitch 93 0 3 #[30, 32, 49, 81], 30) := by decide +kernel
theorem dX4_supported_88 : decode cX4_supported 88 = .ok (.iload_n 3, 1) := by decide +kernel
theorem dX4_supported_89 : decode cX4_supported 89 = .ok (.ireturn, 1) := by decide +kernel
theorem dX4_supported_90 : decode cX4_supported 90 = .ok (.iload_n 3, 1) := by decide +kernel
theorem dX4_supported_91 : decode cX4_supported 91 = .ok (.invokestatic 80, 3) := by decide +kernel
theorem dX4_supported_94 : decode cX4_supported 94 = .ok (.iconst 1, 1) := by decide +kernel
theorem dX4_supported_95 : decode cX4_supported 95 = .ok (.if_icmp .ne 9, 3) := by decide +kernel
theorem dX4_supported_98 : decode cX4_supported 98 = .ok (.iload_n 3, 1) := by decide +kernel
theorem dX4_supported_99 : decode cX4_supported 99 = .ok (.iconst (-1), 1) := by decide +kernel
theorem dX4_supported_100 : decode cX4_supported 100 = .ok (.ixor, 1) := by decide +kernel
theorem dX4_supported_101 : decode cX4_supported 101 = .ok (.goto 5, 3) := by decide +kernel
theorem dX4_supported_104 : decode cX4_supported 104 = .ok (.bipush 30, 2) := by decide +kernel
theorem dX4_supported_106 : decode cX4_supported 106 = .ok (.ireturn, 1) := by decide +kernel
theorem dX4_supported_107 : decode cX4_supported 107 = .ok (.iload_n 2, 1) := by decide +kernel
theorem dX4_supported_108 : decode cX4_supported 108 = .ok (.ifCond .ne 18, 3) := by decide +kernel
theorem dX4_supported_111 : decode cX4_supported 111 = .ok (.iload 4, 2) := by decide +kernel
theorem dX4_supported_113 : decode cX4_supported 113 = .ok (.iload 4, 2) := by decide +kernel
theorem dX4_supported_115 : decode cX4_supported 115 = .ok (.iconst 1, 1) := by decide +kernel
theorem dX4_supported_116 : decode cX4_supported 116 = .ok (.ishr, 1) := by decide +kernel
theorem dX4_supported_117 : decode cX4_supported 117 = .ok (.ior, 1) := by decide +kernel
theorem dX4_supported_118 : decode cX4_supported 118 = .ok (.iload 4, 2) := by decide +kernel
theorem dX4_supported_120 : decode cX4_supported 120 = .ok (.iconst 2, 1) := by decide +kernel
theorem dX4_supported_121 : decode cX4_supported 121 = .ok (.ishr, 1) := by decide +kernel
theorem dX4_supported_122 : decode cX4_supported 122 = .ok (.ior, 1) := by decide +kernel
theorem dX4_supported_123 : decode cX4_supported 123 = .ok (.goto 15, 3) := by decide +kernel
theorem dX4_supported_126 : decode cX4_supported 126 = .ok (.iload 5, 2) := by decide +kernel
theorem dX4_supported_128 : decode cX4_supported 128 = .ok (.iload 5, 2) := by decide +kernel
theorem dX4_supported_130 : decode cX4_supported 130 = .ok (.iconst 1, 1) := by decide +kernel
theorem dX4_supported_131 : decode cX4_supported 131 = .ok (.ishl, 1) := by decide +kernel
theorem dX4_supported_132 : decode cX4_supported 132 = .ok (.ior, 1) := by decide +kernel
theorem dX4_supported_133 : decode cX4_supported 133 = .ok (.iload 5, 2) := by decide +kernel
theorem dX4_supported_135 : decode cX4_supported 135 = .ok (.iconst 2, 1) := by decide +kernel
theorem dX4_supported_136 : decode cX4_supported 136 = .ok (.ishl, 1) := by decide +kernel
theorem dX4_supported_137 : decode cX4_supported 137 = .ok (.ior, 1) := by decide +kernel
theorem dX4_supported_138 : decode cX4_supported 138 = .ok (.ireturn, 1) := by decide +kernel
theorem dX4_supported_139 : decode cX4_supported 139 = .ok (.iload_n 2, 1) := by decide +kernel
theorem dX4_supported_140 : decode cX4_supported 140 = .ok (.ifCond .ne 8, 3) := by decide +kernel
theorem dX4_supported_143 : decode cX4_supported 143 = .ok (.iload 4, 2) := by decide +kernel
theorem dX4_supported_145 : decode cX4_supported 145 = .ok (.goto 5, 3) := by decide +kernel
theorem dX4_supported_148 : decode cX4_supported 148 = .ok (.iload 5, 2) := by decide +kernel
theorem dX4_supported_150 : decode cX4_supported 150 = .ok (.ireturn, 1) := by decide +kernel
theorem dX4_supported_151 : decode cX4_supported 151 = .ok (.iload 4, 2) := by decide +kernel
theorem dX4_supported_153 : decode cX4_supported 153 = .ok (.iload 5, 2) := by decide +kernel
theorem dX4_supported_155 : decode cX4_supported 155 = .ok (.ior, 1) := by decide +kernel
theorem dX4_supported_156 : decode cX4_supported 156 = .ok (.ireturn, 1) := by decide +kernel
theorem dX4_supportedByEither_0 : decode cX4_supportedByEither 0 = .ok (.iload_n 2, 1) := by decide +kernel
theorem dX4_supportedByEither_1 : decode cX4_supportedByEither 1 = .ok (.ifCond .ne 23, 3) := by decide +kernel
theorem dX4_supportedByEither_4 : decode cX4_supportedByEither 4 = .ok (.aload_n 0, 1) := by decide +kernel
theorem dX4_supportedByEither_5 : decode cX4_supportedByEither 5 = .ok (.getfield 9, 3) := by decide +kernel
theorem dX4_supportedByEither_8 : decode cX4_supportedByEither 8 = .ok (.aload_n 1, 1) := by decide +kernel
theorem dX4_supportedByEither_9 : decode cX4_supportedByEither 9 = .ok (.getfield 85, 3) := by decide +kernel
theorem dX4_supportedByEither_12 : decode cX4_supportedByEither 12 = .ok (.iaload, 1) := by decide +kernel
theorem dX4_supportedByEither_13 : decode cX4_supportedByEither 13 = .ok (.aload_n 0, 1) := by decide +kernel
theorem dX4_supportedByEither_14 : decode cX4_supportedByEither 14 = .ok (.getfield 9, 3) := by decide +kernel
theorem dX4_supportedByEither_17 : decode cX4_supportedByEither 17 = .ok (.aload_n 1, 1) := by decide +kernel
theorem dX4_supportedByEither_18 : decode cX4_supportedByEither 18 = .ok (.getfield 88, 3) := by decide +kernel
theorem dX4_supportedByEither_21 : decode cX4_supportedByEither 21 = .ok (.iaload, 1) := by decide +kernel
theorem dX4_supportedByEither_22 : decode cX4_supportedByEither 22 = .ok (.ior, 1) := by decide +kernel
theorem dX4_supportedByEither_23 : decode cX4_supportedByEither 23 = .ok (.ireturn, 1) := by decide +kernel
theorem dX4_supportedByEither_24 : decode cX4_supportedByEither 24 = .ok (.aload_n 0, 1) := by decide +kernel
theorem dX4_supportedByEither_25 : decode cX4_supportedByEither 25 = .ok (.getfield 9, 3) := by decide +kernel
theorem dX4_supportedByEither_28 : decode cX4_supportedByEither 28 = .ok (.aload_n 1, 1) := by decide +kernel
theorem dX4_supportedByEither_29 : decode cX4_supportedByEither 29 = .ok (.getfield 91, 3) := by decide +kernel
theorem dX4_supportedByEither_32 : decode cX4_supportedByEither 32 = .ok (.iaload, 1) := by decide +kernel
theorem dX4_supportedByEither_33 : decode cX4_supportedByEither 33 = .ok (.istore_n 3, 1) := by decide +kernel
theorem dX4_supportedByEither_34 : decode cX4_supportedByEither 34 = .ok (.aload_n 0, 1) := by decide +kernel
theorem dX4_supportedByEither_35 : decode cX4_supportedByEither 35 = .ok (.getfield 9, 3) := by decide +kernel
theorem dX4_supportedByEither_38 : decode cX4_supportedByEither 38 = .ok (.iload_n 2, 1) := by decide +kernel
theorem dX4_supportedByEither_39 : decode cX4_supportedByEither 39 = .ok (.iconst 1, 1) := by decide +kernel
theorem dX4_supportedByEither_40 : decode cX4_supportedByEither 40 = .ok (.if_icmp .ne 10, 3) := by decide +kernel
theorem dX4_supportedByEither_43 : decode cX4_supportedByEither 43 = .ok (.aload_n 1, 1) := by decide +kernel
theorem dX4_supportedByEither_44 : decode cX4_supportedByEither 44 = .ok (.getfield 88, 3) := by decide +kernel
theorem dX4_supportedByEither_47 : decode cX4_supportedByEither 47 = .ok (.goto 7, 3) := by decide +kernel
theorem dX4_supportedByEither_50 : decode cX4_supportedByEither 50 = .ok (.aload_n 1, 1) := by decide +kernel
theorem dX4_supportedByEither_51 : decode cX4_supportedByEither 51 = .ok (.getfield 85, 3) := by decide +kernel
theorem dX4_supportedByEither_54 : decode cX4_supportedByEither 54 = .ok (.iaload, 1) := by decide +kernel
theorem dX4_supportedByEither_55 : decode cX4_supportedByEither 55 = .ok (.istore 4, 2) := by decide +kernel
theorem dX4_supportedByEither_57 : decode cX4_supportedByEither 57 = .ok (.iload_n 3, 1) := by decide +kernel
theorem dX4_supportedByEither_58 : decode cX4_supportedByEither 58 = .ok (.iload 4, 2) := by decide +kernel
theorem dX4_supportedByEither_60 : decode cX4_supportedByEither 60 = .ok (.iand, 1) := by decide +kernel
theorem dX4_supportedByEither_61 : decode cX4_supportedByEither 61 = .ok (.ifCond .eq 8, 3) := by decide +kernel
theorem dX4_supportedByEither_64 : decode cX4_supportedByEither 64 = .ok (.bipush 30, 2) := by decide +kernel
theorem dX4_supportedByEither_66 : decode cX4_supportedByEither 66 = .ok (.goto 4, 3) := by decide +kernel
theorem dX4_supportedByEither_69 : decode cX4_supportedByEither 69 = .ok (.iload_n 3, 1) := by decide +kernel
theorem dX4_supportedByEither_70 : decode cX4_supportedByEither 70 = .ok (.ireturn, 1) := by decide +kernel
set_option maxRecDepth 20000 in
theorem ggX4_strikeByOnlyPlace_J6_bitCount_0f7a4 : GoodIn wsX4_strikeByOnlyPlace wsJ6_bitCount_0f7a4 := goodIn_r _ [5, 6, 7, 8] (by decide +kernel) (by decide +kernel)
set_option maxRecDepth 20000 in
theorem gX4_strikeByOnlyPlace_J6_bitCount_0f7a4 : GoodIn wsX4_strikeByOnlyPlace (va_wsS RX4 80 yJ6_bitCount_0f7a4 wsJ6_bitCount_0f7a4) := goodIn_app (goodIn_of _ (by decide +kernel)) ggX4_strikeByOnlyPlace_J6_bitCount_0f7a4
set_option maxRecDepth 20000 in
theorem ggX4_strikeByOnlyPlace_X4_firstOf : GoodIn wsX4_strikeByOnlyPlace wsX4_firstOf := goodIn_r _ [12, 13, 14, 4, 15, 16] (by decide +kernel) (by decide +kernel)
set_option maxRecDepth 20000 in
theorem gX4_strikeByOnlyPlace_X4_firstOf : GoodIn wsX4_strikeByOnlyPlace (va_wsS RX4 64 yX4_firstOf wsX4_firstOf) := goodIn_app (goodIn_of _ (by decide +kernel)) ggX4_strikeByOnlyPlace_X4_firstOf
set_option maxRecDepth 20000 in
theorem ggX4_strikeByOnlyPlace_X4_strike : GoodIn wsX4_strikeByOnlyPlace wsX4_strike := goodIn_r _ [20, 1, 21, 22, 23, 24, 25, 26] (by decide +kernel) (by decide +kernel)
set_option maxRecDepth 20000 in
theorem gX4_strikeByOnlyPlace_X4_strike : GoodIn wsX4_strikeByOnlyPlace (wsV RX4 67 RX4 yX4_strike wsX4_strike) := goodIn_app (goodIn_of _ (by decide +kernel)) ggX4_strikeByOnlyPlace_X4_strike
theorem dX4_strikeByOnlyPlace_0 : decode cX4_strikeByOnlyPlace 0 = .ok (.iconst 0, 1) := by decide +kernel
theorem dX4_strikeByOnlyPlace_1 : decode cX4_strikeByOnlyPlace 1 = .ok (.istore_n 1, 1) := by decide +kernel
theorem dX4_strikeByOnlyPlace_2 : decode cX4_strikeByOnlyPlace 2 = .ok (.iload_n 1, 1) := by decide +kernel
theorem dX4_strikeByOnlyPlace_3 : decode cX4_strikeByOnlyPlace 3 = .ok (.bipush 16, 2) := by decide +kernel
theorem dX4_strikeByOnlyPlace_5 : decode cX4_strikeByOnlyPlace 5 = .ok (.if_icmp .ge 83, 3) := by decide +kernel
theorem dX4_strikeByOnlyPlace_8 : decode cX4_strikeByOnlyPlace 8 = .ok (.aload_n 0, 1) := by decide +kernel
theorem dX4_strikeByOnlyPlace_9 : decode cX4_strikeByOnlyPlace 9 = .ok (.getfield 9, 3) := by decide +kernel
theorem dX4_strikeByOnlyPlace_12 : decode cX4_strikeByOnlyPlace 12 = .ok (.iload_n 1, 1) := by decide +kernel
theorem dX4_strikeByOnlyPlace_13 : decode cX4_strikeByOnlyPlace 13 = .ok (.iaload, 1) := by decide +kernel
theorem dX4_strikeByOnlyPlace_14 : decode cX4_strikeByOnlyPlace 14 = .ok (.invokestatic 80, 3) := by decide +kernel
theorem dX4_strikeByOnlyPlace_17 : decode cX4_strikeByOnlyPlace 17 = .ok (.iconst 1, 1) := by decide +kernel
theorem dX4_strikeByOnlyPlace_18 : decode cX4_strikeByOnlyPlace 18 = .ok (.if_icmp .ne 64, 3) := by decide +kernel
theorem dX4_strikeByOnlyPlace_21 : decode cX4_strikeByOnlyPlace 21 = .ok (.iload_n 1, 1) := by decide +kernel
theorem dX4_strikeByOnlyPlace_22 : decode cX4_strikeByOnlyPlace 22 = .ok (.iconst 4, 1) := by decide +kernel
theorem dX4_strikeByOnlyPlace_23 : decode cX4_strikeByOnlyPlace 23 = .ok (.idiv, 1) := by decide +kernel
theorem dX4_strikeByOnlyPlace_24 : decode cX4_strikeByOnlyPlace 24 = .ok (.iconst 4, 1) := by decide +kernel
theorem dX4_strikeByOnlyPlace_25 : decode cX4_strikeByOnlyPlace 25 = .ok (.imul, 1) := by decide +kernel
theorem dX4_strikeByOnlyPlace_26 : decode cX4_strikeByOnlyPlace 26 = .ok (.istore_n 2, 1) := by decide +kernel
theorem dX4_strikeByOnlyPlace_27 : decode cX4_strikeByOnlyPlace 27 = .ok (.iload_n 2, 1) := by decide +kernel
theorem dX4_strikeByOnlyPlace_28 : decode cX4_strikeByOnlyPlace 28 = .ok (.istore_n 3, 1) := by decide +kernel
theorem dX4_strikeByOnlyPlace_29 : decode cX4_strikeByOnlyPlace 29 = .ok (.iload_n 3, 1) := by decide +kernel
theorem dX4_strikeByOnlyPlace_30 : decode cX4_strikeByOnlyPlace 30 = .ok (.iload_n 2, 1) := by decide +kernel
theorem dX4_strikeByOnlyPlace_31 : decode cX4_strikeByOnlyPlace 31 = .ok (.iconst 4, 1) := by decide +kernel
theorem dX4_strikeByOnlyPlace_32 : decode cX4_strikeByOnlyPlace 32 = .ok (.iadd, 1) := by decide +kernel
theorem dX4_strikeByOnlyPlace_33 : decode cX4_strikeByOnlyPlace 33 = .ok (.if_icmp .ge 49, 3) := by decide +kernel
theorem dX4_strikeByOnlyPlace_36 : decode cX4_strikeByOnlyPlace 36 = .ok (.iload_n 3, 1) := by decide +kernel
theorem dX4_strikeByOnlyPlace_37 : decode cX4_strikeByOnlyPlace 37 = .ok (.iload_n 1, 1) := by decide +kernel
theorem dX4_strikeByOnlyPlace_38 : decode cX4_strikeByOnlyPlace 38 = .ok (.if_icmp .eq 38, 3) := by decide +kernel
theorem dX4_strikeByOnlyPlace_41 : decode cX4_strikeByOnlyPlace 41 = .ok (.aload_n 0, 1) := by decide +kernel
theorem dX4_strikeByOnlyPlace_42 : decode cX4_strikeByOnlyPlace 42 = .ok (.getfield 9, 3) := by decide +kernel
theorem dX4_strikeByOnlyPlace_45 : decode cX4_strikeByOnlyPlace 45 = .ok (.iload_n 3, 1) := by decide +kernel
theorem dX4_strikeByOnlyPlace_46 : decode cX4_strikeByOnlyPlace 46 = .ok (.iaload, 1) := by decide +kernel
theorem dX4_strikeByOnlyPlace_47 : decode cX4_strikeByOnlyPlace 47 = .ok (.aload_n 0, 1) := by decide +kernel
theorem dX4_strikeByOnlyPlace_48 : decode cX4_strikeByOnlyPlace 48 = .ok (.getfield 9, 3) := by decide +kernel
theorem dX4_strikeByOnlyPlace_51 : decode cX4_strikeByOnlyPlace 51 = .ok (.iload_n 1, 1) := by decide +kernel
theorem dX4_strikeByOnlyPlace_52 : decode cX4_strikeByOnlyPlace 52 = .ok (.iaload, 1) := by decide +kernel
theorem dX4_strikeByOnlyPlace_53 : decode cX4_strikeByOnlyPlace 53 = .ok (.iand, 1) := by decide +kernel
theorem dX4_strikeByOnlyPlace_54 : decode cX4_strikeByOnlyPlace 54 = .ok (.ifCond .eq 22, 3) := by decide +kernel
theorem dX4_strikeByOnlyPlace_57 : decode cX4_strikeByOnlyPlace 57 = .ok (.aload_n 0, 1) := by decide +kernel
theorem dX4_strikeByOnlyPlace_58 : decode cX4_strikeByOnlyPlace 58 = .ok (.iconst 1, 1) := by decide +kernel
theorem dX4_strikeByOnlyPlace_59 : decode cX4_strikeByOnlyPlace 59 = .ok (.bipush (-6), 2) := by decide +kernel
theorem dX4_strikeByOnlyPlace_61 : decode cX4_strikeByOnlyPlace 61 = .ok (.iload_n 3, 1) := by decide +kernel
theorem dX4_strikeByOnlyPlace_62 : decode cX4_strikeByOnlyPlace 62 = .ok (.aload_n 0, 1) := by decide +kernel
theorem dX4_strikeByOnlyPlace_63 : decode cX4_strikeByOnlyPlace 63 = .ok (.getfield 9, 3) := by decide +kernel
theorem dX4_strikeByOnlyPlace_66 : decode cX4_strikeByOnlyPlace 66 = .ok (.iload_n 1, 1) := by decide +kernel
theorem dX4_strikeByOnlyPlace_67 : decode cX4_strikeByOnlyPlace 67 = .ok (.iaload, 1) := by decide +kernel
theorem dX4_strikeByOnlyPlace_68 : decode cX4_strikeByOnlyPlace 68 = .ok (.invokestatic 64, 3) := by decide +kernel
theorem dX4_strikeByOnlyPlace_71 : decode cX4_strikeByOnlyPlace 71 = .ok (.invokevirtual 67, 3) := by decide +kernel
theorem dX4_strikeByOnlyPlace_74 : decode cX4_strikeByOnlyPlace 74 = .ok (.iconst 1, 1) := by decide +kernel
theorem dX4_strikeByOnlyPlace_75 : decode cX4_strikeByOnlyPlace 75 = .ok (.ireturn, 1) := by decide +kernel
theorem dX4_strikeByOnlyPlace_76 : decode cX4_strikeByOnlyPlace 76 = .ok (.iinc 3 1, 3) := by decide +kernel
theorem dX4_strikeByOnlyPlace_79 : decode cX4_strikeByOnlyPlace 79 = .ok (.goto (-50), 3) := by decide +kernel
theorem dX4_strikeByOnlyPlace_82 : decode cX4_strikeByOnlyPlace 82 = .ok (.iinc 1 1, 3) := by decide +kernel
theorem dX4_strikeByOnlyPlace_85 : decode cX4_strikeByOnlyPlace 85 = .ok (.goto (-83), 3) := by decide +kernel
theorem dX4_strikeByOnlyPlace_88 : decode cX4_strikeByOnlyPlace 88 = .ok (.iconst 0, 1) := by decide +kernel
theorem dX4_strikeByOnlyPlace_89 : decode cX4_strikeByOnlyPlace 89 = .ok (.ireturn, 1) := by decide +kernel
set_option maxRecDepth 20000 in
theorem ggX4_strikeByOnlyItem_X4_onlyItemWith : GoodIn wsX4_strikeByOnlyItem wsX4_onlyItemWith := goodIn_r _ [6, 1, 7, 8, 9, 24, 25, 26, 27] (by decide +kernel) (by decide +kernel)
set_option maxRecDepth 20000 in
theorem gX4_strikeByOnlyItem_X4_onlyItemWith : GoodIn wsX4_strikeByOnlyItem (wsV RX4 94 RX4 yX4_onlyItemWith wsX4_onlyItemWith) := goodIn_app (goodIn_of _ (by decide +kernel)) ggX4_strikeByOnlyItem_X4_onlyItemWith
set_option maxRecDepth 20000 in
theorem ggX4_strikeByOnlyItem_X4_firstOf : GoodIn wsX4_strikeByOnlyItem wsX4_firstOf := goodIn_r _ [12, 13, 14, 15, 16, 17] (by decide +kernel) (by decide +kernel)
set_option maxRecDepth 20000 in
theorem gX4_strikeByOnlyItem_X4_firstOf : GoodIn wsX4_strikeByOnlyItem (va_wsS RX4 64 yX4_firstOf wsX4_firstOf) := goodIn_app (goodIn_of _ (by decide +kernel)) ggX4_strikeByOnlyItem_X4_firstOf
set_option maxRecDepth 20000 in
theorem ggX4_strikeByOnlyItem_X4_strike : GoodIn wsX4_strikeByOnlyItem wsX4_strike := goodIn_r _ [21, 1, 22, 23, 24, 25, 26, 27] (by decide +kernel) (by decide +kernel)
set_option maxRecDepth 20000 in
theorem gX4_strikeByOnlyItem_X4_strike : GoodIn wsX4_strikeByOnlyItem (wsV RX4 67 RX4 yX4_strike wsX4_strike) := goodIn_app (goodIn_of _ (by decide +kernel)) ggX4_strikeByOnlyItem_X4_strike
theorem dX4_strikeByOnlyItem_0 : decode cX4_strikeByOnlyItem 0 = .ok (.iconst 0, 1) := by decide +kernel
theorem dX4_strikeByOnlyItem_1 : decode cX4_strikeByOnlyItem 1 = .ok (.istore_n 1, 1) := by decide +kernel
theorem dX4_strikeByOnlyItem_2 : decode cX4_strikeByOnlyItem 2 = .ok (.iload_n 1, 1) := by decide +kernel
theorem dX4_strikeByOnlyItem_3 : decode cX4_strikeByOnlyItem 3 = .ok (.iconst 4, 1) := by decide +kernel
theorem dX4_strikeByOnlyItem_4 : decode cX4_strikeByOnlyItem 4 = .ok (.if_icmp .ge 73, 3) := by decide +kernel
theorem dX4_strikeByOnlyItem_7 : decode cX4_strikeByOnlyItem 7 = .ok (.iconst 1, 1) := by decide +kernel
theorem dX4_strikeByOnlyItem_8 : decode cX4_strikeByOnlyItem 8 = .ok (.istore_n 2, 1) := by decide +kernel
theorem dX4_strikeByOnlyItem_9 : decode cX4_strikeByOnlyItem 9 = .ok (.iload_n 2, 1) := by decide +kernel
theorem dX4_strikeByOnlyItem_10 : decode cX4_strikeByOnlyItem 10 = .ok (.iconst 4, 1) := by decide +kernel
theorem dX4_strikeByOnlyItem_11 : decode cX4_strikeByOnlyItem 11 = .ok (.if_icmp .gt 60, 3) := by decide +kernel
theorem dX4_strikeByOnlyItem_14 : decode cX4_strikeByOnlyItem 14 = .ok (.aload_n 0, 1) := by decide +kernel
theorem dX4_strikeByOnlyItem_15 : decode cX4_strikeByOnlyItem 15 = .ok (.iload_n 1, 1) := by decide +kernel
theorem dX4_strikeByOnlyItem_16 : decode cX4_strikeByOnlyItem 16 = .ok (.iload_n 2, 1) := by decide +kernel
theorem dX4_strikeByOnlyItem_17 : decode cX4_strikeByOnlyItem 17 = .ok (.invokevirtual 94, 3) := by decide +kernel
theorem dX4_strikeByOnlyItem_20 : decode cX4_strikeByOnlyItem 20 = .ok (.istore_n 3, 1) := by decide +kernel
theorem dX4_strikeByOnlyItem_21 : decode cX4_strikeByOnlyItem 21 = .ok (.iload_n 3, 1) := by decide +kernel
theorem dX4_strikeByOnlyItem_22 : decode cX4_strikeByOnlyItem 22 = .ok (.bipush (-6), 2) := by decide +kernel
theorem dX4_strikeByOnlyItem_24 : decode cX4_strikeByOnlyItem 24 = .ok (.if_icmp .ne 7, 3) := by decide +kernel
theorem dX4_strikeByOnlyItem_27 : decode cX4_strikeByOnlyItem 27 = .ok (.iconst 0, 1) := by decide +kernel
theorem dX4_strikeByOnlyItem_28 : decode cX4_strikeByOnlyItem 28 = .ok (.goto 15, 3) := by decide +kernel
theorem dX4_strikeByOnlyItem_31 : decode cX4_strikeByOnlyItem 31 = .ok (.aload_n 0, 1) := by decide +kernel
theorem dX4_strikeByOnlyItem_32 : decode cX4_strikeByOnlyItem 32 = .ok (.getfield 9, 3) := by decide +kernel
theorem dX4_strikeByOnlyItem_35 : decode cX4_strikeByOnlyItem 35 = .ok (.iload_n 3, 1) := by decide +kernel
theorem dX4_strikeByOnlyItem_36 : decode cX4_strikeByOnlyItem 36 = .ok (.iaload, 1) := by decide +kernel
theorem dX4_strikeByOnlyItem_37 : decode cX4_strikeByOnlyItem 37 = .ok (.iconst 1, 1) := by decide +kernel
theorem dX4_strikeByOnlyItem_38 : decode cX4_strikeByOnlyItem 38 = .ok (.iload_n 2, 1) := by decide +kernel
theorem dX4_strikeByOnlyItem_39 : decode cX4_strikeByOnlyItem 39 = .ok (.ishl, 1) := by decide +kernel
theorem dX4_strikeByOnlyItem_40 : decode cX4_strikeByOnlyItem 40 = .ok (.iconst (-1), 1) := by decide +kernel
theorem dX4_strikeByOnlyItem_41 : decode cX4_strikeByOnlyItem 41 = .ok (.ixor, 1) := by decide +kernel
theorem dX4_strikeByOnlyItem_42 : decode cX4_strikeByOnlyItem 42 = .ok (.iand, 1) := by decide +kernel
theorem dX4_strikeByOnlyItem_43 : decode cX4_strikeByOnlyItem 43 = .ok (.istore 4, 2) := by decide +kernel
theorem dX4_strikeByOnlyItem_45 : decode cX4_strikeByOnlyItem 45 = .ok (.iload 4, 2) := by decide +kernel
theorem dX4_strikeByOnlyItem_47 : decode cX4_strikeByOnlyItem 47 = .ok (.ifCond .eq 18, 3) := by decide +kernel
theorem dX4_strikeByOnlyItem_50 : decode cX4_strikeByOnlyItem 50 = .ok (.aload_n 0, 1) := by decide +kernel
theorem dX4_strikeByOnlyItem_51 : decode cX4_strikeByOnlyItem 51 = .ok (.iconst 2, 1) := by decide +kernel
theorem dX4_strikeByOnlyItem_52 : decode cX4_strikeByOnlyItem 52 = .ok (.bipush (-6), 2) := by decide +kernel
theorem dX4_strikeByOnlyItem_54 : decode cX4_strikeByOnlyItem 54 = .ok (.iload_n 3, 1) := by decide +kernel
theorem dX4_strikeByOnlyItem_55 : decode cX4_strikeByOnlyItem 55 = .ok (.iload 4, 2) := by decide +kernel
theorem dX4_strikeByOnlyItem_57 : decode cX4_strikeByOnlyItem 57 = .ok (.invokestatic 64, 3) := by decide +kernel
theorem dX4_strikeByOnlyItem_60 : decode cX4_strikeByOnlyItem 60 = .ok (.invokevirtual 67, 3) := by decide +kernel
theorem dX4_strikeByOnlyItem_63 : decode cX4_strikeByOnlyItem 63 = .ok (.iconst 1, 1) := by decide +kernel
theorem dX4_strikeByOnlyItem_64 : decode cX4_strikeByOnlyItem 64 = .ok (.ireturn, 1) := by decide +kernel
theorem dX4_strikeByOnlyItem_65 : decode cX4_strikeByOnlyItem 65 = .ok (.iinc 2 1, 3) := by decide +kernel
theorem dX4_strikeByOnlyItem_68 : decode cX4_strikeByOnlyItem 68 = .ok (.goto (-59), 3) := by decide +kernel
theorem dX4_strikeByOnlyItem_71 : decode cX4_strikeByOnlyItem 71 = .ok (.iinc 1 1, 3) := by decide +kernel
theorem dX4_strikeByOnlyItem_74 : decode cX4_strikeByOnlyItem 74 = .ok (.goto (-72), 3) := by decide +kernel
theorem dX4_strikeByOnlyItem_77 : decode cX4_strikeByOnlyItem 77 = .ok (.iconst 0, 1) := by decide +kernel
theorem dX4_strikeByOnlyItem_78 : decode cX4_strikeByOnlyItem 78 = .ok (.ireturn, 1) := by decide +kernel
set_option maxRecDepth 20000 in
theorem ggX4_onlyItemWith_X6_isIn : GoodIn wsX4_onlyItemWith wsX6_isIn := goodIn_r _ [4] (by decide +kernel) (by decide +kernel)
set_option maxRecDepth 20000 in
theorem gX4_onlyItemWith_X6_isIn_n98 : GoodIn wsX4_onlyItemWith (wsX6_isIn) := ggX4_onlyItemWith_X6_isIn
theorem dX4_onlyItemWith_0 : decode cX4_onlyItemWith 0 = .ok (.bipush (-6), 2) := by decide +kernel
theorem dX4_onlyItemWith_2 : decode cX4_onlyItemWith 2 = .ok (.istore_n 3, 1) := by decide +kernel
theorem dX4_onlyItemWith_3 : decode cX4_onlyItemWith 3 = .ok (.iconst 4, 1) := by decide +kernel
theorem dX4_onlyItemWith_4 : decode cX4_onlyItemWith 4 = .ok (.iload_n 1, 1) := by decide +kernel
theorem dX4_onlyItemWith_5 : decode cX4_onlyItemWith 5 = .ok (.imul, 1) := by decide +kernel
theorem dX4_onlyItemWith_6 : decode cX4_onlyItemWith 6 = .ok (.istore 4, 2) := by decide +kernel
theorem dX4_onlyItemWith_8 : decode cX4_onlyItemWith 8 = .ok (.iload 4, 2) := by decide +kernel
theorem dX4_onlyItemWith_10 : decode cX4_onlyItemWith 10 = .ok (.iconst 4, 1) := by decide +kernel
theorem dX4_onlyItemWith_11 : decode cX4_onlyItemWith 11 = .ok (.iload_n 1, 1) := by decide +kernel
theorem dX4_onlyItemWith_12 : decode cX4_onlyItemWith 12 = .ok (.imul, 1) := by decide +kernel
theorem dX4_onlyItemWith_13 : decode cX4_onlyItemWith 13 = .ok (.iconst 4, 1) := by decide +kernel
theorem dX4_onlyItemWith_14 : decode cX4_onlyItemWith 14 = .ok (.iadd, 1) := by decide +kernel
theorem dX4_onlyItemWith_15 : decode cX4_onlyItemWith 15 = .ok (.if_icmp .ge 35, 3) := by decide +kernel
theorem dX4_onlyItemWith_18 : decode cX4_onlyItemWith 18 = .ok (.aload_n 0, 1) := by decide +kernel
theorem dX4_onlyItemWith_19 : decode cX4_onlyItemWith 19 = .ok (.getfield 9, 3) := by decide +kernel
theorem dX4_onlyItemWith_22 : decode cX4_onlyItemWith 22 = .ok (.iload 4, 2) := by decide +kernel
theorem dX4_onlyItemWith_24 : decode cX4_onlyItemWith 24 = .ok (.iaload, 1) := by decide +kernel
theorem dX4_onlyItemWith_25 : decode cX4_onlyItemWith 25 = .ok (.iload_n 2, 1) := by decide +kernel
theorem dX4_onlyItemWith_26 : decode cX4_onlyItemWith 26 = .ok (.invokestatic 98, 3) := by decide +kernel
theorem dX4_onlyItemWith_29 : decode cX4_onlyItemWith 29 = .ok (.ifCond .eq 15, 3) := by decide +kernel
theorem dX4_onlyItemWith_32 : decode cX4_onlyItemWith 32 = .ok (.iload_n 3, 1) := by decide +kernel
theorem dX4_onlyItemWith_33 : decode cX4_onlyItemWith 33 = .ok (.bipush (-6), 2) := by decide +kernel
theorem dX4_onlyItemWith_35 : decode cX4_onlyItemWith 35 = .ok (.if_icmp .eq 6, 3) := by decide +kernel
theorem dX4_onlyItemWith_38 : decode cX4_onlyItemWith 38 = .ok (.bipush (-6), 2) := by decide +kernel
theorem dX4_onlyItemWith_40 : decode cX4_onlyItemWith 40 = .ok (.ireturn, 1) := by decide +kernel
theorem dX4_onlyItemWith_41 : decode cX4_onlyItemWith 41 = .ok (.iload 4, 2) := by decide +kernel
theorem dX4_onlyItemWith_43 : decode cX4_onlyItemWith 43 = .ok (.istore_n 3, 1) := by decide +kernel
theorem dX4_onlyItemWith_44 : decode cX4_onlyItemWith 44 = .ok (.iinc 4 1, 3) := by decide +kernel
theorem dX4_onlyItemWith_47 : decode cX4_onlyItemWith 47 = .ok (.goto (-39), 3) := by decide +kernel
theorem dX4_onlyItemWith_50 : decode cX4_onlyItemWith 50 = .ok (.iload_n 3, 1) := by decide +kernel
theorem dX4_onlyItemWith_51 : decode cX4_onlyItemWith 51 = .ok (.ireturn, 1) := by decide +kernel
set_option maxRecDepth 20000 in
theorem ggX4_firstOf_J6_numberOfTrailingZeros_0f7a4 : GoodIn wsX4_firstOf wsJ6_numberOfTrailingZeros_0f7a4 := goodIn_r _ [4, 5] (by decide +kernel) (by decide +kernel)
set_option maxRecDepth 20000 in
theorem gX4_firstOf_J6_numberOfTrailingZeros_0f7a4 : GoodIn wsX4_firstOf (va_wsS RX4 102 yJ6_numberOfTrailingZeros_0f7a4 wsJ6_numberOfTrailingZeros_0f7a4) := goodIn_app (goodIn_of _ (by decide +kernel)) ggX4_firstOf_J6_numberOfTrailingZeros_0f7a4
theorem dX4_firstOf_0 : decode cX4_firstOf 0 = .ok (.iload_n 0, 1) := by decide +kernel
theorem dX4_firstOf_1 : decode cX4_firstOf 1 = .ok (.invokestatic 102, 3) := by decide +kernel
theorem dX4_firstOf_4 : decode cX4_firstOf 4 = .ok (.ireturn, 1) := by decide +kernel
theorem dX4_leftBehind_0 : decode cX4_leftBehind 0 = .ok (.bipush 30, 2) := by decide +kernel
theorem dX4_leftBehind_2 : decode cX4_leftBehind 2 = .ok (.istore_n 3, 1) := by decide +kernel
theorem dX4_leftBehind_3 : decode cX4_leftBehind 3 = .ok (.iload_n 2, 1) := by decide +kernel
theorem dX4_leftBehind_4 : decode cX4_leftBehind 4 = .ok (.aload_n 0, 1) := by decide +kernel
theorem dX4_leftBehind_5 : decode cX4_leftBehind 5 = .ok (.getfield 18, 3) := by decide +kernel
theorem dX4_leftBehind_8 : decode cX4_leftBehind 8 = .ok (.invokestatic 105, 3) := by decide +kernel
theorem dX4_leftBehind_11 : decode cX4_leftBehind 11 = .ok (.istore 4, 2) := by decide +kernel
theorem dX4_leftBehind_13 : decode cX4_leftBehind 13 = .ok (.iconst 0, 1) := by decide +kernel
theorem dX4_leftBehind_14 : decode cX4_leftBehind 14 = .ok (.istore 5, 2) := by decide +kernel
theorem dX4_leftBehind_16 : decode cX4_leftBehind 16 = .ok (.iload 5, 2) := by decide +kernel
theorem dX4_leftBehind_18 : decode cX4_leftBehind 18 = .ok (.iload 4, 2) := by decide +kernel
theorem dX4_leftBehind_20 : decode cX4_leftBehind 20 = .ok (.if_icmp .ge 42, 3) := by decide +kernel
theorem dX4_leftBehind_23 : decode cX4_leftBehind 23 = .ok (.aload_n 0, 1) := by decide +kernel
theorem dX4_leftBehind_24 : decode cX4_leftBehind 24 = .ok (.getfield 15, 3) := by decide +kernel
theorem dX4_leftBehind_27 : decode cX4_leftBehind 27 = .ok (.iconst 4, 1) := by decide +kernel
theorem dX4_leftBehind_28 : decode cX4_leftBehind 28 = .ok (.iload 5, 2) := by decide +kernel
theorem dX4_leftBehind_30 : decode cX4_leftBehind 30 = .ok (.imul, 1) := by decide +kernel
theorem dX4_leftBehind_31 : decode cX4_leftBehind 31 = .ok (.iconst 2, 1) := by decide +kernel
theorem dX4_leftBehind_32 : decode cX4_leftBehind 32 = .ok (.iadd, 1) := by decide +kernel
theorem dX4_leftBehind_33 : decode cX4_leftBehind 33 = .ok (.iaload, 1) := by decide +kernel
theorem dX4_leftBehind_34 : decode cX4_leftBehind 34 = .ok (.iload_n 1, 1) := by decide +kernel
theorem dX4_leftBehind_35 : decode cX4_leftBehind 35 = .ok (.if_icmp .ne 21, 3) := by decide +kernel
theorem dX4_leftBehind_38 : decode cX4_leftBehind 38 = .ok (.iload_n 3, 1) := by decide +kernel
theorem dX4_leftBehind_39 : decode cX4_leftBehind 39 = .ok (.iconst 1, 1) := by decide +kernel
theorem dX4_leftBehind_40 : decode cX4_leftBehind 40 = .ok (.aload_n 0, 1) := by decide +kernel
theorem dX4_leftBehind_41 : decode cX4_leftBehind 41 = .ok (.getfield 15, 3) := by decide +kernel
theorem dX4_leftBehind_44 : decode cX4_leftBehind 44 = .ok (.iconst 4, 1) := by decide +kernel
theorem dX4_leftBehind_45 : decode cX4_leftBehind 45 = .ok (.iload 5, 2) := by decide +kernel
theorem dX4_leftBehind_47 : decode cX4_leftBehind 47 = .ok (.imul, 1) := by decide +kernel
theorem dX4_leftBehind_48 : decode cX4_leftBehind 48 = .ok (.iconst 3, 1) := by decide +kernel
theorem dX4_leftBehind_49 : decode cX4_leftBehind 49 = .ok (.iadd, 1) := by decide +kernel
theorem dX4_leftBehind_50 : decode cX4_leftBehind 50 = .ok (.iaload, 1) := by decide +kernel
theorem dX4_leftBehind_51 : decode cX4_leftBehind 51 = .ok (.ishl, 1) := by decide +kernel
theorem dX4_leftBehind_52 : decode cX4_leftBehind 52 = .ok (.iconst (-1), 1) := by decide +kernel
theorem dX4_leftBehind_53 : decode cX4_leftBehind 53 = .ok (.ixor, 1) := by decide +kernel
theorem dX4_leftBehind_54 : decode cX4_leftBehind 54 = .ok (.iand, 1) := by decide +kernel
theorem dX4_leftBehind_55 : decode cX4_leftBehind 55 = .ok (.istore_n 3, 1) := by decide +kernel
theorem dX4_leftBehind_56 : decode cX4_leftBehind 56 = .ok (.iinc 5 1, 3) := by decide +kernel
theorem dX4_leftBehind_59 : decode cX4_leftBehind 59 = .ok (.goto (-43), 3) := by decide +kernel
theorem dX4_leftBehind_62 : decode cX4_leftBehind 62 = .ok (.iload_n 3, 1) := by decide +kernel
theorem dX4_leftBehind_63 : decode cX4_leftBehind 63 = .ok (.ireturn, 1) := by decide +kernel
set_option maxRecDepth 20000 in
theorem ggX4_howItEnds_J6_bitCount_0f7a4 : GoodIn wsX4_howItEnds wsJ6_bitCount_0f7a4 := goodIn_r _ [5, 6, 7, 8] (by decide +kernel) (by decide +kernel)
set_option maxRecDepth 20000 in
theorem gX4_howItEnds_J6_bitCount_0f7a4 : GoodIn wsX4_howItEnds (va_wsS RX4 80 yJ6_bitCount_0f7a4 wsJ6_bitCount_0f7a4) := goodIn_app (goodIn_of _ (by decide +kernel)) ggX4_howItEnds_J6_bitCount_0f7a4
theorem dX4_howItEnds_0 : decode cX4_howItEnds 0 = .ok (.iconst 0, 1) := by decide +kernel
theorem dX4_howItEnds_1 : decode cX4_howItEnds 1 = .ok (.istore_n 1, 1) := by decide +kernel
theorem dX4_howItEnds_2 : decode cX4_howItEnds 2 = .ok (.iconst 0, 1) := by decide +kernel
theorem dX4_howItEnds_3 : decode cX4_howItEnds 3 = .ok (.istore_n 2, 1) := by decide +kernel
theorem dX4_howItEnds_4 : decode cX4_howItEnds 4 = .ok (.iload_n 2, 1) := by decide +kernel
theorem dX4_howItEnds_5 : decode cX4_howItEnds 5 = .ok (.bipush 16, 2) := by decide +kernel
theorem dX4_howItEnds_7 : decode cX4_howItEnds 7 = .ok (.if_icmp .ge 35, 3) := by decide +kernel
theorem dX4_howItEnds_10 : decode cX4_howItEnds 10 = .ok (.aload_n 0, 1) := by decide +kernel
theorem dX4_howItEnds_11 : decode cX4_howItEnds 11 = .ok (.getfield 9, 3) := by decide +kernel
theorem dX4_howItEnds_14 : decode cX4_howItEnds 14 = .ok (.iload_n 2, 1) := by decide +kernel
theorem dX4_howItEnds_15 : decode cX4_howItEnds 15 = .ok (.iaload, 1) := by decide +kernel
theorem dX4_howItEnds_16 : decode cX4_howItEnds 16 = .ok (.ifCond .ne 5, 3) := by decide +kernel
theorem dX4_howItEnds_19 : decode cX4_howItEnds 19 = .ok (.iconst 2, 1) := by decide +kernel
theorem dX4_howItEnds_20 : decode cX4_howItEnds 20 = .ok (.ireturn, 1) := by decide +kernel
theorem dX4_howItEnds_21 : decode cX4_howItEnds 21 = .ok (.aload_n 0, 1) := by decide +kernel
theorem dX4_howItEnds_22 : decode cX4_howItEnds 22 = .ok (.getfield 9, 3) := by decide +kernel
theorem dX4_howItEnds_25 : decode cX4_howItEnds 25 = .ok (.iload_n 2, 1) := by decide +kernel
theorem dX4_howItEnds_26 : decode cX4_howItEnds 26 = .ok (.iaload, 1) := by decide +kernel
theorem dX4_howItEnds_27 : decode cX4_howItEnds 27 = .ok (.invokestatic 80, 3) := by decide +kernel
theorem dX4_howItEnds_30 : decode cX4_howItEnds 30 = .ok (.iconst 1, 1) := by decide +kernel
theorem dX4_howItEnds_31 : decode cX4_howItEnds 31 = .ok (.if_icmp .le 5, 3) := by decide +kernel
theorem dX4_howItEnds_34 : decode cX4_howItEnds 34 = .ok (.iconst 1, 1) := by decide +kernel
theorem dX4_howItEnds_35 : decode cX4_howItEnds 35 = .ok (.istore_n 1, 1) := by decide +kernel
theorem dX4_howItEnds_36 : decode cX4_howItEnds 36 = .ok (.iinc 2 1, 3) := by decide +kernel
theorem dX4_howItEnds_39 : decode cX4_howItEnds 39 = .ok (.goto (-35), 3) := by decide +kernel
theorem dX4_howItEnds_42 : decode cX4_howItEnds 42 = .ok (.iload_n 1, 1) := by decide +kernel
theorem dX4_howItEnds_43 : decode cX4_howItEnds 43 = .ok (.ireturn, 1) := by decide +kernel
theorem dX5_init_0 : decode cX5_init 0 = .ok (.aload_n 0, 1) := by decide +kernel
theorem dX5_init_1 : decode cX5_init 1 = .ok (.invokespecial 3, 3) := by decide +kernel
theorem dX5_init_4 : decode cX5_init 4 = .ok (.aload_n 0, 1) := by decide +kernel
theorem dX5_init_5 : decode cX5_init 5 = .ok (.bipush 10, 2) := by decide +kernel
theorem dX5_init_7 : decode cX5_init 7 = .ok (.newarray .int, 2) := by decide +kernel
theorem dX5_init_9 : decode cX5_init 9 = .ok (.putfield 9, 3) := by decide +kernel
theorem dX5_init_12 : decode cX5_init 12 = .ok (.aload_n 0, 1) := by decide +kernel
theorem dX5_init_13 : decode cX5_init 13 = .ok (.iconst 0, 1) := by decide +kernel
theorem dX5_init_14 : decode cX5_init 14 = .ok (.putfield 15, 3) := by decide +kernel
theorem dX5_init_17 : decode cX5_init 17 = .ok (.return_, 1) := by decide +kernel
theorem dX5_add_0 : decode cX5_add 0 = .ok (.aload_n 0, 1) := by decide +kernel
theorem dX5_add_1 : decode cX5_add 1 = .ok (.getfield 15, 3) := by decide +kernel
theorem dX5_add_4 : decode cX5_add 4 = .ok (.bipush 10, 2) := by decide +kernel
theorem dX5_add_6 : decode cX5_add 6 = .ok (.if_icmp .ge 23, 3) := by decide +kernel
theorem dX5_add_9 : decode cX5_add 9 = .ok (.aload_n 0, 1) := by decide +kernel
theorem dX5_add_10 : decode cX5_add 10 = .ok (.getfield 9, 3) := by decide +kernel
theorem dX5_add_13 : decode cX5_add 13 = .ok (.aload_n 0, 1) := by decide +kernel
theorem dX5_add_14 : decode cX5_add 14 = .ok (.getfield 15, 3) := by decide +kernel
theorem dX5_add_17 : decode cX5_add 17 = .ok (.iload_n 1, 1) := by decide +kernel
theorem dX5_add_18 : decode cX5_add 18 = .ok (.iastore, 1) := by decide +kernel
theorem dX5_add_19 : decode cX5_add 19 = .ok (.aload_n 0, 1) := by decide +kernel
theorem dX5_add_20 : decode cX5_add 20 = .ok (.dup, 1) := by decide +kernel
theorem dX5_add_21 : decode cX5_add 21 = .ok (.getfield 15, 3) := by decide +kernel
theorem dX5_add_24 : decode cX5_add 24 = .ok (.iconst 1, 1) := by decide +kernel
theorem dX5_add_25 : decode cX5_add 25 = .ok (.iadd, 1) := by decide +kernel
theorem dX5_add_26 : decode cX5_add 26 = .ok (.putfield 15, 3) := by decide +kernel
theorem dX5_add_29 : decode cX5_add 29 = .ok (.return_, 1) := by decide +kernel
set_option maxRecDepth 20000 in
theorem ggX5_faultPlace_X5_canStand : GoodIn wsX5_faultPlace wsX5_canStand := goodIn_r _ [6, 7, 8, 9, 5, 10, 11, 12, 13, 14, 15, 16, 21, 22] (by decide +kernel) (by decide +kernel)
set_option maxRecDepth 20000 in
theorem gX5_faultPlace_X5_canStand : GoodIn wsX5_faultPlace (wsV RX5 19 RX5 yX5_canStand wsX5_canStand) := goodIn_app (goodIn_of _ (by decide +kernel)) ggX5_faultPlace_X5_canStand
set_option maxRecDepth 20000 in
theorem ggX5_faultPlace_X5_isWhole : GoodIn wsX5_faultPlace wsX5_isWhole := goodIn_r _ [20, 1, 7, 21, 22] (by decide +kernel) (by decide +kernel)
set_option maxRecDepth 20000 in
theorem gX5_faultPlace_X5_isWhole : GoodIn wsX5_faultPlace (wsV RX5 23 RX5 yX5_isWhole wsX5_isWhole) := goodIn_app (goodIn_of _ (by decide +kernel)) ggX5_faultPlace_X5_isWhole
theorem dX5_faultPlace_0 : decode cX5_faultPlace 0 = .ok (.iconst 0, 1) := by decide +kernel
theorem dX5_faultPlace_1 : decode cX5_faultPlace 1 = .ok (.istore_n 1, 1) := by decide +kernel
theorem dX5_faultPlace_2 : decode cX5_faultPlace 2 = .ok (.iload_n 1, 1) := by decide +kernel
theorem dX5_faultPlace_3 : decode cX5_faultPlace 3 = .ok (.aload_n 0, 1) := by decide +kernel
theorem dX5_faultPlace_4 : decode cX5_faultPlace 4 = .ok (.getfield 15, 3) := by decide +kernel
theorem dX5_faultPlace_7 : decode cX5_faultPlace 7 = .ok (.if_icmp .ge 19, 3) := by decide +kernel
theorem dX5_faultPlace_10 : decode cX5_faultPlace 10 = .ok (.aload_n 0, 1) := by decide +kernel
theorem dX5_faultPlace_11 : decode cX5_faultPlace 11 = .ok (.iload_n 1, 1) := by decide +kernel
theorem dX5_faultPlace_12 : decode cX5_faultPlace 12 = .ok (.invokevirtual 19, 3) := by decide +kernel
theorem dX5_faultPlace_15 : decode cX5_faultPlace 15 = .ok (.ifCond .ne 5, 3) := by decide +kernel
theorem dX5_faultPlace_18 : decode cX5_faultPlace 18 = .ok (.iload_n 1, 1) := by decide +kernel
theorem dX5_faultPlace_19 : decode cX5_faultPlace 19 = .ok (.ireturn, 1) := by decide +kernel
theorem dX5_faultPlace_20 : decode cX5_faultPlace 20 = .ok (.iinc 1 1, 3) := by decide +kernel
theorem dX5_faultPlace_23 : decode cX5_faultPlace 23 = .ok (.goto (-21), 3) := by decide +kernel
theorem dX5_faultPlace_26 : decode cX5_faultPlace 26 = .ok (.aload_n 0, 1) := by decide +kernel
theorem dX5_faultPlace_27 : decode cX5_faultPlace 27 = .ok (.invokevirtual 23, 3) := by decide +kernel
theorem dX5_faultPlace_30 : decode cX5_faultPlace 30 = .ok (.ifCond .eq 8, 3) := by decide +kernel
theorem dX5_faultPlace_33 : decode cX5_faultPlace 33 = .ok (.bipush (-6), 2) := by decide +kernel
theorem dX5_faultPlace_35 : decode cX5_faultPlace 35 = .ok (.goto 7, 3) := by decide +kernel
theorem dX5_faultPlace_38 : decode cX5_faultPlace 38 = .ok (.aload_n 0, 1) := by decide +kernel
theorem dX5_faultPlace_39 : decode cX5_faultPlace 39 = .ok (.getfield 15, 3) := by decide +kernel
theorem dX5_faultPlace_42 : decode cX5_faultPlace 42 = .ok (.ireturn, 1) := by decide +kernel
set_option maxRecDepth 20000 in
theorem ggX5_canStand_X5_isLetter : GoodIn wsX5_canStand wsX5_isLetter := goodIn_r _ [5] (by decide +kernel) (by decide +kernel)
set_option maxRecDepth 20000 in
theorem gX5_canStand_X5_isLetter : GoodIn wsX5_canStand (va_wsS RX5 27 yX5_isLetter wsX5_isLetter) := goodIn_app (goodIn_of _ (by decide +kernel)) ggX5_canStand_X5_isLetter
set_option maxRecDepth 20000 in
theorem ggX5_canStand_X5_isFigure : GoodIn wsX5_canStand wsX5_isFigure := goodIn_r _ [8] (by decide +kernel) (by decide +kernel)
set_option maxRecDepth 20000 in
theorem gX5_canStand_X5_isFigure : GoodIn wsX5_canStand (va_wsS RX5 30 yX5_isFigure wsX5_isFigure) := goodIn_app (goodIn_of _ (by decide +kernel)) ggX5_canStand_X5_isFigure
set_option maxRecDepth 20000 in
theorem ggX5_canStand_X5_kindOf : GoodIn wsX5_canStand wsX5_kindOf := goodIn_r _ [11] (by decide +kernel) (by decide +kernel)
set_option maxRecDepth 20000 in
theorem gX5_canStand_X5_kindOf : GoodIn wsX5_canStand (va_wsS RX5 33 yX5_kindOf wsX5_kindOf) := goodIn_app (goodIn_of _ (by decide +kernel)) ggX5_canStand_X5_kindOf
theorem dX5_canStand_0 : decode cX5_canStand 0 = .ok (.aload_n 0, 1) := by decide +kernel
theorem dX5_canStand_1 : decode cX5_canStand 1 = .ok (.getfield 9, 3) := by decide +kernel
theorem dX5_canStand_4 : decode cX5_canStand 4 = .ok (.iload_n 1, 1) := by decide +kernel
theorem dX5_canStand_5 : decode cX5_canStand 5 = .ok (.iaload, 1) := by decide +kernel
theorem dX5_canStand_6 : decode cX5_canStand 6 = .ok (.istore_n 2, 1) := by decide +kernel
theorem dX5_canStand_7 : decode cX5_canStand 7 = .ok (.iload_n 1, 1) := by decide +kernel
theorem dX5_canStand_8 : decode cX5_canStand 8 = .ok (.tableswitch 143 0 7 #[48, 53, 58, 73, 96, 120, 48, 53], 48) := by decide +kernel
theorem dX5_canStand_56 : decode cX5_canStand 56 = .ok (.iload_n 2, 1) := by decide +kernel
theorem dX5_canStand_57 : decode cX5_canStand 57 = .ok (.invokestatic 27, 3) := by decide +kernel
theorem dX5_canStand_60 : decode cX5_canStand 60 = .ok (.ireturn, 1) := by decide +kernel
theorem dX5_canStand_61 : decode cX5_canStand 61 = .ok (.iload_n 2, 1) := by decide +kernel
theorem dX5_canStand_62 : decode cX5_canStand 62 = .ok (.invokestatic 30, 3) := by decide +kernel
theorem dX5_canStand_65 : decode cX5_canStand 65 = .ok (.ireturn, 1) := by decide +kernel
theorem dX5_canStand_66 : decode cX5_canStand 66 = .ok (.iload_n 2, 1) := by decide +kernel
theorem dX5_canStand_67 : decode cX5_canStand 67 = .ok (.invokestatic 33, 3) := by decide +kernel
theorem dX5_canStand_70 : decode cX5_canStand 70 = .ok (.bipush (-6), 2) := by decide +kernel
theorem dX5_canStand_72 : decode cX5_canStand 72 = .ok (.if_icmp .eq 7, 3) := by decide +kernel
theorem dX5_canStand_75 : decode cX5_canStand 75 = .ok (.iconst 1, 1) := by decide +kernel
theorem dX5_canStand_76 : decode cX5_canStand 76 = .ok (.goto 4, 3) := by decide +kernel
theorem dX5_canStand_79 : decode cX5_canStand 79 = .ok (.iconst 0, 1) := by decide +kernel
theorem dX5_canStand_80 : decode cX5_canStand 80 = .ok (.ireturn, 1) := by decide +kernel
theorem dX5_canStand_81 : decode cX5_canStand 81 = .ok (.aload_n 0, 1) := by decide +kernel
theorem dX5_canStand_82 : decode cX5_canStand 82 = .ok (.getfield 9, 3) := by decide +kernel
theorem dX5_canStand_85 : decode cX5_canStand 85 = .ok (.iconst 2, 1) := by decide +kernel
theorem dX5_canStand_86 : decode cX5_canStand 86 = .ok (.iaload, 1) := by decide +kernel
theorem dX5_canStand_87 : decode cX5_canStand 87 = .ok (.bipush 64, 2) := by decide +kernel
theorem dX5_canStand_89 : decode cX5_canStand 89 = .ok (.if_icmp .ne 10, 3) := by decide +kernel
theorem dX5_canStand_92 : decode cX5_canStand 92 = .ok (.iload_n 2, 1) := by decide +kernel
theorem dX5_canStand_93 : decode cX5_canStand 93 = .ok (.invokestatic 30, 3) := by decide +kernel
theorem dX5_canStand_96 : decode cX5_canStand 96 = .ok (.goto 7, 3) := by decide +kernel
theorem dX5_canStand_99 : decode cX5_canStand 99 = .ok (.iload_n 2, 1) := by decide +kernel
theorem dX5_canStand_100 : decode cX5_canStand 100 = .ok (.invokestatic 27, 3) := by decide +kernel
theorem dX5_canStand_103 : decode cX5_canStand 103 = .ok (.ireturn, 1) := by decide +kernel
theorem dX5_canStand_104 : decode cX5_canStand 104 = .ok (.aload_n 0, 1) := by decide +kernel
theorem dX5_canStand_105 : decode cX5_canStand 105 = .ok (.getfield 9, 3) := by decide +kernel
theorem dX5_canStand_108 : decode cX5_canStand 108 = .ok (.iconst 2, 1) := by decide +kernel
theorem dX5_canStand_109 : decode cX5_canStand 109 = .ok (.iaload, 1) := by decide +kernel
theorem dX5_canStand_110 : decode cX5_canStand 110 = .ok (.bipush 64, 2) := by decide +kernel
theorem dX5_canStand_112 : decode cX5_canStand 112 = .ok (.if_icmp .eq 14, 3) := by decide +kernel
theorem dX5_canStand_115 : decode cX5_canStand 115 = .ok (.iload_n 2, 1) := by decide +kernel
theorem dX5_canStand_116 : decode cX5_canStand 116 = .ok (.invokestatic 30, 3) := by decide +kernel
theorem dX5_canStand_119 : decode cX5_canStand 119 = .ok (.ifCond .eq 7, 3) := by decide +kernel
theorem dX5_canStand_122 : decode cX5_canStand 122 = .ok (.iconst 1, 1) := by decide +kernel
theorem dX5_canStand_123 : decode cX5_canStand 123 = .ok (.goto 4, 3) := by decide +kernel
theorem dX5_canStand_126 : decode cX5_canStand 126 = .ok (.iconst 0, 1) := by decide +kernel
theorem dX5_canStand_127 : decode cX5_canStand 127 = .ok (.ireturn, 1) := by decide +kernel
theorem dX5_canStand_128 : decode cX5_canStand 128 = .ok (.aload_n 0, 1) := by decide +kernel
theorem dX5_canStand_129 : decode cX5_canStand 129 = .ok (.getfield 9, 3) := by decide +kernel
theorem dX5_canStand_132 : decode cX5_canStand 132 = .ok (.iconst 2, 1) := by decide +kernel
theorem dX5_canStand_133 : decode cX5_canStand 133 = .ok (.iaload, 1) := by decide +kernel
theorem dX5_canStand_134 : decode cX5_canStand 134 = .ok (.bipush 61, 2) := by decide +kernel
theorem dX5_canStand_136 : decode cX5_canStand 136 = .ok (.if_icmp .ne 13, 3) := by decide +kernel
theorem dX5_canStand_139 : decode cX5_canStand 139 = .ok (.iload_n 2, 1) := by decide +kernel
theorem dX5_canStand_140 : decode cX5_canStand 140 = .ok (.bipush 124, 2) := by decide +kernel
theorem dX5_canStand_142 : decode cX5_canStand 142 = .ok (.if_icmp .ne 7, 3) := by decide +kernel
theorem dX5_canStand_145 : decode cX5_canStand 145 = .ok (.iconst 1, 1) := by decide +kernel
theorem dX5_canStand_146 : decode cX5_canStand 146 = .ok (.goto 4, 3) := by decide +kernel
theorem dX5_canStand_149 : decode cX5_canStand 149 = .ok (.iconst 0, 1) := by decide +kernel
theorem dX5_canStand_150 : decode cX5_canStand 150 = .ok (.ireturn, 1) := by decide +kernel
theorem dX5_canStand_151 : decode cX5_canStand 151 = .ok (.iconst 0, 1) := by decide +kernel
theorem dX5_canStand_152 : decode cX5_canStand 152 = .ok (.ireturn, 1) := by decide +kernel
theorem dX5_isWhole_0 : decode cX5_isWhole 0 = .ok (.aload_n 0, 1) := by decide +kernel
theorem dX5_isWhole_1 : decode cX5_isWhole 1 = .ok (.getfield 15, 3) := by decide +kernel
theorem dX5_isWhole_4 : decode cX5_isWhole 4 = .ok (.iconst 4, 1) := by decide +kernel
theorem dX5_isWhole_5 : decode cX5_isWhole 5 = .ok (.if_icmp .ge 5, 3) := by decide +kernel
theorem dX5_isWhole_8 : decode cX5_isWhole 8 = .ok (.iconst 0, 1) := by decide +kernel
theorem dX5_isWhole_9 : decode cX5_isWhole 9 = .ok (.ireturn, 1) := by decide +kernel
theorem dX5_isWhole_10 : decode cX5_isWhole 10 = .ok (.aload_n 0, 1) := by decide +kernel
theorem dX5_isWhole_11 : decode cX5_isWhole 11 = .ok (.getfield 9, 3) := by decide +kernel
theorem dX5_isWhole_14 : decode cX5_isWhole 14 = .ok (.iconst 2, 1) := by decide +kernel
theorem dX5_isWhole_15 : decode cX5_isWhole 15 = .ok (.iaload, 1) := by decide +kernel
theorem dX5_isWhole_16 : decode cX5_isWhole 16 = .ok (.bipush 64, 2) := by decide +kernel
theorem dX5_isWhole_18 : decode cX5_isWhole 18 = .ok (.if_icmp .eq 20, 3) := by decide +kernel
theorem dX5_isWhole_21 : decode cX5_isWhole 21 = .ok (.aload_n 0, 1) := by decide +kernel
theorem dX5_isWhole_22 : decode cX5_isWhole 22 = .ok (.getfield 15, 3) := by decide +kernel
theorem dX5_isWhole_25 : decode cX5_isWhole 25 = .ok (.iconst 5, 1) := by decide +kernel
theorem dX5_isWhole_26 : decode cX5_isWhole 26 = .ok (.if_icmp .eq 12, 3) := by decide +kernel
theorem dX5_isWhole_29 : decode cX5_isWhole 29 = .ok (.aload_n 0, 1) := by decide +kernel
theorem dX5_isWhole_30 : decode cX5_isWhole 30 = .ok (.getfield 15, 3) := by decide +kernel
theorem dX5_isWhole_33 : decode cX5_isWhole 33 = .ok (.bipush 8, 2) := by decide +kernel
theorem dX5_isWhole_35 : decode cX5_isWhole 35 = .ok (.if_icmp .ne 7, 3) := by decide +kernel
theorem dX5_isWhole_38 : decode cX5_isWhole 38 = .ok (.iconst 1, 1) := by decide +kernel
theorem dX5_isWhole_39 : decode cX5_isWhole 39 = .ok (.goto 4, 3) := by decide +kernel
theorem dX5_isWhole_42 : decode cX5_isWhole 42 = .ok (.iconst 0, 1) := by decide +kernel
theorem dX5_isWhole_43 : decode cX5_isWhole 43 = .ok (.ireturn, 1) := by decide +kernel
set_option maxRecDepth 20000 in
theorem ggX5_repeatsAnItem_X5_itemAt : GoodIn wsX5_repeatsAnItem wsX5_itemAt := goodIn_r _ [7, 1, 8, 9] (by decide +kernel) (by decide +kernel)
set_option maxRecDepth 20000 in
theorem gX5_repeatsAnItem_X5_itemAt : GoodIn wsX5_repeatsAnItem (wsV RX5 37 RX5 yX5_itemAt wsX5_itemAt) := goodIn_app (goodIn_of _ (by decide +kernel)) ggX5_repeatsAnItem_X5_itemAt
theorem dX5_repeatsAnItem_0 : decode cX5_repeatsAnItem 0 = .ok (.aload_n 0, 1) := by decide +kernel
theorem dX5_repeatsAnItem_1 : decode cX5_repeatsAnItem 1 = .ok (.getfield 9, 3) := by decide +kernel
theorem dX5_repeatsAnItem_4 : decode cX5_repeatsAnItem 4 = .ok (.iconst 2, 1) := by decide +kernel
theorem dX5_repeatsAnItem_5 : decode cX5_repeatsAnItem 5 = .ok (.iaload, 1) := by decide +kernel
theorem dX5_repeatsAnItem_6 : decode cX5_repeatsAnItem 6 = .ok (.bipush 64, 2) := by decide +kernel
theorem dX5_repeatsAnItem_8 : decode cX5_repeatsAnItem 8 = .ok (.if_icmp .ne 5, 3) := by decide +kernel
theorem dX5_repeatsAnItem_11 : decode cX5_repeatsAnItem 11 = .ok (.iconst 0, 1) := by decide +kernel
theorem dX5_repeatsAnItem_12 : decode cX5_repeatsAnItem 12 = .ok (.ireturn, 1) := by decide +kernel
theorem dX5_repeatsAnItem_13 : decode cX5_repeatsAnItem 13 = .ok (.aload_n 0, 1) := by decide +kernel
theorem dX5_repeatsAnItem_14 : decode cX5_repeatsAnItem 14 = .ok (.iconst 0, 1) := by decide +kernel
theorem dX5_repeatsAnItem_15 : decode cX5_repeatsAnItem 15 = .ok (.invokevirtual 37, 3) := by decide +kernel
theorem dX5_repeatsAnItem_18 : decode cX5_repeatsAnItem 18 = .ok (.istore_n 1, 1) := by decide +kernel
theorem dX5_repeatsAnItem_19 : decode cX5_repeatsAnItem 19 = .ok (.aload_n 0, 1) := by decide +kernel
theorem dX5_repeatsAnItem_20 : decode cX5_repeatsAnItem 20 = .ok (.iconst 3, 1) := by decide +kernel
theorem dX5_repeatsAnItem_21 : decode cX5_repeatsAnItem 21 = .ok (.invokevirtual 37, 3) := by decide +kernel
theorem dX5_repeatsAnItem_24 : decode cX5_repeatsAnItem 24 = .ok (.istore_n 2, 1) := by decide +kernel
theorem dX5_repeatsAnItem_25 : decode cX5_repeatsAnItem 25 = .ok (.aload_n 0, 1) := by decide +kernel
theorem dX5_repeatsAnItem_26 : decode cX5_repeatsAnItem 26 = .ok (.getfield 15, 3) := by decide +kernel
theorem dX5_repeatsAnItem_29 : decode cX5_repeatsAnItem 29 = .ok (.bipush 8, 2) := by decide +kernel
theorem dX5_repeatsAnItem_31 : decode cX5_repeatsAnItem 31 = .ok (.if_icmp .ge 14, 3) := by decide +kernel
theorem dX5_repeatsAnItem_34 : decode cX5_repeatsAnItem 34 = .ok (.iload_n 1, 1) := by decide +kernel
theorem dX5_repeatsAnItem_35 : decode cX5_repeatsAnItem 35 = .ok (.iload_n 2, 1) := by decide +kernel
theorem dX5_repeatsAnItem_36 : decode cX5_repeatsAnItem 36 = .ok (.if_icmp .ne 7, 3) := by decide +kernel
theorem dX5_repeatsAnItem_39 : decode cX5_repeatsAnItem 39 = .ok (.iconst 1, 1) := by decide +kernel
theorem dX5_repeatsAnItem_40 : decode cX5_repeatsAnItem 40 = .ok (.goto 4, 3) := by decide +kernel
theorem dX5_repeatsAnItem_43 : decode cX5_repeatsAnItem 43 = .ok (.iconst 0, 1) := by decide +kernel
theorem dX5_repeatsAnItem_44 : decode cX5_repeatsAnItem 44 = .ok (.ireturn, 1) := by decide +kernel
theorem dX5_repeatsAnItem_45 : decode cX5_repeatsAnItem 45 = .ok (.aload_n 0, 1) := by decide +kernel
theorem dX5_repeatsAnItem_46 : decode cX5_repeatsAnItem 46 = .ok (.bipush 6, 2) := by decide +kernel
theorem dX5_repeatsAnItem_48 : decode cX5_repeatsAnItem 48 = .ok (.invokevirtual 37, 3) := by decide +kernel
theorem dX5_repeatsAnItem_51 : decode cX5_repeatsAnItem 51 = .ok (.istore_n 3, 1) := by decide +kernel
theorem dX5_repeatsAnItem_52 : decode cX5_repeatsAnItem 52 = .ok (.iload_n 1, 1) := by decide +kernel
theorem dX5_repeatsAnItem_53 : decode cX5_repeatsAnItem 53 = .ok (.iload_n 2, 1) := by decide +kernel
theorem dX5_repeatsAnItem_54 : decode cX5_repeatsAnItem 54 = .ok (.if_icmp .eq 13, 3) := by decide +kernel
theorem dX5_repeatsAnItem_57 : decode cX5_repeatsAnItem 57 = .ok (.iload_n 1, 1) := by decide +kernel
theorem dX5_repeatsAnItem_58 : decode cX5_repeatsAnItem 58 = .ok (.iload_n 3, 1) := by decide +kernel
theorem dX5_repeatsAnItem_59 : decode cX5_repeatsAnItem 59 = .ok (.if_icmp .eq 8, 3) := by decide +kernel
theorem dX5_repeatsAnItem_62 : decode cX5_repeatsAnItem 62 = .ok (.iload_n 2, 1) := by decide +kernel
theorem dX5_repeatsAnItem_63 : decode cX5_repeatsAnItem 63 = .ok (.iload_n 3, 1) := by decide +kernel
theorem dX5_repeatsAnItem_64 : decode cX5_repeatsAnItem 64 = .ok (.if_icmp .ne 7, 3) := by decide +kernel
theorem dX5_repeatsAnItem_67 : decode cX5_repeatsAnItem 67 = .ok (.iconst 1, 1) := by decide +kernel
theorem dX5_repeatsAnItem_68 : decode cX5_repeatsAnItem 68 = .ok (.goto 4, 3) := by decide +kernel
theorem dX5_repeatsAnItem_71 : decode cX5_repeatsAnItem 71 = .ok (.iconst 0, 1) := by decide +kernel
theorem dX5_repeatsAnItem_72 : decode cX5_repeatsAnItem 72 = .ok (.ireturn, 1) := by decide +kernel
set_option maxRecDepth 20000 in
theorem ggX5_toClue_X5_itemAt : GoodIn wsX5_toClue wsX5_itemAt := goodIn_r _ [7, 1, 69, 70] (by decide +kernel) (by decide +kernel)
set_option maxRecDepth 20000 in
theorem gX5_toClue_X5_itemAt : GoodIn wsX5_toClue (wsV RX5 37 RX5 yX5_itemAt wsX5_itemAt) := goodIn_app (goodIn_of _ (by decide +kernel)) ggX5_toClue_X5_itemAt
set_option maxRecDepth 20000 in
theorem ggX5_toClue_X1_of : GoodIn wsX5_toClue wsX1_of := goodIn_r _ [11, 12, 13, 10, 14, 15, 16, 17, 18, 19, 20, 21, 22, 23, 24, 25, 26, 27, 28, 29, 30, 31, 32, 33, 34, 35, 36, 37, 38, 39, 40, 41, 42, 43, 44, 45, 46, 47, 48, 49, 50, 51, 52, 53, 54, 55, 56, 57, 58, 59, 60, 61, 62, 63, 64, 65, 71, 72, 73, 74, 75, 76, 77, 78, 79] (by decide +kernel) (by decide +kernel)
set_option maxRecDepth 20000 in
theorem gX5_toClue_X1_of : GoodIn wsX5_toClue (va_wsS RX5 40 yX1_of wsX1_of) := goodIn_app (goodIn_of _ (by decide +kernel)) ggX5_toClue_X1_of
set_option maxRecDepth 20000 in
theorem ggX5_toClue_X5_kindOf : GoodIn wsX5_toClue wsX5_kindOf := goodIn_r _ [68] (by decide +kernel) (by decide +kernel)
set_option maxRecDepth 20000 in
theorem gX5_toClue_X5_kindOf : GoodIn wsX5_toClue (va_wsS RX5 33 yX5_kindOf wsX5_kindOf) := goodIn_app (goodIn_of _ (by decide +kernel)) ggX5_toClue_X5_kindOf
theorem dX5_toClue_0 : decode cX5_toClue 0 = .ok (.aload_n 0, 1) := by decide +kernel
theorem dX5_toClue_1 : decode cX5_toClue 1 = .ok (.iconst 0, 1) := by decide +kernel
theorem dX5_toClue_2 : decode cX5_toClue 2 = .ok (.invokevirtual 37, 3) := by decide +kernel
theorem dX5_toClue_5 : decode cX5_toClue 5 = .ok (.istore_n 1, 1) := by decide +kernel
theorem dX5_toClue_6 : decode cX5_toClue 6 = .ok (.aload_n 0, 1) := by decide +kernel
theorem dX5_toClue_7 : decode cX5_toClue 7 = .ok (.getfield 9, 3) := by decide +kernel
theorem dX5_toClue_10 : decode cX5_toClue 10 = .ok (.iconst 2, 1) := by decide +kernel
theorem dX5_toClue_11 : decode cX5_toClue 11 = .ok (.iaload, 1) := by decide +kernel
theorem dX5_toClue_12 : decode cX5_toClue 12 = .ok (.bipush 64, 2) := by decide +kernel
theorem dX5_toClue_14 : decode cX5_toClue 14 = .ok (.if_icmp .ne 22, 3) := by decide +kernel
theorem dX5_toClue_17 : decode cX5_toClue 17 = .ok (.iconst 5, 1) := by decide +kernel
theorem dX5_toClue_18 : decode cX5_toClue 18 = .ok (.iload_n 1, 1) := by decide +kernel
theorem dX5_toClue_19 : decode cX5_toClue 19 = .ok (.bipush (-6), 2) := by decide +kernel
theorem dX5_toClue_21 : decode cX5_toClue 21 = .ok (.bipush (-6), 2) := by decide +kernel
theorem dX5_toClue_23 : decode cX5_toClue 23 = .ok (.aload_n 0, 1) := by decide +kernel
theorem dX5_toClue_24 : decode cX5_toClue 24 = .ok (.getfield 9, 3) := by decide +kernel
theorem dX5_toClue_27 : decode cX5_toClue 27 = .ok (.iconst 3, 1) := by decide +kernel
theorem dX5_toClue_28 : decode cX5_toClue 28 = .ok (.iaload, 1) := by decide +kernel
theorem dX5_toClue_29 : decode cX5_toClue 29 = .ok (.bipush 48, 2) := by decide +kernel
theorem dX5_toClue_31 : decode cX5_toClue 31 = .ok (.isub, 1) := by decide +kernel
theorem dX5_toClue_32 : decode cX5_toClue 32 = .ok (.invokestatic 40, 3) := by decide +kernel
theorem dX5_toClue_35 : decode cX5_toClue 35 = .ok (.areturn, 1) := by decide +kernel
theorem dX5_toClue_36 : decode cX5_toClue 36 = .ok (.aload_n 0, 1) := by decide +kernel
theorem dX5_toClue_37 : decode cX5_toClue 37 = .ok (.iconst 3, 1) := by decide +kernel
theorem dX5_toClue_38 : decode cX5_toClue 38 = .ok (.invokevirtual 37, 3) := by decide +kernel
theorem dX5_toClue_41 : decode cX5_toClue 41 = .ok (.istore_n 2, 1) := by decide +kernel
theorem dX5_toClue_42 : decode cX5_toClue 42 = .ok (.aload_n 0, 1) := by decide +kernel
theorem dX5_toClue_43 : decode cX5_toClue 43 = .ok (.getfield 15, 3) := by decide +kernel
theorem dX5_toClue_46 : decode cX5_toClue 46 = .ok (.bipush 8, 2) := by decide +kernel
theorem dX5_toClue_48 : decode cX5_toClue 48 = .ok (.if_icmp .ne 19, 3) := by decide +kernel
theorem dX5_toClue_51 : decode cX5_toClue 51 = .ok (.bipush 6, 2) := by decide +kernel
theorem dX5_toClue_53 : decode cX5_toClue 53 = .ok (.iload_n 1, 1) := by decide +kernel
theorem dX5_toClue_54 : decode cX5_toClue 54 = .ok (.iload_n 2, 1) := by decide +kernel
theorem dX5_toClue_55 : decode cX5_toClue 55 = .ok (.aload_n 0, 1) := by decide +kernel
theorem dX5_toClue_56 : decode cX5_toClue 56 = .ok (.bipush 6, 2) := by decide +kernel
theorem dX5_toClue_58 : decode cX5_toClue 58 = .ok (.invokevirtual 37, 3) := by decide +kernel
theorem dX5_toClue_61 : decode cX5_toClue 61 = .ok (.bipush (-6), 2) := by decide +kernel
theorem dX5_toClue_63 : decode cX5_toClue 63 = .ok (.invokestatic 40, 3) := by decide +kernel
theorem dX5_toClue_66 : decode cX5_toClue 66 = .ok (.areturn, 1) := by decide +kernel
theorem dX5_toClue_67 : decode cX5_toClue 67 = .ok (.aload_n 0, 1) := by decide +kernel
theorem dX5_toClue_68 : decode cX5_toClue 68 = .ok (.getfield 9, 3) := by decide +kernel
theorem dX5_toClue_71 : decode cX5_toClue 71 = .ok (.iconst 2, 1) := by decide +kernel
theorem dX5_toClue_72 : decode cX5_toClue 72 = .ok (.iaload, 1) := by decide +kernel
theorem dX5_toClue_73 : decode cX5_toClue 73 = .ok (.invokestatic 33, 3) := by decide +kernel
theorem dX5_toClue_76 : decode cX5_toClue 76 = .ok (.iload_n 1, 1) := by decide +kernel
theorem dX5_toClue_77 : decode cX5_toClue 77 = .ok (.iload_n 2, 1) := by decide +kernel
theorem dX5_toClue_78 : decode cX5_toClue 78 = .ok (.bipush (-6), 2) := by decide +kernel
theorem dX5_toClue_80 : decode cX5_toClue 80 = .ok (.bipush (-6), 2) := by decide +kernel
theorem dX5_toClue_82 : decode cX5_toClue 82 = .ok (.invokestatic 40, 3) := by decide +kernel
theorem dX5_toClue_85 : decode cX5_toClue 85 = .ok (.areturn, 1) := by decide +kernel
theorem dX5_itemAt_0 : decode cX5_itemAt 0 = .ok (.iconst 4, 1) := by decide +kernel
theorem dX5_itemAt_1 : decode cX5_itemAt 1 = .ok (.aload_n 0, 1) := by decide +kernel
theorem dX5_itemAt_2 : decode cX5_itemAt 2 = .ok (.getfield 9, 3) := by decide +kernel
theorem dX5_itemAt_5 : decode cX5_itemAt 5 = .ok (.iload_n 1, 1) := by decide +kernel
theorem dX5_itemAt_6 : decode cX5_itemAt 6 = .ok (.iaload, 1) := by decide +kernel
theorem dX5_itemAt_7 : decode cX5_itemAt 7 = .ok (.bipush 97, 2) := by decide +kernel
theorem dX5_itemAt_9 : decode cX5_itemAt 9 = .ok (.isub, 1) := by decide +kernel
theorem dX5_itemAt_10 : decode cX5_itemAt 10 = .ok (.imul, 1) := by decide +kernel
theorem dX5_itemAt_11 : decode cX5_itemAt 11 = .ok (.aload_n 0, 1) := by decide +kernel
theorem dX5_itemAt_12 : decode cX5_itemAt 12 = .ok (.getfield 9, 3) := by decide +kernel
theorem dX5_itemAt_15 : decode cX5_itemAt 15 = .ok (.iload_n 1, 1) := by decide +kernel
theorem dX5_itemAt_16 : decode cX5_itemAt 16 = .ok (.iconst 1, 1) := by decide +kernel
theorem dX5_itemAt_17 : decode cX5_itemAt 17 = .ok (.iadd, 1) := by decide +kernel
theorem dX5_itemAt_18 : decode cX5_itemAt 18 = .ok (.iaload, 1) := by decide +kernel
theorem dX5_itemAt_19 : decode cX5_itemAt 19 = .ok (.iadd, 1) := by decide +kernel
theorem dX5_itemAt_20 : decode cX5_itemAt 20 = .ok (.bipush 49, 2) := by decide +kernel
theorem dX5_itemAt_22 : decode cX5_itemAt 22 = .ok (.isub, 1) := by decide +kernel
theorem dX5_itemAt_23 : decode cX5_itemAt 23 = .ok (.ireturn, 1) := by decide +kernel
theorem dX5_isLetter_0 : decode cX5_isLetter 0 = .ok (.iload_n 0, 1) := by decide +kernel
theorem dX5_isLetter_1 : decode cX5_isLetter 1 = .ok (.bipush 97, 2) := by decide +kernel
theorem dX5_isLetter_3 : decode cX5_isLetter 3 = .ok (.if_icmp .lt 13, 3) := by decide +kernel
theorem dX5_isLetter_6 : decode cX5_isLetter 6 = .ok (.iload_n 0, 1) := by decide +kernel
theorem dX5_isLetter_7 : decode cX5_isLetter 7 = .ok (.bipush 100, 2) := by decide +kernel
theorem dX5_isLetter_9 : decode cX5_isLetter 9 = .ok (.if_icmp .gt 7, 3) := by decide +kernel
theorem dX5_isLetter_12 : decode cX5_isLetter 12 = .ok (.iconst 1, 1) := by decide +kernel
theorem dX5_isLetter_13 : decode cX5_isLetter 13 = .ok (.goto 4, 3) := by decide +kernel
theorem dX5_isLetter_16 : decode cX5_isLetter 16 = .ok (.iconst 0, 1) := by decide +kernel
theorem dX5_isLetter_17 : decode cX5_isLetter 17 = .ok (.ireturn, 1) := by decide +kernel
theorem dX5_isFigure_0 : decode cX5_isFigure 0 = .ok (.iload_n 0, 1) := by decide +kernel
theorem dX5_isFigure_1 : decode cX5_isFigure 1 = .ok (.bipush 49, 2) := by decide +kernel
theorem dX5_isFigure_3 : decode cX5_isFigure 3 = .ok (.if_icmp .lt 13, 3) := by decide +kernel
theorem dX5_isFigure_6 : decode cX5_isFigure 6 = .ok (.iload_n 0, 1) := by decide +kernel
theorem dX5_isFigure_7 : decode cX5_isFigure 7 = .ok (.bipush 52, 2) := by decide +kernel
theorem dX5_isFigure_9 : decode cX5_isFigure 9 = .ok (.if_icmp .gt 7, 3) := by decide +kernel
theorem dX5_isFigure_12 : decode cX5_isFigure 12 = .ok (.iconst 1, 1) := by decide +kernel
theorem dX5_isFigure_13 : decode cX5_isFigure 13 = .ok (.goto 4, 3) := by decide +kernel
theorem dX5_isFigure_16 : decode cX5_isFigure 16 = .ok (.iconst 0, 1) := by decide +kernel
theorem dX5_isFigure_17 : decode cX5_isFigure 17 = .ok (.ireturn, 1) := by decide +kernel
theorem dX5_kindOf_0 : decode cX5_kindOf 0 = .ok (.iload_n 0, 1) := by decide +kernel
theorem dX5_kindOf_1 : decode cX5_kindOf 1 = .ok (.lookupswitch 71 #[(33, 61), (43, 65), (60, 63), (61, 59), (64, 69), (126, 67)], 59) := by decide +kernel
theorem dX5_kindOf_60 : decode cX5_kindOf 60 = .ok (.iconst 0, 1) := by decide +kernel
theorem dX5_kindOf_61 : decode cX5_kindOf 61 = .ok (.ireturn, 1) := by decide +kernel
theorem dX5_kindOf_62 : decode cX5_kindOf 62 = .ok (.iconst 1, 1) := by decide +kernel
theorem dX5_kindOf_63 : decode cX5_kindOf 63 = .ok (.ireturn, 1) := by decide +kernel
theorem dX5_kindOf_64 : decode cX5_kindOf 64 = .ok (.iconst 2, 1) := by decide +kernel
theorem dX5_kindOf_65 : decode cX5_kindOf 65 = .ok (.ireturn, 1) := by decide +kernel
theorem dX5_kindOf_66 : decode cX5_kindOf 66 = .ok (.iconst 3, 1) := by decide +kernel
theorem dX5_kindOf_67 : decode cX5_kindOf 67 = .ok (.ireturn, 1) := by decide +kernel
theorem dX5_kindOf_68 : decode cX5_kindOf 68 = .ok (.iconst 4, 1) := by decide +kernel
theorem dX5_kindOf_69 : decode cX5_kindOf 69 = .ok (.ireturn, 1) := by decide +kernel
theorem dX5_kindOf_70 : decode cX5_kindOf 70 = .ok (.iconst 5, 1) := by decide +kernel
theorem dX5_kindOf_71 : decode cX5_kindOf 71 = .ok (.ireturn, 1) := by decide +kernel
theorem dX5_kindOf_72 : decode cX5_kindOf 72 = .ok (.bipush (-6), 2) := by decide +kernel
theorem dX5_kindOf_74 : decode cX5_kindOf 74 = .ok (.ireturn, 1) := by decide +kernel
