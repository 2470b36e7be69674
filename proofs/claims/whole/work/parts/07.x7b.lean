theorem dX7_together_22 : decode cX7_together 22 = .ok (.invokevirtual 107, 3) := by decide +kernel
theorem dX7_together_25 : decode cX7_together 25 = .ok (.goto 5, 3) := by decide +kernel
theorem dX7_together_28 : decode cX7_together 28 = .ok (.bipush (-2), 2) := by decide +kernel
theorem dX7_together_30 : decode cX7_together 30 = .ok (.ireturn, 1) := by decide +kernel
set_option maxRecDepth 20000 in
theorem ggX7_met_X7_all : GoodIn wsX7_met wsX7_all := goodIn_r _ [5, 6, 47, 48, 49, 50, 51, 52, 53, 54, 55, 56, 57, 58, 59, 60, 61] (by decide +kernel) (by decide +kernel)
set_option maxRecDepth 20000 in
theorem gX7_met_X7_all : GoodIn wsX7_met (wsV RX7 104 RX7 yX7_all wsX7_all) := goodIn_app (goodIn_of _ (by decide +kernel)) ggX7_met_X7_all
set_option maxRecDepth 20000 in
theorem ggX7_met_X7_in : GoodIn wsX7_met wsX7_in := goodIn_r _ [9] (by decide +kernel) (by decide +kernel)
set_option maxRecDepth 20000 in
theorem gX7_met_X7_in : GoodIn wsX7_met (va_wsS RX7 39 yX7_in wsX7_in) := goodIn_app (goodIn_of _ (by decide +kernel)) ggX7_met_X7_in
set_option maxRecDepth 20000 in
theorem ggX7_met_X7_sum : GoodIn wsX7_met wsX7_sum := goodIn_r _ [13, 14, 15, 16, 17, 18, 19, 4, 20, 21, 22, 6, 23, 24, 25, 26, 27, 28, 29, 30, 31, 32, 33, 34, 35, 36, 37, 38, 39, 40, 41, 42, 43, 44, 45, 46, 47, 48, 49, 50, 51, 52, 53, 54, 55, 56, 57, 58, 59, 60, 61] (by decide +kernel) (by decide +kernel)
set_option maxRecDepth 20000 in
theorem gX7_met_X7_sum : GoodIn wsX7_met (wsV RX7 107 RX7 yX7_sum wsX7_sum) := goodIn_app (goodIn_of _ (by decide +kernel)) ggX7_met_X7_sum
theorem dX7_met_0 : decode cX7_met 0 = .ok (.iload_n 1, 1) := by decide +kernel
theorem dX7_met_1 : decode cX7_met 1 = .ok (.iconst 0, 1) := by decide +kernel
theorem dX7_met_2 : decode cX7_met 2 = .ok (.aload_n 0, 1) := by decide +kernel
theorem dX7_met_3 : decode cX7_met 3 = .ok (.invokevirtual 104, 3) := by decide +kernel
theorem dX7_met_6 : decode cX7_met 6 = .ok (.invokestatic 39, 3) := by decide +kernel
theorem dX7_met_9 : decode cX7_met 9 = .ok (.ifCond .eq 14, 3) := by decide +kernel
theorem dX7_met_12 : decode cX7_met 12 = .ok (.aload_n 0, 1) := by decide +kernel
theorem dX7_met_13 : decode cX7_met 13 = .ok (.iload_n 1, 1) := by decide +kernel
theorem dX7_met_14 : decode cX7_met 14 = .ok (.iconst 0, 1) := by decide +kernel
theorem dX7_met_15 : decode cX7_met 15 = .ok (.iconst 0, 1) := by decide +kernel
theorem dX7_met_16 : decode cX7_met 16 = .ok (.iconst 0, 1) := by decide +kernel
theorem dX7_met_17 : decode cX7_met 17 = .ok (.invokevirtual 107, 3) := by decide +kernel
theorem dX7_met_20 : decode cX7_met 20 = .ok (.goto 5, 3) := by decide +kernel
theorem dX7_met_23 : decode cX7_met 23 = .ok (.bipush (-2), 2) := by decide +kernel
theorem dX7_met_25 : decode cX7_met 25 = .ok (.ireturn, 1) := by decide +kernel
set_option maxRecDepth 20000 in
theorem ggX7_needless_X7_all : GoodIn wsX7_needless wsX7_all := goodIn_r _ [6, 1, 44, 45, 46, 47, 48, 49, 50, 51, 52, 53, 54, 55, 56, 57, 58] (by decide +kernel) (by decide +kernel)
set_option maxRecDepth 20000 in
theorem gX7_needless_X7_all : GoodIn wsX7_needless (wsV RX7 104 RX7 yX7_all wsX7_all) := goodIn_app (goodIn_of _ (by decide +kernel)) ggX7_needless_X7_all
set_option maxRecDepth 20000 in
theorem ggX7_needless_X7_sum : GoodIn wsX7_needless wsX7_sum := goodIn_r _ [10, 11, 12, 13, 14, 15, 16, 5, 17, 18, 19, 1, 20, 21, 22, 23, 24, 25, 26, 27, 28, 29, 30, 31, 32, 33, 34, 35, 36, 37, 38, 39, 40, 41, 42, 43, 44, 45, 46, 47, 48, 49, 50, 51, 52, 53, 54, 55, 56, 57, 58] (by decide +kernel) (by decide +kernel)
set_option maxRecDepth 20000 in
theorem gX7_needless_X7_sum : GoodIn wsX7_needless (wsV RX7 107 RX7 yX7_sum wsX7_sum) := goodIn_app (goodIn_of _ (by decide +kernel)) ggX7_needless_X7_sum
theorem dX7_needless_0 : decode cX7_needless 0 = .ok (.aload_n 0, 1) := by decide +kernel
theorem dX7_needless_1 : decode cX7_needless 1 = .ok (.aload_n 0, 1) := by decide +kernel
theorem dX7_needless_2 : decode cX7_needless 2 = .ok (.invokevirtual 104, 3) := by decide +kernel
theorem dX7_needless_5 : decode cX7_needless 5 = .ok (.iconst 0, 1) := by decide +kernel
theorem dX7_needless_6 : decode cX7_needless 6 = .ok (.iconst 0, 1) := by decide +kernel
theorem dX7_needless_7 : decode cX7_needless 7 = .ok (.iconst 0, 1) := by decide +kernel
theorem dX7_needless_8 : decode cX7_needless 8 = .ok (.invokevirtual 107, 3) := by decide +kernel
theorem dX7_needless_11 : decode cX7_needless 11 = .ok (.istore_n 1, 1) := by decide +kernel
theorem dX7_needless_12 : decode cX7_needless 12 = .ok (.iconst 0, 1) := by decide +kernel
theorem dX7_needless_13 : decode cX7_needless 13 = .ok (.istore_n 2, 1) := by decide +kernel
theorem dX7_needless_14 : decode cX7_needless 14 = .ok (.iconst 0, 1) := by decide +kernel
theorem dX7_needless_15 : decode cX7_needless 15 = .ok (.istore_n 3, 1) := by decide +kernel
theorem dX7_needless_16 : decode cX7_needless 16 = .ok (.iload_n 3, 1) := by decide +kernel
theorem dX7_needless_17 : decode cX7_needless 17 = .ok (.aload_n 0, 1) := by decide +kernel
theorem dX7_needless_18 : decode cX7_needless 18 = .ok (.getfield 43, 3) := by decide +kernel
theorem dX7_needless_21 : decode cX7_needless 21 = .ok (.if_icmp .ge 40, 3) := by decide +kernel
theorem dX7_needless_24 : decode cX7_needless 24 = .ok (.iload_n 2, 1) := by decide +kernel
theorem dX7_needless_25 : decode cX7_needless 25 = .ok (.aload_n 0, 1) := by decide +kernel
theorem dX7_needless_26 : decode cX7_needless 26 = .ok (.aload_n 0, 1) := by decide +kernel
theorem dX7_needless_27 : decode cX7_needless 27 = .ok (.invokevirtual 104, 3) := by decide +kernel
theorem dX7_needless_30 : decode cX7_needless 30 = .ok (.iconst 1, 1) := by decide +kernel
theorem dX7_needless_31 : decode cX7_needless 31 = .ok (.iload_n 3, 1) := by decide +kernel
theorem dX7_needless_32 : decode cX7_needless 32 = .ok (.ishl, 1) := by decide +kernel
theorem dX7_needless_33 : decode cX7_needless 33 = .ok (.iconst (-1), 1) := by decide +kernel
theorem dX7_needless_34 : decode cX7_needless 34 = .ok (.ixor, 1) := by decide +kernel
theorem dX7_needless_35 : decode cX7_needless 35 = .ok (.iand, 1) := by decide +kernel
theorem dX7_needless_36 : decode cX7_needless 36 = .ok (.iconst 0, 1) := by decide +kernel
theorem dX7_needless_37 : decode cX7_needless 37 = .ok (.iconst 0, 1) := by decide +kernel
theorem dX7_needless_38 : decode cX7_needless 38 = .ok (.iconst 0, 1) := by decide +kernel
theorem dX7_needless_39 : decode cX7_needless 39 = .ok (.invokevirtual 107, 3) := by decide +kernel
theorem dX7_needless_42 : decode cX7_needless 42 = .ok (.iload_n 1, 1) := by decide +kernel
theorem dX7_needless_43 : decode cX7_needless 43 = .ok (.if_icmp .ne 9, 3) := by decide +kernel
theorem dX7_needless_46 : decode cX7_needless 46 = .ok (.iconst 1, 1) := by decide +kernel
theorem dX7_needless_47 : decode cX7_needless 47 = .ok (.iload_n 3, 1) := by decide +kernel
theorem dX7_needless_48 : decode cX7_needless 48 = .ok (.ishl, 1) := by decide +kernel
theorem dX7_needless_49 : decode cX7_needless 49 = .ok (.goto 4, 3) := by decide +kernel
theorem dX7_needless_52 : decode cX7_needless 52 = .ok (.iconst 0, 1) := by decide +kernel
theorem dX7_needless_53 : decode cX7_needless 53 = .ok (.ior, 1) := by decide +kernel
theorem dX7_needless_54 : decode cX7_needless 54 = .ok (.istore_n 2, 1) := by decide +kernel
theorem dX7_needless_55 : decode cX7_needless 55 = .ok (.iinc 3 1, 3) := by decide +kernel
theorem dX7_needless_58 : decode cX7_needless 58 = .ok (.goto (-42), 3) := by decide +kernel
theorem dX7_needless_61 : decode cX7_needless 61 = .ok (.iload_n 2, 1) := by decide +kernel
theorem dX7_needless_62 : decode cX7_needless 62 = .ok (.ireturn, 1) := by decide +kernel
set_option maxRecDepth 20000 in
theorem ggX7_coreNow_X7_all : GoodIn wsX7_coreNow wsX7_all := goodIn_r _ [6, 1, 44, 45, 46, 47, 48, 49, 50, 51, 52, 53, 54, 55, 56, 57, 58] (by decide +kernel) (by decide +kernel)
set_option maxRecDepth 20000 in
theorem gX7_coreNow_X7_all : GoodIn wsX7_coreNow (wsV RX7 104 RX7 yX7_all wsX7_all) := goodIn_app (goodIn_of _ (by decide +kernel)) ggX7_coreNow_X7_all
set_option maxRecDepth 20000 in
theorem ggX7_coreNow_X7_sum : GoodIn wsX7_coreNow wsX7_sum := goodIn_r _ [10, 11, 12, 13, 14, 15, 16, 5, 17, 18, 19, 1, 20, 21, 22, 23, 24, 25, 26, 27, 28, 29, 30, 31, 32, 33, 34, 35, 36, 37, 38, 39, 40, 41, 42, 43, 44, 45, 46, 47, 48, 49, 50, 51, 52, 53, 54, 55, 56, 57, 58] (by decide +kernel) (by decide +kernel)
set_option maxRecDepth 20000 in
theorem gX7_coreNow_X7_sum : GoodIn wsX7_coreNow (wsV RX7 107 RX7 yX7_sum wsX7_sum) := goodIn_app (goodIn_of _ (by decide +kernel)) ggX7_coreNow_X7_sum
theorem dX7_coreNow_0 : decode cX7_coreNow 0 = .ok (.aload_n 0, 1) := by decide +kernel
theorem dX7_coreNow_1 : decode cX7_coreNow 1 = .ok (.aload_n 0, 1) := by decide +kernel
theorem dX7_coreNow_2 : decode cX7_coreNow 2 = .ok (.invokevirtual 104, 3) := by decide +kernel
theorem dX7_coreNow_5 : decode cX7_coreNow 5 = .ok (.iconst 0, 1) := by decide +kernel
theorem dX7_coreNow_6 : decode cX7_coreNow 6 = .ok (.iconst 0, 1) := by decide +kernel
theorem dX7_coreNow_7 : decode cX7_coreNow 7 = .ok (.iconst 0, 1) := by decide +kernel
theorem dX7_coreNow_8 : decode cX7_coreNow 8 = .ok (.invokevirtual 107, 3) := by decide +kernel
theorem dX7_coreNow_11 : decode cX7_coreNow 11 = .ok (.istore_n 1, 1) := by decide +kernel
theorem dX7_coreNow_12 : decode cX7_coreNow 12 = .ok (.aload_n 0, 1) := by decide +kernel
theorem dX7_coreNow_13 : decode cX7_coreNow 13 = .ok (.invokevirtual 104, 3) := by decide +kernel
theorem dX7_coreNow_16 : decode cX7_coreNow 16 = .ok (.istore_n 2, 1) := by decide +kernel
theorem dX7_coreNow_17 : decode cX7_coreNow 17 = .ok (.aload_n 0, 1) := by decide +kernel
theorem dX7_coreNow_18 : decode cX7_coreNow 18 = .ok (.getfield 43, 3) := by decide +kernel
theorem dX7_coreNow_21 : decode cX7_coreNow 21 = .ok (.iconst 1, 1) := by decide +kernel
theorem dX7_coreNow_22 : decode cX7_coreNow 22 = .ok (.isub, 1) := by decide +kernel
theorem dX7_coreNow_23 : decode cX7_coreNow 23 = .ok (.istore_n 3, 1) := by decide +kernel
theorem dX7_coreNow_24 : decode cX7_coreNow 24 = .ok (.iload_n 3, 1) := by decide +kernel
theorem dX7_coreNow_25 : decode cX7_coreNow 25 = .ok (.ifCond .lt 39, 3) := by decide +kernel
theorem dX7_coreNow_28 : decode cX7_coreNow 28 = .ok (.aload_n 0, 1) := by decide +kernel
theorem dX7_coreNow_29 : decode cX7_coreNow 29 = .ok (.iload_n 2, 1) := by decide +kernel
theorem dX7_coreNow_30 : decode cX7_coreNow 30 = .ok (.iconst 1, 1) := by decide +kernel
theorem dX7_coreNow_31 : decode cX7_coreNow 31 = .ok (.iload_n 3, 1) := by decide +kernel
theorem dX7_coreNow_32 : decode cX7_coreNow 32 = .ok (.ishl, 1) := by decide +kernel
theorem dX7_coreNow_33 : decode cX7_coreNow 33 = .ok (.iconst (-1), 1) := by decide +kernel
theorem dX7_coreNow_34 : decode cX7_coreNow 34 = .ok (.ixor, 1) := by decide +kernel
theorem dX7_coreNow_35 : decode cX7_coreNow 35 = .ok (.iand, 1) := by decide +kernel
theorem dX7_coreNow_36 : decode cX7_coreNow 36 = .ok (.iconst 0, 1) := by decide +kernel
theorem dX7_coreNow_37 : decode cX7_coreNow 37 = .ok (.iconst 0, 1) := by decide +kernel
theorem dX7_coreNow_38 : decode cX7_coreNow 38 = .ok (.iconst 0, 1) := by decide +kernel
theorem dX7_coreNow_39 : decode cX7_coreNow 39 = .ok (.invokevirtual 107, 3) := by decide +kernel
theorem dX7_coreNow_42 : decode cX7_coreNow 42 = .ok (.iload_n 1, 1) := by decide +kernel
theorem dX7_coreNow_43 : decode cX7_coreNow 43 = .ok (.if_icmp .ne 13, 3) := by decide +kernel
theorem dX7_coreNow_46 : decode cX7_coreNow 46 = .ok (.iload_n 2, 1) := by decide +kernel
theorem dX7_coreNow_47 : decode cX7_coreNow 47 = .ok (.iconst 1, 1) := by decide +kernel
theorem dX7_coreNow_48 : decode cX7_coreNow 48 = .ok (.iload_n 3, 1) := by decide +kernel
theorem dX7_coreNow_49 : decode cX7_coreNow 49 = .ok (.ishl, 1) := by decide +kernel
theorem dX7_coreNow_50 : decode cX7_coreNow 50 = .ok (.iconst (-1), 1) := by decide +kernel
theorem dX7_coreNow_51 : decode cX7_coreNow 51 = .ok (.ixor, 1) := by decide +kernel
theorem dX7_coreNow_52 : decode cX7_coreNow 52 = .ok (.iand, 1) := by decide +kernel
theorem dX7_coreNow_53 : decode cX7_coreNow 53 = .ok (.goto 4, 3) := by decide +kernel
theorem dX7_coreNow_56 : decode cX7_coreNow 56 = .ok (.iload_n 2, 1) := by decide +kernel
theorem dX7_coreNow_57 : decode cX7_coreNow 57 = .ok (.istore_n 2, 1) := by decide +kernel
theorem dX7_coreNow_58 : decode cX7_coreNow 58 = .ok (.iinc 3 (-1), 3) := by decide +kernel
theorem dX7_coreNow_61 : decode cX7_coreNow 61 = .ok (.goto (-37), 3) := by decide +kernel
theorem dX7_coreNow_64 : decode cX7_coreNow 64 = .ok (.iload_n 2, 1) := by decide +kernel
theorem dX7_coreNow_65 : decode cX7_coreNow 65 = .ok (.ireturn, 1) := by decide +kernel
set_option maxRecDepth 20000 in
theorem ggX7_core_X7_coreNow : GoodIn wsX7_core wsX7_coreNow := goodIn_r _ [5, 6, 7, 8, 9, 4, 10, 11, 12, 13, 14, 15, 16, 17, 18, 19, 20, 21, 22, 23, 24, 25, 26, 27, 28, 29, 30, 31, 32, 33, 34, 35, 36, 37, 38, 39, 40, 41, 42, 43, 44, 45, 46, 47, 48, 49, 50, 51, 52, 53, 54, 55, 56, 57, 58, 59, 60, 61, 62] (by decide +kernel) (by decide +kernel)
set_option maxRecDepth 20000 in
theorem gX7_core_X7_coreNow : GoodIn wsX7_core (wsV RX7 117 RX7 yX7_coreNow wsX7_coreNow) := goodIn_app (goodIn_of _ (by decide +kernel)) ggX7_core_X7_coreNow
theorem dX7_core_0 : decode cX7_core 0 = .ok (.aload_n 0, 1) := by decide +kernel
theorem dX7_core_1 : decode cX7_core 1 = .ok (.invokevirtual 117, 3) := by decide +kernel
theorem dX7_core_4 : decode cX7_core 4 = .ok (.ireturn, 1) := by decide +kernel
set_option maxRecDepth 20000 in
theorem ggX7_trim_X7_coreNow : GoodIn wsX7_trim wsX7_coreNow := goodIn_r _ [6, 1, 7, 8, 9, 5, 10, 11, 12, 13, 14, 15, 16, 17, 18, 19, 20, 21, 22, 23, 24, 25, 26, 27, 28, 29, 30, 31, 32, 33, 34, 35, 36, 37, 38, 39, 40, 41, 42, 43, 44, 45, 46, 47, 52, 53, 54, 55, 56, 57, 58, 59, 60, 61, 62, 63, 64, 65, 66] (by decide +kernel) (by decide +kernel)
set_option maxRecDepth 20000 in
theorem gX7_trim_X7_coreNow : GoodIn wsX7_trim (wsV RX7 117 RX7 yX7_coreNow wsX7_coreNow) := goodIn_app (goodIn_of _ (by decide +kernel)) ggX7_trim_X7_coreNow
set_option maxRecDepth 20000 in
theorem ggX7_trim_X7_has : GoodIn wsX7_trim wsX7_has := goodIn_r _ [26] (by decide +kernel) (by decide +kernel)
set_option maxRecDepth 20000 in
theorem gX7_trim_X7_has : GoodIn wsX7_trim (va_wsS RX7 75 yX7_has wsX7_has) := goodIn_app (goodIn_of _ (by decide +kernel)) ggX7_trim_X7_has
set_option maxRecDepth 20000 in
theorem ggX7_trim_X7_remove : GoodIn wsX7_trim wsX7_remove := goodIn_r _ [51, 1, 35, 52, 53, 54, 55, 56, 57, 58, 59, 60, 61, 62, 63, 64, 65, 66] (by decide +kernel) (by decide +kernel)
set_option maxRecDepth 20000 in
theorem gX7_trim_X7_remove : GoodIn wsX7_trim (wsV RX7 67 RX7 yX7_remove wsX7_remove) := goodIn_app (goodIn_of _ (by decide +kernel)) ggX7_trim_X7_remove
theorem dX7_trim_0 : decode cX7_trim 0 = .ok (.aload_n 0, 1) := by decide +kernel
theorem dX7_trim_1 : decode cX7_trim 1 = .ok (.invokevirtual 117, 3) := by decide +kernel
theorem dX7_trim_4 : decode cX7_trim 4 = .ok (.istore_n 1, 1) := by decide +kernel
theorem dX7_trim_5 : decode cX7_trim 5 = .ok (.aload_n 0, 1) := by decide +kernel
theorem dX7_trim_6 : decode cX7_trim 6 = .ok (.getfield 43, 3) := by decide +kernel
theorem dX7_trim_9 : decode cX7_trim 9 = .ok (.iconst 1, 1) := by decide +kernel
theorem dX7_trim_10 : decode cX7_trim 10 = .ok (.isub, 1) := by decide +kernel
theorem dX7_trim_11 : decode cX7_trim 11 = .ok (.istore_n 2, 1) := by decide +kernel
theorem dX7_trim_12 : decode cX7_trim 12 = .ok (.iload_n 2, 1) := by decide +kernel
theorem dX7_trim_13 : decode cX7_trim 13 = .ok (.ifCond .lt 22, 3) := by decide +kernel
theorem dX7_trim_16 : decode cX7_trim 16 = .ok (.iload_n 1, 1) := by decide +kernel
theorem dX7_trim_17 : decode cX7_trim 17 = .ok (.iload_n 2, 1) := by decide +kernel
theorem dX7_trim_18 : decode cX7_trim 18 = .ok (.invokestatic 75, 3) := by decide +kernel
theorem dX7_trim_21 : decode cX7_trim 21 = .ok (.ifCond .ne 8, 3) := by decide +kernel
theorem dX7_trim_24 : decode cX7_trim 24 = .ok (.aload_n 0, 1) := by decide +kernel
theorem dX7_trim_25 : decode cX7_trim 25 = .ok (.iload_n 2, 1) := by decide +kernel
theorem dX7_trim_26 : decode cX7_trim 26 = .ok (.invokevirtual 67, 3) := by decide +kernel
theorem dX7_trim_29 : decode cX7_trim 29 = .ok (.iinc 2 (-1), 3) := by decide +kernel
theorem dX7_trim_32 : decode cX7_trim 32 = .ok (.goto (-20), 3) := by decide +kernel
theorem dX7_trim_35 : decode cX7_trim 35 = .ok (.aload_n 0, 1) := by decide +kernel
theorem dX7_trim_36 : decode cX7_trim 36 = .ok (.getfield 43, 3) := by decide +kernel
theorem dX7_trim_39 : decode cX7_trim 39 = .ok (.ireturn, 1) := by decide +kernel
set_option maxRecDepth 20000 in
theorem ggX7_isLeft_X7_has : GoodIn wsX7_isLeft wsX7_has := goodIn_r _ [5] (by decide +kernel) (by decide +kernel)
set_option maxRecDepth 20000 in
theorem gX7_isLeft_X7_has : GoodIn wsX7_isLeft (va_wsS RX7 75 yX7_has wsX7_has) := goodIn_app (goodIn_of _ (by decide +kernel)) ggX7_isLeft_X7_has
theorem dX7_isLeft_0 : decode cX7_isLeft 0 = .ok (.aload_n 0, 1) := by decide +kernel
theorem dX7_isLeft_1 : decode cX7_isLeft 1 = .ok (.getfield 26, 3) := by decide +kernel
theorem dX7_isLeft_4 : decode cX7_isLeft 4 = .ok (.iload_n 1, 1) := by decide +kernel
theorem dX7_isLeft_5 : decode cX7_isLeft 5 = .ok (.iaload, 1) := by decide +kernel
theorem dX7_isLeft_6 : decode cX7_isLeft 6 = .ok (.iload_n 2, 1) := by decide +kernel
theorem dX7_isLeft_7 : decode cX7_isLeft 7 = .ok (.invokestatic 75, 3) := by decide +kernel
theorem dX7_isLeft_10 : decode cX7_isLeft 10 = .ok (.ireturn, 1) := by decide +kernel
theorem dX7_bits_0 : decode cX7_bits 0 = .ok (.iconst 0, 1) := by decide +kernel
theorem dX7_bits_1 : decode cX7_bits 1 = .ok (.istore_n 1, 1) := by decide +kernel
theorem dX7_bits_2 : decode cX7_bits 2 = .ok (.iconst 1, 1) := by decide +kernel
theorem dX7_bits_3 : decode cX7_bits 3 = .ok (.istore_n 2, 1) := by decide +kernel
theorem dX7_bits_4 : decode cX7_bits 4 = .ok (.iload_n 2, 1) := by decide +kernel
theorem dX7_bits_5 : decode cX7_bits 5 = .ok (.iconst 4, 1) := by decide +kernel
theorem dX7_bits_6 : decode cX7_bits 6 = .ok (.if_icmp .gt 17, 3) := by decide +kernel
theorem dX7_bits_9 : decode cX7_bits 9 = .ok (.iload_n 1, 1) := by decide +kernel
theorem dX7_bits_10 : decode cX7_bits 10 = .ok (.iload_n 0, 1) := by decide +kernel
theorem dX7_bits_11 : decode cX7_bits 11 = .ok (.iload_n 2, 1) := by decide +kernel
theorem dX7_bits_12 : decode cX7_bits 12 = .ok (.ishr, 1) := by decide +kernel
theorem dX7_bits_13 : decode cX7_bits 13 = .ok (.iconst 1, 1) := by decide +kernel
theorem dX7_bits_14 : decode cX7_bits 14 = .ok (.iand, 1) := by decide +kernel
theorem dX7_bits_15 : decode cX7_bits 15 = .ok (.iadd, 1) := by decide +kernel
theorem dX7_bits_16 : decode cX7_bits 16 = .ok (.istore_n 1, 1) := by decide +kernel
theorem dX7_bits_17 : decode cX7_bits 17 = .ok (.iinc 2 1, 3) := by decide +kernel
theorem dX7_bits_20 : decode cX7_bits 20 = .ok (.goto (-16), 3) := by decide +kernel
theorem dX7_bits_23 : decode cX7_bits 23 = .ok (.iload_n 1, 1) := by decide +kernel
theorem dX7_bits_24 : decode cX7_bits 24 = .ok (.ireturn, 1) := by decide +kernel
theorem dX7_strike_0 : decode cX7_strike 0 = .ok (.aload_n 0, 1) := by decide +kernel
theorem dX7_strike_1 : decode cX7_strike 1 = .ok (.getfield 29, 3) := by decide +kernel
theorem dX7_strike_4 : decode cX7_strike 4 = .ok (.iconst 4, 1) := by decide +kernel
theorem dX7_strike_5 : decode cX7_strike 5 = .ok (.aload_n 0, 1) := by decide +kernel
theorem dX7_strike_6 : decode cX7_strike 6 = .ok (.getfield 120, 3) := by decide +kernel
theorem dX7_strike_9 : decode cX7_strike 9 = .ok (.imul, 1) := by decide +kernel
theorem dX7_strike_10 : decode cX7_strike 10 = .ok (.iload_n 1, 1) := by decide +kernel
theorem dX7_strike_11 : decode cX7_strike 11 = .ok (.iastore, 1) := by decide +kernel
theorem dX7_strike_12 : decode cX7_strike 12 = .ok (.aload_n 0, 1) := by decide +kernel
theorem dX7_strike_13 : decode cX7_strike 13 = .ok (.getfield 29, 3) := by decide +kernel
theorem dX7_strike_16 : decode cX7_strike 16 = .ok (.iconst 4, 1) := by decide +kernel
theorem dX7_strike_17 : decode cX7_strike 17 = .ok (.aload_n 0, 1) := by decide +kernel
theorem dX7_strike_18 : decode cX7_strike 18 = .ok (.getfield 120, 3) := by decide +kernel
theorem dX7_strike_21 : decode cX7_strike 21 = .ok (.imul, 1) := by decide +kernel
theorem dX7_strike_22 : decode cX7_strike 22 = .ok (.iconst 1, 1) := by decide +kernel
theorem dX7_strike_23 : decode cX7_strike 23 = .ok (.iadd, 1) := by decide +kernel
theorem dX7_strike_24 : decode cX7_strike 24 = .ok (.iload_n 2, 1) := by decide +kernel
theorem dX7_strike_25 : decode cX7_strike 25 = .ok (.iastore, 1) := by decide +kernel
theorem dX7_strike_26 : decode cX7_strike 26 = .ok (.aload_n 0, 1) := by decide +kernel
theorem dX7_strike_27 : decode cX7_strike 27 = .ok (.getfield 29, 3) := by decide +kernel
theorem dX7_strike_30 : decode cX7_strike 30 = .ok (.iconst 4, 1) := by decide +kernel
theorem dX7_strike_31 : decode cX7_strike 31 = .ok (.aload_n 0, 1) := by decide +kernel
theorem dX7_strike_32 : decode cX7_strike 32 = .ok (.getfield 120, 3) := by decide +kernel
theorem dX7_strike_35 : decode cX7_strike 35 = .ok (.imul, 1) := by decide +kernel
theorem dX7_strike_36 : decode cX7_strike 36 = .ok (.iconst 2, 1) := by decide +kernel
theorem dX7_strike_37 : decode cX7_strike 37 = .ok (.iadd, 1) := by decide +kernel
theorem dX7_strike_38 : decode cX7_strike 38 = .ok (.iload_n 3, 1) := by decide +kernel
theorem dX7_strike_39 : decode cX7_strike 39 = .ok (.iastore, 1) := by decide +kernel
theorem dX7_strike_40 : decode cX7_strike 40 = .ok (.aload_n 0, 1) := by decide +kernel
theorem dX7_strike_41 : decode cX7_strike 41 = .ok (.getfield 29, 3) := by decide +kernel
theorem dX7_strike_44 : decode cX7_strike 44 = .ok (.iconst 4, 1) := by decide +kernel
theorem dX7_strike_45 : decode cX7_strike 45 = .ok (.aload_n 0, 1) := by decide +kernel
theorem dX7_strike_46 : decode cX7_strike 46 = .ok (.getfield 120, 3) := by decide +kernel
theorem dX7_strike_49 : decode cX7_strike 49 = .ok (.imul, 1) := by decide +kernel
theorem dX7_strike_50 : decode cX7_strike 50 = .ok (.iconst 3, 1) := by decide +kernel
theorem dX7_strike_51 : decode cX7_strike 51 = .ok (.iadd, 1) := by decide +kernel
theorem dX7_strike_52 : decode cX7_strike 52 = .ok (.iload 4, 2) := by decide +kernel
theorem dX7_strike_54 : decode cX7_strike 54 = .ok (.iastore, 1) := by decide +kernel
theorem dX7_strike_55 : decode cX7_strike 55 = .ok (.aload_n 0, 1) := by decide +kernel
theorem dX7_strike_56 : decode cX7_strike 56 = .ok (.dup, 1) := by decide +kernel
theorem dX7_strike_57 : decode cX7_strike 57 = .ok (.getfield 120, 3) := by decide +kernel
theorem dX7_strike_60 : decode cX7_strike 60 = .ok (.iconst 1, 1) := by decide +kernel
theorem dX7_strike_61 : decode cX7_strike 61 = .ok (.iadd, 1) := by decide +kernel
theorem dX7_strike_62 : decode cX7_strike 62 = .ok (.putfield 120, 3) := by decide +kernel
theorem dX7_strike_65 : decode cX7_strike 65 = .ok (.aload_n 0, 1) := by decide +kernel
theorem dX7_strike_66 : decode cX7_strike 66 = .ok (.getfield 26, 3) := by decide +kernel
theorem dX7_strike_69 : decode cX7_strike 69 = .ok (.iload_n 3, 1) := by decide +kernel
theorem dX7_strike_70 : decode cX7_strike 70 = .ok (.dup2, 1) := by decide +kernel
theorem dX7_strike_71 : decode cX7_strike 71 = .ok (.iaload, 1) := by decide +kernel
theorem dX7_strike_72 : decode cX7_strike 72 = .ok (.iconst 1, 1) := by decide +kernel
theorem dX7_strike_73 : decode cX7_strike 73 = .ok (.iload 4, 2) := by decide +kernel
theorem dX7_strike_75 : decode cX7_strike 75 = .ok (.ishl, 1) := by decide +kernel
theorem dX7_strike_76 : decode cX7_strike 76 = .ok (.iconst (-1), 1) := by decide +kernel
theorem dX7_strike_77 : decode cX7_strike 77 = .ok (.ixor, 1) := by decide +kernel
theorem dX7_strike_78 : decode cX7_strike 78 = .ok (.iand, 1) := by decide +kernel
theorem dX7_strike_79 : decode cX7_strike 79 = .ok (.iastore, 1) := by decide +kernel
theorem dX7_strike_80 : decode cX7_strike 80 = .ok (.return_, 1) := by decide +kernel
set_option maxRecDepth 20000 in
theorem ggX7_may_X7_of : GoodIn wsX7_may wsX7_of := goodIn_r _ [5, 6, 19, 20, 21, 22, 23, 24, 25, 26, 27, 28, 29, 30, 31, 32, 33] (by decide +kernel) (by decide +kernel)
set_option maxRecDepth 20000 in
theorem gX7_may_X7_of : GoodIn wsX7_may (wsV RX7 71 RX7 yX7_of wsX7_of) := goodIn_app (goodIn_of _ (by decide +kernel)) ggX7_may_X7_of
set_option maxRecDepth 20000 in
theorem ggX7_may_X7_isLeft : GoodIn wsX7_may wsX7_isLeft := goodIn_r _ [10, 11, 12, 13, 4, 14, 19, 20, 21, 22, 23, 24, 25, 26, 27, 28, 29, 30, 31, 32, 33] (by decide +kernel) (by decide +kernel)
set_option maxRecDepth 20000 in
theorem gX7_may_X7_isLeft : GoodIn wsX7_may (wsV RX7 123 RX7 yX7_isLeft wsX7_isLeft) := goodIn_app (goodIn_of _ (by decide +kernel)) ggX7_may_X7_isLeft
set_option maxRecDepth 20000 in
theorem ggX7_may_X7_isMet : GoodIn wsX7_may wsX7_isMet := goodIn_r _ [18, 1, 2, 3, 4, 5, 6, 19, 20, 21, 22, 23, 24, 25, 26, 27, 28, 29, 30, 31, 32, 33] (by decide +kernel) (by decide +kernel)
set_option maxRecDepth 20000 in
theorem gX7_may_X7_isMet : GoodIn wsX7_may (wsV RX7 85 RX7 yX7_isMet wsX7_isMet) := goodIn_app (goodIn_of _ (by decide +kernel)) ggX7_may_X7_isMet
theorem dX7_may_0 : decode cX7_may 0 = .ok (.aload_n 0, 1) := by decide +kernel
theorem dX7_may_1 : decode cX7_may 1 = .ok (.iload_n 1, 1) := by decide +kernel
theorem dX7_may_2 : decode cX7_may 2 = .ok (.iconst 1, 1) := by decide +kernel
theorem dX7_may_3 : decode cX7_may 3 = .ok (.invokevirtual 71, 3) := by decide +kernel
theorem dX7_may_6 : decode cX7_may 6 = .ok (.istore 4, 2) := by decide +kernel
theorem dX7_may_8 : decode cX7_may 8 = .ok (.aload_n 0, 1) := by decide +kernel
theorem dX7_may_9 : decode cX7_may 9 = .ok (.iload_n 1, 1) := by decide +kernel
theorem dX7_may_10 : decode cX7_may 10 = .ok (.iconst 2, 1) := by decide +kernel
theorem dX7_may_11 : decode cX7_may 11 = .ok (.invokevirtual 71, 3) := by decide +kernel
theorem dX7_may_14 : decode cX7_may 14 = .ok (.istore 5, 2) := by decide +kernel
theorem dX7_may_16 : decode cX7_may 16 = .ok (.aload_n 0, 1) := by decide +kernel
theorem dX7_may_17 : decode cX7_may 17 = .ok (.iload_n 1, 1) := by decide +kernel
theorem dX7_may_18 : decode cX7_may 18 = .ok (.iconst 3, 1) := by decide +kernel
theorem dX7_may_19 : decode cX7_may 19 = .ok (.invokevirtual 71, 3) := by decide +kernel
theorem dX7_may_22 : decode cX7_may 22 = .ok (.istore 6, 2) := by decide +kernel
theorem dX7_may_24 : decode cX7_may 24 = .ok (.iconst 0, 1) := by decide +kernel
theorem dX7_may_25 : decode cX7_may 25 = .ok (.istore 7, 2) := by decide +kernel
theorem dX7_may_27 : decode cX7_may 27 = .ok (.iload 7, 2) := by decide +kernel
theorem dX7_may_29 : decode cX7_may 29 = .ok (.bipush 64, 2) := by decide +kernel
theorem dX7_may_31 : decode cX7_may 31 = .ok (.if_icmp .ge 139, 3) := by decide +kernel
theorem dX7_may_34 : decode cX7_may 34 = .ok (.iload 7, 2) := by decide +kernel
theorem dX7_may_36 : decode cX7_may 36 = .ok (.bipush 16, 2) := by decide +kernel
theorem dX7_may_38 : decode cX7_may 38 = .ok (.idiv, 1) := by decide +kernel
theorem dX7_may_39 : decode cX7_may 39 = .ok (.iconst 1, 1) := by decide +kernel
theorem dX7_may_40 : decode cX7_may 40 = .ok (.iadd, 1) := by decide +kernel
theorem dX7_may_41 : decode cX7_may 41 = .ok (.istore 8, 2) := by decide +kernel
theorem dX7_may_43 : decode cX7_may 43 = .ok (.iload 7, 2) := by decide +kernel
theorem dX7_may_45 : decode cX7_may 45 = .ok (.iconst 4, 1) := by decide +kernel
theorem dX7_may_46 : decode cX7_may 46 = .ok (.idiv, 1) := by decide +kernel
theorem dX7_may_47 : decode cX7_may 47 = .ok (.iconst 4, 1) := by decide +kernel
theorem dX7_may_48 : decode cX7_may 48 = .ok (.irem, 1) := by decide +kernel
theorem dX7_may_49 : decode cX7_may 49 = .ok (.iconst 1, 1) := by decide +kernel
theorem dX7_may_50 : decode cX7_may 50 = .ok (.iadd, 1) := by decide +kernel
theorem dX7_may_51 : decode cX7_may 51 = .ok (.istore 9, 2) := by decide +kernel
theorem dX7_may_53 : decode cX7_may 53 = .ok (.iload 7, 2) := by decide +kernel
theorem dX7_may_55 : decode cX7_may 55 = .ok (.iconst 4, 1) := by decide +kernel
theorem dX7_may_56 : decode cX7_may 56 = .ok (.irem, 1) := by decide +kernel
theorem dX7_may_57 : decode cX7_may 57 = .ok (.iconst 1, 1) := by decide +kernel
theorem dX7_may_58 : decode cX7_may 58 = .ok (.iadd, 1) := by decide +kernel
theorem dX7_may_59 : decode cX7_may 59 = .ok (.istore 10, 2) := by decide +kernel
theorem dX7_may_61 : decode cX7_may 61 = .ok (.aload_n 0, 1) := by decide +kernel
theorem dX7_may_62 : decode cX7_may 62 = .ok (.iload 4, 2) := by decide +kernel
theorem dX7_may_64 : decode cX7_may 64 = .ok (.iload 8, 2) := by decide +kernel
theorem dX7_may_66 : decode cX7_may 66 = .ok (.invokevirtual 123, 3) := by decide +kernel
theorem dX7_may_69 : decode cX7_may 69 = .ok (.ifCond .eq 39, 3) := by decide +kernel
theorem dX7_may_72 : decode cX7_may 72 = .ok (.iload 5, 2) := by decide +kernel
theorem dX7_may_74 : decode cX7_may 74 = .ok (.ifCond .lt 14, 3) := by decide +kernel
theorem dX7_may_77 : decode cX7_may 77 = .ok (.aload_n 0, 1) := by decide +kernel
theorem dX7_may_78 : decode cX7_may 78 = .ok (.iload 5, 2) := by decide +kernel
theorem dX7_may_80 : decode cX7_may 80 = .ok (.iload 9, 2) := by decide +kernel
theorem dX7_may_82 : decode cX7_may 82 = .ok (.invokevirtual 123, 3) := by decide +kernel
theorem dX7_may_85 : decode cX7_may 85 = .ok (.ifCond .eq 23, 3) := by decide +kernel
theorem dX7_may_88 : decode cX7_may 88 = .ok (.iload 6, 2) := by decide +kernel
theorem dX7_may_90 : decode cX7_may 90 = .ok (.ifCond .lt 14, 3) := by decide +kernel
theorem dX7_may_93 : decode cX7_may 93 = .ok (.aload_n 0, 1) := by decide +kernel
theorem dX7_may_94 : decode cX7_may 94 = .ok (.iload 6, 2) := by decide +kernel
theorem dX7_may_96 : decode cX7_may 96 = .ok (.iload 10, 2) := by decide +kernel
theorem dX7_may_98 : decode cX7_may 98 = .ok (.invokevirtual 123, 3) := by decide +kernel
theorem dX7_may_101 : decode cX7_may 101 = .ok (.ifCond .eq 7, 3) := by decide +kernel
theorem dX7_may_104 : decode cX7_may 104 = .ok (.iconst 1, 1) := by decide +kernel
theorem dX7_may_105 : decode cX7_may 105 = .ok (.goto 4, 3) := by decide +kernel
theorem dX7_may_108 : decode cX7_may 108 = .ok (.iconst 0, 1) := by decide +kernel
theorem dX7_may_109 : decode cX7_may 109 = .ok (.istore 11, 2) := by decide +kernel
theorem dX7_may_111 : decode cX7_may 111 = .ok (.iload_n 2, 1) := by decide +kernel
theorem dX7_may_112 : decode cX7_may 112 = .ok (.iload 4, 2) := by decide +kernel
theorem dX7_may_114 : decode cX7_may 114 = .ok (.if_icmp .ne 8, 3) := by decide +kernel
theorem dX7_may_117 : decode cX7_may 117 = .ok (.iload 8, 2) := by decide +kernel
theorem dX7_may_119 : decode cX7_may 119 = .ok (.goto 16, 3) := by decide +kernel
theorem dX7_may_122 : decode cX7_may 122 = .ok (.iload_n 2, 1) := by decide +kernel
theorem dX7_may_123 : decode cX7_may 123 = .ok (.iload 5, 2) := by decide +kernel
theorem dX7_may_125 : decode cX7_may 125 = .ok (.if_icmp .ne 8, 3) := by decide +kernel
theorem dX7_may_128 : decode cX7_may 128 = .ok (.iload 9, 2) := by decide +kernel
theorem dX7_may_130 : decode cX7_may 130 = .ok (.goto 5, 3) := by decide +kernel
theorem dX7_may_133 : decode cX7_may 133 = .ok (.iload 10, 2) := by decide +kernel
theorem dX7_may_135 : decode cX7_may 135 = .ok (.istore 12, 2) := by decide +kernel
theorem dX7_may_137 : decode cX7_may 137 = .ok (.iload 11, 2) := by decide +kernel
theorem dX7_may_139 : decode cX7_may 139 = .ok (.ifCond .eq 25, 3) := by decide +kernel
theorem dX7_may_142 : decode cX7_may 142 = .ok (.iload 12, 2) := by decide +kernel
theorem dX7_may_144 : decode cX7_may 144 = .ok (.iload_n 3, 1) := by decide +kernel
theorem dX7_may_145 : decode cX7_may 145 = .ok (.if_icmp .ne 19, 3) := by decide +kernel
theorem dX7_may_148 : decode cX7_may 148 = .ok (.aload_n 0, 1) := by decide +kernel
theorem dX7_may_149 : decode cX7_may 149 = .ok (.iload_n 1, 1) := by decide +kernel
theorem dX7_may_150 : decode cX7_may 150 = .ok (.iload 8, 2) := by decide +kernel
theorem dX7_may_152 : decode cX7_may 152 = .ok (.iload 9, 2) := by decide +kernel
theorem dX7_may_154 : decode cX7_may 154 = .ok (.iload 10, 2) := by decide +kernel
theorem dX7_may_156 : decode cX7_may 156 = .ok (.invokevirtual 85, 3) := by decide +kernel
theorem dX7_may_159 : decode cX7_may 159 = .ok (.ifCond .eq 5, 3) := by decide +kernel
theorem dX7_may_162 : decode cX7_may 162 = .ok (.iconst 1, 1) := by decide +kernel
theorem dX7_may_163 : decode cX7_may 163 = .ok (.ireturn, 1) := by decide +kernel
theorem dX7_may_164 : decode cX7_may 164 = .ok (.iinc 7 1, 3) := by decide +kernel
theorem dX7_may_167 : decode cX7_may 167 = .ok (.goto (-140), 3) := by decide +kernel
theorem dX7_may_170 : decode cX7_may 170 = .ok (.iconst 0, 1) := by decide +kernel
theorem dX7_may_171 : decode cX7_may 171 = .ok (.ireturn, 1) := by decide +kernel
set_option maxRecDepth 20000 in
theorem ggX7_strikeByClue_X7_of : GoodIn wsX7_strikeByClue wsX7_of := goodIn_r _ [6, 7, 30, 31, 32, 33, 34, 35, 36, 37, 38, 39, 40, 41, 42, 43, 44] (by decide +kernel) (by decide +kernel)
set_option maxRecDepth 20000 in
theorem gX7_strikeByClue_X7_of : GoodIn wsX7_strikeByClue (wsV RX7 71 RX7 yX7_of wsX7_of) := goodIn_app (goodIn_of _ (by decide +kernel)) ggX7_strikeByClue_X7_of
set_option maxRecDepth 20000 in
theorem ggX7_strikeByClue_X7_isLeft : GoodIn wsX7_strikeByClue wsX7_isLeft := goodIn_r _ [11, 12, 13, 14, 5, 15, 30, 31, 32, 33, 34, 35, 36, 37, 38, 39, 40, 41, 42, 43, 44] (by decide +kernel) (by decide +kernel)
set_option maxRecDepth 20000 in
theorem gX7_strikeByClue_X7_isLeft : GoodIn wsX7_strikeByClue (wsV RX7 123 RX7 yX7_isLeft wsX7_isLeft) := goodIn_app (goodIn_of _ (by decide +kernel)) ggX7_strikeByClue_X7_isLeft
set_option maxRecDepth 20000 in
theorem ggX7_strikeByClue_X7_may : GoodIn wsX7_strikeByClue wsX7_may := goodIn_r _ [19, 2, 3, 4, 5, 6, 7, 8, 9, 10, 11, 12, 13, 14, 15, 20, 21, 22, 23, 30, 31, 32, 33, 34, 35, 36, 37, 38, 39, 40, 41, 42, 43, 44] (by decide +kernel) (by decide +kernel)
set_option maxRecDepth 20000 in
theorem gX7_strikeByClue_X7_may : GoodIn wsX7_strikeByClue (wsV RX7 126 RX7 yX7_may wsX7_may) := goodIn_app (goodIn_of _ (by decide +kernel)) ggX7_strikeByClue_X7_may
set_option maxRecDepth 20000 in
theorem ggX7_strikeByClue_X7_strike : GoodIn wsX7_strikeByClue wsX7_strike := goodIn_r _ [27, 28, 29, 12, 30, 31, 32, 33, 34, 35, 36, 37, 38, 39, 40, 41, 42, 43, 44] (by decide +kernel) (by decide +kernel)
set_option maxRecDepth 20000 in
theorem gX7_strikeByClue_X7_strike : GoodIn wsX7_strikeByClue (wsV RX7 129 RX7 yX7_strike wsX7_strike) := goodIn_app (goodIn_of _ (by decide +kernel)) ggX7_strikeByClue_X7_strike
theorem dX7_strikeByClue_0 : decode cX7_strikeByClue 0 = .ok (.iconst 0, 1) := by decide +kernel
theorem dX7_strikeByClue_1 : decode cX7_strikeByClue 1 = .ok (.istore_n 1, 1) := by decide +kernel
theorem dX7_strikeByClue_2 : decode cX7_strikeByClue 2 = .ok (.iload_n 1, 1) := by decide +kernel
theorem dX7_strikeByClue_3 : decode cX7_strikeByClue 3 = .ok (.aload_n 0, 1) := by decide +kernel
theorem dX7_strikeByClue_4 : decode cX7_strikeByClue 4 = .ok (.getfield 43, 3) := by decide +kernel
theorem dX7_strikeByClue_7 : decode cX7_strikeByClue 7 = .ok (.if_icmp .ge 80, 3) := by decide +kernel
theorem dX7_strikeByClue_10 : decode cX7_strikeByClue 10 = .ok (.iconst 1, 1) := by decide +kernel
theorem dX7_strikeByClue_11 : decode cX7_strikeByClue 11 = .ok (.istore_n 2, 1) := by decide +kernel
theorem dX7_strikeByClue_12 : decode cX7_strikeByClue 12 = .ok (.iload_n 2, 1) := by decide +kernel
theorem dX7_strikeByClue_13 : decode cX7_strikeByClue 13 = .ok (.iconst 3, 1) := by decide +kernel
theorem dX7_strikeByClue_14 : decode cX7_strikeByClue 14 = .ok (.if_icmp .gt 67, 3) := by decide +kernel
theorem dX7_strikeByClue_17 : decode cX7_strikeByClue 17 = .ok (.aload_n 0, 1) := by decide +kernel
theorem dX7_strikeByClue_18 : decode cX7_strikeByClue 18 = .ok (.iload_n 1, 1) := by decide +kernel
theorem dX7_strikeByClue_19 : decode cX7_strikeByClue 19 = .ok (.iload_n 2, 1) := by decide +kernel
theorem dX7_strikeByClue_20 : decode cX7_strikeByClue 20 = .ok (.invokevirtual 71, 3) := by decide +kernel
theorem dX7_strikeByClue_23 : decode cX7_strikeByClue 23 = .ok (.istore_n 3, 1) := by decide +kernel
theorem dX7_strikeByClue_24 : decode cX7_strikeByClue 24 = .ok (.iconst 1, 1) := by decide +kernel
theorem dX7_strikeByClue_25 : decode cX7_strikeByClue 25 = .ok (.istore 4, 2) := by decide +kernel
theorem dX7_strikeByClue_27 : decode cX7_strikeByClue 27 = .ok (.iload 4, 2) := by decide +kernel
theorem dX7_strikeByClue_29 : decode cX7_strikeByClue 29 = .ok (.iconst 4, 1) := by decide +kernel
theorem dX7_strikeByClue_30 : decode cX7_strikeByClue 30 = .ok (.if_icmp .gt 45, 3) := by decide +kernel
theorem dX7_strikeByClue_33 : decode cX7_strikeByClue 33 = .ok (.iload_n 3, 1) := by decide +kernel
theorem dX7_strikeByClue_34 : decode cX7_strikeByClue 34 = .ok (.ifCond .lt 41, 3) := by decide +kernel
theorem dX7_strikeByClue_37 : decode cX7_strikeByClue 37 = .ok (.aload_n 0, 1) := by decide +kernel
theorem dX7_strikeByClue_38 : decode cX7_strikeByClue 38 = .ok (.iload_n 3, 1) := by decide +kernel
theorem dX7_strikeByClue_39 : decode cX7_strikeByClue 39 = .ok (.iload 4, 2) := by decide +kernel
theorem dX7_strikeByClue_41 : decode cX7_strikeByClue 41 = .ok (.invokevirtual 123, 3) := by decide +kernel
theorem dX7_strikeByClue_44 : decode cX7_strikeByClue 44 = .ok (.ifCond .eq 25, 3) := by decide +kernel
theorem dX7_strikeByClue_47 : decode cX7_strikeByClue 47 = .ok (.aload_n 0, 1) := by decide +kernel
theorem dX7_strikeByClue_48 : decode cX7_strikeByClue 48 = .ok (.iload_n 1, 1) := by decide +kernel
theorem dX7_strikeByClue_49 : decode cX7_strikeByClue 49 = .ok (.iload_n 3, 1) := by decide +kernel
theorem dX7_strikeByClue_50 : decode cX7_strikeByClue 50 = .ok (.iload 4, 2) := by decide +kernel
theorem dX7_strikeByClue_52 : decode cX7_strikeByClue 52 = .ok (.invokevirtual 126, 3) := by decide +kernel
theorem dX7_strikeByClue_55 : decode cX7_strikeByClue 55 = .ok (.ifCond .ne 14, 3) := by decide +kernel
theorem dX7_strikeByClue_58 : decode cX7_strikeByClue 58 = .ok (.aload_n 0, 1) := by decide +kernel
theorem dX7_strikeByClue_59 : decode cX7_strikeByClue 59 = .ok (.iconst 0, 1) := by decide +kernel
theorem dX7_strikeByClue_60 : decode cX7_strikeByClue 60 = .ok (.iload_n 1, 1) := by decide +kernel
theorem dX7_strikeByClue_61 : decode cX7_strikeByClue 61 = .ok (.iload_n 3, 1) := by decide +kernel
theorem dX7_strikeByClue_62 : decode cX7_strikeByClue 62 = .ok (.iload 4, 2) := by decide +kernel
theorem dX7_strikeByClue_64 : decode cX7_strikeByClue 64 = .ok (.invokevirtual 129, 3) := by decide +kernel
theorem dX7_strikeByClue_67 : decode cX7_strikeByClue 67 = .ok (.iconst 1, 1) := by decide +kernel
theorem dX7_strikeByClue_68 : decode cX7_strikeByClue 68 = .ok (.ireturn, 1) := by decide +kernel
theorem dX7_strikeByClue_69 : decode cX7_strikeByClue 69 = .ok (.iinc 4 1, 3) := by decide +kernel
theorem dX7_strikeByClue_72 : decode cX7_strikeByClue 72 = .ok (.goto (-45), 3) := by decide +kernel
theorem dX7_strikeByClue_75 : decode cX7_strikeByClue 75 = .ok (.iinc 2 1, 3) := by decide +kernel
theorem dX7_strikeByClue_78 : decode cX7_strikeByClue 78 = .ok (.goto (-66), 3) := by decide +kernel
theorem dX7_strikeByClue_81 : decode cX7_strikeByClue 81 = .ok (.iinc 1 1, 3) := by decide +kernel
theorem dX7_strikeByClue_84 : decode cX7_strikeByClue 84 = .ok (.goto (-82), 3) := by decide +kernel
theorem dX7_strikeByClue_87 : decode cX7_strikeByClue 87 = .ok (.iconst 0, 1) := by decide +kernel
theorem dX7_strikeByClue_88 : decode cX7_strikeByClue 88 = .ok (.ireturn, 1) := by decide +kernel
set_option maxRecDepth 20000 in
theorem ggX7_strikeByItem_X7_bits : GoodIn wsX7_strikeByItem wsX7_bits := goodIn_r _ [5] (by decide +kernel) (by decide +kernel)
set_option maxRecDepth 20000 in
theorem gX7_strikeByItem_X7_bits : GoodIn wsX7_strikeByItem (va_wsS RX7 133 yX7_bits wsX7_bits) := goodIn_app (goodIn_of _ (by decide +kernel)) ggX7_strikeByItem_X7_bits
set_option maxRecDepth 20000 in
theorem ggX7_strikeByItem_X7_placeIn : GoodIn wsX7_strikeByItem wsX7_placeIn := goodIn_r _ [8, 9, 10, 4, 11] (by decide +kernel) (by decide +kernel)
set_option maxRecDepth 20000 in
theorem gX7_strikeByItem_X7_placeIn : GoodIn wsX7_strikeByItem (va_wsS RX7 136 yX7_placeIn wsX7_placeIn) := goodIn_app (goodIn_of _ (by decide +kernel)) ggX7_strikeByItem_X7_placeIn
set_option maxRecDepth 20000 in
theorem ggX7_strikeByItem_X7_strike : GoodIn wsX7_strikeByItem wsX7_strike := goodIn_r _ [15, 16, 17, 1, 18, 19, 20, 21, 22, 23, 24, 25, 26, 27, 28, 29, 30, 31, 32] (by decide +kernel) (by decide +kernel)
set_option maxRecDepth 20000 in
theorem gX7_strikeByItem_X7_strike : GoodIn wsX7_strikeByItem (wsV RX7 129 RX7 yX7_strike wsX7_strike) := goodIn_app (goodIn_of _ (by decide +kernel)) ggX7_strikeByItem_X7_strike
theorem dX7_strikeByItem_0 : decode cX7_strikeByItem 0 = .ok (.iconst 0, 1) := by decide +kernel
theorem dX7_strikeByItem_1 : decode cX7_strikeByItem 1 = .ok (.istore_n 1, 1) := by decide +kernel
theorem dX7_strikeByItem_2 : decode cX7_strikeByItem 2 = .ok (.iload_n 1, 1) := by decide +kernel
theorem dX7_strikeByItem_3 : decode cX7_strikeByItem 3 = .ok (.bipush 16, 2) := by decide +kernel
theorem dX7_strikeByItem_5 : decode cX7_strikeByItem 5 = .ok (.if_icmp .ge 85, 3) := by decide +kernel
theorem dX7_strikeByItem_8 : decode cX7_strikeByItem 8 = .ok (.aload_n 0, 1) := by decide +kernel
theorem dX7_strikeByItem_9 : decode cX7_strikeByItem 9 = .ok (.getfield 26, 3) := by decide +kernel
theorem dX7_strikeByItem_12 : decode cX7_strikeByItem 12 = .ok (.iload_n 1, 1) := by decide +kernel
theorem dX7_strikeByItem_13 : decode cX7_strikeByItem 13 = .ok (.iaload, 1) := by decide +kernel
theorem dX7_strikeByItem_14 : decode cX7_strikeByItem 14 = .ok (.invokestatic 133, 3) := by decide +kernel
theorem dX7_strikeByItem_17 : decode cX7_strikeByItem 17 = .ok (.iconst 1, 1) := by decide +kernel
theorem dX7_strikeByItem_18 : decode cX7_strikeByItem 18 = .ok (.if_icmp .ne 66, 3) := by decide +kernel
theorem dX7_strikeByItem_21 : decode cX7_strikeByItem 21 = .ok (.iload_n 1, 1) := by decide +kernel
theorem dX7_strikeByItem_22 : decode cX7_strikeByItem 22 = .ok (.iconst 4, 1) := by decide +kernel
theorem dX7_strikeByItem_23 : decode cX7_strikeByItem 23 = .ok (.idiv, 1) := by decide +kernel
theorem dX7_strikeByItem_24 : decode cX7_strikeByItem 24 = .ok (.iconst 4, 1) := by decide +kernel
theorem dX7_strikeByItem_25 : decode cX7_strikeByItem 25 = .ok (.imul, 1) := by decide +kernel
theorem dX7_strikeByItem_26 : decode cX7_strikeByItem 26 = .ok (.istore_n 2, 1) := by decide +kernel
theorem dX7_strikeByItem_27 : decode cX7_strikeByItem 27 = .ok (.iload_n 2, 1) := by decide +kernel
theorem dX7_strikeByItem_28 : decode cX7_strikeByItem 28 = .ok (.iload_n 1, 1) := by decide +kernel
theorem dX7_strikeByItem_29 : decode cX7_strikeByItem 29 = .ok (.iconst 4, 1) := by decide +kernel
theorem dX7_strikeByItem_30 : decode cX7_strikeByItem 30 = .ok (.idiv, 1) := by decide +kernel
theorem dX7_strikeByItem_31 : decode cX7_strikeByItem 31 = .ok (.iconst 4, 1) := by decide +kernel
theorem dX7_strikeByItem_32 : decode cX7_strikeByItem 32 = .ok (.imul, 1) := by decide +kernel
theorem dX7_strikeByItem_33 : decode cX7_strikeByItem 33 = .ok (.iconst 4, 1) := by decide +kernel
theorem dX7_strikeByItem_34 : decode cX7_strikeByItem 34 = .ok (.iadd, 1) := by decide +kernel
theorem dX7_strikeByItem_35 : decode cX7_strikeByItem 35 = .ok (.if_icmp .ge 49, 3) := by decide +kernel
theorem dX7_strikeByItem_38 : decode cX7_strikeByItem 38 = .ok (.iload_n 2, 1) := by decide +kernel
theorem dX7_strikeByItem_39 : decode cX7_strikeByItem 39 = .ok (.iload_n 1, 1) := by decide +kernel
theorem dX7_strikeByItem_40 : decode cX7_strikeByItem 40 = .ok (.if_icmp .eq 38, 3) := by decide +kernel
theorem dX7_strikeByItem_43 : decode cX7_strikeByItem 43 = .ok (.aload_n 0, 1) := by decide +kernel
theorem dX7_strikeByItem_44 : decode cX7_strikeByItem 44 = .ok (.getfield 26, 3) := by decide +kernel
theorem dX7_strikeByItem_47 : decode cX7_strikeByItem 47 = .ok (.iload_n 2, 1) := by decide +kernel
theorem dX7_strikeByItem_48 : decode cX7_strikeByItem 48 = .ok (.iaload, 1) := by decide +kernel
theorem dX7_strikeByItem_49 : decode cX7_strikeByItem 49 = .ok (.aload_n 0, 1) := by decide +kernel
theorem dX7_strikeByItem_50 : decode cX7_strikeByItem 50 = .ok (.getfield 26, 3) := by decide +kernel
theorem dX7_strikeByItem_53 : decode cX7_strikeByItem 53 = .ok (.iload_n 1, 1) := by decide +kernel
theorem dX7_strikeByItem_54 : decode cX7_strikeByItem 54 = .ok (.iaload, 1) := by decide +kernel
theorem dX7_strikeByItem_55 : decode cX7_strikeByItem 55 = .ok (.iand, 1) := by decide +kernel
theorem dX7_strikeByItem_56 : decode cX7_strikeByItem 56 = .ok (.ifCond .eq 22, 3) := by decide +kernel
theorem dX7_strikeByItem_59 : decode cX7_strikeByItem 59 = .ok (.aload_n 0, 1) := by decide +kernel
theorem dX7_strikeByItem_60 : decode cX7_strikeByItem 60 = .ok (.iconst 1, 1) := by decide +kernel
theorem dX7_strikeByItem_61 : decode cX7_strikeByItem 61 = .ok (.bipush (-6), 2) := by decide +kernel
theorem dX7_strikeByItem_63 : decode cX7_strikeByItem 63 = .ok (.iload_n 2, 1) := by decide +kernel
theorem dX7_strikeByItem_64 : decode cX7_strikeByItem 64 = .ok (.aload_n 0, 1) := by decide +kernel
theorem dX7_strikeByItem_65 : decode cX7_strikeByItem 65 = .ok (.getfield 26, 3) := by decide +kernel
theorem dX7_strikeByItem_68 : decode cX7_strikeByItem 68 = .ok (.iload_n 1, 1) := by decide +kernel
theorem dX7_strikeByItem_69 : decode cX7_strikeByItem 69 = .ok (.iaload, 1) := by decide +kernel
theorem dX7_strikeByItem_70 : decode cX7_strikeByItem 70 = .ok (.invokestatic 136, 3) := by decide +kernel
theorem dX7_strikeByItem_73 : decode cX7_strikeByItem 73 = .ok (.invokevirtual 129, 3) := by decide +kernel
theorem dX7_strikeByItem_76 : decode cX7_strikeByItem 76 = .ok (.iconst 1, 1) := by decide +kernel
theorem dX7_strikeByItem_77 : decode cX7_strikeByItem 77 = .ok (.ireturn, 1) := by decide +kernel
theorem dX7_strikeByItem_78 : decode cX7_strikeByItem 78 = .ok (.iinc 2 1, 3) := by decide +kernel
theorem dX7_strikeByItem_81 : decode cX7_strikeByItem 81 = .ok (.goto (-54), 3) := by decide +kernel
theorem dX7_strikeByItem_84 : decode cX7_strikeByItem 84 = .ok (.iinc 1 1, 3) := by decide +kernel
theorem dX7_strikeByItem_87 : decode cX7_strikeByItem 87 = .ok (.goto (-85), 3) := by decide +kernel
theorem dX7_strikeByItem_90 : decode cX7_strikeByItem 90 = .ok (.iconst 0, 1) := by decide +kernel
theorem dX7_strikeByItem_91 : decode cX7_strikeByItem 91 = .ok (.ireturn, 1) := by decide +kernel
set_option maxRecDepth 20000 in
theorem ggX7_placeIn_X7_has : GoodIn wsX7_placeIn wsX7_has := goodIn_r _ [4] (by decide +kernel) (by decide +kernel)
set_option maxRecDepth 20000 in
theorem gX7_placeIn_X7_has : GoodIn wsX7_placeIn (va_wsS RX7 75 yX7_has wsX7_has) := goodIn_app (goodIn_of _ (by decide +kernel)) ggX7_placeIn_X7_has
theorem dX7_placeIn_0 : decode cX7_placeIn 0 = .ok (.iconst 1, 1) := by decide +kernel
theorem dX7_placeIn_1 : decode cX7_placeIn 1 = .ok (.istore_n 1, 1) := by decide +kernel
theorem dX7_placeIn_2 : decode cX7_placeIn 2 = .ok (.iload_n 0, 1) := by decide +kernel
theorem dX7_placeIn_3 : decode cX7_placeIn 3 = .ok (.iload_n 1, 1) := by decide +kernel
theorem dX7_placeIn_4 : decode cX7_placeIn 4 = .ok (.invokestatic 75, 3) := by decide +kernel
theorem dX7_placeIn_7 : decode cX7_placeIn 7 = .ok (.ifCond .ne 9, 3) := by decide +kernel
theorem dX7_placeIn_10 : decode cX7_placeIn 10 = .ok (.iinc 1 1, 3) := by decide +kernel
theorem dX7_placeIn_13 : decode cX7_placeIn 13 = .ok (.goto (-11), 3) := by decide +kernel
theorem dX7_placeIn_16 : decode cX7_placeIn 16 = .ok (.iload_n 1, 1) := by decide +kernel
theorem dX7_placeIn_17 : decode cX7_placeIn 17 = .ok (.ireturn, 1) := by decide +kernel
set_option maxRecDepth 20000 in
theorem ggX7_onlyOne_X7_isLeft : GoodIn wsX7_onlyOne wsX7_isLeft := goodIn_r _ [5, 6, 7, 8, 4, 9, 10, 11, 12, 13, 14, 15, 16, 17, 18, 19, 20, 21, 22, 23, 24] (by decide +kernel) (by decide +kernel)
set_option maxRecDepth 20000 in
theorem gX7_onlyOne_X7_isLeft : GoodIn wsX7_onlyOne (wsV RX7 123 RX7 yX7_isLeft wsX7_isLeft) := goodIn_app (goodIn_of _ (by decide +kernel)) ggX7_onlyOne_X7_isLeft
theorem dX7_onlyOne_0 : decode cX7_onlyOne 0 = .ok (.bipush (-6), 2) := by decide +kernel
theorem dX7_onlyOne_2 : decode cX7_onlyOne 2 = .ok (.istore_n 3, 1) := by decide +kernel
theorem dX7_onlyOne_3 : decode cX7_onlyOne 3 = .ok (.iconst 0, 1) := by decide +kernel
theorem dX7_onlyOne_4 : decode cX7_onlyOne 4 = .ok (.istore 4, 2) := by decide +kernel
theorem dX7_onlyOne_6 : decode cX7_onlyOne 6 = .ok (.iconst 4, 1) := by decide +kernel
theorem dX7_onlyOne_7 : decode cX7_onlyOne 7 = .ok (.iload_n 1, 1) := by decide +kernel
theorem dX7_onlyOne_8 : decode cX7_onlyOne 8 = .ok (.imul, 1) := by decide +kernel
theorem dX7_onlyOne_9 : decode cX7_onlyOne 9 = .ok (.istore 5, 2) := by decide +kernel
theorem dX7_onlyOne_11 : decode cX7_onlyOne 11 = .ok (.iload 5, 2) := by decide +kernel
theorem dX7_onlyOne_13 : decode cX7_onlyOne 13 = .ok (.iconst 4, 1) := by decide +kernel
theorem dX7_onlyOne_14 : decode cX7_onlyOne 14 = .ok (.iload_n 1, 1) := by decide +kernel
theorem dX7_onlyOne_15 : decode cX7_onlyOne 15 = .ok (.imul, 1) := by decide +kernel
theorem dX7_onlyOne_16 : decode cX7_onlyOne 16 = .ok (.iconst 4, 1) := by decide +kernel
theorem dX7_onlyOne_17 : decode cX7_onlyOne 17 = .ok (.iadd, 1) := by decide +kernel
theorem dX7_onlyOne_18 : decode cX7_onlyOne 18 = .ok (.if_icmp .ge 25, 3) := by decide +kernel
theorem dX7_onlyOne_21 : decode cX7_onlyOne 21 = .ok (.aload_n 0, 1) := by decide +kernel
theorem dX7_onlyOne_22 : decode cX7_onlyOne 22 = .ok (.iload 5, 2) := by decide +kernel
theorem dX7_onlyOne_24 : decode cX7_onlyOne 24 = .ok (.iload_n 2, 1) := by decide +kernel
theorem dX7_onlyOne_25 : decode cX7_onlyOne 25 = .ok (.invokevirtual 123, 3) := by decide +kernel
theorem dX7_onlyOne_28 : decode cX7_onlyOne 28 = .ok (.ifCond .eq 9, 3) := by decide +kernel
theorem dX7_onlyOne_31 : decode cX7_onlyOne 31 = .ok (.iload 5, 2) := by decide +kernel
theorem dX7_onlyOne_33 : decode cX7_onlyOne 33 = .ok (.istore_n 3, 1) := by decide +kernel
theorem dX7_onlyOne_34 : decode cX7_onlyOne 34 = .ok (.iinc 4 1, 3) := by decide +kernel
theorem dX7_onlyOne_37 : decode cX7_onlyOne 37 = .ok (.iinc 5 1, 3) := by decide +kernel
theorem dX7_onlyOne_40 : decode cX7_onlyOne 40 = .ok (.goto (-29), 3) := by decide +kernel
theorem dX7_onlyOne_43 : decode cX7_onlyOne 43 = .ok (.iload 4, 2) := by decide +kernel
theorem dX7_onlyOne_45 : decode cX7_onlyOne 45 = .ok (.iconst 1, 1) := by decide +kernel
theorem dX7_onlyOne_46 : decode cX7_onlyOne 46 = .ok (.if_icmp .ne 7, 3) := by decide +kernel
theorem dX7_onlyOne_49 : decode cX7_onlyOne 49 = .ok (.iload_n 3, 1) := by decide +kernel
theorem dX7_onlyOne_50 : decode cX7_onlyOne 50 = .ok (.goto 5, 3) := by decide +kernel
theorem dX7_onlyOne_53 : decode cX7_onlyOne 53 = .ok (.bipush (-6), 2) := by decide +kernel
theorem dX7_onlyOne_55 : decode cX7_onlyOne 55 = .ok (.ireturn, 1) := by decide +kernel
set_option maxRecDepth 20000 in
theorem ggX7_strikeByPlace_X7_onlyOne : GoodIn wsX7_strikeByPlace wsX7_onlyOne := goodIn_r _ [6, 7, 8, 9, 5, 10, 1, 11, 12, 13, 26, 27, 28, 29, 30, 31, 32, 33, 34, 35, 36, 37, 38, 39, 40] (by decide +kernel) (by decide +kernel)
set_option maxRecDepth 20000 in
theorem gX7_strikeByPlace_X7_onlyOne : GoodIn wsX7_strikeByPlace (wsV RX7 139 RX7 yX7_onlyOne wsX7_onlyOne) := goodIn_app (goodIn_of _ (by decide +kernel)) ggX7_strikeByPlace_X7_onlyOne
set_option maxRecDepth 20000 in
theorem ggX7_strikeByPlace_X7_bits : GoodIn wsX7_strikeByPlace wsX7_bits := goodIn_r _ [16] (by decide +kernel) (by decide +kernel)
set_option maxRecDepth 20000 in
theorem gX7_strikeByPlace_X7_bits : GoodIn wsX7_strikeByPlace (va_wsS RX7 133 yX7_bits wsX7_bits) := goodIn_app (goodIn_of _ (by decide +kernel)) ggX7_strikeByPlace_X7_bits
set_option maxRecDepth 20000 in
theorem ggX7_strikeByPlace_X7_placeIn : GoodIn wsX7_strikeByPlace wsX7_placeIn := goodIn_r _ [19, 11, 12, 5, 13] (by decide +kernel) (by decide +kernel)
set_option maxRecDepth 20000 in
theorem gX7_strikeByPlace_X7_placeIn : GoodIn wsX7_strikeByPlace (va_wsS RX7 136 yX7_placeIn wsX7_placeIn) := goodIn_app (goodIn_of _ (by decide +kernel)) ggX7_strikeByPlace_X7_placeIn
set_option maxRecDepth 20000 in
theorem ggX7_strikeByPlace_X7_strike : GoodIn wsX7_strikeByPlace wsX7_strike := goodIn_r _ [23, 24, 25, 1, 26, 27, 28, 29, 30, 31, 32, 33, 34, 35, 36, 37, 38, 39, 40] (by decide +kernel) (by decide +kernel)
set_option maxRecDepth 20000 in
theorem gX7_strikeByPlace_X7_strike : GoodIn wsX7_strikeByPlace (wsV RX7 129 RX7 yX7_strike wsX7_strike) := goodIn_app (goodIn_of _ (by decide +kernel)) ggX7_strikeByPlace_X7_strike
theorem dX7_strikeByPlace_0 : decode cX7_strikeByPlace 0 = .ok (.iconst 0, 1) := by decide +kernel
theorem dX7_strikeByPlace_1 : decode cX7_strikeByPlace 1 = .ok (.istore_n 1, 1) := by decide +kernel
theorem dX7_strikeByPlace_2 : decode cX7_strikeByPlace 2 = .ok (.iload_n 1, 1) := by decide +kernel
theorem dX7_strikeByPlace_3 : decode cX7_strikeByPlace 3 = .ok (.bipush 16, 2) := by decide +kernel
theorem dX7_strikeByPlace_5 : decode cX7_strikeByPlace 5 = .ok (.if_icmp .ge 66, 3) := by decide +kernel
theorem dX7_strikeByPlace_8 : decode cX7_strikeByPlace 8 = .ok (.iload_n 1, 1) := by decide +kernel
theorem dX7_strikeByPlace_9 : decode cX7_strikeByPlace 9 = .ok (.iconst 4, 1) := by decide +kernel
theorem dX7_strikeByPlace_10 : decode cX7_strikeByPlace 10 = .ok (.irem, 1) := by decide +kernel
theorem dX7_strikeByPlace_11 : decode cX7_strikeByPlace 11 = .ok (.iconst 1, 1) := by decide +kernel
theorem dX7_strikeByPlace_12 : decode cX7_strikeByPlace 12 = .ok (.iadd, 1) := by decide +kernel
theorem dX7_strikeByPlace_13 : decode cX7_strikeByPlace 13 = .ok (.istore_n 2, 1) := by decide +kernel
theorem dX7_strikeByPlace_14 : decode cX7_strikeByPlace 14 = .ok (.aload_n 0, 1) := by decide +kernel
theorem dX7_strikeByPlace_15 : decode cX7_strikeByPlace 15 = .ok (.iload_n 1, 1) := by decide +kernel
theorem dX7_strikeByPlace_16 : decode cX7_strikeByPlace 16 = .ok (.iconst 4, 1) := by decide +kernel
theorem dX7_strikeByPlace_17 : decode cX7_strikeByPlace 17 = .ok (.idiv, 1) := by decide +kernel
theorem dX7_strikeByPlace_18 : decode cX7_strikeByPlace 18 = .ok (.iload_n 2, 1) := by decide +kernel
theorem dX7_strikeByPlace_19 : decode cX7_strikeByPlace 19 = .ok (.invokevirtual 139, 3) := by decide +kernel
theorem dX7_strikeByPlace_22 : decode cX7_strikeByPlace 22 = .ok (.istore_n 3, 1) := by decide +kernel
theorem dX7_strikeByPlace_23 : decode cX7_strikeByPlace 23 = .ok (.iload_n 3, 1) := by decide +kernel
theorem dX7_strikeByPlace_24 : decode cX7_strikeByPlace 24 = .ok (.ifCond .lt 41, 3) := by decide +kernel
theorem dX7_strikeByPlace_27 : decode cX7_strikeByPlace 27 = .ok (.aload_n 0, 1) := by decide +kernel
theorem dX7_strikeByPlace_28 : decode cX7_strikeByPlace 28 = .ok (.getfield 26, 3) := by decide +kernel
theorem dX7_strikeByPlace_31 : decode cX7_strikeByPlace 31 = .ok (.iload_n 3, 1) := by decide +kernel
theorem dX7_strikeByPlace_32 : decode cX7_strikeByPlace 32 = .ok (.iaload, 1) := by decide +kernel
theorem dX7_strikeByPlace_33 : decode cX7_strikeByPlace 33 = .ok (.invokestatic 133, 3) := by decide +kernel
theorem dX7_strikeByPlace_36 : decode cX7_strikeByPlace 36 = .ok (.iconst 1, 1) := by decide +kernel
theorem dX7_strikeByPlace_37 : decode cX7_strikeByPlace 37 = .ok (.if_icmp .le 28, 3) := by decide +kernel
theorem dX7_strikeByPlace_40 : decode cX7_strikeByPlace 40 = .ok (.aload_n 0, 1) := by decide +kernel
theorem dX7_strikeByPlace_41 : decode cX7_strikeByPlace 41 = .ok (.iconst 2, 1) := by decide +kernel
theorem dX7_strikeByPlace_42 : decode cX7_strikeByPlace 42 = .ok (.bipush (-6), 2) := by decide +kernel
theorem dX7_strikeByPlace_44 : decode cX7_strikeByPlace 44 = .ok (.iload_n 3, 1) := by decide +kernel
theorem dX7_strikeByPlace_45 : decode cX7_strikeByPlace 45 = .ok (.aload_n 0, 1) := by decide +kernel
theorem dX7_strikeByPlace_46 : decode cX7_strikeByPlace 46 = .ok (.getfield 26, 3) := by decide +kernel
theorem dX7_strikeByPlace_49 : decode cX7_strikeByPlace 49 = .ok (.iload_n 3, 1) := by decide +kernel
theorem dX7_strikeByPlace_50 : decode cX7_strikeByPlace 50 = .ok (.iaload, 1) := by decide +kernel
theorem dX7_strikeByPlace_51 : decode cX7_strikeByPlace 51 = .ok (.iconst 1, 1) := by decide +kernel
theorem dX7_strikeByPlace_52 : decode cX7_strikeByPlace 52 = .ok (.iload_n 2, 1) := by decide +kernel
theorem dX7_strikeByPlace_53 : decode cX7_strikeByPlace 53 = .ok (.ishl, 1) := by decide +kernel
theorem dX7_strikeByPlace_54 : decode cX7_strikeByPlace 54 = .ok (.iconst (-1), 1) := by decide +kernel
theorem dX7_strikeByPlace_55 : decode cX7_strikeByPlace 55 = .ok (.ixor, 1) := by decide +kernel
theorem dX7_strikeByPlace_56 : decode cX7_strikeByPlace 56 = .ok (.iand, 1) := by decide +kernel
theorem dX7_strikeByPlace_57 : decode cX7_strikeByPlace 57 = .ok (.invokestatic 136, 3) := by decide +kernel
theorem dX7_strikeByPlace_60 : decode cX7_strikeByPlace 60 = .ok (.invokevirtual 129, 3) := by decide +kernel
theorem dX7_strikeByPlace_63 : decode cX7_strikeByPlace 63 = .ok (.iconst 1, 1) := by decide +kernel
theorem dX7_strikeByPlace_64 : decode cX7_strikeByPlace 64 = .ok (.ireturn, 1) := by decide +kernel
theorem dX7_strikeByPlace_65 : decode cX7_strikeByPlace 65 = .ok (.iinc 1 1, 3) := by decide +kernel
theorem dX7_strikeByPlace_68 : decode cX7_strikeByPlace 68 = .ok (.goto (-66), 3) := by decide +kernel
theorem dX7_strikeByPlace_71 : decode cX7_strikeByPlace 71 = .ok (.iconst 0, 1) := by decide +kernel
theorem dX7_strikeByPlace_72 : decode cX7_strikeByPlace 72 = .ok (.ireturn, 1) := by decide +kernel
theorem dX7_isEmpty_0 : decode cX7_isEmpty 0 = .ok (.iconst 0, 1) := by decide +kernel
theorem dX7_isEmpty_1 : decode cX7_isEmpty 1 = .ok (.istore_n 1, 1) := by decide +kernel
theorem dX7_isEmpty_2 : decode cX7_isEmpty 2 = .ok (.iconst 0, 1) := by decide +kernel
theorem dX7_isEmpty_3 : decode cX7_isEmpty 3 = .ok (.istore_n 2, 1) := by decide +kernel
theorem dX7_isEmpty_4 : decode cX7_isEmpty 4 = .ok (.iload_n 2, 1) := by decide +kernel
theorem dX7_isEmpty_5 : decode cX7_isEmpty 5 = .ok (.bipush 16, 2) := by decide +kernel
theorem dX7_isEmpty_7 : decode cX7_isEmpty 7 = .ok (.if_icmp .ge 28, 3) := by decide +kernel
theorem dX7_isEmpty_10 : decode cX7_isEmpty 10 = .ok (.iload_n 1, 1) := by decide +kernel
theorem dX7_isEmpty_11 : decode cX7_isEmpty 11 = .ok (.ifCond .ne 12, 3) := by decide +kernel
theorem dX7_isEmpty_14 : decode cX7_isEmpty 14 = .ok (.aload_n 0, 1) := by decide +kernel
theorem dX7_isEmpty_15 : decode cX7_isEmpty 15 = .ok (.getfield 26, 3) := by decide +kernel
theorem dX7_isEmpty_18 : decode cX7_isEmpty 18 = .ok (.iload_n 2, 1) := by decide +kernel
theorem dX7_isEmpty_19 : decode cX7_isEmpty 19 = .ok (.iaload, 1) := by decide +kernel
theorem dX7_isEmpty_20 : decode cX7_isEmpty 20 = .ok (.ifCond .ne 7, 3) := by decide +kernel
theorem dX7_isEmpty_23 : decode cX7_isEmpty 23 = .ok (.iconst 1, 1) := by decide +kernel
theorem dX7_isEmpty_24 : decode cX7_isEmpty 24 = .ok (.goto 4, 3) := by decide +kernel
theorem dX7_isEmpty_27 : decode cX7_isEmpty 27 = .ok (.iconst 0, 1) := by decide +kernel
theorem dX7_isEmpty_28 : decode cX7_isEmpty 28 = .ok (.istore_n 1, 1) := by decide +kernel
theorem dX7_isEmpty_29 : decode cX7_isEmpty 29 = .ok (.iinc 2 1, 3) := by decide +kernel
theorem dX7_isEmpty_32 : decode cX7_isEmpty 32 = .ok (.goto (-28), 3) := by decide +kernel
theorem dX7_isEmpty_35 : decode cX7_isEmpty 35 = .ok (.iload_n 1, 1) := by decide +kernel
theorem dX7_isEmpty_36 : decode cX7_isEmpty 36 = .ok (.ireturn, 1) := by decide +kernel
set_option maxRecDepth 20000 in
theorem ggX7_solve_X7_isEmpty : GoodIn wsX7_solve wsX7_isEmpty := goodIn_r _ [7, 2, 56, 57, 58, 59, 60, 61, 62, 63, 64, 65, 66, 67, 68, 69, 70] (by decide +kernel) (by decide +kernel)
set_option maxRecDepth 20000 in
theorem gX7_solve_X7_isEmpty : GoodIn wsX7_solve (wsV RX7 142 RX7 yX7_isEmpty wsX7_isEmpty) := goodIn_app (goodIn_of _ (by decide +kernel)) ggX7_solve_X7_isEmpty
set_option maxRecDepth 20000 in
theorem ggX7_solve_X7_strikeByClue : GoodIn wsX7_solve wsX7_strikeByClue := goodIn_r _ [11, 12, 13, 14, 15, 6, 16, 17, 18, 19, 20, 21, 2, 22, 23, 24, 25, 26, 27, 28, 29, 30, 31, 32, 33, 34, 35, 36, 37, 1, 56, 57, 58, 59, 60, 61, 62, 63, 64, 65, 66, 67, 68, 69, 70] (by decide +kernel) (by decide +kernel)
set_option maxRecDepth 20000 in
theorem gX7_solve_X7_strikeByClue : GoodIn wsX7_solve (wsV RX7 146 RX7 yX7_strikeByClue wsX7_strikeByClue) := goodIn_app (goodIn_of _ (by decide +kernel)) ggX7_solve_X7_strikeByClue
set_option maxRecDepth 20000 in
theorem ggX7_solve_X7_strikeByItem : GoodIn wsX7_solve wsX7_strikeByItem := goodIn_r _ [41, 2, 42, 43, 6, 44, 45, 46, 47, 22, 23, 24, 33, 34, 35, 36, 37, 1, 56, 57, 58, 59, 60, 61, 62, 63, 64, 65, 66, 67, 68, 69, 70] (by decide +kernel) (by decide +kernel)
set_option maxRecDepth 20000 in
theorem gX7_solve_X7_strikeByItem : GoodIn wsX7_solve (wsV RX7 149 RX7 yX7_strikeByItem wsX7_strikeByItem) := goodIn_app (goodIn_of _ (by decide +kernel)) ggX7_solve_X7_strikeByItem
set_option maxRecDepth 20000 in
theorem ggX7_solve_X7_strikeByPlace : GoodIn wsX7_solve wsX7_strikeByPlace := goodIn_r _ [51, 2, 52, 53, 54, 6, 55, 18, 19, 20, 21, 22, 23, 24, 42, 43, 44, 45, 46, 47, 33, 34, 35, 36, 37, 1, 56, 57, 58, 59, 60, 61, 62, 63, 64, 65, 66, 67, 68, 69, 70] (by decide +kernel) (by decide +kernel)
set_option maxRecDepth 20000 in
theorem gX7_solve_X7_strikeByPlace : GoodIn wsX7_solve (wsV RX7 152 RX7 yX7_strikeByPlace wsX7_strikeByPlace) := goodIn_app (goodIn_of _ (by decide +kernel)) ggX7_solve_X7_strikeByPlace
theorem dX7_solve_0 : decode cX7_solve 0 = .ok (.aload_n 0, 1) := by decide +kernel
theorem dX7_solve_1 : decode cX7_solve 1 = .ok (.iconst 0, 1) := by decide +kernel
theorem dX7_solve_2 : decode cX7_solve 2 = .ok (.putfield 120, 3) := by decide +kernel
theorem dX7_solve_5 : decode cX7_solve 5 = .ok (.iconst 0, 1) := by decide +kernel
theorem dX7_solve_6 : decode cX7_solve 6 = .ok (.istore_n 2, 1) := by decide +kernel
theorem dX7_solve_7 : decode cX7_solve 7 = .ok (.iload_n 2, 1) := by decide +kernel
theorem dX7_solve_8 : decode cX7_solve 8 = .ok (.bipush 16, 2) := by decide +kernel
theorem dX7_solve_10 : decode cX7_solve 10 = .ok (.if_icmp .ge 17, 3) := by decide +kernel
theorem dX7_solve_13 : decode cX7_solve 13 = .ok (.aload_n 0, 1) := by decide +kernel
theorem dX7_solve_14 : decode cX7_solve 14 = .ok (.getfield 26, 3) := by decide +kernel
theorem dX7_solve_17 : decode cX7_solve 17 = .ok (.iload_n 2, 1) := by decide +kernel
theorem dX7_solve_18 : decode cX7_solve 18 = .ok (.bipush 30, 2) := by decide +kernel
theorem dX7_solve_20 : decode cX7_solve 20 = .ok (.iastore, 1) := by decide +kernel
theorem dX7_solve_21 : decode cX7_solve 21 = .ok (.iinc 2 1, 3) := by decide +kernel
theorem dX7_solve_24 : decode cX7_solve 24 = .ok (.goto (-17), 3) := by decide +kernel
theorem dX7_solve_27 : decode cX7_solve 27 = .ok (.iconst 1, 1) := by decide +kernel
theorem dX7_solve_28 : decode cX7_solve 28 = .ok (.istore_n 2, 1) := by decide +kernel
theorem dX7_solve_29 : decode cX7_solve 29 = .ok (.iload_n 2, 1) := by decide +kernel
theorem dX7_solve_30 : decode cX7_solve 30 = .ok (.ifCond .eq 48, 3) := by decide +kernel
theorem dX7_solve_33 : decode cX7_solve 33 = .ok (.aload_n 0, 1) := by decide +kernel
theorem dX7_solve_34 : decode cX7_solve 34 = .ok (.getfield 120, 3) := by decide +kernel
theorem dX7_solve_37 : decode cX7_solve 37 = .ok (.iload_n 1, 1) := by decide +kernel
theorem dX7_solve_38 : decode cX7_solve 38 = .ok (.if_icmp .ge 40, 3) := by decide +kernel
theorem dX7_solve_41 : decode cX7_solve 41 = .ok (.aload_n 0, 1) := by decide +kernel
theorem dX7_solve_42 : decode cX7_solve 42 = .ok (.invokevirtual 142, 3) := by decide +kernel
theorem dX7_solve_45 : decode cX7_solve 45 = .ok (.ifCond .ne 33, 3) := by decide +kernel
theorem dX7_solve_48 : decode cX7_solve 48 = .ok (.aload_n 0, 1) := by decide +kernel
theorem dX7_solve_49 : decode cX7_solve 49 = .ok (.invokevirtual 146, 3) := by decide +kernel
theorem dX7_solve_52 : decode cX7_solve 52 = .ok (.ifCond .ne 17, 3) := by decide +kernel
theorem dX7_solve_55 : decode cX7_solve 55 = .ok (.aload_n 0, 1) := by decide +kernel
theorem dX7_solve_56 : decode cX7_solve 56 = .ok (.invokevirtual 149, 3) := by decide +kernel
theorem dX7_solve_59 : decode cX7_solve 59 = .ok (.ifCond .ne 10, 3) := by decide +kernel
theorem dX7_solve_62 : decode cX7_solve 62 = .ok (.aload_n 0, 1) := by decide +kernel
theorem dX7_solve_63 : decode cX7_solve 63 = .ok (.invokevirtual 152, 3) := by decide +kernel
theorem dX7_solve_66 : decode cX7_solve 66 = .ok (.ifCond .eq 7, 3) := by decide +kernel
theorem dX7_solve_69 : decode cX7_solve 69 = .ok (.iconst 1, 1) := by decide +kernel
theorem dX7_solve_70 : decode cX7_solve 70 = .ok (.goto 4, 3) := by decide +kernel
theorem dX7_solve_73 : decode cX7_solve 73 = .ok (.iconst 0, 1) := by decide +kernel
theorem dX7_solve_74 : decode cX7_solve 74 = .ok (.istore_n 2, 1) := by decide +kernel
theorem dX7_solve_75 : decode cX7_solve 75 = .ok (.goto (-46), 3) := by decide +kernel
theorem dX7_solve_78 : decode cX7_solve 78 = .ok (.return_, 1) := by decide +kernel
set_option maxRecDepth 20000 in
theorem ggX7_step_X7_in : GoodIn wsX7_step wsX7_in := goodIn_r _ [6] (by decide +kernel) (by decide +kernel)
set_option maxRecDepth 20000 in
theorem gX7_step_X7_in : GoodIn wsX7_step (va_wsS RX7 39 yX7_in wsX7_in) := goodIn_app (goodIn_of _ (by decide +kernel)) ggX7_step_X7_in
set_option maxRecDepth 20000 in
theorem ggX7_step_X7_solve : GoodIn wsX7_step wsX7_solve := goodIn_r _ [10, 1, 11, 12, 13, 14, 5, 15, 16, 17, 18, 19, 20, 21, 22, 23, 24, 25, 26, 27, 28, 29, 30, 31, 32, 33, 34, 35, 36, 37, 38, 39, 40, 41, 42, 43, 44, 2, 45, 46, 47, 48, 49, 50, 51, 52, 53, 54, 55, 56, 57, 58, 59, 60, 61, 62, 63, 64, 65, 66, 67, 68, 69, 70, 71, 72, 73, 74, 75, 76, 77] (by decide +kernel) (by decide +kernel)
set_option maxRecDepth 20000 in
theorem gX7_step_X7_solve : GoodIn wsX7_step (wsV RX7 155 RX7 yX7_solve wsX7_solve) := goodIn_app (goodIn_of _ (by decide +kernel)) ggX7_step_X7_solve
theorem dX7_step_0 : decode cX7_step 0 = .ok (.iload_n 1, 1) := by decide +kernel
theorem dX7_step_1 : decode cX7_step 1 = .ok (.iconst (-1), 1) := by decide +kernel
theorem dX7_step_2 : decode cX7_step 2 = .ok (.if_icmp .lt 12, 3) := by decide +kernel
theorem dX7_step_5 : decode cX7_step 5 = .ok (.iload_n 2, 1) := by decide +kernel
theorem dX7_step_6 : decode cX7_step 6 = .ok (.iconst 0, 1) := by decide +kernel
theorem dX7_step_7 : decode cX7_step 7 = .ok (.iconst 3, 1) := by decide +kernel
theorem dX7_step_8 : decode cX7_step 8 = .ok (.invokestatic 39, 3) := by decide +kernel
theorem dX7_step_11 : decode cX7_step 11 = .ok (.ifCond .ne 6, 3) := by decide +kernel
theorem dX7_step_14 : decode cX7_step 14 = .ok (.bipush (-2), 2) := by decide +kernel
theorem dX7_step_16 : decode cX7_step 16 = .ok (.ireturn, 1) := by decide +kernel
theorem dX7_step_17 : decode cX7_step 17 = .ok (.aload_n 0, 1) := by decide +kernel
theorem dX7_step_18 : decode cX7_step 18 = .ok (.bipush 64, 2) := by decide +kernel
theorem dX7_step_20 : decode cX7_step 20 = .ok (.invokevirtual 155, 3) := by decide +kernel
theorem dX7_step_23 : decode cX7_step 23 = .ok (.iload_n 1, 1) := by decide +kernel
theorem dX7_step_24 : decode cX7_step 24 = .ok (.iconst (-1), 1) := by decide +kernel
theorem dX7_step_25 : decode cX7_step 25 = .ok (.if_icmp .ne 10, 3) := by decide +kernel
theorem dX7_step_28 : decode cX7_step 28 = .ok (.aload_n 0, 1) := by decide +kernel
theorem dX7_step_29 : decode cX7_step 29 = .ok (.getfield 120, 3) := by decide +kernel
theorem dX7_step_32 : decode cX7_step 32 = .ok (.goto 26, 3) := by decide +kernel
theorem dX7_step_35 : decode cX7_step 35 = .ok (.iload_n 1, 1) := by decide +kernel
theorem dX7_step_36 : decode cX7_step 36 = .ok (.aload_n 0, 1) := by decide +kernel
theorem dX7_step_37 : decode cX7_step 37 = .ok (.getfield 120, 3) := by decide +kernel
theorem dX7_step_40 : decode cX7_step 40 = .ok (.if_icmp .ge 16, 3) := by decide +kernel
theorem dX7_step_43 : decode cX7_step 43 = .ok (.aload_n 0, 1) := by decide +kernel
theorem dX7_step_44 : decode cX7_step 44 = .ok (.getfield 29, 3) := by decide +kernel
theorem dX7_step_47 : decode cX7_step 47 = .ok (.iconst 4, 1) := by decide +kernel
theorem dX7_step_48 : decode cX7_step 48 = .ok (.iload_n 1, 1) := by decide +kernel
theorem dX7_step_49 : decode cX7_step 49 = .ok (.imul, 1) := by decide +kernel
theorem dX7_step_50 : decode cX7_step 50 = .ok (.iload_n 2, 1) := by decide +kernel
theorem dX7_step_51 : decode cX7_step 51 = .ok (.iadd, 1) := by decide +kernel
theorem dX7_step_52 : decode cX7_step 52 = .ok (.iaload, 1) := by decide +kernel
theorem dX7_step_53 : decode cX7_step 53 = .ok (.goto 5, 3) := by decide +kernel
theorem dX7_step_56 : decode cX7_step 56 = .ok (.bipush (-6), 2) := by decide +kernel
theorem dX7_step_58 : decode cX7_step 58 = .ok (.ireturn, 1) := by decide +kernel
set_option maxRecDepth 20000 in
theorem ggX7_left_X7_isItem : GoodIn wsX7_left wsX7_isItem := goodIn_r _ [5, 6, 7, 4, 8] (by decide +kernel) (by decide +kernel)
set_option maxRecDepth 20000 in
theorem gX7_left_X7_isItem : GoodIn wsX7_left (va_wsS RX7 111 yX7_isItem wsX7_isItem) := goodIn_app (goodIn_of _ (by decide +kernel)) ggX7_left_X7_isItem
set_option maxRecDepth 20000 in
theorem ggX7_left_X7_solve : GoodIn wsX7_left wsX7_solve := goodIn_r _ [12, 13, 1, 14, 15, 16, 4, 17, 18, 19, 20, 21, 22, 23, 24, 25, 26, 27, 28, 29, 30, 31, 32, 33, 34, 35, 36, 37, 38, 39, 40, 41, 42, 43, 44, 45, 46, 47, 48, 49, 50, 51, 52, 53, 54, 55, 56, 57, 58, 59, 60, 61, 62, 63, 64, 65, 66, 67, 68, 69, 70, 71, 72, 73, 74, 75, 76, 77, 78, 79, 80] (by decide +kernel) (by decide +kernel)
set_option maxRecDepth 20000 in
theorem gX7_left_X7_solve : GoodIn wsX7_left (wsV RX7 155 RX7 yX7_solve wsX7_solve) := goodIn_app (goodIn_of _ (by decide +kernel)) ggX7_left_X7_solve
theorem dX7_left_0 : decode cX7_left 0 = .ok (.iload_n 1, 1) := by decide +kernel
theorem dX7_left_1 : decode cX7_left 1 = .ok (.invokestatic 111, 3) := by decide +kernel
theorem dX7_left_4 : decode cX7_left 4 = .ok (.ifCond .eq 7, 3) := by decide +kernel
theorem dX7_left_7 : decode cX7_left 7 = .ok (.iload_n 2, 1) := by decide +kernel
theorem dX7_left_8 : decode cX7_left 8 = .ok (.ifCond .ge 6, 3) := by decide +kernel
theorem dX7_left_11 : decode cX7_left 11 = .ok (.bipush (-2), 2) := by decide +kernel
theorem dX7_left_13 : decode cX7_left 13 = .ok (.ireturn, 1) := by decide +kernel
theorem dX7_left_14 : decode cX7_left 14 = .ok (.aload_n 0, 1) := by decide +kernel
theorem dX7_left_15 : decode cX7_left 15 = .ok (.iload_n 2, 1) := by decide +kernel
theorem dX7_left_16 : decode cX7_left 16 = .ok (.bipush 64, 2) := by decide +kernel
theorem dX7_left_18 : decode cX7_left 18 = .ok (.if_icmp .ge 7, 3) := by decide +kernel
theorem dX7_left_21 : decode cX7_left 21 = .ok (.iload_n 2, 1) := by decide +kernel
theorem dX7_left_22 : decode cX7_left 22 = .ok (.goto 5, 3) := by decide +kernel
theorem dX7_left_25 : decode cX7_left 25 = .ok (.bipush 64, 2) := by decide +kernel
theorem dX7_left_27 : decode cX7_left 27 = .ok (.invokevirtual 155, 3) := by decide +kernel
theorem dX7_left_30 : decode cX7_left 30 = .ok (.aload_n 0, 1) := by decide +kernel
theorem dX7_left_31 : decode cX7_left 31 = .ok (.getfield 26, 3) := by decide +kernel
theorem dX7_left_34 : decode cX7_left 34 = .ok (.iload_n 1, 1) := by decide +kernel
theorem dX7_left_35 : decode cX7_left 35 = .ok (.iaload, 1) := by decide +kernel
theorem dX7_left_36 : decode cX7_left 36 = .ok (.ireturn, 1) := by decide +kernel
set_option maxRecDepth 20000 in
theorem ggX7_end_X7_solve : GoodIn wsX7_end wsX7_solve := goodIn_r _ [6, 7, 1, 8, 9, 10, 5, 11, 12, 13, 14, 15, 16, 17, 18, 19, 20, 21, 22, 23, 24, 25, 26, 27, 28, 29, 30, 31, 32, 33, 34, 35, 36, 37, 38, 39, 40, 41, 42, 43, 44, 45, 46, 47, 48, 49, 50, 51, 52, 53, 54, 55, 56, 57, 58, 59, 60, 61, 62, 63, 64, 65, 66, 67, 68, 69, 70, 71, 72, 73, 74] (by decide +kernel) (by decide +kernel)
set_option maxRecDepth 20000 in
theorem gX7_end_X7_solve : GoodIn wsX7_end (wsV RX7 155 RX7 yX7_solve wsX7_solve) := goodIn_app (goodIn_of _ (by decide +kernel)) ggX7_end_X7_solve
set_option maxRecDepth 20000 in
theorem ggX7_end_X7_bits : GoodIn wsX7_end wsX7_bits := goodIn_r _ [48] (by decide +kernel) (by decide +kernel)
set_option maxRecDepth 20000 in
theorem gX7_end_X7_bits : GoodIn wsX7_end (va_wsS RX7 133 yX7_bits wsX7_bits) := goodIn_app (goodIn_of _ (by decide +kernel)) ggX7_end_X7_bits
set_option maxRecDepth 20000 in
theorem ggX7_end_X7_isEmpty : GoodIn wsX7_end wsX7_isEmpty := goodIn_r _ [11, 1, 60, 61, 62, 63, 64, 65, 66, 67, 68, 69, 70, 71, 72, 73, 74] (by decide +kernel) (by decide +kernel)
set_option maxRecDepth 20000 in
theorem gX7_end_X7_isEmpty : GoodIn wsX7_end (wsV RX7 142 RX7 yX7_isEmpty wsX7_isEmpty) := goodIn_app (goodIn_of _ (by decide +kernel)) ggX7_end_X7_isEmpty
theorem dX7_end_0 : decode cX7_end 0 = .ok (.aload_n 0, 1) := by decide +kernel
theorem dX7_end_1 : decode cX7_end 1 = .ok (.bipush 64, 2) := by decide +kernel
theorem dX7_end_3 : decode cX7_end 3 = .ok (.invokevirtual 155, 3) := by decide +kernel
theorem dX7_end_6 : decode cX7_end 6 = .ok (.iconst 1, 1) := by decide +kernel
theorem dX7_end_7 : decode cX7_end 7 = .ok (.istore_n 1, 1) := by decide +kernel
theorem dX7_end_8 : decode cX7_end 8 = .ok (.iconst 0, 1) := by decide +kernel
theorem dX7_end_9 : decode cX7_end 9 = .ok (.istore_n 2, 1) := by decide +kernel
theorem dX7_end_10 : decode cX7_end 10 = .ok (.iload_n 2, 1) := by decide +kernel
theorem dX7_end_11 : decode cX7_end 11 = .ok (.bipush 16, 2) := by decide +kernel
theorem dX7_end_13 : decode cX7_end 13 = .ok (.if_icmp .ge 32, 3) := by decide +kernel
theorem dX7_end_16 : decode cX7_end 16 = .ok (.iload_n 1, 1) := by decide +kernel
theorem dX7_end_17 : decode cX7_end 17 = .ok (.ifCond .eq 20, 3) := by decide +kernel
theorem dX7_end_20 : decode cX7_end 20 = .ok (.aload_n 0, 1) := by decide +kernel
theorem dX7_end_21 : decode cX7_end 21 = .ok (.getfield 26, 3) := by decide +kernel
theorem dX7_end_24 : decode cX7_end 24 = .ok (.iload_n 2, 1) := by decide +kernel
theorem dX7_end_25 : decode cX7_end 25 = .ok (.iaload, 1) := by decide +kernel
theorem dX7_end_26 : decode cX7_end 26 = .ok (.invokestatic 133, 3) := by decide +kernel
theorem dX7_end_29 : decode cX7_end 29 = .ok (.iconst 1, 1) := by decide +kernel
theorem dX7_end_30 : decode cX7_end 30 = .ok (.if_icmp .ne 7, 3) := by decide +kernel
theorem dX7_end_33 : decode cX7_end 33 = .ok (.iconst 1, 1) := by decide +kernel
theorem dX7_end_34 : decode cX7_end 34 = .ok (.goto 4, 3) := by decide +kernel
theorem dX7_end_37 : decode cX7_end 37 = .ok (.iconst 0, 1) := by decide +kernel
theorem dX7_end_38 : decode cX7_end 38 = .ok (.istore_n 1, 1) := by decide +kernel
theorem dX7_end_39 : decode cX7_end 39 = .ok (.iinc 2 1, 3) := by decide +kernel
theorem dX7_end_42 : decode cX7_end 42 = .ok (.goto (-32), 3) := by decide +kernel
theorem dX7_end_45 : decode cX7_end 45 = .ok (.aload_n 0, 1) := by decide +kernel
theorem dX7_end_46 : decode cX7_end 46 = .ok (.invokevirtual 142, 3) := by decide +kernel
theorem dX7_end_49 : decode cX7_end 49 = .ok (.ifCond .eq 7, 3) := by decide +kernel
theorem dX7_end_52 : decode cX7_end 52 = .ok (.iconst 2, 1) := by decide +kernel
theorem dX7_end_53 : decode cX7_end 53 = .ok (.goto 12, 3) := by decide +kernel
theorem dX7_end_56 : decode cX7_end 56 = .ok (.iload_n 1, 1) := by decide +kernel
theorem dX7_end_57 : decode cX7_end 57 = .ok (.ifCond .eq 7, 3) := by decide +kernel
theorem dX7_end_60 : decode cX7_end 60 = .ok (.iconst 0, 1) := by decide +kernel
theorem dX7_end_61 : decode cX7_end 61 = .ok (.goto 4, 3) := by decide +kernel
theorem dX7_end_64 : decode cX7_end 64 = .ok (.iconst 1, 1) := by decide +kernel
theorem dX7_end_65 : decode cX7_end 65 = .ok (.ireturn, 1) := by decide +kernel
set_option maxRecDepth 20000 in
theorem ggX7_image_X7_in : GoodIn wsX7_image wsX7_in := goodIn_r _ [8] (by decide +kernel) (by decide +kernel)
set_option maxRecDepth 20000 in
theorem gX7_image_X7_in : GoodIn wsX7_image (va_wsS RX7 39 yX7_in wsX7_in) := goodIn_app (goodIn_of _ (by decide +kernel)) ggX7_image_X7_in
theorem dX7_image_0 : decode cX7_image 0 = .ok (.iload_n 1, 1) := by decide +kernel
theorem dX7_image_1 : decode cX7_image 1 = .ok (.iconst 0, 1) := by decide +kernel
theorem dX7_image_2 : decode cX7_image 2 = .ok (.iconst 1, 1) := by decide +kernel
theorem dX7_image_3 : decode cX7_image 3 = .ok (.invokestatic 39, 3) := by decide +kernel
theorem dX7_image_6 : decode cX7_image 6 = .ok (.ifCond .ne 6, 3) := by decide +kernel
theorem dX7_image_9 : decode cX7_image 9 = .ok (.bipush (-2), 2) := by decide +kernel
theorem dX7_image_11 : decode cX7_image 11 = .ok (.ireturn, 1) := by decide +kernel
theorem dX7_image_12 : decode cX7_image 12 = .ok (.iconst 0, 1) := by decide +kernel
theorem dX7_image_13 : decode cX7_image 13 = .ok (.istore_n 2, 1) := by decide +kernel
theorem dX7_image_14 : decode cX7_image 14 = .ok (.iload_n 2, 1) := by decide +kernel
theorem dX7_image_15 : decode cX7_image 15 = .ok (.bipush 60, 2) := by decide +kernel
theorem dX7_image_17 : decode cX7_image 17 = .ok (.if_icmp .ge 26, 3) := by decide +kernel
theorem dX7_image_20 : decode cX7_image 20 = .ok (.aload_n 0, 1) := by decide +kernel
theorem dX7_image_21 : decode cX7_image 21 = .ok (.getfield 32, 3) := by decide +kernel
theorem dX7_image_24 : decode cX7_image 24 = .ok (.bipush 61, 2) := by decide +kernel
theorem dX7_image_26 : decode cX7_image 26 = .ok (.iload_n 1, 1) := by decide +kernel
theorem dX7_image_27 : decode cX7_image 27 = .ok (.imul, 1) := by decide +kernel
theorem dX7_image_28 : decode cX7_image 28 = .ok (.iload_n 2, 1) := by decide +kernel
theorem dX7_image_29 : decode cX7_image 29 = .ok (.iadd, 1) := by decide +kernel
theorem dX7_image_30 : decode cX7_image 30 = .ok (.aload_n 0, 1) := by decide +kernel
theorem dX7_image_31 : decode cX7_image 31 = .ok (.getfield 7, 3) := by decide +kernel
theorem dX7_image_34 : decode cX7_image 34 = .ok (.iload_n 2, 1) := by decide +kernel
theorem dX7_image_35 : decode cX7_image 35 = .ok (.iaload, 1) := by decide +kernel
theorem dX7_image_36 : decode cX7_image 36 = .ok (.iastore, 1) := by decide +kernel
theorem dX7_image_37 : decode cX7_image 37 = .ok (.iinc 2 1, 3) := by decide +kernel
theorem dX7_image_40 : decode cX7_image 40 = .ok (.goto (-26), 3) := by decide +kernel
theorem dX7_image_43 : decode cX7_image 43 = .ok (.aload_n 0, 1) := by decide +kernel
theorem dX7_image_44 : decode cX7_image 44 = .ok (.getfield 32, 3) := by decide +kernel
theorem dX7_image_47 : decode cX7_image 47 = .ok (.bipush 61, 2) := by decide +kernel
theorem dX7_image_49 : decode cX7_image 49 = .ok (.iload_n 1, 1) := by decide +kernel
theorem dX7_image_50 : decode cX7_image 50 = .ok (.imul, 1) := by decide +kernel
theorem dX7_image_51 : decode cX7_image 51 = .ok (.bipush 60, 2) := by decide +kernel
theorem dX7_image_53 : decode cX7_image 53 = .ok (.iadd, 1) := by decide +kernel
theorem dX7_image_54 : decode cX7_image 54 = .ok (.aload_n 0, 1) := by decide +kernel
theorem dX7_image_55 : decode cX7_image 55 = .ok (.getfield 43, 3) := by decide +kernel
theorem dX7_image_58 : decode cX7_image 58 = .ok (.iastore, 1) := by decide +kernel
theorem dX7_image_59 : decode cX7_image 59 = .ok (.aload_n 0, 1) := by decide +kernel
theorem dX7_image_60 : decode cX7_image 60 = .ok (.getfield 35, 3) := by decide +kernel
theorem dX7_image_63 : decode cX7_image 63 = .ok (.iload_n 1, 1) := by decide +kernel
theorem dX7_image_64 : decode cX7_image 64 = .ok (.iconst 1, 1) := by decide +kernel
theorem dX7_image_65 : decode cX7_image 65 = .ok (.bastore, 1) := by decide +kernel
theorem dX7_image_66 : decode cX7_image 66 = .ok (.iconst 1, 1) := by decide +kernel
theorem dX7_image_67 : decode cX7_image 67 = .ok (.ireturn, 1) := by decide +kernel
set_option maxRecDepth 20000 in
theorem ggX7_restore_X7_in : GoodIn wsX7_restore wsX7_in := goodIn_r _ [8] (by decide +kernel) (by decide +kernel)
set_option maxRecDepth 20000 in
theorem gX7_restore_X7_in : GoodIn wsX7_restore (va_wsS RX7 39 yX7_in wsX7_in) := goodIn_app (goodIn_of _ (by decide +kernel)) ggX7_restore_X7_in
theorem dX7_restore_0 : decode cX7_restore 0 = .ok (.iload_n 1, 1) := by decide +kernel
theorem dX7_restore_1 : decode cX7_restore 1 = .ok (.iconst 0, 1) := by decide +kernel
theorem dX7_restore_2 : decode cX7_restore 2 = .ok (.iconst 1, 1) := by decide +kernel
theorem dX7_restore_3 : decode cX7_restore 3 = .ok (.invokestatic 39, 3) := by decide +kernel
theorem dX7_restore_6 : decode cX7_restore 6 = .ok (.ifCond .ne 6, 3) := by decide +kernel
theorem dX7_restore_9 : decode cX7_restore 9 = .ok (.bipush (-2), 2) := by decide +kernel
theorem dX7_restore_11 : decode cX7_restore 11 = .ok (.ireturn, 1) := by decide +kernel
theorem dX7_restore_12 : decode cX7_restore 12 = .ok (.aload_n 0, 1) := by decide +kernel
theorem dX7_restore_13 : decode cX7_restore 13 = .ok (.getfield 35, 3) := by decide +kernel
theorem dX7_restore_16 : decode cX7_restore 16 = .ok (.iload_n 1, 1) := by decide +kernel
theorem dX7_restore_17 : decode cX7_restore 17 = .ok (.baload, 1) := by decide +kernel
theorem dX7_restore_18 : decode cX7_restore 18 = .ok (.ifCond .ne 6, 3) := by decide +kernel
theorem dX7_restore_21 : decode cX7_restore 21 = .ok (.bipush (-3), 2) := by decide +kernel
theorem dX7_restore_23 : decode cX7_restore 23 = .ok (.ireturn, 1) := by decide +kernel
theorem dX7_restore_24 : decode cX7_restore 24 = .ok (.iconst 0, 1) := by decide +kernel
theorem dX7_restore_25 : decode cX7_restore 25 = .ok (.istore_n 2, 1) := by decide +kernel
theorem dX7_restore_26 : decode cX7_restore 26 = .ok (.iload_n 2, 1) := by decide +kernel
theorem dX7_restore_27 : decode cX7_restore 27 = .ok (.bipush 60, 2) := by decide +kernel
theorem dX7_restore_29 : decode cX7_restore 29 = .ok (.if_icmp .ge 26, 3) := by decide +kernel
theorem dX7_restore_32 : decode cX7_restore 32 = .ok (.aload_n 0, 1) := by decide +kernel
theorem dX7_restore_33 : decode cX7_restore 33 = .ok (.getfield 7, 3) := by decide +kernel
theorem dX7_restore_36 : decode cX7_restore 36 = .ok (.iload_n 2, 1) := by decide +kernel
theorem dX7_restore_37 : decode cX7_restore 37 = .ok (.aload_n 0, 1) := by decide +kernel
theorem dX7_restore_38 : decode cX7_restore 38 = .ok (.getfield 32, 3) := by decide +kernel
theorem dX7_restore_41 : decode cX7_restore 41 = .ok (.bipush 61, 2) := by decide +kernel
theorem dX7_restore_43 : decode cX7_restore 43 = .ok (.iload_n 1, 1) := by decide +kernel
theorem dX7_restore_44 : decode cX7_restore 44 = .ok (.imul, 1) := by decide +kernel
theorem dX7_restore_45 : decode cX7_restore 45 = .ok (.iload_n 2, 1) := by decide +kernel
theorem dX7_restore_46 : decode cX7_restore 46 = .ok (.iadd, 1) := by decide +kernel
theorem dX7_restore_47 : decode cX7_restore 47 = .ok (.iaload, 1) := by decide +kernel
theorem dX7_restore_48 : decode cX7_restore 48 = .ok (.iastore, 1) := by decide +kernel
theorem dX7_restore_49 : decode cX7_restore 49 = .ok (.iinc 2 1, 3) := by decide +kernel
theorem dX7_restore_52 : decode cX7_restore 52 = .ok (.goto (-26), 3) := by decide +kernel
theorem dX7_restore_55 : decode cX7_restore 55 = .ok (.aload_n 0, 1) := by decide +kernel
theorem dX7_restore_56 : decode cX7_restore 56 = .ok (.aload_n 0, 1) := by decide +kernel
theorem dX7_restore_57 : decode cX7_restore 57 = .ok (.getfield 32, 3) := by decide +kernel
theorem dX7_restore_60 : decode cX7_restore 60 = .ok (.bipush 61, 2) := by decide +kernel
theorem dX7_restore_62 : decode cX7_restore 62 = .ok (.iload_n 1, 1) := by decide +kernel
theorem dX7_restore_63 : decode cX7_restore 63 = .ok (.imul, 1) := by decide +kernel
theorem dX7_restore_64 : decode cX7_restore 64 = .ok (.bipush 60, 2) := by decide +kernel
theorem dX7_restore_66 : decode cX7_restore 66 = .ok (.iadd, 1) := by decide +kernel
theorem dX7_restore_67 : decode cX7_restore 67 = .ok (.iaload, 1) := by decide +kernel
theorem dX7_restore_68 : decode cX7_restore 68 = .ok (.putfield 43, 3) := by decide +kernel
theorem dX7_restore_71 : decode cX7_restore 71 = .ok (.iconst 1, 1) := by decide +kernel
theorem dX7_restore_72 : decode cX7_restore 72 = .ok (.ireturn, 1) := by decide +kernel
set_option maxRecDepth 20000 in
theorem ggX7_ofKind_X7_of : GoodIn wsX7_ofKind wsX7_of := goodIn_r _ [6, 7, 8, 9, 10, 11, 12, 13, 14, 15, 16, 17, 18, 19, 20, 21, 22] (by decide +kernel) (by decide +kernel)
set_option maxRecDepth 20000 in
theorem gX7_ofKind_X7_of : GoodIn wsX7_ofKind (wsV RX7 71 RX7 yX7_of wsX7_of) := goodIn_app (goodIn_of _ (by decide +kernel)) ggX7_ofKind_X7_of
theorem dX7_ofKind_0 : decode cX7_ofKind 0 = .ok (.iconst 0, 1) := by decide +kernel
theorem dX7_ofKind_1 : decode cX7_ofKind 1 = .ok (.istore_n 2, 1) := by decide +kernel
theorem dX7_ofKind_2 : decode cX7_ofKind 2 = .ok (.iconst 0, 1) := by decide +kernel
theorem dX7_ofKind_3 : decode cX7_ofKind 3 = .ok (.istore_n 3, 1) := by decide +kernel
theorem dX7_ofKind_4 : decode cX7_ofKind 4 = .ok (.iload_n 3, 1) := by decide +kernel
theorem dX7_ofKind_5 : decode cX7_ofKind 5 = .ok (.aload_n 0, 1) := by decide +kernel
theorem dX7_ofKind_6 : decode cX7_ofKind 6 = .ok (.getfield 43, 3) := by decide +kernel
theorem dX7_ofKind_9 : decode cX7_ofKind 9 = .ok (.if_icmp .ge 27, 3) := by decide +kernel
theorem dX7_ofKind_12 : decode cX7_ofKind 12 = .ok (.iload_n 2, 1) := by decide +kernel
theorem dX7_ofKind_13 : decode cX7_ofKind 13 = .ok (.aload_n 0, 1) := by decide +kernel
theorem dX7_ofKind_14 : decode cX7_ofKind 14 = .ok (.iload_n 3, 1) := by decide +kernel
theorem dX7_ofKind_15 : decode cX7_ofKind 15 = .ok (.iconst 0, 1) := by decide +kernel
theorem dX7_ofKind_16 : decode cX7_ofKind 16 = .ok (.invokevirtual 71, 3) := by decide +kernel
theorem dX7_ofKind_19 : decode cX7_ofKind 19 = .ok (.iload_n 1, 1) := by decide +kernel
theorem dX7_ofKind_20 : decode cX7_ofKind 20 = .ok (.if_icmp .ne 7, 3) := by decide +kernel
theorem dX7_ofKind_23 : decode cX7_ofKind 23 = .ok (.iconst 1, 1) := by decide +kernel
theorem dX7_ofKind_24 : decode cX7_ofKind 24 = .ok (.goto 4, 3) := by decide +kernel
theorem dX7_ofKind_27 : decode cX7_ofKind 27 = .ok (.iconst 0, 1) := by decide +kernel
theorem dX7_ofKind_28 : decode cX7_ofKind 28 = .ok (.iadd, 1) := by decide +kernel
theorem dX7_ofKind_29 : decode cX7_ofKind 29 = .ok (.istore_n 2, 1) := by decide +kernel
theorem dX7_ofKind_30 : decode cX7_ofKind 30 = .ok (.iinc 3 1, 3) := by decide +kernel
theorem dX7_ofKind_33 : decode cX7_ofKind 33 = .ok (.goto (-29), 3) := by decide +kernel
theorem dX7_ofKind_36 : decode cX7_ofKind 36 = .ok (.iload_n 2, 1) := by decide +kernel
theorem dX7_ofKind_37 : decode cX7_ofKind 37 = .ok (.ireturn, 1) := by decide +kernel
set_option maxRecDepth 20000 in
theorem ggX7_count_X7_in : GoodIn wsX7_count wsX7_in := goodIn_r _ [8] (by decide +kernel) (by decide +kernel)
set_option maxRecDepth 20000 in
theorem gX7_count_X7_in : GoodIn wsX7_count (va_wsS RX7 39 yX7_in wsX7_in) := goodIn_app (goodIn_of _ (by decide +kernel)) ggX7_count_X7_in
set_option maxRecDepth 20000 in
theorem ggX7_count_X7_ofKind : GoodIn wsX7_count wsX7_ofKind := goodIn_r _ [12, 1, 13, 14, 15, 7, 16, 17, 18, 19, 20, 21, 22, 23, 24, 25, 26, 27, 28, 29, 30, 31, 32] (by decide +kernel) (by decide +kernel)
set_option maxRecDepth 20000 in
theorem gX7_count_X7_ofKind : GoodIn wsX7_count (wsV RX7 158 RX7 yX7_ofKind wsX7_ofKind) := goodIn_app (goodIn_of _ (by decide +kernel)) ggX7_count_X7_ofKind
theorem dX7_count_0 : decode cX7_count 0 = .ok (.iload_n 1, 1) := by decide +kernel
theorem dX7_count_1 : decode cX7_count 1 = .ok (.bipush 10, 2) := by decide +kernel
theorem dX7_count_3 : decode cX7_count 3 = .ok (.bipush 16, 2) := by decide +kernel
theorem dX7_count_5 : decode cX7_count 5 = .ok (.invokestatic 39, 3) := by decide +kernel
theorem dX7_count_8 : decode cX7_count 8 = .ok (.ifCond .eq 12, 3) := by decide +kernel
theorem dX7_count_11 : decode cX7_count 11 = .ok (.aload_n 0, 1) := by decide +kernel
theorem dX7_count_12 : decode cX7_count 12 = .ok (.iload_n 1, 1) := by decide +kernel
theorem dX7_count_13 : decode cX7_count 13 = .ok (.bipush 10, 2) := by decide +kernel
theorem dX7_count_15 : decode cX7_count 15 = .ok (.isub, 1) := by decide +kernel
theorem dX7_count_16 : decode cX7_count 16 = .ok (.invokevirtual 158, 3) := by decide +kernel
theorem dX7_count_19 : decode cX7_count 19 = .ok (.ireturn, 1) := by decide +kernel
theorem dX7_count_20 : decode cX7_count 20 = .ok (.iload_n 1, 1) := by decide +kernel
theorem dX7_count_21 : decode cX7_count 21 = .ok (.tableswitch 76 0 3 #[31, 36, 41, 46], 31) := by decide +kernel
theorem dX7_count_52 : decode cX7_count 52 = .ok (.aload_n 0, 1) := by decide +kernel
theorem dX7_count_53 : decode cX7_count 53 = .ok (.getfield 43, 3) := by decide +kernel
theorem dX7_count_56 : decode cX7_count 56 = .ok (.ireturn, 1) := by decide +kernel
theorem dX7_count_57 : decode cX7_count 57 = .ok (.aload_n 0, 1) := by decide +kernel
theorem dX7_count_58 : decode cX7_count 58 = .ok (.getfield 46, 3) := by decide +kernel
theorem dX7_count_61 : decode cX7_count 61 = .ok (.ireturn, 1) := by decide +kernel
theorem dX7_count_62 : decode cX7_count 62 = .ok (.aload_n 0, 1) := by decide +kernel
theorem dX7_count_63 : decode cX7_count 63 = .ok (.getfield 16, 3) := by decide +kernel
theorem dX7_count_66 : decode cX7_count 66 = .ok (.ireturn, 1) := by decide +kernel
theorem dX7_count_67 : decode cX7_count 67 = .ok (.aload_n 0, 1) := by decide +kernel
theorem dX7_count_68 : decode cX7_count 68 = .ok (.getfield 35, 3) := by decide +kernel
theorem dX7_count_71 : decode cX7_count 71 = .ok (.iconst 0, 1) := by decide +kernel
theorem dX7_count_72 : decode cX7_count 72 = .ok (.baload, 1) := by decide +kernel
theorem dX7_count_73 : decode cX7_count 73 = .ok (.ifCond .eq 7, 3) := by decide +kernel
theorem dX7_count_76 : decode cX7_count 76 = .ok (.iconst 1, 1) := by decide +kernel
theorem dX7_count_77 : decode cX7_count 77 = .ok (.goto 4, 3) := by decide +kernel
theorem dX7_count_80 : decode cX7_count 80 = .ok (.iconst 0, 1) := by decide +kernel
theorem dX7_count_81 : decode cX7_count 81 = .ok (.aload_n 0, 1) := by decide +kernel
theorem dX7_count_82 : decode cX7_count 82 = .ok (.getfield 35, 3) := by decide +kernel
theorem dX7_count_85 : decode cX7_count 85 = .ok (.iconst 1, 1) := by decide +kernel
theorem dX7_count_86 : decode cX7_count 86 = .ok (.baload, 1) := by decide +kernel
theorem dX7_count_87 : decode cX7_count 87 = .ok (.ifCond .eq 7, 3) := by decide +kernel
theorem dX7_count_90 : decode cX7_count 90 = .ok (.iconst 2, 1) := by decide +kernel
theorem dX7_count_91 : decode cX7_count 91 = .ok (.goto 4, 3) := by decide +kernel
theorem dX7_count_94 : decode cX7_count 94 = .ok (.iconst 0, 1) := by decide +kernel
theorem dX7_count_95 : decode cX7_count 95 = .ok (.iadd, 1) := by decide +kernel
theorem dX7_count_96 : decode cX7_count 96 = .ok (.ireturn, 1) := by decide +kernel
theorem dX7_count_97 : decode cX7_count 97 = .ok (.bipush (-2), 2) := by decide +kernel
theorem dX7_count_99 : decode cX7_count 99 = .ok (.ireturn, 1) := by decide +kernel
