theorem dX6_time_14 : decode cX6_time 14 = .ok (.aload_n 0, 1) := by decide +kernel
theorem dX6_time_15 : decode cX6_time 15 = .ok (.getfield 25, 3) := by decide +kernel
theorem dX6_time_18 : decode cX6_time 18 = .ok (.bipush 8, 2) := by decide +kernel
theorem dX6_time_20 : decode cX6_time 20 = .ok (.aload_n 0, 1) := by decide +kernel
theorem dX6_time_21 : decode cX6_time 21 = .ok (.getfield 59, 3) := by decide +kernel
theorem dX6_time_24 : decode cX6_time 24 = .ok (.iload_n 2, 1) := by decide +kernel
theorem dX6_time_25 : decode cX6_time 25 = .ok (.iconst 1, 1) := by decide +kernel
theorem dX6_time_26 : decode cX6_time 26 = .ok (.isub, 1) := by decide +kernel
theorem dX6_time_27 : decode cX6_time 27 = .ok (.iaload, 1) := by decide +kernel
theorem dX6_time_28 : decode cX6_time 28 = .ok (.imul, 1) := by decide +kernel
theorem dX6_time_29 : decode cX6_time 29 = .ok (.aload_n 0, 1) := by decide +kernel
theorem dX6_time_30 : decode cX6_time 30 = .ok (.getfield 59, 3) := by decide +kernel
theorem dX6_time_33 : decode cX6_time 33 = .ok (.iload_n 2, 1) := by decide +kernel
theorem dX6_time_34 : decode cX6_time 34 = .ok (.iaload, 1) := by decide +kernel
theorem dX6_time_35 : decode cX6_time 35 = .ok (.iadd, 1) := by decide +kernel
theorem dX6_time_36 : decode cX6_time 36 = .ok (.iaload, 1) := by decide +kernel
theorem dX6_time_37 : decode cX6_time 37 = .ok (.imul, 1) := by decide +kernel
theorem dX6_time_38 : decode cX6_time 38 = .ok (.iadd, 1) := by decide +kernel
theorem dX6_time_39 : decode cX6_time 39 = .ok (.istore_n 1, 1) := by decide +kernel
theorem dX6_time_40 : decode cX6_time 40 = .ok (.iinc 2 1, 3) := by decide +kernel
theorem dX6_time_43 : decode cX6_time 43 = .ok (.goto (-39), 3) := by decide +kernel
theorem dX6_time_46 : decode cX6_time 46 = .ok (.iload_n 1, 1) := by decide +kernel
theorem dX6_time_47 : decode cX6_time 47 = .ok (.ireturn, 1) := by decide +kernel
set_option maxRecDepth 20000 in
theorem ggX6_right_X6_says : GoodIn wsX6_right wsX6_says := goodIn_r _ [7, 8, 9, 10, 11, 12, 13, 14, 15, 16, 17, 18, 19, 20, 21, 22, 23, 24, 25, 26, 27, 28, 29, 30, 31, 32, 33, 34, 35, 36, 37, 38, 39, 40, 41, 42, 43, 44, 45, 46, 47, 48, 49, 50, 51, 52, 53, 54, 55, 56, 57, 58, 59, 60, 61] (by decide +kernel) (by decide +kernel)
set_option maxRecDepth 20000 in
theorem gX6_right_X6_says : GoodIn wsX6_right (wsV RX6 181 RX6 yX6_says wsX6_says) := goodIn_app (goodIn_of _ (by decide +kernel)) ggX6_right_X6_says
theorem dX6_right_0 : decode cX6_right 0 = .ok (.iconst 0, 1) := by decide +kernel
theorem dX6_right_1 : decode cX6_right 1 = .ok (.istore_n 1, 1) := by decide +kernel
theorem dX6_right_2 : decode cX6_right 2 = .ok (.aload_n 0, 1) := by decide +kernel
theorem dX6_right_3 : decode cX6_right 3 = .ok (.getfield 175, 3) := by decide +kernel
theorem dX6_right_6 : decode cX6_right 6 = .ok (.iconst 1, 1) := by decide +kernel
theorem dX6_right_7 : decode cX6_right 7 = .ok (.isub, 1) := by decide +kernel
theorem dX6_right_8 : decode cX6_right 8 = .ok (.istore_n 2, 1) := by decide +kernel
theorem dX6_right_9 : decode cX6_right 9 = .ok (.iload_n 2, 1) := by decide +kernel
theorem dX6_right_10 : decode cX6_right 10 = .ok (.ifCond .lt 36, 3) := by decide +kernel
theorem dX6_right_13 : decode cX6_right 13 = .ok (.aload_n 0, 1) := by decide +kernel
theorem dX6_right_14 : decode cX6_right 14 = .ok (.aload_n 0, 1) := by decide +kernel
theorem dX6_right_15 : decode cX6_right 15 = .ok (.getfield 59, 3) := by decide +kernel
theorem dX6_right_18 : decode cX6_right 18 = .ok (.iload_n 2, 1) := by decide +kernel
theorem dX6_right_19 : decode cX6_right 19 = .ok (.iaload, 1) := by decide +kernel
theorem dX6_right_20 : decode cX6_right 20 = .ok (.iload_n 2, 1) := by decide +kernel
theorem dX6_right_21 : decode cX6_right 21 = .ok (.aload_n 0, 1) := by decide +kernel
theorem dX6_right_22 : decode cX6_right 22 = .ok (.getfield 175, 3) := by decide +kernel
theorem dX6_right_25 : decode cX6_right 25 = .ok (.iconst 1, 1) := by decide +kernel
theorem dX6_right_26 : decode cX6_right 26 = .ok (.isub, 1) := by decide +kernel
theorem dX6_right_27 : decode cX6_right 27 = .ok (.if_icmp .ge 7, 3) := by decide +kernel
theorem dX6_right_30 : decode cX6_right 30 = .ok (.iconst 1, 1) := by decide +kernel
theorem dX6_right_31 : decode cX6_right 31 = .ok (.goto 4, 3) := by decide +kernel
theorem dX6_right_34 : decode cX6_right 34 = .ok (.iconst 0, 1) := by decide +kernel
theorem dX6_right_35 : decode cX6_right 35 = .ok (.iload_n 1, 1) := by decide +kernel
theorem dX6_right_36 : decode cX6_right 36 = .ok (.invokevirtual 181, 3) := by decide +kernel
theorem dX6_right_39 : decode cX6_right 39 = .ok (.istore_n 1, 1) := by decide +kernel
theorem dX6_right_40 : decode cX6_right 40 = .ok (.iinc 2 (-1), 3) := by decide +kernel
theorem dX6_right_43 : decode cX6_right 43 = .ok (.goto (-34), 3) := by decide +kernel
theorem dX6_right_46 : decode cX6_right 46 = .ok (.iload_n 1, 1) := by decide +kernel
theorem dX6_right_47 : decode cX6_right 47 = .ok (.ireturn, 1) := by decide +kernel
theorem dX6_onWay_0 : decode cX6_onWay 0 = .ok (.iconst 0, 1) := by decide +kernel
theorem dX6_onWay_1 : decode cX6_onWay 1 = .ok (.istore_n 1, 1) := by decide +kernel
theorem dX6_onWay_2 : decode cX6_onWay 2 = .ok (.iconst 0, 1) := by decide +kernel
theorem dX6_onWay_3 : decode cX6_onWay 3 = .ok (.istore_n 2, 1) := by decide +kernel
theorem dX6_onWay_4 : decode cX6_onWay 4 = .ok (.iload_n 2, 1) := by decide +kernel
theorem dX6_onWay_5 : decode cX6_onWay 5 = .ok (.aload_n 0, 1) := by decide +kernel
theorem dX6_onWay_6 : decode cX6_onWay 6 = .ok (.getfield 175, 3) := by decide +kernel
theorem dX6_onWay_9 : decode cX6_onWay 9 = .ok (.if_icmp .ge 20, 3) := by decide +kernel
theorem dX6_onWay_12 : decode cX6_onWay 12 = .ok (.iload_n 1, 1) := by decide +kernel
theorem dX6_onWay_13 : decode cX6_onWay 13 = .ok (.iconst 1, 1) := by decide +kernel
theorem dX6_onWay_14 : decode cX6_onWay 14 = .ok (.aload_n 0, 1) := by decide +kernel
theorem dX6_onWay_15 : decode cX6_onWay 15 = .ok (.getfield 59, 3) := by decide +kernel
theorem dX6_onWay_18 : decode cX6_onWay 18 = .ok (.iload_n 2, 1) := by decide +kernel
theorem dX6_onWay_19 : decode cX6_onWay 19 = .ok (.iaload, 1) := by decide +kernel
theorem dX6_onWay_20 : decode cX6_onWay 20 = .ok (.ishl, 1) := by decide +kernel
theorem dX6_onWay_21 : decode cX6_onWay 21 = .ok (.ior, 1) := by decide +kernel
theorem dX6_onWay_22 : decode cX6_onWay 22 = .ok (.istore_n 1, 1) := by decide +kernel
theorem dX6_onWay_23 : decode cX6_onWay 23 = .ok (.iinc 2 1, 3) := by decide +kernel
theorem dX6_onWay_26 : decode cX6_onWay 26 = .ok (.goto (-22), 3) := by decide +kernel
theorem dX6_onWay_29 : decode cX6_onWay 29 = .ok (.iload_n 1, 1) := by decide +kernel
theorem dX6_onWay_30 : decode cX6_onWay 30 = .ok (.ireturn, 1) := by decide +kernel
set_option maxRecDepth 20000 in
theorem ggX6_ask_X6_isNobody : GoodIn wsX6_ask wsX6_isNobody := goodIn_r _ [7, 8, 60, 61, 62, 63, 64, 65, 66, 67, 68, 69, 70, 71, 72, 73, 74, 75, 76, 77, 78, 79, 80, 81, 82, 83, 84, 85, 86, 87, 88, 89, 90, 91, 92, 93, 94, 95, 96, 97, 98, 99, 100, 101, 102, 103, 104, 105, 106, 107, 108, 109, 110, 111] (by decide +kernel) (by decide +kernel)
set_option maxRecDepth 20000 in
theorem gX6_ask_X6_isNobody : GoodIn wsX6_ask (wsV RX6 158 RX6 yX6_isNobody wsX6_isNobody) := goodIn_app (goodIn_of _ (by decide +kernel)) ggX6_ask_X6_isNobody
set_option maxRecDepth 20000 in
theorem ggX6_ask_X6_no : GoodIn wsX6_ask wsX6_no := goodIn_r _ [12, 13, 60, 61, 62, 63, 64, 65, 66, 67, 68, 69, 70, 71, 72, 73, 74, 75, 76, 77, 78, 79, 80, 81, 82, 83, 84, 85, 86, 87, 88, 89, 90, 91, 92, 93, 94, 95, 96, 97, 98, 99, 100, 101, 102, 103, 104, 105, 106, 107, 108, 109, 110, 111] (by decide +kernel) (by decide +kernel)
set_option maxRecDepth 20000 in
theorem gX6_ask_X6_no : GoodIn wsX6_ask (wsV RX6 113 RX6 yX6_no wsX6_no) := goodIn_app (goodIn_of _ (by decide +kernel)) ggX6_ask_X6_no
set_option maxRecDepth 20000 in
theorem ggX6_ask_X6_isIn : GoodIn wsX6_ask wsX6_isIn := goodIn_r _ [16] (by decide +kernel) (by decide +kernel)
set_option maxRecDepth 20000 in
theorem gX6_ask_X6_isIn : GoodIn wsX6_ask (va_wsS RX6 161 yX6_isIn wsX6_isIn) := goodIn_app (goodIn_of _ (by decide +kernel)) ggX6_ask_X6_isIn
set_option maxRecDepth 20000 in
theorem ggX6_ask_X6_go : GoodIn wsX6_ask wsX6_go := goodIn_r _ [20, 21, 22, 23, 24, 25, 6, 26, 8, 27, 28, 29, 30, 31, 32, 33, 34, 35, 36, 37, 14, 15, 16, 38, 39, 40, 41, 42, 60, 61, 62, 63, 64, 65, 66, 67, 68, 69, 70, 71, 72, 73, 74, 75, 76, 77, 78, 79, 80, 81, 82, 83, 84, 85, 86, 87, 88, 89, 90, 91, 92, 93, 94, 95, 96, 97, 98, 99, 100, 101, 102, 103, 104, 105, 106, 107, 108, 109, 110, 111] (by decide +kernel) (by decide +kernel)
set_option maxRecDepth 20000 in
theorem gX6_ask_X6_go : GoodIn wsX6_ask (wsV RX6 185 RX6 yX6_go wsX6_go) := goodIn_app (goodIn_of _ (by decide +kernel)) ggX6_ask_X6_go
set_option maxRecDepth 20000 in
theorem ggX6_ask_X6_onWay : GoodIn wsX6_ask wsX6_onWay := goodIn_r _ [46, 21, 22, 60, 61, 62, 63, 64, 65, 66, 67, 68, 69, 70, 71, 72, 73, 74, 75, 76, 77, 78, 79, 80, 81, 82, 83, 84, 85, 86, 87, 88, 89, 90, 91, 92, 93, 94, 95, 96, 97, 98, 99, 100, 101, 102, 103, 104, 105, 106, 107, 108, 109, 110, 111] (by decide +kernel) (by decide +kernel)
set_option maxRecDepth 20000 in
theorem gX6_ask_X6_onWay : GoodIn wsX6_ask (wsV RX6 189 RX6 yX6_onWay wsX6_onWay) := goodIn_app (goodIn_of _ (by decide +kernel)) ggX6_ask_X6_onWay
set_option maxRecDepth 20000 in
theorem ggX6_ask_X6_time : GoodIn wsX6_ask wsX6_time := goodIn_r _ [50, 21, 27, 22, 60, 61, 62, 63, 64, 65, 66, 67, 68, 69, 70, 71, 72, 73, 74, 75, 76, 77, 78, 79, 80, 81, 82, 83, 84, 85, 86, 87, 88, 89, 90, 91, 92, 93, 94, 95, 96, 97, 98, 99, 100, 101, 102, 103, 104, 105, 106, 107, 108, 109, 110, 111] (by decide +kernel) (by decide +kernel)
set_option maxRecDepth 20000 in
theorem gX6_ask_X6_time : GoodIn wsX6_ask (wsV RX6 192 RX6 yX6_time wsX6_time) := goodIn_app (goodIn_of _ (by decide +kernel)) ggX6_ask_X6_time
set_option maxRecDepth 20000 in
theorem ggX6_ask_X6_right : GoodIn wsX6_ask wsX6_right := goodIn_r _ [54, 21, 22, 55, 56, 57, 6, 58, 29, 59, 60, 61, 62, 63, 64, 65, 66, 67, 68, 69, 70, 71, 72, 73, 74, 75, 76, 77, 78, 79, 80, 81, 82, 83, 84, 85, 86, 87, 88, 89, 90, 91, 92, 93, 94, 95, 96, 97, 98, 99, 100, 101, 102, 103, 104, 105, 106, 107, 108, 109, 110, 111] (by decide +kernel) (by decide +kernel)
set_option maxRecDepth 20000 in
theorem gX6_ask_X6_right : GoodIn wsX6_ask (wsV RX6 195 RX6 yX6_right wsX6_right) := goodIn_app (goodIn_of _ (by decide +kernel)) ggX6_ask_X6_right
theorem dX6_ask_0 : decode cX6_ask 0 = .ok (.aload_n 0, 1) := by decide +kernel
theorem dX6_ask_1 : decode cX6_ask 1 = .ok (.iload_n 1, 1) := by decide +kernel
theorem dX6_ask_2 : decode cX6_ask 2 = .ok (.invokevirtual 158, 3) := by decide +kernel
theorem dX6_ask_5 : decode cX6_ask 5 = .ok (.ifCond .eq 9, 3) := by decide +kernel
theorem dX6_ask_8 : decode cX6_ask 8 = .ok (.aload_n 0, 1) := by decide +kernel
theorem dX6_ask_9 : decode cX6_ask 9 = .ok (.iconst (-1), 1) := by decide +kernel
theorem dX6_ask_10 : decode cX6_ask 10 = .ok (.invokevirtual 113, 3) := by decide +kernel
theorem dX6_ask_13 : decode cX6_ask 13 = .ok (.ireturn, 1) := by decide +kernel
theorem dX6_ask_14 : decode cX6_ask 14 = .ok (.aload_n 0, 1) := by decide +kernel
theorem dX6_ask_15 : decode cX6_ask 15 = .ok (.getfield 91, 3) := by decide +kernel
theorem dX6_ask_18 : decode cX6_ask 18 = .ok (.iload_n 1, 1) := by decide +kernel
theorem dX6_ask_19 : decode cX6_ask 19 = .ok (.invokestatic 161, 3) := by decide +kernel
theorem dX6_ask_22 : decode cX6_ask 22 = .ok (.ifCond .eq 10, 3) := by decide +kernel
theorem dX6_ask_25 : decode cX6_ask 25 = .ok (.aload_n 0, 1) := by decide +kernel
theorem dX6_ask_26 : decode cX6_ask 26 = .ok (.bipush (-3), 2) := by decide +kernel
theorem dX6_ask_28 : decode cX6_ask 28 = .ok (.invokevirtual 113, 3) := by decide +kernel
theorem dX6_ask_31 : decode cX6_ask 31 = .ok (.ireturn, 1) := by decide +kernel
theorem dX6_ask_32 : decode cX6_ask 32 = .ok (.aload_n 0, 1) := by decide +kernel
theorem dX6_ask_33 : decode cX6_ask 33 = .ok (.iload_n 1, 1) := by decide +kernel
theorem dX6_ask_34 : decode cX6_ask 34 = .ok (.aload_n 0, 1) := by decide +kernel
theorem dX6_ask_35 : decode cX6_ask 35 = .ok (.getfield 91, 3) := by decide +kernel
theorem dX6_ask_38 : decode cX6_ask 38 = .ok (.iconst (-1), 1) := by decide +kernel
theorem dX6_ask_39 : decode cX6_ask 39 = .ok (.invokevirtual 185, 3) := by decide +kernel
theorem dX6_ask_42 : decode cX6_ask 42 = .ok (.aload_n 0, 1) := by decide +kernel
theorem dX6_ask_43 : decode cX6_ask 43 = .ok (.dup, 1) := by decide +kernel
theorem dX6_ask_44 : decode cX6_ask 44 = .ok (.getfield 91, 3) := by decide +kernel
theorem dX6_ask_47 : decode cX6_ask 47 = .ok (.aload_n 0, 1) := by decide +kernel
theorem dX6_ask_48 : decode cX6_ask 48 = .ok (.invokevirtual 189, 3) := by decide +kernel
theorem dX6_ask_51 : decode cX6_ask 51 = .ok (.ior, 1) := by decide +kernel
theorem dX6_ask_52 : decode cX6_ask 52 = .ok (.putfield 91, 3) := by decide +kernel
theorem dX6_ask_55 : decode cX6_ask 55 = .ok (.aload_n 0, 1) := by decide +kernel
theorem dX6_ask_56 : decode cX6_ask 56 = .ok (.dup, 1) := by decide +kernel
theorem dX6_ask_57 : decode cX6_ask 57 = .ok (.getfield 97, 3) := by decide +kernel
theorem dX6_ask_60 : decode cX6_ask 60 = .ok (.aload_n 0, 1) := by decide +kernel
theorem dX6_ask_61 : decode cX6_ask 61 = .ok (.invokevirtual 192, 3) := by decide +kernel
theorem dX6_ask_64 : decode cX6_ask 64 = .ok (.iadd, 1) := by decide +kernel
theorem dX6_ask_65 : decode cX6_ask 65 = .ok (.putfield 97, 3) := by decide +kernel
theorem dX6_ask_68 : decode cX6_ask 68 = .ok (.aload_n 0, 1) := by decide +kernel
theorem dX6_ask_69 : decode cX6_ask 69 = .ok (.invokevirtual 195, 3) := by decide +kernel
theorem dX6_ask_72 : decode cX6_ask 72 = .ok (.ireturn, 1) := by decide +kernel
theorem dX6_day_0 : decode cX6_day 0 = .ok (.aload_n 0, 1) := by decide +kernel
theorem dX6_day_1 : decode cX6_day 1 = .ok (.iconst 0, 1) := by decide +kernel
theorem dX6_day_2 : decode cX6_day 2 = .ok (.putfield 91, 3) := by decide +kernel
theorem dX6_day_5 : decode cX6_day 5 = .ok (.aload_n 0, 1) := by decide +kernel
theorem dX6_day_6 : decode cX6_day 6 = .ok (.iconst 0, 1) := by decide +kernel
theorem dX6_day_7 : decode cX6_day 7 = .ok (.putfield 97, 3) := by decide +kernel
theorem dX6_day_10 : decode cX6_day 10 = .ok (.aload_n 0, 1) := by decide +kernel
theorem dX6_day_11 : decode cX6_day 11 = .ok (.dup, 1) := by decide +kernel
theorem dX6_day_12 : decode cX6_day 12 = .ok (.getfield 103, 3) := by decide +kernel
theorem dX6_day_15 : decode cX6_day 15 = .ok (.iconst 1, 1) := by decide +kernel
theorem dX6_day_16 : decode cX6_day 16 = .ok (.iadd, 1) := by decide +kernel
theorem dX6_day_17 : decode cX6_day 17 = .ok (.putfield 103, 3) := by decide +kernel
theorem dX6_day_20 : decode cX6_day 20 = .ok (.aload_n 0, 1) := by decide +kernel
theorem dX6_day_21 : decode cX6_day 21 = .ok (.getfield 103, 3) := by decide +kernel
theorem dX6_day_24 : decode cX6_day 24 = .ok (.ireturn, 1) := by decide +kernel
set_option maxRecDepth 20000 in
theorem ggX6_may_X6_isNobody : GoodIn wsX6_may wsX6_isNobody := goodIn_r _ [6, 7, 30, 31, 32, 33, 34, 35, 36, 37, 38, 39, 40, 41, 42, 43, 44, 45, 46, 47, 48, 49, 50, 51, 52, 53, 54, 55, 56, 57, 58, 59, 60, 61, 62, 63, 64, 65, 66, 67, 68, 69, 70, 71, 72, 73, 74, 75, 76, 77, 78, 79, 80, 81] (by decide +kernel) (by decide +kernel)
set_option maxRecDepth 20000 in
theorem gX6_may_X6_isNobody : GoodIn wsX6_may (wsV RX6 158 RX6 yX6_isNobody wsX6_isNobody) := goodIn_app (goodIn_of _ (by decide +kernel)) ggX6_may_X6_isNobody
set_option maxRecDepth 20000 in
theorem ggX6_may_X6_no : GoodIn wsX6_may wsX6_no := goodIn_r _ [11, 12, 30, 31, 32, 33, 34, 35, 36, 37, 38, 39, 40, 41, 42, 43, 44, 45, 46, 47, 48, 49, 50, 51, 52, 53, 54, 55, 56, 57, 58, 59, 60, 61, 62, 63, 64, 65, 66, 67, 68, 69, 70, 71, 72, 73, 74, 75, 76, 77, 78, 79, 80, 81] (by decide +kernel) (by decide +kernel)
set_option maxRecDepth 20000 in
theorem gX6_may_X6_no : GoodIn wsX6_may (wsV RX6 113 RX6 yX6_no wsX6_no) := goodIn_app (goodIn_of _ (by decide +kernel)) ggX6_may_X6_no
set_option maxRecDepth 20000 in
theorem ggX6_may_X6_isIn : GoodIn wsX6_may wsX6_isIn := goodIn_r _ [15] (by decide +kernel) (by decide +kernel)
set_option maxRecDepth 20000 in
theorem gX6_may_X6_isIn : GoodIn wsX6_may (va_wsS RX6 161 yX6_isIn wsX6_isIn) := goodIn_app (goodIn_of _ (by decide +kernel)) ggX6_may_X6_isIn
set_option maxRecDepth 20000 in
theorem ggX6_may_X6_mayTo : GoodIn wsX6_may wsX6_mayTo := goodIn_r _ [19, 20, 7, 21, 22, 23, 5, 24, 13, 14, 15, 25, 26, 27, 28, 29, 30, 31, 32, 33, 34, 35, 36, 37, 38, 39, 40, 41, 42, 43, 44, 45, 46, 47, 48, 49, 50, 51, 52, 53, 54, 55, 56, 57, 58, 59, 60, 61, 62, 63, 64, 65, 66, 67, 68, 69, 70, 71, 72, 73, 74, 75, 76, 77, 78, 79, 80, 81] (by decide +kernel) (by decide +kernel)
set_option maxRecDepth 20000 in
theorem gX6_may_X6_mayTo : GoodIn wsX6_may (wsV RX6 171 RX6 yX6_mayTo wsX6_mayTo) := goodIn_app (goodIn_of _ (by decide +kernel)) ggX6_may_X6_mayTo
theorem dX6_may_0 : decode cX6_may 0 = .ok (.aload_n 0, 1) := by decide +kernel
theorem dX6_may_1 : decode cX6_may 1 = .ok (.iload_n 1, 1) := by decide +kernel
theorem dX6_may_2 : decode cX6_may 2 = .ok (.invokevirtual 158, 3) := by decide +kernel
theorem dX6_may_5 : decode cX6_may 5 = .ok (.ifCond .eq 9, 3) := by decide +kernel
theorem dX6_may_8 : decode cX6_may 8 = .ok (.aload_n 0, 1) := by decide +kernel
theorem dX6_may_9 : decode cX6_may 9 = .ok (.iconst (-1), 1) := by decide +kernel
theorem dX6_may_10 : decode cX6_may 10 = .ok (.invokevirtual 113, 3) := by decide +kernel
theorem dX6_may_13 : decode cX6_may 13 = .ok (.ireturn, 1) := by decide +kernel
theorem dX6_may_14 : decode cX6_may 14 = .ok (.aload_n 0, 1) := by decide +kernel
theorem dX6_may_15 : decode cX6_may 15 = .ok (.getfield 91, 3) := by decide +kernel
theorem dX6_may_18 : decode cX6_may 18 = .ok (.iload_n 1, 1) := by decide +kernel
theorem dX6_may_19 : decode cX6_may 19 = .ok (.invokestatic 161, 3) := by decide +kernel
theorem dX6_may_22 : decode cX6_may 22 = .ok (.ifCond .eq 10, 3) := by decide +kernel
theorem dX6_may_25 : decode cX6_may 25 = .ok (.aload_n 0, 1) := by decide +kernel
theorem dX6_may_26 : decode cX6_may 26 = .ok (.bipush (-3), 2) := by decide +kernel
theorem dX6_may_28 : decode cX6_may 28 = .ok (.invokevirtual 113, 3) := by decide +kernel
theorem dX6_may_31 : decode cX6_may 31 = .ok (.ireturn, 1) := by decide +kernel
theorem dX6_may_32 : decode cX6_may 32 = .ok (.aload_n 0, 1) := by decide +kernel
theorem dX6_may_33 : decode cX6_may 33 = .ok (.iload_n 1, 1) := by decide +kernel
theorem dX6_may_34 : decode cX6_may 34 = .ok (.iconst 1, 1) := by decide +kernel
theorem dX6_may_35 : decode cX6_may 35 = .ok (.iload_n 1, 1) := by decide +kernel
theorem dX6_may_36 : decode cX6_may 36 = .ok (.ishl, 1) := by decide +kernel
theorem dX6_may_37 : decode cX6_may 37 = .ok (.aload_n 0, 1) := by decide +kernel
theorem dX6_may_38 : decode cX6_may 38 = .ok (.getfield 91, 3) := by decide +kernel
theorem dX6_may_41 : decode cX6_may 41 = .ok (.iconst (-1), 1) := by decide +kernel
theorem dX6_may_42 : decode cX6_may 42 = .ok (.invokevirtual 171, 3) := by decide +kernel
theorem dX6_may_45 : decode cX6_may 45 = .ok (.ireturn, 1) := by decide +kernel
set_option maxRecDepth 20000 in
theorem ggX6_run_X6_isNobody : GoodIn wsX6_run wsX6_isNobody := goodIn_r _ [7, 8, 55, 56, 57, 58, 59, 60, 61, 62, 63, 64, 65, 66, 67, 68, 69, 70, 71, 72, 73, 74, 75, 76, 77, 78, 79, 80, 81, 82, 83, 84, 85, 86, 87, 88, 89, 90, 91, 92, 93, 94, 95, 96, 97, 98, 99, 100, 101, 102, 103, 104, 105, 106] (by decide +kernel) (by decide +kernel)
set_option maxRecDepth 20000 in
theorem gX6_run_X6_isNobody : GoodIn wsX6_run (wsV RX6 158 RX6 yX6_isNobody wsX6_isNobody) := goodIn_app (goodIn_of _ (by decide +kernel)) ggX6_run_X6_isNobody
set_option maxRecDepth 20000 in
theorem ggX6_run_X6_no : GoodIn wsX6_run wsX6_no := goodIn_r _ [12, 13, 55, 56, 57, 58, 59, 60, 61, 62, 63, 64, 65, 66, 67, 68, 69, 70, 71, 72, 73, 74, 75, 76, 77, 78, 79, 80, 81, 82, 83, 84, 85, 86, 87, 88, 89, 90, 91, 92, 93, 94, 95, 96, 97, 98, 99, 100, 101, 102, 103, 104, 105, 106] (by decide +kernel) (by decide +kernel)
set_option maxRecDepth 20000 in
theorem gX6_run_X6_no : GoodIn wsX6_run (wsV RX6 113 RX6 yX6_no wsX6_no) := goodIn_app (goodIn_of _ (by decide +kernel)) ggX6_run_X6_no
set_option maxRecDepth 20000 in
theorem ggX6_run_X6_isIn : GoodIn wsX6_run wsX6_isIn := goodIn_r _ [16] (by decide +kernel) (by decide +kernel)
set_option maxRecDepth 20000 in
theorem gX6_run_X6_isIn : GoodIn wsX6_run (va_wsS RX6 161 yX6_isIn wsX6_isIn) := goodIn_app (goodIn_of _ (by decide +kernel)) ggX6_run_X6_isIn
set_option maxRecDepth 20000 in
theorem ggX6_run_X6_go : GoodIn wsX6_run wsX6_go := goodIn_r _ [20, 2, 21, 22, 23, 24, 6, 25, 8, 26, 27, 28, 29, 30, 31, 32, 33, 34, 35, 36, 14, 15, 16, 37, 38, 39, 40, 41, 55, 56, 57, 58, 59, 60, 61, 62, 63, 64, 65, 66, 67, 68, 69, 70, 71, 72, 73, 74, 75, 76, 77, 78, 79, 80, 81, 82, 83, 84, 85, 86, 87, 88, 89, 90, 91, 92, 93, 94, 95, 96, 97, 98, 99, 100, 101, 102, 103, 104, 105, 106] (by decide +kernel) (by decide +kernel)
set_option maxRecDepth 20000 in
theorem gX6_run_X6_go : GoodIn wsX6_run (wsV RX6 185 RX6 yX6_go wsX6_go) := goodIn_app (goodIn_of _ (by decide +kernel)) ggX6_run_X6_go
set_option maxRecDepth 20000 in
theorem ggX6_run_X6_time : GoodIn wsX6_run wsX6_time := goodIn_r _ [45, 2, 26, 21, 55, 56, 57, 58, 59, 60, 61, 62, 63, 64, 65, 66, 67, 68, 69, 70, 71, 72, 73, 74, 75, 76, 77, 78, 79, 80, 81, 82, 83, 84, 85, 86, 87, 88, 89, 90, 91, 92, 93, 94, 95, 96, 97, 98, 99, 100, 101, 102, 103, 104, 105, 106] (by decide +kernel) (by decide +kernel)
set_option maxRecDepth 20000 in
theorem gX6_run_X6_time : GoodIn wsX6_run (wsV RX6 192 RX6 yX6_time wsX6_time) := goodIn_app (goodIn_of _ (by decide +kernel)) ggX6_run_X6_time
set_option maxRecDepth 20000 in
theorem ggX6_run_X6_right : GoodIn wsX6_run wsX6_right := goodIn_r _ [49, 2, 21, 50, 51, 52, 6, 53, 28, 54, 55, 56, 57, 58, 59, 60, 61, 62, 63, 64, 65, 66, 67, 68, 69, 70, 71, 72, 73, 74, 75, 76, 77, 78, 79, 80, 81, 82, 83, 84, 85, 86, 87, 88, 89, 90, 91, 92, 93, 94, 95, 96, 97, 98, 99, 100, 101, 102, 103, 104, 105, 106] (by decide +kernel) (by decide +kernel)
set_option maxRecDepth 20000 in
theorem gX6_run_X6_right : GoodIn wsX6_run (wsV RX6 195 RX6 yX6_right wsX6_right) := goodIn_app (goodIn_of _ (by decide +kernel)) ggX6_run_X6_right
theorem dX6_run_0 : decode cX6_run 0 = .ok (.aload_n 0, 1) := by decide +kernel
theorem dX6_run_1 : decode cX6_run 1 = .ok (.iload_n 1, 1) := by decide +kernel
theorem dX6_run_2 : decode cX6_run 2 = .ok (.invokevirtual 158, 3) := by decide +kernel
theorem dX6_run_5 : decode cX6_run 5 = .ok (.ifCond .eq 9, 3) := by decide +kernel
theorem dX6_run_8 : decode cX6_run 8 = .ok (.aload_n 0, 1) := by decide +kernel
theorem dX6_run_9 : decode cX6_run 9 = .ok (.iconst (-1), 1) := by decide +kernel
theorem dX6_run_10 : decode cX6_run 10 = .ok (.invokevirtual 113, 3) := by decide +kernel
theorem dX6_run_13 : decode cX6_run 13 = .ok (.ireturn, 1) := by decide +kernel
theorem dX6_run_14 : decode cX6_run 14 = .ok (.iload_n 2, 1) := by decide +kernel
theorem dX6_run_15 : decode cX6_run 15 = .ok (.ifCond .lt 8, 3) := by decide +kernel
theorem dX6_run_18 : decode cX6_run 18 = .ok (.iload_n 2, 1) := by decide +kernel
theorem dX6_run_19 : decode cX6_run 19 = .ok (.iconst 2, 1) := by decide +kernel
theorem dX6_run_20 : decode cX6_run 20 = .ok (.if_icmp .le 10, 3) := by decide +kernel
theorem dX6_run_23 : decode cX6_run 23 = .ok (.aload_n 0, 1) := by decide +kernel
theorem dX6_run_24 : decode cX6_run 24 = .ok (.bipush (-2), 2) := by decide +kernel
theorem dX6_run_26 : decode cX6_run 26 = .ok (.invokevirtual 113, 3) := by decide +kernel
theorem dX6_run_29 : decode cX6_run 29 = .ok (.ireturn, 1) := by decide +kernel
theorem dX6_run_30 : decode cX6_run 30 = .ok (.aload_n 0, 1) := by decide +kernel
theorem dX6_run_31 : decode cX6_run 31 = .ok (.getfield 91, 3) := by decide +kernel
theorem dX6_run_34 : decode cX6_run 34 = .ok (.iload_n 1, 1) := by decide +kernel
theorem dX6_run_35 : decode cX6_run 35 = .ok (.invokestatic 161, 3) := by decide +kernel
theorem dX6_run_38 : decode cX6_run 38 = .ok (.ifCond .eq 10, 3) := by decide +kernel
theorem dX6_run_41 : decode cX6_run 41 = .ok (.aload_n 0, 1) := by decide +kernel
theorem dX6_run_42 : decode cX6_run 42 = .ok (.bipush (-3), 2) := by decide +kernel
theorem dX6_run_44 : decode cX6_run 44 = .ok (.invokevirtual 113, 3) := by decide +kernel
theorem dX6_run_47 : decode cX6_run 47 = .ok (.ireturn, 1) := by decide +kernel
theorem dX6_run_48 : decode cX6_run 48 = .ok (.aload_n 0, 1) := by decide +kernel
theorem dX6_run_49 : decode cX6_run 49 = .ok (.iload_n 1, 1) := by decide +kernel
theorem dX6_run_50 : decode cX6_run 50 = .ok (.aload_n 0, 1) := by decide +kernel
theorem dX6_run_51 : decode cX6_run 51 = .ok (.getfield 91, 3) := by decide +kernel
theorem dX6_run_54 : decode cX6_run 54 = .ok (.iconst (-1), 1) := by decide +kernel
theorem dX6_run_55 : decode cX6_run 55 = .ok (.invokevirtual 185, 3) := by decide +kernel
theorem dX6_run_58 : decode cX6_run 58 = .ok (.iload_n 2, 1) := by decide +kernel
theorem dX6_run_59 : decode cX6_run 59 = .ok (.ifCond .ne 10, 3) := by decide +kernel
theorem dX6_run_62 : decode cX6_run 62 = .ok (.aload_n 0, 1) := by decide +kernel
theorem dX6_run_63 : decode cX6_run 63 = .ok (.invokevirtual 192, 3) := by decide +kernel
theorem dX6_run_66 : decode cX6_run 66 = .ok (.goto 19, 3) := by decide +kernel
theorem dX6_run_69 : decode cX6_run 69 = .ok (.iload_n 2, 1) := by decide +kernel
theorem dX6_run_70 : decode cX6_run 70 = .ok (.iconst 1, 1) := by decide +kernel
theorem dX6_run_71 : decode cX6_run 71 = .ok (.if_icmp .ne 10, 3) := by decide +kernel
theorem dX6_run_74 : decode cX6_run 74 = .ok (.aload_n 0, 1) := by decide +kernel
theorem dX6_run_75 : decode cX6_run 75 = .ok (.invokevirtual 195, 3) := by decide +kernel
theorem dX6_run_78 : decode cX6_run 78 = .ok (.goto 7, 3) := by decide +kernel
theorem dX6_run_81 : decode cX6_run 81 = .ok (.aload_n 0, 1) := by decide +kernel
theorem dX6_run_82 : decode cX6_run 82 = .ok (.getfield 175, 3) := by decide +kernel
theorem dX6_run_85 : decode cX6_run 85 = .ok (.ireturn, 1) := by decide +kernel
set_option maxRecDepth 20000 in
theorem ggX6_runOf_X6_isNobody : GoodIn wsX6_runOf wsX6_isNobody := goodIn_r _ [8, 9, 42, 43, 44, 45, 46, 47, 48, 49, 50, 51, 52, 53, 54, 55, 56, 57, 58, 59, 60, 61, 62, 63, 64, 65, 66, 67, 68, 69, 70, 71, 72, 73, 74, 75, 76, 77, 78, 79, 80, 81, 82, 83, 84, 85, 86, 87, 88, 89, 90, 91, 92, 93] (by decide +kernel) (by decide +kernel)
set_option maxRecDepth 20000 in
theorem gX6_runOf_X6_isNobody : GoodIn wsX6_runOf (wsV RX6 158 RX6 yX6_isNobody wsX6_isNobody) := goodIn_app (goodIn_of _ (by decide +kernel)) ggX6_runOf_X6_isNobody
set_option maxRecDepth 20000 in
theorem ggX6_runOf_X6_no : GoodIn wsX6_runOf wsX6_no := goodIn_r _ [13, 14, 42, 43, 44, 45, 46, 47, 48, 49, 50, 51, 52, 53, 54, 55, 56, 57, 58, 59, 60, 61, 62, 63, 64, 65, 66, 67, 68, 69, 70, 71, 72, 73, 74, 75, 76, 77, 78, 79, 80, 81, 82, 83, 84, 85, 86, 87, 88, 89, 90, 91, 92, 93] (by decide +kernel) (by decide +kernel)
set_option maxRecDepth 20000 in
theorem gX6_runOf_X6_no : GoodIn wsX6_runOf (wsV RX6 113 RX6 yX6_no wsX6_no) := goodIn_app (goodIn_of _ (by decide +kernel)) ggX6_runOf_X6_no
set_option maxRecDepth 20000 in
theorem ggX6_runOf_X6_isIn : GoodIn wsX6_runOf wsX6_isIn := goodIn_r _ [17] (by decide +kernel) (by decide +kernel)
set_option maxRecDepth 20000 in
theorem gX6_runOf_X6_isIn : GoodIn wsX6_runOf (va_wsS RX6 161 yX6_isIn wsX6_isIn) := goodIn_app (goodIn_of _ (by decide +kernel)) ggX6_runOf_X6_isIn
set_option maxRecDepth 20000 in
theorem ggX6_runOf_X6_go : GoodIn wsX6_runOf wsX6_go := goodIn_r _ [21, 2, 3, 22, 23, 24, 7, 25, 9, 26, 27, 28, 29, 30, 31, 32, 33, 34, 35, 36, 15, 16, 17, 37, 38, 39, 40, 41, 42, 43, 44, 45, 46, 47, 48, 49, 50, 51, 52, 53, 54, 55, 56, 57, 58, 59, 60, 61, 62, 63, 64, 65, 66, 67, 68, 69, 70, 71, 72, 73, 74, 75, 76, 77, 78, 79, 80, 81, 82, 83, 84, 85, 86, 87, 88, 89, 90, 91, 92, 93] (by decide +kernel) (by decide +kernel)
set_option maxRecDepth 20000 in
theorem gX6_runOf_X6_go : GoodIn wsX6_runOf (wsV RX6 185 RX6 yX6_go wsX6_go) := goodIn_app (goodIn_of _ (by decide +kernel)) ggX6_runOf_X6_go
theorem dX6_runOf_0 : decode cX6_runOf 0 = .ok (.aload_n 0, 1) := by decide +kernel
theorem dX6_runOf_1 : decode cX6_runOf 1 = .ok (.iload_n 1, 1) := by decide +kernel
theorem dX6_runOf_2 : decode cX6_runOf 2 = .ok (.invokevirtual 158, 3) := by decide +kernel
theorem dX6_runOf_5 : decode cX6_runOf 5 = .ok (.ifCond .eq 9, 3) := by decide +kernel
theorem dX6_runOf_8 : decode cX6_runOf 8 = .ok (.aload_n 0, 1) := by decide +kernel
theorem dX6_runOf_9 : decode cX6_runOf 9 = .ok (.iconst (-1), 1) := by decide +kernel
theorem dX6_runOf_10 : decode cX6_runOf 10 = .ok (.invokevirtual 113, 3) := by decide +kernel
theorem dX6_runOf_13 : decode cX6_runOf 13 = .ok (.ireturn, 1) := by decide +kernel
theorem dX6_runOf_14 : decode cX6_runOf 14 = .ok (.iload_n 2, 1) := by decide +kernel
theorem dX6_runOf_15 : decode cX6_runOf 15 = .ok (.ifCond .ge 10, 3) := by decide +kernel
theorem dX6_runOf_18 : decode cX6_runOf 18 = .ok (.aload_n 0, 1) := by decide +kernel
theorem dX6_runOf_19 : decode cX6_runOf 19 = .ok (.bipush (-4), 2) := by decide +kernel
theorem dX6_runOf_21 : decode cX6_runOf 21 = .ok (.invokevirtual 113, 3) := by decide +kernel
theorem dX6_runOf_24 : decode cX6_runOf 24 = .ok (.ireturn, 1) := by decide +kernel
theorem dX6_runOf_25 : decode cX6_runOf 25 = .ok (.aload_n 0, 1) := by decide +kernel
theorem dX6_runOf_26 : decode cX6_runOf 26 = .ok (.getfield 91, 3) := by decide +kernel
theorem dX6_runOf_29 : decode cX6_runOf 29 = .ok (.iload_n 1, 1) := by decide +kernel
theorem dX6_runOf_30 : decode cX6_runOf 30 = .ok (.invokestatic 161, 3) := by decide +kernel
theorem dX6_runOf_33 : decode cX6_runOf 33 = .ok (.ifCond .eq 10, 3) := by decide +kernel
theorem dX6_runOf_36 : decode cX6_runOf 36 = .ok (.aload_n 0, 1) := by decide +kernel
theorem dX6_runOf_37 : decode cX6_runOf 37 = .ok (.bipush (-3), 2) := by decide +kernel
theorem dX6_runOf_39 : decode cX6_runOf 39 = .ok (.invokevirtual 113, 3) := by decide +kernel
theorem dX6_runOf_42 : decode cX6_runOf 42 = .ok (.ireturn, 1) := by decide +kernel
theorem dX6_runOf_43 : decode cX6_runOf 43 = .ok (.aload_n 0, 1) := by decide +kernel
theorem dX6_runOf_44 : decode cX6_runOf 44 = .ok (.iload_n 1, 1) := by decide +kernel
theorem dX6_runOf_45 : decode cX6_runOf 45 = .ok (.aload_n 0, 1) := by decide +kernel
theorem dX6_runOf_46 : decode cX6_runOf 46 = .ok (.getfield 91, 3) := by decide +kernel
theorem dX6_runOf_49 : decode cX6_runOf 49 = .ok (.iconst (-1), 1) := by decide +kernel
theorem dX6_runOf_50 : decode cX6_runOf 50 = .ok (.invokevirtual 185, 3) := by decide +kernel
theorem dX6_runOf_53 : decode cX6_runOf 53 = .ok (.iload_n 2, 1) := by decide +kernel
theorem dX6_runOf_54 : decode cX6_runOf 54 = .ok (.aload_n 0, 1) := by decide +kernel
theorem dX6_runOf_55 : decode cX6_runOf 55 = .ok (.getfield 175, 3) := by decide +kernel
theorem dX6_runOf_58 : decode cX6_runOf 58 = .ok (.if_icmp .ge 12, 3) := by decide +kernel
theorem dX6_runOf_61 : decode cX6_runOf 61 = .ok (.aload_n 0, 1) := by decide +kernel
theorem dX6_runOf_62 : decode cX6_runOf 62 = .ok (.getfield 59, 3) := by decide +kernel
theorem dX6_runOf_65 : decode cX6_runOf 65 = .ok (.iload_n 2, 1) := by decide +kernel
theorem dX6_runOf_66 : decode cX6_runOf 66 = .ok (.iaload, 1) := by decide +kernel
theorem dX6_runOf_67 : decode cX6_runOf 67 = .ok (.goto 5, 3) := by decide +kernel
theorem dX6_runOf_70 : decode cX6_runOf 70 = .ok (.bipush (-9), 2) := by decide +kernel
theorem dX6_runOf_72 : decode cX6_runOf 72 = .ok (.ireturn, 1) := by decide +kernel
theorem dX6_take_0 : decode cX6_take 0 = .ok (.iconst 0, 1) := by decide +kernel
theorem dX6_take_1 : decode cX6_take 1 = .ok (.istore_n 2, 1) := by decide +kernel
theorem dX6_take_2 : decode cX6_take 2 = .ok (.iload_n 2, 1) := by decide +kernel
theorem dX6_take_3 : decode cX6_take 3 = .ok (.aload_n 0, 1) := by decide +kernel
theorem dX6_take_4 : decode cX6_take 4 = .ok (.getfield 175, 3) := by decide +kernel
theorem dX6_take_7 : decode cX6_take 7 = .ok (.if_icmp .ge 18, 3) := by decide +kernel
theorem dX6_take_10 : decode cX6_take 10 = .ok (.aload_n 1, 1) := by decide +kernel
theorem dX6_take_11 : decode cX6_take 11 = .ok (.iload_n 2, 1) := by decide +kernel
theorem dX6_take_12 : decode cX6_take 12 = .ok (.aload_n 0, 1) := by decide +kernel
theorem dX6_take_13 : decode cX6_take 13 = .ok (.getfield 59, 3) := by decide +kernel
theorem dX6_take_16 : decode cX6_take 16 = .ok (.iload_n 2, 1) := by decide +kernel
theorem dX6_take_17 : decode cX6_take 17 = .ok (.iaload, 1) := by decide +kernel
theorem dX6_take_18 : decode cX6_take 18 = .ok (.iastore, 1) := by decide +kernel
theorem dX6_take_19 : decode cX6_take 19 = .ok (.iinc 2 1, 3) := by decide +kernel
theorem dX6_take_22 : decode cX6_take 22 = .ok (.goto (-20), 3) := by decide +kernel
theorem dX6_take_25 : decode cX6_take 25 = .ok (.return_, 1) := by decide +kernel
set_option maxRecDepth 20000 in
theorem ggX6_one_X6_time : GoodIn wsX6_one wsX6_time := goodIn_r _ [21, 3, 22, 23, 42, 43, 44, 45, 46, 47, 48, 49, 50, 51, 52, 53, 54, 55, 56, 57, 58, 59, 60, 61, 62, 63, 64, 65, 66, 67, 68, 69, 70, 71, 72, 73, 74, 75, 76, 77, 78, 79, 80, 81, 82, 83, 84, 85, 86, 87, 88, 89, 90, 91, 92, 93] (by decide +kernel) (by decide +kernel)
set_option maxRecDepth 20000 in
theorem gX6_one_X6_time : GoodIn wsX6_one (wsV RX6 192 RX6 yX6_time wsX6_time) := goodIn_app (goodIn_of _ (by decide +kernel)) ggX6_one_X6_time
set_option maxRecDepth 20000 in
theorem ggX6_one_X6_right : GoodIn wsX6_one wsX6_right := goodIn_r _ [27, 3, 23, 28, 29, 30, 20, 31, 32, 33, 42, 43, 44, 45, 46, 47, 48, 49, 50, 51, 52, 53, 54, 55, 56, 57, 58, 59, 60, 61, 62, 63, 64, 65, 66, 67, 68, 69, 70, 71, 72, 73, 74, 75, 76, 77, 78, 79, 80, 81, 82, 83, 84, 85, 86, 87, 88, 89, 90, 91, 92, 93] (by decide +kernel) (by decide +kernel)
set_option maxRecDepth 20000 in
theorem gX6_one_X6_right : GoodIn wsX6_one (wsV RX6 195 RX6 yX6_right wsX6_right) := goodIn_app (goodIn_of _ (by decide +kernel)) ggX6_one_X6_right
set_option maxRecDepth 20000 in
theorem ggX6_one_X6_onWay : GoodIn wsX6_one wsX6_onWay := goodIn_r _ [37, 3, 23, 42, 43, 44, 45, 46, 47, 48, 49, 50, 51, 52, 53, 54, 55, 56, 57, 58, 59, 60, 61, 62, 63, 64, 65, 66, 67, 68, 69, 70, 71, 72, 73, 74, 75, 76, 77, 78, 79, 80, 81, 82, 83, 84, 85, 86, 87, 88, 89, 90, 91, 92, 93] (by decide +kernel) (by decide +kernel)
set_option maxRecDepth 20000 in
theorem gX6_one_X6_onWay : GoodIn wsX6_one (wsV RX6 189 RX6 yX6_onWay wsX6_onWay) := goodIn_app (goodIn_of _ (by decide +kernel)) ggX6_one_X6_onWay
set_option maxRecDepth 20000 in
theorem ggX6_one_X6_take : GoodIn wsX6_one wsX6_take := goodIn_r _ [41, 3, 23, 42, 43, 44, 45, 46, 47, 48, 49, 50, 51, 52, 53, 54, 55, 56, 57, 58, 59, 60, 61, 62, 63, 64, 65, 66, 67, 68, 69, 70, 71, 72, 73, 74, 75, 76, 77, 78, 79, 80, 81, 82, 83, 84, 85, 86, 87, 88, 89, 90, 91, 92, 93] (by decide +kernel) (by decide +kernel)
set_option maxRecDepth 20000 in
theorem gX6_one_X6_take : GoodIn wsX6_one (wsV RX6 207 RX6 yX6_take wsX6_take) := goodIn_app (goodIn_of _ (by decide +kernel)) ggX6_one_X6_take
theorem dX6_one_0 : decode cX6_one 0 = .ok (.aload_n 0, 1) := by decide +kernel
theorem dX6_one_1 : decode cX6_one 1 = .ok (.invokevirtual 192, 3) := by decide +kernel
theorem dX6_one_4 : decode cX6_one 4 = .ok (.istore_n 1, 1) := by decide +kernel
theorem dX6_one_5 : decode cX6_one 5 = .ok (.aload_n 0, 1) := by decide +kernel
theorem dX6_one_6 : decode cX6_one 6 = .ok (.invokevirtual 195, 3) := by decide +kernel
theorem dX6_one_9 : decode cX6_one 9 = .ok (.istore_n 2, 1) := by decide +kernel
theorem dX6_one_10 : decode cX6_one 10 = .ok (.aload_n 0, 1) := by decide +kernel
theorem dX6_one_11 : decode cX6_one 11 = .ok (.invokevirtual 189, 3) := by decide +kernel
theorem dX6_one_14 : decode cX6_one 14 = .ok (.istore_n 3, 1) := by decide +kernel
theorem dX6_one_15 : decode cX6_one 15 = .ok (.aload_n 0, 1) := by decide +kernel
theorem dX6_one_16 : decode cX6_one 16 = .ok (.getfield 198, 3) := by decide +kernel
theorem dX6_one_19 : decode cX6_one 19 = .ok (.ifCond .eq 11, 3) := by decide +kernel
theorem dX6_one_22 : decode cX6_one 22 = .ok (.iload_n 1, 1) := by decide +kernel
theorem dX6_one_23 : decode cX6_one 23 = .ok (.aload_n 0, 1) := by decide +kernel
theorem dX6_one_24 : decode cX6_one 24 = .ok (.getfield 201, 3) := by decide +kernel
theorem dX6_one_27 : decode cX6_one 27 = .ok (.if_icmp .ge 24, 3) := by decide +kernel
theorem dX6_one_30 : decode cX6_one 30 = .ok (.aload_n 0, 1) := by decide +kernel
theorem dX6_one_31 : decode cX6_one 31 = .ok (.iload_n 1, 1) := by decide +kernel
theorem dX6_one_32 : decode cX6_one 32 = .ok (.putfield 201, 3) := by decide +kernel
theorem dX6_one_35 : decode cX6_one 35 = .ok (.aload_n 0, 1) := by decide +kernel
theorem dX6_one_36 : decode cX6_one 36 = .ok (.aload_n 0, 1) := by decide +kernel
theorem dX6_one_37 : decode cX6_one 37 = .ok (.getfield 175, 3) := by decide +kernel
theorem dX6_one_40 : decode cX6_one 40 = .ok (.putfield 204, 3) := by decide +kernel
theorem dX6_one_43 : decode cX6_one 43 = .ok (.aload_n 0, 1) := by decide +kernel
theorem dX6_one_44 : decode cX6_one 44 = .ok (.aload_n 0, 1) := by decide +kernel
theorem dX6_one_45 : decode cX6_one 45 = .ok (.getfield 62, 3) := by decide +kernel
theorem dX6_one_48 : decode cX6_one 48 = .ok (.invokevirtual 207, 3) := by decide +kernel
theorem dX6_one_51 : decode cX6_one 51 = .ok (.aload_n 0, 1) := by decide +kernel
theorem dX6_one_52 : decode cX6_one 52 = .ok (.getfield 198, 3) := by decide +kernel
theorem dX6_one_55 : decode cX6_one 55 = .ok (.ifCond .eq 27, 3) := by decide +kernel
theorem dX6_one_58 : decode cX6_one 58 = .ok (.iload_n 2, 1) := by decide +kernel
theorem dX6_one_59 : decode cX6_one 59 = .ok (.aload_n 0, 1) := by decide +kernel
theorem dX6_one_60 : decode cX6_one 60 = .ok (.getfield 211, 3) := by decide +kernel
theorem dX6_one_63 : decode cX6_one 63 = .ok (.if_icmp .gt 19, 3) := by decide +kernel
theorem dX6_one_66 : decode cX6_one 66 = .ok (.iload_n 2, 1) := by decide +kernel
theorem dX6_one_67 : decode cX6_one 67 = .ok (.aload_n 0, 1) := by decide +kernel
theorem dX6_one_68 : decode cX6_one 68 = .ok (.getfield 211, 3) := by decide +kernel
theorem dX6_one_71 : decode cX6_one 71 = .ok (.if_icmp .ne 37, 3) := by decide +kernel
theorem dX6_one_74 : decode cX6_one 74 = .ok (.iload_n 1, 1) := by decide +kernel
theorem dX6_one_75 : decode cX6_one 75 = .ok (.aload_n 0, 1) := by decide +kernel
theorem dX6_one_76 : decode cX6_one 76 = .ok (.getfield 214, 3) := by decide +kernel
theorem dX6_one_79 : decode cX6_one 79 = .ok (.if_icmp .ge 29, 3) := by decide +kernel
theorem dX6_one_82 : decode cX6_one 82 = .ok (.aload_n 0, 1) := by decide +kernel
theorem dX6_one_83 : decode cX6_one 83 = .ok (.iload_n 2, 1) := by decide +kernel
theorem dX6_one_84 : decode cX6_one 84 = .ok (.putfield 211, 3) := by decide +kernel
theorem dX6_one_87 : decode cX6_one 87 = .ok (.aload_n 0, 1) := by decide +kernel
theorem dX6_one_88 : decode cX6_one 88 = .ok (.iload_n 1, 1) := by decide +kernel
theorem dX6_one_89 : decode cX6_one 89 = .ok (.putfield 214, 3) := by decide +kernel
theorem dX6_one_92 : decode cX6_one 92 = .ok (.aload_n 0, 1) := by decide +kernel
theorem dX6_one_93 : decode cX6_one 93 = .ok (.aload_n 0, 1) := by decide +kernel
theorem dX6_one_94 : decode cX6_one 94 = .ok (.getfield 175, 3) := by decide +kernel
theorem dX6_one_97 : decode cX6_one 97 = .ok (.putfield 217, 3) := by decide +kernel
theorem dX6_one_100 : decode cX6_one 100 = .ok (.aload_n 0, 1) := by decide +kernel
theorem dX6_one_101 : decode cX6_one 101 = .ok (.aload_n 0, 1) := by decide +kernel
theorem dX6_one_102 : decode cX6_one 102 = .ok (.getfield 65, 3) := by decide +kernel
theorem dX6_one_105 : decode cX6_one 105 = .ok (.invokevirtual 207, 3) := by decide +kernel
theorem dX6_one_108 : decode cX6_one 108 = .ok (.aload_n 0, 1) := by decide +kernel
theorem dX6_one_109 : decode cX6_one 109 = .ok (.getfield 198, 3) := by decide +kernel
theorem dX6_one_112 : decode cX6_one 112 = .ok (.ifCond .eq 33, 3) := by decide +kernel
theorem dX6_one_115 : decode cX6_one 115 = .ok (.aload_n 0, 1) := by decide +kernel
theorem dX6_one_116 : decode cX6_one 116 = .ok (.getfield 175, 3) := by decide +kernel
theorem dX6_one_119 : decode cX6_one 119 = .ok (.aload_n 0, 1) := by decide +kernel
theorem dX6_one_120 : decode cX6_one 120 = .ok (.getfield 220, 3) := by decide +kernel
theorem dX6_one_123 : decode cX6_one 123 = .ok (.if_icmp .gt 22, 3) := by decide +kernel
theorem dX6_one_126 : decode cX6_one 126 = .ok (.aload_n 0, 1) := by decide +kernel
theorem dX6_one_127 : decode cX6_one 127 = .ok (.getfield 175, 3) := by decide +kernel
theorem dX6_one_130 : decode cX6_one 130 = .ok (.aload_n 0, 1) := by decide +kernel
theorem dX6_one_131 : decode cX6_one 131 = .ok (.getfield 220, 3) := by decide +kernel
theorem dX6_one_134 : decode cX6_one 134 = .ok (.if_icmp .ne 32, 3) := by decide +kernel
theorem dX6_one_137 : decode cX6_one 137 = .ok (.iload_n 1, 1) := by decide +kernel
theorem dX6_one_138 : decode cX6_one 138 = .ok (.aload_n 0, 1) := by decide +kernel
theorem dX6_one_139 : decode cX6_one 139 = .ok (.getfield 223, 3) := by decide +kernel
theorem dX6_one_142 : decode cX6_one 142 = .ok (.if_icmp .le 24, 3) := by decide +kernel
theorem dX6_one_145 : decode cX6_one 145 = .ok (.aload_n 0, 1) := by decide +kernel
theorem dX6_one_146 : decode cX6_one 146 = .ok (.aload_n 0, 1) := by decide +kernel
theorem dX6_one_147 : decode cX6_one 147 = .ok (.getfield 175, 3) := by decide +kernel
theorem dX6_one_150 : decode cX6_one 150 = .ok (.putfield 220, 3) := by decide +kernel
theorem dX6_one_153 : decode cX6_one 153 = .ok (.aload_n 0, 1) := by decide +kernel
theorem dX6_one_154 : decode cX6_one 154 = .ok (.iload_n 1, 1) := by decide +kernel
theorem dX6_one_155 : decode cX6_one 155 = .ok (.putfield 223, 3) := by decide +kernel
theorem dX6_one_158 : decode cX6_one 158 = .ok (.aload_n 0, 1) := by decide +kernel
theorem dX6_one_159 : decode cX6_one 159 = .ok (.aload_n 0, 1) := by decide +kernel
theorem dX6_one_160 : decode cX6_one 160 = .ok (.getfield 68, 3) := by decide +kernel
theorem dX6_one_163 : decode cX6_one 163 = .ok (.invokevirtual 207, 3) := by decide +kernel
theorem dX6_one_166 : decode cX6_one 166 = .ok (.aload_n 0, 1) := by decide +kernel
theorem dX6_one_167 : decode cX6_one 167 = .ok (.aload_n 0, 1) := by decide +kernel
theorem dX6_one_168 : decode cX6_one 168 = .ok (.getfield 198, 3) := by decide +kernel
theorem dX6_one_171 : decode cX6_one 171 = .ok (.ifCond .ne 7, 3) := by decide +kernel
theorem dX6_one_174 : decode cX6_one 174 = .ok (.iload_n 3, 1) := by decide +kernel
theorem dX6_one_175 : decode cX6_one 175 = .ok (.goto 9, 3) := by decide +kernel
theorem dX6_one_178 : decode cX6_one 178 = .ok (.aload_n 0, 1) := by decide +kernel
theorem dX6_one_179 : decode cX6_one 179 = .ok (.getfield 226, 3) := by decide +kernel
theorem dX6_one_182 : decode cX6_one 182 = .ok (.iload_n 3, 1) := by decide +kernel
theorem dX6_one_183 : decode cX6_one 183 = .ok (.iand, 1) := by decide +kernel
theorem dX6_one_184 : decode cX6_one 184 = .ok (.putfield 226, 3) := by decide +kernel
theorem dX6_one_187 : decode cX6_one 187 = .ok (.iload_n 1, 1) := by decide +kernel
theorem dX6_one_188 : decode cX6_one 188 = .ok (.aload_n 0, 1) := by decide +kernel
theorem dX6_one_189 : decode cX6_one 189 = .ok (.getfield 229, 3) := by decide +kernel
theorem dX6_one_192 : decode cX6_one 192 = .ok (.if_icmp .ne 34, 3) := by decide +kernel
theorem dX6_one_195 : decode cX6_one 195 = .ok (.aload_n 0, 1) := by decide +kernel
theorem dX6_one_196 : decode cX6_one 196 = .ok (.aload_n 0, 1) := by decide +kernel
theorem dX6_one_197 : decode cX6_one 197 = .ok (.getfield 232, 3) := by decide +kernel
theorem dX6_one_200 : decode cX6_one 200 = .ok (.ifCond .ne 7, 3) := by decide +kernel
theorem dX6_one_203 : decode cX6_one 203 = .ok (.iload_n 3, 1) := by decide +kernel
theorem dX6_one_204 : decode cX6_one 204 = .ok (.goto 9, 3) := by decide +kernel
theorem dX6_one_207 : decode cX6_one 207 = .ok (.aload_n 0, 1) := by decide +kernel
theorem dX6_one_208 : decode cX6_one 208 = .ok (.getfield 235, 3) := by decide +kernel
theorem dX6_one_211 : decode cX6_one 211 = .ok (.iload_n 3, 1) := by decide +kernel
theorem dX6_one_212 : decode cX6_one 212 = .ok (.iand, 1) := by decide +kernel
theorem dX6_one_213 : decode cX6_one 213 = .ok (.putfield 235, 3) := by decide +kernel
theorem dX6_one_216 : decode cX6_one 216 = .ok (.aload_n 0, 1) := by decide +kernel
theorem dX6_one_217 : decode cX6_one 217 = .ok (.dup, 1) := by decide +kernel
theorem dX6_one_218 : decode cX6_one 218 = .ok (.getfield 232, 3) := by decide +kernel
theorem dX6_one_221 : decode cX6_one 221 = .ok (.iconst 1, 1) := by decide +kernel
theorem dX6_one_222 : decode cX6_one 222 = .ok (.iadd, 1) := by decide +kernel
theorem dX6_one_223 : decode cX6_one 223 = .ok (.putfield 232, 3) := by decide +kernel
theorem dX6_one_226 : decode cX6_one 226 = .ok (.aload_n 0, 1) := by decide +kernel
theorem dX6_one_227 : decode cX6_one 227 = .ok (.dup, 1) := by decide +kernel
theorem dX6_one_228 : decode cX6_one 228 = .ok (.getfield 198, 3) := by decide +kernel
theorem dX6_one_231 : decode cX6_one 231 = .ok (.iconst 1, 1) := by decide +kernel
theorem dX6_one_232 : decode cX6_one 232 = .ok (.iadd, 1) := by decide +kernel
theorem dX6_one_233 : decode cX6_one 233 = .ok (.putfield 198, 3) := by decide +kernel
theorem dX6_one_236 : decode cX6_one 236 = .ok (.return_, 1) := by decide +kernel
set_option maxRecDepth 20000 in
theorem ggX6_down_X6_mayTo : GoodIn wsX6_down wsX6_mayTo := goodIn_r _ [9, 10, 4, 11, 12, 13, 8, 14, 15, 16, 17, 18, 19, 20, 21, 22, 67, 68, 69, 70, 71, 72, 73, 74, 75, 76, 77, 78, 79, 80, 81, 82, 83, 84, 85, 86, 87, 88, 89, 90, 91, 92, 93, 94, 95, 96, 97, 98, 99, 100, 101, 102, 103, 104, 105, 106, 107, 108, 109, 110, 111, 112, 113, 114, 115, 116, 117, 118] (by decide +kernel) (by decide +kernel)
set_option maxRecDepth 20000 in
theorem gX6_down_X6_mayTo : GoodIn wsX6_down (wsV RX6 171 RX6 yX6_mayTo wsX6_mayTo) := goodIn_app (goodIn_of _ (by decide +kernel)) ggX6_down_X6_mayTo
set_option maxRecDepth 20000 in
theorem ggX6_down_X6_one : GoodIn wsX6_down wsX6_one := goodIn_r _ [26, 27, 28, 2, 29, 30, 31, 32, 33, 34, 35, 36, 37, 38, 39, 40, 41, 42, 43, 44, 8, 45, 11, 1, 46, 47, 48, 49, 50, 51, 52, 53, 54, 55, 56, 57, 58, 59, 60, 61, 62, 63, 67, 68, 69, 70, 71, 72, 73, 74, 75, 76, 77, 78, 79, 80, 81, 82, 83, 84, 85, 86, 87, 88, 89, 90, 91, 92, 93, 94, 95, 96, 97, 98, 99, 100, 101, 102, 103, 104, 105, 106, 107, 108, 109, 110, 111, 112, 113, 114, 115, 116, 117, 118] (by decide +kernel) (by decide +kernel)
set_option maxRecDepth 20000 in
theorem gX6_down_X6_one : GoodIn wsX6_down (wsV RX6 238 RX6 yX6_one wsX6_one) := goodIn_app (goodIn_of _ (by decide +kernel)) ggX6_down_X6_one
set_option maxRecDepth 20000 in
theorem ggX6_down_X6_isIn : GoodIn wsX6_down wsX6_isIn := goodIn_r _ [17] (by decide +kernel) (by decide +kernel)
set_option maxRecDepth 20000 in
theorem gX6_down_X6_isIn : GoodIn wsX6_down (va_wsS RX6 161 yX6_isIn wsX6_isIn) := goodIn_app (goodIn_of _ (by decide +kernel)) ggX6_down_X6_isIn
set_option maxRecDepth 20000 in
theorem ggX6_down_X6_down : GoodIn wsX6_down wsX6_down := goodIn_r _ [0, 1, 2, 3, 4, 5, 6, 7, 8, 9, 10, 11, 12, 13, 14, 15, 16, 17, 18, 19, 20, 21, 22, 23, 24, 25, 26, 27, 28, 29, 30, 31, 32, 33, 34, 35, 36, 37, 38, 39, 40, 41, 42, 43, 44, 45, 46, 47, 48, 49, 50, 51, 52, 53, 54, 55, 56, 57, 58, 59, 60, 61, 62, 63, 64, 65, 66, 67, 68, 69, 70, 71, 72, 73, 74, 75, 76, 77, 78, 79, 80, 81, 82, 83, 84, 85, 86, 87, 88, 89, 90, 91, 92, 93, 94, 95, 96, 97, 98, 99, 100, 101, 102, 103, 104, 105, 106, 107, 108, 109, 110, 111, 112, 113, 114, 115, 116, 117, 118] (by decide +kernel) (by decide +kernel)
set_option maxRecDepth 20000 in
theorem gX6_down_X6_down : GoodIn wsX6_down (wsV RX6 241 RX6 yX6_down wsX6_down) := goodIn_app (goodIn_of _ (by decide +kernel)) ggX6_down_X6_down
theorem dX6_down_0 : decode cX6_down 0 = .ok (.aload_n 0, 1) := by decide +kernel
theorem dX6_down_1 : decode cX6_down 1 = .ok (.getfield 59, 3) := by decide +kernel
theorem dX6_down_4 : decode cX6_down 4 = .ok (.aload_n 0, 1) := by decide +kernel
theorem dX6_down_5 : decode cX6_down 5 = .ok (.getfield 175, 3) := by decide +kernel
theorem dX6_down_8 : decode cX6_down 8 = .ok (.iload_n 1, 1) := by decide +kernel
theorem dX6_down_9 : decode cX6_down 9 = .ok (.iastore, 1) := by decide +kernel
theorem dX6_down_10 : decode cX6_down 10 = .ok (.aload_n 0, 1) := by decide +kernel
theorem dX6_down_11 : decode cX6_down 11 = .ok (.dup, 1) := by decide +kernel
theorem dX6_down_12 : decode cX6_down 12 = .ok (.getfield 175, 3) := by decide +kernel
theorem dX6_down_15 : decode cX6_down 15 = .ok (.iconst 1, 1) := by decide +kernel
theorem dX6_down_16 : decode cX6_down 16 = .ok (.iadd, 1) := by decide +kernel
theorem dX6_down_17 : decode cX6_down 17 = .ok (.putfield 175, 3) := by decide +kernel
theorem dX6_down_20 : decode cX6_down 20 = .ok (.aload_n 0, 1) := by decide +kernel
theorem dX6_down_21 : decode cX6_down 21 = .ok (.iload_n 1, 1) := by decide +kernel
theorem dX6_down_22 : decode cX6_down 22 = .ok (.iload_n 2, 1) := by decide +kernel
theorem dX6_down_23 : decode cX6_down 23 = .ok (.aload_n 0, 1) := by decide +kernel
theorem dX6_down_24 : decode cX6_down 24 = .ok (.getfield 91, 3) := by decide +kernel
theorem dX6_down_27 : decode cX6_down 27 = .ok (.iconst (-1), 1) := by decide +kernel
theorem dX6_down_28 : decode cX6_down 28 = .ok (.invokevirtual 171, 3) := by decide +kernel
theorem dX6_down_31 : decode cX6_down 31 = .ok (.istore_n 3, 1) := by decide +kernel
theorem dX6_down_32 : decode cX6_down 32 = .ok (.iload_n 3, 1) := by decide +kernel
theorem dX6_down_33 : decode cX6_down 33 = .ok (.ifCond .ne 7, 3) := by decide +kernel
theorem dX6_down_36 : decode cX6_down 36 = .ok (.aload_n 0, 1) := by decide +kernel
theorem dX6_down_37 : decode cX6_down 37 = .ok (.invokevirtual 238, 3) := by decide +kernel
theorem dX6_down_40 : decode cX6_down 40 = .ok (.iconst 0, 1) := by decide +kernel
theorem dX6_down_41 : decode cX6_down 41 = .ok (.istore 4, 2) := by decide +kernel
theorem dX6_down_43 : decode cX6_down 43 = .ok (.iload 4, 2) := by decide +kernel
theorem dX6_down_45 : decode cX6_down 45 = .ok (.aload_n 0, 1) := by decide +kernel
theorem dX6_down_46 : decode cX6_down 46 = .ok (.getfield 78, 3) := by decide +kernel
theorem dX6_down_49 : decode cX6_down 49 = .ok (.if_icmp .ge 30, 3) := by decide +kernel
theorem dX6_down_52 : decode cX6_down 52 = .ok (.iload_n 3, 1) := by decide +kernel
theorem dX6_down_53 : decode cX6_down 53 = .ok (.iload 4, 2) := by decide +kernel
theorem dX6_down_55 : decode cX6_down 55 = .ok (.invokestatic 161, 3) := by decide +kernel
theorem dX6_down_58 : decode cX6_down 58 = .ok (.ifCond .eq 15, 3) := by decide +kernel
theorem dX6_down_61 : decode cX6_down 61 = .ok (.aload_n 0, 1) := by decide +kernel
theorem dX6_down_62 : decode cX6_down 62 = .ok (.iload 4, 2) := by decide +kernel
theorem dX6_down_64 : decode cX6_down 64 = .ok (.iload_n 2, 1) := by decide +kernel
theorem dX6_down_65 : decode cX6_down 65 = .ok (.iconst 1, 1) := by decide +kernel
theorem dX6_down_66 : decode cX6_down 66 = .ok (.iload 4, 2) := by decide +kernel
theorem dX6_down_68 : decode cX6_down 68 = .ok (.ishl, 1) := by decide +kernel
theorem dX6_down_69 : decode cX6_down 69 = .ok (.ior, 1) := by decide +kernel
theorem dX6_down_70 : decode cX6_down 70 = .ok (.invokevirtual 241, 3) := by decide +kernel
theorem dX6_down_73 : decode cX6_down 73 = .ok (.iinc 4 1, 3) := by decide +kernel
theorem dX6_down_76 : decode cX6_down 76 = .ok (.goto (-33), 3) := by decide +kernel
theorem dX6_down_79 : decode cX6_down 79 = .ok (.aload_n 0, 1) := by decide +kernel
theorem dX6_down_80 : decode cX6_down 80 = .ok (.dup, 1) := by decide +kernel
theorem dX6_down_81 : decode cX6_down 81 = .ok (.getfield 175, 3) := by decide +kernel
theorem dX6_down_84 : decode cX6_down 84 = .ok (.iconst 1, 1) := by decide +kernel
theorem dX6_down_85 : decode cX6_down 85 = .ok (.isub, 1) := by decide +kernel
theorem dX6_down_86 : decode cX6_down 86 = .ok (.putfield 175, 3) := by decide +kernel
theorem dX6_down_89 : decode cX6_down 89 = .ok (.return_, 1) := by decide +kernel
set_option maxRecDepth 20000 in
theorem ggX6_all_X6_down : GoodIn wsX6_all wsX6_down := goodIn_r _ [11, 12, 6, 13, 14, 15, 16, 17, 10, 18, 19, 20, 21, 22, 23, 24, 25, 26, 27, 28, 29, 30, 31, 32, 33, 34, 35, 1, 36, 37, 38, 39, 40, 41, 42, 43, 44, 45, 2, 3, 4, 5, 46, 47, 48, 49, 50, 51, 52, 53, 54, 55, 56, 57, 58, 59, 60, 61, 62, 63, 64, 65, 66, 67, 7, 8, 9, 68, 69, 70, 71, 72, 73, 74, 75, 76, 77, 78, 79, 80, 81, 82, 83, 84, 85, 86, 87, 88, 89, 90, 91, 92, 93, 94, 95, 96, 97, 98, 99, 100, 101, 102, 103, 104, 105, 106, 107, 108, 109, 110, 111, 112, 113, 114, 115, 116, 117, 118, 119] (by decide +kernel) (by decide +kernel)
set_option maxRecDepth 20000 in
theorem gX6_all_X6_down : GoodIn wsX6_all (wsV RX6 241 RX6 yX6_down wsX6_down) := goodIn_app (goodIn_of _ (by decide +kernel)) ggX6_all_X6_down
theorem dX6_all_0 : decode cX6_all 0 = .ok (.aload_n 0, 1) := by decide +kernel
theorem dX6_all_1 : decode cX6_all 1 = .ok (.iconst 0, 1) := by decide +kernel
theorem dX6_all_2 : decode cX6_all 2 = .ok (.putfield 198, 3) := by decide +kernel
theorem dX6_all_5 : decode cX6_all 5 = .ok (.aload_n 0, 1) := by decide +kernel
theorem dX6_all_6 : decode cX6_all 6 = .ok (.iconst 0, 1) := by decide +kernel
theorem dX6_all_7 : decode cX6_all 7 = .ok (.putfield 226, 3) := by decide +kernel
theorem dX6_all_10 : decode cX6_all 10 = .ok (.aload_n 0, 1) := by decide +kernel
theorem dX6_all_11 : decode cX6_all 11 = .ok (.iload_n 2, 1) := by decide +kernel
theorem dX6_all_12 : decode cX6_all 12 = .ok (.putfield 229, 3) := by decide +kernel
theorem dX6_all_15 : decode cX6_all 15 = .ok (.aload_n 0, 1) := by decide +kernel
theorem dX6_all_16 : decode cX6_all 16 = .ok (.iconst 0, 1) := by decide +kernel
theorem dX6_all_17 : decode cX6_all 17 = .ok (.putfield 232, 3) := by decide +kernel
theorem dX6_all_20 : decode cX6_all 20 = .ok (.aload_n 0, 1) := by decide +kernel
theorem dX6_all_21 : decode cX6_all 21 = .ok (.iconst 0, 1) := by decide +kernel
theorem dX6_all_22 : decode cX6_all 22 = .ok (.putfield 235, 3) := by decide +kernel
theorem dX6_all_25 : decode cX6_all 25 = .ok (.aload_n 0, 1) := by decide +kernel
theorem dX6_all_26 : decode cX6_all 26 = .ok (.iconst 0, 1) := by decide +kernel
theorem dX6_all_27 : decode cX6_all 27 = .ok (.putfield 175, 3) := by decide +kernel
theorem dX6_all_30 : decode cX6_all 30 = .ok (.aload_n 0, 1) := by decide +kernel
theorem dX6_all_31 : decode cX6_all 31 = .ok (.iload_n 1, 1) := by decide +kernel
theorem dX6_all_32 : decode cX6_all 32 = .ok (.iconst 1, 1) := by decide +kernel
theorem dX6_all_33 : decode cX6_all 33 = .ok (.iload_n 1, 1) := by decide +kernel
theorem dX6_all_34 : decode cX6_all 34 = .ok (.ishl, 1) := by decide +kernel
theorem dX6_all_35 : decode cX6_all 35 = .ok (.invokevirtual 241, 3) := by decide +kernel
theorem dX6_all_38 : decode cX6_all 38 = .ok (.return_, 1) := by decide +kernel
set_option maxRecDepth 20000 in
theorem ggX6_ways_X6_isNobody : GoodIn wsX6_ways wsX6_isNobody := goodIn_r _ [7, 8, 81, 82, 83, 84, 85, 86, 87, 88, 89, 90, 91, 92, 93, 94, 95, 96, 97, 98, 99, 100, 101, 102, 103, 104, 105, 106, 107, 108, 109, 110, 111, 112, 113, 114, 115, 116, 117, 118, 119, 120, 121, 122, 123, 124, 125, 126, 127, 128, 129, 130, 131, 132] (by decide +kernel) (by decide +kernel)
set_option maxRecDepth 20000 in
theorem gX6_ways_X6_isNobody : GoodIn wsX6_ways (wsV RX6 158 RX6 yX6_isNobody wsX6_isNobody) := goodIn_app (goodIn_of _ (by decide +kernel)) ggX6_ways_X6_isNobody
set_option maxRecDepth 20000 in
theorem ggX6_ways_X6_no : GoodIn wsX6_ways wsX6_no := goodIn_r _ [12, 13, 81, 82, 83, 84, 85, 86, 87, 88, 89, 90, 91, 92, 93, 94, 95, 96, 97, 98, 99, 100, 101, 102, 103, 104, 105, 106, 107, 108, 109, 110, 111, 112, 113, 114, 115, 116, 117, 118, 119, 120, 121, 122, 123, 124, 125, 126, 127, 128, 129, 130, 131, 132] (by decide +kernel) (by decide +kernel)
set_option maxRecDepth 20000 in
theorem gX6_ways_X6_no : GoodIn wsX6_ways (wsV RX6 113 RX6 yX6_no wsX6_no) := goodIn_app (goodIn_of _ (by decide +kernel)) ggX6_ways_X6_no
set_option maxRecDepth 20000 in
theorem ggX6_ways_X6_isIn : GoodIn wsX6_ways wsX6_isIn := goodIn_r _ [16] (by decide +kernel) (by decide +kernel)
set_option maxRecDepth 20000 in
theorem gX6_ways_X6_isIn : GoodIn wsX6_ways (va_wsS RX6 161 yX6_isIn wsX6_isIn) := goodIn_app (goodIn_of _ (by decide +kernel)) ggX6_ways_X6_isIn
set_option maxRecDepth 20000 in
theorem ggX6_ways_X6_all : GoodIn wsX6_ways wsX6_all := goodIn_r _ [20, 2, 21, 22, 23, 24, 25, 26, 27, 28, 6, 29, 30, 1, 8, 31, 32, 33, 34, 35, 36, 37, 38, 39, 14, 15, 16, 40, 41, 42, 43, 44, 45, 46, 47, 48, 49, 50, 51, 52, 53, 54, 55, 56, 57, 58, 59, 60, 61, 62, 63, 64, 65, 66, 67, 68, 69, 70, 71, 72, 73, 74, 75, 76, 77, 78, 79, 80, 81, 82, 83, 84, 85, 86, 87, 88, 89, 90, 91, 92, 93, 94, 95, 96, 97, 98, 99, 100, 101, 102, 103, 104, 105, 106, 107, 108, 109, 110, 111, 112, 113, 114, 115, 116, 117, 118, 119, 120, 121, 122, 123, 124, 125, 126, 127, 128, 129, 130, 131, 132] (by decide +kernel) (by decide +kernel)
set_option maxRecDepth 20000 in
theorem gX6_ways_X6_all : GoodIn wsX6_ways (wsV RX6 245 RX6 yX6_all wsX6_all) := goodIn_app (goodIn_of _ (by decide +kernel)) ggX6_ways_X6_all
theorem dX6_ways_0 : decode cX6_ways 0 = .ok (.aload_n 0, 1) := by decide +kernel
theorem dX6_ways_1 : decode cX6_ways 1 = .ok (.iload_n 1, 1) := by decide +kernel
theorem dX6_ways_2 : decode cX6_ways 2 = .ok (.invokevirtual 158, 3) := by decide +kernel
theorem dX6_ways_5 : decode cX6_ways 5 = .ok (.ifCond .eq 9, 3) := by decide +kernel
theorem dX6_ways_8 : decode cX6_ways 8 = .ok (.aload_n 0, 1) := by decide +kernel
theorem dX6_ways_9 : decode cX6_ways 9 = .ok (.iconst (-1), 1) := by decide +kernel
theorem dX6_ways_10 : decode cX6_ways 10 = .ok (.invokevirtual 113, 3) := by decide +kernel
theorem dX6_ways_13 : decode cX6_ways 13 = .ok (.ireturn, 1) := by decide +kernel
theorem dX6_ways_14 : decode cX6_ways 14 = .ok (.aload_n 0, 1) := by decide +kernel
theorem dX6_ways_15 : decode cX6_ways 15 = .ok (.getfield 91, 3) := by decide +kernel
theorem dX6_ways_18 : decode cX6_ways 18 = .ok (.iload_n 1, 1) := by decide +kernel
theorem dX6_ways_19 : decode cX6_ways 19 = .ok (.invokestatic 161, 3) := by decide +kernel
theorem dX6_ways_22 : decode cX6_ways 22 = .ok (.ifCond .eq 10, 3) := by decide +kernel
theorem dX6_ways_25 : decode cX6_ways 25 = .ok (.aload_n 0, 1) := by decide +kernel
theorem dX6_ways_26 : decode cX6_ways 26 = .ok (.bipush (-3), 2) := by decide +kernel
theorem dX6_ways_28 : decode cX6_ways 28 = .ok (.invokevirtual 113, 3) := by decide +kernel
theorem dX6_ways_31 : decode cX6_ways 31 = .ok (.ireturn, 1) := by decide +kernel
theorem dX6_ways_32 : decode cX6_ways 32 = .ok (.aload_n 0, 1) := by decide +kernel
theorem dX6_ways_33 : decode cX6_ways 33 = .ok (.iload_n 1, 1) := by decide +kernel
theorem dX6_ways_34 : decode cX6_ways 34 = .ok (.iconst (-1), 1) := by decide +kernel
theorem dX6_ways_35 : decode cX6_ways 35 = .ok (.invokevirtual 245, 3) := by decide +kernel
theorem dX6_ways_38 : decode cX6_ways 38 = .ok (.aload_n 0, 1) := by decide +kernel
theorem dX6_ways_39 : decode cX6_ways 39 = .ok (.getfield 198, 3) := by decide +kernel
theorem dX6_ways_42 : decode cX6_ways 42 = .ok (.ireturn, 1) := by decide +kernel
set_option maxRecDepth 20000 in
theorem ggX6_soonest_X6_isNobody : GoodIn wsX6_soonest wsX6_isNobody := goodIn_r _ [9, 10, 81, 82, 83, 84, 85, 86, 87, 88, 89, 90, 91, 92, 93, 94, 95, 96, 97, 98, 99, 100, 101, 102, 103, 104, 105, 106, 107, 108, 109, 110, 111, 112, 113, 114, 115, 116, 117, 118, 119, 120, 121, 122, 123, 124, 125, 126, 127, 128, 129, 130, 131, 132] (by decide +kernel) (by decide +kernel)
set_option maxRecDepth 20000 in
theorem gX6_soonest_X6_isNobody : GoodIn wsX6_soonest (wsV RX6 158 RX6 yX6_isNobody wsX6_isNobody) := goodIn_app (goodIn_of _ (by decide +kernel)) ggX6_soonest_X6_isNobody
set_option maxRecDepth 20000 in
theorem ggX6_soonest_X6_no : GoodIn wsX6_soonest wsX6_no := goodIn_r _ [14, 15, 81, 82, 83, 84, 85, 86, 87, 88, 89, 90, 91, 92, 93, 94, 95, 96, 97, 98, 99, 100, 101, 102, 103, 104, 105, 106, 107, 108, 109, 110, 111, 112, 113, 114, 115, 116, 117, 118, 119, 120, 121, 122, 123, 124, 125, 126, 127, 128, 129, 130, 131, 132] (by decide +kernel) (by decide +kernel)
set_option maxRecDepth 20000 in
theorem gX6_soonest_X6_no : GoodIn wsX6_soonest (wsV RX6 113 RX6 yX6_no wsX6_no) := goodIn_app (goodIn_of _ (by decide +kernel)) ggX6_soonest_X6_no
set_option maxRecDepth 20000 in
theorem ggX6_soonest_X6_isIn : GoodIn wsX6_soonest wsX6_isIn := goodIn_r _ [18] (by decide +kernel) (by decide +kernel)
set_option maxRecDepth 20000 in
theorem gX6_soonest_X6_isIn : GoodIn wsX6_soonest (va_wsS RX6 161 yX6_isIn wsX6_isIn) := goodIn_app (goodIn_of _ (by decide +kernel)) ggX6_soonest_X6_isIn
set_option maxRecDepth 20000 in
theorem ggX6_soonest_X6_all : GoodIn wsX6_soonest wsX6_all := goodIn_r _ [22, 23, 24, 25, 26, 27, 28, 29, 30, 31, 8, 32, 33, 1, 10, 34, 35, 36, 37, 38, 39, 40, 41, 42, 16, 17, 18, 43, 44, 45, 46, 47, 48, 49, 50, 51, 2, 3, 4, 52, 53, 54, 55, 56, 57, 58, 59, 60, 61, 62, 63, 64, 65, 66, 67, 68, 69, 70, 71, 72, 73, 74, 75, 76, 77, 78, 79, 80, 81, 82, 83, 84, 85, 86, 87, 88, 89, 90, 91, 92, 93, 94, 95, 96, 97, 98, 99, 100, 101, 102, 103, 104, 105, 106, 107, 108, 109, 110, 111, 112, 113, 114, 115, 116, 117, 118, 119, 120, 121, 122, 123, 124, 125, 126, 127, 128, 129, 130, 131, 132] (by decide +kernel) (by decide +kernel)
set_option maxRecDepth 20000 in
theorem gX6_soonest_X6_all : GoodIn wsX6_soonest (wsV RX6 245 RX6 yX6_all wsX6_all) := goodIn_app (goodIn_of _ (by decide +kernel)) ggX6_soonest_X6_all
theorem dX6_soonest_0 : decode cX6_soonest 0 = .ok (.aload_n 0, 1) := by decide +kernel
theorem dX6_soonest_1 : decode cX6_soonest 1 = .ok (.iload_n 1, 1) := by decide +kernel
theorem dX6_soonest_2 : decode cX6_soonest 2 = .ok (.invokevirtual 158, 3) := by decide +kernel
theorem dX6_soonest_5 : decode cX6_soonest 5 = .ok (.ifCond .eq 9, 3) := by decide +kernel
theorem dX6_soonest_8 : decode cX6_soonest 8 = .ok (.aload_n 0, 1) := by decide +kernel
theorem dX6_soonest_9 : decode cX6_soonest 9 = .ok (.iconst (-1), 1) := by decide +kernel
theorem dX6_soonest_10 : decode cX6_soonest 10 = .ok (.invokevirtual 113, 3) := by decide +kernel
theorem dX6_soonest_13 : decode cX6_soonest 13 = .ok (.ireturn, 1) := by decide +kernel
theorem dX6_soonest_14 : decode cX6_soonest 14 = .ok (.iload_n 2, 1) := by decide +kernel
theorem dX6_soonest_15 : decode cX6_soonest 15 = .ok (.iconst (-1), 1) := by decide +kernel
theorem dX6_soonest_16 : decode cX6_soonest 16 = .ok (.if_icmp .ge 10, 3) := by decide +kernel
theorem dX6_soonest_19 : decode cX6_soonest 19 = .ok (.aload_n 0, 1) := by decide +kernel
theorem dX6_soonest_20 : decode cX6_soonest 20 = .ok (.bipush (-4), 2) := by decide +kernel
theorem dX6_soonest_22 : decode cX6_soonest 22 = .ok (.invokevirtual 113, 3) := by decide +kernel
theorem dX6_soonest_25 : decode cX6_soonest 25 = .ok (.ireturn, 1) := by decide +kernel
theorem dX6_soonest_26 : decode cX6_soonest 26 = .ok (.aload_n 0, 1) := by decide +kernel
theorem dX6_soonest_27 : decode cX6_soonest 27 = .ok (.getfield 91, 3) := by decide +kernel
theorem dX6_soonest_30 : decode cX6_soonest 30 = .ok (.iload_n 1, 1) := by decide +kernel
theorem dX6_soonest_31 : decode cX6_soonest 31 = .ok (.invokestatic 161, 3) := by decide +kernel
theorem dX6_soonest_34 : decode cX6_soonest 34 = .ok (.ifCond .eq 10, 3) := by decide +kernel
theorem dX6_soonest_37 : decode cX6_soonest 37 = .ok (.aload_n 0, 1) := by decide +kernel
theorem dX6_soonest_38 : decode cX6_soonest 38 = .ok (.bipush (-3), 2) := by decide +kernel
theorem dX6_soonest_40 : decode cX6_soonest 40 = .ok (.invokevirtual 113, 3) := by decide +kernel
theorem dX6_soonest_43 : decode cX6_soonest 43 = .ok (.ireturn, 1) := by decide +kernel
theorem dX6_soonest_44 : decode cX6_soonest 44 = .ok (.aload_n 0, 1) := by decide +kernel
theorem dX6_soonest_45 : decode cX6_soonest 45 = .ok (.iload_n 1, 1) := by decide +kernel
theorem dX6_soonest_46 : decode cX6_soonest 46 = .ok (.iconst (-1), 1) := by decide +kernel
theorem dX6_soonest_47 : decode cX6_soonest 47 = .ok (.invokevirtual 245, 3) := by decide +kernel
theorem dX6_soonest_50 : decode cX6_soonest 50 = .ok (.iload_n 2, 1) := by decide +kernel
theorem dX6_soonest_51 : decode cX6_soonest 51 = .ok (.ifCond .ge 10, 3) := by decide +kernel
theorem dX6_soonest_54 : decode cX6_soonest 54 = .ok (.aload_n 0, 1) := by decide +kernel
theorem dX6_soonest_55 : decode cX6_soonest 55 = .ok (.getfield 201, 3) := by decide +kernel
theorem dX6_soonest_58 : decode cX6_soonest 58 = .ok (.goto 22, 3) := by decide +kernel
theorem dX6_soonest_61 : decode cX6_soonest 61 = .ok (.iload_n 2, 1) := by decide +kernel
theorem dX6_soonest_62 : decode cX6_soonest 62 = .ok (.aload_n 0, 1) := by decide +kernel
theorem dX6_soonest_63 : decode cX6_soonest 63 = .ok (.getfield 204, 3) := by decide +kernel
theorem dX6_soonest_66 : decode cX6_soonest 66 = .ok (.if_icmp .ge 12, 3) := by decide +kernel
theorem dX6_soonest_69 : decode cX6_soonest 69 = .ok (.aload_n 0, 1) := by decide +kernel
theorem dX6_soonest_70 : decode cX6_soonest 70 = .ok (.getfield 62, 3) := by decide +kernel
theorem dX6_soonest_73 : decode cX6_soonest 73 = .ok (.iload_n 2, 1) := by decide +kernel
theorem dX6_soonest_74 : decode cX6_soonest 74 = .ok (.iaload, 1) := by decide +kernel
theorem dX6_soonest_75 : decode cX6_soonest 75 = .ok (.goto 5, 3) := by decide +kernel
theorem dX6_soonest_78 : decode cX6_soonest 78 = .ok (.bipush (-9), 2) := by decide +kernel
theorem dX6_soonest_80 : decode cX6_soonest 80 = .ok (.ireturn, 1) := by decide +kernel
set_option maxRecDepth 20000 in
theorem ggX6_surest_X6_isNobody : GoodIn wsX6_surest wsX6_isNobody := goodIn_r _ [9, 10, 81, 82, 83, 84, 85, 86, 87, 88, 89, 90, 91, 92, 93, 94, 95, 96, 97, 98, 99, 100, 101, 102, 103, 104, 105, 106, 107, 108, 109, 110, 111, 112, 113, 114, 115, 116, 117, 118, 119, 120, 121, 122, 123, 124, 125, 126, 127, 128, 129, 130, 131, 132] (by decide +kernel) (by decide +kernel)
set_option maxRecDepth 20000 in
theorem gX6_surest_X6_isNobody : GoodIn wsX6_surest (wsV RX6 158 RX6 yX6_isNobody wsX6_isNobody) := goodIn_app (goodIn_of _ (by decide +kernel)) ggX6_surest_X6_isNobody
set_option maxRecDepth 20000 in
theorem ggX6_surest_X6_no : GoodIn wsX6_surest wsX6_no := goodIn_r _ [14, 15, 81, 82, 83, 84, 85, 86, 87, 88, 89, 90, 91, 92, 93, 94, 95, 96, 97, 98, 99, 100, 101, 102, 103, 104, 105, 106, 107, 108, 109, 110, 111, 112, 113, 114, 115, 116, 117, 118, 119, 120, 121, 122, 123, 124, 125, 126, 127, 128, 129, 130, 131, 132] (by decide +kernel) (by decide +kernel)
set_option maxRecDepth 20000 in
theorem gX6_surest_X6_no : GoodIn wsX6_surest (wsV RX6 113 RX6 yX6_no wsX6_no) := goodIn_app (goodIn_of _ (by decide +kernel)) ggX6_surest_X6_no
set_option maxRecDepth 20000 in
theorem ggX6_surest_X6_isIn : GoodIn wsX6_surest wsX6_isIn := goodIn_r _ [18] (by decide +kernel) (by decide +kernel)
set_option maxRecDepth 20000 in
theorem gX6_surest_X6_isIn : GoodIn wsX6_surest (va_wsS RX6 161 yX6_isIn wsX6_isIn) := goodIn_app (goodIn_of _ (by decide +kernel)) ggX6_surest_X6_isIn
set_option maxRecDepth 20000 in
theorem ggX6_surest_X6_all : GoodIn wsX6_surest wsX6_all := goodIn_r _ [22, 23, 24, 25, 26, 27, 28, 29, 30, 31, 8, 32, 33, 1, 10, 34, 35, 36, 37, 38, 39, 40, 41, 42, 16, 17, 18, 43, 44, 45, 46, 47, 48, 49, 50, 51, 52, 53, 54, 2, 55, 3, 4, 56, 57, 58, 59, 60, 61, 62, 63, 64, 65, 66, 67, 68, 69, 70, 71, 72, 73, 74, 75, 76, 77, 78, 79, 80, 81, 82, 83, 84, 85, 86, 87, 88, 89, 90, 91, 92, 93, 94, 95, 96, 97, 98, 99, 100, 101, 102, 103, 104, 105, 106, 107, 108, 109, 110, 111, 112, 113, 114, 115, 116, 117, 118, 119, 120, 121, 122, 123, 124, 125, 126, 127, 128, 129, 130, 131, 132] (by decide +kernel) (by decide +kernel)
set_option maxRecDepth 20000 in
theorem gX6_surest_X6_all : GoodIn wsX6_surest (wsV RX6 245 RX6 yX6_all wsX6_all) := goodIn_app (goodIn_of _ (by decide +kernel)) ggX6_surest_X6_all
theorem dX6_surest_0 : decode cX6_surest 0 = .ok (.aload_n 0, 1) := by decide +kernel
theorem dX6_surest_1 : decode cX6_surest 1 = .ok (.iload_n 1, 1) := by decide +kernel
theorem dX6_surest_2 : decode cX6_surest 2 = .ok (.invokevirtual 158, 3) := by decide +kernel
theorem dX6_surest_5 : decode cX6_surest 5 = .ok (.ifCond .eq 9, 3) := by decide +kernel
theorem dX6_surest_8 : decode cX6_surest 8 = .ok (.aload_n 0, 1) := by decide +kernel
theorem dX6_surest_9 : decode cX6_surest 9 = .ok (.iconst (-1), 1) := by decide +kernel
theorem dX6_surest_10 : decode cX6_surest 10 = .ok (.invokevirtual 113, 3) := by decide +kernel
theorem dX6_surest_13 : decode cX6_surest 13 = .ok (.ireturn, 1) := by decide +kernel
theorem dX6_surest_14 : decode cX6_surest 14 = .ok (.iload_n 2, 1) := by decide +kernel
theorem dX6_surest_15 : decode cX6_surest 15 = .ok (.iconst (-1), 1) := by decide +kernel
theorem dX6_surest_16 : decode cX6_surest 16 = .ok (.if_icmp .ge 10, 3) := by decide +kernel
theorem dX6_surest_19 : decode cX6_surest 19 = .ok (.aload_n 0, 1) := by decide +kernel
theorem dX6_surest_20 : decode cX6_surest 20 = .ok (.bipush (-4), 2) := by decide +kernel
theorem dX6_surest_22 : decode cX6_surest 22 = .ok (.invokevirtual 113, 3) := by decide +kernel
theorem dX6_surest_25 : decode cX6_surest 25 = .ok (.ireturn, 1) := by decide +kernel
theorem dX6_surest_26 : decode cX6_surest 26 = .ok (.aload_n 0, 1) := by decide +kernel
theorem dX6_surest_27 : decode cX6_surest 27 = .ok (.getfield 91, 3) := by decide +kernel
theorem dX6_surest_30 : decode cX6_surest 30 = .ok (.iload_n 1, 1) := by decide +kernel
theorem dX6_surest_31 : decode cX6_surest 31 = .ok (.invokestatic 161, 3) := by decide +kernel
theorem dX6_surest_34 : decode cX6_surest 34 = .ok (.ifCond .eq 10, 3) := by decide +kernel
theorem dX6_surest_37 : decode cX6_surest 37 = .ok (.aload_n 0, 1) := by decide +kernel
theorem dX6_surest_38 : decode cX6_surest 38 = .ok (.bipush (-3), 2) := by decide +kernel
theorem dX6_surest_40 : decode cX6_surest 40 = .ok (.invokevirtual 113, 3) := by decide +kernel
theorem dX6_surest_43 : decode cX6_surest 43 = .ok (.ireturn, 1) := by decide +kernel
theorem dX6_surest_44 : decode cX6_surest 44 = .ok (.aload_n 0, 1) := by decide +kernel
theorem dX6_surest_45 : decode cX6_surest 45 = .ok (.iload_n 1, 1) := by decide +kernel
theorem dX6_surest_46 : decode cX6_surest 46 = .ok (.iconst (-1), 1) := by decide +kernel
theorem dX6_surest_47 : decode cX6_surest 47 = .ok (.invokevirtual 245, 3) := by decide +kernel
theorem dX6_surest_50 : decode cX6_surest 50 = .ok (.iload_n 2, 1) := by decide +kernel
theorem dX6_surest_51 : decode cX6_surest 51 = .ok (.ifCond .ge 10, 3) := by decide +kernel
theorem dX6_surest_54 : decode cX6_surest 54 = .ok (.aload_n 0, 1) := by decide +kernel
theorem dX6_surest_55 : decode cX6_surest 55 = .ok (.getfield 211, 3) := by decide +kernel
theorem dX6_surest_58 : decode cX6_surest 58 = .ok (.goto 22, 3) := by decide +kernel
theorem dX6_surest_61 : decode cX6_surest 61 = .ok (.iload_n 2, 1) := by decide +kernel
theorem dX6_surest_62 : decode cX6_surest 62 = .ok (.aload_n 0, 1) := by decide +kernel
theorem dX6_surest_63 : decode cX6_surest 63 = .ok (.getfield 217, 3) := by decide +kernel
theorem dX6_surest_66 : decode cX6_surest 66 = .ok (.if_icmp .ge 12, 3) := by decide +kernel
theorem dX6_surest_69 : decode cX6_surest 69 = .ok (.aload_n 0, 1) := by decide +kernel
theorem dX6_surest_70 : decode cX6_surest 70 = .ok (.getfield 65, 3) := by decide +kernel
theorem dX6_surest_73 : decode cX6_surest 73 = .ok (.iload_n 2, 1) := by decide +kernel
theorem dX6_surest_74 : decode cX6_surest 74 = .ok (.iaload, 1) := by decide +kernel
theorem dX6_surest_75 : decode cX6_surest 75 = .ok (.goto 5, 3) := by decide +kernel
theorem dX6_surest_78 : decode cX6_surest 78 = .ok (.bipush (-9), 2) := by decide +kernel
theorem dX6_surest_80 : decode cX6_surest 80 = .ok (.ireturn, 1) := by decide +kernel
set_option maxRecDepth 20000 in
theorem ggX6_longest_X6_isNobody : GoodIn wsX6_longest wsX6_isNobody := goodIn_r _ [8, 9, 81, 82, 83, 84, 85, 86, 87, 88, 89, 90, 91, 92, 93, 94, 95, 96, 97, 98, 99, 100, 101, 102, 103, 104, 105, 106, 107, 108, 109, 110, 111, 112, 113, 114, 115, 116, 117, 118, 119, 120, 121, 122, 123, 124, 125, 126, 127, 128, 129, 130, 131, 132] (by decide +kernel) (by decide +kernel)
set_option maxRecDepth 20000 in
theorem gX6_longest_X6_isNobody : GoodIn wsX6_longest (wsV RX6 158 RX6 yX6_isNobody wsX6_isNobody) := goodIn_app (goodIn_of _ (by decide +kernel)) ggX6_longest_X6_isNobody
set_option maxRecDepth 20000 in
theorem ggX6_longest_X6_no : GoodIn wsX6_longest wsX6_no := goodIn_r _ [13, 14, 81, 82, 83, 84, 85, 86, 87, 88, 89, 90, 91, 92, 93, 94, 95, 96, 97, 98, 99, 100, 101, 102, 103, 104, 105, 106, 107, 108, 109, 110, 111, 112, 113, 114, 115, 116, 117, 118, 119, 120, 121, 122, 123, 124, 125, 126, 127, 128, 129, 130, 131, 132] (by decide +kernel) (by decide +kernel)
set_option maxRecDepth 20000 in
theorem gX6_longest_X6_no : GoodIn wsX6_longest (wsV RX6 113 RX6 yX6_no wsX6_no) := goodIn_app (goodIn_of _ (by decide +kernel)) ggX6_longest_X6_no
set_option maxRecDepth 20000 in
theorem ggX6_longest_X6_isIn : GoodIn wsX6_longest wsX6_isIn := goodIn_r _ [17] (by decide +kernel) (by decide +kernel)
set_option maxRecDepth 20000 in
theorem gX6_longest_X6_isIn : GoodIn wsX6_longest (va_wsS RX6 161 yX6_isIn wsX6_isIn) := goodIn_app (goodIn_of _ (by decide +kernel)) ggX6_longest_X6_isIn
set_option maxRecDepth 20000 in
theorem ggX6_longest_X6_all : GoodIn wsX6_longest wsX6_all := goodIn_r _ [21, 22, 23, 24, 25, 26, 27, 28, 29, 30, 7, 31, 32, 1, 9, 33, 34, 35, 36, 37, 38, 39, 40, 41, 15, 16, 17, 42, 43, 44, 45, 46, 47, 48, 49, 50, 51, 52, 53, 54, 55, 56, 57, 2, 58, 3, 59, 60, 61, 62, 63, 64, 65, 66, 67, 68, 69, 70, 71, 72, 73, 74, 75, 76, 77, 78, 79, 80, 81, 82, 83, 84, 85, 86, 87, 88, 89, 90, 91, 92, 93, 94, 95, 96, 97, 98, 99, 100, 101, 102, 103, 104, 105, 106, 107, 108, 109, 110, 111, 112, 113, 114, 115, 116, 117, 118, 119, 120, 121, 122, 123, 124, 125, 126, 127, 128, 129, 130, 131, 132] (by decide +kernel) (by decide +kernel)
set_option maxRecDepth 20000 in
theorem gX6_longest_X6_all : GoodIn wsX6_longest (wsV RX6 245 RX6 yX6_all wsX6_all) := goodIn_app (goodIn_of _ (by decide +kernel)) ggX6_longest_X6_all
theorem dX6_longest_0 : decode cX6_longest 0 = .ok (.aload_n 0, 1) := by decide +kernel
theorem dX6_longest_1 : decode cX6_longest 1 = .ok (.iload_n 1, 1) := by decide +kernel
theorem dX6_longest_2 : decode cX6_longest 2 = .ok (.invokevirtual 158, 3) := by decide +kernel
theorem dX6_longest_5 : decode cX6_longest 5 = .ok (.ifCond .eq 9, 3) := by decide +kernel
theorem dX6_longest_8 : decode cX6_longest 8 = .ok (.aload_n 0, 1) := by decide +kernel
theorem dX6_longest_9 : decode cX6_longest 9 = .ok (.iconst (-1), 1) := by decide +kernel
theorem dX6_longest_10 : decode cX6_longest 10 = .ok (.invokevirtual 113, 3) := by decide +kernel
theorem dX6_longest_13 : decode cX6_longest 13 = .ok (.ireturn, 1) := by decide +kernel
theorem dX6_longest_14 : decode cX6_longest 14 = .ok (.iload_n 2, 1) := by decide +kernel
theorem dX6_longest_15 : decode cX6_longest 15 = .ok (.iconst (-1), 1) := by decide +kernel
theorem dX6_longest_16 : decode cX6_longest 16 = .ok (.if_icmp .ge 10, 3) := by decide +kernel
theorem dX6_longest_19 : decode cX6_longest 19 = .ok (.aload_n 0, 1) := by decide +kernel
theorem dX6_longest_20 : decode cX6_longest 20 = .ok (.bipush (-4), 2) := by decide +kernel
theorem dX6_longest_22 : decode cX6_longest 22 = .ok (.invokevirtual 113, 3) := by decide +kernel
theorem dX6_longest_25 : decode cX6_longest 25 = .ok (.ireturn, 1) := by decide +kernel
theorem dX6_longest_26 : decode cX6_longest 26 = .ok (.aload_n 0, 1) := by decide +kernel
theorem dX6_longest_27 : decode cX6_longest 27 = .ok (.getfield 91, 3) := by decide +kernel
theorem dX6_longest_30 : decode cX6_longest 30 = .ok (.iload_n 1, 1) := by decide +kernel
theorem dX6_longest_31 : decode cX6_longest 31 = .ok (.invokestatic 161, 3) := by decide +kernel
theorem dX6_longest_34 : decode cX6_longest 34 = .ok (.ifCond .eq 10, 3) := by decide +kernel
theorem dX6_longest_37 : decode cX6_longest 37 = .ok (.aload_n 0, 1) := by decide +kernel
theorem dX6_longest_38 : decode cX6_longest 38 = .ok (.bipush (-3), 2) := by decide +kernel
theorem dX6_longest_40 : decode cX6_longest 40 = .ok (.invokevirtual 113, 3) := by decide +kernel
theorem dX6_longest_43 : decode cX6_longest 43 = .ok (.ireturn, 1) := by decide +kernel
theorem dX6_longest_44 : decode cX6_longest 44 = .ok (.aload_n 0, 1) := by decide +kernel
theorem dX6_longest_45 : decode cX6_longest 45 = .ok (.iload_n 1, 1) := by decide +kernel
theorem dX6_longest_46 : decode cX6_longest 46 = .ok (.iconst (-1), 1) := by decide +kernel
theorem dX6_longest_47 : decode cX6_longest 47 = .ok (.invokevirtual 245, 3) := by decide +kernel
theorem dX6_longest_50 : decode cX6_longest 50 = .ok (.iload_n 2, 1) := by decide +kernel
theorem dX6_longest_51 : decode cX6_longest 51 = .ok (.ifCond .ge 10, 3) := by decide +kernel
theorem dX6_longest_54 : decode cX6_longest 54 = .ok (.aload_n 0, 1) := by decide +kernel
theorem dX6_longest_55 : decode cX6_longest 55 = .ok (.getfield 220, 3) := by decide +kernel
theorem dX6_longest_58 : decode cX6_longest 58 = .ok (.goto 22, 3) := by decide +kernel
theorem dX6_longest_61 : decode cX6_longest 61 = .ok (.iload_n 2, 1) := by decide +kernel
theorem dX6_longest_62 : decode cX6_longest 62 = .ok (.aload_n 0, 1) := by decide +kernel
theorem dX6_longest_63 : decode cX6_longest 63 = .ok (.getfield 220, 3) := by decide +kernel
theorem dX6_longest_66 : decode cX6_longest 66 = .ok (.if_icmp .ge 12, 3) := by decide +kernel
theorem dX6_longest_69 : decode cX6_longest 69 = .ok (.aload_n 0, 1) := by decide +kernel
theorem dX6_longest_70 : decode cX6_longest 70 = .ok (.getfield 68, 3) := by decide +kernel
theorem dX6_longest_73 : decode cX6_longest 73 = .ok (.iload_n 2, 1) := by decide +kernel
theorem dX6_longest_74 : decode cX6_longest 74 = .ok (.iaload, 1) := by decide +kernel
theorem dX6_longest_75 : decode cX6_longest 75 = .ok (.goto 5, 3) := by decide +kernel
theorem dX6_longest_78 : decode cX6_longest 78 = .ok (.bipush (-9), 2) := by decide +kernel
theorem dX6_longest_80 : decode cX6_longest 80 = .ok (.ireturn, 1) := by decide +kernel
set_option maxRecDepth 20000 in
theorem ggX6_always_X6_isNobody : GoodIn wsX6_always wsX6_isNobody := goodIn_r _ [7, 8, 81, 82, 83, 84, 85, 86, 87, 88, 89, 90, 91, 92, 93, 94, 95, 96, 97, 98, 99, 100, 101, 102, 103, 104, 105, 106, 107, 108, 109, 110, 111, 112, 113, 114, 115, 116, 117, 118, 119, 120, 121, 122, 123, 124, 125, 126, 127, 128, 129, 130, 131, 132] (by decide +kernel) (by decide +kernel)
set_option maxRecDepth 20000 in
theorem gX6_always_X6_isNobody : GoodIn wsX6_always (wsV RX6 158 RX6 yX6_isNobody wsX6_isNobody) := goodIn_app (goodIn_of _ (by decide +kernel)) ggX6_always_X6_isNobody
set_option maxRecDepth 20000 in
theorem ggX6_always_X6_no : GoodIn wsX6_always wsX6_no := goodIn_r _ [12, 13, 81, 82, 83, 84, 85, 86, 87, 88, 89, 90, 91, 92, 93, 94, 95, 96, 97, 98, 99, 100, 101, 102, 103, 104, 105, 106, 107, 108, 109, 110, 111, 112, 113, 114, 115, 116, 117, 118, 119, 120, 121, 122, 123, 124, 125, 126, 127, 128, 129, 130, 131, 132] (by decide +kernel) (by decide +kernel)
set_option maxRecDepth 20000 in
theorem gX6_always_X6_no : GoodIn wsX6_always (wsV RX6 113 RX6 yX6_no wsX6_no) := goodIn_app (goodIn_of _ (by decide +kernel)) ggX6_always_X6_no
set_option maxRecDepth 20000 in
theorem ggX6_always_X6_isIn : GoodIn wsX6_always wsX6_isIn := goodIn_r _ [16] (by decide +kernel) (by decide +kernel)
set_option maxRecDepth 20000 in
theorem gX6_always_X6_isIn : GoodIn wsX6_always (va_wsS RX6 161 yX6_isIn wsX6_isIn) := goodIn_app (goodIn_of _ (by decide +kernel)) ggX6_always_X6_isIn
set_option maxRecDepth 20000 in
theorem ggX6_always_X6_all : GoodIn wsX6_always wsX6_all := goodIn_r _ [20, 21, 2, 22, 23, 24, 25, 26, 27, 28, 6, 29, 30, 1, 8, 31, 32, 33, 34, 35, 36, 37, 38, 39, 14, 15, 16, 40, 41, 42, 43, 44, 45, 46, 47, 48, 49, 50, 51, 52, 53, 54, 55, 56, 57, 58, 59, 60, 61, 62, 63, 64, 65, 66, 67, 68, 69, 70, 71, 72, 73, 74, 75, 76, 77, 78, 79, 80, 81, 82, 83, 84, 85, 86, 87, 88, 89, 90, 91, 92, 93, 94, 95, 96, 97, 98, 99, 100, 101, 102, 103, 104, 105, 106, 107, 108, 109, 110, 111, 112, 113, 114, 115, 116, 117, 118, 119, 120, 121, 122, 123, 124, 125, 126, 127, 128, 129, 130, 131, 132] (by decide +kernel) (by decide +kernel)
set_option maxRecDepth 20000 in
theorem gX6_always_X6_all : GoodIn wsX6_always (wsV RX6 245 RX6 yX6_all wsX6_all) := goodIn_app (goodIn_of _ (by decide +kernel)) ggX6_always_X6_all
theorem dX6_always_0 : decode cX6_always 0 = .ok (.aload_n 0, 1) := by decide +kernel
theorem dX6_always_1 : decode cX6_always 1 = .ok (.iload_n 1, 1) := by decide +kernel
theorem dX6_always_2 : decode cX6_always 2 = .ok (.invokevirtual 158, 3) := by decide +kernel
theorem dX6_always_5 : decode cX6_always 5 = .ok (.ifCond .eq 9, 3) := by decide +kernel
theorem dX6_always_8 : decode cX6_always 8 = .ok (.aload_n 0, 1) := by decide +kernel
theorem dX6_always_9 : decode cX6_always 9 = .ok (.iconst (-1), 1) := by decide +kernel
theorem dX6_always_10 : decode cX6_always 10 = .ok (.invokevirtual 113, 3) := by decide +kernel
theorem dX6_always_13 : decode cX6_always 13 = .ok (.ireturn, 1) := by decide +kernel
theorem dX6_always_14 : decode cX6_always 14 = .ok (.aload_n 0, 1) := by decide +kernel
theorem dX6_always_15 : decode cX6_always 15 = .ok (.getfield 91, 3) := by decide +kernel
theorem dX6_always_18 : decode cX6_always 18 = .ok (.iload_n 1, 1) := by decide +kernel
theorem dX6_always_19 : decode cX6_always 19 = .ok (.invokestatic 161, 3) := by decide +kernel
theorem dX6_always_22 : decode cX6_always 22 = .ok (.ifCond .eq 10, 3) := by decide +kernel
theorem dX6_always_25 : decode cX6_always 25 = .ok (.aload_n 0, 1) := by decide +kernel
theorem dX6_always_26 : decode cX6_always 26 = .ok (.bipush (-3), 2) := by decide +kernel
theorem dX6_always_28 : decode cX6_always 28 = .ok (.invokevirtual 113, 3) := by decide +kernel
theorem dX6_always_31 : decode cX6_always 31 = .ok (.ireturn, 1) := by decide +kernel
theorem dX6_always_32 : decode cX6_always 32 = .ok (.aload_n 0, 1) := by decide +kernel
theorem dX6_always_33 : decode cX6_always 33 = .ok (.iload_n 1, 1) := by decide +kernel
theorem dX6_always_34 : decode cX6_always 34 = .ok (.iconst (-1), 1) := by decide +kernel
theorem dX6_always_35 : decode cX6_always 35 = .ok (.invokevirtual 245, 3) := by decide +kernel
theorem dX6_always_38 : decode cX6_always 38 = .ok (.aload_n 0, 1) := by decide +kernel
theorem dX6_always_39 : decode cX6_always 39 = .ok (.getfield 226, 3) := by decide +kernel
theorem dX6_always_42 : decode cX6_always 42 = .ok (.ireturn, 1) := by decide +kernel
set_option maxRecDepth 20000 in
theorem ggX6_took_X6_isNobody : GoodIn wsX6_took wsX6_isNobody := goodIn_r _ [8, 9, 81, 82, 83, 84, 85, 86, 87, 88, 89, 90, 91, 92, 93, 94, 95, 96, 97, 98, 99, 100, 101, 102, 103, 104, 105, 106, 107, 108, 109, 110, 111, 112, 113, 114, 115, 116, 117, 118, 119, 120, 121, 122, 123, 124, 125, 126, 127, 128, 129, 130, 131, 132] (by decide +kernel) (by decide +kernel)
set_option maxRecDepth 20000 in
theorem gX6_took_X6_isNobody : GoodIn wsX6_took (wsV RX6 158 RX6 yX6_isNobody wsX6_isNobody) := goodIn_app (goodIn_of _ (by decide +kernel)) ggX6_took_X6_isNobody
set_option maxRecDepth 20000 in
theorem ggX6_took_X6_no : GoodIn wsX6_took wsX6_no := goodIn_r _ [13, 14, 81, 82, 83, 84, 85, 86, 87, 88, 89, 90, 91, 92, 93, 94, 95, 96, 97, 98, 99, 100, 101, 102, 103, 104, 105, 106, 107, 108, 109, 110, 111, 112, 113, 114, 115, 116, 117, 118, 119, 120, 121, 122, 123, 124, 125, 126, 127, 128, 129, 130, 131, 132] (by decide +kernel) (by decide +kernel)
set_option maxRecDepth 20000 in
theorem gX6_took_X6_no : GoodIn wsX6_took (wsV RX6 113 RX6 yX6_no wsX6_no) := goodIn_app (goodIn_of _ (by decide +kernel)) ggX6_took_X6_no
set_option maxRecDepth 20000 in
theorem ggX6_took_X6_isIn : GoodIn wsX6_took wsX6_isIn := goodIn_r _ [17] (by decide +kernel) (by decide +kernel)
set_option maxRecDepth 20000 in
theorem gX6_took_X6_isIn : GoodIn wsX6_took (va_wsS RX6 161 yX6_isIn wsX6_isIn) := goodIn_app (goodIn_of _ (by decide +kernel)) ggX6_took_X6_isIn
set_option maxRecDepth 20000 in
theorem ggX6_took_X6_all : GoodIn wsX6_took wsX6_all := goodIn_r _ [21, 22, 23, 24, 2, 3, 25, 26, 27, 28, 7, 29, 30, 1, 9, 31, 32, 33, 34, 35, 36, 37, 38, 39, 15, 16, 17, 40, 41, 42, 43, 44, 45, 46, 47, 48, 49, 50, 51, 52, 53, 54, 55, 56, 57, 58, 59, 60, 61, 62, 63, 64, 65, 66, 67, 68, 69, 70, 71, 72, 73, 74, 75, 76, 77, 78, 79, 80, 81, 82, 83, 84, 85, 86, 87, 88, 89, 90, 91, 92, 93, 94, 95, 96, 97, 98, 99, 100, 101, 102, 103, 104, 105, 106, 107, 108, 109, 110, 111, 112, 113, 114, 115, 116, 117, 118, 119, 120, 121, 122, 123, 124, 125, 126, 127, 128, 129, 130, 131, 132] (by decide +kernel) (by decide +kernel)
set_option maxRecDepth 20000 in
theorem gX6_took_X6_all : GoodIn wsX6_took (wsV RX6 245 RX6 yX6_all wsX6_all) := goodIn_app (goodIn_of _ (by decide +kernel)) ggX6_took_X6_all
theorem dX6_took_0 : decode cX6_took 0 = .ok (.aload_n 0, 1) := by decide +kernel
theorem dX6_took_1 : decode cX6_took 1 = .ok (.iload_n 1, 1) := by decide +kernel
theorem dX6_took_2 : decode cX6_took 2 = .ok (.invokevirtual 158, 3) := by decide +kernel
theorem dX6_took_5 : decode cX6_took 5 = .ok (.ifCond .eq 9, 3) := by decide +kernel
theorem dX6_took_8 : decode cX6_took 8 = .ok (.aload_n 0, 1) := by decide +kernel
theorem dX6_took_9 : decode cX6_took 9 = .ok (.iconst (-1), 1) := by decide +kernel
theorem dX6_took_10 : decode cX6_took 10 = .ok (.invokevirtual 113, 3) := by decide +kernel
theorem dX6_took_13 : decode cX6_took 13 = .ok (.ireturn, 1) := by decide +kernel
theorem dX6_took_14 : decode cX6_took 14 = .ok (.iload_n 3, 1) := by decide +kernel
theorem dX6_took_15 : decode cX6_took 15 = .ok (.ifCond .lt 8, 3) := by decide +kernel
theorem dX6_took_18 : decode cX6_took 18 = .ok (.iload_n 3, 1) := by decide +kernel
theorem dX6_took_19 : decode cX6_took 19 = .ok (.iconst 1, 1) := by decide +kernel
theorem dX6_took_20 : decode cX6_took 20 = .ok (.if_icmp .le 10, 3) := by decide +kernel
theorem dX6_took_23 : decode cX6_took 23 = .ok (.aload_n 0, 1) := by decide +kernel
theorem dX6_took_24 : decode cX6_took 24 = .ok (.bipush (-2), 2) := by decide +kernel
theorem dX6_took_26 : decode cX6_took 26 = .ok (.invokevirtual 113, 3) := by decide +kernel
theorem dX6_took_29 : decode cX6_took 29 = .ok (.ireturn, 1) := by decide +kernel
theorem dX6_took_30 : decode cX6_took 30 = .ok (.aload_n 0, 1) := by decide +kernel
theorem dX6_took_31 : decode cX6_took 31 = .ok (.getfield 91, 3) := by decide +kernel
theorem dX6_took_34 : decode cX6_took 34 = .ok (.iload_n 1, 1) := by decide +kernel
theorem dX6_took_35 : decode cX6_took 35 = .ok (.invokestatic 161, 3) := by decide +kernel
theorem dX6_took_38 : decode cX6_took 38 = .ok (.ifCond .eq 10, 3) := by decide +kernel
theorem dX6_took_41 : decode cX6_took 41 = .ok (.aload_n 0, 1) := by decide +kernel
theorem dX6_took_42 : decode cX6_took 42 = .ok (.bipush (-3), 2) := by decide +kernel
theorem dX6_took_44 : decode cX6_took 44 = .ok (.invokevirtual 113, 3) := by decide +kernel
theorem dX6_took_47 : decode cX6_took 47 = .ok (.ireturn, 1) := by decide +kernel
theorem dX6_took_48 : decode cX6_took 48 = .ok (.iload_n 2, 1) := by decide +kernel
theorem dX6_took_49 : decode cX6_took 49 = .ok (.ifCond .ge 10, 3) := by decide +kernel
theorem dX6_took_52 : decode cX6_took 52 = .ok (.aload_n 0, 1) := by decide +kernel
theorem dX6_took_53 : decode cX6_took 53 = .ok (.bipush (-4), 2) := by decide +kernel
theorem dX6_took_55 : decode cX6_took 55 = .ok (.invokevirtual 113, 3) := by decide +kernel
theorem dX6_took_58 : decode cX6_took 58 = .ok (.ireturn, 1) := by decide +kernel
theorem dX6_took_59 : decode cX6_took 59 = .ok (.aload_n 0, 1) := by decide +kernel
theorem dX6_took_60 : decode cX6_took 60 = .ok (.iload_n 1, 1) := by decide +kernel
theorem dX6_took_61 : decode cX6_took 61 = .ok (.iload_n 2, 1) := by decide +kernel
theorem dX6_took_62 : decode cX6_took 62 = .ok (.invokevirtual 245, 3) := by decide +kernel
theorem dX6_took_65 : decode cX6_took 65 = .ok (.iload_n 3, 1) := by decide +kernel
theorem dX6_took_66 : decode cX6_took 66 = .ok (.ifCond .ne 10, 3) := by decide +kernel
theorem dX6_took_69 : decode cX6_took 69 = .ok (.aload_n 0, 1) := by decide +kernel
theorem dX6_took_70 : decode cX6_took 70 = .ok (.getfield 232, 3) := by decide +kernel
theorem dX6_took_73 : decode cX6_took 73 = .ok (.goto 7, 3) := by decide +kernel
theorem dX6_took_76 : decode cX6_took 76 = .ok (.aload_n 0, 1) := by decide +kernel
theorem dX6_took_77 : decode cX6_took 77 = .ok (.getfield 235, 3) := by decide +kernel
theorem dX6_took_80 : decode cX6_took 80 = .ok (.ireturn, 1) := by decide +kernel
set_option maxRecDepth 20000 in
theorem ggX6_foe_X6_isNobody : GoodIn wsX6_foe wsX6_isNobody := goodIn_r _ [8, 2, 51, 52, 53, 54, 55, 56, 57, 58, 59, 60, 61, 62, 63, 64, 65, 66, 67, 68, 69, 70, 71, 72, 73, 74, 75, 76, 77, 78, 79, 80, 81, 82, 83, 84, 85, 86, 87, 88, 89, 90, 91, 92, 93, 94, 95, 96, 97, 98, 99, 100, 101, 102] (by decide +kernel) (by decide +kernel)
set_option maxRecDepth 20000 in
theorem gX6_foe_X6_isNobody : GoodIn wsX6_foe (wsV RX6 158 RX6 yX6_isNobody wsX6_isNobody) := goodIn_app (goodIn_of _ (by decide +kernel)) ggX6_foe_X6_isNobody
set_option maxRecDepth 20000 in
theorem ggX6_foe_X6_no : GoodIn wsX6_foe wsX6_no := goodIn_r _ [12, 13, 51, 52, 53, 54, 55, 56, 57, 58, 59, 60, 61, 62, 63, 64, 65, 66, 67, 68, 69, 70, 71, 72, 73, 74, 75, 76, 77, 78, 79, 80, 81, 82, 83, 84, 85, 86, 87, 88, 89, 90, 91, 92, 93, 94, 95, 96, 97, 98, 99, 100, 101, 102] (by decide +kernel) (by decide +kernel)
set_option maxRecDepth 20000 in
theorem gX6_foe_X6_no : GoodIn wsX6_foe (wsV RX6 113 RX6 yX6_no wsX6_no) := goodIn_app (goodIn_of _ (by decide +kernel)) ggX6_foe_X6_no
set_option maxRecDepth 20000 in
theorem ggX6_foe_X6_isIn : GoodIn wsX6_foe wsX6_isIn := goodIn_r _ [16] (by decide +kernel) (by decide +kernel)
set_option maxRecDepth 20000 in
theorem gX6_foe_X6_isIn : GoodIn wsX6_foe (va_wsS RX6 161 yX6_isIn wsX6_isIn) := goodIn_app (goodIn_of _ (by decide +kernel)) ggX6_foe_X6_isIn
set_option maxRecDepth 20000 in
theorem ggX6_foe_X6_go : GoodIn wsX6_foe wsX6_go := goodIn_r _ [20, 21, 22, 23, 24, 25, 7, 26, 2, 27, 28, 29, 30, 31, 32, 33, 34, 35, 36, 37, 14, 15, 16, 38, 39, 40, 41, 42, 51, 52, 53, 54, 55, 56, 57, 58, 59, 60, 61, 62, 63, 64, 65, 66, 67, 68, 69, 70, 71, 72, 73, 74, 75, 76, 77, 78, 79, 80, 81, 82, 83, 84, 85, 86, 87, 88, 89, 90, 91, 92, 93, 94, 95, 96, 97, 98, 99, 100, 101, 102] (by decide +kernel) (by decide +kernel)
set_option maxRecDepth 20000 in
theorem gX6_foe_X6_go : GoodIn wsX6_foe (wsV RX6 185 RX6 yX6_go wsX6_go) := goodIn_app (goodIn_of _ (by decide +kernel)) ggX6_foe_X6_go
set_option maxRecDepth 20000 in
theorem ggX6_foe_X6_right : GoodIn wsX6_foe wsX6_right := goodIn_r _ [46, 21, 22, 47, 48, 49, 7, 50, 29, 3, 51, 52, 53, 54, 55, 56, 57, 58, 59, 60, 61, 62, 63, 64, 65, 66, 67, 68, 69, 70, 71, 72, 73, 74, 75, 76, 77, 78, 79, 80, 81, 82, 83, 84, 85, 86, 87, 88, 89, 90, 91, 92, 93, 94, 95, 96, 97, 98, 99, 100, 101, 102] (by decide +kernel) (by decide +kernel)
set_option maxRecDepth 20000 in
theorem gX6_foe_X6_right : GoodIn wsX6_foe (wsV RX6 195 RX6 yX6_right wsX6_right) := goodIn_app (goodIn_of _ (by decide +kernel)) ggX6_foe_X6_right
theorem dX6_foe_0 : decode cX6_foe 0 = .ok (.aload_n 0, 1) := by decide +kernel
theorem dX6_foe_1 : decode cX6_foe 1 = .ok (.iload_n 1, 1) := by decide +kernel
theorem dX6_foe_2 : decode cX6_foe 2 = .ok (.invokevirtual 158, 3) := by decide +kernel
theorem dX6_foe_5 : decode cX6_foe 5 = .ok (.ifCond .eq 9, 3) := by decide +kernel
theorem dX6_foe_8 : decode cX6_foe 8 = .ok (.aload_n 0, 1) := by decide +kernel
theorem dX6_foe_9 : decode cX6_foe 9 = .ok (.iconst (-1), 1) := by decide +kernel
theorem dX6_foe_10 : decode cX6_foe 10 = .ok (.invokevirtual 113, 3) := by decide +kernel
theorem dX6_foe_13 : decode cX6_foe 13 = .ok (.ireturn, 1) := by decide +kernel
theorem dX6_foe_14 : decode cX6_foe 14 = .ok (.aload_n 0, 1) := by decide +kernel
theorem dX6_foe_15 : decode cX6_foe 15 = .ok (.getfield 91, 3) := by decide +kernel
theorem dX6_foe_18 : decode cX6_foe 18 = .ok (.iload_n 1, 1) := by decide +kernel
theorem dX6_foe_19 : decode cX6_foe 19 = .ok (.invokestatic 161, 3) := by decide +kernel
theorem dX6_foe_22 : decode cX6_foe 22 = .ok (.ifCond .eq 10, 3) := by decide +kernel
theorem dX6_foe_25 : decode cX6_foe 25 = .ok (.aload_n 0, 1) := by decide +kernel
theorem dX6_foe_26 : decode cX6_foe 26 = .ok (.bipush (-3), 2) := by decide +kernel
theorem dX6_foe_28 : decode cX6_foe 28 = .ok (.invokevirtual 113, 3) := by decide +kernel
theorem dX6_foe_31 : decode cX6_foe 31 = .ok (.ireturn, 1) := by decide +kernel
theorem dX6_foe_32 : decode cX6_foe 32 = .ok (.aload_n 0, 1) := by decide +kernel
theorem dX6_foe_33 : decode cX6_foe 33 = .ok (.iload_n 1, 1) := by decide +kernel
theorem dX6_foe_34 : decode cX6_foe 34 = .ok (.aload_n 0, 1) := by decide +kernel
theorem dX6_foe_35 : decode cX6_foe 35 = .ok (.getfield 91, 3) := by decide +kernel
theorem dX6_foe_38 : decode cX6_foe 38 = .ok (.iconst (-1), 1) := by decide +kernel
theorem dX6_foe_39 : decode cX6_foe 39 = .ok (.invokevirtual 185, 3) := by decide +kernel
theorem dX6_foe_42 : decode cX6_foe 42 = .ok (.aload_n 0, 1) := by decide +kernel
theorem dX6_foe_43 : decode cX6_foe 43 = .ok (.invokevirtual 195, 3) := by decide +kernel
theorem dX6_foe_46 : decode cX6_foe 46 = .ok (.istore_n 2, 1) := by decide +kernel
theorem dX6_foe_47 : decode cX6_foe 47 = .ok (.bipush (-9), 2) := by decide +kernel
theorem dX6_foe_49 : decode cX6_foe 49 = .ok (.istore_n 3, 1) := by decide +kernel
theorem dX6_foe_50 : decode cX6_foe 50 = .ok (.iconst 0, 1) := by decide +kernel
theorem dX6_foe_51 : decode cX6_foe 51 = .ok (.istore 4, 2) := by decide +kernel
theorem dX6_foe_53 : decode cX6_foe 53 = .ok (.iload 4, 2) := by decide +kernel
theorem dX6_foe_55 : decode cX6_foe 55 = .ok (.aload_n 0, 1) := by decide +kernel
theorem dX6_foe_56 : decode cX6_foe 56 = .ok (.getfield 78, 3) := by decide +kernel
theorem dX6_foe_59 : decode cX6_foe 59 = .ok (.if_icmp .ge 59, 3) := by decide +kernel
theorem dX6_foe_62 : decode cX6_foe 62 = .ok (.iload 4, 2) := by decide +kernel
theorem dX6_foe_64 : decode cX6_foe 64 = .ok (.iload_n 1, 1) := by decide +kernel
theorem dX6_foe_65 : decode cX6_foe 65 = .ok (.if_icmp .eq 47, 3) := by decide +kernel
theorem dX6_foe_68 : decode cX6_foe 68 = .ok (.aload_n 0, 1) := by decide +kernel
theorem dX6_foe_69 : decode cX6_foe 69 = .ok (.getfield 16, 3) := by decide +kernel
theorem dX6_foe_72 : decode cX6_foe 72 = .ok (.iload 4, 2) := by decide +kernel
theorem dX6_foe_74 : decode cX6_foe 74 = .ok (.iaload, 1) := by decide +kernel
theorem dX6_foe_75 : decode cX6_foe 75 = .ok (.istore 5, 2) := by decide +kernel
theorem dX6_foe_77 : decode cX6_foe 77 = .ok (.aload_n 0, 1) := by decide +kernel
theorem dX6_foe_78 : decode cX6_foe 78 = .ok (.getfield 16, 3) := by decide +kernel
theorem dX6_foe_81 : decode cX6_foe 81 = .ok (.iload 4, 2) := by decide +kernel
theorem dX6_foe_83 : decode cX6_foe 83 = .ok (.iconst 3, 1) := by decide +kernel
theorem dX6_foe_84 : decode cX6_foe 84 = .ok (.iastore, 1) := by decide +kernel
theorem dX6_foe_85 : decode cX6_foe 85 = .ok (.aload_n 0, 1) := by decide +kernel
theorem dX6_foe_86 : decode cX6_foe 86 = .ok (.invokevirtual 195, 3) := by decide +kernel
theorem dX6_foe_89 : decode cX6_foe 89 = .ok (.istore 6, 2) := by decide +kernel
theorem dX6_foe_91 : decode cX6_foe 91 = .ok (.aload_n 0, 1) := by decide +kernel
theorem dX6_foe_92 : decode cX6_foe 92 = .ok (.getfield 16, 3) := by decide +kernel
theorem dX6_foe_95 : decode cX6_foe 95 = .ok (.iload 4, 2) := by decide +kernel
theorem dX6_foe_97 : decode cX6_foe 97 = .ok (.iload 5, 2) := by decide +kernel
theorem dX6_foe_99 : decode cX6_foe 99 = .ok (.iastore, 1) := by decide +kernel
theorem dX6_foe_100 : decode cX6_foe 100 = .ok (.iload 6, 2) := by decide +kernel
theorem dX6_foe_102 : decode cX6_foe 102 = .ok (.iload_n 2, 1) := by decide +kernel
theorem dX6_foe_103 : decode cX6_foe 103 = .ok (.if_icmp .ge 9, 3) := by decide +kernel
theorem dX6_foe_106 : decode cX6_foe 106 = .ok (.iload 6, 2) := by decide +kernel
theorem dX6_foe_108 : decode cX6_foe 108 = .ok (.istore_n 2, 1) := by decide +kernel
theorem dX6_foe_109 : decode cX6_foe 109 = .ok (.iload 4, 2) := by decide +kernel
theorem dX6_foe_111 : decode cX6_foe 111 = .ok (.istore_n 3, 1) := by decide +kernel
theorem dX6_foe_112 : decode cX6_foe 112 = .ok (.iinc 4 1, 3) := by decide +kernel
theorem dX6_foe_115 : decode cX6_foe 115 = .ok (.goto (-62), 3) := by decide +kernel
theorem dX6_foe_118 : decode cX6_foe 118 = .ok (.iload_n 3, 1) := by decide +kernel
theorem dX6_foe_119 : decode cX6_foe 119 = .ok (.ireturn, 1) := by decide +kernel
set_option maxRecDepth 20000 in
theorem ggX6_switching_X6_isNobody : GoodIn wsX6_switching wsX6_isNobody := goodIn_r _ [7, 8, 51, 52, 53, 54, 55, 56, 57, 58, 59, 60, 61, 62, 63, 64, 65, 66, 67, 68, 69, 70, 71, 72, 73, 74, 75, 76, 77, 78, 79, 80, 81, 82, 83, 84, 85, 86, 87, 88, 89, 90, 91, 92, 93, 94, 95, 96, 97, 98, 99, 100, 101, 102] (by decide +kernel) (by decide +kernel)
set_option maxRecDepth 20000 in
theorem gX6_switching_X6_isNobody : GoodIn wsX6_switching (wsV RX6 158 RX6 yX6_isNobody wsX6_isNobody) := goodIn_app (goodIn_of _ (by decide +kernel)) ggX6_switching_X6_isNobody
set_option maxRecDepth 20000 in
theorem ggX6_switching_X6_no : GoodIn wsX6_switching wsX6_no := goodIn_r _ [12, 13, 51, 52, 53, 54, 55, 56, 57, 58, 59, 60, 61, 62, 63, 64, 65, 66, 67, 68, 69, 70, 71, 72, 73, 74, 75, 76, 77, 78, 79, 80, 81, 82, 83, 84, 85, 86, 87, 88, 89, 90, 91, 92, 93, 94, 95, 96, 97, 98, 99, 100, 101, 102] (by decide +kernel) (by decide +kernel)
set_option maxRecDepth 20000 in
theorem gX6_switching_X6_no : GoodIn wsX6_switching (wsV RX6 113 RX6 yX6_no wsX6_no) := goodIn_app (goodIn_of _ (by decide +kernel)) ggX6_switching_X6_no
set_option maxRecDepth 20000 in
theorem ggX6_switching_X6_isIn : GoodIn wsX6_switching wsX6_isIn := goodIn_r _ [16] (by decide +kernel) (by decide +kernel)
set_option maxRecDepth 20000 in
theorem gX6_switching_X6_isIn : GoodIn wsX6_switching (va_wsS RX6 161 yX6_isIn wsX6_isIn) := goodIn_app (goodIn_of _ (by decide +kernel)) ggX6_switching_X6_isIn
set_option maxRecDepth 20000 in
theorem ggX6_switching_X6_go : GoodIn wsX6_switching wsX6_go := goodIn_r _ [20, 21, 22, 23, 24, 25, 6, 26, 8, 27, 2, 28, 29, 30, 31, 32, 33, 34, 35, 36, 14, 15, 16, 37, 38, 39, 40, 41, 51, 52, 53, 54, 55, 56, 57, 58, 59, 60, 61, 62, 63, 64, 65, 66, 67, 68, 69, 70, 71, 72, 73, 74, 75, 76, 77, 78, 79, 80, 81, 82, 83, 84, 85, 86, 87, 88, 89, 90, 91, 92, 93, 94, 95, 96, 97, 98, 99, 100, 101, 102] (by decide +kernel) (by decide +kernel)
set_option maxRecDepth 20000 in
theorem gX6_switching_X6_go : GoodIn wsX6_switching (wsV RX6 185 RX6 yX6_go wsX6_go) := goodIn_app (goodIn_of _ (by decide +kernel)) ggX6_switching_X6_go
set_option maxRecDepth 20000 in
theorem ggX6_switching_X6_right : GoodIn wsX6_switching wsX6_right := goodIn_r _ [45, 21, 22, 46, 47, 48, 6, 49, 28, 50, 51, 52, 53, 54, 55, 56, 57, 58, 59, 60, 61, 62, 63, 64, 65, 66, 67, 68, 69, 70, 71, 72, 73, 74, 75, 76, 77, 78, 79, 80, 81, 82, 83, 84, 85, 86, 87, 88, 89, 90, 91, 92, 93, 94, 95, 96, 97, 98, 99, 100, 101, 102] (by decide +kernel) (by decide +kernel)
set_option maxRecDepth 20000 in
theorem gX6_switching_X6_right : GoodIn wsX6_switching (wsV RX6 195 RX6 yX6_right wsX6_right) := goodIn_app (goodIn_of _ (by decide +kernel)) ggX6_switching_X6_right
theorem dX6_switching_0 : decode cX6_switching 0 = .ok (.aload_n 0, 1) := by decide +kernel
theorem dX6_switching_1 : decode cX6_switching 1 = .ok (.iload_n 1, 1) := by decide +kernel
theorem dX6_switching_2 : decode cX6_switching 2 = .ok (.invokevirtual 158, 3) := by decide +kernel
theorem dX6_switching_5 : decode cX6_switching 5 = .ok (.ifCond .eq 9, 3) := by decide +kernel
theorem dX6_switching_8 : decode cX6_switching 8 = .ok (.aload_n 0, 1) := by decide +kernel
theorem dX6_switching_9 : decode cX6_switching 9 = .ok (.iconst (-1), 1) := by decide +kernel
theorem dX6_switching_10 : decode cX6_switching 10 = .ok (.invokevirtual 113, 3) := by decide +kernel
theorem dX6_switching_13 : decode cX6_switching 13 = .ok (.ireturn, 1) := by decide +kernel
theorem dX6_switching_14 : decode cX6_switching 14 = .ok (.aload_n 0, 1) := by decide +kernel
theorem dX6_switching_15 : decode cX6_switching 15 = .ok (.getfield 91, 3) := by decide +kernel
theorem dX6_switching_18 : decode cX6_switching 18 = .ok (.iload_n 1, 1) := by decide +kernel
theorem dX6_switching_19 : decode cX6_switching 19 = .ok (.invokestatic 161, 3) := by decide +kernel
theorem dX6_switching_22 : decode cX6_switching 22 = .ok (.ifCond .eq 10, 3) := by decide +kernel
theorem dX6_switching_25 : decode cX6_switching 25 = .ok (.aload_n 0, 1) := by decide +kernel
theorem dX6_switching_26 : decode cX6_switching 26 = .ok (.bipush (-3), 2) := by decide +kernel
theorem dX6_switching_28 : decode cX6_switching 28 = .ok (.invokevirtual 113, 3) := by decide +kernel
theorem dX6_switching_31 : decode cX6_switching 31 = .ok (.ireturn, 1) := by decide +kernel
theorem dX6_switching_32 : decode cX6_switching 32 = .ok (.aload_n 0, 1) := by decide +kernel
theorem dX6_switching_33 : decode cX6_switching 33 = .ok (.getfield 13, 3) := by decide +kernel
theorem dX6_switching_36 : decode cX6_switching 36 = .ok (.iload_n 1, 1) := by decide +kernel
theorem dX6_switching_37 : decode cX6_switching 37 = .ok (.iaload, 1) := by decide +kernel
theorem dX6_switching_38 : decode cX6_switching 38 = .ok (.istore_n 2, 1) := by decide +kernel
theorem dX6_switching_39 : decode cX6_switching 39 = .ok (.iconst (-1), 1) := by decide +kernel
theorem dX6_switching_40 : decode cX6_switching 40 = .ok (.istore_n 3, 1) := by decide +kernel
theorem dX6_switching_41 : decode cX6_switching 41 = .ok (.iconst 0, 1) := by decide +kernel
theorem dX6_switching_42 : decode cX6_switching 42 = .ok (.istore 4, 2) := by decide +kernel
theorem dX6_switching_44 : decode cX6_switching 44 = .ok (.iconst 0, 1) := by decide +kernel
theorem dX6_switching_45 : decode cX6_switching 45 = .ok (.istore 5, 2) := by decide +kernel
theorem dX6_switching_47 : decode cX6_switching 47 = .ok (.iload 5, 2) := by decide +kernel
theorem dX6_switching_49 : decode cX6_switching 49 = .ok (.iconst 5, 1) := by decide +kernel
theorem dX6_switching_50 : decode cX6_switching 50 = .ok (.if_icmp .ge 46, 3) := by decide +kernel
theorem dX6_switching_53 : decode cX6_switching 53 = .ok (.aload_n 0, 1) := by decide +kernel
theorem dX6_switching_54 : decode cX6_switching 54 = .ok (.getfield 13, 3) := by decide +kernel
theorem dX6_switching_57 : decode cX6_switching 57 = .ok (.iload_n 1, 1) := by decide +kernel
theorem dX6_switching_58 : decode cX6_switching 58 = .ok (.iload 5, 2) := by decide +kernel
theorem dX6_switching_60 : decode cX6_switching 60 = .ok (.iastore, 1) := by decide +kernel
theorem dX6_switching_61 : decode cX6_switching 61 = .ok (.aload_n 0, 1) := by decide +kernel
theorem dX6_switching_62 : decode cX6_switching 62 = .ok (.iload_n 1, 1) := by decide +kernel
theorem dX6_switching_63 : decode cX6_switching 63 = .ok (.aload_n 0, 1) := by decide +kernel
theorem dX6_switching_64 : decode cX6_switching 64 = .ok (.getfield 91, 3) := by decide +kernel
theorem dX6_switching_67 : decode cX6_switching 67 = .ok (.iconst (-1), 1) := by decide +kernel
theorem dX6_switching_68 : decode cX6_switching 68 = .ok (.invokevirtual 185, 3) := by decide +kernel
theorem dX6_switching_71 : decode cX6_switching 71 = .ok (.aload_n 0, 1) := by decide +kernel
theorem dX6_switching_72 : decode cX6_switching 72 = .ok (.invokevirtual 195, 3) := by decide +kernel
theorem dX6_switching_75 : decode cX6_switching 75 = .ok (.istore 6, 2) := by decide +kernel
theorem dX6_switching_77 : decode cX6_switching 77 = .ok (.iload 6, 2) := by decide +kernel
theorem dX6_switching_79 : decode cX6_switching 79 = .ok (.iload_n 3, 1) := by decide +kernel
theorem dX6_switching_80 : decode cX6_switching 80 = .ok (.if_icmp .le 10, 3) := by decide +kernel
theorem dX6_switching_83 : decode cX6_switching 83 = .ok (.iload 6, 2) := by decide +kernel
theorem dX6_switching_85 : decode cX6_switching 85 = .ok (.istore_n 3, 1) := by decide +kernel
theorem dX6_switching_86 : decode cX6_switching 86 = .ok (.iload 5, 2) := by decide +kernel
theorem dX6_switching_88 : decode cX6_switching 88 = .ok (.istore 4, 2) := by decide +kernel
theorem dX6_switching_90 : decode cX6_switching 90 = .ok (.iinc 5 1, 3) := by decide +kernel
theorem dX6_switching_93 : decode cX6_switching 93 = .ok (.goto (-46), 3) := by decide +kernel
theorem dX6_switching_96 : decode cX6_switching 96 = .ok (.aload_n 0, 1) := by decide +kernel
theorem dX6_switching_97 : decode cX6_switching 97 = .ok (.getfield 13, 3) := by decide +kernel
theorem dX6_switching_100 : decode cX6_switching 100 = .ok (.iload_n 1, 1) := by decide +kernel
theorem dX6_switching_101 : decode cX6_switching 101 = .ok (.iload_n 2, 1) := by decide +kernel
theorem dX6_switching_102 : decode cX6_switching 102 = .ok (.iastore, 1) := by decide +kernel
theorem dX6_switching_103 : decode cX6_switching 103 = .ok (.iload 4, 2) := by decide +kernel
theorem dX6_switching_105 : decode cX6_switching 105 = .ok (.ireturn, 1) := by decide +kernel
set_option maxRecDepth 20000 in
theorem ggX6_edge_X6_isNobody : GoodIn wsX6_edge wsX6_isNobody := goodIn_r _ [7, 8, 47, 48, 49, 50, 51, 52, 53, 54, 55, 56, 57, 58, 59, 60, 61, 62, 63, 64, 65, 66, 67, 68, 69, 70, 71, 72, 73, 74, 75, 76, 77, 78, 79, 80, 81, 82, 83, 84, 85, 86, 87, 88, 89, 90, 91, 92, 93, 94, 95, 96, 97, 98] (by decide +kernel) (by decide +kernel)
set_option maxRecDepth 20000 in
theorem gX6_edge_X6_isNobody : GoodIn wsX6_edge (wsV RX6 158 RX6 yX6_isNobody wsX6_isNobody) := goodIn_app (goodIn_of _ (by decide +kernel)) ggX6_edge_X6_isNobody
set_option maxRecDepth 20000 in
theorem ggX6_edge_X6_no : GoodIn wsX6_edge wsX6_no := goodIn_r _ [12, 13, 47, 48, 49, 50, 51, 52, 53, 54, 55, 56, 57, 58, 59, 60, 61, 62, 63, 64, 65, 66, 67, 68, 69, 70, 71, 72, 73, 74, 75, 76, 77, 78, 79, 80, 81, 82, 83, 84, 85, 86, 87, 88, 89, 90, 91, 92, 93, 94, 95, 96, 97, 98] (by decide +kernel) (by decide +kernel)
set_option maxRecDepth 20000 in
theorem gX6_edge_X6_no : GoodIn wsX6_edge (wsV RX6 113 RX6 yX6_no wsX6_no) := goodIn_app (goodIn_of _ (by decide +kernel)) ggX6_edge_X6_no
set_option maxRecDepth 20000 in
theorem ggX6_edge_X6_isIn : GoodIn wsX6_edge wsX6_isIn := goodIn_r _ [16] (by decide +kernel) (by decide +kernel)
set_option maxRecDepth 20000 in
theorem gX6_edge_X6_isIn : GoodIn wsX6_edge (va_wsS RX6 161 yX6_isIn wsX6_isIn) := goodIn_app (goodIn_of _ (by decide +kernel)) ggX6_edge_X6_isIn
set_option maxRecDepth 20000 in
theorem ggX6_edge_X6_go : GoodIn wsX6_edge wsX6_go := goodIn_r _ [20, 21, 22, 23, 24, 25, 6, 26, 8, 27, 28, 29, 30, 31, 32, 33, 34, 35, 36, 37, 14, 15, 16, 38, 39, 40, 41, 42, 47, 48, 49, 50, 51, 52, 53, 54, 55, 56, 57, 58, 59, 60, 61, 62, 63, 64, 65, 66, 67, 68, 69, 70, 71, 72, 73, 74, 75, 76, 77, 78, 79, 80, 81, 82, 83, 84, 85, 86, 87, 88, 89, 90, 91, 92, 93, 94, 95, 96, 97, 98] (by decide +kernel) (by decide +kernel)
set_option maxRecDepth 20000 in
theorem gX6_edge_X6_go : GoodIn wsX6_edge (wsV RX6 185 RX6 yX6_go wsX6_go) := goodIn_app (goodIn_of _ (by decide +kernel)) ggX6_edge_X6_go
set_option maxRecDepth 20000 in
theorem ggX6_edge_X6_time : GoodIn wsX6_edge wsX6_time := goodIn_r _ [46, 21, 27, 22, 47, 48, 49, 50, 51, 52, 53, 54, 55, 56, 57, 58, 59, 60, 61, 62, 63, 64, 65, 66, 67, 68, 69, 70, 71, 72, 73, 74, 75, 76, 77, 78, 79, 80, 81, 82, 83, 84, 85, 86, 87, 88, 89, 90, 91, 92, 93, 94, 95, 96, 97, 98] (by decide +kernel) (by decide +kernel)
set_option maxRecDepth 20000 in
theorem gX6_edge_X6_time : GoodIn wsX6_edge (wsV RX6 192 RX6 yX6_time wsX6_time) := goodIn_app (goodIn_of _ (by decide +kernel)) ggX6_edge_X6_time
theorem dX6_edge_0 : decode cX6_edge 0 = .ok (.aload_n 0, 1) := by decide +kernel
theorem dX6_edge_1 : decode cX6_edge 1 = .ok (.iload_n 1, 1) := by decide +kernel
theorem dX6_edge_2 : decode cX6_edge 2 = .ok (.invokevirtual 158, 3) := by decide +kernel
theorem dX6_edge_5 : decode cX6_edge 5 = .ok (.ifCond .ne 16, 3) := by decide +kernel
theorem dX6_edge_8 : decode cX6_edge 8 = .ok (.aload_n 0, 1) := by decide +kernel
theorem dX6_edge_9 : decode cX6_edge 9 = .ok (.iload_n 2, 1) := by decide +kernel
theorem dX6_edge_10 : decode cX6_edge 10 = .ok (.invokevirtual 158, 3) := by decide +kernel
theorem dX6_edge_13 : decode cX6_edge 13 = .ok (.ifCond .ne 8, 3) := by decide +kernel
theorem dX6_edge_16 : decode cX6_edge 16 = .ok (.iload_n 1, 1) := by decide +kernel
theorem dX6_edge_17 : decode cX6_edge 17 = .ok (.iload_n 2, 1) := by decide +kernel
theorem dX6_edge_18 : decode cX6_edge 18 = .ok (.if_icmp .ne 12, 3) := by decide +kernel
theorem dX6_edge_21 : decode cX6_edge 21 = .ok (.ldc 248, 2) := by decide +kernel
theorem dX6_edge_23 : decode cX6_edge 23 = .ok (.aload_n 0, 1) := by decide +kernel
theorem dX6_edge_24 : decode cX6_edge 24 = .ok (.iconst (-1), 1) := by decide +kernel
theorem dX6_edge_25 : decode cX6_edge 25 = .ok (.invokevirtual 113, 3) := by decide +kernel
theorem dX6_edge_28 : decode cX6_edge 28 = .ok (.isub, 1) := by decide +kernel
theorem dX6_edge_29 : decode cX6_edge 29 = .ok (.ireturn, 1) := by decide +kernel
theorem dX6_edge_30 : decode cX6_edge 30 = .ok (.aload_n 0, 1) := by decide +kernel
theorem dX6_edge_31 : decode cX6_edge 31 = .ok (.getfield 91, 3) := by decide +kernel
theorem dX6_edge_34 : decode cX6_edge 34 = .ok (.iload_n 1, 1) := by decide +kernel
theorem dX6_edge_35 : decode cX6_edge 35 = .ok (.invokestatic 161, 3) := by decide +kernel
theorem dX6_edge_38 : decode cX6_edge 38 = .ok (.ifCond .eq 13, 3) := by decide +kernel
theorem dX6_edge_41 : decode cX6_edge 41 = .ok (.ldc 248, 2) := by decide +kernel
theorem dX6_edge_43 : decode cX6_edge 43 = .ok (.aload_n 0, 1) := by decide +kernel
theorem dX6_edge_44 : decode cX6_edge 44 = .ok (.bipush (-3), 2) := by decide +kernel
theorem dX6_edge_46 : decode cX6_edge 46 = .ok (.invokevirtual 113, 3) := by decide +kernel
theorem dX6_edge_49 : decode cX6_edge 49 = .ok (.isub, 1) := by decide +kernel
theorem dX6_edge_50 : decode cX6_edge 50 = .ok (.ireturn, 1) := by decide +kernel
theorem dX6_edge_51 : decode cX6_edge 51 = .ok (.aload_n 0, 1) := by decide +kernel
theorem dX6_edge_52 : decode cX6_edge 52 = .ok (.iload_n 1, 1) := by decide +kernel
theorem dX6_edge_53 : decode cX6_edge 53 = .ok (.aload_n 0, 1) := by decide +kernel
theorem dX6_edge_54 : decode cX6_edge 54 = .ok (.getfield 91, 3) := by decide +kernel
theorem dX6_edge_57 : decode cX6_edge 57 = .ok (.iconst (-1), 1) := by decide +kernel
theorem dX6_edge_58 : decode cX6_edge 58 = .ok (.invokevirtual 185, 3) := by decide +kernel
theorem dX6_edge_61 : decode cX6_edge 61 = .ok (.aload_n 0, 1) := by decide +kernel
theorem dX6_edge_62 : decode cX6_edge 62 = .ok (.invokevirtual 192, 3) := by decide +kernel
theorem dX6_edge_65 : decode cX6_edge 65 = .ok (.istore_n 3, 1) := by decide +kernel
theorem dX6_edge_66 : decode cX6_edge 66 = .ok (.aload_n 0, 1) := by decide +kernel
theorem dX6_edge_67 : decode cX6_edge 67 = .ok (.iload_n 1, 1) := by decide +kernel
theorem dX6_edge_68 : decode cX6_edge 68 = .ok (.aload_n 0, 1) := by decide +kernel
theorem dX6_edge_69 : decode cX6_edge 69 = .ok (.getfield 91, 3) := by decide +kernel
theorem dX6_edge_72 : decode cX6_edge 72 = .ok (.iload_n 2, 1) := by decide +kernel
theorem dX6_edge_73 : decode cX6_edge 73 = .ok (.invokevirtual 185, 3) := by decide +kernel
theorem dX6_edge_76 : decode cX6_edge 76 = .ok (.iload_n 3, 1) := by decide +kernel
theorem dX6_edge_77 : decode cX6_edge 77 = .ok (.aload_n 0, 1) := by decide +kernel
theorem dX6_edge_78 : decode cX6_edge 78 = .ok (.invokevirtual 192, 3) := by decide +kernel
theorem dX6_edge_81 : decode cX6_edge 81 = .ok (.isub, 1) := by decide +kernel
theorem dX6_edge_82 : decode cX6_edge 82 = .ok (.ireturn, 1) := by decide +kernel
set_option maxRecDepth 20000 in
theorem ggX6_both_X6_go : GoodIn wsX6_both wsX6_go := goodIn_r _ [6, 7, 8, 9, 10, 11, 5, 12, 13, 14, 15, 16, 17, 18, 19, 20, 21, 22, 23, 24, 25, 26, 27, 28, 29, 30, 31, 32, 46, 47, 48, 49, 50, 51, 52, 53, 54, 55, 56, 57, 58, 59, 60, 61, 62, 63, 64, 65, 66, 67, 68, 69, 70, 71, 72, 73, 74, 75, 76, 77, 78, 79, 80, 81, 82, 83, 84, 85, 86, 87, 88, 89, 90, 91, 92, 93, 94, 95, 96, 97] (by decide +kernel) (by decide +kernel)
set_option maxRecDepth 20000 in
theorem gX6_both_X6_go : GoodIn wsX6_both (wsV RX6 185 RX6 yX6_go wsX6_go) := goodIn_app (goodIn_of _ (by decide +kernel)) ggX6_both_X6_go
set_option maxRecDepth 20000 in
theorem ggX6_both_X6_right : GoodIn wsX6_both wsX6_right := goodIn_r _ [36, 7, 8, 37, 38, 39, 5, 40, 16, 41, 46, 47, 48, 49, 50, 51, 52, 53, 54, 55, 56, 57, 58, 59, 60, 61, 62, 63, 64, 65, 66, 67, 68, 69, 70, 71, 72, 73, 74, 75, 76, 77, 78, 79, 80, 81, 82, 83, 84, 85, 86, 87, 88, 89, 90, 91, 92, 93, 94, 95, 96, 97] (by decide +kernel) (by decide +kernel)
set_option maxRecDepth 20000 in
theorem gX6_both_X6_right : GoodIn wsX6_both (wsV RX6 195 RX6 yX6_right wsX6_right) := goodIn_app (goodIn_of _ (by decide +kernel)) ggX6_both_X6_right
set_option maxRecDepth 20000 in
theorem ggX6_both_X6_onWay : GoodIn wsX6_both wsX6_onWay := goodIn_r _ [45, 7, 8, 46, 47, 48, 49, 50, 51, 52, 53, 54, 55, 56, 57, 58, 59, 60, 61, 62, 63, 64, 65, 66, 67, 68, 69, 70, 71, 72, 73, 74, 75, 76, 77, 78, 79, 80, 81, 82, 83, 84, 85, 86, 87, 88, 89, 90, 91, 92, 93, 94, 95, 96, 97] (by decide +kernel) (by decide +kernel)
set_option maxRecDepth 20000 in
theorem gX6_both_X6_onWay : GoodIn wsX6_both (wsV RX6 189 RX6 yX6_onWay wsX6_onWay) := goodIn_app (goodIn_of _ (by decide +kernel)) ggX6_both_X6_onWay
set_option maxRecDepth 20000 in
theorem ggX6_both_X6_isIn : GoodIn wsX6_both wsX6_isIn := goodIn_r _ [27] (by decide +kernel) (by decide +kernel)
set_option maxRecDepth 20000 in
theorem gX6_both_X6_isIn : GoodIn wsX6_both (va_wsS RX6 161 yX6_isIn wsX6_isIn) := goodIn_app (goodIn_of _ (by decide +kernel)) ggX6_both_X6_isIn
theorem dX6_both_0 : decode cX6_both 0 = .ok (.aload_n 0, 1) := by decide +kernel
theorem dX6_both_1 : decode cX6_both 1 = .ok (.iload_n 1, 1) := by decide +kernel
theorem dX6_both_2 : decode cX6_both 2 = .ok (.aload_n 0, 1) := by decide +kernel
theorem dX6_both_3 : decode cX6_both 3 = .ok (.getfield 91, 3) := by decide +kernel
theorem dX6_both_6 : decode cX6_both 6 = .ok (.iconst (-1), 1) := by decide +kernel
theorem dX6_both_7 : decode cX6_both 7 = .ok (.invokevirtual 185, 3) := by decide +kernel
theorem dX6_both_10 : decode cX6_both 10 = .ok (.aload_n 0, 1) := by decide +kernel
theorem dX6_both_11 : decode cX6_both 11 = .ok (.invokevirtual 195, 3) := by decide +kernel
theorem dX6_both_14 : decode cX6_both 14 = .ok (.istore_n 3, 1) := by decide +kernel
theorem dX6_both_15 : decode cX6_both 15 = .ok (.aload_n 0, 1) := by decide +kernel
theorem dX6_both_16 : decode cX6_both 16 = .ok (.getfield 91, 3) := by decide +kernel
theorem dX6_both_19 : decode cX6_both 19 = .ok (.aload_n 0, 1) := by decide +kernel
theorem dX6_both_20 : decode cX6_both 20 = .ok (.invokevirtual 189, 3) := by decide +kernel
theorem dX6_both_23 : decode cX6_both 23 = .ok (.ior, 1) := by decide +kernel
theorem dX6_both_24 : decode cX6_both 24 = .ok (.istore 4, 2) := by decide +kernel
theorem dX6_both_26 : decode cX6_both 26 = .ok (.iload 4, 2) := by decide +kernel
theorem dX6_both_28 : decode cX6_both 28 = .ok (.iload_n 2, 1) := by decide +kernel
theorem dX6_both_29 : decode cX6_both 29 = .ok (.invokestatic 161, 3) := by decide +kernel
theorem dX6_both_32 : decode cX6_both 32 = .ok (.ifCond .ne 18, 3) := by decide +kernel
theorem dX6_both_35 : decode cX6_both 35 = .ok (.aload_n 0, 1) := by decide +kernel
theorem dX6_both_36 : decode cX6_both 36 = .ok (.iload_n 2, 1) := by decide +kernel
theorem dX6_both_37 : decode cX6_both 37 = .ok (.iload 4, 2) := by decide +kernel
theorem dX6_both_39 : decode cX6_both 39 = .ok (.iconst (-1), 1) := by decide +kernel
theorem dX6_both_40 : decode cX6_both 40 = .ok (.invokevirtual 185, 3) := by decide +kernel
theorem dX6_both_43 : decode cX6_both 43 = .ok (.iload_n 3, 1) := by decide +kernel
theorem dX6_both_44 : decode cX6_both 44 = .ok (.aload_n 0, 1) := by decide +kernel
theorem dX6_both_45 : decode cX6_both 45 = .ok (.invokevirtual 195, 3) := by decide +kernel
theorem dX6_both_48 : decode cX6_both 48 = .ok (.iadd, 1) := by decide +kernel
theorem dX6_both_49 : decode cX6_both 49 = .ok (.istore_n 3, 1) := by decide +kernel
theorem dX6_both_50 : decode cX6_both 50 = .ok (.iload_n 3, 1) := by decide +kernel
theorem dX6_both_51 : decode cX6_both 51 = .ok (.ireturn, 1) := by decide +kernel
set_option maxRecDepth 20000 in
theorem ggX6_two_X6_isNobody : GoodIn wsX6_two wsX6_isNobody := goodIn_r _ [10, 11, 63, 64, 65, 66, 67, 68, 69, 70, 71, 72, 73, 74, 75, 76, 77, 78, 79, 80, 81, 82, 83, 84, 85, 86, 87, 88, 89, 90, 91, 92, 93, 94, 95, 96, 97, 98, 99, 100, 101, 102, 103, 104, 105, 106, 107, 108, 109, 110, 111, 112, 113, 114] (by decide +kernel) (by decide +kernel)
set_option maxRecDepth 20000 in
theorem gX6_two_X6_isNobody : GoodIn wsX6_two (wsV RX6 158 RX6 yX6_isNobody wsX6_isNobody) := goodIn_app (goodIn_of _ (by decide +kernel)) ggX6_two_X6_isNobody
set_option maxRecDepth 20000 in
theorem ggX6_two_X6_no : GoodIn wsX6_two wsX6_no := goodIn_r _ [15, 16, 63, 64, 65, 66, 67, 68, 69, 70, 71, 72, 73, 74, 75, 76, 77, 78, 79, 80, 81, 82, 83, 84, 85, 86, 87, 88, 89, 90, 91, 92, 93, 94, 95, 96, 97, 98, 99, 100, 101, 102, 103, 104, 105, 106, 107, 108, 109, 110, 111, 112, 113, 114] (by decide +kernel) (by decide +kernel)
set_option maxRecDepth 20000 in
theorem gX6_two_X6_no : GoodIn wsX6_two (wsV RX6 113 RX6 yX6_no wsX6_no) := goodIn_app (goodIn_of _ (by decide +kernel)) ggX6_two_X6_no
set_option maxRecDepth 20000 in
theorem ggX6_two_X6_isIn : GoodIn wsX6_two wsX6_isIn := goodIn_r _ [19] (by decide +kernel) (by decide +kernel)
set_option maxRecDepth 20000 in
theorem gX6_two_X6_isIn : GoodIn wsX6_two (va_wsS RX6 161 yX6_isIn wsX6_isIn) := goodIn_app (goodIn_of _ (by decide +kernel)) ggX6_two_X6_isIn
set_option maxRecDepth 20000 in
theorem ggX6_two_X6_both : GoodIn wsX6_two wsX6_both := goodIn_r _ [23, 1, 24, 25, 26, 9, 27, 28, 29, 30, 31, 32, 33, 11, 34, 35, 36, 37, 38, 39, 40, 41, 42, 43, 44, 17, 18, 19, 45, 46, 47, 48, 49, 50, 51, 52, 53, 54, 55, 56, 57, 58, 59, 60, 61, 62, 63, 64, 65, 66, 67, 68, 69, 70, 71, 72, 73, 74, 75, 76, 77, 78, 79, 80, 81, 82, 83, 84, 85, 86, 87, 88, 89, 90, 91, 92, 93, 94, 95, 96, 97, 98, 99, 100, 101, 102, 103, 104, 105, 106, 107, 108, 109, 110, 111, 112, 113, 114] (by decide +kernel) (by decide +kernel)
set_option maxRecDepth 20000 in
theorem gX6_two_X6_both : GoodIn wsX6_two (wsV RX6 249 RX6 yX6_both wsX6_both) := goodIn_app (goodIn_of _ (by decide +kernel)) ggX6_two_X6_both
theorem dX6_two_0 : decode cX6_two 0 = .ok (.aload_n 0, 1) := by decide +kernel
theorem dX6_two_1 : decode cX6_two 1 = .ok (.iload_n 1, 1) := by decide +kernel
theorem dX6_two_2 : decode cX6_two 2 = .ok (.invokevirtual 158, 3) := by decide +kernel
theorem dX6_two_5 : decode cX6_two 5 = .ok (.ifCond .ne 16, 3) := by decide +kernel
theorem dX6_two_8 : decode cX6_two 8 = .ok (.aload_n 0, 1) := by decide +kernel
theorem dX6_two_9 : decode cX6_two 9 = .ok (.iload_n 2, 1) := by decide +kernel
theorem dX6_two_10 : decode cX6_two 10 = .ok (.invokevirtual 158, 3) := by decide +kernel
theorem dX6_two_13 : decode cX6_two 13 = .ok (.ifCond .ne 8, 3) := by decide +kernel
theorem dX6_two_16 : decode cX6_two 16 = .ok (.iload_n 1, 1) := by decide +kernel
theorem dX6_two_17 : decode cX6_two 17 = .ok (.iload_n 2, 1) := by decide +kernel
theorem dX6_two_18 : decode cX6_two 18 = .ok (.if_icmp .ne 9, 3) := by decide +kernel
theorem dX6_two_21 : decode cX6_two 21 = .ok (.aload_n 0, 1) := by decide +kernel
theorem dX6_two_22 : decode cX6_two 22 = .ok (.iconst (-1), 1) := by decide +kernel
theorem dX6_two_23 : decode cX6_two 23 = .ok (.invokevirtual 113, 3) := by decide +kernel
theorem dX6_two_26 : decode cX6_two 26 = .ok (.ireturn, 1) := by decide +kernel
theorem dX6_two_27 : decode cX6_two 27 = .ok (.iload_n 3, 1) := by decide +kernel
theorem dX6_two_28 : decode cX6_two 28 = .ok (.ifCond .lt 8, 3) := by decide +kernel
theorem dX6_two_31 : decode cX6_two 31 = .ok (.iload_n 3, 1) := by decide +kernel
theorem dX6_two_32 : decode cX6_two 32 = .ok (.iconst 1, 1) := by decide +kernel
theorem dX6_two_33 : decode cX6_two 33 = .ok (.if_icmp .le 10, 3) := by decide +kernel
theorem dX6_two_36 : decode cX6_two 36 = .ok (.aload_n 0, 1) := by decide +kernel
theorem dX6_two_37 : decode cX6_two 37 = .ok (.bipush (-2), 2) := by decide +kernel
theorem dX6_two_39 : decode cX6_two 39 = .ok (.invokevirtual 113, 3) := by decide +kernel
theorem dX6_two_42 : decode cX6_two 42 = .ok (.ireturn, 1) := by decide +kernel
theorem dX6_two_43 : decode cX6_two 43 = .ok (.aload_n 0, 1) := by decide +kernel
theorem dX6_two_44 : decode cX6_two 44 = .ok (.getfield 91, 3) := by decide +kernel
theorem dX6_two_47 : decode cX6_two 47 = .ok (.iload_n 1, 1) := by decide +kernel
theorem dX6_two_48 : decode cX6_two 48 = .ok (.invokestatic 161, 3) := by decide +kernel
theorem dX6_two_51 : decode cX6_two 51 = .ok (.ifCond .ne 14, 3) := by decide +kernel
theorem dX6_two_54 : decode cX6_two 54 = .ok (.aload_n 0, 1) := by decide +kernel
theorem dX6_two_55 : decode cX6_two 55 = .ok (.getfield 91, 3) := by decide +kernel
theorem dX6_two_58 : decode cX6_two 58 = .ok (.iload_n 2, 1) := by decide +kernel
theorem dX6_two_59 : decode cX6_two 59 = .ok (.invokestatic 161, 3) := by decide +kernel
theorem dX6_two_62 : decode cX6_two 62 = .ok (.ifCond .eq 10, 3) := by decide +kernel
theorem dX6_two_65 : decode cX6_two 65 = .ok (.aload_n 0, 1) := by decide +kernel
theorem dX6_two_66 : decode cX6_two 66 = .ok (.bipush (-3), 2) := by decide +kernel
theorem dX6_two_68 : decode cX6_two 68 = .ok (.invokevirtual 113, 3) := by decide +kernel
theorem dX6_two_71 : decode cX6_two 71 = .ok (.ireturn, 1) := by decide +kernel
theorem dX6_two_72 : decode cX6_two 72 = .ok (.aload_n 0, 1) := by decide +kernel
theorem dX6_two_73 : decode cX6_two 73 = .ok (.iload_n 1, 1) := by decide +kernel
theorem dX6_two_74 : decode cX6_two 74 = .ok (.iload_n 2, 1) := by decide +kernel
theorem dX6_two_75 : decode cX6_two 75 = .ok (.invokevirtual 249, 3) := by decide +kernel
theorem dX6_two_78 : decode cX6_two 78 = .ok (.istore 4, 2) := by decide +kernel
theorem dX6_two_80 : decode cX6_two 80 = .ok (.aload_n 0, 1) := by decide +kernel
theorem dX6_two_81 : decode cX6_two 81 = .ok (.iload_n 2, 1) := by decide +kernel
theorem dX6_two_82 : decode cX6_two 82 = .ok (.iload_n 1, 1) := by decide +kernel
theorem dX6_two_83 : decode cX6_two 83 = .ok (.invokevirtual 249, 3) := by decide +kernel
theorem dX6_two_86 : decode cX6_two 86 = .ok (.istore 5, 2) := by decide +kernel
theorem dX6_two_88 : decode cX6_two 88 = .ok (.iload_n 3, 1) := by decide +kernel
theorem dX6_two_89 : decode cX6_two 89 = .ok (.ifCond .ne 13, 3) := by decide +kernel
theorem dX6_two_92 : decode cX6_two 92 = .ok (.iload 4, 2) := by decide +kernel
theorem dX6_two_94 : decode cX6_two 94 = .ok (.iload 5, 2) := by decide +kernel
theorem dX6_two_96 : decode cX6_two 96 = .ok (.invokestatic 253, 3) := by decide +kernel
theorem dX6_two_99 : decode cX6_two 99 = .ok (.goto 15, 3) := by decide +kernel
theorem dX6_two_102 : decode cX6_two 102 = .ok (.iload 5, 2) := by decide +kernel
theorem dX6_two_104 : decode cX6_two 104 = .ok (.iload 4, 2) := by decide +kernel
theorem dX6_two_106 : decode cX6_two 106 = .ok (.if_icmp .le 7, 3) := by decide +kernel
theorem dX6_two_109 : decode cX6_two 109 = .ok (.iconst 1, 1) := by decide +kernel
theorem dX6_two_110 : decode cX6_two 110 = .ok (.goto 4, 3) := by decide +kernel
theorem dX6_two_113 : decode cX6_two 113 = .ok (.iconst 0, 1) := by decide +kernel
theorem dX6_two_114 : decode cX6_two 114 = .ok (.ireturn, 1) := by decide +kernel
set_option maxRecDepth 20000 in
theorem ggX6_grow_X6_next : GoodIn wsX6_grow wsX6_next := goodIn_r _ [9, 10, 4, 11, 12, 13, 14, 15, 8, 16, 17, 18, 19, 20, 21, 22, 23, 24, 25, 26, 27, 28, 37, 38, 39, 40, 41, 42, 43, 44, 45, 46, 47, 48, 49, 50, 51, 52, 53, 54, 55, 56, 57, 58, 59, 60, 61, 62, 63, 64, 65, 66, 67, 68, 69, 70, 71, 72, 73, 74, 75, 76, 77, 78, 79, 80, 81, 82, 83, 84, 85, 86, 87, 88] (by decide +kernel) (by decide +kernel)
set_option maxRecDepth 20000 in
theorem gX6_grow_X6_next : GoodIn wsX6_grow (wsV RX6 178 RX6 yX6_next wsX6_next) := goodIn_app (goodIn_of _ (by decide +kernel)) ggX6_grow_X6_next
set_option maxRecDepth 20000 in
theorem ggX6_grow_X6_grow : GoodIn wsX6_grow wsX6_grow := goodIn_r _ [0, 1, 2, 3, 4, 5, 6, 7, 8, 9, 10, 11, 12, 13, 14, 15, 16, 17, 18, 19, 20, 21, 22, 23, 24, 25, 26, 27, 28, 29, 30, 31, 32, 33, 34, 35, 36, 37, 38, 39, 40, 41, 42, 43, 44, 45, 46, 47, 48, 49, 50, 51, 52, 53, 54, 55, 56, 57, 58, 59, 60, 61, 62, 63, 64, 65, 66, 67, 68, 69, 70, 71, 72, 73, 74, 75, 76, 77, 78, 79, 80, 81, 82, 83, 84, 85, 86, 87, 88] (by decide +kernel) (by decide +kernel)
set_option maxRecDepth 20000 in
theorem gX6_grow_X6_grow : GoodIn wsX6_grow (wsV RX6 264 RX6 yX6_grow wsX6_grow) := goodIn_app (goodIn_of _ (by decide +kernel)) ggX6_grow_X6_grow
set_option maxRecDepth 20000 in
theorem ggX6_grow_X6_says : GoodIn wsX6_grow wsX6_says := goodIn_r _ [35, 12, 36, 37, 38, 39, 40, 41, 42, 43, 44, 45, 46, 47, 48, 49, 50, 51, 52, 53, 54, 55, 56, 57, 58, 59, 60, 61, 62, 63, 64, 65, 66, 67, 68, 69, 70, 71, 72, 73, 74, 75, 76, 77, 78, 79, 80, 81, 82, 83, 84, 85, 86, 87, 88] (by decide +kernel) (by decide +kernel)
set_option maxRecDepth 20000 in
theorem gX6_grow_X6_says : GoodIn wsX6_grow (wsV RX6 181 RX6 yX6_says wsX6_says) := goodIn_app (goodIn_of _ (by decide +kernel)) ggX6_grow_X6_says
theorem dX6_grow_0 : decode cX6_grow 0 = .ok (.aload_n 0, 1) := by decide +kernel
theorem dX6_grow_1 : decode cX6_grow 1 = .ok (.dup, 1) := by decide +kernel
theorem dX6_grow_2 : decode cX6_grow 2 = .ok (.getfield 258, 3) := by decide +kernel
theorem dX6_grow_5 : decode cX6_grow 5 = .ok (.iconst 1, 1) := by decide +kernel
theorem dX6_grow_6 : decode cX6_grow 6 = .ok (.iload_n 1, 1) := by decide +kernel
theorem dX6_grow_7 : decode cX6_grow 7 = .ok (.ishl, 1) := by decide +kernel
theorem dX6_grow_8 : decode cX6_grow 8 = .ok (.ior, 1) := by decide +kernel
theorem dX6_grow_9 : decode cX6_grow 9 = .ok (.putfield 258, 3) := by decide +kernel
theorem dX6_grow_12 : decode cX6_grow 12 = .ok (.iconst 0, 1) := by decide +kernel
theorem dX6_grow_13 : decode cX6_grow 13 = .ok (.istore_n 2, 1) := by decide +kernel
theorem dX6_grow_14 : decode cX6_grow 14 = .ok (.iconst 0, 1) := by decide +kernel
theorem dX6_grow_15 : decode cX6_grow 15 = .ok (.istore_n 3, 1) := by decide +kernel
theorem dX6_grow_16 : decode cX6_grow 16 = .ok (.iconst 0, 1) := by decide +kernel
theorem dX6_grow_17 : decode cX6_grow 17 = .ok (.istore 4, 2) := by decide +kernel
theorem dX6_grow_19 : decode cX6_grow 19 = .ok (.iload 4, 2) := by decide +kernel
theorem dX6_grow_21 : decode cX6_grow 21 = .ok (.iconst 2, 1) := by decide +kernel
theorem dX6_grow_22 : decode cX6_grow 22 = .ok (.if_icmp .ge 80, 3) := by decide +kernel
theorem dX6_grow_25 : decode cX6_grow 25 = .ok (.aload_n 0, 1) := by decide +kernel
theorem dX6_grow_26 : decode cX6_grow 26 = .ok (.iload_n 1, 1) := by decide +kernel
theorem dX6_grow_27 : decode cX6_grow 27 = .ok (.aload_n 0, 1) := by decide +kernel
theorem dX6_grow_28 : decode cX6_grow 28 = .ok (.getfield 258, 3) := by decide +kernel
theorem dX6_grow_31 : decode cX6_grow 31 = .ok (.aload_n 0, 1) := by decide +kernel
theorem dX6_grow_32 : decode cX6_grow 32 = .ok (.getfield 91, 3) := by decide +kernel
theorem dX6_grow_35 : decode cX6_grow 35 = .ok (.iconst (-1), 1) := by decide +kernel
theorem dX6_grow_36 : decode cX6_grow 36 = .ok (.invokevirtual 178, 3) := by decide +kernel
theorem dX6_grow_39 : decode cX6_grow 39 = .ok (.istore 5, 2) := by decide +kernel
theorem dX6_grow_41 : decode cX6_grow 41 = .ok (.iload 5, 2) := by decide +kernel
theorem dX6_grow_43 : decode cX6_grow 43 = .ok (.ifCond .lt 53, 3) := by decide +kernel
theorem dX6_grow_46 : decode cX6_grow 46 = .ok (.aload_n 0, 1) := by decide +kernel
theorem dX6_grow_47 : decode cX6_grow 47 = .ok (.dup, 1) := by decide +kernel
theorem dX6_grow_48 : decode cX6_grow 48 = .ok (.getfield 261, 3) := by decide +kernel
theorem dX6_grow_51 : decode cX6_grow 51 = .ok (.iconst 2, 1) := by decide +kernel
theorem dX6_grow_52 : decode cX6_grow 52 = .ok (.aload_n 0, 1) := by decide +kernel
theorem dX6_grow_53 : decode cX6_grow 53 = .ok (.getfield 25, 3) := by decide +kernel
theorem dX6_grow_56 : decode cX6_grow 56 = .ok (.bipush 8, 2) := by decide +kernel
theorem dX6_grow_58 : decode cX6_grow 58 = .ok (.iload_n 1, 1) := by decide +kernel
theorem dX6_grow_59 : decode cX6_grow 59 = .ok (.imul, 1) := by decide +kernel
theorem dX6_grow_60 : decode cX6_grow 60 = .ok (.iload 5, 2) := by decide +kernel
theorem dX6_grow_62 : decode cX6_grow 62 = .ok (.iadd, 1) := by decide +kernel
theorem dX6_grow_63 : decode cX6_grow 63 = .ok (.iaload, 1) := by decide +kernel
theorem dX6_grow_64 : decode cX6_grow 64 = .ok (.imul, 1) := by decide +kernel
theorem dX6_grow_65 : decode cX6_grow 65 = .ok (.iadd, 1) := by decide +kernel
theorem dX6_grow_66 : decode cX6_grow 66 = .ok (.putfield 261, 3) := by decide +kernel
theorem dX6_grow_69 : decode cX6_grow 69 = .ok (.aload_n 0, 1) := by decide +kernel
theorem dX6_grow_70 : decode cX6_grow 70 = .ok (.iload 5, 2) := by decide +kernel
theorem dX6_grow_72 : decode cX6_grow 72 = .ok (.invokevirtual 264, 3) := by decide +kernel
theorem dX6_grow_75 : decode cX6_grow 75 = .ok (.istore 6, 2) := by decide +kernel
theorem dX6_grow_77 : decode cX6_grow 77 = .ok (.iload_n 2, 1) := by decide +kernel
theorem dX6_grow_78 : decode cX6_grow 78 = .ok (.ifCond .eq 13, 3) := by decide +kernel
theorem dX6_grow_81 : decode cX6_grow 81 = .ok (.iload_n 3, 1) := by decide +kernel
theorem dX6_grow_82 : decode cX6_grow 82 = .ok (.iload 6, 2) := by decide +kernel
theorem dX6_grow_84 : decode cX6_grow 84 = .ok (.if_icmp .le 7, 3) := by decide +kernel
theorem dX6_grow_87 : decode cX6_grow 87 = .ok (.iload_n 3, 1) := by decide +kernel
theorem dX6_grow_88 : decode cX6_grow 88 = .ok (.goto 5, 3) := by decide +kernel
theorem dX6_grow_91 : decode cX6_grow 91 = .ok (.iload 6, 2) := by decide +kernel
theorem dX6_grow_93 : decode cX6_grow 93 = .ok (.istore_n 3, 1) := by decide +kernel
theorem dX6_grow_94 : decode cX6_grow 94 = .ok (.iconst 1, 1) := by decide +kernel
theorem dX6_grow_95 : decode cX6_grow 95 = .ok (.istore_n 2, 1) := by decide +kernel
theorem dX6_grow_96 : decode cX6_grow 96 = .ok (.iinc 4 1, 3) := by decide +kernel
theorem dX6_grow_99 : decode cX6_grow 99 = .ok (.goto (-80), 3) := by decide +kernel
theorem dX6_grow_102 : decode cX6_grow 102 = .ok (.aload_n 0, 1) := by decide +kernel
theorem dX6_grow_103 : decode cX6_grow 103 = .ok (.iload_n 1, 1) := by decide +kernel
theorem dX6_grow_104 : decode cX6_grow 104 = .ok (.iload_n 2, 1) := by decide +kernel
theorem dX6_grow_105 : decode cX6_grow 105 = .ok (.iload_n 3, 1) := by decide +kernel
theorem dX6_grow_106 : decode cX6_grow 106 = .ok (.invokevirtual 181, 3) := by decide +kernel
theorem dX6_grow_109 : decode cX6_grow 109 = .ok (.ireturn, 1) := by decide +kernel
set_option maxRecDepth 20000 in
theorem ggX6_tree_X6_isNobody : GoodIn wsX6_tree wsX6_isNobody := goodIn_r _ [8, 9, 47, 48, 49, 50, 51, 52, 53, 54, 55, 56, 57, 58, 59, 60, 61, 62, 63, 64, 65, 66, 67, 68, 69, 70, 71, 72, 73, 74, 75, 76, 77, 78, 79, 80, 81, 82, 83, 84, 85, 86, 87, 88, 89, 90, 91, 92, 93, 94, 95, 96, 97, 98] (by decide +kernel) (by decide +kernel)
set_option maxRecDepth 20000 in
theorem gX6_tree_X6_isNobody : GoodIn wsX6_tree (wsV RX6 158 RX6 yX6_isNobody wsX6_isNobody) := goodIn_app (goodIn_of _ (by decide +kernel)) ggX6_tree_X6_isNobody
set_option maxRecDepth 20000 in
theorem ggX6_tree_X6_no : GoodIn wsX6_tree wsX6_no := goodIn_r _ [13, 14, 47, 48, 49, 50, 51, 52, 53, 54, 55, 56, 57, 58, 59, 60, 61, 62, 63, 64, 65, 66, 67, 68, 69, 70, 71, 72, 73, 74, 75, 76, 77, 78, 79, 80, 81, 82, 83, 84, 85, 86, 87, 88, 89, 90, 91, 92, 93, 94, 95, 96, 97, 98] (by decide +kernel) (by decide +kernel)
set_option maxRecDepth 20000 in
theorem gX6_tree_X6_no : GoodIn wsX6_tree (wsV RX6 113 RX6 yX6_no wsX6_no) := goodIn_app (goodIn_of _ (by decide +kernel)) ggX6_tree_X6_no
set_option maxRecDepth 20000 in
theorem ggX6_tree_X6_isIn : GoodIn wsX6_tree wsX6_isIn := goodIn_r _ [17] (by decide +kernel) (by decide +kernel)
set_option maxRecDepth 20000 in
theorem gX6_tree_X6_isIn : GoodIn wsX6_tree (va_wsS RX6 161 yX6_isIn wsX6_isIn) := goodIn_app (goodIn_of _ (by decide +kernel)) ggX6_tree_X6_isIn
set_option maxRecDepth 20000 in
theorem ggX6_tree_X6_grow : GoodIn wsX6_tree wsX6_grow := goodIn_r _ [21, 2, 1, 3, 22, 23, 24, 25, 7, 26, 9, 27, 28, 29, 30, 31, 32, 33, 34, 35, 36, 15, 16, 17, 37, 38, 39, 40, 41, 18, 19, 20, 42, 43, 44, 45, 46, 47, 48, 49, 50, 51, 52, 53, 54, 55, 56, 57, 58, 59, 60, 61, 62, 63, 64, 65, 66, 67, 68, 69, 70, 71, 72, 73, 74, 75, 76, 77, 78, 79, 80, 81, 82, 83, 84, 85, 86, 87, 88, 89, 90, 91, 92, 93, 94, 95, 96, 97, 98] (by decide +kernel) (by decide +kernel)
set_option maxRecDepth 20000 in
theorem gX6_tree_X6_grow : GoodIn wsX6_tree (wsV RX6 264 RX6 yX6_grow wsX6_grow) := goodIn_app (goodIn_of _ (by decide +kernel)) ggX6_tree_X6_grow
set_option maxRecDepth 20000 in
theorem ggX6_tree_X6_size : GoodIn wsX6_tree wsX6_size := goodIn_r _ [36] (by decide +kernel) (by decide +kernel)
set_option maxRecDepth 20000 in
theorem gX6_tree_X6_size : GoodIn wsX6_tree (va_wsS RX6 165 yX6_size wsX6_size) := goodIn_app (goodIn_of _ (by decide +kernel)) ggX6_tree_X6_size
theorem dX6_tree_0 : decode cX6_tree 0 = .ok (.aload_n 0, 1) := by decide +kernel
theorem dX6_tree_1 : decode cX6_tree 1 = .ok (.iload_n 1, 1) := by decide +kernel
theorem dX6_tree_2 : decode cX6_tree 2 = .ok (.invokevirtual 158, 3) := by decide +kernel
theorem dX6_tree_5 : decode cX6_tree 5 = .ok (.ifCond .eq 9, 3) := by decide +kernel
theorem dX6_tree_8 : decode cX6_tree 8 = .ok (.aload_n 0, 1) := by decide +kernel
theorem dX6_tree_9 : decode cX6_tree 9 = .ok (.iconst (-1), 1) := by decide +kernel
theorem dX6_tree_10 : decode cX6_tree 10 = .ok (.invokevirtual 113, 3) := by decide +kernel
theorem dX6_tree_13 : decode cX6_tree 13 = .ok (.ireturn, 1) := by decide +kernel
theorem dX6_tree_14 : decode cX6_tree 14 = .ok (.iload_n 2, 1) := by decide +kernel
theorem dX6_tree_15 : decode cX6_tree 15 = .ok (.ifCond .lt 8, 3) := by decide +kernel
theorem dX6_tree_18 : decode cX6_tree 18 = .ok (.iload_n 2, 1) := by decide +kernel
theorem dX6_tree_19 : decode cX6_tree 19 = .ok (.iconst 2, 1) := by decide +kernel
theorem dX6_tree_20 : decode cX6_tree 20 = .ok (.if_icmp .le 10, 3) := by decide +kernel
theorem dX6_tree_23 : decode cX6_tree 23 = .ok (.aload_n 0, 1) := by decide +kernel
theorem dX6_tree_24 : decode cX6_tree 24 = .ok (.bipush (-2), 2) := by decide +kernel
theorem dX6_tree_26 : decode cX6_tree 26 = .ok (.invokevirtual 113, 3) := by decide +kernel
theorem dX6_tree_29 : decode cX6_tree 29 = .ok (.ireturn, 1) := by decide +kernel
theorem dX6_tree_30 : decode cX6_tree 30 = .ok (.aload_n 0, 1) := by decide +kernel
theorem dX6_tree_31 : decode cX6_tree 31 = .ok (.getfield 91, 3) := by decide +kernel
theorem dX6_tree_34 : decode cX6_tree 34 = .ok (.iload_n 1, 1) := by decide +kernel
theorem dX6_tree_35 : decode cX6_tree 35 = .ok (.invokestatic 161, 3) := by decide +kernel
theorem dX6_tree_38 : decode cX6_tree 38 = .ok (.ifCond .eq 10, 3) := by decide +kernel
theorem dX6_tree_41 : decode cX6_tree 41 = .ok (.aload_n 0, 1) := by decide +kernel
theorem dX6_tree_42 : decode cX6_tree 42 = .ok (.bipush (-3), 2) := by decide +kernel
theorem dX6_tree_44 : decode cX6_tree 44 = .ok (.invokevirtual 113, 3) := by decide +kernel
theorem dX6_tree_47 : decode cX6_tree 47 = .ok (.ireturn, 1) := by decide +kernel
theorem dX6_tree_48 : decode cX6_tree 48 = .ok (.aload_n 0, 1) := by decide +kernel
theorem dX6_tree_49 : decode cX6_tree 49 = .ok (.iconst 0, 1) := by decide +kernel
theorem dX6_tree_50 : decode cX6_tree 50 = .ok (.putfield 258, 3) := by decide +kernel
theorem dX6_tree_53 : decode cX6_tree 53 = .ok (.aload_n 0, 1) := by decide +kernel
theorem dX6_tree_54 : decode cX6_tree 54 = .ok (.iconst 0, 1) := by decide +kernel
theorem dX6_tree_55 : decode cX6_tree 55 = .ok (.putfield 261, 3) := by decide +kernel
theorem dX6_tree_58 : decode cX6_tree 58 = .ok (.aload_n 0, 1) := by decide +kernel
theorem dX6_tree_59 : decode cX6_tree 59 = .ok (.iload_n 1, 1) := by decide +kernel
theorem dX6_tree_60 : decode cX6_tree 60 = .ok (.invokevirtual 264, 3) := by decide +kernel
theorem dX6_tree_63 : decode cX6_tree 63 = .ok (.istore_n 3, 1) := by decide +kernel
theorem dX6_tree_64 : decode cX6_tree 64 = .ok (.iload_n 2, 1) := by decide +kernel
theorem dX6_tree_65 : decode cX6_tree 65 = .ok (.ifCond .ne 13, 3) := by decide +kernel
theorem dX6_tree_68 : decode cX6_tree 68 = .ok (.aload_n 0, 1) := by decide +kernel
theorem dX6_tree_69 : decode cX6_tree 69 = .ok (.getfield 258, 3) := by decide +kernel
theorem dX6_tree_72 : decode cX6_tree 72 = .ok (.invokestatic 165, 3) := by decide +kernel
theorem dX6_tree_75 : decode cX6_tree 75 = .ok (.goto 16, 3) := by decide +kernel
theorem dX6_tree_78 : decode cX6_tree 78 = .ok (.iload_n 2, 1) := by decide +kernel
theorem dX6_tree_79 : decode cX6_tree 79 = .ok (.iconst 1, 1) := by decide +kernel
theorem dX6_tree_80 : decode cX6_tree 80 = .ok (.if_icmp .ne 10, 3) := by decide +kernel
theorem dX6_tree_83 : decode cX6_tree 83 = .ok (.aload_n 0, 1) := by decide +kernel
theorem dX6_tree_84 : decode cX6_tree 84 = .ok (.getfield 261, 3) := by decide +kernel
theorem dX6_tree_87 : decode cX6_tree 87 = .ok (.goto 4, 3) := by decide +kernel
theorem dX6_tree_90 : decode cX6_tree 90 = .ok (.iload_n 3, 1) := by decide +kernel
theorem dX6_tree_91 : decode cX6_tree 91 = .ok (.ireturn, 1) := by decide +kernel
set_option maxRecDepth 20000 in
theorem ggX6_days_X6_no : GoodIn wsX6_days wsX6_no := goodIn_r _ [9, 10, 49, 50, 51, 52, 53, 54, 55, 56, 57, 58, 59, 60, 61, 62, 63, 64, 65, 66, 67, 68, 69, 70, 71, 72, 73, 74, 75, 76, 77, 78, 79, 80, 81, 82, 83, 84, 85, 86, 87, 88, 89, 90, 91, 92, 93, 94, 95, 96, 97, 98, 99, 100] (by decide +kernel) (by decide +kernel)
set_option maxRecDepth 20000 in
theorem gX6_days_X6_no : GoodIn wsX6_days (wsV RX6 113 RX6 yX6_no wsX6_no) := goodIn_app (goodIn_of _ (by decide +kernel)) ggX6_days_X6_no
set_option maxRecDepth 20000 in
theorem ggX6_days_X6_go : GoodIn wsX6_days wsX6_go := goodIn_r _ [14, 15, 16, 17, 18, 19, 8, 20, 1, 21, 22, 23, 24, 25, 26, 27, 28, 29, 30, 31, 32, 33, 34, 35, 36, 37, 38, 39, 49, 50, 51, 52, 53, 54, 55, 56, 57, 58, 59, 60, 61, 62, 63, 64, 65, 66, 67, 68, 69, 70, 71, 72, 73, 74, 75, 76, 77, 78, 79, 80, 81, 82, 83, 84, 85, 86, 87, 88, 89, 90, 91, 92, 93, 94, 95, 96, 97, 98, 99, 100] (by decide +kernel) (by decide +kernel)
set_option maxRecDepth 20000 in
theorem gX6_days_X6_go : GoodIn wsX6_days (wsV RX6 185 RX6 yX6_go wsX6_go) := goodIn_app (goodIn_of _ (by decide +kernel)) ggX6_days_X6_go
set_option maxRecDepth 20000 in
theorem ggX6_days_X6_right : GoodIn wsX6_days wsX6_right := goodIn_r _ [43, 15, 16, 44, 45, 46, 8, 47, 23, 48, 49, 50, 51, 52, 53, 54, 55, 56, 57, 58, 59, 60, 61, 62, 63, 64, 65, 66, 67, 68, 69, 70, 71, 72, 73, 74, 75, 76, 77, 78, 79, 80, 81, 82, 83, 84, 85, 86, 87, 88, 89, 90, 91, 92, 93, 94, 95, 96, 97, 98, 99, 100] (by decide +kernel) (by decide +kernel)
set_option maxRecDepth 20000 in
theorem gX6_days_X6_right : GoodIn wsX6_days (wsV RX6 195 RX6 yX6_right wsX6_right) := goodIn_app (goodIn_of _ (by decide +kernel)) ggX6_days_X6_right
theorem dX6_days_0 : decode cX6_days 0 = .ok (.iload_n 1, 1) := by decide +kernel
theorem dX6_days_1 : decode cX6_days 1 = .ok (.iconst 1, 1) := by decide +kernel
theorem dX6_days_2 : decode cX6_days 2 = .ok (.if_icmp .ge 10, 3) := by decide +kernel
theorem dX6_days_5 : decode cX6_days 5 = .ok (.aload_n 0, 1) := by decide +kernel
theorem dX6_days_6 : decode cX6_days 6 = .ok (.bipush (-4), 2) := by decide +kernel
theorem dX6_days_8 : decode cX6_days 8 = .ok (.invokevirtual 113, 3) := by decide +kernel
theorem dX6_days_11 : decode cX6_days 11 = .ok (.ireturn, 1) := by decide +kernel
theorem dX6_days_12 : decode cX6_days 12 = .ok (.iload_n 1, 1) := by decide +kernel
theorem dX6_days_13 : decode cX6_days 13 = .ok (.bipush 30, 2) := by decide +kernel
theorem dX6_days_15 : decode cX6_days 15 = .ok (.if_icmp .le 10, 3) := by decide +kernel
theorem dX6_days_18 : decode cX6_days 18 = .ok (.aload_n 0, 1) := by decide +kernel
theorem dX6_days_19 : decode cX6_days 19 = .ok (.bipush (-6), 2) := by decide +kernel
theorem dX6_days_21 : decode cX6_days 21 = .ok (.invokevirtual 113, 3) := by decide +kernel
theorem dX6_days_24 : decode cX6_days 24 = .ok (.ireturn, 1) := by decide +kernel
theorem dX6_days_25 : decode cX6_days 25 = .ok (.aload_n 0, 1) := by decide +kernel
theorem dX6_days_26 : decode cX6_days 26 = .ok (.getfield 78, 3) := by decide +kernel
theorem dX6_days_29 : decode cX6_days 29 = .ok (.ifCond .ne 10, 3) := by decide +kernel
theorem dX6_days_32 : decode cX6_days 32 = .ok (.aload_n 0, 1) := by decide +kernel
theorem dX6_days_33 : decode cX6_days 33 = .ok (.bipush (-3), 2) := by decide +kernel
theorem dX6_days_35 : decode cX6_days 35 = .ok (.invokevirtual 113, 3) := by decide +kernel
theorem dX6_days_38 : decode cX6_days 38 = .ok (.ireturn, 1) := by decide +kernel
theorem dX6_days_39 : decode cX6_days 39 = .ok (.iconst 0, 1) := by decide +kernel
theorem dX6_days_40 : decode cX6_days 40 = .ok (.istore_n 3, 1) := by decide +kernel
theorem dX6_days_41 : decode cX6_days 41 = .ok (.iload_n 2, 1) := by decide +kernel
theorem dX6_days_42 : decode cX6_days 42 = .ok (.istore 4, 2) := by decide +kernel
theorem dX6_days_44 : decode cX6_days 44 = .ok (.iconst 0, 1) := by decide +kernel
theorem dX6_days_45 : decode cX6_days 45 = .ok (.istore 5, 2) := by decide +kernel
theorem dX6_days_47 : decode cX6_days 47 = .ok (.iload 5, 2) := by decide +kernel
theorem dX6_days_49 : decode cX6_days 49 = .ok (.iload_n 1, 1) := by decide +kernel
theorem dX6_days_50 : decode cX6_days 50 = .ok (.if_icmp .ge 49, 3) := by decide +kernel
theorem dX6_days_53 : decode cX6_days 53 = .ok (.iload 4, 2) := by decide +kernel
theorem dX6_days_55 : decode cX6_days 55 = .ok (.ldc_w 267, 3) := by decide +kernel
theorem dX6_days_58 : decode cX6_days 58 = .ok (.imul, 1) := by decide +kernel
theorem dX6_days_59 : decode cX6_days 59 = .ok (.ldc_w 268, 3) := by decide +kernel
theorem dX6_days_62 : decode cX6_days 62 = .ok (.iadd, 1) := by decide +kernel
theorem dX6_days_63 : decode cX6_days 63 = .ok (.istore 4, 2) := by decide +kernel
theorem dX6_days_65 : decode cX6_days 65 = .ok (.aload_n 0, 1) := by decide +kernel
theorem dX6_days_66 : decode cX6_days 66 = .ok (.iload 4, 2) := by decide +kernel
theorem dX6_days_68 : decode cX6_days 68 = .ok (.ldc_w 269, 3) := by decide +kernel
theorem dX6_days_71 : decode cX6_days 71 = .ok (.iand, 1) := by decide +kernel
theorem dX6_days_72 : decode cX6_days 72 = .ok (.sipush 256, 3) := by decide +kernel
theorem dX6_days_75 : decode cX6_days 75 = .ok (.idiv, 1) := by decide +kernel
theorem dX6_days_76 : decode cX6_days 76 = .ok (.aload_n 0, 1) := by decide +kernel
theorem dX6_days_77 : decode cX6_days 77 = .ok (.getfield 78, 3) := by decide +kernel
theorem dX6_days_80 : decode cX6_days 80 = .ok (.irem, 1) := by decide +kernel
theorem dX6_days_81 : decode cX6_days 81 = .ok (.iconst 0, 1) := by decide +kernel
theorem dX6_days_82 : decode cX6_days 82 = .ok (.iconst (-1), 1) := by decide +kernel
theorem dX6_days_83 : decode cX6_days 83 = .ok (.invokevirtual 185, 3) := by decide +kernel
theorem dX6_days_86 : decode cX6_days 86 = .ok (.iload_n 3, 1) := by decide +kernel
theorem dX6_days_87 : decode cX6_days 87 = .ok (.aload_n 0, 1) := by decide +kernel
theorem dX6_days_88 : decode cX6_days 88 = .ok (.invokevirtual 195, 3) := by decide +kernel
theorem dX6_days_91 : decode cX6_days 91 = .ok (.iadd, 1) := by decide +kernel
theorem dX6_days_92 : decode cX6_days 92 = .ok (.istore_n 3, 1) := by decide +kernel
theorem dX6_days_93 : decode cX6_days 93 = .ok (.iinc 5 1, 3) := by decide +kernel
theorem dX6_days_96 : decode cX6_days 96 = .ok (.goto (-49), 3) := by decide +kernel
theorem dX6_days_99 : decode cX6_days 99 = .ok (.iload_n 3, 1) := by decide +kernel
theorem dX6_days_100 : decode cX6_days 100 = .ok (.ireturn, 1) := by decide +kernel
set_option maxRecDepth 20000 in
theorem ggX6_row_X6_no : GoodIn wsX6_row wsX6_no := goodIn_r _ [7, 8, 9, 10, 11, 12, 13, 14, 15, 16, 17, 18, 19, 20, 21, 22, 23, 24, 25, 26, 27, 28, 29, 30, 31, 32, 33, 34, 35, 36, 37, 38, 39, 40, 41, 42, 43, 44, 45, 46, 47, 48, 49, 50, 51, 52, 53, 54, 55, 56, 57, 58, 59, 60] (by decide +kernel) (by decide +kernel)
set_option maxRecDepth 20000 in
theorem gX6_row_X6_no : GoodIn wsX6_row (wsV RX6 113 RX6 yX6_no wsX6_no) := goodIn_app (goodIn_of _ (by decide +kernel)) ggX6_row_X6_no
theorem dX6_row_0 : decode cX6_row 0 = .ok (.iload_n 1, 1) := by decide +kernel
theorem dX6_row_1 : decode cX6_row 1 = .ok (.ifCond .ge 10, 3) := by decide +kernel
theorem dX6_row_4 : decode cX6_row 4 = .ok (.aload_n 0, 1) := by decide +kernel
theorem dX6_row_5 : decode cX6_row 5 = .ok (.bipush (-4), 2) := by decide +kernel
theorem dX6_row_7 : decode cX6_row 7 = .ok (.invokevirtual 113, 3) := by decide +kernel
theorem dX6_row_10 : decode cX6_row 10 = .ok (.ireturn, 1) := by decide +kernel
theorem dX6_row_11 : decode cX6_row 11 = .ok (.iload_n 1, 1) := by decide +kernel
theorem dX6_row_12 : decode cX6_row 12 = .ok (.bipush 9, 2) := by decide +kernel
theorem dX6_row_14 : decode cX6_row 14 = .ok (.if_icmp .gt 12, 3) := by decide +kernel
theorem dX6_row_17 : decode cX6_row 17 = .ok (.aload_n 0, 1) := by decide +kernel
theorem dX6_row_18 : decode cX6_row 18 = .ok (.getfield 270, 3) := by decide +kernel
theorem dX6_row_21 : decode cX6_row 21 = .ok (.bipush 8, 2) := by decide +kernel
theorem dX6_row_23 : decode cX6_row 23 = .ok (.if_icmp .ne 10, 3) := by decide +kernel
theorem dX6_row_26 : decode cX6_row 26 = .ok (.aload_n 0, 1) := by decide +kernel
theorem dX6_row_27 : decode cX6_row 27 = .ok (.bipush (-6), 2) := by decide +kernel
theorem dX6_row_29 : decode cX6_row 29 = .ok (.invokevirtual 113, 3) := by decide +kernel
theorem dX6_row_32 : decode cX6_row 32 = .ok (.ireturn, 1) := by decide +kernel
theorem dX6_row_33 : decode cX6_row 33 = .ok (.aload_n 0, 1) := by decide +kernel
theorem dX6_row_34 : decode cX6_row 34 = .ok (.getfield 71, 3) := by decide +kernel
