theorem dX0_init_0 : decode cX0_init 0 = .ok (.aload_n 0, 1) := by decide +kernel
theorem dX0_init_1 : decode cX0_init 1 = .ok (.invokespecial 3, 3) := by decide +kernel
theorem dX0_init_4 : decode cX0_init 4 = .ok (.aload_n 0, 1) := by decide +kernel
theorem dX0_init_5 : decode cX0_init 5 = .ok (.new 9, 3) := by decide +kernel
theorem dX0_init_8 : decode cX0_init 8 = .ok (.dup, 1) := by decide +kernel
theorem dX0_init_9 : decode cX0_init 9 = .ok (.invokespecial 11, 3) := by decide +kernel
theorem dX0_init_12 : decode cX0_init 12 = .ok (.putfield 12, 3) := by decide +kernel
theorem dX0_init_15 : decode cX0_init 15 = .ok (.aload_n 0, 1) := by decide +kernel
theorem dX0_init_16 : decode cX0_init 16 = .ok (.new 9, 3) := by decide +kernel
theorem dX0_init_19 : decode cX0_init 19 = .ok (.dup, 1) := by decide +kernel
theorem dX0_init_20 : decode cX0_init 20 = .ok (.invokespecial 11, 3) := by decide +kernel
theorem dX0_init_23 : decode cX0_init 23 = .ok (.putfield 18, 3) := by decide +kernel
theorem dX0_init_26 : decode cX0_init 26 = .ok (.return_, 1) := by decide +kernel
set_option maxRecDepth 20000 in
theorem ggX0_begin_X4_clear : GoodIn wsX0_begin wsX4_clear := goodIn_r _ [11, 12, 13, 22, 23, 24] (by decide +kernel) (by decide +kernel)
set_option maxRecDepth 20000 in
theorem gX0_begin_X4_clear : GoodIn wsX0_begin (wsV RX0 34 RX4 yX4_clear wsX4_clear) := goodIn_app (goodIn_of _ (by decide +kernel)) ggX0_begin_X4_clear
theorem dX0_begin_0 : decode cX0_begin 0 = .ok (.aload_n 0, 1) := by decide +kernel
theorem dX0_begin_1 : decode cX0_begin 1 = .ok (.iload_n 1, 1) := by decide +kernel
theorem dX0_begin_2 : decode cX0_begin 2 = .ok (.putfield 21, 3) := by decide +kernel
theorem dX0_begin_5 : decode cX0_begin 5 = .ok (.aload_n 0, 1) := by decide +kernel
theorem dX0_begin_6 : decode cX0_begin 6 = .ok (.iload_n 2, 1) := by decide +kernel
theorem dX0_begin_7 : decode cX0_begin 7 = .ok (.putfield 25, 3) := by decide +kernel
theorem dX0_begin_10 : decode cX0_begin 10 = .ok (.aload_n 0, 1) := by decide +kernel
theorem dX0_begin_11 : decode cX0_begin 11 = .ok (.iconst 0, 1) := by decide +kernel
theorem dX0_begin_12 : decode cX0_begin 12 = .ok (.putfield 28, 3) := by decide +kernel
theorem dX0_begin_15 : decode cX0_begin 15 = .ok (.aload_n 0, 1) := by decide +kernel
theorem dX0_begin_16 : decode cX0_begin 16 = .ok (.iconst 0, 1) := by decide +kernel
theorem dX0_begin_17 : decode cX0_begin 17 = .ok (.putfield 31, 3) := by decide +kernel
theorem dX0_begin_20 : decode cX0_begin 20 = .ok (.aload_n 0, 1) := by decide +kernel
theorem dX0_begin_21 : decode cX0_begin 21 = .ok (.getfield 12, 3) := by decide +kernel
theorem dX0_begin_24 : decode cX0_begin 24 = .ok (.invokevirtual 34, 3) := by decide +kernel
theorem dX0_begin_27 : decode cX0_begin 27 = .ok (.aload_n 0, 1) := by decide +kernel
theorem dX0_begin_28 : decode cX0_begin 28 = .ok (.getfield 18, 3) := by decide +kernel
theorem dX0_begin_31 : decode cX0_begin 31 = .ok (.invokevirtual 34, 3) := by decide +kernel
theorem dX0_begin_34 : decode cX0_begin 34 = .ok (.return_, 1) := by decide +kernel
set_option maxRecDepth 20000 in
theorem ggX0_take_X3_timeOf : GoodIn wsX0_take wsX3_timeOf := goodIn_r _ [12, 13, 14, 15, 11, 16, 17, 18, 19, 20, 21, 22, 67, 68, 69, 70, 71, 72, 73, 74, 75, 76, 77, 78, 79, 80, 81, 82] (by decide +kernel) (by decide +kernel)
set_option maxRecDepth 20000 in
theorem gX0_take_X3_timeOf : GoodIn wsX0_take (wsV RX0 37 RX3 yX3_timeOf wsX3_timeOf) := goodIn_app (goodIn_of _ (by decide +kernel)) ggX0_take_X3_timeOf
set_option maxRecDepth 20000 in
theorem ggX0_take_X3_rightOf : GoodIn wsX0_take wsX3_rightOf := goodIn_r _ [26, 27, 28, 29, 30, 31, 32, 33, 34, 35, 36, 11, 37, 38, 39, 40, 41, 42, 43, 18, 19, 20, 21, 22, 67, 68, 69, 70, 71, 72, 73, 74, 75, 76, 77, 78, 79, 80, 81, 82] (by decide +kernel) (by decide +kernel)
set_option maxRecDepth 20000 in
theorem gX0_take_X3_rightOf : GoodIn wsX0_take (wsV RX0 43 RX3 yX3_rightOf wsX3_rightOf) := goodIn_app (goodIn_of _ (by decide +kernel)) ggX0_take_X3_rightOf
set_option maxRecDepth 20000 in
theorem ggX0_take_X0_isBetter : GoodIn wsX0_take wsX0_isBetter := goodIn_r _ [48, 49, 6, 7, 1, 5, 59, 60, 61, 62, 63, 64, 65, 66, 67, 68, 69] (by decide +kernel) (by decide +kernel)
set_option maxRecDepth 20000 in
theorem gX0_take_X0_isBetter : GoodIn wsX0_take (wsV RX0 49 RX0 yX0_isBetter wsX0_isBetter) := goodIn_app (goodIn_of _ (by decide +kernel)) ggX0_take_X0_isBetter
set_option maxRecDepth 20000 in
theorem ggX0_take_X4_become : GoodIn wsX0_take wsX4_become := goodIn_r _ [53, 33, 54, 55, 56, 57, 32, 58, 67, 68, 69] (by decide +kernel) (by decide +kernel)
set_option maxRecDepth 20000 in
theorem gX0_take_X4_become : GoodIn wsX0_take (wsV RX0 53 RX4 yX4_become wsX4_become) := goodIn_app (goodIn_of _ (by decide +kernel)) ggX0_take_X4_become
theorem dX0_take_0 : decode cX0_take 0 = .ok (.aload_n 1, 1) := by decide +kernel
theorem dX0_take_1 : decode cX0_take 1 = .ok (.aload_n 0, 1) := by decide +kernel
theorem dX0_take_2 : decode cX0_take 2 = .ok (.getfield 12, 3) := by decide +kernel
theorem dX0_take_5 : decode cX0_take 5 = .ok (.invokevirtual 37, 3) := by decide +kernel
theorem dX0_take_8 : decode cX0_take 8 = .ok (.istore_n 2, 1) := by decide +kernel
theorem dX0_take_9 : decode cX0_take 9 = .ok (.aload_n 0, 1) := by decide +kernel
theorem dX0_take_10 : decode cX0_take 10 = .ok (.getfield 25, 3) := by decide +kernel
theorem dX0_take_13 : decode cX0_take 13 = .ok (.iconst (-1), 1) := by decide +kernel
theorem dX0_take_14 : decode cX0_take 14 = .ok (.if_icmp .eq 12, 3) := by decide +kernel
theorem dX0_take_17 : decode cX0_take 17 = .ok (.iload_n 2, 1) := by decide +kernel
theorem dX0_take_18 : decode cX0_take 18 = .ok (.aload_n 0, 1) := by decide +kernel
theorem dX0_take_19 : decode cX0_take 19 = .ok (.getfield 25, 3) := by decide +kernel
theorem dX0_take_22 : decode cX0_take 22 = .ok (.if_icmp .eq 4, 3) := by decide +kernel
theorem dX0_take_25 : decode cX0_take 25 = .ok (.return_, 1) := by decide +kernel
theorem dX0_take_26 : decode cX0_take 26 = .ok (.aload_n 1, 1) := by decide +kernel
theorem dX0_take_27 : decode cX0_take 27 = .ok (.aload_n 0, 1) := by decide +kernel
theorem dX0_take_28 : decode cX0_take 28 = .ok (.getfield 12, 3) := by decide +kernel
theorem dX0_take_31 : decode cX0_take 31 = .ok (.invokevirtual 43, 3) := by decide +kernel
theorem dX0_take_34 : decode cX0_take 34 = .ok (.istore_n 3, 1) := by decide +kernel
theorem dX0_take_35 : decode cX0_take 35 = .ok (.aload_n 0, 1) := by decide +kernel
theorem dX0_take_36 : decode cX0_take 36 = .ok (.aload_n 0, 1) := by decide +kernel
theorem dX0_take_37 : decode cX0_take 37 = .ok (.getfield 28, 3) := by decide +kernel
theorem dX0_take_40 : decode cX0_take 40 = .ok (.ifCond .ne 13, 3) := by decide +kernel
theorem dX0_take_43 : decode cX0_take 43 = .ok (.aload_n 0, 1) := by decide +kernel
theorem dX0_take_44 : decode cX0_take 44 = .ok (.getfield 12, 3) := by decide +kernel
theorem dX0_take_47 : decode cX0_take 47 = .ok (.getfield 46, 3) := by decide +kernel
theorem dX0_take_50 : decode cX0_take 50 = .ok (.goto 15, 3) := by decide +kernel
theorem dX0_take_53 : decode cX0_take 53 = .ok (.aload_n 0, 1) := by decide +kernel
theorem dX0_take_54 : decode cX0_take 54 = .ok (.getfield 31, 3) := by decide +kernel
theorem dX0_take_57 : decode cX0_take 57 = .ok (.aload_n 0, 1) := by decide +kernel
theorem dX0_take_58 : decode cX0_take 58 = .ok (.getfield 12, 3) := by decide +kernel
theorem dX0_take_61 : decode cX0_take 61 = .ok (.getfield 46, 3) := by decide +kernel
theorem dX0_take_64 : decode cX0_take 64 = .ok (.iand, 1) := by decide +kernel
theorem dX0_take_65 : decode cX0_take 65 = .ok (.putfield 31, 3) := by decide +kernel
theorem dX0_take_68 : decode cX0_take 68 = .ok (.aload_n 0, 1) := by decide +kernel
theorem dX0_take_69 : decode cX0_take 69 = .ok (.getfield 28, 3) := by decide +kernel
theorem dX0_take_72 : decode cX0_take 72 = .ok (.ifCond .eq 12, 3) := by decide +kernel
theorem dX0_take_75 : decode cX0_take 75 = .ok (.aload_n 0, 1) := by decide +kernel
theorem dX0_take_76 : decode cX0_take 76 = .ok (.iload_n 2, 1) := by decide +kernel
theorem dX0_take_77 : decode cX0_take 77 = .ok (.iload_n 3, 1) := by decide +kernel
theorem dX0_take_78 : decode cX0_take 78 = .ok (.invokevirtual 49, 3) := by decide +kernel
theorem dX0_take_81 : decode cX0_take 81 = .ok (.ifCond .eq 24, 3) := by decide +kernel
theorem dX0_take_84 : decode cX0_take 84 = .ok (.aload_n 0, 1) := by decide +kernel
theorem dX0_take_85 : decode cX0_take 85 = .ok (.getfield 18, 3) := by decide +kernel
theorem dX0_take_88 : decode cX0_take 88 = .ok (.aload_n 0, 1) := by decide +kernel
theorem dX0_take_89 : decode cX0_take 89 = .ok (.getfield 12, 3) := by decide +kernel
theorem dX0_take_92 : decode cX0_take 92 = .ok (.invokevirtual 53, 3) := by decide +kernel
theorem dX0_take_95 : decode cX0_take 95 = .ok (.aload_n 0, 1) := by decide +kernel
theorem dX0_take_96 : decode cX0_take 96 = .ok (.iload_n 2, 1) := by decide +kernel
theorem dX0_take_97 : decode cX0_take 97 = .ok (.putfield 57, 3) := by decide +kernel
theorem dX0_take_100 : decode cX0_take 100 = .ok (.aload_n 0, 1) := by decide +kernel
theorem dX0_take_101 : decode cX0_take 101 = .ok (.iload_n 3, 1) := by decide +kernel
theorem dX0_take_102 : decode cX0_take 102 = .ok (.putfield 60, 3) := by decide +kernel
theorem dX0_take_105 : decode cX0_take 105 = .ok (.aload_n 0, 1) := by decide +kernel
theorem dX0_take_106 : decode cX0_take 106 = .ok (.dup, 1) := by decide +kernel
theorem dX0_take_107 : decode cX0_take 107 = .ok (.getfield 28, 3) := by decide +kernel
theorem dX0_take_110 : decode cX0_take 110 = .ok (.iconst 1, 1) := by decide +kernel
theorem dX0_take_111 : decode cX0_take 111 = .ok (.iadd, 1) := by decide +kernel
theorem dX0_take_112 : decode cX0_take 112 = .ok (.putfield 28, 3) := by decide +kernel
theorem dX0_take_115 : decode cX0_take 115 = .ok (.return_, 1) := by decide +kernel
theorem dX0_isBetter_0 : decode cX0_isBetter 0 = .ok (.aload_n 0, 1) := by decide +kernel
theorem dX0_isBetter_1 : decode cX0_isBetter 1 = .ok (.getfield 21, 3) := by decide +kernel
theorem dX0_isBetter_4 : decode cX0_isBetter 4 = .ok (.ifCond .ne 17, 3) := by decide +kernel
theorem dX0_isBetter_7 : decode cX0_isBetter 7 = .ok (.iload_n 1, 1) := by decide +kernel
theorem dX0_isBetter_8 : decode cX0_isBetter 8 = .ok (.aload_n 0, 1) := by decide +kernel
theorem dX0_isBetter_9 : decode cX0_isBetter 9 = .ok (.getfield 57, 3) := by decide +kernel
theorem dX0_isBetter_12 : decode cX0_isBetter 12 = .ok (.if_icmp .ge 7, 3) := by decide +kernel
theorem dX0_isBetter_15 : decode cX0_isBetter 15 = .ok (.iconst 1, 1) := by decide +kernel
theorem dX0_isBetter_16 : decode cX0_isBetter 16 = .ok (.goto 4, 3) := by decide +kernel
theorem dX0_isBetter_19 : decode cX0_isBetter 19 = .ok (.iconst 0, 1) := by decide +kernel
theorem dX0_isBetter_20 : decode cX0_isBetter 20 = .ok (.ireturn, 1) := by decide +kernel
theorem dX0_isBetter_21 : decode cX0_isBetter 21 = .ok (.aload_n 0, 1) := by decide +kernel
theorem dX0_isBetter_22 : decode cX0_isBetter 22 = .ok (.getfield 21, 3) := by decide +kernel
theorem dX0_isBetter_25 : decode cX0_isBetter 25 = .ok (.iconst 1, 1) := by decide +kernel
theorem dX0_isBetter_26 : decode cX0_isBetter 26 = .ok (.if_icmp .ne 33, 3) := by decide +kernel
theorem dX0_isBetter_29 : decode cX0_isBetter 29 = .ok (.iload_n 2, 1) := by decide +kernel
theorem dX0_isBetter_30 : decode cX0_isBetter 30 = .ok (.aload_n 0, 1) := by decide +kernel
theorem dX0_isBetter_31 : decode cX0_isBetter 31 = .ok (.getfield 60, 3) := by decide +kernel
theorem dX0_isBetter_34 : decode cX0_isBetter 34 = .ok (.if_icmp .gt 19, 3) := by decide +kernel
theorem dX0_isBetter_37 : decode cX0_isBetter 37 = .ok (.iload_n 2, 1) := by decide +kernel
theorem dX0_isBetter_38 : decode cX0_isBetter 38 = .ok (.aload_n 0, 1) := by decide +kernel
theorem dX0_isBetter_39 : decode cX0_isBetter 39 = .ok (.getfield 60, 3) := by decide +kernel
theorem dX0_isBetter_42 : decode cX0_isBetter 42 = .ok (.if_icmp .ne 15, 3) := by decide +kernel
theorem dX0_isBetter_45 : decode cX0_isBetter 45 = .ok (.iload_n 1, 1) := by decide +kernel
theorem dX0_isBetter_46 : decode cX0_isBetter 46 = .ok (.aload_n 0, 1) := by decide +kernel
theorem dX0_isBetter_47 : decode cX0_isBetter 47 = .ok (.getfield 57, 3) := by decide +kernel
theorem dX0_isBetter_50 : decode cX0_isBetter 50 = .ok (.if_icmp .ge 7, 3) := by decide +kernel
theorem dX0_isBetter_53 : decode cX0_isBetter 53 = .ok (.iconst 1, 1) := by decide +kernel
theorem dX0_isBetter_54 : decode cX0_isBetter 54 = .ok (.goto 4, 3) := by decide +kernel
theorem dX0_isBetter_57 : decode cX0_isBetter 57 = .ok (.iconst 0, 1) := by decide +kernel
theorem dX0_isBetter_58 : decode cX0_isBetter 58 = .ok (.ireturn, 1) := by decide +kernel
theorem dX0_isBetter_59 : decode cX0_isBetter 59 = .ok (.aload_n 0, 1) := by decide +kernel
theorem dX0_isBetter_60 : decode cX0_isBetter 60 = .ok (.getfield 12, 3) := by decide +kernel
theorem dX0_isBetter_63 : decode cX0_isBetter 63 = .ok (.getfield 63, 3) := by decide +kernel
theorem dX0_isBetter_66 : decode cX0_isBetter 66 = .ok (.aload_n 0, 1) := by decide +kernel
theorem dX0_isBetter_67 : decode cX0_isBetter 67 = .ok (.getfield 18, 3) := by decide +kernel
theorem dX0_isBetter_70 : decode cX0_isBetter 70 = .ok (.getfield 63, 3) := by decide +kernel
theorem dX0_isBetter_73 : decode cX0_isBetter 73 = .ok (.if_icmp .gt 28, 3) := by decide +kernel
theorem dX0_isBetter_76 : decode cX0_isBetter 76 = .ok (.aload_n 0, 1) := by decide +kernel
theorem dX0_isBetter_77 : decode cX0_isBetter 77 = .ok (.getfield 12, 3) := by decide +kernel
theorem dX0_isBetter_80 : decode cX0_isBetter 80 = .ok (.getfield 63, 3) := by decide +kernel
theorem dX0_isBetter_83 : decode cX0_isBetter 83 = .ok (.aload_n 0, 1) := by decide +kernel
theorem dX0_isBetter_84 : decode cX0_isBetter 84 = .ok (.getfield 18, 3) := by decide +kernel
theorem dX0_isBetter_87 : decode cX0_isBetter 87 = .ok (.getfield 63, 3) := by decide +kernel
theorem dX0_isBetter_90 : decode cX0_isBetter 90 = .ok (.if_icmp .ne 15, 3) := by decide +kernel
theorem dX0_isBetter_93 : decode cX0_isBetter 93 = .ok (.iload_n 1, 1) := by decide +kernel
theorem dX0_isBetter_94 : decode cX0_isBetter 94 = .ok (.aload_n 0, 1) := by decide +kernel
theorem dX0_isBetter_95 : decode cX0_isBetter 95 = .ok (.getfield 57, 3) := by decide +kernel
theorem dX0_isBetter_98 : decode cX0_isBetter 98 = .ok (.if_icmp .le 7, 3) := by decide +kernel
theorem dX0_isBetter_101 : decode cX0_isBetter 101 = .ok (.iconst 1, 1) := by decide +kernel
theorem dX0_isBetter_102 : decode cX0_isBetter 102 = .ok (.goto 4, 3) := by decide +kernel
theorem dX0_isBetter_105 : decode cX0_isBetter 105 = .ok (.iconst 0, 1) := by decide +kernel
theorem dX0_isBetter_106 : decode cX0_isBetter 106 = .ok (.ireturn, 1) := by decide +kernel
theorem dX1_init_0 : decode cX1_init 0 = .ok (.aload_n 0, 1) := by decide +kernel
theorem dX1_init_1 : decode cX1_init 1 = .ok (.invokespecial 3, 3) := by decide +kernel
theorem dX1_init_4 : decode cX1_init 4 = .ok (.aload_n 0, 1) := by decide +kernel
theorem dX1_init_5 : decode cX1_init 5 = .ok (.bipush 64, 2) := by decide +kernel
theorem dX1_init_7 : decode cX1_init 7 = .ok (.newarray .char, 2) := by decide +kernel
theorem dX1_init_9 : decode cX1_init 9 = .ok (.putfield 9, 3) := by decide +kernel
theorem dX1_init_12 : decode cX1_init 12 = .ok (.return_, 1) := by decide +kernel
theorem dX1_isFull_0 : decode cX1_isFull 0 = .ok (.aload_n 0, 1) := by decide +kernel
theorem dX1_isFull_1 : decode cX1_isFull 1 = .ok (.getfield 15, 3) := by decide +kernel
theorem dX1_isFull_4 : decode cX1_isFull 4 = .ok (.bipush 64, 2) := by decide +kernel
theorem dX1_isFull_6 : decode cX1_isFull 6 = .ok (.if_icmp .lt 7, 3) := by decide +kernel
theorem dX1_isFull_9 : decode cX1_isFull 9 = .ok (.iconst 1, 1) := by decide +kernel
theorem dX1_isFull_10 : decode cX1_isFull 10 = .ok (.goto 4, 3) := by decide +kernel
theorem dX1_isFull_13 : decode cX1_isFull 13 = .ok (.iconst 0, 1) := by decide +kernel
theorem dX1_isFull_14 : decode cX1_isFull 14 = .ok (.ireturn, 1) := by decide +kernel
theorem dX1_put_0 : decode cX1_put 0 = .ok (.aload_n 0, 1) := by decide +kernel
theorem dX1_put_1 : decode cX1_put 1 = .ok (.getfield 15, 3) := by decide +kernel
theorem dX1_put_4 : decode cX1_put 4 = .ok (.bipush 64, 2) := by decide +kernel
theorem dX1_put_6 : decode cX1_put 6 = .ok (.if_icmp .ge 23, 3) := by decide +kernel
theorem dX1_put_9 : decode cX1_put 9 = .ok (.aload_n 0, 1) := by decide +kernel
theorem dX1_put_10 : decode cX1_put 10 = .ok (.getfield 9, 3) := by decide +kernel
theorem dX1_put_13 : decode cX1_put 13 = .ok (.aload_n 0, 1) := by decide +kernel
theorem dX1_put_14 : decode cX1_put 14 = .ok (.getfield 15, 3) := by decide +kernel
theorem dX1_put_17 : decode cX1_put 17 = .ok (.iload_n 1, 1) := by decide +kernel
theorem dX1_put_18 : decode cX1_put 18 = .ok (.castore, 1) := by decide +kernel
theorem dX1_put_19 : decode cX1_put 19 = .ok (.aload_n 0, 1) := by decide +kernel
theorem dX1_put_20 : decode cX1_put 20 = .ok (.dup, 1) := by decide +kernel
theorem dX1_put_21 : decode cX1_put 21 = .ok (.getfield 15, 3) := by decide +kernel
theorem dX1_put_24 : decode cX1_put 24 = .ok (.iconst 1, 1) := by decide +kernel
theorem dX1_put_25 : decode cX1_put 25 = .ok (.iadd, 1) := by decide +kernel
theorem dX1_put_26 : decode cX1_put 26 = .ok (.putfield 15, 3) := by decide +kernel
theorem dX1_put_29 : decode cX1_put 29 = .ok (.aload_n 0, 1) := by decide +kernel
theorem dX1_put_30 : decode cX1_put 30 = .ok (.getfield 15, 3) := by decide +kernel
theorem dX1_put_33 : decode cX1_put 33 = .ok (.ireturn, 1) := by decide +kernel
theorem dX1_forget_0 : decode cX1_forget 0 = .ok (.aload_n 0, 1) := by decide +kernel
theorem dX1_forget_1 : decode cX1_forget 1 = .ok (.iconst 0, 1) := by decide +kernel
theorem dX1_forget_2 : decode cX1_forget 2 = .ok (.putfield 15, 3) := by decide +kernel
theorem dX1_forget_5 : decode cX1_forget 5 = .ok (.return_, 1) := by decide +kernel
set_option maxRecDepth 20000 in
theorem ggX1_readInto_X1_readStatement : GoodIn wsX1_readInto wsX1_readStatement := goodIn_r _ [8, 9, 10, 11, 7, 12, 2, 1, 13, 14, 15, 16, 3, 17, 18, 19, 20, 21, 22, 23, 24, 25, 26, 27, 28, 29, 30, 31, 32, 33, 34, 35, 36, 37, 38, 39, 40, 41, 42, 43, 44, 45, 46, 47, 48, 49, 50, 51, 52, 53, 54, 55, 56, 57, 58, 59, 60, 61, 62, 63, 64, 65, 66, 67, 68, 69, 70, 71, 72, 73, 74, 75, 76, 77, 78, 79, 80, 81, 82, 83, 84, 85, 86, 87, 88, 89, 90, 91, 92, 93, 94, 95, 96, 97, 98, 99, 100, 101, 102, 103, 104, 105, 106, 107, 108, 109, 110, 111, 112, 113, 114, 115, 116, 117, 118, 119, 120, 121, 122, 123, 124, 125, 126, 127, 128, 129, 130, 131, 132, 133, 134, 135, 136, 137, 138, 139, 140, 141, 142, 143, 144, 145, 146, 147, 148, 149, 150, 151, 152, 153, 154, 155, 156, 157, 158, 159, 160, 161, 162, 163, 164, 165, 166, 167, 168, 169] (by decide +kernel) (by decide +kernel)
set_option maxRecDepth 20000 in
theorem gX1_readInto_X1_readStatement : GoodIn wsX1_readInto (wsV RX1 26 RX1 yX1_readStatement wsX1_readStatement) := goodIn_app (goodIn_of _ (by decide +kernel)) ggX1_readInto_X1_readStatement
theorem dX1_readInto_0 : decode cX1_readInto 0 = .ok (.aload_n 0, 1) := by decide +kernel
theorem dX1_readInto_1 : decode cX1_readInto 1 = .ok (.iconst 0, 1) := by decide +kernel
theorem dX1_readInto_2 : decode cX1_readInto 2 = .ok (.putfield 19, 3) := by decide +kernel
theorem dX1_readInto_5 : decode cX1_readInto 5 = .ok (.aload_n 0, 1) := by decide +kernel
theorem dX1_readInto_6 : decode cX1_readInto 6 = .ok (.iconst 0, 1) := by decide +kernel
theorem dX1_readInto_7 : decode cX1_readInto 7 = .ok (.putfield 22, 3) := by decide +kernel
theorem dX1_readInto_10 : decode cX1_readInto 10 = .ok (.iconst (-1), 1) := by decide +kernel
theorem dX1_readInto_11 : decode cX1_readInto 11 = .ok (.istore_n 2, 1) := by decide +kernel
theorem dX1_readInto_12 : decode cX1_readInto 12 = .ok (.iconst 0, 1) := by decide +kernel
theorem dX1_readInto_13 : decode cX1_readInto 13 = .ok (.istore_n 3, 1) := by decide +kernel
theorem dX1_readInto_14 : decode cX1_readInto 14 = .ok (.aload_n 0, 1) := by decide +kernel
theorem dX1_readInto_15 : decode cX1_readInto 15 = .ok (.getfield 19, 3) := by decide +kernel
theorem dX1_readInto_18 : decode cX1_readInto 18 = .ok (.istore 4, 2) := by decide +kernel
theorem dX1_readInto_20 : decode cX1_readInto 20 = .ok (.aload_n 0, 1) := by decide +kernel
theorem dX1_readInto_21 : decode cX1_readInto 21 = .ok (.aload_n 1, 1) := by decide +kernel
theorem dX1_readInto_22 : decode cX1_readInto 22 = .ok (.invokevirtual 26, 3) := by decide +kernel
theorem dX1_readInto_25 : decode cX1_readInto 25 = .ok (.istore 5, 2) := by decide +kernel
theorem dX1_readInto_27 : decode cX1_readInto 27 = .ok (.iload 5, 2) := by decide +kernel
theorem dX1_readInto_29 : decode cX1_readInto 29 = .ok (.ifCond .ne 10, 3) := by decide +kernel
theorem dX1_readInto_32 : decode cX1_readInto 32 = .ok (.iload_n 2, 1) := by decide +kernel
theorem dX1_readInto_33 : decode cX1_readInto 33 = .ok (.ifCond .ge 6, 3) := by decide +kernel
theorem dX1_readInto_36 : decode cX1_readInto 36 = .ok (.iload 4, 2) := by decide +kernel
theorem dX1_readInto_38 : decode cX1_readInto 38 = .ok (.istore_n 2, 1) := by decide +kernel
theorem dX1_readInto_39 : decode cX1_readInto 39 = .ok (.iinc 3 1, 3) := by decide +kernel
theorem dX1_readInto_42 : decode cX1_readInto 42 = .ok (.aload_n 0, 1) := by decide +kernel
theorem dX1_readInto_43 : decode cX1_readInto 43 = .ok (.getfield 22, 3) := by decide +kernel
theorem dX1_readInto_46 : decode cX1_readInto 46 = .ok (.ifCond .ne 20, 3) := by decide +kernel
theorem dX1_readInto_49 : decode cX1_readInto 49 = .ok (.aload_n 0, 1) := by decide +kernel
theorem dX1_readInto_50 : decode cX1_readInto 50 = .ok (.getfield 19, 3) := by decide +kernel
theorem dX1_readInto_53 : decode cX1_readInto 53 = .ok (.aload_n 0, 1) := by decide +kernel
theorem dX1_readInto_54 : decode cX1_readInto 54 = .ok (.getfield 15, 3) := by decide +kernel
theorem dX1_readInto_57 : decode cX1_readInto 57 = .ok (.if_icmp .ge 9, 3) := by decide +kernel
theorem dX1_readInto_60 : decode cX1_readInto 60 = .ok (.iload_n 3, 1) := by decide +kernel
theorem dX1_readInto_61 : decode cX1_readInto 61 = .ok (.bipush 64, 2) := by decide +kernel
theorem dX1_readInto_63 : decode cX1_readInto 63 = .ok (.if_icmp .lt (-49), 3) := by decide +kernel
theorem dX1_readInto_66 : decode cX1_readInto 66 = .ok (.aload_n 0, 1) := by decide +kernel
theorem dX1_readInto_67 : decode cX1_readInto 67 = .ok (.getfield 22, 3) := by decide +kernel
theorem dX1_readInto_70 : decode cX1_readInto 70 = .ok (.ifCond .eq 12, 3) := by decide +kernel
theorem dX1_readInto_73 : decode cX1_readInto 73 = .ok (.sipush (-1000), 3) := by decide +kernel
theorem dX1_readInto_76 : decode cX1_readInto 76 = .ok (.aload_n 0, 1) := by decide +kernel
theorem dX1_readInto_77 : decode cX1_readInto 77 = .ok (.getfield 19, 3) := by decide +kernel
theorem dX1_readInto_80 : decode cX1_readInto 80 = .ok (.isub, 1) := by decide +kernel
theorem dX1_readInto_81 : decode cX1_readInto 81 = .ok (.ireturn, 1) := by decide +kernel
theorem dX1_readInto_82 : decode cX1_readInto 82 = .ok (.iload_n 2, 1) := by decide +kernel
theorem dX1_readInto_83 : decode cX1_readInto 83 = .ok (.ifCond .lt 11, 3) := by decide +kernel
theorem dX1_readInto_86 : decode cX1_readInto 86 = .ok (.sipush (-2000), 3) := by decide +kernel
theorem dX1_readInto_89 : decode cX1_readInto 89 = .ok (.iload_n 2, 1) := by decide +kernel
theorem dX1_readInto_90 : decode cX1_readInto 90 = .ok (.isub, 1) := by decide +kernel
theorem dX1_readInto_91 : decode cX1_readInto 91 = .ok (.goto 4, 3) := by decide +kernel
theorem dX1_readInto_94 : decode cX1_readInto 94 = .ok (.iload_n 3, 1) := by decide +kernel
theorem dX1_readInto_95 : decode cX1_readInto 95 = .ok (.ireturn, 1) := by decide +kernel
set_option maxRecDepth 20000 in
theorem ggX1_readStatement_X1_oneOf : GoodIn wsX1_readStatement wsX1_oneOf := goodIn_r _ [5, 6, 7, 8, 9, 10, 4, 11, 12, 13, 14, 15, 16, 17, 18, 19, 20, 21, 22, 23, 24, 25, 26, 27, 28, 29, 30, 31, 32, 33, 34, 35, 36, 37, 38, 39, 40, 41, 42, 43, 44, 45, 46, 47, 48, 49, 50, 51, 52, 53, 54, 55, 56, 57, 58, 59, 60, 61, 62, 63, 64, 65, 66, 67, 68, 69, 70, 71, 72, 73, 74, 75, 76, 77, 78, 79, 80, 81, 82, 83, 84, 85, 86, 87, 88, 89, 90, 91, 92, 93, 94, 95, 96, 97, 98, 99, 100, 101, 102, 149, 150, 151, 152] (by decide +kernel) (by decide +kernel)
set_option maxRecDepth 20000 in
theorem gX1_readStatement_X1_oneOf : GoodIn wsX1_readStatement (wsV RX1 32 RX1 yX1_oneOf wsX1_oneOf) := goodIn_app (goodIn_of _ (by decide +kernel)) ggX1_readStatement_X1_oneOf
set_option maxRecDepth 20000 in
theorem ggX1_readStatement_X1_readPerson : GoodIn wsX1_readStatement wsX1_readPerson := goodIn_r _ [106, 6, 1, 2, 3, 4, 5, 7, 8, 9, 10, 11, 12, 13, 14, 15, 16, 17, 18, 19, 20, 21, 22, 23, 24, 25, 26, 27, 28, 29, 30, 31, 32, 33, 34, 35, 36, 37, 38, 39, 40, 41, 42, 43, 44, 45, 46, 47, 48, 49, 50, 51, 52, 53, 54, 55, 56, 57, 58, 59, 60, 61, 62, 63, 64, 65, 66, 67, 68, 69, 70, 71, 72, 73, 74, 75, 76, 77, 78, 79, 80, 81, 82, 83, 84, 85, 86, 87, 88, 89, 90, 91, 92, 93, 94, 95, 96, 97, 98, 99, 100, 101, 102, 107, 108, 109, 110, 111, 112, 113, 114, 115, 116, 117, 118, 119, 120, 121, 122, 123, 124, 149, 150, 151, 152, 153, 154, 155, 156, 157, 158, 159, 160, 161, 162, 163, 164, 165] (by decide +kernel) (by decide +kernel)
set_option maxRecDepth 20000 in
theorem gX1_readStatement_X1_readPerson : GoodIn wsX1_readStatement (wsV RX1 36 RX1 yX1_readPerson wsX1_readPerson) := goodIn_app (goodIn_of _ (by decide +kernel)) ggX1_readStatement_X1_readPerson
set_option maxRecDepth 20000 in
theorem ggX1_readStatement_X1_readMinutes : GoodIn wsX1_readStatement wsX1_readMinutes := goodIn_r _ [128, 6, 107, 108, 109, 4, 110, 1, 2, 3, 5, 7, 8, 9, 10, 11, 12, 13, 14, 15, 16, 17, 18, 19, 20, 21, 22, 23, 24, 25, 26, 27, 28, 29, 30, 31, 32, 33, 34, 35, 36, 37, 38, 39, 40, 41, 42, 43, 44, 45, 46, 47, 48, 49, 50, 51, 52, 53, 54, 55, 56, 57, 58, 59, 60, 61, 62, 63, 64, 65, 66, 67, 68, 69, 70, 71, 72, 73, 74, 75, 76, 77, 78, 79, 80, 81, 82, 83, 84, 85, 86, 87, 88, 89, 90, 91, 92, 93, 94, 95, 96, 97, 98, 99, 100, 101, 102, 129, 130, 131, 114, 132, 133, 134, 135, 136, 137, 138, 139, 116, 122, 123, 124, 149, 150, 151, 152, 153, 154, 155, 156, 157, 158, 159, 160, 161, 162, 163, 164, 165] (by decide +kernel) (by decide +kernel)
set_option maxRecDepth 20000 in
theorem gX1_readStatement_X1_readMinutes : GoodIn wsX1_readStatement (wsV RX1 39 RX1 yX1_readMinutes wsX1_readMinutes) := goodIn_app (goodIn_of _ (by decide +kernel)) ggX1_readStatement_X1_readMinutes
set_option maxRecDepth 20000 in
theorem ggX1_readStatement_X1_readLaw : GoodIn wsX1_readStatement wsX1_readLaw := goodIn_r _ [143, 6, 107, 108, 109, 4, 110, 1, 2, 3, 5, 7, 8, 9, 10, 11, 12, 13, 14, 15, 16, 17, 18, 19, 20, 21, 22, 23, 24, 25, 26, 27, 28, 29, 30, 31, 32, 33, 34, 35, 36, 37, 38, 39, 40, 41, 42, 43, 44, 45, 46, 47, 48, 49, 50, 51, 52, 53, 54, 55, 56, 57, 58, 59, 60, 61, 62, 63, 64, 65, 66, 67, 68, 69, 70, 71, 72, 73, 74, 75, 76, 77, 78, 79, 80, 81, 82, 83, 84, 85, 86, 87, 88, 89, 90, 91, 92, 93, 94, 95, 96, 97, 98, 99, 100, 101, 102, 144, 145, 146, 114, 147, 148, 149, 150, 151, 152, 153, 154, 155, 156, 157, 158, 159, 160, 161, 162, 163, 164, 165] (by decide +kernel) (by decide +kernel)
set_option maxRecDepth 20000 in
theorem gX1_readStatement_X1_readLaw : GoodIn wsX1_readStatement (wsV RX1 43 RX1 yX1_readLaw wsX1_readLaw) := goodIn_app (goodIn_of _ (by decide +kernel)) ggX1_readStatement_X1_readLaw
theorem dX1_readStatement_0 : decode cX1_readStatement 0 = .ok (.aload_n 0, 1) := by decide +kernel
theorem dX1_readStatement_1 : decode cX1_readStatement 1 = .ok (.ldc 30, 2) := by decide +kernel
theorem dX1_readStatement_3 : decode cX1_readStatement 3 = .ok (.invokevirtual 32, 3) := by decide +kernel
theorem dX1_readStatement_6 : decode cX1_readStatement 6 = .ok (.tableswitch 56 0 3 #[30, 36, 43, 50], 30) := by decide +kernel
theorem dX1_readStatement_36 : decode cX1_readStatement 36 = .ok (.aload_n 0, 1) := by decide +kernel
theorem dX1_readStatement_37 : decode cX1_readStatement 37 = .ok (.aload_n 1, 1) := by decide +kernel
theorem dX1_readStatement_38 : decode cX1_readStatement 38 = .ok (.invokevirtual 36, 3) := by decide +kernel
theorem dX1_readStatement_41 : decode cX1_readStatement 41 = .ok (.ireturn, 1) := by decide +kernel
theorem dX1_readStatement_42 : decode cX1_readStatement 42 = .ok (.aload_n 0, 1) := by decide +kernel
theorem dX1_readStatement_43 : decode cX1_readStatement 43 = .ok (.aload_n 1, 1) := by decide +kernel
theorem dX1_readStatement_44 : decode cX1_readStatement 44 = .ok (.iconst 0, 1) := by decide +kernel
theorem dX1_readStatement_45 : decode cX1_readStatement 45 = .ok (.invokevirtual 39, 3) := by decide +kernel
theorem dX1_readStatement_48 : decode cX1_readStatement 48 = .ok (.ireturn, 1) := by decide +kernel
theorem dX1_readStatement_49 : decode cX1_readStatement 49 = .ok (.aload_n 0, 1) := by decide +kernel
theorem dX1_readStatement_50 : decode cX1_readStatement 50 = .ok (.aload_n 1, 1) := by decide +kernel
theorem dX1_readStatement_51 : decode cX1_readStatement 51 = .ok (.iconst 1, 1) := by decide +kernel
theorem dX1_readStatement_52 : decode cX1_readStatement 52 = .ok (.invokevirtual 39, 3) := by decide +kernel
theorem dX1_readStatement_55 : decode cX1_readStatement 55 = .ok (.ireturn, 1) := by decide +kernel
theorem dX1_readStatement_56 : decode cX1_readStatement 56 = .ok (.aload_n 0, 1) := by decide +kernel
theorem dX1_readStatement_57 : decode cX1_readStatement 57 = .ok (.aload_n 1, 1) := by decide +kernel
theorem dX1_readStatement_58 : decode cX1_readStatement 58 = .ok (.invokevirtual 43, 3) := by decide +kernel
theorem dX1_readStatement_61 : decode cX1_readStatement 61 = .ok (.ireturn, 1) := by decide +kernel
theorem dX1_readStatement_62 : decode cX1_readStatement 62 = .ok (.iconst 0, 1) := by decide +kernel
theorem dX1_readStatement_63 : decode cX1_readStatement 63 = .ok (.ireturn, 1) := by decide +kernel
set_option maxRecDepth 20000 in
theorem ggX1_readPerson_X1_oneOf : GoodIn wsX1_readPerson wsX1_oneOf := goodIn_r _ [6, 1, 7, 8, 9, 10, 5, 11, 12, 13, 14, 15, 16, 17, 18, 19, 20, 21, 22, 23, 24, 25, 26, 27, 28, 29, 30, 31, 32, 33, 34, 35, 36, 37, 38, 39, 40, 41, 42, 43, 44, 45, 46, 47, 48, 49, 50, 51, 52, 53, 54, 55, 56, 57, 58, 59, 60, 61, 62, 63, 64, 65, 66, 67, 68, 69, 70, 71, 72, 73, 74, 75, 76, 77, 78, 79, 80, 81, 82, 83, 84, 85, 86, 87, 88, 89, 90, 91, 92, 93, 94, 95, 96, 97, 98, 99, 100, 101, 102, 121, 122, 123, 124] (by decide +kernel) (by decide +kernel)
set_option maxRecDepth 20000 in
theorem gX1_readPerson_X1_oneOf : GoodIn wsX1_readPerson (wsV RX1 32 RX1 yX1_oneOf wsX1_oneOf) := goodIn_app (goodIn_of _ (by decide +kernel)) ggX1_readPerson_X1_oneOf
set_option maxRecDepth 20000 in
theorem ggX1_readPerson_X1_number : GoodIn wsX1_readPerson wsX1_number := goodIn_r _ [106, 2, 3, 4, 5, 6, 1, 7, 8, 9, 10, 11, 12, 13, 14, 15, 16, 17, 18, 19, 20, 21, 22, 23, 24, 25, 26, 27, 28, 29, 30, 31, 32, 33, 34, 35, 36, 37, 38, 39, 40, 41, 42, 43, 44, 45, 46, 47, 48, 49, 50, 51, 52, 53, 54, 55, 56, 57, 58, 59, 60, 61, 62, 63, 64, 65, 66, 67, 68, 69, 70, 71, 72, 73, 74, 75, 76, 77, 78, 79, 80, 81, 82, 83, 84, 85, 86, 87, 88, 89, 90, 91, 92, 93, 94, 95, 96, 97, 98, 99, 100, 101, 102, 121, 122, 123, 124] (by decide +kernel) (by decide +kernel)
set_option maxRecDepth 20000 in
theorem gX1_readPerson_X1_number : GoodIn wsX1_readPerson (wsV RX1 50 RX1 yX1_number wsX1_number) := goodIn_app (goodIn_of _ (by decide +kernel)) ggX1_readPerson_X1_number
set_option maxRecDepth 20000 in
theorem ggX1_readPerson_X3_addPerson : GoodIn wsX1_readPerson wsX3_addPerson := goodIn_r _ [111, 112, 113, 114, 115, 116, 117, 118, 119, 120, 125, 126, 127, 128, 129, 130, 131, 132, 133, 134, 135, 136, 137] (by decide +kernel) (by decide +kernel)
set_option maxRecDepth 20000 in
theorem gX1_readPerson_X3_addPerson : GoodIn wsX1_readPerson (wsV RX1 58 RX3 yX3_addPerson wsX3_addPerson) := goodIn_app (goodIn_of _ (by decide +kernel)) ggX1_readPerson_X3_addPerson
theorem dX1_readPerson_0 : decode cX1_readPerson 0 = .ok (.aload_n 0, 1) := by decide +kernel
theorem dX1_readPerson_1 : decode cX1_readPerson 1 = .ok (.ldc 46, 2) := by decide +kernel
theorem dX1_readPerson_3 : decode cX1_readPerson 3 = .ok (.invokevirtual 32, 3) := by decide +kernel
theorem dX1_readPerson_6 : decode cX1_readPerson 6 = .ok (.istore_n 2, 1) := by decide +kernel
theorem dX1_readPerson_7 : decode cX1_readPerson 7 = .ok (.aload_n 0, 1) := by decide +kernel
theorem dX1_readPerson_8 : decode cX1_readPerson 8 = .ok (.ldc 48, 2) := by decide +kernel
theorem dX1_readPerson_10 : decode cX1_readPerson 10 = .ok (.invokevirtual 32, 3) := by decide +kernel
theorem dX1_readPerson_13 : decode cX1_readPerson 13 = .ok (.istore_n 3, 1) := by decide +kernel
theorem dX1_readPerson_14 : decode cX1_readPerson 14 = .ok (.aload_n 0, 1) := by decide +kernel
theorem dX1_readPerson_15 : decode cX1_readPerson 15 = .ok (.iconst 3, 1) := by decide +kernel
theorem dX1_readPerson_16 : decode cX1_readPerson 16 = .ok (.invokevirtual 50, 3) := by decide +kernel
theorem dX1_readPerson_19 : decode cX1_readPerson 19 = .ok (.istore 4, 2) := by decide +kernel
theorem dX1_readPerson_21 : decode cX1_readPerson 21 = .ok (.aload_n 0, 1) := by decide +kernel
theorem dX1_readPerson_22 : decode cX1_readPerson 22 = .ok (.ldc 54, 2) := by decide +kernel
theorem dX1_readPerson_24 : decode cX1_readPerson 24 = .ok (.invokevirtual 32, 3) := by decide +kernel
theorem dX1_readPerson_27 : decode cX1_readPerson 27 = .ok (.pop, 1) := by decide +kernel
theorem dX1_readPerson_28 : decode cX1_readPerson 28 = .ok (.aload_n 0, 1) := by decide +kernel
theorem dX1_readPerson_29 : decode cX1_readPerson 29 = .ok (.iconst 1, 1) := by decide +kernel
theorem dX1_readPerson_30 : decode cX1_readPerson 30 = .ok (.invokevirtual 50, 3) := by decide +kernel
theorem dX1_readPerson_33 : decode cX1_readPerson 33 = .ok (.istore 5, 2) := by decide +kernel
theorem dX1_readPerson_35 : decode cX1_readPerson 35 = .ok (.aload_n 0, 1) := by decide +kernel
theorem dX1_readPerson_36 : decode cX1_readPerson 36 = .ok (.ldc 56, 2) := by decide +kernel
theorem dX1_readPerson_38 : decode cX1_readPerson 38 = .ok (.invokevirtual 32, 3) := by decide +kernel
theorem dX1_readPerson_41 : decode cX1_readPerson 41 = .ok (.pop, 1) := by decide +kernel
theorem dX1_readPerson_42 : decode cX1_readPerson 42 = .ok (.aload_n 0, 1) := by decide +kernel
theorem dX1_readPerson_43 : decode cX1_readPerson 43 = .ok (.getfield 22, 3) := by decide +kernel
theorem dX1_readPerson_46 : decode cX1_readPerson 46 = .ok (.ifCond .ne 20, 3) := by decide +kernel
theorem dX1_readPerson_49 : decode cX1_readPerson 49 = .ok (.aload_n 1, 1) := by decide +kernel
theorem dX1_readPerson_50 : decode cX1_readPerson 50 = .ok (.iload_n 2, 1) := by decide +kernel
theorem dX1_readPerson_51 : decode cX1_readPerson 51 = .ok (.iload_n 3, 1) := by decide +kernel
theorem dX1_readPerson_52 : decode cX1_readPerson 52 = .ok (.iload 4, 2) := by decide +kernel
theorem dX1_readPerson_54 : decode cX1_readPerson 54 = .ok (.iload 5, 2) := by decide +kernel
theorem dX1_readPerson_56 : decode cX1_readPerson 56 = .ok (.invokevirtual 58, 3) := by decide +kernel
theorem dX1_readPerson_59 : decode cX1_readPerson 59 = .ok (.ifCond .eq 7, 3) := by decide +kernel
theorem dX1_readPerson_62 : decode cX1_readPerson 62 = .ok (.iconst 1, 1) := by decide +kernel
theorem dX1_readPerson_63 : decode cX1_readPerson 63 = .ok (.goto 4, 3) := by decide +kernel
theorem dX1_readPerson_66 : decode cX1_readPerson 66 = .ok (.iconst 0, 1) := by decide +kernel
theorem dX1_readPerson_67 : decode cX1_readPerson 67 = .ok (.ireturn, 1) := by decide +kernel
set_option maxRecDepth 20000 in
theorem ggX1_readMinutes_X1_number : GoodIn wsX1_readMinutes wsX1_number := goodIn_r _ [6, 7, 8, 9, 5, 10, 1, 11, 12, 13, 14, 15, 16, 17, 18, 19, 20, 21, 22, 23, 24, 25, 26, 27, 28, 29, 30, 31, 32, 33, 34, 35, 36, 37, 38, 39, 40, 41, 42, 43, 44, 45, 46, 47, 48, 49, 50, 51, 52, 53, 54, 55, 56, 57, 58, 59, 60, 61, 62, 63, 64, 65, 66, 67, 68, 69, 70, 71, 72, 73, 74, 75, 76, 77, 78, 79, 80, 81, 82, 83, 84, 85, 86, 87, 88, 89, 90, 91, 92, 93, 94, 95, 96, 97, 98, 99, 100, 101, 102, 103, 104, 105, 106, 123, 124, 125, 126] (by decide +kernel) (by decide +kernel)
set_option maxRecDepth 20000 in
theorem gX1_readMinutes_X1_number : GoodIn wsX1_readMinutes (wsV RX1 50 RX1 yX1_number wsX1_number) := goodIn_app (goodIn_of _ (by decide +kernel)) ggX1_readMinutes_X1_number
set_option maxRecDepth 20000 in
theorem ggX1_readMinutes_X1_oneOf : GoodIn wsX1_readMinutes wsX1_oneOf := goodIn_r _ [10, 1, 11, 12, 13, 14, 5, 15, 16, 17, 18, 19, 20, 21, 22, 23, 24, 25, 26, 27, 28, 29, 30, 31, 32, 33, 34, 35, 36, 37, 38, 39, 40, 41, 42, 43, 44, 45, 46, 47, 48, 49, 50, 51, 52, 53, 54, 55, 56, 57, 58, 59, 60, 61, 62, 63, 64, 65, 66, 67, 68, 69, 70, 71, 72, 73, 74, 75, 76, 77, 78, 79, 80, 81, 82, 83, 84, 85, 86, 87, 88, 89, 90, 91, 92, 93, 94, 95, 96, 97, 98, 99, 100, 101, 102, 103, 104, 105, 106, 123, 124, 125, 126] (by decide +kernel) (by decide +kernel)
set_option maxRecDepth 20000 in
theorem gX1_readMinutes_X1_oneOf : GoodIn wsX1_readMinutes (wsV RX1 32 RX1 yX1_oneOf wsX1_oneOf) := goodIn_app (goodIn_of _ (by decide +kernel)) ggX1_readMinutes_X1_oneOf
set_option maxRecDepth 20000 in
theorem ggX1_readMinutes_X3_addMinutes : GoodIn wsX1_readMinutes wsX3_addMinutes := goodIn_r _ [111, 112, 113, 114, 115, 116, 117, 110, 118, 119, 120, 121, 122, 127, 128, 129, 130, 131, 132, 133, 134, 135, 136, 137, 138, 139] (by decide +kernel) (by decide +kernel)
set_option maxRecDepth 20000 in
theorem gX1_readMinutes_X3_addMinutes : GoodIn wsX1_readMinutes (wsV RX1 64 RX3 yX3_addMinutes wsX3_addMinutes) := goodIn_app (goodIn_of _ (by decide +kernel)) ggX1_readMinutes_X3_addMinutes
theorem dX1_readMinutes_0 : decode cX1_readMinutes 0 = .ok (.aload_n 0, 1) := by decide +kernel
theorem dX1_readMinutes_1 : decode cX1_readMinutes 1 = .ok (.iconst 1, 1) := by decide +kernel
theorem dX1_readMinutes_2 : decode cX1_readMinutes 2 = .ok (.invokevirtual 50, 3) := by decide +kernel
theorem dX1_readMinutes_5 : decode cX1_readMinutes 5 = .ok (.istore_n 3, 1) := by decide +kernel
theorem dX1_readMinutes_6 : decode cX1_readMinutes 6 = .ok (.aload_n 0, 1) := by decide +kernel
theorem dX1_readMinutes_7 : decode cX1_readMinutes 7 = .ok (.iconst 1, 1) := by decide +kernel
theorem dX1_readMinutes_8 : decode cX1_readMinutes 8 = .ok (.invokevirtual 50, 3) := by decide +kernel
theorem dX1_readMinutes_11 : decode cX1_readMinutes 11 = .ok (.istore 4, 2) := by decide +kernel
theorem dX1_readMinutes_13 : decode cX1_readMinutes 13 = .ok (.aload_n 0, 1) := by decide +kernel
theorem dX1_readMinutes_14 : decode cX1_readMinutes 14 = .ok (.ldc 54, 2) := by decide +kernel
theorem dX1_readMinutes_16 : decode cX1_readMinutes 16 = .ok (.invokevirtual 32, 3) := by decide +kernel
theorem dX1_readMinutes_19 : decode cX1_readMinutes 19 = .ok (.pop, 1) := by decide +kernel
theorem dX1_readMinutes_20 : decode cX1_readMinutes 20 = .ok (.aload_n 0, 1) := by decide +kernel
theorem dX1_readMinutes_21 : decode cX1_readMinutes 21 = .ok (.iconst 2, 1) := by decide +kernel
theorem dX1_readMinutes_22 : decode cX1_readMinutes 22 = .ok (.invokevirtual 50, 3) := by decide +kernel
theorem dX1_readMinutes_25 : decode cX1_readMinutes 25 = .ok (.istore 5, 2) := by decide +kernel
theorem dX1_readMinutes_27 : decode cX1_readMinutes 27 = .ok (.aload_n 0, 1) := by decide +kernel
theorem dX1_readMinutes_28 : decode cX1_readMinutes 28 = .ok (.ldc 56, 2) := by decide +kernel
theorem dX1_readMinutes_30 : decode cX1_readMinutes 30 = .ok (.invokevirtual 32, 3) := by decide +kernel
theorem dX1_readMinutes_33 : decode cX1_readMinutes 33 = .ok (.pop, 1) := by decide +kernel
theorem dX1_readMinutes_34 : decode cX1_readMinutes 34 = .ok (.aload_n 0, 1) := by decide +kernel
theorem dX1_readMinutes_35 : decode cX1_readMinutes 35 = .ok (.getfield 22, 3) := by decide +kernel
theorem dX1_readMinutes_38 : decode cX1_readMinutes 38 = .ok (.ifCond .ne 20, 3) := by decide +kernel
theorem dX1_readMinutes_41 : decode cX1_readMinutes 41 = .ok (.aload_n 1, 1) := by decide +kernel
theorem dX1_readMinutes_42 : decode cX1_readMinutes 42 = .ok (.iload_n 3, 1) := by decide +kernel
theorem dX1_readMinutes_43 : decode cX1_readMinutes 43 = .ok (.iload 4, 2) := by decide +kernel
theorem dX1_readMinutes_45 : decode cX1_readMinutes 45 = .ok (.iload 5, 2) := by decide +kernel
theorem dX1_readMinutes_47 : decode cX1_readMinutes 47 = .ok (.iload_n 2, 1) := by decide +kernel
theorem dX1_readMinutes_48 : decode cX1_readMinutes 48 = .ok (.invokevirtual 64, 3) := by decide +kernel
theorem dX1_readMinutes_51 : decode cX1_readMinutes 51 = .ok (.ifCond .eq 7, 3) := by decide +kernel
theorem dX1_readMinutes_54 : decode cX1_readMinutes 54 = .ok (.iconst 1, 1) := by decide +kernel
theorem dX1_readMinutes_55 : decode cX1_readMinutes 55 = .ok (.goto 4, 3) := by decide +kernel
theorem dX1_readMinutes_58 : decode cX1_readMinutes 58 = .ok (.iconst 0, 1) := by decide +kernel
theorem dX1_readMinutes_59 : decode cX1_readMinutes 59 = .ok (.ireturn, 1) := by decide +kernel
set_option maxRecDepth 20000 in
theorem ggX1_readLaw_X1_number : GoodIn wsX1_readLaw wsX1_number := goodIn_r _ [6, 7, 8, 9, 5, 10, 1, 11, 12, 13, 14, 15, 16, 17, 18, 19, 20, 21, 22, 23, 24, 25, 26, 27, 28, 29, 30, 31, 32, 33, 34, 35, 36, 37, 38, 39, 40, 41, 42, 43, 44, 45, 46, 47, 48, 49, 50, 51, 52, 53, 54, 55, 56, 57, 58, 59, 60, 61, 62, 63, 64, 65, 66, 67, 68, 69, 70, 71, 72, 73, 74, 75, 76, 77, 78, 79, 80, 81, 82, 83, 84, 85, 86, 87, 88, 89, 90, 91, 92, 93, 94, 95, 96, 97, 98, 99, 100, 101, 102, 103, 104, 105, 106, 113, 114, 115, 116] (by decide +kernel) (by decide +kernel)
set_option maxRecDepth 20000 in
theorem gX1_readLaw_X1_number : GoodIn wsX1_readLaw (wsV RX1 50 RX1 yX1_number wsX1_number) := goodIn_app (goodIn_of _ (by decide +kernel)) ggX1_readLaw_X1_number
set_option maxRecDepth 20000 in
theorem ggX1_readLaw_X1_oneOf : GoodIn wsX1_readLaw wsX1_oneOf := goodIn_r _ [10, 1, 11, 12, 13, 14, 5, 15, 16, 17, 18, 19, 20, 21, 22, 23, 24, 25, 26, 27, 28, 29, 30, 31, 32, 33, 34, 35, 36, 37, 38, 39, 40, 41, 42, 43, 44, 45, 46, 47, 48, 49, 50, 51, 52, 53, 54, 55, 56, 57, 58, 59, 60, 61, 62, 63, 64, 65, 66, 67, 68, 69, 70, 71, 72, 73, 74, 75, 76, 77, 78, 79, 80, 81, 82, 83, 84, 85, 86, 87, 88, 89, 90, 91, 92, 93, 94, 95, 96, 97, 98, 99, 100, 101, 102, 103, 104, 105, 106, 113, 114, 115, 116] (by decide +kernel) (by decide +kernel)
set_option maxRecDepth 20000 in
theorem gX1_readLaw_X1_oneOf : GoodIn wsX1_readLaw (wsV RX1 32 RX1 yX1_oneOf wsX1_oneOf) := goodIn_app (goodIn_of _ (by decide +kernel)) ggX1_readLaw_X1_oneOf
set_option maxRecDepth 20000 in
theorem ggX1_readLaw_X3_setLaw : GoodIn wsX1_readLaw wsX3_setLaw := goodIn_r _ [111, 112, 117, 118, 119, 120, 121, 122, 123, 124, 125, 126, 127, 128, 129] (by decide +kernel) (by decide +kernel)
set_option maxRecDepth 20000 in
theorem gX1_readLaw_X3_setLaw : GoodIn wsX1_readLaw (wsV RX1 68 RX3 yX3_setLaw wsX3_setLaw) := goodIn_app (goodIn_of _ (by decide +kernel)) ggX1_readLaw_X3_setLaw
theorem dX1_readLaw_0 : decode cX1_readLaw 0 = .ok (.aload_n 0, 1) := by decide +kernel
theorem dX1_readLaw_1 : decode cX1_readLaw 1 = .ok (.iconst 1, 1) := by decide +kernel
theorem dX1_readLaw_2 : decode cX1_readLaw 2 = .ok (.invokevirtual 50, 3) := by decide +kernel
theorem dX1_readLaw_5 : decode cX1_readLaw 5 = .ok (.istore_n 2, 1) := by decide +kernel
theorem dX1_readLaw_6 : decode cX1_readLaw 6 = .ok (.aload_n 0, 1) := by decide +kernel
theorem dX1_readLaw_7 : decode cX1_readLaw 7 = .ok (.ldc 56, 2) := by decide +kernel
theorem dX1_readLaw_9 : decode cX1_readLaw 9 = .ok (.invokevirtual 32, 3) := by decide +kernel
theorem dX1_readLaw_12 : decode cX1_readLaw 12 = .ok (.pop, 1) := by decide +kernel
theorem dX1_readLaw_13 : decode cX1_readLaw 13 = .ok (.aload_n 0, 1) := by decide +kernel
theorem dX1_readLaw_14 : decode cX1_readLaw 14 = .ok (.getfield 22, 3) := by decide +kernel
theorem dX1_readLaw_17 : decode cX1_readLaw 17 = .ok (.ifCond .ne 15, 3) := by decide +kernel
theorem dX1_readLaw_20 : decode cX1_readLaw 20 = .ok (.aload_n 1, 1) := by decide +kernel
theorem dX1_readLaw_21 : decode cX1_readLaw 21 = .ok (.iload_n 2, 1) := by decide +kernel
theorem dX1_readLaw_22 : decode cX1_readLaw 22 = .ok (.invokevirtual 68, 3) := by decide +kernel
theorem dX1_readLaw_25 : decode cX1_readLaw 25 = .ok (.ifCond .eq 7, 3) := by decide +kernel
theorem dX1_readLaw_28 : decode cX1_readLaw 28 = .ok (.iconst 1, 1) := by decide +kernel
theorem dX1_readLaw_29 : decode cX1_readLaw 29 = .ok (.goto 4, 3) := by decide +kernel
theorem dX1_readLaw_32 : decode cX1_readLaw 32 = .ok (.iconst 0, 1) := by decide +kernel
theorem dX1_readLaw_33 : decode cX1_readLaw 33 = .ok (.ireturn, 1) := by decide +kernel
set_option maxRecDepth 20000 in
theorem ggX1_number_X1_oneOf : GoodIn wsX1_number wsX1_oneOf := goodIn_r _ [5, 6, 7, 8, 9, 10, 4, 11, 12, 13, 14, 15, 16, 17, 18, 19, 20, 21, 22, 23, 24, 25, 26, 27, 28, 29, 30, 31, 32, 33, 34, 35, 36, 37, 38, 39, 40, 41, 42, 43, 44, 45, 46, 47, 48, 49, 50, 51, 52, 53, 54, 55, 56, 57, 58, 59, 60, 61, 62, 63, 64, 65, 66, 67, 68, 69, 70, 71, 72, 73, 74, 75, 76, 77, 78, 79, 80, 81, 82, 83, 84, 85, 86, 87, 88, 89, 90, 91, 92, 93, 94, 95, 96, 97, 98, 99, 100, 101, 102, 103, 104, 105, 106] (by decide +kernel) (by decide +kernel)
set_option maxRecDepth 20000 in
theorem gX1_number_X1_oneOf : GoodIn wsX1_number (wsV RX1 32 RX1 yX1_oneOf wsX1_oneOf) := goodIn_app (goodIn_of _ (by decide +kernel)) ggX1_number_X1_oneOf
set_option maxRecDepth 20000 in
theorem ggX1_number_X1_indexIn : GoodIn wsX1_number wsX1_indexIn := goodIn_r _ [11, 6, 7, 12, 13, 14, 15, 16, 17, 18, 19, 20, 21, 22, 23, 24, 25, 26, 27, 28, 29, 30, 31, 32, 33, 34, 35, 36, 37, 38, 39, 40, 41, 42, 43, 44, 45, 46, 47, 48, 49, 50, 51, 52, 53, 54, 55, 56, 57, 58, 59, 60, 61, 62, 63, 64, 65, 66, 67, 68, 69, 70, 71, 72, 73, 74, 75, 76, 77, 78, 79, 80, 81, 82, 83, 84, 85, 86, 87, 88, 89, 90, 91, 92, 93, 94, 95, 96, 97, 98, 99, 100, 101, 102, 103, 104, 105, 106] (by decide +kernel) (by decide +kernel)
set_option maxRecDepth 20000 in
theorem gX1_number_X1_indexIn : GoodIn wsX1_number (wsV RX1 74 RX1 yX1_indexIn wsX1_indexIn) := goodIn_app (goodIn_of _ (by decide +kernel)) ggX1_number_X1_indexIn
theorem dX1_number_0 : decode cX1_number 0 = .ok (.aload_n 0, 1) := by decide +kernel
theorem dX1_number_1 : decode cX1_number 1 = .ok (.ldc 72, 2) := by decide +kernel
theorem dX1_number_3 : decode cX1_number 3 = .ok (.invokevirtual 32, 3) := by decide +kernel
theorem dX1_number_6 : decode cX1_number 6 = .ok (.istore_n 2, 1) := by decide +kernel
theorem dX1_number_7 : decode cX1_number 7 = .ok (.iconst 1, 1) := by decide +kernel
theorem dX1_number_8 : decode cX1_number 8 = .ok (.istore_n 3, 1) := by decide +kernel
theorem dX1_number_9 : decode cX1_number 9 = .ok (.iload_n 3, 1) := by decide +kernel
theorem dX1_number_10 : decode cX1_number 10 = .ok (.iload_n 1, 1) := by decide +kernel
theorem dX1_number_11 : decode cX1_number 11 = .ok (.if_icmp .ge 30, 3) := by decide +kernel
theorem dX1_number_14 : decode cX1_number 14 = .ok (.aload_n 0, 1) := by decide +kernel
theorem dX1_number_15 : decode cX1_number 15 = .ok (.ldc 72, 2) := by decide +kernel
theorem dX1_number_17 : decode cX1_number 17 = .ok (.invokevirtual 74, 3) := by decide +kernel
theorem dX1_number_20 : decode cX1_number 20 = .ok (.ifCond .lt 21, 3) := by decide +kernel
theorem dX1_number_23 : decode cX1_number 23 = .ok (.iload_n 2, 1) := by decide +kernel
theorem dX1_number_24 : decode cX1_number 24 = .ok (.bipush 10, 2) := by decide +kernel
theorem dX1_number_26 : decode cX1_number 26 = .ok (.imul, 1) := by decide +kernel
theorem dX1_number_27 : decode cX1_number 27 = .ok (.aload_n 0, 1) := by decide +kernel
theorem dX1_number_28 : decode cX1_number 28 = .ok (.ldc 72, 2) := by decide +kernel
theorem dX1_number_30 : decode cX1_number 30 = .ok (.invokevirtual 32, 3) := by decide +kernel
theorem dX1_number_33 : decode cX1_number 33 = .ok (.iadd, 1) := by decide +kernel
theorem dX1_number_34 : decode cX1_number 34 = .ok (.istore_n 2, 1) := by decide +kernel
theorem dX1_number_35 : decode cX1_number 35 = .ok (.iinc 3 1, 3) := by decide +kernel
theorem dX1_number_38 : decode cX1_number 38 = .ok (.goto (-29), 3) := by decide +kernel
theorem dX1_number_41 : decode cX1_number 41 = .ok (.iload_n 2, 1) := by decide +kernel
theorem dX1_number_42 : decode cX1_number 42 = .ok (.ireturn, 1) := by decide +kernel
set_option maxRecDepth 20000 in
theorem ggX1_oneOf_X1_indexIn : GoodIn wsX1_oneOf wsX1_indexIn := goodIn_r _ [7, 1, 2, 8, 9, 10, 11, 12, 13, 14, 15, 16, 17, 18, 19, 20, 21, 22, 23, 24, 25, 26, 27, 28, 29, 30, 31, 32, 33, 34, 35, 36, 37, 38, 39, 40, 41, 42, 43, 44, 45, 46, 47, 48, 49, 50, 51, 52, 53, 54, 55, 56, 57, 58, 59, 60, 61, 62, 63, 64, 65, 66, 67, 68, 69, 70, 71, 72, 73, 74, 75, 76, 77, 78, 79, 80, 81, 82, 83, 84, 85, 86, 87, 88, 89, 90, 91, 92, 93, 94, 95, 96, 97, 98, 99, 100, 101, 102] (by decide +kernel) (by decide +kernel)
set_option maxRecDepth 20000 in
theorem gX1_oneOf_X1_indexIn : GoodIn wsX1_oneOf (wsV RX1 74 RX1 yX1_indexIn wsX1_indexIn) := goodIn_app (goodIn_of _ (by decide +kernel)) ggX1_oneOf_X1_indexIn
theorem dX1_oneOf_0 : decode cX1_oneOf 0 = .ok (.aload_n 0, 1) := by decide +kernel
theorem dX1_oneOf_1 : decode cX1_oneOf 1 = .ok (.aload_n 1, 1) := by decide +kernel
theorem dX1_oneOf_2 : decode cX1_oneOf 2 = .ok (.invokevirtual 74, 3) := by decide +kernel
theorem dX1_oneOf_5 : decode cX1_oneOf 5 = .ok (.istore_n 2, 1) := by decide +kernel
theorem dX1_oneOf_6 : decode cX1_oneOf 6 = .ok (.iload_n 2, 1) := by decide +kernel
theorem dX1_oneOf_7 : decode cX1_oneOf 7 = .ok (.ifCond .ge 11, 3) := by decide +kernel
theorem dX1_oneOf_10 : decode cX1_oneOf 10 = .ok (.aload_n 0, 1) := by decide +kernel
theorem dX1_oneOf_11 : decode cX1_oneOf 11 = .ok (.iconst 1, 1) := by decide +kernel
theorem dX1_oneOf_12 : decode cX1_oneOf 12 = .ok (.putfield 22, 3) := by decide +kernel
theorem dX1_oneOf_15 : decode cX1_oneOf 15 = .ok (.goto 13, 3) := by decide +kernel
theorem dX1_oneOf_18 : decode cX1_oneOf 18 = .ok (.aload_n 0, 1) := by decide +kernel
theorem dX1_oneOf_19 : decode cX1_oneOf 19 = .ok (.dup, 1) := by decide +kernel
theorem dX1_oneOf_20 : decode cX1_oneOf 20 = .ok (.getfield 19, 3) := by decide +kernel
theorem dX1_oneOf_23 : decode cX1_oneOf 23 = .ok (.iconst 1, 1) := by decide +kernel
theorem dX1_oneOf_24 : decode cX1_oneOf 24 = .ok (.iadd, 1) := by decide +kernel
theorem dX1_oneOf_25 : decode cX1_oneOf 25 = .ok (.putfield 19, 3) := by decide +kernel
theorem dX1_oneOf_28 : decode cX1_oneOf 28 = .ok (.iload_n 2, 1) := by decide +kernel
theorem dX1_oneOf_29 : decode cX1_oneOf 29 = .ok (.ireturn, 1) := by decide +kernel
set_option maxRecDepth 20000 in
theorem ggX1_indexIn_J0_indexOf_0f7a4 : GoodIn wsX1_indexIn wsJ0_indexOf_0f7a4 := goodIn_r _ [9, 10, 11, 12, 8, 13, 14, 15, 16, 17, 18, 19, 20, 21, 22, 23, 24, 25, 26, 27, 28, 29, 30, 31, 32, 33, 34, 35, 36, 37, 38, 39, 40, 41, 42, 43, 44, 45, 46, 47, 48, 49, 50, 51, 52, 53, 54, 55, 56, 57, 58, 59, 60, 61, 62, 63, 64, 65, 66, 67, 68, 69, 70, 71, 72, 73, 74, 75, 76, 77, 78, 79, 80, 81, 82, 83, 84, 85, 86, 87, 88, 89, 90, 91, 92, 93] (by decide +kernel) (by decide +kernel)
set_option maxRecDepth 20000 in
theorem gX1_indexIn_J0_indexOf_0f7a4 : GoodIn wsX1_indexIn (wsV RX1 77 RJ0 yJ0_indexOf_0f7a4 wsJ0_indexOf_0f7a4) := goodIn_app (goodIn_of _ (by decide +kernel)) ggX1_indexIn_J0_indexOf_0f7a4
theorem dX1_indexIn_0 : decode cX1_indexIn 0 = .ok (.aload_n 0, 1) := by decide +kernel
theorem dX1_indexIn_1 : decode cX1_indexIn 1 = .ok (.getfield 22, 3) := by decide +kernel
theorem dX1_indexIn_4 : decode cX1_indexIn 4 = .ok (.ifCond .ne 30, 3) := by decide +kernel
theorem dX1_indexIn_7 : decode cX1_indexIn 7 = .ok (.aload_n 0, 1) := by decide +kernel
theorem dX1_indexIn_8 : decode cX1_indexIn 8 = .ok (.getfield 19, 3) := by decide +kernel
theorem dX1_indexIn_11 : decode cX1_indexIn 11 = .ok (.ifCond .lt 23, 3) := by decide +kernel
theorem dX1_indexIn_14 : decode cX1_indexIn 14 = .ok (.aload_n 0, 1) := by decide +kernel
theorem dX1_indexIn_15 : decode cX1_indexIn 15 = .ok (.getfield 19, 3) := by decide +kernel
theorem dX1_indexIn_18 : decode cX1_indexIn 18 = .ok (.aload_n 0, 1) := by decide +kernel
theorem dX1_indexIn_19 : decode cX1_indexIn 19 = .ok (.getfield 15, 3) := by decide +kernel
theorem dX1_indexIn_22 : decode cX1_indexIn 22 = .ok (.if_icmp .ge 12, 3) := by decide +kernel
theorem dX1_indexIn_25 : decode cX1_indexIn 25 = .ok (.aload_n 0, 1) := by decide +kernel
theorem dX1_indexIn_26 : decode cX1_indexIn 26 = .ok (.getfield 19, 3) := by decide +kernel
theorem dX1_indexIn_29 : decode cX1_indexIn 29 = .ok (.bipush 64, 2) := by decide +kernel
theorem dX1_indexIn_31 : decode cX1_indexIn 31 = .ok (.if_icmp .lt 5, 3) := by decide +kernel
theorem dX1_indexIn_34 : decode cX1_indexIn 34 = .ok (.iconst (-1), 1) := by decide +kernel
theorem dX1_indexIn_35 : decode cX1_indexIn 35 = .ok (.ireturn, 1) := by decide +kernel
theorem dX1_indexIn_36 : decode cX1_indexIn 36 = .ok (.aload_n 1, 1) := by decide +kernel
theorem dX1_indexIn_37 : decode cX1_indexIn 37 = .ok (.aload_n 0, 1) := by decide +kernel
theorem dX1_indexIn_38 : decode cX1_indexIn 38 = .ok (.getfield 9, 3) := by decide +kernel
theorem dX1_indexIn_41 : decode cX1_indexIn 41 = .ok (.aload_n 0, 1) := by decide +kernel
theorem dX1_indexIn_42 : decode cX1_indexIn 42 = .ok (.getfield 19, 3) := by decide +kernel
theorem dX1_indexIn_45 : decode cX1_indexIn 45 = .ok (.caload, 1) := by decide +kernel
theorem dX1_indexIn_46 : decode cX1_indexIn 46 = .ok (.invokevirtual 77, 3) := by decide +kernel
theorem dX1_indexIn_49 : decode cX1_indexIn 49 = .ok (.ireturn, 1) := by decide +kernel
theorem dX2_init_0 : decode cX2_init 0 = .ok (.aload_n 0, 1) := by decide +kernel
theorem dX2_init_1 : decode cX2_init 1 = .ok (.invokespecial 1, 3) := by decide +kernel
theorem dX2_init_4 : decode cX2_init 4 = .ok (.return_, 1) := by decide +kernel
theorem dX3_init_0 : decode cX3_init 0 = .ok (.aload_n 0, 1) := by decide +kernel
theorem dX3_init_1 : decode cX3_init 1 = .ok (.invokespecial 3, 3) := by decide +kernel
theorem dX3_init_4 : decode cX3_init 4 = .ok (.aload_n 0, 1) := by decide +kernel
theorem dX3_init_5 : decode cX3_init 5 = .ok (.bipush 8, 2) := by decide +kernel
theorem dX3_init_7 : decode cX3_init 7 = .ok (.newarray .int, 2) := by decide +kernel
theorem dX3_init_9 : decode cX3_init 9 = .ok (.putfield 9, 3) := by decide +kernel
theorem dX3_init_12 : decode cX3_init 12 = .ok (.aload_n 0, 1) := by decide +kernel
theorem dX3_init_13 : decode cX3_init 13 = .ok (.bipush 8, 2) := by decide +kernel
theorem dX3_init_15 : decode cX3_init 15 = .ok (.newarray .int, 2) := by decide +kernel
theorem dX3_init_17 : decode cX3_init 17 = .ok (.putfield 15, 3) := by decide +kernel
theorem dX3_init_20 : decode cX3_init 20 = .ok (.aload_n 0, 1) := by decide +kernel
theorem dX3_init_21 : decode cX3_init 21 = .ok (.bipush 8, 2) := by decide +kernel
theorem dX3_init_23 : decode cX3_init 23 = .ok (.newarray .int, 2) := by decide +kernel
theorem dX3_init_25 : decode cX3_init 25 = .ok (.putfield 18, 3) := by decide +kernel
theorem dX3_init_28 : decode cX3_init 28 = .ok (.aload_n 0, 1) := by decide +kernel
theorem dX3_init_29 : decode cX3_init 29 = .ok (.bipush 8, 2) := by decide +kernel
theorem dX3_init_31 : decode cX3_init 31 = .ok (.newarray .int, 2) := by decide +kernel
theorem dX3_init_33 : decode cX3_init 33 = .ok (.putfield 21, 3) := by decide +kernel
theorem dX3_init_36 : decode cX3_init 36 = .ok (.aload_n 0, 1) := by decide +kernel
theorem dX3_init_37 : decode cX3_init 37 = .ok (.bipush 8, 2) := by decide +kernel
theorem dX3_init_39 : decode cX3_init 39 = .ok (.newarray .int, 2) := by decide +kernel
theorem dX3_init_41 : decode cX3_init 41 = .ok (.putfield 24, 3) := by decide +kernel
theorem dX3_init_44 : decode cX3_init 44 = .ok (.aload_n 0, 1) := by decide +kernel
theorem dX3_init_45 : decode cX3_init 45 = .ok (.bipush 8, 2) := by decide +kernel
theorem dX3_init_47 : decode cX3_init 47 = .ok (.newarray .int, 2) := by decide +kernel
theorem dX3_init_49 : decode cX3_init 49 = .ok (.putfield 27, 3) := by decide +kernel
theorem dX3_init_52 : decode cX3_init 52 = .ok (.aload_n 0, 1) := by decide +kernel
theorem dX3_init_53 : decode cX3_init 53 = .ok (.bipush 8, 2) := by decide +kernel
theorem dX3_init_55 : decode cX3_init 55 = .ok (.newarray .int, 2) := by decide +kernel
theorem dX3_init_57 : decode cX3_init 57 = .ok (.putfield 30, 3) := by decide +kernel
theorem dX3_init_60 : decode cX3_init 60 = .ok (.aload_n 0, 1) := by decide +kernel
theorem dX3_init_61 : decode cX3_init 61 = .ok (.bipush 64, 2) := by decide +kernel
theorem dX3_init_63 : decode cX3_init 63 = .ok (.newarray .int, 2) := by decide +kernel
theorem dX3_init_65 : decode cX3_init 65 = .ok (.putfield 33, 3) := by decide +kernel
theorem dX3_init_68 : decode cX3_init 68 = .ok (.return_, 1) := by decide +kernel
theorem dX3_become_0 : decode cX3_become 0 = .ok (.aload_n 1, 1) := by decide +kernel
theorem dX3_become_1 : decode cX3_become 1 = .ok (.getfield 9, 3) := by decide +kernel
theorem dX3_become_4 : decode cX3_become 4 = .ok (.iconst 0, 1) := by decide +kernel
theorem dX3_become_5 : decode cX3_become 5 = .ok (.aload_n 0, 1) := by decide +kernel
theorem dX3_become_6 : decode cX3_become 6 = .ok (.getfield 9, 3) := by decide +kernel
theorem dX3_become_9 : decode cX3_become 9 = .ok (.iconst 0, 1) := by decide +kernel
theorem dX3_become_10 : decode cX3_become 10 = .ok (.bipush 8, 2) := by decide +kernel
theorem dX3_become_12 : decode cX3_become 12 = .ok (.invokestatic 36, 3) := by decide +kernel
theorem dX3_become_15 : decode cX3_become 15 = .ok (.aload_n 1, 1) := by decide +kernel
theorem dX3_become_16 : decode cX3_become 16 = .ok (.getfield 15, 3) := by decide +kernel
theorem dX3_become_19 : decode cX3_become 19 = .ok (.iconst 0, 1) := by decide +kernel
theorem dX3_become_20 : decode cX3_become 20 = .ok (.aload_n 0, 1) := by decide +kernel
theorem dX3_become_21 : decode cX3_become 21 = .ok (.getfield 15, 3) := by decide +kernel
theorem dX3_become_24 : decode cX3_become 24 = .ok (.iconst 0, 1) := by decide +kernel
theorem dX3_become_25 : decode cX3_become 25 = .ok (.bipush 8, 2) := by decide +kernel
theorem dX3_become_27 : decode cX3_become 27 = .ok (.invokestatic 36, 3) := by decide +kernel
theorem dX3_become_30 : decode cX3_become 30 = .ok (.aload_n 1, 1) := by decide +kernel
theorem dX3_become_31 : decode cX3_become 31 = .ok (.getfield 18, 3) := by decide +kernel
theorem dX3_become_34 : decode cX3_become 34 = .ok (.iconst 0, 1) := by decide +kernel
theorem dX3_become_35 : decode cX3_become 35 = .ok (.aload_n 0, 1) := by decide +kernel
theorem dX3_become_36 : decode cX3_become 36 = .ok (.getfield 18, 3) := by decide +kernel
theorem dX3_become_39 : decode cX3_become 39 = .ok (.iconst 0, 1) := by decide +kernel
theorem dX3_become_40 : decode cX3_become 40 = .ok (.bipush 8, 2) := by decide +kernel
theorem dX3_become_42 : decode cX3_become 42 = .ok (.invokestatic 36, 3) := by decide +kernel
theorem dX3_become_45 : decode cX3_become 45 = .ok (.aload_n 1, 1) := by decide +kernel
theorem dX3_become_46 : decode cX3_become 46 = .ok (.getfield 21, 3) := by decide +kernel
theorem dX3_become_49 : decode cX3_become 49 = .ok (.iconst 0, 1) := by decide +kernel
theorem dX3_become_50 : decode cX3_become 50 = .ok (.aload_n 0, 1) := by decide +kernel
theorem dX3_become_51 : decode cX3_become 51 = .ok (.getfield 21, 3) := by decide +kernel
theorem dX3_become_54 : decode cX3_become 54 = .ok (.iconst 0, 1) := by decide +kernel
theorem dX3_become_55 : decode cX3_become 55 = .ok (.bipush 8, 2) := by decide +kernel
theorem dX3_become_57 : decode cX3_become 57 = .ok (.invokestatic 36, 3) := by decide +kernel
theorem dX3_become_60 : decode cX3_become 60 = .ok (.aload_n 1, 1) := by decide +kernel
theorem dX3_become_61 : decode cX3_become 61 = .ok (.getfield 24, 3) := by decide +kernel
theorem dX3_become_64 : decode cX3_become 64 = .ok (.iconst 0, 1) := by decide +kernel
theorem dX3_become_65 : decode cX3_become 65 = .ok (.aload_n 0, 1) := by decide +kernel
theorem dX3_become_66 : decode cX3_become 66 = .ok (.getfield 24, 3) := by decide +kernel
theorem dX3_become_69 : decode cX3_become 69 = .ok (.iconst 0, 1) := by decide +kernel
theorem dX3_become_70 : decode cX3_become 70 = .ok (.bipush 8, 2) := by decide +kernel
theorem dX3_become_72 : decode cX3_become 72 = .ok (.invokestatic 36, 3) := by decide +kernel
theorem dX3_become_75 : decode cX3_become 75 = .ok (.aload_n 1, 1) := by decide +kernel
theorem dX3_become_76 : decode cX3_become 76 = .ok (.getfield 27, 3) := by decide +kernel
theorem dX3_become_79 : decode cX3_become 79 = .ok (.iconst 0, 1) := by decide +kernel
theorem dX3_become_80 : decode cX3_become 80 = .ok (.aload_n 0, 1) := by decide +kernel
theorem dX3_become_81 : decode cX3_become 81 = .ok (.getfield 27, 3) := by decide +kernel
theorem dX3_become_84 : decode cX3_become 84 = .ok (.iconst 0, 1) := by decide +kernel
theorem dX3_become_85 : decode cX3_become 85 = .ok (.bipush 8, 2) := by decide +kernel
theorem dX3_become_87 : decode cX3_become 87 = .ok (.invokestatic 36, 3) := by decide +kernel
theorem dX3_become_90 : decode cX3_become 90 = .ok (.aload_n 1, 1) := by decide +kernel
theorem dX3_become_91 : decode cX3_become 91 = .ok (.getfield 30, 3) := by decide +kernel
theorem dX3_become_94 : decode cX3_become 94 = .ok (.iconst 0, 1) := by decide +kernel
theorem dX3_become_95 : decode cX3_become 95 = .ok (.aload_n 0, 1) := by decide +kernel
theorem dX3_become_96 : decode cX3_become 96 = .ok (.getfield 30, 3) := by decide +kernel
theorem dX3_become_99 : decode cX3_become 99 = .ok (.iconst 0, 1) := by decide +kernel
theorem dX3_become_100 : decode cX3_become 100 = .ok (.bipush 8, 2) := by decide +kernel
theorem dX3_become_102 : decode cX3_become 102 = .ok (.invokestatic 36, 3) := by decide +kernel
theorem dX3_become_105 : decode cX3_become 105 = .ok (.aload_n 1, 1) := by decide +kernel
theorem dX3_become_106 : decode cX3_become 106 = .ok (.getfield 33, 3) := by decide +kernel
theorem dX3_become_109 : decode cX3_become 109 = .ok (.iconst 0, 1) := by decide +kernel
theorem dX3_become_110 : decode cX3_become 110 = .ok (.aload_n 0, 1) := by decide +kernel
theorem dX3_become_111 : decode cX3_become 111 = .ok (.getfield 33, 3) := by decide +kernel
theorem dX3_become_114 : decode cX3_become 114 = .ok (.iconst 0, 1) := by decide +kernel
theorem dX3_become_115 : decode cX3_become 115 = .ok (.bipush 64, 2) := by decide +kernel
theorem dX3_become_117 : decode cX3_become 117 = .ok (.invokestatic 36, 3) := by decide +kernel
theorem dX3_become_120 : decode cX3_become 120 = .ok (.aload_n 0, 1) := by decide +kernel
theorem dX3_become_121 : decode cX3_become 121 = .ok (.aload_n 1, 1) := by decide +kernel
theorem dX3_become_122 : decode cX3_become 122 = .ok (.getfield 42, 3) := by decide +kernel
theorem dX3_become_125 : decode cX3_become 125 = .ok (.putfield 42, 3) := by decide +kernel
theorem dX3_become_128 : decode cX3_become 128 = .ok (.aload_n 0, 1) := by decide +kernel
theorem dX3_become_129 : decode cX3_become 129 = .ok (.aload_n 1, 1) := by decide +kernel
theorem dX3_become_130 : decode cX3_become 130 = .ok (.getfield 46, 3) := by decide +kernel
theorem dX3_become_133 : decode cX3_become 133 = .ok (.putfield 46, 3) := by decide +kernel
theorem dX3_become_136 : decode cX3_become 136 = .ok (.aload_n 0, 1) := by decide +kernel
theorem dX3_become_137 : decode cX3_become 137 = .ok (.aload_n 1, 1) := by decide +kernel
theorem dX3_become_138 : decode cX3_become 138 = .ok (.getfield 49, 3) := by decide +kernel
theorem dX3_become_141 : decode cX3_become 141 = .ok (.putfield 49, 3) := by decide +kernel
theorem dX3_become_144 : decode cX3_become 144 = .ok (.aload_n 0, 1) := by decide +kernel
theorem dX3_become_145 : decode cX3_become 145 = .ok (.aload_n 1, 1) := by decide +kernel
theorem dX3_become_146 : decode cX3_become 146 = .ok (.getfield 52, 3) := by decide +kernel
theorem dX3_become_149 : decode cX3_become 149 = .ok (.putfield 52, 3) := by decide +kernel
theorem dX3_become_152 : decode cX3_become 152 = .ok (.aload_n 0, 1) := by decide +kernel
theorem dX3_become_153 : decode cX3_become 153 = .ok (.aload_n 1, 1) := by decide +kernel
theorem dX3_become_154 : decode cX3_become 154 = .ok (.getfield 55, 3) := by decide +kernel
theorem dX3_become_157 : decode cX3_become 157 = .ok (.putfield 55, 3) := by decide +kernel
theorem dX3_become_160 : decode cX3_become 160 = .ok (.return_, 1) := by decide +kernel
theorem dX3_has_0 : decode cX3_has 0 = .ok (.iload_n 1, 1) := by decide +kernel
theorem dX3_has_1 : decode cX3_has 1 = .ok (.ifCond .lt 21, 3) := by decide +kernel
theorem dX3_has_4 : decode cX3_has 4 = .ok (.iload_n 1, 1) := by decide +kernel
theorem dX3_has_5 : decode cX3_has 5 = .ok (.aload_n 0, 1) := by decide +kernel
theorem dX3_has_6 : decode cX3_has 6 = .ok (.getfield 42, 3) := by decide +kernel
theorem dX3_has_9 : decode cX3_has 9 = .ok (.if_icmp .ge 13, 3) := by decide +kernel
theorem dX3_has_12 : decode cX3_has 12 = .ok (.iload_n 1, 1) := by decide +kernel
theorem dX3_has_13 : decode cX3_has 13 = .ok (.bipush 8, 2) := by decide +kernel
theorem dX3_has_15 : decode cX3_has 15 = .ok (.if_icmp .ge 7, 3) := by decide +kernel
theorem dX3_has_18 : decode cX3_has 18 = .ok (.iconst 1, 1) := by decide +kernel
theorem dX3_has_19 : decode cX3_has 19 = .ok (.goto 4, 3) := by decide +kernel
theorem dX3_has_22 : decode cX3_has 22 = .ok (.iconst 0, 1) := by decide +kernel
theorem dX3_has_23 : decode cX3_has 23 = .ok (.ireturn, 1) := by decide +kernel
set_option maxRecDepth 20000 in
theorem ggX3_wasAsked_X3_has : GoodIn wsX3_wasAsked wsX3_has := goodIn_r _ [6, 7, 14, 15, 16, 17, 18, 19, 20, 21, 22, 23, 24, 25, 26] (by decide +kernel) (by decide +kernel)
set_option maxRecDepth 20000 in
theorem gX3_wasAsked_X3_has : GoodIn wsX3_wasAsked (wsV RX3 58 RX3 yX3_has wsX3_has) := goodIn_app (goodIn_of _ (by decide +kernel)) ggX3_wasAsked_X3_has
set_option maxRecDepth 20000 in
theorem ggX3_wasAsked_X5_holds : GoodIn wsX3_wasAsked wsX5_holds := goodIn_r _ [10, 11, 12, 9, 13] (by decide +kernel) (by decide +kernel)
set_option maxRecDepth 20000 in
theorem gX3_wasAsked_X5_holds_n62 : GoodIn wsX3_wasAsked (wsX5_holds) := ggX3_wasAsked_X5_holds
theorem dX3_wasAsked_0 : decode cX3_wasAsked 0 = .ok (.aload_n 0, 1) := by decide +kernel
theorem dX3_wasAsked_1 : decode cX3_wasAsked 1 = .ok (.iload_n 1, 1) := by decide +kernel
theorem dX3_wasAsked_2 : decode cX3_wasAsked 2 = .ok (.invokevirtual 58, 3) := by decide +kernel
theorem dX3_wasAsked_5 : decode cX3_wasAsked 5 = .ok (.ifCond .eq 18, 3) := by decide +kernel
theorem dX3_wasAsked_8 : decode cX3_wasAsked 8 = .ok (.aload_n 0, 1) := by decide +kernel
theorem dX3_wasAsked_9 : decode cX3_wasAsked 9 = .ok (.getfield 49, 3) := by decide +kernel
theorem dX3_wasAsked_12 : decode cX3_wasAsked 12 = .ok (.iload_n 1, 1) := by decide +kernel
theorem dX3_wasAsked_13 : decode cX3_wasAsked 13 = .ok (.invokestatic 62, 3) := by decide +kernel
theorem dX3_wasAsked_16 : decode cX3_wasAsked 16 = .ok (.ifCond .eq 7, 3) := by decide +kernel
theorem dX3_wasAsked_19 : decode cX3_wasAsked 19 = .ok (.iconst 1, 1) := by decide +kernel
theorem dX3_wasAsked_20 : decode cX3_wasAsked 20 = .ok (.goto 4, 3) := by decide +kernel
theorem dX3_wasAsked_23 : decode cX3_wasAsked 23 = .ok (.iconst 0, 1) := by decide +kernel
theorem dX3_wasAsked_24 : decode cX3_wasAsked 24 = .ok (.ireturn, 1) := by decide +kernel
set_option maxRecDepth 20000 in
theorem ggX3_minutesFrom_X3_has : GoodIn wsX3_minutesFrom wsX3_has := goodIn_r _ [6, 7, 8, 9, 10, 11, 12, 13, 14, 15, 16, 17, 18, 19, 20] (by decide +kernel) (by decide +kernel)
set_option maxRecDepth 20000 in
theorem gX3_minutesFrom_X3_has : GoodIn wsX3_minutesFrom (wsV RX3 58 RX3 yX3_has wsX3_has) := goodIn_app (goodIn_of _ (by decide +kernel)) ggX3_minutesFrom_X3_has
theorem dX3_minutesFrom_0 : decode cX3_minutesFrom 0 = .ok (.aload_n 0, 1) := by decide +kernel
theorem dX3_minutesFrom_1 : decode cX3_minutesFrom 1 = .ok (.iload_n 1, 1) := by decide +kernel
theorem dX3_minutesFrom_2 : decode cX3_minutesFrom 2 = .ok (.invokevirtual 58, 3) := by decide +kernel
theorem dX3_minutesFrom_5 : decode cX3_minutesFrom 5 = .ok (.ifCond .eq 25, 3) := by decide +kernel
theorem dX3_minutesFrom_8 : decode cX3_minutesFrom 8 = .ok (.aload_n 0, 1) := by decide +kernel
theorem dX3_minutesFrom_9 : decode cX3_minutesFrom 9 = .ok (.iload_n 2, 1) := by decide +kernel
theorem dX3_minutesFrom_10 : decode cX3_minutesFrom 10 = .ok (.invokevirtual 58, 3) := by decide +kernel
theorem dX3_minutesFrom_13 : decode cX3_minutesFrom 13 = .ok (.ifCond .eq 17, 3) := by decide +kernel
theorem dX3_minutesFrom_16 : decode cX3_minutesFrom 16 = .ok (.aload_n 0, 1) := by decide +kernel
theorem dX3_minutesFrom_17 : decode cX3_minutesFrom 17 = .ok (.getfield 33, 3) := by decide +kernel
theorem dX3_minutesFrom_20 : decode cX3_minutesFrom 20 = .ok (.iload_n 1, 1) := by decide +kernel
theorem dX3_minutesFrom_21 : decode cX3_minutesFrom 21 = .ok (.bipush 8, 2) := by decide +kernel
theorem dX3_minutesFrom_23 : decode cX3_minutesFrom 23 = .ok (.imul, 1) := by decide +kernel
theorem dX3_minutesFrom_24 : decode cX3_minutesFrom 24 = .ok (.iload_n 2, 1) := by decide +kernel
theorem dX3_minutesFrom_25 : decode cX3_minutesFrom 25 = .ok (.iadd, 1) := by decide +kernel
theorem dX3_minutesFrom_26 : decode cX3_minutesFrom 26 = .ok (.iaload, 1) := by decide +kernel
theorem dX3_minutesFrom_27 : decode cX3_minutesFrom 27 = .ok (.goto 4, 3) := by decide +kernel
theorem dX3_minutesFrom_30 : decode cX3_minutesFrom 30 = .ok (.iconst 0, 1) := by decide +kernel
theorem dX3_minutesFrom_31 : decode cX3_minutesFrom 31 = .ok (.ireturn, 1) := by decide +kernel
set_option maxRecDepth 20000 in
theorem ggX3_minutesTold_J6_bitCount_0f7a4 : GoodIn wsX3_minutesTold wsJ6_bitCount_0f7a4 := goodIn_r _ [5, 6, 7, 8] (by decide +kernel) (by decide +kernel)
set_option maxRecDepth 20000 in
theorem gX3_minutesTold_J6_bitCount_0f7a4 : GoodIn wsX3_minutesTold (va_wsS RX3 66 yJ6_bitCount_0f7a4 wsJ6_bitCount_0f7a4) := goodIn_app (goodIn_of _ (by decide +kernel)) ggX3_minutesTold_J6_bitCount_0f7a4
theorem dX3_minutesTold_0 : decode cX3_minutesTold 0 = .ok (.iconst 0, 1) := by decide +kernel
theorem dX3_minutesTold_1 : decode cX3_minutesTold 1 = .ok (.istore_n 1, 1) := by decide +kernel
theorem dX3_minutesTold_2 : decode cX3_minutesTold 2 = .ok (.iconst 0, 1) := by decide +kernel
theorem dX3_minutesTold_3 : decode cX3_minutesTold 3 = .ok (.istore_n 2, 1) := by decide +kernel
theorem dX3_minutesTold_4 : decode cX3_minutesTold 4 = .ok (.iload_n 2, 1) := by decide +kernel
theorem dX3_minutesTold_5 : decode cX3_minutesTold 5 = .ok (.bipush 8, 2) := by decide +kernel
theorem dX3_minutesTold_7 : decode cX3_minutesTold 7 = .ok (.if_icmp .ge 21, 3) := by decide +kernel
theorem dX3_minutesTold_10 : decode cX3_minutesTold 10 = .ok (.iload_n 1, 1) := by decide +kernel
theorem dX3_minutesTold_11 : decode cX3_minutesTold 11 = .ok (.aload_n 0, 1) := by decide +kernel
theorem dX3_minutesTold_12 : decode cX3_minutesTold 12 = .ok (.getfield 27, 3) := by decide +kernel
theorem dX3_minutesTold_15 : decode cX3_minutesTold 15 = .ok (.iload_n 2, 1) := by decide +kernel
theorem dX3_minutesTold_16 : decode cX3_minutesTold 16 = .ok (.iaload, 1) := by decide +kernel
theorem dX3_minutesTold_17 : decode cX3_minutesTold 17 = .ok (.invokestatic 66, 3) := by decide +kernel
theorem dX3_minutesTold_20 : decode cX3_minutesTold 20 = .ok (.iadd, 1) := by decide +kernel
theorem dX3_minutesTold_21 : decode cX3_minutesTold 21 = .ok (.istore_n 1, 1) := by decide +kernel
theorem dX3_minutesTold_22 : decode cX3_minutesTold 22 = .ok (.iinc 2 1, 3) := by decide +kernel
theorem dX3_minutesTold_25 : decode cX3_minutesTold 25 = .ok (.goto (-21), 3) := by decide +kernel
theorem dX3_minutesTold_28 : decode cX3_minutesTold 28 = .ok (.iload_n 1, 1) := by decide +kernel
theorem dX3_minutesTold_29 : decode cX3_minutesTold 29 = .ok (.ireturn, 1) := by decide +kernel
set_option maxRecDepth 20000 in
theorem ggX3_addPerson_X5_bit : GoodIn wsX3_addPerson wsX5_bit := goodIn_r _ [9] (by decide +kernel) (by decide +kernel)
set_option maxRecDepth 20000 in
theorem gX3_addPerson_X5_bit_n72 : GoodIn wsX3_addPerson (wsX5_bit) := ggX3_addPerson_X5_bit
theorem dX3_addPerson_0 : decode cX3_addPerson 0 = .ok (.aload_n 0, 1) := by decide +kernel
theorem dX3_addPerson_1 : decode cX3_addPerson 1 = .ok (.getfield 42, 3) := by decide +kernel
theorem dX3_addPerson_4 : decode cX3_addPerson 4 = .ok (.bipush 8, 2) := by decide +kernel
theorem dX3_addPerson_6 : decode cX3_addPerson 6 = .ok (.if_icmp .ge 9, 3) := by decide +kernel
theorem dX3_addPerson_9 : decode cX3_addPerson 9 = .ok (.iload_n 3, 1) := by decide +kernel
theorem dX3_addPerson_10 : decode cX3_addPerson 10 = .ok (.bipush 100, 2) := by decide +kernel
theorem dX3_addPerson_12 : decode cX3_addPerson 12 = .ok (.if_icmp .le 5, 3) := by decide +kernel
theorem dX3_addPerson_15 : decode cX3_addPerson 15 = .ok (.iconst 0, 1) := by decide +kernel
theorem dX3_addPerson_16 : decode cX3_addPerson 16 = .ok (.ireturn, 1) := by decide +kernel
theorem dX3_addPerson_17 : decode cX3_addPerson 17 = .ok (.aload_n 0, 1) := by decide +kernel
theorem dX3_addPerson_18 : decode cX3_addPerson 18 = .ok (.getfield 42, 3) := by decide +kernel
theorem dX3_addPerson_21 : decode cX3_addPerson 21 = .ok (.istore 5, 2) := by decide +kernel
theorem dX3_addPerson_23 : decode cX3_addPerson 23 = .ok (.aload_n 0, 1) := by decide +kernel
theorem dX3_addPerson_24 : decode cX3_addPerson 24 = .ok (.getfield 9, 3) := by decide +kernel
theorem dX3_addPerson_27 : decode cX3_addPerson 27 = .ok (.iload 5, 2) := by decide +kernel
theorem dX3_addPerson_29 : decode cX3_addPerson 29 = .ok (.iload_n 1, 1) := by decide +kernel
theorem dX3_addPerson_30 : decode cX3_addPerson 30 = .ok (.iastore, 1) := by decide +kernel
theorem dX3_addPerson_31 : decode cX3_addPerson 31 = .ok (.aload_n 0, 1) := by decide +kernel
theorem dX3_addPerson_32 : decode cX3_addPerson 32 = .ok (.getfield 15, 3) := by decide +kernel
theorem dX3_addPerson_35 : decode cX3_addPerson 35 = .ok (.iload 5, 2) := by decide +kernel
theorem dX3_addPerson_37 : decode cX3_addPerson 37 = .ok (.iload_n 2, 1) := by decide +kernel
theorem dX3_addPerson_38 : decode cX3_addPerson 38 = .ok (.iastore, 1) := by decide +kernel
theorem dX3_addPerson_39 : decode cX3_addPerson 39 = .ok (.aload_n 0, 1) := by decide +kernel
theorem dX3_addPerson_40 : decode cX3_addPerson 40 = .ok (.getfield 18, 3) := by decide +kernel
theorem dX3_addPerson_43 : decode cX3_addPerson 43 = .ok (.iload 5, 2) := by decide +kernel
theorem dX3_addPerson_45 : decode cX3_addPerson 45 = .ok (.iload_n 3, 1) := by decide +kernel
theorem dX3_addPerson_46 : decode cX3_addPerson 46 = .ok (.iastore, 1) := by decide +kernel
theorem dX3_addPerson_47 : decode cX3_addPerson 47 = .ok (.aload_n 0, 1) := by decide +kernel
theorem dX3_addPerson_48 : decode cX3_addPerson 48 = .ok (.getfield 21, 3) := by decide +kernel
theorem dX3_addPerson_51 : decode cX3_addPerson 51 = .ok (.iload 5, 2) := by decide +kernel
theorem dX3_addPerson_53 : decode cX3_addPerson 53 = .ok (.iload 4, 2) := by decide +kernel
theorem dX3_addPerson_55 : decode cX3_addPerson 55 = .ok (.iastore, 1) := by decide +kernel
theorem dX3_addPerson_56 : decode cX3_addPerson 56 = .ok (.iconst 0, 1) := by decide +kernel
theorem dX3_addPerson_57 : decode cX3_addPerson 57 = .ok (.istore 6, 2) := by decide +kernel
theorem dX3_addPerson_59 : decode cX3_addPerson 59 = .ok (.iload 6, 2) := by decide +kernel
theorem dX3_addPerson_61 : decode cX3_addPerson 61 = .ok (.iload 5, 2) := by decide +kernel
theorem dX3_addPerson_63 : decode cX3_addPerson 63 = .ok (.if_icmp .ge 56, 3) := by decide +kernel
theorem dX3_addPerson_66 : decode cX3_addPerson 66 = .ok (.iload 4, 2) := by decide +kernel
theorem dX3_addPerson_68 : decode cX3_addPerson 68 = .ok (.ifCond .le 45, 3) := by decide +kernel
theorem dX3_addPerson_71 : decode cX3_addPerson 71 = .ok (.aload_n 0, 1) := by decide +kernel
theorem dX3_addPerson_72 : decode cX3_addPerson 72 = .ok (.getfield 21, 3) := by decide +kernel
theorem dX3_addPerson_75 : decode cX3_addPerson 75 = .ok (.iload 6, 2) := by decide +kernel
theorem dX3_addPerson_77 : decode cX3_addPerson 77 = .ok (.iaload, 1) := by decide +kernel
theorem dX3_addPerson_78 : decode cX3_addPerson 78 = .ok (.iload 4, 2) := by decide +kernel
theorem dX3_addPerson_80 : decode cX3_addPerson 80 = .ok (.if_icmp .ne 33, 3) := by decide +kernel
theorem dX3_addPerson_83 : decode cX3_addPerson 83 = .ok (.aload_n 0, 1) := by decide +kernel
theorem dX3_addPerson_84 : decode cX3_addPerson 84 = .ok (.getfield 24, 3) := by decide +kernel
theorem dX3_addPerson_87 : decode cX3_addPerson 87 = .ok (.iload 6, 2) := by decide +kernel
theorem dX3_addPerson_89 : decode cX3_addPerson 89 = .ok (.dup2, 1) := by decide +kernel
theorem dX3_addPerson_90 : decode cX3_addPerson 90 = .ok (.iaload, 1) := by decide +kernel
theorem dX3_addPerson_91 : decode cX3_addPerson 91 = .ok (.iload 5, 2) := by decide +kernel
theorem dX3_addPerson_93 : decode cX3_addPerson 93 = .ok (.invokestatic 72, 3) := by decide +kernel
theorem dX3_addPerson_96 : decode cX3_addPerson 96 = .ok (.ior, 1) := by decide +kernel
theorem dX3_addPerson_97 : decode cX3_addPerson 97 = .ok (.iastore, 1) := by decide +kernel
theorem dX3_addPerson_98 : decode cX3_addPerson 98 = .ok (.aload_n 0, 1) := by decide +kernel
theorem dX3_addPerson_99 : decode cX3_addPerson 99 = .ok (.getfield 24, 3) := by decide +kernel
theorem dX3_addPerson_102 : decode cX3_addPerson 102 = .ok (.iload 5, 2) := by decide +kernel
theorem dX3_addPerson_104 : decode cX3_addPerson 104 = .ok (.dup2, 1) := by decide +kernel
theorem dX3_addPerson_105 : decode cX3_addPerson 105 = .ok (.iaload, 1) := by decide +kernel
theorem dX3_addPerson_106 : decode cX3_addPerson 106 = .ok (.iload 6, 2) := by decide +kernel
theorem dX3_addPerson_108 : decode cX3_addPerson 108 = .ok (.invokestatic 72, 3) := by decide +kernel
theorem dX3_addPerson_111 : decode cX3_addPerson 111 = .ok (.ior, 1) := by decide +kernel
theorem dX3_addPerson_112 : decode cX3_addPerson 112 = .ok (.iastore, 1) := by decide +kernel
theorem dX3_addPerson_113 : decode cX3_addPerson 113 = .ok (.iinc 6 1, 3) := by decide +kernel
theorem dX3_addPerson_116 : decode cX3_addPerson 116 = .ok (.goto (-57), 3) := by decide +kernel
theorem dX3_addPerson_119 : decode cX3_addPerson 119 = .ok (.aload_n 0, 1) := by decide +kernel
theorem dX3_addPerson_120 : decode cX3_addPerson 120 = .ok (.dup, 1) := by decide +kernel
theorem dX3_addPerson_121 : decode cX3_addPerson 121 = .ok (.getfield 42, 3) := by decide +kernel
theorem dX3_addPerson_124 : decode cX3_addPerson 124 = .ok (.iconst 1, 1) := by decide +kernel
theorem dX3_addPerson_125 : decode cX3_addPerson 125 = .ok (.iadd, 1) := by decide +kernel
theorem dX3_addPerson_126 : decode cX3_addPerson 126 = .ok (.putfield 42, 3) := by decide +kernel
theorem dX3_addPerson_129 : decode cX3_addPerson 129 = .ok (.iconst 1, 1) := by decide +kernel
theorem dX3_addPerson_130 : decode cX3_addPerson 130 = .ok (.ireturn, 1) := by decide +kernel
set_option maxRecDepth 20000 in
theorem ggX3_addMinutes_X3_has : GoodIn wsX3_addMinutes wsX3_has := goodIn_r _ [8, 9, 13, 14, 15, 16, 17, 18, 19, 20, 21, 22, 23, 24, 25] (by decide +kernel) (by decide +kernel)
set_option maxRecDepth 20000 in
theorem gX3_addMinutes_X3_has : GoodIn wsX3_addMinutes (wsV RX3 58 RX3 yX3_has wsX3_has) := goodIn_app (goodIn_of _ (by decide +kernel)) ggX3_addMinutes_X3_has
set_option maxRecDepth 20000 in
theorem ggX3_addMinutes_X5_bit : GoodIn wsX3_addMinutes wsX5_bit := goodIn_r _ [12] (by decide +kernel) (by decide +kernel)
set_option maxRecDepth 20000 in
theorem gX3_addMinutes_X5_bit_n72 : GoodIn wsX3_addMinutes (wsX5_bit) := ggX3_addMinutes_X5_bit
theorem dX3_addMinutes_0 : decode cX3_addMinutes 0 = .ok (.aload_n 0, 1) := by decide +kernel
theorem dX3_addMinutes_1 : decode cX3_addMinutes 1 = .ok (.iload_n 1, 1) := by decide +kernel
theorem dX3_addMinutes_2 : decode cX3_addMinutes 2 = .ok (.invokevirtual 58, 3) := by decide +kernel
theorem dX3_addMinutes_5 : decode cX3_addMinutes 5 = .ok (.ifCond .eq 27, 3) := by decide +kernel
theorem dX3_addMinutes_8 : decode cX3_addMinutes 8 = .ok (.aload_n 0, 1) := by decide +kernel
theorem dX3_addMinutes_9 : decode cX3_addMinutes 9 = .ok (.iload_n 2, 1) := by decide +kernel
theorem dX3_addMinutes_10 : decode cX3_addMinutes 10 = .ok (.invokevirtual 58, 3) := by decide +kernel
theorem dX3_addMinutes_13 : decode cX3_addMinutes 13 = .ok (.ifCond .eq 19, 3) := by decide +kernel
theorem dX3_addMinutes_16 : decode cX3_addMinutes 16 = .ok (.iload_n 1, 1) := by decide +kernel
theorem dX3_addMinutes_17 : decode cX3_addMinutes 17 = .ok (.iload_n 2, 1) := by decide +kernel
theorem dX3_addMinutes_18 : decode cX3_addMinutes 18 = .ok (.if_icmp .eq 14, 3) := by decide +kernel
theorem dX3_addMinutes_21 : decode cX3_addMinutes 21 = .ok (.iload_n 3, 1) := by decide +kernel
theorem dX3_addMinutes_22 : decode cX3_addMinutes 22 = .ok (.iconst 1, 1) := by decide +kernel
theorem dX3_addMinutes_23 : decode cX3_addMinutes 23 = .ok (.if_icmp .lt 9, 3) := by decide +kernel
theorem dX3_addMinutes_26 : decode cX3_addMinutes 26 = .ok (.iload_n 3, 1) := by decide +kernel
theorem dX3_addMinutes_27 : decode cX3_addMinutes 27 = .ok (.bipush 60, 2) := by decide +kernel
theorem dX3_addMinutes_29 : decode cX3_addMinutes 29 = .ok (.if_icmp .le 5, 3) := by decide +kernel
theorem dX3_addMinutes_32 : decode cX3_addMinutes 32 = .ok (.iconst 0, 1) := by decide +kernel
theorem dX3_addMinutes_33 : decode cX3_addMinutes 33 = .ok (.ireturn, 1) := by decide +kernel
theorem dX3_addMinutes_34 : decode cX3_addMinutes 34 = .ok (.aload_n 0, 1) := by decide +kernel
theorem dX3_addMinutes_35 : decode cX3_addMinutes 35 = .ok (.getfield 33, 3) := by decide +kernel
theorem dX3_addMinutes_38 : decode cX3_addMinutes 38 = .ok (.iload_n 1, 1) := by decide +kernel
theorem dX3_addMinutes_39 : decode cX3_addMinutes 39 = .ok (.bipush 8, 2) := by decide +kernel
theorem dX3_addMinutes_41 : decode cX3_addMinutes 41 = .ok (.imul, 1) := by decide +kernel
theorem dX3_addMinutes_42 : decode cX3_addMinutes 42 = .ok (.iload_n 2, 1) := by decide +kernel
theorem dX3_addMinutes_43 : decode cX3_addMinutes 43 = .ok (.iadd, 1) := by decide +kernel
theorem dX3_addMinutes_44 : decode cX3_addMinutes 44 = .ok (.iload_n 3, 1) := by decide +kernel
theorem dX3_addMinutes_45 : decode cX3_addMinutes 45 = .ok (.iastore, 1) := by decide +kernel
theorem dX3_addMinutes_46 : decode cX3_addMinutes 46 = .ok (.aload_n 0, 1) := by decide +kernel
theorem dX3_addMinutes_47 : decode cX3_addMinutes 47 = .ok (.getfield 27, 3) := by decide +kernel
theorem dX3_addMinutes_50 : decode cX3_addMinutes 50 = .ok (.iload_n 1, 1) := by decide +kernel
theorem dX3_addMinutes_51 : decode cX3_addMinutes 51 = .ok (.dup2, 1) := by decide +kernel
theorem dX3_addMinutes_52 : decode cX3_addMinutes 52 = .ok (.iaload, 1) := by decide +kernel
theorem dX3_addMinutes_53 : decode cX3_addMinutes 53 = .ok (.iload_n 2, 1) := by decide +kernel
theorem dX3_addMinutes_54 : decode cX3_addMinutes 54 = .ok (.invokestatic 72, 3) := by decide +kernel
theorem dX3_addMinutes_57 : decode cX3_addMinutes 57 = .ok (.ior, 1) := by decide +kernel
theorem dX3_addMinutes_58 : decode cX3_addMinutes 58 = .ok (.iastore, 1) := by decide +kernel
theorem dX3_addMinutes_59 : decode cX3_addMinutes 59 = .ok (.aload_n 0, 1) := by decide +kernel
theorem dX3_addMinutes_60 : decode cX3_addMinutes 60 = .ok (.getfield 30, 3) := by decide +kernel
theorem dX3_addMinutes_63 : decode cX3_addMinutes 63 = .ok (.iload_n 2, 1) := by decide +kernel
theorem dX3_addMinutes_64 : decode cX3_addMinutes 64 = .ok (.dup2, 1) := by decide +kernel
theorem dX3_addMinutes_65 : decode cX3_addMinutes 65 = .ok (.iaload, 1) := by decide +kernel
theorem dX3_addMinutes_66 : decode cX3_addMinutes 66 = .ok (.iload_n 1, 1) := by decide +kernel
theorem dX3_addMinutes_67 : decode cX3_addMinutes 67 = .ok (.invokestatic 72, 3) := by decide +kernel
theorem dX3_addMinutes_70 : decode cX3_addMinutes 70 = .ok (.ior, 1) := by decide +kernel
theorem dX3_addMinutes_71 : decode cX3_addMinutes 71 = .ok (.iastore, 1) := by decide +kernel
theorem dX3_addMinutes_72 : decode cX3_addMinutes 72 = .ok (.iload 4, 2) := by decide +kernel
theorem dX3_addMinutes_74 : decode cX3_addMinutes 74 = .ok (.ifCond .eq 41, 3) := by decide +kernel
theorem dX3_addMinutes_77 : decode cX3_addMinutes 77 = .ok (.aload_n 0, 1) := by decide +kernel
theorem dX3_addMinutes_78 : decode cX3_addMinutes 78 = .ok (.getfield 33, 3) := by decide +kernel
theorem dX3_addMinutes_81 : decode cX3_addMinutes 81 = .ok (.iload_n 2, 1) := by decide +kernel
theorem dX3_addMinutes_82 : decode cX3_addMinutes 82 = .ok (.bipush 8, 2) := by decide +kernel
theorem dX3_addMinutes_84 : decode cX3_addMinutes 84 = .ok (.imul, 1) := by decide +kernel
theorem dX3_addMinutes_85 : decode cX3_addMinutes 85 = .ok (.iload_n 1, 1) := by decide +kernel
theorem dX3_addMinutes_86 : decode cX3_addMinutes 86 = .ok (.iadd, 1) := by decide +kernel
theorem dX3_addMinutes_87 : decode cX3_addMinutes 87 = .ok (.iload_n 3, 1) := by decide +kernel
theorem dX3_addMinutes_88 : decode cX3_addMinutes 88 = .ok (.iastore, 1) := by decide +kernel
theorem dX3_addMinutes_89 : decode cX3_addMinutes 89 = .ok (.aload_n 0, 1) := by decide +kernel
theorem dX3_addMinutes_90 : decode cX3_addMinutes 90 = .ok (.getfield 27, 3) := by decide +kernel
theorem dX3_addMinutes_93 : decode cX3_addMinutes 93 = .ok (.iload_n 2, 1) := by decide +kernel
theorem dX3_addMinutes_94 : decode cX3_addMinutes 94 = .ok (.dup2, 1) := by decide +kernel
theorem dX3_addMinutes_95 : decode cX3_addMinutes 95 = .ok (.iaload, 1) := by decide +kernel
theorem dX3_addMinutes_96 : decode cX3_addMinutes 96 = .ok (.iload_n 1, 1) := by decide +kernel
theorem dX3_addMinutes_97 : decode cX3_addMinutes 97 = .ok (.invokestatic 72, 3) := by decide +kernel
theorem dX3_addMinutes_100 : decode cX3_addMinutes 100 = .ok (.ior, 1) := by decide +kernel
theorem dX3_addMinutes_101 : decode cX3_addMinutes 101 = .ok (.iastore, 1) := by decide +kernel
theorem dX3_addMinutes_102 : decode cX3_addMinutes 102 = .ok (.aload_n 0, 1) := by decide +kernel
theorem dX3_addMinutes_103 : decode cX3_addMinutes 103 = .ok (.getfield 30, 3) := by decide +kernel
theorem dX3_addMinutes_106 : decode cX3_addMinutes 106 = .ok (.iload_n 1, 1) := by decide +kernel
theorem dX3_addMinutes_107 : decode cX3_addMinutes 107 = .ok (.dup2, 1) := by decide +kernel
theorem dX3_addMinutes_108 : decode cX3_addMinutes 108 = .ok (.iaload, 1) := by decide +kernel
theorem dX3_addMinutes_109 : decode cX3_addMinutes 109 = .ok (.iload_n 2, 1) := by decide +kernel
theorem dX3_addMinutes_110 : decode cX3_addMinutes 110 = .ok (.invokestatic 72, 3) := by decide +kernel
theorem dX3_addMinutes_113 : decode cX3_addMinutes 113 = .ok (.ior, 1) := by decide +kernel
theorem dX3_addMinutes_114 : decode cX3_addMinutes 114 = .ok (.iastore, 1) := by decide +kernel
theorem dX3_addMinutes_115 : decode cX3_addMinutes 115 = .ok (.iconst 1, 1) := by decide +kernel
theorem dX3_addMinutes_116 : decode cX3_addMinutes 116 = .ok (.ireturn, 1) := by decide +kernel
theorem dX3_setLaw_0 : decode cX3_setLaw 0 = .ok (.iload_n 1, 1) := by decide +kernel
theorem dX3_setLaw_1 : decode cX3_setLaw 1 = .ok (.ifCond .lt 8, 3) := by decide +kernel
theorem dX3_setLaw_4 : decode cX3_setLaw 4 = .ok (.iload_n 1, 1) := by decide +kernel
theorem dX3_setLaw_5 : decode cX3_setLaw 5 = .ok (.iconst 4, 1) := by decide +kernel
theorem dX3_setLaw_6 : decode cX3_setLaw 6 = .ok (.if_icmp .le 5, 3) := by decide +kernel
theorem dX3_setLaw_9 : decode cX3_setLaw 9 = .ok (.iconst 0, 1) := by decide +kernel
theorem dX3_setLaw_10 : decode cX3_setLaw 10 = .ok (.ireturn, 1) := by decide +kernel
theorem dX3_setLaw_11 : decode cX3_setLaw 11 = .ok (.aload_n 0, 1) := by decide +kernel
theorem dX3_setLaw_12 : decode cX3_setLaw 12 = .ok (.iload_n 1, 1) := by decide +kernel
theorem dX3_setLaw_13 : decode cX3_setLaw 13 = .ok (.putfield 46, 3) := by decide +kernel
theorem dX3_setLaw_16 : decode cX3_setLaw 16 = .ok (.iconst 1, 1) := by decide +kernel
theorem dX3_setLaw_17 : decode cX3_setLaw 17 = .ok (.ireturn, 1) := by decide +kernel
set_option maxRecDepth 20000 in
theorem ggX3_setAsker_X3_has : GoodIn wsX3_setAsker wsX3_has := goodIn_r _ [6, 7, 8, 9, 10, 11, 12, 13, 14, 15, 16, 17, 18, 19, 20] (by decide +kernel) (by decide +kernel)
set_option maxRecDepth 20000 in
theorem gX3_setAsker_X3_has : GoodIn wsX3_setAsker (wsV RX3 58 RX3 yX3_has wsX3_has) := goodIn_app (goodIn_of _ (by decide +kernel)) ggX3_setAsker_X3_has
theorem dX3_setAsker_0 : decode cX3_setAsker 0 = .ok (.aload_n 0, 1) := by decide +kernel
theorem dX3_setAsker_1 : decode cX3_setAsker 1 = .ok (.iload_n 1, 1) := by decide +kernel
theorem dX3_setAsker_2 : decode cX3_setAsker 2 = .ok (.invokevirtual 58, 3) := by decide +kernel
theorem dX3_setAsker_5 : decode cX3_setAsker 5 = .ok (.ifCond .eq 10, 3) := by decide +kernel
theorem dX3_setAsker_8 : decode cX3_setAsker 8 = .ok (.aload_n 0, 1) := by decide +kernel
theorem dX3_setAsker_9 : decode cX3_setAsker 9 = .ok (.getfield 9, 3) := by decide +kernel
theorem dX3_setAsker_12 : decode cX3_setAsker 12 = .ok (.iload_n 1, 1) := by decide +kernel
theorem dX3_setAsker_13 : decode cX3_setAsker 13 = .ok (.iload_n 2, 1) := by decide +kernel
theorem dX3_setAsker_14 : decode cX3_setAsker 14 = .ok (.iastore, 1) := by decide +kernel
theorem dX3_setAsker_15 : decode cX3_setAsker 15 = .ok (.return_, 1) := by decide +kernel
set_option maxRecDepth 20000 in
theorem ggX3_setSayer_X3_has : GoodIn wsX3_setSayer wsX3_has := goodIn_r _ [6, 7, 8, 9, 10, 11, 12, 13, 14, 15, 16, 17, 18, 19, 20] (by decide +kernel) (by decide +kernel)
set_option maxRecDepth 20000 in
theorem gX3_setSayer_X3_has : GoodIn wsX3_setSayer (wsV RX3 58 RX3 yX3_has wsX3_has) := goodIn_app (goodIn_of _ (by decide +kernel)) ggX3_setSayer_X3_has
theorem dX3_setSayer_0 : decode cX3_setSayer 0 = .ok (.aload_n 0, 1) := by decide +kernel
theorem dX3_setSayer_1 : decode cX3_setSayer 1 = .ok (.iload_n 1, 1) := by decide +kernel
theorem dX3_setSayer_2 : decode cX3_setSayer 2 = .ok (.invokevirtual 58, 3) := by decide +kernel
theorem dX3_setSayer_5 : decode cX3_setSayer 5 = .ok (.ifCond .eq 10, 3) := by decide +kernel
theorem dX3_setSayer_8 : decode cX3_setSayer 8 = .ok (.aload_n 0, 1) := by decide +kernel
theorem dX3_setSayer_9 : decode cX3_setSayer 9 = .ok (.getfield 15, 3) := by decide +kernel
theorem dX3_setSayer_12 : decode cX3_setSayer 12 = .ok (.iload_n 1, 1) := by decide +kernel
theorem dX3_setSayer_13 : decode cX3_setSayer 13 = .ok (.iload_n 2, 1) := by decide +kernel
theorem dX3_setSayer_14 : decode cX3_setSayer 14 = .ok (.iastore, 1) := by decide +kernel
theorem dX3_setSayer_15 : decode cX3_setSayer 15 = .ok (.return_, 1) := by decide +kernel
set_option maxRecDepth 20000 in
theorem ggX3_silence_X3_has : GoodIn wsX3_silence wsX3_has := goodIn_r _ [6, 7, 8, 9, 10, 11, 12, 13, 14, 15, 16, 17, 18, 19, 20] (by decide +kernel) (by decide +kernel)
set_option maxRecDepth 20000 in
theorem gX3_silence_X3_has : GoodIn wsX3_silence (wsV RX3 58 RX3 yX3_has wsX3_has) := goodIn_app (goodIn_of _ (by decide +kernel)) ggX3_silence_X3_has
theorem dX3_silence_0 : decode cX3_silence 0 = .ok (.aload_n 0, 1) := by decide +kernel
theorem dX3_silence_1 : decode cX3_silence 1 = .ok (.iload_n 1, 1) := by decide +kernel
theorem dX3_silence_2 : decode cX3_silence 2 = .ok (.invokevirtual 58, 3) := by decide +kernel
theorem dX3_silence_5 : decode cX3_silence 5 = .ok (.ifCond .eq 10, 3) := by decide +kernel
theorem dX3_silence_8 : decode cX3_silence 8 = .ok (.aload_n 0, 1) := by decide +kernel
theorem dX3_silence_9 : decode cX3_silence 9 = .ok (.getfield 27, 3) := by decide +kernel
theorem dX3_silence_12 : decode cX3_silence 12 = .ok (.iload_n 1, 1) := by decide +kernel
theorem dX3_silence_13 : decode cX3_silence 13 = .ok (.iconst 0, 1) := by decide +kernel
theorem dX3_silence_14 : decode cX3_silence 14 = .ok (.iastore, 1) := by decide +kernel
theorem dX3_silence_15 : decode cX3_silence 15 = .ok (.return_, 1) := by decide +kernel
set_option maxRecDepth 20000 in
theorem ggX3_openTo_X3_has : GoodIn wsX3_openTo wsX3_has := goodIn_r _ [9, 10, 27, 28, 29, 30, 31, 32, 33, 34, 35, 36, 37, 38, 39] (by decide +kernel) (by decide +kernel)
set_option maxRecDepth 20000 in
theorem gX3_openTo_X3_has : GoodIn wsX3_openTo (wsV RX3 58 RX3 yX3_has wsX3_has) := goodIn_app (goodIn_of _ (by decide +kernel)) ggX3_openTo_X3_has
set_option maxRecDepth 20000 in
theorem ggX3_openTo_J6_bitCount_0f7a4 : GoodIn wsX3_openTo wsJ6_bitCount_0f7a4 := goodIn_r _ [14, 15, 16, 17] (by decide +kernel) (by decide +kernel)
set_option maxRecDepth 20000 in
theorem gX3_openTo_J6_bitCount_0f7a4 : GoodIn wsX3_openTo (va_wsS RX3 66 yJ6_bitCount_0f7a4 wsJ6_bitCount_0f7a4) := goodIn_app (goodIn_of _ (by decide +kernel)) ggX3_openTo_J6_bitCount_0f7a4
set_option maxRecDepth 20000 in
theorem ggX3_openTo_X3_isStopped : GoodIn wsX3_openTo wsX3_isStopped := goodIn_r _ [21, 3, 27, 28, 29, 30, 31, 32, 33, 34, 35, 36, 37, 38, 39] (by decide +kernel) (by decide +kernel)
set_option maxRecDepth 20000 in
theorem gX3_openTo_X3_isStopped : GoodIn wsX3_openTo (wsV RX3 75 RX3 yX3_isStopped wsX3_isStopped) := goodIn_app (goodIn_of _ (by decide +kernel)) ggX3_openTo_X3_isStopped
set_option maxRecDepth 20000 in
theorem ggX3_openTo_X3_withoutMatesOf : GoodIn wsX3_openTo wsX3_withoutMatesOf := goodIn_r _ [25, 26, 27, 28, 29, 30, 31, 32, 33, 34, 35, 36, 37, 38, 39] (by decide +kernel) (by decide +kernel)
set_option maxRecDepth 20000 in
theorem gX3_openTo_X3_withoutMatesOf : GoodIn wsX3_openTo (wsV RX3 78 RX3 yX3_withoutMatesOf wsX3_withoutMatesOf) := goodIn_app (goodIn_of _ (by decide +kernel)) ggX3_openTo_X3_withoutMatesOf
theorem dX3_openTo_0 : decode cX3_openTo 0 = .ok (.aload_n 0, 1) := by decide +kernel
theorem dX3_openTo_1 : decode cX3_openTo 1 = .ok (.iload_n 1, 1) := by decide +kernel
theorem dX3_openTo_2 : decode cX3_openTo 2 = .ok (.invokevirtual 58, 3) := by decide +kernel
theorem dX3_openTo_5 : decode cX3_openTo 5 = .ok (.ifCond .eq 16, 3) := by decide +kernel
theorem dX3_openTo_8 : decode cX3_openTo 8 = .ok (.aload_n 0, 1) := by decide +kernel
theorem dX3_openTo_9 : decode cX3_openTo 9 = .ok (.iload_n 2, 1) := by decide +kernel
theorem dX3_openTo_10 : decode cX3_openTo 10 = .ok (.invokestatic 66, 3) := by decide +kernel
theorem dX3_openTo_13 : decode cX3_openTo 13 = .ok (.iconst 1, 1) := by decide +kernel
theorem dX3_openTo_14 : decode cX3_openTo 14 = .ok (.isub, 1) := by decide +kernel
theorem dX3_openTo_15 : decode cX3_openTo 15 = .ok (.invokevirtual 75, 3) := by decide +kernel
theorem dX3_openTo_18 : decode cX3_openTo 18 = .ok (.ifCond .eq 5, 3) := by decide +kernel
theorem dX3_openTo_21 : decode cX3_openTo 21 = .ok (.iconst 0, 1) := by decide +kernel
theorem dX3_openTo_22 : decode cX3_openTo 22 = .ok (.ireturn, 1) := by decide +kernel
theorem dX3_openTo_23 : decode cX3_openTo 23 = .ok (.aload_n 0, 1) := by decide +kernel
theorem dX3_openTo_24 : decode cX3_openTo 24 = .ok (.getfield 49, 3) := by decide +kernel
theorem dX3_openTo_27 : decode cX3_openTo 27 = .ok (.iload_n 2, 1) := by decide +kernel
theorem dX3_openTo_28 : decode cX3_openTo 28 = .ok (.ior, 1) := by decide +kernel
theorem dX3_openTo_29 : decode cX3_openTo 29 = .ok (.istore_n 3, 1) := by decide +kernel
theorem dX3_openTo_30 : decode cX3_openTo 30 = .ok (.aload_n 0, 1) := by decide +kernel
theorem dX3_openTo_31 : decode cX3_openTo 31 = .ok (.getfield 27, 3) := by decide +kernel
theorem dX3_openTo_34 : decode cX3_openTo 34 = .ok (.iload_n 1, 1) := by decide +kernel
theorem dX3_openTo_35 : decode cX3_openTo 35 = .ok (.iaload, 1) := by decide +kernel
theorem dX3_openTo_36 : decode cX3_openTo 36 = .ok (.iload_n 3, 1) := by decide +kernel
theorem dX3_openTo_37 : decode cX3_openTo 37 = .ok (.iconst (-1), 1) := by decide +kernel
theorem dX3_openTo_38 : decode cX3_openTo 38 = .ok (.ixor, 1) := by decide +kernel
theorem dX3_openTo_39 : decode cX3_openTo 39 = .ok (.iand, 1) := by decide +kernel
theorem dX3_openTo_40 : decode cX3_openTo 40 = .ok (.istore 4, 2) := by decide +kernel
theorem dX3_openTo_42 : decode cX3_openTo 42 = .ok (.aload_n 0, 1) := by decide +kernel
theorem dX3_openTo_43 : decode cX3_openTo 43 = .ok (.getfield 46, 3) := by decide +kernel
theorem dX3_openTo_46 : decode cX3_openTo 46 = .ok (.iconst 4, 1) := by decide +kernel
theorem dX3_openTo_47 : decode cX3_openTo 47 = .ok (.if_icmp .ne 14, 3) := by decide +kernel
theorem dX3_openTo_50 : decode cX3_openTo 50 = .ok (.iload 4, 2) := by decide +kernel
theorem dX3_openTo_52 : decode cX3_openTo 52 = .ok (.aload_n 0, 1) := by decide +kernel
theorem dX3_openTo_53 : decode cX3_openTo 53 = .ok (.getfield 30, 3) := by decide +kernel
theorem dX3_openTo_56 : decode cX3_openTo 56 = .ok (.iload_n 1, 1) := by decide +kernel
theorem dX3_openTo_57 : decode cX3_openTo 57 = .ok (.iaload, 1) := by decide +kernel
theorem dX3_openTo_58 : decode cX3_openTo 58 = .ok (.iand, 1) := by decide +kernel
theorem dX3_openTo_59 : decode cX3_openTo 59 = .ok (.istore 4, 2) := by decide +kernel
theorem dX3_openTo_61 : decode cX3_openTo 61 = .ok (.aload_n 0, 1) := by decide +kernel
theorem dX3_openTo_62 : decode cX3_openTo 62 = .ok (.getfield 46, 3) := by decide +kernel
theorem dX3_openTo_65 : decode cX3_openTo 65 = .ok (.iconst 1, 1) := by decide +kernel
theorem dX3_openTo_66 : decode cX3_openTo 66 = .ok (.if_icmp .eq 11, 3) := by decide +kernel
theorem dX3_openTo_69 : decode cX3_openTo 69 = .ok (.aload_n 0, 1) := by decide +kernel
theorem dX3_openTo_70 : decode cX3_openTo 70 = .ok (.getfield 46, 3) := by decide +kernel
theorem dX3_openTo_73 : decode cX3_openTo 73 = .ok (.iconst 4, 1) := by decide +kernel
theorem dX3_openTo_74 : decode cX3_openTo 74 = .ok (.if_icmp .ne 12, 3) := by decide +kernel
theorem dX3_openTo_77 : decode cX3_openTo 77 = .ok (.aload_n 0, 1) := by decide +kernel
theorem dX3_openTo_78 : decode cX3_openTo 78 = .ok (.iload_n 3, 1) := by decide +kernel
theorem dX3_openTo_79 : decode cX3_openTo 79 = .ok (.iload 4, 2) := by decide +kernel
theorem dX3_openTo_81 : decode cX3_openTo 81 = .ok (.invokevirtual 78, 3) := by decide +kernel
theorem dX3_openTo_84 : decode cX3_openTo 84 = .ok (.istore 4, 2) := by decide +kernel
theorem dX3_openTo_86 : decode cX3_openTo 86 = .ok (.iload 4, 2) := by decide +kernel
theorem dX3_openTo_88 : decode cX3_openTo 88 = .ok (.ireturn, 1) := by decide +kernel
theorem dX3_isStopped_0 : decode cX3_isStopped 0 = .ok (.aload_n 0, 1) := by decide +kernel
theorem dX3_isStopped_1 : decode cX3_isStopped 1 = .ok (.getfield 46, 3) := by decide +kernel
theorem dX3_isStopped_4 : decode cX3_isStopped 4 = .ok (.iconst 2, 1) := by decide +kernel
theorem dX3_isStopped_5 : decode cX3_isStopped 5 = .ok (.if_icmp .ne 8, 3) := by decide +kernel
theorem dX3_isStopped_8 : decode cX3_isStopped 8 = .ok (.iload_n 1, 1) := by decide +kernel
theorem dX3_isStopped_9 : decode cX3_isStopped 9 = .ok (.iconst 3, 1) := by decide +kernel
theorem dX3_isStopped_10 : decode cX3_isStopped 10 = .ok (.if_icmp .ge 17, 3) := by decide +kernel
theorem dX3_isStopped_13 : decode cX3_isStopped 13 = .ok (.aload_n 0, 1) := by decide +kernel
theorem dX3_isStopped_14 : decode cX3_isStopped 14 = .ok (.getfield 46, 3) := by decide +kernel
theorem dX3_isStopped_17 : decode cX3_isStopped 17 = .ok (.iconst 3, 1) := by decide +kernel
theorem dX3_isStopped_18 : decode cX3_isStopped 18 = .ok (.if_icmp .ne 13, 3) := by decide +kernel
theorem dX3_isStopped_21 : decode cX3_isStopped 21 = .ok (.iload_n 1, 1) := by decide +kernel
theorem dX3_isStopped_22 : decode cX3_isStopped 22 = .ok (.bipush 6, 2) := by decide +kernel
theorem dX3_isStopped_24 : decode cX3_isStopped 24 = .ok (.if_icmp .lt 7, 3) := by decide +kernel
theorem dX3_isStopped_27 : decode cX3_isStopped 27 = .ok (.iconst 1, 1) := by decide +kernel
theorem dX3_isStopped_28 : decode cX3_isStopped 28 = .ok (.goto 4, 3) := by decide +kernel
theorem dX3_isStopped_31 : decode cX3_isStopped 31 = .ok (.iconst 0, 1) := by decide +kernel
theorem dX3_isStopped_32 : decode cX3_isStopped 32 = .ok (.ireturn, 1) := by decide +kernel
theorem dX3_withoutMatesOf_0 : decode cX3_withoutMatesOf 0 = .ok (.iload_n 2, 1) := by decide +kernel
theorem dX3_withoutMatesOf_1 : decode cX3_withoutMatesOf 1 = .ok (.istore_n 3, 1) := by decide +kernel
theorem dX3_withoutMatesOf_2 : decode cX3_withoutMatesOf 2 = .ok (.iconst 0, 1) := by decide +kernel
theorem dX3_withoutMatesOf_3 : decode cX3_withoutMatesOf 3 = .ok (.istore 4, 2) := by decide +kernel
theorem dX3_withoutMatesOf_5 : decode cX3_withoutMatesOf 5 = .ok (.iload 4, 2) := by decide +kernel
theorem dX3_withoutMatesOf_7 : decode cX3_withoutMatesOf 7 = .ok (.bipush 8, 2) := by decide +kernel
theorem dX3_withoutMatesOf_9 : decode cX3_withoutMatesOf 9 = .ok (.if_icmp .ge 30, 3) := by decide +kernel
theorem dX3_withoutMatesOf_12 : decode cX3_withoutMatesOf 12 = .ok (.aload_n 0, 1) := by decide +kernel
theorem dX3_withoutMatesOf_13 : decode cX3_withoutMatesOf 13 = .ok (.getfield 24, 3) := by decide +kernel
theorem dX3_withoutMatesOf_16 : decode cX3_withoutMatesOf 16 = .ok (.iload 4, 2) := by decide +kernel
theorem dX3_withoutMatesOf_18 : decode cX3_withoutMatesOf 18 = .ok (.iaload, 1) := by decide +kernel
theorem dX3_withoutMatesOf_19 : decode cX3_withoutMatesOf 19 = .ok (.iload_n 1, 1) := by decide +kernel
theorem dX3_withoutMatesOf_20 : decode cX3_withoutMatesOf 20 = .ok (.iand, 1) := by decide +kernel
theorem dX3_withoutMatesOf_21 : decode cX3_withoutMatesOf 21 = .ok (.ifCond .eq 12, 3) := by decide +kernel
theorem dX3_withoutMatesOf_24 : decode cX3_withoutMatesOf 24 = .ok (.iload_n 3, 1) := by decide +kernel
theorem dX3_withoutMatesOf_25 : decode cX3_withoutMatesOf 25 = .ok (.iconst 1, 1) := by decide +kernel
theorem dX3_withoutMatesOf_26 : decode cX3_withoutMatesOf 26 = .ok (.iload 4, 2) := by decide +kernel
theorem dX3_withoutMatesOf_28 : decode cX3_withoutMatesOf 28 = .ok (.ishl, 1) := by decide +kernel
theorem dX3_withoutMatesOf_29 : decode cX3_withoutMatesOf 29 = .ok (.iconst (-1), 1) := by decide +kernel
theorem dX3_withoutMatesOf_30 : decode cX3_withoutMatesOf 30 = .ok (.ixor, 1) := by decide +kernel
theorem dX3_withoutMatesOf_31 : decode cX3_withoutMatesOf 31 = .ok (.iand, 1) := by decide +kernel
theorem dX3_withoutMatesOf_32 : decode cX3_withoutMatesOf 32 = .ok (.istore_n 3, 1) := by decide +kernel
theorem dX3_withoutMatesOf_33 : decode cX3_withoutMatesOf 33 = .ok (.iinc 4 1, 3) := by decide +kernel
theorem dX3_withoutMatesOf_36 : decode cX3_withoutMatesOf 36 = .ok (.goto (-31), 3) := by decide +kernel
theorem dX3_withoutMatesOf_39 : decode cX3_withoutMatesOf 39 = .ok (.iload_n 3, 1) := by decide +kernel
theorem dX3_withoutMatesOf_40 : decode cX3_withoutMatesOf 40 = .ok (.ireturn, 1) := by decide +kernel
set_option maxRecDepth 20000 in
theorem ggX3_nextOf_X3_openTo : GoodIn wsX3_nextOf wsX3_openTo := goodIn_r _ [5, 6, 7, 8, 9, 10, 11, 12, 4, 13, 14, 15, 16, 17, 18, 19, 20, 21, 22, 23, 24, 25, 26, 27, 28, 29, 30, 48, 49, 50, 51, 52, 53, 54, 55, 56, 57, 58, 59, 60] (by decide +kernel) (by decide +kernel)
set_option maxRecDepth 20000 in
theorem gX3_nextOf_X3_openTo : GoodIn wsX3_nextOf (wsV RX3 82 RX3 yX3_openTo wsX3_openTo) := goodIn_app (goodIn_of _ (by decide +kernel)) ggX3_nextOf_X3_openTo
set_option maxRecDepth 20000 in
theorem ggX3_nextOf_X5_holds : GoodIn wsX3_nextOf wsX5_holds := goodIn_r _ [33, 34, 35, 32, 36] (by decide +kernel) (by decide +kernel)
set_option maxRecDepth 20000 in
theorem gX3_nextOf_X5_holds_n62 : GoodIn wsX3_nextOf (wsX5_holds) := ggX3_nextOf_X5_holds
set_option maxRecDepth 20000 in
theorem ggX3_nextOf_X3_rankOf : GoodIn wsX3_nextOf wsX3_rankOf := goodIn_r _ [40, 41, 42, 10, 11, 12, 4, 13, 14, 43, 44, 45, 46, 47, 35, 32, 36, 1, 2, 3, 5, 6, 7, 8, 9, 15, 16, 17, 18, 19, 20, 21, 22, 23, 24, 25, 26, 27, 28, 29, 30, 48, 49, 50, 51, 52, 53, 54, 55, 56, 57, 58, 59, 60] (by decide +kernel) (by decide +kernel)
set_option maxRecDepth 20000 in
theorem gX3_nextOf_X3_rankOf : GoodIn wsX3_nextOf (wsV RX3 85 RX3 yX3_rankOf wsX3_rankOf) := goodIn_app (goodIn_of _ (by decide +kernel)) ggX3_nextOf_X3_rankOf
theorem dX3_nextOf_0 : decode cX3_nextOf 0 = .ok (.aload_n 0, 1) := by decide +kernel
theorem dX3_nextOf_1 : decode cX3_nextOf 1 = .ok (.iload_n 1, 1) := by decide +kernel
theorem dX3_nextOf_2 : decode cX3_nextOf 2 = .ok (.iload_n 2, 1) := by decide +kernel
theorem dX3_nextOf_3 : decode cX3_nextOf 3 = .ok (.invokevirtual 82, 3) := by decide +kernel
theorem dX3_nextOf_6 : decode cX3_nextOf 6 = .ok (.istore_n 3, 1) := by decide +kernel
theorem dX3_nextOf_7 : decode cX3_nextOf 7 = .ok (.iconst (-1), 1) := by decide +kernel
theorem dX3_nextOf_8 : decode cX3_nextOf 8 = .ok (.istore 4, 2) := by decide +kernel
theorem dX3_nextOf_10 : decode cX3_nextOf 10 = .ok (.iconst 0, 1) := by decide +kernel
theorem dX3_nextOf_11 : decode cX3_nextOf 11 = .ok (.istore 5, 2) := by decide +kernel
theorem dX3_nextOf_13 : decode cX3_nextOf 13 = .ok (.iconst 0, 1) := by decide +kernel
theorem dX3_nextOf_14 : decode cX3_nextOf 14 = .ok (.istore 6, 2) := by decide +kernel
theorem dX3_nextOf_16 : decode cX3_nextOf 16 = .ok (.iload 6, 2) := by decide +kernel
theorem dX3_nextOf_18 : decode cX3_nextOf 18 = .ok (.bipush 8, 2) := by decide +kernel
theorem dX3_nextOf_20 : decode cX3_nextOf 20 = .ok (.if_icmp .ge 49, 3) := by decide +kernel
theorem dX3_nextOf_23 : decode cX3_nextOf 23 = .ok (.iload_n 3, 1) := by decide +kernel
theorem dX3_nextOf_24 : decode cX3_nextOf 24 = .ok (.iload 6, 2) := by decide +kernel
theorem dX3_nextOf_26 : decode cX3_nextOf 26 = .ok (.invokestatic 62, 3) := by decide +kernel
theorem dX3_nextOf_29 : decode cX3_nextOf 29 = .ok (.ifCond .eq 34, 3) := by decide +kernel
theorem dX3_nextOf_32 : decode cX3_nextOf 32 = .ok (.aload_n 0, 1) := by decide +kernel
theorem dX3_nextOf_33 : decode cX3_nextOf 33 = .ok (.iload_n 1, 1) := by decide +kernel
theorem dX3_nextOf_34 : decode cX3_nextOf 34 = .ok (.iload 6, 2) := by decide +kernel
theorem dX3_nextOf_36 : decode cX3_nextOf 36 = .ok (.iload_n 2, 1) := by decide +kernel
theorem dX3_nextOf_37 : decode cX3_nextOf 37 = .ok (.invokevirtual 85, 3) := by decide +kernel
theorem dX3_nextOf_40 : decode cX3_nextOf 40 = .ok (.istore 7, 2) := by decide +kernel
theorem dX3_nextOf_42 : decode cX3_nextOf 42 = .ok (.iload 4, 2) := by decide +kernel
theorem dX3_nextOf_44 : decode cX3_nextOf 44 = .ok (.iconst (-1), 1) := by decide +kernel
theorem dX3_nextOf_45 : decode cX3_nextOf 45 = .ok (.if_icmp .eq 10, 3) := by decide +kernel
theorem dX3_nextOf_48 : decode cX3_nextOf 48 = .ok (.iload 7, 2) := by decide +kernel
theorem dX3_nextOf_50 : decode cX3_nextOf 50 = .ok (.iload 5, 2) := by decide +kernel
theorem dX3_nextOf_52 : decode cX3_nextOf 52 = .ok (.if_icmp .ge 11, 3) := by decide +kernel
theorem dX3_nextOf_55 : decode cX3_nextOf 55 = .ok (.iload 6, 2) := by decide +kernel
theorem dX3_nextOf_57 : decode cX3_nextOf 57 = .ok (.istore 4, 2) := by decide +kernel
theorem dX3_nextOf_59 : decode cX3_nextOf 59 = .ok (.iload 7, 2) := by decide +kernel
theorem dX3_nextOf_61 : decode cX3_nextOf 61 = .ok (.istore 5, 2) := by decide +kernel
theorem dX3_nextOf_63 : decode cX3_nextOf 63 = .ok (.iinc 6 1, 3) := by decide +kernel
theorem dX3_nextOf_66 : decode cX3_nextOf 66 = .ok (.goto (-50), 3) := by decide +kernel
theorem dX3_nextOf_69 : decode cX3_nextOf 69 = .ok (.iload 4, 2) := by decide +kernel
theorem dX3_nextOf_71 : decode cX3_nextOf 71 = .ok (.ireturn, 1) := by decide +kernel
set_option maxRecDepth 20000 in
theorem ggX3_rankOf_X3_has : GoodIn wsX3_rankOf wsX3_has := goodIn_r _ [7, 8, 41, 42, 43, 44, 45, 46, 47, 48, 49, 50, 51, 52, 53] (by decide +kernel) (by decide +kernel)
set_option maxRecDepth 20000 in
theorem gX3_rankOf_X3_has : GoodIn wsX3_rankOf (wsV RX3 58 RX3 yX3_has wsX3_has) := goodIn_app (goodIn_of _ (by decide +kernel)) ggX3_rankOf_X3_has
set_option maxRecDepth 20000 in
theorem ggX3_rankOf_X3_minutesFrom : GoodIn wsX3_rankOf wsX3_minutesFrom := goodIn_r _ [12, 13, 3, 4, 5, 6, 7, 8, 41, 42, 43, 44, 45, 46, 47, 48, 49, 50, 51, 52, 53] (by decide +kernel) (by decide +kernel)
set_option maxRecDepth 20000 in
theorem gX3_rankOf_X3_minutesFrom : GoodIn wsX3_rankOf (wsV RX3 89 RX3 yX3_minutesFrom wsX3_minutesFrom) := goodIn_app (goodIn_of _ (by decide +kernel)) ggX3_rankOf_X3_minutesFrom
set_option maxRecDepth 20000 in
theorem ggX3_rankOf_X5_bit : GoodIn wsX3_rankOf wsX5_bit := goodIn_r _ [16] (by decide +kernel) (by decide +kernel)
set_option maxRecDepth 20000 in
theorem gX3_rankOf_X5_bit_n72 : GoodIn wsX3_rankOf (wsX5_bit) := ggX3_rankOf_X5_bit
set_option maxRecDepth 20000 in
theorem ggX3_rankOf_X3_openTo : GoodIn wsX3_rankOf wsX3_openTo := goodIn_r _ [20, 21, 22, 23, 24, 3, 4, 5, 6, 7, 8, 25, 26, 27, 28, 29, 30, 31, 32, 33, 34, 35, 36, 37, 38, 39, 40, 41, 42, 43, 44, 45, 46, 47, 48, 49, 50, 51, 52, 53] (by decide +kernel) (by decide +kernel)
set_option maxRecDepth 20000 in
theorem gX3_rankOf_X3_openTo : GoodIn wsX3_rankOf (wsV RX3 82 RX3 yX3_openTo wsX3_openTo) := goodIn_app (goodIn_of _ (by decide +kernel)) ggX3_rankOf_X3_openTo
set_option maxRecDepth 20000 in
theorem ggX3_rankOf_J6_bitCount_0f7a4 : GoodIn wsX3_rankOf wsJ6_bitCount_0f7a4 := goodIn_r _ [28, 29, 30, 31] (by decide +kernel) (by decide +kernel)
set_option maxRecDepth 20000 in
theorem gX3_rankOf_J6_bitCount_0f7a4 : GoodIn wsX3_rankOf (va_wsS RX3 66 yJ6_bitCount_0f7a4 wsJ6_bitCount_0f7a4) := goodIn_app (goodIn_of _ (by decide +kernel)) ggX3_rankOf_J6_bitCount_0f7a4
theorem dX3_rankOf_0 : decode cX3_rankOf 0 = .ok (.aload_n 0, 1) := by decide +kernel
theorem dX3_rankOf_1 : decode cX3_rankOf 1 = .ok (.iload_n 1, 1) := by decide +kernel
theorem dX3_rankOf_2 : decode cX3_rankOf 2 = .ok (.invokevirtual 58, 3) := by decide +kernel
theorem dX3_rankOf_5 : decode cX3_rankOf 5 = .ok (.ifCond .eq 11, 3) := by decide +kernel
theorem dX3_rankOf_8 : decode cX3_rankOf 8 = .ok (.aload_n 0, 1) := by decide +kernel
theorem dX3_rankOf_9 : decode cX3_rankOf 9 = .ok (.iload_n 2, 1) := by decide +kernel
theorem dX3_rankOf_10 : decode cX3_rankOf 10 = .ok (.invokevirtual 58, 3) := by decide +kernel
theorem dX3_rankOf_13 : decode cX3_rankOf 13 = .ok (.ifCond .ne 5, 3) := by decide +kernel
theorem dX3_rankOf_16 : decode cX3_rankOf 16 = .ok (.iconst 0, 1) := by decide +kernel
theorem dX3_rankOf_17 : decode cX3_rankOf 17 = .ok (.ireturn, 1) := by decide +kernel
theorem dX3_rankOf_18 : decode cX3_rankOf 18 = .ok (.aload_n 0, 1) := by decide +kernel
theorem dX3_rankOf_19 : decode cX3_rankOf 19 = .ok (.getfield 9, 3) := by decide +kernel
theorem dX3_rankOf_22 : decode cX3_rankOf 22 = .ok (.iload_n 1, 1) := by decide +kernel
theorem dX3_rankOf_23 : decode cX3_rankOf 23 = .ok (.iaload, 1) := by decide +kernel
theorem dX3_rankOf_24 : decode cX3_rankOf 24 = .ok (.istore 4, 2) := by decide +kernel
theorem dX3_rankOf_26 : decode cX3_rankOf 26 = .ok (.aload_n 0, 1) := by decide +kernel
theorem dX3_rankOf_27 : decode cX3_rankOf 27 = .ok (.iload_n 1, 1) := by decide +kernel
theorem dX3_rankOf_28 : decode cX3_rankOf 28 = .ok (.iload_n 2, 1) := by decide +kernel
theorem dX3_rankOf_29 : decode cX3_rankOf 29 = .ok (.invokevirtual 89, 3) := by decide +kernel
theorem dX3_rankOf_32 : decode cX3_rankOf 32 = .ok (.istore 5, 2) := by decide +kernel
theorem dX3_rankOf_34 : decode cX3_rankOf 34 = .ok (.iload 4, 2) := by decide +kernel
theorem dX3_rankOf_36 : decode cX3_rankOf 36 = .ok (.ifCond .ne 6, 3) := by decide +kernel
theorem dX3_rankOf_39 : decode cX3_rankOf 39 = .ok (.iload 5, 2) := by decide +kernel
theorem dX3_rankOf_41 : decode cX3_rankOf 41 = .ok (.ireturn, 1) := by decide +kernel
theorem dX3_rankOf_42 : decode cX3_rankOf 42 = .ok (.iload 4, 2) := by decide +kernel
theorem dX3_rankOf_44 : decode cX3_rankOf 44 = .ok (.iconst 1, 1) := by decide +kernel
theorem dX3_rankOf_45 : decode cX3_rankOf 45 = .ok (.if_icmp .ne 11, 3) := by decide +kernel
theorem dX3_rankOf_48 : decode cX3_rankOf 48 = .ok (.aload_n 0, 1) := by decide +kernel
theorem dX3_rankOf_49 : decode cX3_rankOf 49 = .ok (.getfield 18, 3) := by decide +kernel
theorem dX3_rankOf_52 : decode cX3_rankOf 52 = .ok (.iload_n 2, 1) := by decide +kernel
theorem dX3_rankOf_53 : decode cX3_rankOf 53 = .ok (.iaload, 1) := by decide +kernel
theorem dX3_rankOf_54 : decode cX3_rankOf 54 = .ok (.ineg, 1) := by decide +kernel
theorem dX3_rankOf_55 : decode cX3_rankOf 55 = .ok (.ireturn, 1) := by decide +kernel
theorem dX3_rankOf_56 : decode cX3_rankOf 56 = .ok (.iload 4, 2) := by decide +kernel
theorem dX3_rankOf_58 : decode cX3_rankOf 58 = .ok (.iconst 2, 1) := by decide +kernel
theorem dX3_rankOf_59 : decode cX3_rankOf 59 = .ok (.if_icmp .eq 11, 3) := by decide +kernel
theorem dX3_rankOf_62 : decode cX3_rankOf 62 = .ok (.iload 4, 2) := by decide +kernel
theorem dX3_rankOf_64 : decode cX3_rankOf 64 = .ok (.iconst 3, 1) := by decide +kernel
theorem dX3_rankOf_65 : decode cX3_rankOf 65 = .ok (.if_icmp .eq 5, 3) := by decide +kernel
theorem dX3_rankOf_68 : decode cX3_rankOf 68 = .ok (.iconst 0, 1) := by decide +kernel
theorem dX3_rankOf_69 : decode cX3_rankOf 69 = .ok (.ireturn, 1) := by decide +kernel
theorem dX3_rankOf_70 : decode cX3_rankOf 70 = .ok (.aload_n 0, 1) := by decide +kernel
theorem dX3_rankOf_71 : decode cX3_rankOf 71 = .ok (.iload_n 2, 1) := by decide +kernel
theorem dX3_rankOf_72 : decode cX3_rankOf 72 = .ok (.iload_n 3, 1) := by decide +kernel
theorem dX3_rankOf_73 : decode cX3_rankOf 73 = .ok (.iload_n 2, 1) := by decide +kernel
theorem dX3_rankOf_74 : decode cX3_rankOf 74 = .ok (.invokestatic 72, 3) := by decide +kernel
theorem dX3_rankOf_77 : decode cX3_rankOf 77 = .ok (.ior, 1) := by decide +kernel
theorem dX3_rankOf_78 : decode cX3_rankOf 78 = .ok (.invokevirtual 82, 3) := by decide +kernel
theorem dX3_rankOf_81 : decode cX3_rankOf 81 = .ok (.invokestatic 66, 3) := by decide +kernel
theorem dX3_rankOf_84 : decode cX3_rankOf 84 = .ok (.istore 6, 2) := by decide +kernel
theorem dX3_rankOf_86 : decode cX3_rankOf 86 = .ok (.bipush 61, 2) := by decide +kernel
theorem dX3_rankOf_88 : decode cX3_rankOf 88 = .ok (.istore 7, 2) := by decide +kernel
theorem dX3_rankOf_90 : decode cX3_rankOf 90 = .ok (.iload 4, 2) := by decide +kernel
theorem dX3_rankOf_92 : decode cX3_rankOf 92 = .ok (.iconst 2, 1) := by decide +kernel
theorem dX3_rankOf_93 : decode cX3_rankOf 93 = .ok (.if_icmp .ne 11, 3) := by decide +kernel
theorem dX3_rankOf_96 : decode cX3_rankOf 96 = .ok (.iload 7, 2) := by decide +kernel
theorem dX3_rankOf_98 : decode cX3_rankOf 98 = .ok (.iload 6, 2) := by decide +kernel
theorem dX3_rankOf_100 : decode cX3_rankOf 100 = .ok (.imul, 1) := by decide +kernel
theorem dX3_rankOf_101 : decode cX3_rankOf 101 = .ok (.goto 9, 3) := by decide +kernel
theorem dX3_rankOf_104 : decode cX3_rankOf 104 = .ok (.iload 7, 2) := by decide +kernel
theorem dX3_rankOf_106 : decode cX3_rankOf 106 = .ok (.ineg, 1) := by decide +kernel
theorem dX3_rankOf_107 : decode cX3_rankOf 107 = .ok (.iload 6, 2) := by decide +kernel
theorem dX3_rankOf_109 : decode cX3_rankOf 109 = .ok (.imul, 1) := by decide +kernel
theorem dX3_rankOf_110 : decode cX3_rankOf 110 = .ok (.iload 5, 2) := by decide +kernel
theorem dX3_rankOf_112 : decode cX3_rankOf 112 = .ok (.iadd, 1) := by decide +kernel
theorem dX3_rankOf_113 : decode cX3_rankOf 113 = .ok (.ireturn, 1) := by decide +kernel
set_option maxRecDepth 20000 in
theorem ggX3_follow_X4_clear : GoodIn wsX3_follow wsX4_clear := goodIn_r _ [5, 6, 7, 64, 65, 66] (by decide +kernel) (by decide +kernel)
set_option maxRecDepth 20000 in
theorem gX3_follow_X4_clear : GoodIn wsX3_follow (wsV RX3 92 RX4 yX4_clear wsX4_clear) := goodIn_app (goodIn_of _ (by decide +kernel)) ggX3_follow_X4_clear
set_option maxRecDepth 20000 in
theorem ggX3_follow_X4_add : GoodIn wsX3_follow wsX4_add := goodIn_r _ [11, 6, 12, 7, 13, 14, 15, 64, 65, 66] (by decide +kernel) (by decide +kernel)
set_option maxRecDepth 20000 in
theorem gX3_follow_X4_add : GoodIn wsX3_follow (wsV RX3 97 RX4 yX4_add wsX4_add) := goodIn_app (goodIn_of _ (by decide +kernel)) ggX3_follow_X4_add
set_option maxRecDepth 20000 in
theorem ggX3_follow_X3_nextOf : GoodIn wsX3_follow wsX3_nextOf := goodIn_r _ [20, 21, 22, 23, 19, 24, 25, 26, 27, 28, 29, 30, 31, 32, 33, 34, 35, 36, 37, 38, 39, 40, 41, 42, 43, 44, 45, 46, 47, 48, 49, 50, 14, 51, 52, 13, 15, 53, 54, 55, 56, 57, 58, 59, 60, 61, 62, 63, 67, 68, 69, 70, 71, 72, 73, 74, 75, 76, 77, 78, 79] (by decide +kernel) (by decide +kernel)
set_option maxRecDepth 20000 in
theorem gX3_follow_X3_nextOf : GoodIn wsX3_follow (wsV RX3 104 RX3 yX3_nextOf wsX3_nextOf) := goodIn_app (goodIn_of _ (by decide +kernel)) ggX3_follow_X3_nextOf
theorem dX3_follow_0 : decode cX3_follow 0 = .ok (.aload_n 2, 1) := by decide +kernel
theorem dX3_follow_1 : decode cX3_follow 1 = .ok (.invokevirtual 92, 3) := by decide +kernel
theorem dX3_follow_4 : decode cX3_follow 4 = .ok (.iload_n 1, 1) := by decide +kernel
theorem dX3_follow_5 : decode cX3_follow 5 = .ok (.istore_n 3, 1) := by decide +kernel
theorem dX3_follow_6 : decode cX3_follow 6 = .ok (.iconst 0, 1) := by decide +kernel
theorem dX3_follow_7 : decode cX3_follow 7 = .ok (.istore 4, 2) := by decide +kernel
theorem dX3_follow_9 : decode cX3_follow 9 = .ok (.iload 4, 2) := by decide +kernel
theorem dX3_follow_11 : decode cX3_follow 11 = .ok (.bipush 8, 2) := by decide +kernel
theorem dX3_follow_13 : decode cX3_follow 13 = .ok (.if_icmp .ge 29, 3) := by decide +kernel
theorem dX3_follow_16 : decode cX3_follow 16 = .ok (.iload_n 3, 1) := by decide +kernel
theorem dX3_follow_17 : decode cX3_follow 17 = .ok (.iconst (-1), 1) := by decide +kernel
theorem dX3_follow_18 : decode cX3_follow 18 = .ok (.if_icmp .eq 24, 3) := by decide +kernel
theorem dX3_follow_21 : decode cX3_follow 21 = .ok (.aload_n 2, 1) := by decide +kernel
theorem dX3_follow_22 : decode cX3_follow 22 = .ok (.iload_n 3, 1) := by decide +kernel
theorem dX3_follow_23 : decode cX3_follow 23 = .ok (.invokevirtual 97, 3) := by decide +kernel
theorem dX3_follow_26 : decode cX3_follow 26 = .ok (.aload_n 0, 1) := by decide +kernel
theorem dX3_follow_27 : decode cX3_follow 27 = .ok (.iload_n 3, 1) := by decide +kernel
theorem dX3_follow_28 : decode cX3_follow 28 = .ok (.aload_n 2, 1) := by decide +kernel
theorem dX3_follow_29 : decode cX3_follow 29 = .ok (.getfield 101, 3) := by decide +kernel
theorem dX3_follow_32 : decode cX3_follow 32 = .ok (.invokevirtual 104, 3) := by decide +kernel
theorem dX3_follow_35 : decode cX3_follow 35 = .ok (.istore_n 3, 1) := by decide +kernel
theorem dX3_follow_36 : decode cX3_follow 36 = .ok (.iinc 4 1, 3) := by decide +kernel
theorem dX3_follow_39 : decode cX3_follow 39 = .ok (.goto (-30), 3) := by decide +kernel
theorem dX3_follow_42 : decode cX3_follow 42 = .ok (.return_, 1) := by decide +kernel
set_option maxRecDepth 20000 in
theorem ggX3_timeOf_X3_minutesFrom : GoodIn wsX3_timeOf wsX3_minutesFrom := goodIn_r _ [5, 6, 7, 8, 9, 4, 10, 11, 15, 16, 17, 18, 19, 20, 21, 22, 23, 24, 25, 26, 27] (by decide +kernel) (by decide +kernel)
set_option maxRecDepth 20000 in
theorem gX3_timeOf_X3_minutesFrom : GoodIn wsX3_timeOf (wsV RX3 89 RX3 yX3_minutesFrom wsX3_minutesFrom) := goodIn_app (goodIn_of _ (by decide +kernel)) ggX3_timeOf_X3_minutesFrom
theorem dX3_timeOf_0 : decode cX3_timeOf 0 = .ok (.iconst 0, 1) := by decide +kernel
theorem dX3_timeOf_1 : decode cX3_timeOf 1 = .ok (.istore_n 2, 1) := by decide +kernel
theorem dX3_timeOf_2 : decode cX3_timeOf 2 = .ok (.iconst 1, 1) := by decide +kernel
theorem dX3_timeOf_3 : decode cX3_timeOf 3 = .ok (.istore_n 3, 1) := by decide +kernel
theorem dX3_timeOf_4 : decode cX3_timeOf 4 = .ok (.iload_n 3, 1) := by decide +kernel
theorem dX3_timeOf_5 : decode cX3_timeOf 5 = .ok (.aload_n 1, 1) := by decide +kernel
theorem dX3_timeOf_6 : decode cX3_timeOf 6 = .ok (.getfield 107, 3) := by decide +kernel
theorem dX3_timeOf_9 : decode cX3_timeOf 9 = .ok (.if_icmp .ge 36, 3) := by decide +kernel
theorem dX3_timeOf_12 : decode cX3_timeOf 12 = .ok (.iload_n 3, 1) := by decide +kernel
theorem dX3_timeOf_13 : decode cX3_timeOf 13 = .ok (.bipush 8, 2) := by decide +kernel
theorem dX3_timeOf_15 : decode cX3_timeOf 15 = .ok (.if_icmp .ge 30, 3) := by decide +kernel
theorem dX3_timeOf_18 : decode cX3_timeOf 18 = .ok (.iload_n 2, 1) := by decide +kernel
theorem dX3_timeOf_19 : decode cX3_timeOf 19 = .ok (.aload_n 0, 1) := by decide +kernel
theorem dX3_timeOf_20 : decode cX3_timeOf 20 = .ok (.aload_n 1, 1) := by decide +kernel
theorem dX3_timeOf_21 : decode cX3_timeOf 21 = .ok (.getfield 110, 3) := by decide +kernel
theorem dX3_timeOf_24 : decode cX3_timeOf 24 = .ok (.iload_n 3, 1) := by decide +kernel
theorem dX3_timeOf_25 : decode cX3_timeOf 25 = .ok (.iconst 1, 1) := by decide +kernel
theorem dX3_timeOf_26 : decode cX3_timeOf 26 = .ok (.isub, 1) := by decide +kernel
theorem dX3_timeOf_27 : decode cX3_timeOf 27 = .ok (.iaload, 1) := by decide +kernel
theorem dX3_timeOf_28 : decode cX3_timeOf 28 = .ok (.aload_n 1, 1) := by decide +kernel
theorem dX3_timeOf_29 : decode cX3_timeOf 29 = .ok (.getfield 110, 3) := by decide +kernel
theorem dX3_timeOf_32 : decode cX3_timeOf 32 = .ok (.iload_n 3, 1) := by decide +kernel
theorem dX3_timeOf_33 : decode cX3_timeOf 33 = .ok (.iaload, 1) := by decide +kernel
theorem dX3_timeOf_34 : decode cX3_timeOf 34 = .ok (.invokevirtual 89, 3) := by decide +kernel
theorem dX3_timeOf_37 : decode cX3_timeOf 37 = .ok (.iadd, 1) := by decide +kernel
theorem dX3_timeOf_38 : decode cX3_timeOf 38 = .ok (.istore_n 2, 1) := by decide +kernel
theorem dX3_timeOf_39 : decode cX3_timeOf 39 = .ok (.iinc 3 1, 3) := by decide +kernel
theorem dX3_timeOf_42 : decode cX3_timeOf 42 = .ok (.goto (-38), 3) := by decide +kernel
theorem dX3_timeOf_45 : decode cX3_timeOf 45 = .ok (.iconst 2, 1) := by decide +kernel
theorem dX3_timeOf_46 : decode cX3_timeOf 46 = .ok (.iload_n 2, 1) := by decide +kernel
theorem dX3_timeOf_47 : decode cX3_timeOf 47 = .ok (.imul, 1) := by decide +kernel
theorem dX3_timeOf_48 : decode cX3_timeOf 48 = .ok (.ireturn, 1) := by decide +kernel
set_option maxRecDepth 20000 in
theorem ggX3_rightOf_X4_answerAt : GoodIn wsX3_rightOf wsX4_answerAt := goodIn_r _ [5, 6, 7, 24, 25, 26] (by decide +kernel) (by decide +kernel)
set_option maxRecDepth 20000 in
theorem gX3_rightOf_X4_answerAt : GoodIn wsX3_rightOf (wsV RX3 112 RX4 yX4_answerAt wsX4_answerAt) := goodIn_app (goodIn_of _ (by decide +kernel)) ggX3_rightOf_X4_answerAt
set_option maxRecDepth 20000 in
theorem ggX3_rightOf_X3_said : GoodIn wsX3_rightOf wsX3_said := goodIn_r _ [12, 13, 14, 15, 16, 17, 18, 19, 20, 21, 11, 22, 23, 27, 28, 29, 30, 31, 32, 33, 34, 35, 36, 37, 38, 39] (by decide +kernel) (by decide +kernel)
set_option maxRecDepth 20000 in
theorem gX3_rightOf_X3_said : GoodIn wsX3_rightOf (wsV RX3 115 RX3 yX3_said wsX3_said) := goodIn_app (goodIn_of _ (by decide +kernel)) ggX3_rightOf_X3_said
theorem dX3_rightOf_0 : decode cX3_rightOf 0 = .ok (.iconst (-1), 1) := by decide +kernel
theorem dX3_rightOf_1 : decode cX3_rightOf 1 = .ok (.istore_n 2, 1) := by decide +kernel
theorem dX3_rightOf_2 : decode cX3_rightOf 2 = .ok (.aload_n 1, 1) := by decide +kernel
theorem dX3_rightOf_3 : decode cX3_rightOf 3 = .ok (.getfield 107, 3) := by decide +kernel
theorem dX3_rightOf_6 : decode cX3_rightOf 6 = .ok (.iconst 1, 1) := by decide +kernel
theorem dX3_rightOf_7 : decode cX3_rightOf 7 = .ok (.isub, 1) := by decide +kernel
theorem dX3_rightOf_8 : decode cX3_rightOf 8 = .ok (.istore_n 3, 1) := by decide +kernel
theorem dX3_rightOf_9 : decode cX3_rightOf 9 = .ok (.iload_n 3, 1) := by decide +kernel
theorem dX3_rightOf_10 : decode cX3_rightOf 10 = .ok (.ifCond .lt 20, 3) := by decide +kernel
theorem dX3_rightOf_13 : decode cX3_rightOf 13 = .ok (.aload_n 0, 1) := by decide +kernel
theorem dX3_rightOf_14 : decode cX3_rightOf 14 = .ok (.aload_n 1, 1) := by decide +kernel
theorem dX3_rightOf_15 : decode cX3_rightOf 15 = .ok (.iload_n 3, 1) := by decide +kernel
theorem dX3_rightOf_16 : decode cX3_rightOf 16 = .ok (.invokevirtual 112, 3) := by decide +kernel
theorem dX3_rightOf_19 : decode cX3_rightOf 19 = .ok (.iload_n 2, 1) := by decide +kernel
theorem dX3_rightOf_20 : decode cX3_rightOf 20 = .ok (.invokevirtual 115, 3) := by decide +kernel
theorem dX3_rightOf_23 : decode cX3_rightOf 23 = .ok (.istore_n 2, 1) := by decide +kernel
theorem dX3_rightOf_24 : decode cX3_rightOf 24 = .ok (.iinc 3 (-1), 3) := by decide +kernel
theorem dX3_rightOf_27 : decode cX3_rightOf 27 = .ok (.goto (-18), 3) := by decide +kernel
theorem dX3_rightOf_30 : decode cX3_rightOf 30 = .ok (.iload_n 2, 1) := by decide +kernel
theorem dX3_rightOf_31 : decode cX3_rightOf 31 = .ok (.ireturn, 1) := by decide +kernel
set_option maxRecDepth 20000 in
theorem ggX3_said_X3_has : GoodIn wsX3_said wsX3_has := goodIn_r _ [11, 12, 13, 14, 15, 16, 17, 18, 19, 20, 21, 22, 23, 24, 25] (by decide +kernel) (by decide +kernel)
set_option maxRecDepth 20000 in
theorem gX3_said_X3_has : GoodIn wsX3_said (wsV RX3 58 RX3 yX3_has wsX3_has) := goodIn_app (goodIn_of _ (by decide +kernel)) ggX3_said_X3_has
theorem dX3_said_0 : decode cX3_said 0 = .ok (.aload_n 0, 1) := by decide +kernel
theorem dX3_said_1 : decode cX3_said 1 = .ok (.iload_n 1, 1) := by decide +kernel
theorem dX3_said_2 : decode cX3_said 2 = .ok (.invokevirtual 58, 3) := by decide +kernel
theorem dX3_said_5 : decode cX3_said 5 = .ok (.ifCond .ne 5, 3) := by decide +kernel
theorem dX3_said_8 : decode cX3_said 8 = .ok (.iload_n 2, 1) := by decide +kernel
theorem dX3_said_9 : decode cX3_said 9 = .ok (.ireturn, 1) := by decide +kernel
theorem dX3_said_10 : decode cX3_said 10 = .ok (.aload_n 0, 1) := by decide +kernel
theorem dX3_said_11 : decode cX3_said 11 = .ok (.getfield 18, 3) := by decide +kernel
theorem dX3_said_14 : decode cX3_said 14 = .ok (.iload_n 1, 1) := by decide +kernel
theorem dX3_said_15 : decode cX3_said 15 = .ok (.iaload, 1) := by decide +kernel
theorem dX3_said_16 : decode cX3_said 16 = .ok (.istore_n 3, 1) := by decide +kernel
theorem dX3_said_17 : decode cX3_said 17 = .ok (.aload_n 0, 1) := by decide +kernel
theorem dX3_said_18 : decode cX3_said 18 = .ok (.getfield 15, 3) := by decide +kernel
theorem dX3_said_21 : decode cX3_said 21 = .ok (.iload_n 1, 1) := by decide +kernel
theorem dX3_said_22 : decode cX3_said 22 = .ok (.iaload, 1) := by decide +kernel
theorem dX3_said_23 : decode cX3_said 23 = .ok (.istore 4, 2) := by decide +kernel
theorem dX3_said_25 : decode cX3_said 25 = .ok (.iload_n 2, 1) := by decide +kernel
theorem dX3_said_26 : decode cX3_said 26 = .ok (.iconst (-1), 1) := by decide +kernel
theorem dX3_said_27 : decode cX3_said 27 = .ok (.if_icmp .ne 18, 3) := by decide +kernel
theorem dX3_said_30 : decode cX3_said 30 = .ok (.iload 4, 2) := by decide +kernel
theorem dX3_said_32 : decode cX3_said 32 = .ok (.iconst 3, 1) := by decide +kernel
theorem dX3_said_33 : decode cX3_said 33 = .ok (.if_icmp .ne 10, 3) := by decide +kernel
theorem dX3_said_36 : decode cX3_said 36 = .ok (.bipush 100, 2) := by decide +kernel
theorem dX3_said_38 : decode cX3_said 38 = .ok (.iload_n 3, 1) := by decide +kernel
theorem dX3_said_39 : decode cX3_said 39 = .ok (.isub, 1) := by decide +kernel
theorem dX3_said_40 : decode cX3_said 40 = .ok (.goto 4, 3) := by decide +kernel
theorem dX3_said_43 : decode cX3_said 43 = .ok (.iload_n 3, 1) := by decide +kernel
theorem dX3_said_44 : decode cX3_said 44 = .ok (.ireturn, 1) := by decide +kernel
theorem dX3_said_45 : decode cX3_said 45 = .ok (.iload 4, 2) := by decide +kernel
theorem dX3_said_47 : decode cX3_said 47 = .ok (.tableswitch 44 0 3 #[29, 35, 37, 39], 29) := by decide +kernel
theorem dX3_said_76 : decode cX3_said 76 = .ok (.iload_n 3, 1) := by decide +kernel
theorem dX3_said_77 : decode cX3_said 77 = .ok (.iload_n 2, 1) := by decide +kernel
theorem dX3_said_78 : decode cX3_said 78 = .ok (.invokestatic 118, 3) := by decide +kernel
theorem dX3_said_81 : decode cX3_said 81 = .ok (.ireturn, 1) := by decide +kernel
theorem dX3_said_82 : decode cX3_said 82 = .ok (.iload_n 3, 1) := by decide +kernel
theorem dX3_said_83 : decode cX3_said 83 = .ok (.ireturn, 1) := by decide +kernel
theorem dX3_said_84 : decode cX3_said 84 = .ok (.iload_n 2, 1) := by decide +kernel
theorem dX3_said_85 : decode cX3_said 85 = .ok (.ireturn, 1) := by decide +kernel
theorem dX3_said_86 : decode cX3_said 86 = .ok (.bipush 100, 2) := by decide +kernel
theorem dX3_said_88 : decode cX3_said 88 = .ok (.iload_n 2, 1) := by decide +kernel
theorem dX3_said_89 : decode cX3_said 89 = .ok (.isub, 1) := by decide +kernel
theorem dX3_said_90 : decode cX3_said 90 = .ok (.ireturn, 1) := by decide +kernel
theorem dX3_said_91 : decode cX3_said 91 = .ok (.iload_n 3, 1) := by decide +kernel
theorem dX3_said_92 : decode cX3_said 92 = .ok (.iload_n 2, 1) := by decide +kernel
theorem dX3_said_93 : decode cX3_said 93 = .ok (.iadd, 1) := by decide +kernel
theorem dX3_said_94 : decode cX3_said 94 = .ok (.iconst 2, 1) := by decide +kernel
theorem dX3_said_95 : decode cX3_said 95 = .ok (.idiv, 1) := by decide +kernel
theorem dX3_said_96 : decode cX3_said 96 = .ok (.ireturn, 1) := by decide +kernel
theorem dX4_init_0 : decode cX4_init 0 = .ok (.aload_n 0, 1) := by decide +kernel
theorem dX4_init_1 : decode cX4_init 1 = .ok (.invokespecial 3, 3) := by decide +kernel
theorem dX4_init_4 : decode cX4_init 4 = .ok (.aload_n 0, 1) := by decide +kernel
theorem dX4_init_5 : decode cX4_init 5 = .ok (.bipush 8, 2) := by decide +kernel
theorem dX4_init_7 : decode cX4_init 7 = .ok (.newarray .int, 2) := by decide +kernel
theorem dX4_init_9 : decode cX4_init 9 = .ok (.putfield 9, 3) := by decide +kernel
theorem dX4_init_12 : decode cX4_init 12 = .ok (.return_, 1) := by decide +kernel
theorem dX4_clear_0 : decode cX4_clear 0 = .ok (.aload_n 0, 1) := by decide +kernel
theorem dX4_clear_1 : decode cX4_clear 1 = .ok (.iconst 0, 1) := by decide +kernel
theorem dX4_clear_2 : decode cX4_clear 2 = .ok (.putfield 15, 3) := by decide +kernel
theorem dX4_clear_5 : decode cX4_clear 5 = .ok (.aload_n 0, 1) := by decide +kernel
theorem dX4_clear_6 : decode cX4_clear 6 = .ok (.iconst 0, 1) := by decide +kernel
theorem dX4_clear_7 : decode cX4_clear 7 = .ok (.putfield 19, 3) := by decide +kernel
theorem dX4_clear_10 : decode cX4_clear 10 = .ok (.return_, 1) := by decide +kernel
set_option maxRecDepth 20000 in
theorem ggX4_add_X5_bit : GoodIn wsX4_add wsX5_bit := goodIn_r _ [6] (by decide +kernel) (by decide +kernel)
set_option maxRecDepth 20000 in
theorem gX4_add_X5_bit_n22 : GoodIn wsX4_add (wsX5_bit) := ggX4_add_X5_bit
theorem dX4_add_0 : decode cX4_add 0 = .ok (.aload_n 0, 1) := by decide +kernel
theorem dX4_add_1 : decode cX4_add 1 = .ok (.getfield 15, 3) := by decide +kernel
theorem dX4_add_4 : decode cX4_add 4 = .ok (.bipush 8, 2) := by decide +kernel
theorem dX4_add_6 : decode cX4_add 6 = .ok (.if_icmp .ge 36, 3) := by decide +kernel
theorem dX4_add_9 : decode cX4_add 9 = .ok (.aload_n 0, 1) := by decide +kernel
theorem dX4_add_10 : decode cX4_add 10 = .ok (.getfield 9, 3) := by decide +kernel
theorem dX4_add_13 : decode cX4_add 13 = .ok (.aload_n 0, 1) := by decide +kernel
theorem dX4_add_14 : decode cX4_add 14 = .ok (.getfield 15, 3) := by decide +kernel
theorem dX4_add_17 : decode cX4_add 17 = .ok (.iload_n 1, 1) := by decide +kernel
theorem dX4_add_18 : decode cX4_add 18 = .ok (.iastore, 1) := by decide +kernel
theorem dX4_add_19 : decode cX4_add 19 = .ok (.aload_n 0, 1) := by decide +kernel
theorem dX4_add_20 : decode cX4_add 20 = .ok (.dup, 1) := by decide +kernel
theorem dX4_add_21 : decode cX4_add 21 = .ok (.getfield 15, 3) := by decide +kernel
theorem dX4_add_24 : decode cX4_add 24 = .ok (.iconst 1, 1) := by decide +kernel
theorem dX4_add_25 : decode cX4_add 25 = .ok (.iadd, 1) := by decide +kernel
theorem dX4_add_26 : decode cX4_add 26 = .ok (.putfield 15, 3) := by decide +kernel
theorem dX4_add_29 : decode cX4_add 29 = .ok (.aload_n 0, 1) := by decide +kernel
theorem dX4_add_30 : decode cX4_add 30 = .ok (.dup, 1) := by decide +kernel
theorem dX4_add_31 : decode cX4_add 31 = .ok (.getfield 19, 3) := by decide +kernel
theorem dX4_add_34 : decode cX4_add 34 = .ok (.iload_n 1, 1) := by decide +kernel
theorem dX4_add_35 : decode cX4_add 35 = .ok (.invokestatic 22, 3) := by decide +kernel
theorem dX4_add_38 : decode cX4_add 38 = .ok (.ior, 1) := by decide +kernel
theorem dX4_add_39 : decode cX4_add 39 = .ok (.putfield 19, 3) := by decide +kernel
theorem dX4_add_42 : decode cX4_add 42 = .ok (.return_, 1) := by decide +kernel
set_option maxRecDepth 20000 in
theorem ggX4_dropLast_X5_bit : GoodIn wsX4_dropLast wsX5_bit := goodIn_r _ [6] (by decide +kernel) (by decide +kernel)
set_option maxRecDepth 20000 in
theorem gX4_dropLast_X5_bit_n22 : GoodIn wsX4_dropLast (wsX5_bit) := ggX4_dropLast_X5_bit
theorem dX4_dropLast_0 : decode cX4_dropLast 0 = .ok (.aload_n 0, 1) := by decide +kernel
theorem dX4_dropLast_1 : decode cX4_dropLast 1 = .ok (.getfield 15, 3) := by decide +kernel
theorem dX4_dropLast_4 : decode cX4_dropLast 4 = .ok (.ifCond .le 36, 3) := by decide +kernel
theorem dX4_dropLast_7 : decode cX4_dropLast 7 = .ok (.aload_n 0, 1) := by decide +kernel
theorem dX4_dropLast_8 : decode cX4_dropLast 8 = .ok (.dup, 1) := by decide +kernel
theorem dX4_dropLast_9 : decode cX4_dropLast 9 = .ok (.getfield 15, 3) := by decide +kernel
theorem dX4_dropLast_12 : decode cX4_dropLast 12 = .ok (.iconst 1, 1) := by decide +kernel
theorem dX4_dropLast_13 : decode cX4_dropLast 13 = .ok (.isub, 1) := by decide +kernel
theorem dX4_dropLast_14 : decode cX4_dropLast 14 = .ok (.putfield 15, 3) := by decide +kernel
theorem dX4_dropLast_17 : decode cX4_dropLast 17 = .ok (.aload_n 0, 1) := by decide +kernel
theorem dX4_dropLast_18 : decode cX4_dropLast 18 = .ok (.dup, 1) := by decide +kernel
theorem dX4_dropLast_19 : decode cX4_dropLast 19 = .ok (.getfield 19, 3) := by decide +kernel
theorem dX4_dropLast_22 : decode cX4_dropLast 22 = .ok (.aload_n 0, 1) := by decide +kernel
theorem dX4_dropLast_23 : decode cX4_dropLast 23 = .ok (.getfield 9, 3) := by decide +kernel
theorem dX4_dropLast_26 : decode cX4_dropLast 26 = .ok (.aload_n 0, 1) := by decide +kernel
theorem dX4_dropLast_27 : decode cX4_dropLast 27 = .ok (.getfield 15, 3) := by decide +kernel
theorem dX4_dropLast_30 : decode cX4_dropLast 30 = .ok (.iaload, 1) := by decide +kernel
theorem dX4_dropLast_31 : decode cX4_dropLast 31 = .ok (.invokestatic 22, 3) := by decide +kernel
theorem dX4_dropLast_34 : decode cX4_dropLast 34 = .ok (.iconst (-1), 1) := by decide +kernel
theorem dX4_dropLast_35 : decode cX4_dropLast 35 = .ok (.ixor, 1) := by decide +kernel
theorem dX4_dropLast_36 : decode cX4_dropLast 36 = .ok (.iand, 1) := by decide +kernel
theorem dX4_dropLast_37 : decode cX4_dropLast 37 = .ok (.putfield 19, 3) := by decide +kernel
theorem dX4_dropLast_40 : decode cX4_dropLast 40 = .ok (.return_, 1) := by decide +kernel
theorem dX4_answerAt_0 : decode cX4_answerAt 0 = .ok (.iload_n 1, 1) := by decide +kernel
theorem dX4_answerAt_1 : decode cX4_answerAt 1 = .ok (.ifCond .lt 20, 3) := by decide +kernel
theorem dX4_answerAt_4 : decode cX4_answerAt 4 = .ok (.iload_n 1, 1) := by decide +kernel
theorem dX4_answerAt_5 : decode cX4_answerAt 5 = .ok (.aload_n 0, 1) := by decide +kernel
theorem dX4_answerAt_6 : decode cX4_answerAt 6 = .ok (.getfield 15, 3) := by decide +kernel
theorem dX4_answerAt_9 : decode cX4_answerAt 9 = .ok (.if_icmp .ge 12, 3) := by decide +kernel
theorem dX4_answerAt_12 : decode cX4_answerAt 12 = .ok (.aload_n 0, 1) := by decide +kernel
theorem dX4_answerAt_13 : decode cX4_answerAt 13 = .ok (.getfield 9, 3) := by decide +kernel
theorem dX4_answerAt_16 : decode cX4_answerAt 16 = .ok (.iload_n 1, 1) := by decide +kernel
theorem dX4_answerAt_17 : decode cX4_answerAt 17 = .ok (.iaload, 1) := by decide +kernel
theorem dX4_answerAt_18 : decode cX4_answerAt 18 = .ok (.goto 5, 3) := by decide +kernel
theorem dX4_answerAt_21 : decode cX4_answerAt 21 = .ok (.bipush (-9), 2) := by decide +kernel
theorem dX4_answerAt_23 : decode cX4_answerAt 23 = .ok (.ireturn, 1) := by decide +kernel
theorem dX4_become_0 : decode cX4_become 0 = .ok (.aload_n 1, 1) := by decide +kernel
theorem dX4_become_1 : decode cX4_become 1 = .ok (.getfield 9, 3) := by decide +kernel
theorem dX4_become_4 : decode cX4_become 4 = .ok (.iconst 0, 1) := by decide +kernel
theorem dX4_become_5 : decode cX4_become 5 = .ok (.aload_n 0, 1) := by decide +kernel
theorem dX4_become_6 : decode cX4_become 6 = .ok (.getfield 9, 3) := by decide +kernel
theorem dX4_become_9 : decode cX4_become 9 = .ok (.iconst 0, 1) := by decide +kernel
theorem dX4_become_10 : decode cX4_become 10 = .ok (.bipush 8, 2) := by decide +kernel
theorem dX4_become_12 : decode cX4_become 12 = .ok (.invokestatic 26, 3) := by decide +kernel
theorem dX4_become_15 : decode cX4_become 15 = .ok (.aload_n 0, 1) := by decide +kernel
theorem dX4_become_16 : decode cX4_become 16 = .ok (.aload_n 1, 1) := by decide +kernel
theorem dX4_become_17 : decode cX4_become 17 = .ok (.getfield 15, 3) := by decide +kernel
theorem dX4_become_20 : decode cX4_become 20 = .ok (.putfield 15, 3) := by decide +kernel
theorem dX4_become_23 : decode cX4_become 23 = .ok (.aload_n 0, 1) := by decide +kernel
theorem dX4_become_24 : decode cX4_become 24 = .ok (.aload_n 1, 1) := by decide +kernel
theorem dX4_become_25 : decode cX4_become 25 = .ok (.getfield 19, 3) := by decide +kernel
theorem dX4_become_28 : decode cX4_become 28 = .ok (.putfield 19, 3) := by decide +kernel
theorem dX4_become_31 : decode cX4_become 31 = .ok (.return_, 1) := by decide +kernel
set_option maxRecDepth 20000 in
theorem ggX5_init_X3_init : GoodIn wsX5_init wsX3_init := goodIn_r _ [32, 33, 2, 3, 26, 34, 35, 36, 37, 38, 39, 40, 41, 60, 61, 62, 63, 64, 65, 66, 67, 68, 69, 70, 71, 72] (by decide +kernel) (by decide +kernel)
set_option maxRecDepth 20000 in
theorem gX5_init_X3_init_n9 : GoodIn wsX5_init (wsX3_init) := ggX5_init_X3_init
set_option maxRecDepth 20000 in
theorem ggX5_init_X4_init : GoodIn wsX5_init wsX4_init := goodIn_r _ [43, 44, 2, 3, 26, 45, 84, 85, 86] (by decide +kernel) (by decide +kernel)
set_option maxRecDepth 20000 in
theorem gX5_init_X4_init_n24 : GoodIn wsX5_init (wsX4_init) := ggX5_init_X4_init
set_option maxRecDepth 20000 in
theorem ggX5_init_X0_init : GoodIn wsX5_init wsX0_init := goodIn_r _ [47, 48, 2, 3, 49, 11, 12, 50, 51, 42, 43, 44, 26, 45, 84, 85, 86, 87, 88, 89, 90, 91, 92, 93, 94] (by decide +kernel) (by decide +kernel)
set_option maxRecDepth 20000 in
theorem gX5_init_X0_init_n31 : GoodIn wsX5_init (wsX0_init) := ggX5_init_X0_init
set_option maxRecDepth 20000 in
theorem ggX5_init_X2_init : GoodIn wsX5_init wsX2_init := goodIn_r _ [53, 54, 2, 3] (by decide +kernel) (by decide +kernel)
set_option maxRecDepth 20000 in
theorem gX5_init_X2_init_n38 : GoodIn wsX5_init (wsX2_init) := ggX5_init_X2_init
set_option maxRecDepth 20000 in
theorem ggX5_init_X1_init : GoodIn wsX5_init wsX1_init := goodIn_r _ [56, 57, 2, 3, 58, 59, 97, 98, 99, 100] (by decide +kernel) (by decide +kernel)
set_option maxRecDepth 20000 in
theorem gX5_init_X1_init_n45 : GoodIn wsX5_init (wsX1_init) := ggX5_init_X1_init
theorem dX5_init_0 : decode cX5_init 0 = .ok (.aload_n 0, 1) := by decide +kernel
theorem dX5_init_1 : decode cX5_init 1 = .ok (.invokespecial 1, 3) := by decide +kernel
theorem dX5_init_4 : decode cX5_init 4 = .ok (.aload_n 0, 1) := by decide +kernel
theorem dX5_init_5 : decode cX5_init 5 = .ok (.new 7, 3) := by decide +kernel
theorem dX5_init_8 : decode cX5_init 8 = .ok (.dup, 1) := by decide +kernel
theorem dX5_init_9 : decode cX5_init 9 = .ok (.invokespecial 9, 3) := by decide +kernel
theorem dX5_init_12 : decode cX5_init 12 = .ok (.putfield 10, 3) := by decide +kernel
theorem dX5_init_15 : decode cX5_init 15 = .ok (.aload_n 0, 1) := by decide +kernel
theorem dX5_init_16 : decode cX5_init 16 = .ok (.new 7, 3) := by decide +kernel
theorem dX5_init_19 : decode cX5_init 19 = .ok (.dup, 1) := by decide +kernel
theorem dX5_init_20 : decode cX5_init 20 = .ok (.invokespecial 9, 3) := by decide +kernel
theorem dX5_init_23 : decode cX5_init 23 = .ok (.putfield 16, 3) := by decide +kernel
theorem dX5_init_26 : decode cX5_init 26 = .ok (.aload_n 0, 1) := by decide +kernel
theorem dX5_init_27 : decode cX5_init 27 = .ok (.new 7, 3) := by decide +kernel
theorem dX5_init_30 : decode cX5_init 30 = .ok (.dup, 1) := by decide +kernel
theorem dX5_init_31 : decode cX5_init 31 = .ok (.invokespecial 9, 3) := by decide +kernel
theorem dX5_init_34 : decode cX5_init 34 = .ok (.putfield 19, 3) := by decide +kernel
theorem dX5_init_37 : decode cX5_init 37 = .ok (.aload_n 0, 1) := by decide +kernel
theorem dX5_init_38 : decode cX5_init 38 = .ok (.new 22, 3) := by decide +kernel
theorem dX5_init_41 : decode cX5_init 41 = .ok (.dup, 1) := by decide +kernel
theorem dX5_init_42 : decode cX5_init 42 = .ok (.invokespecial 24, 3) := by decide +kernel
theorem dX5_init_45 : decode cX5_init 45 = .ok (.putfield 25, 3) := by decide +kernel
theorem dX5_init_48 : decode cX5_init 48 = .ok (.aload_n 0, 1) := by decide +kernel
theorem dX5_init_49 : decode cX5_init 49 = .ok (.new 29, 3) := by decide +kernel
theorem dX5_init_52 : decode cX5_init 52 = .ok (.dup, 1) := by decide +kernel
theorem dX5_init_53 : decode cX5_init 53 = .ok (.invokespecial 31, 3) := by decide +kernel
theorem dX5_init_56 : decode cX5_init 56 = .ok (.putfield 32, 3) := by decide +kernel
theorem dX5_init_59 : decode cX5_init 59 = .ok (.aload_n 0, 1) := by decide +kernel
theorem dX5_init_60 : decode cX5_init 60 = .ok (.new 36, 3) := by decide +kernel
theorem dX5_init_63 : decode cX5_init 63 = .ok (.dup, 1) := by decide +kernel
theorem dX5_init_64 : decode cX5_init 64 = .ok (.invokespecial 38, 3) := by decide +kernel
theorem dX5_init_67 : decode cX5_init 67 = .ok (.putfield 39, 3) := by decide +kernel
theorem dX5_init_70 : decode cX5_init 70 = .ok (.aload_n 0, 1) := by decide +kernel
theorem dX5_init_71 : decode cX5_init 71 = .ok (.new 43, 3) := by decide +kernel
theorem dX5_init_74 : decode cX5_init 74 = .ok (.dup, 1) := by decide +kernel
theorem dX5_init_75 : decode cX5_init 75 = .ok (.invokespecial 45, 3) := by decide +kernel
theorem dX5_init_78 : decode cX5_init 78 = .ok (.putfield 46, 3) := by decide +kernel
theorem dX5_init_81 : decode cX5_init 81 = .ok (.aload_n 0, 1) := by decide +kernel
theorem dX5_init_82 : decode cX5_init 82 = .ok (.bipush 8, 2) := by decide +kernel
theorem dX5_init_84 : decode cX5_init 84 = .ok (.newarray .int, 2) := by decide +kernel
theorem dX5_init_86 : decode cX5_init 86 = .ok (.putfield 50, 3) := by decide +kernel
theorem dX5_init_89 : decode cX5_init 89 = .ok (.aload_n 0, 1) := by decide +kernel
theorem dX5_init_90 : decode cX5_init 90 = .ok (.bipush 7, 2) := by decide +kernel
theorem dX5_init_92 : decode cX5_init 92 = .ok (.newarray .int, 2) := by decide +kernel
theorem dX5_init_94 : decode cX5_init 94 = .ok (.putfield 54, 3) := by decide +kernel
theorem dX5_init_97 : decode cX5_init 97 = .ok (.aload_n 0, 1) := by decide +kernel
theorem dX5_init_98 : decode cX5_init 98 = .ok (.iconst 0, 1) := by decide +kernel
theorem dX5_init_99 : decode cX5_init 99 = .ok (.putfield 57, 3) := by decide +kernel
theorem dX5_init_102 : decode cX5_init 102 = .ok (.aload_n 0, 1) := by decide +kernel
theorem dX5_init_103 : decode cX5_init 103 = .ok (.iconst 0, 1) := by decide +kernel
theorem dX5_init_104 : decode cX5_init 104 = .ok (.putfield 61, 3) := by decide +kernel
theorem dX5_init_107 : decode cX5_init 107 = .ok (.return_, 1) := by decide +kernel
