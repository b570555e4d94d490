set_option maxRecDepth 20000 in
theorem ggX5_letter_X5_refuse : GoodIn wsX5_letter wsX5_refuse := goodIn_r _ [6, 7, 19, 20, 21, 22, 23, 24, 25, 26, 27, 28, 29] (by decide +kernel) (by decide +kernel)
set_option maxRecDepth 20000 in
theorem gX5_letter_X5_refuse : GoodIn wsX5_letter (wsV RX5 65 RX5 yX5_refuse wsX5_refuse) := goodIn_app (goodIn_of _ (by decide +kernel)) ggX5_letter_X5_refuse
set_option maxRecDepth 20000 in
theorem ggX5_letter_X1_isFull : GoodIn wsX5_letter wsX1_isFull := goodIn_r _ [12, 13, 30, 31, 32, 33] (by decide +kernel) (by decide +kernel)
set_option maxRecDepth 20000 in
theorem gX5_letter_X1_isFull : GoodIn wsX5_letter (wsV RX5 69 RX1 yX1_isFull wsX1_isFull) := goodIn_app (goodIn_of _ (by decide +kernel)) ggX5_letter_X1_isFull
set_option maxRecDepth 20000 in
theorem ggX5_letter_X1_put : GoodIn wsX5_letter wsX1_put := goodIn_r _ [17, 13, 18, 30, 31, 32, 33] (by decide +kernel) (by decide +kernel)
set_option maxRecDepth 20000 in
theorem gX5_letter_X1_put : GoodIn wsX5_letter (wsV RX5 73 RX1 yX1_put wsX1_put) := goodIn_app (goodIn_of _ (by decide +kernel)) ggX5_letter_X1_put
theorem dX5_letter_0 : decode cX5_letter 0 = .ok (.iload_n 1, 1) := by decide +kernel
theorem dX5_letter_1 : decode cX5_letter 1 = .ok (.ifCond .ge 10, 3) := by decide +kernel
theorem dX5_letter_4 : decode cX5_letter 4 = .ok (.aload_n 0, 1) := by decide +kernel
theorem dX5_letter_5 : decode cX5_letter 5 = .ok (.bipush (-4), 2) := by decide +kernel
theorem dX5_letter_7 : decode cX5_letter 7 = .ok (.invokevirtual 65, 3) := by decide +kernel
theorem dX5_letter_10 : decode cX5_letter 10 = .ok (.ireturn, 1) := by decide +kernel
theorem dX5_letter_11 : decode cX5_letter 11 = .ok (.iload_n 1, 1) := by decide +kernel
theorem dX5_letter_12 : decode cX5_letter 12 = .ok (.sipush 255, 3) := by decide +kernel
theorem dX5_letter_15 : decode cX5_letter 15 = .ok (.if_icmp .gt 13, 3) := by decide +kernel
theorem dX5_letter_18 : decode cX5_letter 18 = .ok (.aload_n 0, 1) := by decide +kernel
theorem dX5_letter_19 : decode cX5_letter 19 = .ok (.getfield 46, 3) := by decide +kernel
theorem dX5_letter_22 : decode cX5_letter 22 = .ok (.invokevirtual 69, 3) := by decide +kernel
theorem dX5_letter_25 : decode cX5_letter 25 = .ok (.ifCond .eq 10, 3) := by decide +kernel
theorem dX5_letter_28 : decode cX5_letter 28 = .ok (.aload_n 0, 1) := by decide +kernel
theorem dX5_letter_29 : decode cX5_letter 29 = .ok (.bipush (-6), 2) := by decide +kernel
theorem dX5_letter_31 : decode cX5_letter 31 = .ok (.invokevirtual 65, 3) := by decide +kernel
theorem dX5_letter_34 : decode cX5_letter 34 = .ok (.ireturn, 1) := by decide +kernel
theorem dX5_letter_35 : decode cX5_letter 35 = .ok (.aload_n 0, 1) := by decide +kernel
theorem dX5_letter_36 : decode cX5_letter 36 = .ok (.getfield 46, 3) := by decide +kernel
theorem dX5_letter_39 : decode cX5_letter 39 = .ok (.iload_n 1, 1) := by decide +kernel
theorem dX5_letter_40 : decode cX5_letter 40 = .ok (.i2c, 1) := by decide +kernel
theorem dX5_letter_41 : decode cX5_letter 41 = .ok (.invokevirtual 73, 3) := by decide +kernel
theorem dX5_letter_44 : decode cX5_letter 44 = .ok (.ireturn, 1) := by decide +kernel
set_option maxRecDepth 20000 in
theorem ggX5_town_X3_become : GoodIn wsX5_town wsX3_become := goodIn_r _ [8, 9, 10, 11, 12, 13, 14, 15, 16, 17, 18, 19, 20, 21, 22, 23, 24, 25, 186, 187, 188, 189, 190, 191, 192, 193, 194, 195, 196, 197, 198] (by decide +kernel) (by decide +kernel)
set_option maxRecDepth 20000 in
theorem gX5_town_X3_become : GoodIn wsX5_town (wsV RX5 77 RX3 yX3_become wsX3_become) := goodIn_app (goodIn_of _ (by decide +kernel)) ggX5_town_X3_become
set_option maxRecDepth 20000 in
theorem ggX5_town_X1_readInto : GoodIn wsX5_town wsX1_readInto := goodIn_r _ [30, 31, 32, 33, 34, 35, 36, 29, 37, 38, 39, 40, 41, 42, 43, 44, 45, 46, 47, 48, 49, 50, 51, 52, 53, 54, 55, 56, 57, 58, 59, 60, 61, 62, 63, 64, 65, 66, 67, 68, 69, 70, 71, 72, 73, 74, 75, 76, 77, 78, 79, 80, 81, 82, 83, 84, 85, 86, 87, 88, 89, 90, 91, 92, 93, 94, 95, 96, 97, 98, 99, 100, 101, 102, 103, 104, 105, 106, 107, 108, 109, 110, 111, 112, 113, 114, 115, 116, 117, 118, 119, 120, 121, 122, 123, 124, 125, 126, 127, 128, 129, 130, 131, 132, 133, 134, 135, 136, 137, 138, 139, 140, 141, 142, 143, 144, 145, 146, 7, 147, 21, 9, 14, 15, 16, 17, 148, 149, 150, 151, 152, 153, 154, 155, 156, 157, 158, 20, 18, 19, 159, 160, 161, 162, 163, 164, 165, 166, 167, 168, 169, 170, 22, 199, 200, 201, 202, 186, 187, 188, 189, 190, 191, 192, 193, 194, 195, 196, 197, 198] (by decide +kernel) (by decide +kernel)
set_option maxRecDepth 20000 in
theorem gX5_town_X1_readInto : GoodIn wsX5_town (wsV RX5 81 RX1 yX1_readInto wsX1_readInto) := goodIn_app (goodIn_of _ (by decide +kernel)) ggX5_town_X1_readInto
set_option maxRecDepth 20000 in
theorem ggX5_town_X1_forget : GoodIn wsX5_town wsX1_forget := goodIn_r _ [174, 33, 199, 200, 201, 202] (by decide +kernel) (by decide +kernel)
set_option maxRecDepth 20000 in
theorem gX5_town_X1_forget : GoodIn wsX5_town (wsV RX5 85 RX1 yX1_forget wsX1_forget) := goodIn_app (goodIn_of _ (by decide +kernel)) ggX5_town_X1_forget
theorem dX5_town_0 : decode cX5_town 0 = .ok (.aload_n 0, 1) := by decide +kernel
theorem dX5_town_1 : decode cX5_town 1 = .ok (.getfield 19, 3) := by decide +kernel
theorem dX5_town_4 : decode cX5_town 4 = .ok (.aload_n 0, 1) := by decide +kernel
theorem dX5_town_5 : decode cX5_town 5 = .ok (.getfield 10, 3) := by decide +kernel
theorem dX5_town_8 : decode cX5_town 8 = .ok (.invokevirtual 77, 3) := by decide +kernel
theorem dX5_town_11 : decode cX5_town 11 = .ok (.aload_n 0, 1) := by decide +kernel
theorem dX5_town_12 : decode cX5_town 12 = .ok (.getfield 46, 3) := by decide +kernel
theorem dX5_town_15 : decode cX5_town 15 = .ok (.aload_n 0, 1) := by decide +kernel
theorem dX5_town_16 : decode cX5_town 16 = .ok (.getfield 19, 3) := by decide +kernel
theorem dX5_town_19 : decode cX5_town 19 = .ok (.invokevirtual 81, 3) := by decide +kernel
theorem dX5_town_22 : decode cX5_town 22 = .ok (.istore_n 1, 1) := by decide +kernel
theorem dX5_town_23 : decode cX5_town 23 = .ok (.aload_n 0, 1) := by decide +kernel
theorem dX5_town_24 : decode cX5_town 24 = .ok (.getfield 46, 3) := by decide +kernel
theorem dX5_town_27 : decode cX5_town 27 = .ok (.invokevirtual 85, 3) := by decide +kernel
theorem dX5_town_30 : decode cX5_town 30 = .ok (.iload_n 1, 1) := by decide +kernel
theorem dX5_town_31 : decode cX5_town 31 = .ok (.ifCond .le 14, 3) := by decide +kernel
theorem dX5_town_34 : decode cX5_town 34 = .ok (.aload_n 0, 1) := by decide +kernel
theorem dX5_town_35 : decode cX5_town 35 = .ok (.getfield 10, 3) := by decide +kernel
theorem dX5_town_38 : decode cX5_town 38 = .ok (.aload_n 0, 1) := by decide +kernel
theorem dX5_town_39 : decode cX5_town 39 = .ok (.getfield 19, 3) := by decide +kernel
theorem dX5_town_42 : decode cX5_town 42 = .ok (.invokevirtual 77, 3) := by decide +kernel
theorem dX5_town_45 : decode cX5_town 45 = .ok (.iload_n 1, 1) := by decide +kernel
theorem dX5_town_46 : decode cX5_town 46 = .ok (.ireturn, 1) := by decide +kernel
set_option maxRecDepth 20000 in
theorem ggX5_person_X3_has : GoodIn wsX5_person wsX3_has := goodIn_r _ [6, 7, 36, 37, 38, 39, 40, 41, 42, 43, 44, 45, 46, 47, 48] (by decide +kernel) (by decide +kernel)
set_option maxRecDepth 20000 in
theorem gX5_person_X3_has : GoodIn wsX5_person (wsV RX5 88 RX3 yX3_has wsX3_has) := goodIn_app (goodIn_of _ (by decide +kernel)) ggX5_person_X3_has
set_option maxRecDepth 20000 in
theorem ggX5_person_X5_refuse : GoodIn wsX5_person wsX5_refuse := goodIn_r _ [12, 13, 25, 26, 27, 28, 29, 30, 31, 32, 33, 34, 35] (by decide +kernel) (by decide +kernel)
set_option maxRecDepth 20000 in
theorem gX5_person_X5_refuse : GoodIn wsX5_person (wsV RX5 65 RX5 yX5_refuse wsX5_refuse) := goodIn_app (goodIn_of _ (by decide +kernel)) ggX5_person_X5_refuse
set_option maxRecDepth 20000 in
theorem ggX5_person_X3_wasAsked : GoodIn wsX5_person wsX3_wasAsked := goodIn_r _ [17, 18, 19, 3, 4, 5, 6, 7, 20, 11, 21, 22, 23, 24, 36, 37, 38, 39, 40, 41, 42, 43, 44, 45, 46, 47, 48] (by decide +kernel) (by decide +kernel)
set_option maxRecDepth 20000 in
theorem gX5_person_X3_wasAsked : GoodIn wsX5_person (wsV RX5 104 RX3 yX3_wasAsked wsX3_wasAsked) := goodIn_app (goodIn_of _ (by decide +kernel)) ggX5_person_X3_wasAsked
theorem dX5_person_0 : decode cX5_person 0 = .ok (.aload_n 0, 1) := by decide +kernel
theorem dX5_person_1 : decode cX5_person 1 = .ok (.getfield 10, 3) := by decide +kernel
theorem dX5_person_4 : decode cX5_person 4 = .ok (.iload_n 1, 1) := by decide +kernel
theorem dX5_person_5 : decode cX5_person 5 = .ok (.invokevirtual 88, 3) := by decide +kernel
theorem dX5_person_8 : decode cX5_person 8 = .ok (.ifCond .ne 9, 3) := by decide +kernel
theorem dX5_person_11 : decode cX5_person 11 = .ok (.aload_n 0, 1) := by decide +kernel
theorem dX5_person_12 : decode cX5_person 12 = .ok (.iconst (-1), 1) := by decide +kernel
theorem dX5_person_13 : decode cX5_person 13 = .ok (.invokevirtual 65, 3) := by decide +kernel
theorem dX5_person_16 : decode cX5_person 16 = .ok (.ireturn, 1) := by decide +kernel
theorem dX5_person_17 : decode cX5_person 17 = .ok (.iload_n 2, 1) := by decide +kernel
theorem dX5_person_18 : decode cX5_person 18 = .ok (.tableswitch 91 0 4 #[34, 44, 54, 64, 74], 34) := by decide +kernel
theorem dX5_person_52 : decode cX5_person 52 = .ok (.aload_n 0, 1) := by decide +kernel
theorem dX5_person_53 : decode cX5_person 53 = .ok (.getfield 10, 3) := by decide +kernel
theorem dX5_person_56 : decode cX5_person 56 = .ok (.getfield 92, 3) := by decide +kernel
theorem dX5_person_59 : decode cX5_person 59 = .ok (.iload_n 1, 1) := by decide +kernel
theorem dX5_person_60 : decode cX5_person 60 = .ok (.iaload, 1) := by decide +kernel
theorem dX5_person_61 : decode cX5_person 61 = .ok (.ireturn, 1) := by decide +kernel
theorem dX5_person_62 : decode cX5_person 62 = .ok (.aload_n 0, 1) := by decide +kernel
theorem dX5_person_63 : decode cX5_person 63 = .ok (.getfield 10, 3) := by decide +kernel
theorem dX5_person_66 : decode cX5_person 66 = .ok (.getfield 95, 3) := by decide +kernel
theorem dX5_person_69 : decode cX5_person 69 = .ok (.iload_n 1, 1) := by decide +kernel
theorem dX5_person_70 : decode cX5_person 70 = .ok (.iaload, 1) := by decide +kernel
theorem dX5_person_71 : decode cX5_person 71 = .ok (.ireturn, 1) := by decide +kernel
theorem dX5_person_72 : decode cX5_person 72 = .ok (.aload_n 0, 1) := by decide +kernel
theorem dX5_person_73 : decode cX5_person 73 = .ok (.getfield 10, 3) := by decide +kernel
theorem dX5_person_76 : decode cX5_person 76 = .ok (.getfield 98, 3) := by decide +kernel
theorem dX5_person_79 : decode cX5_person 79 = .ok (.iload_n 1, 1) := by decide +kernel
theorem dX5_person_80 : decode cX5_person 80 = .ok (.iaload, 1) := by decide +kernel
theorem dX5_person_81 : decode cX5_person 81 = .ok (.ireturn, 1) := by decide +kernel
theorem dX5_person_82 : decode cX5_person 82 = .ok (.aload_n 0, 1) := by decide +kernel
theorem dX5_person_83 : decode cX5_person 83 = .ok (.getfield 10, 3) := by decide +kernel
theorem dX5_person_86 : decode cX5_person 86 = .ok (.getfield 101, 3) := by decide +kernel
theorem dX5_person_89 : decode cX5_person 89 = .ok (.iload_n 1, 1) := by decide +kernel
theorem dX5_person_90 : decode cX5_person 90 = .ok (.iaload, 1) := by decide +kernel
theorem dX5_person_91 : decode cX5_person 91 = .ok (.ireturn, 1) := by decide +kernel
theorem dX5_person_92 : decode cX5_person 92 = .ok (.aload_n 0, 1) := by decide +kernel
theorem dX5_person_93 : decode cX5_person 93 = .ok (.getfield 10, 3) := by decide +kernel
theorem dX5_person_96 : decode cX5_person 96 = .ok (.iload_n 1, 1) := by decide +kernel
theorem dX5_person_97 : decode cX5_person 97 = .ok (.invokevirtual 104, 3) := by decide +kernel
theorem dX5_person_100 : decode cX5_person 100 = .ok (.ifCond .eq 7, 3) := by decide +kernel
theorem dX5_person_103 : decode cX5_person 103 = .ok (.iconst 1, 1) := by decide +kernel
theorem dX5_person_104 : decode cX5_person 104 = .ok (.goto 4, 3) := by decide +kernel
theorem dX5_person_107 : decode cX5_person 107 = .ok (.iconst 0, 1) := by decide +kernel
theorem dX5_person_108 : decode cX5_person 108 = .ok (.ireturn, 1) := by decide +kernel
theorem dX5_person_109 : decode cX5_person 109 = .ok (.aload_n 0, 1) := by decide +kernel
theorem dX5_person_110 : decode cX5_person 110 = .ok (.bipush (-2), 2) := by decide +kernel
theorem dX5_person_112 : decode cX5_person 112 = .ok (.invokevirtual 65, 3) := by decide +kernel
theorem dX5_person_115 : decode cX5_person 115 = .ok (.ireturn, 1) := by decide +kernel
set_option maxRecDepth 20000 in
theorem ggX5_minutes_X3_has : GoodIn wsX5_minutes wsX3_has := goodIn_r _ [6, 7, 31, 32, 33, 34, 35, 36, 37, 38, 39, 40, 41, 42, 43] (by decide +kernel) (by decide +kernel)
set_option maxRecDepth 20000 in
theorem gX5_minutes_X3_has : GoodIn wsX5_minutes (wsV RX5 88 RX3 yX3_has wsX3_has) := goodIn_app (goodIn_of _ (by decide +kernel)) ggX5_minutes_X3_has
set_option maxRecDepth 20000 in
theorem ggX5_minutes_X5_refuse : GoodIn wsX5_minutes wsX5_refuse := goodIn_r _ [12, 13, 20, 21, 22, 23, 24, 25, 26, 27, 28, 29, 30] (by decide +kernel) (by decide +kernel)
set_option maxRecDepth 20000 in
theorem gX5_minutes_X5_refuse : GoodIn wsX5_minutes (wsV RX5 65 RX5 yX5_refuse wsX5_refuse) := goodIn_app (goodIn_of _ (by decide +kernel)) ggX5_minutes_X5_refuse
set_option maxRecDepth 20000 in
theorem ggX5_minutes_X3_minutesFrom : GoodIn wsX5_minutes wsX3_minutesFrom := goodIn_r _ [17, 18, 19, 3, 4, 5, 6, 7, 31, 32, 33, 34, 35, 36, 37, 38, 39, 40, 41, 42, 43] (by decide +kernel) (by decide +kernel)
set_option maxRecDepth 20000 in
theorem gX5_minutes_X3_minutesFrom : GoodIn wsX5_minutes (wsV RX5 107 RX3 yX3_minutesFrom wsX3_minutesFrom) := goodIn_app (goodIn_of _ (by decide +kernel)) ggX5_minutes_X3_minutesFrom
theorem dX5_minutes_0 : decode cX5_minutes 0 = .ok (.aload_n 0, 1) := by decide +kernel
theorem dX5_minutes_1 : decode cX5_minutes 1 = .ok (.getfield 10, 3) := by decide +kernel
theorem dX5_minutes_4 : decode cX5_minutes 4 = .ok (.iload_n 1, 1) := by decide +kernel
theorem dX5_minutes_5 : decode cX5_minutes 5 = .ok (.invokevirtual 88, 3) := by decide +kernel
theorem dX5_minutes_8 : decode cX5_minutes 8 = .ok (.ifCond .eq 14, 3) := by decide +kernel
theorem dX5_minutes_11 : decode cX5_minutes 11 = .ok (.aload_n 0, 1) := by decide +kernel
theorem dX5_minutes_12 : decode cX5_minutes 12 = .ok (.getfield 10, 3) := by decide +kernel
theorem dX5_minutes_15 : decode cX5_minutes 15 = .ok (.iload_n 2, 1) := by decide +kernel
theorem dX5_minutes_16 : decode cX5_minutes 16 = .ok (.invokevirtual 88, 3) := by decide +kernel
theorem dX5_minutes_19 : decode cX5_minutes 19 = .ok (.ifCond .ne 9, 3) := by decide +kernel
theorem dX5_minutes_22 : decode cX5_minutes 22 = .ok (.aload_n 0, 1) := by decide +kernel
theorem dX5_minutes_23 : decode cX5_minutes 23 = .ok (.iconst (-1), 1) := by decide +kernel
theorem dX5_minutes_24 : decode cX5_minutes 24 = .ok (.invokevirtual 65, 3) := by decide +kernel
theorem dX5_minutes_27 : decode cX5_minutes 27 = .ok (.ireturn, 1) := by decide +kernel
theorem dX5_minutes_28 : decode cX5_minutes 28 = .ok (.aload_n 0, 1) := by decide +kernel
theorem dX5_minutes_29 : decode cX5_minutes 29 = .ok (.getfield 10, 3) := by decide +kernel
theorem dX5_minutes_32 : decode cX5_minutes 32 = .ok (.iload_n 1, 1) := by decide +kernel
theorem dX5_minutes_33 : decode cX5_minutes 33 = .ok (.iload_n 2, 1) := by decide +kernel
theorem dX5_minutes_34 : decode cX5_minutes 34 = .ok (.invokevirtual 107, 3) := by decide +kernel
theorem dX5_minutes_37 : decode cX5_minutes 37 = .ok (.istore_n 3, 1) := by decide +kernel
theorem dX5_minutes_38 : decode cX5_minutes 38 = .ok (.iload_n 3, 1) := by decide +kernel
theorem dX5_minutes_39 : decode cX5_minutes 39 = .ok (.ifCond .le 7, 3) := by decide +kernel
theorem dX5_minutes_42 : decode cX5_minutes 42 = .ok (.iload_n 3, 1) := by decide +kernel
theorem dX5_minutes_43 : decode cX5_minutes 43 = .ok (.goto 5, 3) := by decide +kernel
theorem dX5_minutes_46 : decode cX5_minutes 46 = .ok (.bipush (-9), 2) := by decide +kernel
theorem dX5_minutes_48 : decode cX5_minutes 48 = .ok (.ireturn, 1) := by decide +kernel
set_option maxRecDepth 20000 in
theorem ggX5_law_X5_refuse : GoodIn wsX5_law wsX5_refuse := goodIn_r _ [6, 7, 8, 9, 10, 11, 12, 13, 14, 15, 16, 17, 18] (by decide +kernel) (by decide +kernel)
set_option maxRecDepth 20000 in
theorem gX5_law_X5_refuse : GoodIn wsX5_law (wsV RX5 65 RX5 yX5_refuse wsX5_refuse) := goodIn_app (goodIn_of _ (by decide +kernel)) ggX5_law_X5_refuse
theorem dX5_law_0 : decode cX5_law 0 = .ok (.iload_n 1, 1) := by decide +kernel
theorem dX5_law_1 : decode cX5_law 1 = .ok (.ifCond .lt 8, 3) := by decide +kernel
theorem dX5_law_4 : decode cX5_law 4 = .ok (.iload_n 1, 1) := by decide +kernel
theorem dX5_law_5 : decode cX5_law 5 = .ok (.iconst 4, 1) := by decide +kernel
theorem dX5_law_6 : decode cX5_law 6 = .ok (.if_icmp .le 10, 3) := by decide +kernel
theorem dX5_law_9 : decode cX5_law 9 = .ok (.aload_n 0, 1) := by decide +kernel
theorem dX5_law_10 : decode cX5_law 10 = .ok (.bipush (-2), 2) := by decide +kernel
theorem dX5_law_12 : decode cX5_law 12 = .ok (.invokevirtual 65, 3) := by decide +kernel
theorem dX5_law_15 : decode cX5_law 15 = .ok (.ireturn, 1) := by decide +kernel
theorem dX5_law_16 : decode cX5_law 16 = .ok (.aload_n 0, 1) := by decide +kernel
theorem dX5_law_17 : decode cX5_law 17 = .ok (.getfield 10, 3) := by decide +kernel
theorem dX5_law_20 : decode cX5_law 20 = .ok (.getfield 111, 3) := by decide +kernel
theorem dX5_law_23 : decode cX5_law 23 = .ok (.istore_n 2, 1) := by decide +kernel
theorem dX5_law_24 : decode cX5_law 24 = .ok (.aload_n 0, 1) := by decide +kernel
theorem dX5_law_25 : decode cX5_law 25 = .ok (.getfield 10, 3) := by decide +kernel
theorem dX5_law_28 : decode cX5_law 28 = .ok (.iload_n 1, 1) := by decide +kernel
theorem dX5_law_29 : decode cX5_law 29 = .ok (.putfield 111, 3) := by decide +kernel
theorem dX5_law_32 : decode cX5_law 32 = .ok (.iload_n 2, 1) := by decide +kernel
theorem dX5_law_33 : decode cX5_law 33 = .ok (.ireturn, 1) := by decide +kernel
set_option maxRecDepth 20000 in
theorem ggX5_ask_X5_refusal : GoodIn wsX5_ask wsX5_refusal := goodIn_r _ [7, 1, 8, 9, 10, 11, 12, 13, 14, 15, 16, 6, 17, 18, 19, 20, 21, 22, 23, 24, 25, 26, 27, 28, 29, 105, 106, 107, 108, 109, 110, 111, 112, 113, 114, 115, 116, 117, 118, 119, 120, 121, 122, 123, 124, 125, 126, 127, 128] (by decide +kernel) (by decide +kernel)
set_option maxRecDepth 20000 in
theorem gX5_ask_X5_refusal : GoodIn wsX5_ask (wsV RX5 114 RX5 yX5_refusal wsX5_refusal) := goodIn_app (goodIn_of _ (by decide +kernel)) ggX5_ask_X5_refusal
set_option maxRecDepth 20000 in
theorem ggX5_ask_X3_follow : GoodIn wsX5_ask wsX3_follow := goodIn_r _ [33, 34, 35, 36, 37, 38, 39, 40, 41, 42, 43, 44, 45, 28, 6, 29, 46, 47, 48, 11, 49, 50, 51, 52, 53, 23, 54, 55, 56, 24, 9, 10, 12, 13, 57, 58, 59, 60, 61, 62, 63, 64, 65, 66, 67, 68, 69, 70, 71, 72, 25, 26, 27, 73, 74, 75, 76, 77, 78, 79, 80, 81, 82, 83, 129, 130, 131, 116, 117, 118, 119, 120, 121, 122, 123, 124, 125, 126, 127, 128] (by decide +kernel) (by decide +kernel)
set_option maxRecDepth 20000 in
theorem gX5_ask_X3_follow : GoodIn wsX5_ask (wsV RX5 118 RX3 yX3_follow wsX3_follow) := goodIn_app (goodIn_of _ (by decide +kernel)) ggX5_ask_X3_follow
set_option maxRecDepth 20000 in
theorem ggX5_ask_X3_rightOf : GoodIn wsX5_ask wsX3_rightOf := goodIn_r _ [87, 88, 89, 90, 37, 91, 39, 45, 92, 93, 94, 11, 95, 78, 96, 97, 98, 99, 100, 24, 9, 10, 12, 13, 129, 130, 131, 116, 117, 118, 119, 120, 121, 122, 123, 124, 125, 126, 127, 128] (by decide +kernel) (by decide +kernel)
set_option maxRecDepth 20000 in
theorem gX5_ask_X3_rightOf : GoodIn wsX5_ask (wsV RX5 122 RX3 yX3_rightOf wsX3_rightOf) := goodIn_app (goodIn_of _ (by decide +kernel)) ggX5_ask_X3_rightOf
set_option maxRecDepth 20000 in
theorem ggX5_ask_X3_timeOf : GoodIn wsX5_ask wsX3_timeOf := goodIn_r _ [104, 79, 80, 81, 11, 82, 83, 24, 9, 10, 12, 13, 129, 130, 131, 116, 117, 118, 119, 120, 121, 122, 123, 124, 125, 126, 127, 128] (by decide +kernel) (by decide +kernel)
set_option maxRecDepth 20000 in
theorem gX5_ask_X3_timeOf : GoodIn wsX5_ask (wsV RX5 135 RX3 yX3_timeOf wsX3_timeOf) := goodIn_app (goodIn_of _ (by decide +kernel)) ggX5_ask_X3_timeOf
theorem dX5_ask_0 : decode cX5_ask 0 = .ok (.aload_n 0, 1) := by decide +kernel
theorem dX5_ask_1 : decode cX5_ask 1 = .ok (.iload_n 1, 1) := by decide +kernel
theorem dX5_ask_2 : decode cX5_ask 2 = .ok (.iconst 1, 1) := by decide +kernel
theorem dX5_ask_3 : decode cX5_ask 3 = .ok (.iconst 0, 1) := by decide +kernel
theorem dX5_ask_4 : decode cX5_ask 4 = .ok (.invokevirtual 114, 3) := by decide +kernel
theorem dX5_ask_7 : decode cX5_ask 7 = .ok (.istore_n 2, 1) := by decide +kernel
theorem dX5_ask_8 : decode cX5_ask 8 = .ok (.iload_n 2, 1) := by decide +kernel
theorem dX5_ask_9 : decode cX5_ask 9 = .ok (.ifCond .eq 5, 3) := by decide +kernel
theorem dX5_ask_12 : decode cX5_ask 12 = .ok (.iload_n 2, 1) := by decide +kernel
theorem dX5_ask_13 : decode cX5_ask 13 = .ok (.ireturn, 1) := by decide +kernel
theorem dX5_ask_14 : decode cX5_ask 14 = .ok (.aload_n 0, 1) := by decide +kernel
theorem dX5_ask_15 : decode cX5_ask 15 = .ok (.getfield 10, 3) := by decide +kernel
theorem dX5_ask_18 : decode cX5_ask 18 = .ok (.iload_n 1, 1) := by decide +kernel
theorem dX5_ask_19 : decode cX5_ask 19 = .ok (.aload_n 0, 1) := by decide +kernel
theorem dX5_ask_20 : decode cX5_ask 20 = .ok (.getfield 25, 3) := by decide +kernel
theorem dX5_ask_23 : decode cX5_ask 23 = .ok (.invokevirtual 118, 3) := by decide +kernel
theorem dX5_ask_26 : decode cX5_ask 26 = .ok (.aload_n 0, 1) := by decide +kernel
theorem dX5_ask_27 : decode cX5_ask 27 = .ok (.getfield 10, 3) := by decide +kernel
theorem dX5_ask_30 : decode cX5_ask 30 = .ok (.aload_n 0, 1) := by decide +kernel
theorem dX5_ask_31 : decode cX5_ask 31 = .ok (.getfield 25, 3) := by decide +kernel
theorem dX5_ask_34 : decode cX5_ask 34 = .ok (.invokevirtual 122, 3) := by decide +kernel
theorem dX5_ask_37 : decode cX5_ask 37 = .ok (.istore_n 3, 1) := by decide +kernel
theorem dX5_ask_38 : decode cX5_ask 38 = .ok (.aload_n 0, 1) := by decide +kernel
theorem dX5_ask_39 : decode cX5_ask 39 = .ok (.getfield 10, 3) := by decide +kernel
theorem dX5_ask_42 : decode cX5_ask 42 = .ok (.dup, 1) := by decide +kernel
theorem dX5_ask_43 : decode cX5_ask 43 = .ok (.getfield 126, 3) := by decide +kernel
theorem dX5_ask_46 : decode cX5_ask 46 = .ok (.aload_n 0, 1) := by decide +kernel
theorem dX5_ask_47 : decode cX5_ask 47 = .ok (.getfield 25, 3) := by decide +kernel
theorem dX5_ask_50 : decode cX5_ask 50 = .ok (.getfield 129, 3) := by decide +kernel
theorem dX5_ask_53 : decode cX5_ask 53 = .ok (.ior, 1) := by decide +kernel
theorem dX5_ask_54 : decode cX5_ask 54 = .ok (.putfield 126, 3) := by decide +kernel
theorem dX5_ask_57 : decode cX5_ask 57 = .ok (.aload_n 0, 1) := by decide +kernel
theorem dX5_ask_58 : decode cX5_ask 58 = .ok (.getfield 10, 3) := by decide +kernel
theorem dX5_ask_61 : decode cX5_ask 61 = .ok (.dup, 1) := by decide +kernel
theorem dX5_ask_62 : decode cX5_ask 62 = .ok (.getfield 132, 3) := by decide +kernel
theorem dX5_ask_65 : decode cX5_ask 65 = .ok (.aload_n 0, 1) := by decide +kernel
theorem dX5_ask_66 : decode cX5_ask 66 = .ok (.getfield 10, 3) := by decide +kernel
theorem dX5_ask_69 : decode cX5_ask 69 = .ok (.aload_n 0, 1) := by decide +kernel
theorem dX5_ask_70 : decode cX5_ask 70 = .ok (.getfield 25, 3) := by decide +kernel
theorem dX5_ask_73 : decode cX5_ask 73 = .ok (.invokevirtual 135, 3) := by decide +kernel
theorem dX5_ask_76 : decode cX5_ask 76 = .ok (.iadd, 1) := by decide +kernel
theorem dX5_ask_77 : decode cX5_ask 77 = .ok (.putfield 132, 3) := by decide +kernel
theorem dX5_ask_80 : decode cX5_ask 80 = .ok (.iload_n 3, 1) := by decide +kernel
theorem dX5_ask_81 : decode cX5_ask 81 = .ok (.ireturn, 1) := by decide +kernel
theorem dX5_day_0 : decode cX5_day 0 = .ok (.aload_n 0, 1) := by decide +kernel
theorem dX5_day_1 : decode cX5_day 1 = .ok (.getfield 10, 3) := by decide +kernel
theorem dX5_day_4 : decode cX5_day 4 = .ok (.iconst 0, 1) := by decide +kernel
theorem dX5_day_5 : decode cX5_day 5 = .ok (.putfield 126, 3) := by decide +kernel
theorem dX5_day_8 : decode cX5_day 8 = .ok (.aload_n 0, 1) := by decide +kernel
theorem dX5_day_9 : decode cX5_day 9 = .ok (.getfield 10, 3) := by decide +kernel
theorem dX5_day_12 : decode cX5_day 12 = .ok (.iconst 0, 1) := by decide +kernel
theorem dX5_day_13 : decode cX5_day 13 = .ok (.putfield 132, 3) := by decide +kernel
theorem dX5_day_16 : decode cX5_day 16 = .ok (.aload_n 0, 1) := by decide +kernel
theorem dX5_day_17 : decode cX5_day 17 = .ok (.getfield 10, 3) := by decide +kernel
theorem dX5_day_20 : decode cX5_day 20 = .ok (.dup, 1) := by decide +kernel
theorem dX5_day_21 : decode cX5_day 21 = .ok (.getfield 138, 3) := by decide +kernel
theorem dX5_day_24 : decode cX5_day 24 = .ok (.iconst 1, 1) := by decide +kernel
theorem dX5_day_25 : decode cX5_day 25 = .ok (.iadd, 1) := by decide +kernel
theorem dX5_day_26 : decode cX5_day 26 = .ok (.putfield 138, 3) := by decide +kernel
theorem dX5_day_29 : decode cX5_day 29 = .ok (.aload_n 0, 1) := by decide +kernel
theorem dX5_day_30 : decode cX5_day 30 = .ok (.getfield 10, 3) := by decide +kernel
theorem dX5_day_33 : decode cX5_day 33 = .ok (.getfield 138, 3) := by decide +kernel
theorem dX5_day_36 : decode cX5_day 36 = .ok (.ireturn, 1) := by decide +kernel
set_option maxRecDepth 20000 in
theorem ggX5_may_X5_refusal : GoodIn wsX5_may wsX5_refusal := goodIn_r _ [6, 1, 7, 8, 9, 10, 11, 12, 13, 14, 15, 5, 16, 17, 18, 19, 20, 21, 22, 23, 24, 25, 26, 27, 28, 52, 53, 54, 55, 56, 57, 58, 59, 60, 61, 62, 63, 64, 65, 66, 67, 68, 69, 70, 71, 72, 73, 74, 75] (by decide +kernel) (by decide +kernel)
set_option maxRecDepth 20000 in
theorem gX5_may_X5_refusal : GoodIn wsX5_may (wsV RX5 114 RX5 yX5_refusal wsX5_refusal) := goodIn_app (goodIn_of _ (by decide +kernel)) ggX5_may_X5_refusal
set_option maxRecDepth 20000 in
theorem ggX5_may_X5_bit : GoodIn wsX5_may wsX5_bit := goodIn_r _ [28] (by decide +kernel) (by decide +kernel)
set_option maxRecDepth 20000 in
theorem gX5_may_X5_bit : GoodIn wsX5_may (va_wsS RX5 141 yX5_bit wsX5_bit) := goodIn_app (goodIn_of _ (by decide +kernel)) ggX5_may_X5_bit
set_option maxRecDepth 20000 in
theorem ggX5_may_X3_openTo : GoodIn wsX5_may wsX3_openTo := goodIn_r _ [32, 22, 33, 34, 35, 23, 8, 9, 10, 11, 12, 36, 37, 38, 39, 40, 41, 42, 43, 44, 45, 46, 47, 48, 49, 50, 51, 63, 64, 65, 66, 67, 68, 69, 70, 71, 72, 73, 74, 75] (by decide +kernel) (by decide +kernel)
set_option maxRecDepth 20000 in
theorem gX5_may_X3_openTo : GoodIn wsX5_may (wsV RX5 144 RX3 yX3_openTo wsX3_openTo) := goodIn_app (goodIn_of _ (by decide +kernel)) ggX5_may_X3_openTo
theorem dX5_may_0 : decode cX5_may 0 = .ok (.aload_n 0, 1) := by decide +kernel
theorem dX5_may_1 : decode cX5_may 1 = .ok (.iload_n 1, 1) := by decide +kernel
theorem dX5_may_2 : decode cX5_may 2 = .ok (.iconst 1, 1) := by decide +kernel
theorem dX5_may_3 : decode cX5_may 3 = .ok (.iconst 0, 1) := by decide +kernel
theorem dX5_may_4 : decode cX5_may 4 = .ok (.invokevirtual 114, 3) := by decide +kernel
theorem dX5_may_7 : decode cX5_may 7 = .ok (.istore_n 2, 1) := by decide +kernel
theorem dX5_may_8 : decode cX5_may 8 = .ok (.iload_n 2, 1) := by decide +kernel
theorem dX5_may_9 : decode cX5_may 9 = .ok (.ifCond .eq 5, 3) := by decide +kernel
theorem dX5_may_12 : decode cX5_may 12 = .ok (.iload_n 2, 1) := by decide +kernel
theorem dX5_may_13 : decode cX5_may 13 = .ok (.ireturn, 1) := by decide +kernel
theorem dX5_may_14 : decode cX5_may 14 = .ok (.aload_n 0, 1) := by decide +kernel
theorem dX5_may_15 : decode cX5_may 15 = .ok (.getfield 10, 3) := by decide +kernel
theorem dX5_may_18 : decode cX5_may 18 = .ok (.iload_n 1, 1) := by decide +kernel
theorem dX5_may_19 : decode cX5_may 19 = .ok (.iload_n 1, 1) := by decide +kernel
theorem dX5_may_20 : decode cX5_may 20 = .ok (.invokestatic 141, 3) := by decide +kernel
theorem dX5_may_23 : decode cX5_may 23 = .ok (.invokevirtual 144, 3) := by decide +kernel
theorem dX5_may_26 : decode cX5_may 26 = .ok (.ireturn, 1) := by decide +kernel
set_option maxRecDepth 20000 in
theorem ggX5_run_X5_refusal : GoodIn wsX5_run wsX5_refusal := goodIn_r _ [7, 1, 8, 9, 10, 11, 12, 13, 14, 15, 16, 6, 17, 18, 19, 20, 21, 22, 23, 24, 25, 26, 27, 28, 29, 105, 106, 107, 108, 109, 110, 111, 112, 113, 114, 115, 119, 120, 121, 122, 123, 124, 125, 126, 127, 128, 129, 130, 131] (by decide +kernel) (by decide +kernel)
set_option maxRecDepth 20000 in
theorem gX5_run_X5_refusal : GoodIn wsX5_run (wsV RX5 114 RX5 yX5_refusal wsX5_refusal) := goodIn_app (goodIn_of _ (by decide +kernel)) ggX5_run_X5_refusal
set_option maxRecDepth 20000 in
theorem ggX5_run_X3_follow : GoodIn wsX5_run wsX3_follow := goodIn_r _ [33, 34, 35, 36, 37, 38, 39, 40, 41, 42, 43, 44, 45, 28, 6, 29, 46, 47, 48, 11, 49, 50, 51, 52, 53, 23, 54, 55, 56, 24, 9, 10, 12, 13, 57, 58, 59, 60, 61, 62, 63, 64, 65, 66, 67, 68, 69, 70, 71, 72, 25, 26, 27, 73, 74, 75, 76, 77, 78, 79, 80, 81, 82, 83, 116, 117, 118, 119, 120, 121, 122, 123, 124, 125, 126, 127, 128, 129, 130, 131] (by decide +kernel) (by decide +kernel)
set_option maxRecDepth 20000 in
theorem gX5_run_X3_follow : GoodIn wsX5_run (wsV RX5 118 RX3 yX3_follow wsX3_follow) := goodIn_app (goodIn_of _ (by decide +kernel)) ggX5_run_X3_follow
set_option maxRecDepth 20000 in
theorem ggX5_run_X3_timeOf : GoodIn wsX5_run wsX3_timeOf := goodIn_r _ [87, 79, 80, 81, 11, 82, 83, 24, 9, 10, 12, 13, 116, 117, 118, 119, 120, 121, 122, 123, 124, 125, 126, 127, 128, 129, 130, 131] (by decide +kernel) (by decide +kernel)
set_option maxRecDepth 20000 in
theorem gX5_run_X3_timeOf : GoodIn wsX5_run (wsV RX5 135 RX3 yX3_timeOf wsX3_timeOf) := goodIn_app (goodIn_of _ (by decide +kernel)) ggX5_run_X3_timeOf
set_option maxRecDepth 20000 in
theorem ggX5_run_X3_rightOf : GoodIn wsX5_run wsX3_rightOf := goodIn_r _ [91, 92, 93, 94, 37, 95, 39, 45, 96, 97, 98, 11, 99, 78, 100, 101, 102, 103, 104, 24, 9, 10, 12, 13, 116, 117, 118, 119, 120, 121, 122, 123, 124, 125, 126, 127, 128, 129, 130, 131] (by decide +kernel) (by decide +kernel)
set_option maxRecDepth 20000 in
theorem gX5_run_X3_rightOf : GoodIn wsX5_run (wsV RX5 122 RX3 yX3_rightOf wsX3_rightOf) := goodIn_app (goodIn_of _ (by decide +kernel)) ggX5_run_X3_rightOf
theorem dX5_run_0 : decode cX5_run 0 = .ok (.aload_n 0, 1) := by decide +kernel
theorem dX5_run_1 : decode cX5_run 1 = .ok (.iload_n 1, 1) := by decide +kernel
theorem dX5_run_2 : decode cX5_run 2 = .ok (.iload_n 2, 1) := by decide +kernel
theorem dX5_run_3 : decode cX5_run 3 = .ok (.ifCond .lt 12, 3) := by decide +kernel
theorem dX5_run_6 : decode cX5_run 6 = .ok (.iload_n 2, 1) := by decide +kernel
theorem dX5_run_7 : decode cX5_run 7 = .ok (.iconst 2, 1) := by decide +kernel
theorem dX5_run_8 : decode cX5_run 8 = .ok (.if_icmp .gt 7, 3) := by decide +kernel
theorem dX5_run_11 : decode cX5_run 11 = .ok (.iconst 1, 1) := by decide +kernel
theorem dX5_run_12 : decode cX5_run 12 = .ok (.goto 4, 3) := by decide +kernel
theorem dX5_run_15 : decode cX5_run 15 = .ok (.iconst 0, 1) := by decide +kernel
theorem dX5_run_16 : decode cX5_run 16 = .ok (.bipush (-2), 2) := by decide +kernel
theorem dX5_run_18 : decode cX5_run 18 = .ok (.invokevirtual 114, 3) := by decide +kernel
theorem dX5_run_21 : decode cX5_run 21 = .ok (.istore_n 3, 1) := by decide +kernel
theorem dX5_run_22 : decode cX5_run 22 = .ok (.iload_n 3, 1) := by decide +kernel
theorem dX5_run_23 : decode cX5_run 23 = .ok (.ifCond .eq 5, 3) := by decide +kernel
theorem dX5_run_26 : decode cX5_run 26 = .ok (.iload_n 3, 1) := by decide +kernel
theorem dX5_run_27 : decode cX5_run 27 = .ok (.ireturn, 1) := by decide +kernel
theorem dX5_run_28 : decode cX5_run 28 = .ok (.aload_n 0, 1) := by decide +kernel
theorem dX5_run_29 : decode cX5_run 29 = .ok (.getfield 10, 3) := by decide +kernel
theorem dX5_run_32 : decode cX5_run 32 = .ok (.iload_n 1, 1) := by decide +kernel
theorem dX5_run_33 : decode cX5_run 33 = .ok (.aload_n 0, 1) := by decide +kernel
theorem dX5_run_34 : decode cX5_run 34 = .ok (.getfield 25, 3) := by decide +kernel
theorem dX5_run_37 : decode cX5_run 37 = .ok (.invokevirtual 118, 3) := by decide +kernel
theorem dX5_run_40 : decode cX5_run 40 = .ok (.iload_n 2, 1) := by decide +kernel
theorem dX5_run_41 : decode cX5_run 41 = .ok (.lookupswitch 51 #[(0, 27), (1, 39)], 27) := by decide +kernel
theorem dX5_run_68 : decode cX5_run 68 = .ok (.aload_n 0, 1) := by decide +kernel
theorem dX5_run_69 : decode cX5_run 69 = .ok (.getfield 10, 3) := by decide +kernel
theorem dX5_run_72 : decode cX5_run 72 = .ok (.aload_n 0, 1) := by decide +kernel
theorem dX5_run_73 : decode cX5_run 73 = .ok (.getfield 25, 3) := by decide +kernel
theorem dX5_run_76 : decode cX5_run 76 = .ok (.invokevirtual 135, 3) := by decide +kernel
theorem dX5_run_79 : decode cX5_run 79 = .ok (.ireturn, 1) := by decide +kernel
theorem dX5_run_80 : decode cX5_run 80 = .ok (.aload_n 0, 1) := by decide +kernel
theorem dX5_run_81 : decode cX5_run 81 = .ok (.getfield 10, 3) := by decide +kernel
theorem dX5_run_84 : decode cX5_run 84 = .ok (.aload_n 0, 1) := by decide +kernel
theorem dX5_run_85 : decode cX5_run 85 = .ok (.getfield 25, 3) := by decide +kernel
theorem dX5_run_88 : decode cX5_run 88 = .ok (.invokevirtual 122, 3) := by decide +kernel
theorem dX5_run_91 : decode cX5_run 91 = .ok (.ireturn, 1) := by decide +kernel
theorem dX5_run_92 : decode cX5_run 92 = .ok (.aload_n 0, 1) := by decide +kernel
theorem dX5_run_93 : decode cX5_run 93 = .ok (.getfield 25, 3) := by decide +kernel
theorem dX5_run_96 : decode cX5_run 96 = .ok (.getfield 147, 3) := by decide +kernel
theorem dX5_run_99 : decode cX5_run 99 = .ok (.ireturn, 1) := by decide +kernel
set_option maxRecDepth 20000 in
theorem ggX5_runOf_X5_refusal : GoodIn wsX5_runOf wsX5_refusal := goodIn_r _ [7, 1, 8, 9, 10, 11, 12, 13, 14, 15, 16, 6, 17, 18, 19, 20, 21, 22, 23, 24, 25, 26, 27, 28, 29, 88, 89, 90, 91, 92, 93, 94, 95, 96, 97, 98, 99, 100, 101, 102, 103, 104, 105, 106, 107, 108, 109, 110, 111] (by decide +kernel) (by decide +kernel)
set_option maxRecDepth 20000 in
theorem gX5_runOf_X5_refusal : GoodIn wsX5_runOf (wsV RX5 114 RX5 yX5_refusal wsX5_refusal) := goodIn_app (goodIn_of _ (by decide +kernel)) ggX5_runOf_X5_refusal
set_option maxRecDepth 20000 in
theorem ggX5_runOf_X3_follow : GoodIn wsX5_runOf wsX3_follow := goodIn_r _ [33, 34, 35, 36, 37, 38, 39, 40, 41, 42, 43, 44, 45, 28, 6, 29, 46, 47, 48, 11, 49, 50, 51, 52, 53, 23, 54, 55, 56, 24, 9, 10, 12, 13, 57, 58, 59, 60, 61, 62, 63, 64, 65, 66, 67, 68, 69, 70, 71, 72, 25, 26, 27, 73, 74, 75, 76, 77, 78, 79, 80, 81, 82, 83, 112, 113, 114, 99, 100, 101, 102, 103, 104, 105, 106, 107, 108, 109, 110, 111] (by decide +kernel) (by decide +kernel)
set_option maxRecDepth 20000 in
theorem gX5_runOf_X3_follow : GoodIn wsX5_runOf (wsV RX5 118 RX3 yX3_follow wsX3_follow) := goodIn_app (goodIn_of _ (by decide +kernel)) ggX5_runOf_X3_follow
set_option maxRecDepth 20000 in
theorem ggX5_runOf_X4_answerAt : GoodIn wsX5_runOf wsX4_answerAt := goodIn_r _ [87, 39, 45, 112, 113, 114] (by decide +kernel) (by decide +kernel)
set_option maxRecDepth 20000 in
theorem gX5_runOf_X4_answerAt : GoodIn wsX5_runOf (wsV RX5 150 RX4 yX4_answerAt wsX4_answerAt) := goodIn_app (goodIn_of _ (by decide +kernel)) ggX5_runOf_X4_answerAt
theorem dX5_runOf_0 : decode cX5_runOf 0 = .ok (.aload_n 0, 1) := by decide +kernel
theorem dX5_runOf_1 : decode cX5_runOf 1 = .ok (.iload_n 1, 1) := by decide +kernel
theorem dX5_runOf_2 : decode cX5_runOf 2 = .ok (.iload_n 2, 1) := by decide +kernel
theorem dX5_runOf_3 : decode cX5_runOf 3 = .ok (.ifCond .lt 7, 3) := by decide +kernel
theorem dX5_runOf_6 : decode cX5_runOf 6 = .ok (.iconst 1, 1) := by decide +kernel
theorem dX5_runOf_7 : decode cX5_runOf 7 = .ok (.goto 4, 3) := by decide +kernel
theorem dX5_runOf_10 : decode cX5_runOf 10 = .ok (.iconst 0, 1) := by decide +kernel
theorem dX5_runOf_11 : decode cX5_runOf 11 = .ok (.bipush (-4), 2) := by decide +kernel
theorem dX5_runOf_13 : decode cX5_runOf 13 = .ok (.invokevirtual 114, 3) := by decide +kernel
theorem dX5_runOf_16 : decode cX5_runOf 16 = .ok (.istore_n 3, 1) := by decide +kernel
theorem dX5_runOf_17 : decode cX5_runOf 17 = .ok (.iload_n 3, 1) := by decide +kernel
theorem dX5_runOf_18 : decode cX5_runOf 18 = .ok (.ifCond .eq 5, 3) := by decide +kernel
theorem dX5_runOf_21 : decode cX5_runOf 21 = .ok (.iload_n 3, 1) := by decide +kernel
theorem dX5_runOf_22 : decode cX5_runOf 22 = .ok (.ireturn, 1) := by decide +kernel
theorem dX5_runOf_23 : decode cX5_runOf 23 = .ok (.aload_n 0, 1) := by decide +kernel
theorem dX5_runOf_24 : decode cX5_runOf 24 = .ok (.getfield 10, 3) := by decide +kernel
theorem dX5_runOf_27 : decode cX5_runOf 27 = .ok (.iload_n 1, 1) := by decide +kernel
theorem dX5_runOf_28 : decode cX5_runOf 28 = .ok (.aload_n 0, 1) := by decide +kernel
theorem dX5_runOf_29 : decode cX5_runOf 29 = .ok (.getfield 25, 3) := by decide +kernel
theorem dX5_runOf_32 : decode cX5_runOf 32 = .ok (.invokevirtual 118, 3) := by decide +kernel
theorem dX5_runOf_35 : decode cX5_runOf 35 = .ok (.aload_n 0, 1) := by decide +kernel
theorem dX5_runOf_36 : decode cX5_runOf 36 = .ok (.getfield 25, 3) := by decide +kernel
theorem dX5_runOf_39 : decode cX5_runOf 39 = .ok (.iload_n 2, 1) := by decide +kernel
theorem dX5_runOf_40 : decode cX5_runOf 40 = .ok (.invokevirtual 150, 3) := by decide +kernel
theorem dX5_runOf_43 : decode cX5_runOf 43 = .ok (.ireturn, 1) := by decide +kernel
set_option maxRecDepth 20000 in
theorem ggX5_ways_X5_refusal : GoodIn wsX5_ways wsX5_refusal := goodIn_r _ [6, 7, 8, 9, 10, 11, 12, 13, 14, 15, 16, 5, 17, 18, 19, 20, 21, 22, 23, 24, 25, 26, 27, 28, 29, 133, 134, 135, 136, 137, 138, 139, 140, 141, 142, 143, 152, 153, 154, 155, 156, 157, 158, 159, 160, 161, 162, 163, 164] (by decide +kernel) (by decide +kernel)
set_option maxRecDepth 20000 in
theorem gX5_ways_X5_refusal : GoodIn wsX5_ways (wsV RX5 114 RX5 yX5_refusal wsX5_refusal) := goodIn_app (goodIn_of _ (by decide +kernel)) ggX5_ways_X5_refusal
set_option maxRecDepth 20000 in
theorem ggX5_ways_X5_exploreFrom : GoodIn wsX5_ways wsX5_exploreFrom := goodIn_r _ [33, 1, 7, 34, 35, 36, 37, 38, 39, 40, 41, 42, 43, 44, 45, 46, 47, 48, 49, 50, 51, 52, 53, 5, 54, 55, 56, 57, 58, 59, 28, 29, 60, 61, 62, 11, 63, 23, 64, 65, 66, 24, 9, 10, 12, 13, 67, 68, 69, 70, 71, 72, 73, 74, 75, 76, 77, 78, 79, 80, 81, 82, 83, 84, 85, 86, 87, 88, 89, 90, 91, 92, 93, 94, 95, 96, 97, 98, 99, 100, 101, 102, 103, 104, 105, 106, 107, 108, 109, 110, 111, 112, 113, 114, 115, 116, 117, 118, 119, 120, 121, 122, 123, 124, 125, 126, 127, 128, 25, 26, 27, 129, 130, 131, 132, 133, 134, 135, 136, 137, 138, 139, 140, 141, 142, 143, 144, 145, 146, 147, 148, 149, 150, 151, 165, 166, 167, 152, 153, 154, 155, 156, 157, 158, 159, 160, 161, 162, 163, 164] (by decide +kernel) (by decide +kernel)
set_option maxRecDepth 20000 in
theorem gX5_ways_X5_exploreFrom : GoodIn wsX5_ways (wsV RX5 153 RX5 yX5_exploreFrom wsX5_exploreFrom) := goodIn_app (goodIn_of _ (by decide +kernel)) ggX5_ways_X5_exploreFrom
theorem dX5_ways_0 : decode cX5_ways 0 = .ok (.aload_n 0, 1) := by decide +kernel
theorem dX5_ways_1 : decode cX5_ways 1 = .ok (.iload_n 1, 1) := by decide +kernel
theorem dX5_ways_2 : decode cX5_ways 2 = .ok (.iconst 1, 1) := by decide +kernel
theorem dX5_ways_3 : decode cX5_ways 3 = .ok (.iconst 0, 1) := by decide +kernel
theorem dX5_ways_4 : decode cX5_ways 4 = .ok (.invokevirtual 114, 3) := by decide +kernel
theorem dX5_ways_7 : decode cX5_ways 7 = .ok (.istore_n 2, 1) := by decide +kernel
theorem dX5_ways_8 : decode cX5_ways 8 = .ok (.iload_n 2, 1) := by decide +kernel
theorem dX5_ways_9 : decode cX5_ways 9 = .ok (.ifCond .eq 5, 3) := by decide +kernel
theorem dX5_ways_12 : decode cX5_ways 12 = .ok (.iload_n 2, 1) := by decide +kernel
theorem dX5_ways_13 : decode cX5_ways 13 = .ok (.ireturn, 1) := by decide +kernel
theorem dX5_ways_14 : decode cX5_ways 14 = .ok (.aload_n 0, 1) := by decide +kernel
theorem dX5_ways_15 : decode cX5_ways 15 = .ok (.iload_n 1, 1) := by decide +kernel
theorem dX5_ways_16 : decode cX5_ways 16 = .ok (.iconst 0, 1) := by decide +kernel
theorem dX5_ways_17 : decode cX5_ways 17 = .ok (.iconst (-1), 1) := by decide +kernel
theorem dX5_ways_18 : decode cX5_ways 18 = .ok (.invokevirtual 153, 3) := by decide +kernel
theorem dX5_ways_21 : decode cX5_ways 21 = .ok (.aload_n 0, 1) := by decide +kernel
theorem dX5_ways_22 : decode cX5_ways 22 = .ok (.getfield 32, 3) := by decide +kernel
theorem dX5_ways_25 : decode cX5_ways 25 = .ok (.getfield 157, 3) := by decide +kernel
theorem dX5_ways_28 : decode cX5_ways 28 = .ok (.ireturn, 1) := by decide +kernel
set_option maxRecDepth 20000 in
theorem ggX5_soonest_X5_refusal : GoodIn wsX5_soonest wsX5_refusal := goodIn_r _ [6, 7, 8, 9, 10, 11, 12, 13, 14, 15, 16, 5, 17, 18, 19, 20, 21, 22, 23, 24, 25, 26, 27, 28, 29, 134, 135, 136, 137, 138, 139, 140, 141, 142, 143, 144, 153, 154, 155, 156, 157, 158, 159, 160, 161, 162, 163, 164, 165] (by decide +kernel) (by decide +kernel)
set_option maxRecDepth 20000 in
theorem gX5_soonest_X5_refusal : GoodIn wsX5_soonest (wsV RX5 114 RX5 yX5_refusal wsX5_refusal) := goodIn_app (goodIn_of _ (by decide +kernel)) ggX5_soonest_X5_refusal
set_option maxRecDepth 20000 in
theorem ggX5_soonest_X5_exploreFrom : GoodIn wsX5_soonest wsX5_exploreFrom := goodIn_r _ [33, 1, 7, 34, 35, 36, 37, 38, 39, 40, 41, 42, 43, 44, 45, 46, 47, 48, 49, 50, 51, 52, 53, 5, 54, 55, 56, 57, 58, 59, 28, 29, 60, 61, 62, 11, 63, 23, 64, 65, 66, 24, 9, 10, 12, 13, 67, 68, 69, 70, 71, 72, 73, 74, 75, 76, 77, 78, 79, 80, 81, 82, 83, 84, 85, 86, 87, 88, 89, 90, 91, 92, 93, 94, 95, 96, 97, 98, 99, 100, 101, 102, 103, 104, 105, 106, 107, 108, 109, 110, 111, 112, 113, 114, 115, 116, 117, 118, 119, 120, 121, 122, 123, 124, 125, 126, 127, 128, 25, 26, 27, 129, 130, 131, 132, 134, 135, 136, 137, 138, 139, 140, 141, 142, 143, 144, 145, 146, 147, 148, 149, 150, 151, 152, 166, 167, 168, 153, 154, 155, 156, 157, 158, 159, 160, 161, 162, 163, 164, 165] (by decide +kernel) (by decide +kernel)
set_option maxRecDepth 20000 in
theorem gX5_soonest_X5_exploreFrom : GoodIn wsX5_soonest (wsV RX5 153 RX5 yX5_exploreFrom wsX5_exploreFrom) := goodIn_app (goodIn_of _ (by decide +kernel)) ggX5_soonest_X5_exploreFrom
set_option maxRecDepth 20000 in
theorem ggX5_soonest_X4_answerAt : GoodIn wsX5_soonest wsX4_answerAt := goodIn_r _ [105, 50, 59, 166, 167, 168] (by decide +kernel) (by decide +kernel)
set_option maxRecDepth 20000 in
theorem gX5_soonest_X4_answerAt : GoodIn wsX5_soonest (wsV RX5 150 RX4 yX4_answerAt wsX4_answerAt) := goodIn_app (goodIn_of _ (by decide +kernel)) ggX5_soonest_X4_answerAt
theorem dX5_soonest_0 : decode cX5_soonest 0 = .ok (.aload_n 0, 1) := by decide +kernel
theorem dX5_soonest_1 : decode cX5_soonest 1 = .ok (.iload_n 1, 1) := by decide +kernel
theorem dX5_soonest_2 : decode cX5_soonest 2 = .ok (.iload_n 2, 1) := by decide +kernel
theorem dX5_soonest_3 : decode cX5_soonest 3 = .ok (.iconst (-1), 1) := by decide +kernel
theorem dX5_soonest_4 : decode cX5_soonest 4 = .ok (.if_icmp .lt 7, 3) := by decide +kernel
theorem dX5_soonest_7 : decode cX5_soonest 7 = .ok (.iconst 1, 1) := by decide +kernel
theorem dX5_soonest_8 : decode cX5_soonest 8 = .ok (.goto 4, 3) := by decide +kernel
theorem dX5_soonest_11 : decode cX5_soonest 11 = .ok (.iconst 0, 1) := by decide +kernel
theorem dX5_soonest_12 : decode cX5_soonest 12 = .ok (.bipush (-4), 2) := by decide +kernel
theorem dX5_soonest_14 : decode cX5_soonest 14 = .ok (.invokevirtual 114, 3) := by decide +kernel
theorem dX5_soonest_17 : decode cX5_soonest 17 = .ok (.istore_n 3, 1) := by decide +kernel
theorem dX5_soonest_18 : decode cX5_soonest 18 = .ok (.iload_n 3, 1) := by decide +kernel
theorem dX5_soonest_19 : decode cX5_soonest 19 = .ok (.ifCond .eq 5, 3) := by decide +kernel
theorem dX5_soonest_22 : decode cX5_soonest 22 = .ok (.iload_n 3, 1) := by decide +kernel
theorem dX5_soonest_23 : decode cX5_soonest 23 = .ok (.ireturn, 1) := by decide +kernel
theorem dX5_soonest_24 : decode cX5_soonest 24 = .ok (.aload_n 0, 1) := by decide +kernel
theorem dX5_soonest_25 : decode cX5_soonest 25 = .ok (.iload_n 1, 1) := by decide +kernel
theorem dX5_soonest_26 : decode cX5_soonest 26 = .ok (.iconst 0, 1) := by decide +kernel
theorem dX5_soonest_27 : decode cX5_soonest 27 = .ok (.iconst (-1), 1) := by decide +kernel
theorem dX5_soonest_28 : decode cX5_soonest 28 = .ok (.invokevirtual 153, 3) := by decide +kernel
theorem dX5_soonest_31 : decode cX5_soonest 31 = .ok (.iload_n 2, 1) := by decide +kernel
theorem dX5_soonest_32 : decode cX5_soonest 32 = .ok (.iconst (-1), 1) := by decide +kernel
theorem dX5_soonest_33 : decode cX5_soonest 33 = .ok (.if_icmp .ne 13, 3) := by decide +kernel
theorem dX5_soonest_36 : decode cX5_soonest 36 = .ok (.aload_n 0, 1) := by decide +kernel
theorem dX5_soonest_37 : decode cX5_soonest 37 = .ok (.getfield 32, 3) := by decide +kernel
theorem dX5_soonest_40 : decode cX5_soonest 40 = .ok (.getfield 160, 3) := by decide +kernel
theorem dX5_soonest_43 : decode cX5_soonest 43 = .ok (.goto 14, 3) := by decide +kernel
theorem dX5_soonest_46 : decode cX5_soonest 46 = .ok (.aload_n 0, 1) := by decide +kernel
theorem dX5_soonest_47 : decode cX5_soonest 47 = .ok (.getfield 32, 3) := by decide +kernel
theorem dX5_soonest_50 : decode cX5_soonest 50 = .ok (.getfield 163, 3) := by decide +kernel
theorem dX5_soonest_53 : decode cX5_soonest 53 = .ok (.iload_n 2, 1) := by decide +kernel
theorem dX5_soonest_54 : decode cX5_soonest 54 = .ok (.invokevirtual 150, 3) := by decide +kernel
theorem dX5_soonest_57 : decode cX5_soonest 57 = .ok (.ireturn, 1) := by decide +kernel
set_option maxRecDepth 20000 in
theorem ggX5_surest_X5_refusal : GoodIn wsX5_surest wsX5_refusal := goodIn_r _ [6, 7, 8, 9, 10, 11, 12, 13, 14, 15, 16, 5, 17, 18, 19, 20, 21, 22, 23, 24, 25, 26, 27, 28, 29, 134, 135, 136, 137, 138, 139, 140, 141, 142, 143, 144, 153, 154, 155, 156, 157, 158, 159, 160, 161, 162, 163, 164, 165] (by decide +kernel) (by decide +kernel)
set_option maxRecDepth 20000 in
theorem gX5_surest_X5_refusal : GoodIn wsX5_surest (wsV RX5 114 RX5 yX5_refusal wsX5_refusal) := goodIn_app (goodIn_of _ (by decide +kernel)) ggX5_surest_X5_refusal
set_option maxRecDepth 20000 in
theorem ggX5_surest_X5_exploreFrom : GoodIn wsX5_surest wsX5_exploreFrom := goodIn_r _ [33, 1, 7, 34, 35, 36, 37, 38, 39, 40, 41, 42, 43, 44, 45, 46, 47, 48, 49, 50, 51, 52, 53, 5, 54, 55, 56, 57, 58, 59, 28, 29, 60, 61, 62, 11, 63, 23, 64, 65, 66, 24, 9, 10, 12, 13, 67, 68, 69, 70, 71, 72, 73, 74, 75, 76, 77, 78, 79, 80, 81, 82, 83, 84, 85, 86, 87, 88, 89, 90, 91, 92, 93, 94, 95, 96, 97, 98, 99, 100, 101, 102, 103, 104, 105, 106, 107, 108, 109, 110, 111, 112, 113, 114, 115, 116, 117, 118, 119, 120, 121, 122, 123, 124, 125, 126, 127, 128, 25, 26, 27, 129, 130, 131, 132, 134, 135, 136, 137, 138, 139, 140, 141, 142, 143, 144, 145, 146, 147, 148, 149, 150, 151, 152, 166, 167, 168, 153, 154, 155, 156, 157, 158, 159, 160, 161, 162, 163, 164, 165] (by decide +kernel) (by decide +kernel)
set_option maxRecDepth 20000 in
theorem gX5_surest_X5_exploreFrom : GoodIn wsX5_surest (wsV RX5 153 RX5 yX5_exploreFrom wsX5_exploreFrom) := goodIn_app (goodIn_of _ (by decide +kernel)) ggX5_surest_X5_exploreFrom
set_option maxRecDepth 20000 in
theorem ggX5_surest_X4_answerAt : GoodIn wsX5_surest wsX4_answerAt := goodIn_r _ [105, 50, 59, 166, 167, 168] (by decide +kernel) (by decide +kernel)
set_option maxRecDepth 20000 in
theorem gX5_surest_X4_answerAt : GoodIn wsX5_surest (wsV RX5 150 RX4 yX4_answerAt wsX4_answerAt) := goodIn_app (goodIn_of _ (by decide +kernel)) ggX5_surest_X4_answerAt
theorem dX5_surest_0 : decode cX5_surest 0 = .ok (.aload_n 0, 1) := by decide +kernel
theorem dX5_surest_1 : decode cX5_surest 1 = .ok (.iload_n 1, 1) := by decide +kernel
theorem dX5_surest_2 : decode cX5_surest 2 = .ok (.iload_n 2, 1) := by decide +kernel
theorem dX5_surest_3 : decode cX5_surest 3 = .ok (.iconst (-1), 1) := by decide +kernel
theorem dX5_surest_4 : decode cX5_surest 4 = .ok (.if_icmp .lt 7, 3) := by decide +kernel
theorem dX5_surest_7 : decode cX5_surest 7 = .ok (.iconst 1, 1) := by decide +kernel
theorem dX5_surest_8 : decode cX5_surest 8 = .ok (.goto 4, 3) := by decide +kernel
theorem dX5_surest_11 : decode cX5_surest 11 = .ok (.iconst 0, 1) := by decide +kernel
theorem dX5_surest_12 : decode cX5_surest 12 = .ok (.bipush (-4), 2) := by decide +kernel
theorem dX5_surest_14 : decode cX5_surest 14 = .ok (.invokevirtual 114, 3) := by decide +kernel
theorem dX5_surest_17 : decode cX5_surest 17 = .ok (.istore_n 3, 1) := by decide +kernel
theorem dX5_surest_18 : decode cX5_surest 18 = .ok (.iload_n 3, 1) := by decide +kernel
theorem dX5_surest_19 : decode cX5_surest 19 = .ok (.ifCond .eq 5, 3) := by decide +kernel
theorem dX5_surest_22 : decode cX5_surest 22 = .ok (.iload_n 3, 1) := by decide +kernel
theorem dX5_surest_23 : decode cX5_surest 23 = .ok (.ireturn, 1) := by decide +kernel
theorem dX5_surest_24 : decode cX5_surest 24 = .ok (.aload_n 0, 1) := by decide +kernel
theorem dX5_surest_25 : decode cX5_surest 25 = .ok (.iload_n 1, 1) := by decide +kernel
theorem dX5_surest_26 : decode cX5_surest 26 = .ok (.iconst 1, 1) := by decide +kernel
theorem dX5_surest_27 : decode cX5_surest 27 = .ok (.iconst (-1), 1) := by decide +kernel
theorem dX5_surest_28 : decode cX5_surest 28 = .ok (.invokevirtual 153, 3) := by decide +kernel
theorem dX5_surest_31 : decode cX5_surest 31 = .ok (.iload_n 2, 1) := by decide +kernel
theorem dX5_surest_32 : decode cX5_surest 32 = .ok (.iconst (-1), 1) := by decide +kernel
theorem dX5_surest_33 : decode cX5_surest 33 = .ok (.if_icmp .ne 13, 3) := by decide +kernel
theorem dX5_surest_36 : decode cX5_surest 36 = .ok (.aload_n 0, 1) := by decide +kernel
theorem dX5_surest_37 : decode cX5_surest 37 = .ok (.getfield 32, 3) := by decide +kernel
theorem dX5_surest_40 : decode cX5_surest 40 = .ok (.getfield 166, 3) := by decide +kernel
theorem dX5_surest_43 : decode cX5_surest 43 = .ok (.goto 14, 3) := by decide +kernel
theorem dX5_surest_46 : decode cX5_surest 46 = .ok (.aload_n 0, 1) := by decide +kernel
theorem dX5_surest_47 : decode cX5_surest 47 = .ok (.getfield 32, 3) := by decide +kernel
theorem dX5_surest_50 : decode cX5_surest 50 = .ok (.getfield 163, 3) := by decide +kernel
theorem dX5_surest_53 : decode cX5_surest 53 = .ok (.iload_n 2, 1) := by decide +kernel
theorem dX5_surest_54 : decode cX5_surest 54 = .ok (.invokevirtual 150, 3) := by decide +kernel
theorem dX5_surest_57 : decode cX5_surest 57 = .ok (.ireturn, 1) := by decide +kernel
set_option maxRecDepth 20000 in
theorem ggX5_longest_X5_refusal : GoodIn wsX5_longest wsX5_refusal := goodIn_r _ [6, 7, 8, 9, 10, 11, 12, 13, 14, 15, 16, 5, 17, 18, 19, 20, 21, 22, 23, 24, 25, 26, 27, 28, 29, 134, 135, 136, 137, 138, 139, 140, 141, 142, 143, 144, 156, 157, 158, 159, 160, 161, 162, 163, 164, 165, 166, 167, 168] (by decide +kernel) (by decide +kernel)
set_option maxRecDepth 20000 in
theorem gX5_longest_X5_refusal : GoodIn wsX5_longest (wsV RX5 114 RX5 yX5_refusal wsX5_refusal) := goodIn_app (goodIn_of _ (by decide +kernel)) ggX5_longest_X5_refusal
set_option maxRecDepth 20000 in
theorem ggX5_longest_X5_exploreFrom : GoodIn wsX5_longest wsX5_exploreFrom := goodIn_r _ [33, 1, 7, 34, 35, 36, 37, 38, 39, 40, 41, 42, 43, 44, 45, 46, 47, 48, 49, 50, 51, 52, 53, 5, 54, 55, 56, 57, 58, 59, 28, 29, 60, 61, 62, 11, 63, 23, 64, 65, 66, 24, 9, 10, 12, 13, 67, 68, 69, 70, 71, 72, 73, 74, 75, 76, 77, 78, 79, 80, 81, 82, 83, 84, 85, 86, 87, 88, 89, 90, 91, 92, 93, 94, 95, 96, 97, 98, 99, 100, 101, 102, 103, 104, 105, 106, 107, 108, 109, 110, 111, 112, 113, 114, 115, 116, 117, 118, 119, 120, 121, 122, 123, 124, 125, 126, 127, 128, 25, 26, 27, 129, 130, 131, 132, 134, 135, 136, 137, 138, 139, 140, 141, 142, 143, 144, 145, 146, 147, 148, 149, 150, 151, 152, 153, 154, 155, 156, 157, 158, 159, 160, 161, 162, 163, 164, 165, 166, 167, 168] (by decide +kernel) (by decide +kernel)
set_option maxRecDepth 20000 in
theorem gX5_longest_X5_exploreFrom : GoodIn wsX5_longest (wsV RX5 153 RX5 yX5_exploreFrom wsX5_exploreFrom) := goodIn_app (goodIn_of _ (by decide +kernel)) ggX5_longest_X5_exploreFrom
set_option maxRecDepth 20000 in
theorem ggX5_longest_X4_answerAt : GoodIn wsX5_longest wsX4_answerAt := goodIn_r _ [105, 50, 59, 153, 154, 155] (by decide +kernel) (by decide +kernel)
set_option maxRecDepth 20000 in
theorem gX5_longest_X4_answerAt : GoodIn wsX5_longest (wsV RX5 150 RX4 yX4_answerAt wsX4_answerAt) := goodIn_app (goodIn_of _ (by decide +kernel)) ggX5_longest_X4_answerAt
theorem dX5_longest_0 : decode cX5_longest 0 = .ok (.aload_n 0, 1) := by decide +kernel
theorem dX5_longest_1 : decode cX5_longest 1 = .ok (.iload_n 1, 1) := by decide +kernel
theorem dX5_longest_2 : decode cX5_longest 2 = .ok (.iload_n 2, 1) := by decide +kernel
theorem dX5_longest_3 : decode cX5_longest 3 = .ok (.iconst (-1), 1) := by decide +kernel
theorem dX5_longest_4 : decode cX5_longest 4 = .ok (.if_icmp .lt 7, 3) := by decide +kernel
theorem dX5_longest_7 : decode cX5_longest 7 = .ok (.iconst 1, 1) := by decide +kernel
theorem dX5_longest_8 : decode cX5_longest 8 = .ok (.goto 4, 3) := by decide +kernel
theorem dX5_longest_11 : decode cX5_longest 11 = .ok (.iconst 0, 1) := by decide +kernel
theorem dX5_longest_12 : decode cX5_longest 12 = .ok (.bipush (-4), 2) := by decide +kernel
theorem dX5_longest_14 : decode cX5_longest 14 = .ok (.invokevirtual 114, 3) := by decide +kernel
theorem dX5_longest_17 : decode cX5_longest 17 = .ok (.istore_n 3, 1) := by decide +kernel
theorem dX5_longest_18 : decode cX5_longest 18 = .ok (.iload_n 3, 1) := by decide +kernel
theorem dX5_longest_19 : decode cX5_longest 19 = .ok (.ifCond .eq 5, 3) := by decide +kernel
theorem dX5_longest_22 : decode cX5_longest 22 = .ok (.iload_n 3, 1) := by decide +kernel
theorem dX5_longest_23 : decode cX5_longest 23 = .ok (.ireturn, 1) := by decide +kernel
theorem dX5_longest_24 : decode cX5_longest 24 = .ok (.aload_n 0, 1) := by decide +kernel
theorem dX5_longest_25 : decode cX5_longest 25 = .ok (.iload_n 1, 1) := by decide +kernel
theorem dX5_longest_26 : decode cX5_longest 26 = .ok (.iconst 2, 1) := by decide +kernel
theorem dX5_longest_27 : decode cX5_longest 27 = .ok (.iconst (-1), 1) := by decide +kernel
theorem dX5_longest_28 : decode cX5_longest 28 = .ok (.invokevirtual 153, 3) := by decide +kernel
theorem dX5_longest_31 : decode cX5_longest 31 = .ok (.iload_n 2, 1) := by decide +kernel
theorem dX5_longest_32 : decode cX5_longest 32 = .ok (.iconst (-1), 1) := by decide +kernel
theorem dX5_longest_33 : decode cX5_longest 33 = .ok (.if_icmp .ne 16, 3) := by decide +kernel
theorem dX5_longest_36 : decode cX5_longest 36 = .ok (.aload_n 0, 1) := by decide +kernel
theorem dX5_longest_37 : decode cX5_longest 37 = .ok (.getfield 32, 3) := by decide +kernel
theorem dX5_longest_40 : decode cX5_longest 40 = .ok (.getfield 163, 3) := by decide +kernel
theorem dX5_longest_43 : decode cX5_longest 43 = .ok (.getfield 147, 3) := by decide +kernel
theorem dX5_longest_46 : decode cX5_longest 46 = .ok (.goto 14, 3) := by decide +kernel
theorem dX5_longest_49 : decode cX5_longest 49 = .ok (.aload_n 0, 1) := by decide +kernel
theorem dX5_longest_50 : decode cX5_longest 50 = .ok (.getfield 32, 3) := by decide +kernel
theorem dX5_longest_53 : decode cX5_longest 53 = .ok (.getfield 163, 3) := by decide +kernel
theorem dX5_longest_56 : decode cX5_longest 56 = .ok (.iload_n 2, 1) := by decide +kernel
theorem dX5_longest_57 : decode cX5_longest 57 = .ok (.invokevirtual 150, 3) := by decide +kernel
theorem dX5_longest_60 : decode cX5_longest 60 = .ok (.ireturn, 1) := by decide +kernel
set_option maxRecDepth 20000 in
theorem ggX5_always_X5_refusal : GoodIn wsX5_always wsX5_refusal := goodIn_r _ [6, 7, 8, 9, 10, 11, 12, 13, 14, 15, 16, 5, 17, 18, 19, 20, 21, 22, 23, 24, 25, 26, 27, 28, 29, 133, 134, 135, 136, 137, 138, 139, 140, 141, 142, 143, 152, 153, 154, 155, 156, 157, 158, 159, 160, 161, 162, 163, 164] (by decide +kernel) (by decide +kernel)
set_option maxRecDepth 20000 in
theorem gX5_always_X5_refusal : GoodIn wsX5_always (wsV RX5 114 RX5 yX5_refusal wsX5_refusal) := goodIn_app (goodIn_of _ (by decide +kernel)) ggX5_always_X5_refusal
set_option maxRecDepth 20000 in
theorem ggX5_always_X5_exploreFrom : GoodIn wsX5_always wsX5_exploreFrom := goodIn_r _ [33, 1, 7, 34, 35, 36, 37, 38, 39, 40, 41, 42, 43, 44, 45, 46, 47, 48, 49, 50, 51, 52, 53, 5, 54, 55, 56, 57, 58, 59, 28, 29, 60, 61, 62, 11, 63, 23, 64, 65, 66, 24, 9, 10, 12, 13, 67, 68, 69, 70, 71, 72, 73, 74, 75, 76, 77, 78, 79, 80, 81, 82, 83, 84, 85, 86, 87, 88, 89, 90, 91, 92, 93, 94, 95, 96, 97, 98, 99, 100, 101, 102, 103, 104, 105, 106, 107, 108, 109, 110, 111, 112, 113, 114, 115, 116, 117, 118, 119, 120, 121, 122, 123, 124, 125, 126, 127, 128, 25, 26, 27, 129, 130, 131, 132, 133, 134, 135, 136, 137, 138, 139, 140, 141, 142, 143, 144, 145, 146, 147, 148, 149, 150, 151, 165, 166, 167, 152, 153, 154, 155, 156, 157, 158, 159, 160, 161, 162, 163, 164] (by decide +kernel) (by decide +kernel)
set_option maxRecDepth 20000 in
theorem gX5_always_X5_exploreFrom : GoodIn wsX5_always (wsV RX5 153 RX5 yX5_exploreFrom wsX5_exploreFrom) := goodIn_app (goodIn_of _ (by decide +kernel)) ggX5_always_X5_exploreFrom
theorem dX5_always_0 : decode cX5_always 0 = .ok (.aload_n 0, 1) := by decide +kernel
theorem dX5_always_1 : decode cX5_always 1 = .ok (.iload_n 1, 1) := by decide +kernel
theorem dX5_always_2 : decode cX5_always 2 = .ok (.iconst 1, 1) := by decide +kernel
theorem dX5_always_3 : decode cX5_always 3 = .ok (.iconst 0, 1) := by decide +kernel
theorem dX5_always_4 : decode cX5_always 4 = .ok (.invokevirtual 114, 3) := by decide +kernel
theorem dX5_always_7 : decode cX5_always 7 = .ok (.istore_n 2, 1) := by decide +kernel
theorem dX5_always_8 : decode cX5_always 8 = .ok (.iload_n 2, 1) := by decide +kernel
theorem dX5_always_9 : decode cX5_always 9 = .ok (.ifCond .eq 5, 3) := by decide +kernel
theorem dX5_always_12 : decode cX5_always 12 = .ok (.iload_n 2, 1) := by decide +kernel
theorem dX5_always_13 : decode cX5_always 13 = .ok (.ireturn, 1) := by decide +kernel
theorem dX5_always_14 : decode cX5_always 14 = .ok (.aload_n 0, 1) := by decide +kernel
theorem dX5_always_15 : decode cX5_always 15 = .ok (.iload_n 1, 1) := by decide +kernel
theorem dX5_always_16 : decode cX5_always 16 = .ok (.iconst 0, 1) := by decide +kernel
theorem dX5_always_17 : decode cX5_always 17 = .ok (.iconst (-1), 1) := by decide +kernel
theorem dX5_always_18 : decode cX5_always 18 = .ok (.invokevirtual 153, 3) := by decide +kernel
theorem dX5_always_21 : decode cX5_always 21 = .ok (.aload_n 0, 1) := by decide +kernel
theorem dX5_always_22 : decode cX5_always 22 = .ok (.getfield 32, 3) := by decide +kernel
theorem dX5_always_25 : decode cX5_always 25 = .ok (.getfield 169, 3) := by decide +kernel
theorem dX5_always_28 : decode cX5_always 28 = .ok (.ireturn, 1) := by decide +kernel
set_option maxRecDepth 20000 in
theorem ggX5_took_X5_refusal : GoodIn wsX5_took wsX5_refusal := goodIn_r _ [6, 7, 8, 9, 10, 11, 12, 13, 14, 15, 16, 5, 17, 18, 19, 20, 21, 22, 23, 24, 25, 26, 27, 28, 29, 133, 134, 135, 136, 137, 138, 139, 140, 141, 142, 143, 152, 153, 154, 155, 156, 157, 158, 159, 160, 161, 162, 163, 164] (by decide +kernel) (by decide +kernel)
set_option maxRecDepth 20000 in
theorem gX5_took_X5_refusal : GoodIn wsX5_took (wsV RX5 114 RX5 yX5_refusal wsX5_refusal) := goodIn_app (goodIn_of _ (by decide +kernel)) ggX5_took_X5_refusal
set_option maxRecDepth 20000 in
theorem ggX5_took_X5_refuse : GoodIn wsX5_took wsX5_refuse := goodIn_r _ [17, 18, 133, 134, 135, 136, 137, 138, 139, 140, 141, 142, 143] (by decide +kernel) (by decide +kernel)
set_option maxRecDepth 20000 in
theorem gX5_took_X5_refuse : GoodIn wsX5_took (wsV RX5 65 RX5 yX5_refuse wsX5_refuse) := goodIn_app (goodIn_of _ (by decide +kernel)) ggX5_took_X5_refuse
set_option maxRecDepth 20000 in
theorem ggX5_took_X5_exploreFrom : GoodIn wsX5_took wsX5_exploreFrom := goodIn_r _ [33, 1, 7, 34, 35, 36, 37, 38, 39, 40, 41, 42, 43, 44, 45, 46, 47, 48, 49, 50, 51, 52, 53, 5, 54, 55, 56, 57, 58, 59, 28, 29, 60, 61, 62, 11, 63, 23, 64, 65, 66, 24, 9, 10, 12, 13, 67, 68, 69, 70, 71, 72, 73, 74, 75, 76, 77, 78, 79, 80, 81, 82, 83, 84, 85, 86, 87, 88, 89, 90, 91, 92, 93, 94, 95, 96, 97, 98, 99, 100, 101, 102, 103, 104, 105, 106, 107, 108, 109, 110, 111, 112, 113, 114, 115, 116, 117, 118, 119, 120, 121, 122, 123, 124, 125, 126, 127, 128, 25, 26, 27, 129, 130, 131, 132, 133, 134, 135, 136, 137, 138, 139, 140, 141, 142, 143, 144, 145, 146, 147, 148, 149, 150, 151, 165, 166, 167, 152, 153, 154, 155, 156, 157, 158, 159, 160, 161, 162, 163, 164] (by decide +kernel) (by decide +kernel)
set_option maxRecDepth 20000 in
theorem gX5_took_X5_exploreFrom : GoodIn wsX5_took (wsV RX5 153 RX5 yX5_exploreFrom wsX5_exploreFrom) := goodIn_app (goodIn_of _ (by decide +kernel)) ggX5_took_X5_exploreFrom
theorem dX5_took_0 : decode cX5_took 0 = .ok (.aload_n 0, 1) := by decide +kernel
theorem dX5_took_1 : decode cX5_took 1 = .ok (.iload_n 1, 1) := by decide +kernel
theorem dX5_took_2 : decode cX5_took 2 = .ok (.iload_n 3, 1) := by decide +kernel
theorem dX5_took_3 : decode cX5_took 3 = .ok (.ifCond .eq 8, 3) := by decide +kernel
theorem dX5_took_6 : decode cX5_took 6 = .ok (.iload_n 3, 1) := by decide +kernel
theorem dX5_took_7 : decode cX5_took 7 = .ok (.iconst 1, 1) := by decide +kernel
theorem dX5_took_8 : decode cX5_took 8 = .ok (.if_icmp .ne 7, 3) := by decide +kernel
theorem dX5_took_11 : decode cX5_took 11 = .ok (.iconst 1, 1) := by decide +kernel
theorem dX5_took_12 : decode cX5_took 12 = .ok (.goto 4, 3) := by decide +kernel
theorem dX5_took_15 : decode cX5_took 15 = .ok (.iconst 0, 1) := by decide +kernel
theorem dX5_took_16 : decode cX5_took 16 = .ok (.bipush (-2), 2) := by decide +kernel
theorem dX5_took_18 : decode cX5_took 18 = .ok (.invokevirtual 114, 3) := by decide +kernel
theorem dX5_took_21 : decode cX5_took 21 = .ok (.istore 4, 2) := by decide +kernel
theorem dX5_took_23 : decode cX5_took 23 = .ok (.iload 4, 2) := by decide +kernel
theorem dX5_took_25 : decode cX5_took 25 = .ok (.ifCond .eq 6, 3) := by decide +kernel
theorem dX5_took_28 : decode cX5_took 28 = .ok (.iload 4, 2) := by decide +kernel
theorem dX5_took_30 : decode cX5_took 30 = .ok (.ireturn, 1) := by decide +kernel
theorem dX5_took_31 : decode cX5_took 31 = .ok (.iload_n 2, 1) := by decide +kernel
theorem dX5_took_32 : decode cX5_took 32 = .ok (.ifCond .ge 10, 3) := by decide +kernel
theorem dX5_took_35 : decode cX5_took 35 = .ok (.aload_n 0, 1) := by decide +kernel
theorem dX5_took_36 : decode cX5_took 36 = .ok (.bipush (-4), 2) := by decide +kernel
theorem dX5_took_38 : decode cX5_took 38 = .ok (.invokevirtual 65, 3) := by decide +kernel
theorem dX5_took_41 : decode cX5_took 41 = .ok (.ireturn, 1) := by decide +kernel
theorem dX5_took_42 : decode cX5_took 42 = .ok (.aload_n 0, 1) := by decide +kernel
theorem dX5_took_43 : decode cX5_took 43 = .ok (.iload_n 1, 1) := by decide +kernel
theorem dX5_took_44 : decode cX5_took 44 = .ok (.iconst 0, 1) := by decide +kernel
theorem dX5_took_45 : decode cX5_took 45 = .ok (.iload_n 2, 1) := by decide +kernel
theorem dX5_took_46 : decode cX5_took 46 = .ok (.invokevirtual 153, 3) := by decide +kernel
theorem dX5_took_49 : decode cX5_took 49 = .ok (.iload_n 3, 1) := by decide +kernel
theorem dX5_took_50 : decode cX5_took 50 = .ok (.ifCond .ne 13, 3) := by decide +kernel
theorem dX5_took_53 : decode cX5_took 53 = .ok (.aload_n 0, 1) := by decide +kernel
theorem dX5_took_54 : decode cX5_took 54 = .ok (.getfield 32, 3) := by decide +kernel
theorem dX5_took_57 : decode cX5_took 57 = .ok (.getfield 157, 3) := by decide +kernel
theorem dX5_took_60 : decode cX5_took 60 = .ok (.goto 10, 3) := by decide +kernel
theorem dX5_took_63 : decode cX5_took 63 = .ok (.aload_n 0, 1) := by decide +kernel
theorem dX5_took_64 : decode cX5_took 64 = .ok (.getfield 32, 3) := by decide +kernel
theorem dX5_took_67 : decode cX5_took 67 = .ok (.getfield 169, 3) := by decide +kernel
theorem dX5_took_70 : decode cX5_took 70 = .ok (.ireturn, 1) := by decide +kernel
set_option maxRecDepth 20000 in
theorem ggX5_foe_X5_refusal : GoodIn wsX5_foe wsX5_refusal := goodIn_r _ [8, 1, 9, 10, 11, 12, 13, 14, 15, 16, 17, 7, 18, 19, 20, 21, 22, 23, 24, 25, 26, 27, 28, 29, 30, 117, 118, 119, 120, 121, 122, 123, 124, 125, 126, 127, 128, 129, 130, 131, 132, 133, 134, 135, 136, 137, 138, 139, 140] (by decide +kernel) (by decide +kernel)
set_option maxRecDepth 20000 in
theorem gX5_foe_X5_refusal : GoodIn wsX5_foe (wsV RX5 114 RX5 yX5_refusal wsX5_refusal) := goodIn_app (goodIn_of _ (by decide +kernel)) ggX5_foe_X5_refusal
set_option maxRecDepth 20000 in
theorem ggX5_foe_X3_follow : GoodIn wsX5_foe wsX3_follow := goodIn_r _ [34, 35, 36, 37, 38, 39, 40, 41, 42, 43, 44, 45, 46, 29, 7, 30, 47, 48, 49, 12, 50, 51, 52, 53, 54, 24, 55, 56, 57, 25, 10, 11, 13, 14, 58, 59, 60, 61, 62, 63, 64, 65, 66, 67, 68, 69, 70, 71, 72, 73, 26, 27, 28, 74, 75, 76, 77, 78, 79, 80, 81, 82, 83, 84, 141, 142, 143, 128, 129, 130, 131, 132, 133, 134, 135, 136, 137, 138, 139, 140] (by decide +kernel) (by decide +kernel)
set_option maxRecDepth 20000 in
theorem gX5_foe_X3_follow : GoodIn wsX5_foe (wsV RX5 118 RX3 yX3_follow wsX3_follow) := goodIn_app (goodIn_of _ (by decide +kernel)) ggX5_foe_X3_follow
set_option maxRecDepth 20000 in
theorem ggX5_foe_X3_rightOf : GoodIn wsX5_foe wsX3_rightOf := goodIn_r _ [88, 89, 90, 91, 38, 92, 40, 46, 93, 94, 95, 12, 96, 79, 97, 98, 99, 100, 101, 25, 10, 11, 13, 14, 141, 142, 143, 128, 129, 130, 131, 132, 133, 134, 135, 136, 137, 138, 139, 140] (by decide +kernel) (by decide +kernel)
set_option maxRecDepth 20000 in
theorem gX5_foe_X3_rightOf : GoodIn wsX5_foe (wsV RX5 122 RX3 yX3_rightOf wsX3_rightOf) := goodIn_app (goodIn_of _ (by decide +kernel)) ggX5_foe_X3_rightOf
set_option maxRecDepth 20000 in
theorem ggX5_foe_X3_become : GoodIn wsX5_foe wsX3_become := goodIn_r _ [105, 78, 106, 107, 108, 109, 97, 79, 110, 73, 55, 57, 84, 14, 56, 24, 111, 112, 128, 129, 130, 131, 132, 133, 134, 135, 136, 137, 138, 139, 140] (by decide +kernel) (by decide +kernel)
set_option maxRecDepth 20000 in
theorem gX5_foe_X3_become : GoodIn wsX5_foe (wsV RX5 77 RX3 yX3_become wsX3_become) := goodIn_app (goodIn_of _ (by decide +kernel)) ggX5_foe_X3_become
set_option maxRecDepth 20000 in
theorem ggX5_foe_X3_setSayer : GoodIn wsX5_foe wsX3_setSayer := goodIn_r _ [116, 97, 25, 10, 11, 12, 13, 14, 128, 129, 130, 131, 132, 133, 134, 135, 136, 137, 138, 139, 140] (by decide +kernel) (by decide +kernel)
set_option maxRecDepth 20000 in
theorem gX5_foe_X3_setSayer : GoodIn wsX5_foe (wsV RX5 175 RX3 yX3_setSayer wsX3_setSayer) := goodIn_app (goodIn_of _ (by decide +kernel)) ggX5_foe_X3_setSayer
theorem dX5_foe_0 : decode cX5_foe 0 = .ok (.aload_n 0, 1) := by decide +kernel
theorem dX5_foe_1 : decode cX5_foe 1 = .ok (.iload_n 1, 1) := by decide +kernel
theorem dX5_foe_2 : decode cX5_foe 2 = .ok (.iconst 1, 1) := by decide +kernel
theorem dX5_foe_3 : decode cX5_foe 3 = .ok (.iconst 0, 1) := by decide +kernel
theorem dX5_foe_4 : decode cX5_foe 4 = .ok (.invokevirtual 114, 3) := by decide +kernel
theorem dX5_foe_7 : decode cX5_foe 7 = .ok (.istore_n 2, 1) := by decide +kernel
theorem dX5_foe_8 : decode cX5_foe 8 = .ok (.iload_n 2, 1) := by decide +kernel
theorem dX5_foe_9 : decode cX5_foe 9 = .ok (.ifCond .eq 5, 3) := by decide +kernel
theorem dX5_foe_12 : decode cX5_foe 12 = .ok (.iload_n 2, 1) := by decide +kernel
theorem dX5_foe_13 : decode cX5_foe 13 = .ok (.ireturn, 1) := by decide +kernel
theorem dX5_foe_14 : decode cX5_foe 14 = .ok (.aload_n 0, 1) := by decide +kernel
theorem dX5_foe_15 : decode cX5_foe 15 = .ok (.getfield 10, 3) := by decide +kernel
theorem dX5_foe_18 : decode cX5_foe 18 = .ok (.iload_n 1, 1) := by decide +kernel
theorem dX5_foe_19 : decode cX5_foe 19 = .ok (.aload_n 0, 1) := by decide +kernel
theorem dX5_foe_20 : decode cX5_foe 20 = .ok (.getfield 25, 3) := by decide +kernel
theorem dX5_foe_23 : decode cX5_foe 23 = .ok (.invokevirtual 118, 3) := by decide +kernel
theorem dX5_foe_26 : decode cX5_foe 26 = .ok (.aload_n 0, 1) := by decide +kernel
theorem dX5_foe_27 : decode cX5_foe 27 = .ok (.getfield 10, 3) := by decide +kernel
theorem dX5_foe_30 : decode cX5_foe 30 = .ok (.aload_n 0, 1) := by decide +kernel
theorem dX5_foe_31 : decode cX5_foe 31 = .ok (.getfield 25, 3) := by decide +kernel
theorem dX5_foe_34 : decode cX5_foe 34 = .ok (.invokevirtual 122, 3) := by decide +kernel
theorem dX5_foe_37 : decode cX5_foe 37 = .ok (.istore_n 3, 1) := by decide +kernel
theorem dX5_foe_38 : decode cX5_foe 38 = .ok (.bipush (-9), 2) := by decide +kernel
theorem dX5_foe_40 : decode cX5_foe 40 = .ok (.istore 4, 2) := by decide +kernel
theorem dX5_foe_42 : decode cX5_foe 42 = .ok (.iconst 0, 1) := by decide +kernel
theorem dX5_foe_43 : decode cX5_foe 43 = .ok (.istore 5, 2) := by decide +kernel
theorem dX5_foe_45 : decode cX5_foe 45 = .ok (.iload 5, 2) := by decide +kernel
theorem dX5_foe_47 : decode cX5_foe 47 = .ok (.aload_n 0, 1) := by decide +kernel
theorem dX5_foe_48 : decode cX5_foe 48 = .ok (.getfield 10, 3) := by decide +kernel
theorem dX5_foe_51 : decode cX5_foe 51 = .ok (.getfield 172, 3) := by decide +kernel
theorem dX5_foe_54 : decode cX5_foe 54 = .ok (.if_icmp .ge 62, 3) := by decide +kernel
theorem dX5_foe_57 : decode cX5_foe 57 = .ok (.iload 5, 2) := by decide +kernel
theorem dX5_foe_59 : decode cX5_foe 59 = .ok (.iload_n 1, 1) := by decide +kernel
theorem dX5_foe_60 : decode cX5_foe 60 = .ok (.if_icmp .eq 50, 3) := by decide +kernel
theorem dX5_foe_63 : decode cX5_foe 63 = .ok (.aload_n 0, 1) := by decide +kernel
theorem dX5_foe_64 : decode cX5_foe 64 = .ok (.getfield 19, 3) := by decide +kernel
theorem dX5_foe_67 : decode cX5_foe 67 = .ok (.aload_n 0, 1) := by decide +kernel
theorem dX5_foe_68 : decode cX5_foe 68 = .ok (.getfield 10, 3) := by decide +kernel
theorem dX5_foe_71 : decode cX5_foe 71 = .ok (.invokevirtual 77, 3) := by decide +kernel
theorem dX5_foe_74 : decode cX5_foe 74 = .ok (.aload_n 0, 1) := by decide +kernel
theorem dX5_foe_75 : decode cX5_foe 75 = .ok (.getfield 19, 3) := by decide +kernel
theorem dX5_foe_78 : decode cX5_foe 78 = .ok (.iload 5, 2) := by decide +kernel
theorem dX5_foe_80 : decode cX5_foe 80 = .ok (.iconst 3, 1) := by decide +kernel
theorem dX5_foe_81 : decode cX5_foe 81 = .ok (.invokevirtual 175, 3) := by decide +kernel
theorem dX5_foe_84 : decode cX5_foe 84 = .ok (.aload_n 0, 1) := by decide +kernel
theorem dX5_foe_85 : decode cX5_foe 85 = .ok (.getfield 19, 3) := by decide +kernel
theorem dX5_foe_88 : decode cX5_foe 88 = .ok (.aload_n 0, 1) := by decide +kernel
theorem dX5_foe_89 : decode cX5_foe 89 = .ok (.getfield 25, 3) := by decide +kernel
theorem dX5_foe_92 : decode cX5_foe 92 = .ok (.invokevirtual 122, 3) := by decide +kernel
theorem dX5_foe_95 : decode cX5_foe 95 = .ok (.istore 6, 2) := by decide +kernel
theorem dX5_foe_97 : decode cX5_foe 97 = .ok (.iload 6, 2) := by decide +kernel
theorem dX5_foe_99 : decode cX5_foe 99 = .ok (.iload_n 3, 1) := by decide +kernel
theorem dX5_foe_100 : decode cX5_foe 100 = .ok (.if_icmp .ge 10, 3) := by decide +kernel
theorem dX5_foe_103 : decode cX5_foe 103 = .ok (.iload 6, 2) := by decide +kernel
theorem dX5_foe_105 : decode cX5_foe 105 = .ok (.istore_n 3, 1) := by decide +kernel
theorem dX5_foe_106 : decode cX5_foe 106 = .ok (.iload 5, 2) := by decide +kernel
theorem dX5_foe_108 : decode cX5_foe 108 = .ok (.istore 4, 2) := by decide +kernel
theorem dX5_foe_110 : decode cX5_foe 110 = .ok (.iinc 5 1, 3) := by decide +kernel
theorem dX5_foe_113 : decode cX5_foe 113 = .ok (.goto (-68), 3) := by decide +kernel
theorem dX5_foe_116 : decode cX5_foe 116 = .ok (.iload 4, 2) := by decide +kernel
theorem dX5_foe_118 : decode cX5_foe 118 = .ok (.ireturn, 1) := by decide +kernel
set_option maxRecDepth 20000 in
theorem ggX5_switching_X5_refusal : GoodIn wsX5_switching wsX5_refusal := goodIn_r _ [8, 2, 9, 10, 11, 12, 13, 14, 15, 16, 17, 7, 18, 19, 20, 21, 22, 23, 24, 25, 26, 27, 28, 29, 30, 117, 118, 119, 120, 121, 122, 123, 124, 125, 126, 127, 128, 129, 130, 131, 132, 133, 134, 135, 136, 137, 138, 139, 140] (by decide +kernel) (by decide +kernel)
set_option maxRecDepth 20000 in
theorem gX5_switching_X5_refusal : GoodIn wsX5_switching (wsV RX5 114 RX5 yX5_refusal wsX5_refusal) := goodIn_app (goodIn_of _ (by decide +kernel)) ggX5_switching_X5_refusal
set_option maxRecDepth 20000 in
theorem ggX5_switching_X3_become : GoodIn wsX5_switching wsX3_become := goodIn_r _ [34, 35, 36, 37, 38, 39, 40, 41, 42, 43, 44, 45, 46, 14, 47, 24, 48, 49, 128, 129, 130, 131, 132, 133, 134, 135, 136, 137, 138, 139, 140] (by decide +kernel) (by decide +kernel)
set_option maxRecDepth 20000 in
theorem gX5_switching_X3_become : GoodIn wsX5_switching (wsV RX5 77 RX3 yX3_become wsX3_become) := goodIn_app (goodIn_of _ (by decide +kernel)) ggX5_switching_X3_become
set_option maxRecDepth 20000 in
theorem ggX5_switching_X3_setAsker : GoodIn wsX5_switching wsX3_setAsker := goodIn_r _ [53, 35, 25, 10, 11, 12, 13, 14, 128, 129, 130, 131, 132, 133, 134, 135, 136, 137, 138, 139, 140] (by decide +kernel) (by decide +kernel)
set_option maxRecDepth 20000 in
theorem gX5_switching_X3_setAsker : GoodIn wsX5_switching (wsV RX5 179 RX3 yX3_setAsker wsX3_setAsker) := goodIn_app (goodIn_of _ (by decide +kernel)) ggX5_switching_X3_setAsker
set_option maxRecDepth 20000 in
theorem ggX5_switching_X3_follow : GoodIn wsX5_switching wsX3_follow := goodIn_r _ [57, 58, 59, 60, 61, 62, 63, 64, 65, 66, 67, 68, 69, 29, 7, 30, 70, 71, 72, 12, 73, 74, 75, 76, 77, 24, 44, 47, 45, 25, 10, 11, 13, 14, 78, 79, 80, 81, 82, 83, 84, 85, 86, 87, 88, 89, 90, 91, 92, 43, 26, 27, 28, 93, 94, 95, 96, 35, 41, 97, 98, 99, 100, 46, 141, 142, 143, 128, 129, 130, 131, 132, 133, 134, 135, 136, 137, 138, 139, 140] (by decide +kernel) (by decide +kernel)
set_option maxRecDepth 20000 in
theorem gX5_switching_X3_follow : GoodIn wsX5_switching (wsV RX5 118 RX3 yX3_follow wsX3_follow) := goodIn_app (goodIn_of _ (by decide +kernel)) ggX5_switching_X3_follow
set_option maxRecDepth 20000 in
theorem ggX5_switching_X3_rightOf : GoodIn wsX5_switching wsX3_rightOf := goodIn_r _ [104, 105, 106, 107, 61, 108, 63, 69, 109, 110, 111, 12, 112, 41, 40, 113, 114, 115, 116, 25, 10, 11, 13, 14, 141, 142, 143, 128, 129, 130, 131, 132, 133, 134, 135, 136, 137, 138, 139, 140] (by decide +kernel) (by decide +kernel)
set_option maxRecDepth 20000 in
theorem gX5_switching_X3_rightOf : GoodIn wsX5_switching (wsV RX5 122 RX3 yX3_rightOf wsX3_rightOf) := goodIn_app (goodIn_of _ (by decide +kernel)) ggX5_switching_X3_rightOf
theorem dX5_switching_0 : decode cX5_switching 0 = .ok (.aload_n 0, 1) := by decide +kernel
theorem dX5_switching_1 : decode cX5_switching 1 = .ok (.iload_n 1, 1) := by decide +kernel
theorem dX5_switching_2 : decode cX5_switching 2 = .ok (.iconst 1, 1) := by decide +kernel
theorem dX5_switching_3 : decode cX5_switching 3 = .ok (.iconst 0, 1) := by decide +kernel
theorem dX5_switching_4 : decode cX5_switching 4 = .ok (.invokevirtual 114, 3) := by decide +kernel
theorem dX5_switching_7 : decode cX5_switching 7 = .ok (.istore_n 2, 1) := by decide +kernel
theorem dX5_switching_8 : decode cX5_switching 8 = .ok (.iload_n 2, 1) := by decide +kernel
theorem dX5_switching_9 : decode cX5_switching 9 = .ok (.ifCond .eq 5, 3) := by decide +kernel
theorem dX5_switching_12 : decode cX5_switching 12 = .ok (.iload_n 2, 1) := by decide +kernel
theorem dX5_switching_13 : decode cX5_switching 13 = .ok (.ireturn, 1) := by decide +kernel
theorem dX5_switching_14 : decode cX5_switching 14 = .ok (.aload_n 0, 1) := by decide +kernel
theorem dX5_switching_15 : decode cX5_switching 15 = .ok (.getfield 19, 3) := by decide +kernel
theorem dX5_switching_18 : decode cX5_switching 18 = .ok (.aload_n 0, 1) := by decide +kernel
theorem dX5_switching_19 : decode cX5_switching 19 = .ok (.getfield 10, 3) := by decide +kernel
theorem dX5_switching_22 : decode cX5_switching 22 = .ok (.invokevirtual 77, 3) := by decide +kernel
theorem dX5_switching_25 : decode cX5_switching 25 = .ok (.iconst (-1), 1) := by decide +kernel
theorem dX5_switching_26 : decode cX5_switching 26 = .ok (.istore_n 3, 1) := by decide +kernel
theorem dX5_switching_27 : decode cX5_switching 27 = .ok (.iconst 0, 1) := by decide +kernel
theorem dX5_switching_28 : decode cX5_switching 28 = .ok (.istore 4, 2) := by decide +kernel
theorem dX5_switching_30 : decode cX5_switching 30 = .ok (.iconst 0, 1) := by decide +kernel
theorem dX5_switching_31 : decode cX5_switching 31 = .ok (.istore 5, 2) := by decide +kernel
theorem dX5_switching_33 : decode cX5_switching 33 = .ok (.iload 5, 2) := by decide +kernel
theorem dX5_switching_35 : decode cX5_switching 35 = .ok (.iconst 5, 1) := by decide +kernel
theorem dX5_switching_36 : decode cX5_switching 36 = .ok (.if_icmp .ge 57, 3) := by decide +kernel
theorem dX5_switching_39 : decode cX5_switching 39 = .ok (.aload_n 0, 1) := by decide +kernel
theorem dX5_switching_40 : decode cX5_switching 40 = .ok (.getfield 19, 3) := by decide +kernel
theorem dX5_switching_43 : decode cX5_switching 43 = .ok (.iload_n 1, 1) := by decide +kernel
theorem dX5_switching_44 : decode cX5_switching 44 = .ok (.iload 5, 2) := by decide +kernel
theorem dX5_switching_46 : decode cX5_switching 46 = .ok (.invokevirtual 179, 3) := by decide +kernel
theorem dX5_switching_49 : decode cX5_switching 49 = .ok (.aload_n 0, 1) := by decide +kernel
theorem dX5_switching_50 : decode cX5_switching 50 = .ok (.getfield 19, 3) := by decide +kernel
theorem dX5_switching_53 : decode cX5_switching 53 = .ok (.iload_n 1, 1) := by decide +kernel
theorem dX5_switching_54 : decode cX5_switching 54 = .ok (.aload_n 0, 1) := by decide +kernel
theorem dX5_switching_55 : decode cX5_switching 55 = .ok (.getfield 25, 3) := by decide +kernel
theorem dX5_switching_58 : decode cX5_switching 58 = .ok (.invokevirtual 118, 3) := by decide +kernel
theorem dX5_switching_61 : decode cX5_switching 61 = .ok (.aload_n 0, 1) := by decide +kernel
theorem dX5_switching_62 : decode cX5_switching 62 = .ok (.getfield 19, 3) := by decide +kernel
theorem dX5_switching_65 : decode cX5_switching 65 = .ok (.aload_n 0, 1) := by decide +kernel
theorem dX5_switching_66 : decode cX5_switching 66 = .ok (.getfield 25, 3) := by decide +kernel
theorem dX5_switching_69 : decode cX5_switching 69 = .ok (.invokevirtual 122, 3) := by decide +kernel
theorem dX5_switching_72 : decode cX5_switching 72 = .ok (.istore 6, 2) := by decide +kernel
theorem dX5_switching_74 : decode cX5_switching 74 = .ok (.iload 6, 2) := by decide +kernel
theorem dX5_switching_76 : decode cX5_switching 76 = .ok (.iload_n 3, 1) := by decide +kernel
theorem dX5_switching_77 : decode cX5_switching 77 = .ok (.if_icmp .le 10, 3) := by decide +kernel
theorem dX5_switching_80 : decode cX5_switching 80 = .ok (.iload 6, 2) := by decide +kernel
theorem dX5_switching_82 : decode cX5_switching 82 = .ok (.istore_n 3, 1) := by decide +kernel
theorem dX5_switching_83 : decode cX5_switching 83 = .ok (.iload 5, 2) := by decide +kernel
theorem dX5_switching_85 : decode cX5_switching 85 = .ok (.istore 4, 2) := by decide +kernel
theorem dX5_switching_87 : decode cX5_switching 87 = .ok (.iinc 5 1, 3) := by decide +kernel
theorem dX5_switching_90 : decode cX5_switching 90 = .ok (.goto (-57), 3) := by decide +kernel
theorem dX5_switching_93 : decode cX5_switching 93 = .ok (.iload 4, 2) := by decide +kernel
theorem dX5_switching_95 : decode cX5_switching 95 = .ok (.ireturn, 1) := by decide +kernel
set_option maxRecDepth 20000 in
theorem ggX5_edge_X3_has : GoodIn wsX5_edge wsX3_has := goodIn_r _ [9, 10, 113, 114, 115, 116, 117, 118, 119, 120, 121, 122, 123, 124, 125] (by decide +kernel) (by decide +kernel)
set_option maxRecDepth 20000 in
theorem gX5_edge_X3_has : GoodIn wsX5_edge (wsV RX5 88 RX3 yX3_has wsX3_has) := goodIn_app (goodIn_of _ (by decide +kernel)) ggX5_edge_X3_has
set_option maxRecDepth 20000 in
theorem ggX5_edge_X5_refuse : GoodIn wsX5_edge wsX5_refuse := goodIn_r _ [15, 16, 102, 103, 104, 105, 106, 107, 108, 109, 110, 111, 112] (by decide +kernel) (by decide +kernel)
set_option maxRecDepth 20000 in
theorem gX5_edge_X5_refuse : GoodIn wsX5_edge (wsV RX5 65 RX5 yX5_refuse wsX5_refuse) := goodIn_app (goodIn_of _ (by decide +kernel)) ggX5_edge_X5_refuse
set_option maxRecDepth 20000 in
theorem ggX5_edge_X3_wasAsked : GoodIn wsX5_edge wsX3_wasAsked := goodIn_r _ [20, 21, 22, 6, 7, 8, 9, 10, 23, 14, 24, 25, 26, 27, 113, 114, 115, 116, 117, 118, 119, 120, 121, 122, 123, 124, 125] (by decide +kernel) (by decide +kernel)
set_option maxRecDepth 20000 in
theorem gX5_edge_X3_wasAsked : GoodIn wsX5_edge (wsV RX5 104 RX3 yX3_wasAsked wsX3_wasAsked) := goodIn_app (goodIn_of _ (by decide +kernel)) ggX5_edge_X3_wasAsked
set_option maxRecDepth 20000 in
theorem ggX5_edge_X3_follow : GoodIn wsX5_edge wsX3_follow := goodIn_r _ [31, 32, 33, 34, 35, 36, 37, 38, 39, 40, 41, 42, 43, 26, 14, 27, 44, 45, 46, 8, 47, 48, 49, 50, 51, 21, 52, 53, 54, 22, 6, 7, 9, 10, 55, 56, 57, 58, 59, 60, 61, 62, 63, 64, 65, 66, 67, 68, 69, 70, 23, 24, 25, 71, 72, 73, 74, 75, 76, 77, 78, 79, 80, 81, 126, 127, 128, 113, 114, 115, 116, 117, 118, 119, 120, 121, 122, 123, 124, 125] (by decide +kernel) (by decide +kernel)
set_option maxRecDepth 20000 in
theorem gX5_edge_X3_follow : GoodIn wsX5_edge (wsV RX5 118 RX3 yX3_follow wsX3_follow) := goodIn_app (goodIn_of _ (by decide +kernel)) ggX5_edge_X3_follow
set_option maxRecDepth 20000 in
theorem ggX5_edge_X3_timeOf : GoodIn wsX5_edge wsX3_timeOf := goodIn_r _ [85, 77, 78, 79, 8, 80, 81, 22, 6, 7, 9, 10, 126, 127, 128, 113, 114, 115, 116, 117, 118, 119, 120, 121, 122, 123, 124, 125] (by decide +kernel) (by decide +kernel)
set_option maxRecDepth 20000 in
theorem gX5_edge_X3_timeOf : GoodIn wsX5_edge (wsV RX5 135 RX3 yX3_timeOf wsX3_timeOf) := goodIn_app (goodIn_of _ (by decide +kernel)) ggX5_edge_X3_timeOf
set_option maxRecDepth 20000 in
theorem ggX5_edge_X3_become : GoodIn wsX5_edge wsX3_become := goodIn_r _ [89, 75, 90, 91, 92, 93, 94, 76, 95, 70, 52, 54, 81, 10, 53, 21, 96, 97, 113, 114, 115, 116, 117, 118, 119, 120, 121, 122, 123, 124, 125] (by decide +kernel) (by decide +kernel)
set_option maxRecDepth 20000 in
theorem gX5_edge_X3_become : GoodIn wsX5_edge (wsV RX5 77 RX3 yX3_become wsX3_become) := goodIn_app (goodIn_of _ (by decide +kernel)) ggX5_edge_X3_become
set_option maxRecDepth 20000 in
theorem ggX5_edge_X3_silence : GoodIn wsX5_edge wsX3_silence := goodIn_r _ [101, 52, 22, 6, 7, 8, 9, 10, 113, 114, 115, 116, 117, 118, 119, 120, 121, 122, 123, 124, 125] (by decide +kernel) (by decide +kernel)
set_option maxRecDepth 20000 in
theorem gX5_edge_X3_silence : GoodIn wsX5_edge (wsV RX5 183 RX3 yX3_silence wsX3_silence) := goodIn_app (goodIn_of _ (by decide +kernel)) ggX5_edge_X3_silence
theorem dX5_edge_0 : decode cX5_edge 0 = .ok (.aload_n 0, 1) := by decide +kernel
theorem dX5_edge_1 : decode cX5_edge 1 = .ok (.getfield 10, 3) := by decide +kernel
theorem dX5_edge_4 : decode cX5_edge 4 = .ok (.iload_n 1, 1) := by decide +kernel
theorem dX5_edge_5 : decode cX5_edge 5 = .ok (.invokevirtual 88, 3) := by decide +kernel
theorem dX5_edge_8 : decode cX5_edge 8 = .ok (.ifCond .eq 19, 3) := by decide +kernel
theorem dX5_edge_11 : decode cX5_edge 11 = .ok (.aload_n 0, 1) := by decide +kernel
theorem dX5_edge_12 : decode cX5_edge 12 = .ok (.getfield 10, 3) := by decide +kernel
theorem dX5_edge_15 : decode cX5_edge 15 = .ok (.iload_n 2, 1) := by decide +kernel
theorem dX5_edge_16 : decode cX5_edge 16 = .ok (.invokevirtual 88, 3) := by decide +kernel
theorem dX5_edge_19 : decode cX5_edge 19 = .ok (.ifCond .eq 8, 3) := by decide +kernel
theorem dX5_edge_22 : decode cX5_edge 22 = .ok (.iload_n 1, 1) := by decide +kernel
theorem dX5_edge_23 : decode cX5_edge 23 = .ok (.iload_n 2, 1) := by decide +kernel
theorem dX5_edge_24 : decode cX5_edge 24 = .ok (.if_icmp .ne 12, 3) := by decide +kernel
theorem dX5_edge_27 : decode cX5_edge 27 = .ok (.ldc 182, 2) := by decide +kernel
theorem dX5_edge_29 : decode cX5_edge 29 = .ok (.aload_n 0, 1) := by decide +kernel
theorem dX5_edge_30 : decode cX5_edge 30 = .ok (.iconst (-1), 1) := by decide +kernel
theorem dX5_edge_31 : decode cX5_edge 31 = .ok (.invokevirtual 65, 3) := by decide +kernel
theorem dX5_edge_34 : decode cX5_edge 34 = .ok (.isub, 1) := by decide +kernel
theorem dX5_edge_35 : decode cX5_edge 35 = .ok (.ireturn, 1) := by decide +kernel
theorem dX5_edge_36 : decode cX5_edge 36 = .ok (.aload_n 0, 1) := by decide +kernel
theorem dX5_edge_37 : decode cX5_edge 37 = .ok (.getfield 10, 3) := by decide +kernel
theorem dX5_edge_40 : decode cX5_edge 40 = .ok (.iload_n 1, 1) := by decide +kernel
theorem dX5_edge_41 : decode cX5_edge 41 = .ok (.invokevirtual 104, 3) := by decide +kernel
theorem dX5_edge_44 : decode cX5_edge 44 = .ok (.ifCond .eq 13, 3) := by decide +kernel
theorem dX5_edge_47 : decode cX5_edge 47 = .ok (.ldc 182, 2) := by decide +kernel
theorem dX5_edge_49 : decode cX5_edge 49 = .ok (.aload_n 0, 1) := by decide +kernel
theorem dX5_edge_50 : decode cX5_edge 50 = .ok (.bipush (-3), 2) := by decide +kernel
theorem dX5_edge_52 : decode cX5_edge 52 = .ok (.invokevirtual 65, 3) := by decide +kernel
theorem dX5_edge_55 : decode cX5_edge 55 = .ok (.isub, 1) := by decide +kernel
theorem dX5_edge_56 : decode cX5_edge 56 = .ok (.ireturn, 1) := by decide +kernel
theorem dX5_edge_57 : decode cX5_edge 57 = .ok (.aload_n 0, 1) := by decide +kernel
theorem dX5_edge_58 : decode cX5_edge 58 = .ok (.getfield 10, 3) := by decide +kernel
theorem dX5_edge_61 : decode cX5_edge 61 = .ok (.iload_n 1, 1) := by decide +kernel
theorem dX5_edge_62 : decode cX5_edge 62 = .ok (.aload_n 0, 1) := by decide +kernel
theorem dX5_edge_63 : decode cX5_edge 63 = .ok (.getfield 25, 3) := by decide +kernel
theorem dX5_edge_66 : decode cX5_edge 66 = .ok (.invokevirtual 118, 3) := by decide +kernel
theorem dX5_edge_69 : decode cX5_edge 69 = .ok (.aload_n 0, 1) := by decide +kernel
theorem dX5_edge_70 : decode cX5_edge 70 = .ok (.getfield 10, 3) := by decide +kernel
theorem dX5_edge_73 : decode cX5_edge 73 = .ok (.aload_n 0, 1) := by decide +kernel
theorem dX5_edge_74 : decode cX5_edge 74 = .ok (.getfield 25, 3) := by decide +kernel
theorem dX5_edge_77 : decode cX5_edge 77 = .ok (.invokevirtual 135, 3) := by decide +kernel
theorem dX5_edge_80 : decode cX5_edge 80 = .ok (.istore_n 3, 1) := by decide +kernel
theorem dX5_edge_81 : decode cX5_edge 81 = .ok (.aload_n 0, 1) := by decide +kernel
theorem dX5_edge_82 : decode cX5_edge 82 = .ok (.getfield 19, 3) := by decide +kernel
theorem dX5_edge_85 : decode cX5_edge 85 = .ok (.aload_n 0, 1) := by decide +kernel
theorem dX5_edge_86 : decode cX5_edge 86 = .ok (.getfield 10, 3) := by decide +kernel
theorem dX5_edge_89 : decode cX5_edge 89 = .ok (.invokevirtual 77, 3) := by decide +kernel
theorem dX5_edge_92 : decode cX5_edge 92 = .ok (.aload_n 0, 1) := by decide +kernel
theorem dX5_edge_93 : decode cX5_edge 93 = .ok (.getfield 19, 3) := by decide +kernel
theorem dX5_edge_96 : decode cX5_edge 96 = .ok (.iload_n 2, 1) := by decide +kernel
theorem dX5_edge_97 : decode cX5_edge 97 = .ok (.invokevirtual 183, 3) := by decide +kernel
theorem dX5_edge_100 : decode cX5_edge 100 = .ok (.aload_n 0, 1) := by decide +kernel
theorem dX5_edge_101 : decode cX5_edge 101 = .ok (.getfield 19, 3) := by decide +kernel
theorem dX5_edge_104 : decode cX5_edge 104 = .ok (.iload_n 1, 1) := by decide +kernel
theorem dX5_edge_105 : decode cX5_edge 105 = .ok (.aload_n 0, 1) := by decide +kernel
theorem dX5_edge_106 : decode cX5_edge 106 = .ok (.getfield 25, 3) := by decide +kernel
theorem dX5_edge_109 : decode cX5_edge 109 = .ok (.invokevirtual 118, 3) := by decide +kernel
theorem dX5_edge_112 : decode cX5_edge 112 = .ok (.iload_n 3, 1) := by decide +kernel
theorem dX5_edge_113 : decode cX5_edge 113 = .ok (.aload_n 0, 1) := by decide +kernel
theorem dX5_edge_114 : decode cX5_edge 114 = .ok (.getfield 19, 3) := by decide +kernel
theorem dX5_edge_117 : decode cX5_edge 117 = .ok (.aload_n 0, 1) := by decide +kernel
theorem dX5_edge_118 : decode cX5_edge 118 = .ok (.getfield 25, 3) := by decide +kernel
theorem dX5_edge_121 : decode cX5_edge 121 = .ok (.invokevirtual 135, 3) := by decide +kernel
theorem dX5_edge_124 : decode cX5_edge 124 = .ok (.isub, 1) := by decide +kernel
theorem dX5_edge_125 : decode cX5_edge 125 = .ok (.ireturn, 1) := by decide +kernel
set_option maxRecDepth 20000 in
theorem ggX5_two_X3_has : GoodIn wsX5_two wsX3_has := goodIn_r _ [10, 11, 125, 126, 127, 128, 129, 130, 131, 132, 133, 134, 135, 136, 137] (by decide +kernel) (by decide +kernel)
set_option maxRecDepth 20000 in
theorem gX5_two_X3_has : GoodIn wsX5_two (wsV RX5 88 RX3 yX3_has wsX3_has) := goodIn_app (goodIn_of _ (by decide +kernel)) ggX5_two_X3_has
set_option maxRecDepth 20000 in
theorem ggX5_two_X5_refuse : GoodIn wsX5_two wsX5_refuse := goodIn_r _ [16, 17, 114, 115, 116, 117, 118, 119, 120, 121, 122, 123, 124] (by decide +kernel) (by decide +kernel)
set_option maxRecDepth 20000 in
theorem gX5_two_X5_refuse : GoodIn wsX5_two (wsV RX5 65 RX5 yX5_refuse wsX5_refuse) := goodIn_app (goodIn_of _ (by decide +kernel)) ggX5_two_X5_refuse
set_option maxRecDepth 20000 in
theorem ggX5_two_X3_wasAsked : GoodIn wsX5_two wsX3_wasAsked := goodIn_r _ [21, 22, 23, 7, 8, 9, 10, 11, 24, 15, 25, 26, 27, 28, 125, 126, 127, 128, 129, 130, 131, 132, 133, 134, 135, 136, 137] (by decide +kernel) (by decide +kernel)
set_option maxRecDepth 20000 in
theorem gX5_two_X3_wasAsked : GoodIn wsX5_two (wsV RX5 104 RX3 yX3_wasAsked wsX3_wasAsked) := goodIn_app (goodIn_of _ (by decide +kernel)) ggX5_two_X3_wasAsked
set_option maxRecDepth 20000 in
theorem ggX5_two_X5_rightTogether : GoodIn wsX5_two wsX5_rightTogether := goodIn_r _ [32, 33, 1, 34, 35, 36, 37, 9, 38, 39, 40, 41, 42, 43, 44, 45, 46, 47, 48, 49, 50, 11, 51, 22, 52, 53, 54, 55, 56, 57, 58, 59, 60, 61, 62, 63, 64, 65, 66, 67, 68, 69, 27, 15, 28, 70, 71, 72, 73, 74, 75, 76, 77, 23, 7, 8, 10, 78, 79, 80, 81, 82, 83, 84, 85, 86, 87, 88, 89, 90, 91, 92, 24, 25, 26, 93, 94, 95, 96, 97, 98, 99, 100, 101, 102, 103, 104, 105, 106, 107, 108, 109, 110, 111, 112, 113, 3, 4, 5, 18, 19, 20, 21, 114, 115, 116, 117, 118, 119, 120, 121, 122, 123, 124, 125, 126, 127, 128, 129, 130, 131, 132, 133, 134, 135, 136, 137, 138, 139, 140] (by decide +kernel) (by decide +kernel)
set_option maxRecDepth 20000 in
theorem gX5_two_X5_rightTogether : GoodIn wsX5_two (wsV RX5 187 RX5 yX5_rightTogether wsX5_rightTogether) := goodIn_app (goodIn_of _ (by decide +kernel)) ggX5_two_X5_rightTogether
theorem dX5_two_0 : decode cX5_two 0 = .ok (.aload_n 0, 1) := by decide +kernel
theorem dX5_two_1 : decode cX5_two 1 = .ok (.getfield 10, 3) := by decide +kernel
theorem dX5_two_4 : decode cX5_two 4 = .ok (.iload_n 1, 1) := by decide +kernel
theorem dX5_two_5 : decode cX5_two 5 = .ok (.invokevirtual 88, 3) := by decide +kernel
theorem dX5_two_8 : decode cX5_two 8 = .ok (.ifCond .eq 19, 3) := by decide +kernel
theorem dX5_two_11 : decode cX5_two 11 = .ok (.aload_n 0, 1) := by decide +kernel
theorem dX5_two_12 : decode cX5_two 12 = .ok (.getfield 10, 3) := by decide +kernel
theorem dX5_two_15 : decode cX5_two 15 = .ok (.iload_n 2, 1) := by decide +kernel
theorem dX5_two_16 : decode cX5_two 16 = .ok (.invokevirtual 88, 3) := by decide +kernel
theorem dX5_two_19 : decode cX5_two 19 = .ok (.ifCond .eq 8, 3) := by decide +kernel
theorem dX5_two_22 : decode cX5_two 22 = .ok (.iload_n 1, 1) := by decide +kernel
theorem dX5_two_23 : decode cX5_two 23 = .ok (.iload_n 2, 1) := by decide +kernel
theorem dX5_two_24 : decode cX5_two 24 = .ok (.if_icmp .ne 9, 3) := by decide +kernel
theorem dX5_two_27 : decode cX5_two 27 = .ok (.aload_n 0, 1) := by decide +kernel
theorem dX5_two_28 : decode cX5_two 28 = .ok (.iconst (-1), 1) := by decide +kernel
theorem dX5_two_29 : decode cX5_two 29 = .ok (.invokevirtual 65, 3) := by decide +kernel
theorem dX5_two_32 : decode cX5_two 32 = .ok (.ireturn, 1) := by decide +kernel
theorem dX5_two_33 : decode cX5_two 33 = .ok (.iload_n 3, 1) := by decide +kernel
theorem dX5_two_34 : decode cX5_two 34 = .ok (.ifCond .eq 15, 3) := by decide +kernel
theorem dX5_two_37 : decode cX5_two 37 = .ok (.iload_n 3, 1) := by decide +kernel
theorem dX5_two_38 : decode cX5_two 38 = .ok (.iconst 1, 1) := by decide +kernel
theorem dX5_two_39 : decode cX5_two 39 = .ok (.if_icmp .eq 10, 3) := by decide +kernel
theorem dX5_two_42 : decode cX5_two 42 = .ok (.aload_n 0, 1) := by decide +kernel
theorem dX5_two_43 : decode cX5_two 43 = .ok (.bipush (-2), 2) := by decide +kernel
theorem dX5_two_45 : decode cX5_two 45 = .ok (.invokevirtual 65, 3) := by decide +kernel
theorem dX5_two_48 : decode cX5_two 48 = .ok (.ireturn, 1) := by decide +kernel
theorem dX5_two_49 : decode cX5_two 49 = .ok (.aload_n 0, 1) := by decide +kernel
theorem dX5_two_50 : decode cX5_two 50 = .ok (.getfield 10, 3) := by decide +kernel
theorem dX5_two_53 : decode cX5_two 53 = .ok (.iload_n 1, 1) := by decide +kernel
theorem dX5_two_54 : decode cX5_two 54 = .ok (.invokevirtual 104, 3) := by decide +kernel
theorem dX5_two_57 : decode cX5_two 57 = .ok (.ifCond .ne 14, 3) := by decide +kernel
theorem dX5_two_60 : decode cX5_two 60 = .ok (.aload_n 0, 1) := by decide +kernel
theorem dX5_two_61 : decode cX5_two 61 = .ok (.getfield 10, 3) := by decide +kernel
theorem dX5_two_64 : decode cX5_two 64 = .ok (.iload_n 2, 1) := by decide +kernel
theorem dX5_two_65 : decode cX5_two 65 = .ok (.invokevirtual 104, 3) := by decide +kernel
theorem dX5_two_68 : decode cX5_two 68 = .ok (.ifCond .eq 10, 3) := by decide +kernel
theorem dX5_two_71 : decode cX5_two 71 = .ok (.aload_n 0, 1) := by decide +kernel
theorem dX5_two_72 : decode cX5_two 72 = .ok (.bipush (-3), 2) := by decide +kernel
theorem dX5_two_74 : decode cX5_two 74 = .ok (.invokevirtual 65, 3) := by decide +kernel
theorem dX5_two_77 : decode cX5_two 77 = .ok (.ireturn, 1) := by decide +kernel
theorem dX5_two_78 : decode cX5_two 78 = .ok (.aload_n 0, 1) := by decide +kernel
theorem dX5_two_79 : decode cX5_two 79 = .ok (.iload_n 1, 1) := by decide +kernel
theorem dX5_two_80 : decode cX5_two 80 = .ok (.iload_n 2, 1) := by decide +kernel
theorem dX5_two_81 : decode cX5_two 81 = .ok (.invokevirtual 187, 3) := by decide +kernel
theorem dX5_two_84 : decode cX5_two 84 = .ok (.istore 4, 2) := by decide +kernel
theorem dX5_two_86 : decode cX5_two 86 = .ok (.aload_n 0, 1) := by decide +kernel
theorem dX5_two_87 : decode cX5_two 87 = .ok (.iload_n 2, 1) := by decide +kernel
theorem dX5_two_88 : decode cX5_two 88 = .ok (.iload_n 1, 1) := by decide +kernel
theorem dX5_two_89 : decode cX5_two 89 = .ok (.invokevirtual 187, 3) := by decide +kernel
theorem dX5_two_92 : decode cX5_two 92 = .ok (.istore 5, 2) := by decide +kernel
theorem dX5_two_94 : decode cX5_two 94 = .ok (.iload_n 3, 1) := by decide +kernel
theorem dX5_two_95 : decode cX5_two 95 = .ok (.ifCond .ne 11, 3) := by decide +kernel
theorem dX5_two_98 : decode cX5_two 98 = .ok (.iload 4, 2) := by decide +kernel
theorem dX5_two_100 : decode cX5_two 100 = .ok (.iload 5, 2) := by decide +kernel
theorem dX5_two_102 : decode cX5_two 102 = .ok (.invokestatic 190, 3) := by decide +kernel
theorem dX5_two_105 : decode cX5_two 105 = .ok (.ireturn, 1) := by decide +kernel
theorem dX5_two_106 : decode cX5_two 106 = .ok (.iload 5, 2) := by decide +kernel
theorem dX5_two_108 : decode cX5_two 108 = .ok (.iload 4, 2) := by decide +kernel
theorem dX5_two_110 : decode cX5_two 110 = .ok (.if_icmp .le 7, 3) := by decide +kernel
theorem dX5_two_113 : decode cX5_two 113 = .ok (.iconst 1, 1) := by decide +kernel
theorem dX5_two_114 : decode cX5_two 114 = .ok (.goto 4, 3) := by decide +kernel
theorem dX5_two_117 : decode cX5_two 117 = .ok (.iconst 0, 1) := by decide +kernel
theorem dX5_two_118 : decode cX5_two 118 = .ok (.ireturn, 1) := by decide +kernel
set_option maxRecDepth 20000 in
theorem ggX5_tree_X5_refusal : GoodIn wsX5_tree wsX5_refusal := goodIn_r _ [7, 2, 8, 9, 10, 11, 12, 13, 14, 15, 16, 6, 17, 18, 19, 20, 21, 22, 23, 24, 25, 26, 27, 28, 29, 83, 84, 85, 86, 87, 88, 89, 90, 91, 92, 93, 96, 97, 98, 99, 100, 101, 102, 103, 104, 105, 106, 107, 108] (by decide +kernel) (by decide +kernel)
set_option maxRecDepth 20000 in
theorem gX5_tree_X5_refusal : GoodIn wsX5_tree (wsV RX5 114 RX5 yX5_refusal wsX5_refusal) := goodIn_app (goodIn_of _ (by decide +kernel)) ggX5_tree_X5_refusal
set_option maxRecDepth 20000 in
theorem ggX5_tree_X5_spreadFrom : GoodIn wsX5_tree wsX5_spreadFrom := goodIn_r _ [32, 33, 34, 35, 36, 27, 28, 6, 29, 37, 38, 39, 11, 40, 41, 42, 43, 44, 23, 45, 46, 47, 24, 9, 10, 12, 13, 48, 49, 50, 51, 52, 53, 54, 55, 56, 57, 58, 59, 60, 61, 62, 63, 25, 26, 64, 65, 66, 67, 68, 69, 70, 71, 72, 73, 74, 75, 30, 31, 76, 77, 78, 79, 80, 81, 94, 95, 96, 97, 98, 99, 100, 101, 102, 103, 104, 105, 106, 107, 108] (by decide +kernel) (by decide +kernel)
set_option maxRecDepth 20000 in
theorem gX5_tree_X5_spreadFrom : GoodIn wsX5_tree (va_wsS RX5 199 yX5_spreadFrom wsX5_spreadFrom) := goodIn_app (goodIn_of _ (by decide +kernel)) ggX5_tree_X5_spreadFrom
set_option maxRecDepth 20000 in
theorem ggX5_tree_J6_bitCount_0f7a4 : GoodIn wsX5_tree wsJ6_bitCount_0f7a4 := goodIn_r _ [51, 52, 53, 54] (by decide +kernel) (by decide +kernel)
set_option maxRecDepth 20000 in
theorem gX5_tree_J6_bitCount_0f7a4 : GoodIn wsX5_tree (va_wsS RX5 203 yJ6_bitCount_0f7a4 wsJ6_bitCount_0f7a4) := goodIn_app (goodIn_of _ (by decide +kernel)) ggX5_tree_J6_bitCount_0f7a4
theorem dX5_tree_0 : decode cX5_tree 0 = .ok (.aload_n 0, 1) := by decide +kernel
theorem dX5_tree_1 : decode cX5_tree 1 = .ok (.iload_n 1, 1) := by decide +kernel
theorem dX5_tree_2 : decode cX5_tree 2 = .ok (.iload_n 2, 1) := by decide +kernel
theorem dX5_tree_3 : decode cX5_tree 3 = .ok (.ifCond .lt 12, 3) := by decide +kernel
theorem dX5_tree_6 : decode cX5_tree 6 = .ok (.iload_n 2, 1) := by decide +kernel
theorem dX5_tree_7 : decode cX5_tree 7 = .ok (.iconst 2, 1) := by decide +kernel
theorem dX5_tree_8 : decode cX5_tree 8 = .ok (.if_icmp .gt 7, 3) := by decide +kernel
theorem dX5_tree_11 : decode cX5_tree 11 = .ok (.iconst 1, 1) := by decide +kernel
theorem dX5_tree_12 : decode cX5_tree 12 = .ok (.goto 4, 3) := by decide +kernel
theorem dX5_tree_15 : decode cX5_tree 15 = .ok (.iconst 0, 1) := by decide +kernel
theorem dX5_tree_16 : decode cX5_tree 16 = .ok (.bipush (-2), 2) := by decide +kernel
theorem dX5_tree_18 : decode cX5_tree 18 = .ok (.invokevirtual 114, 3) := by decide +kernel
theorem dX5_tree_21 : decode cX5_tree 21 = .ok (.istore_n 3, 1) := by decide +kernel
theorem dX5_tree_22 : decode cX5_tree 22 = .ok (.iload_n 3, 1) := by decide +kernel
theorem dX5_tree_23 : decode cX5_tree 23 = .ok (.ifCond .eq 5, 3) := by decide +kernel
theorem dX5_tree_26 : decode cX5_tree 26 = .ok (.iload_n 3, 1) := by decide +kernel
theorem dX5_tree_27 : decode cX5_tree 27 = .ok (.ireturn, 1) := by decide +kernel
theorem dX5_tree_28 : decode cX5_tree 28 = .ok (.aload_n 0, 1) := by decide +kernel
theorem dX5_tree_29 : decode cX5_tree 29 = .ok (.getfield 39, 3) := by decide +kernel
theorem dX5_tree_32 : decode cX5_tree 32 = .ok (.iconst 0, 1) := by decide +kernel
theorem dX5_tree_33 : decode cX5_tree 33 = .ok (.putfield 195, 3) := by decide +kernel
theorem dX5_tree_36 : decode cX5_tree 36 = .ok (.aload_n 0, 1) := by decide +kernel
theorem dX5_tree_37 : decode cX5_tree 37 = .ok (.getfield 39, 3) := by decide +kernel
theorem dX5_tree_40 : decode cX5_tree 40 = .ok (.iconst 0, 1) := by decide +kernel
theorem dX5_tree_41 : decode cX5_tree 41 = .ok (.putfield 196, 3) := by decide +kernel
theorem dX5_tree_44 : decode cX5_tree 44 = .ok (.aload_n 0, 1) := by decide +kernel
theorem dX5_tree_45 : decode cX5_tree 45 = .ok (.getfield 10, 3) := by decide +kernel
theorem dX5_tree_48 : decode cX5_tree 48 = .ok (.aload_n 0, 1) := by decide +kernel
theorem dX5_tree_49 : decode cX5_tree 49 = .ok (.getfield 39, 3) := by decide +kernel
theorem dX5_tree_52 : decode cX5_tree 52 = .ok (.iload_n 1, 1) := by decide +kernel
theorem dX5_tree_53 : decode cX5_tree 53 = .ok (.iconst 0, 1) := by decide +kernel
theorem dX5_tree_54 : decode cX5_tree 54 = .ok (.invokestatic 199, 3) := by decide +kernel
theorem dX5_tree_57 : decode cX5_tree 57 = .ok (.istore 4, 2) := by decide +kernel
theorem dX5_tree_59 : decode cX5_tree 59 = .ok (.iload_n 2, 1) := by decide +kernel
theorem dX5_tree_60 : decode cX5_tree 60 = .ok (.lookupswitch 49 #[(0, 28), (1, 39)], 28) := by decide +kernel
theorem dX5_tree_88 : decode cX5_tree 88 = .ok (.aload_n 0, 1) := by decide +kernel
theorem dX5_tree_89 : decode cX5_tree 89 = .ok (.getfield 39, 3) := by decide +kernel
theorem dX5_tree_92 : decode cX5_tree 92 = .ok (.getfield 195, 3) := by decide +kernel
theorem dX5_tree_95 : decode cX5_tree 95 = .ok (.invokestatic 203, 3) := by decide +kernel
theorem dX5_tree_98 : decode cX5_tree 98 = .ok (.ireturn, 1) := by decide +kernel
theorem dX5_tree_99 : decode cX5_tree 99 = .ok (.iconst 2, 1) := by decide +kernel
theorem dX5_tree_100 : decode cX5_tree 100 = .ok (.aload_n 0, 1) := by decide +kernel
theorem dX5_tree_101 : decode cX5_tree 101 = .ok (.getfield 39, 3) := by decide +kernel
theorem dX5_tree_104 : decode cX5_tree 104 = .ok (.getfield 196, 3) := by decide +kernel
theorem dX5_tree_107 : decode cX5_tree 107 = .ok (.imul, 1) := by decide +kernel
theorem dX5_tree_108 : decode cX5_tree 108 = .ok (.ireturn, 1) := by decide +kernel
theorem dX5_tree_109 : decode cX5_tree 109 = .ok (.iload 4, 2) := by decide +kernel
theorem dX5_tree_111 : decode cX5_tree 111 = .ok (.ireturn, 1) := by decide +kernel
set_option maxRecDepth 20000 in
theorem ggX5_days_X5_refuse : GoodIn wsX5_days wsX5_refuse := goodIn_r _ [11, 12, 107, 108, 109, 110, 111, 112, 113, 114, 115, 116, 117] (by decide +kernel) (by decide +kernel)
set_option maxRecDepth 20000 in
theorem gX5_days_X5_refuse : GoodIn wsX5_days (wsV RX5 65 RX5 yX5_refuse wsX5_refuse) := goodIn_app (goodIn_of _ (by decide +kernel)) ggX5_days_X5_refuse
set_option maxRecDepth 20000 in
theorem ggX5_days_X3_become : GoodIn wsX5_days wsX3_become := goodIn_r _ [17, 18, 19, 20, 21, 22, 23, 24, 25, 26, 27, 28, 29, 30, 31, 32, 33, 34, 118, 119, 120, 121, 122, 123, 124, 125, 126, 127, 128, 129, 130] (by decide +kernel) (by decide +kernel)
set_option maxRecDepth 20000 in
theorem gX5_days_X3_become : GoodIn wsX5_days (wsV RX5 77 RX3 yX3_become wsX3_become) := goodIn_app (goodIn_of _ (by decide +kernel)) ggX5_days_X3_become
set_option maxRecDepth 20000 in
theorem ggX5_days_X3_follow : GoodIn wsX5_days wsX3_follow := goodIn_r _ [38, 39, 40, 41, 42, 43, 44, 45, 46, 47, 48, 49, 50, 51, 10, 52, 53, 54, 55, 16, 56, 57, 58, 59, 60, 32, 27, 31, 28, 61, 62, 63, 64, 30, 65, 66, 67, 68, 69, 70, 71, 72, 73, 74, 75, 76, 77, 78, 79, 26, 80, 81, 82, 83, 84, 85, 86, 18, 24, 87, 88, 89, 90, 29, 131, 132, 133, 118, 119, 120, 121, 122, 123, 124, 125, 126, 127, 128, 129, 130] (by decide +kernel) (by decide +kernel)
set_option maxRecDepth 20000 in
theorem gX5_days_X3_follow : GoodIn wsX5_days (wsV RX5 118 RX3 yX3_follow wsX3_follow) := goodIn_app (goodIn_of _ (by decide +kernel)) ggX5_days_X3_follow
set_option maxRecDepth 20000 in
theorem ggX5_days_X3_rightOf : GoodIn wsX5_days wsX3_rightOf := goodIn_r _ [94, 95, 96, 97, 42, 98, 44, 50, 99, 100, 101, 16, 102, 24, 23, 103, 104, 105, 106, 61, 62, 63, 64, 30, 131, 132, 133, 118, 119, 120, 121, 122, 123, 124, 125, 126, 127, 128, 129, 130] (by decide +kernel) (by decide +kernel)
set_option maxRecDepth 20000 in
theorem gX5_days_X3_rightOf : GoodIn wsX5_days (wsV RX5 122 RX3 yX3_rightOf wsX3_rightOf) := goodIn_app (goodIn_of _ (by decide +kernel)) ggX5_days_X3_rightOf
theorem dX5_days_0 : decode cX5_days 0 = .ok (.iload_n 1, 1) := by decide +kernel
theorem dX5_days_1 : decode cX5_days 1 = .ok (.iconst 1, 1) := by decide +kernel
theorem dX5_days_2 : decode cX5_days 2 = .ok (.if_icmp .ge 10, 3) := by decide +kernel
theorem dX5_days_5 : decode cX5_days 5 = .ok (.aload_n 0, 1) := by decide +kernel
theorem dX5_days_6 : decode cX5_days 6 = .ok (.bipush (-4), 2) := by decide +kernel
theorem dX5_days_8 : decode cX5_days 8 = .ok (.invokevirtual 65, 3) := by decide +kernel
theorem dX5_days_11 : decode cX5_days 11 = .ok (.ireturn, 1) := by decide +kernel
theorem dX5_days_12 : decode cX5_days 12 = .ok (.iload_n 1, 1) := by decide +kernel
theorem dX5_days_13 : decode cX5_days 13 = .ok (.bipush 30, 2) := by decide +kernel
theorem dX5_days_15 : decode cX5_days 15 = .ok (.if_icmp .le 10, 3) := by decide +kernel
theorem dX5_days_18 : decode cX5_days 18 = .ok (.aload_n 0, 1) := by decide +kernel
theorem dX5_days_19 : decode cX5_days 19 = .ok (.bipush (-6), 2) := by decide +kernel
theorem dX5_days_21 : decode cX5_days 21 = .ok (.invokevirtual 65, 3) := by decide +kernel
theorem dX5_days_24 : decode cX5_days 24 = .ok (.ireturn, 1) := by decide +kernel
theorem dX5_days_25 : decode cX5_days 25 = .ok (.aload_n 0, 1) := by decide +kernel
theorem dX5_days_26 : decode cX5_days 26 = .ok (.getfield 10, 3) := by decide +kernel
theorem dX5_days_29 : decode cX5_days 29 = .ok (.getfield 172, 3) := by decide +kernel
theorem dX5_days_32 : decode cX5_days 32 = .ok (.iconst 1, 1) := by decide +kernel
theorem dX5_days_33 : decode cX5_days 33 = .ok (.if_icmp .ge 10, 3) := by decide +kernel
theorem dX5_days_36 : decode cX5_days 36 = .ok (.aload_n 0, 1) := by decide +kernel
theorem dX5_days_37 : decode cX5_days 37 = .ok (.bipush (-3), 2) := by decide +kernel
theorem dX5_days_39 : decode cX5_days 39 = .ok (.invokevirtual 65, 3) := by decide +kernel
theorem dX5_days_42 : decode cX5_days 42 = .ok (.ireturn, 1) := by decide +kernel
theorem dX5_days_43 : decode cX5_days 43 = .ok (.aload_n 0, 1) := by decide +kernel
theorem dX5_days_44 : decode cX5_days 44 = .ok (.getfield 19, 3) := by decide +kernel
theorem dX5_days_47 : decode cX5_days 47 = .ok (.aload_n 0, 1) := by decide +kernel
theorem dX5_days_48 : decode cX5_days 48 = .ok (.getfield 10, 3) := by decide +kernel
theorem dX5_days_51 : decode cX5_days 51 = .ok (.invokevirtual 77, 3) := by decide +kernel
theorem dX5_days_54 : decode cX5_days 54 = .ok (.aload_n 0, 1) := by decide +kernel
theorem dX5_days_55 : decode cX5_days 55 = .ok (.getfield 19, 3) := by decide +kernel
theorem dX5_days_58 : decode cX5_days 58 = .ok (.iconst 0, 1) := by decide +kernel
theorem dX5_days_59 : decode cX5_days 59 = .ok (.putfield 126, 3) := by decide +kernel
theorem dX5_days_62 : decode cX5_days 62 = .ok (.iload_n 2, 1) := by decide +kernel
theorem dX5_days_63 : decode cX5_days 63 = .ok (.istore_n 3, 1) := by decide +kernel
theorem dX5_days_64 : decode cX5_days 64 = .ok (.iconst 0, 1) := by decide +kernel
theorem dX5_days_65 : decode cX5_days 65 = .ok (.istore 4, 2) := by decide +kernel
theorem dX5_days_67 : decode cX5_days 67 = .ok (.iconst 0, 1) := by decide +kernel
theorem dX5_days_68 : decode cX5_days 68 = .ok (.istore 5, 2) := by decide +kernel
theorem dX5_days_70 : decode cX5_days 70 = .ok (.iload 5, 2) := by decide +kernel
theorem dX5_days_72 : decode cX5_days 72 = .ok (.iload_n 1, 1) := by decide +kernel
theorem dX5_days_73 : decode cX5_days 73 = .ok (.if_icmp .ge 64, 3) := by decide +kernel
theorem dX5_days_76 : decode cX5_days 76 = .ok (.iload_n 3, 1) := by decide +kernel
theorem dX5_days_77 : decode cX5_days 77 = .ok (.ldc 208, 2) := by decide +kernel
theorem dX5_days_79 : decode cX5_days 79 = .ok (.imul, 1) := by decide +kernel
theorem dX5_days_80 : decode cX5_days 80 = .ok (.ldc 209, 2) := by decide +kernel
theorem dX5_days_82 : decode cX5_days 82 = .ok (.iadd, 1) := by decide +kernel
theorem dX5_days_83 : decode cX5_days 83 = .ok (.istore_n 3, 1) := by decide +kernel
theorem dX5_days_84 : decode cX5_days 84 = .ok (.iload_n 3, 1) := by decide +kernel
theorem dX5_days_85 : decode cX5_days 85 = .ok (.ldc 210, 2) := by decide +kernel
theorem dX5_days_87 : decode cX5_days 87 = .ok (.iand, 1) := by decide +kernel
theorem dX5_days_88 : decode cX5_days 88 = .ok (.sipush 256, 3) := by decide +kernel
theorem dX5_days_91 : decode cX5_days 91 = .ok (.idiv, 1) := by decide +kernel
theorem dX5_days_92 : decode cX5_days 92 = .ok (.aload_n 0, 1) := by decide +kernel
theorem dX5_days_93 : decode cX5_days 93 = .ok (.getfield 19, 3) := by decide +kernel
theorem dX5_days_96 : decode cX5_days 96 = .ok (.getfield 172, 3) := by decide +kernel
theorem dX5_days_99 : decode cX5_days 99 = .ok (.irem, 1) := by decide +kernel
theorem dX5_days_100 : decode cX5_days 100 = .ok (.istore 6, 2) := by decide +kernel
theorem dX5_days_102 : decode cX5_days 102 = .ok (.aload_n 0, 1) := by decide +kernel
theorem dX5_days_103 : decode cX5_days 103 = .ok (.getfield 19, 3) := by decide +kernel
theorem dX5_days_106 : decode cX5_days 106 = .ok (.iload 6, 2) := by decide +kernel
theorem dX5_days_108 : decode cX5_days 108 = .ok (.aload_n 0, 1) := by decide +kernel
theorem dX5_days_109 : decode cX5_days 109 = .ok (.getfield 25, 3) := by decide +kernel
theorem dX5_days_112 : decode cX5_days 112 = .ok (.invokevirtual 118, 3) := by decide +kernel
theorem dX5_days_115 : decode cX5_days 115 = .ok (.iload 4, 2) := by decide +kernel
theorem dX5_days_117 : decode cX5_days 117 = .ok (.aload_n 0, 1) := by decide +kernel
theorem dX5_days_118 : decode cX5_days 118 = .ok (.getfield 19, 3) := by decide +kernel
theorem dX5_days_121 : decode cX5_days 121 = .ok (.aload_n 0, 1) := by decide +kernel
theorem dX5_days_122 : decode cX5_days 122 = .ok (.getfield 25, 3) := by decide +kernel
theorem dX5_days_125 : decode cX5_days 125 = .ok (.invokevirtual 122, 3) := by decide +kernel
theorem dX5_days_128 : decode cX5_days 128 = .ok (.iadd, 1) := by decide +kernel
theorem dX5_days_129 : decode cX5_days 129 = .ok (.istore 4, 2) := by decide +kernel
theorem dX5_days_131 : decode cX5_days 131 = .ok (.iinc 5 1, 3) := by decide +kernel
theorem dX5_days_134 : decode cX5_days 134 = .ok (.goto (-64), 3) := by decide +kernel
theorem dX5_days_137 : decode cX5_days 137 = .ok (.iload 4, 2) := by decide +kernel
theorem dX5_days_139 : decode cX5_days 139 = .ok (.ireturn, 1) := by decide +kernel
set_option maxRecDepth 20000 in
theorem ggX5_row_X5_refuse : GoodIn wsX5_row wsX5_refuse := goodIn_r _ [7, 8, 9, 10, 11, 12, 13, 14, 15, 16, 17, 18, 19] (by decide +kernel) (by decide +kernel)
set_option maxRecDepth 20000 in
theorem gX5_row_X5_refuse : GoodIn wsX5_row (wsV RX5 65 RX5 yX5_refuse wsX5_refuse) := goodIn_app (goodIn_of _ (by decide +kernel)) ggX5_row_X5_refuse
theorem dX5_row_0 : decode cX5_row 0 = .ok (.iload_n 1, 1) := by decide +kernel
theorem dX5_row_1 : decode cX5_row 1 = .ok (.ifCond .ge 10, 3) := by decide +kernel
theorem dX5_row_4 : decode cX5_row 4 = .ok (.aload_n 0, 1) := by decide +kernel
theorem dX5_row_5 : decode cX5_row 5 = .ok (.bipush (-4), 2) := by decide +kernel
theorem dX5_row_7 : decode cX5_row 7 = .ok (.invokevirtual 65, 3) := by decide +kernel
theorem dX5_row_10 : decode cX5_row 10 = .ok (.ireturn, 1) := by decide +kernel
theorem dX5_row_11 : decode cX5_row 11 = .ok (.iload_n 1, 1) := by decide +kernel
theorem dX5_row_12 : decode cX5_row 12 = .ok (.bipush 9, 2) := by decide +kernel
theorem dX5_row_14 : decode cX5_row 14 = .ok (.if_icmp .gt 12, 3) := by decide +kernel
theorem dX5_row_17 : decode cX5_row 17 = .ok (.aload_n 0, 1) := by decide +kernel
theorem dX5_row_18 : decode cX5_row 18 = .ok (.getfield 57, 3) := by decide +kernel
theorem dX5_row_21 : decode cX5_row 21 = .ok (.bipush 8, 2) := by decide +kernel
theorem dX5_row_23 : decode cX5_row 23 = .ok (.if_icmp .lt 10, 3) := by decide +kernel
theorem dX5_row_26 : decode cX5_row 26 = .ok (.aload_n 0, 1) := by decide +kernel
theorem dX5_row_27 : decode cX5_row 27 = .ok (.bipush (-6), 2) := by decide +kernel
theorem dX5_row_29 : decode cX5_row 29 = .ok (.invokevirtual 65, 3) := by decide +kernel
theorem dX5_row_32 : decode cX5_row 32 = .ok (.ireturn, 1) := by decide +kernel
theorem dX5_row_33 : decode cX5_row 33 = .ok (.aload_n 0, 1) := by decide +kernel
theorem dX5_row_34 : decode cX5_row 34 = .ok (.getfield 50, 3) := by decide +kernel
theorem dX5_row_37 : decode cX5_row 37 = .ok (.aload_n 0, 1) := by decide +kernel
theorem dX5_row_38 : decode cX5_row 38 = .ok (.getfield 57, 3) := by decide +kernel
theorem dX5_row_41 : decode cX5_row 41 = .ok (.iload_n 1, 1) := by decide +kernel
theorem dX5_row_42 : decode cX5_row 42 = .ok (.iastore, 1) := by decide +kernel
theorem dX5_row_43 : decode cX5_row 43 = .ok (.aload_n 0, 1) := by decide +kernel
theorem dX5_row_44 : decode cX5_row 44 = .ok (.dup, 1) := by decide +kernel
theorem dX5_row_45 : decode cX5_row 45 = .ok (.getfield 57, 3) := by decide +kernel
theorem dX5_row_48 : decode cX5_row 48 = .ok (.iconst 1, 1) := by decide +kernel
theorem dX5_row_49 : decode cX5_row 49 = .ok (.iadd, 1) := by decide +kernel
theorem dX5_row_50 : decode cX5_row 50 = .ok (.putfield 57, 3) := by decide +kernel
theorem dX5_row_53 : decode cX5_row 53 = .ok (.aload_n 0, 1) := by decide +kernel
theorem dX5_row_54 : decode cX5_row 54 = .ok (.getfield 57, 3) := by decide +kernel
theorem dX5_row_57 : decode cX5_row 57 = .ok (.ireturn, 1) := by decide +kernel
set_option maxRecDepth 20000 in
theorem ggX5_judge_X5_refuse : GoodIn wsX5_judge wsX5_refuse := goodIn_r _ [6, 7, 68, 69, 70, 71, 72, 73, 74, 75, 76, 77, 78] (by decide +kernel) (by decide +kernel)
set_option maxRecDepth 20000 in
theorem gX5_judge_X5_refuse : GoodIn wsX5_judge (wsV RX5 65 RX5 yX5_refuse wsX5_refuse) := goodIn_app (goodIn_of _ (by decide +kernel)) ggX5_judge_X5_refuse
set_option maxRecDepth 20000 in
theorem ggX5_judge_X5_judged : GoodIn wsX5_judge wsX5_judged := goodIn_r _ [11, 12, 1, 13, 14, 15, 16, 17, 18, 19, 20, 21, 22, 23, 24, 25, 26, 27, 28, 29, 30, 31, 32, 33, 34, 5, 35, 36, 37, 38, 39, 40, 41, 42, 43, 44, 45, 46, 47, 48, 49, 50, 51, 52, 53, 54, 55, 56, 57, 58, 59, 60, 61, 62, 63, 64, 65, 66, 67, 68, 69, 70, 71, 72, 73, 74, 75, 76, 77, 78, 79, 80, 81, 82, 83, 84, 85, 86, 87, 88, 89, 90, 91, 92, 93, 94] (by decide +kernel) (by decide +kernel)
set_option maxRecDepth 20000 in
theorem gX5_judge_X5_judged : GoodIn wsX5_judge (wsV RX5 211 RX5 yX5_judged wsX5_judged) := goodIn_app (goodIn_of _ (by decide +kernel)) ggX5_judge_X5_judged
theorem dX5_judge_0 : decode cX5_judge 0 = .ok (.aload_n 0, 1) := by decide +kernel
theorem dX5_judge_1 : decode cX5_judge 1 = .ok (.getfield 57, 3) := by decide +kernel
theorem dX5_judge_4 : decode cX5_judge 4 = .ok (.ifCond .ne 10, 3) := by decide +kernel
theorem dX5_judge_7 : decode cX5_judge 7 = .ok (.aload_n 0, 1) := by decide +kernel
theorem dX5_judge_8 : decode cX5_judge 8 = .ok (.bipush (-3), 2) := by decide +kernel
theorem dX5_judge_10 : decode cX5_judge 10 = .ok (.invokevirtual 65, 3) := by decide +kernel
theorem dX5_judge_13 : decode cX5_judge 13 = .ok (.ireturn, 1) := by decide +kernel
theorem dX5_judge_14 : decode cX5_judge 14 = .ok (.aload_n 0, 1) := by decide +kernel
theorem dX5_judge_15 : decode cX5_judge 15 = .ok (.invokevirtual 211, 3) := by decide +kernel
theorem dX5_judge_18 : decode cX5_judge 18 = .ok (.istore_n 1, 1) := by decide +kernel
theorem dX5_judge_19 : decode cX5_judge 19 = .ok (.aload_n 0, 1) := by decide +kernel
theorem dX5_judge_20 : decode cX5_judge 20 = .ok (.iconst 0, 1) := by decide +kernel
theorem dX5_judge_21 : decode cX5_judge 21 = .ok (.putfield 57, 3) := by decide +kernel
theorem dX5_judge_24 : decode cX5_judge 24 = .ok (.iload_n 1, 1) := by decide +kernel
theorem dX5_judge_25 : decode cX5_judge 25 = .ok (.ireturn, 1) := by decide +kernel
set_option maxRecDepth 20000 in
theorem ggX5_image_X3_become : GoodIn wsX5_image wsX3_become := goodIn_r _ [8, 9, 10, 11, 12, 13, 14, 15, 16, 17, 18, 19, 20, 21, 22, 23, 24, 25, 37, 38, 39, 40, 41, 42, 43, 44, 45, 46, 47, 48, 49] (by decide +kernel) (by decide +kernel)
set_option maxRecDepth 20000 in
theorem gX5_image_X3_become : GoodIn wsX5_image (wsV RX5 77 RX3 yX3_become wsX3_become) := goodIn_app (goodIn_of _ (by decide +kernel)) ggX5_image_X3_become
theorem dX5_image_0 : decode cX5_image 0 = .ok (.aload_n 0, 1) := by decide +kernel
theorem dX5_image_1 : decode cX5_image 1 = .ok (.getfield 16, 3) := by decide +kernel
theorem dX5_image_4 : decode cX5_image 4 = .ok (.aload_n 0, 1) := by decide +kernel
theorem dX5_image_5 : decode cX5_image 5 = .ok (.getfield 10, 3) := by decide +kernel
theorem dX5_image_8 : decode cX5_image 8 = .ok (.invokevirtual 77, 3) := by decide +kernel
theorem dX5_image_11 : decode cX5_image 11 = .ok (.aload_n 0, 1) := by decide +kernel
theorem dX5_image_12 : decode cX5_image 12 = .ok (.iconst 1, 1) := by decide +kernel
theorem dX5_image_13 : decode cX5_image 13 = .ok (.putfield 61, 3) := by decide +kernel
theorem dX5_image_16 : decode cX5_image 16 = .ok (.aload_n 0, 1) := by decide +kernel
theorem dX5_image_17 : decode cX5_image 17 = .ok (.getfield 10, 3) := by decide +kernel
theorem dX5_image_20 : decode cX5_image 20 = .ok (.getfield 172, 3) := by decide +kernel
theorem dX5_image_23 : decode cX5_image 23 = .ok (.ireturn, 1) := by decide +kernel
set_option maxRecDepth 20000 in
theorem ggX5_on_X5_refuse : GoodIn wsX5_on wsX5_refuse := goodIn_r _ [8, 9, 32, 33, 34, 35, 36, 37, 38, 39, 40, 41, 42] (by decide +kernel) (by decide +kernel)
set_option maxRecDepth 20000 in
theorem gX5_on_X5_refuse : GoodIn wsX5_on (wsV RX5 65 RX5 yX5_refuse wsX5_refuse) := goodIn_app (goodIn_of _ (by decide +kernel)) ggX5_on_X5_refuse
set_option maxRecDepth 20000 in
theorem ggX5_on_X3_become : GoodIn wsX5_on wsX3_become := goodIn_r _ [14, 15, 16, 17, 18, 19, 20, 21, 22, 23, 24, 25, 26, 27, 28, 29, 30, 31, 43, 44, 45, 46, 47, 48, 49, 50, 51, 52, 53, 54, 55] (by decide +kernel) (by decide +kernel)
set_option maxRecDepth 20000 in
theorem gX5_on_X3_become : GoodIn wsX5_on (wsV RX5 77 RX3 yX3_become wsX3_become) := goodIn_app (goodIn_of _ (by decide +kernel)) ggX5_on_X3_become
theorem dX5_on_0 : decode cX5_on 0 = .ok (.aload_n 0, 1) := by decide +kernel
theorem dX5_on_1 : decode cX5_on 1 = .ok (.getfield 61, 3) := by decide +kernel
theorem dX5_on_4 : decode cX5_on 4 = .ok (.ifCond .ne 10, 3) := by decide +kernel
theorem dX5_on_7 : decode cX5_on 7 = .ok (.aload_n 0, 1) := by decide +kernel
theorem dX5_on_8 : decode cX5_on 8 = .ok (.bipush (-3), 2) := by decide +kernel
theorem dX5_on_10 : decode cX5_on 10 = .ok (.invokevirtual 65, 3) := by decide +kernel
theorem dX5_on_13 : decode cX5_on 13 = .ok (.ireturn, 1) := by decide +kernel
theorem dX5_on_14 : decode cX5_on 14 = .ok (.aload_n 0, 1) := by decide +kernel
theorem dX5_on_15 : decode cX5_on 15 = .ok (.getfield 10, 3) := by decide +kernel
theorem dX5_on_18 : decode cX5_on 18 = .ok (.aload_n 0, 1) := by decide +kernel
theorem dX5_on_19 : decode cX5_on 19 = .ok (.getfield 16, 3) := by decide +kernel
theorem dX5_on_22 : decode cX5_on 22 = .ok (.invokevirtual 77, 3) := by decide +kernel
theorem dX5_on_25 : decode cX5_on 25 = .ok (.aload_n 0, 1) := by decide +kernel
theorem dX5_on_26 : decode cX5_on 26 = .ok (.getfield 10, 3) := by decide +kernel
theorem dX5_on_29 : decode cX5_on 29 = .ok (.getfield 172, 3) := by decide +kernel
theorem dX5_on_32 : decode cX5_on 32 = .ok (.ireturn, 1) := by decide +kernel
set_option maxRecDepth 20000 in
theorem ggX5_count_X3_minutesTold : GoodIn wsX5_count wsX3_minutesTold := goodIn_r _ [9, 10, 11, 12, 13, 14, 15, 16, 17, 30, 31, 32, 33, 34, 35, 36, 37, 38, 39, 40, 41, 42] (by decide +kernel) (by decide +kernel)
set_option maxRecDepth 20000 in
theorem gX5_count_X3_minutesTold : GoodIn wsX5_count (wsV RX5 215 RX3 yX3_minutesTold wsX3_minutesTold) := goodIn_app (goodIn_of _ (by decide +kernel)) ggX5_count_X3_minutesTold
set_option maxRecDepth 20000 in
theorem ggX5_count_J6_bitCount_0f7a4 : GoodIn wsX5_count wsJ6_bitCount_0f7a4 := goodIn_r _ [14, 15, 16, 17] (by decide +kernel) (by decide +kernel)
set_option maxRecDepth 20000 in
theorem gX5_count_J6_bitCount_0f7a4 : GoodIn wsX5_count (va_wsS RX5 203 yJ6_bitCount_0f7a4 wsJ6_bitCount_0f7a4) := goodIn_app (goodIn_of _ (by decide +kernel)) ggX5_count_J6_bitCount_0f7a4
theorem dX5_count_0 : decode cX5_count 0 = .ok (.iload_n 1, 1) := by decide +kernel
theorem dX5_count_1 : decode cX5_count 1 = .ok (.tableswitch 111 0 7 #[47, 55, 63, 74, 82, 90, 98, 103], 47) := by decide +kernel
theorem dX5_count_48 : decode cX5_count 48 = .ok (.aload_n 0, 1) := by decide +kernel
theorem dX5_count_49 : decode cX5_count 49 = .ok (.getfield 10, 3) := by decide +kernel
theorem dX5_count_52 : decode cX5_count 52 = .ok (.getfield 172, 3) := by decide +kernel
theorem dX5_count_55 : decode cX5_count 55 = .ok (.ireturn, 1) := by decide +kernel
theorem dX5_count_56 : decode cX5_count 56 = .ok (.aload_n 0, 1) := by decide +kernel
theorem dX5_count_57 : decode cX5_count 57 = .ok (.getfield 10, 3) := by decide +kernel
theorem dX5_count_60 : decode cX5_count 60 = .ok (.invokevirtual 215, 3) := by decide +kernel
theorem dX5_count_63 : decode cX5_count 63 = .ok (.ireturn, 1) := by decide +kernel
theorem dX5_count_64 : decode cX5_count 64 = .ok (.aload_n 0, 1) := by decide +kernel
theorem dX5_count_65 : decode cX5_count 65 = .ok (.getfield 10, 3) := by decide +kernel
theorem dX5_count_68 : decode cX5_count 68 = .ok (.getfield 126, 3) := by decide +kernel
theorem dX5_count_71 : decode cX5_count 71 = .ok (.invokestatic 203, 3) := by decide +kernel
theorem dX5_count_74 : decode cX5_count 74 = .ok (.ireturn, 1) := by decide +kernel
theorem dX5_count_75 : decode cX5_count 75 = .ok (.aload_n 0, 1) := by decide +kernel
theorem dX5_count_76 : decode cX5_count 76 = .ok (.getfield 10, 3) := by decide +kernel
theorem dX5_count_79 : decode cX5_count 79 = .ok (.getfield 132, 3) := by decide +kernel
theorem dX5_count_82 : decode cX5_count 82 = .ok (.ireturn, 1) := by decide +kernel
theorem dX5_count_83 : decode cX5_count 83 = .ok (.aload_n 0, 1) := by decide +kernel
theorem dX5_count_84 : decode cX5_count 84 = .ok (.getfield 10, 3) := by decide +kernel
theorem dX5_count_87 : decode cX5_count 87 = .ok (.getfield 138, 3) := by decide +kernel
theorem dX5_count_90 : decode cX5_count 90 = .ok (.ireturn, 1) := by decide +kernel
theorem dX5_count_91 : decode cX5_count 91 = .ok (.aload_n 0, 1) := by decide +kernel
theorem dX5_count_92 : decode cX5_count 92 = .ok (.getfield 10, 3) := by decide +kernel
theorem dX5_count_95 : decode cX5_count 95 = .ok (.getfield 111, 3) := by decide +kernel
theorem dX5_count_98 : decode cX5_count 98 = .ok (.ireturn, 1) := by decide +kernel
theorem dX5_count_99 : decode cX5_count 99 = .ok (.aload_n 0, 1) := by decide +kernel
theorem dX5_count_100 : decode cX5_count 100 = .ok (.getfield 57, 3) := by decide +kernel
theorem dX5_count_103 : decode cX5_count 103 = .ok (.ireturn, 1) := by decide +kernel
theorem dX5_count_104 : decode cX5_count 104 = .ok (.aload_n 0, 1) := by decide +kernel
theorem dX5_count_105 : decode cX5_count 105 = .ok (.getfield 46, 3) := by decide +kernel
theorem dX5_count_108 : decode cX5_count 108 = .ok (.getfield 218, 3) := by decide +kernel
theorem dX5_count_111 : decode cX5_count 111 = .ok (.ireturn, 1) := by decide +kernel
theorem dX5_count_112 : decode cX5_count 112 = .ok (.iload_n 1, 1) := by decide +kernel
theorem dX5_count_113 : decode cX5_count 113 = .ok (.bipush 11, 2) := by decide +kernel
theorem dX5_count_115 : decode cX5_count 115 = .ok (.if_icmp .lt 21, 3) := by decide +kernel
theorem dX5_count_118 : decode cX5_count 118 = .ok (.iload_n 1, 1) := by decide +kernel
theorem dX5_count_119 : decode cX5_count 119 = .ok (.bipush 16, 2) := by decide +kernel
theorem dX5_count_121 : decode cX5_count 121 = .ok (.if_icmp .gt 15, 3) := by decide +kernel
theorem dX5_count_124 : decode cX5_count 124 = .ok (.aload_n 0, 1) := by decide +kernel
theorem dX5_count_125 : decode cX5_count 125 = .ok (.getfield 54, 3) := by decide +kernel
theorem dX5_count_128 : decode cX5_count 128 = .ok (.iload_n 1, 1) := by decide +kernel
theorem dX5_count_129 : decode cX5_count 129 = .ok (.bipush 10, 2) := by decide +kernel
theorem dX5_count_131 : decode cX5_count 131 = .ok (.isub, 1) := by decide +kernel
theorem dX5_count_132 : decode cX5_count 132 = .ok (.iaload, 1) := by decide +kernel
theorem dX5_count_133 : decode cX5_count 133 = .ok (.goto 5, 3) := by decide +kernel
theorem dX5_count_136 : decode cX5_count 136 = .ok (.bipush (-9), 2) := by decide +kernel
theorem dX5_count_138 : decode cX5_count 138 = .ok (.ireturn, 1) := by decide +kernel
theorem dX5_bit_0 : decode cX5_bit 0 = .ok (.iconst 1, 1) := by decide +kernel
theorem dX5_bit_1 : decode cX5_bit 1 = .ok (.iload_n 0, 1) := by decide +kernel
theorem dX5_bit_2 : decode cX5_bit 2 = .ok (.ishl, 1) := by decide +kernel
theorem dX5_bit_3 : decode cX5_bit 3 = .ok (.ireturn, 1) := by decide +kernel
set_option maxRecDepth 20000 in
theorem ggX5_holds_X5_bit : GoodIn wsX5_holds wsX5_bit := goodIn_r _ [4] (by decide +kernel) (by decide +kernel)
set_option maxRecDepth 20000 in
theorem gX5_holds_X5_bit : GoodIn wsX5_holds (va_wsS RX5 141 yX5_bit wsX5_bit) := goodIn_app (goodIn_of _ (by decide +kernel)) ggX5_holds_X5_bit
theorem dX5_holds_0 : decode cX5_holds 0 = .ok (.iload_n 0, 1) := by decide +kernel
theorem dX5_holds_1 : decode cX5_holds 1 = .ok (.iload_n 1, 1) := by decide +kernel
theorem dX5_holds_2 : decode cX5_holds 2 = .ok (.invokestatic 141, 3) := by decide +kernel
theorem dX5_holds_5 : decode cX5_holds 5 = .ok (.iand, 1) := by decide +kernel
theorem dX5_holds_6 : decode cX5_holds 6 = .ok (.ifCond .eq 7, 3) := by decide +kernel
theorem dX5_holds_9 : decode cX5_holds 9 = .ok (.iconst 1, 1) := by decide +kernel
theorem dX5_holds_10 : decode cX5_holds 10 = .ok (.goto 4, 3) := by decide +kernel
theorem dX5_holds_13 : decode cX5_holds 13 = .ok (.iconst 0, 1) := by decide +kernel
theorem dX5_holds_14 : decode cX5_holds 14 = .ok (.ireturn, 1) := by decide +kernel
theorem dX5_refuse_0 : decode cX5_refuse 0 = .ok (.iload_n 1, 1) := by decide +kernel
theorem dX5_refuse_1 : decode cX5_refuse 1 = .ok (.ineg, 1) := by decide +kernel
theorem dX5_refuse_2 : decode cX5_refuse 2 = .ok (.istore_n 2, 1) := by decide +kernel
theorem dX5_refuse_3 : decode cX5_refuse 3 = .ok (.iload_n 2, 1) := by decide +kernel
theorem dX5_refuse_4 : decode cX5_refuse 4 = .ok (.ifCond .lt 22, 3) := by decide +kernel
theorem dX5_refuse_7 : decode cX5_refuse 7 = .ok (.iload_n 2, 1) := by decide +kernel
theorem dX5_refuse_8 : decode cX5_refuse 8 = .ok (.aload_n 0, 1) := by decide +kernel
theorem dX5_refuse_9 : decode cX5_refuse 9 = .ok (.getfield 54, 3) := by decide +kernel
theorem dX5_refuse_12 : decode cX5_refuse 12 = .ok (.arraylength, 1) := by decide +kernel
theorem dX5_refuse_13 : decode cX5_refuse 13 = .ok (.if_icmp .ge 13, 3) := by decide +kernel
theorem dX5_refuse_16 : decode cX5_refuse 16 = .ok (.aload_n 0, 1) := by decide +kernel
theorem dX5_refuse_17 : decode cX5_refuse 17 = .ok (.getfield 54, 3) := by decide +kernel
theorem dX5_refuse_20 : decode cX5_refuse 20 = .ok (.iload_n 2, 1) := by decide +kernel
theorem dX5_refuse_21 : decode cX5_refuse 21 = .ok (.dup2, 1) := by decide +kernel
theorem dX5_refuse_22 : decode cX5_refuse 22 = .ok (.iaload, 1) := by decide +kernel
theorem dX5_refuse_23 : decode cX5_refuse 23 = .ok (.iconst 1, 1) := by decide +kernel
theorem dX5_refuse_24 : decode cX5_refuse 24 = .ok (.iadd, 1) := by decide +kernel
theorem dX5_refuse_25 : decode cX5_refuse 25 = .ok (.iastore, 1) := by decide +kernel
theorem dX5_refuse_26 : decode cX5_refuse 26 = .ok (.iload_n 1, 1) := by decide +kernel
theorem dX5_refuse_27 : decode cX5_refuse 27 = .ok (.ireturn, 1) := by decide +kernel
set_option maxRecDepth 20000 in
theorem ggX5_refusal_X3_has : GoodIn wsX5_refusal wsX3_has := goodIn_r _ [6, 7, 36, 37, 38, 39, 40, 41, 42, 43, 44, 45, 46, 47, 48] (by decide +kernel) (by decide +kernel)
set_option maxRecDepth 20000 in
theorem gX5_refusal_X3_has : GoodIn wsX5_refusal (wsV RX5 88 RX3 yX3_has wsX3_has) := goodIn_app (goodIn_of _ (by decide +kernel)) ggX5_refusal_X3_has
set_option maxRecDepth 20000 in
theorem ggX5_refusal_X5_refuse : GoodIn wsX5_refusal wsX5_refuse := goodIn_r _ [12, 13, 25, 26, 27, 28, 29, 30, 31, 32, 33, 34, 35] (by decide +kernel) (by decide +kernel)
set_option maxRecDepth 20000 in
theorem gX5_refusal_X5_refuse : GoodIn wsX5_refusal (wsV RX5 65 RX5 yX5_refuse wsX5_refuse) := goodIn_app (goodIn_of _ (by decide +kernel)) ggX5_refusal_X5_refuse
set_option maxRecDepth 20000 in
theorem ggX5_refusal_X3_wasAsked : GoodIn wsX5_refusal wsX3_wasAsked := goodIn_r _ [17, 18, 19, 3, 4, 5, 6, 7, 20, 11, 21, 22, 23, 24, 36, 37, 38, 39, 40, 41, 42, 43, 44, 45, 46, 47, 48] (by decide +kernel) (by decide +kernel)
set_option maxRecDepth 20000 in
theorem gX5_refusal_X3_wasAsked : GoodIn wsX5_refusal (wsV RX5 104 RX3 yX3_wasAsked wsX3_wasAsked) := goodIn_app (goodIn_of _ (by decide +kernel)) ggX5_refusal_X3_wasAsked
theorem dX5_refusal_0 : decode cX5_refusal 0 = .ok (.aload_n 0, 1) := by decide +kernel
theorem dX5_refusal_1 : decode cX5_refusal 1 = .ok (.getfield 10, 3) := by decide +kernel
theorem dX5_refusal_4 : decode cX5_refusal 4 = .ok (.iload_n 1, 1) := by decide +kernel
theorem dX5_refusal_5 : decode cX5_refusal 5 = .ok (.invokevirtual 88, 3) := by decide +kernel
theorem dX5_refusal_8 : decode cX5_refusal 8 = .ok (.ifCond .ne 9, 3) := by decide +kernel
theorem dX5_refusal_11 : decode cX5_refusal 11 = .ok (.aload_n 0, 1) := by decide +kernel
theorem dX5_refusal_12 : decode cX5_refusal 12 = .ok (.iconst (-1), 1) := by decide +kernel
theorem dX5_refusal_13 : decode cX5_refusal 13 = .ok (.invokevirtual 65, 3) := by decide +kernel
theorem dX5_refusal_16 : decode cX5_refusal 16 = .ok (.ireturn, 1) := by decide +kernel
theorem dX5_refusal_17 : decode cX5_refusal 17 = .ok (.iload_n 2, 1) := by decide +kernel
theorem dX5_refusal_18 : decode cX5_refusal 18 = .ok (.ifCond .ne 9, 3) := by decide +kernel
theorem dX5_refusal_21 : decode cX5_refusal 21 = .ok (.aload_n 0, 1) := by decide +kernel
theorem dX5_refusal_22 : decode cX5_refusal 22 = .ok (.iload_n 3, 1) := by decide +kernel
theorem dX5_refusal_23 : decode cX5_refusal 23 = .ok (.invokevirtual 65, 3) := by decide +kernel
theorem dX5_refusal_26 : decode cX5_refusal 26 = .ok (.ireturn, 1) := by decide +kernel
theorem dX5_refusal_27 : decode cX5_refusal 27 = .ok (.aload_n 0, 1) := by decide +kernel
theorem dX5_refusal_28 : decode cX5_refusal 28 = .ok (.getfield 10, 3) := by decide +kernel
theorem dX5_refusal_31 : decode cX5_refusal 31 = .ok (.iload_n 1, 1) := by decide +kernel
theorem dX5_refusal_32 : decode cX5_refusal 32 = .ok (.invokevirtual 104, 3) := by decide +kernel
theorem dX5_refusal_35 : decode cX5_refusal 35 = .ok (.ifCond .eq 12, 3) := by decide +kernel
theorem dX5_refusal_38 : decode cX5_refusal 38 = .ok (.aload_n 0, 1) := by decide +kernel
theorem dX5_refusal_39 : decode cX5_refusal 39 = .ok (.bipush (-3), 2) := by decide +kernel
theorem dX5_refusal_41 : decode cX5_refusal 41 = .ok (.invokevirtual 65, 3) := by decide +kernel
theorem dX5_refusal_44 : decode cX5_refusal 44 = .ok (.goto 4, 3) := by decide +kernel
theorem dX5_refusal_47 : decode cX5_refusal 47 = .ok (.iconst 0, 1) := by decide +kernel
theorem dX5_refusal_48 : decode cX5_refusal 48 = .ok (.ireturn, 1) := by decide +kernel
set_option maxRecDepth 20000 in
theorem ggX5_exploreFrom_X0_begin : GoodIn wsX5_exploreFrom wsX0_begin := goodIn_r _ [7, 8, 9, 10, 11, 12, 13, 14, 15, 16, 17, 18, 19, 20, 126, 127, 128, 129, 130, 131, 132, 133, 134, 135, 136] (by decide +kernel) (by decide +kernel)
set_option maxRecDepth 20000 in
theorem gX5_exploreFrom_X0_begin : GoodIn wsX5_exploreFrom (wsV RX5 219 RX0 yX0_begin wsX0_begin) := goodIn_app (goodIn_of _ (by decide +kernel)) ggX5_exploreFrom_X0_begin
set_option maxRecDepth 20000 in
theorem ggX5_exploreFrom_X5_explore : GoodIn wsX5_exploreFrom wsX5_explore := goodIn_r _ [24, 25, 26, 27, 17, 28, 19, 29, 20, 30, 23, 31, 32, 33, 34, 35, 36, 37, 38, 39, 40, 41, 42, 43, 44, 45, 46, 47, 48, 49, 50, 51, 52, 53, 54, 55, 56, 57, 58, 59, 60, 61, 62, 63, 64, 6, 65, 12, 9, 10, 11, 13, 66, 67, 68, 69, 70, 71, 72, 73, 74, 75, 76, 77, 78, 79, 80, 81, 82, 83, 84, 85, 86, 87, 88, 89, 90, 91, 92, 93, 94, 95, 96, 97, 98, 8, 99, 100, 101, 102, 103, 104, 105, 106, 107, 108, 109, 110, 21, 22, 111, 112, 113, 114, 126, 127, 128, 129, 130, 131, 132, 133, 134, 135, 136, 137, 138, 139, 140, 141, 142, 143, 144, 145, 146, 147, 148, 149] (by decide +kernel) (by decide +kernel)
set_option maxRecDepth 20000 in
theorem gX5_exploreFrom_X5_explore : GoodIn wsX5_exploreFrom (va_wsS RX5 222 yX5_explore wsX5_explore) := goodIn_app (goodIn_of _ (by decide +kernel)) ggX5_exploreFrom_X5_explore
theorem dX5_exploreFrom_0 : decode cX5_exploreFrom 0 = .ok (.aload_n 0, 1) := by decide +kernel
theorem dX5_exploreFrom_1 : decode cX5_exploreFrom 1 = .ok (.getfield 32, 3) := by decide +kernel
theorem dX5_exploreFrom_4 : decode cX5_exploreFrom 4 = .ok (.iload_n 2, 1) := by decide +kernel
theorem dX5_exploreFrom_5 : decode cX5_exploreFrom 5 = .ok (.iload_n 3, 1) := by decide +kernel
theorem dX5_exploreFrom_6 : decode cX5_exploreFrom 6 = .ok (.invokevirtual 219, 3) := by decide +kernel
theorem dX5_exploreFrom_9 : decode cX5_exploreFrom 9 = .ok (.aload_n 0, 1) := by decide +kernel
theorem dX5_exploreFrom_10 : decode cX5_exploreFrom 10 = .ok (.getfield 10, 3) := by decide +kernel
theorem dX5_exploreFrom_13 : decode cX5_exploreFrom 13 = .ok (.aload_n 0, 1) := by decide +kernel
theorem dX5_exploreFrom_14 : decode cX5_exploreFrom 14 = .ok (.getfield 32, 3) := by decide +kernel
theorem dX5_exploreFrom_17 : decode cX5_exploreFrom 17 = .ok (.iload_n 1, 1) := by decide +kernel
theorem dX5_exploreFrom_18 : decode cX5_exploreFrom 18 = .ok (.iconst 0, 1) := by decide +kernel
theorem dX5_exploreFrom_19 : decode cX5_exploreFrom 19 = .ok (.invokestatic 222, 3) := by decide +kernel
theorem dX5_exploreFrom_22 : decode cX5_exploreFrom 22 = .ok (.return_, 1) := by decide +kernel
set_option maxRecDepth 20000 in
theorem ggX5_explore_X4_add : GoodIn wsX5_explore wsX4_add := goodIn_r _ [5, 6, 7, 8, 9, 10, 11, 112, 113, 114] (by decide +kernel) (by decide +kernel)
set_option maxRecDepth 20000 in
theorem gX5_explore_X4_add : GoodIn wsX5_explore (wsV RX5 229 RX4 yX4_add wsX4_add) := goodIn_app (goodIn_of _ (by decide +kernel)) ggX5_explore_X4_add
set_option maxRecDepth 20000 in
theorem ggX5_explore_X3_openTo : GoodIn wsX5_explore wsX3_openTo := goodIn_r _ [16, 17, 18, 19, 20, 21, 22, 23, 15, 24, 25, 26, 27, 28, 29, 30, 31, 32, 33, 34, 35, 36, 37, 38, 39, 40, 41, 115, 116, 117, 118, 119, 120, 121, 122, 123, 124, 125, 126, 127] (by decide +kernel) (by decide +kernel)
set_option maxRecDepth 20000 in
theorem gX5_explore_X3_openTo : GoodIn wsX5_explore (wsV RX5 144 RX3 yX3_openTo wsX3_openTo) := goodIn_app (goodIn_of _ (by decide +kernel)) ggX5_explore_X3_openTo
set_option maxRecDepth 20000 in
theorem ggX5_explore_X0_take : GoodIn wsX5_explore wsX0_take := goodIn_r _ [46, 47, 48, 49, 50, 51, 52, 53, 54, 55, 56, 15, 57, 58, 59, 60, 61, 62, 21, 22, 23, 24, 25, 63, 64, 65, 66, 67, 68, 69, 4, 70, 6, 7, 71, 72, 73, 74, 75, 76, 77, 78, 79, 80, 81, 82, 83, 45, 84, 85, 86, 87, 88, 89, 90, 91, 92, 93, 8, 104, 105, 106, 107, 108, 109, 110, 111, 112, 113, 114, 115, 116, 117, 118, 119, 120, 121, 122, 123, 124, 125, 126, 127] (by decide +kernel) (by decide +kernel)
set_option maxRecDepth 20000 in
theorem gX5_explore_X0_take : GoodIn wsX5_explore (wsV RX5 232 RX0 yX0_take wsX0_take) := goodIn_app (goodIn_of _ (by decide +kernel)) ggX5_explore_X0_take
set_option maxRecDepth 20000 in
theorem ggX5_explore_X5_holds : GoodIn wsX5_explore wsX5_holds := goodIn_r _ [96, 97, 9, 10, 11] (by decide +kernel) (by decide +kernel)
set_option maxRecDepth 20000 in
theorem gX5_explore_X5_holds : GoodIn wsX5_explore (va_wsS RX5 235 yX5_holds wsX5_holds) := goodIn_app (goodIn_of _ (by decide +kernel)) ggX5_explore_X5_holds
set_option maxRecDepth 20000 in
theorem ggX5_explore_X5_explore : GoodIn wsX5_explore wsX5_explore := goodIn_r _ [0, 1, 2, 3, 4, 5, 6, 7, 8, 9, 10, 11, 12, 13, 14, 15, 16, 17, 18, 19, 20, 21, 22, 23, 24, 25, 26, 27, 28, 29, 30, 31, 32, 33, 34, 35, 36, 37, 38, 39, 40, 41, 42, 43, 44, 45, 46, 47, 48, 49, 50, 51, 52, 53, 54, 55, 56, 57, 58, 59, 60, 61, 62, 63, 64, 65, 66, 67, 68, 69, 70, 71, 72, 73, 74, 75, 76, 77, 78, 79, 80, 81, 82, 83, 84, 85, 86, 87, 88, 89, 90, 91, 92, 93, 94, 95, 96, 97, 98, 99, 100, 101, 102, 103, 104, 105, 106, 107, 108, 109, 110, 111, 112, 113, 114, 115, 116, 117, 118, 119, 120, 121, 122, 123, 124, 125, 126, 127] (by decide +kernel) (by decide +kernel)
set_option maxRecDepth 20000 in
theorem gX5_explore_X5_explore : GoodIn wsX5_explore (va_wsS RX5 222 yX5_explore wsX5_explore) := goodIn_app (goodIn_of _ (by decide +kernel)) ggX5_explore_X5_explore
set_option maxRecDepth 20000 in
theorem ggX5_explore_X4_dropLast : GoodIn wsX5_explore wsX4_dropLast := goodIn_r _ [103, 6, 8, 7, 9, 10, 11, 112, 113, 114] (by decide +kernel) (by decide +kernel)
set_option maxRecDepth 20000 in
theorem gX5_explore_X4_dropLast : GoodIn wsX5_explore (wsV RX5 239 RX4 yX4_dropLast wsX4_dropLast) := goodIn_app (goodIn_of _ (by decide +kernel)) ggX5_explore_X4_dropLast
theorem dX5_explore_0 : decode cX5_explore 0 = .ok (.iload_n 3, 1) := by decide +kernel
theorem dX5_explore_1 : decode cX5_explore 1 = .ok (.bipush 8, 2) := by decide +kernel
theorem dX5_explore_3 : decode cX5_explore 3 = .ok (.if_icmp .lt 4, 3) := by decide +kernel
theorem dX5_explore_6 : decode cX5_explore 6 = .ok (.return_, 1) := by decide +kernel
theorem dX5_explore_7 : decode cX5_explore 7 = .ok (.aload_n 1, 1) := by decide +kernel
theorem dX5_explore_8 : decode cX5_explore 8 = .ok (.getfield 226, 3) := by decide +kernel
theorem dX5_explore_11 : decode cX5_explore 11 = .ok (.iload_n 2, 1) := by decide +kernel
theorem dX5_explore_12 : decode cX5_explore 12 = .ok (.invokevirtual 229, 3) := by decide +kernel
theorem dX5_explore_15 : decode cX5_explore 15 = .ok (.aload_n 0, 1) := by decide +kernel
theorem dX5_explore_16 : decode cX5_explore 16 = .ok (.iload_n 2, 1) := by decide +kernel
theorem dX5_explore_17 : decode cX5_explore 17 = .ok (.aload_n 1, 1) := by decide +kernel
theorem dX5_explore_18 : decode cX5_explore 18 = .ok (.getfield 226, 3) := by decide +kernel
theorem dX5_explore_21 : decode cX5_explore 21 = .ok (.getfield 129, 3) := by decide +kernel
theorem dX5_explore_24 : decode cX5_explore 24 = .ok (.invokevirtual 144, 3) := by decide +kernel
theorem dX5_explore_27 : decode cX5_explore 27 = .ok (.istore 4, 2) := by decide +kernel
theorem dX5_explore_29 : decode cX5_explore 29 = .ok (.iload 4, 2) := by decide +kernel
theorem dX5_explore_31 : decode cX5_explore 31 = .ok (.ifCond .ne 8, 3) := by decide +kernel
theorem dX5_explore_34 : decode cX5_explore 34 = .ok (.aload_n 1, 1) := by decide +kernel
theorem dX5_explore_35 : decode cX5_explore 35 = .ok (.aload_n 0, 1) := by decide +kernel
theorem dX5_explore_36 : decode cX5_explore 36 = .ok (.invokevirtual 232, 3) := by decide +kernel
theorem dX5_explore_39 : decode cX5_explore 39 = .ok (.iconst 0, 1) := by decide +kernel
theorem dX5_explore_40 : decode cX5_explore 40 = .ok (.istore 5, 2) := by decide +kernel
theorem dX5_explore_42 : decode cX5_explore 42 = .ok (.iload 5, 2) := by decide +kernel
theorem dX5_explore_44 : decode cX5_explore 44 = .ok (.bipush 8, 2) := by decide +kernel
theorem dX5_explore_46 : decode cX5_explore 46 = .ok (.if_icmp .ge 29, 3) := by decide +kernel
theorem dX5_explore_49 : decode cX5_explore 49 = .ok (.iload 4, 2) := by decide +kernel
theorem dX5_explore_51 : decode cX5_explore 51 = .ok (.iload 5, 2) := by decide +kernel
theorem dX5_explore_53 : decode cX5_explore 53 = .ok (.invokestatic 235, 3) := by decide +kernel
theorem dX5_explore_56 : decode cX5_explore 56 = .ok (.ifCond .eq 13, 3) := by decide +kernel
theorem dX5_explore_59 : decode cX5_explore 59 = .ok (.aload_n 0, 1) := by decide +kernel
theorem dX5_explore_60 : decode cX5_explore 60 = .ok (.aload_n 1, 1) := by decide +kernel
theorem dX5_explore_61 : decode cX5_explore 61 = .ok (.iload 5, 2) := by decide +kernel
theorem dX5_explore_63 : decode cX5_explore 63 = .ok (.iload_n 3, 1) := by decide +kernel
theorem dX5_explore_64 : decode cX5_explore 64 = .ok (.iconst 1, 1) := by decide +kernel
theorem dX5_explore_65 : decode cX5_explore 65 = .ok (.iadd, 1) := by decide +kernel
theorem dX5_explore_66 : decode cX5_explore 66 = .ok (.invokestatic 222, 3) := by decide +kernel
theorem dX5_explore_69 : decode cX5_explore 69 = .ok (.iinc 5 1, 3) := by decide +kernel
theorem dX5_explore_72 : decode cX5_explore 72 = .ok (.goto (-30), 3) := by decide +kernel
theorem dX5_explore_75 : decode cX5_explore 75 = .ok (.aload_n 1, 1) := by decide +kernel
theorem dX5_explore_76 : decode cX5_explore 76 = .ok (.getfield 226, 3) := by decide +kernel
theorem dX5_explore_79 : decode cX5_explore 79 = .ok (.invokevirtual 239, 3) := by decide +kernel
theorem dX5_explore_82 : decode cX5_explore 82 = .ok (.return_, 1) := by decide +kernel
set_option maxRecDepth 20000 in
theorem ggX5_spreadFrom_X5_bit : GoodIn wsX5_spreadFrom wsX5_bit := goodIn_r _ [8] (by decide +kernel) (by decide +kernel)
set_option maxRecDepth 20000 in
theorem gX5_spreadFrom_X5_bit : GoodIn wsX5_spreadFrom (va_wsS RX5 141 yX5_bit wsX5_bit) := goodIn_app (goodIn_of _ (by decide +kernel)) ggX5_spreadFrom_X5_bit
set_option maxRecDepth 20000 in
theorem ggX5_spreadFrom_X3_nextOf : GoodIn wsX5_spreadFrom wsX3_nextOf := goodIn_r _ [13, 14, 15, 16, 12, 17, 18, 19, 20, 21, 22, 23, 24, 25, 26, 27, 28, 29, 30, 31, 32, 33, 34, 35, 36, 37, 38, 39, 40, 41, 42, 43, 7, 44, 5, 6, 8, 45, 46, 47, 48, 49, 50, 51, 52, 53, 54, 55, 67, 68, 69, 70, 71, 72, 73, 74, 75, 76, 77, 78, 79] (by decide +kernel) (by decide +kernel)
set_option maxRecDepth 20000 in
theorem gX5_spreadFrom_X3_nextOf : GoodIn wsX5_spreadFrom (wsV RX5 242 RX3 yX3_nextOf wsX3_nextOf) := goodIn_app (goodIn_of _ (by decide +kernel)) ggX5_spreadFrom_X3_nextOf
set_option maxRecDepth 20000 in
theorem ggX5_spreadFrom_X3_minutesFrom : GoodIn wsX5_spreadFrom wsX3_minutesFrom := goodIn_r _ [54, 55, 22, 23, 24, 12, 25, 26, 67, 68, 69, 70, 71, 72, 73, 74, 75, 76, 77, 78, 79] (by decide +kernel) (by decide +kernel)
set_option maxRecDepth 20000 in
theorem gX5_spreadFrom_X3_minutesFrom : GoodIn wsX5_spreadFrom (wsV RX5 107 RX3 yX3_minutesFrom wsX3_minutesFrom) := goodIn_app (goodIn_of _ (by decide +kernel)) ggX5_spreadFrom_X3_minutesFrom
set_option maxRecDepth 20000 in
theorem ggX5_spreadFrom_X5_spreadFrom : GoodIn wsX5_spreadFrom wsX5_spreadFrom := goodIn_r _ [0, 1, 2, 3, 4, 5, 6, 7, 8, 9, 10, 11, 12, 13, 14, 15, 16, 17, 18, 19, 20, 21, 22, 23, 24, 25, 26, 27, 28, 29, 30, 31, 32, 33, 34, 35, 36, 37, 38, 39, 40, 41, 42, 43, 44, 45, 46, 47, 48, 49, 50, 51, 52, 53, 54, 55, 56, 57, 58, 59, 60, 61, 62, 63, 64, 65, 66, 67, 68, 69, 70, 71, 72, 73, 74, 75, 76, 77, 78, 79] (by decide +kernel) (by decide +kernel)
set_option maxRecDepth 20000 in
theorem gX5_spreadFrom_X5_spreadFrom : GoodIn wsX5_spreadFrom (va_wsS RX5 199 yX5_spreadFrom wsX5_spreadFrom) := goodIn_app (goodIn_of _ (by decide +kernel)) ggX5_spreadFrom_X5_spreadFrom
set_option maxRecDepth 20000 in
theorem ggX5_spreadFrom_X3_said : GoodIn wsX5_spreadFrom wsX3_said := goodIn_r _ [62, 50, 63, 64, 2, 3, 4, 22, 23, 24, 12, 25, 26, 67, 68, 69, 70, 71, 72, 73, 74, 75, 76, 77, 78, 79] (by decide +kernel) (by decide +kernel)
set_option maxRecDepth 20000 in
theorem gX5_spreadFrom_X3_said : GoodIn wsX5_spreadFrom (wsV RX5 245 RX3 yX3_said wsX3_said) := goodIn_app (goodIn_of _ (by decide +kernel)) ggX5_spreadFrom_X3_said
theorem dX5_spreadFrom_0 : decode cX5_spreadFrom 0 = .ok (.aload_n 1, 1) := by decide +kernel
theorem dX5_spreadFrom_1 : decode cX5_spreadFrom 1 = .ok (.dup, 1) := by decide +kernel
theorem dX5_spreadFrom_2 : decode cX5_spreadFrom 2 = .ok (.getfield 195, 3) := by decide +kernel
theorem dX5_spreadFrom_5 : decode cX5_spreadFrom 5 = .ok (.iload_n 2, 1) := by decide +kernel
theorem dX5_spreadFrom_6 : decode cX5_spreadFrom 6 = .ok (.invokestatic 141, 3) := by decide +kernel
theorem dX5_spreadFrom_9 : decode cX5_spreadFrom 9 = .ok (.ior, 1) := by decide +kernel
theorem dX5_spreadFrom_10 : decode cX5_spreadFrom 10 = .ok (.putfield 195, 3) := by decide +kernel
theorem dX5_spreadFrom_13 : decode cX5_spreadFrom 13 = .ok (.iconst (-1), 1) := by decide +kernel
theorem dX5_spreadFrom_14 : decode cX5_spreadFrom 14 = .ok (.istore 4, 2) := by decide +kernel
theorem dX5_spreadFrom_16 : decode cX5_spreadFrom 16 = .ok (.iload_n 3, 1) := by decide +kernel
theorem dX5_spreadFrom_17 : decode cX5_spreadFrom 17 = .ok (.bipush 8, 2) := by decide +kernel
theorem dX5_spreadFrom_19 : decode cX5_spreadFrom 19 = .ok (.if_icmp .ge 7, 3) := by decide +kernel
theorem dX5_spreadFrom_22 : decode cX5_spreadFrom 22 = .ok (.iconst 1, 1) := by decide +kernel
theorem dX5_spreadFrom_23 : decode cX5_spreadFrom 23 = .ok (.goto 4, 3) := by decide +kernel
theorem dX5_spreadFrom_26 : decode cX5_spreadFrom 26 = .ok (.iconst 0, 1) := by decide +kernel
theorem dX5_spreadFrom_27 : decode cX5_spreadFrom 27 = .ok (.istore 5, 2) := by decide +kernel
theorem dX5_spreadFrom_29 : decode cX5_spreadFrom 29 = .ok (.iconst 0, 1) := by decide +kernel
theorem dX5_spreadFrom_30 : decode cX5_spreadFrom 30 = .ok (.istore 6, 2) := by decide +kernel
theorem dX5_spreadFrom_32 : decode cX5_spreadFrom 32 = .ok (.iload 6, 2) := by decide +kernel
theorem dX5_spreadFrom_34 : decode cX5_spreadFrom 34 = .ok (.iconst 2, 1) := by decide +kernel
theorem dX5_spreadFrom_35 : decode cX5_spreadFrom 35 = .ok (.if_icmp .ge 76, 3) := by decide +kernel
theorem dX5_spreadFrom_38 : decode cX5_spreadFrom 38 = .ok (.iload 5, 2) := by decide +kernel
theorem dX5_spreadFrom_40 : decode cX5_spreadFrom 40 = .ok (.ifCond .eq 71, 3) := by decide +kernel
theorem dX5_spreadFrom_43 : decode cX5_spreadFrom 43 = .ok (.aload_n 0, 1) := by decide +kernel
theorem dX5_spreadFrom_44 : decode cX5_spreadFrom 44 = .ok (.iload_n 2, 1) := by decide +kernel
theorem dX5_spreadFrom_45 : decode cX5_spreadFrom 45 = .ok (.aload_n 1, 1) := by decide +kernel
theorem dX5_spreadFrom_46 : decode cX5_spreadFrom 46 = .ok (.getfield 195, 3) := by decide +kernel
theorem dX5_spreadFrom_49 : decode cX5_spreadFrom 49 = .ok (.invokevirtual 242, 3) := by decide +kernel
theorem dX5_spreadFrom_52 : decode cX5_spreadFrom 52 = .ok (.istore 7, 2) := by decide +kernel
theorem dX5_spreadFrom_54 : decode cX5_spreadFrom 54 = .ok (.iload 7, 2) := by decide +kernel
theorem dX5_spreadFrom_56 : decode cX5_spreadFrom 56 = .ok (.iconst (-1), 1) := by decide +kernel
theorem dX5_spreadFrom_57 : decode cX5_spreadFrom 57 = .ok (.if_icmp .eq 7, 3) := by decide +kernel
theorem dX5_spreadFrom_60 : decode cX5_spreadFrom 60 = .ok (.iconst 1, 1) := by decide +kernel
theorem dX5_spreadFrom_61 : decode cX5_spreadFrom 61 = .ok (.goto 4, 3) := by decide +kernel
theorem dX5_spreadFrom_64 : decode cX5_spreadFrom 64 = .ok (.iconst 0, 1) := by decide +kernel
theorem dX5_spreadFrom_65 : decode cX5_spreadFrom 65 = .ok (.istore 5, 2) := by decide +kernel
theorem dX5_spreadFrom_67 : decode cX5_spreadFrom 67 = .ok (.iload 5, 2) := by decide +kernel
theorem dX5_spreadFrom_69 : decode cX5_spreadFrom 69 = .ok (.ifCond .eq 36, 3) := by decide +kernel
theorem dX5_spreadFrom_72 : decode cX5_spreadFrom 72 = .ok (.aload_n 1, 1) := by decide +kernel
theorem dX5_spreadFrom_73 : decode cX5_spreadFrom 73 = .ok (.dup, 1) := by decide +kernel
theorem dX5_spreadFrom_74 : decode cX5_spreadFrom 74 = .ok (.getfield 196, 3) := by decide +kernel
theorem dX5_spreadFrom_77 : decode cX5_spreadFrom 77 = .ok (.aload_n 0, 1) := by decide +kernel
theorem dX5_spreadFrom_78 : decode cX5_spreadFrom 78 = .ok (.iload_n 2, 1) := by decide +kernel
theorem dX5_spreadFrom_79 : decode cX5_spreadFrom 79 = .ok (.iload 7, 2) := by decide +kernel
theorem dX5_spreadFrom_81 : decode cX5_spreadFrom 81 = .ok (.invokevirtual 107, 3) := by decide +kernel
theorem dX5_spreadFrom_84 : decode cX5_spreadFrom 84 = .ok (.iadd, 1) := by decide +kernel
theorem dX5_spreadFrom_85 : decode cX5_spreadFrom 85 = .ok (.putfield 196, 3) := by decide +kernel
theorem dX5_spreadFrom_88 : decode cX5_spreadFrom 88 = .ok (.iload 4, 2) := by decide +kernel
theorem dX5_spreadFrom_90 : decode cX5_spreadFrom 90 = .ok (.aload_n 0, 1) := by decide +kernel
theorem dX5_spreadFrom_91 : decode cX5_spreadFrom 91 = .ok (.aload_n 1, 1) := by decide +kernel
theorem dX5_spreadFrom_92 : decode cX5_spreadFrom 92 = .ok (.iload 7, 2) := by decide +kernel
theorem dX5_spreadFrom_94 : decode cX5_spreadFrom 94 = .ok (.iload_n 3, 1) := by decide +kernel
theorem dX5_spreadFrom_95 : decode cX5_spreadFrom 95 = .ok (.iconst 1, 1) := by decide +kernel
