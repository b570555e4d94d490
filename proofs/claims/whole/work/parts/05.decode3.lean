theorem dX5_spreadFrom_96 : decode cX5_spreadFrom 96 = .ok (.iadd, 1) := by decide +kernel
theorem dX5_spreadFrom_97 : decode cX5_spreadFrom 97 = .ok (.invokestatic 199, 3) := by decide +kernel
theorem dX5_spreadFrom_100 : decode cX5_spreadFrom 100 = .ok (.invokestatic 190, 3) := by decide +kernel
theorem dX5_spreadFrom_103 : decode cX5_spreadFrom 103 = .ok (.istore 4, 2) := by decide +kernel
theorem dX5_spreadFrom_105 : decode cX5_spreadFrom 105 = .ok (.iinc 6 1, 3) := by decide +kernel
theorem dX5_spreadFrom_108 : decode cX5_spreadFrom 108 = .ok (.goto (-76), 3) := by decide +kernel
theorem dX5_spreadFrom_111 : decode cX5_spreadFrom 111 = .ok (.aload_n 0, 1) := by decide +kernel
theorem dX5_spreadFrom_112 : decode cX5_spreadFrom 112 = .ok (.iload_n 2, 1) := by decide +kernel
theorem dX5_spreadFrom_113 : decode cX5_spreadFrom 113 = .ok (.iload 4, 2) := by decide +kernel
theorem dX5_spreadFrom_115 : decode cX5_spreadFrom 115 = .ok (.invokevirtual 245, 3) := by decide +kernel
theorem dX5_spreadFrom_118 : decode cX5_spreadFrom 118 = .ok (.ireturn, 1) := by decide +kernel
set_option maxRecDepth 20000 in
theorem ggX5_rightTogether_X3_become : GoodIn wsX5_rightTogether wsX3_become := goodIn_r _ [8, 9, 10, 11, 12, 13, 14, 15, 16, 17, 18, 19, 20, 21, 22, 23, 24, 25, 114, 115, 116, 117, 118, 119, 120, 121, 122, 123, 124, 125, 126] (by decide +kernel) (by decide +kernel)
set_option maxRecDepth 20000 in
theorem gX5_rightTogether_X3_become : GoodIn wsX5_rightTogether (wsV RX5 77 RX3 yX3_become wsX3_become) := goodIn_app (goodIn_of _ (by decide +kernel)) ggX5_rightTogether_X3_become
set_option maxRecDepth 20000 in
theorem ggX5_rightTogether_X3_follow : GoodIn wsX5_rightTogether wsX3_follow := goodIn_r _ [29, 30, 31, 32, 33, 34, 35, 36, 37, 38, 39, 40, 41, 42, 43, 44, 45, 46, 47, 7, 48, 49, 50, 51, 52, 23, 18, 22, 19, 53, 54, 55, 56, 21, 57, 58, 59, 60, 61, 62, 63, 64, 65, 66, 67, 68, 69, 70, 71, 17, 72, 73, 74, 75, 76, 77, 78, 9, 15, 79, 80, 81, 82, 20, 127, 128, 129, 114, 115, 116, 117, 118, 119, 120, 121, 122, 123, 124, 125, 126] (by decide +kernel) (by decide +kernel)
set_option maxRecDepth 20000 in
theorem gX5_rightTogether_X3_follow : GoodIn wsX5_rightTogether (wsV RX5 118 RX3 yX3_follow wsX3_follow) := goodIn_app (goodIn_of _ (by decide +kernel)) ggX5_rightTogether_X3_follow
set_option maxRecDepth 20000 in
theorem ggX5_rightTogether_X3_rightOf : GoodIn wsX5_rightTogether wsX3_rightOf := goodIn_r _ [86, 87, 88, 89, 33, 90, 35, 41, 91, 92, 93, 7, 94, 15, 14, 95, 96, 97, 98, 53, 54, 55, 56, 21, 127, 128, 129, 114, 115, 116, 117, 118, 119, 120, 121, 122, 123, 124, 125, 126] (by decide +kernel) (by decide +kernel)
set_option maxRecDepth 20000 in
theorem gX5_rightTogether_X3_rightOf : GoodIn wsX5_rightTogether (wsV RX5 122 RX3 yX3_rightOf wsX3_rightOf) := goodIn_app (goodIn_of _ (by decide +kernel)) ggX5_rightTogether_X3_rightOf
set_option maxRecDepth 20000 in
theorem ggX5_rightTogether_X3_wasAsked : GoodIn wsX5_rightTogether wsX3_wasAsked := goodIn_r _ [102, 23, 53, 54, 55, 7, 56, 21, 72, 43, 73, 74, 42, 44, 114, 115, 116, 117, 118, 119, 120, 121, 122, 123, 124, 125, 126] (by decide +kernel) (by decide +kernel)
set_option maxRecDepth 20000 in
theorem gX5_rightTogether_X3_wasAsked : GoodIn wsX5_rightTogether (wsV RX5 104 RX3 yX3_wasAsked wsX3_wasAsked) := goodIn_app (goodIn_of _ (by decide +kernel)) ggX5_rightTogether_X3_wasAsked
theorem dX5_rightTogether_0 : decode cX5_rightTogether 0 = .ok (.aload_n 0, 1) := by decide +kernel
theorem dX5_rightTogether_1 : decode cX5_rightTogether 1 = .ok (.getfield 19, 3) := by decide +kernel
theorem dX5_rightTogether_4 : decode cX5_rightTogether 4 = .ok (.aload_n 0, 1) := by decide +kernel
theorem dX5_rightTogether_5 : decode cX5_rightTogether 5 = .ok (.getfield 10, 3) := by decide +kernel
theorem dX5_rightTogether_8 : decode cX5_rightTogether 8 = .ok (.invokevirtual 77, 3) := by decide +kernel
theorem dX5_rightTogether_11 : decode cX5_rightTogether 11 = .ok (.aload_n 0, 1) := by decide +kernel
theorem dX5_rightTogether_12 : decode cX5_rightTogether 12 = .ok (.getfield 19, 3) := by decide +kernel
theorem dX5_rightTogether_15 : decode cX5_rightTogether 15 = .ok (.iload_n 1, 1) := by decide +kernel
theorem dX5_rightTogether_16 : decode cX5_rightTogether 16 = .ok (.aload_n 0, 1) := by decide +kernel
theorem dX5_rightTogether_17 : decode cX5_rightTogether 17 = .ok (.getfield 25, 3) := by decide +kernel
theorem dX5_rightTogether_20 : decode cX5_rightTogether 20 = .ok (.invokevirtual 118, 3) := by decide +kernel
theorem dX5_rightTogether_23 : decode cX5_rightTogether 23 = .ok (.aload_n 0, 1) := by decide +kernel
theorem dX5_rightTogether_24 : decode cX5_rightTogether 24 = .ok (.getfield 19, 3) := by decide +kernel
theorem dX5_rightTogether_27 : decode cX5_rightTogether 27 = .ok (.aload_n 0, 1) := by decide +kernel
theorem dX5_rightTogether_28 : decode cX5_rightTogether 28 = .ok (.getfield 25, 3) := by decide +kernel
theorem dX5_rightTogether_31 : decode cX5_rightTogether 31 = .ok (.invokevirtual 122, 3) := by decide +kernel
theorem dX5_rightTogether_34 : decode cX5_rightTogether 34 = .ok (.istore_n 3, 1) := by decide +kernel
theorem dX5_rightTogether_35 : decode cX5_rightTogether 35 = .ok (.aload_n 0, 1) := by decide +kernel
theorem dX5_rightTogether_36 : decode cX5_rightTogether 36 = .ok (.getfield 19, 3) := by decide +kernel
theorem dX5_rightTogether_39 : decode cX5_rightTogether 39 = .ok (.dup, 1) := by decide +kernel
theorem dX5_rightTogether_40 : decode cX5_rightTogether 40 = .ok (.getfield 126, 3) := by decide +kernel
theorem dX5_rightTogether_43 : decode cX5_rightTogether 43 = .ok (.aload_n 0, 1) := by decide +kernel
theorem dX5_rightTogether_44 : decode cX5_rightTogether 44 = .ok (.getfield 25, 3) := by decide +kernel
theorem dX5_rightTogether_47 : decode cX5_rightTogether 47 = .ok (.getfield 129, 3) := by decide +kernel
theorem dX5_rightTogether_50 : decode cX5_rightTogether 50 = .ok (.ior, 1) := by decide +kernel
theorem dX5_rightTogether_51 : decode cX5_rightTogether 51 = .ok (.putfield 126, 3) := by decide +kernel
theorem dX5_rightTogether_54 : decode cX5_rightTogether 54 = .ok (.aload_n 0, 1) := by decide +kernel
theorem dX5_rightTogether_55 : decode cX5_rightTogether 55 = .ok (.getfield 19, 3) := by decide +kernel
theorem dX5_rightTogether_58 : decode cX5_rightTogether 58 = .ok (.iload_n 2, 1) := by decide +kernel
theorem dX5_rightTogether_59 : decode cX5_rightTogether 59 = .ok (.invokevirtual 104, 3) := by decide +kernel
theorem dX5_rightTogether_62 : decode cX5_rightTogether 62 = .ok (.ifCond .ne 29, 3) := by decide +kernel
theorem dX5_rightTogether_65 : decode cX5_rightTogether 65 = .ok (.aload_n 0, 1) := by decide +kernel
theorem dX5_rightTogether_66 : decode cX5_rightTogether 66 = .ok (.getfield 19, 3) := by decide +kernel
theorem dX5_rightTogether_69 : decode cX5_rightTogether 69 = .ok (.iload_n 2, 1) := by decide +kernel
theorem dX5_rightTogether_70 : decode cX5_rightTogether 70 = .ok (.aload_n 0, 1) := by decide +kernel
theorem dX5_rightTogether_71 : decode cX5_rightTogether 71 = .ok (.getfield 25, 3) := by decide +kernel
theorem dX5_rightTogether_74 : decode cX5_rightTogether 74 = .ok (.invokevirtual 118, 3) := by decide +kernel
theorem dX5_rightTogether_77 : decode cX5_rightTogether 77 = .ok (.iload_n 3, 1) := by decide +kernel
theorem dX5_rightTogether_78 : decode cX5_rightTogether 78 = .ok (.aload_n 0, 1) := by decide +kernel
theorem dX5_rightTogether_79 : decode cX5_rightTogether 79 = .ok (.getfield 19, 3) := by decide +kernel
theorem dX5_rightTogether_82 : decode cX5_rightTogether 82 = .ok (.aload_n 0, 1) := by decide +kernel
theorem dX5_rightTogether_83 : decode cX5_rightTogether 83 = .ok (.getfield 25, 3) := by decide +kernel
theorem dX5_rightTogether_86 : decode cX5_rightTogether 86 = .ok (.invokevirtual 122, 3) := by decide +kernel
theorem dX5_rightTogether_89 : decode cX5_rightTogether 89 = .ok (.iadd, 1) := by decide +kernel
theorem dX5_rightTogether_90 : decode cX5_rightTogether 90 = .ok (.istore_n 3, 1) := by decide +kernel
theorem dX5_rightTogether_91 : decode cX5_rightTogether 91 = .ok (.iload_n 3, 1) := by decide +kernel
theorem dX5_rightTogether_92 : decode cX5_rightTogether 92 = .ok (.ireturn, 1) := by decide +kernel
set_option maxRecDepth 20000 in
theorem ggX5_judged_X4_clear : GoodIn wsX5_judged wsX4_clear := goodIn_r _ [9, 10, 11, 70, 71, 72] (by decide +kernel) (by decide +kernel)
set_option maxRecDepth 20000 in
theorem gX5_judged_X4_clear : GoodIn wsX5_judged (wsV RX5 248 RX4 yX4_clear wsX4_clear) := goodIn_app (goodIn_of _ (by decide +kernel)) ggX5_judged_X4_clear
set_option maxRecDepth 20000 in
theorem ggX5_judged_X3_has : GoodIn wsX5_judged wsX3_has := goodIn_r _ [16, 17, 73, 74, 75, 76, 77, 78, 79, 80, 81, 82, 83, 84, 85] (by decide +kernel) (by decide +kernel)
set_option maxRecDepth 20000 in
theorem gX5_judged_X3_has : GoodIn wsX5_judged (wsV RX5 88 RX3 yX3_has wsX3_has) := goodIn_app (goodIn_of _ (by decide +kernel)) ggX5_judged_X3_has
set_option maxRecDepth 20000 in
theorem ggX5_judged_X3_wasAsked : GoodIn wsX5_judged wsX3_wasAsked := goodIn_r _ [21, 22, 23, 13, 14, 15, 16, 17, 24, 25, 26, 27, 28, 29, 73, 74, 75, 76, 77, 78, 79, 80, 81, 82, 83, 84, 85] (by decide +kernel) (by decide +kernel)
set_option maxRecDepth 20000 in
theorem gX5_judged_X3_wasAsked : GoodIn wsX5_judged (wsV RX5 104 RX3 yX3_wasAsked wsX3_wasAsked) := goodIn_app (goodIn_of _ (by decide +kernel)) ggX5_judged_X3_wasAsked
set_option maxRecDepth 20000 in
theorem ggX5_judged_X5_holds : GoodIn wsX5_judged wsX5_holds := goodIn_r _ [26, 27, 28, 25, 29] (by decide +kernel) (by decide +kernel)
set_option maxRecDepth 20000 in
theorem gX5_judged_X5_holds : GoodIn wsX5_judged (va_wsS RX5 235 yX5_holds wsX5_holds) := goodIn_app (goodIn_of _ (by decide +kernel)) ggX5_judged_X5_holds
set_option maxRecDepth 20000 in
theorem ggX5_judged_X4_add : GoodIn wsX5_judged wsX4_add := goodIn_r _ [34, 10, 35, 11, 28, 25, 29, 70, 71, 72] (by decide +kernel) (by decide +kernel)
set_option maxRecDepth 20000 in
theorem gX5_judged_X4_add : GoodIn wsX5_judged (wsV RX5 229 RX4 yX4_add wsX4_add) := goodIn_app (goodIn_of _ (by decide +kernel)) ggX5_judged_X4_add
set_option maxRecDepth 20000 in
theorem ggX5_judged_X3_openTo : GoodIn wsX5_judged wsX3_openTo := goodIn_r _ [39, 22, 40, 41, 42, 23, 13, 14, 15, 16, 17, 43, 44, 45, 46, 47, 48, 49, 50, 51, 52, 53, 54, 55, 56, 57, 58, 73, 74, 75, 76, 77, 78, 79, 80, 81, 82, 83, 84, 85] (by decide +kernel) (by decide +kernel)
set_option maxRecDepth 20000 in
theorem gX5_judged_X3_openTo : GoodIn wsX5_judged (wsV RX5 144 RX3 yX3_openTo wsX3_openTo) := goodIn_app (goodIn_of _ (by decide +kernel)) ggX5_judged_X3_openTo
theorem dX5_judged_0 : decode cX5_judged 0 = .ok (.iconst 0, 1) := by decide +kernel
theorem dX5_judged_1 : decode cX5_judged 1 = .ok (.istore_n 1, 1) := by decide +kernel
theorem dX5_judged_2 : decode cX5_judged 2 = .ok (.aload_n 0, 1) := by decide +kernel
theorem dX5_judged_3 : decode cX5_judged 3 = .ok (.getfield 25, 3) := by decide +kernel
theorem dX5_judged_6 : decode cX5_judged 6 = .ok (.invokevirtual 248, 3) := by decide +kernel
theorem dX5_judged_9 : decode cX5_judged 9 = .ok (.iconst 0, 1) := by decide +kernel
theorem dX5_judged_10 : decode cX5_judged 10 = .ok (.istore_n 2, 1) := by decide +kernel
theorem dX5_judged_11 : decode cX5_judged 11 = .ok (.iload_n 2, 1) := by decide +kernel
theorem dX5_judged_12 : decode cX5_judged 12 = .ok (.aload_n 0, 1) := by decide +kernel
theorem dX5_judged_13 : decode cX5_judged 13 = .ok (.getfield 57, 3) := by decide +kernel
theorem dX5_judged_16 : decode cX5_judged 16 = .ok (.if_icmp .ge 85, 3) := by decide +kernel
theorem dX5_judged_19 : decode cX5_judged 19 = .ok (.iload_n 2, 1) := by decide +kernel
theorem dX5_judged_20 : decode cX5_judged 20 = .ok (.aload_n 0, 1) := by decide +kernel
theorem dX5_judged_21 : decode cX5_judged 21 = .ok (.getfield 50, 3) := by decide +kernel
theorem dX5_judged_24 : decode cX5_judged 24 = .ok (.arraylength, 1) := by decide +kernel
theorem dX5_judged_25 : decode cX5_judged 25 = .ok (.if_icmp .ge 76, 3) := by decide +kernel
theorem dX5_judged_28 : decode cX5_judged 28 = .ok (.aload_n 0, 1) := by decide +kernel
theorem dX5_judged_29 : decode cX5_judged 29 = .ok (.getfield 50, 3) := by decide +kernel
theorem dX5_judged_32 : decode cX5_judged 32 = .ok (.iload_n 2, 1) := by decide +kernel
theorem dX5_judged_33 : decode cX5_judged 33 = .ok (.iaload, 1) := by decide +kernel
theorem dX5_judged_34 : decode cX5_judged 34 = .ok (.istore_n 3, 1) := by decide +kernel
theorem dX5_judged_35 : decode cX5_judged 35 = .ok (.aload_n 0, 1) := by decide +kernel
theorem dX5_judged_36 : decode cX5_judged 36 = .ok (.getfield 10, 3) := by decide +kernel
theorem dX5_judged_39 : decode cX5_judged 39 = .ok (.iload_n 3, 1) := by decide +kernel
theorem dX5_judged_40 : decode cX5_judged 40 = .ok (.invokevirtual 88, 3) := by decide +kernel
theorem dX5_judged_43 : decode cX5_judged 43 = .ok (.ifCond .eq 26, 3) := by decide +kernel
theorem dX5_judged_46 : decode cX5_judged 46 = .ok (.aload_n 0, 1) := by decide +kernel
theorem dX5_judged_47 : decode cX5_judged 47 = .ok (.getfield 10, 3) := by decide +kernel
theorem dX5_judged_50 : decode cX5_judged 50 = .ok (.iload_n 3, 1) := by decide +kernel
theorem dX5_judged_51 : decode cX5_judged 51 = .ok (.invokevirtual 104, 3) := by decide +kernel
theorem dX5_judged_54 : decode cX5_judged 54 = .ok (.ifCond .ne 15, 3) := by decide +kernel
theorem dX5_judged_57 : decode cX5_judged 57 = .ok (.iload_n 2, 1) := by decide +kernel
theorem dX5_judged_58 : decode cX5_judged 58 = .ok (.ifCond .le 13, 3) := by decide +kernel
theorem dX5_judged_61 : decode cX5_judged 61 = .ok (.iload_n 1, 1) := by decide +kernel
theorem dX5_judged_62 : decode cX5_judged 62 = .ok (.iload_n 3, 1) := by decide +kernel
theorem dX5_judged_63 : decode cX5_judged 63 = .ok (.invokestatic 235, 3) := by decide +kernel
theorem dX5_judged_66 : decode cX5_judged 66 = .ok (.ifCond .ne 5, 3) := by decide +kernel
theorem dX5_judged_69 : decode cX5_judged 69 = .ok (.iload_n 2, 1) := by decide +kernel
theorem dX5_judged_70 : decode cX5_judged 70 = .ok (.ireturn, 1) := by decide +kernel
theorem dX5_judged_71 : decode cX5_judged 71 = .ok (.aload_n 0, 1) := by decide +kernel
theorem dX5_judged_72 : decode cX5_judged 72 = .ok (.getfield 25, 3) := by decide +kernel
theorem dX5_judged_75 : decode cX5_judged 75 = .ok (.iload_n 3, 1) := by decide +kernel
theorem dX5_judged_76 : decode cX5_judged 76 = .ok (.invokevirtual 229, 3) := by decide +kernel
theorem dX5_judged_79 : decode cX5_judged 79 = .ok (.aload_n 0, 1) := by decide +kernel
theorem dX5_judged_80 : decode cX5_judged 80 = .ok (.getfield 10, 3) := by decide +kernel
theorem dX5_judged_83 : decode cX5_judged 83 = .ok (.iload_n 3, 1) := by decide +kernel
theorem dX5_judged_84 : decode cX5_judged 84 = .ok (.aload_n 0, 1) := by decide +kernel
theorem dX5_judged_85 : decode cX5_judged 85 = .ok (.getfield 25, 3) := by decide +kernel
theorem dX5_judged_88 : decode cX5_judged 88 = .ok (.getfield 129, 3) := by decide +kernel
theorem dX5_judged_91 : decode cX5_judged 91 = .ok (.invokevirtual 144, 3) := by decide +kernel
theorem dX5_judged_94 : decode cX5_judged 94 = .ok (.istore_n 1, 1) := by decide +kernel
theorem dX5_judged_95 : decode cX5_judged 95 = .ok (.iinc 2 1, 3) := by decide +kernel
theorem dX5_judged_98 : decode cX5_judged 98 = .ok (.goto (-87), 3) := by decide +kernel
theorem dX5_judged_101 : decode cX5_judged 101 = .ok (.iload_n 1, 1) := by decide +kernel
theorem dX5_judged_102 : decode cX5_judged 102 = .ok (.ifCond .eq 10, 3) := by decide +kernel
theorem dX5_judged_105 : decode cX5_judged 105 = .ok (.aload_n 0, 1) := by decide +kernel
theorem dX5_judged_106 : decode cX5_judged 106 = .ok (.getfield 57, 3) := by decide +kernel
theorem dX5_judged_109 : decode cX5_judged 109 = .ok (.goto 5, 3) := by decide +kernel
theorem dX5_judged_112 : decode cX5_judged 112 = .ok (.bipush (-9), 2) := by decide +kernel
theorem dX5_judged_114 : decode cX5_judged 114 = .ok (.ireturn, 1) := by decide +kernel
theorem dX6_init_0 : decode cX6_init 0 = .ok (.aload_n 0, 1) := by decide +kernel
theorem dX6_init_1 : decode cX6_init 1 = .ok (.invokespecial 1, 3) := by decide +kernel
theorem dX6_init_4 : decode cX6_init 4 = .ok (.aload_n 0, 1) := by decide +kernel
theorem dX6_init_5 : decode cX6_init 5 = .ok (.bipush 7, 2) := by decide +kernel
theorem dX6_init_7 : decode cX6_init 7 = .ok (.newarray .int, 2) := by decide +kernel
theorem dX6_init_9 : decode cX6_init 9 = .ok (.putfield 7, 3) := by decide +kernel
theorem dX6_init_12 : decode cX6_init 12 = .ok (.aload_n 0, 1) := by decide +kernel
theorem dX6_init_13 : decode cX6_init 13 = .ok (.bipush 8, 2) := by decide +kernel
theorem dX6_init_15 : decode cX6_init 15 = .ok (.newarray .int, 2) := by decide +kernel
theorem dX6_init_17 : decode cX6_init 17 = .ok (.putfield 13, 3) := by decide +kernel
theorem dX6_init_20 : decode cX6_init 20 = .ok (.aload_n 0, 1) := by decide +kernel
theorem dX6_init_21 : decode cX6_init 21 = .ok (.bipush 8, 2) := by decide +kernel
theorem dX6_init_23 : decode cX6_init 23 = .ok (.newarray .int, 2) := by decide +kernel
theorem dX6_init_25 : decode cX6_init 25 = .ok (.putfield 16, 3) := by decide +kernel
theorem dX6_init_28 : decode cX6_init 28 = .ok (.aload_n 0, 1) := by decide +kernel
theorem dX6_init_29 : decode cX6_init 29 = .ok (.bipush 8, 2) := by decide +kernel
theorem dX6_init_31 : decode cX6_init 31 = .ok (.newarray .int, 2) := by decide +kernel
theorem dX6_init_33 : decode cX6_init 33 = .ok (.putfield 19, 3) := by decide +kernel
theorem dX6_init_36 : decode cX6_init 36 = .ok (.aload_n 0, 1) := by decide +kernel
theorem dX6_init_37 : decode cX6_init 37 = .ok (.bipush 8, 2) := by decide +kernel
theorem dX6_init_39 : decode cX6_init 39 = .ok (.newarray .int, 2) := by decide +kernel
theorem dX6_init_41 : decode cX6_init 41 = .ok (.putfield 22, 3) := by decide +kernel
theorem dX6_init_44 : decode cX6_init 44 = .ok (.aload_n 0, 1) := by decide +kernel
theorem dX6_init_45 : decode cX6_init 45 = .ok (.bipush 64, 2) := by decide +kernel
theorem dX6_init_47 : decode cX6_init 47 = .ok (.newarray .int, 2) := by decide +kernel
theorem dX6_init_49 : decode cX6_init 49 = .ok (.putfield 25, 3) := by decide +kernel
theorem dX6_init_52 : decode cX6_init 52 = .ok (.aload_n 0, 1) := by decide +kernel
theorem dX6_init_53 : decode cX6_init 53 = .ok (.bipush 8, 2) := by decide +kernel
theorem dX6_init_55 : decode cX6_init 55 = .ok (.newarray .int, 2) := by decide +kernel
theorem dX6_init_57 : decode cX6_init 57 = .ok (.putfield 28, 3) := by decide +kernel
theorem dX6_init_60 : decode cX6_init 60 = .ok (.aload_n 0, 1) := by decide +kernel
theorem dX6_init_61 : decode cX6_init 61 = .ok (.bipush 8, 2) := by decide +kernel
theorem dX6_init_63 : decode cX6_init 63 = .ok (.newarray .int, 2) := by decide +kernel
theorem dX6_init_65 : decode cX6_init 65 = .ok (.putfield 31, 3) := by decide +kernel
theorem dX6_init_68 : decode cX6_init 68 = .ok (.aload_n 0, 1) := by decide +kernel
theorem dX6_init_69 : decode cX6_init 69 = .ok (.bipush 8, 2) := by decide +kernel
theorem dX6_init_71 : decode cX6_init 71 = .ok (.newarray .int, 2) := by decide +kernel
theorem dX6_init_73 : decode cX6_init 73 = .ok (.putfield 34, 3) := by decide +kernel
theorem dX6_init_76 : decode cX6_init 76 = .ok (.aload_n 0, 1) := by decide +kernel
theorem dX6_init_77 : decode cX6_init 77 = .ok (.bipush 8, 2) := by decide +kernel
theorem dX6_init_79 : decode cX6_init 79 = .ok (.newarray .int, 2) := by decide +kernel
theorem dX6_init_81 : decode cX6_init 81 = .ok (.putfield 37, 3) := by decide +kernel
theorem dX6_init_84 : decode cX6_init 84 = .ok (.aload_n 0, 1) := by decide +kernel
theorem dX6_init_85 : decode cX6_init 85 = .ok (.bipush 64, 2) := by decide +kernel
theorem dX6_init_87 : decode cX6_init 87 = .ok (.newarray .int, 2) := by decide +kernel
theorem dX6_init_89 : decode cX6_init 89 = .ok (.putfield 40, 3) := by decide +kernel
theorem dX6_init_92 : decode cX6_init 92 = .ok (.aload_n 0, 1) := by decide +kernel
theorem dX6_init_93 : decode cX6_init 93 = .ok (.bipush 64, 2) := by decide +kernel
theorem dX6_init_95 : decode cX6_init 95 = .ok (.newarray .int, 2) := by decide +kernel
theorem dX6_init_97 : decode cX6_init 97 = .ok (.putfield 43, 3) := by decide +kernel
theorem dX6_init_100 : decode cX6_init 100 = .ok (.aload_n 0, 1) := by decide +kernel
theorem dX6_init_101 : decode cX6_init 101 = .ok (.iconst 4, 1) := by decide +kernel
theorem dX6_init_102 : decode cX6_init 102 = .ok (.newarray .char, 2) := by decide +kernel
theorem dX6_init_104 : decode cX6_init 104 = .ok (.dup, 1) := by decide +kernel
theorem dX6_init_105 : decode cX6_init 105 = .ok (.iconst 0, 1) := by decide +kernel
theorem dX6_init_106 : decode cX6_init 106 = .ok (.bipush 112, 2) := by decide +kernel
theorem dX6_init_108 : decode cX6_init 108 = .ok (.castore, 1) := by decide +kernel
theorem dX6_init_109 : decode cX6_init 109 = .ok (.dup, 1) := by decide +kernel
theorem dX6_init_110 : decode cX6_init 110 = .ok (.iconst 1, 1) := by decide +kernel
theorem dX6_init_111 : decode cX6_init 111 = .ok (.bipush 97, 2) := by decide +kernel
theorem dX6_init_113 : decode cX6_init 113 = .ok (.castore, 1) := by decide +kernel
theorem dX6_init_114 : decode cX6_init 114 = .ok (.dup, 1) := by decide +kernel
theorem dX6_init_115 : decode cX6_init 115 = .ok (.iconst 2, 1) := by decide +kernel
theorem dX6_init_116 : decode cX6_init 116 = .ok (.bipush 98, 2) := by decide +kernel
theorem dX6_init_118 : decode cX6_init 118 = .ok (.castore, 1) := by decide +kernel
theorem dX6_init_119 : decode cX6_init 119 = .ok (.dup, 1) := by decide +kernel
theorem dX6_init_120 : decode cX6_init 120 = .ok (.iconst 3, 1) := by decide +kernel
theorem dX6_init_121 : decode cX6_init 121 = .ok (.bipush 108, 2) := by decide +kernel
theorem dX6_init_123 : decode cX6_init 123 = .ok (.castore, 1) := by decide +kernel
theorem dX6_init_124 : decode cX6_init 124 = .ok (.putfield 46, 3) := by decide +kernel
theorem dX6_init_127 : decode cX6_init 127 = .ok (.aload_n 0, 1) := by decide +kernel
theorem dX6_init_128 : decode cX6_init 128 = .ok (.iconst 5, 1) := by decide +kernel
theorem dX6_init_129 : decode cX6_init 129 = .ok (.newarray .char, 2) := by decide +kernel
theorem dX6_init_131 : decode cX6_init 131 = .ok (.dup, 1) := by decide +kernel
theorem dX6_init_132 : decode cX6_init 132 = .ok (.iconst 0, 1) := by decide +kernel
theorem dX6_init_133 : decode cX6_init 133 = .ok (.bipush 110, 2) := by decide +kernel
theorem dX6_init_135 : decode cX6_init 135 = .ok (.castore, 1) := by decide +kernel
theorem dX6_init_136 : decode cX6_init 136 = .ok (.dup, 1) := by decide +kernel
theorem dX6_init_137 : decode cX6_init 137 = .ok (.iconst 1, 1) := by decide +kernel
theorem dX6_init_138 : decode cX6_init 138 = .ok (.bipush 119, 2) := by decide +kernel
theorem dX6_init_140 : decode cX6_init 140 = .ok (.castore, 1) := by decide +kernel
theorem dX6_init_141 : decode cX6_init 141 = .ok (.dup, 1) := by decide +kernel
theorem dX6_init_142 : decode cX6_init 142 = .ok (.iconst 2, 1) := by decide +kernel
theorem dX6_init_143 : decode cX6_init 143 = .ok (.bipush 115, 2) := by decide +kernel
theorem dX6_init_145 : decode cX6_init 145 = .ok (.castore, 1) := by decide +kernel
theorem dX6_init_146 : decode cX6_init 146 = .ok (.dup, 1) := by decide +kernel
theorem dX6_init_147 : decode cX6_init 147 = .ok (.iconst 3, 1) := by decide +kernel
theorem dX6_init_148 : decode cX6_init 148 = .ok (.bipush 108, 2) := by decide +kernel
theorem dX6_init_150 : decode cX6_init 150 = .ok (.castore, 1) := by decide +kernel
theorem dX6_init_151 : decode cX6_init 151 = .ok (.dup, 1) := by decide +kernel
theorem dX6_init_152 : decode cX6_init 152 = .ok (.iconst 4, 1) := by decide +kernel
theorem dX6_init_153 : decode cX6_init 153 = .ok (.bipush 102, 2) := by decide +kernel
theorem dX6_init_155 : decode cX6_init 155 = .ok (.castore, 1) := by decide +kernel
theorem dX6_init_156 : decode cX6_init 156 = .ok (.putfield 50, 3) := by decide +kernel
theorem dX6_init_159 : decode cX6_init 159 = .ok (.aload_n 0, 1) := by decide +kernel
theorem dX6_init_160 : decode cX6_init 160 = .ok (.iconst 5, 1) := by decide +kernel
theorem dX6_init_161 : decode cX6_init 161 = .ok (.newarray .char, 2) := by decide +kernel
theorem dX6_init_163 : decode cX6_init 163 = .ok (.dup, 1) := by decide +kernel
theorem dX6_init_164 : decode cX6_init 164 = .ok (.iconst 0, 1) := by decide +kernel
theorem dX6_init_165 : decode cX6_init 165 = .ok (.bipush 98, 2) := by decide +kernel
theorem dX6_init_167 : decode cX6_init 167 = .ok (.castore, 1) := by decide +kernel
theorem dX6_init_168 : decode cX6_init 168 = .ok (.dup, 1) := by decide +kernel
theorem dX6_init_169 : decode cX6_init 169 = .ok (.iconst 1, 1) := by decide +kernel
theorem dX6_init_170 : decode cX6_init 170 = .ok (.bipush 111, 2) := by decide +kernel
theorem dX6_init_172 : decode cX6_init 172 = .ok (.castore, 1) := by decide +kernel
theorem dX6_init_173 : decode cX6_init 173 = .ok (.dup, 1) := by decide +kernel
theorem dX6_init_174 : decode cX6_init 174 = .ok (.iconst 2, 1) := by decide +kernel
theorem dX6_init_175 : decode cX6_init 175 = .ok (.bipush 109, 2) := by decide +kernel
theorem dX6_init_177 : decode cX6_init 177 = .ok (.castore, 1) := by decide +kernel
theorem dX6_init_178 : decode cX6_init 178 = .ok (.dup, 1) := by decide +kernel
theorem dX6_init_179 : decode cX6_init 179 = .ok (.iconst 3, 1) := by decide +kernel
theorem dX6_init_180 : decode cX6_init 180 = .ok (.bipush 120, 2) := by decide +kernel
theorem dX6_init_182 : decode cX6_init 182 = .ok (.castore, 1) := by decide +kernel
theorem dX6_init_183 : decode cX6_init 183 = .ok (.dup, 1) := by decide +kernel
theorem dX6_init_184 : decode cX6_init 184 = .ok (.iconst 4, 1) := by decide +kernel
theorem dX6_init_185 : decode cX6_init 185 = .ok (.bipush 100, 2) := by decide +kernel
theorem dX6_init_187 : decode cX6_init 187 = .ok (.castore, 1) := by decide +kernel
theorem dX6_init_188 : decode cX6_init 188 = .ok (.putfield 53, 3) := by decide +kernel
theorem dX6_init_191 : decode cX6_init 191 = .ok (.aload_n 0, 1) := by decide +kernel
theorem dX6_init_192 : decode cX6_init 192 = .ok (.iconst 4, 1) := by decide +kernel
theorem dX6_init_193 : decode cX6_init 193 = .ok (.newarray .int, 2) := by decide +kernel
theorem dX6_init_195 : decode cX6_init 195 = .ok (.putfield 56, 3) := by decide +kernel
theorem dX6_init_198 : decode cX6_init 198 = .ok (.aload_n 0, 1) := by decide +kernel
theorem dX6_init_199 : decode cX6_init 199 = .ok (.bipush 8, 2) := by decide +kernel
theorem dX6_init_201 : decode cX6_init 201 = .ok (.newarray .int, 2) := by decide +kernel
theorem dX6_init_203 : decode cX6_init 203 = .ok (.putfield 59, 3) := by decide +kernel
theorem dX6_init_206 : decode cX6_init 206 = .ok (.aload_n 0, 1) := by decide +kernel
theorem dX6_init_207 : decode cX6_init 207 = .ok (.bipush 8, 2) := by decide +kernel
theorem dX6_init_209 : decode cX6_init 209 = .ok (.newarray .int, 2) := by decide +kernel
theorem dX6_init_211 : decode cX6_init 211 = .ok (.putfield 62, 3) := by decide +kernel
theorem dX6_init_214 : decode cX6_init 214 = .ok (.aload_n 0, 1) := by decide +kernel
theorem dX6_init_215 : decode cX6_init 215 = .ok (.bipush 8, 2) := by decide +kernel
theorem dX6_init_217 : decode cX6_init 217 = .ok (.newarray .int, 2) := by decide +kernel
theorem dX6_init_219 : decode cX6_init 219 = .ok (.putfield 65, 3) := by decide +kernel
theorem dX6_init_222 : decode cX6_init 222 = .ok (.aload_n 0, 1) := by decide +kernel
theorem dX6_init_223 : decode cX6_init 223 = .ok (.bipush 8, 2) := by decide +kernel
theorem dX6_init_225 : decode cX6_init 225 = .ok (.newarray .int, 2) := by decide +kernel
theorem dX6_init_227 : decode cX6_init 227 = .ok (.putfield 68, 3) := by decide +kernel
theorem dX6_init_230 : decode cX6_init 230 = .ok (.aload_n 0, 1) := by decide +kernel
theorem dX6_init_231 : decode cX6_init 231 = .ok (.bipush 8, 2) := by decide +kernel
theorem dX6_init_233 : decode cX6_init 233 = .ok (.newarray .int, 2) := by decide +kernel
theorem dX6_init_235 : decode cX6_init 235 = .ok (.putfield 71, 3) := by decide +kernel
theorem dX6_init_238 : decode cX6_init 238 = .ok (.return_, 1) := by decide +kernel
theorem dX6_no_0 : decode cX6_no 0 = .ok (.aload_n 0, 1) := by decide +kernel
theorem dX6_no_1 : decode cX6_no 1 = .ok (.getfield 7, 3) := by decide +kernel
theorem dX6_no_4 : decode cX6_no 4 = .ok (.iload_n 1, 1) := by decide +kernel
theorem dX6_no_5 : decode cX6_no 5 = .ok (.ineg, 1) := by decide +kernel
theorem dX6_no_6 : decode cX6_no 6 = .ok (.dup2, 1) := by decide +kernel
theorem dX6_no_7 : decode cX6_no 7 = .ok (.iaload, 1) := by decide +kernel
theorem dX6_no_8 : decode cX6_no 8 = .ok (.iconst 1, 1) := by decide +kernel
theorem dX6_no_9 : decode cX6_no 9 = .ok (.iadd, 1) := by decide +kernel
theorem dX6_no_10 : decode cX6_no 10 = .ok (.iastore, 1) := by decide +kernel
theorem dX6_no_11 : decode cX6_no 11 = .ok (.iload_n 1, 1) := by decide +kernel
theorem dX6_no_12 : decode cX6_no 12 = .ok (.ireturn, 1) := by decide +kernel
theorem dX6_copy_0 : decode cX6_copy 0 = .ok (.iconst 0, 1) := by decide +kernel
theorem dX6_copy_1 : decode cX6_copy 1 = .ok (.istore_n 2, 1) := by decide +kernel
theorem dX6_copy_2 : decode cX6_copy 2 = .ok (.iload_n 2, 1) := by decide +kernel
theorem dX6_copy_3 : decode cX6_copy 3 = .ok (.aload_n 0, 1) := by decide +kernel
theorem dX6_copy_4 : decode cX6_copy 4 = .ok (.arraylength, 1) := by decide +kernel
theorem dX6_copy_5 : decode cX6_copy 5 = .ok (.if_icmp .ge 15, 3) := by decide +kernel
theorem dX6_copy_8 : decode cX6_copy 8 = .ok (.aload_n 1, 1) := by decide +kernel
theorem dX6_copy_9 : decode cX6_copy 9 = .ok (.iload_n 2, 1) := by decide +kernel
theorem dX6_copy_10 : decode cX6_copy 10 = .ok (.aload_n 0, 1) := by decide +kernel
theorem dX6_copy_11 : decode cX6_copy 11 = .ok (.iload_n 2, 1) := by decide +kernel
theorem dX6_copy_12 : decode cX6_copy 12 = .ok (.iaload, 1) := by decide +kernel
theorem dX6_copy_13 : decode cX6_copy 13 = .ok (.iastore, 1) := by decide +kernel
theorem dX6_copy_14 : decode cX6_copy 14 = .ok (.iinc 2 1, 3) := by decide +kernel
theorem dX6_copy_17 : decode cX6_copy 17 = .ok (.goto (-15), 3) := by decide +kernel
theorem dX6_copy_20 : decode cX6_copy 20 = .ok (.return_, 1) := by decide +kernel
set_option maxRecDepth 20000 in
theorem ggX6_image_X6_copy : GoodIn wsX6_image wsX6_copy := goodIn_r _ [25] (by decide +kernel) (by decide +kernel)
set_option maxRecDepth 20000 in
theorem gX6_image_X6_copy : GoodIn wsX6_image (va_wsS RX6 109 yX6_copy wsX6_copy) := goodIn_app (goodIn_of _ (by decide +kernel)) ggX6_image_X6_copy
theorem dX6_image_0 : decode cX6_image 0 = .ok (.aload_n 0, 1) := by decide +kernel
theorem dX6_image_1 : decode cX6_image 1 = .ok (.iconst 1, 1) := by decide +kernel
theorem dX6_image_2 : decode cX6_image 2 = .ok (.putfield 74, 3) := by decide +kernel
theorem dX6_image_5 : decode cX6_image 5 = .ok (.aload_n 0, 1) := by decide +kernel
theorem dX6_image_6 : decode cX6_image 6 = .ok (.aload_n 0, 1) := by decide +kernel
theorem dX6_image_7 : decode cX6_image 7 = .ok (.getfield 78, 3) := by decide +kernel
theorem dX6_image_10 : decode cX6_image 10 = .ok (.putfield 82, 3) := by decide +kernel
theorem dX6_image_13 : decode cX6_image 13 = .ok (.aload_n 0, 1) := by decide +kernel
theorem dX6_image_14 : decode cX6_image 14 = .ok (.aload_n 0, 1) := by decide +kernel
theorem dX6_image_15 : decode cX6_image 15 = .ok (.getfield 85, 3) := by decide +kernel
theorem dX6_image_18 : decode cX6_image 18 = .ok (.putfield 88, 3) := by decide +kernel
theorem dX6_image_21 : decode cX6_image 21 = .ok (.aload_n 0, 1) := by decide +kernel
theorem dX6_image_22 : decode cX6_image 22 = .ok (.aload_n 0, 1) := by decide +kernel
theorem dX6_image_23 : decode cX6_image 23 = .ok (.getfield 91, 3) := by decide +kernel
theorem dX6_image_26 : decode cX6_image 26 = .ok (.putfield 94, 3) := by decide +kernel
theorem dX6_image_29 : decode cX6_image 29 = .ok (.aload_n 0, 1) := by decide +kernel
theorem dX6_image_30 : decode cX6_image 30 = .ok (.aload_n 0, 1) := by decide +kernel
theorem dX6_image_31 : decode cX6_image 31 = .ok (.getfield 97, 3) := by decide +kernel
theorem dX6_image_34 : decode cX6_image 34 = .ok (.putfield 100, 3) := by decide +kernel
theorem dX6_image_37 : decode cX6_image 37 = .ok (.aload_n 0, 1) := by decide +kernel
theorem dX6_image_38 : decode cX6_image 38 = .ok (.aload_n 0, 1) := by decide +kernel
theorem dX6_image_39 : decode cX6_image 39 = .ok (.getfield 103, 3) := by decide +kernel
theorem dX6_image_42 : decode cX6_image 42 = .ok (.putfield 106, 3) := by decide +kernel
theorem dX6_image_45 : decode cX6_image 45 = .ok (.aload_n 0, 1) := by decide +kernel
theorem dX6_image_46 : decode cX6_image 46 = .ok (.getfield 13, 3) := by decide +kernel
theorem dX6_image_49 : decode cX6_image 49 = .ok (.aload_n 0, 1) := by decide +kernel
theorem dX6_image_50 : decode cX6_image 50 = .ok (.getfield 28, 3) := by decide +kernel
theorem dX6_image_53 : decode cX6_image 53 = .ok (.invokestatic 109, 3) := by decide +kernel
theorem dX6_image_56 : decode cX6_image 56 = .ok (.aload_n 0, 1) := by decide +kernel
theorem dX6_image_57 : decode cX6_image 57 = .ok (.getfield 16, 3) := by decide +kernel
theorem dX6_image_60 : decode cX6_image 60 = .ok (.aload_n 0, 1) := by decide +kernel
theorem dX6_image_61 : decode cX6_image 61 = .ok (.getfield 31, 3) := by decide +kernel
theorem dX6_image_64 : decode cX6_image 64 = .ok (.invokestatic 109, 3) := by decide +kernel
theorem dX6_image_67 : decode cX6_image 67 = .ok (.aload_n 0, 1) := by decide +kernel
theorem dX6_image_68 : decode cX6_image 68 = .ok (.getfield 19, 3) := by decide +kernel
theorem dX6_image_71 : decode cX6_image 71 = .ok (.aload_n 0, 1) := by decide +kernel
theorem dX6_image_72 : decode cX6_image 72 = .ok (.getfield 34, 3) := by decide +kernel
theorem dX6_image_75 : decode cX6_image 75 = .ok (.invokestatic 109, 3) := by decide +kernel
theorem dX6_image_78 : decode cX6_image 78 = .ok (.aload_n 0, 1) := by decide +kernel
theorem dX6_image_79 : decode cX6_image 79 = .ok (.getfield 22, 3) := by decide +kernel
theorem dX6_image_82 : decode cX6_image 82 = .ok (.aload_n 0, 1) := by decide +kernel
theorem dX6_image_83 : decode cX6_image 83 = .ok (.getfield 37, 3) := by decide +kernel
theorem dX6_image_86 : decode cX6_image 86 = .ok (.invokestatic 109, 3) := by decide +kernel
theorem dX6_image_89 : decode cX6_image 89 = .ok (.aload_n 0, 1) := by decide +kernel
theorem dX6_image_90 : decode cX6_image 90 = .ok (.getfield 25, 3) := by decide +kernel
theorem dX6_image_93 : decode cX6_image 93 = .ok (.aload_n 0, 1) := by decide +kernel
theorem dX6_image_94 : decode cX6_image 94 = .ok (.getfield 40, 3) := by decide +kernel
theorem dX6_image_97 : decode cX6_image 97 = .ok (.invokestatic 109, 3) := by decide +kernel
theorem dX6_image_100 : decode cX6_image 100 = .ok (.aload_n 0, 1) := by decide +kernel
theorem dX6_image_101 : decode cX6_image 101 = .ok (.getfield 78, 3) := by decide +kernel
theorem dX6_image_104 : decode cX6_image 104 = .ok (.ireturn, 1) := by decide +kernel
set_option maxRecDepth 20000 in
theorem ggX6_on_X6_no : GoodIn wsX6_on wsX6_no := goodIn_r _ [26, 27, 31, 32, 33, 34, 35, 36, 37, 38, 39, 40, 41, 42, 43, 44, 45, 46, 47, 48, 49, 50, 51, 52, 53, 54, 55, 56, 57, 58, 59, 60, 61, 62, 63, 64, 65, 66, 67, 68, 69, 70, 71, 72, 73, 74, 75, 76, 77, 78, 79, 80, 81, 82] (by decide +kernel) (by decide +kernel)
set_option maxRecDepth 20000 in
theorem gX6_on_X6_no : GoodIn wsX6_on (wsV RX6 113 RX6 yX6_no wsX6_no) := goodIn_app (goodIn_of _ (by decide +kernel)) ggX6_on_X6_no
set_option maxRecDepth 20000 in
theorem ggX6_on_X6_copy : GoodIn wsX6_on wsX6_copy := goodIn_r _ [30] (by decide +kernel) (by decide +kernel)
set_option maxRecDepth 20000 in
theorem gX6_on_X6_copy : GoodIn wsX6_on (va_wsS RX6 109 yX6_copy wsX6_copy) := goodIn_app (goodIn_of _ (by decide +kernel)) ggX6_on_X6_copy
theorem dX6_on_0 : decode cX6_on 0 = .ok (.aload_n 0, 1) := by decide +kernel
theorem dX6_on_1 : decode cX6_on 1 = .ok (.getfield 74, 3) := by decide +kernel
theorem dX6_on_4 : decode cX6_on 4 = .ok (.ifCond .ne 10, 3) := by decide +kernel
theorem dX6_on_7 : decode cX6_on 7 = .ok (.aload_n 0, 1) := by decide +kernel
theorem dX6_on_8 : decode cX6_on 8 = .ok (.bipush (-3), 2) := by decide +kernel
theorem dX6_on_10 : decode cX6_on 10 = .ok (.invokevirtual 113, 3) := by decide +kernel
theorem dX6_on_13 : decode cX6_on 13 = .ok (.ireturn, 1) := by decide +kernel
theorem dX6_on_14 : decode cX6_on 14 = .ok (.aload_n 0, 1) := by decide +kernel
theorem dX6_on_15 : decode cX6_on 15 = .ok (.aload_n 0, 1) := by decide +kernel
theorem dX6_on_16 : decode cX6_on 16 = .ok (.getfield 82, 3) := by decide +kernel
theorem dX6_on_19 : decode cX6_on 19 = .ok (.putfield 78, 3) := by decide +kernel
theorem dX6_on_22 : decode cX6_on 22 = .ok (.aload_n 0, 1) := by decide +kernel
theorem dX6_on_23 : decode cX6_on 23 = .ok (.aload_n 0, 1) := by decide +kernel
theorem dX6_on_24 : decode cX6_on 24 = .ok (.getfield 88, 3) := by decide +kernel
theorem dX6_on_27 : decode cX6_on 27 = .ok (.putfield 85, 3) := by decide +kernel
theorem dX6_on_30 : decode cX6_on 30 = .ok (.aload_n 0, 1) := by decide +kernel
theorem dX6_on_31 : decode cX6_on 31 = .ok (.aload_n 0, 1) := by decide +kernel
theorem dX6_on_32 : decode cX6_on 32 = .ok (.getfield 94, 3) := by decide +kernel
theorem dX6_on_35 : decode cX6_on 35 = .ok (.putfield 91, 3) := by decide +kernel
theorem dX6_on_38 : decode cX6_on 38 = .ok (.aload_n 0, 1) := by decide +kernel
theorem dX6_on_39 : decode cX6_on 39 = .ok (.aload_n 0, 1) := by decide +kernel
theorem dX6_on_40 : decode cX6_on 40 = .ok (.getfield 100, 3) := by decide +kernel
theorem dX6_on_43 : decode cX6_on 43 = .ok (.putfield 97, 3) := by decide +kernel
theorem dX6_on_46 : decode cX6_on 46 = .ok (.aload_n 0, 1) := by decide +kernel
theorem dX6_on_47 : decode cX6_on 47 = .ok (.aload_n 0, 1) := by decide +kernel
theorem dX6_on_48 : decode cX6_on 48 = .ok (.getfield 106, 3) := by decide +kernel
theorem dX6_on_51 : decode cX6_on 51 = .ok (.putfield 103, 3) := by decide +kernel
theorem dX6_on_54 : decode cX6_on 54 = .ok (.aload_n 0, 1) := by decide +kernel
theorem dX6_on_55 : decode cX6_on 55 = .ok (.getfield 28, 3) := by decide +kernel
theorem dX6_on_58 : decode cX6_on 58 = .ok (.aload_n 0, 1) := by decide +kernel
theorem dX6_on_59 : decode cX6_on 59 = .ok (.getfield 13, 3) := by decide +kernel
theorem dX6_on_62 : decode cX6_on 62 = .ok (.invokestatic 109, 3) := by decide +kernel
theorem dX6_on_65 : decode cX6_on 65 = .ok (.aload_n 0, 1) := by decide +kernel
theorem dX6_on_66 : decode cX6_on 66 = .ok (.getfield 31, 3) := by decide +kernel
theorem dX6_on_69 : decode cX6_on 69 = .ok (.aload_n 0, 1) := by decide +kernel
theorem dX6_on_70 : decode cX6_on 70 = .ok (.getfield 16, 3) := by decide +kernel
theorem dX6_on_73 : decode cX6_on 73 = .ok (.invokestatic 109, 3) := by decide +kernel
theorem dX6_on_76 : decode cX6_on 76 = .ok (.aload_n 0, 1) := by decide +kernel
theorem dX6_on_77 : decode cX6_on 77 = .ok (.getfield 34, 3) := by decide +kernel
theorem dX6_on_80 : decode cX6_on 80 = .ok (.aload_n 0, 1) := by decide +kernel
theorem dX6_on_81 : decode cX6_on 81 = .ok (.getfield 19, 3) := by decide +kernel
theorem dX6_on_84 : decode cX6_on 84 = .ok (.invokestatic 109, 3) := by decide +kernel
theorem dX6_on_87 : decode cX6_on 87 = .ok (.aload_n 0, 1) := by decide +kernel
theorem dX6_on_88 : decode cX6_on 88 = .ok (.getfield 37, 3) := by decide +kernel
theorem dX6_on_91 : decode cX6_on 91 = .ok (.aload_n 0, 1) := by decide +kernel
theorem dX6_on_92 : decode cX6_on 92 = .ok (.getfield 22, 3) := by decide +kernel
theorem dX6_on_95 : decode cX6_on 95 = .ok (.invokestatic 109, 3) := by decide +kernel
theorem dX6_on_98 : decode cX6_on 98 = .ok (.aload_n 0, 1) := by decide +kernel
theorem dX6_on_99 : decode cX6_on 99 = .ok (.getfield 40, 3) := by decide +kernel
theorem dX6_on_102 : decode cX6_on 102 = .ok (.aload_n 0, 1) := by decide +kernel
theorem dX6_on_103 : decode cX6_on 103 = .ok (.getfield 25, 3) := by decide +kernel
theorem dX6_on_106 : decode cX6_on 106 = .ok (.invokestatic 109, 3) := by decide +kernel
theorem dX6_on_109 : decode cX6_on 109 = .ok (.aload_n 0, 1) := by decide +kernel
theorem dX6_on_110 : decode cX6_on 110 = .ok (.getfield 78, 3) := by decide +kernel
theorem dX6_on_113 : decode cX6_on 113 = .ok (.ireturn, 1) := by decide +kernel
theorem dX6_isNobody_0 : decode cX6_isNobody 0 = .ok (.iload_n 1, 1) := by decide +kernel
theorem dX6_isNobody_1 : decode cX6_isNobody 1 = .ok (.ifCond .lt 11, 3) := by decide +kernel
theorem dX6_isNobody_4 : decode cX6_isNobody 4 = .ok (.iload_n 1, 1) := by decide +kernel
theorem dX6_isNobody_5 : decode cX6_isNobody 5 = .ok (.aload_n 0, 1) := by decide +kernel
theorem dX6_isNobody_6 : decode cX6_isNobody 6 = .ok (.getfield 78, 3) := by decide +kernel
theorem dX6_isNobody_9 : decode cX6_isNobody 9 = .ok (.if_icmp .lt 7, 3) := by decide +kernel
theorem dX6_isNobody_12 : decode cX6_isNobody 12 = .ok (.iconst 1, 1) := by decide +kernel
theorem dX6_isNobody_13 : decode cX6_isNobody 13 = .ok (.goto 4, 3) := by decide +kernel
theorem dX6_isNobody_16 : decode cX6_isNobody 16 = .ok (.iconst 0, 1) := by decide +kernel
theorem dX6_isNobody_17 : decode cX6_isNobody 17 = .ok (.ireturn, 1) := by decide +kernel
theorem dX6_isIn_0 : decode cX6_isIn 0 = .ok (.iload_n 0, 1) := by decide +kernel
theorem dX6_isIn_1 : decode cX6_isIn 1 = .ok (.iload_n 1, 1) := by decide +kernel
theorem dX6_isIn_2 : decode cX6_isIn 2 = .ok (.ishr, 1) := by decide +kernel
theorem dX6_isIn_3 : decode cX6_isIn 3 = .ok (.iconst 1, 1) := by decide +kernel
theorem dX6_isIn_4 : decode cX6_isIn 4 = .ok (.iand, 1) := by decide +kernel
theorem dX6_isIn_5 : decode cX6_isIn 5 = .ok (.iconst 1, 1) := by decide +kernel
theorem dX6_isIn_6 : decode cX6_isIn 6 = .ok (.if_icmp .ne 7, 3) := by decide +kernel
theorem dX6_isIn_9 : decode cX6_isIn 9 = .ok (.iconst 1, 1) := by decide +kernel
theorem dX6_isIn_10 : decode cX6_isIn 10 = .ok (.goto 4, 3) := by decide +kernel
theorem dX6_isIn_13 : decode cX6_isIn 13 = .ok (.iconst 0, 1) := by decide +kernel
theorem dX6_isIn_14 : decode cX6_isIn 14 = .ok (.ireturn, 1) := by decide +kernel
theorem dX6_size_0 : decode cX6_size 0 = .ok (.iconst 0, 1) := by decide +kernel
theorem dX6_size_1 : decode cX6_size 1 = .ok (.istore_n 1, 1) := by decide +kernel
theorem dX6_size_2 : decode cX6_size 2 = .ok (.iconst 0, 1) := by decide +kernel
theorem dX6_size_3 : decode cX6_size 3 = .ok (.istore_n 2, 1) := by decide +kernel
theorem dX6_size_4 : decode cX6_size 4 = .ok (.iload_n 2, 1) := by decide +kernel
theorem dX6_size_5 : decode cX6_size 5 = .ok (.bipush 8, 2) := by decide +kernel
theorem dX6_size_7 : decode cX6_size 7 = .ok (.if_icmp .ge 17, 3) := by decide +kernel
theorem dX6_size_10 : decode cX6_size 10 = .ok (.iload_n 1, 1) := by decide +kernel
theorem dX6_size_11 : decode cX6_size 11 = .ok (.iload_n 0, 1) := by decide +kernel
theorem dX6_size_12 : decode cX6_size 12 = .ok (.iload_n 2, 1) := by decide +kernel
theorem dX6_size_13 : decode cX6_size 13 = .ok (.ishr, 1) := by decide +kernel
theorem dX6_size_14 : decode cX6_size 14 = .ok (.iconst 1, 1) := by decide +kernel
theorem dX6_size_15 : decode cX6_size 15 = .ok (.iand, 1) := by decide +kernel
theorem dX6_size_16 : decode cX6_size 16 = .ok (.iadd, 1) := by decide +kernel
theorem dX6_size_17 : decode cX6_size 17 = .ok (.istore_n 1, 1) := by decide +kernel
theorem dX6_size_18 : decode cX6_size 18 = .ok (.iinc 2 1, 3) := by decide +kernel
theorem dX6_size_21 : decode cX6_size 21 = .ok (.goto (-17), 3) := by decide +kernel
theorem dX6_size_24 : decode cX6_size 24 = .ok (.iload_n 1, 1) := by decide +kernel
theorem dX6_size_25 : decode cX6_size 25 = .ok (.ireturn, 1) := by decide +kernel
set_option maxRecDepth 20000 in
theorem ggX6_letter_X6_no : GoodIn wsX6_letter wsX6_no := goodIn_r _ [7, 8, 9, 10, 11, 12, 13, 14, 15, 16, 17, 18, 19, 20, 21, 22, 23, 24, 25, 26, 27, 28, 29, 30, 31, 32, 33, 34, 35, 36, 37, 38, 39, 40, 41, 42, 43, 44, 45, 46, 47, 48, 49, 50, 51, 52, 53, 54, 55, 56, 57, 58, 59, 60] (by decide +kernel) (by decide +kernel)
set_option maxRecDepth 20000 in
theorem gX6_letter_X6_no : GoodIn wsX6_letter (wsV RX6 113 RX6 yX6_no wsX6_no) := goodIn_app (goodIn_of _ (by decide +kernel)) ggX6_letter_X6_no
theorem dX6_letter_0 : decode cX6_letter 0 = .ok (.iload_n 1, 1) := by decide +kernel
theorem dX6_letter_1 : decode cX6_letter 1 = .ok (.ifCond .ge 10, 3) := by decide +kernel
theorem dX6_letter_4 : decode cX6_letter 4 = .ok (.aload_n 0, 1) := by decide +kernel
theorem dX6_letter_5 : decode cX6_letter 5 = .ok (.bipush (-4), 2) := by decide +kernel
theorem dX6_letter_7 : decode cX6_letter 7 = .ok (.invokevirtual 113, 3) := by decide +kernel
theorem dX6_letter_10 : decode cX6_letter 10 = .ok (.ireturn, 1) := by decide +kernel
theorem dX6_letter_11 : decode cX6_letter 11 = .ok (.iload_n 1, 1) := by decide +kernel
theorem dX6_letter_12 : decode cX6_letter 12 = .ok (.sipush 255, 3) := by decide +kernel
theorem dX6_letter_15 : decode cX6_letter 15 = .ok (.if_icmp .gt 12, 3) := by decide +kernel
theorem dX6_letter_18 : decode cX6_letter 18 = .ok (.aload_n 0, 1) := by decide +kernel
theorem dX6_letter_19 : decode cX6_letter 19 = .ok (.getfield 117, 3) := by decide +kernel
theorem dX6_letter_22 : decode cX6_letter 22 = .ok (.bipush 64, 2) := by decide +kernel
theorem dX6_letter_24 : decode cX6_letter 24 = .ok (.if_icmp .ne 10, 3) := by decide +kernel
theorem dX6_letter_27 : decode cX6_letter 27 = .ok (.aload_n 0, 1) := by decide +kernel
theorem dX6_letter_28 : decode cX6_letter 28 = .ok (.bipush (-6), 2) := by decide +kernel
theorem dX6_letter_30 : decode cX6_letter 30 = .ok (.invokevirtual 113, 3) := by decide +kernel
theorem dX6_letter_33 : decode cX6_letter 33 = .ok (.ireturn, 1) := by decide +kernel
theorem dX6_letter_34 : decode cX6_letter 34 = .ok (.aload_n 0, 1) := by decide +kernel
theorem dX6_letter_35 : decode cX6_letter 35 = .ok (.getfield 43, 3) := by decide +kernel
theorem dX6_letter_38 : decode cX6_letter 38 = .ok (.aload_n 0, 1) := by decide +kernel
theorem dX6_letter_39 : decode cX6_letter 39 = .ok (.getfield 117, 3) := by decide +kernel
theorem dX6_letter_42 : decode cX6_letter 42 = .ok (.iload_n 1, 1) := by decide +kernel
theorem dX6_letter_43 : decode cX6_letter 43 = .ok (.iastore, 1) := by decide +kernel
theorem dX6_letter_44 : decode cX6_letter 44 = .ok (.aload_n 0, 1) := by decide +kernel
theorem dX6_letter_45 : decode cX6_letter 45 = .ok (.dup, 1) := by decide +kernel
theorem dX6_letter_46 : decode cX6_letter 46 = .ok (.getfield 117, 3) := by decide +kernel
theorem dX6_letter_49 : decode cX6_letter 49 = .ok (.iconst 1, 1) := by decide +kernel
theorem dX6_letter_50 : decode cX6_letter 50 = .ok (.iadd, 1) := by decide +kernel
theorem dX6_letter_51 : decode cX6_letter 51 = .ok (.putfield 117, 3) := by decide +kernel
theorem dX6_letter_54 : decode cX6_letter 54 = .ok (.aload_n 0, 1) := by decide +kernel
theorem dX6_letter_55 : decode cX6_letter 55 = .ok (.getfield 117, 3) := by decide +kernel
theorem dX6_letter_58 : decode cX6_letter 58 = .ok (.ireturn, 1) := by decide +kernel
theorem dX6_comes_0 : decode cX6_comes 0 = .ok (.aload_n 0, 1) := by decide +kernel
theorem dX6_comes_1 : decode cX6_comes 1 = .ok (.getfield 120, 3) := by decide +kernel
theorem dX6_comes_4 : decode cX6_comes 4 = .ok (.aload_n 0, 1) := by decide +kernel
theorem dX6_comes_5 : decode cX6_comes 5 = .ok (.getfield 117, 3) := by decide +kernel
theorem dX6_comes_8 : decode cX6_comes 8 = .ok (.if_icmp .ge 20, 3) := by decide +kernel
theorem dX6_comes_11 : decode cX6_comes 11 = .ok (.aload_n 0, 1) := by decide +kernel
theorem dX6_comes_12 : decode cX6_comes 12 = .ok (.getfield 43, 3) := by decide +kernel
theorem dX6_comes_15 : decode cX6_comes 15 = .ok (.aload_n 0, 1) := by decide +kernel
theorem dX6_comes_16 : decode cX6_comes 16 = .ok (.getfield 120, 3) := by decide +kernel
theorem dX6_comes_19 : decode cX6_comes 19 = .ok (.iaload, 1) := by decide +kernel
theorem dX6_comes_20 : decode cX6_comes 20 = .ok (.iload_n 1, 1) := by decide +kernel
theorem dX6_comes_21 : decode cX6_comes 21 = .ok (.if_icmp .ne 7, 3) := by decide +kernel
theorem dX6_comes_24 : decode cX6_comes 24 = .ok (.iconst 1, 1) := by decide +kernel
theorem dX6_comes_25 : decode cX6_comes 25 = .ok (.goto 4, 3) := by decide +kernel
theorem dX6_comes_28 : decode cX6_comes 28 = .ok (.iconst 0, 1) := by decide +kernel
theorem dX6_comes_29 : decode cX6_comes 29 = .ok (.ireturn, 1) := by decide +kernel
set_option maxRecDepth 20000 in
theorem ggX6_expect_X6_comes : GoodIn wsX6_expect wsX6_comes := goodIn_r _ [7, 2, 8, 9, 10, 11, 12, 13, 14, 15, 16, 17, 18, 19, 20, 21, 22, 23, 24, 25, 26, 27, 28, 29, 30, 31, 32, 33, 34, 35, 36, 37, 38, 39, 40, 41, 42, 43, 44, 45, 46, 47, 48, 49, 50, 51, 52, 53, 54, 55, 56, 57, 58, 59, 60, 61] (by decide +kernel) (by decide +kernel)
set_option maxRecDepth 20000 in
theorem gX6_expect_X6_comes : GoodIn wsX6_expect (wsV RX6 126 RX6 yX6_comes wsX6_comes) := goodIn_app (goodIn_of _ (by decide +kernel)) ggX6_expect_X6_comes
theorem dX6_expect_0 : decode cX6_expect 0 = .ok (.aload_n 0, 1) := by decide +kernel
theorem dX6_expect_1 : decode cX6_expect 1 = .ok (.getfield 123, 3) := by decide +kernel
theorem dX6_expect_4 : decode cX6_expect 4 = .ok (.ifCond .eq 29, 3) := by decide +kernel
theorem dX6_expect_7 : decode cX6_expect 7 = .ok (.aload_n 0, 1) := by decide +kernel
theorem dX6_expect_8 : decode cX6_expect 8 = .ok (.iload_n 1, 1) := by decide +kernel
theorem dX6_expect_9 : decode cX6_expect 9 = .ok (.invokevirtual 126, 3) := by decide +kernel
theorem dX6_expect_12 : decode cX6_expect 12 = .ok (.ifCond .eq 16, 3) := by decide +kernel
theorem dX6_expect_15 : decode cX6_expect 15 = .ok (.aload_n 0, 1) := by decide +kernel
theorem dX6_expect_16 : decode cX6_expect 16 = .ok (.dup, 1) := by decide +kernel
theorem dX6_expect_17 : decode cX6_expect 17 = .ok (.getfield 120, 3) := by decide +kernel
theorem dX6_expect_20 : decode cX6_expect 20 = .ok (.iconst 1, 1) := by decide +kernel
theorem dX6_expect_21 : decode cX6_expect 21 = .ok (.iadd, 1) := by decide +kernel
theorem dX6_expect_22 : decode cX6_expect 22 = .ok (.putfield 120, 3) := by decide +kernel
theorem dX6_expect_25 : decode cX6_expect 25 = .ok (.goto 8, 3) := by decide +kernel
theorem dX6_expect_28 : decode cX6_expect 28 = .ok (.aload_n 0, 1) := by decide +kernel
theorem dX6_expect_29 : decode cX6_expect 29 = .ok (.iconst 0, 1) := by decide +kernel
theorem dX6_expect_30 : decode cX6_expect 30 = .ok (.putfield 123, 3) := by decide +kernel
theorem dX6_expect_33 : decode cX6_expect 33 = .ok (.return_, 1) := by decide +kernel
set_option maxRecDepth 20000 in
theorem ggX6_oneOf_X6_comes : GoodIn wsX6_oneOf wsX6_comes := goodIn_r _ [7, 2, 8, 9, 10, 11, 12, 13, 14, 15, 16, 17, 18, 19, 20, 21, 22, 23, 24, 25, 26, 27, 28, 29, 30, 31, 32, 33, 34, 35, 36, 37, 38, 39, 40, 41, 42, 43, 44, 45, 46, 47, 48, 49, 50, 51, 52, 53, 54, 55, 56, 57, 58, 59, 60, 61] (by decide +kernel) (by decide +kernel)
set_option maxRecDepth 20000 in
theorem gX6_oneOf_X6_comes : GoodIn wsX6_oneOf (wsV RX6 126 RX6 yX6_comes wsX6_comes) := goodIn_app (goodIn_of _ (by decide +kernel)) ggX6_oneOf_X6_comes
theorem dX6_oneOf_0 : decode cX6_oneOf 0 = .ok (.iconst (-1), 1) := by decide +kernel
theorem dX6_oneOf_1 : decode cX6_oneOf 1 = .ok (.istore_n 2, 1) := by decide +kernel
theorem dX6_oneOf_2 : decode cX6_oneOf 2 = .ok (.iconst 0, 1) := by decide +kernel
theorem dX6_oneOf_3 : decode cX6_oneOf 3 = .ok (.istore_n 3, 1) := by decide +kernel
theorem dX6_oneOf_4 : decode cX6_oneOf 4 = .ok (.iload_n 3, 1) := by decide +kernel
theorem dX6_oneOf_5 : decode cX6_oneOf 5 = .ok (.aload_n 1, 1) := by decide +kernel
theorem dX6_oneOf_6 : decode cX6_oneOf 6 = .ok (.arraylength, 1) := by decide +kernel
theorem dX6_oneOf_7 : decode cX6_oneOf 7 = .ok (.if_icmp .ge 32, 3) := by decide +kernel
theorem dX6_oneOf_10 : decode cX6_oneOf 10 = .ok (.aload_n 0, 1) := by decide +kernel
theorem dX6_oneOf_11 : decode cX6_oneOf 11 = .ok (.getfield 123, 3) := by decide +kernel
theorem dX6_oneOf_14 : decode cX6_oneOf 14 = .ok (.ifCond .eq 25, 3) := by decide +kernel
theorem dX6_oneOf_17 : decode cX6_oneOf 17 = .ok (.iload_n 2, 1) := by decide +kernel
theorem dX6_oneOf_18 : decode cX6_oneOf 18 = .ok (.ifCond .ge 21, 3) := by decide +kernel
theorem dX6_oneOf_21 : decode cX6_oneOf 21 = .ok (.aload_n 0, 1) := by decide +kernel
theorem dX6_oneOf_22 : decode cX6_oneOf 22 = .ok (.aload_n 1, 1) := by decide +kernel
theorem dX6_oneOf_23 : decode cX6_oneOf 23 = .ok (.iload_n 3, 1) := by decide +kernel
theorem dX6_oneOf_24 : decode cX6_oneOf 24 = .ok (.caload, 1) := by decide +kernel
theorem dX6_oneOf_25 : decode cX6_oneOf 25 = .ok (.invokevirtual 126, 3) := by decide +kernel
theorem dX6_oneOf_28 : decode cX6_oneOf 28 = .ok (.ifCond .eq 5, 3) := by decide +kernel
theorem dX6_oneOf_31 : decode cX6_oneOf 31 = .ok (.iload_n 3, 1) := by decide +kernel
theorem dX6_oneOf_32 : decode cX6_oneOf 32 = .ok (.istore_n 2, 1) := by decide +kernel
theorem dX6_oneOf_33 : decode cX6_oneOf 33 = .ok (.iinc 3 1, 3) := by decide +kernel
theorem dX6_oneOf_36 : decode cX6_oneOf 36 = .ok (.goto (-32), 3) := by decide +kernel
theorem dX6_oneOf_39 : decode cX6_oneOf 39 = .ok (.iload_n 2, 1) := by decide +kernel
theorem dX6_oneOf_40 : decode cX6_oneOf 40 = .ok (.ifCond .ge 10, 3) := by decide +kernel
theorem dX6_oneOf_43 : decode cX6_oneOf 43 = .ok (.aload_n 0, 1) := by decide +kernel
theorem dX6_oneOf_44 : decode cX6_oneOf 44 = .ok (.iconst 0, 1) := by decide +kernel
theorem dX6_oneOf_45 : decode cX6_oneOf 45 = .ok (.putfield 123, 3) := by decide +kernel
theorem dX6_oneOf_48 : decode cX6_oneOf 48 = .ok (.iconst 0, 1) := by decide +kernel
theorem dX6_oneOf_49 : decode cX6_oneOf 49 = .ok (.ireturn, 1) := by decide +kernel
theorem dX6_oneOf_50 : decode cX6_oneOf 50 = .ok (.aload_n 0, 1) := by decide +kernel
theorem dX6_oneOf_51 : decode cX6_oneOf 51 = .ok (.dup, 1) := by decide +kernel
theorem dX6_oneOf_52 : decode cX6_oneOf 52 = .ok (.getfield 120, 3) := by decide +kernel
theorem dX6_oneOf_55 : decode cX6_oneOf 55 = .ok (.iconst 1, 1) := by decide +kernel
theorem dX6_oneOf_56 : decode cX6_oneOf 56 = .ok (.iadd, 1) := by decide +kernel
theorem dX6_oneOf_57 : decode cX6_oneOf 57 = .ok (.putfield 120, 3) := by decide +kernel
theorem dX6_oneOf_60 : decode cX6_oneOf 60 = .ok (.iload_n 2, 1) := by decide +kernel
theorem dX6_oneOf_61 : decode cX6_oneOf 61 = .ok (.ireturn, 1) := by decide +kernel
theorem dX6_number_0 : decode cX6_number 0 = .ok (.iconst 0, 1) := by decide +kernel
theorem dX6_number_1 : decode cX6_number 1 = .ok (.istore_n 2, 1) := by decide +kernel
theorem dX6_number_2 : decode cX6_number 2 = .ok (.iconst 0, 1) := by decide +kernel
theorem dX6_number_3 : decode cX6_number 3 = .ok (.istore_n 3, 1) := by decide +kernel
theorem dX6_number_4 : decode cX6_number 4 = .ok (.aload_n 0, 1) := by decide +kernel
theorem dX6_number_5 : decode cX6_number 5 = .ok (.getfield 123, 3) := by decide +kernel
theorem dX6_number_8 : decode cX6_number 8 = .ok (.ifCond .eq 81, 3) := by decide +kernel
theorem dX6_number_11 : decode cX6_number 11 = .ok (.iload_n 3, 1) := by decide +kernel
theorem dX6_number_12 : decode cX6_number 12 = .ok (.iload_n 1, 1) := by decide +kernel
theorem dX6_number_13 : decode cX6_number 13 = .ok (.if_icmp .ge 76, 3) := by decide +kernel
theorem dX6_number_16 : decode cX6_number 16 = .ok (.aload_n 0, 1) := by decide +kernel
theorem dX6_number_17 : decode cX6_number 17 = .ok (.getfield 120, 3) := by decide +kernel
theorem dX6_number_20 : decode cX6_number 20 = .ok (.aload_n 0, 1) := by decide +kernel
theorem dX6_number_21 : decode cX6_number 21 = .ok (.getfield 117, 3) := by decide +kernel
theorem dX6_number_24 : decode cX6_number 24 = .ok (.if_icmp .ge 65, 3) := by decide +kernel
theorem dX6_number_27 : decode cX6_number 27 = .ok (.aload_n 0, 1) := by decide +kernel
theorem dX6_number_28 : decode cX6_number 28 = .ok (.getfield 43, 3) := by decide +kernel
theorem dX6_number_31 : decode cX6_number 31 = .ok (.aload_n 0, 1) := by decide +kernel
theorem dX6_number_32 : decode cX6_number 32 = .ok (.getfield 120, 3) := by decide +kernel
theorem dX6_number_35 : decode cX6_number 35 = .ok (.iaload, 1) := by decide +kernel
theorem dX6_number_36 : decode cX6_number 36 = .ok (.bipush 48, 2) := by decide +kernel
theorem dX6_number_38 : decode cX6_number 38 = .ok (.if_icmp .lt 51, 3) := by decide +kernel
theorem dX6_number_41 : decode cX6_number 41 = .ok (.aload_n 0, 1) := by decide +kernel
theorem dX6_number_42 : decode cX6_number 42 = .ok (.getfield 43, 3) := by decide +kernel
theorem dX6_number_45 : decode cX6_number 45 = .ok (.aload_n 0, 1) := by decide +kernel
theorem dX6_number_46 : decode cX6_number 46 = .ok (.getfield 120, 3) := by decide +kernel
theorem dX6_number_49 : decode cX6_number 49 = .ok (.iaload, 1) := by decide +kernel
theorem dX6_number_50 : decode cX6_number 50 = .ok (.bipush 57, 2) := by decide +kernel
theorem dX6_number_52 : decode cX6_number 52 = .ok (.if_icmp .gt 37, 3) := by decide +kernel
theorem dX6_number_55 : decode cX6_number 55 = .ok (.bipush 10, 2) := by decide +kernel
theorem dX6_number_57 : decode cX6_number 57 = .ok (.iload_n 2, 1) := by decide +kernel
theorem dX6_number_58 : decode cX6_number 58 = .ok (.imul, 1) := by decide +kernel
theorem dX6_number_59 : decode cX6_number 59 = .ok (.aload_n 0, 1) := by decide +kernel
theorem dX6_number_60 : decode cX6_number 60 = .ok (.getfield 43, 3) := by decide +kernel
theorem dX6_number_63 : decode cX6_number 63 = .ok (.aload_n 0, 1) := by decide +kernel
theorem dX6_number_64 : decode cX6_number 64 = .ok (.getfield 120, 3) := by decide +kernel
theorem dX6_number_67 : decode cX6_number 67 = .ok (.iaload, 1) := by decide +kernel
theorem dX6_number_68 : decode cX6_number 68 = .ok (.iadd, 1) := by decide +kernel
theorem dX6_number_69 : decode cX6_number 69 = .ok (.bipush 48, 2) := by decide +kernel
theorem dX6_number_71 : decode cX6_number 71 = .ok (.isub, 1) := by decide +kernel
theorem dX6_number_72 : decode cX6_number 72 = .ok (.istore_n 2, 1) := by decide +kernel
theorem dX6_number_73 : decode cX6_number 73 = .ok (.aload_n 0, 1) := by decide +kernel
theorem dX6_number_74 : decode cX6_number 74 = .ok (.dup, 1) := by decide +kernel
theorem dX6_number_75 : decode cX6_number 75 = .ok (.getfield 120, 3) := by decide +kernel
theorem dX6_number_78 : decode cX6_number 78 = .ok (.iconst 1, 1) := by decide +kernel
theorem dX6_number_79 : decode cX6_number 79 = .ok (.iadd, 1) := by decide +kernel
theorem dX6_number_80 : decode cX6_number 80 = .ok (.putfield 120, 3) := by decide +kernel
theorem dX6_number_83 : decode cX6_number 83 = .ok (.iinc 3 1, 3) := by decide +kernel
theorem dX6_number_86 : decode cX6_number 86 = .ok (.goto (-82), 3) := by decide +kernel
theorem dX6_number_89 : decode cX6_number 89 = .ok (.iload_n 3, 1) := by decide +kernel
theorem dX6_number_90 : decode cX6_number 90 = .ok (.ifCond .ne 8, 3) := by decide +kernel
theorem dX6_number_93 : decode cX6_number 93 = .ok (.aload_n 0, 1) := by decide +kernel
theorem dX6_number_94 : decode cX6_number 94 = .ok (.iconst 0, 1) := by decide +kernel
theorem dX6_number_95 : decode cX6_number 95 = .ok (.putfield 123, 3) := by decide +kernel
theorem dX6_number_98 : decode cX6_number 98 = .ok (.iload_n 2, 1) := by decide +kernel
theorem dX6_number_99 : decode cX6_number 99 = .ok (.ireturn, 1) := by decide +kernel
set_option maxRecDepth 20000 in
theorem ggX6_statement_X6_oneOf : GoodIn wsX6_statement wsX6_oneOf := goodIn_r _ [10, 11, 12, 13, 14, 15, 9, 16, 17, 18, 27, 28, 29, 30, 31, 32, 33, 34, 35, 36, 37, 38, 39, 40, 41, 42, 43, 44, 45, 46, 47, 48, 49, 50, 51, 52, 53, 54, 55, 56, 57, 58, 59, 60, 61, 62, 63, 64, 65, 66, 67, 68, 69, 70, 71, 72, 73, 74, 75, 76, 77, 78] (by decide +kernel) (by decide +kernel)
set_option maxRecDepth 20000 in
theorem gX6_statement_X6_oneOf : GoodIn wsX6_statement (wsV RX6 130 RX6 yX6_oneOf wsX6_oneOf) := goodIn_app (goodIn_of _ (by decide +kernel)) ggX6_statement_X6_oneOf
set_option maxRecDepth 20000 in
theorem ggX6_statement_X6_number : GoodIn wsX6_statement wsX6_number := goodIn_r _ [22, 11, 12, 17, 18, 27, 28, 29, 30, 31, 32, 33, 34, 35, 36, 37, 38, 39, 40, 41, 42, 43, 44, 45, 46, 47, 48, 49, 50, 51, 52, 53, 54, 55, 56, 57, 58, 59, 60, 61, 62, 63, 64, 65, 66, 67, 68, 69, 70, 71, 72, 73, 74, 75, 76, 77, 78] (by decide +kernel) (by decide +kernel)
set_option maxRecDepth 20000 in
theorem gX6_statement_X6_number : GoodIn wsX6_statement (wsV RX6 137 RX6 yX6_number wsX6_number) := goodIn_app (goodIn_of _ (by decide +kernel)) ggX6_statement_X6_number
set_option maxRecDepth 20000 in
theorem ggX6_statement_X6_expect : GoodIn wsX6_statement wsX6_expect := goodIn_r _ [26, 11, 12, 13, 14, 15, 9, 16, 17, 18, 27, 28, 29, 30, 31, 32, 33, 34, 35, 36, 37, 38, 39, 40, 41, 42, 43, 44, 45, 46, 47, 48, 49, 50, 51, 52, 53, 54, 55, 56, 57, 58, 59, 60, 61, 62, 63, 64, 65, 66, 67, 68, 69, 70, 71, 72, 73, 74, 75, 76, 77, 78] (by decide +kernel) (by decide +kernel)
set_option maxRecDepth 20000 in
theorem gX6_statement_X6_expect : GoodIn wsX6_statement (wsV RX6 140 RX6 yX6_expect wsX6_expect) := goodIn_app (goodIn_of _ (by decide +kernel)) ggX6_statement_X6_expect
theorem dX6_statement_0 : decode cX6_statement 0 = .ok (.aload_n 0, 1) := by decide +kernel
theorem dX6_statement_1 : decode cX6_statement 1 = .ok (.aload_n 0, 1) := by decide +kernel
theorem dX6_statement_2 : decode cX6_statement 2 = .ok (.aload_n 0, 1) := by decide +kernel
theorem dX6_statement_3 : decode cX6_statement 3 = .ok (.getfield 46, 3) := by decide +kernel
theorem dX6_statement_6 : decode cX6_statement 6 = .ok (.invokevirtual 130, 3) := by decide +kernel
theorem dX6_statement_9 : decode cX6_statement 9 = .ok (.putfield 134, 3) := by decide +kernel
theorem dX6_statement_12 : decode cX6_statement 12 = .ok (.aload_n 0, 1) := by decide +kernel
theorem dX6_statement_13 : decode cX6_statement 13 = .ok (.getfield 134, 3) := by decide +kernel
theorem dX6_statement_16 : decode cX6_statement 16 = .ok (.ifCond .ne 62, 3) := by decide +kernel
theorem dX6_statement_19 : decode cX6_statement 19 = .ok (.aload_n 0, 1) := by decide +kernel
theorem dX6_statement_20 : decode cX6_statement 20 = .ok (.getfield 56, 3) := by decide +kernel
theorem dX6_statement_23 : decode cX6_statement 23 = .ok (.iconst 0, 1) := by decide +kernel
theorem dX6_statement_24 : decode cX6_statement 24 = .ok (.aload_n 0, 1) := by decide +kernel
theorem dX6_statement_25 : decode cX6_statement 25 = .ok (.aload_n 0, 1) := by decide +kernel
theorem dX6_statement_26 : decode cX6_statement 26 = .ok (.getfield 50, 3) := by decide +kernel
theorem dX6_statement_29 : decode cX6_statement 29 = .ok (.invokevirtual 130, 3) := by decide +kernel
theorem dX6_statement_32 : decode cX6_statement 32 = .ok (.iastore, 1) := by decide +kernel
theorem dX6_statement_33 : decode cX6_statement 33 = .ok (.aload_n 0, 1) := by decide +kernel
theorem dX6_statement_34 : decode cX6_statement 34 = .ok (.getfield 56, 3) := by decide +kernel
theorem dX6_statement_37 : decode cX6_statement 37 = .ok (.iconst 1, 1) := by decide +kernel
theorem dX6_statement_38 : decode cX6_statement 38 = .ok (.aload_n 0, 1) := by decide +kernel
theorem dX6_statement_39 : decode cX6_statement 39 = .ok (.aload_n 0, 1) := by decide +kernel
theorem dX6_statement_40 : decode cX6_statement 40 = .ok (.getfield 53, 3) := by decide +kernel
theorem dX6_statement_43 : decode cX6_statement 43 = .ok (.invokevirtual 130, 3) := by decide +kernel
theorem dX6_statement_46 : decode cX6_statement 46 = .ok (.iastore, 1) := by decide +kernel
theorem dX6_statement_47 : decode cX6_statement 47 = .ok (.aload_n 0, 1) := by decide +kernel
theorem dX6_statement_48 : decode cX6_statement 48 = .ok (.getfield 56, 3) := by decide +kernel
theorem dX6_statement_51 : decode cX6_statement 51 = .ok (.iconst 2, 1) := by decide +kernel
theorem dX6_statement_52 : decode cX6_statement 52 = .ok (.aload_n 0, 1) := by decide +kernel
theorem dX6_statement_53 : decode cX6_statement 53 = .ok (.iconst 3, 1) := by decide +kernel
theorem dX6_statement_54 : decode cX6_statement 54 = .ok (.invokevirtual 137, 3) := by decide +kernel
theorem dX6_statement_57 : decode cX6_statement 57 = .ok (.iastore, 1) := by decide +kernel
theorem dX6_statement_58 : decode cX6_statement 58 = .ok (.aload_n 0, 1) := by decide +kernel
theorem dX6_statement_59 : decode cX6_statement 59 = .ok (.bipush 44, 2) := by decide +kernel
theorem dX6_statement_61 : decode cX6_statement 61 = .ok (.invokevirtual 140, 3) := by decide +kernel
theorem dX6_statement_64 : decode cX6_statement 64 = .ok (.aload_n 0, 1) := by decide +kernel
theorem dX6_statement_65 : decode cX6_statement 65 = .ok (.getfield 56, 3) := by decide +kernel
theorem dX6_statement_68 : decode cX6_statement 68 = .ok (.iconst 3, 1) := by decide +kernel
theorem dX6_statement_69 : decode cX6_statement 69 = .ok (.aload_n 0, 1) := by decide +kernel
theorem dX6_statement_70 : decode cX6_statement 70 = .ok (.iconst 1, 1) := by decide +kernel
theorem dX6_statement_71 : decode cX6_statement 71 = .ok (.invokevirtual 137, 3) := by decide +kernel
theorem dX6_statement_74 : decode cX6_statement 74 = .ok (.iastore, 1) := by decide +kernel
theorem dX6_statement_75 : decode cX6_statement 75 = .ok (.goto 64, 3) := by decide +kernel
theorem dX6_statement_78 : decode cX6_statement 78 = .ok (.aload_n 0, 1) := by decide +kernel
theorem dX6_statement_79 : decode cX6_statement 79 = .ok (.getfield 134, 3) := by decide +kernel
theorem dX6_statement_82 : decode cX6_statement 82 = .ok (.iconst 3, 1) := by decide +kernel
theorem dX6_statement_83 : decode cX6_statement 83 = .ok (.if_icmp .ne 17, 3) := by decide +kernel
theorem dX6_statement_86 : decode cX6_statement 86 = .ok (.aload_n 0, 1) := by decide +kernel
theorem dX6_statement_87 : decode cX6_statement 87 = .ok (.getfield 56, 3) := by decide +kernel
theorem dX6_statement_90 : decode cX6_statement 90 = .ok (.iconst 0, 1) := by decide +kernel
theorem dX6_statement_91 : decode cX6_statement 91 = .ok (.aload_n 0, 1) := by decide +kernel
theorem dX6_statement_92 : decode cX6_statement 92 = .ok (.iconst 1, 1) := by decide +kernel
theorem dX6_statement_93 : decode cX6_statement 93 = .ok (.invokevirtual 137, 3) := by decide +kernel
theorem dX6_statement_96 : decode cX6_statement 96 = .ok (.iastore, 1) := by decide +kernel
theorem dX6_statement_97 : decode cX6_statement 97 = .ok (.goto 42, 3) := by decide +kernel
theorem dX6_statement_100 : decode cX6_statement 100 = .ok (.aload_n 0, 1) := by decide +kernel
theorem dX6_statement_101 : decode cX6_statement 101 = .ok (.getfield 56, 3) := by decide +kernel
theorem dX6_statement_104 : decode cX6_statement 104 = .ok (.iconst 0, 1) := by decide +kernel
theorem dX6_statement_105 : decode cX6_statement 105 = .ok (.aload_n 0, 1) := by decide +kernel
theorem dX6_statement_106 : decode cX6_statement 106 = .ok (.iconst 1, 1) := by decide +kernel
theorem dX6_statement_107 : decode cX6_statement 107 = .ok (.invokevirtual 137, 3) := by decide +kernel
theorem dX6_statement_110 : decode cX6_statement 110 = .ok (.iastore, 1) := by decide +kernel
theorem dX6_statement_111 : decode cX6_statement 111 = .ok (.aload_n 0, 1) := by decide +kernel
theorem dX6_statement_112 : decode cX6_statement 112 = .ok (.getfield 56, 3) := by decide +kernel
theorem dX6_statement_115 : decode cX6_statement 115 = .ok (.iconst 1, 1) := by decide +kernel
theorem dX6_statement_116 : decode cX6_statement 116 = .ok (.aload_n 0, 1) := by decide +kernel
theorem dX6_statement_117 : decode cX6_statement 117 = .ok (.iconst 1, 1) := by decide +kernel
theorem dX6_statement_118 : decode cX6_statement 118 = .ok (.invokevirtual 137, 3) := by decide +kernel
theorem dX6_statement_121 : decode cX6_statement 121 = .ok (.iastore, 1) := by decide +kernel
theorem dX6_statement_122 : decode cX6_statement 122 = .ok (.aload_n 0, 1) := by decide +kernel
theorem dX6_statement_123 : decode cX6_statement 123 = .ok (.bipush 44, 2) := by decide +kernel
theorem dX6_statement_125 : decode cX6_statement 125 = .ok (.invokevirtual 140, 3) := by decide +kernel
theorem dX6_statement_128 : decode cX6_statement 128 = .ok (.aload_n 0, 1) := by decide +kernel
theorem dX6_statement_129 : decode cX6_statement 129 = .ok (.getfield 56, 3) := by decide +kernel
theorem dX6_statement_132 : decode cX6_statement 132 = .ok (.iconst 2, 1) := by decide +kernel
theorem dX6_statement_133 : decode cX6_statement 133 = .ok (.aload_n 0, 1) := by decide +kernel
theorem dX6_statement_134 : decode cX6_statement 134 = .ok (.iconst 2, 1) := by decide +kernel
theorem dX6_statement_135 : decode cX6_statement 135 = .ok (.invokevirtual 137, 3) := by decide +kernel
theorem dX6_statement_138 : decode cX6_statement 138 = .ok (.iastore, 1) := by decide +kernel
theorem dX6_statement_139 : decode cX6_statement 139 = .ok (.aload_n 0, 1) := by decide +kernel
theorem dX6_statement_140 : decode cX6_statement 140 = .ok (.bipush 59, 2) := by decide +kernel
theorem dX6_statement_142 : decode cX6_statement 142 = .ok (.invokevirtual 140, 3) := by decide +kernel
theorem dX6_statement_145 : decode cX6_statement 145 = .ok (.return_, 1) := by decide +kernel
theorem dX6_isAsItMustBe_0 : decode cX6_isAsItMustBe 0 = .ok (.aload_n 0, 1) := by decide +kernel
theorem dX6_isAsItMustBe_1 : decode cX6_isAsItMustBe 1 = .ok (.getfield 134, 3) := by decide +kernel
theorem dX6_isAsItMustBe_4 : decode cX6_isAsItMustBe 4 = .ok (.ifCond .ne 26, 3) := by decide +kernel
theorem dX6_isAsItMustBe_7 : decode cX6_isAsItMustBe 7 = .ok (.aload_n 0, 1) := by decide +kernel
theorem dX6_isAsItMustBe_8 : decode cX6_isAsItMustBe 8 = .ok (.getfield 56, 3) := by decide +kernel
theorem dX6_isAsItMustBe_11 : decode cX6_isAsItMustBe 11 = .ok (.iconst 2, 1) := by decide +kernel
theorem dX6_isAsItMustBe_12 : decode cX6_isAsItMustBe 12 = .ok (.iaload, 1) := by decide +kernel
theorem dX6_isAsItMustBe_13 : decode cX6_isAsItMustBe 13 = .ok (.bipush 100, 2) := by decide +kernel
theorem dX6_isAsItMustBe_15 : decode cX6_isAsItMustBe 15 = .ok (.if_icmp .gt 13, 3) := by decide +kernel
theorem dX6_isAsItMustBe_18 : decode cX6_isAsItMustBe 18 = .ok (.iload_n 1, 1) := by decide +kernel
theorem dX6_isAsItMustBe_19 : decode cX6_isAsItMustBe 19 = .ok (.bipush 8, 2) := by decide +kernel
theorem dX6_isAsItMustBe_21 : decode cX6_isAsItMustBe 21 = .ok (.if_icmp .ge 7, 3) := by decide +kernel
theorem dX6_isAsItMustBe_24 : decode cX6_isAsItMustBe 24 = .ok (.iconst 1, 1) := by decide +kernel
theorem dX6_isAsItMustBe_25 : decode cX6_isAsItMustBe 25 = .ok (.goto 4, 3) := by decide +kernel
theorem dX6_isAsItMustBe_28 : decode cX6_isAsItMustBe 28 = .ok (.iconst 0, 1) := by decide +kernel
theorem dX6_isAsItMustBe_29 : decode cX6_isAsItMustBe 29 = .ok (.ireturn, 1) := by decide +kernel
theorem dX6_isAsItMustBe_30 : decode cX6_isAsItMustBe 30 = .ok (.aload_n 0, 1) := by decide +kernel
theorem dX6_isAsItMustBe_31 : decode cX6_isAsItMustBe 31 = .ok (.getfield 134, 3) := by decide +kernel
theorem dX6_isAsItMustBe_34 : decode cX6_isAsItMustBe 34 = .ok (.iconst 3, 1) := by decide +kernel
theorem dX6_isAsItMustBe_35 : decode cX6_isAsItMustBe 35 = .ok (.if_icmp .ne 19, 3) := by decide +kernel
theorem dX6_isAsItMustBe_38 : decode cX6_isAsItMustBe 38 = .ok (.aload_n 0, 1) := by decide +kernel
theorem dX6_isAsItMustBe_39 : decode cX6_isAsItMustBe 39 = .ok (.getfield 56, 3) := by decide +kernel
theorem dX6_isAsItMustBe_42 : decode cX6_isAsItMustBe 42 = .ok (.iconst 0, 1) := by decide +kernel
theorem dX6_isAsItMustBe_43 : decode cX6_isAsItMustBe 43 = .ok (.iaload, 1) := by decide +kernel
theorem dX6_isAsItMustBe_44 : decode cX6_isAsItMustBe 44 = .ok (.iconst 4, 1) := by decide +kernel
theorem dX6_isAsItMustBe_45 : decode cX6_isAsItMustBe 45 = .ok (.if_icmp .gt 7, 3) := by decide +kernel
theorem dX6_isAsItMustBe_48 : decode cX6_isAsItMustBe 48 = .ok (.iconst 1, 1) := by decide +kernel
theorem dX6_isAsItMustBe_49 : decode cX6_isAsItMustBe 49 = .ok (.goto 4, 3) := by decide +kernel
theorem dX6_isAsItMustBe_52 : decode cX6_isAsItMustBe 52 = .ok (.iconst 0, 1) := by decide +kernel
theorem dX6_isAsItMustBe_53 : decode cX6_isAsItMustBe 53 = .ok (.ireturn, 1) := by decide +kernel
theorem dX6_isAsItMustBe_54 : decode cX6_isAsItMustBe 54 = .ok (.aload_n 0, 1) := by decide +kernel
theorem dX6_isAsItMustBe_55 : decode cX6_isAsItMustBe 55 = .ok (.getfield 56, 3) := by decide +kernel
theorem dX6_isAsItMustBe_58 : decode cX6_isAsItMustBe 58 = .ok (.iconst 0, 1) := by decide +kernel
theorem dX6_isAsItMustBe_59 : decode cX6_isAsItMustBe 59 = .ok (.iaload, 1) := by decide +kernel
theorem dX6_isAsItMustBe_60 : decode cX6_isAsItMustBe 60 = .ok (.iload_n 1, 1) := by decide +kernel
theorem dX6_isAsItMustBe_61 : decode cX6_isAsItMustBe 61 = .ok (.if_icmp .ge 53, 3) := by decide +kernel
theorem dX6_isAsItMustBe_64 : decode cX6_isAsItMustBe 64 = .ok (.aload_n 0, 1) := by decide +kernel
theorem dX6_isAsItMustBe_65 : decode cX6_isAsItMustBe 65 = .ok (.getfield 56, 3) := by decide +kernel
theorem dX6_isAsItMustBe_68 : decode cX6_isAsItMustBe 68 = .ok (.iconst 1, 1) := by decide +kernel
theorem dX6_isAsItMustBe_69 : decode cX6_isAsItMustBe 69 = .ok (.iaload, 1) := by decide +kernel
theorem dX6_isAsItMustBe_70 : decode cX6_isAsItMustBe 70 = .ok (.iload_n 1, 1) := by decide +kernel
theorem dX6_isAsItMustBe_71 : decode cX6_isAsItMustBe 71 = .ok (.if_icmp .ge 43, 3) := by decide +kernel
theorem dX6_isAsItMustBe_74 : decode cX6_isAsItMustBe 74 = .ok (.aload_n 0, 1) := by decide +kernel
theorem dX6_isAsItMustBe_75 : decode cX6_isAsItMustBe 75 = .ok (.getfield 56, 3) := by decide +kernel
theorem dX6_isAsItMustBe_78 : decode cX6_isAsItMustBe 78 = .ok (.iconst 0, 1) := by decide +kernel
theorem dX6_isAsItMustBe_79 : decode cX6_isAsItMustBe 79 = .ok (.iaload, 1) := by decide +kernel
theorem dX6_isAsItMustBe_80 : decode cX6_isAsItMustBe 80 = .ok (.aload_n 0, 1) := by decide +kernel
theorem dX6_isAsItMustBe_81 : decode cX6_isAsItMustBe 81 = .ok (.getfield 56, 3) := by decide +kernel
theorem dX6_isAsItMustBe_84 : decode cX6_isAsItMustBe 84 = .ok (.iconst 1, 1) := by decide +kernel
theorem dX6_isAsItMustBe_85 : decode cX6_isAsItMustBe 85 = .ok (.iaload, 1) := by decide +kernel
theorem dX6_isAsItMustBe_86 : decode cX6_isAsItMustBe 86 = .ok (.if_icmp .eq 28, 3) := by decide +kernel
theorem dX6_isAsItMustBe_89 : decode cX6_isAsItMustBe 89 = .ok (.aload_n 0, 1) := by decide +kernel
theorem dX6_isAsItMustBe_90 : decode cX6_isAsItMustBe 90 = .ok (.getfield 56, 3) := by decide +kernel
theorem dX6_isAsItMustBe_93 : decode cX6_isAsItMustBe 93 = .ok (.iconst 2, 1) := by decide +kernel
theorem dX6_isAsItMustBe_94 : decode cX6_isAsItMustBe 94 = .ok (.iaload, 1) := by decide +kernel
theorem dX6_isAsItMustBe_95 : decode cX6_isAsItMustBe 95 = .ok (.iconst 1, 1) := by decide +kernel
theorem dX6_isAsItMustBe_96 : decode cX6_isAsItMustBe 96 = .ok (.if_icmp .lt 18, 3) := by decide +kernel
theorem dX6_isAsItMustBe_99 : decode cX6_isAsItMustBe 99 = .ok (.aload_n 0, 1) := by decide +kernel
theorem dX6_isAsItMustBe_100 : decode cX6_isAsItMustBe 100 = .ok (.getfield 56, 3) := by decide +kernel
theorem dX6_isAsItMustBe_103 : decode cX6_isAsItMustBe 103 = .ok (.iconst 2, 1) := by decide +kernel
theorem dX6_isAsItMustBe_104 : decode cX6_isAsItMustBe 104 = .ok (.iaload, 1) := by decide +kernel
theorem dX6_isAsItMustBe_105 : decode cX6_isAsItMustBe 105 = .ok (.bipush 60, 2) := by decide +kernel
theorem dX6_isAsItMustBe_107 : decode cX6_isAsItMustBe 107 = .ok (.if_icmp .gt 7, 3) := by decide +kernel
theorem dX6_isAsItMustBe_110 : decode cX6_isAsItMustBe 110 = .ok (.iconst 1, 1) := by decide +kernel
theorem dX6_isAsItMustBe_111 : decode cX6_isAsItMustBe 111 = .ok (.goto 4, 3) := by decide +kernel
theorem dX6_isAsItMustBe_114 : decode cX6_isAsItMustBe 114 = .ok (.iconst 0, 1) := by decide +kernel
theorem dX6_isAsItMustBe_115 : decode cX6_isAsItMustBe 115 = .ok (.ireturn, 1) := by decide +kernel
theorem dX6_come_0 : decode cX6_come 0 = .ok (.aload_n 0, 1) := by decide +kernel
theorem dX6_come_1 : decode cX6_come 1 = .ok (.getfield 134, 3) := by decide +kernel
theorem dX6_come_4 : decode cX6_come 4 = .ok (.ifCond .ne 76, 3) := by decide +kernel
theorem dX6_come_7 : decode cX6_come 7 = .ok (.aload_n 0, 1) := by decide +kernel
theorem dX6_come_8 : decode cX6_come 8 = .ok (.getfield 13, 3) := by decide +kernel
theorem dX6_come_11 : decode cX6_come 11 = .ok (.aload_n 0, 1) := by decide +kernel
theorem dX6_come_12 : decode cX6_come 12 = .ok (.getfield 78, 3) := by decide +kernel
theorem dX6_come_15 : decode cX6_come 15 = .ok (.aload_n 0, 1) := by decide +kernel
theorem dX6_come_16 : decode cX6_come 16 = .ok (.getfield 56, 3) := by decide +kernel
theorem dX6_come_19 : decode cX6_come 19 = .ok (.iconst 0, 1) := by decide +kernel
theorem dX6_come_20 : decode cX6_come 20 = .ok (.iaload, 1) := by decide +kernel
theorem dX6_come_21 : decode cX6_come 21 = .ok (.iastore, 1) := by decide +kernel
theorem dX6_come_22 : decode cX6_come 22 = .ok (.aload_n 0, 1) := by decide +kernel
theorem dX6_come_23 : decode cX6_come 23 = .ok (.getfield 16, 3) := by decide +kernel
theorem dX6_come_26 : decode cX6_come 26 = .ok (.aload_n 0, 1) := by decide +kernel
theorem dX6_come_27 : decode cX6_come 27 = .ok (.getfield 78, 3) := by decide +kernel
theorem dX6_come_30 : decode cX6_come 30 = .ok (.aload_n 0, 1) := by decide +kernel
theorem dX6_come_31 : decode cX6_come 31 = .ok (.getfield 56, 3) := by decide +kernel
theorem dX6_come_34 : decode cX6_come 34 = .ok (.iconst 1, 1) := by decide +kernel
theorem dX6_come_35 : decode cX6_come 35 = .ok (.iaload, 1) := by decide +kernel
theorem dX6_come_36 : decode cX6_come 36 = .ok (.iastore, 1) := by decide +kernel
theorem dX6_come_37 : decode cX6_come 37 = .ok (.aload_n 0, 1) := by decide +kernel
theorem dX6_come_38 : decode cX6_come 38 = .ok (.getfield 19, 3) := by decide +kernel
theorem dX6_come_41 : decode cX6_come 41 = .ok (.aload_n 0, 1) := by decide +kernel
theorem dX6_come_42 : decode cX6_come 42 = .ok (.getfield 78, 3) := by decide +kernel
theorem dX6_come_45 : decode cX6_come 45 = .ok (.aload_n 0, 1) := by decide +kernel
theorem dX6_come_46 : decode cX6_come 46 = .ok (.getfield 56, 3) := by decide +kernel
theorem dX6_come_49 : decode cX6_come 49 = .ok (.iconst 2, 1) := by decide +kernel
theorem dX6_come_50 : decode cX6_come 50 = .ok (.iaload, 1) := by decide +kernel
theorem dX6_come_51 : decode cX6_come 51 = .ok (.iastore, 1) := by decide +kernel
theorem dX6_come_52 : decode cX6_come 52 = .ok (.aload_n 0, 1) := by decide +kernel
theorem dX6_come_53 : decode cX6_come 53 = .ok (.getfield 22, 3) := by decide +kernel
theorem dX6_come_56 : decode cX6_come 56 = .ok (.aload_n 0, 1) := by decide +kernel
theorem dX6_come_57 : decode cX6_come 57 = .ok (.getfield 78, 3) := by decide +kernel
theorem dX6_come_60 : decode cX6_come 60 = .ok (.aload_n 0, 1) := by decide +kernel
theorem dX6_come_61 : decode cX6_come 61 = .ok (.getfield 56, 3) := by decide +kernel
theorem dX6_come_64 : decode cX6_come 64 = .ok (.iconst 3, 1) := by decide +kernel
theorem dX6_come_65 : decode cX6_come 65 = .ok (.iaload, 1) := by decide +kernel
theorem dX6_come_66 : decode cX6_come 66 = .ok (.iastore, 1) := by decide +kernel
theorem dX6_come_67 : decode cX6_come 67 = .ok (.aload_n 0, 1) := by decide +kernel
theorem dX6_come_68 : decode cX6_come 68 = .ok (.dup, 1) := by decide +kernel
theorem dX6_come_69 : decode cX6_come 69 = .ok (.getfield 78, 3) := by decide +kernel
theorem dX6_come_72 : decode cX6_come 72 = .ok (.iconst 1, 1) := by decide +kernel
theorem dX6_come_73 : decode cX6_come 73 = .ok (.iadd, 1) := by decide +kernel
theorem dX6_come_74 : decode cX6_come 74 = .ok (.putfield 78, 3) := by decide +kernel
theorem dX6_come_77 : decode cX6_come 77 = .ok (.goto 86, 3) := by decide +kernel
theorem dX6_come_80 : decode cX6_come 80 = .ok (.aload_n 0, 1) := by decide +kernel
theorem dX6_come_81 : decode cX6_come 81 = .ok (.getfield 134, 3) := by decide +kernel
theorem dX6_come_84 : decode cX6_come 84 = .ok (.iconst 3, 1) := by decide +kernel
theorem dX6_come_85 : decode cX6_come 85 = .ok (.if_icmp .ne 16, 3) := by decide +kernel
theorem dX6_come_88 : decode cX6_come 88 = .ok (.aload_n 0, 1) := by decide +kernel
theorem dX6_come_89 : decode cX6_come 89 = .ok (.aload_n 0, 1) := by decide +kernel
theorem dX6_come_90 : decode cX6_come 90 = .ok (.getfield 56, 3) := by decide +kernel
theorem dX6_come_93 : decode cX6_come 93 = .ok (.iconst 0, 1) := by decide +kernel
theorem dX6_come_94 : decode cX6_come 94 = .ok (.iaload, 1) := by decide +kernel
theorem dX6_come_95 : decode cX6_come 95 = .ok (.putfield 85, 3) := by decide +kernel
theorem dX6_come_98 : decode cX6_come 98 = .ok (.goto 65, 3) := by decide +kernel
theorem dX6_come_101 : decode cX6_come 101 = .ok (.aload_n 0, 1) := by decide +kernel
theorem dX6_come_102 : decode cX6_come 102 = .ok (.getfield 25, 3) := by decide +kernel
theorem dX6_come_105 : decode cX6_come 105 = .ok (.bipush 8, 2) := by decide +kernel
theorem dX6_come_107 : decode cX6_come 107 = .ok (.aload_n 0, 1) := by decide +kernel
theorem dX6_come_108 : decode cX6_come 108 = .ok (.getfield 56, 3) := by decide +kernel
theorem dX6_come_111 : decode cX6_come 111 = .ok (.iconst 0, 1) := by decide +kernel
theorem dX6_come_112 : decode cX6_come 112 = .ok (.iaload, 1) := by decide +kernel
theorem dX6_come_113 : decode cX6_come 113 = .ok (.imul, 1) := by decide +kernel
theorem dX6_come_114 : decode cX6_come 114 = .ok (.aload_n 0, 1) := by decide +kernel
theorem dX6_come_115 : decode cX6_come 115 = .ok (.getfield 56, 3) := by decide +kernel
theorem dX6_come_118 : decode cX6_come 118 = .ok (.iconst 1, 1) := by decide +kernel
theorem dX6_come_119 : decode cX6_come 119 = .ok (.iaload, 1) := by decide +kernel
theorem dX6_come_120 : decode cX6_come 120 = .ok (.iadd, 1) := by decide +kernel
theorem dX6_come_121 : decode cX6_come 121 = .ok (.aload_n 0, 1) := by decide +kernel
theorem dX6_come_122 : decode cX6_come 122 = .ok (.getfield 56, 3) := by decide +kernel
theorem dX6_come_125 : decode cX6_come 125 = .ok (.iconst 2, 1) := by decide +kernel
theorem dX6_come_126 : decode cX6_come 126 = .ok (.iaload, 1) := by decide +kernel
theorem dX6_come_127 : decode cX6_come 127 = .ok (.iastore, 1) := by decide +kernel
theorem dX6_come_128 : decode cX6_come 128 = .ok (.aload_n 0, 1) := by decide +kernel
theorem dX6_come_129 : decode cX6_come 129 = .ok (.getfield 134, 3) := by decide +kernel
theorem dX6_come_132 : decode cX6_come 132 = .ok (.iconst 2, 1) := by decide +kernel
theorem dX6_come_133 : decode cX6_come 133 = .ok (.if_icmp .ne 30, 3) := by decide +kernel
theorem dX6_come_136 : decode cX6_come 136 = .ok (.aload_n 0, 1) := by decide +kernel
theorem dX6_come_137 : decode cX6_come 137 = .ok (.getfield 25, 3) := by decide +kernel
theorem dX6_come_140 : decode cX6_come 140 = .ok (.bipush 8, 2) := by decide +kernel
theorem dX6_come_142 : decode cX6_come 142 = .ok (.aload_n 0, 1) := by decide +kernel
theorem dX6_come_143 : decode cX6_come 143 = .ok (.getfield 56, 3) := by decide +kernel
theorem dX6_come_146 : decode cX6_come 146 = .ok (.iconst 1, 1) := by decide +kernel
theorem dX6_come_147 : decode cX6_come 147 = .ok (.iaload, 1) := by decide +kernel
theorem dX6_come_148 : decode cX6_come 148 = .ok (.imul, 1) := by decide +kernel
theorem dX6_come_149 : decode cX6_come 149 = .ok (.aload_n 0, 1) := by decide +kernel
theorem dX6_come_150 : decode cX6_come 150 = .ok (.getfield 56, 3) := by decide +kernel
theorem dX6_come_153 : decode cX6_come 153 = .ok (.iconst 0, 1) := by decide +kernel
theorem dX6_come_154 : decode cX6_come 154 = .ok (.iaload, 1) := by decide +kernel
theorem dX6_come_155 : decode cX6_come 155 = .ok (.iadd, 1) := by decide +kernel
theorem dX6_come_156 : decode cX6_come 156 = .ok (.aload_n 0, 1) := by decide +kernel
theorem dX6_come_157 : decode cX6_come 157 = .ok (.getfield 56, 3) := by decide +kernel
theorem dX6_come_160 : decode cX6_come 160 = .ok (.iconst 2, 1) := by decide +kernel
theorem dX6_come_161 : decode cX6_come 161 = .ok (.iaload, 1) := by decide +kernel
theorem dX6_come_162 : decode cX6_come 162 = .ok (.iastore, 1) := by decide +kernel
theorem dX6_come_163 : decode cX6_come 163 = .ok (.return_, 1) := by decide +kernel
set_option maxRecDepth 20000 in
theorem ggX6_read_X6_statement : GoodIn wsX6_read wsX6_statement := goodIn_r _ [10, 11, 5, 12, 13, 14, 15, 16, 17, 9, 18, 2, 1, 19, 20, 21, 22, 3, 23, 24, 25, 26, 27, 28, 29, 30, 31, 46, 47, 48, 49, 50, 51, 52, 53, 54, 55, 56, 57, 58, 59, 60, 61, 62, 63, 64, 65, 66, 67, 68, 69, 70, 71, 72, 73, 74, 75, 76, 77, 78, 79, 80, 81, 82, 83, 84, 85, 86, 87, 88, 89, 90, 91, 92, 93, 94, 95, 96, 97] (by decide +kernel) (by decide +kernel)
set_option maxRecDepth 20000 in
theorem gX6_read_X6_statement : GoodIn wsX6_read (wsV RX6 144 RX6 yX6_statement wsX6_statement) := goodIn_app (goodIn_of _ (by decide +kernel)) ggX6_read_X6_statement
set_option maxRecDepth 20000 in
theorem ggX6_read_X6_isAsItMustBe : GoodIn wsX6_read wsX6_isAsItMustBe := goodIn_r _ [35, 5, 12, 46, 47, 48, 49, 50, 51, 52, 53, 54, 55, 56, 57, 58, 59, 60, 61, 62, 63, 64, 65, 66, 67, 68, 69, 70, 71, 72, 73, 74, 75, 76, 77, 78, 79, 80, 81, 82, 83, 84, 85, 86, 87, 88, 89, 90, 91, 92, 93, 94, 95, 96, 97] (by decide +kernel) (by decide +kernel)
set_option maxRecDepth 20000 in
theorem gX6_read_X6_isAsItMustBe : GoodIn wsX6_read (wsV RX6 147 RX6 yX6_isAsItMustBe wsX6_isAsItMustBe) := goodIn_app (goodIn_of _ (by decide +kernel)) ggX6_read_X6_isAsItMustBe
set_option maxRecDepth 20000 in
theorem ggX6_read_X6_come : GoodIn wsX6_read wsX6_come := goodIn_r _ [39, 5, 40, 4, 12, 41, 42, 43, 44, 45, 46, 47, 48, 49, 50, 51, 52, 53, 54, 55, 56, 57, 58, 59, 60, 61, 62, 63, 64, 65, 66, 67, 68, 69, 70, 71, 72, 73, 74, 75, 76, 77, 78, 79, 80, 81, 82, 83, 84, 85, 86, 87, 88, 89, 90, 91, 92, 93, 94, 95, 96, 97] (by decide +kernel) (by decide +kernel)
set_option maxRecDepth 20000 in
theorem gX6_read_X6_come : GoodIn wsX6_read (wsV RX6 151 RX6 yX6_come wsX6_come) := goodIn_app (goodIn_of _ (by decide +kernel)) ggX6_read_X6_come
theorem dX6_read_0 : decode cX6_read 0 = .ok (.iconst 0, 1) := by decide +kernel
theorem dX6_read_1 : decode cX6_read 1 = .ok (.istore_n 1, 1) := by decide +kernel
theorem dX6_read_2 : decode cX6_read 2 = .ok (.aload_n 0, 1) := by decide +kernel
theorem dX6_read_3 : decode cX6_read 3 = .ok (.iconst 0, 1) := by decide +kernel
theorem dX6_read_4 : decode cX6_read 4 = .ok (.putfield 120, 3) := by decide +kernel
theorem dX6_read_7 : decode cX6_read 7 = .ok (.aload_n 0, 1) := by decide +kernel
theorem dX6_read_8 : decode cX6_read 8 = .ok (.iconst 1, 1) := by decide +kernel
theorem dX6_read_9 : decode cX6_read 9 = .ok (.putfield 123, 3) := by decide +kernel
theorem dX6_read_12 : decode cX6_read 12 = .ok (.aload_n 0, 1) := by decide +kernel
theorem dX6_read_13 : decode cX6_read 13 = .ok (.invokevirtual 144, 3) := by decide +kernel
theorem dX6_read_16 : decode cX6_read 16 = .ok (.iinc 1 1, 3) := by decide +kernel
theorem dX6_read_19 : decode cX6_read 19 = .ok (.aload_n 0, 1) := by decide +kernel
theorem dX6_read_20 : decode cX6_read 20 = .ok (.getfield 123, 3) := by decide +kernel
theorem dX6_read_23 : decode cX6_read 23 = .ok (.ifCond .eq 14, 3) := by decide +kernel
theorem dX6_read_26 : decode cX6_read 26 = .ok (.aload_n 0, 1) := by decide +kernel
theorem dX6_read_27 : decode cX6_read 27 = .ok (.getfield 120, 3) := by decide +kernel
theorem dX6_read_30 : decode cX6_read 30 = .ok (.aload_n 0, 1) := by decide +kernel
theorem dX6_read_31 : decode cX6_read 31 = .ok (.getfield 117, 3) := by decide +kernel
theorem dX6_read_34 : decode cX6_read 34 = .ok (.if_icmp .lt (-22), 3) := by decide +kernel
theorem dX6_read_37 : decode cX6_read 37 = .ok (.aload_n 0, 1) := by decide +kernel
theorem dX6_read_38 : decode cX6_read 38 = .ok (.getfield 123, 3) := by decide +kernel
theorem dX6_read_41 : decode cX6_read 41 = .ok (.ifCond .ne 12, 3) := by decide +kernel
theorem dX6_read_44 : decode cX6_read 44 = .ok (.sipush (-1000), 3) := by decide +kernel
theorem dX6_read_47 : decode cX6_read 47 = .ok (.aload_n 0, 1) := by decide +kernel
theorem dX6_read_48 : decode cX6_read 48 = .ok (.getfield 120, 3) := by decide +kernel
theorem dX6_read_51 : decode cX6_read 51 = .ok (.isub, 1) := by decide +kernel
theorem dX6_read_52 : decode cX6_read 52 = .ok (.ireturn, 1) := by decide +kernel
theorem dX6_read_53 : decode cX6_read 53 = .ok (.aload_n 0, 1) := by decide +kernel
theorem dX6_read_54 : decode cX6_read 54 = .ok (.iconst 0, 1) := by decide +kernel
theorem dX6_read_55 : decode cX6_read 55 = .ok (.putfield 120, 3) := by decide +kernel
theorem dX6_read_58 : decode cX6_read 58 = .ok (.aload_n 0, 1) := by decide +kernel
theorem dX6_read_59 : decode cX6_read 59 = .ok (.getfield 78, 3) := by decide +kernel
theorem dX6_read_62 : decode cX6_read 62 = .ok (.istore_n 2, 1) := by decide +kernel
theorem dX6_read_63 : decode cX6_read 63 = .ok (.aload_n 0, 1) := by decide +kernel
theorem dX6_read_64 : decode cX6_read 64 = .ok (.getfield 120, 3) := by decide +kernel
theorem dX6_read_67 : decode cX6_read 67 = .ok (.aload_n 0, 1) := by decide +kernel
theorem dX6_read_68 : decode cX6_read 68 = .ok (.getfield 117, 3) := by decide +kernel
theorem dX6_read_71 : decode cX6_read 71 = .ok (.if_icmp .ge 44, 3) := by decide +kernel
theorem dX6_read_74 : decode cX6_read 74 = .ok (.aload_n 0, 1) := by decide +kernel
theorem dX6_read_75 : decode cX6_read 75 = .ok (.getfield 120, 3) := by decide +kernel
theorem dX6_read_78 : decode cX6_read 78 = .ok (.istore_n 3, 1) := by decide +kernel
theorem dX6_read_79 : decode cX6_read 79 = .ok (.aload_n 0, 1) := by decide +kernel
theorem dX6_read_80 : decode cX6_read 80 = .ok (.invokevirtual 144, 3) := by decide +kernel
theorem dX6_read_83 : decode cX6_read 83 = .ok (.aload_n 0, 1) := by decide +kernel
theorem dX6_read_84 : decode cX6_read 84 = .ok (.iload_n 2, 1) := by decide +kernel
theorem dX6_read_85 : decode cX6_read 85 = .ok (.invokevirtual 147, 3) := by decide +kernel
theorem dX6_read_88 : decode cX6_read 88 = .ok (.ifCond .ne 9, 3) := by decide +kernel
theorem dX6_read_91 : decode cX6_read 91 = .ok (.sipush (-2000), 3) := by decide +kernel
theorem dX6_read_94 : decode cX6_read 94 = .ok (.iload_n 3, 1) := by decide +kernel
theorem dX6_read_95 : decode cX6_read 95 = .ok (.isub, 1) := by decide +kernel
theorem dX6_read_96 : decode cX6_read 96 = .ok (.ireturn, 1) := by decide +kernel
theorem dX6_read_97 : decode cX6_read 97 = .ok (.iload_n 2, 1) := by decide +kernel
theorem dX6_read_98 : decode cX6_read 98 = .ok (.aload_n 0, 1) := by decide +kernel
theorem dX6_read_99 : decode cX6_read 99 = .ok (.getfield 134, 3) := by decide +kernel
theorem dX6_read_102 : decode cX6_read 102 = .ok (.ifCond .ne 7, 3) := by decide +kernel
theorem dX6_read_105 : decode cX6_read 105 = .ok (.iconst 1, 1) := by decide +kernel
theorem dX6_read_106 : decode cX6_read 106 = .ok (.goto 4, 3) := by decide +kernel
theorem dX6_read_109 : decode cX6_read 109 = .ok (.iconst 0, 1) := by decide +kernel
theorem dX6_read_110 : decode cX6_read 110 = .ok (.iadd, 1) := by decide +kernel
theorem dX6_read_111 : decode cX6_read 111 = .ok (.istore_n 2, 1) := by decide +kernel
theorem dX6_read_112 : decode cX6_read 112 = .ok (.goto (-49), 3) := by decide +kernel
theorem dX6_read_115 : decode cX6_read 115 = .ok (.aload_n 0, 1) := by decide +kernel
theorem dX6_read_116 : decode cX6_read 116 = .ok (.iconst 0, 1) := by decide +kernel
theorem dX6_read_117 : decode cX6_read 117 = .ok (.putfield 120, 3) := by decide +kernel
theorem dX6_read_120 : decode cX6_read 120 = .ok (.aload_n 0, 1) := by decide +kernel
theorem dX6_read_121 : decode cX6_read 121 = .ok (.getfield 120, 3) := by decide +kernel
theorem dX6_read_124 : decode cX6_read 124 = .ok (.aload_n 0, 1) := by decide +kernel
theorem dX6_read_125 : decode cX6_read 125 = .ok (.getfield 117, 3) := by decide +kernel
theorem dX6_read_128 : decode cX6_read 128 = .ok (.if_icmp .ge 14, 3) := by decide +kernel
theorem dX6_read_131 : decode cX6_read 131 = .ok (.aload_n 0, 1) := by decide +kernel
theorem dX6_read_132 : decode cX6_read 132 = .ok (.invokevirtual 144, 3) := by decide +kernel
theorem dX6_read_135 : decode cX6_read 135 = .ok (.aload_n 0, 1) := by decide +kernel
theorem dX6_read_136 : decode cX6_read 136 = .ok (.invokevirtual 151, 3) := by decide +kernel
theorem dX6_read_139 : decode cX6_read 139 = .ok (.goto (-19), 3) := by decide +kernel
theorem dX6_read_142 : decode cX6_read 142 = .ok (.iload_n 1, 1) := by decide +kernel
theorem dX6_read_143 : decode cX6_read 143 = .ok (.ireturn, 1) := by decide +kernel
set_option maxRecDepth 20000 in
theorem ggX6_town_X6_read : GoodIn wsX6_town wsX6_read := goodIn_r _ [6, 7, 8, 1, 9, 10, 11, 12, 13, 5, 14, 15, 16, 17, 18, 19, 20, 21, 22, 23, 24, 25, 26, 27, 28, 29, 30, 31, 32, 33, 34, 35, 36, 37, 38, 39, 40, 41, 42, 43, 44, 45, 46, 47, 48, 49, 50, 51, 52, 53, 54, 55, 56, 57, 58, 59, 60, 61, 62, 63, 64, 65, 66, 67, 68, 69, 70, 71, 72, 73, 74, 75, 76, 77, 78, 79, 80, 81, 82, 83, 84, 85, 86, 87, 88, 89, 90, 91, 92, 93, 94, 95, 96, 97, 98, 99, 100, 101] (by decide +kernel) (by decide +kernel)
set_option maxRecDepth 20000 in
theorem gX6_town_X6_read : GoodIn wsX6_town (wsV RX6 154 RX6 yX6_read wsX6_read) := goodIn_app (goodIn_of _ (by decide +kernel)) ggX6_town_X6_read
theorem dX6_town_0 : decode cX6_town 0 = .ok (.aload_n 0, 1) := by decide +kernel
theorem dX6_town_1 : decode cX6_town 1 = .ok (.invokevirtual 154, 3) := by decide +kernel
theorem dX6_town_4 : decode cX6_town 4 = .ok (.istore_n 1, 1) := by decide +kernel
theorem dX6_town_5 : decode cX6_town 5 = .ok (.aload_n 0, 1) := by decide +kernel
theorem dX6_town_6 : decode cX6_town 6 = .ok (.iconst 0, 1) := by decide +kernel
theorem dX6_town_7 : decode cX6_town 7 = .ok (.putfield 117, 3) := by decide +kernel
theorem dX6_town_10 : decode cX6_town 10 = .ok (.iload_n 1, 1) := by decide +kernel
theorem dX6_town_11 : decode cX6_town 11 = .ok (.ireturn, 1) := by decide +kernel
set_option maxRecDepth 20000 in
theorem ggX6_person_X6_isNobody : GoodIn wsX6_person wsX6_isNobody := goodIn_r _ [10, 11, 20, 21, 22, 23, 24, 25, 26, 27, 28, 29, 30, 31, 32, 33, 34, 35, 36, 37, 38, 39, 40, 41, 42, 43, 44, 45, 46, 47, 48, 49, 50, 51, 52, 53, 54, 55, 56, 57, 58, 59, 60, 61, 62, 63, 64, 65, 66, 67, 68, 69, 70, 71] (by decide +kernel) (by decide +kernel)
set_option maxRecDepth 20000 in
theorem gX6_person_X6_isNobody : GoodIn wsX6_person (wsV RX6 158 RX6 yX6_isNobody wsX6_isNobody) := goodIn_app (goodIn_of _ (by decide +kernel)) ggX6_person_X6_isNobody
set_option maxRecDepth 20000 in
theorem ggX6_person_X6_no : GoodIn wsX6_person wsX6_no := goodIn_r _ [15, 16, 20, 21, 22, 23, 24, 25, 26, 27, 28, 29, 30, 31, 32, 33, 34, 35, 36, 37, 38, 39, 40, 41, 42, 43, 44, 45, 46, 47, 48, 49, 50, 51, 52, 53, 54, 55, 56, 57, 58, 59, 60, 61, 62, 63, 64, 65, 66, 67, 68, 69, 70, 71] (by decide +kernel) (by decide +kernel)
set_option maxRecDepth 20000 in
theorem gX6_person_X6_no : GoodIn wsX6_person (wsV RX6 113 RX6 yX6_no wsX6_no) := goodIn_app (goodIn_of _ (by decide +kernel)) ggX6_person_X6_no
set_option maxRecDepth 20000 in
theorem ggX6_person_X6_isIn : GoodIn wsX6_person wsX6_isIn := goodIn_r _ [19] (by decide +kernel) (by decide +kernel)
set_option maxRecDepth 20000 in
theorem gX6_person_X6_isIn : GoodIn wsX6_person (va_wsS RX6 161 yX6_isIn wsX6_isIn) := goodIn_app (goodIn_of _ (by decide +kernel)) ggX6_person_X6_isIn
theorem dX6_person_0 : decode cX6_person 0 = .ok (.aload_n 0, 1) := by decide +kernel
theorem dX6_person_1 : decode cX6_person 1 = .ok (.iload_n 1, 1) := by decide +kernel
theorem dX6_person_2 : decode cX6_person 2 = .ok (.invokevirtual 158, 3) := by decide +kernel
theorem dX6_person_5 : decode cX6_person 5 = .ok (.ifCond .eq 9, 3) := by decide +kernel
theorem dX6_person_8 : decode cX6_person 8 = .ok (.aload_n 0, 1) := by decide +kernel
theorem dX6_person_9 : decode cX6_person 9 = .ok (.iconst (-1), 1) := by decide +kernel
theorem dX6_person_10 : decode cX6_person 10 = .ok (.invokevirtual 113, 3) := by decide +kernel
theorem dX6_person_13 : decode cX6_person 13 = .ok (.ireturn, 1) := by decide +kernel
theorem dX6_person_14 : decode cX6_person 14 = .ok (.iload_n 2, 1) := by decide +kernel
theorem dX6_person_15 : decode cX6_person 15 = .ok (.tableswitch 78 0 4 #[33, 40, 47, 54, 61], 33) := by decide +kernel
theorem dX6_person_48 : decode cX6_person 48 = .ok (.aload_n 0, 1) := by decide +kernel
theorem dX6_person_49 : decode cX6_person 49 = .ok (.getfield 13, 3) := by decide +kernel
theorem dX6_person_52 : decode cX6_person 52 = .ok (.iload_n 1, 1) := by decide +kernel
theorem dX6_person_53 : decode cX6_person 53 = .ok (.iaload, 1) := by decide +kernel
theorem dX6_person_54 : decode cX6_person 54 = .ok (.ireturn, 1) := by decide +kernel
theorem dX6_person_55 : decode cX6_person 55 = .ok (.aload_n 0, 1) := by decide +kernel
theorem dX6_person_56 : decode cX6_person 56 = .ok (.getfield 16, 3) := by decide +kernel
theorem dX6_person_59 : decode cX6_person 59 = .ok (.iload_n 1, 1) := by decide +kernel
theorem dX6_person_60 : decode cX6_person 60 = .ok (.iaload, 1) := by decide +kernel
theorem dX6_person_61 : decode cX6_person 61 = .ok (.ireturn, 1) := by decide +kernel
theorem dX6_person_62 : decode cX6_person 62 = .ok (.aload_n 0, 1) := by decide +kernel
theorem dX6_person_63 : decode cX6_person 63 = .ok (.getfield 19, 3) := by decide +kernel
theorem dX6_person_66 : decode cX6_person 66 = .ok (.iload_n 1, 1) := by decide +kernel
theorem dX6_person_67 : decode cX6_person 67 = .ok (.iaload, 1) := by decide +kernel
theorem dX6_person_68 : decode cX6_person 68 = .ok (.ireturn, 1) := by decide +kernel
theorem dX6_person_69 : decode cX6_person 69 = .ok (.aload_n 0, 1) := by decide +kernel
theorem dX6_person_70 : decode cX6_person 70 = .ok (.getfield 22, 3) := by decide +kernel
theorem dX6_person_73 : decode cX6_person 73 = .ok (.iload_n 1, 1) := by decide +kernel
theorem dX6_person_74 : decode cX6_person 74 = .ok (.iaload, 1) := by decide +kernel
theorem dX6_person_75 : decode cX6_person 75 = .ok (.ireturn, 1) := by decide +kernel
theorem dX6_person_76 : decode cX6_person 76 = .ok (.aload_n 0, 1) := by decide +kernel
theorem dX6_person_77 : decode cX6_person 77 = .ok (.getfield 91, 3) := by decide +kernel
theorem dX6_person_80 : decode cX6_person 80 = .ok (.iload_n 1, 1) := by decide +kernel
theorem dX6_person_81 : decode cX6_person 81 = .ok (.invokestatic 161, 3) := by decide +kernel
theorem dX6_person_84 : decode cX6_person 84 = .ok (.ifCond .eq 7, 3) := by decide +kernel
theorem dX6_person_87 : decode cX6_person 87 = .ok (.iconst 1, 1) := by decide +kernel
theorem dX6_person_88 : decode cX6_person 88 = .ok (.goto 4, 3) := by decide +kernel
theorem dX6_person_91 : decode cX6_person 91 = .ok (.iconst 0, 1) := by decide +kernel
theorem dX6_person_92 : decode cX6_person 92 = .ok (.ireturn, 1) := by decide +kernel
theorem dX6_person_93 : decode cX6_person 93 = .ok (.aload_n 0, 1) := by decide +kernel
theorem dX6_person_94 : decode cX6_person 94 = .ok (.bipush (-2), 2) := by decide +kernel
theorem dX6_person_96 : decode cX6_person 96 = .ok (.invokevirtual 113, 3) := by decide +kernel
theorem dX6_person_99 : decode cX6_person 99 = .ok (.ireturn, 1) := by decide +kernel
set_option maxRecDepth 20000 in
theorem ggX6_minutes_X6_isNobody : GoodIn wsX6_minutes wsX6_isNobody := goodIn_r _ [6, 7, 13, 14, 15, 16, 17, 18, 19, 20, 21, 22, 23, 24, 25, 26, 27, 28, 29, 30, 31, 32, 33, 34, 35, 36, 37, 38, 39, 40, 41, 42, 43, 44, 45, 46, 47, 48, 49, 50, 51, 52, 53, 54, 55, 56, 57, 58, 59, 60, 61, 62, 63, 64] (by decide +kernel) (by decide +kernel)
set_option maxRecDepth 20000 in
theorem gX6_minutes_X6_isNobody : GoodIn wsX6_minutes (wsV RX6 158 RX6 yX6_isNobody wsX6_isNobody) := goodIn_app (goodIn_of _ (by decide +kernel)) ggX6_minutes_X6_isNobody
set_option maxRecDepth 20000 in
theorem ggX6_minutes_X6_no : GoodIn wsX6_minutes wsX6_no := goodIn_r _ [11, 12, 13, 14, 15, 16, 17, 18, 19, 20, 21, 22, 23, 24, 25, 26, 27, 28, 29, 30, 31, 32, 33, 34, 35, 36, 37, 38, 39, 40, 41, 42, 43, 44, 45, 46, 47, 48, 49, 50, 51, 52, 53, 54, 55, 56, 57, 58, 59, 60, 61, 62, 63, 64] (by decide +kernel) (by decide +kernel)
set_option maxRecDepth 20000 in
theorem gX6_minutes_X6_no : GoodIn wsX6_minutes (wsV RX6 113 RX6 yX6_no wsX6_no) := goodIn_app (goodIn_of _ (by decide +kernel)) ggX6_minutes_X6_no
theorem dX6_minutes_0 : decode cX6_minutes 0 = .ok (.aload_n 0, 1) := by decide +kernel
theorem dX6_minutes_1 : decode cX6_minutes 1 = .ok (.iload_n 1, 1) := by decide +kernel
theorem dX6_minutes_2 : decode cX6_minutes 2 = .ok (.invokevirtual 158, 3) := by decide +kernel
theorem dX6_minutes_5 : decode cX6_minutes 5 = .ok (.ifCond .ne 11, 3) := by decide +kernel
theorem dX6_minutes_8 : decode cX6_minutes 8 = .ok (.aload_n 0, 1) := by decide +kernel
theorem dX6_minutes_9 : decode cX6_minutes 9 = .ok (.iload_n 2, 1) := by decide +kernel
theorem dX6_minutes_10 : decode cX6_minutes 10 = .ok (.invokevirtual 158, 3) := by decide +kernel
theorem dX6_minutes_13 : decode cX6_minutes 13 = .ok (.ifCond .eq 9, 3) := by decide +kernel
theorem dX6_minutes_16 : decode cX6_minutes 16 = .ok (.aload_n 0, 1) := by decide +kernel
theorem dX6_minutes_17 : decode cX6_minutes 17 = .ok (.iconst (-1), 1) := by decide +kernel
theorem dX6_minutes_18 : decode cX6_minutes 18 = .ok (.invokevirtual 113, 3) := by decide +kernel
theorem dX6_minutes_21 : decode cX6_minutes 21 = .ok (.ireturn, 1) := by decide +kernel
theorem dX6_minutes_22 : decode cX6_minutes 22 = .ok (.aload_n 0, 1) := by decide +kernel
theorem dX6_minutes_23 : decode cX6_minutes 23 = .ok (.getfield 25, 3) := by decide +kernel
theorem dX6_minutes_26 : decode cX6_minutes 26 = .ok (.bipush 8, 2) := by decide +kernel
theorem dX6_minutes_28 : decode cX6_minutes 28 = .ok (.iload_n 1, 1) := by decide +kernel
theorem dX6_minutes_29 : decode cX6_minutes 29 = .ok (.imul, 1) := by decide +kernel
theorem dX6_minutes_30 : decode cX6_minutes 30 = .ok (.iload_n 2, 1) := by decide +kernel
theorem dX6_minutes_31 : decode cX6_minutes 31 = .ok (.iadd, 1) := by decide +kernel
theorem dX6_minutes_32 : decode cX6_minutes 32 = .ok (.iaload, 1) := by decide +kernel
theorem dX6_minutes_33 : decode cX6_minutes 33 = .ok (.ifCond .ne 8, 3) := by decide +kernel
theorem dX6_minutes_36 : decode cX6_minutes 36 = .ok (.bipush (-9), 2) := by decide +kernel
theorem dX6_minutes_38 : decode cX6_minutes 38 = .ok (.goto 14, 3) := by decide +kernel
theorem dX6_minutes_41 : decode cX6_minutes 41 = .ok (.aload_n 0, 1) := by decide +kernel
theorem dX6_minutes_42 : decode cX6_minutes 42 = .ok (.getfield 25, 3) := by decide +kernel
theorem dX6_minutes_45 : decode cX6_minutes 45 = .ok (.bipush 8, 2) := by decide +kernel
theorem dX6_minutes_47 : decode cX6_minutes 47 = .ok (.iload_n 1, 1) := by decide +kernel
theorem dX6_minutes_48 : decode cX6_minutes 48 = .ok (.imul, 1) := by decide +kernel
theorem dX6_minutes_49 : decode cX6_minutes 49 = .ok (.iload_n 2, 1) := by decide +kernel
theorem dX6_minutes_50 : decode cX6_minutes 50 = .ok (.iadd, 1) := by decide +kernel
theorem dX6_minutes_51 : decode cX6_minutes 51 = .ok (.iaload, 1) := by decide +kernel
theorem dX6_minutes_52 : decode cX6_minutes 52 = .ok (.ireturn, 1) := by decide +kernel
set_option maxRecDepth 20000 in
theorem ggX6_law_X6_no : GoodIn wsX6_law wsX6_no := goodIn_r _ [6, 7, 8, 9, 10, 11, 12, 13, 14, 15, 16, 17, 18, 19, 20, 21, 22, 23, 24, 25, 26, 27, 28, 29, 30, 31, 32, 33, 34, 35, 36, 37, 38, 39, 40, 41, 42, 43, 44, 45, 46, 47, 48, 49, 50, 51, 52, 53, 54, 55, 56, 57, 58, 59] (by decide +kernel) (by decide +kernel)
set_option maxRecDepth 20000 in
theorem gX6_law_X6_no : GoodIn wsX6_law (wsV RX6 113 RX6 yX6_no wsX6_no) := goodIn_app (goodIn_of _ (by decide +kernel)) ggX6_law_X6_no
theorem dX6_law_0 : decode cX6_law 0 = .ok (.iload_n 1, 1) := by decide +kernel
theorem dX6_law_1 : decode cX6_law 1 = .ok (.ifCond .lt 8, 3) := by decide +kernel
theorem dX6_law_4 : decode cX6_law 4 = .ok (.iload_n 1, 1) := by decide +kernel
theorem dX6_law_5 : decode cX6_law 5 = .ok (.iconst 4, 1) := by decide +kernel
theorem dX6_law_6 : decode cX6_law 6 = .ok (.if_icmp .le 10, 3) := by decide +kernel
theorem dX6_law_9 : decode cX6_law 9 = .ok (.aload_n 0, 1) := by decide +kernel
theorem dX6_law_10 : decode cX6_law 10 = .ok (.bipush (-2), 2) := by decide +kernel
theorem dX6_law_12 : decode cX6_law 12 = .ok (.invokevirtual 113, 3) := by decide +kernel
theorem dX6_law_15 : decode cX6_law 15 = .ok (.ireturn, 1) := by decide +kernel
theorem dX6_law_16 : decode cX6_law 16 = .ok (.aload_n 0, 1) := by decide +kernel
theorem dX6_law_17 : decode cX6_law 17 = .ok (.getfield 85, 3) := by decide +kernel
theorem dX6_law_20 : decode cX6_law 20 = .ok (.istore_n 2, 1) := by decide +kernel
theorem dX6_law_21 : decode cX6_law 21 = .ok (.aload_n 0, 1) := by decide +kernel
theorem dX6_law_22 : decode cX6_law 22 = .ok (.iload_n 1, 1) := by decide +kernel
theorem dX6_law_23 : decode cX6_law 23 = .ok (.putfield 85, 3) := by decide +kernel
theorem dX6_law_26 : decode cX6_law 26 = .ok (.iload_n 2, 1) := by decide +kernel
theorem dX6_law_27 : decode cX6_law 27 = .ok (.ireturn, 1) := by decide +kernel
set_option maxRecDepth 20000 in
theorem ggX6_hasKin_X6_isIn : GoodIn wsX6_hasKin wsX6_isIn := goodIn_r _ [6] (by decide +kernel) (by decide +kernel)
set_option maxRecDepth 20000 in
theorem gX6_hasKin_X6_isIn : GoodIn wsX6_hasKin (va_wsS RX6 161 yX6_isIn wsX6_isIn) := goodIn_app (goodIn_of _ (by decide +kernel)) ggX6_hasKin_X6_isIn
theorem dX6_hasKin_0 : decode cX6_hasKin 0 = .ok (.iconst 0, 1) := by decide +kernel
theorem dX6_hasKin_1 : decode cX6_hasKin 1 = .ok (.istore_n 3, 1) := by decide +kernel
theorem dX6_hasKin_2 : decode cX6_hasKin 2 = .ok (.iconst 0, 1) := by decide +kernel
theorem dX6_hasKin_3 : decode cX6_hasKin 3 = .ok (.istore 4, 2) := by decide +kernel
theorem dX6_hasKin_5 : decode cX6_hasKin 5 = .ok (.iload 4, 2) := by decide +kernel
theorem dX6_hasKin_7 : decode cX6_hasKin 7 = .ok (.aload_n 0, 1) := by decide +kernel
theorem dX6_hasKin_8 : decode cX6_hasKin 8 = .ok (.getfield 78, 3) := by decide +kernel
theorem dX6_hasKin_11 : decode cX6_hasKin 11 = .ok (.if_icmp .ge 53, 3) := by decide +kernel
theorem dX6_hasKin_14 : decode cX6_hasKin 14 = .ok (.iload_n 3, 1) := by decide +kernel
theorem dX6_hasKin_15 : decode cX6_hasKin 15 = .ok (.ifCond .ne 37, 3) := by decide +kernel
theorem dX6_hasKin_18 : decode cX6_hasKin 18 = .ok (.iload_n 1, 1) := by decide +kernel
theorem dX6_hasKin_19 : decode cX6_hasKin 19 = .ok (.iload 4, 2) := by decide +kernel
theorem dX6_hasKin_21 : decode cX6_hasKin 21 = .ok (.invokestatic 161, 3) := by decide +kernel
theorem dX6_hasKin_24 : decode cX6_hasKin 24 = .ok (.ifCond .eq 32, 3) := by decide +kernel
theorem dX6_hasKin_27 : decode cX6_hasKin 27 = .ok (.aload_n 0, 1) := by decide +kernel
theorem dX6_hasKin_28 : decode cX6_hasKin 28 = .ok (.getfield 22, 3) := by decide +kernel
theorem dX6_hasKin_31 : decode cX6_hasKin 31 = .ok (.iload_n 2, 1) := by decide +kernel
theorem dX6_hasKin_32 : decode cX6_hasKin 32 = .ok (.iaload, 1) := by decide +kernel
theorem dX6_hasKin_33 : decode cX6_hasKin 33 = .ok (.ifCond .le 23, 3) := by decide +kernel
theorem dX6_hasKin_36 : decode cX6_hasKin 36 = .ok (.aload_n 0, 1) := by decide +kernel
theorem dX6_hasKin_37 : decode cX6_hasKin 37 = .ok (.getfield 22, 3) := by decide +kernel
theorem dX6_hasKin_40 : decode cX6_hasKin 40 = .ok (.iload 4, 2) := by decide +kernel
theorem dX6_hasKin_42 : decode cX6_hasKin 42 = .ok (.iaload, 1) := by decide +kernel
theorem dX6_hasKin_43 : decode cX6_hasKin 43 = .ok (.aload_n 0, 1) := by decide +kernel
theorem dX6_hasKin_44 : decode cX6_hasKin 44 = .ok (.getfield 22, 3) := by decide +kernel
theorem dX6_hasKin_47 : decode cX6_hasKin 47 = .ok (.iload_n 2, 1) := by decide +kernel
theorem dX6_hasKin_48 : decode cX6_hasKin 48 = .ok (.iaload, 1) := by decide +kernel
theorem dX6_hasKin_49 : decode cX6_hasKin 49 = .ok (.if_icmp .ne 7, 3) := by decide +kernel
theorem dX6_hasKin_52 : decode cX6_hasKin 52 = .ok (.iconst 1, 1) := by decide +kernel
theorem dX6_hasKin_53 : decode cX6_hasKin 53 = .ok (.goto 4, 3) := by decide +kernel
theorem dX6_hasKin_56 : decode cX6_hasKin 56 = .ok (.iconst 0, 1) := by decide +kernel
theorem dX6_hasKin_57 : decode cX6_hasKin 57 = .ok (.istore_n 3, 1) := by decide +kernel
theorem dX6_hasKin_58 : decode cX6_hasKin 58 = .ok (.iinc 4 1, 3) := by decide +kernel
theorem dX6_hasKin_61 : decode cX6_hasKin 61 = .ok (.goto (-56), 3) := by decide +kernel
theorem dX6_hasKin_64 : decode cX6_hasKin 64 = .ok (.iload_n 3, 1) := by decide +kernel
theorem dX6_hasKin_65 : decode cX6_hasKin 65 = .ok (.ireturn, 1) := by decide +kernel
set_option maxRecDepth 20000 in
theorem ggX6_mayTo_X6_size : GoodIn wsX6_mayTo wsX6_size := goodIn_r _ [7] (by decide +kernel) (by decide +kernel)
set_option maxRecDepth 20000 in
theorem gX6_mayTo_X6_size : GoodIn wsX6_mayTo (va_wsS RX6 165 yX6_size wsX6_size) := goodIn_app (goodIn_of _ (by decide +kernel)) ggX6_mayTo_X6_size
set_option maxRecDepth 20000 in
theorem ggX6_mayTo_X6_isIn : GoodIn wsX6_mayTo wsX6_isIn := goodIn_r _ [10] (by decide +kernel) (by decide +kernel)
set_option maxRecDepth 20000 in
theorem gX6_mayTo_X6_isIn : GoodIn wsX6_mayTo (va_wsS RX6 161 yX6_isIn wsX6_isIn) := goodIn_app (goodIn_of _ (by decide +kernel)) ggX6_mayTo_X6_isIn
set_option maxRecDepth 20000 in
theorem ggX6_mayTo_X6_hasKin : GoodIn wsX6_mayTo wsX6_hasKin := goodIn_r _ [14, 2, 15, 8, 9, 6, 10, 16, 17, 18, 19, 20, 21, 22, 23, 24, 25, 26, 27, 28, 29, 30, 31, 32, 33, 34, 35, 36, 37, 38, 39, 40, 41, 42, 43, 44, 45, 46, 47, 48, 49, 50, 51, 52, 53, 54, 55, 56, 57, 58, 59, 60, 61, 62, 63, 64, 65, 66, 67] (by decide +kernel) (by decide +kernel)
set_option maxRecDepth 20000 in
theorem gX6_mayTo_X6_hasKin : GoodIn wsX6_mayTo (wsV RX6 168 RX6 yX6_hasKin wsX6_hasKin) := goodIn_app (goodIn_of _ (by decide +kernel)) ggX6_mayTo_X6_hasKin
theorem dX6_mayTo_0 : decode cX6_mayTo 0 = .ok (.iload_n 2, 1) := by decide +kernel
theorem dX6_mayTo_1 : decode cX6_mayTo 1 = .ok (.invokestatic 165, 3) := by decide +kernel
theorem dX6_mayTo_4 : decode cX6_mayTo 4 = .ok (.iconst 1, 1) := by decide +kernel
theorem dX6_mayTo_5 : decode cX6_mayTo 5 = .ok (.isub, 1) := by decide +kernel
theorem dX6_mayTo_6 : decode cX6_mayTo 6 = .ok (.istore 5, 2) := by decide +kernel
theorem dX6_mayTo_8 : decode cX6_mayTo 8 = .ok (.iconst 0, 1) := by decide +kernel
theorem dX6_mayTo_9 : decode cX6_mayTo 9 = .ok (.istore 6, 2) := by decide +kernel
theorem dX6_mayTo_11 : decode cX6_mayTo 11 = .ok (.iload_n 1, 1) := by decide +kernel
theorem dX6_mayTo_12 : decode cX6_mayTo 12 = .ok (.iload 4, 2) := by decide +kernel
theorem dX6_mayTo_14 : decode cX6_mayTo 14 = .ok (.if_icmp .eq 32, 3) := by decide +kernel
theorem dX6_mayTo_17 : decode cX6_mayTo 17 = .ok (.aload_n 0, 1) := by decide +kernel
theorem dX6_mayTo_18 : decode cX6_mayTo 18 = .ok (.getfield 85, 3) := by decide +kernel
theorem dX6_mayTo_21 : decode cX6_mayTo 21 = .ok (.iconst 2, 1) := by decide +kernel
theorem dX6_mayTo_22 : decode cX6_mayTo 22 = .ok (.if_icmp .ne 9, 3) := by decide +kernel
theorem dX6_mayTo_25 : decode cX6_mayTo 25 = .ok (.iload 5, 2) := by decide +kernel
theorem dX6_mayTo_27 : decode cX6_mayTo 27 = .ok (.iconst 3, 1) := by decide +kernel
theorem dX6_mayTo_28 : decode cX6_mayTo 28 = .ok (.if_icmp .ge 18, 3) := by decide +kernel
theorem dX6_mayTo_31 : decode cX6_mayTo 31 = .ok (.aload_n 0, 1) := by decide +kernel
theorem dX6_mayTo_32 : decode cX6_mayTo 32 = .ok (.getfield 85, 3) := by decide +kernel
theorem dX6_mayTo_35 : decode cX6_mayTo 35 = .ok (.iconst 3, 1) := by decide +kernel
theorem dX6_mayTo_36 : decode cX6_mayTo 36 = .ok (.if_icmp .ne 13, 3) := by decide +kernel
theorem dX6_mayTo_39 : decode cX6_mayTo 39 = .ok (.iload 5, 2) := by decide +kernel
theorem dX6_mayTo_41 : decode cX6_mayTo 41 = .ok (.bipush 6, 2) := by decide +kernel
theorem dX6_mayTo_43 : decode cX6_mayTo 43 = .ok (.if_icmp .lt 6, 3) := by decide +kernel
theorem dX6_mayTo_46 : decode cX6_mayTo 46 = .ok (.iload 6, 2) := by decide +kernel
theorem dX6_mayTo_48 : decode cX6_mayTo 48 = .ok (.ireturn, 1) := by decide +kernel
theorem dX6_mayTo_49 : decode cX6_mayTo 49 = .ok (.iconst 0, 1) := by decide +kernel
theorem dX6_mayTo_50 : decode cX6_mayTo 50 = .ok (.istore 7, 2) := by decide +kernel
theorem dX6_mayTo_52 : decode cX6_mayTo 52 = .ok (.iload 7, 2) := by decide +kernel
theorem dX6_mayTo_54 : decode cX6_mayTo 54 = .ok (.aload_n 0, 1) := by decide +kernel
theorem dX6_mayTo_55 : decode cX6_mayTo 55 = .ok (.getfield 78, 3) := by decide +kernel
theorem dX6_mayTo_58 : decode cX6_mayTo 58 = .ok (.if_icmp .ge 135, 3) := by decide +kernel
theorem dX6_mayTo_61 : decode cX6_mayTo 61 = .ok (.aload_n 0, 1) := by decide +kernel
theorem dX6_mayTo_62 : decode cX6_mayTo 62 = .ok (.getfield 25, 3) := by decide +kernel
theorem dX6_mayTo_65 : decode cX6_mayTo 65 = .ok (.bipush 8, 2) := by decide +kernel
theorem dX6_mayTo_67 : decode cX6_mayTo 67 = .ok (.iload_n 1, 1) := by decide +kernel
theorem dX6_mayTo_68 : decode cX6_mayTo 68 = .ok (.imul, 1) := by decide +kernel
theorem dX6_mayTo_69 : decode cX6_mayTo 69 = .ok (.iload 7, 2) := by decide +kernel
theorem dX6_mayTo_71 : decode cX6_mayTo 71 = .ok (.iadd, 1) := by decide +kernel
theorem dX6_mayTo_72 : decode cX6_mayTo 72 = .ok (.iaload, 1) := by decide +kernel
theorem dX6_mayTo_73 : decode cX6_mayTo 73 = .ok (.ifCond .le 18, 3) := by decide +kernel
theorem dX6_mayTo_76 : decode cX6_mayTo 76 = .ok (.iload_n 2, 1) := by decide +kernel
theorem dX6_mayTo_77 : decode cX6_mayTo 77 = .ok (.iload_n 3, 1) := by decide +kernel
theorem dX6_mayTo_78 : decode cX6_mayTo 78 = .ok (.ior, 1) := by decide +kernel
theorem dX6_mayTo_79 : decode cX6_mayTo 79 = .ok (.iload 7, 2) := by decide +kernel
theorem dX6_mayTo_81 : decode cX6_mayTo 81 = .ok (.invokestatic 161, 3) := by decide +kernel
theorem dX6_mayTo_84 : decode cX6_mayTo 84 = .ok (.ifCond .ne 7, 3) := by decide +kernel
theorem dX6_mayTo_87 : decode cX6_mayTo 87 = .ok (.iconst 1, 1) := by decide +kernel
theorem dX6_mayTo_88 : decode cX6_mayTo 88 = .ok (.goto 4, 3) := by decide +kernel
theorem dX6_mayTo_91 : decode cX6_mayTo 91 = .ok (.iconst 0, 1) := by decide +kernel
theorem dX6_mayTo_92 : decode cX6_mayTo 92 = .ok (.istore 8, 2) := by decide +kernel
theorem dX6_mayTo_94 : decode cX6_mayTo 94 = .ok (.aload_n 0, 1) := by decide +kernel
theorem dX6_mayTo_95 : decode cX6_mayTo 95 = .ok (.getfield 85, 3) := by decide +kernel
theorem dX6_mayTo_98 : decode cX6_mayTo 98 = .ok (.iconst 1, 1) := by decide +kernel
theorem dX6_mayTo_99 : decode cX6_mayTo 99 = .ok (.if_icmp .eq 11, 3) := by decide +kernel
theorem dX6_mayTo_102 : decode cX6_mayTo 102 = .ok (.aload_n 0, 1) := by decide +kernel
theorem dX6_mayTo_103 : decode cX6_mayTo 103 = .ok (.getfield 85, 3) := by decide +kernel
theorem dX6_mayTo_106 : decode cX6_mayTo 106 = .ok (.iconst 4, 1) := by decide +kernel
theorem dX6_mayTo_107 : decode cX6_mayTo 107 = .ok (.if_icmp .ne 27, 3) := by decide +kernel
theorem dX6_mayTo_110 : decode cX6_mayTo 110 = .ok (.iload 8, 2) := by decide +kernel
theorem dX6_mayTo_112 : decode cX6_mayTo 112 = .ok (.ifCond .eq 19, 3) := by decide +kernel
theorem dX6_mayTo_115 : decode cX6_mayTo 115 = .ok (.aload_n 0, 1) := by decide +kernel
theorem dX6_mayTo_116 : decode cX6_mayTo 116 = .ok (.iload_n 2, 1) := by decide +kernel
theorem dX6_mayTo_117 : decode cX6_mayTo 117 = .ok (.iload_n 3, 1) := by decide +kernel
theorem dX6_mayTo_118 : decode cX6_mayTo 118 = .ok (.ior, 1) := by decide +kernel
theorem dX6_mayTo_119 : decode cX6_mayTo 119 = .ok (.iload 7, 2) := by decide +kernel
theorem dX6_mayTo_121 : decode cX6_mayTo 121 = .ok (.invokevirtual 168, 3) := by decide +kernel
theorem dX6_mayTo_124 : decode cX6_mayTo 124 = .ok (.ifCond .ne 7, 3) := by decide +kernel
theorem dX6_mayTo_127 : decode cX6_mayTo 127 = .ok (.iconst 1, 1) := by decide +kernel
theorem dX6_mayTo_128 : decode cX6_mayTo 128 = .ok (.goto 4, 3) := by decide +kernel
theorem dX6_mayTo_131 : decode cX6_mayTo 131 = .ok (.iconst 0, 1) := by decide +kernel
theorem dX6_mayTo_132 : decode cX6_mayTo 132 = .ok (.istore 8, 2) := by decide +kernel
theorem dX6_mayTo_134 : decode cX6_mayTo 134 = .ok (.aload_n 0, 1) := by decide +kernel
theorem dX6_mayTo_135 : decode cX6_mayTo 135 = .ok (.getfield 85, 3) := by decide +kernel
theorem dX6_mayTo_138 : decode cX6_mayTo 138 = .ok (.iconst 4, 1) := by decide +kernel
theorem dX6_mayTo_139 : decode cX6_mayTo 139 = .ok (.if_icmp .ne 30, 3) := by decide +kernel
theorem dX6_mayTo_142 : decode cX6_mayTo 142 = .ok (.iload 8, 2) := by decide +kernel
theorem dX6_mayTo_144 : decode cX6_mayTo 144 = .ok (.ifCond .eq 22, 3) := by decide +kernel
theorem dX6_mayTo_147 : decode cX6_mayTo 147 = .ok (.aload_n 0, 1) := by decide +kernel
theorem dX6_mayTo_148 : decode cX6_mayTo 148 = .ok (.getfield 25, 3) := by decide +kernel
theorem dX6_mayTo_151 : decode cX6_mayTo 151 = .ok (.bipush 8, 2) := by decide +kernel
theorem dX6_mayTo_153 : decode cX6_mayTo 153 = .ok (.iload 7, 2) := by decide +kernel
theorem dX6_mayTo_155 : decode cX6_mayTo 155 = .ok (.imul, 1) := by decide +kernel
theorem dX6_mayTo_156 : decode cX6_mayTo 156 = .ok (.iload_n 1, 1) := by decide +kernel
theorem dX6_mayTo_157 : decode cX6_mayTo 157 = .ok (.iadd, 1) := by decide +kernel
theorem dX6_mayTo_158 : decode cX6_mayTo 158 = .ok (.iaload, 1) := by decide +kernel
theorem dX6_mayTo_159 : decode cX6_mayTo 159 = .ok (.ifCond .le 7, 3) := by decide +kernel
theorem dX6_mayTo_162 : decode cX6_mayTo 162 = .ok (.iconst 1, 1) := by decide +kernel
theorem dX6_mayTo_163 : decode cX6_mayTo 163 = .ok (.goto 4, 3) := by decide +kernel
theorem dX6_mayTo_166 : decode cX6_mayTo 166 = .ok (.iconst 0, 1) := by decide +kernel
theorem dX6_mayTo_167 : decode cX6_mayTo 167 = .ok (.istore 8, 2) := by decide +kernel
theorem dX6_mayTo_169 : decode cX6_mayTo 169 = .ok (.iload 6, 2) := by decide +kernel
theorem dX6_mayTo_171 : decode cX6_mayTo 171 = .ok (.iload 8, 2) := by decide +kernel
theorem dX6_mayTo_173 : decode cX6_mayTo 173 = .ok (.ifCond .eq 10, 3) := by decide +kernel
theorem dX6_mayTo_176 : decode cX6_mayTo 176 = .ok (.iconst 1, 1) := by decide +kernel
theorem dX6_mayTo_177 : decode cX6_mayTo 177 = .ok (.iload 7, 2) := by decide +kernel
theorem dX6_mayTo_179 : decode cX6_mayTo 179 = .ok (.ishl, 1) := by decide +kernel
theorem dX6_mayTo_180 : decode cX6_mayTo 180 = .ok (.goto 4, 3) := by decide +kernel
theorem dX6_mayTo_183 : decode cX6_mayTo 183 = .ok (.iconst 0, 1) := by decide +kernel
theorem dX6_mayTo_184 : decode cX6_mayTo 184 = .ok (.ior, 1) := by decide +kernel
theorem dX6_mayTo_185 : decode cX6_mayTo 185 = .ok (.istore 6, 2) := by decide +kernel
theorem dX6_mayTo_187 : decode cX6_mayTo 187 = .ok (.iinc 7 1, 3) := by decide +kernel
theorem dX6_mayTo_190 : decode cX6_mayTo 190 = .ok (.goto (-138), 3) := by decide +kernel
theorem dX6_mayTo_193 : decode cX6_mayTo 193 = .ok (.iload 6, 2) := by decide +kernel
theorem dX6_mayTo_195 : decode cX6_mayTo 195 = .ok (.ireturn, 1) := by decide +kernel
set_option maxRecDepth 20000 in
theorem ggX6_next_X6_mayTo : GoodIn wsX6_next wsX6_mayTo := goodIn_r _ [9, 10, 1, 2, 11, 12, 8, 13, 14, 15, 16, 17, 18, 19, 20, 21, 22, 23, 24, 25, 26, 27, 28, 29, 30, 31, 32, 33, 34, 35, 36, 37, 38, 39, 40, 41, 42, 43, 44, 45, 46, 47, 48, 49, 50, 51, 52, 53, 54, 55, 56, 57, 58, 59, 60, 61, 62, 63, 64, 65, 66, 67, 68, 69, 70, 71, 72, 73] (by decide +kernel) (by decide +kernel)
set_option maxRecDepth 20000 in
theorem gX6_next_X6_mayTo : GoodIn wsX6_next (wsV RX6 171 RX6 yX6_mayTo wsX6_mayTo) := goodIn_app (goodIn_of _ (by decide +kernel)) ggX6_next_X6_mayTo
set_option maxRecDepth 20000 in
theorem ggX6_next_X6_isIn : GoodIn wsX6_next wsX6_isIn := goodIn_r _ [16] (by decide +kernel) (by decide +kernel)
set_option maxRecDepth 20000 in
theorem gX6_next_X6_isIn : GoodIn wsX6_next (va_wsS RX6 161 yX6_isIn wsX6_isIn) := goodIn_app (goodIn_of _ (by decide +kernel)) ggX6_next_X6_isIn
set_option maxRecDepth 20000 in
theorem ggX6_next_X6_size : GoodIn wsX6_next wsX6_size := goodIn_r _ [13] (by decide +kernel) (by decide +kernel)
set_option maxRecDepth 20000 in
theorem gX6_next_X6_size : GoodIn wsX6_next (va_wsS RX6 165 yX6_size wsX6_size) := goodIn_app (goodIn_of _ (by decide +kernel)) ggX6_next_X6_size
theorem dX6_next_0 : decode cX6_next 0 = .ok (.aload_n 0, 1) := by decide +kernel
theorem dX6_next_1 : decode cX6_next 1 = .ok (.iload_n 1, 1) := by decide +kernel
theorem dX6_next_2 : decode cX6_next 2 = .ok (.iload_n 2, 1) := by decide +kernel
theorem dX6_next_3 : decode cX6_next 3 = .ok (.iload_n 3, 1) := by decide +kernel
theorem dX6_next_4 : decode cX6_next 4 = .ok (.iload 4, 2) := by decide +kernel
theorem dX6_next_6 : decode cX6_next 6 = .ok (.invokevirtual 171, 3) := by decide +kernel
theorem dX6_next_9 : decode cX6_next 9 = .ok (.istore 5, 2) := by decide +kernel
theorem dX6_next_11 : decode cX6_next 11 = .ok (.iconst (-1), 1) := by decide +kernel
theorem dX6_next_12 : decode cX6_next 12 = .ok (.istore 6, 2) := by decide +kernel
theorem dX6_next_14 : decode cX6_next 14 = .ok (.iconst 0, 1) := by decide +kernel
theorem dX6_next_15 : decode cX6_next 15 = .ok (.istore 7, 2) := by decide +kernel
theorem dX6_next_17 : decode cX6_next 17 = .ok (.iconst 0, 1) := by decide +kernel
theorem dX6_next_18 : decode cX6_next 18 = .ok (.istore 8, 2) := by decide +kernel
theorem dX6_next_20 : decode cX6_next 20 = .ok (.iconst 0, 1) := by decide +kernel
theorem dX6_next_21 : decode cX6_next 21 = .ok (.istore 9, 2) := by decide +kernel
theorem dX6_next_23 : decode cX6_next 23 = .ok (.iload 9, 2) := by decide +kernel
theorem dX6_next_25 : decode cX6_next 25 = .ok (.aload_n 0, 1) := by decide +kernel
theorem dX6_next_26 : decode cX6_next 26 = .ok (.getfield 78, 3) := by decide +kernel
theorem dX6_next_29 : decode cX6_next 29 = .ok (.if_icmp .ge 190, 3) := by decide +kernel
theorem dX6_next_32 : decode cX6_next 32 = .ok (.iload 5, 2) := by decide +kernel
theorem dX6_next_34 : decode cX6_next 34 = .ok (.iload 9, 2) := by decide +kernel
theorem dX6_next_36 : decode cX6_next 36 = .ok (.invokestatic 161, 3) := by decide +kernel
theorem dX6_next_39 : decode cX6_next 39 = .ok (.ifCond .eq 174, 3) := by decide +kernel
theorem dX6_next_42 : decode cX6_next 42 = .ok (.aload_n 0, 1) := by decide +kernel
theorem dX6_next_43 : decode cX6_next 43 = .ok (.getfield 25, 3) := by decide +kernel
theorem dX6_next_46 : decode cX6_next 46 = .ok (.bipush 8, 2) := by decide +kernel
theorem dX6_next_48 : decode cX6_next 48 = .ok (.iload_n 1, 1) := by decide +kernel
theorem dX6_next_49 : decode cX6_next 49 = .ok (.imul, 1) := by decide +kernel
theorem dX6_next_50 : decode cX6_next 50 = .ok (.iload 9, 2) := by decide +kernel
theorem dX6_next_52 : decode cX6_next 52 = .ok (.iadd, 1) := by decide +kernel
theorem dX6_next_53 : decode cX6_next 53 = .ok (.iaload, 1) := by decide +kernel
theorem dX6_next_54 : decode cX6_next 54 = .ok (.istore 10, 2) := by decide +kernel
theorem dX6_next_56 : decode cX6_next 56 = .ok (.iconst 0, 1) := by decide +kernel
theorem dX6_next_57 : decode cX6_next 57 = .ok (.istore 11, 2) := by decide +kernel
theorem dX6_next_59 : decode cX6_next 59 = .ok (.iconst 0, 1) := by decide +kernel
theorem dX6_next_60 : decode cX6_next 60 = .ok (.istore 12, 2) := by decide +kernel
theorem dX6_next_62 : decode cX6_next 62 = .ok (.aload_n 0, 1) := by decide +kernel
theorem dX6_next_63 : decode cX6_next 63 = .ok (.getfield 13, 3) := by decide +kernel
theorem dX6_next_66 : decode cX6_next 66 = .ok (.iload_n 1, 1) := by decide +kernel
theorem dX6_next_67 : decode cX6_next 67 = .ok (.iaload, 1) := by decide +kernel
theorem dX6_next_68 : decode cX6_next 68 = .ok (.tableswitch 107 0 3 #[32, 39, 52, 79], 32) := by decide +kernel
theorem dX6_next_100 : decode cX6_next 100 = .ok (.iload 10, 2) := by decide +kernel
theorem dX6_next_102 : decode cX6_next 102 = .ok (.istore 11, 2) := by decide +kernel
theorem dX6_next_104 : decode cX6_next 104 = .ok (.goto 71, 3) := by decide +kernel
theorem dX6_next_107 : decode cX6_next 107 = .ok (.aload_n 0, 1) := by decide +kernel
theorem dX6_next_108 : decode cX6_next 108 = .ok (.getfield 19, 3) := by decide +kernel
theorem dX6_next_111 : decode cX6_next 111 = .ok (.iload 9, 2) := by decide +kernel
theorem dX6_next_113 : decode cX6_next 113 = .ok (.iaload, 1) := by decide +kernel
theorem dX6_next_114 : decode cX6_next 114 = .ok (.ineg, 1) := by decide +kernel
theorem dX6_next_115 : decode cX6_next 115 = .ok (.istore 11, 2) := by decide +kernel
theorem dX6_next_117 : decode cX6_next 117 = .ok (.goto 58, 3) := by decide +kernel
theorem dX6_next_120 : decode cX6_next 120 = .ok (.aload_n 0, 1) := by decide +kernel
theorem dX6_next_121 : decode cX6_next 121 = .ok (.iload 9, 2) := by decide +kernel
theorem dX6_next_123 : decode cX6_next 123 = .ok (.iload_n 2, 1) := by decide +kernel
theorem dX6_next_124 : decode cX6_next 124 = .ok (.iconst 1, 1) := by decide +kernel
theorem dX6_next_125 : decode cX6_next 125 = .ok (.iload 9, 2) := by decide +kernel
theorem dX6_next_127 : decode cX6_next 127 = .ok (.ishl, 1) := by decide +kernel
theorem dX6_next_128 : decode cX6_next 128 = .ok (.ior, 1) := by decide +kernel
theorem dX6_next_129 : decode cX6_next 129 = .ok (.iload_n 3, 1) := by decide +kernel
theorem dX6_next_130 : decode cX6_next 130 = .ok (.iload 4, 2) := by decide +kernel
theorem dX6_next_132 : decode cX6_next 132 = .ok (.invokevirtual 171, 3) := by decide +kernel
theorem dX6_next_135 : decode cX6_next 135 = .ok (.invokestatic 165, 3) := by decide +kernel
theorem dX6_next_138 : decode cX6_next 138 = .ok (.istore 11, 2) := by decide +kernel
theorem dX6_next_140 : decode cX6_next 140 = .ok (.iload 10, 2) := by decide +kernel
theorem dX6_next_142 : decode cX6_next 142 = .ok (.istore 12, 2) := by decide +kernel
theorem dX6_next_144 : decode cX6_next 144 = .ok (.goto 31, 3) := by decide +kernel
theorem dX6_next_147 : decode cX6_next 147 = .ok (.aload_n 0, 1) := by decide +kernel
theorem dX6_next_148 : decode cX6_next 148 = .ok (.iload 9, 2) := by decide +kernel
theorem dX6_next_150 : decode cX6_next 150 = .ok (.iload_n 2, 1) := by decide +kernel
theorem dX6_next_151 : decode cX6_next 151 = .ok (.iconst 1, 1) := by decide +kernel
theorem dX6_next_152 : decode cX6_next 152 = .ok (.iload 9, 2) := by decide +kernel
theorem dX6_next_154 : decode cX6_next 154 = .ok (.ishl, 1) := by decide +kernel
theorem dX6_next_155 : decode cX6_next 155 = .ok (.ior, 1) := by decide +kernel
theorem dX6_next_156 : decode cX6_next 156 = .ok (.iload_n 3, 1) := by decide +kernel
theorem dX6_next_157 : decode cX6_next 157 = .ok (.iload 4, 2) := by decide +kernel
theorem dX6_next_159 : decode cX6_next 159 = .ok (.invokevirtual 171, 3) := by decide +kernel
theorem dX6_next_162 : decode cX6_next 162 = .ok (.invokestatic 165, 3) := by decide +kernel
theorem dX6_next_165 : decode cX6_next 165 = .ok (.ineg, 1) := by decide +kernel
theorem dX6_next_166 : decode cX6_next 166 = .ok (.istore 11, 2) := by decide +kernel
theorem dX6_next_168 : decode cX6_next 168 = .ok (.iload 10, 2) := by decide +kernel
theorem dX6_next_170 : decode cX6_next 170 = .ok (.istore 12, 2) := by decide +kernel
theorem dX6_next_172 : decode cX6_next 172 = .ok (.goto 3, 3) := by decide +kernel
theorem dX6_next_175 : decode cX6_next 175 = .ok (.iload 6, 2) := by decide +kernel
theorem dX6_next_177 : decode cX6_next 177 = .ok (.ifCond .lt 24, 3) := by decide +kernel
theorem dX6_next_180 : decode cX6_next 180 = .ok (.iload 11, 2) := by decide +kernel
theorem dX6_next_182 : decode cX6_next 182 = .ok (.iload 7, 2) := by decide +kernel
theorem dX6_next_184 : decode cX6_next 184 = .ok (.if_icmp .lt 17, 3) := by decide +kernel
theorem dX6_next_187 : decode cX6_next 187 = .ok (.iload 11, 2) := by decide +kernel
theorem dX6_next_189 : decode cX6_next 189 = .ok (.iload 7, 2) := by decide +kernel
theorem dX6_next_191 : decode cX6_next 191 = .ok (.if_icmp .ne 22, 3) := by decide +kernel
theorem dX6_next_194 : decode cX6_next 194 = .ok (.iload 12, 2) := by decide +kernel
theorem dX6_next_196 : decode cX6_next 196 = .ok (.iload 8, 2) := by decide +kernel
theorem dX6_next_198 : decode cX6_next 198 = .ok (.if_icmp .ge 15, 3) := by decide +kernel
theorem dX6_next_201 : decode cX6_next 201 = .ok (.iload 9, 2) := by decide +kernel
theorem dX6_next_203 : decode cX6_next 203 = .ok (.istore 6, 2) := by decide +kernel
theorem dX6_next_205 : decode cX6_next 205 = .ok (.iload 11, 2) := by decide +kernel
theorem dX6_next_207 : decode cX6_next 207 = .ok (.istore 7, 2) := by decide +kernel
theorem dX6_next_209 : decode cX6_next 209 = .ok (.iload 12, 2) := by decide +kernel
theorem dX6_next_211 : decode cX6_next 211 = .ok (.istore 8, 2) := by decide +kernel
theorem dX6_next_213 : decode cX6_next 213 = .ok (.iinc 9 1, 3) := by decide +kernel
theorem dX6_next_216 : decode cX6_next 216 = .ok (.goto (-193), 3) := by decide +kernel
theorem dX6_next_219 : decode cX6_next 219 = .ok (.iload 6, 2) := by decide +kernel
theorem dX6_next_221 : decode cX6_next 221 = .ok (.ireturn, 1) := by decide +kernel
theorem dX6_says_0 : decode cX6_says 0 = .ok (.aload_n 0, 1) := by decide +kernel
theorem dX6_says_1 : decode cX6_says 1 = .ok (.getfield 19, 3) := by decide +kernel
theorem dX6_says_4 : decode cX6_says 4 = .ok (.iload_n 1, 1) := by decide +kernel
theorem dX6_says_5 : decode cX6_says 5 = .ok (.iaload, 1) := by decide +kernel
theorem dX6_says_6 : decode cX6_says 6 = .ok (.istore 4, 2) := by decide +kernel
theorem dX6_says_8 : decode cX6_says 8 = .ok (.aload_n 0, 1) := by decide +kernel
theorem dX6_says_9 : decode cX6_says 9 = .ok (.getfield 16, 3) := by decide +kernel
theorem dX6_says_12 : decode cX6_says 12 = .ok (.iload_n 1, 1) := by decide +kernel
theorem dX6_says_13 : decode cX6_says 13 = .ok (.iaload, 1) := by decide +kernel
theorem dX6_says_14 : decode cX6_says 14 = .ok (.tableswitch 75 0 3 #[30, 47, 50, 61], 30) := by decide +kernel
theorem dX6_says_44 : decode cX6_says 44 = .ok (.iload_n 2, 1) := by decide +kernel
theorem dX6_says_45 : decode cX6_says 45 = .ok (.ifCond .eq 13, 3) := by decide +kernel
theorem dX6_says_48 : decode cX6_says 48 = .ok (.iload_n 3, 1) := by decide +kernel
theorem dX6_says_49 : decode cX6_says 49 = .ok (.iload 4, 2) := by decide +kernel
theorem dX6_says_51 : decode cX6_says 51 = .ok (.if_icmp .le 7, 3) := by decide +kernel
theorem dX6_says_54 : decode cX6_says 54 = .ok (.iload_n 3, 1) := by decide +kernel
theorem dX6_says_55 : decode cX6_says 55 = .ok (.goto 5, 3) := by decide +kernel
theorem dX6_says_58 : decode cX6_says 58 = .ok (.iload 4, 2) := by decide +kernel
theorem dX6_says_60 : decode cX6_says 60 = .ok (.ireturn, 1) := by decide +kernel
theorem dX6_says_61 : decode cX6_says 61 = .ok (.iload 4, 2) := by decide +kernel
theorem dX6_says_63 : decode cX6_says 63 = .ok (.ireturn, 1) := by decide +kernel
theorem dX6_says_64 : decode cX6_says 64 = .ok (.iload_n 2, 1) := by decide +kernel
theorem dX6_says_65 : decode cX6_says 65 = .ok (.ifCond .eq 7, 3) := by decide +kernel
theorem dX6_says_68 : decode cX6_says 68 = .ok (.iload_n 3, 1) := by decide +kernel
theorem dX6_says_69 : decode cX6_says 69 = .ok (.goto 5, 3) := by decide +kernel
theorem dX6_says_72 : decode cX6_says 72 = .ok (.iload 4, 2) := by decide +kernel
theorem dX6_says_74 : decode cX6_says 74 = .ok (.ireturn, 1) := by decide +kernel
theorem dX6_says_75 : decode cX6_says 75 = .ok (.bipush 100, 2) := by decide +kernel
theorem dX6_says_77 : decode cX6_says 77 = .ok (.iload_n 2, 1) := by decide +kernel
theorem dX6_says_78 : decode cX6_says 78 = .ok (.ifCond .eq 7, 3) := by decide +kernel
theorem dX6_says_81 : decode cX6_says 81 = .ok (.iload_n 3, 1) := by decide +kernel
theorem dX6_says_82 : decode cX6_says 82 = .ok (.goto 5, 3) := by decide +kernel
theorem dX6_says_85 : decode cX6_says 85 = .ok (.iload 4, 2) := by decide +kernel
theorem dX6_says_87 : decode cX6_says 87 = .ok (.isub, 1) := by decide +kernel
theorem dX6_says_88 : decode cX6_says 88 = .ok (.ireturn, 1) := by decide +kernel
theorem dX6_says_89 : decode cX6_says 89 = .ok (.iload_n 2, 1) := by decide +kernel
theorem dX6_says_90 : decode cX6_says 90 = .ok (.ifCond .eq 12, 3) := by decide +kernel
theorem dX6_says_93 : decode cX6_says 93 = .ok (.iload 4, 2) := by decide +kernel
theorem dX6_says_95 : decode cX6_says 95 = .ok (.iload_n 3, 1) := by decide +kernel
theorem dX6_says_96 : decode cX6_says 96 = .ok (.iadd, 1) := by decide +kernel
theorem dX6_says_97 : decode cX6_says 97 = .ok (.iconst 2, 1) := by decide +kernel
theorem dX6_says_98 : decode cX6_says 98 = .ok (.idiv, 1) := by decide +kernel
theorem dX6_says_99 : decode cX6_says 99 = .ok (.goto 5, 3) := by decide +kernel
theorem dX6_says_102 : decode cX6_says 102 = .ok (.iload 4, 2) := by decide +kernel
theorem dX6_says_104 : decode cX6_says 104 = .ok (.ireturn, 1) := by decide +kernel
set_option maxRecDepth 20000 in
theorem ggX6_go_X6_next : GoodIn wsX6_go wsX6_next := goodIn_r _ [7, 8, 9, 10, 11, 12, 13, 14, 6, 15, 16, 17, 18, 19, 20, 21, 22, 23, 24, 25, 26, 27, 28, 29, 30, 31, 32, 33, 34, 35, 36, 37, 38, 39, 40, 41, 42, 43, 44, 45, 46, 47, 48, 49, 50, 51, 52, 53, 54, 55, 56, 57, 58, 59, 60, 61, 62, 63, 64, 65, 66, 67, 68, 69, 70, 71, 72, 73, 74, 75, 76, 77, 78, 79] (by decide +kernel) (by decide +kernel)
set_option maxRecDepth 20000 in
theorem gX6_go_X6_next : GoodIn wsX6_go (wsV RX6 178 RX6 yX6_next wsX6_next) := goodIn_app (goodIn_of _ (by decide +kernel)) ggX6_go_X6_next
theorem dX6_go_0 : decode cX6_go 0 = .ok (.aload_n 0, 1) := by decide +kernel
theorem dX6_go_1 : decode cX6_go 1 = .ok (.iconst 0, 1) := by decide +kernel
theorem dX6_go_2 : decode cX6_go 2 = .ok (.putfield 175, 3) := by decide +kernel
theorem dX6_go_5 : decode cX6_go 5 = .ok (.iconst 0, 1) := by decide +kernel
theorem dX6_go_6 : decode cX6_go 6 = .ok (.istore 4, 2) := by decide +kernel
theorem dX6_go_8 : decode cX6_go 8 = .ok (.iload_n 1, 1) := by decide +kernel
theorem dX6_go_9 : decode cX6_go 9 = .ok (.istore 5, 2) := by decide +kernel
theorem dX6_go_11 : decode cX6_go 11 = .ok (.iload 5, 2) := by decide +kernel
theorem dX6_go_13 : decode cX6_go 13 = .ok (.ifCond .lt 48, 3) := by decide +kernel
theorem dX6_go_16 : decode cX6_go 16 = .ok (.aload_n 0, 1) := by decide +kernel
theorem dX6_go_17 : decode cX6_go 17 = .ok (.getfield 59, 3) := by decide +kernel
theorem dX6_go_20 : decode cX6_go 20 = .ok (.aload_n 0, 1) := by decide +kernel
theorem dX6_go_21 : decode cX6_go 21 = .ok (.getfield 175, 3) := by decide +kernel
theorem dX6_go_24 : decode cX6_go 24 = .ok (.iload 5, 2) := by decide +kernel
theorem dX6_go_26 : decode cX6_go 26 = .ok (.iastore, 1) := by decide +kernel
theorem dX6_go_27 : decode cX6_go 27 = .ok (.aload_n 0, 1) := by decide +kernel
theorem dX6_go_28 : decode cX6_go 28 = .ok (.dup, 1) := by decide +kernel
theorem dX6_go_29 : decode cX6_go 29 = .ok (.getfield 175, 3) := by decide +kernel
theorem dX6_go_32 : decode cX6_go 32 = .ok (.iconst 1, 1) := by decide +kernel
theorem dX6_go_33 : decode cX6_go 33 = .ok (.iadd, 1) := by decide +kernel
theorem dX6_go_34 : decode cX6_go 34 = .ok (.putfield 175, 3) := by decide +kernel
theorem dX6_go_37 : decode cX6_go 37 = .ok (.iload 4, 2) := by decide +kernel
theorem dX6_go_39 : decode cX6_go 39 = .ok (.iconst 1, 1) := by decide +kernel
theorem dX6_go_40 : decode cX6_go 40 = .ok (.iload 5, 2) := by decide +kernel
theorem dX6_go_42 : decode cX6_go 42 = .ok (.ishl, 1) := by decide +kernel
theorem dX6_go_43 : decode cX6_go 43 = .ok (.ior, 1) := by decide +kernel
theorem dX6_go_44 : decode cX6_go 44 = .ok (.istore 4, 2) := by decide +kernel
theorem dX6_go_46 : decode cX6_go 46 = .ok (.aload_n 0, 1) := by decide +kernel
theorem dX6_go_47 : decode cX6_go 47 = .ok (.iload 5, 2) := by decide +kernel
theorem dX6_go_49 : decode cX6_go 49 = .ok (.iload 4, 2) := by decide +kernel
theorem dX6_go_51 : decode cX6_go 51 = .ok (.iload_n 2, 1) := by decide +kernel
theorem dX6_go_52 : decode cX6_go 52 = .ok (.iload_n 3, 1) := by decide +kernel
theorem dX6_go_53 : decode cX6_go 53 = .ok (.invokevirtual 178, 3) := by decide +kernel
theorem dX6_go_56 : decode cX6_go 56 = .ok (.istore 5, 2) := by decide +kernel
theorem dX6_go_58 : decode cX6_go 58 = .ok (.goto (-47), 3) := by decide +kernel
theorem dX6_go_61 : decode cX6_go 61 = .ok (.return_, 1) := by decide +kernel
theorem dX6_time_0 : decode cX6_time 0 = .ok (.iconst 0, 1) := by decide +kernel
theorem dX6_time_1 : decode cX6_time 1 = .ok (.istore_n 1, 1) := by decide +kernel
theorem dX6_time_2 : decode cX6_time 2 = .ok (.iconst 1, 1) := by decide +kernel
theorem dX6_time_3 : decode cX6_time 3 = .ok (.istore_n 2, 1) := by decide +kernel
theorem dX6_time_4 : decode cX6_time 4 = .ok (.iload_n 2, 1) := by decide +kernel
theorem dX6_time_5 : decode cX6_time 5 = .ok (.aload_n 0, 1) := by decide +kernel
theorem dX6_time_6 : decode cX6_time 6 = .ok (.getfield 175, 3) := by decide +kernel
theorem dX6_time_9 : decode cX6_time 9 = .ok (.if_icmp .ge 37, 3) := by decide +kernel
theorem dX6_time_12 : decode cX6_time 12 = .ok (.iload_n 1, 1) := by decide +kernel
theorem dX6_time_13 : decode cX6_time 13 = .ok (.iconst 2, 1) := by decide +kernel
