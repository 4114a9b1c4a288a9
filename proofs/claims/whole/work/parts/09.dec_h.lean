theorem dX10_isUnit_27 : decode cX10_isUnit 27 = .ok (.if_icmp .eq 11, 3) := by decide +kernel
theorem dX10_isUnit_30 : decode cX10_isUnit 30 = .ok (.iload_n 3, 1) := by decide +kernel
theorem dX10_isUnit_31 : decode cX10_isUnit 31 = .ok (.iload_n 2, 1) := by decide +kernel
theorem dX10_isUnit_32 : decode cX10_isUnit 32 = .ok (.ishr, 1) := by decide +kernel
theorem dX10_isUnit_33 : decode cX10_isUnit 33 = .ok (.iconst 1, 1) := by decide +kernel
theorem dX10_isUnit_34 : decode cX10_isUnit 34 = .ok (.iand, 1) := by decide +kernel
theorem dX10_isUnit_35 : decode cX10_isUnit 35 = .ok (.ifCond .ne 5, 3) := by decide +kernel
theorem dX10_isUnit_38 : decode cX10_isUnit 38 = .ok (.iconst 0, 1) := by decide +kernel
theorem dX10_isUnit_39 : decode cX10_isUnit 39 = .ok (.ireturn, 1) := by decide +kernel
theorem dX10_isUnit_40 : decode cX10_isUnit 40 = .ok (.iconst 0, 1) := by decide +kernel
theorem dX10_isUnit_41 : decode cX10_isUnit 41 = .ok (.istore 4, 2) := by decide +kernel
theorem dX10_isUnit_43 : decode cX10_isUnit 43 = .ok (.iload_n 2, 1) := by decide +kernel
theorem dX10_isUnit_44 : decode cX10_isUnit 44 = .ok (.iconst 1, 1) := by decide +kernel
theorem dX10_isUnit_45 : decode cX10_isUnit 45 = .ok (.iadd, 1) := by decide +kernel
theorem dX10_isUnit_46 : decode cX10_isUnit 46 = .ok (.istore 5, 2) := by decide +kernel
theorem dX10_isUnit_48 : decode cX10_isUnit 48 = .ok (.iload 5, 2) := by decide +kernel
theorem dX10_isUnit_50 : decode cX10_isUnit 50 = .ok (.aload_n 0, 1) := by decide +kernel
theorem dX10_isUnit_51 : decode cX10_isUnit 51 = .ok (.getfield 19, 3) := by decide +kernel
theorem dX10_isUnit_54 : decode cX10_isUnit 54 = .ok (.iload_n 1, 1) := by decide +kernel
theorem dX10_isUnit_55 : decode cX10_isUnit 55 = .ok (.iaload, 1) := by decide +kernel
theorem dX10_isUnit_56 : decode cX10_isUnit 56 = .ok (.if_icmp .ge 40, 3) := by decide +kernel
theorem dX10_isUnit_59 : decode cX10_isUnit 59 = .ok (.iload 4, 2) := by decide +kernel
theorem dX10_isUnit_61 : decode cX10_isUnit 61 = .ok (.iload_n 3, 1) := by decide +kernel
theorem dX10_isUnit_62 : decode cX10_isUnit 62 = .ok (.iload 5, 2) := by decide +kernel
theorem dX10_isUnit_64 : decode cX10_isUnit 64 = .ok (.ishr, 1) := by decide +kernel
theorem dX10_isUnit_65 : decode cX10_isUnit 65 = .ok (.iconst 1, 1) := by decide +kernel
theorem dX10_isUnit_66 : decode cX10_isUnit 66 = .ok (.iand, 1) := by decide +kernel
theorem dX10_isUnit_67 : decode cX10_isUnit 67 = .ok (.iconst 1, 1) := by decide +kernel
theorem dX10_isUnit_68 : decode cX10_isUnit 68 = .ok (.if_icmp .ne 18, 3) := by decide +kernel
theorem dX10_isUnit_71 : decode cX10_isUnit 71 = .ok (.aload_n 0, 1) := by decide +kernel
theorem dX10_isUnit_72 : decode cX10_isUnit 72 = .ok (.iload_n 1, 1) := by decide +kernel
theorem dX10_isUnit_73 : decode cX10_isUnit 73 = .ok (.iload 5, 2) := by decide +kernel
theorem dX10_isUnit_75 : decode cX10_isUnit 75 = .ok (.iload_n 2, 1) := by decide +kernel
theorem dX10_isUnit_76 : decode cX10_isUnit 76 = .ok (.invokevirtual 176, 3) := by decide +kernel
theorem dX10_isUnit_79 : decode cX10_isUnit 79 = .ok (.ifCond .eq 7, 3) := by decide +kernel
theorem dX10_isUnit_82 : decode cX10_isUnit 82 = .ok (.iconst 1, 1) := by decide +kernel
theorem dX10_isUnit_83 : decode cX10_isUnit 83 = .ok (.goto 4, 3) := by decide +kernel
theorem dX10_isUnit_86 : decode cX10_isUnit 86 = .ok (.iconst 0, 1) := by decide +kernel
theorem dX10_isUnit_87 : decode cX10_isUnit 87 = .ok (.iadd, 1) := by decide +kernel
theorem dX10_isUnit_88 : decode cX10_isUnit 88 = .ok (.istore 4, 2) := by decide +kernel
theorem dX10_isUnit_90 : decode cX10_isUnit 90 = .ok (.iinc 5 1, 3) := by decide +kernel
theorem dX10_isUnit_93 : decode cX10_isUnit 93 = .ok (.goto (-45), 3) := by decide +kernel
theorem dX10_isUnit_96 : decode cX10_isUnit 96 = .ok (.iload 4, 2) := by decide +kernel
theorem dX10_isUnit_98 : decode cX10_isUnit 98 = .ok (.iconst 1, 1) := by decide +kernel
theorem dX10_isUnit_99 : decode cX10_isUnit 99 = .ok (.if_icmp .le 7, 3) := by decide +kernel
theorem dX10_isUnit_102 : decode cX10_isUnit 102 = .ok (.iconst 1, 1) := by decide +kernel
theorem dX10_isUnit_103 : decode cX10_isUnit 103 = .ok (.goto 4, 3) := by decide +kernel
theorem dX10_isUnit_106 : decode cX10_isUnit 106 = .ok (.iconst 0, 1) := by decide +kernel
theorem dX10_isUnit_107 : decode cX10_isUnit 107 = .ok (.ireturn, 1) := by decide +kernel
set_option maxRecDepth 20000 in
theorem ggX10_likeOf_X10_isStronger : GoodIn wsX10_likeOf wsX10_isStronger := goodIn_r _ [6] (by decide +kernel) (by decide +kernel)
set_option maxRecDepth 20000 in
theorem gX10_likeOf_X10_isStronger : GoodIn wsX10_likeOf (va_wsS RX10 104 yX10_isStronger wsX10_isStronger) := goodIn_app (goodIn_of _ (by decide +kernel)) ggX10_likeOf_X10_isStronger
theorem dX10_likeOf_0 : decode cX10_likeOf 0 = .ok (.iconst 0, 1) := by decide +kernel
theorem dX10_likeOf_1 : decode cX10_likeOf 1 = .ok (.istore_n 3, 1) := by decide +kernel
theorem dX10_likeOf_2 : decode cX10_likeOf 2 = .ok (.iload_n 3, 1) := by decide +kernel
theorem dX10_likeOf_3 : decode cX10_likeOf 3 = .ok (.aload_n 0, 1) := by decide +kernel
theorem dX10_likeOf_4 : decode cX10_likeOf 4 = .ok (.getfield 114, 3) := by decide +kernel
theorem dX10_likeOf_7 : decode cX10_likeOf 7 = .ok (.if_icmp .ge 44, 3) := by decide +kernel
theorem dX10_likeOf_10 : decode cX10_likeOf 10 = .ok (.iload_n 2, 1) := by decide +kernel
theorem dX10_likeOf_11 : decode cX10_likeOf 11 = .ok (.iconst 1, 1) := by decide +kernel
theorem dX10_likeOf_12 : decode cX10_likeOf 12 = .ok (.if_icmp .ne 13, 3) := by decide +kernel
theorem dX10_likeOf_15 : decode cX10_likeOf 15 = .ok (.aload_n 0, 1) := by decide +kernel
theorem dX10_likeOf_16 : decode cX10_likeOf 16 = .ok (.getfield 34, 3) := by decide +kernel
theorem dX10_likeOf_19 : decode cX10_likeOf 19 = .ok (.iload_n 3, 1) := by decide +kernel
theorem dX10_likeOf_20 : decode cX10_likeOf 20 = .ok (.iaload, 1) := by decide +kernel
theorem dX10_likeOf_21 : decode cX10_likeOf 21 = .ok (.iload_n 1, 1) := by decide +kernel
theorem dX10_likeOf_22 : decode cX10_likeOf 22 = .ok (.if_icmp .eq 21, 3) := by decide +kernel
theorem dX10_likeOf_25 : decode cX10_likeOf 25 = .ok (.iload_n 2, 1) := by decide +kernel
theorem dX10_likeOf_26 : decode cX10_likeOf 26 = .ok (.iconst 2, 1) := by decide +kernel
theorem dX10_likeOf_27 : decode cX10_likeOf 27 = .ok (.if_icmp .ne 18, 3) := by decide +kernel
theorem dX10_likeOf_30 : decode cX10_likeOf 30 = .ok (.aload_n 0, 1) := by decide +kernel
theorem dX10_likeOf_31 : decode cX10_likeOf 31 = .ok (.getfield 34, 3) := by decide +kernel
theorem dX10_likeOf_34 : decode cX10_likeOf 34 = .ok (.iload_n 3, 1) := by decide +kernel
theorem dX10_likeOf_35 : decode cX10_likeOf 35 = .ok (.iaload, 1) := by decide +kernel
theorem dX10_likeOf_36 : decode cX10_likeOf 36 = .ok (.iload_n 1, 1) := by decide +kernel
theorem dX10_likeOf_37 : decode cX10_likeOf 37 = .ok (.invokestatic 104, 3) := by decide +kernel
theorem dX10_likeOf_40 : decode cX10_likeOf 40 = .ok (.ifCond .eq 5, 3) := by decide +kernel
theorem dX10_likeOf_43 : decode cX10_likeOf 43 = .ok (.iload_n 3, 1) := by decide +kernel
theorem dX10_likeOf_44 : decode cX10_likeOf 44 = .ok (.ireturn, 1) := by decide +kernel
theorem dX10_likeOf_45 : decode cX10_likeOf 45 = .ok (.iinc 3 1, 3) := by decide +kernel
theorem dX10_likeOf_48 : decode cX10_likeOf 48 = .ok (.goto (-46), 3) := by decide +kernel
theorem dX10_likeOf_51 : decode cX10_likeOf 51 = .ok (.bipush (-9), 2) := by decide +kernel
theorem dX10_likeOf_53 : decode cX10_likeOf 53 = .ok (.ireturn, 1) := by decide +kernel
set_option maxRecDepth 20000 in
theorem ggX10_joined_X10_likeOf : GoodIn wsX10_joined wsX10_likeOf := goodIn_r _ [5, 6, 7, 8, 9, 4, 10, 18, 19, 20, 21, 22, 23, 24, 25, 26, 27, 28, 29, 30, 31, 32, 33, 34, 35, 36, 37, 38, 39, 40, 41, 42, 43, 44, 45, 46, 47, 48, 49] (by decide +kernel) (by decide +kernel)
set_option maxRecDepth 20000 in
theorem gX10_joined_X10_likeOf : GoodIn wsX10_joined (wsV RX10 216 RX10 yX10_likeOf wsX10_likeOf) := goodIn_app (goodIn_of _ (by decide +kernel)) ggX10_joined_X10_likeOf
set_option maxRecDepth 20000 in
theorem ggX10_joined_X10_add : GoodIn wsX10_joined wsX10_add := goodIn_r _ [14, 7, 6, 15, 16, 17, 18, 19, 20, 21, 22, 23, 24, 25, 26, 27, 28, 29, 30, 31, 32, 33, 34, 35, 36, 37, 38, 39, 40, 41, 42, 43, 44, 45, 46, 47, 48, 49] (by decide +kernel) (by decide +kernel)
set_option maxRecDepth 20000 in
theorem gX10_joined_X10_add : GoodIn wsX10_joined (wsV RX10 127 RX10 yX10_add wsX10_add) := goodIn_app (goodIn_of _ (by decide +kernel)) ggX10_joined_X10_add
theorem dX10_joined_0 : decode cX10_joined 0 = .ok (.aload_n 0, 1) := by decide +kernel
theorem dX10_joined_1 : decode cX10_joined 1 = .ok (.iload_n 1, 1) := by decide +kernel
theorem dX10_joined_2 : decode cX10_joined 2 = .ok (.iload 5, 2) := by decide +kernel
theorem dX10_joined_4 : decode cX10_joined 4 = .ok (.invokevirtual 216, 3) := by decide +kernel
theorem dX10_joined_7 : decode cX10_joined 7 = .ok (.istore 6, 2) := by decide +kernel
theorem dX10_joined_9 : decode cX10_joined 9 = .ok (.iload 6, 2) := by decide +kernel
theorem dX10_joined_11 : decode cX10_joined 11 = .ok (.bipush (-9), 2) := by decide +kernel
theorem dX10_joined_13 : decode cX10_joined 13 = .ok (.if_icmp .ne 15, 3) := by decide +kernel
theorem dX10_joined_16 : decode cX10_joined 16 = .ok (.aload_n 0, 1) := by decide +kernel
theorem dX10_joined_17 : decode cX10_joined 17 = .ok (.iload_n 1, 1) := by decide +kernel
theorem dX10_joined_18 : decode cX10_joined 18 = .ok (.iload_n 2, 1) := by decide +kernel
theorem dX10_joined_19 : decode cX10_joined 19 = .ok (.iload_n 3, 1) := by decide +kernel
theorem dX10_joined_20 : decode cX10_joined 20 = .ok (.iload 4, 2) := by decide +kernel
theorem dX10_joined_22 : decode cX10_joined 22 = .ok (.invokevirtual 127, 3) := by decide +kernel
theorem dX10_joined_25 : decode cX10_joined 25 = .ok (.goto 5, 3) := by decide +kernel
theorem dX10_joined_28 : decode cX10_joined 28 = .ok (.iload 6, 2) := by decide +kernel
theorem dX10_joined_30 : decode cX10_joined 30 = .ok (.ireturn, 1) := by decide +kernel
set_option maxRecDepth 20000 in
theorem ggX10_cutNew_X10_cutOf : GoodIn wsX10_cutNew wsX10_cutOf := goodIn_r _ [5, 6, 7, 4, 8, 9, 10, 11] (by decide +kernel) (by decide +kernel)
set_option maxRecDepth 20000 in
theorem gX10_cutNew_X10_cutOf : GoodIn wsX10_cutNew (va_wsS RX10 100 yX10_cutOf wsX10_cutOf) := goodIn_app (goodIn_of _ (by decide +kernel)) ggX10_cutNew_X10_cutOf
set_option maxRecDepth 20000 in
theorem ggX10_cutNew_X10_joined : GoodIn wsX10_cutNew wsX10_joined := goodIn_r _ [15, 16, 17, 18, 4, 19, 20, 1, 21, 22, 23, 24, 25, 26, 27, 28, 29, 30, 31, 32, 33, 34, 35, 36, 37, 38, 39, 40, 41, 42, 43, 44, 45, 46, 47, 48, 49, 50, 51, 52, 53, 54, 55, 56, 57, 58, 59, 60, 61, 62] (by decide +kernel) (by decide +kernel)
set_option maxRecDepth 20000 in
theorem gX10_cutNew_X10_joined : GoodIn wsX10_cutNew (wsV RX10 219 RX10 yX10_joined wsX10_joined) := goodIn_app (goodIn_of _ (by decide +kernel)) ggX10_cutNew_X10_joined
theorem dX10_cutNew_0 : decode cX10_cutNew 0 = .ok (.aload_n 0, 1) := by decide +kernel
theorem dX10_cutNew_1 : decode cX10_cutNew 1 = .ok (.getfield 34, 3) := by decide +kernel
theorem dX10_cutNew_4 : decode cX10_cutNew 4 = .ok (.iload_n 1, 1) := by decide +kernel
theorem dX10_cutNew_5 : decode cX10_cutNew 5 = .ok (.iaload, 1) := by decide +kernel
theorem dX10_cutNew_6 : decode cX10_cutNew 6 = .ok (.iload_n 3, 1) := by decide +kernel
theorem dX10_cutNew_7 : decode cX10_cutNew 7 = .ok (.ishr, 1) := by decide +kernel
theorem dX10_cutNew_8 : decode cX10_cutNew 8 = .ok (.iconst 1, 1) := by decide +kernel
theorem dX10_cutNew_9 : decode cX10_cutNew 9 = .ok (.iand, 1) := by decide +kernel
theorem dX10_cutNew_10 : decode cX10_cutNew 10 = .ok (.ifCond .ne 5, 3) := by decide +kernel
theorem dX10_cutNew_13 : decode cX10_cutNew 13 = .ok (.iload_n 1, 1) := by decide +kernel
theorem dX10_cutNew_14 : decode cX10_cutNew 14 = .ok (.ireturn, 1) := by decide +kernel
theorem dX10_cutNew_15 : decode cX10_cutNew 15 = .ok (.aload_n 0, 1) := by decide +kernel
theorem dX10_cutNew_16 : decode cX10_cutNew 16 = .ok (.getfield 34, 3) := by decide +kernel
theorem dX10_cutNew_19 : decode cX10_cutNew 19 = .ok (.iload_n 2, 1) := by decide +kernel
theorem dX10_cutNew_20 : decode cX10_cutNew 20 = .ok (.iaload, 1) := by decide +kernel
theorem dX10_cutNew_21 : decode cX10_cutNew 21 = .ok (.bipush 6, 2) := by decide +kernel
theorem dX10_cutNew_23 : decode cX10_cutNew 23 = .ok (.iload_n 3, 1) := by decide +kernel
theorem dX10_cutNew_24 : decode cX10_cutNew 24 = .ok (.iadd, 1) := by decide +kernel
theorem dX10_cutNew_25 : decode cX10_cutNew 25 = .ok (.ishr, 1) := by decide +kernel
theorem dX10_cutNew_26 : decode cX10_cutNew 26 = .ok (.iconst 1, 1) := by decide +kernel
theorem dX10_cutNew_27 : decode cX10_cutNew 27 = .ok (.iand, 1) := by decide +kernel
theorem dX10_cutNew_28 : decode cX10_cutNew 28 = .ok (.ifCond .ne 5, 3) := by decide +kernel
theorem dX10_cutNew_31 : decode cX10_cutNew 31 = .ok (.iload_n 2, 1) := by decide +kernel
theorem dX10_cutNew_32 : decode cX10_cutNew 32 = .ok (.ireturn, 1) := by decide +kernel
theorem dX10_cutNew_33 : decode cX10_cutNew 33 = .ok (.aload_n 0, 1) := by decide +kernel
theorem dX10_cutNew_34 : decode cX10_cutNew 34 = .ok (.getfield 34, 3) := by decide +kernel
theorem dX10_cutNew_37 : decode cX10_cutNew 37 = .ok (.iload_n 1, 1) := by decide +kernel
theorem dX10_cutNew_38 : decode cX10_cutNew 38 = .ok (.iaload, 1) := by decide +kernel
theorem dX10_cutNew_39 : decode cX10_cutNew 39 = .ok (.aload_n 0, 1) := by decide +kernel
theorem dX10_cutNew_40 : decode cX10_cutNew 40 = .ok (.getfield 34, 3) := by decide +kernel
theorem dX10_cutNew_43 : decode cX10_cutNew 43 = .ok (.iload_n 2, 1) := by decide +kernel
theorem dX10_cutNew_44 : decode cX10_cutNew 44 = .ok (.iaload, 1) := by decide +kernel
theorem dX10_cutNew_45 : decode cX10_cutNew 45 = .ok (.iload_n 3, 1) := by decide +kernel
theorem dX10_cutNew_46 : decode cX10_cutNew 46 = .ok (.invokestatic 100, 3) := by decide +kernel
theorem dX10_cutNew_49 : decode cX10_cutNew 49 = .ok (.istore 5, 2) := by decide +kernel
theorem dX10_cutNew_51 : decode cX10_cutNew 51 = .ok (.iload 5, 2) := by decide +kernel
theorem dX10_cutNew_53 : decode cX10_cutNew 53 = .ok (.bipush (-9), 2) := by decide +kernel
theorem dX10_cutNew_55 : decode cX10_cutNew 55 = .ok (.if_icmp .ne 8, 3) := by decide +kernel
theorem dX10_cutNew_58 : decode cX10_cutNew 58 = .ok (.bipush (-9), 2) := by decide +kernel
theorem dX10_cutNew_60 : decode cX10_cutNew 60 = .ok (.goto 14, 3) := by decide +kernel
theorem dX10_cutNew_63 : decode cX10_cutNew 63 = .ok (.aload_n 0, 1) := by decide +kernel
theorem dX10_cutNew_64 : decode cX10_cutNew 64 = .ok (.iload 5, 2) := by decide +kernel
theorem dX10_cutNew_66 : decode cX10_cutNew 66 = .ok (.iload_n 1, 1) := by decide +kernel
theorem dX10_cutNew_67 : decode cX10_cutNew 67 = .ok (.iload_n 2, 1) := by decide +kernel
theorem dX10_cutNew_68 : decode cX10_cutNew 68 = .ok (.iload_n 3, 1) := by decide +kernel
theorem dX10_cutNew_69 : decode cX10_cutNew 69 = .ok (.iload 4, 2) := by decide +kernel
theorem dX10_cutNew_71 : decode cX10_cutNew 71 = .ok (.invokevirtual 219, 3) := by decide +kernel
theorem dX10_cutNew_74 : decode cX10_cutNew 74 = .ok (.ireturn, 1) := by decide +kernel
set_option maxRecDepth 20000 in
theorem ggX10_standFor_X10_joined : GoodIn wsX10_standFor wsX10_joined := goodIn_r _ [11, 12, 13, 14, 10, 15, 16, 17, 18, 19, 20, 21, 22, 23, 24, 25, 26, 27, 53, 54, 55, 56, 57, 58, 59, 60, 61, 62, 63, 64, 65, 66, 67, 68, 69, 70, 71, 72, 73, 74, 75, 76, 77, 78, 79, 80, 81, 82, 83, 84] (by decide +kernel) (by decide +kernel)
set_option maxRecDepth 20000 in
theorem gX10_standFor_X10_joined : GoodIn wsX10_standFor (wsV RX10 219 RX10 yX10_joined wsX10_joined) := goodIn_app (goodIn_of _ (by decide +kernel)) ggX10_standFor_X10_joined
set_option maxRecDepth 20000 in
theorem ggX10_standFor_X10_isUnit : GoodIn wsX10_standFor wsX10_isUnit := goodIn_r _ [31, 2, 32, 33, 34, 10, 35, 36, 37, 38, 39, 1, 4, 5, 53, 54, 55, 56, 57, 58, 59, 60, 61, 62, 63, 64, 65, 66, 67, 68, 69, 70, 71, 72, 73, 74, 75, 76, 77, 78, 79, 80, 81, 82, 83, 84] (by decide +kernel) (by decide +kernel)
set_option maxRecDepth 20000 in
theorem gX10_standFor_X10_isUnit : GoodIn wsX10_standFor (wsV RX10 223 RX10 yX10_isUnit wsX10_isUnit) := goodIn_app (goodIn_of _ (by decide +kernel)) ggX10_standFor_X10_isUnit
set_option maxRecDepth 20000 in
theorem ggX10_standFor_X10_cutNew : GoodIn wsX10_standFor wsX10_cutNew := goodIn_r _ [43, 17, 44, 45, 10, 46, 47, 48, 49, 50, 51, 52, 7, 8, 9, 11, 12, 13, 14, 15, 16, 18, 19, 20, 21, 22, 23, 24, 25, 26, 27, 53, 54, 55, 56, 57, 58, 59, 60, 61, 62, 63, 64, 65, 66, 67, 68, 69, 70, 71, 72, 73, 74, 75, 76, 77, 78, 79, 80, 81, 82, 83, 84] (by decide +kernel) (by decide +kernel)
set_option maxRecDepth 20000 in
theorem gX10_standFor_X10_cutNew : GoodIn wsX10_standFor (wsV RX10 226 RX10 yX10_cutNew wsX10_cutNew) := goodIn_app (goodIn_of _ (by decide +kernel)) ggX10_standFor_X10_cutNew
theorem dX10_standFor_0 : decode cX10_standFor 0 = .ok (.bipush 24, 2) := by decide +kernel
theorem dX10_standFor_2 : decode cX10_standFor 2 = .ok (.iload_n 1, 1) := by decide +kernel
theorem dX10_standFor_3 : decode cX10_standFor 3 = .ok (.imul, 1) := by decide +kernel
theorem dX10_standFor_4 : decode cX10_standFor 4 = .ok (.iload_n 2, 1) := by decide +kernel
theorem dX10_standFor_5 : decode cX10_standFor 5 = .ok (.iadd, 1) := by decide +kernel
theorem dX10_standFor_6 : decode cX10_standFor 6 = .ok (.istore 6, 2) := by decide +kernel
theorem dX10_standFor_8 : decode cX10_standFor 8 = .ok (.aload_n 0, 1) := by decide +kernel
theorem dX10_standFor_9 : decode cX10_standFor 9 = .ok (.getfield 31, 3) := by decide +kernel
theorem dX10_standFor_12 : decode cX10_standFor 12 = .ok (.iload 6, 2) := by decide +kernel
theorem dX10_standFor_14 : decode cX10_standFor 14 = .ok (.iaload, 1) := by decide +kernel
theorem dX10_standFor_15 : decode cX10_standFor 15 = .ok (.bipush (-9), 2) := by decide +kernel
theorem dX10_standFor_17 : decode cX10_standFor 17 = .ok (.if_icmp .ne 22, 3) := by decide +kernel
theorem dX10_standFor_20 : decode cX10_standFor 20 = .ok (.aload_n 0, 1) := by decide +kernel
theorem dX10_standFor_21 : decode cX10_standFor 21 = .ok (.aload_n 0, 1) := by decide +kernel
theorem dX10_standFor_22 : decode cX10_standFor 22 = .ok (.getfield 22, 3) := by decide +kernel
theorem dX10_standFor_25 : decode cX10_standFor 25 = .ok (.iload 6, 2) := by decide +kernel
theorem dX10_standFor_27 : decode cX10_standFor 27 = .ok (.iaload, 1) := by decide +kernel
theorem dX10_standFor_28 : decode cX10_standFor 28 = .ok (.bipush (-9), 2) := by decide +kernel
theorem dX10_standFor_30 : decode cX10_standFor 30 = .ok (.bipush (-9), 2) := by decide +kernel
theorem dX10_standFor_32 : decode cX10_standFor 32 = .ok (.bipush (-9), 2) := by decide +kernel
theorem dX10_standFor_34 : decode cX10_standFor 34 = .ok (.iload_n 3, 1) := by decide +kernel
theorem dX10_standFor_35 : decode cX10_standFor 35 = .ok (.invokevirtual 219, 3) := by decide +kernel
theorem dX10_standFor_38 : decode cX10_standFor 38 = .ok (.ireturn, 1) := by decide +kernel
theorem dX10_standFor_39 : decode cX10_standFor 39 = .ok (.aload_n 0, 1) := by decide +kernel
theorem dX10_standFor_40 : decode cX10_standFor 40 = .ok (.getfield 61, 3) := by decide +kernel
theorem dX10_standFor_43 : decode cX10_standFor 43 = .ok (.iload 5, 2) := by decide +kernel
theorem dX10_standFor_45 : decode cX10_standFor 45 = .ok (.aload_n 0, 1) := by decide +kernel
theorem dX10_standFor_46 : decode cX10_standFor 46 = .ok (.getfield 25, 3) := by decide +kernel
theorem dX10_standFor_49 : decode cX10_standFor 49 = .ok (.iload 6, 2) := by decide +kernel
theorem dX10_standFor_51 : decode cX10_standFor 51 = .ok (.iaload, 1) := by decide +kernel
theorem dX10_standFor_52 : decode cX10_standFor 52 = .ok (.iadd, 1) := by decide +kernel
theorem dX10_standFor_53 : decode cX10_standFor 53 = .ok (.iaload, 1) := by decide +kernel
theorem dX10_standFor_54 : decode cX10_standFor 54 = .ok (.istore 7, 2) := by decide +kernel
theorem dX10_standFor_56 : decode cX10_standFor 56 = .ok (.aload_n 0, 1) := by decide +kernel
theorem dX10_standFor_57 : decode cX10_standFor 57 = .ok (.getfield 61, 3) := by decide +kernel
theorem dX10_standFor_60 : decode cX10_standFor 60 = .ok (.iload 5, 2) := by decide +kernel
theorem dX10_standFor_62 : decode cX10_standFor 62 = .ok (.aload_n 0, 1) := by decide +kernel
theorem dX10_standFor_63 : decode cX10_standFor 63 = .ok (.getfield 28, 3) := by decide +kernel
theorem dX10_standFor_66 : decode cX10_standFor 66 = .ok (.iload 6, 2) := by decide +kernel
theorem dX10_standFor_68 : decode cX10_standFor 68 = .ok (.iaload, 1) := by decide +kernel
theorem dX10_standFor_69 : decode cX10_standFor 69 = .ok (.iadd, 1) := by decide +kernel
theorem dX10_standFor_70 : decode cX10_standFor 70 = .ok (.iaload, 1) := by decide +kernel
theorem dX10_standFor_71 : decode cX10_standFor 71 = .ok (.istore 8, 2) := by decide +kernel
theorem dX10_standFor_73 : decode cX10_standFor 73 = .ok (.iload_n 3, 1) := by decide +kernel
theorem dX10_standFor_74 : decode cX10_standFor 74 = .ok (.iconst 3, 1) := by decide +kernel
theorem dX10_standFor_75 : decode cX10_standFor 75 = .ok (.if_icmp .ne 26, 3) := by decide +kernel
theorem dX10_standFor_78 : decode cX10_standFor 78 = .ok (.aload_n 0, 1) := by decide +kernel
theorem dX10_standFor_79 : decode cX10_standFor 79 = .ok (.getfield 64, 3) := by decide +kernel
theorem dX10_standFor_82 : decode cX10_standFor 82 = .ok (.iload_n 2, 1) := by decide +kernel
theorem dX10_standFor_83 : decode cX10_standFor 83 = .ok (.iaload, 1) := by decide +kernel
theorem dX10_standFor_84 : decode cX10_standFor 84 = .ok (.aload_n 0, 1) := by decide +kernel
theorem dX10_standFor_85 : decode cX10_standFor 85 = .ok (.getfield 31, 3) := by decide +kernel
theorem dX10_standFor_88 : decode cX10_standFor 88 = .ok (.iload 6, 2) := by decide +kernel
theorem dX10_standFor_90 : decode cX10_standFor 90 = .ok (.iaload, 1) := by decide +kernel
theorem dX10_standFor_91 : decode cX10_standFor 91 = .ok (.ishr, 1) := by decide +kernel
theorem dX10_standFor_92 : decode cX10_standFor 92 = .ok (.iconst 1, 1) := by decide +kernel
theorem dX10_standFor_93 : decode cX10_standFor 93 = .ok (.iand, 1) := by decide +kernel
theorem dX10_standFor_94 : decode cX10_standFor 94 = .ok (.iconst 1, 1) := by decide +kernel
theorem dX10_standFor_95 : decode cX10_standFor 95 = .ok (.if_icmp .ne 6, 3) := by decide +kernel
theorem dX10_standFor_98 : decode cX10_standFor 98 = .ok (.iload 7, 2) := by decide +kernel
theorem dX10_standFor_100 : decode cX10_standFor 100 = .ok (.ireturn, 1) := by decide +kernel
theorem dX10_standFor_101 : decode cX10_standFor 101 = .ok (.iload_n 3, 1) := by decide +kernel
theorem dX10_standFor_102 : decode cX10_standFor 102 = .ok (.iconst 3, 1) := by decide +kernel
theorem dX10_standFor_103 : decode cX10_standFor 103 = .ok (.if_icmp .ne 29, 3) := by decide +kernel
theorem dX10_standFor_106 : decode cX10_standFor 106 = .ok (.aload_n 0, 1) := by decide +kernel
theorem dX10_standFor_107 : decode cX10_standFor 107 = .ok (.getfield 64, 3) := by decide +kernel
theorem dX10_standFor_110 : decode cX10_standFor 110 = .ok (.iload_n 2, 1) := by decide +kernel
theorem dX10_standFor_111 : decode cX10_standFor 111 = .ok (.iaload, 1) := by decide +kernel
theorem dX10_standFor_112 : decode cX10_standFor 112 = .ok (.bipush 6, 2) := by decide +kernel
theorem dX10_standFor_114 : decode cX10_standFor 114 = .ok (.aload_n 0, 1) := by decide +kernel
theorem dX10_standFor_115 : decode cX10_standFor 115 = .ok (.getfield 31, 3) := by decide +kernel
theorem dX10_standFor_118 : decode cX10_standFor 118 = .ok (.iload 6, 2) := by decide +kernel
theorem dX10_standFor_120 : decode cX10_standFor 120 = .ok (.iaload, 1) := by decide +kernel
theorem dX10_standFor_121 : decode cX10_standFor 121 = .ok (.iadd, 1) := by decide +kernel
theorem dX10_standFor_122 : decode cX10_standFor 122 = .ok (.ishr, 1) := by decide +kernel
theorem dX10_standFor_123 : decode cX10_standFor 123 = .ok (.iconst 1, 1) := by decide +kernel
theorem dX10_standFor_124 : decode cX10_standFor 124 = .ok (.iand, 1) := by decide +kernel
theorem dX10_standFor_125 : decode cX10_standFor 125 = .ok (.iconst 1, 1) := by decide +kernel
theorem dX10_standFor_126 : decode cX10_standFor 126 = .ok (.if_icmp .ne 6, 3) := by decide +kernel
theorem dX10_standFor_129 : decode cX10_standFor 129 = .ok (.iload 8, 2) := by decide +kernel
theorem dX10_standFor_131 : decode cX10_standFor 131 = .ok (.ireturn, 1) := by decide +kernel
theorem dX10_standFor_132 : decode cX10_standFor 132 = .ok (.iload_n 3, 1) := by decide +kernel
theorem dX10_standFor_133 : decode cX10_standFor 133 = .ok (.iconst 4, 1) := by decide +kernel
theorem dX10_standFor_134 : decode cX10_standFor 134 = .ok (.if_icmp .ne 23, 3) := by decide +kernel
theorem dX10_standFor_137 : decode cX10_standFor 137 = .ok (.aload_n 0, 1) := by decide +kernel
theorem dX10_standFor_138 : decode cX10_standFor 138 = .ok (.iload_n 1, 1) := by decide +kernel
theorem dX10_standFor_139 : decode cX10_standFor 139 = .ok (.aload_n 0, 1) := by decide +kernel
theorem dX10_standFor_140 : decode cX10_standFor 140 = .ok (.getfield 25, 3) := by decide +kernel
theorem dX10_standFor_143 : decode cX10_standFor 143 = .ok (.iload 6, 2) := by decide +kernel
theorem dX10_standFor_145 : decode cX10_standFor 145 = .ok (.iaload, 1) := by decide +kernel
theorem dX10_standFor_146 : decode cX10_standFor 146 = .ok (.iload 4, 2) := by decide +kernel
theorem dX10_standFor_148 : decode cX10_standFor 148 = .ok (.invokevirtual 223, 3) := by decide +kernel
theorem dX10_standFor_151 : decode cX10_standFor 151 = .ok (.ifCond .eq 6, 3) := by decide +kernel
theorem dX10_standFor_154 : decode cX10_standFor 154 = .ok (.iload 8, 2) := by decide +kernel
theorem dX10_standFor_156 : decode cX10_standFor 156 = .ok (.ireturn, 1) := by decide +kernel
theorem dX10_standFor_157 : decode cX10_standFor 157 = .ok (.iload_n 3, 1) := by decide +kernel
theorem dX10_standFor_158 : decode cX10_standFor 158 = .ok (.iconst 4, 1) := by decide +kernel
theorem dX10_standFor_159 : decode cX10_standFor 159 = .ok (.if_icmp .ne 23, 3) := by decide +kernel
theorem dX10_standFor_162 : decode cX10_standFor 162 = .ok (.aload_n 0, 1) := by decide +kernel
theorem dX10_standFor_163 : decode cX10_standFor 163 = .ok (.iload_n 1, 1) := by decide +kernel
theorem dX10_standFor_164 : decode cX10_standFor 164 = .ok (.aload_n 0, 1) := by decide +kernel
theorem dX10_standFor_165 : decode cX10_standFor 165 = .ok (.getfield 28, 3) := by decide +kernel
theorem dX10_standFor_168 : decode cX10_standFor 168 = .ok (.iload 6, 2) := by decide +kernel
theorem dX10_standFor_170 : decode cX10_standFor 170 = .ok (.iaload, 1) := by decide +kernel
theorem dX10_standFor_171 : decode cX10_standFor 171 = .ok (.iload 4, 2) := by decide +kernel
theorem dX10_standFor_173 : decode cX10_standFor 173 = .ok (.invokevirtual 223, 3) := by decide +kernel
theorem dX10_standFor_176 : decode cX10_standFor 176 = .ok (.ifCond .eq 6, 3) := by decide +kernel
theorem dX10_standFor_179 : decode cX10_standFor 179 = .ok (.iload 7, 2) := by decide +kernel
theorem dX10_standFor_181 : decode cX10_standFor 181 = .ok (.ireturn, 1) := by decide +kernel
theorem dX10_standFor_182 : decode cX10_standFor 182 = .ok (.aload_n 0, 1) := by decide +kernel
theorem dX10_standFor_183 : decode cX10_standFor 183 = .ok (.iload 7, 2) := by decide +kernel
theorem dX10_standFor_185 : decode cX10_standFor 185 = .ok (.iload 8, 2) := by decide +kernel
theorem dX10_standFor_187 : decode cX10_standFor 187 = .ok (.aload_n 0, 1) := by decide +kernel
theorem dX10_standFor_188 : decode cX10_standFor 188 = .ok (.getfield 31, 3) := by decide +kernel
theorem dX10_standFor_191 : decode cX10_standFor 191 = .ok (.iload 6, 2) := by decide +kernel
theorem dX10_standFor_193 : decode cX10_standFor 193 = .ok (.iaload, 1) := by decide +kernel
theorem dX10_standFor_194 : decode cX10_standFor 194 = .ok (.iload_n 3, 1) := by decide +kernel
theorem dX10_standFor_195 : decode cX10_standFor 195 = .ok (.invokevirtual 226, 3) := by decide +kernel
theorem dX10_standFor_198 : decode cX10_standFor 198 = .ok (.ireturn, 1) := by decide +kernel
set_option maxRecDepth 20000 in
theorem ggX10_cutUnits_X10_isUnit : GoodIn wsX10_cutUnits wsX10_isUnit := goodIn_r _ [9, 3, 2, 10, 11, 8, 12, 13, 14, 15, 16, 17, 18, 19, 37, 38, 39, 40, 41, 42, 43, 44, 45, 46, 47, 48, 49, 50, 51, 52, 53, 54, 55, 56, 57, 58, 59, 60, 61, 62, 63, 64, 65, 66, 67, 68] (by decide +kernel) (by decide +kernel)
set_option maxRecDepth 20000 in
theorem gX10_cutUnits_X10_isUnit : GoodIn wsX10_cutUnits (wsV RX10 223 RX10 yX10_isUnit wsX10_isUnit) := goodIn_app (goodIn_of _ (by decide +kernel)) ggX10_cutUnits_X10_isUnit
set_option maxRecDepth 20000 in
theorem ggX10_cutUnits_X10_cutOf : GoodIn wsX10_cutUnits wsX10_cutOf := goodIn_r _ [22, 23, 24, 8, 25, 26, 27, 28] (by decide +kernel) (by decide +kernel)
set_option maxRecDepth 20000 in
theorem gX10_cutUnits_X10_cutOf : GoodIn wsX10_cutUnits (va_wsS RX10 100 yX10_cutOf wsX10_cutOf) := goodIn_app (goodIn_of _ (by decide +kernel)) ggX10_cutUnits_X10_cutOf
set_option maxRecDepth 20000 in
theorem ggX10_cutUnits_X10_add : GoodIn wsX10_cutUnits wsX10_add := goodIn_r _ [32, 4, 33, 34, 35, 36, 37, 38, 39, 40, 41, 42, 43, 44, 45, 46, 47, 48, 49, 50, 51, 52, 53, 54, 55, 56, 57, 58, 59, 60, 61, 62, 63, 64, 65, 66, 67, 68] (by decide +kernel) (by decide +kernel)
set_option maxRecDepth 20000 in
theorem gX10_cutUnits_X10_add : GoodIn wsX10_cutUnits (wsV RX10 127 RX10 yX10_add wsX10_add) := goodIn_app (goodIn_of _ (by decide +kernel)) ggX10_cutUnits_X10_add
theorem dX10_cutUnits_0 : decode cX10_cutUnits 0 = .ok (.aload_n 0, 1) := by decide +kernel
theorem dX10_cutUnits_1 : decode cX10_cutUnits 1 = .ok (.getfield 61, 3) := by decide +kernel
theorem dX10_cutUnits_4 : decode cX10_cutUnits 4 = .ok (.aload_n 0, 1) := by decide +kernel
theorem dX10_cutUnits_5 : decode cX10_cutUnits 5 = .ok (.getfield 19, 3) := by decide +kernel
theorem dX10_cutUnits_8 : decode cX10_cutUnits 8 = .ok (.iload_n 1, 1) := by decide +kernel
theorem dX10_cutUnits_9 : decode cX10_cutUnits 9 = .ok (.iaload, 1) := by decide +kernel
theorem dX10_cutUnits_10 : decode cX10_cutUnits 10 = .ok (.iconst 1, 1) := by decide +kernel
theorem dX10_cutUnits_11 : decode cX10_cutUnits 11 = .ok (.isub, 1) := by decide +kernel
theorem dX10_cutUnits_12 : decode cX10_cutUnits 12 = .ok (.iaload, 1) := by decide +kernel
theorem dX10_cutUnits_13 : decode cX10_cutUnits 13 = .ok (.istore_n 3, 1) := by decide +kernel
theorem dX10_cutUnits_14 : decode cX10_cutUnits 14 = .ok (.aload_n 0, 1) := by decide +kernel
theorem dX10_cutUnits_15 : decode cX10_cutUnits 15 = .ok (.getfield 19, 3) := by decide +kernel
theorem dX10_cutUnits_18 : decode cX10_cutUnits 18 = .ok (.iload_n 1, 1) := by decide +kernel
theorem dX10_cutUnits_19 : decode cX10_cutUnits 19 = .ok (.iaload, 1) := by decide +kernel
theorem dX10_cutUnits_20 : decode cX10_cutUnits 20 = .ok (.iconst 1, 1) := by decide +kernel
theorem dX10_cutUnits_21 : decode cX10_cutUnits 21 = .ok (.isub, 1) := by decide +kernel
theorem dX10_cutUnits_22 : decode cX10_cutUnits 22 = .ok (.istore 4, 2) := by decide +kernel
theorem dX10_cutUnits_24 : decode cX10_cutUnits 24 = .ok (.iload 4, 2) := by decide +kernel
theorem dX10_cutUnits_26 : decode cX10_cutUnits 26 = .ok (.ifCond .lt 208, 3) := by decide +kernel
theorem dX10_cutUnits_29 : decode cX10_cutUnits 29 = .ok (.aload_n 0, 1) := by decide +kernel
theorem dX10_cutUnits_30 : decode cX10_cutUnits 30 = .ok (.iload_n 1, 1) := by decide +kernel
theorem dX10_cutUnits_31 : decode cX10_cutUnits 31 = .ok (.iload 4, 2) := by decide +kernel
theorem dX10_cutUnits_33 : decode cX10_cutUnits 33 = .ok (.iload_n 2, 1) := by decide +kernel
theorem dX10_cutUnits_34 : decode cX10_cutUnits 34 = .ok (.invokevirtual 223, 3) := by decide +kernel
theorem dX10_cutUnits_37 : decode cX10_cutUnits 37 = .ok (.ifCond .ne 6, 3) := by decide +kernel
theorem dX10_cutUnits_40 : decode cX10_cutUnits 40 = .ok (.goto 188, 3) := by decide +kernel
theorem dX10_cutUnits_43 : decode cX10_cutUnits 43 = .ok (.aload_n 0, 1) := by decide +kernel
theorem dX10_cutUnits_44 : decode cX10_cutUnits 44 = .ok (.getfield 22, 3) := by decide +kernel
theorem dX10_cutUnits_47 : decode cX10_cutUnits 47 = .ok (.bipush 24, 2) := by decide +kernel
theorem dX10_cutUnits_49 : decode cX10_cutUnits 49 = .ok (.iload_n 1, 1) := by decide +kernel
theorem dX10_cutUnits_50 : decode cX10_cutUnits 50 = .ok (.imul, 1) := by decide +kernel
theorem dX10_cutUnits_51 : decode cX10_cutUnits 51 = .ok (.iload 4, 2) := by decide +kernel
theorem dX10_cutUnits_53 : decode cX10_cutUnits 53 = .ok (.iadd, 1) := by decide +kernel
theorem dX10_cutUnits_54 : decode cX10_cutUnits 54 = .ok (.iaload, 1) := by decide +kernel
theorem dX10_cutUnits_55 : decode cX10_cutUnits 55 = .ok (.istore 5, 2) := by decide +kernel
theorem dX10_cutUnits_57 : decode cX10_cutUnits 57 = .ok (.iload 5, 2) := by decide +kernel
theorem dX10_cutUnits_59 : decode cX10_cutUnits 59 = .ok (.bipush 64, 2) := by decide +kernel
theorem dX10_cutUnits_61 : decode cX10_cutUnits 61 = .ok (.if_icmp .ge 11, 3) := by decide +kernel
theorem dX10_cutUnits_64 : decode cX10_cutUnits 64 = .ok (.iload 5, 2) := by decide +kernel
theorem dX10_cutUnits_66 : decode cX10_cutUnits 66 = .ok (.bipush 6, 2) := by decide +kernel
theorem dX10_cutUnits_68 : decode cX10_cutUnits 68 = .ok (.ishl, 1) := by decide +kernel
theorem dX10_cutUnits_69 : decode cX10_cutUnits 69 = .ok (.goto 8, 3) := by decide +kernel
theorem dX10_cutUnits_72 : decode cX10_cutUnits 72 = .ok (.iload 5, 2) := by decide +kernel
theorem dX10_cutUnits_74 : decode cX10_cutUnits 74 = .ok (.bipush 6, 2) := by decide +kernel
theorem dX10_cutUnits_76 : decode cX10_cutUnits 76 = .ok (.ishr, 1) := by decide +kernel
theorem dX10_cutUnits_77 : decode cX10_cutUnits 77 = .ok (.istore 6, 2) := by decide +kernel
theorem dX10_cutUnits_79 : decode cX10_cutUnits 79 = .ok (.aload_n 0, 1) := by decide +kernel
theorem dX10_cutUnits_80 : decode cX10_cutUnits 80 = .ok (.getfield 34, 3) := by decide +kernel
theorem dX10_cutUnits_83 : decode cX10_cutUnits 83 = .ok (.iload_n 3, 1) := by decide +kernel
theorem dX10_cutUnits_84 : decode cX10_cutUnits 84 = .ok (.iaload, 1) := by decide +kernel
theorem dX10_cutUnits_85 : decode cX10_cutUnits 85 = .ok (.iload 6, 2) := by decide +kernel
theorem dX10_cutUnits_87 : decode cX10_cutUnits 87 = .ok (.iand, 1) := by decide +kernel
theorem dX10_cutUnits_88 : decode cX10_cutUnits 88 = .ok (.ifCond .ne 6, 3) := by decide +kernel
theorem dX10_cutUnits_91 : decode cX10_cutUnits 91 = .ok (.goto 137, 3) := by decide +kernel
theorem dX10_cutUnits_94 : decode cX10_cutUnits 94 = .ok (.aload_n 0, 1) := by decide +kernel
theorem dX10_cutUnits_95 : decode cX10_cutUnits 95 = .ok (.getfield 61, 3) := by decide +kernel
theorem dX10_cutUnits_98 : decode cX10_cutUnits 98 = .ok (.iload 4, 2) := by decide +kernel
theorem dX10_cutUnits_100 : decode cX10_cutUnits 100 = .ok (.iaload, 1) := by decide +kernel
theorem dX10_cutUnits_101 : decode cX10_cutUnits 101 = .ok (.istore 7, 2) := by decide +kernel
theorem dX10_cutUnits_103 : decode cX10_cutUnits 103 = .ok (.aload_n 0, 1) := by decide +kernel
theorem dX10_cutUnits_104 : decode cX10_cutUnits 104 = .ok (.getfield 34, 3) := by decide +kernel
theorem dX10_cutUnits_107 : decode cX10_cutUnits 107 = .ok (.iload 7, 2) := by decide +kernel
theorem dX10_cutUnits_109 : decode cX10_cutUnits 109 = .ok (.iaload, 1) := by decide +kernel
theorem dX10_cutUnits_110 : decode cX10_cutUnits 110 = .ok (.iload 5, 2) := by decide +kernel
theorem dX10_cutUnits_112 : decode cX10_cutUnits 112 = .ok (.iand, 1) := by decide +kernel
theorem dX10_cutUnits_113 : decode cX10_cutUnits 113 = .ok (.ifCond .ne 9, 3) := by decide +kernel
theorem dX10_cutUnits_116 : decode cX10_cutUnits 116 = .ok (.iload 7, 2) := by decide +kernel
theorem dX10_cutUnits_118 : decode cX10_cutUnits 118 = .ok (.istore_n 3, 1) := by decide +kernel
theorem dX10_cutUnits_119 : decode cX10_cutUnits 119 = .ok (.goto 109, 3) := by decide +kernel
theorem dX10_cutUnits_122 : decode cX10_cutUnits 122 = .ok (.iconst 0, 1) := by decide +kernel
theorem dX10_cutUnits_123 : decode cX10_cutUnits 123 = .ok (.istore 8, 2) := by decide +kernel
theorem dX10_cutUnits_125 : decode cX10_cutUnits 125 = .ok (.iload 5, 2) := by decide +kernel
theorem dX10_cutUnits_127 : decode cX10_cutUnits 127 = .ok (.iload 8, 2) := by decide +kernel
theorem dX10_cutUnits_129 : decode cX10_cutUnits 129 = .ok (.ishr, 1) := by decide +kernel
theorem dX10_cutUnits_130 : decode cX10_cutUnits 130 = .ok (.iconst 1, 1) := by decide +kernel
theorem dX10_cutUnits_131 : decode cX10_cutUnits 131 = .ok (.iand, 1) := by decide +kernel
theorem dX10_cutUnits_132 : decode cX10_cutUnits 132 = .ok (.ifCond .ne 22, 3) := by decide +kernel
theorem dX10_cutUnits_135 : decode cX10_cutUnits 135 = .ok (.iload 5, 2) := by decide +kernel
theorem dX10_cutUnits_137 : decode cX10_cutUnits 137 = .ok (.bipush 6, 2) := by decide +kernel
theorem dX10_cutUnits_139 : decode cX10_cutUnits 139 = .ok (.iload 8, 2) := by decide +kernel
theorem dX10_cutUnits_141 : decode cX10_cutUnits 141 = .ok (.iadd, 1) := by decide +kernel
theorem dX10_cutUnits_142 : decode cX10_cutUnits 142 = .ok (.ishr, 1) := by decide +kernel
theorem dX10_cutUnits_143 : decode cX10_cutUnits 143 = .ok (.iconst 1, 1) := by decide +kernel
theorem dX10_cutUnits_144 : decode cX10_cutUnits 144 = .ok (.iand, 1) := by decide +kernel
theorem dX10_cutUnits_145 : decode cX10_cutUnits 145 = .ok (.ifCond .ne 9, 3) := by decide +kernel
theorem dX10_cutUnits_148 : decode cX10_cutUnits 148 = .ok (.iinc 8 1, 3) := by decide +kernel
theorem dX10_cutUnits_151 : decode cX10_cutUnits 151 = .ok (.goto (-26), 3) := by decide +kernel
theorem dX10_cutUnits_154 : decode cX10_cutUnits 154 = .ok (.iload 5, 2) := by decide +kernel
theorem dX10_cutUnits_156 : decode cX10_cutUnits 156 = .ok (.bipush 64, 2) := by decide +kernel
theorem dX10_cutUnits_158 : decode cX10_cutUnits 158 = .ok (.if_icmp .ge 8, 3) := by decide +kernel
theorem dX10_cutUnits_161 : decode cX10_cutUnits 161 = .ok (.iload 7, 2) := by decide +kernel
theorem dX10_cutUnits_163 : decode cX10_cutUnits 163 = .ok (.goto 4, 3) := by decide +kernel
theorem dX10_cutUnits_166 : decode cX10_cutUnits 166 = .ok (.iload_n 3, 1) := by decide +kernel
theorem dX10_cutUnits_167 : decode cX10_cutUnits 167 = .ok (.istore 9, 2) := by decide +kernel
theorem dX10_cutUnits_169 : decode cX10_cutUnits 169 = .ok (.iload 5, 2) := by decide +kernel
theorem dX10_cutUnits_171 : decode cX10_cutUnits 171 = .ok (.bipush 64, 2) := by decide +kernel
theorem dX10_cutUnits_173 : decode cX10_cutUnits 173 = .ok (.if_icmp .ge 7, 3) := by decide +kernel
theorem dX10_cutUnits_176 : decode cX10_cutUnits 176 = .ok (.iload_n 3, 1) := by decide +kernel
theorem dX10_cutUnits_177 : decode cX10_cutUnits 177 = .ok (.goto 5, 3) := by decide +kernel
theorem dX10_cutUnits_180 : decode cX10_cutUnits 180 = .ok (.iload 7, 2) := by decide +kernel
theorem dX10_cutUnits_182 : decode cX10_cutUnits 182 = .ok (.istore 10, 2) := by decide +kernel
theorem dX10_cutUnits_184 : decode cX10_cutUnits 184 = .ok (.aload_n 0, 1) := by decide +kernel
theorem dX10_cutUnits_185 : decode cX10_cutUnits 185 = .ok (.getfield 34, 3) := by decide +kernel
theorem dX10_cutUnits_188 : decode cX10_cutUnits 188 = .ok (.iload 9, 2) := by decide +kernel
theorem dX10_cutUnits_190 : decode cX10_cutUnits 190 = .ok (.iaload, 1) := by decide +kernel
theorem dX10_cutUnits_191 : decode cX10_cutUnits 191 = .ok (.aload_n 0, 1) := by decide +kernel
theorem dX10_cutUnits_192 : decode cX10_cutUnits 192 = .ok (.getfield 34, 3) := by decide +kernel
theorem dX10_cutUnits_195 : decode cX10_cutUnits 195 = .ok (.iload 10, 2) := by decide +kernel
theorem dX10_cutUnits_197 : decode cX10_cutUnits 197 = .ok (.iaload, 1) := by decide +kernel
theorem dX10_cutUnits_198 : decode cX10_cutUnits 198 = .ok (.iload 8, 2) := by decide +kernel
theorem dX10_cutUnits_200 : decode cX10_cutUnits 200 = .ok (.invokestatic 100, 3) := by decide +kernel
theorem dX10_cutUnits_203 : decode cX10_cutUnits 203 = .ok (.istore 11, 2) := by decide +kernel
theorem dX10_cutUnits_205 : decode cX10_cutUnits 205 = .ok (.iload 11, 2) := by decide +kernel
theorem dX10_cutUnits_207 : decode cX10_cutUnits 207 = .ok (.bipush (-9), 2) := by decide +kernel
theorem dX10_cutUnits_209 : decode cX10_cutUnits 209 = .ok (.if_icmp .ne 6, 3) := by decide +kernel
theorem dX10_cutUnits_212 : decode cX10_cutUnits 212 = .ok (.bipush (-9), 2) := by decide +kernel
theorem dX10_cutUnits_214 : decode cX10_cutUnits 214 = .ok (.ireturn, 1) := by decide +kernel
theorem dX10_cutUnits_215 : decode cX10_cutUnits 215 = .ok (.aload_n 0, 1) := by decide +kernel
theorem dX10_cutUnits_216 : decode cX10_cutUnits 216 = .ok (.iload 11, 2) := by decide +kernel
theorem dX10_cutUnits_218 : decode cX10_cutUnits 218 = .ok (.iload 9, 2) := by decide +kernel
theorem dX10_cutUnits_220 : decode cX10_cutUnits 220 = .ok (.iload 10, 2) := by decide +kernel
theorem dX10_cutUnits_222 : decode cX10_cutUnits 222 = .ok (.iload 8, 2) := by decide +kernel
theorem dX10_cutUnits_224 : decode cX10_cutUnits 224 = .ok (.invokevirtual 127, 3) := by decide +kernel
theorem dX10_cutUnits_227 : decode cX10_cutUnits 227 = .ok (.istore_n 3, 1) := by decide +kernel
theorem dX10_cutUnits_228 : decode cX10_cutUnits 228 = .ok (.iinc 4 (-1), 3) := by decide +kernel
theorem dX10_cutUnits_231 : decode cX10_cutUnits 231 = .ok (.goto (-207), 3) := by decide +kernel
theorem dX10_cutUnits_234 : decode cX10_cutUnits 234 = .ok (.iload_n 3, 1) := by decide +kernel
theorem dX10_cutUnits_235 : decode cX10_cutUnits 235 = .ok (.ireturn, 1) := by decide +kernel
theorem dX10_closeUp_0 : decode cX10_closeUp 0 = .ok (.iconst 0, 1) := by decide +kernel
theorem dX10_closeUp_1 : decode cX10_closeUp 1 = .ok (.istore_n 2, 1) := by decide +kernel
theorem dX10_closeUp_2 : decode cX10_closeUp 2 = .ok (.iload_n 2, 1) := by decide +kernel
theorem dX10_closeUp_3 : decode cX10_closeUp 3 = .ok (.aload_n 0, 1) := by decide +kernel
theorem dX10_closeUp_4 : decode cX10_closeUp 4 = .ok (.getfield 114, 3) := by decide +kernel
theorem dX10_closeUp_7 : decode cX10_closeUp 7 = .ok (.if_icmp .ge 25, 3) := by decide +kernel
theorem dX10_closeUp_10 : decode cX10_closeUp 10 = .ok (.aload_n 0, 1) := by decide +kernel
theorem dX10_closeUp_11 : decode cX10_closeUp 11 = .ok (.getfield 67, 3) := by decide +kernel
theorem dX10_closeUp_14 : decode cX10_closeUp 14 = .ok (.iload_n 2, 1) := by decide +kernel
theorem dX10_closeUp_15 : decode cX10_closeUp 15 = .ok (.iload_n 2, 1) := by decide +kernel
theorem dX10_closeUp_16 : decode cX10_closeUp 16 = .ok (.iload_n 1, 1) := by decide +kernel
theorem dX10_closeUp_17 : decode cX10_closeUp 17 = .ok (.if_icmp .ne 7, 3) := by decide +kernel
theorem dX10_closeUp_20 : decode cX10_closeUp 20 = .ok (.iconst 1, 1) := by decide +kernel
theorem dX10_closeUp_21 : decode cX10_closeUp 21 = .ok (.goto 4, 3) := by decide +kernel
theorem dX10_closeUp_24 : decode cX10_closeUp 24 = .ok (.iconst 0, 1) := by decide +kernel
theorem dX10_closeUp_25 : decode cX10_closeUp 25 = .ok (.iastore, 1) := by decide +kernel
theorem dX10_closeUp_26 : decode cX10_closeUp 26 = .ok (.iinc 2 1, 3) := by decide +kernel
theorem dX10_closeUp_29 : decode cX10_closeUp 29 = .ok (.goto (-27), 3) := by decide +kernel
theorem dX10_closeUp_32 : decode cX10_closeUp 32 = .ok (.iload_n 1, 1) := by decide +kernel
theorem dX10_closeUp_33 : decode cX10_closeUp 33 = .ok (.istore_n 2, 1) := by decide +kernel
theorem dX10_closeUp_34 : decode cX10_closeUp 34 = .ok (.iload_n 2, 1) := by decide +kernel
theorem dX10_closeUp_35 : decode cX10_closeUp 35 = .ok (.ifCond .lt 54, 3) := by decide +kernel
theorem dX10_closeUp_38 : decode cX10_closeUp 38 = .ok (.aload_n 0, 1) := by decide +kernel
theorem dX10_closeUp_39 : decode cX10_closeUp 39 = .ok (.getfield 67, 3) := by decide +kernel
theorem dX10_closeUp_42 : decode cX10_closeUp 42 = .ok (.iload_n 2, 1) := by decide +kernel
theorem dX10_closeUp_43 : decode cX10_closeUp 43 = .ok (.iaload, 1) := by decide +kernel
theorem dX10_closeUp_44 : decode cX10_closeUp 44 = .ok (.iconst 1, 1) := by decide +kernel
theorem dX10_closeUp_45 : decode cX10_closeUp 45 = .ok (.if_icmp .ne 38, 3) := by decide +kernel
theorem dX10_closeUp_48 : decode cX10_closeUp 48 = .ok (.aload_n 0, 1) := by decide +kernel
theorem dX10_closeUp_49 : decode cX10_closeUp 49 = .ok (.getfield 43, 3) := by decide +kernel
theorem dX10_closeUp_52 : decode cX10_closeUp 52 = .ok (.iload_n 2, 1) := by decide +kernel
theorem dX10_closeUp_53 : decode cX10_closeUp 53 = .ok (.iaload, 1) := by decide +kernel
theorem dX10_closeUp_54 : decode cX10_closeUp 54 = .ok (.bipush (-9), 2) := by decide +kernel
theorem dX10_closeUp_56 : decode cX10_closeUp 56 = .ok (.if_icmp .eq 27, 3) := by decide +kernel
theorem dX10_closeUp_59 : decode cX10_closeUp 59 = .ok (.aload_n 0, 1) := by decide +kernel
theorem dX10_closeUp_60 : decode cX10_closeUp 60 = .ok (.getfield 67, 3) := by decide +kernel
theorem dX10_closeUp_63 : decode cX10_closeUp 63 = .ok (.aload_n 0, 1) := by decide +kernel
theorem dX10_closeUp_64 : decode cX10_closeUp 64 = .ok (.getfield 37, 3) := by decide +kernel
theorem dX10_closeUp_67 : decode cX10_closeUp 67 = .ok (.iload_n 2, 1) := by decide +kernel
theorem dX10_closeUp_68 : decode cX10_closeUp 68 = .ok (.iaload, 1) := by decide +kernel
theorem dX10_closeUp_69 : decode cX10_closeUp 69 = .ok (.iconst 1, 1) := by decide +kernel
theorem dX10_closeUp_70 : decode cX10_closeUp 70 = .ok (.iastore, 1) := by decide +kernel
theorem dX10_closeUp_71 : decode cX10_closeUp 71 = .ok (.aload_n 0, 1) := by decide +kernel
theorem dX10_closeUp_72 : decode cX10_closeUp 72 = .ok (.getfield 67, 3) := by decide +kernel
theorem dX10_closeUp_75 : decode cX10_closeUp 75 = .ok (.aload_n 0, 1) := by decide +kernel
theorem dX10_closeUp_76 : decode cX10_closeUp 76 = .ok (.getfield 40, 3) := by decide +kernel
theorem dX10_closeUp_79 : decode cX10_closeUp 79 = .ok (.iload_n 2, 1) := by decide +kernel
theorem dX10_closeUp_80 : decode cX10_closeUp 80 = .ok (.iaload, 1) := by decide +kernel
theorem dX10_closeUp_81 : decode cX10_closeUp 81 = .ok (.iconst 1, 1) := by decide +kernel
theorem dX10_closeUp_82 : decode cX10_closeUp 82 = .ok (.iastore, 1) := by decide +kernel
theorem dX10_closeUp_83 : decode cX10_closeUp 83 = .ok (.iinc 2 (-1), 3) := by decide +kernel
theorem dX10_closeUp_86 : decode cX10_closeUp 86 = .ok (.goto (-52), 3) := by decide +kernel
theorem dX10_closeUp_89 : decode cX10_closeUp 89 = .ok (.iconst 0, 1) := by decide +kernel
theorem dX10_closeUp_90 : decode cX10_closeUp 90 = .ok (.istore_n 2, 1) := by decide +kernel
theorem dX10_closeUp_91 : decode cX10_closeUp 91 = .ok (.iconst 0, 1) := by decide +kernel
theorem dX10_closeUp_92 : decode cX10_closeUp 92 = .ok (.istore_n 3, 1) := by decide +kernel
theorem dX10_closeUp_93 : decode cX10_closeUp 93 = .ok (.iload_n 3, 1) := by decide +kernel
theorem dX10_closeUp_94 : decode cX10_closeUp 94 = .ok (.iload_n 1, 1) := by decide +kernel
theorem dX10_closeUp_95 : decode cX10_closeUp 95 = .ok (.if_icmp .gt 127, 3) := by decide +kernel
theorem dX10_closeUp_98 : decode cX10_closeUp 98 = .ok (.aload_n 0, 1) := by decide +kernel
theorem dX10_closeUp_99 : decode cX10_closeUp 99 = .ok (.getfield 67, 3) := by decide +kernel
theorem dX10_closeUp_102 : decode cX10_closeUp 102 = .ok (.iload_n 3, 1) := by decide +kernel
theorem dX10_closeUp_103 : decode cX10_closeUp 103 = .ok (.iaload, 1) := by decide +kernel
theorem dX10_closeUp_104 : decode cX10_closeUp 104 = .ok (.ifCond .ne 6, 3) := by decide +kernel
theorem dX10_closeUp_107 : decode cX10_closeUp 107 = .ok (.goto 109, 3) := by decide +kernel
theorem dX10_closeUp_110 : decode cX10_closeUp 110 = .ok (.aload_n 0, 1) := by decide +kernel
theorem dX10_closeUp_111 : decode cX10_closeUp 111 = .ok (.getfield 34, 3) := by decide +kernel
theorem dX10_closeUp_114 : decode cX10_closeUp 114 = .ok (.iload_n 2, 1) := by decide +kernel
theorem dX10_closeUp_115 : decode cX10_closeUp 115 = .ok (.aload_n 0, 1) := by decide +kernel
theorem dX10_closeUp_116 : decode cX10_closeUp 116 = .ok (.getfield 34, 3) := by decide +kernel
theorem dX10_closeUp_119 : decode cX10_closeUp 119 = .ok (.iload_n 3, 1) := by decide +kernel
theorem dX10_closeUp_120 : decode cX10_closeUp 120 = .ok (.iaload, 1) := by decide +kernel
theorem dX10_closeUp_121 : decode cX10_closeUp 121 = .ok (.iastore, 1) := by decide +kernel
theorem dX10_closeUp_122 : decode cX10_closeUp 122 = .ok (.aload_n 0, 1) := by decide +kernel
theorem dX10_closeUp_123 : decode cX10_closeUp 123 = .ok (.getfield 43, 3) := by decide +kernel
theorem dX10_closeUp_126 : decode cX10_closeUp 126 = .ok (.iload_n 2, 1) := by decide +kernel
theorem dX10_closeUp_127 : decode cX10_closeUp 127 = .ok (.aload_n 0, 1) := by decide +kernel
theorem dX10_closeUp_128 : decode cX10_closeUp 128 = .ok (.getfield 43, 3) := by decide +kernel
theorem dX10_closeUp_131 : decode cX10_closeUp 131 = .ok (.iload_n 3, 1) := by decide +kernel
theorem dX10_closeUp_132 : decode cX10_closeUp 132 = .ok (.iaload, 1) := by decide +kernel
theorem dX10_closeUp_133 : decode cX10_closeUp 133 = .ok (.iastore, 1) := by decide +kernel
theorem dX10_closeUp_134 : decode cX10_closeUp 134 = .ok (.aload_n 0, 1) := by decide +kernel
theorem dX10_closeUp_135 : decode cX10_closeUp 135 = .ok (.getfield 37, 3) := by decide +kernel
theorem dX10_closeUp_138 : decode cX10_closeUp 138 = .ok (.iload_n 2, 1) := by decide +kernel
theorem dX10_closeUp_139 : decode cX10_closeUp 139 = .ok (.aload_n 0, 1) := by decide +kernel
theorem dX10_closeUp_140 : decode cX10_closeUp 140 = .ok (.getfield 43, 3) := by decide +kernel
theorem dX10_closeUp_143 : decode cX10_closeUp 143 = .ok (.iload_n 3, 1) := by decide +kernel
theorem dX10_closeUp_144 : decode cX10_closeUp 144 = .ok (.iaload, 1) := by decide +kernel
theorem dX10_closeUp_145 : decode cX10_closeUp 145 = .ok (.bipush (-9), 2) := by decide +kernel
theorem dX10_closeUp_147 : decode cX10_closeUp 147 = .ok (.if_icmp .ne 8, 3) := by decide +kernel
theorem dX10_closeUp_150 : decode cX10_closeUp 150 = .ok (.bipush (-9), 2) := by decide +kernel
theorem dX10_closeUp_152 : decode cX10_closeUp 152 = .ok (.goto 16, 3) := by decide +kernel
theorem dX10_closeUp_155 : decode cX10_closeUp 155 = .ok (.aload_n 0, 1) := by decide +kernel
theorem dX10_closeUp_156 : decode cX10_closeUp 156 = .ok (.getfield 67, 3) := by decide +kernel
theorem dX10_closeUp_159 : decode cX10_closeUp 159 = .ok (.aload_n 0, 1) := by decide +kernel
theorem dX10_closeUp_160 : decode cX10_closeUp 160 = .ok (.getfield 37, 3) := by decide +kernel
theorem dX10_closeUp_163 : decode cX10_closeUp 163 = .ok (.iload_n 3, 1) := by decide +kernel
theorem dX10_closeUp_164 : decode cX10_closeUp 164 = .ok (.iaload, 1) := by decide +kernel
theorem dX10_closeUp_165 : decode cX10_closeUp 165 = .ok (.iaload, 1) := by decide +kernel
theorem dX10_closeUp_166 : decode cX10_closeUp 166 = .ok (.iconst 2, 1) := by decide +kernel
theorem dX10_closeUp_167 : decode cX10_closeUp 167 = .ok (.isub, 1) := by decide +kernel
theorem dX10_closeUp_168 : decode cX10_closeUp 168 = .ok (.iastore, 1) := by decide +kernel
theorem dX10_closeUp_169 : decode cX10_closeUp 169 = .ok (.aload_n 0, 1) := by decide +kernel
theorem dX10_closeUp_170 : decode cX10_closeUp 170 = .ok (.getfield 40, 3) := by decide +kernel
theorem dX10_closeUp_173 : decode cX10_closeUp 173 = .ok (.iload_n 2, 1) := by decide +kernel
theorem dX10_closeUp_174 : decode cX10_closeUp 174 = .ok (.aload_n 0, 1) := by decide +kernel
theorem dX10_closeUp_175 : decode cX10_closeUp 175 = .ok (.getfield 43, 3) := by decide +kernel
theorem dX10_closeUp_178 : decode cX10_closeUp 178 = .ok (.iload_n 3, 1) := by decide +kernel
theorem dX10_closeUp_179 : decode cX10_closeUp 179 = .ok (.iaload, 1) := by decide +kernel
theorem dX10_closeUp_180 : decode cX10_closeUp 180 = .ok (.bipush (-9), 2) := by decide +kernel
theorem dX10_closeUp_182 : decode cX10_closeUp 182 = .ok (.if_icmp .ne 8, 3) := by decide +kernel
theorem dX10_closeUp_185 : decode cX10_closeUp 185 = .ok (.bipush (-9), 2) := by decide +kernel
theorem dX10_closeUp_187 : decode cX10_closeUp 187 = .ok (.goto 16, 3) := by decide +kernel
theorem dX10_closeUp_190 : decode cX10_closeUp 190 = .ok (.aload_n 0, 1) := by decide +kernel
theorem dX10_closeUp_191 : decode cX10_closeUp 191 = .ok (.getfield 67, 3) := by decide +kernel
theorem dX10_closeUp_194 : decode cX10_closeUp 194 = .ok (.aload_n 0, 1) := by decide +kernel
theorem dX10_closeUp_195 : decode cX10_closeUp 195 = .ok (.getfield 40, 3) := by decide +kernel
theorem dX10_closeUp_198 : decode cX10_closeUp 198 = .ok (.iload_n 3, 1) := by decide +kernel
theorem dX10_closeUp_199 : decode cX10_closeUp 199 = .ok (.iaload, 1) := by decide +kernel
theorem dX10_closeUp_200 : decode cX10_closeUp 200 = .ok (.iaload, 1) := by decide +kernel
theorem dX10_closeUp_201 : decode cX10_closeUp 201 = .ok (.iconst 2, 1) := by decide +kernel
theorem dX10_closeUp_202 : decode cX10_closeUp 202 = .ok (.isub, 1) := by decide +kernel
theorem dX10_closeUp_203 : decode cX10_closeUp 203 = .ok (.iastore, 1) := by decide +kernel
theorem dX10_closeUp_204 : decode cX10_closeUp 204 = .ok (.aload_n 0, 1) := by decide +kernel
theorem dX10_closeUp_205 : decode cX10_closeUp 205 = .ok (.getfield 67, 3) := by decide +kernel
theorem dX10_closeUp_208 : decode cX10_closeUp 208 = .ok (.iload_n 3, 1) := by decide +kernel
theorem dX10_closeUp_209 : decode cX10_closeUp 209 = .ok (.iload_n 2, 1) := by decide +kernel
theorem dX10_closeUp_210 : decode cX10_closeUp 210 = .ok (.iconst 2, 1) := by decide +kernel
theorem dX10_closeUp_211 : decode cX10_closeUp 211 = .ok (.iadd, 1) := by decide +kernel
theorem dX10_closeUp_212 : decode cX10_closeUp 212 = .ok (.iastore, 1) := by decide +kernel
theorem dX10_closeUp_213 : decode cX10_closeUp 213 = .ok (.iinc 2 1, 3) := by decide +kernel
theorem dX10_closeUp_216 : decode cX10_closeUp 216 = .ok (.iinc 3 1, 3) := by decide +kernel
theorem dX10_closeUp_219 : decode cX10_closeUp 219 = .ok (.goto (-126), 3) := by decide +kernel
theorem dX10_closeUp_222 : decode cX10_closeUp 222 = .ok (.aload_n 0, 1) := by decide +kernel
theorem dX10_closeUp_223 : decode cX10_closeUp 223 = .ok (.iload_n 2, 1) := by decide +kernel
theorem dX10_closeUp_224 : decode cX10_closeUp 224 = .ok (.putfield 114, 3) := by decide +kernel
theorem dX10_closeUp_227 : decode cX10_closeUp 227 = .ok (.return_, 1) := by decide +kernel
set_option maxRecDepth 20000 in
theorem ggX10_shorter_X10_isProof : GoodIn wsX10_shorter wsX10_isProof := goodIn_r _ [8, 9, 83, 84, 85, 86, 87, 88, 89, 90, 91, 92, 93, 94, 95, 96, 97, 98, 99, 100, 101, 102, 103, 104, 105, 106, 107, 108, 109, 110, 111, 112, 113, 114] (by decide +kernel) (by decide +kernel)
set_option maxRecDepth 20000 in
theorem gX10_shorter_X10_isProof : GoodIn wsX10_shorter (wsV RX10 111 RX10 yX10_isProof wsX10_isProof) := goodIn_app (goodIn_of _ (by decide +kernel)) ggX10_shorter_X10_isProof
set_option maxRecDepth 20000 in
theorem ggX10_shorter_X10_within : GoodIn wsX10_shorter wsX10_within := goodIn_r _ [12] (by decide +kernel) (by decide +kernel)
set_option maxRecDepth 20000 in
theorem gX10_shorter_X10_within : GoodIn wsX10_shorter (va_wsS RX10 92 yX10_within wsX10_within) := goodIn_app (goodIn_of _ (by decide +kernel)) ggX10_shorter_X10_within
set_option maxRecDepth 20000 in
theorem ggX10_shorter_X10_restsOf : GoodIn wsX10_shorter wsX10_restsOf := goodIn_r _ [16, 2, 17, 18, 19, 83, 84, 85, 86, 87, 88, 89, 90, 91, 92, 93, 94, 95, 96, 97, 98, 99, 100, 101, 102, 103, 104, 105, 106, 107, 108, 109, 110, 111, 112, 113, 114] (by decide +kernel) (by decide +kernel)
set_option maxRecDepth 20000 in
theorem gX10_shorter_X10_restsOf : GoodIn wsX10_shorter (wsV RX10 167 RX10 yX10_restsOf wsX10_restsOf) := goodIn_app (goodIn_of _ (by decide +kernel)) ggX10_shorter_X10_restsOf
set_option maxRecDepth 20000 in
theorem ggX10_shorter_X10_laySafe : GoodIn wsX10_shorter wsX10_laySafe := goodIn_r _ [23, 2, 24, 25, 18, 17, 26, 27, 28, 7, 29, 19, 83, 84, 85, 86, 87, 88, 89, 90, 91, 92, 93, 94, 95, 96, 97, 98, 99, 100, 101, 102, 103, 104, 105, 106, 107, 108, 109, 110, 111, 112, 113, 114] (by decide +kernel) (by decide +kernel)
set_option maxRecDepth 20000 in
theorem gX10_shorter_X10_laySafe : GoodIn wsX10_shorter (wsV RX10 213 RX10 yX10_laySafe wsX10_laySafe) := goodIn_app (goodIn_of _ (by decide +kernel)) ggX10_shorter_X10_laySafe
set_option maxRecDepth 20000 in
theorem ggX10_shorter_X10_standFor : GoodIn wsX10_shorter wsX10_standFor := goodIn_r _ [33, 17, 25, 3, 18, 19, 24, 34, 35, 36, 7, 37, 38, 39, 40, 41, 1, 42, 43, 44, 45, 46, 47, 48, 49, 50, 51, 52, 53, 54, 55, 56, 2, 57, 58, 59, 26, 27, 28, 29, 60, 61, 62, 63, 64, 65, 66, 67, 68, 69, 10, 11, 12, 83, 84, 85, 86, 87, 88, 89, 90, 91, 92, 93, 94, 95, 96, 97, 98, 99, 100, 101, 102, 103, 104, 105, 106, 107, 108, 109, 110, 111, 112, 113, 114] (by decide +kernel) (by decide +kernel)
set_option maxRecDepth 20000 in
theorem gX10_shorter_X10_standFor : GoodIn wsX10_shorter (wsV RX10 229 RX10 yX10_standFor wsX10_standFor) := goodIn_app (goodIn_of _ (by decide +kernel)) ggX10_shorter_X10_standFor
set_option maxRecDepth 20000 in
theorem ggX10_shorter_X10_cutUnits : GoodIn wsX10_shorter wsX10_cutUnits := goodIn_r _ [73, 3, 2, 25, 42, 53, 54, 55, 7, 56, 57, 58, 59, 26, 27, 28, 29, 17, 18, 19, 64, 65, 66, 67, 68, 69, 10, 11, 12, 46, 47, 48, 49, 1, 50, 51, 52, 83, 84, 85, 86, 87, 88, 89, 90, 91, 92, 93, 94, 95, 96, 97, 98, 99, 100, 101, 102, 103, 104, 105, 106, 107, 108, 109, 110, 111, 112, 113, 114] (by decide +kernel) (by decide +kernel)
set_option maxRecDepth 20000 in
theorem gX10_shorter_X10_cutUnits : GoodIn wsX10_shorter (wsV RX10 232 RX10 yX10_cutUnits wsX10_cutUnits) := goodIn_app (goodIn_of _ (by decide +kernel)) ggX10_shorter_X10_cutUnits
set_option maxRecDepth 20000 in
theorem ggX10_shorter_X10_closeUp : GoodIn wsX10_shorter wsX10_closeUp := goodIn_r _ [77, 1, 78, 52, 50, 51, 42, 83, 84, 85, 86, 87, 88, 89, 90, 91, 92, 93, 94, 95, 96, 97, 98, 99, 100, 101, 102, 103, 104, 105, 106, 107, 108, 109, 110, 111, 112, 113, 114] (by decide +kernel) (by decide +kernel)
set_option maxRecDepth 20000 in
theorem gX10_shorter_X10_closeUp : GoodIn wsX10_shorter (wsV RX10 235 RX10 yX10_closeUp wsX10_closeUp) := goodIn_app (goodIn_of _ (by decide +kernel)) ggX10_shorter_X10_closeUp
set_option maxRecDepth 20000 in
theorem ggX10_shorter_X10_comes : GoodIn wsX10_shorter wsX10_comes := goodIn_r _ [82, 9, 2, 1, 25, 42, 18, 50, 19, 51, 17, 52, 83, 84, 85, 86, 87, 88, 89, 90, 91, 92, 93, 94, 95, 96, 97, 98, 99, 100, 101, 102, 103, 104, 105, 106, 107, 108, 109, 110, 111, 112, 113, 114] (by decide +kernel) (by decide +kernel)
set_option maxRecDepth 20000 in
theorem gX10_shorter_X10_comes : GoodIn wsX10_shorter (wsV RX10 157 RX10 yX10_comes wsX10_comes) := goodIn_app (goodIn_of _ (by decide +kernel)) ggX10_shorter_X10_comes
theorem dX10_shorter_0 : decode cX10_shorter 0 = .ok (.aload_n 0, 1) := by decide +kernel
theorem dX10_shorter_1 : decode cX10_shorter 1 = .ok (.iload_n 1, 1) := by decide +kernel
theorem dX10_shorter_2 : decode cX10_shorter 2 = .ok (.invokevirtual 111, 3) := by decide +kernel
theorem dX10_shorter_5 : decode cX10_shorter 5 = .ok (.ifCond .ne 5, 3) := by decide +kernel
theorem dX10_shorter_8 : decode cX10_shorter 8 = .ok (.iconst (-1), 1) := by decide +kernel
theorem dX10_shorter_9 : decode cX10_shorter 9 = .ok (.ireturn, 1) := by decide +kernel
theorem dX10_shorter_10 : decode cX10_shorter 10 = .ok (.iload_n 2, 1) := by decide +kernel
theorem dX10_shorter_11 : decode cX10_shorter 11 = .ok (.iconst 0, 1) := by decide +kernel
theorem dX10_shorter_12 : decode cX10_shorter 12 = .ok (.iconst 4, 1) := by decide +kernel
theorem dX10_shorter_13 : decode cX10_shorter 13 = .ok (.invokestatic 92, 3) := by decide +kernel
theorem dX10_shorter_16 : decode cX10_shorter 16 = .ok (.ifCond .ne 6, 3) := by decide +kernel
theorem dX10_shorter_19 : decode cX10_shorter 19 = .ok (.bipush (-2), 2) := by decide +kernel
theorem dX10_shorter_21 : decode cX10_shorter 21 = .ok (.ireturn, 1) := by decide +kernel
theorem dX10_shorter_22 : decode cX10_shorter 22 = .ok (.aload_n 0, 1) := by decide +kernel
theorem dX10_shorter_23 : decode cX10_shorter 23 = .ok (.iload_n 1, 1) := by decide +kernel
theorem dX10_shorter_24 : decode cX10_shorter 24 = .ok (.invokevirtual 167, 3) := by decide +kernel
theorem dX10_shorter_27 : decode cX10_shorter 27 = .ok (.istore_n 3, 1) := by decide +kernel
theorem dX10_shorter_28 : decode cX10_shorter 28 = .ok (.aload_n 0, 1) := by decide +kernel
theorem dX10_shorter_29 : decode cX10_shorter 29 = .ok (.iload_n 1, 1) := by decide +kernel
theorem dX10_shorter_30 : decode cX10_shorter 30 = .ok (.iload_n 3, 1) := by decide +kernel
theorem dX10_shorter_31 : decode cX10_shorter 31 = .ok (.invokevirtual 213, 3) := by decide +kernel
theorem dX10_shorter_34 : decode cX10_shorter 34 = .ok (.aload_n 0, 1) := by decide +kernel
theorem dX10_shorter_35 : decode cX10_shorter 35 = .ok (.iconst 0, 1) := by decide +kernel
theorem dX10_shorter_36 : decode cX10_shorter 36 = .ok (.putfield 114, 3) := by decide +kernel
theorem dX10_shorter_39 : decode cX10_shorter 39 = .ok (.iconst 0, 1) := by decide +kernel
theorem dX10_shorter_40 : decode cX10_shorter 40 = .ok (.istore 4, 2) := by decide +kernel
theorem dX10_shorter_42 : decode cX10_shorter 42 = .ok (.iload 4, 2) := by decide +kernel
theorem dX10_shorter_44 : decode cX10_shorter 44 = .ok (.aload_n 0, 1) := by decide +kernel
theorem dX10_shorter_45 : decode cX10_shorter 45 = .ok (.getfield 19, 3) := by decide +kernel
theorem dX10_shorter_48 : decode cX10_shorter 48 = .ok (.iload_n 1, 1) := by decide +kernel
theorem dX10_shorter_49 : decode cX10_shorter 49 = .ok (.iaload, 1) := by decide +kernel
theorem dX10_shorter_50 : decode cX10_shorter 50 = .ok (.if_icmp .ge 41, 3) := by decide +kernel
theorem dX10_shorter_53 : decode cX10_shorter 53 = .ok (.aload_n 0, 1) := by decide +kernel
theorem dX10_shorter_54 : decode cX10_shorter 54 = .ok (.getfield 61, 3) := by decide +kernel
theorem dX10_shorter_57 : decode cX10_shorter 57 = .ok (.iload 4, 2) := by decide +kernel
theorem dX10_shorter_59 : decode cX10_shorter 59 = .ok (.aload_n 0, 1) := by decide +kernel
theorem dX10_shorter_60 : decode cX10_shorter 60 = .ok (.iload_n 1, 1) := by decide +kernel
theorem dX10_shorter_61 : decode cX10_shorter 61 = .ok (.iload 4, 2) := by decide +kernel
theorem dX10_shorter_63 : decode cX10_shorter 63 = .ok (.iload_n 2, 1) := by decide +kernel
theorem dX10_shorter_64 : decode cX10_shorter 64 = .ok (.iload_n 3, 1) := by decide +kernel
theorem dX10_shorter_65 : decode cX10_shorter 65 = .ok (.iconst 0, 1) := by decide +kernel
theorem dX10_shorter_66 : decode cX10_shorter 66 = .ok (.invokevirtual 229, 3) := by decide +kernel
theorem dX10_shorter_69 : decode cX10_shorter 69 = .ok (.iastore, 1) := by decide +kernel
theorem dX10_shorter_70 : decode cX10_shorter 70 = .ok (.aload_n 0, 1) := by decide +kernel
theorem dX10_shorter_71 : decode cX10_shorter 71 = .ok (.getfield 61, 3) := by decide +kernel
theorem dX10_shorter_74 : decode cX10_shorter 74 = .ok (.iload 4, 2) := by decide +kernel
theorem dX10_shorter_76 : decode cX10_shorter 76 = .ok (.iaload, 1) := by decide +kernel
theorem dX10_shorter_77 : decode cX10_shorter 77 = .ok (.bipush (-9), 2) := by decide +kernel
theorem dX10_shorter_79 : decode cX10_shorter 79 = .ok (.if_icmp .ne 6, 3) := by decide +kernel
theorem dX10_shorter_82 : decode cX10_shorter 82 = .ok (.bipush (-3), 2) := by decide +kernel
theorem dX10_shorter_84 : decode cX10_shorter 84 = .ok (.ireturn, 1) := by decide +kernel
theorem dX10_shorter_85 : decode cX10_shorter 85 = .ok (.iinc 4 1, 3) := by decide +kernel
theorem dX10_shorter_88 : decode cX10_shorter 88 = .ok (.goto (-46), 3) := by decide +kernel
theorem dX10_shorter_91 : decode cX10_shorter 91 = .ok (.iload_n 2, 1) := by decide +kernel
theorem dX10_shorter_92 : decode cX10_shorter 92 = .ok (.iconst 4, 1) := by decide +kernel
theorem dX10_shorter_93 : decode cX10_shorter 93 = .ok (.if_icmp .ne 12, 3) := by decide +kernel
theorem dX10_shorter_96 : decode cX10_shorter 96 = .ok (.aload_n 0, 1) := by decide +kernel
theorem dX10_shorter_97 : decode cX10_shorter 97 = .ok (.iload_n 1, 1) := by decide +kernel
theorem dX10_shorter_98 : decode cX10_shorter 98 = .ok (.iload_n 3, 1) := by decide +kernel
theorem dX10_shorter_99 : decode cX10_shorter 99 = .ok (.invokevirtual 232, 3) := by decide +kernel
theorem dX10_shorter_102 : decode cX10_shorter 102 = .ok (.goto 16, 3) := by decide +kernel
theorem dX10_shorter_105 : decode cX10_shorter 105 = .ok (.aload_n 0, 1) := by decide +kernel
theorem dX10_shorter_106 : decode cX10_shorter 106 = .ok (.getfield 61, 3) := by decide +kernel
theorem dX10_shorter_109 : decode cX10_shorter 109 = .ok (.aload_n 0, 1) := by decide +kernel
theorem dX10_shorter_110 : decode cX10_shorter 110 = .ok (.getfield 19, 3) := by decide +kernel
theorem dX10_shorter_113 : decode cX10_shorter 113 = .ok (.iload_n 1, 1) := by decide +kernel
theorem dX10_shorter_114 : decode cX10_shorter 114 = .ok (.iaload, 1) := by decide +kernel
theorem dX10_shorter_115 : decode cX10_shorter 115 = .ok (.iconst 1, 1) := by decide +kernel
theorem dX10_shorter_116 : decode cX10_shorter 116 = .ok (.isub, 1) := by decide +kernel
theorem dX10_shorter_117 : decode cX10_shorter 117 = .ok (.iaload, 1) := by decide +kernel
theorem dX10_shorter_118 : decode cX10_shorter 118 = .ok (.istore 4, 2) := by decide +kernel
theorem dX10_shorter_120 : decode cX10_shorter 120 = .ok (.iload 4, 2) := by decide +kernel
theorem dX10_shorter_122 : decode cX10_shorter 122 = .ok (.bipush (-9), 2) := by decide +kernel
theorem dX10_shorter_124 : decode cX10_shorter 124 = .ok (.if_icmp .ne 6, 3) := by decide +kernel
theorem dX10_shorter_127 : decode cX10_shorter 127 = .ok (.bipush (-3), 2) := by decide +kernel
theorem dX10_shorter_129 : decode cX10_shorter 129 = .ok (.ireturn, 1) := by decide +kernel
theorem dX10_shorter_130 : decode cX10_shorter 130 = .ok (.aload_n 0, 1) := by decide +kernel
theorem dX10_shorter_131 : decode cX10_shorter 131 = .ok (.iload 4, 2) := by decide +kernel
theorem dX10_shorter_133 : decode cX10_shorter 133 = .ok (.invokevirtual 235, 3) := by decide +kernel
theorem dX10_shorter_136 : decode cX10_shorter 136 = .ok (.aload_n 0, 1) := by decide +kernel
theorem dX10_shorter_137 : decode cX10_shorter 137 = .ok (.invokevirtual 157, 3) := by decide +kernel
theorem dX10_shorter_140 : decode cX10_shorter 140 = .ok (.ireturn, 1) := by decide +kernel
set_option maxRecDepth 20000 in
theorem ggX10_twice_X10_isProof : GoodIn wsX10_twice wsX10_isProof := goodIn_r _ [7, 8, 9, 10, 11, 12, 13, 14, 15, 16, 17, 18, 19, 20, 21, 22, 23, 24, 25, 26, 27, 28, 29, 30, 31, 32, 33, 34, 35, 36, 37, 38, 39, 40] (by decide +kernel) (by decide +kernel)
set_option maxRecDepth 20000 in
theorem gX10_twice_X10_isProof : GoodIn wsX10_twice (wsV RX10 111 RX10 yX10_isProof wsX10_isProof) := goodIn_app (goodIn_of _ (by decide +kernel)) ggX10_twice_X10_isProof
theorem dX10_twice_0 : decode cX10_twice 0 = .ok (.aload_n 0, 1) := by decide +kernel
theorem dX10_twice_1 : decode cX10_twice 1 = .ok (.iload_n 1, 1) := by decide +kernel
theorem dX10_twice_2 : decode cX10_twice 2 = .ok (.invokevirtual 111, 3) := by decide +kernel
theorem dX10_twice_5 : decode cX10_twice 5 = .ok (.ifCond .ne 5, 3) := by decide +kernel
theorem dX10_twice_8 : decode cX10_twice 8 = .ok (.iconst (-1), 1) := by decide +kernel
theorem dX10_twice_9 : decode cX10_twice 9 = .ok (.ireturn, 1) := by decide +kernel
theorem dX10_twice_10 : decode cX10_twice 10 = .ok (.iconst 0, 1) := by decide +kernel
theorem dX10_twice_11 : decode cX10_twice 11 = .ok (.istore_n 2, 1) := by decide +kernel
theorem dX10_twice_12 : decode cX10_twice 12 = .ok (.iconst 0, 1) := by decide +kernel
theorem dX10_twice_13 : decode cX10_twice 13 = .ok (.istore_n 3, 1) := by decide +kernel
theorem dX10_twice_14 : decode cX10_twice 14 = .ok (.iload_n 3, 1) := by decide +kernel
theorem dX10_twice_15 : decode cX10_twice 15 = .ok (.aload_n 0, 1) := by decide +kernel
theorem dX10_twice_16 : decode cX10_twice 16 = .ok (.getfield 19, 3) := by decide +kernel
theorem dX10_twice_19 : decode cX10_twice 19 = .ok (.iload_n 1, 1) := by decide +kernel
theorem dX10_twice_20 : decode cX10_twice 20 = .ok (.iaload, 1) := by decide +kernel
theorem dX10_twice_21 : decode cX10_twice 21 = .ok (.if_icmp .ge 76, 3) := by decide +kernel
theorem dX10_twice_24 : decode cX10_twice 24 = .ok (.iconst 0, 1) := by decide +kernel
theorem dX10_twice_25 : decode cX10_twice 25 = .ok (.istore 4, 2) := by decide +kernel
theorem dX10_twice_27 : decode cX10_twice 27 = .ok (.iconst 0, 1) := by decide +kernel
theorem dX10_twice_28 : decode cX10_twice 28 = .ok (.istore 5, 2) := by decide +kernel
theorem dX10_twice_30 : decode cX10_twice 30 = .ok (.iload 5, 2) := by decide +kernel
theorem dX10_twice_32 : decode cX10_twice 32 = .ok (.iload_n 3, 1) := by decide +kernel
theorem dX10_twice_33 : decode cX10_twice 33 = .ok (.if_icmp .ge 45, 3) := by decide +kernel
theorem dX10_twice_36 : decode cX10_twice 36 = .ok (.iload 4, 2) := by decide +kernel
theorem dX10_twice_38 : decode cX10_twice 38 = .ok (.aload_n 0, 1) := by decide +kernel
theorem dX10_twice_39 : decode cX10_twice 39 = .ok (.getfield 22, 3) := by decide +kernel
theorem dX10_twice_42 : decode cX10_twice 42 = .ok (.bipush 24, 2) := by decide +kernel
theorem dX10_twice_44 : decode cX10_twice 44 = .ok (.iload_n 1, 1) := by decide +kernel
theorem dX10_twice_45 : decode cX10_twice 45 = .ok (.imul, 1) := by decide +kernel
theorem dX10_twice_46 : decode cX10_twice 46 = .ok (.iload 5, 2) := by decide +kernel
theorem dX10_twice_48 : decode cX10_twice 48 = .ok (.iadd, 1) := by decide +kernel
theorem dX10_twice_49 : decode cX10_twice 49 = .ok (.iaload, 1) := by decide +kernel
theorem dX10_twice_50 : decode cX10_twice 50 = .ok (.aload_n 0, 1) := by decide +kernel
theorem dX10_twice_51 : decode cX10_twice 51 = .ok (.getfield 22, 3) := by decide +kernel
theorem dX10_twice_54 : decode cX10_twice 54 = .ok (.bipush 24, 2) := by decide +kernel
theorem dX10_twice_56 : decode cX10_twice 56 = .ok (.iload_n 1, 1) := by decide +kernel
theorem dX10_twice_57 : decode cX10_twice 57 = .ok (.imul, 1) := by decide +kernel
theorem dX10_twice_58 : decode cX10_twice 58 = .ok (.iload_n 3, 1) := by decide +kernel
theorem dX10_twice_59 : decode cX10_twice 59 = .ok (.iadd, 1) := by decide +kernel
theorem dX10_twice_60 : decode cX10_twice 60 = .ok (.iaload, 1) := by decide +kernel
theorem dX10_twice_61 : decode cX10_twice 61 = .ok (.if_icmp .ne 7, 3) := by decide +kernel
theorem dX10_twice_64 : decode cX10_twice 64 = .ok (.iconst 1, 1) := by decide +kernel
theorem dX10_twice_65 : decode cX10_twice 65 = .ok (.goto 4, 3) := by decide +kernel
theorem dX10_twice_68 : decode cX10_twice 68 = .ok (.iconst 0, 1) := by decide +kernel
theorem dX10_twice_69 : decode cX10_twice 69 = .ok (.ior, 1) := by decide +kernel
theorem dX10_twice_70 : decode cX10_twice 70 = .ok (.istore 4, 2) := by decide +kernel
theorem dX10_twice_72 : decode cX10_twice 72 = .ok (.iinc 5 1, 3) := by decide +kernel
theorem dX10_twice_75 : decode cX10_twice 75 = .ok (.goto (-45), 3) := by decide +kernel
theorem dX10_twice_78 : decode cX10_twice 78 = .ok (.iload_n 2, 1) := by decide +kernel
theorem dX10_twice_79 : decode cX10_twice 79 = .ok (.iload 4, 2) := by decide +kernel
theorem dX10_twice_81 : decode cX10_twice 81 = .ok (.ifCond .eq 7, 3) := by decide +kernel
theorem dX10_twice_84 : decode cX10_twice 84 = .ok (.iconst 1, 1) := by decide +kernel
theorem dX10_twice_85 : decode cX10_twice 85 = .ok (.goto 4, 3) := by decide +kernel
theorem dX10_twice_88 : decode cX10_twice 88 = .ok (.iconst 0, 1) := by decide +kernel
theorem dX10_twice_89 : decode cX10_twice 89 = .ok (.iadd, 1) := by decide +kernel
theorem dX10_twice_90 : decode cX10_twice 90 = .ok (.istore_n 2, 1) := by decide +kernel
theorem dX10_twice_91 : decode cX10_twice 91 = .ok (.iinc 3 1, 3) := by decide +kernel
theorem dX10_twice_94 : decode cX10_twice 94 = .ok (.goto (-80), 3) := by decide +kernel
theorem dX10_twice_97 : decode cX10_twice 97 = .ok (.iload_n 2, 1) := by decide +kernel
theorem dX10_twice_98 : decode cX10_twice 98 = .ok (.ireturn, 1) := by decide +kernel
set_option maxRecDepth 20000 in
theorem ggX10_heap_X10_isProof : GoodIn wsX10_heap wsX10_isProof := goodIn_r _ [8, 9, 66, 67, 68, 69, 70, 71, 72, 73, 74, 75, 76, 77, 78, 79, 80, 81, 82, 83, 84, 85, 86, 87, 88, 89, 90, 91, 92, 93, 94, 95, 96, 97] (by decide +kernel) (by decide +kernel)
set_option maxRecDepth 20000 in
theorem gX10_heap_X10_isProof : GoodIn wsX10_heap (wsV RX10 111 RX10 yX10_isProof wsX10_isProof) := goodIn_app (goodIn_of _ (by decide +kernel)) ggX10_heap_X10_isProof
set_option maxRecDepth 20000 in
theorem ggX10_heap_X10_standFor : GoodIn wsX10_heap wsX10_standFor := goodIn_r _ [13, 14, 15, 3, 16, 17, 18, 19, 20, 21, 7, 22, 23, 24, 25, 26, 1, 27, 28, 29, 30, 31, 32, 33, 34, 35, 36, 37, 38, 39, 40, 41, 2, 42, 43, 44, 45, 46, 47, 48, 49, 50, 51, 52, 53, 54, 55, 56, 57, 58, 59, 60, 61, 66, 67, 68, 69, 70, 71, 72, 73, 74, 75, 76, 77, 78, 79, 80, 81, 82, 83, 84, 85, 86, 87, 88, 89, 90, 91, 92, 93, 94, 95, 96, 97] (by decide +kernel) (by decide +kernel)
set_option maxRecDepth 20000 in
theorem gX10_heap_X10_standFor : GoodIn wsX10_heap (wsV RX10 229 RX10 yX10_standFor wsX10_standFor) := goodIn_app (goodIn_of _ (by decide +kernel)) ggX10_heap_X10_standFor
set_option maxRecDepth 20000 in
theorem ggX10_heap_X10_comes : GoodIn wsX10_heap wsX10_comes := goodIn_r _ [65, 9, 2, 1, 15, 27, 16, 35, 17, 36, 14, 37, 66, 67, 68, 69, 70, 71, 72, 73, 74, 75, 76, 77, 78, 79, 80, 81, 82, 83, 84, 85, 86, 87, 88, 89, 90, 91, 92, 93, 94, 95, 96, 97] (by decide +kernel) (by decide +kernel)
set_option maxRecDepth 20000 in
theorem gX10_heap_X10_comes : GoodIn wsX10_heap (wsV RX10 157 RX10 yX10_comes wsX10_comes) := goodIn_app (goodIn_of _ (by decide +kernel)) ggX10_heap_X10_comes
theorem dX10_heap_0 : decode cX10_heap 0 = .ok (.aload_n 0, 1) := by decide +kernel
theorem dX10_heap_1 : decode cX10_heap 1 = .ok (.iload_n 1, 1) := by decide +kernel
theorem dX10_heap_2 : decode cX10_heap 2 = .ok (.invokevirtual 111, 3) := by decide +kernel
theorem dX10_heap_5 : decode cX10_heap 5 = .ok (.ifCond .eq 11, 3) := by decide +kernel
theorem dX10_heap_8 : decode cX10_heap 8 = .ok (.aload_n 0, 1) := by decide +kernel
theorem dX10_heap_9 : decode cX10_heap 9 = .ok (.iload_n 2, 1) := by decide +kernel
theorem dX10_heap_10 : decode cX10_heap 10 = .ok (.invokevirtual 111, 3) := by decide +kernel
theorem dX10_heap_13 : decode cX10_heap 13 = .ok (.ifCond .ne 5, 3) := by decide +kernel
theorem dX10_heap_16 : decode cX10_heap 16 = .ok (.iconst (-1), 1) := by decide +kernel
theorem dX10_heap_17 : decode cX10_heap 17 = .ok (.ireturn, 1) := by decide +kernel
theorem dX10_heap_18 : decode cX10_heap 18 = .ok (.aload_n 0, 1) := by decide +kernel
theorem dX10_heap_19 : decode cX10_heap 19 = .ok (.iconst 0, 1) := by decide +kernel
theorem dX10_heap_20 : decode cX10_heap 20 = .ok (.putfield 114, 3) := by decide +kernel
theorem dX10_heap_23 : decode cX10_heap 23 = .ok (.iconst 0, 1) := by decide +kernel
theorem dX10_heap_24 : decode cX10_heap 24 = .ok (.istore_n 3, 1) := by decide +kernel
theorem dX10_heap_25 : decode cX10_heap 25 = .ok (.iload_n 3, 1) := by decide +kernel
theorem dX10_heap_26 : decode cX10_heap 26 = .ok (.aload_n 0, 1) := by decide +kernel
theorem dX10_heap_27 : decode cX10_heap 27 = .ok (.getfield 19, 3) := by decide +kernel
theorem dX10_heap_30 : decode cX10_heap 30 = .ok (.iload_n 1, 1) := by decide +kernel
theorem dX10_heap_31 : decode cX10_heap 31 = .ok (.iaload, 1) := by decide +kernel
theorem dX10_heap_32 : decode cX10_heap 32 = .ok (.if_icmp .ge 24, 3) := by decide +kernel
theorem dX10_heap_35 : decode cX10_heap 35 = .ok (.aload_n 0, 1) := by decide +kernel
theorem dX10_heap_36 : decode cX10_heap 36 = .ok (.getfield 61, 3) := by decide +kernel
theorem dX10_heap_39 : decode cX10_heap 39 = .ok (.iload_n 3, 1) := by decide +kernel
theorem dX10_heap_40 : decode cX10_heap 40 = .ok (.aload_n 0, 1) := by decide +kernel
theorem dX10_heap_41 : decode cX10_heap 41 = .ok (.iload_n 1, 1) := by decide +kernel
theorem dX10_heap_42 : decode cX10_heap 42 = .ok (.iload_n 3, 1) := by decide +kernel
theorem dX10_heap_43 : decode cX10_heap 43 = .ok (.iconst 1, 1) := by decide +kernel
theorem dX10_heap_44 : decode cX10_heap 44 = .ok (.iconst 0, 1) := by decide +kernel
theorem dX10_heap_45 : decode cX10_heap 45 = .ok (.iconst 0, 1) := by decide +kernel
theorem dX10_heap_46 : decode cX10_heap 46 = .ok (.invokevirtual 229, 3) := by decide +kernel
theorem dX10_heap_49 : decode cX10_heap 49 = .ok (.iastore, 1) := by decide +kernel
theorem dX10_heap_50 : decode cX10_heap 50 = .ok (.iinc 3 1, 3) := by decide +kernel
theorem dX10_heap_53 : decode cX10_heap 53 = .ok (.goto (-28), 3) := by decide +kernel
theorem dX10_heap_56 : decode cX10_heap 56 = .ok (.iconst 0, 1) := by decide +kernel
theorem dX10_heap_57 : decode cX10_heap 57 = .ok (.istore_n 3, 1) := by decide +kernel
theorem dX10_heap_58 : decode cX10_heap 58 = .ok (.iload_n 3, 1) := by decide +kernel
theorem dX10_heap_59 : decode cX10_heap 59 = .ok (.aload_n 0, 1) := by decide +kernel
theorem dX10_heap_60 : decode cX10_heap 60 = .ok (.getfield 19, 3) := by decide +kernel
theorem dX10_heap_63 : decode cX10_heap 63 = .ok (.iload_n 2, 1) := by decide +kernel
theorem dX10_heap_64 : decode cX10_heap 64 = .ok (.iaload, 1) := by decide +kernel
theorem dX10_heap_65 : decode cX10_heap 65 = .ok (.if_icmp .ge 28, 3) := by decide +kernel
theorem dX10_heap_68 : decode cX10_heap 68 = .ok (.aload_n 0, 1) := by decide +kernel
theorem dX10_heap_69 : decode cX10_heap 69 = .ok (.getfield 61, 3) := by decide +kernel
theorem dX10_heap_72 : decode cX10_heap 72 = .ok (.bipush 24, 2) := by decide +kernel
theorem dX10_heap_74 : decode cX10_heap 74 = .ok (.iload_n 3, 1) := by decide +kernel
theorem dX10_heap_75 : decode cX10_heap 75 = .ok (.iadd, 1) := by decide +kernel
theorem dX10_heap_76 : decode cX10_heap 76 = .ok (.aload_n 0, 1) := by decide +kernel
theorem dX10_heap_77 : decode cX10_heap 77 = .ok (.iload_n 2, 1) := by decide +kernel
theorem dX10_heap_78 : decode cX10_heap 78 = .ok (.iload_n 3, 1) := by decide +kernel
theorem dX10_heap_79 : decode cX10_heap 79 = .ok (.iconst 1, 1) := by decide +kernel
theorem dX10_heap_80 : decode cX10_heap 80 = .ok (.iconst 0, 1) := by decide +kernel
theorem dX10_heap_81 : decode cX10_heap 81 = .ok (.bipush 24, 2) := by decide +kernel
theorem dX10_heap_83 : decode cX10_heap 83 = .ok (.invokevirtual 229, 3) := by decide +kernel
theorem dX10_heap_86 : decode cX10_heap 86 = .ok (.iastore, 1) := by decide +kernel
theorem dX10_heap_87 : decode cX10_heap 87 = .ok (.iinc 3 1, 3) := by decide +kernel
theorem dX10_heap_90 : decode cX10_heap 90 = .ok (.goto (-32), 3) := by decide +kernel
theorem dX10_heap_93 : decode cX10_heap 93 = .ok (.aload_n 0, 1) := by decide +kernel
theorem dX10_heap_94 : decode cX10_heap 94 = .ok (.aload_n 0, 1) := by decide +kernel
theorem dX10_heap_95 : decode cX10_heap 95 = .ok (.getfield 61, 3) := by decide +kernel
theorem dX10_heap_98 : decode cX10_heap 98 = .ok (.bipush 24, 2) := by decide +kernel
theorem dX10_heap_100 : decode cX10_heap 100 = .ok (.aload_n 0, 1) := by decide +kernel
theorem dX10_heap_101 : decode cX10_heap 101 = .ok (.getfield 19, 3) := by decide +kernel
theorem dX10_heap_104 : decode cX10_heap 104 = .ok (.iload_n 2, 1) := by decide +kernel
theorem dX10_heap_105 : decode cX10_heap 105 = .ok (.iaload, 1) := by decide +kernel
theorem dX10_heap_106 : decode cX10_heap 106 = .ok (.iadd, 1) := by decide +kernel
theorem dX10_heap_107 : decode cX10_heap 107 = .ok (.iconst 1, 1) := by decide +kernel
theorem dX10_heap_108 : decode cX10_heap 108 = .ok (.isub, 1) := by decide +kernel
theorem dX10_heap_109 : decode cX10_heap 109 = .ok (.iaload, 1) := by decide +kernel
theorem dX10_heap_110 : decode cX10_heap 110 = .ok (.iconst 1, 1) := by decide +kernel
theorem dX10_heap_111 : decode cX10_heap 111 = .ok (.iadd, 1) := by decide +kernel
theorem dX10_heap_112 : decode cX10_heap 112 = .ok (.putfield 114, 3) := by decide +kernel
theorem dX10_heap_115 : decode cX10_heap 115 = .ok (.aload_n 0, 1) := by decide +kernel
theorem dX10_heap_116 : decode cX10_heap 116 = .ok (.getfield 114, 3) := by decide +kernel
theorem dX10_heap_119 : decode cX10_heap 119 = .ok (.bipush 24, 2) := by decide +kernel
theorem dX10_heap_121 : decode cX10_heap 121 = .ok (.if_icmp .le 8, 3) := by decide +kernel
theorem dX10_heap_124 : decode cX10_heap 124 = .ok (.bipush (-3), 2) := by decide +kernel
theorem dX10_heap_126 : decode cX10_heap 126 = .ok (.goto 7, 3) := by decide +kernel
theorem dX10_heap_129 : decode cX10_heap 129 = .ok (.aload_n 0, 1) := by decide +kernel
theorem dX10_heap_130 : decode cX10_heap 130 = .ok (.invokevirtual 157, 3) := by decide +kernel
theorem dX10_heap_133 : decode cX10_heap 133 = .ok (.ireturn, 1) := by decide +kernel
theorem dX10_hasClause_0 : decode cX10_hasClause 0 = .ok (.iconst 0, 1) := by decide +kernel
theorem dX10_hasClause_1 : decode cX10_hasClause 1 = .ok (.istore 4, 2) := by decide +kernel
theorem dX10_hasClause_3 : decode cX10_hasClause 3 = .ok (.iload 4, 2) := by decide +kernel
theorem dX10_hasClause_5 : decode cX10_hasClause 5 = .ok (.iload_n 3, 1) := by decide +kernel
theorem dX10_hasClause_6 : decode cX10_hasClause 6 = .ok (.if_icmp .ge 27, 3) := by decide +kernel
theorem dX10_hasClause_9 : decode cX10_hasClause 9 = .ok (.aload_n 0, 1) := by decide +kernel
theorem dX10_hasClause_10 : decode cX10_hasClause 10 = .ok (.getfield 22, 3) := by decide +kernel
theorem dX10_hasClause_13 : decode cX10_hasClause 13 = .ok (.bipush 24, 2) := by decide +kernel
theorem dX10_hasClause_15 : decode cX10_hasClause 15 = .ok (.iload_n 1, 1) := by decide +kernel
theorem dX10_hasClause_16 : decode cX10_hasClause 16 = .ok (.imul, 1) := by decide +kernel
theorem dX10_hasClause_17 : decode cX10_hasClause 17 = .ok (.iload 4, 2) := by decide +kernel
theorem dX10_hasClause_19 : decode cX10_hasClause 19 = .ok (.iadd, 1) := by decide +kernel
theorem dX10_hasClause_20 : decode cX10_hasClause 20 = .ok (.iaload, 1) := by decide +kernel
theorem dX10_hasClause_21 : decode cX10_hasClause 21 = .ok (.iload_n 2, 1) := by decide +kernel
theorem dX10_hasClause_22 : decode cX10_hasClause 22 = .ok (.if_icmp .ne 5, 3) := by decide +kernel
theorem dX10_hasClause_25 : decode cX10_hasClause 25 = .ok (.iconst 1, 1) := by decide +kernel
theorem dX10_hasClause_26 : decode cX10_hasClause 26 = .ok (.ireturn, 1) := by decide +kernel
theorem dX10_hasClause_27 : decode cX10_hasClause 27 = .ok (.iinc 4 1, 3) := by decide +kernel
theorem dX10_hasClause_30 : decode cX10_hasClause 30 = .ok (.goto (-27), 3) := by decide +kernel
theorem dX10_hasClause_33 : decode cX10_hasClause 33 = .ok (.iconst 0, 1) := by decide +kernel
theorem dX10_hasClause_34 : decode cX10_hasClause 34 = .ok (.ireturn, 1) := by decide +kernel
set_option maxRecDepth 20000 in
theorem ggX10_shared_X10_isProof : GoodIn wsX10_shared wsX10_isProof := goodIn_r _ [7, 8, 13, 14, 15, 16, 17, 18, 19, 20, 21, 22, 23, 24, 25, 26, 27, 28, 29, 30, 31, 32, 33, 34, 35, 36, 37, 38, 39, 40, 41, 42, 43, 44] (by decide +kernel) (by decide +kernel)
set_option maxRecDepth 20000 in
theorem gX10_shared_X10_isProof : GoodIn wsX10_shared (wsV RX10 111 RX10 yX10_isProof wsX10_isProof) := goodIn_app (goodIn_of _ (by decide +kernel)) ggX10_shared_X10_isProof
set_option maxRecDepth 20000 in
theorem ggX10_shared_X10_hasClause : GoodIn wsX10_shared wsX10_hasClause := goodIn_r _ [12, 2, 13, 14, 15, 16, 17, 18, 19, 20, 21, 22, 23, 24, 25, 26, 27, 28, 29, 30, 31, 32, 33, 34, 35, 36, 37, 38, 39, 40, 41, 42, 43, 44] (by decide +kernel) (by decide +kernel)
set_option maxRecDepth 20000 in
theorem gX10_shared_X10_hasClause : GoodIn wsX10_shared (wsV RX10 239 RX10 yX10_hasClause wsX10_hasClause) := goodIn_app (goodIn_of _ (by decide +kernel)) ggX10_shared_X10_hasClause
theorem dX10_shared_0 : decode cX10_shared 0 = .ok (.aload_n 0, 1) := by decide +kernel
theorem dX10_shared_1 : decode cX10_shared 1 = .ok (.iload_n 1, 1) := by decide +kernel
theorem dX10_shared_2 : decode cX10_shared 2 = .ok (.invokevirtual 111, 3) := by decide +kernel
theorem dX10_shared_5 : decode cX10_shared 5 = .ok (.ifCond .eq 11, 3) := by decide +kernel
theorem dX10_shared_8 : decode cX10_shared 8 = .ok (.aload_n 0, 1) := by decide +kernel
theorem dX10_shared_9 : decode cX10_shared 9 = .ok (.iload_n 2, 1) := by decide +kernel
theorem dX10_shared_10 : decode cX10_shared 10 = .ok (.invokevirtual 111, 3) := by decide +kernel
theorem dX10_shared_13 : decode cX10_shared 13 = .ok (.ifCond .ne 5, 3) := by decide +kernel
theorem dX10_shared_16 : decode cX10_shared 16 = .ok (.iconst (-1), 1) := by decide +kernel
theorem dX10_shared_17 : decode cX10_shared 17 = .ok (.ireturn, 1) := by decide +kernel
theorem dX10_shared_18 : decode cX10_shared 18 = .ok (.iconst 0, 1) := by decide +kernel
theorem dX10_shared_19 : decode cX10_shared 19 = .ok (.istore_n 3, 1) := by decide +kernel
theorem dX10_shared_20 : decode cX10_shared 20 = .ok (.iconst 0, 1) := by decide +kernel
theorem dX10_shared_21 : decode cX10_shared 21 = .ok (.istore 4, 2) := by decide +kernel
theorem dX10_shared_23 : decode cX10_shared 23 = .ok (.iload 4, 2) := by decide +kernel
theorem dX10_shared_25 : decode cX10_shared 25 = .ok (.aload_n 0, 1) := by decide +kernel
theorem dX10_shared_26 : decode cX10_shared 26 = .ok (.getfield 19, 3) := by decide +kernel
theorem dX10_shared_29 : decode cX10_shared 29 = .ok (.iload_n 1, 1) := by decide +kernel
theorem dX10_shared_30 : decode cX10_shared 30 = .ok (.iaload, 1) := by decide +kernel
theorem dX10_shared_31 : decode cX10_shared 31 = .ok (.if_icmp .ge 59, 3) := by decide +kernel
theorem dX10_shared_34 : decode cX10_shared 34 = .ok (.aload_n 0, 1) := by decide +kernel
theorem dX10_shared_35 : decode cX10_shared 35 = .ok (.getfield 22, 3) := by decide +kernel
theorem dX10_shared_38 : decode cX10_shared 38 = .ok (.bipush 24, 2) := by decide +kernel
theorem dX10_shared_40 : decode cX10_shared 40 = .ok (.iload_n 1, 1) := by decide +kernel
theorem dX10_shared_41 : decode cX10_shared 41 = .ok (.imul, 1) := by decide +kernel
theorem dX10_shared_42 : decode cX10_shared 42 = .ok (.iload 4, 2) := by decide +kernel
theorem dX10_shared_44 : decode cX10_shared 44 = .ok (.iadd, 1) := by decide +kernel
theorem dX10_shared_45 : decode cX10_shared 45 = .ok (.iaload, 1) := by decide +kernel
theorem dX10_shared_46 : decode cX10_shared 46 = .ok (.istore 5, 2) := by decide +kernel
theorem dX10_shared_48 : decode cX10_shared 48 = .ok (.iload_n 3, 1) := by decide +kernel
theorem dX10_shared_49 : decode cX10_shared 49 = .ok (.aload_n 0, 1) := by decide +kernel
theorem dX10_shared_50 : decode cX10_shared 50 = .ok (.iload_n 1, 1) := by decide +kernel
theorem dX10_shared_51 : decode cX10_shared 51 = .ok (.iload 5, 2) := by decide +kernel
theorem dX10_shared_53 : decode cX10_shared 53 = .ok (.iload 4, 2) := by decide +kernel
theorem dX10_shared_55 : decode cX10_shared 55 = .ok (.invokevirtual 239, 3) := by decide +kernel
theorem dX10_shared_58 : decode cX10_shared 58 = .ok (.ifCond .ne 23, 3) := by decide +kernel
theorem dX10_shared_61 : decode cX10_shared 61 = .ok (.aload_n 0, 1) := by decide +kernel
theorem dX10_shared_62 : decode cX10_shared 62 = .ok (.iload_n 2, 1) := by decide +kernel
theorem dX10_shared_63 : decode cX10_shared 63 = .ok (.iload 5, 2) := by decide +kernel
theorem dX10_shared_65 : decode cX10_shared 65 = .ok (.aload_n 0, 1) := by decide +kernel
theorem dX10_shared_66 : decode cX10_shared 66 = .ok (.getfield 19, 3) := by decide +kernel
theorem dX10_shared_69 : decode cX10_shared 69 = .ok (.iload_n 2, 1) := by decide +kernel
theorem dX10_shared_70 : decode cX10_shared 70 = .ok (.iaload, 1) := by decide +kernel
theorem dX10_shared_71 : decode cX10_shared 71 = .ok (.invokevirtual 239, 3) := by decide +kernel
theorem dX10_shared_74 : decode cX10_shared 74 = .ok (.ifCond .eq 7, 3) := by decide +kernel
theorem dX10_shared_77 : decode cX10_shared 77 = .ok (.iconst 1, 1) := by decide +kernel
theorem dX10_shared_78 : decode cX10_shared 78 = .ok (.goto 4, 3) := by decide +kernel
theorem dX10_shared_81 : decode cX10_shared 81 = .ok (.iconst 0, 1) := by decide +kernel
theorem dX10_shared_82 : decode cX10_shared 82 = .ok (.iadd, 1) := by decide +kernel
theorem dX10_shared_83 : decode cX10_shared 83 = .ok (.istore_n 3, 1) := by decide +kernel
theorem dX10_shared_84 : decode cX10_shared 84 = .ok (.iinc 4 1, 3) := by decide +kernel
theorem dX10_shared_87 : decode cX10_shared 87 = .ok (.goto (-64), 3) := by decide +kernel
theorem dX10_shared_90 : decode cX10_shared 90 = .ok (.iload_n 3, 1) := by decide +kernel
theorem dX10_shared_91 : decode cX10_shared 91 = .ok (.ireturn, 1) := by decide +kernel
theorem dX10_isTrueIn_0 : decode cX10_isTrueIn 0 = .ok (.iload_n 0, 1) := by decide +kernel
theorem dX10_isTrueIn_1 : decode cX10_isTrueIn 1 = .ok (.iload_n 1, 1) := by decide +kernel
theorem dX10_isTrueIn_2 : decode cX10_isTrueIn 2 = .ok (.iand, 1) := by decide +kernel
theorem dX10_isTrueIn_3 : decode cX10_isTrueIn 3 = .ok (.ifCond .ne 14, 3) := by decide +kernel
theorem dX10_isTrueIn_6 : decode cX10_isTrueIn 6 = .ok (.iload_n 0, 1) := by decide +kernel
theorem dX10_isTrueIn_7 : decode cX10_isTrueIn 7 = .ok (.bipush 6, 2) := by decide +kernel
theorem dX10_isTrueIn_9 : decode cX10_isTrueIn 9 = .ok (.ishr, 1) := by decide +kernel
theorem dX10_isTrueIn_10 : decode cX10_isTrueIn 10 = .ok (.iload_n 1, 1) := by decide +kernel
theorem dX10_isTrueIn_11 : decode cX10_isTrueIn 11 = .ok (.iconst (-1), 1) := by decide +kernel
theorem dX10_isTrueIn_12 : decode cX10_isTrueIn 12 = .ok (.ixor, 1) := by decide +kernel
theorem dX10_isTrueIn_13 : decode cX10_isTrueIn 13 = .ok (.iand, 1) := by decide +kernel
theorem dX10_isTrueIn_14 : decode cX10_isTrueIn 14 = .ok (.ifCond .eq 7, 3) := by decide +kernel
theorem dX10_isTrueIn_17 : decode cX10_isTrueIn 17 = .ok (.iconst 1, 1) := by decide +kernel
theorem dX10_isTrueIn_18 : decode cX10_isTrueIn 18 = .ok (.goto 4, 3) := by decide +kernel
theorem dX10_isTrueIn_21 : decode cX10_isTrueIn 21 = .ok (.iconst 0, 1) := by decide +kernel
theorem dX10_isTrueIn_22 : decode cX10_isTrueIn 22 = .ok (.ireturn, 1) := by decide +kernel
set_option maxRecDepth 20000 in
theorem ggX10_truthsOf_X10_isTrueIn : GoodIn wsX10_truthsOf wsX10_isTrueIn := goodIn_r _ [4] (by decide +kernel) (by decide +kernel)
set_option maxRecDepth 20000 in
theorem gX10_truthsOf_X10_isTrueIn : GoodIn wsX10_truthsOf (va_wsS RX10 242 yX10_isTrueIn wsX10_isTrueIn) := goodIn_app (goodIn_of _ (by decide +kernel)) ggX10_truthsOf_X10_isTrueIn
theorem dX10_truthsOf_0 : decode cX10_truthsOf 0 = .ok (.lconst 0, 1) := by decide +kernel
theorem dX10_truthsOf_1 : decode cX10_truthsOf 1 = .ok (.lstore_n 1, 1) := by decide +kernel
theorem dX10_truthsOf_2 : decode cX10_truthsOf 2 = .ok (.iconst 0, 1) := by decide +kernel
theorem dX10_truthsOf_3 : decode cX10_truthsOf 3 = .ok (.istore_n 3, 1) := by decide +kernel
theorem dX10_truthsOf_4 : decode cX10_truthsOf 4 = .ok (.iload_n 3, 1) := by decide +kernel
theorem dX10_truthsOf_5 : decode cX10_truthsOf 5 = .ok (.bipush 64, 2) := by decide +kernel
theorem dX10_truthsOf_7 : decode cX10_truthsOf 7 = .ok (.if_icmp .ge 27, 3) := by decide +kernel
theorem dX10_truthsOf_10 : decode cX10_truthsOf 10 = .ok (.lload_n 1, 1) := by decide +kernel
theorem dX10_truthsOf_11 : decode cX10_truthsOf 11 = .ok (.iload_n 0, 1) := by decide +kernel
theorem dX10_truthsOf_12 : decode cX10_truthsOf 12 = .ok (.iload_n 3, 1) := by decide +kernel
theorem dX10_truthsOf_13 : decode cX10_truthsOf 13 = .ok (.invokestatic 242, 3) := by decide +kernel
theorem dX10_truthsOf_16 : decode cX10_truthsOf 16 = .ok (.ifCond .eq 9, 3) := by decide +kernel
theorem dX10_truthsOf_19 : decode cX10_truthsOf 19 = .ok (.lconst 1, 1) := by decide +kernel
theorem dX10_truthsOf_20 : decode cX10_truthsOf 20 = .ok (.iload_n 3, 1) := by decide +kernel
theorem dX10_truthsOf_21 : decode cX10_truthsOf 21 = .ok (.lshl, 1) := by decide +kernel
theorem dX10_truthsOf_22 : decode cX10_truthsOf 22 = .ok (.goto 4, 3) := by decide +kernel
theorem dX10_truthsOf_25 : decode cX10_truthsOf 25 = .ok (.lconst 0, 1) := by decide +kernel
theorem dX10_truthsOf_26 : decode cX10_truthsOf 26 = .ok (.lor, 1) := by decide +kernel
theorem dX10_truthsOf_27 : decode cX10_truthsOf 27 = .ok (.lstore_n 1, 1) := by decide +kernel
theorem dX10_truthsOf_28 : decode cX10_truthsOf 28 = .ok (.iinc 3 1, 3) := by decide +kernel
theorem dX10_truthsOf_31 : decode cX10_truthsOf 31 = .ok (.goto (-27), 3) := by decide +kernel
theorem dX10_truthsOf_34 : decode cX10_truthsOf 34 = .ok (.lload_n 1, 1) := by decide +kernel
theorem dX10_truthsOf_35 : decode cX10_truthsOf 35 = .ok (.lreturn, 1) := by decide +kernel
set_option maxRecDepth 20000 in
theorem ggX10_layGrounds_X10_truthsOf : GoodIn wsX10_layGrounds wsX10_truthsOf := goodIn_r _ [9, 10, 11, 8, 12] (by decide +kernel) (by decide +kernel)
set_option maxRecDepth 20000 in
theorem gX10_layGrounds_X10_truthsOf : GoodIn wsX10_layGrounds (va_wsS RX10 245 yX10_truthsOf wsX10_truthsOf) := goodIn_app (goodIn_of _ (by decide +kernel)) ggX10_layGrounds_X10_truthsOf
theorem dX10_layGrounds_0 : decode cX10_layGrounds 0 = .ok (.iconst 0, 1) := by decide +kernel
theorem dX10_layGrounds_1 : decode cX10_layGrounds 1 = .ok (.istore_n 2, 1) := by decide +kernel
theorem dX10_layGrounds_2 : decode cX10_layGrounds 2 = .ok (.iconst 0, 1) := by decide +kernel
theorem dX10_layGrounds_3 : decode cX10_layGrounds 3 = .ok (.istore_n 3, 1) := by decide +kernel
theorem dX10_layGrounds_4 : decode cX10_layGrounds 4 = .ok (.iload_n 3, 1) := by decide +kernel
theorem dX10_layGrounds_5 : decode cX10_layGrounds 5 = .ok (.aload_n 0, 1) := by decide +kernel
theorem dX10_layGrounds_6 : decode cX10_layGrounds 6 = .ok (.getfield 19, 3) := by decide +kernel
theorem dX10_layGrounds_9 : decode cX10_layGrounds 9 = .ok (.iload_n 1, 1) := by decide +kernel
theorem dX10_layGrounds_10 : decode cX10_layGrounds 10 = .ok (.iaload, 1) := by decide +kernel
theorem dX10_layGrounds_11 : decode cX10_layGrounds 11 = .ok (.if_icmp .ge 75, 3) := by decide +kernel
theorem dX10_layGrounds_14 : decode cX10_layGrounds 14 = .ok (.bipush 24, 2) := by decide +kernel
theorem dX10_layGrounds_16 : decode cX10_layGrounds 16 = .ok (.iload_n 1, 1) := by decide +kernel
theorem dX10_layGrounds_17 : decode cX10_layGrounds 17 = .ok (.imul, 1) := by decide +kernel
theorem dX10_layGrounds_18 : decode cX10_layGrounds 18 = .ok (.iload_n 3, 1) := by decide +kernel
theorem dX10_layGrounds_19 : decode cX10_layGrounds 19 = .ok (.iadd, 1) := by decide +kernel
theorem dX10_layGrounds_20 : decode cX10_layGrounds 20 = .ok (.istore 4, 2) := by decide +kernel
theorem dX10_layGrounds_22 : decode cX10_layGrounds 22 = .ok (.aload_n 0, 1) := by decide +kernel
theorem dX10_layGrounds_23 : decode cX10_layGrounds 23 = .ok (.getfield 31, 3) := by decide +kernel
theorem dX10_layGrounds_26 : decode cX10_layGrounds 26 = .ok (.iload 4, 2) := by decide +kernel
theorem dX10_layGrounds_28 : decode cX10_layGrounds 28 = .ok (.iaload, 1) := by decide +kernel
theorem dX10_layGrounds_29 : decode cX10_layGrounds 29 = .ok (.bipush (-9), 2) := by decide +kernel
theorem dX10_layGrounds_31 : decode cX10_layGrounds 31 = .ok (.if_icmp .ne 49, 3) := by decide +kernel
theorem dX10_layGrounds_34 : decode cX10_layGrounds 34 = .ok (.aload_n 0, 1) := by decide +kernel
theorem dX10_layGrounds_35 : decode cX10_layGrounds 35 = .ok (.getfield 70, 3) := by decide +kernel
theorem dX10_layGrounds_38 : decode cX10_layGrounds 38 = .ok (.iload_n 2, 1) := by decide +kernel
theorem dX10_layGrounds_39 : decode cX10_layGrounds 39 = .ok (.aload_n 0, 1) := by decide +kernel
