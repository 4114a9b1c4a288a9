theorem dX10_restsOf_30 : decode cX10_restsOf 30 = .ok (.if_icmp .ne 49, 3) := by decide +kernel
theorem dX10_restsOf_33 : decode cX10_restsOf 33 = .ok (.aload_n 0, 1) := by decide +kernel
theorem dX10_restsOf_34 : decode cX10_restsOf 34 = .ok (.getfield 31, 3) := by decide +kernel
theorem dX10_restsOf_37 : decode cX10_restsOf 37 = .ok (.bipush 24, 2) := by decide +kernel
theorem dX10_restsOf_39 : decode cX10_restsOf 39 = .ok (.iload_n 1, 1) := by decide +kernel
theorem dX10_restsOf_40 : decode cX10_restsOf 40 = .ok (.imul, 1) := by decide +kernel
theorem dX10_restsOf_41 : decode cX10_restsOf 41 = .ok (.iload_n 3, 1) := by decide +kernel
theorem dX10_restsOf_42 : decode cX10_restsOf 42 = .ok (.iadd, 1) := by decide +kernel
theorem dX10_restsOf_43 : decode cX10_restsOf 43 = .ok (.iaload, 1) := by decide +kernel
theorem dX10_restsOf_44 : decode cX10_restsOf 44 = .ok (.bipush (-9), 2) := by decide +kernel
theorem dX10_restsOf_46 : decode cX10_restsOf 46 = .ok (.if_icmp .eq 33, 3) := by decide +kernel
theorem dX10_restsOf_49 : decode cX10_restsOf 49 = .ok (.iload_n 2, 1) := by decide +kernel
theorem dX10_restsOf_50 : decode cX10_restsOf 50 = .ok (.iconst 1, 1) := by decide +kernel
theorem dX10_restsOf_51 : decode cX10_restsOf 51 = .ok (.aload_n 0, 1) := by decide +kernel
theorem dX10_restsOf_52 : decode cX10_restsOf 52 = .ok (.getfield 25, 3) := by decide +kernel
theorem dX10_restsOf_55 : decode cX10_restsOf 55 = .ok (.bipush 24, 2) := by decide +kernel
theorem dX10_restsOf_57 : decode cX10_restsOf 57 = .ok (.iload_n 1, 1) := by decide +kernel
theorem dX10_restsOf_58 : decode cX10_restsOf 58 = .ok (.imul, 1) := by decide +kernel
theorem dX10_restsOf_59 : decode cX10_restsOf 59 = .ok (.iload_n 3, 1) := by decide +kernel
theorem dX10_restsOf_60 : decode cX10_restsOf 60 = .ok (.iadd, 1) := by decide +kernel
theorem dX10_restsOf_61 : decode cX10_restsOf 61 = .ok (.iaload, 1) := by decide +kernel
theorem dX10_restsOf_62 : decode cX10_restsOf 62 = .ok (.ishl, 1) := by decide +kernel
theorem dX10_restsOf_63 : decode cX10_restsOf 63 = .ok (.iconst 1, 1) := by decide +kernel
theorem dX10_restsOf_64 : decode cX10_restsOf 64 = .ok (.aload_n 0, 1) := by decide +kernel
theorem dX10_restsOf_65 : decode cX10_restsOf 65 = .ok (.getfield 28, 3) := by decide +kernel
theorem dX10_restsOf_68 : decode cX10_restsOf 68 = .ok (.bipush 24, 2) := by decide +kernel
theorem dX10_restsOf_70 : decode cX10_restsOf 70 = .ok (.iload_n 1, 1) := by decide +kernel
theorem dX10_restsOf_71 : decode cX10_restsOf 71 = .ok (.imul, 1) := by decide +kernel
theorem dX10_restsOf_72 : decode cX10_restsOf 72 = .ok (.iload_n 3, 1) := by decide +kernel
theorem dX10_restsOf_73 : decode cX10_restsOf 73 = .ok (.iadd, 1) := by decide +kernel
theorem dX10_restsOf_74 : decode cX10_restsOf 74 = .ok (.iaload, 1) := by decide +kernel
theorem dX10_restsOf_75 : decode cX10_restsOf 75 = .ok (.ishl, 1) := by decide +kernel
theorem dX10_restsOf_76 : decode cX10_restsOf 76 = .ok (.ior, 1) := by decide +kernel
theorem dX10_restsOf_77 : decode cX10_restsOf 77 = .ok (.ior, 1) := by decide +kernel
theorem dX10_restsOf_78 : decode cX10_restsOf 78 = .ok (.istore_n 2, 1) := by decide +kernel
theorem dX10_restsOf_79 : decode cX10_restsOf 79 = .ok (.iinc 3 (-1), 3) := by decide +kernel
theorem dX10_restsOf_82 : decode cX10_restsOf 82 = .ok (.goto (-62), 3) := by decide +kernel
theorem dX10_restsOf_85 : decode cX10_restsOf 85 = .ok (.iload_n 2, 1) := by decide +kernel
theorem dX10_restsOf_86 : decode cX10_restsOf 86 = .ok (.ireturn, 1) := by decide +kernel
set_option maxRecDepth 20000 in
theorem ggX10_rests_X10_isProof : GoodIn wsX10_rests wsX10_isProof := goodIn_r _ [5, 6, 15, 16, 17, 18, 19, 20, 21, 22, 23, 24, 25, 26, 27, 28, 29, 30, 31, 32, 33, 34, 35, 36, 37, 38, 39, 40, 41, 42, 43, 44, 45, 46] (by decide +kernel) (by decide +kernel)
set_option maxRecDepth 20000 in
theorem gX10_rests_X10_isProof : GoodIn wsX10_rests (wsV RX10 111 RX10 yX10_isProof wsX10_isProof) := goodIn_app (goodIn_of _ (by decide +kernel)) ggX10_rests_X10_isProof
set_option maxRecDepth 20000 in
theorem ggX10_rests_X10_restsOf : GoodIn wsX10_rests wsX10_restsOf := goodIn_r _ [10, 11, 12, 13, 14, 15, 16, 17, 18, 19, 20, 21, 22, 23, 24, 25, 26, 27, 28, 29, 30, 31, 32, 33, 34, 35, 36, 37, 38, 39, 40, 41, 42, 43, 44, 45, 46] (by decide +kernel) (by decide +kernel)
set_option maxRecDepth 20000 in
theorem gX10_rests_X10_restsOf : GoodIn wsX10_rests (wsV RX10 167 RX10 yX10_restsOf wsX10_restsOf) := goodIn_app (goodIn_of _ (by decide +kernel)) ggX10_rests_X10_restsOf
theorem dX10_rests_0 : decode cX10_rests 0 = .ok (.aload_n 0, 1) := by decide +kernel
theorem dX10_rests_1 : decode cX10_rests 1 = .ok (.iload_n 1, 1) := by decide +kernel
theorem dX10_rests_2 : decode cX10_rests 2 = .ok (.invokevirtual 111, 3) := by decide +kernel
theorem dX10_rests_5 : decode cX10_rests 5 = .ok (.ifCond .eq 11, 3) := by decide +kernel
theorem dX10_rests_8 : decode cX10_rests 8 = .ok (.aload_n 0, 1) := by decide +kernel
theorem dX10_rests_9 : decode cX10_rests 9 = .ok (.iload_n 1, 1) := by decide +kernel
theorem dX10_rests_10 : decode cX10_rests 10 = .ok (.invokevirtual 167, 3) := by decide +kernel
theorem dX10_rests_13 : decode cX10_rests 13 = .ok (.goto 4, 3) := by decide +kernel
theorem dX10_rests_16 : decode cX10_rests 16 = .ok (.iconst (-1), 1) := by decide +kernel
theorem dX10_rests_17 : decode cX10_rests 17 = .ok (.ireturn, 1) := by decide +kernel
theorem dX10_groundsOf_0 : decode cX10_groundsOf 0 = .ok (.iconst 0, 1) := by decide +kernel
theorem dX10_groundsOf_1 : decode cX10_groundsOf 1 = .ok (.istore_n 2, 1) := by decide +kernel
theorem dX10_groundsOf_2 : decode cX10_groundsOf 2 = .ok (.iconst 0, 1) := by decide +kernel
theorem dX10_groundsOf_3 : decode cX10_groundsOf 3 = .ok (.istore_n 3, 1) := by decide +kernel
theorem dX10_groundsOf_4 : decode cX10_groundsOf 4 = .ok (.iload_n 3, 1) := by decide +kernel
theorem dX10_groundsOf_5 : decode cX10_groundsOf 5 = .ok (.aload_n 0, 1) := by decide +kernel
theorem dX10_groundsOf_6 : decode cX10_groundsOf 6 = .ok (.getfield 19, 3) := by decide +kernel
theorem dX10_groundsOf_9 : decode cX10_groundsOf 9 = .ok (.iload_n 1, 1) := by decide +kernel
theorem dX10_groundsOf_10 : decode cX10_groundsOf 10 = .ok (.iaload, 1) := by decide +kernel
theorem dX10_groundsOf_11 : decode cX10_groundsOf 11 = .ok (.if_icmp .ge 33, 3) := by decide +kernel
theorem dX10_groundsOf_14 : decode cX10_groundsOf 14 = .ok (.iload_n 2, 1) := by decide +kernel
theorem dX10_groundsOf_15 : decode cX10_groundsOf 15 = .ok (.aload_n 0, 1) := by decide +kernel
theorem dX10_groundsOf_16 : decode cX10_groundsOf 16 = .ok (.getfield 31, 3) := by decide +kernel
theorem dX10_groundsOf_19 : decode cX10_groundsOf 19 = .ok (.bipush 24, 2) := by decide +kernel
theorem dX10_groundsOf_21 : decode cX10_groundsOf 21 = .ok (.iload_n 1, 1) := by decide +kernel
theorem dX10_groundsOf_22 : decode cX10_groundsOf 22 = .ok (.imul, 1) := by decide +kernel
theorem dX10_groundsOf_23 : decode cX10_groundsOf 23 = .ok (.iload_n 3, 1) := by decide +kernel
theorem dX10_groundsOf_24 : decode cX10_groundsOf 24 = .ok (.iadd, 1) := by decide +kernel
theorem dX10_groundsOf_25 : decode cX10_groundsOf 25 = .ok (.iaload, 1) := by decide +kernel
theorem dX10_groundsOf_26 : decode cX10_groundsOf 26 = .ok (.bipush (-9), 2) := by decide +kernel
theorem dX10_groundsOf_28 : decode cX10_groundsOf 28 = .ok (.if_icmp .ne 7, 3) := by decide +kernel
theorem dX10_groundsOf_31 : decode cX10_groundsOf 31 = .ok (.iconst 1, 1) := by decide +kernel
theorem dX10_groundsOf_32 : decode cX10_groundsOf 32 = .ok (.goto 4, 3) := by decide +kernel
theorem dX10_groundsOf_35 : decode cX10_groundsOf 35 = .ok (.iconst 0, 1) := by decide +kernel
theorem dX10_groundsOf_36 : decode cX10_groundsOf 36 = .ok (.iadd, 1) := by decide +kernel
theorem dX10_groundsOf_37 : decode cX10_groundsOf 37 = .ok (.istore_n 2, 1) := by decide +kernel
theorem dX10_groundsOf_38 : decode cX10_groundsOf 38 = .ok (.iinc 3 1, 3) := by decide +kernel
theorem dX10_groundsOf_41 : decode cX10_groundsOf 41 = .ok (.goto (-37), 3) := by decide +kernel
theorem dX10_groundsOf_44 : decode cX10_groundsOf 44 = .ok (.iload_n 2, 1) := by decide +kernel
theorem dX10_groundsOf_45 : decode cX10_groundsOf 45 = .ok (.ireturn, 1) := by decide +kernel
set_option maxRecDepth 20000 in
theorem ggX10_truly_X10_isProof : GoodIn wsX10_truly wsX10_isProof := goodIn_r _ [7, 8, 19, 20, 21, 22, 23, 24, 25, 26, 27, 28, 29, 30, 31, 32, 33, 34, 35, 36, 37, 38, 39, 40, 41, 42, 43, 44, 45, 46, 47, 48, 49, 50] (by decide +kernel) (by decide +kernel)
set_option maxRecDepth 20000 in
theorem gX10_truly_X10_isProof : GoodIn wsX10_truly (wsV RX10 111 RX10 yX10_isProof wsX10_isProof) := goodIn_app (goodIn_of _ (by decide +kernel)) ggX10_truly_X10_isProof
set_option maxRecDepth 20000 in
theorem ggX10_truly_X10_groundsOf : GoodIn wsX10_truly wsX10_groundsOf := goodIn_r _ [12, 1, 2, 19, 20, 21, 22, 23, 24, 25, 26, 27, 28, 29, 30, 31, 32, 33, 34, 35, 36, 37, 38, 39, 40, 41, 42, 43, 44, 45, 46, 47, 48, 49, 50] (by decide +kernel) (by decide +kernel)
set_option maxRecDepth 20000 in
theorem gX10_truly_X10_groundsOf : GoodIn wsX10_truly (wsV RX10 170 RX10 yX10_groundsOf wsX10_groundsOf) := goodIn_app (goodIn_of _ (by decide +kernel)) ggX10_truly_X10_groundsOf
set_option maxRecDepth 20000 in
theorem ggX10_truly_X10_restsOf : GoodIn wsX10_truly wsX10_restsOf := goodIn_r _ [16, 1, 2, 17, 18, 19, 20, 21, 22, 23, 24, 25, 26, 27, 28, 29, 30, 31, 32, 33, 34, 35, 36, 37, 38, 39, 40, 41, 42, 43, 44, 45, 46, 47, 48, 49, 50] (by decide +kernel) (by decide +kernel)
set_option maxRecDepth 20000 in
theorem gX10_truly_X10_restsOf : GoodIn wsX10_truly (wsV RX10 167 RX10 yX10_restsOf wsX10_restsOf) := goodIn_app (goodIn_of _ (by decide +kernel)) ggX10_truly_X10_restsOf
theorem dX10_truly_0 : decode cX10_truly 0 = .ok (.aload_n 0, 1) := by decide +kernel
theorem dX10_truly_1 : decode cX10_truly 1 = .ok (.iload_n 1, 1) := by decide +kernel
theorem dX10_truly_2 : decode cX10_truly 2 = .ok (.invokevirtual 111, 3) := by decide +kernel
theorem dX10_truly_5 : decode cX10_truly 5 = .ok (.ifCond .ne 5, 3) := by decide +kernel
theorem dX10_truly_8 : decode cX10_truly 8 = .ok (.iconst (-1), 1) := by decide +kernel
theorem dX10_truly_9 : decode cX10_truly 9 = .ok (.ireturn, 1) := by decide +kernel
theorem dX10_truly_10 : decode cX10_truly 10 = .ok (.aload_n 0, 1) := by decide +kernel
theorem dX10_truly_11 : decode cX10_truly 11 = .ok (.iload_n 1, 1) := by decide +kernel
theorem dX10_truly_12 : decode cX10_truly 12 = .ok (.invokevirtual 170, 3) := by decide +kernel
theorem dX10_truly_15 : decode cX10_truly 15 = .ok (.bipush 10, 2) := by decide +kernel
theorem dX10_truly_17 : decode cX10_truly 17 = .ok (.if_icmp .le 6, 3) := by decide +kernel
theorem dX10_truly_20 : decode cX10_truly 20 = .ok (.bipush (-3), 2) := by decide +kernel
theorem dX10_truly_22 : decode cX10_truly 22 = .ok (.ireturn, 1) := by decide +kernel
theorem dX10_truly_23 : decode cX10_truly 23 = .ok (.aload_n 0, 1) := by decide +kernel
theorem dX10_truly_24 : decode cX10_truly 24 = .ok (.iload_n 1, 1) := by decide +kernel
theorem dX10_truly_25 : decode cX10_truly 25 = .ok (.invokevirtual 167, 3) := by decide +kernel
theorem dX10_truly_28 : decode cX10_truly 28 = .ok (.istore_n 2, 1) := by decide +kernel
theorem dX10_truly_29 : decode cX10_truly 29 = .ok (.iconst 0, 1) := by decide +kernel
theorem dX10_truly_30 : decode cX10_truly 30 = .ok (.istore_n 3, 1) := by decide +kernel
theorem dX10_truly_31 : decode cX10_truly 31 = .ok (.iconst 0, 1) := by decide +kernel
theorem dX10_truly_32 : decode cX10_truly 32 = .ok (.istore 4, 2) := by decide +kernel
theorem dX10_truly_34 : decode cX10_truly 34 = .ok (.iconst 0, 1) := by decide +kernel
theorem dX10_truly_35 : decode cX10_truly 35 = .ok (.istore 5, 2) := by decide +kernel
theorem dX10_truly_37 : decode cX10_truly 37 = .ok (.iload 5, 2) := by decide +kernel
theorem dX10_truly_39 : decode cX10_truly 39 = .ok (.aload_n 0, 1) := by decide +kernel
theorem dX10_truly_40 : decode cX10_truly 40 = .ok (.getfield 19, 3) := by decide +kernel
theorem dX10_truly_43 : decode cX10_truly 43 = .ok (.iload_n 1, 1) := by decide +kernel
theorem dX10_truly_44 : decode cX10_truly 44 = .ok (.iaload, 1) := by decide +kernel
theorem dX10_truly_45 : decode cX10_truly 45 = .ok (.if_icmp .ge 41, 3) := by decide +kernel
theorem dX10_truly_48 : decode cX10_truly 48 = .ok (.aload_n 0, 1) := by decide +kernel
theorem dX10_truly_49 : decode cX10_truly 49 = .ok (.getfield 31, 3) := by decide +kernel
theorem dX10_truly_52 : decode cX10_truly 52 = .ok (.bipush 24, 2) := by decide +kernel
theorem dX10_truly_54 : decode cX10_truly 54 = .ok (.iload_n 1, 1) := by decide +kernel
theorem dX10_truly_55 : decode cX10_truly 55 = .ok (.imul, 1) := by decide +kernel
theorem dX10_truly_56 : decode cX10_truly 56 = .ok (.iload 5, 2) := by decide +kernel
theorem dX10_truly_58 : decode cX10_truly 58 = .ok (.iadd, 1) := by decide +kernel
theorem dX10_truly_59 : decode cX10_truly 59 = .ok (.iaload, 1) := by decide +kernel
theorem dX10_truly_60 : decode cX10_truly 60 = .ok (.bipush (-9), 2) := by decide +kernel
theorem dX10_truly_62 : decode cX10_truly 62 = .ok (.if_icmp .ne 18, 3) := by decide +kernel
theorem dX10_truly_65 : decode cX10_truly 65 = .ok (.iload_n 3, 1) := by decide +kernel
theorem dX10_truly_66 : decode cX10_truly 66 = .ok (.iload_n 2, 1) := by decide +kernel
theorem dX10_truly_67 : decode cX10_truly 67 = .ok (.iload 5, 2) := by decide +kernel
theorem dX10_truly_69 : decode cX10_truly 69 = .ok (.ishr, 1) := by decide +kernel
theorem dX10_truly_70 : decode cX10_truly 70 = .ok (.iconst 1, 1) := by decide +kernel
theorem dX10_truly_71 : decode cX10_truly 71 = .ok (.iand, 1) := by decide +kernel
theorem dX10_truly_72 : decode cX10_truly 72 = .ok (.iload 4, 2) := by decide +kernel
theorem dX10_truly_74 : decode cX10_truly 74 = .ok (.ishl, 1) := by decide +kernel
theorem dX10_truly_75 : decode cX10_truly 75 = .ok (.ior, 1) := by decide +kernel
theorem dX10_truly_76 : decode cX10_truly 76 = .ok (.istore_n 3, 1) := by decide +kernel
theorem dX10_truly_77 : decode cX10_truly 77 = .ok (.iinc 4 1, 3) := by decide +kernel
theorem dX10_truly_80 : decode cX10_truly 80 = .ok (.iinc 5 1, 3) := by decide +kernel
theorem dX10_truly_83 : decode cX10_truly 83 = .ok (.goto (-46), 3) := by decide +kernel
theorem dX10_truly_86 : decode cX10_truly 86 = .ok (.iload_n 3, 1) := by decide +kernel
theorem dX10_truly_87 : decode cX10_truly 87 = .ok (.ireturn, 1) := by decide +kernel
theorem dX10_isFrom_0 : decode cX10_isFrom 0 = .ok (.aload_n 0, 1) := by decide +kernel
theorem dX10_isFrom_1 : decode cX10_isFrom 1 = .ok (.getfield 31, 3) := by decide +kernel
theorem dX10_isFrom_4 : decode cX10_isFrom 4 = .ok (.bipush 24, 2) := by decide +kernel
theorem dX10_isFrom_6 : decode cX10_isFrom 6 = .ok (.iload_n 1, 1) := by decide +kernel
theorem dX10_isFrom_7 : decode cX10_isFrom 7 = .ok (.imul, 1) := by decide +kernel
theorem dX10_isFrom_8 : decode cX10_isFrom 8 = .ok (.iload_n 2, 1) := by decide +kernel
theorem dX10_isFrom_9 : decode cX10_isFrom 9 = .ok (.iadd, 1) := by decide +kernel
theorem dX10_isFrom_10 : decode cX10_isFrom 10 = .ok (.iaload, 1) := by decide +kernel
theorem dX10_isFrom_11 : decode cX10_isFrom 11 = .ok (.bipush (-9), 2) := by decide +kernel
theorem dX10_isFrom_13 : decode cX10_isFrom 13 = .ok (.if_icmp .eq 37, 3) := by decide +kernel
theorem dX10_isFrom_16 : decode cX10_isFrom 16 = .ok (.aload_n 0, 1) := by decide +kernel
theorem dX10_isFrom_17 : decode cX10_isFrom 17 = .ok (.getfield 25, 3) := by decide +kernel
theorem dX10_isFrom_20 : decode cX10_isFrom 20 = .ok (.bipush 24, 2) := by decide +kernel
theorem dX10_isFrom_22 : decode cX10_isFrom 22 = .ok (.iload_n 1, 1) := by decide +kernel
theorem dX10_isFrom_23 : decode cX10_isFrom 23 = .ok (.imul, 1) := by decide +kernel
theorem dX10_isFrom_24 : decode cX10_isFrom 24 = .ok (.iload_n 2, 1) := by decide +kernel
theorem dX10_isFrom_25 : decode cX10_isFrom 25 = .ok (.iadd, 1) := by decide +kernel
theorem dX10_isFrom_26 : decode cX10_isFrom 26 = .ok (.iaload, 1) := by decide +kernel
theorem dX10_isFrom_27 : decode cX10_isFrom 27 = .ok (.iload_n 3, 1) := by decide +kernel
theorem dX10_isFrom_28 : decode cX10_isFrom 28 = .ok (.if_icmp .eq 18, 3) := by decide +kernel
theorem dX10_isFrom_31 : decode cX10_isFrom 31 = .ok (.aload_n 0, 1) := by decide +kernel
theorem dX10_isFrom_32 : decode cX10_isFrom 32 = .ok (.getfield 28, 3) := by decide +kernel
theorem dX10_isFrom_35 : decode cX10_isFrom 35 = .ok (.bipush 24, 2) := by decide +kernel
theorem dX10_isFrom_37 : decode cX10_isFrom 37 = .ok (.iload_n 1, 1) := by decide +kernel
theorem dX10_isFrom_38 : decode cX10_isFrom 38 = .ok (.imul, 1) := by decide +kernel
theorem dX10_isFrom_39 : decode cX10_isFrom 39 = .ok (.iload_n 2, 1) := by decide +kernel
theorem dX10_isFrom_40 : decode cX10_isFrom 40 = .ok (.iadd, 1) := by decide +kernel
theorem dX10_isFrom_41 : decode cX10_isFrom 41 = .ok (.iaload, 1) := by decide +kernel
theorem dX10_isFrom_42 : decode cX10_isFrom 42 = .ok (.iload_n 3, 1) := by decide +kernel
theorem dX10_isFrom_43 : decode cX10_isFrom 43 = .ok (.if_icmp .ne 7, 3) := by decide +kernel
theorem dX10_isFrom_46 : decode cX10_isFrom 46 = .ok (.iconst 1, 1) := by decide +kernel
theorem dX10_isFrom_47 : decode cX10_isFrom 47 = .ok (.goto 4, 3) := by decide +kernel
theorem dX10_isFrom_50 : decode cX10_isFrom 50 = .ok (.iconst 0, 1) := by decide +kernel
theorem dX10_isFrom_51 : decode cX10_isFrom 51 = .ok (.ireturn, 1) := by decide +kernel
set_option maxRecDepth 20000 in
theorem ggX10_signs_X10_bitsOf : GoodIn wsX10_signs wsX10_bitsOf := goodIn_r _ [6] (by decide +kernel) (by decide +kernel)
set_option maxRecDepth 20000 in
theorem gX10_signs_X10_bitsOf : GoodIn wsX10_signs (va_wsS RX10 173 yX10_bitsOf wsX10_bitsOf) := goodIn_app (goodIn_of _ (by decide +kernel)) ggX10_signs_X10_bitsOf
theorem dX10_signs_0 : decode cX10_signs 0 = .ok (.iconst 0, 1) := by decide +kernel
theorem dX10_signs_1 : decode cX10_signs 1 = .ok (.istore_n 2, 1) := by decide +kernel
theorem dX10_signs_2 : decode cX10_signs 2 = .ok (.iconst 0, 1) := by decide +kernel
theorem dX10_signs_3 : decode cX10_signs 3 = .ok (.istore_n 3, 1) := by decide +kernel
theorem dX10_signs_4 : decode cX10_signs 4 = .ok (.iload_n 3, 1) := by decide +kernel
theorem dX10_signs_5 : decode cX10_signs 5 = .ok (.aload_n 0, 1) := by decide +kernel
theorem dX10_signs_6 : decode cX10_signs 6 = .ok (.getfield 19, 3) := by decide +kernel
theorem dX10_signs_9 : decode cX10_signs 9 = .ok (.iload_n 1, 1) := by decide +kernel
theorem dX10_signs_10 : decode cX10_signs 10 = .ok (.iaload, 1) := by decide +kernel
theorem dX10_signs_11 : decode cX10_signs 11 = .ok (.if_icmp .ge 26, 3) := by decide +kernel
theorem dX10_signs_14 : decode cX10_signs 14 = .ok (.iload_n 2, 1) := by decide +kernel
theorem dX10_signs_15 : decode cX10_signs 15 = .ok (.aload_n 0, 1) := by decide +kernel
theorem dX10_signs_16 : decode cX10_signs 16 = .ok (.getfield 22, 3) := by decide +kernel
theorem dX10_signs_19 : decode cX10_signs 19 = .ok (.bipush 24, 2) := by decide +kernel
theorem dX10_signs_21 : decode cX10_signs 21 = .ok (.iload_n 1, 1) := by decide +kernel
theorem dX10_signs_22 : decode cX10_signs 22 = .ok (.imul, 1) := by decide +kernel
theorem dX10_signs_23 : decode cX10_signs 23 = .ok (.iload_n 3, 1) := by decide +kernel
theorem dX10_signs_24 : decode cX10_signs 24 = .ok (.iadd, 1) := by decide +kernel
theorem dX10_signs_25 : decode cX10_signs 25 = .ok (.iaload, 1) := by decide +kernel
theorem dX10_signs_26 : decode cX10_signs 26 = .ok (.invokestatic 173, 3) := by decide +kernel
theorem dX10_signs_29 : decode cX10_signs 29 = .ok (.iadd, 1) := by decide +kernel
theorem dX10_signs_30 : decode cX10_signs 30 = .ok (.istore_n 2, 1) := by decide +kernel
theorem dX10_signs_31 : decode cX10_signs 31 = .ok (.iinc 3 1, 3) := by decide +kernel
theorem dX10_signs_34 : decode cX10_signs 34 = .ok (.goto (-30), 3) := by decide +kernel
theorem dX10_signs_37 : decode cX10_signs 37 = .ok (.iload_n 2, 1) := by decide +kernel
theorem dX10_signs_38 : decode cX10_signs 38 = .ok (.ireturn, 1) := by decide +kernel
set_option maxRecDepth 20000 in
theorem ggX10_widest_X10_bitsOf : GoodIn wsX10_widest wsX10_bitsOf := goodIn_r _ [6] (by decide +kernel) (by decide +kernel)
set_option maxRecDepth 20000 in
theorem gX10_widest_X10_bitsOf : GoodIn wsX10_widest (va_wsS RX10 173 yX10_bitsOf wsX10_bitsOf) := goodIn_app (goodIn_of _ (by decide +kernel)) ggX10_widest_X10_bitsOf
theorem dX10_widest_0 : decode cX10_widest 0 = .ok (.iconst 0, 1) := by decide +kernel
theorem dX10_widest_1 : decode cX10_widest 1 = .ok (.istore_n 2, 1) := by decide +kernel
theorem dX10_widest_2 : decode cX10_widest 2 = .ok (.iconst 0, 1) := by decide +kernel
theorem dX10_widest_3 : decode cX10_widest 3 = .ok (.istore_n 3, 1) := by decide +kernel
theorem dX10_widest_4 : decode cX10_widest 4 = .ok (.iload_n 3, 1) := by decide +kernel
theorem dX10_widest_5 : decode cX10_widest 5 = .ok (.aload_n 0, 1) := by decide +kernel
theorem dX10_widest_6 : decode cX10_widest 6 = .ok (.getfield 19, 3) := by decide +kernel
theorem dX10_widest_9 : decode cX10_widest 9 = .ok (.iload_n 1, 1) := by decide +kernel
theorem dX10_widest_10 : decode cX10_widest 10 = .ok (.iaload, 1) := by decide +kernel
theorem dX10_widest_11 : decode cX10_widest 11 = .ok (.if_icmp .ge 38, 3) := by decide +kernel
theorem dX10_widest_14 : decode cX10_widest 14 = .ok (.aload_n 0, 1) := by decide +kernel
theorem dX10_widest_15 : decode cX10_widest 15 = .ok (.getfield 22, 3) := by decide +kernel
theorem dX10_widest_18 : decode cX10_widest 18 = .ok (.bipush 24, 2) := by decide +kernel
theorem dX10_widest_20 : decode cX10_widest 20 = .ok (.iload_n 1, 1) := by decide +kernel
theorem dX10_widest_21 : decode cX10_widest 21 = .ok (.imul, 1) := by decide +kernel
theorem dX10_widest_22 : decode cX10_widest 22 = .ok (.iload_n 3, 1) := by decide +kernel
theorem dX10_widest_23 : decode cX10_widest 23 = .ok (.iadd, 1) := by decide +kernel
theorem dX10_widest_24 : decode cX10_widest 24 = .ok (.iaload, 1) := by decide +kernel
theorem dX10_widest_25 : decode cX10_widest 25 = .ok (.invokestatic 173, 3) := by decide +kernel
theorem dX10_widest_28 : decode cX10_widest 28 = .ok (.istore 4, 2) := by decide +kernel
theorem dX10_widest_30 : decode cX10_widest 30 = .ok (.iload 4, 2) := by decide +kernel
theorem dX10_widest_32 : decode cX10_widest 32 = .ok (.iload_n 2, 1) := by decide +kernel
theorem dX10_widest_33 : decode cX10_widest 33 = .ok (.if_icmp .le 8, 3) := by decide +kernel
theorem dX10_widest_36 : decode cX10_widest 36 = .ok (.iload 4, 2) := by decide +kernel
theorem dX10_widest_38 : decode cX10_widest 38 = .ok (.goto 4, 3) := by decide +kernel
theorem dX10_widest_41 : decode cX10_widest 41 = .ok (.iload_n 2, 1) := by decide +kernel
theorem dX10_widest_42 : decode cX10_widest 42 = .ok (.istore_n 2, 1) := by decide +kernel
theorem dX10_widest_43 : decode cX10_widest 43 = .ok (.iinc 3 1, 3) := by decide +kernel
theorem dX10_widest_46 : decode cX10_widest 46 = .ok (.goto (-42), 3) := by decide +kernel
theorem dX10_widest_49 : decode cX10_widest 49 = .ok (.iload_n 2, 1) := by decide +kernel
theorem dX10_widest_50 : decode cX10_widest 50 = .ok (.ireturn, 1) := by decide +kernel
theorem dX10_deep_0 : decode cX10_deep 0 = .ok (.iconst 0, 1) := by decide +kernel
theorem dX10_deep_1 : decode cX10_deep 1 = .ok (.istore_n 2, 1) := by decide +kernel
theorem dX10_deep_2 : decode cX10_deep 2 = .ok (.iload_n 2, 1) := by decide +kernel
theorem dX10_deep_3 : decode cX10_deep 3 = .ok (.aload_n 0, 1) := by decide +kernel
theorem dX10_deep_4 : decode cX10_deep 4 = .ok (.getfield 19, 3) := by decide +kernel
theorem dX10_deep_7 : decode cX10_deep 7 = .ok (.iload_n 1, 1) := by decide +kernel
theorem dX10_deep_8 : decode cX10_deep 8 = .ok (.iaload, 1) := by decide +kernel
theorem dX10_deep_9 : decode cX10_deep 9 = .ok (.if_icmp .ge 82, 3) := by decide +kernel
theorem dX10_deep_12 : decode cX10_deep 12 = .ok (.bipush 24, 2) := by decide +kernel
theorem dX10_deep_14 : decode cX10_deep 14 = .ok (.iload_n 1, 1) := by decide +kernel
theorem dX10_deep_15 : decode cX10_deep 15 = .ok (.imul, 1) := by decide +kernel
theorem dX10_deep_16 : decode cX10_deep 16 = .ok (.iload_n 2, 1) := by decide +kernel
theorem dX10_deep_17 : decode cX10_deep 17 = .ok (.iadd, 1) := by decide +kernel
theorem dX10_deep_18 : decode cX10_deep 18 = .ok (.istore_n 3, 1) := by decide +kernel
theorem dX10_deep_19 : decode cX10_deep 19 = .ok (.aload_n 0, 1) := by decide +kernel
theorem dX10_deep_20 : decode cX10_deep 20 = .ok (.getfield 46, 3) := by decide +kernel
theorem dX10_deep_23 : decode cX10_deep 23 = .ok (.iload_n 2, 1) := by decide +kernel
theorem dX10_deep_24 : decode cX10_deep 24 = .ok (.iconst 0, 1) := by decide +kernel
theorem dX10_deep_25 : decode cX10_deep 25 = .ok (.iastore, 1) := by decide +kernel
theorem dX10_deep_26 : decode cX10_deep 26 = .ok (.aload_n 0, 1) := by decide +kernel
theorem dX10_deep_27 : decode cX10_deep 27 = .ok (.getfield 31, 3) := by decide +kernel
theorem dX10_deep_30 : decode cX10_deep 30 = .ok (.iload_n 3, 1) := by decide +kernel
theorem dX10_deep_31 : decode cX10_deep 31 = .ok (.iaload, 1) := by decide +kernel
theorem dX10_deep_32 : decode cX10_deep 32 = .ok (.bipush (-9), 2) := by decide +kernel
theorem dX10_deep_34 : decode cX10_deep 34 = .ok (.if_icmp .eq 51, 3) := by decide +kernel
theorem dX10_deep_37 : decode cX10_deep 37 = .ok (.aload_n 0, 1) := by decide +kernel
theorem dX10_deep_38 : decode cX10_deep 38 = .ok (.getfield 46, 3) := by decide +kernel
theorem dX10_deep_41 : decode cX10_deep 41 = .ok (.aload_n 0, 1) := by decide +kernel
theorem dX10_deep_42 : decode cX10_deep 42 = .ok (.getfield 25, 3) := by decide +kernel
theorem dX10_deep_45 : decode cX10_deep 45 = .ok (.iload_n 3, 1) := by decide +kernel
theorem dX10_deep_46 : decode cX10_deep 46 = .ok (.iaload, 1) := by decide +kernel
theorem dX10_deep_47 : decode cX10_deep 47 = .ok (.iaload, 1) := by decide +kernel
theorem dX10_deep_48 : decode cX10_deep 48 = .ok (.istore 4, 2) := by decide +kernel
theorem dX10_deep_50 : decode cX10_deep 50 = .ok (.aload_n 0, 1) := by decide +kernel
theorem dX10_deep_51 : decode cX10_deep 51 = .ok (.getfield 46, 3) := by decide +kernel
theorem dX10_deep_54 : decode cX10_deep 54 = .ok (.aload_n 0, 1) := by decide +kernel
theorem dX10_deep_55 : decode cX10_deep 55 = .ok (.getfield 28, 3) := by decide +kernel
theorem dX10_deep_58 : decode cX10_deep 58 = .ok (.iload_n 3, 1) := by decide +kernel
theorem dX10_deep_59 : decode cX10_deep 59 = .ok (.iaload, 1) := by decide +kernel
theorem dX10_deep_60 : decode cX10_deep 60 = .ok (.iaload, 1) := by decide +kernel
theorem dX10_deep_61 : decode cX10_deep 61 = .ok (.istore 5, 2) := by decide +kernel
theorem dX10_deep_63 : decode cX10_deep 63 = .ok (.aload_n 0, 1) := by decide +kernel
theorem dX10_deep_64 : decode cX10_deep 64 = .ok (.getfield 46, 3) := by decide +kernel
theorem dX10_deep_67 : decode cX10_deep 67 = .ok (.iload_n 2, 1) := by decide +kernel
theorem dX10_deep_68 : decode cX10_deep 68 = .ok (.iconst 1, 1) := by decide +kernel
theorem dX10_deep_69 : decode cX10_deep 69 = .ok (.iload 4, 2) := by decide +kernel
theorem dX10_deep_71 : decode cX10_deep 71 = .ok (.iload 5, 2) := by decide +kernel
theorem dX10_deep_73 : decode cX10_deep 73 = .ok (.if_icmp .le 8, 3) := by decide +kernel
theorem dX10_deep_76 : decode cX10_deep 76 = .ok (.iload 4, 2) := by decide +kernel
theorem dX10_deep_78 : decode cX10_deep 78 = .ok (.goto 5, 3) := by decide +kernel
theorem dX10_deep_81 : decode cX10_deep 81 = .ok (.iload 5, 2) := by decide +kernel
theorem dX10_deep_83 : decode cX10_deep 83 = .ok (.iadd, 1) := by decide +kernel
theorem dX10_deep_84 : decode cX10_deep 84 = .ok (.iastore, 1) := by decide +kernel
theorem dX10_deep_85 : decode cX10_deep 85 = .ok (.iinc 2 1, 3) := by decide +kernel
theorem dX10_deep_88 : decode cX10_deep 88 = .ok (.goto (-86), 3) := by decide +kernel
theorem dX10_deep_91 : decode cX10_deep 91 = .ok (.aload_n 0, 1) := by decide +kernel
theorem dX10_deep_92 : decode cX10_deep 92 = .ok (.getfield 46, 3) := by decide +kernel
theorem dX10_deep_95 : decode cX10_deep 95 = .ok (.aload_n 0, 1) := by decide +kernel
theorem dX10_deep_96 : decode cX10_deep 96 = .ok (.getfield 19, 3) := by decide +kernel
theorem dX10_deep_99 : decode cX10_deep 99 = .ok (.iload_n 1, 1) := by decide +kernel
theorem dX10_deep_100 : decode cX10_deep 100 = .ok (.iaload, 1) := by decide +kernel
theorem dX10_deep_101 : decode cX10_deep 101 = .ok (.iconst 1, 1) := by decide +kernel
theorem dX10_deep_102 : decode cX10_deep 102 = .ok (.isub, 1) := by decide +kernel
theorem dX10_deep_103 : decode cX10_deep 103 = .ok (.iaload, 1) := by decide +kernel
theorem dX10_deep_104 : decode cX10_deep 104 = .ok (.ireturn, 1) := by decide +kernel
set_option maxRecDepth 20000 in
theorem ggX10_keptAs_X10_isFrom : GoodIn wsX10_keptAs wsX10_isFrom := goodIn_r _ [6, 7, 8, 9, 10, 11, 12, 13, 14, 15, 16, 17, 18, 19, 20, 21, 22, 23, 24, 25, 26, 27, 28, 29, 30, 31, 32, 33, 34, 35, 36, 37, 38, 39, 40, 41] (by decide +kernel) (by decide +kernel)
set_option maxRecDepth 20000 in
theorem gX10_keptAs_X10_isFrom : GoodIn wsX10_keptAs (wsV RX10 176 RX10 yX10_isFrom wsX10_isFrom) := goodIn_app (goodIn_of _ (by decide +kernel)) ggX10_keptAs_X10_isFrom
theorem dX10_keptAs_0 : decode cX10_keptAs 0 = .ok (.iconst 1, 1) := by decide +kernel
theorem dX10_keptAs_1 : decode cX10_keptAs 1 = .ok (.istore_n 3, 1) := by decide +kernel
theorem dX10_keptAs_2 : decode cX10_keptAs 2 = .ok (.iconst 0, 1) := by decide +kernel
theorem dX10_keptAs_3 : decode cX10_keptAs 3 = .ok (.istore 4, 2) := by decide +kernel
theorem dX10_keptAs_5 : decode cX10_keptAs 5 = .ok (.iload 4, 2) := by decide +kernel
theorem dX10_keptAs_7 : decode cX10_keptAs 7 = .ok (.iload_n 2, 1) := by decide +kernel
theorem dX10_keptAs_8 : decode cX10_keptAs 8 = .ok (.if_icmp .ge 59, 3) := by decide +kernel
theorem dX10_keptAs_11 : decode cX10_keptAs 11 = .ok (.iconst 0, 1) := by decide +kernel
theorem dX10_keptAs_12 : decode cX10_keptAs 12 = .ok (.istore 5, 2) := by decide +kernel
theorem dX10_keptAs_14 : decode cX10_keptAs 14 = .ok (.iload_n 2, 1) := by decide +kernel
theorem dX10_keptAs_15 : decode cX10_keptAs 15 = .ok (.istore 6, 2) := by decide +kernel
theorem dX10_keptAs_17 : decode cX10_keptAs 17 = .ok (.iload 6, 2) := by decide +kernel
theorem dX10_keptAs_19 : decode cX10_keptAs 19 = .ok (.aload_n 0, 1) := by decide +kernel
theorem dX10_keptAs_20 : decode cX10_keptAs 20 = .ok (.getfield 19, 3) := by decide +kernel
theorem dX10_keptAs_23 : decode cX10_keptAs 23 = .ok (.iload_n 1, 1) := by decide +kernel
theorem dX10_keptAs_24 : decode cX10_keptAs 24 = .ok (.iaload, 1) := by decide +kernel
theorem dX10_keptAs_25 : decode cX10_keptAs 25 = .ok (.if_icmp .ge 23, 3) := by decide +kernel
theorem dX10_keptAs_28 : decode cX10_keptAs 28 = .ok (.iload 5, 2) := by decide +kernel
theorem dX10_keptAs_30 : decode cX10_keptAs 30 = .ok (.aload_n 0, 1) := by decide +kernel
theorem dX10_keptAs_31 : decode cX10_keptAs 31 = .ok (.iload_n 1, 1) := by decide +kernel
theorem dX10_keptAs_32 : decode cX10_keptAs 32 = .ok (.iload 6, 2) := by decide +kernel
theorem dX10_keptAs_34 : decode cX10_keptAs 34 = .ok (.iload 4, 2) := by decide +kernel
theorem dX10_keptAs_36 : decode cX10_keptAs 36 = .ok (.invokevirtual 176, 3) := by decide +kernel
theorem dX10_keptAs_39 : decode cX10_keptAs 39 = .ok (.ior, 1) := by decide +kernel
theorem dX10_keptAs_40 : decode cX10_keptAs 40 = .ok (.istore 5, 2) := by decide +kernel
theorem dX10_keptAs_42 : decode cX10_keptAs 42 = .ok (.iinc 6 1, 3) := by decide +kernel
theorem dX10_keptAs_45 : decode cX10_keptAs 45 = .ok (.goto (-28), 3) := by decide +kernel
theorem dX10_keptAs_48 : decode cX10_keptAs 48 = .ok (.iload_n 3, 1) := by decide +kernel
theorem dX10_keptAs_49 : decode cX10_keptAs 49 = .ok (.iload 5, 2) := by decide +kernel
theorem dX10_keptAs_51 : decode cX10_keptAs 51 = .ok (.ifCond .eq 7, 3) := by decide +kernel
theorem dX10_keptAs_54 : decode cX10_keptAs 54 = .ok (.iconst 1, 1) := by decide +kernel
theorem dX10_keptAs_55 : decode cX10_keptAs 55 = .ok (.goto 4, 3) := by decide +kernel
theorem dX10_keptAs_58 : decode cX10_keptAs 58 = .ok (.iconst 0, 1) := by decide +kernel
theorem dX10_keptAs_59 : decode cX10_keptAs 59 = .ok (.iadd, 1) := by decide +kernel
theorem dX10_keptAs_60 : decode cX10_keptAs 60 = .ok (.istore_n 3, 1) := by decide +kernel
theorem dX10_keptAs_61 : decode cX10_keptAs 61 = .ok (.iinc 4 1, 3) := by decide +kernel
theorem dX10_keptAs_64 : decode cX10_keptAs 64 = .ok (.goto (-59), 3) := by decide +kernel
theorem dX10_keptAs_67 : decode cX10_keptAs 67 = .ok (.iload_n 3, 1) := by decide +kernel
theorem dX10_keptAs_68 : decode cX10_keptAs 68 = .ok (.ireturn, 1) := by decide +kernel
set_option maxRecDepth 20000 in
theorem ggX10_kept_X10_keptAs : GoodIn wsX10_kept wsX10_keptAs := goodIn_r _ [6, 1, 7, 8, 9, 5, 10, 11, 12, 13, 14, 15, 16, 17, 18, 19, 20, 21, 22, 23, 24, 25, 26, 27, 28, 29, 30, 31, 32, 33, 34, 35, 36, 37, 38, 39, 40, 41, 42, 43, 44, 45] (by decide +kernel) (by decide +kernel)
set_option maxRecDepth 20000 in
theorem gX10_kept_X10_keptAs : GoodIn wsX10_kept (wsV RX10 179 RX10 yX10_keptAs wsX10_keptAs) := goodIn_app (goodIn_of _ (by decide +kernel)) ggX10_kept_X10_keptAs
theorem dX10_kept_0 : decode cX10_kept 0 = .ok (.iconst 0, 1) := by decide +kernel
theorem dX10_kept_1 : decode cX10_kept 1 = .ok (.istore_n 2, 1) := by decide +kernel
theorem dX10_kept_2 : decode cX10_kept 2 = .ok (.iconst 0, 1) := by decide +kernel
theorem dX10_kept_3 : decode cX10_kept 3 = .ok (.istore_n 3, 1) := by decide +kernel
theorem dX10_kept_4 : decode cX10_kept 4 = .ok (.iload_n 3, 1) := by decide +kernel
theorem dX10_kept_5 : decode cX10_kept 5 = .ok (.aload_n 0, 1) := by decide +kernel
theorem dX10_kept_6 : decode cX10_kept 6 = .ok (.getfield 19, 3) := by decide +kernel
theorem dX10_kept_9 : decode cX10_kept 9 = .ok (.iload_n 1, 1) := by decide +kernel
theorem dX10_kept_10 : decode cX10_kept 10 = .ok (.iaload, 1) := by decide +kernel
theorem dX10_kept_11 : decode cX10_kept 11 = .ok (.if_icmp .ge 30, 3) := by decide +kernel
theorem dX10_kept_14 : decode cX10_kept 14 = .ok (.aload_n 0, 1) := by decide +kernel
theorem dX10_kept_15 : decode cX10_kept 15 = .ok (.iload_n 1, 1) := by decide +kernel
theorem dX10_kept_16 : decode cX10_kept 16 = .ok (.iload_n 3, 1) := by decide +kernel
theorem dX10_kept_17 : decode cX10_kept 17 = .ok (.invokevirtual 179, 3) := by decide +kernel
theorem dX10_kept_20 : decode cX10_kept 20 = .ok (.istore 4, 2) := by decide +kernel
theorem dX10_kept_22 : decode cX10_kept 22 = .ok (.iload 4, 2) := by decide +kernel
theorem dX10_kept_24 : decode cX10_kept 24 = .ok (.iload_n 2, 1) := by decide +kernel
theorem dX10_kept_25 : decode cX10_kept 25 = .ok (.if_icmp .le 8, 3) := by decide +kernel
theorem dX10_kept_28 : decode cX10_kept 28 = .ok (.iload 4, 2) := by decide +kernel
theorem dX10_kept_30 : decode cX10_kept 30 = .ok (.goto 4, 3) := by decide +kernel
theorem dX10_kept_33 : decode cX10_kept 33 = .ok (.iload_n 2, 1) := by decide +kernel
theorem dX10_kept_34 : decode cX10_kept 34 = .ok (.istore_n 2, 1) := by decide +kernel
theorem dX10_kept_35 : decode cX10_kept 35 = .ok (.iinc 3 1, 3) := by decide +kernel
theorem dX10_kept_38 : decode cX10_kept 38 = .ok (.goto (-34), 3) := by decide +kernel
theorem dX10_kept_41 : decode cX10_kept 41 = .ok (.iload_n 2, 1) := by decide +kernel
theorem dX10_kept_42 : decode cX10_kept 42 = .ok (.ireturn, 1) := by decide +kernel
set_option maxRecDepth 20000 in
theorem ggX10_size_X10_isProof : GoodIn wsX10_size wsX10_isProof := goodIn_r _ [6, 7, 44, 45, 46, 47, 48, 49, 50, 51, 52, 53, 54, 55, 56, 57, 58, 59, 60, 61, 62, 63, 64, 65, 66, 67, 68, 69, 70, 71, 72, 73, 74, 75] (by decide +kernel) (by decide +kernel)
set_option maxRecDepth 20000 in
theorem gX10_size_X10_isProof : GoodIn wsX10_size (wsV RX10 111 RX10 yX10_isProof wsX10_isProof) := goodIn_app (goodIn_of _ (by decide +kernel)) ggX10_size_X10_isProof
set_option maxRecDepth 20000 in
theorem ggX10_size_X10_signs : GoodIn wsX10_size wsX10_signs := goodIn_r _ [11, 1, 12, 13, 14, 5, 15, 44, 45, 46, 47, 48, 49, 50, 51, 52, 53, 54, 55, 56, 57, 58, 59, 60, 61, 62, 63, 64, 65, 66, 67, 68, 69, 70, 71, 72, 73, 74, 75] (by decide +kernel) (by decide +kernel)
set_option maxRecDepth 20000 in
theorem gX10_size_X10_signs : GoodIn wsX10_size (wsV RX10 182 RX10 yX10_signs wsX10_signs) := goodIn_app (goodIn_of _ (by decide +kernel)) ggX10_size_X10_signs
set_option maxRecDepth 20000 in
theorem ggX10_size_X10_widest : GoodIn wsX10_size wsX10_widest := goodIn_r _ [19, 1, 12, 13, 14, 5, 15, 44, 45, 46, 47, 48, 49, 50, 51, 52, 53, 54, 55, 56, 57, 58, 59, 60, 61, 62, 63, 64, 65, 66, 67, 68, 69, 70, 71, 72, 73, 74, 75] (by decide +kernel) (by decide +kernel)
set_option maxRecDepth 20000 in
theorem gX10_size_X10_widest : GoodIn wsX10_size (wsV RX10 185 RX10 yX10_widest wsX10_widest) := goodIn_app (goodIn_of _ (by decide +kernel)) ggX10_size_X10_widest
set_option maxRecDepth 20000 in
theorem ggX10_size_X10_deep : GoodIn wsX10_size wsX10_deep := goodIn_r _ [23, 1, 24, 25, 26, 27, 44, 45, 46, 47, 48, 49, 50, 51, 52, 53, 54, 55, 56, 57, 58, 59, 60, 61, 62, 63, 64, 65, 66, 67, 68, 69, 70, 71, 72, 73, 74, 75] (by decide +kernel) (by decide +kernel)
set_option maxRecDepth 20000 in
theorem gX10_size_X10_deep : GoodIn wsX10_size (wsV RX10 188 RX10 yX10_deep wsX10_deep) := goodIn_app (goodIn_of _ (by decide +kernel)) ggX10_size_X10_deep
set_option maxRecDepth 20000 in
theorem ggX10_size_X10_kept : GoodIn wsX10_size wsX10_kept := goodIn_r _ [31, 1, 32, 33, 34, 5, 35, 36, 37, 38, 39, 25, 26, 27, 44, 45, 46, 47, 48, 49, 50, 51, 52, 53, 54, 55, 56, 57, 58, 59, 60, 61, 62, 63, 64, 65, 66, 67, 68, 69, 70, 71, 72, 73, 74, 75] (by decide +kernel) (by decide +kernel)
set_option maxRecDepth 20000 in
theorem gX10_size_X10_kept : GoodIn wsX10_size (wsV RX10 191 RX10 yX10_kept wsX10_kept) := goodIn_app (goodIn_of _ (by decide +kernel)) ggX10_size_X10_kept
set_option maxRecDepth 20000 in
theorem ggX10_size_X10_groundsOf : GoodIn wsX10_size wsX10_groundsOf := goodIn_r _ [43, 1, 25, 44, 45, 46, 47, 48, 49, 50, 51, 52, 53, 54, 55, 56, 57, 58, 59, 60, 61, 62, 63, 64, 65, 66, 67, 68, 69, 70, 71, 72, 73, 74, 75] (by decide +kernel) (by decide +kernel)
set_option maxRecDepth 20000 in
theorem gX10_size_X10_groundsOf : GoodIn wsX10_size (wsV RX10 170 RX10 yX10_groundsOf wsX10_groundsOf) := goodIn_app (goodIn_of _ (by decide +kernel)) ggX10_size_X10_groundsOf
theorem dX10_size_0 : decode cX10_size 0 = .ok (.aload_n 0, 1) := by decide +kernel
theorem dX10_size_1 : decode cX10_size 1 = .ok (.iload_n 1, 1) := by decide +kernel
theorem dX10_size_2 : decode cX10_size 2 = .ok (.invokevirtual 111, 3) := by decide +kernel
theorem dX10_size_5 : decode cX10_size 5 = .ok (.ifCond .ne 5, 3) := by decide +kernel
theorem dX10_size_8 : decode cX10_size 8 = .ok (.iconst (-1), 1) := by decide +kernel
theorem dX10_size_9 : decode cX10_size 9 = .ok (.ireturn, 1) := by decide +kernel
theorem dX10_size_10 : decode cX10_size 10 = .ok (.iload_n 2, 1) := by decide +kernel
theorem dX10_size_11 : decode cX10_size 11 = .ok (.tableswitch 74 0 5 #[37, 44, 50, 56, 62, 68], 37) := by decide +kernel
theorem dX10_size_48 : decode cX10_size 48 = .ok (.aload_n 0, 1) := by decide +kernel
theorem dX10_size_49 : decode cX10_size 49 = .ok (.getfield 19, 3) := by decide +kernel
theorem dX10_size_52 : decode cX10_size 52 = .ok (.iload_n 1, 1) := by decide +kernel
theorem dX10_size_53 : decode cX10_size 53 = .ok (.iaload, 1) := by decide +kernel
theorem dX10_size_54 : decode cX10_size 54 = .ok (.ireturn, 1) := by decide +kernel
theorem dX10_size_55 : decode cX10_size 55 = .ok (.aload_n 0, 1) := by decide +kernel
theorem dX10_size_56 : decode cX10_size 56 = .ok (.iload_n 1, 1) := by decide +kernel
theorem dX10_size_57 : decode cX10_size 57 = .ok (.invokevirtual 182, 3) := by decide +kernel
theorem dX10_size_60 : decode cX10_size 60 = .ok (.ireturn, 1) := by decide +kernel
theorem dX10_size_61 : decode cX10_size 61 = .ok (.aload_n 0, 1) := by decide +kernel
theorem dX10_size_62 : decode cX10_size 62 = .ok (.iload_n 1, 1) := by decide +kernel
theorem dX10_size_63 : decode cX10_size 63 = .ok (.invokevirtual 185, 3) := by decide +kernel
theorem dX10_size_66 : decode cX10_size 66 = .ok (.ireturn, 1) := by decide +kernel
theorem dX10_size_67 : decode cX10_size 67 = .ok (.aload_n 0, 1) := by decide +kernel
theorem dX10_size_68 : decode cX10_size 68 = .ok (.iload_n 1, 1) := by decide +kernel
theorem dX10_size_69 : decode cX10_size 69 = .ok (.invokevirtual 188, 3) := by decide +kernel
theorem dX10_size_72 : decode cX10_size 72 = .ok (.ireturn, 1) := by decide +kernel
theorem dX10_size_73 : decode cX10_size 73 = .ok (.aload_n 0, 1) := by decide +kernel
theorem dX10_size_74 : decode cX10_size 74 = .ok (.iload_n 1, 1) := by decide +kernel
theorem dX10_size_75 : decode cX10_size 75 = .ok (.invokevirtual 191, 3) := by decide +kernel
theorem dX10_size_78 : decode cX10_size 78 = .ok (.ireturn, 1) := by decide +kernel
theorem dX10_size_79 : decode cX10_size 79 = .ok (.aload_n 0, 1) := by decide +kernel
theorem dX10_size_80 : decode cX10_size 80 = .ok (.iload_n 1, 1) := by decide +kernel
theorem dX10_size_81 : decode cX10_size 81 = .ok (.invokevirtual 170, 3) := by decide +kernel
theorem dX10_size_84 : decode cX10_size 84 = .ok (.ireturn, 1) := by decide +kernel
theorem dX10_size_85 : decode cX10_size 85 = .ok (.bipush (-2), 2) := by decide +kernel
theorem dX10_size_87 : decode cX10_size 87 = .ok (.ireturn, 1) := by decide +kernel
theorem dX10_placeOf_0 : decode cX10_placeOf 0 = .ok (.iconst 0, 1) := by decide +kernel
theorem dX10_placeOf_1 : decode cX10_placeOf 1 = .ok (.istore_n 2, 1) := by decide +kernel
theorem dX10_placeOf_2 : decode cX10_placeOf 2 = .ok (.aload_n 0, 1) := by decide +kernel
theorem dX10_placeOf_3 : decode cX10_placeOf 3 = .ok (.getfield 49, 3) := by decide +kernel
theorem dX10_placeOf_6 : decode cX10_placeOf 6 = .ok (.iload_n 2, 1) := by decide +kernel
theorem dX10_placeOf_7 : decode cX10_placeOf 7 = .ok (.iaload, 1) := by decide +kernel
theorem dX10_placeOf_8 : decode cX10_placeOf 8 = .ok (.iload_n 1, 1) := by decide +kernel
theorem dX10_placeOf_9 : decode cX10_placeOf 9 = .ok (.if_icmp .eq 9, 3) := by decide +kernel
theorem dX10_placeOf_12 : decode cX10_placeOf 12 = .ok (.iinc 2 1, 3) := by decide +kernel
theorem dX10_placeOf_15 : decode cX10_placeOf 15 = .ok (.goto (-13), 3) := by decide +kernel
theorem dX10_placeOf_18 : decode cX10_placeOf 18 = .ok (.iload_n 2, 1) := by decide +kernel
theorem dX10_placeOf_19 : decode cX10_placeOf 19 = .ok (.ireturn, 1) := by decide +kernel
set_option maxRecDepth 20000 in
theorem ggX10_layMatter_X10_placeOf : GoodIn wsX10_layMatter wsX10_placeOf := goodIn_r _ [13, 3, 14, 15, 16, 17, 18, 19, 20, 21, 22, 23, 24, 25, 26, 27, 28, 29, 30, 31, 32, 33, 34, 35, 36, 37, 38, 39, 40, 41, 42, 43, 44, 45] (by decide +kernel) (by decide +kernel)
set_option maxRecDepth 20000 in
theorem gX10_layMatter_X10_placeOf : GoodIn wsX10_layMatter (wsV RX10 197 RX10 yX10_placeOf wsX10_placeOf) := goodIn_app (goodIn_of _ (by decide +kernel)) ggX10_layMatter_X10_placeOf
theorem dX10_layMatter_0 : decode cX10_layMatter 0 = .ok (.aload_n 0, 1) := by decide +kernel
theorem dX10_layMatter_1 : decode cX10_layMatter 1 = .ok (.iconst 0, 1) := by decide +kernel
theorem dX10_layMatter_2 : decode cX10_layMatter 2 = .ok (.putfield 194, 3) := by decide +kernel
theorem dX10_layMatter_5 : decode cX10_layMatter 5 = .ok (.iconst 0, 1) := by decide +kernel
theorem dX10_layMatter_6 : decode cX10_layMatter 6 = .ok (.istore_n 3, 1) := by decide +kernel
theorem dX10_layMatter_7 : decode cX10_layMatter 7 = .ok (.iload_n 3, 1) := by decide +kernel
theorem dX10_layMatter_8 : decode cX10_layMatter 8 = .ok (.aload_n 0, 1) := by decide +kernel
theorem dX10_layMatter_9 : decode cX10_layMatter 9 = .ok (.getfield 19, 3) := by decide +kernel
theorem dX10_layMatter_12 : decode cX10_layMatter 12 = .ok (.iload_n 1, 1) := by decide +kernel
theorem dX10_layMatter_13 : decode cX10_layMatter 13 = .ok (.iaload, 1) := by decide +kernel
theorem dX10_layMatter_14 : decode cX10_layMatter 14 = .ok (.if_icmp .ge 154, 3) := by decide +kernel
theorem dX10_layMatter_17 : decode cX10_layMatter 17 = .ok (.iload_n 2, 1) := by decide +kernel
theorem dX10_layMatter_18 : decode cX10_layMatter 18 = .ok (.iload_n 3, 1) := by decide +kernel
theorem dX10_layMatter_19 : decode cX10_layMatter 19 = .ok (.ishr, 1) := by decide +kernel
theorem dX10_layMatter_20 : decode cX10_layMatter 20 = .ok (.iconst 1, 1) := by decide +kernel
theorem dX10_layMatter_21 : decode cX10_layMatter 21 = .ok (.iand, 1) := by decide +kernel
theorem dX10_layMatter_22 : decode cX10_layMatter 22 = .ok (.ifCond .ne 6, 3) := by decide +kernel
theorem dX10_layMatter_25 : decode cX10_layMatter 25 = .ok (.goto 137, 3) := by decide +kernel
theorem dX10_layMatter_28 : decode cX10_layMatter 28 = .ok (.aload_n 0, 1) := by decide +kernel
theorem dX10_layMatter_29 : decode cX10_layMatter 29 = .ok (.getfield 194, 3) := by decide +kernel
theorem dX10_layMatter_32 : decode cX10_layMatter 32 = .ok (.istore 4, 2) := by decide +kernel
theorem dX10_layMatter_34 : decode cX10_layMatter 34 = .ok (.aload_n 0, 1) := by decide +kernel
theorem dX10_layMatter_35 : decode cX10_layMatter 35 = .ok (.getfield 49, 3) := by decide +kernel
theorem dX10_layMatter_38 : decode cX10_layMatter 38 = .ok (.iload 4, 2) := by decide +kernel
theorem dX10_layMatter_40 : decode cX10_layMatter 40 = .ok (.iload_n 3, 1) := by decide +kernel
theorem dX10_layMatter_41 : decode cX10_layMatter 41 = .ok (.iastore, 1) := by decide +kernel
theorem dX10_layMatter_42 : decode cX10_layMatter 42 = .ok (.aload_n 0, 1) := by decide +kernel
theorem dX10_layMatter_43 : decode cX10_layMatter 43 = .ok (.getfield 52, 3) := by decide +kernel
theorem dX10_layMatter_46 : decode cX10_layMatter 46 = .ok (.iload 4, 2) := by decide +kernel
theorem dX10_layMatter_48 : decode cX10_layMatter 48 = .ok (.iconst 0, 1) := by decide +kernel
theorem dX10_layMatter_49 : decode cX10_layMatter 49 = .ok (.iastore, 1) := by decide +kernel
theorem dX10_layMatter_50 : decode cX10_layMatter 50 = .ok (.aload_n 0, 1) := by decide +kernel
theorem dX10_layMatter_51 : decode cX10_layMatter 51 = .ok (.getfield 55, 3) := by decide +kernel
theorem dX10_layMatter_54 : decode cX10_layMatter 54 = .ok (.iload 4, 2) := by decide +kernel
theorem dX10_layMatter_56 : decode cX10_layMatter 56 = .ok (.iconst 0, 1) := by decide +kernel
theorem dX10_layMatter_57 : decode cX10_layMatter 57 = .ok (.iastore, 1) := by decide +kernel
theorem dX10_layMatter_58 : decode cX10_layMatter 58 = .ok (.aload_n 0, 1) := by decide +kernel
theorem dX10_layMatter_59 : decode cX10_layMatter 59 = .ok (.dup, 1) := by decide +kernel
theorem dX10_layMatter_60 : decode cX10_layMatter 60 = .ok (.getfield 194, 3) := by decide +kernel
theorem dX10_layMatter_63 : decode cX10_layMatter 63 = .ok (.iconst 1, 1) := by decide +kernel
theorem dX10_layMatter_64 : decode cX10_layMatter 64 = .ok (.iadd, 1) := by decide +kernel
theorem dX10_layMatter_65 : decode cX10_layMatter 65 = .ok (.putfield 194, 3) := by decide +kernel
theorem dX10_layMatter_68 : decode cX10_layMatter 68 = .ok (.aload_n 0, 1) := by decide +kernel
theorem dX10_layMatter_69 : decode cX10_layMatter 69 = .ok (.getfield 31, 3) := by decide +kernel
theorem dX10_layMatter_72 : decode cX10_layMatter 72 = .ok (.bipush 24, 2) := by decide +kernel
theorem dX10_layMatter_74 : decode cX10_layMatter 74 = .ok (.iload_n 1, 1) := by decide +kernel
theorem dX10_layMatter_75 : decode cX10_layMatter 75 = .ok (.imul, 1) := by decide +kernel
theorem dX10_layMatter_76 : decode cX10_layMatter 76 = .ok (.iload_n 3, 1) := by decide +kernel
theorem dX10_layMatter_77 : decode cX10_layMatter 77 = .ok (.iadd, 1) := by decide +kernel
theorem dX10_layMatter_78 : decode cX10_layMatter 78 = .ok (.iaload, 1) := by decide +kernel
theorem dX10_layMatter_79 : decode cX10_layMatter 79 = .ok (.bipush (-9), 2) := by decide +kernel
theorem dX10_layMatter_81 : decode cX10_layMatter 81 = .ok (.if_icmp .eq 81, 3) := by decide +kernel
theorem dX10_layMatter_84 : decode cX10_layMatter 84 = .ok (.aload_n 0, 1) := by decide +kernel
theorem dX10_layMatter_85 : decode cX10_layMatter 85 = .ok (.aload_n 0, 1) := by decide +kernel
theorem dX10_layMatter_86 : decode cX10_layMatter 86 = .ok (.getfield 25, 3) := by decide +kernel
theorem dX10_layMatter_89 : decode cX10_layMatter 89 = .ok (.bipush 24, 2) := by decide +kernel
theorem dX10_layMatter_91 : decode cX10_layMatter 91 = .ok (.iload_n 1, 1) := by decide +kernel
theorem dX10_layMatter_92 : decode cX10_layMatter 92 = .ok (.imul, 1) := by decide +kernel
theorem dX10_layMatter_93 : decode cX10_layMatter 93 = .ok (.iload_n 3, 1) := by decide +kernel
theorem dX10_layMatter_94 : decode cX10_layMatter 94 = .ok (.iadd, 1) := by decide +kernel
theorem dX10_layMatter_95 : decode cX10_layMatter 95 = .ok (.iaload, 1) := by decide +kernel
theorem dX10_layMatter_96 : decode cX10_layMatter 96 = .ok (.invokevirtual 197, 3) := by decide +kernel
theorem dX10_layMatter_99 : decode cX10_layMatter 99 = .ok (.istore 5, 2) := by decide +kernel
theorem dX10_layMatter_101 : decode cX10_layMatter 101 = .ok (.aload_n 0, 1) := by decide +kernel
theorem dX10_layMatter_102 : decode cX10_layMatter 102 = .ok (.aload_n 0, 1) := by decide +kernel
theorem dX10_layMatter_103 : decode cX10_layMatter 103 = .ok (.getfield 28, 3) := by decide +kernel
theorem dX10_layMatter_106 : decode cX10_layMatter 106 = .ok (.bipush 24, 2) := by decide +kernel
theorem dX10_layMatter_108 : decode cX10_layMatter 108 = .ok (.iload_n 1, 1) := by decide +kernel
theorem dX10_layMatter_109 : decode cX10_layMatter 109 = .ok (.imul, 1) := by decide +kernel
theorem dX10_layMatter_110 : decode cX10_layMatter 110 = .ok (.iload_n 3, 1) := by decide +kernel
theorem dX10_layMatter_111 : decode cX10_layMatter 111 = .ok (.iadd, 1) := by decide +kernel
theorem dX10_layMatter_112 : decode cX10_layMatter 112 = .ok (.iaload, 1) := by decide +kernel
theorem dX10_layMatter_113 : decode cX10_layMatter 113 = .ok (.invokevirtual 197, 3) := by decide +kernel
theorem dX10_layMatter_116 : decode cX10_layMatter 116 = .ok (.istore 6, 2) := by decide +kernel
theorem dX10_layMatter_118 : decode cX10_layMatter 118 = .ok (.aload_n 0, 1) := by decide +kernel
theorem dX10_layMatter_119 : decode cX10_layMatter 119 = .ok (.getfield 52, 3) := by decide +kernel
theorem dX10_layMatter_122 : decode cX10_layMatter 122 = .ok (.iload 4, 2) := by decide +kernel
theorem dX10_layMatter_124 : decode cX10_layMatter 124 = .ok (.iconst 1, 1) := by decide +kernel
theorem dX10_layMatter_125 : decode cX10_layMatter 125 = .ok (.iload 5, 2) := by decide +kernel
theorem dX10_layMatter_127 : decode cX10_layMatter 127 = .ok (.ishl, 1) := by decide +kernel
theorem dX10_layMatter_128 : decode cX10_layMatter 128 = .ok (.iconst 1, 1) := by decide +kernel
theorem dX10_layMatter_129 : decode cX10_layMatter 129 = .ok (.iload 6, 2) := by decide +kernel
theorem dX10_layMatter_131 : decode cX10_layMatter 131 = .ok (.ishl, 1) := by decide +kernel
theorem dX10_layMatter_132 : decode cX10_layMatter 132 = .ok (.ior, 1) := by decide +kernel
theorem dX10_layMatter_133 : decode cX10_layMatter 133 = .ok (.iastore, 1) := by decide +kernel
theorem dX10_layMatter_134 : decode cX10_layMatter 134 = .ok (.aload_n 0, 1) := by decide +kernel
theorem dX10_layMatter_135 : decode cX10_layMatter 135 = .ok (.getfield 55, 3) := by decide +kernel
theorem dX10_layMatter_138 : decode cX10_layMatter 138 = .ok (.iload 5, 2) := by decide +kernel
theorem dX10_layMatter_140 : decode cX10_layMatter 140 = .ok (.dup2, 1) := by decide +kernel
theorem dX10_layMatter_141 : decode cX10_layMatter 141 = .ok (.iaload, 1) := by decide +kernel
theorem dX10_layMatter_142 : decode cX10_layMatter 142 = .ok (.iconst 1, 1) := by decide +kernel
theorem dX10_layMatter_143 : decode cX10_layMatter 143 = .ok (.iload 4, 2) := by decide +kernel
theorem dX10_layMatter_145 : decode cX10_layMatter 145 = .ok (.ishl, 1) := by decide +kernel
theorem dX10_layMatter_146 : decode cX10_layMatter 146 = .ok (.ior, 1) := by decide +kernel
theorem dX10_layMatter_147 : decode cX10_layMatter 147 = .ok (.iastore, 1) := by decide +kernel
theorem dX10_layMatter_148 : decode cX10_layMatter 148 = .ok (.aload_n 0, 1) := by decide +kernel
theorem dX10_layMatter_149 : decode cX10_layMatter 149 = .ok (.getfield 55, 3) := by decide +kernel
theorem dX10_layMatter_152 : decode cX10_layMatter 152 = .ok (.iload 6, 2) := by decide +kernel
theorem dX10_layMatter_154 : decode cX10_layMatter 154 = .ok (.dup2, 1) := by decide +kernel
theorem dX10_layMatter_155 : decode cX10_layMatter 155 = .ok (.iaload, 1) := by decide +kernel
theorem dX10_layMatter_156 : decode cX10_layMatter 156 = .ok (.iconst 1, 1) := by decide +kernel
theorem dX10_layMatter_157 : decode cX10_layMatter 157 = .ok (.iload 4, 2) := by decide +kernel
theorem dX10_layMatter_159 : decode cX10_layMatter 159 = .ok (.ishl, 1) := by decide +kernel
theorem dX10_layMatter_160 : decode cX10_layMatter 160 = .ok (.ior, 1) := by decide +kernel
theorem dX10_layMatter_161 : decode cX10_layMatter 161 = .ok (.iastore, 1) := by decide +kernel
theorem dX10_layMatter_162 : decode cX10_layMatter 162 = .ok (.iinc 3 1, 3) := by decide +kernel
theorem dX10_layMatter_165 : decode cX10_layMatter 165 = .ok (.goto (-158), 3) := by decide +kernel
theorem dX10_layMatter_168 : decode cX10_layMatter 168 = .ok (.return_, 1) := by decide +kernel
theorem dX10_keptBehind_0 : decode cX10_keptBehind 0 = .ok (.iconst 1, 1) := by decide +kernel
theorem dX10_keptBehind_1 : decode cX10_keptBehind 1 = .ok (.istore_n 2, 1) := by decide +kernel
theorem dX10_keptBehind_2 : decode cX10_keptBehind 2 = .ok (.iconst 0, 1) := by decide +kernel
theorem dX10_keptBehind_3 : decode cX10_keptBehind 3 = .ok (.istore_n 3, 1) := by decide +kernel
theorem dX10_keptBehind_4 : decode cX10_keptBehind 4 = .ok (.iload_n 3, 1) := by decide +kernel
theorem dX10_keptBehind_5 : decode cX10_keptBehind 5 = .ok (.aload_n 0, 1) := by decide +kernel
theorem dX10_keptBehind_6 : decode cX10_keptBehind 6 = .ok (.getfield 194, 3) := by decide +kernel
theorem dX10_keptBehind_9 : decode cX10_keptBehind 9 = .ok (.if_icmp .ge 39, 3) := by decide +kernel
theorem dX10_keptBehind_12 : decode cX10_keptBehind 12 = .ok (.iload_n 2, 1) := by decide +kernel
theorem dX10_keptBehind_13 : decode cX10_keptBehind 13 = .ok (.iload_n 1, 1) := by decide +kernel
theorem dX10_keptBehind_14 : decode cX10_keptBehind 14 = .ok (.iload_n 3, 1) := by decide +kernel
theorem dX10_keptBehind_15 : decode cX10_keptBehind 15 = .ok (.ishr, 1) := by decide +kernel
theorem dX10_keptBehind_16 : decode cX10_keptBehind 16 = .ok (.iconst 1, 1) := by decide +kernel
theorem dX10_keptBehind_17 : decode cX10_keptBehind 17 = .ok (.iand, 1) := by decide +kernel
theorem dX10_keptBehind_18 : decode cX10_keptBehind 18 = .ok (.iconst 1, 1) := by decide +kernel
theorem dX10_keptBehind_19 : decode cX10_keptBehind 19 = .ok (.if_icmp .ne 20, 3) := by decide +kernel
theorem dX10_keptBehind_22 : decode cX10_keptBehind 22 = .ok (.aload_n 0, 1) := by decide +kernel
theorem dX10_keptBehind_23 : decode cX10_keptBehind 23 = .ok (.getfield 55, 3) := by decide +kernel
theorem dX10_keptBehind_26 : decode cX10_keptBehind 26 = .ok (.iload_n 3, 1) := by decide +kernel
theorem dX10_keptBehind_27 : decode cX10_keptBehind 27 = .ok (.iaload, 1) := by decide +kernel
theorem dX10_keptBehind_28 : decode cX10_keptBehind 28 = .ok (.iload_n 1, 1) := by decide +kernel
theorem dX10_keptBehind_29 : decode cX10_keptBehind 29 = .ok (.iconst (-1), 1) := by decide +kernel
theorem dX10_keptBehind_30 : decode cX10_keptBehind 30 = .ok (.ixor, 1) := by decide +kernel
theorem dX10_keptBehind_31 : decode cX10_keptBehind 31 = .ok (.iand, 1) := by decide +kernel
theorem dX10_keptBehind_32 : decode cX10_keptBehind 32 = .ok (.ifCond .eq 7, 3) := by decide +kernel
theorem dX10_keptBehind_35 : decode cX10_keptBehind 35 = .ok (.iconst 1, 1) := by decide +kernel
theorem dX10_keptBehind_36 : decode cX10_keptBehind 36 = .ok (.goto 4, 3) := by decide +kernel
theorem dX10_keptBehind_39 : decode cX10_keptBehind 39 = .ok (.iconst 0, 1) := by decide +kernel
theorem dX10_keptBehind_40 : decode cX10_keptBehind 40 = .ok (.iadd, 1) := by decide +kernel
theorem dX10_keptBehind_41 : decode cX10_keptBehind 41 = .ok (.istore_n 2, 1) := by decide +kernel
theorem dX10_keptBehind_42 : decode cX10_keptBehind 42 = .ok (.iinc 3 1, 3) := by decide +kernel
theorem dX10_keptBehind_45 : decode cX10_keptBehind 45 = .ok (.goto (-41), 3) := by decide +kernel
theorem dX10_keptBehind_48 : decode cX10_keptBehind 48 = .ok (.iload_n 2, 1) := by decide +kernel
theorem dX10_keptBehind_49 : decode cX10_keptBehind 49 = .ok (.ireturn, 1) := by decide +kernel
theorem dX10_mayCome_0 : decode cX10_mayCome 0 = .ok (.iload_n 1, 1) := by decide +kernel
theorem dX10_mayCome_1 : decode cX10_mayCome 1 = .ok (.iload_n 2, 1) := by decide +kernel
theorem dX10_mayCome_2 : decode cX10_mayCome 2 = .ok (.ishr, 1) := by decide +kernel
theorem dX10_mayCome_3 : decode cX10_mayCome 3 = .ok (.iconst 1, 1) := by decide +kernel
theorem dX10_mayCome_4 : decode cX10_mayCome 4 = .ok (.iand, 1) := by decide +kernel
theorem dX10_mayCome_5 : decode cX10_mayCome 5 = .ok (.ifCond .ne 20, 3) := by decide +kernel
theorem dX10_mayCome_8 : decode cX10_mayCome 8 = .ok (.aload_n 0, 1) := by decide +kernel
theorem dX10_mayCome_9 : decode cX10_mayCome 9 = .ok (.getfield 52, 3) := by decide +kernel
theorem dX10_mayCome_12 : decode cX10_mayCome 12 = .ok (.iload_n 2, 1) := by decide +kernel
theorem dX10_mayCome_13 : decode cX10_mayCome 13 = .ok (.iaload, 1) := by decide +kernel
theorem dX10_mayCome_14 : decode cX10_mayCome 14 = .ok (.iload_n 1, 1) := by decide +kernel
theorem dX10_mayCome_15 : decode cX10_mayCome 15 = .ok (.iconst (-1), 1) := by decide +kernel
theorem dX10_mayCome_16 : decode cX10_mayCome 16 = .ok (.ixor, 1) := by decide +kernel
theorem dX10_mayCome_17 : decode cX10_mayCome 17 = .ok (.iand, 1) := by decide +kernel
theorem dX10_mayCome_18 : decode cX10_mayCome 18 = .ok (.ifCond .ne 7, 3) := by decide +kernel
theorem dX10_mayCome_21 : decode cX10_mayCome 21 = .ok (.iconst 1, 1) := by decide +kernel
theorem dX10_mayCome_22 : decode cX10_mayCome 22 = .ok (.goto 4, 3) := by decide +kernel
theorem dX10_mayCome_25 : decode cX10_mayCome 25 = .ok (.iconst 0, 1) := by decide +kernel
theorem dX10_mayCome_26 : decode cX10_mayCome 26 = .ok (.ireturn, 1) := by decide +kernel
set_option maxRecDepth 20000 in
theorem ggX10_layKept_X10_keptBehind : GoodIn wsX10_layKept wsX10_keptBehind := goodIn_r _ [7, 1, 8, 14, 15, 16, 17, 18, 19, 20, 21, 22, 23, 24, 25, 26, 27, 28, 29, 30, 31, 32, 33, 34, 35, 36, 37, 38, 39, 40, 41, 42, 43, 44, 45] (by decide +kernel) (by decide +kernel)
set_option maxRecDepth 20000 in
theorem gX10_layKept_X10_keptBehind : GoodIn wsX10_layKept (wsV RX10 200 RX10 yX10_keptBehind wsX10_keptBehind) := goodIn_app (goodIn_of _ (by decide +kernel)) ggX10_layKept_X10_keptBehind
set_option maxRecDepth 20000 in
theorem ggX10_layKept_X10_mayCome : GoodIn wsX10_layKept wsX10_mayCome := goodIn_r _ [12, 13, 14, 15, 16, 17, 18, 19, 20, 21, 22, 23, 24, 25, 26, 27, 28, 29, 30, 31, 32, 33, 34, 35, 36, 37, 38, 39, 40, 41, 42, 43, 44, 45] (by decide +kernel) (by decide +kernel)
set_option maxRecDepth 20000 in
theorem gX10_layKept_X10_mayCome : GoodIn wsX10_layKept (wsV RX10 203 RX10 yX10_mayCome wsX10_mayCome) := goodIn_app (goodIn_of _ (by decide +kernel)) ggX10_layKept_X10_mayCome
theorem dX10_layKept_0 : decode cX10_layKept 0 = .ok (.iconst 1, 1) := by decide +kernel
theorem dX10_layKept_1 : decode cX10_layKept 1 = .ok (.aload_n 0, 1) := by decide +kernel
theorem dX10_layKept_2 : decode cX10_layKept 2 = .ok (.getfield 194, 3) := by decide +kernel
theorem dX10_layKept_5 : decode cX10_layKept 5 = .ok (.ishl, 1) := by decide +kernel
theorem dX10_layKept_6 : decode cX10_layKept 6 = .ok (.iconst 1, 1) := by decide +kernel
theorem dX10_layKept_7 : decode cX10_layKept 7 = .ok (.isub, 1) := by decide +kernel
theorem dX10_layKept_8 : decode cX10_layKept 8 = .ok (.istore_n 1, 1) := by decide +kernel
theorem dX10_layKept_9 : decode cX10_layKept 9 = .ok (.iload_n 1, 1) := by decide +kernel
theorem dX10_layKept_10 : decode cX10_layKept 10 = .ok (.istore_n 2, 1) := by decide +kernel
theorem dX10_layKept_11 : decode cX10_layKept 11 = .ok (.iload_n 2, 1) := by decide +kernel
theorem dX10_layKept_12 : decode cX10_layKept 12 = .ok (.ifCond .lt 110, 3) := by decide +kernel
theorem dX10_layKept_15 : decode cX10_layKept 15 = .ok (.iload_n 2, 1) := by decide +kernel
theorem dX10_layKept_16 : decode cX10_layKept 16 = .ok (.iload_n 1, 1) := by decide +kernel
theorem dX10_layKept_17 : decode cX10_layKept 17 = .ok (.if_icmp .ne 13, 3) := by decide +kernel
theorem dX10_layKept_20 : decode cX10_layKept 20 = .ok (.aload_n 0, 1) := by decide +kernel
theorem dX10_layKept_21 : decode cX10_layKept 21 = .ok (.getfield 58, 3) := by decide +kernel
theorem dX10_layKept_24 : decode cX10_layKept 24 = .ok (.iload_n 2, 1) := by decide +kernel
theorem dX10_layKept_25 : decode cX10_layKept 25 = .ok (.iconst 0, 1) := by decide +kernel
theorem dX10_layKept_26 : decode cX10_layKept 26 = .ok (.iastore, 1) := by decide +kernel
theorem dX10_layKept_27 : decode cX10_layKept 27 = .ok (.goto 89, 3) := by decide +kernel
theorem dX10_layKept_30 : decode cX10_layKept 30 = .ok (.aload_n 0, 1) := by decide +kernel
theorem dX10_layKept_31 : decode cX10_layKept 31 = .ok (.iload_n 2, 1) := by decide +kernel
theorem dX10_layKept_32 : decode cX10_layKept 32 = .ok (.invokevirtual 200, 3) := by decide +kernel
theorem dX10_layKept_35 : decode cX10_layKept 35 = .ok (.istore_n 3, 1) := by decide +kernel
theorem dX10_layKept_36 : decode cX10_layKept 36 = .ok (.sipush 1000, 3) := by decide +kernel
theorem dX10_layKept_39 : decode cX10_layKept 39 = .ok (.istore 4, 2) := by decide +kernel
theorem dX10_layKept_41 : decode cX10_layKept 41 = .ok (.iconst 0, 1) := by decide +kernel
theorem dX10_layKept_42 : decode cX10_layKept 42 = .ok (.istore 5, 2) := by decide +kernel
theorem dX10_layKept_44 : decode cX10_layKept 44 = .ok (.iload 5, 2) := by decide +kernel
theorem dX10_layKept_46 : decode cX10_layKept 46 = .ok (.aload_n 0, 1) := by decide +kernel
theorem dX10_layKept_47 : decode cX10_layKept 47 = .ok (.getfield 194, 3) := by decide +kernel
theorem dX10_layKept_50 : decode cX10_layKept 50 = .ok (.if_icmp .ge 48, 3) := by decide +kernel
theorem dX10_layKept_53 : decode cX10_layKept 53 = .ok (.aload_n 0, 1) := by decide +kernel
theorem dX10_layKept_54 : decode cX10_layKept 54 = .ok (.iload_n 2, 1) := by decide +kernel
theorem dX10_layKept_55 : decode cX10_layKept 55 = .ok (.iload 5, 2) := by decide +kernel
theorem dX10_layKept_57 : decode cX10_layKept 57 = .ok (.invokevirtual 203, 3) := by decide +kernel
theorem dX10_layKept_60 : decode cX10_layKept 60 = .ok (.ifCond .eq 32, 3) := by decide +kernel
theorem dX10_layKept_63 : decode cX10_layKept 63 = .ok (.aload_n 0, 1) := by decide +kernel
theorem dX10_layKept_64 : decode cX10_layKept 64 = .ok (.getfield 58, 3) := by decide +kernel
theorem dX10_layKept_67 : decode cX10_layKept 67 = .ok (.iload_n 2, 1) := by decide +kernel
theorem dX10_layKept_68 : decode cX10_layKept 68 = .ok (.iconst 1, 1) := by decide +kernel
theorem dX10_layKept_69 : decode cX10_layKept 69 = .ok (.iload 5, 2) := by decide +kernel
theorem dX10_layKept_71 : decode cX10_layKept 71 = .ok (.ishl, 1) := by decide +kernel
theorem dX10_layKept_72 : decode cX10_layKept 72 = .ok (.ior, 1) := by decide +kernel
theorem dX10_layKept_73 : decode cX10_layKept 73 = .ok (.iaload, 1) := by decide +kernel
theorem dX10_layKept_74 : decode cX10_layKept 74 = .ok (.istore 6, 2) := by decide +kernel
theorem dX10_layKept_76 : decode cX10_layKept 76 = .ok (.iload 6, 2) := by decide +kernel
theorem dX10_layKept_78 : decode cX10_layKept 78 = .ok (.iload 4, 2) := by decide +kernel
theorem dX10_layKept_80 : decode cX10_layKept 80 = .ok (.if_icmp .ge 8, 3) := by decide +kernel
theorem dX10_layKept_83 : decode cX10_layKept 83 = .ok (.iload 6, 2) := by decide +kernel
theorem dX10_layKept_85 : decode cX10_layKept 85 = .ok (.goto 5, 3) := by decide +kernel
theorem dX10_layKept_88 : decode cX10_layKept 88 = .ok (.iload 4, 2) := by decide +kernel
theorem dX10_layKept_90 : decode cX10_layKept 90 = .ok (.istore 4, 2) := by decide +kernel
theorem dX10_layKept_92 : decode cX10_layKept 92 = .ok (.iinc 5 1, 3) := by decide +kernel
theorem dX10_layKept_95 : decode cX10_layKept 95 = .ok (.goto (-51), 3) := by decide +kernel
theorem dX10_layKept_98 : decode cX10_layKept 98 = .ok (.aload_n 0, 1) := by decide +kernel
theorem dX10_layKept_99 : decode cX10_layKept 99 = .ok (.getfield 58, 3) := by decide +kernel
theorem dX10_layKept_102 : decode cX10_layKept 102 = .ok (.iload_n 2, 1) := by decide +kernel
theorem dX10_layKept_103 : decode cX10_layKept 103 = .ok (.iload_n 3, 1) := by decide +kernel
theorem dX10_layKept_104 : decode cX10_layKept 104 = .ok (.iload 4, 2) := by decide +kernel
theorem dX10_layKept_106 : decode cX10_layKept 106 = .ok (.if_icmp .le 7, 3) := by decide +kernel
theorem dX10_layKept_109 : decode cX10_layKept 109 = .ok (.iload_n 3, 1) := by decide +kernel
theorem dX10_layKept_110 : decode cX10_layKept 110 = .ok (.goto 5, 3) := by decide +kernel
theorem dX10_layKept_113 : decode cX10_layKept 113 = .ok (.iload 4, 2) := by decide +kernel
theorem dX10_layKept_115 : decode cX10_layKept 115 = .ok (.iastore, 1) := by decide +kernel
theorem dX10_layKept_116 : decode cX10_layKept 116 = .ok (.iinc 2 (-1), 3) := by decide +kernel
theorem dX10_layKept_119 : decode cX10_layKept 119 = .ok (.goto (-108), 3) := by decide +kernel
theorem dX10_layKept_122 : decode cX10_layKept 122 = .ok (.return_, 1) := by decide +kernel
set_option maxRecDepth 20000 in
theorem ggX10_fewest_X10_isProof : GoodIn wsX10_fewest wsX10_isProof := goodIn_r _ [8, 9, 46, 47, 48, 49, 50, 51, 52, 53, 54, 55, 56, 57, 58, 59, 60, 61, 62, 63, 64, 65, 66, 67, 68, 69, 70, 71, 72, 73, 74, 75, 76, 77] (by decide +kernel) (by decide +kernel)
set_option maxRecDepth 20000 in
theorem gX10_fewest_X10_isProof : GoodIn wsX10_fewest (wsV RX10 111 RX10 yX10_isProof wsX10_isProof) := goodIn_app (goodIn_of _ (by decide +kernel)) ggX10_fewest_X10_isProof
set_option maxRecDepth 20000 in
theorem ggX10_fewest_X10_within : GoodIn wsX10_fewest wsX10_within := goodIn_r _ [12] (by decide +kernel) (by decide +kernel)
set_option maxRecDepth 20000 in
theorem gX10_fewest_X10_within : GoodIn wsX10_fewest (va_wsS RX10 92 yX10_within wsX10_within) := goodIn_app (goodIn_of _ (by decide +kernel)) ggX10_fewest_X10_within
set_option maxRecDepth 20000 in
theorem ggX10_fewest_X10_restsOf : GoodIn wsX10_fewest wsX10_restsOf := goodIn_r _ [16, 17, 18, 19, 20, 46, 47, 48, 49, 50, 51, 52, 53, 54, 55, 56, 57, 58, 59, 60, 61, 62, 63, 64, 65, 66, 67, 68, 69, 70, 71, 72, 73, 74, 75, 76, 77] (by decide +kernel) (by decide +kernel)
set_option maxRecDepth 20000 in
theorem gX10_fewest_X10_restsOf : GoodIn wsX10_fewest (wsV RX10 167 RX10 yX10_restsOf wsX10_restsOf) := goodIn_app (goodIn_of _ (by decide +kernel)) ggX10_fewest_X10_restsOf
set_option maxRecDepth 20000 in
theorem ggX10_fewest_X10_bitsOf : GoodIn wsX10_fewest wsX10_bitsOf := goodIn_r _ [23] (by decide +kernel) (by decide +kernel)
set_option maxRecDepth 20000 in
theorem gX10_fewest_X10_bitsOf : GoodIn wsX10_fewest (va_wsS RX10 173 yX10_bitsOf wsX10_bitsOf) := goodIn_app (goodIn_of _ (by decide +kernel)) ggX10_fewest_X10_bitsOf
set_option maxRecDepth 20000 in
theorem ggX10_fewest_X10_layMatter : GoodIn wsX10_fewest wsX10_layMatter := goodIn_r _ [27, 2, 17, 3, 28, 29, 18, 19, 20, 30, 31, 32, 7, 33, 46, 47, 48, 49, 50, 51, 52, 53, 54, 55, 56, 57, 58, 59, 60, 61, 62, 63, 64, 65, 66, 67, 68, 69, 70, 71, 72, 73, 74, 75, 76, 77] (by decide +kernel) (by decide +kernel)
set_option maxRecDepth 20000 in
theorem gX10_fewest_X10_layMatter : GoodIn wsX10_fewest (wsV RX10 206 RX10 yX10_layMatter wsX10_layMatter) := goodIn_app (goodIn_of _ (by decide +kernel)) ggX10_fewest_X10_layMatter
set_option maxRecDepth 20000 in
theorem ggX10_fewest_X10_layKept : GoodIn wsX10_fewest wsX10_layKept := goodIn_r _ [37, 2, 1, 38, 39, 40, 7, 41, 29, 42, 43, 44, 45, 28, 46, 47, 48, 49, 50, 51, 52, 53, 54, 55, 56, 57, 58, 59, 60, 61, 62, 63, 64, 65, 66, 67, 68, 69, 70, 71, 72, 73, 74, 75, 76, 77] (by decide +kernel) (by decide +kernel)
set_option maxRecDepth 20000 in
theorem gX10_fewest_X10_layKept : GoodIn wsX10_fewest (wsV RX10 210 RX10 yX10_layKept wsX10_layKept) := goodIn_app (goodIn_of _ (by decide +kernel)) ggX10_fewest_X10_layKept
set_option maxRecDepth 20000 in
theorem ggX10_fewest_X10_mayCome : GoodIn wsX10_fewest wsX10_mayCome := goodIn_r _ [45, 28, 46, 47, 48, 49, 50, 51, 52, 53, 54, 55, 56, 57, 58, 59, 60, 61, 62, 63, 64, 65, 66, 67, 68, 69, 70, 71, 72, 73, 74, 75, 76, 77] (by decide +kernel) (by decide +kernel)
set_option maxRecDepth 20000 in
theorem gX10_fewest_X10_mayCome : GoodIn wsX10_fewest (wsV RX10 203 RX10 yX10_mayCome wsX10_mayCome) := goodIn_app (goodIn_of _ (by decide +kernel)) ggX10_fewest_X10_mayCome
theorem dX10_fewest_0 : decode cX10_fewest 0 = .ok (.aload_n 0, 1) := by decide +kernel
theorem dX10_fewest_1 : decode cX10_fewest 1 = .ok (.iload_n 1, 1) := by decide +kernel
theorem dX10_fewest_2 : decode cX10_fewest 2 = .ok (.invokevirtual 111, 3) := by decide +kernel
theorem dX10_fewest_5 : decode cX10_fewest 5 = .ok (.ifCond .eq 13, 3) := by decide +kernel
theorem dX10_fewest_8 : decode cX10_fewest 8 = .ok (.iload_n 2, 1) := by decide +kernel
theorem dX10_fewest_9 : decode cX10_fewest 9 = .ok (.iconst (-1), 1) := by decide +kernel
theorem dX10_fewest_10 : decode cX10_fewest 10 = .ok (.bipush 11, 2) := by decide +kernel
theorem dX10_fewest_12 : decode cX10_fewest 12 = .ok (.invokestatic 92, 3) := by decide +kernel
theorem dX10_fewest_15 : decode cX10_fewest 15 = .ok (.ifCond .ne 5, 3) := by decide +kernel
theorem dX10_fewest_18 : decode cX10_fewest 18 = .ok (.iconst (-1), 1) := by decide +kernel
theorem dX10_fewest_19 : decode cX10_fewest 19 = .ok (.ireturn, 1) := by decide +kernel
theorem dX10_fewest_20 : decode cX10_fewest 20 = .ok (.aload_n 0, 1) := by decide +kernel
theorem dX10_fewest_21 : decode cX10_fewest 21 = .ok (.iload_n 1, 1) := by decide +kernel
theorem dX10_fewest_22 : decode cX10_fewest 22 = .ok (.invokevirtual 167, 3) := by decide +kernel
theorem dX10_fewest_25 : decode cX10_fewest 25 = .ok (.istore_n 3, 1) := by decide +kernel
theorem dX10_fewest_26 : decode cX10_fewest 26 = .ok (.iload_n 3, 1) := by decide +kernel
theorem dX10_fewest_27 : decode cX10_fewest 27 = .ok (.invokestatic 173, 3) := by decide +kernel
theorem dX10_fewest_30 : decode cX10_fewest 30 = .ok (.bipush 12, 2) := by decide +kernel
theorem dX10_fewest_32 : decode cX10_fewest 32 = .ok (.if_icmp .le 6, 3) := by decide +kernel
theorem dX10_fewest_35 : decode cX10_fewest 35 = .ok (.bipush (-3), 2) := by decide +kernel
theorem dX10_fewest_37 : decode cX10_fewest 37 = .ok (.ireturn, 1) := by decide +kernel
theorem dX10_fewest_38 : decode cX10_fewest 38 = .ok (.aload_n 0, 1) := by decide +kernel
theorem dX10_fewest_39 : decode cX10_fewest 39 = .ok (.iload_n 1, 1) := by decide +kernel
theorem dX10_fewest_40 : decode cX10_fewest 40 = .ok (.iload_n 3, 1) := by decide +kernel
theorem dX10_fewest_41 : decode cX10_fewest 41 = .ok (.invokevirtual 206, 3) := by decide +kernel
theorem dX10_fewest_44 : decode cX10_fewest 44 = .ok (.aload_n 0, 1) := by decide +kernel
theorem dX10_fewest_45 : decode cX10_fewest 45 = .ok (.invokevirtual 210, 3) := by decide +kernel
theorem dX10_fewest_48 : decode cX10_fewest 48 = .ok (.aload_n 0, 1) := by decide +kernel
theorem dX10_fewest_49 : decode cX10_fewest 49 = .ok (.getfield 58, 3) := by decide +kernel
theorem dX10_fewest_52 : decode cX10_fewest 52 = .ok (.iconst 0, 1) := by decide +kernel
theorem dX10_fewest_53 : decode cX10_fewest 53 = .ok (.iaload, 1) := by decide +kernel
theorem dX10_fewest_54 : decode cX10_fewest 54 = .ok (.istore 4, 2) := by decide +kernel
theorem dX10_fewest_56 : decode cX10_fewest 56 = .ok (.iload_n 2, 1) := by decide +kernel
theorem dX10_fewest_57 : decode cX10_fewest 57 = .ok (.iconst (-1), 1) := by decide +kernel
theorem dX10_fewest_58 : decode cX10_fewest 58 = .ok (.if_icmp .ne 6, 3) := by decide +kernel
theorem dX10_fewest_61 : decode cX10_fewest 61 = .ok (.iload 4, 2) := by decide +kernel
theorem dX10_fewest_63 : decode cX10_fewest 63 = .ok (.ireturn, 1) := by decide +kernel
theorem dX10_fewest_64 : decode cX10_fewest 64 = .ok (.iconst 0, 1) := by decide +kernel
theorem dX10_fewest_65 : decode cX10_fewest 65 = .ok (.istore 5, 2) := by decide +kernel
theorem dX10_fewest_67 : decode cX10_fewest 67 = .ok (.iconst 0, 1) := by decide +kernel
theorem dX10_fewest_68 : decode cX10_fewest 68 = .ok (.istore 6, 2) := by decide +kernel
theorem dX10_fewest_70 : decode cX10_fewest 70 = .ok (.iload 6, 2) := by decide +kernel
theorem dX10_fewest_72 : decode cX10_fewest 72 = .ok (.aload_n 0, 1) := by decide +kernel
theorem dX10_fewest_73 : decode cX10_fewest 73 = .ok (.getfield 194, 3) := by decide +kernel
theorem dX10_fewest_76 : decode cX10_fewest 76 = .ok (.if_icmp .ge 69, 3) := by decide +kernel
theorem dX10_fewest_79 : decode cX10_fewest 79 = .ok (.iconst 0, 1) := by decide +kernel
theorem dX10_fewest_80 : decode cX10_fewest 80 = .ok (.istore 7, 2) := by decide +kernel
theorem dX10_fewest_82 : decode cX10_fewest 82 = .ok (.aload_n 0, 1) := by decide +kernel
theorem dX10_fewest_83 : decode cX10_fewest 83 = .ok (.iload 5, 2) := by decide +kernel
theorem dX10_fewest_85 : decode cX10_fewest 85 = .ok (.iload 7, 2) := by decide +kernel
theorem dX10_fewest_87 : decode cX10_fewest 87 = .ok (.invokevirtual 203, 3) := by decide +kernel
theorem dX10_fewest_90 : decode cX10_fewest 90 = .ok (.ifCond .eq 20, 3) := by decide +kernel
theorem dX10_fewest_93 : decode cX10_fewest 93 = .ok (.aload_n 0, 1) := by decide +kernel
theorem dX10_fewest_94 : decode cX10_fewest 94 = .ok (.getfield 58, 3) := by decide +kernel
theorem dX10_fewest_97 : decode cX10_fewest 97 = .ok (.iload 5, 2) := by decide +kernel
theorem dX10_fewest_99 : decode cX10_fewest 99 = .ok (.iconst 1, 1) := by decide +kernel
theorem dX10_fewest_100 : decode cX10_fewest 100 = .ok (.iload 7, 2) := by decide +kernel
theorem dX10_fewest_102 : decode cX10_fewest 102 = .ok (.ishl, 1) := by decide +kernel
theorem dX10_fewest_103 : decode cX10_fewest 103 = .ok (.ior, 1) := by decide +kernel
theorem dX10_fewest_104 : decode cX10_fewest 104 = .ok (.iaload, 1) := by decide +kernel
theorem dX10_fewest_105 : decode cX10_fewest 105 = .ok (.iload 4, 2) := by decide +kernel
theorem dX10_fewest_107 : decode cX10_fewest 107 = .ok (.if_icmp .le 9, 3) := by decide +kernel
theorem dX10_fewest_110 : decode cX10_fewest 110 = .ok (.iinc 7 1, 3) := by decide +kernel
theorem dX10_fewest_113 : decode cX10_fewest 113 = .ok (.goto (-31), 3) := by decide +kernel
theorem dX10_fewest_116 : decode cX10_fewest 116 = .ok (.iload 6, 2) := by decide +kernel
theorem dX10_fewest_118 : decode cX10_fewest 118 = .ok (.iload_n 2, 1) := by decide +kernel
theorem dX10_fewest_119 : decode cX10_fewest 119 = .ok (.if_icmp .ne 11, 3) := by decide +kernel
theorem dX10_fewest_122 : decode cX10_fewest 122 = .ok (.aload_n 0, 1) := by decide +kernel
theorem dX10_fewest_123 : decode cX10_fewest 123 = .ok (.getfield 49, 3) := by decide +kernel
theorem dX10_fewest_126 : decode cX10_fewest 126 = .ok (.iload 7, 2) := by decide +kernel
theorem dX10_fewest_128 : decode cX10_fewest 128 = .ok (.iaload, 1) := by decide +kernel
theorem dX10_fewest_129 : decode cX10_fewest 129 = .ok (.ireturn, 1) := by decide +kernel
theorem dX10_fewest_130 : decode cX10_fewest 130 = .ok (.iload 5, 2) := by decide +kernel
theorem dX10_fewest_132 : decode cX10_fewest 132 = .ok (.iconst 1, 1) := by decide +kernel
theorem dX10_fewest_133 : decode cX10_fewest 133 = .ok (.iload 7, 2) := by decide +kernel
theorem dX10_fewest_135 : decode cX10_fewest 135 = .ok (.ishl, 1) := by decide +kernel
theorem dX10_fewest_136 : decode cX10_fewest 136 = .ok (.ior, 1) := by decide +kernel
theorem dX10_fewest_137 : decode cX10_fewest 137 = .ok (.istore 5, 2) := by decide +kernel
theorem dX10_fewest_139 : decode cX10_fewest 139 = .ok (.iinc 6 1, 3) := by decide +kernel
theorem dX10_fewest_142 : decode cX10_fewest 142 = .ok (.goto (-72), 3) := by decide +kernel
theorem dX10_fewest_145 : decode cX10_fewest 145 = .ok (.bipush (-9), 2) := by decide +kernel
theorem dX10_fewest_147 : decode cX10_fewest 147 = .ok (.ireturn, 1) := by decide +kernel
set_option maxRecDepth 20000 in
theorem ggX10_laySafe_X10_isFrom : GoodIn wsX10_laySafe wsX10_isFrom := goodIn_r _ [10, 5, 4, 11, 12, 13, 14, 15, 16, 17, 18, 19, 20, 21, 22, 23, 24, 25, 26, 27, 28, 29, 30, 31, 32, 33, 34, 35, 36, 37, 38, 39, 40, 41, 42, 43] (by decide +kernel) (by decide +kernel)
set_option maxRecDepth 20000 in
theorem gX10_laySafe_X10_isFrom : GoodIn wsX10_laySafe (wsV RX10 176 RX10 yX10_isFrom wsX10_isFrom) := goodIn_app (goodIn_of _ (by decide +kernel)) ggX10_laySafe_X10_isFrom
theorem dX10_laySafe_0 : decode cX10_laySafe 0 = .ok (.aload_n 0, 1) := by decide +kernel
theorem dX10_laySafe_1 : decode cX10_laySafe 1 = .ok (.getfield 19, 3) := by decide +kernel
theorem dX10_laySafe_4 : decode cX10_laySafe 4 = .ok (.iload_n 1, 1) := by decide +kernel
theorem dX10_laySafe_5 : decode cX10_laySafe 5 = .ok (.iaload, 1) := by decide +kernel
theorem dX10_laySafe_6 : decode cX10_laySafe 6 = .ok (.iconst 1, 1) := by decide +kernel
theorem dX10_laySafe_7 : decode cX10_laySafe 7 = .ok (.isub, 1) := by decide +kernel
theorem dX10_laySafe_8 : decode cX10_laySafe 8 = .ok (.istore_n 3, 1) := by decide +kernel
theorem dX10_laySafe_9 : decode cX10_laySafe 9 = .ok (.iload_n 3, 1) := by decide +kernel
theorem dX10_laySafe_10 : decode cX10_laySafe 10 = .ok (.ifCond .lt 196, 3) := by decide +kernel
theorem dX10_laySafe_13 : decode cX10_laySafe 13 = .ok (.aload_n 0, 1) := by decide +kernel
theorem dX10_laySafe_14 : decode cX10_laySafe 14 = .ok (.getfield 64, 3) := by decide +kernel
theorem dX10_laySafe_17 : decode cX10_laySafe 17 = .ok (.iload_n 3, 1) := by decide +kernel
theorem dX10_laySafe_18 : decode cX10_laySafe 18 = .ok (.iload_n 3, 1) := by decide +kernel
theorem dX10_laySafe_19 : decode cX10_laySafe 19 = .ok (.aload_n 0, 1) := by decide +kernel
theorem dX10_laySafe_20 : decode cX10_laySafe 20 = .ok (.getfield 19, 3) := by decide +kernel
theorem dX10_laySafe_23 : decode cX10_laySafe 23 = .ok (.iload_n 1, 1) := by decide +kernel
theorem dX10_laySafe_24 : decode cX10_laySafe 24 = .ok (.iaload, 1) := by decide +kernel
theorem dX10_laySafe_25 : decode cX10_laySafe 25 = .ok (.iconst 1, 1) := by decide +kernel
theorem dX10_laySafe_26 : decode cX10_laySafe 26 = .ok (.isub, 1) := by decide +kernel
theorem dX10_laySafe_27 : decode cX10_laySafe 27 = .ok (.if_icmp .ne 17, 3) := by decide +kernel
theorem dX10_laySafe_30 : decode cX10_laySafe 30 = .ok (.aload_n 0, 1) := by decide +kernel
theorem dX10_laySafe_31 : decode cX10_laySafe 31 = .ok (.getfield 22, 3) := by decide +kernel
theorem dX10_laySafe_34 : decode cX10_laySafe 34 = .ok (.bipush 24, 2) := by decide +kernel
theorem dX10_laySafe_36 : decode cX10_laySafe 36 = .ok (.iload_n 1, 1) := by decide +kernel
theorem dX10_laySafe_37 : decode cX10_laySafe 37 = .ok (.imul, 1) := by decide +kernel
theorem dX10_laySafe_38 : decode cX10_laySafe 38 = .ok (.iload_n 3, 1) := by decide +kernel
theorem dX10_laySafe_39 : decode cX10_laySafe 39 = .ok (.iadd, 1) := by decide +kernel
theorem dX10_laySafe_40 : decode cX10_laySafe 40 = .ok (.iaload, 1) := by decide +kernel
theorem dX10_laySafe_41 : decode cX10_laySafe 41 = .ok (.goto 6, 3) := by decide +kernel
theorem dX10_laySafe_44 : decode cX10_laySafe 44 = .ok (.sipush 4095, 3) := by decide +kernel
theorem dX10_laySafe_47 : decode cX10_laySafe 47 = .ok (.iastore, 1) := by decide +kernel
theorem dX10_laySafe_48 : decode cX10_laySafe 48 = .ok (.iload_n 3, 1) := by decide +kernel
theorem dX10_laySafe_49 : decode cX10_laySafe 49 = .ok (.iconst 1, 1) := by decide +kernel
theorem dX10_laySafe_50 : decode cX10_laySafe 50 = .ok (.iadd, 1) := by decide +kernel
theorem dX10_laySafe_51 : decode cX10_laySafe 51 = .ok (.istore 4, 2) := by decide +kernel
theorem dX10_laySafe_53 : decode cX10_laySafe 53 = .ok (.iload 4, 2) := by decide +kernel
theorem dX10_laySafe_55 : decode cX10_laySafe 55 = .ok (.aload_n 0, 1) := by decide +kernel
theorem dX10_laySafe_56 : decode cX10_laySafe 56 = .ok (.getfield 19, 3) := by decide +kernel
theorem dX10_laySafe_59 : decode cX10_laySafe 59 = .ok (.iload_n 1, 1) := by decide +kernel
theorem dX10_laySafe_60 : decode cX10_laySafe 60 = .ok (.iaload, 1) := by decide +kernel
theorem dX10_laySafe_61 : decode cX10_laySafe 61 = .ok (.if_icmp .ge 113, 3) := by decide +kernel
theorem dX10_laySafe_64 : decode cX10_laySafe 64 = .ok (.iload_n 3, 1) := by decide +kernel
theorem dX10_laySafe_65 : decode cX10_laySafe 65 = .ok (.aload_n 0, 1) := by decide +kernel
theorem dX10_laySafe_66 : decode cX10_laySafe 66 = .ok (.getfield 19, 3) := by decide +kernel
theorem dX10_laySafe_69 : decode cX10_laySafe 69 = .ok (.iload_n 1, 1) := by decide +kernel
theorem dX10_laySafe_70 : decode cX10_laySafe 70 = .ok (.iaload, 1) := by decide +kernel
theorem dX10_laySafe_71 : decode cX10_laySafe 71 = .ok (.iconst 1, 1) := by decide +kernel
theorem dX10_laySafe_72 : decode cX10_laySafe 72 = .ok (.isub, 1) := by decide +kernel
theorem dX10_laySafe_73 : decode cX10_laySafe 73 = .ok (.if_icmp .ge 101, 3) := by decide +kernel
theorem dX10_laySafe_76 : decode cX10_laySafe 76 = .ok (.iload_n 2, 1) := by decide +kernel
theorem dX10_laySafe_77 : decode cX10_laySafe 77 = .ok (.iload 4, 2) := by decide +kernel
theorem dX10_laySafe_79 : decode cX10_laySafe 79 = .ok (.ishr, 1) := by decide +kernel
theorem dX10_laySafe_80 : decode cX10_laySafe 80 = .ok (.iconst 1, 1) := by decide +kernel
theorem dX10_laySafe_81 : decode cX10_laySafe 81 = .ok (.iand, 1) := by decide +kernel
theorem dX10_laySafe_82 : decode cX10_laySafe 82 = .ok (.ifCond .eq 86, 3) := by decide +kernel
theorem dX10_laySafe_85 : decode cX10_laySafe 85 = .ok (.aload_n 0, 1) := by decide +kernel
theorem dX10_laySafe_86 : decode cX10_laySafe 86 = .ok (.iload_n 1, 1) := by decide +kernel
theorem dX10_laySafe_87 : decode cX10_laySafe 87 = .ok (.iload 4, 2) := by decide +kernel
theorem dX10_laySafe_89 : decode cX10_laySafe 89 = .ok (.iload_n 3, 1) := by decide +kernel
theorem dX10_laySafe_90 : decode cX10_laySafe 90 = .ok (.invokevirtual 176, 3) := by decide +kernel
theorem dX10_laySafe_93 : decode cX10_laySafe 93 = .ok (.ifCond .ne 6, 3) := by decide +kernel
theorem dX10_laySafe_96 : decode cX10_laySafe 96 = .ok (.goto 72, 3) := by decide +kernel
theorem dX10_laySafe_99 : decode cX10_laySafe 99 = .ok (.aload_n 0, 1) := by decide +kernel
theorem dX10_laySafe_100 : decode cX10_laySafe 100 = .ok (.getfield 25, 3) := by decide +kernel
theorem dX10_laySafe_103 : decode cX10_laySafe 103 = .ok (.bipush 24, 2) := by decide +kernel
theorem dX10_laySafe_105 : decode cX10_laySafe 105 = .ok (.iload_n 1, 1) := by decide +kernel
theorem dX10_laySafe_106 : decode cX10_laySafe 106 = .ok (.imul, 1) := by decide +kernel
theorem dX10_laySafe_107 : decode cX10_laySafe 107 = .ok (.iload 4, 2) := by decide +kernel
theorem dX10_laySafe_109 : decode cX10_laySafe 109 = .ok (.iadd, 1) := by decide +kernel
theorem dX10_laySafe_110 : decode cX10_laySafe 110 = .ok (.iaload, 1) := by decide +kernel
theorem dX10_laySafe_111 : decode cX10_laySafe 111 = .ok (.iload_n 3, 1) := by decide +kernel
theorem dX10_laySafe_112 : decode cX10_laySafe 112 = .ok (.if_icmp .ne 20, 3) := by decide +kernel
theorem dX10_laySafe_115 : decode cX10_laySafe 115 = .ok (.iconst 1, 1) := by decide +kernel
theorem dX10_laySafe_116 : decode cX10_laySafe 116 = .ok (.aload_n 0, 1) := by decide +kernel
theorem dX10_laySafe_117 : decode cX10_laySafe 117 = .ok (.getfield 31, 3) := by decide +kernel
theorem dX10_laySafe_120 : decode cX10_laySafe 120 = .ok (.bipush 24, 2) := by decide +kernel
theorem dX10_laySafe_122 : decode cX10_laySafe 122 = .ok (.iload_n 1, 1) := by decide +kernel
theorem dX10_laySafe_123 : decode cX10_laySafe 123 = .ok (.imul, 1) := by decide +kernel
theorem dX10_laySafe_124 : decode cX10_laySafe 124 = .ok (.iload 4, 2) := by decide +kernel
theorem dX10_laySafe_126 : decode cX10_laySafe 126 = .ok (.iadd, 1) := by decide +kernel
theorem dX10_laySafe_127 : decode cX10_laySafe 127 = .ok (.iaload, 1) := by decide +kernel
theorem dX10_laySafe_128 : decode cX10_laySafe 128 = .ok (.ishl, 1) := by decide +kernel
theorem dX10_laySafe_129 : decode cX10_laySafe 129 = .ok (.goto 18, 3) := by decide +kernel
theorem dX10_laySafe_132 : decode cX10_laySafe 132 = .ok (.bipush 64, 2) := by decide +kernel
theorem dX10_laySafe_134 : decode cX10_laySafe 134 = .ok (.aload_n 0, 1) := by decide +kernel
theorem dX10_laySafe_135 : decode cX10_laySafe 135 = .ok (.getfield 31, 3) := by decide +kernel
theorem dX10_laySafe_138 : decode cX10_laySafe 138 = .ok (.bipush 24, 2) := by decide +kernel
theorem dX10_laySafe_140 : decode cX10_laySafe 140 = .ok (.iload_n 1, 1) := by decide +kernel
theorem dX10_laySafe_141 : decode cX10_laySafe 141 = .ok (.imul, 1) := by decide +kernel
theorem dX10_laySafe_142 : decode cX10_laySafe 142 = .ok (.iload 4, 2) := by decide +kernel
theorem dX10_laySafe_144 : decode cX10_laySafe 144 = .ok (.iadd, 1) := by decide +kernel
theorem dX10_laySafe_145 : decode cX10_laySafe 145 = .ok (.iaload, 1) := by decide +kernel
theorem dX10_laySafe_146 : decode cX10_laySafe 146 = .ok (.ishl, 1) := by decide +kernel
theorem dX10_laySafe_147 : decode cX10_laySafe 147 = .ok (.istore 5, 2) := by decide +kernel
theorem dX10_laySafe_149 : decode cX10_laySafe 149 = .ok (.aload_n 0, 1) := by decide +kernel
theorem dX10_laySafe_150 : decode cX10_laySafe 150 = .ok (.getfield 64, 3) := by decide +kernel
theorem dX10_laySafe_153 : decode cX10_laySafe 153 = .ok (.iload_n 3, 1) := by decide +kernel
theorem dX10_laySafe_154 : decode cX10_laySafe 154 = .ok (.dup2, 1) := by decide +kernel
theorem dX10_laySafe_155 : decode cX10_laySafe 155 = .ok (.iaload, 1) := by decide +kernel
theorem dX10_laySafe_156 : decode cX10_laySafe 156 = .ok (.aload_n 0, 1) := by decide +kernel
theorem dX10_laySafe_157 : decode cX10_laySafe 157 = .ok (.getfield 64, 3) := by decide +kernel
theorem dX10_laySafe_160 : decode cX10_laySafe 160 = .ok (.iload 4, 2) := by decide +kernel
theorem dX10_laySafe_162 : decode cX10_laySafe 162 = .ok (.iaload, 1) := by decide +kernel
theorem dX10_laySafe_163 : decode cX10_laySafe 163 = .ok (.iload 5, 2) := by decide +kernel
theorem dX10_laySafe_165 : decode cX10_laySafe 165 = .ok (.ior, 1) := by decide +kernel
theorem dX10_laySafe_166 : decode cX10_laySafe 166 = .ok (.iand, 1) := by decide +kernel
theorem dX10_laySafe_167 : decode cX10_laySafe 167 = .ok (.iastore, 1) := by decide +kernel
theorem dX10_laySafe_168 : decode cX10_laySafe 168 = .ok (.iinc 4 1, 3) := by decide +kernel
theorem dX10_laySafe_171 : decode cX10_laySafe 171 = .ok (.goto (-118), 3) := by decide +kernel
theorem dX10_laySafe_174 : decode cX10_laySafe 174 = .ok (.aload_n 0, 1) := by decide +kernel
theorem dX10_laySafe_175 : decode cX10_laySafe 175 = .ok (.getfield 64, 3) := by decide +kernel
theorem dX10_laySafe_178 : decode cX10_laySafe 178 = .ok (.iload_n 3, 1) := by decide +kernel
theorem dX10_laySafe_179 : decode cX10_laySafe 179 = .ok (.iload_n 2, 1) := by decide +kernel
theorem dX10_laySafe_180 : decode cX10_laySafe 180 = .ok (.iload_n 3, 1) := by decide +kernel
theorem dX10_laySafe_181 : decode cX10_laySafe 181 = .ok (.ishr, 1) := by decide +kernel
theorem dX10_laySafe_182 : decode cX10_laySafe 182 = .ok (.iconst 1, 1) := by decide +kernel
theorem dX10_laySafe_183 : decode cX10_laySafe 183 = .ok (.iand, 1) := by decide +kernel
theorem dX10_laySafe_184 : decode cX10_laySafe 184 = .ok (.ifCond .ne 9, 3) := by decide +kernel
theorem dX10_laySafe_187 : decode cX10_laySafe 187 = .ok (.sipush 4095, 3) := by decide +kernel
theorem dX10_laySafe_190 : decode cX10_laySafe 190 = .ok (.goto 9, 3) := by decide +kernel
theorem dX10_laySafe_193 : decode cX10_laySafe 193 = .ok (.aload_n 0, 1) := by decide +kernel
theorem dX10_laySafe_194 : decode cX10_laySafe 194 = .ok (.getfield 64, 3) := by decide +kernel
theorem dX10_laySafe_197 : decode cX10_laySafe 197 = .ok (.iload_n 3, 1) := by decide +kernel
theorem dX10_laySafe_198 : decode cX10_laySafe 198 = .ok (.iaload, 1) := by decide +kernel
theorem dX10_laySafe_199 : decode cX10_laySafe 199 = .ok (.iastore, 1) := by decide +kernel
theorem dX10_laySafe_200 : decode cX10_laySafe 200 = .ok (.iinc 3 (-1), 3) := by decide +kernel
theorem dX10_laySafe_203 : decode cX10_laySafe 203 = .ok (.goto (-194), 3) := by decide +kernel
theorem dX10_laySafe_206 : decode cX10_laySafe 206 = .ok (.return_, 1) := by decide +kernel
set_option maxRecDepth 20000 in
theorem ggX10_safe_X10_isLine : GoodIn wsX10_safe wsX10_isLine := goodIn_r _ [6, 7, 8, 9, 10, 5, 11, 12, 29, 30, 31, 32, 33, 34, 35, 36, 37, 38, 39, 40, 41, 42, 43, 44, 45, 46, 47, 48, 49, 50, 51, 52, 53, 54, 55, 56, 57, 58, 59, 60] (by decide +kernel) (by decide +kernel)
set_option maxRecDepth 20000 in
theorem gX10_safe_X10_isLine : GoodIn wsX10_safe (wsV RX10 160 RX10 yX10_isLine wsX10_isLine) := goodIn_app (goodIn_of _ (by decide +kernel)) ggX10_safe_X10_isLine
set_option maxRecDepth 20000 in
theorem ggX10_safe_X10_restsOf : GoodIn wsX10_safe wsX10_restsOf := goodIn_r _ [16, 7, 17, 18, 19, 29, 30, 31, 32, 33, 34, 35, 36, 37, 38, 39, 40, 41, 42, 43, 44, 45, 46, 47, 48, 49, 50, 51, 52, 53, 54, 55, 56, 57, 58, 59, 60] (by decide +kernel) (by decide +kernel)
set_option maxRecDepth 20000 in
theorem gX10_safe_X10_restsOf : GoodIn wsX10_safe (wsV RX10 167 RX10 yX10_restsOf wsX10_restsOf) := goodIn_app (goodIn_of _ (by decide +kernel)) ggX10_safe_X10_restsOf
set_option maxRecDepth 20000 in
theorem ggX10_safe_X10_laySafe : GoodIn wsX10_safe wsX10_laySafe := goodIn_r _ [23, 7, 1, 24, 18, 17, 25, 26, 27, 5, 28, 19, 29, 30, 31, 32, 33, 34, 35, 36, 37, 38, 39, 40, 41, 42, 43, 44, 45, 46, 47, 48, 49, 50, 51, 52, 53, 54, 55, 56, 57, 58, 59, 60] (by decide +kernel) (by decide +kernel)
set_option maxRecDepth 20000 in
theorem gX10_safe_X10_laySafe : GoodIn wsX10_safe (wsV RX10 213 RX10 yX10_laySafe wsX10_laySafe) := goodIn_app (goodIn_of _ (by decide +kernel)) ggX10_safe_X10_laySafe
theorem dX10_safe_0 : decode cX10_safe 0 = .ok (.aload_n 0, 1) := by decide +kernel
theorem dX10_safe_1 : decode cX10_safe 1 = .ok (.iload_n 1, 1) := by decide +kernel
theorem dX10_safe_2 : decode cX10_safe 2 = .ok (.iload_n 2, 1) := by decide +kernel
theorem dX10_safe_3 : decode cX10_safe 3 = .ok (.invokevirtual 160, 3) := by decide +kernel
theorem dX10_safe_6 : decode cX10_safe 6 = .ok (.ifCond .ne 5, 3) := by decide +kernel
theorem dX10_safe_9 : decode cX10_safe 9 = .ok (.iconst (-1), 1) := by decide +kernel
theorem dX10_safe_10 : decode cX10_safe 10 = .ok (.ireturn, 1) := by decide +kernel
theorem dX10_safe_11 : decode cX10_safe 11 = .ok (.aload_n 0, 1) := by decide +kernel
theorem dX10_safe_12 : decode cX10_safe 12 = .ok (.iload_n 1, 1) := by decide +kernel
theorem dX10_safe_13 : decode cX10_safe 13 = .ok (.aload_n 0, 1) := by decide +kernel
theorem dX10_safe_14 : decode cX10_safe 14 = .ok (.iload_n 1, 1) := by decide +kernel
theorem dX10_safe_15 : decode cX10_safe 15 = .ok (.invokevirtual 167, 3) := by decide +kernel
theorem dX10_safe_18 : decode cX10_safe 18 = .ok (.invokevirtual 213, 3) := by decide +kernel
theorem dX10_safe_21 : decode cX10_safe 21 = .ok (.aload_n 0, 1) := by decide +kernel
theorem dX10_safe_22 : decode cX10_safe 22 = .ok (.getfield 64, 3) := by decide +kernel
theorem dX10_safe_25 : decode cX10_safe 25 = .ok (.iload_n 2, 1) := by decide +kernel
theorem dX10_safe_26 : decode cX10_safe 26 = .ok (.iaload, 1) := by decide +kernel
theorem dX10_safe_27 : decode cX10_safe 27 = .ok (.ireturn, 1) := by decide +kernel
set_option maxRecDepth 20000 in
theorem ggX10_isUnit_X10_bitsOf : GoodIn wsX10_isUnit wsX10_bitsOf := goodIn_r _ [6] (by decide +kernel) (by decide +kernel)
set_option maxRecDepth 20000 in
theorem gX10_isUnit_X10_bitsOf : GoodIn wsX10_isUnit (va_wsS RX10 173 yX10_bitsOf wsX10_bitsOf) := goodIn_app (goodIn_of _ (by decide +kernel)) ggX10_isUnit_X10_bitsOf
set_option maxRecDepth 20000 in
theorem ggX10_isUnit_X10_isFrom : GoodIn wsX10_isUnit wsX10_isFrom := goodIn_r _ [10, 11, 12, 13, 14, 15, 16, 17, 18, 19, 20, 21, 22, 23, 24, 25, 26, 27, 28, 29, 30, 31, 32, 33, 34, 35, 36, 37, 38, 39, 40, 41, 42, 43, 44, 45] (by decide +kernel) (by decide +kernel)
set_option maxRecDepth 20000 in
theorem gX10_isUnit_X10_isFrom : GoodIn wsX10_isUnit (wsV RX10 176 RX10 yX10_isFrom wsX10_isFrom) := goodIn_app (goodIn_of _ (by decide +kernel)) ggX10_isUnit_X10_isFrom
theorem dX10_isUnit_0 : decode cX10_isUnit 0 = .ok (.aload_n 0, 1) := by decide +kernel
theorem dX10_isUnit_1 : decode cX10_isUnit 1 = .ok (.getfield 22, 3) := by decide +kernel
theorem dX10_isUnit_4 : decode cX10_isUnit 4 = .ok (.bipush 24, 2) := by decide +kernel
theorem dX10_isUnit_6 : decode cX10_isUnit 6 = .ok (.iload_n 1, 1) := by decide +kernel
theorem dX10_isUnit_7 : decode cX10_isUnit 7 = .ok (.imul, 1) := by decide +kernel
theorem dX10_isUnit_8 : decode cX10_isUnit 8 = .ok (.iload_n 2, 1) := by decide +kernel
theorem dX10_isUnit_9 : decode cX10_isUnit 9 = .ok (.iadd, 1) := by decide +kernel
theorem dX10_isUnit_10 : decode cX10_isUnit 10 = .ok (.iaload, 1) := by decide +kernel
theorem dX10_isUnit_11 : decode cX10_isUnit 11 = .ok (.invokestatic 173, 3) := by decide +kernel
theorem dX10_isUnit_14 : decode cX10_isUnit 14 = .ok (.iconst 1, 1) := by decide +kernel
theorem dX10_isUnit_15 : decode cX10_isUnit 15 = .ok (.if_icmp .ne 23, 3) := by decide +kernel
theorem dX10_isUnit_18 : decode cX10_isUnit 18 = .ok (.iload_n 2, 1) := by decide +kernel
theorem dX10_isUnit_19 : decode cX10_isUnit 19 = .ok (.aload_n 0, 1) := by decide +kernel
theorem dX10_isUnit_20 : decode cX10_isUnit 20 = .ok (.getfield 19, 3) := by decide +kernel
theorem dX10_isUnit_23 : decode cX10_isUnit 23 = .ok (.iload_n 1, 1) := by decide +kernel
theorem dX10_isUnit_24 : decode cX10_isUnit 24 = .ok (.iaload, 1) := by decide +kernel
theorem dX10_isUnit_25 : decode cX10_isUnit 25 = .ok (.iconst 1, 1) := by decide +kernel
theorem dX10_isUnit_26 : decode cX10_isUnit 26 = .ok (.isub, 1) := by decide +kernel
