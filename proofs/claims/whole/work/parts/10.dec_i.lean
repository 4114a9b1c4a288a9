theorem dX10_layGrounds_40 : decode cX10_layGrounds 40 = .ok (.getfield 22, 3) := by decide +kernel
theorem dX10_layGrounds_43 : decode cX10_layGrounds 43 = .ok (.iload 4, 2) := by decide +kernel
theorem dX10_layGrounds_45 : decode cX10_layGrounds 45 = .ok (.iaload, 1) := by decide +kernel
theorem dX10_layGrounds_46 : decode cX10_layGrounds 46 = .ok (.invokestatic 245, 3) := by decide +kernel
theorem dX10_layGrounds_49 : decode cX10_layGrounds 49 = .ok (.lastore, 1) := by decide +kernel
theorem dX10_layGrounds_50 : decode cX10_layGrounds 50 = .ok (.aload_n 0, 1) := by decide +kernel
theorem dX10_layGrounds_51 : decode cX10_layGrounds 51 = .ok (.getfield 74, 3) := by decide +kernel
theorem dX10_layGrounds_54 : decode cX10_layGrounds 54 = .ok (.iload_n 2, 1) := by decide +kernel
theorem dX10_layGrounds_55 : decode cX10_layGrounds 55 = .ok (.aload_n 0, 1) := by decide +kernel
theorem dX10_layGrounds_56 : decode cX10_layGrounds 56 = .ok (.getfield 22, 3) := by decide +kernel
theorem dX10_layGrounds_59 : decode cX10_layGrounds 59 = .ok (.iload 4, 2) := by decide +kernel
theorem dX10_layGrounds_61 : decode cX10_layGrounds 61 = .ok (.iaload, 1) := by decide +kernel
theorem dX10_layGrounds_62 : decode cX10_layGrounds 62 = .ok (.aload_n 0, 1) := by decide +kernel
theorem dX10_layGrounds_63 : decode cX10_layGrounds 63 = .ok (.getfield 22, 3) := by decide +kernel
theorem dX10_layGrounds_66 : decode cX10_layGrounds 66 = .ok (.iload 4, 2) := by decide +kernel
theorem dX10_layGrounds_68 : decode cX10_layGrounds 68 = .ok (.iaload, 1) := by decide +kernel
theorem dX10_layGrounds_69 : decode cX10_layGrounds 69 = .ok (.bipush 6, 2) := by decide +kernel
theorem dX10_layGrounds_71 : decode cX10_layGrounds 71 = .ok (.ishr, 1) := by decide +kernel
theorem dX10_layGrounds_72 : decode cX10_layGrounds 72 = .ok (.ior, 1) := by decide +kernel
theorem dX10_layGrounds_73 : decode cX10_layGrounds 73 = .ok (.bipush 63, 2) := by decide +kernel
theorem dX10_layGrounds_75 : decode cX10_layGrounds 75 = .ok (.iand, 1) := by decide +kernel
theorem dX10_layGrounds_76 : decode cX10_layGrounds 76 = .ok (.iastore, 1) := by decide +kernel
theorem dX10_layGrounds_77 : decode cX10_layGrounds 77 = .ok (.iinc 2 1, 3) := by decide +kernel
theorem dX10_layGrounds_80 : decode cX10_layGrounds 80 = .ok (.iinc 3 1, 3) := by decide +kernel
theorem dX10_layGrounds_83 : decode cX10_layGrounds 83 = .ok (.goto (-79), 3) := by decide +kernel
theorem dX10_layGrounds_86 : decode cX10_layGrounds 86 = .ok (.return_, 1) := by decide +kernel
theorem dX10_allTrue_0 : decode cX10_allTrue 0 = .ok (.ldc2_w 249, 3) := by decide +kernel
theorem dX10_allTrue_3 : decode cX10_allTrue 3 = .ok (.lstore_n 3, 1) := by decide +kernel
theorem dX10_allTrue_4 : decode cX10_allTrue 4 = .ok (.iconst 0, 1) := by decide +kernel
theorem dX10_allTrue_5 : decode cX10_allTrue 5 = .ok (.istore 5, 2) := by decide +kernel
theorem dX10_allTrue_7 : decode cX10_allTrue 7 = .ok (.iload 5, 2) := by decide +kernel
theorem dX10_allTrue_9 : decode cX10_allTrue 9 = .ok (.iload_n 2, 1) := by decide +kernel
theorem dX10_allTrue_10 : decode cX10_allTrue 10 = .ok (.if_icmp .ge 35, 3) := by decide +kernel
theorem dX10_allTrue_13 : decode cX10_allTrue 13 = .ok (.lload_n 3, 1) := by decide +kernel
theorem dX10_allTrue_14 : decode cX10_allTrue 14 = .ok (.iload_n 1, 1) := by decide +kernel
theorem dX10_allTrue_15 : decode cX10_allTrue 15 = .ok (.iload 5, 2) := by decide +kernel
theorem dX10_allTrue_17 : decode cX10_allTrue 17 = .ok (.ishr, 1) := by decide +kernel
theorem dX10_allTrue_18 : decode cX10_allTrue 18 = .ok (.iconst 1, 1) := by decide +kernel
theorem dX10_allTrue_19 : decode cX10_allTrue 19 = .ok (.iand, 1) := by decide +kernel
theorem dX10_allTrue_20 : decode cX10_allTrue 20 = .ok (.iconst 1, 1) := by decide +kernel
theorem dX10_allTrue_21 : decode cX10_allTrue 21 = .ok (.if_icmp .ne 13, 3) := by decide +kernel
theorem dX10_allTrue_24 : decode cX10_allTrue 24 = .ok (.aload_n 0, 1) := by decide +kernel
theorem dX10_allTrue_25 : decode cX10_allTrue 25 = .ok (.getfield 70, 3) := by decide +kernel
theorem dX10_allTrue_28 : decode cX10_allTrue 28 = .ok (.iload 5, 2) := by decide +kernel
theorem dX10_allTrue_30 : decode cX10_allTrue 30 = .ok (.laload, 1) := by decide +kernel
theorem dX10_allTrue_31 : decode cX10_allTrue 31 = .ok (.goto 6, 3) := by decide +kernel
theorem dX10_allTrue_34 : decode cX10_allTrue 34 = .ok (.ldc2_w 249, 3) := by decide +kernel
theorem dX10_allTrue_37 : decode cX10_allTrue 37 = .ok (.land, 1) := by decide +kernel
theorem dX10_allTrue_38 : decode cX10_allTrue 38 = .ok (.lstore_n 3, 1) := by decide +kernel
theorem dX10_allTrue_39 : decode cX10_allTrue 39 = .ok (.iinc 5 1, 3) := by decide +kernel
theorem dX10_allTrue_42 : decode cX10_allTrue 42 = .ok (.goto (-35), 3) := by decide +kernel
theorem dX10_allTrue_45 : decode cX10_allTrue 45 = .ok (.lload_n 3, 1) := by decide +kernel
theorem dX10_allTrue_46 : decode cX10_allTrue 46 = .ok (.lreturn, 1) := by decide +kernel
set_option maxRecDepth 20000 in
theorem ggX10_isBare_X10_allTrue : GoodIn wsX10_isBare wsX10_allTrue := goodIn_r _ [5, 6, 7, 8, 9, 10, 11, 12, 13, 14, 15, 16, 17, 18, 19, 20, 21, 22, 23, 24, 25, 26, 27, 28, 29, 30, 31, 32, 33, 34, 35, 36, 37, 38, 39] (by decide +kernel) (by decide +kernel)
set_option maxRecDepth 20000 in
theorem gX10_isBare_X10_allTrue : GoodIn wsX10_isBare (wsV RX10 251 RX10 yX10_allTrue wsX10_allTrue) := goodIn_app (goodIn_of _ (by decide +kernel)) ggX10_isBare_X10_allTrue
theorem dX10_isBare_0 : decode cX10_isBare 0 = .ok (.aload_n 0, 1) := by decide +kernel
theorem dX10_isBare_1 : decode cX10_isBare 1 = .ok (.iload_n 1, 1) := by decide +kernel
theorem dX10_isBare_2 : decode cX10_isBare 2 = .ok (.iload_n 2, 1) := by decide +kernel
theorem dX10_isBare_3 : decode cX10_isBare 3 = .ok (.invokevirtual 251, 3) := by decide +kernel
theorem dX10_isBare_6 : decode cX10_isBare 6 = .ok (.lconst 0, 1) := by decide +kernel
theorem dX10_isBare_7 : decode cX10_isBare 7 = .ok (.lcmp, 1) := by decide +kernel
theorem dX10_isBare_8 : decode cX10_isBare 8 = .ok (.ifCond .eq 5, 3) := by decide +kernel
theorem dX10_isBare_11 : decode cX10_isBare 11 = .ok (.iconst 0, 1) := by decide +kernel
theorem dX10_isBare_12 : decode cX10_isBare 12 = .ok (.ireturn, 1) := by decide +kernel
theorem dX10_isBare_13 : decode cX10_isBare 13 = .ok (.iconst 0, 1) := by decide +kernel
theorem dX10_isBare_14 : decode cX10_isBare 14 = .ok (.istore_n 3, 1) := by decide +kernel
theorem dX10_isBare_15 : decode cX10_isBare 15 = .ok (.iload_n 3, 1) := by decide +kernel
theorem dX10_isBare_16 : decode cX10_isBare 16 = .ok (.iload_n 2, 1) := by decide +kernel
theorem dX10_isBare_17 : decode cX10_isBare 17 = .ok (.if_icmp .ge 37, 3) := by decide +kernel
theorem dX10_isBare_20 : decode cX10_isBare 20 = .ok (.iload_n 1, 1) := by decide +kernel
theorem dX10_isBare_21 : decode cX10_isBare 21 = .ok (.iload_n 3, 1) := by decide +kernel
theorem dX10_isBare_22 : decode cX10_isBare 22 = .ok (.ishr, 1) := by decide +kernel
theorem dX10_isBare_23 : decode cX10_isBare 23 = .ok (.iconst 1, 1) := by decide +kernel
theorem dX10_isBare_24 : decode cX10_isBare 24 = .ok (.iand, 1) := by decide +kernel
theorem dX10_isBare_25 : decode cX10_isBare 25 = .ok (.iconst 1, 1) := by decide +kernel
theorem dX10_isBare_26 : decode cX10_isBare 26 = .ok (.if_icmp .ne 22, 3) := by decide +kernel
theorem dX10_isBare_29 : decode cX10_isBare 29 = .ok (.aload_n 0, 1) := by decide +kernel
theorem dX10_isBare_30 : decode cX10_isBare 30 = .ok (.iload_n 1, 1) := by decide +kernel
theorem dX10_isBare_31 : decode cX10_isBare 31 = .ok (.iconst 1, 1) := by decide +kernel
theorem dX10_isBare_32 : decode cX10_isBare 32 = .ok (.iload_n 3, 1) := by decide +kernel
theorem dX10_isBare_33 : decode cX10_isBare 33 = .ok (.ishl, 1) := by decide +kernel
theorem dX10_isBare_34 : decode cX10_isBare 34 = .ok (.iconst (-1), 1) := by decide +kernel
theorem dX10_isBare_35 : decode cX10_isBare 35 = .ok (.ixor, 1) := by decide +kernel
theorem dX10_isBare_36 : decode cX10_isBare 36 = .ok (.iand, 1) := by decide +kernel
theorem dX10_isBare_37 : decode cX10_isBare 37 = .ok (.iload_n 2, 1) := by decide +kernel
theorem dX10_isBare_38 : decode cX10_isBare 38 = .ok (.invokevirtual 251, 3) := by decide +kernel
theorem dX10_isBare_41 : decode cX10_isBare 41 = .ok (.lconst 0, 1) := by decide +kernel
theorem dX10_isBare_42 : decode cX10_isBare 42 = .ok (.lcmp, 1) := by decide +kernel
theorem dX10_isBare_43 : decode cX10_isBare 43 = .ok (.ifCond .ne 5, 3) := by decide +kernel
theorem dX10_isBare_46 : decode cX10_isBare 46 = .ok (.iconst 0, 1) := by decide +kernel
theorem dX10_isBare_47 : decode cX10_isBare 47 = .ok (.ireturn, 1) := by decide +kernel
theorem dX10_isBare_48 : decode cX10_isBare 48 = .ok (.iinc 3 1, 3) := by decide +kernel
theorem dX10_isBare_51 : decode cX10_isBare 51 = .ok (.goto (-36), 3) := by decide +kernel
theorem dX10_isBare_54 : decode cX10_isBare 54 = .ok (.iconst 1, 1) := by decide +kernel
theorem dX10_isBare_55 : decode cX10_isBare 55 = .ok (.ireturn, 1) := by decide +kernel
set_option maxRecDepth 20000 in
theorem ggX10_leastCore_X10_bitsOf : GoodIn wsX10_leastCore wsX10_bitsOf := goodIn_r _ [4] (by decide +kernel) (by decide +kernel)
set_option maxRecDepth 20000 in
theorem gX10_leastCore_X10_bitsOf : GoodIn wsX10_leastCore (va_wsS RX10 173 yX10_bitsOf wsX10_bitsOf) := goodIn_app (goodIn_of _ (by decide +kernel)) ggX10_leastCore_X10_bitsOf
set_option maxRecDepth 20000 in
theorem ggX10_leastCore_X10_allTrue : GoodIn wsX10_leastCore wsX10_allTrue := goodIn_r _ [8, 9, 10, 11, 12, 13, 14, 15, 16, 17, 18, 19, 20, 21, 22, 23, 24, 25, 26, 27, 28, 29, 30, 31, 32, 33, 34, 35, 36, 37, 38, 39, 40, 41, 42] (by decide +kernel) (by decide +kernel)
set_option maxRecDepth 20000 in
theorem gX10_leastCore_X10_allTrue : GoodIn wsX10_leastCore (wsV RX10 251 RX10 yX10_allTrue wsX10_allTrue) := goodIn_app (goodIn_of _ (by decide +kernel)) ggX10_leastCore_X10_allTrue
theorem dX10_leastCore_0 : decode cX10_leastCore 0 = .ok (.bipush (-9), 2) := by decide +kernel
theorem dX10_leastCore_2 : decode cX10_leastCore 2 = .ok (.istore_n 2, 1) := by decide +kernel
theorem dX10_leastCore_3 : decode cX10_leastCore 3 = .ok (.iconst 0, 1) := by decide +kernel
theorem dX10_leastCore_4 : decode cX10_leastCore 4 = .ok (.istore_n 3, 1) := by decide +kernel
theorem dX10_leastCore_5 : decode cX10_leastCore 5 = .ok (.iload_n 3, 1) := by decide +kernel
theorem dX10_leastCore_6 : decode cX10_leastCore 6 = .ok (.iconst 1, 1) := by decide +kernel
theorem dX10_leastCore_7 : decode cX10_leastCore 7 = .ok (.iload_n 1, 1) := by decide +kernel
theorem dX10_leastCore_8 : decode cX10_leastCore 8 = .ok (.ishl, 1) := by decide +kernel
theorem dX10_leastCore_9 : decode cX10_leastCore 9 = .ok (.if_icmp .ge 39, 3) := by decide +kernel
theorem dX10_leastCore_12 : decode cX10_leastCore 12 = .ok (.iload_n 2, 1) := by decide +kernel
theorem dX10_leastCore_13 : decode cX10_leastCore 13 = .ok (.bipush (-9), 2) := by decide +kernel
theorem dX10_leastCore_15 : decode cX10_leastCore 15 = .ok (.if_icmp .eq 14, 3) := by decide +kernel
theorem dX10_leastCore_18 : decode cX10_leastCore 18 = .ok (.iload_n 3, 1) := by decide +kernel
theorem dX10_leastCore_19 : decode cX10_leastCore 19 = .ok (.invokestatic 173, 3) := by decide +kernel
theorem dX10_leastCore_22 : decode cX10_leastCore 22 = .ok (.iload_n 2, 1) := by decide +kernel
theorem dX10_leastCore_23 : decode cX10_leastCore 23 = .ok (.invokestatic 173, 3) := by decide +kernel
theorem dX10_leastCore_26 : decode cX10_leastCore 26 = .ok (.if_icmp .ge 16, 3) := by decide +kernel
theorem dX10_leastCore_29 : decode cX10_leastCore 29 = .ok (.aload_n 0, 1) := by decide +kernel
theorem dX10_leastCore_30 : decode cX10_leastCore 30 = .ok (.iload_n 3, 1) := by decide +kernel
theorem dX10_leastCore_31 : decode cX10_leastCore 31 = .ok (.iload_n 1, 1) := by decide +kernel
theorem dX10_leastCore_32 : decode cX10_leastCore 32 = .ok (.invokevirtual 251, 3) := by decide +kernel
theorem dX10_leastCore_35 : decode cX10_leastCore 35 = .ok (.lconst 0, 1) := by decide +kernel
theorem dX10_leastCore_36 : decode cX10_leastCore 36 = .ok (.lcmp, 1) := by decide +kernel
theorem dX10_leastCore_37 : decode cX10_leastCore 37 = .ok (.ifCond .ne 5, 3) := by decide +kernel
theorem dX10_leastCore_40 : decode cX10_leastCore 40 = .ok (.iload_n 3, 1) := by decide +kernel
theorem dX10_leastCore_41 : decode cX10_leastCore 41 = .ok (.istore_n 2, 1) := by decide +kernel
theorem dX10_leastCore_42 : decode cX10_leastCore 42 = .ok (.iinc 3 1, 3) := by decide +kernel
theorem dX10_leastCore_45 : decode cX10_leastCore 45 = .ok (.goto (-40), 3) := by decide +kernel
theorem dX10_leastCore_48 : decode cX10_leastCore 48 = .ok (.iload_n 2, 1) := by decide +kernel
theorem dX10_leastCore_49 : decode cX10_leastCore 49 = .ok (.ireturn, 1) := by decide +kernel
set_option maxRecDepth 20000 in
theorem ggX10_manyBare_X10_isBare : GoodIn wsX10_manyBare wsX10_isBare := goodIn_r _ [5, 6, 7, 8, 4, 9, 10, 11, 12, 13, 14, 15, 16, 17, 18, 19, 20, 21, 22, 23, 24, 25, 26, 27, 28, 29, 30, 31, 32, 33, 34, 35, 36, 37, 38, 39, 40, 41, 42, 43] (by decide +kernel) (by decide +kernel)
set_option maxRecDepth 20000 in
theorem gX10_manyBare_X10_isBare : GoodIn wsX10_manyBare (wsV RX10 255 RX10 yX10_isBare wsX10_isBare) := goodIn_app (goodIn_of _ (by decide +kernel)) ggX10_manyBare_X10_isBare
theorem dX10_manyBare_0 : decode cX10_manyBare 0 = .ok (.iconst 0, 1) := by decide +kernel
theorem dX10_manyBare_1 : decode cX10_manyBare 1 = .ok (.istore_n 2, 1) := by decide +kernel
theorem dX10_manyBare_2 : decode cX10_manyBare 2 = .ok (.iconst 0, 1) := by decide +kernel
theorem dX10_manyBare_3 : decode cX10_manyBare 3 = .ok (.istore_n 3, 1) := by decide +kernel
theorem dX10_manyBare_4 : decode cX10_manyBare 4 = .ok (.iload_n 3, 1) := by decide +kernel
theorem dX10_manyBare_5 : decode cX10_manyBare 5 = .ok (.iconst 1, 1) := by decide +kernel
theorem dX10_manyBare_6 : decode cX10_manyBare 6 = .ok (.iload_n 1, 1) := by decide +kernel
theorem dX10_manyBare_7 : decode cX10_manyBare 7 = .ok (.ishl, 1) := by decide +kernel
theorem dX10_manyBare_8 : decode cX10_manyBare 8 = .ok (.if_icmp .ge 26, 3) := by decide +kernel
theorem dX10_manyBare_11 : decode cX10_manyBare 11 = .ok (.iload_n 2, 1) := by decide +kernel
theorem dX10_manyBare_12 : decode cX10_manyBare 12 = .ok (.aload_n 0, 1) := by decide +kernel
theorem dX10_manyBare_13 : decode cX10_manyBare 13 = .ok (.iload_n 3, 1) := by decide +kernel
theorem dX10_manyBare_14 : decode cX10_manyBare 14 = .ok (.iload_n 1, 1) := by decide +kernel
theorem dX10_manyBare_15 : decode cX10_manyBare 15 = .ok (.invokevirtual 255, 3) := by decide +kernel
theorem dX10_manyBare_18 : decode cX10_manyBare 18 = .ok (.ifCond .eq 7, 3) := by decide +kernel
theorem dX10_manyBare_21 : decode cX10_manyBare 21 = .ok (.iconst 1, 1) := by decide +kernel
theorem dX10_manyBare_22 : decode cX10_manyBare 22 = .ok (.goto 4, 3) := by decide +kernel
theorem dX10_manyBare_25 : decode cX10_manyBare 25 = .ok (.iconst 0, 1) := by decide +kernel
theorem dX10_manyBare_26 : decode cX10_manyBare 26 = .ok (.iadd, 1) := by decide +kernel
theorem dX10_manyBare_27 : decode cX10_manyBare 27 = .ok (.istore_n 2, 1) := by decide +kernel
theorem dX10_manyBare_28 : decode cX10_manyBare 28 = .ok (.iinc 3 1, 3) := by decide +kernel
theorem dX10_manyBare_31 : decode cX10_manyBare 31 = .ok (.goto (-27), 3) := by decide +kernel
theorem dX10_manyBare_34 : decode cX10_manyBare 34 = .ok (.iload_n 2, 1) := by decide +kernel
theorem dX10_manyBare_35 : decode cX10_manyBare 35 = .ok (.ireturn, 1) := by decide +kernel
set_option maxRecDepth 20000 in
theorem ggX10_core_X10_isProof : GoodIn wsX10_core wsX10_isProof := goodIn_r _ [5, 6, 49, 50, 51, 52, 53, 54, 55, 56, 57, 58, 59, 60, 61, 62, 63, 64, 65, 66, 67, 68, 69, 70, 71, 72, 73, 74, 75, 76, 77, 78, 79, 80] (by decide +kernel) (by decide +kernel)
set_option maxRecDepth 20000 in
theorem gX10_core_X10_isProof : GoodIn wsX10_core (wsV RX10 111 RX10 yX10_isProof wsX10_isProof) := goodIn_app (goodIn_of _ (by decide +kernel)) ggX10_core_X10_isProof
set_option maxRecDepth 20000 in
theorem ggX10_core_X10_groundsOf : GoodIn wsX10_core wsX10_groundsOf := goodIn_r _ [10, 11, 12, 49, 50, 51, 52, 53, 54, 55, 56, 57, 58, 59, 60, 61, 62, 63, 64, 65, 66, 67, 68, 69, 70, 71, 72, 73, 74, 75, 76, 77, 78, 79, 80] (by decide +kernel) (by decide +kernel)
set_option maxRecDepth 20000 in
theorem gX10_core_X10_groundsOf : GoodIn wsX10_core (wsV RX10 170 RX10 yX10_groundsOf wsX10_groundsOf) := goodIn_app (goodIn_of _ (by decide +kernel)) ggX10_core_X10_groundsOf
set_option maxRecDepth 20000 in
theorem ggX10_core_X10_within : GoodIn wsX10_core wsX10_within := goodIn_r _ [15] (by decide +kernel) (by decide +kernel)
set_option maxRecDepth 20000 in
theorem gX10_core_X10_within : GoodIn wsX10_core (va_wsS RX10 92 yX10_within wsX10_within) := goodIn_app (goodIn_of _ (by decide +kernel)) ggX10_core_X10_within
set_option maxRecDepth 20000 in
theorem ggX10_core_X10_layGrounds : GoodIn wsX10_core wsX10_layGrounds := goodIn_r _ [19, 11, 12, 20, 21, 22, 23, 24, 4, 25, 26, 27, 28, 49, 50, 51, 52, 53, 54, 55, 56, 57, 58, 59, 60, 61, 62, 63, 64, 65, 66, 67, 68, 69, 70, 71, 72, 73, 74, 75, 76, 77, 78, 79, 80] (by decide +kernel) (by decide +kernel)
set_option maxRecDepth 20000 in
theorem gX10_core_X10_layGrounds : GoodIn wsX10_core (wsV RX10 258 RX10 yX10_layGrounds wsX10_layGrounds) := goodIn_app (goodIn_of _ (by decide +kernel)) ggX10_core_X10_layGrounds
set_option maxRecDepth 20000 in
theorem ggX10_core_X10_leastCore : GoodIn wsX10_core wsX10_leastCore := goodIn_r _ [32, 33, 34, 4, 35, 36, 37, 38, 39, 40, 20, 49, 50, 51, 52, 53, 54, 55, 56, 57, 58, 59, 60, 61, 62, 63, 64, 65, 66, 67, 68, 69, 70, 71, 72, 73, 74, 75, 76, 77, 78, 79, 80] (by decide +kernel) (by decide +kernel)
set_option maxRecDepth 20000 in
theorem gX10_core_X10_leastCore : GoodIn wsX10_core (wsV RX10 261 RX10 yX10_leastCore wsX10_leastCore) := goodIn_app (goodIn_of _ (by decide +kernel)) ggX10_core_X10_leastCore
set_option maxRecDepth 20000 in
theorem ggX10_core_X10_manyBare : GoodIn wsX10_core wsX10_manyBare := goodIn_r _ [44, 45, 46, 47, 4, 48, 36, 37, 38, 39, 40, 20, 49, 50, 51, 52, 53, 54, 55, 56, 57, 58, 59, 60, 61, 62, 63, 64, 65, 66, 67, 68, 69, 70, 71, 72, 73, 74, 75, 76, 77, 78, 79, 80] (by decide +kernel) (by decide +kernel)
set_option maxRecDepth 20000 in
theorem gX10_core_X10_manyBare : GoodIn wsX10_core (wsV RX10 264 RX10 yX10_manyBare wsX10_manyBare) := goodIn_app (goodIn_of _ (by decide +kernel)) ggX10_core_X10_manyBare
set_option maxRecDepth 20000 in
theorem ggX10_core_X10_allTrue : GoodIn wsX10_core wsX10_allTrue := goodIn_r _ [39, 40, 20, 49, 50, 51, 52, 53, 54, 55, 56, 57, 58, 59, 60, 61, 62, 63, 64, 65, 66, 67, 68, 69, 70, 71, 72, 73, 74, 75, 76, 77, 78, 79, 80] (by decide +kernel) (by decide +kernel)
set_option maxRecDepth 20000 in
theorem gX10_core_X10_allTrue : GoodIn wsX10_core (wsV RX10 251 RX10 yX10_allTrue wsX10_allTrue) := goodIn_app (goodIn_of _ (by decide +kernel)) ggX10_core_X10_allTrue
set_option maxRecDepth 20000 in
theorem ggX10_core_X10_isBare : GoodIn wsX10_core wsX10_isBare := goodIn_r _ [48, 36, 37, 38, 4, 39, 40, 20, 49, 50, 51, 52, 53, 54, 55, 56, 57, 58, 59, 60, 61, 62, 63, 64, 65, 66, 67, 68, 69, 70, 71, 72, 73, 74, 75, 76, 77, 78, 79, 80] (by decide +kernel) (by decide +kernel)
set_option maxRecDepth 20000 in
theorem gX10_core_X10_isBare : GoodIn wsX10_core (wsV RX10 255 RX10 yX10_isBare wsX10_isBare) := goodIn_app (goodIn_of _ (by decide +kernel)) ggX10_core_X10_isBare
theorem dX10_core_0 : decode cX10_core 0 = .ok (.aload_n 0, 1) := by decide +kernel
theorem dX10_core_1 : decode cX10_core 1 = .ok (.iload_n 1, 1) := by decide +kernel
theorem dX10_core_2 : decode cX10_core 2 = .ok (.invokevirtual 111, 3) := by decide +kernel
theorem dX10_core_5 : decode cX10_core 5 = .ok (.ifCond .ne 5, 3) := by decide +kernel
theorem dX10_core_8 : decode cX10_core 8 = .ok (.iconst (-1), 1) := by decide +kernel
theorem dX10_core_9 : decode cX10_core 9 = .ok (.ireturn, 1) := by decide +kernel
theorem dX10_core_10 : decode cX10_core 10 = .ok (.aload_n 0, 1) := by decide +kernel
theorem dX10_core_11 : decode cX10_core 11 = .ok (.iload_n 1, 1) := by decide +kernel
theorem dX10_core_12 : decode cX10_core 12 = .ok (.invokevirtual 170, 3) := by decide +kernel
theorem dX10_core_15 : decode cX10_core 15 = .ok (.istore 4, 2) := by decide +kernel
theorem dX10_core_17 : decode cX10_core 17 = .ok (.iload 4, 2) := by decide +kernel
theorem dX10_core_19 : decode cX10_core 19 = .ok (.bipush 10, 2) := by decide +kernel
theorem dX10_core_21 : decode cX10_core 21 = .ok (.if_icmp .le 6, 3) := by decide +kernel
theorem dX10_core_24 : decode cX10_core 24 = .ok (.bipush (-3), 2) := by decide +kernel
theorem dX10_core_26 : decode cX10_core 26 = .ok (.ireturn, 1) := by decide +kernel
theorem dX10_core_27 : decode cX10_core 27 = .ok (.iload_n 2, 1) := by decide +kernel
theorem dX10_core_28 : decode cX10_core 28 = .ok (.iconst 0, 1) := by decide +kernel
theorem dX10_core_29 : decode cX10_core 29 = .ok (.iconst 3, 1) := by decide +kernel
theorem dX10_core_30 : decode cX10_core 30 = .ok (.invokestatic 92, 3) := by decide +kernel
theorem dX10_core_33 : decode cX10_core 33 = .ok (.ifCond .eq 22, 3) := by decide +kernel
theorem dX10_core_36 : decode cX10_core 36 = .ok (.iload_n 2, 1) := by decide +kernel
theorem dX10_core_37 : decode cX10_core 37 = .ok (.iconst 1, 1) := by decide +kernel
theorem dX10_core_38 : decode cX10_core 38 = .ok (.if_icmp .le 20, 3) := by decide +kernel
theorem dX10_core_41 : decode cX10_core 41 = .ok (.iload_n 3, 1) := by decide +kernel
theorem dX10_core_42 : decode cX10_core 42 = .ok (.iconst 0, 1) := by decide +kernel
theorem dX10_core_43 : decode cX10_core 43 = .ok (.iconst 1, 1) := by decide +kernel
theorem dX10_core_44 : decode cX10_core 44 = .ok (.iload 4, 2) := by decide +kernel
theorem dX10_core_46 : decode cX10_core 46 = .ok (.ishl, 1) := by decide +kernel
theorem dX10_core_47 : decode cX10_core 47 = .ok (.iconst 1, 1) := by decide +kernel
theorem dX10_core_48 : decode cX10_core 48 = .ok (.isub, 1) := by decide +kernel
theorem dX10_core_49 : decode cX10_core 49 = .ok (.invokestatic 92, 3) := by decide +kernel
theorem dX10_core_52 : decode cX10_core 52 = .ok (.ifCond .ne 6, 3) := by decide +kernel
theorem dX10_core_55 : decode cX10_core 55 = .ok (.bipush (-2), 2) := by decide +kernel
theorem dX10_core_57 : decode cX10_core 57 = .ok (.ireturn, 1) := by decide +kernel
theorem dX10_core_58 : decode cX10_core 58 = .ok (.aload_n 0, 1) := by decide +kernel
theorem dX10_core_59 : decode cX10_core 59 = .ok (.iload_n 1, 1) := by decide +kernel
theorem dX10_core_60 : decode cX10_core 60 = .ok (.invokevirtual 258, 3) := by decide +kernel
theorem dX10_core_63 : decode cX10_core 63 = .ok (.iload_n 2, 1) := by decide +kernel
theorem dX10_core_64 : decode cX10_core 64 = .ok (.tableswitch 60 0 2 #[28, 35, 42], 28) := by decide +kernel
theorem dX10_core_92 : decode cX10_core 92 = .ok (.aload_n 0, 1) := by decide +kernel
theorem dX10_core_93 : decode cX10_core 93 = .ok (.iload 4, 2) := by decide +kernel
theorem dX10_core_95 : decode cX10_core 95 = .ok (.invokevirtual 261, 3) := by decide +kernel
theorem dX10_core_98 : decode cX10_core 98 = .ok (.ireturn, 1) := by decide +kernel
theorem dX10_core_99 : decode cX10_core 99 = .ok (.aload_n 0, 1) := by decide +kernel
theorem dX10_core_100 : decode cX10_core 100 = .ok (.iload 4, 2) := by decide +kernel
theorem dX10_core_102 : decode cX10_core 102 = .ok (.invokevirtual 264, 3) := by decide +kernel
theorem dX10_core_105 : decode cX10_core 105 = .ok (.ireturn, 1) := by decide +kernel
theorem dX10_core_106 : decode cX10_core 106 = .ok (.aload_n 0, 1) := by decide +kernel
theorem dX10_core_107 : decode cX10_core 107 = .ok (.iload_n 3, 1) := by decide +kernel
theorem dX10_core_108 : decode cX10_core 108 = .ok (.iload 4, 2) := by decide +kernel
theorem dX10_core_110 : decode cX10_core 110 = .ok (.invokevirtual 251, 3) := by decide +kernel
theorem dX10_core_113 : decode cX10_core 113 = .ok (.lconst 0, 1) := by decide +kernel
theorem dX10_core_114 : decode cX10_core 114 = .ok (.lcmp, 1) := by decide +kernel
theorem dX10_core_115 : decode cX10_core 115 = .ok (.ifCond .ne 7, 3) := by decide +kernel
theorem dX10_core_118 : decode cX10_core 118 = .ok (.iconst 1, 1) := by decide +kernel
theorem dX10_core_119 : decode cX10_core 119 = .ok (.goto 4, 3) := by decide +kernel
theorem dX10_core_122 : decode cX10_core 122 = .ok (.iconst 0, 1) := by decide +kernel
theorem dX10_core_123 : decode cX10_core 123 = .ok (.ireturn, 1) := by decide +kernel
theorem dX10_core_124 : decode cX10_core 124 = .ok (.aload_n 0, 1) := by decide +kernel
theorem dX10_core_125 : decode cX10_core 125 = .ok (.iload_n 3, 1) := by decide +kernel
theorem dX10_core_126 : decode cX10_core 126 = .ok (.iload 4, 2) := by decide +kernel
theorem dX10_core_128 : decode cX10_core 128 = .ok (.invokevirtual 255, 3) := by decide +kernel
theorem dX10_core_131 : decode cX10_core 131 = .ok (.ifCond .eq 7, 3) := by decide +kernel
theorem dX10_core_134 : decode cX10_core 134 = .ok (.iconst 1, 1) := by decide +kernel
theorem dX10_core_135 : decode cX10_core 135 = .ok (.goto 4, 3) := by decide +kernel
theorem dX10_core_138 : decode cX10_core 138 = .ok (.iconst 0, 1) := by decide +kernel
theorem dX10_core_139 : decode cX10_core 139 = .ok (.ireturn, 1) := by decide +kernel
theorem dX10_halfOf_0 : decode cX10_halfOf 0 = .ok (.lload_n 0, 1) := by decide +kernel
theorem dX10_halfOf_1 : decode cX10_halfOf 1 = .ok (.bipush 32, 2) := by decide +kernel
theorem dX10_halfOf_3 : decode cX10_halfOf 3 = .ok (.iload_n 2, 1) := by decide +kernel
theorem dX10_halfOf_4 : decode cX10_halfOf 4 = .ok (.imul, 1) := by decide +kernel
theorem dX10_halfOf_5 : decode cX10_halfOf 5 = .ok (.lshr, 1) := by decide +kernel
theorem dX10_halfOf_6 : decode cX10_halfOf 6 = .ok (.ldc2_w 267, 3) := by decide +kernel
theorem dX10_halfOf_9 : decode cX10_halfOf 9 = .ok (.land, 1) := by decide +kernel
theorem dX10_halfOf_10 : decode cX10_halfOf 10 = .ok (.lreturn, 1) := by decide +kernel
set_option maxRecDepth 20000 in
theorem ggX10_truths_X10_isProof : GoodIn wsX10_truths wsX10_isProof := goodIn_r _ [6, 7, 39, 40, 41, 42, 43, 44, 45, 46, 47, 48, 49, 50, 51, 52, 53, 54, 55, 56, 57, 58, 59, 60, 61, 62, 63, 64, 65, 66, 67, 68, 69, 70] (by decide +kernel) (by decide +kernel)
set_option maxRecDepth 20000 in
theorem gX10_truths_X10_isProof : GoodIn wsX10_truths (wsV RX10 111 RX10 yX10_isProof wsX10_isProof) := goodIn_app (goodIn_of _ (by decide +kernel)) ggX10_truths_X10_isProof
set_option maxRecDepth 20000 in
theorem ggX10_truths_X10_within : GoodIn wsX10_truths wsX10_within := goodIn_r _ [10] (by decide +kernel) (by decide +kernel)
set_option maxRecDepth 20000 in
theorem gX10_truths_X10_within : GoodIn wsX10_truths (va_wsS RX10 92 yX10_within wsX10_within) := goodIn_app (goodIn_of _ (by decide +kernel)) ggX10_truths_X10_within
set_option maxRecDepth 20000 in
theorem ggX10_truths_X10_groundsOf : GoodIn wsX10_truths wsX10_groundsOf := goodIn_r _ [14, 15, 16, 39, 40, 41, 42, 43, 44, 45, 46, 47, 48, 49, 50, 51, 52, 53, 54, 55, 56, 57, 58, 59, 60, 61, 62, 63, 64, 65, 66, 67, 68, 69, 70] (by decide +kernel) (by decide +kernel)
set_option maxRecDepth 20000 in
theorem gX10_truths_X10_groundsOf : GoodIn wsX10_truths (wsV RX10 170 RX10 yX10_groundsOf wsX10_groundsOf) := goodIn_app (goodIn_of _ (by decide +kernel)) ggX10_truths_X10_groundsOf
set_option maxRecDepth 20000 in
theorem ggX10_truths_X10_layGrounds : GoodIn wsX10_truths wsX10_layGrounds := goodIn_r _ [20, 15, 16, 21, 22, 23, 24, 25, 5, 26, 27, 28, 29, 39, 40, 41, 42, 43, 44, 45, 46, 47, 48, 49, 50, 51, 52, 53, 54, 55, 56, 57, 58, 59, 60, 61, 62, 63, 64, 65, 66, 67, 68, 69, 70] (by decide +kernel) (by decide +kernel)
set_option maxRecDepth 20000 in
theorem gX10_truths_X10_layGrounds : GoodIn wsX10_truths (wsV RX10 258 RX10 yX10_layGrounds wsX10_layGrounds) := goodIn_app (goodIn_of _ (by decide +kernel)) ggX10_truths_X10_layGrounds
set_option maxRecDepth 20000 in
theorem ggX10_truths_X10_allTrue : GoodIn wsX10_truths wsX10_allTrue := goodIn_r _ [33, 34, 21, 39, 40, 41, 42, 43, 44, 45, 46, 47, 48, 49, 50, 51, 52, 53, 54, 55, 56, 57, 58, 59, 60, 61, 62, 63, 64, 65, 66, 67, 68, 69, 70] (by decide +kernel) (by decide +kernel)
set_option maxRecDepth 20000 in
theorem gX10_truths_X10_allTrue : GoodIn wsX10_truths (wsV RX10 251 RX10 yX10_allTrue wsX10_allTrue) := goodIn_app (goodIn_of _ (by decide +kernel)) ggX10_truths_X10_allTrue
set_option maxRecDepth 20000 in
theorem ggX10_truths_X10_halfOf : GoodIn wsX10_truths wsX10_halfOf := goodIn_r _ [37, 38] (by decide +kernel) (by decide +kernel)
set_option maxRecDepth 20000 in
theorem gX10_truths_X10_halfOf : GoodIn wsX10_truths (va_wsS RX10 269 yX10_halfOf wsX10_halfOf) := goodIn_app (goodIn_of _ (by decide +kernel)) ggX10_truths_X10_halfOf
theorem dX10_truths_0 : decode cX10_truths 0 = .ok (.aload_n 0, 1) := by decide +kernel
theorem dX10_truths_1 : decode cX10_truths 1 = .ok (.iload_n 1, 1) := by decide +kernel
theorem dX10_truths_2 : decode cX10_truths 2 = .ok (.invokevirtual 111, 3) := by decide +kernel
theorem dX10_truths_5 : decode cX10_truths 5 = .ok (.ifCond .eq 39, 3) := by decide +kernel
theorem dX10_truths_8 : decode cX10_truths 8 = .ok (.iload_n 3, 1) := by decide +kernel
theorem dX10_truths_9 : decode cX10_truths 9 = .ok (.iconst 0, 1) := by decide +kernel
theorem dX10_truths_10 : decode cX10_truths 10 = .ok (.iconst 1, 1) := by decide +kernel
theorem dX10_truths_11 : decode cX10_truths 11 = .ok (.invokestatic 92, 3) := by decide +kernel
theorem dX10_truths_14 : decode cX10_truths 14 = .ok (.ifCond .eq 30, 3) := by decide +kernel
theorem dX10_truths_17 : decode cX10_truths 17 = .ok (.aload_n 0, 1) := by decide +kernel
theorem dX10_truths_18 : decode cX10_truths 18 = .ok (.iload_n 1, 1) := by decide +kernel
theorem dX10_truths_19 : decode cX10_truths 19 = .ok (.invokevirtual 170, 3) := by decide +kernel
theorem dX10_truths_22 : decode cX10_truths 22 = .ok (.bipush 10, 2) := by decide +kernel
theorem dX10_truths_24 : decode cX10_truths 24 = .ok (.if_icmp .gt 20, 3) := by decide +kernel
theorem dX10_truths_27 : decode cX10_truths 27 = .ok (.iload_n 2, 1) := by decide +kernel
theorem dX10_truths_28 : decode cX10_truths 28 = .ok (.iconst 0, 1) := by decide +kernel
theorem dX10_truths_29 : decode cX10_truths 29 = .ok (.iconst 1, 1) := by decide +kernel
theorem dX10_truths_30 : decode cX10_truths 30 = .ok (.aload_n 0, 1) := by decide +kernel
theorem dX10_truths_31 : decode cX10_truths 31 = .ok (.iload_n 1, 1) := by decide +kernel
theorem dX10_truths_32 : decode cX10_truths 32 = .ok (.invokevirtual 170, 3) := by decide +kernel
theorem dX10_truths_35 : decode cX10_truths 35 = .ok (.ishl, 1) := by decide +kernel
theorem dX10_truths_36 : decode cX10_truths 36 = .ok (.iconst 1, 1) := by decide +kernel
theorem dX10_truths_37 : decode cX10_truths 37 = .ok (.isub, 1) := by decide +kernel
theorem dX10_truths_38 : decode cX10_truths 38 = .ok (.invokestatic 92, 3) := by decide +kernel
theorem dX10_truths_41 : decode cX10_truths 41 = .ok (.ifCond .ne 7, 3) := by decide +kernel
theorem dX10_truths_44 : decode cX10_truths 44 = .ok (.ldc2_w 90, 3) := by decide +kernel
theorem dX10_truths_47 : decode cX10_truths 47 = .ok (.lreturn, 1) := by decide +kernel
theorem dX10_truths_48 : decode cX10_truths 48 = .ok (.aload_n 0, 1) := by decide +kernel
theorem dX10_truths_49 : decode cX10_truths 49 = .ok (.iload_n 1, 1) := by decide +kernel
theorem dX10_truths_50 : decode cX10_truths 50 = .ok (.invokevirtual 258, 3) := by decide +kernel
theorem dX10_truths_53 : decode cX10_truths 53 = .ok (.aload_n 0, 1) := by decide +kernel
theorem dX10_truths_54 : decode cX10_truths 54 = .ok (.iload_n 2, 1) := by decide +kernel
theorem dX10_truths_55 : decode cX10_truths 55 = .ok (.aload_n 0, 1) := by decide +kernel
theorem dX10_truths_56 : decode cX10_truths 56 = .ok (.iload_n 1, 1) := by decide +kernel
theorem dX10_truths_57 : decode cX10_truths 57 = .ok (.invokevirtual 170, 3) := by decide +kernel
theorem dX10_truths_60 : decode cX10_truths 60 = .ok (.invokevirtual 251, 3) := by decide +kernel
theorem dX10_truths_63 : decode cX10_truths 63 = .ok (.iload_n 3, 1) := by decide +kernel
theorem dX10_truths_64 : decode cX10_truths 64 = .ok (.invokestatic 269, 3) := by decide +kernel
theorem dX10_truths_67 : decode cX10_truths 67 = .ok (.lreturn, 1) := by decide +kernel
set_option maxRecDepth 20000 in
theorem ggX10_middle_X10_isProof : GoodIn wsX10_middle wsX10_isProof := goodIn_r _ [14, 15, 38, 39, 40, 41, 42, 43, 44, 45, 46, 47, 48, 49, 50, 51, 52, 53, 54, 55, 56, 57, 58, 59, 60, 61, 62, 63, 64, 65, 66, 67, 68, 69] (by decide +kernel) (by decide +kernel)
set_option maxRecDepth 20000 in
theorem gX10_middle_X10_isProof : GoodIn wsX10_middle (wsV RX10 111 RX10 yX10_isProof wsX10_isProof) := goodIn_app (goodIn_of _ (by decide +kernel)) ggX10_middle_X10_isProof
set_option maxRecDepth 20000 in
theorem ggX10_middle_X10_within : GoodIn wsX10_middle wsX10_within := goodIn_r _ [18] (by decide +kernel) (by decide +kernel)
set_option maxRecDepth 20000 in
theorem gX10_middle_X10_within : GoodIn wsX10_middle (va_wsS RX10 92 yX10_within wsX10_within) := goodIn_app (goodIn_of _ (by decide +kernel)) ggX10_middle_X10_within
set_option maxRecDepth 20000 in
theorem ggX10_middle_X10_groundsOf : GoodIn wsX10_middle wsX10_groundsOf := goodIn_r _ [22, 2, 5, 38, 39, 40, 41, 42, 43, 44, 45, 46, 47, 48, 49, 50, 51, 52, 53, 54, 55, 56, 57, 58, 59, 60, 61, 62, 63, 64, 65, 66, 67, 68, 69] (by decide +kernel) (by decide +kernel)
set_option maxRecDepth 20000 in
theorem gX10_middle_X10_groundsOf : GoodIn wsX10_middle (wsV RX10 170 RX10 yX10_groundsOf wsX10_groundsOf) := goodIn_app (goodIn_of _ (by decide +kernel)) ggX10_middle_X10_groundsOf
set_option maxRecDepth 20000 in
theorem ggX10_middle_X10_layGrounds : GoodIn wsX10_middle wsX10_layGrounds := goodIn_r _ [26, 2, 5, 27, 1, 4, 28, 29, 13, 30, 31, 32, 33, 38, 39, 40, 41, 42, 43, 44, 45, 46, 47, 48, 49, 50, 51, 52, 53, 54, 55, 56, 57, 58, 59, 60, 61, 62, 63, 64, 65, 66, 67, 68, 69] (by decide +kernel) (by decide +kernel)
set_option maxRecDepth 20000 in
theorem gX10_middle_X10_layGrounds : GoodIn wsX10_middle (wsV RX10 258 RX10 yX10_layGrounds wsX10_layGrounds) := goodIn_app (goodIn_of _ (by decide +kernel)) ggX10_middle_X10_layGrounds
set_option maxRecDepth 20000 in
theorem ggX10_middle_X10_truthsOf : GoodIn wsX10_middle wsX10_truthsOf := goodIn_r _ [30, 31, 32, 13, 33] (by decide +kernel) (by decide +kernel)
set_option maxRecDepth 20000 in
theorem gX10_middle_X10_truthsOf : GoodIn wsX10_middle (va_wsS RX10 245 yX10_truthsOf wsX10_truthsOf) := goodIn_app (goodIn_of _ (by decide +kernel)) ggX10_middle_X10_truthsOf
set_option maxRecDepth 20000 in
theorem ggX10_middle_X10_halfOf : GoodIn wsX10_middle wsX10_halfOf := goodIn_r _ [36, 37] (by decide +kernel) (by decide +kernel)
set_option maxRecDepth 20000 in
theorem gX10_middle_X10_halfOf : GoodIn wsX10_middle (va_wsS RX10 269 yX10_halfOf wsX10_halfOf) := goodIn_app (goodIn_of _ (by decide +kernel)) ggX10_middle_X10_halfOf
theorem dX10_middle_0 : decode cX10_middle 0 = .ok (.aload_n 0, 1) := by decide +kernel
theorem dX10_middle_1 : decode cX10_middle 1 = .ok (.iload_n 1, 1) := by decide +kernel
theorem dX10_middle_2 : decode cX10_middle 2 = .ok (.invokevirtual 111, 3) := by decide +kernel
theorem dX10_middle_5 : decode cX10_middle 5 = .ok (.ifCond .eq 33, 3) := by decide +kernel
theorem dX10_middle_8 : decode cX10_middle 8 = .ok (.iload_n 3, 1) := by decide +kernel
theorem dX10_middle_9 : decode cX10_middle 9 = .ok (.iconst 0, 1) := by decide +kernel
theorem dX10_middle_10 : decode cX10_middle 10 = .ok (.iconst 1, 1) := by decide +kernel
theorem dX10_middle_11 : decode cX10_middle 11 = .ok (.invokestatic 92, 3) := by decide +kernel
theorem dX10_middle_14 : decode cX10_middle 14 = .ok (.ifCond .eq 24, 3) := by decide +kernel
theorem dX10_middle_17 : decode cX10_middle 17 = .ok (.aload_n 0, 1) := by decide +kernel
theorem dX10_middle_18 : decode cX10_middle 18 = .ok (.getfield 22, 3) := by decide +kernel
theorem dX10_middle_21 : decode cX10_middle 21 = .ok (.bipush 24, 2) := by decide +kernel
theorem dX10_middle_23 : decode cX10_middle 23 = .ok (.iload_n 1, 1) := by decide +kernel
theorem dX10_middle_24 : decode cX10_middle 24 = .ok (.imul, 1) := by decide +kernel
theorem dX10_middle_25 : decode cX10_middle 25 = .ok (.aload_n 0, 1) := by decide +kernel
theorem dX10_middle_26 : decode cX10_middle 26 = .ok (.getfield 19, 3) := by decide +kernel
theorem dX10_middle_29 : decode cX10_middle 29 = .ok (.iload_n 1, 1) := by decide +kernel
theorem dX10_middle_30 : decode cX10_middle 30 = .ok (.iaload, 1) := by decide +kernel
theorem dX10_middle_31 : decode cX10_middle 31 = .ok (.iadd, 1) := by decide +kernel
theorem dX10_middle_32 : decode cX10_middle 32 = .ok (.iconst 1, 1) := by decide +kernel
theorem dX10_middle_33 : decode cX10_middle 33 = .ok (.isub, 1) := by decide +kernel
theorem dX10_middle_34 : decode cX10_middle 34 = .ok (.iaload, 1) := by decide +kernel
theorem dX10_middle_35 : decode cX10_middle 35 = .ok (.ifCond .eq 7, 3) := by decide +kernel
theorem dX10_middle_38 : decode cX10_middle 38 = .ok (.ldc2_w 90, 3) := by decide +kernel
theorem dX10_middle_41 : decode cX10_middle 41 = .ok (.lreturn, 1) := by decide +kernel
theorem dX10_middle_42 : decode cX10_middle 42 = .ok (.aload_n 0, 1) := by decide +kernel
theorem dX10_middle_43 : decode cX10_middle 43 = .ok (.iload_n 1, 1) := by decide +kernel
theorem dX10_middle_44 : decode cX10_middle 44 = .ok (.invokevirtual 170, 3) := by decide +kernel
theorem dX10_middle_47 : decode cX10_middle 47 = .ok (.istore 4, 2) := by decide +kernel
theorem dX10_middle_49 : decode cX10_middle 49 = .ok (.iload 4, 2) := by decide +kernel
theorem dX10_middle_51 : decode cX10_middle 51 = .ok (.bipush 10, 2) := by decide +kernel
theorem dX10_middle_53 : decode cX10_middle 53 = .ok (.if_icmp .gt 17, 3) := by decide +kernel
theorem dX10_middle_56 : decode cX10_middle 56 = .ok (.iload_n 2, 1) := by decide +kernel
theorem dX10_middle_57 : decode cX10_middle 57 = .ok (.iconst 0, 1) := by decide +kernel
theorem dX10_middle_58 : decode cX10_middle 58 = .ok (.iconst 1, 1) := by decide +kernel
theorem dX10_middle_59 : decode cX10_middle 59 = .ok (.iload 4, 2) := by decide +kernel
theorem dX10_middle_61 : decode cX10_middle 61 = .ok (.ishl, 1) := by decide +kernel
theorem dX10_middle_62 : decode cX10_middle 62 = .ok (.iconst 1, 1) := by decide +kernel
theorem dX10_middle_63 : decode cX10_middle 63 = .ok (.isub, 1) := by decide +kernel
theorem dX10_middle_64 : decode cX10_middle 64 = .ok (.invokestatic 92, 3) := by decide +kernel
theorem dX10_middle_67 : decode cX10_middle 67 = .ok (.ifCond .ne 7, 3) := by decide +kernel
theorem dX10_middle_70 : decode cX10_middle 70 = .ok (.ldc2_w 90, 3) := by decide +kernel
theorem dX10_middle_73 : decode cX10_middle 73 = .ok (.lreturn, 1) := by decide +kernel
theorem dX10_middle_74 : decode cX10_middle 74 = .ok (.aload_n 0, 1) := by decide +kernel
theorem dX10_middle_75 : decode cX10_middle 75 = .ok (.iload_n 1, 1) := by decide +kernel
theorem dX10_middle_76 : decode cX10_middle 76 = .ok (.invokevirtual 258, 3) := by decide +kernel
theorem dX10_middle_79 : decode cX10_middle 79 = .ok (.iconst 0, 1) := by decide +kernel
theorem dX10_middle_80 : decode cX10_middle 80 = .ok (.istore 5, 2) := by decide +kernel
theorem dX10_middle_82 : decode cX10_middle 82 = .ok (.iconst 0, 1) := by decide +kernel
theorem dX10_middle_83 : decode cX10_middle 83 = .ok (.istore 6, 2) := by decide +kernel
theorem dX10_middle_85 : decode cX10_middle 85 = .ok (.iconst 0, 1) := by decide +kernel
theorem dX10_middle_86 : decode cX10_middle 86 = .ok (.istore 7, 2) := by decide +kernel
theorem dX10_middle_88 : decode cX10_middle 88 = .ok (.iload 7, 2) := by decide +kernel
theorem dX10_middle_90 : decode cX10_middle 90 = .ok (.iload 4, 2) := by decide +kernel
theorem dX10_middle_92 : decode cX10_middle 92 = .ok (.if_icmp .ge 60, 3) := by decide +kernel
theorem dX10_middle_95 : decode cX10_middle 95 = .ok (.iload 5, 2) := by decide +kernel
theorem dX10_middle_97 : decode cX10_middle 97 = .ok (.iload_n 2, 1) := by decide +kernel
theorem dX10_middle_98 : decode cX10_middle 98 = .ok (.iload 7, 2) := by decide +kernel
theorem dX10_middle_100 : decode cX10_middle 100 = .ok (.ishr, 1) := by decide +kernel
theorem dX10_middle_101 : decode cX10_middle 101 = .ok (.iconst 1, 1) := by decide +kernel
theorem dX10_middle_102 : decode cX10_middle 102 = .ok (.iand, 1) := by decide +kernel
theorem dX10_middle_103 : decode cX10_middle 103 = .ok (.iconst 1, 1) := by decide +kernel
theorem dX10_middle_104 : decode cX10_middle 104 = .ok (.if_icmp .ne 13, 3) := by decide +kernel
theorem dX10_middle_107 : decode cX10_middle 107 = .ok (.aload_n 0, 1) := by decide +kernel
theorem dX10_middle_108 : decode cX10_middle 108 = .ok (.getfield 74, 3) := by decide +kernel
theorem dX10_middle_111 : decode cX10_middle 111 = .ok (.iload 7, 2) := by decide +kernel
theorem dX10_middle_113 : decode cX10_middle 113 = .ok (.iaload, 1) := by decide +kernel
theorem dX10_middle_114 : decode cX10_middle 114 = .ok (.goto 4, 3) := by decide +kernel
theorem dX10_middle_117 : decode cX10_middle 117 = .ok (.iconst 0, 1) := by decide +kernel
theorem dX10_middle_118 : decode cX10_middle 118 = .ok (.ior, 1) := by decide +kernel
theorem dX10_middle_119 : decode cX10_middle 119 = .ok (.istore 5, 2) := by decide +kernel
theorem dX10_middle_121 : decode cX10_middle 121 = .ok (.iload 6, 2) := by decide +kernel
theorem dX10_middle_123 : decode cX10_middle 123 = .ok (.iload_n 2, 1) := by decide +kernel
theorem dX10_middle_124 : decode cX10_middle 124 = .ok (.iload 7, 2) := by decide +kernel
theorem dX10_middle_126 : decode cX10_middle 126 = .ok (.ishr, 1) := by decide +kernel
theorem dX10_middle_127 : decode cX10_middle 127 = .ok (.iconst 1, 1) := by decide +kernel
theorem dX10_middle_128 : decode cX10_middle 128 = .ok (.iand, 1) := by decide +kernel
theorem dX10_middle_129 : decode cX10_middle 129 = .ok (.ifCond .ne 13, 3) := by decide +kernel
theorem dX10_middle_132 : decode cX10_middle 132 = .ok (.aload_n 0, 1) := by decide +kernel
theorem dX10_middle_133 : decode cX10_middle 133 = .ok (.getfield 74, 3) := by decide +kernel
theorem dX10_middle_136 : decode cX10_middle 136 = .ok (.iload 7, 2) := by decide +kernel
theorem dX10_middle_138 : decode cX10_middle 138 = .ok (.iaload, 1) := by decide +kernel
theorem dX10_middle_139 : decode cX10_middle 139 = .ok (.goto 4, 3) := by decide +kernel
theorem dX10_middle_142 : decode cX10_middle 142 = .ok (.iconst 0, 1) := by decide +kernel
theorem dX10_middle_143 : decode cX10_middle 143 = .ok (.ior, 1) := by decide +kernel
theorem dX10_middle_144 : decode cX10_middle 144 = .ok (.istore 6, 2) := by decide +kernel
theorem dX10_middle_146 : decode cX10_middle 146 = .ok (.iinc 7 1, 3) := by decide +kernel
theorem dX10_middle_149 : decode cX10_middle 149 = .ok (.goto (-61), 3) := by decide +kernel
theorem dX10_middle_152 : decode cX10_middle 152 = .ok (.iconst 0, 1) := by decide +kernel
theorem dX10_middle_153 : decode cX10_middle 153 = .ok (.istore 7, 2) := by decide +kernel
theorem dX10_middle_155 : decode cX10_middle 155 = .ok (.iconst 0, 1) := by decide +kernel
theorem dX10_middle_156 : decode cX10_middle 156 = .ok (.istore 8, 2) := by decide +kernel
theorem dX10_middle_158 : decode cX10_middle 158 = .ok (.iload 8, 2) := by decide +kernel
theorem dX10_middle_160 : decode cX10_middle 160 = .ok (.aload_n 0, 1) := by decide +kernel
theorem dX10_middle_161 : decode cX10_middle 161 = .ok (.getfield 19, 3) := by decide +kernel
theorem dX10_middle_164 : decode cX10_middle 164 = .ok (.iload_n 1, 1) := by decide +kernel
theorem dX10_middle_165 : decode cX10_middle 165 = .ok (.iaload, 1) := by decide +kernel
theorem dX10_middle_166 : decode cX10_middle 166 = .ok (.if_icmp .ge 201, 3) := by decide +kernel
theorem dX10_middle_169 : decode cX10_middle 169 = .ok (.bipush 24, 2) := by decide +kernel
theorem dX10_middle_171 : decode cX10_middle 171 = .ok (.iload_n 1, 1) := by decide +kernel
theorem dX10_middle_172 : decode cX10_middle 172 = .ok (.imul, 1) := by decide +kernel
theorem dX10_middle_173 : decode cX10_middle 173 = .ok (.iload 8, 2) := by decide +kernel
theorem dX10_middle_175 : decode cX10_middle 175 = .ok (.iadd, 1) := by decide +kernel
theorem dX10_middle_176 : decode cX10_middle 176 = .ok (.istore 9, 2) := by decide +kernel
theorem dX10_middle_178 : decode cX10_middle 178 = .ok (.aload_n 0, 1) := by decide +kernel
theorem dX10_middle_179 : decode cX10_middle 179 = .ok (.getfield 31, 3) := by decide +kernel
theorem dX10_middle_182 : decode cX10_middle 182 = .ok (.iload 9, 2) := by decide +kernel
theorem dX10_middle_184 : decode cX10_middle 184 = .ok (.iaload, 1) := by decide +kernel
theorem dX10_middle_185 : decode cX10_middle 185 = .ok (.bipush (-9), 2) := by decide +kernel
theorem dX10_middle_187 : decode cX10_middle 187 = .ok (.if_icmp .ne 33, 3) := by decide +kernel
theorem dX10_middle_190 : decode cX10_middle 190 = .ok (.aload_n 0, 1) := by decide +kernel
theorem dX10_middle_191 : decode cX10_middle 191 = .ok (.getfield 77, 3) := by decide +kernel
theorem dX10_middle_194 : decode cX10_middle 194 = .ok (.iload 8, 2) := by decide +kernel
theorem dX10_middle_196 : decode cX10_middle 196 = .ok (.iload_n 2, 1) := by decide +kernel
theorem dX10_middle_197 : decode cX10_middle 197 = .ok (.iload 7, 2) := by decide +kernel
theorem dX10_middle_199 : decode cX10_middle 199 = .ok (.ishr, 1) := by decide +kernel
theorem dX10_middle_200 : decode cX10_middle 200 = .ok (.iconst 1, 1) := by decide +kernel
theorem dX10_middle_201 : decode cX10_middle 201 = .ok (.iand, 1) := by decide +kernel
theorem dX10_middle_202 : decode cX10_middle 202 = .ok (.iconst 1, 1) := by decide +kernel
theorem dX10_middle_203 : decode cX10_middle 203 = .ok (.if_icmp .ne 7, 3) := by decide +kernel
theorem dX10_middle_206 : decode cX10_middle 206 = .ok (.lconst 0, 1) := by decide +kernel
theorem dX10_middle_207 : decode cX10_middle 207 = .ok (.goto 6, 3) := by decide +kernel
theorem dX10_middle_210 : decode cX10_middle 210 = .ok (.ldc2_w 249, 3) := by decide +kernel
theorem dX10_middle_213 : decode cX10_middle 213 = .ok (.lastore, 1) := by decide +kernel
theorem dX10_middle_214 : decode cX10_middle 214 = .ok (.iinc 7 1, 3) := by decide +kernel
theorem dX10_middle_217 : decode cX10_middle 217 = .ok (.goto 144, 3) := by decide +kernel
theorem dX10_middle_220 : decode cX10_middle 220 = .ok (.aload_n 0, 1) := by decide +kernel
theorem dX10_middle_221 : decode cX10_middle 221 = .ok (.getfield 77, 3) := by decide +kernel
theorem dX10_middle_224 : decode cX10_middle 224 = .ok (.aload_n 0, 1) := by decide +kernel
theorem dX10_middle_225 : decode cX10_middle 225 = .ok (.getfield 25, 3) := by decide +kernel
theorem dX10_middle_228 : decode cX10_middle 228 = .ok (.iload 9, 2) := by decide +kernel
theorem dX10_middle_230 : decode cX10_middle 230 = .ok (.iaload, 1) := by decide +kernel
theorem dX10_middle_231 : decode cX10_middle 231 = .ok (.laload, 1) := by decide +kernel
theorem dX10_middle_232 : decode cX10_middle 232 = .ok (.lstore 10, 2) := by decide +kernel
theorem dX10_middle_234 : decode cX10_middle 234 = .ok (.aload_n 0, 1) := by decide +kernel
theorem dX10_middle_235 : decode cX10_middle 235 = .ok (.getfield 77, 3) := by decide +kernel
theorem dX10_middle_238 : decode cX10_middle 238 = .ok (.aload_n 0, 1) := by decide +kernel
theorem dX10_middle_239 : decode cX10_middle 239 = .ok (.getfield 28, 3) := by decide +kernel
theorem dX10_middle_242 : decode cX10_middle 242 = .ok (.iload 9, 2) := by decide +kernel
theorem dX10_middle_244 : decode cX10_middle 244 = .ok (.iaload, 1) := by decide +kernel
theorem dX10_middle_245 : decode cX10_middle 245 = .ok (.laload, 1) := by decide +kernel
theorem dX10_middle_246 : decode cX10_middle 246 = .ok (.lstore 12, 2) := by decide +kernel
theorem dX10_middle_248 : decode cX10_middle 248 = .ok (.iload 5, 2) := by decide +kernel
theorem dX10_middle_250 : decode cX10_middle 250 = .ok (.aload_n 0, 1) := by decide +kernel
theorem dX10_middle_251 : decode cX10_middle 251 = .ok (.getfield 31, 3) := by decide +kernel
theorem dX10_middle_254 : decode cX10_middle 254 = .ok (.iload 9, 2) := by decide +kernel
theorem dX10_middle_256 : decode cX10_middle 256 = .ok (.iaload, 1) := by decide +kernel
theorem dX10_middle_257 : decode cX10_middle 257 = .ok (.ishr, 1) := by decide +kernel
theorem dX10_middle_258 : decode cX10_middle 258 = .ok (.iconst 1, 1) := by decide +kernel
theorem dX10_middle_259 : decode cX10_middle 259 = .ok (.iand, 1) := by decide +kernel
theorem dX10_middle_260 : decode cX10_middle 260 = .ok (.iconst 1, 1) := by decide +kernel
theorem dX10_middle_261 : decode cX10_middle 261 = .ok (.if_icmp .ne 7, 3) := by decide +kernel
theorem dX10_middle_264 : decode cX10_middle 264 = .ok (.iconst 1, 1) := by decide +kernel
theorem dX10_middle_265 : decode cX10_middle 265 = .ok (.goto 4, 3) := by decide +kernel
theorem dX10_middle_268 : decode cX10_middle 268 = .ok (.iconst 0, 1) := by decide +kernel
theorem dX10_middle_269 : decode cX10_middle 269 = .ok (.istore 14, 2) := by decide +kernel
theorem dX10_middle_271 : decode cX10_middle 271 = .ok (.iload 6, 2) := by decide +kernel
theorem dX10_middle_273 : decode cX10_middle 273 = .ok (.aload_n 0, 1) := by decide +kernel
theorem dX10_middle_274 : decode cX10_middle 274 = .ok (.getfield 31, 3) := by decide +kernel
theorem dX10_middle_277 : decode cX10_middle 277 = .ok (.iload 9, 2) := by decide +kernel
theorem dX10_middle_279 : decode cX10_middle 279 = .ok (.iaload, 1) := by decide +kernel
theorem dX10_middle_280 : decode cX10_middle 280 = .ok (.ishr, 1) := by decide +kernel
theorem dX10_middle_281 : decode cX10_middle 281 = .ok (.iconst 1, 1) := by decide +kernel
theorem dX10_middle_282 : decode cX10_middle 282 = .ok (.iand, 1) := by decide +kernel
theorem dX10_middle_283 : decode cX10_middle 283 = .ok (.iconst 1, 1) := by decide +kernel
theorem dX10_middle_284 : decode cX10_middle 284 = .ok (.if_icmp .ne 7, 3) := by decide +kernel
theorem dX10_middle_287 : decode cX10_middle 287 = .ok (.iconst 1, 1) := by decide +kernel
theorem dX10_middle_288 : decode cX10_middle 288 = .ok (.goto 4, 3) := by decide +kernel
theorem dX10_middle_291 : decode cX10_middle 291 = .ok (.iconst 0, 1) := by decide +kernel
theorem dX10_middle_292 : decode cX10_middle 292 = .ok (.istore 15, 2) := by decide +kernel
theorem dX10_middle_294 : decode cX10_middle 294 = .ok (.iconst 1, 1) := by decide +kernel
theorem dX10_middle_295 : decode cX10_middle 295 = .ok (.aload_n 0, 1) := by decide +kernel
theorem dX10_middle_296 : decode cX10_middle 296 = .ok (.getfield 31, 3) := by decide +kernel
theorem dX10_middle_299 : decode cX10_middle 299 = .ok (.iload 9, 2) := by decide +kernel
theorem dX10_middle_301 : decode cX10_middle 301 = .ok (.iaload, 1) := by decide +kernel
theorem dX10_middle_302 : decode cX10_middle 302 = .ok (.ishl, 1) := by decide +kernel
theorem dX10_middle_303 : decode cX10_middle 303 = .ok (.invokestatic 245, 3) := by decide +kernel
theorem dX10_middle_306 : decode cX10_middle 306 = .ok (.lstore 16, 2) := by decide +kernel
theorem dX10_middle_308 : decode cX10_middle 308 = .ok (.aload_n 0, 1) := by decide +kernel
theorem dX10_middle_309 : decode cX10_middle 309 = .ok (.getfield 77, 3) := by decide +kernel
theorem dX10_middle_312 : decode cX10_middle 312 = .ok (.iload 8, 2) := by decide +kernel
theorem dX10_middle_314 : decode cX10_middle 314 = .ok (.iload 14, 2) := by decide +kernel
theorem dX10_middle_316 : decode cX10_middle 316 = .ok (.ifCond .eq 26, 3) := by decide +kernel
theorem dX10_middle_319 : decode cX10_middle 319 = .ok (.iload 15, 2) := by decide +kernel
theorem dX10_middle_321 : decode cX10_middle 321 = .ok (.ifCond .eq 21, 3) := by decide +kernel
theorem dX10_middle_324 : decode cX10_middle 324 = .ok (.lload 10, 2) := by decide +kernel
theorem dX10_middle_326 : decode cX10_middle 326 = .ok (.lload 16, 2) := by decide +kernel
theorem dX10_middle_328 : decode cX10_middle 328 = .ok (.ldc2_w 249, 3) := by decide +kernel
theorem dX10_middle_331 : decode cX10_middle 331 = .ok (.lxor, 1) := by decide +kernel
theorem dX10_middle_332 : decode cX10_middle 332 = .ok (.land, 1) := by decide +kernel
theorem dX10_middle_333 : decode cX10_middle 333 = .ok (.lload 12, 2) := by decide +kernel
theorem dX10_middle_335 : decode cX10_middle 335 = .ok (.lload 16, 2) := by decide +kernel
theorem dX10_middle_337 : decode cX10_middle 337 = .ok (.land, 1) := by decide +kernel
theorem dX10_middle_338 : decode cX10_middle 338 = .ok (.lor, 1) := by decide +kernel
theorem dX10_middle_339 : decode cX10_middle 339 = .ok (.goto 21, 3) := by decide +kernel
theorem dX10_middle_342 : decode cX10_middle 342 = .ok (.iload 14, 2) := by decide +kernel
theorem dX10_middle_344 : decode cX10_middle 344 = .ok (.ifCond .eq 11, 3) := by decide +kernel
theorem dX10_middle_347 : decode cX10_middle 347 = .ok (.lload 10, 2) := by decide +kernel
theorem dX10_middle_349 : decode cX10_middle 349 = .ok (.lload 12, 2) := by decide +kernel
theorem dX10_middle_351 : decode cX10_middle 351 = .ok (.lor, 1) := by decide +kernel
theorem dX10_middle_352 : decode cX10_middle 352 = .ok (.goto 8, 3) := by decide +kernel
theorem dX10_middle_355 : decode cX10_middle 355 = .ok (.lload 10, 2) := by decide +kernel
theorem dX10_middle_357 : decode cX10_middle 357 = .ok (.lload 12, 2) := by decide +kernel
theorem dX10_middle_359 : decode cX10_middle 359 = .ok (.land, 1) := by decide +kernel
theorem dX10_middle_360 : decode cX10_middle 360 = .ok (.lastore, 1) := by decide +kernel
theorem dX10_middle_361 : decode cX10_middle 361 = .ok (.iinc 8 1, 3) := by decide +kernel
theorem dX10_middle_364 : decode cX10_middle 364 = .ok (.goto (-206), 3) := by decide +kernel
theorem dX10_middle_367 : decode cX10_middle 367 = .ok (.aload_n 0, 1) := by decide +kernel
theorem dX10_middle_368 : decode cX10_middle 368 = .ok (.getfield 77, 3) := by decide +kernel
theorem dX10_middle_371 : decode cX10_middle 371 = .ok (.aload_n 0, 1) := by decide +kernel
theorem dX10_middle_372 : decode cX10_middle 372 = .ok (.getfield 19, 3) := by decide +kernel
theorem dX10_middle_375 : decode cX10_middle 375 = .ok (.iload_n 1, 1) := by decide +kernel
theorem dX10_middle_376 : decode cX10_middle 376 = .ok (.iaload, 1) := by decide +kernel
theorem dX10_middle_377 : decode cX10_middle 377 = .ok (.iconst 1, 1) := by decide +kernel
theorem dX10_middle_378 : decode cX10_middle 378 = .ok (.isub, 1) := by decide +kernel
theorem dX10_middle_379 : decode cX10_middle 379 = .ok (.laload, 1) := by decide +kernel
theorem dX10_middle_380 : decode cX10_middle 380 = .ok (.iload_n 3, 1) := by decide +kernel
theorem dX10_middle_381 : decode cX10_middle 381 = .ok (.invokestatic 269, 3) := by decide +kernel
theorem dX10_middle_384 : decode cX10_middle 384 = .ok (.lreturn, 1) := by decide +kernel
theorem dX10_smallOf_0 : decode cX10_smallOf 0 = .ok (.iconst 0, 1) := by decide +kernel
theorem dX10_smallOf_1 : decode cX10_smallOf 1 = .ok (.istore_n 1, 1) := by decide +kernel
theorem dX10_smallOf_2 : decode cX10_smallOf 2 = .ok (.iconst 2, 1) := by decide +kernel
theorem dX10_smallOf_3 : decode cX10_smallOf 3 = .ok (.istore_n 2, 1) := by decide +kernel
theorem dX10_smallOf_4 : decode cX10_smallOf 4 = .ok (.iload_n 2, 1) := by decide +kernel
theorem dX10_smallOf_5 : decode cX10_smallOf 5 = .ok (.ifCond .lt 44, 3) := by decide +kernel
theorem dX10_smallOf_8 : decode cX10_smallOf 8 = .ok (.iconst 3, 1) := by decide +kernel
theorem dX10_smallOf_9 : decode cX10_smallOf 9 = .ok (.iload_n 1, 1) := by decide +kernel
theorem dX10_smallOf_10 : decode cX10_smallOf 10 = .ok (.imul, 1) := by decide +kernel
theorem dX10_smallOf_11 : decode cX10_smallOf 11 = .ok (.iload_n 0, 1) := by decide +kernel
theorem dX10_smallOf_12 : decode cX10_smallOf 12 = .ok (.iload_n 2, 1) := by decide +kernel
theorem dX10_smallOf_13 : decode cX10_smallOf 13 = .ok (.ishr, 1) := by decide +kernel
theorem dX10_smallOf_14 : decode cX10_smallOf 14 = .ok (.iconst 1, 1) := by decide +kernel
theorem dX10_smallOf_15 : decode cX10_smallOf 15 = .ok (.iand, 1) := by decide +kernel
theorem dX10_smallOf_16 : decode cX10_smallOf 16 = .ok (.iconst 1, 1) := by decide +kernel
theorem dX10_smallOf_17 : decode cX10_smallOf 17 = .ok (.if_icmp .ne 7, 3) := by decide +kernel
theorem dX10_smallOf_20 : decode cX10_smallOf 20 = .ok (.iconst 1, 1) := by decide +kernel
theorem dX10_smallOf_21 : decode cX10_smallOf 21 = .ok (.goto 20, 3) := by decide +kernel
theorem dX10_smallOf_24 : decode cX10_smallOf 24 = .ok (.iload_n 0, 1) := by decide +kernel
theorem dX10_smallOf_25 : decode cX10_smallOf 25 = .ok (.bipush 6, 2) := by decide +kernel
theorem dX10_smallOf_27 : decode cX10_smallOf 27 = .ok (.iload_n 2, 1) := by decide +kernel
theorem dX10_smallOf_28 : decode cX10_smallOf 28 = .ok (.iadd, 1) := by decide +kernel
theorem dX10_smallOf_29 : decode cX10_smallOf 29 = .ok (.ishr, 1) := by decide +kernel
theorem dX10_smallOf_30 : decode cX10_smallOf 30 = .ok (.iconst 1, 1) := by decide +kernel
theorem dX10_smallOf_31 : decode cX10_smallOf 31 = .ok (.iand, 1) := by decide +kernel
theorem dX10_smallOf_32 : decode cX10_smallOf 32 = .ok (.iconst 1, 1) := by decide +kernel
theorem dX10_smallOf_33 : decode cX10_smallOf 33 = .ok (.if_icmp .ne 7, 3) := by decide +kernel
theorem dX10_smallOf_36 : decode cX10_smallOf 36 = .ok (.iconst 2, 1) := by decide +kernel
theorem dX10_smallOf_37 : decode cX10_smallOf 37 = .ok (.goto 4, 3) := by decide +kernel
theorem dX10_smallOf_40 : decode cX10_smallOf 40 = .ok (.iconst 0, 1) := by decide +kernel
theorem dX10_smallOf_41 : decode cX10_smallOf 41 = .ok (.iadd, 1) := by decide +kernel
theorem dX10_smallOf_42 : decode cX10_smallOf 42 = .ok (.istore_n 1, 1) := by decide +kernel
theorem dX10_smallOf_43 : decode cX10_smallOf 43 = .ok (.iinc 2 (-1), 3) := by decide +kernel
theorem dX10_smallOf_46 : decode cX10_smallOf 46 = .ok (.goto (-42), 3) := by decide +kernel
theorem dX10_smallOf_49 : decode cX10_smallOf 49 = .ok (.iload_n 1, 1) := by decide +kernel
theorem dX10_smallOf_50 : decode cX10_smallOf 50 = .ok (.ireturn, 1) := by decide +kernel
set_option maxRecDepth 20000 in
theorem ggX10_laySmall_X10_cutOf : GoodIn wsX10_laySmall wsX10_cutOf := goodIn_r _ [6, 7, 8, 5, 9, 10, 11, 12] (by decide +kernel) (by decide +kernel)
set_option maxRecDepth 20000 in
theorem gX10_laySmall_X10_cutOf : GoodIn wsX10_laySmall (va_wsS RX10 100 yX10_cutOf wsX10_cutOf) := goodIn_app (goodIn_of _ (by decide +kernel)) ggX10_laySmall_X10_cutOf
set_option maxRecDepth 20000 in
theorem ggX10_laySmall_X10_smallOf : GoodIn wsX10_laySmall wsX10_smallOf := goodIn_r _ [15] (by decide +kernel) (by decide +kernel)
set_option maxRecDepth 20000 in
theorem gX10_laySmall_X10_smallOf : GoodIn wsX10_laySmall (va_wsS RX10 273 yX10_smallOf wsX10_smallOf) := goodIn_app (goodIn_of _ (by decide +kernel)) ggX10_laySmall_X10_smallOf
theorem dX10_laySmall_0 : decode cX10_laySmall 0 = .ok (.iconst 0, 1) := by decide +kernel
theorem dX10_laySmall_1 : decode cX10_laySmall 1 = .ok (.istore_n 1, 1) := by decide +kernel
theorem dX10_laySmall_2 : decode cX10_laySmall 2 = .ok (.iload_n 1, 1) := by decide +kernel
theorem dX10_laySmall_3 : decode cX10_laySmall 3 = .ok (.bipush 27, 2) := by decide +kernel
theorem dX10_laySmall_5 : decode cX10_laySmall 5 = .ok (.if_icmp .ge 72, 3) := by decide +kernel
theorem dX10_laySmall_8 : decode cX10_laySmall 8 = .ok (.iload_n 1, 1) := by decide +kernel
theorem dX10_laySmall_9 : decode cX10_laySmall 9 = .ok (.istore_n 2, 1) := by decide +kernel
theorem dX10_laySmall_10 : decode cX10_laySmall 10 = .ok (.aload_n 0, 1) := by decide +kernel
theorem dX10_laySmall_11 : decode cX10_laySmall 11 = .ok (.getfield 80, 3) := by decide +kernel
theorem dX10_laySmall_14 : decode cX10_laySmall 14 = .ok (.iload_n 1, 1) := by decide +kernel
theorem dX10_laySmall_15 : decode cX10_laySmall 15 = .ok (.iconst 0, 1) := by decide +kernel
theorem dX10_laySmall_16 : decode cX10_laySmall 16 = .ok (.iastore, 1) := by decide +kernel
theorem dX10_laySmall_17 : decode cX10_laySmall 17 = .ok (.iconst 0, 1) := by decide +kernel
theorem dX10_laySmall_18 : decode cX10_laySmall 18 = .ok (.istore_n 3, 1) := by decide +kernel
theorem dX10_laySmall_19 : decode cX10_laySmall 19 = .ok (.iload_n 3, 1) := by decide +kernel
theorem dX10_laySmall_20 : decode cX10_laySmall 20 = .ok (.iconst 3, 1) := by decide +kernel
theorem dX10_laySmall_21 : decode cX10_laySmall 21 = .ok (.if_icmp .ge 50, 3) := by decide +kernel
theorem dX10_laySmall_24 : decode cX10_laySmall 24 = .ok (.aload_n 0, 1) := by decide +kernel
theorem dX10_laySmall_25 : decode cX10_laySmall 25 = .ok (.getfield 80, 3) := by decide +kernel
theorem dX10_laySmall_28 : decode cX10_laySmall 28 = .ok (.iload_n 1, 1) := by decide +kernel
theorem dX10_laySmall_29 : decode cX10_laySmall 29 = .ok (.dup2, 1) := by decide +kernel
theorem dX10_laySmall_30 : decode cX10_laySmall 30 = .ok (.iaload, 1) := by decide +kernel
theorem dX10_laySmall_31 : decode cX10_laySmall 31 = .ok (.iload_n 2, 1) := by decide +kernel
theorem dX10_laySmall_32 : decode cX10_laySmall 32 = .ok (.iconst 3, 1) := by decide +kernel
theorem dX10_laySmall_33 : decode cX10_laySmall 33 = .ok (.irem, 1) := by decide +kernel
theorem dX10_laySmall_34 : decode cX10_laySmall 34 = .ok (.iconst 1, 1) := by decide +kernel
theorem dX10_laySmall_35 : decode cX10_laySmall 35 = .ok (.if_icmp .ne 9, 3) := by decide +kernel
theorem dX10_laySmall_38 : decode cX10_laySmall 38 = .ok (.iconst 1, 1) := by decide +kernel
theorem dX10_laySmall_39 : decode cX10_laySmall 39 = .ok (.iload_n 3, 1) := by decide +kernel
theorem dX10_laySmall_40 : decode cX10_laySmall 40 = .ok (.ishl, 1) := by decide +kernel
theorem dX10_laySmall_41 : decode cX10_laySmall 41 = .ok (.goto 18, 3) := by decide +kernel
theorem dX10_laySmall_44 : decode cX10_laySmall 44 = .ok (.iload_n 2, 1) := by decide +kernel
theorem dX10_laySmall_45 : decode cX10_laySmall 45 = .ok (.iconst 3, 1) := by decide +kernel
theorem dX10_laySmall_46 : decode cX10_laySmall 46 = .ok (.irem, 1) := by decide +kernel
theorem dX10_laySmall_47 : decode cX10_laySmall 47 = .ok (.iconst 2, 1) := by decide +kernel
theorem dX10_laySmall_48 : decode cX10_laySmall 48 = .ok (.if_icmp .ne 10, 3) := by decide +kernel
theorem dX10_laySmall_51 : decode cX10_laySmall 51 = .ok (.bipush 64, 2) := by decide +kernel
theorem dX10_laySmall_53 : decode cX10_laySmall 53 = .ok (.iload_n 3, 1) := by decide +kernel
theorem dX10_laySmall_54 : decode cX10_laySmall 54 = .ok (.ishl, 1) := by decide +kernel
theorem dX10_laySmall_55 : decode cX10_laySmall 55 = .ok (.goto 4, 3) := by decide +kernel
theorem dX10_laySmall_58 : decode cX10_laySmall 58 = .ok (.iconst 0, 1) := by decide +kernel
theorem dX10_laySmall_59 : decode cX10_laySmall 59 = .ok (.ior, 1) := by decide +kernel
theorem dX10_laySmall_60 : decode cX10_laySmall 60 = .ok (.iastore, 1) := by decide +kernel
theorem dX10_laySmall_61 : decode cX10_laySmall 61 = .ok (.iload_n 2, 1) := by decide +kernel
theorem dX10_laySmall_62 : decode cX10_laySmall 62 = .ok (.iconst 3, 1) := by decide +kernel
theorem dX10_laySmall_63 : decode cX10_laySmall 63 = .ok (.idiv, 1) := by decide +kernel
theorem dX10_laySmall_64 : decode cX10_laySmall 64 = .ok (.istore_n 2, 1) := by decide +kernel
theorem dX10_laySmall_65 : decode cX10_laySmall 65 = .ok (.iinc 3 1, 3) := by decide +kernel
theorem dX10_laySmall_68 : decode cX10_laySmall 68 = .ok (.goto (-49), 3) := by decide +kernel
theorem dX10_laySmall_71 : decode cX10_laySmall 71 = .ok (.iinc 1 1, 3) := by decide +kernel
theorem dX10_laySmall_74 : decode cX10_laySmall 74 = .ok (.goto (-72), 3) := by decide +kernel
theorem dX10_laySmall_77 : decode cX10_laySmall 77 = .ok (.iconst 0, 1) := by decide +kernel
theorem dX10_laySmall_78 : decode cX10_laySmall 78 = .ok (.istore_n 1, 1) := by decide +kernel
theorem dX10_laySmall_79 : decode cX10_laySmall 79 = .ok (.iload_n 1, 1) := by decide +kernel
theorem dX10_laySmall_80 : decode cX10_laySmall 80 = .ok (.bipush 27, 2) := by decide +kernel
theorem dX10_laySmall_82 : decode cX10_laySmall 82 = .ok (.if_icmp .ge 92, 3) := by decide +kernel
theorem dX10_laySmall_85 : decode cX10_laySmall 85 = .ok (.iconst 0, 1) := by decide +kernel
theorem dX10_laySmall_86 : decode cX10_laySmall 86 = .ok (.istore_n 2, 1) := by decide +kernel
theorem dX10_laySmall_87 : decode cX10_laySmall 87 = .ok (.iload_n 2, 1) := by decide +kernel
theorem dX10_laySmall_88 : decode cX10_laySmall 88 = .ok (.bipush 27, 2) := by decide +kernel
theorem dX10_laySmall_90 : decode cX10_laySmall 90 = .ok (.if_icmp .ge 78, 3) := by decide +kernel
theorem dX10_laySmall_93 : decode cX10_laySmall 93 = .ok (.iconst 0, 1) := by decide +kernel
theorem dX10_laySmall_94 : decode cX10_laySmall 94 = .ok (.istore_n 3, 1) := by decide +kernel
theorem dX10_laySmall_95 : decode cX10_laySmall 95 = .ok (.iconst 0, 1) := by decide +kernel
theorem dX10_laySmall_96 : decode cX10_laySmall 96 = .ok (.istore 4, 2) := by decide +kernel
theorem dX10_laySmall_98 : decode cX10_laySmall 98 = .ok (.iload 4, 2) := by decide +kernel
theorem dX10_laySmall_100 : decode cX10_laySmall 100 = .ok (.iconst 3, 1) := by decide +kernel
theorem dX10_laySmall_101 : decode cX10_laySmall 101 = .ok (.if_icmp .ge 49, 3) := by decide +kernel
theorem dX10_laySmall_104 : decode cX10_laySmall 104 = .ok (.aload_n 0, 1) := by decide +kernel
theorem dX10_laySmall_105 : decode cX10_laySmall 105 = .ok (.getfield 80, 3) := by decide +kernel
theorem dX10_laySmall_108 : decode cX10_laySmall 108 = .ok (.iload_n 1, 1) := by decide +kernel
theorem dX10_laySmall_109 : decode cX10_laySmall 109 = .ok (.iaload, 1) := by decide +kernel
theorem dX10_laySmall_110 : decode cX10_laySmall 110 = .ok (.aload_n 0, 1) := by decide +kernel
theorem dX10_laySmall_111 : decode cX10_laySmall 111 = .ok (.getfield 80, 3) := by decide +kernel
theorem dX10_laySmall_114 : decode cX10_laySmall 114 = .ok (.iload_n 2, 1) := by decide +kernel
theorem dX10_laySmall_115 : decode cX10_laySmall 115 = .ok (.iaload, 1) := by decide +kernel
theorem dX10_laySmall_116 : decode cX10_laySmall 116 = .ok (.iload 4, 2) := by decide +kernel
theorem dX10_laySmall_118 : decode cX10_laySmall 118 = .ok (.invokestatic 100, 3) := by decide +kernel
theorem dX10_laySmall_121 : decode cX10_laySmall 121 = .ok (.istore 5, 2) := by decide +kernel
theorem dX10_laySmall_123 : decode cX10_laySmall 123 = .ok (.iload_n 3, 1) := by decide +kernel
theorem dX10_laySmall_124 : decode cX10_laySmall 124 = .ok (.iload 5, 2) := by decide +kernel
theorem dX10_laySmall_126 : decode cX10_laySmall 126 = .ok (.bipush (-9), 2) := by decide +kernel
theorem dX10_laySmall_128 : decode cX10_laySmall 128 = .ok (.if_icmp .ne 7, 3) := by decide +kernel
theorem dX10_laySmall_131 : decode cX10_laySmall 131 = .ok (.iconst 0, 1) := by decide +kernel
theorem dX10_laySmall_132 : decode cX10_laySmall 132 = .ok (.goto 10, 3) := by decide +kernel
theorem dX10_laySmall_135 : decode cX10_laySmall 135 = .ok (.iconst 1, 1) := by decide +kernel
theorem dX10_laySmall_136 : decode cX10_laySmall 136 = .ok (.iload 5, 2) := by decide +kernel
theorem dX10_laySmall_138 : decode cX10_laySmall 138 = .ok (.invokestatic 273, 3) := by decide +kernel
theorem dX10_laySmall_141 : decode cX10_laySmall 141 = .ok (.ishl, 1) := by decide +kernel
theorem dX10_laySmall_142 : decode cX10_laySmall 142 = .ok (.ior, 1) := by decide +kernel
theorem dX10_laySmall_143 : decode cX10_laySmall 143 = .ok (.istore_n 3, 1) := by decide +kernel
theorem dX10_laySmall_144 : decode cX10_laySmall 144 = .ok (.iinc 4 1, 3) := by decide +kernel
theorem dX10_laySmall_147 : decode cX10_laySmall 147 = .ok (.goto (-49), 3) := by decide +kernel
theorem dX10_laySmall_150 : decode cX10_laySmall 150 = .ok (.aload_n 0, 1) := by decide +kernel
theorem dX10_laySmall_151 : decode cX10_laySmall 151 = .ok (.getfield 83, 3) := by decide +kernel
theorem dX10_laySmall_154 : decode cX10_laySmall 154 = .ok (.bipush 27, 2) := by decide +kernel
theorem dX10_laySmall_156 : decode cX10_laySmall 156 = .ok (.iload_n 1, 1) := by decide +kernel
theorem dX10_laySmall_157 : decode cX10_laySmall 157 = .ok (.imul, 1) := by decide +kernel
theorem dX10_laySmall_158 : decode cX10_laySmall 158 = .ok (.iload_n 2, 1) := by decide +kernel
theorem dX10_laySmall_159 : decode cX10_laySmall 159 = .ok (.iadd, 1) := by decide +kernel
theorem dX10_laySmall_160 : decode cX10_laySmall 160 = .ok (.iload_n 3, 1) := by decide +kernel
theorem dX10_laySmall_161 : decode cX10_laySmall 161 = .ok (.iastore, 1) := by decide +kernel
theorem dX10_laySmall_162 : decode cX10_laySmall 162 = .ok (.iinc 2 1, 3) := by decide +kernel
theorem dX10_laySmall_165 : decode cX10_laySmall 165 = .ok (.goto (-78), 3) := by decide +kernel
theorem dX10_laySmall_168 : decode cX10_laySmall 168 = .ok (.iinc 1 1, 3) := by decide +kernel
theorem dX10_laySmall_171 : decode cX10_laySmall 171 = .ok (.goto (-92), 3) := by decide +kernel
theorem dX10_laySmall_174 : decode cX10_laySmall 174 = .ok (.return_, 1) := by decide +kernel
theorem dX10_oneCut_0 : decode cX10_oneCut 0 = .ok (.iconst 0, 1) := by decide +kernel
theorem dX10_oneCut_1 : decode cX10_oneCut 1 = .ok (.istore_n 2, 1) := by decide +kernel
theorem dX10_oneCut_2 : decode cX10_oneCut 2 = .ok (.iconst 0, 1) := by decide +kernel
theorem dX10_oneCut_3 : decode cX10_oneCut 3 = .ok (.istore_n 3, 1) := by decide +kernel
theorem dX10_oneCut_4 : decode cX10_oneCut 4 = .ok (.iload_n 3, 1) := by decide +kernel
theorem dX10_oneCut_5 : decode cX10_oneCut 5 = .ok (.bipush 27, 2) := by decide +kernel
theorem dX10_oneCut_7 : decode cX10_oneCut 7 = .ok (.if_icmp .ge 63, 3) := by decide +kernel
theorem dX10_oneCut_10 : decode cX10_oneCut 10 = .ok (.iconst 0, 1) := by decide +kernel
theorem dX10_oneCut_11 : decode cX10_oneCut 11 = .ok (.istore 4, 2) := by decide +kernel
theorem dX10_oneCut_13 : decode cX10_oneCut 13 = .ok (.iload 4, 2) := by decide +kernel
theorem dX10_oneCut_15 : decode cX10_oneCut 15 = .ok (.bipush 27, 2) := by decide +kernel
theorem dX10_oneCut_17 : decode cX10_oneCut 17 = .ok (.if_icmp .ge 47, 3) := by decide +kernel
theorem dX10_oneCut_20 : decode cX10_oneCut 20 = .ok (.iload_n 1, 1) := by decide +kernel
theorem dX10_oneCut_21 : decode cX10_oneCut 21 = .ok (.iload_n 3, 1) := by decide +kernel
theorem dX10_oneCut_22 : decode cX10_oneCut 22 = .ok (.ishr, 1) := by decide +kernel
theorem dX10_oneCut_23 : decode cX10_oneCut 23 = .ok (.iconst 1, 1) := by decide +kernel
theorem dX10_oneCut_24 : decode cX10_oneCut 24 = .ok (.iand, 1) := by decide +kernel
theorem dX10_oneCut_25 : decode cX10_oneCut 25 = .ok (.iconst 1, 1) := by decide +kernel
theorem dX10_oneCut_26 : decode cX10_oneCut 26 = .ok (.if_icmp .ne 38, 3) := by decide +kernel
theorem dX10_oneCut_29 : decode cX10_oneCut 29 = .ok (.iload_n 2, 1) := by decide +kernel
theorem dX10_oneCut_30 : decode cX10_oneCut 30 = .ok (.iload_n 1, 1) := by decide +kernel
theorem dX10_oneCut_31 : decode cX10_oneCut 31 = .ok (.iload 4, 2) := by decide +kernel
theorem dX10_oneCut_33 : decode cX10_oneCut 33 = .ok (.ishr, 1) := by decide +kernel
theorem dX10_oneCut_34 : decode cX10_oneCut 34 = .ok (.iconst 1, 1) := by decide +kernel
theorem dX10_oneCut_35 : decode cX10_oneCut 35 = .ok (.iand, 1) := by decide +kernel
theorem dX10_oneCut_36 : decode cX10_oneCut 36 = .ok (.iconst 1, 1) := by decide +kernel
theorem dX10_oneCut_37 : decode cX10_oneCut 37 = .ok (.if_icmp .ne 18, 3) := by decide +kernel
theorem dX10_oneCut_40 : decode cX10_oneCut 40 = .ok (.aload_n 0, 1) := by decide +kernel
theorem dX10_oneCut_41 : decode cX10_oneCut 41 = .ok (.getfield 83, 3) := by decide +kernel
theorem dX10_oneCut_44 : decode cX10_oneCut 44 = .ok (.bipush 27, 2) := by decide +kernel
theorem dX10_oneCut_46 : decode cX10_oneCut 46 = .ok (.iload_n 3, 1) := by decide +kernel
theorem dX10_oneCut_47 : decode cX10_oneCut 47 = .ok (.imul, 1) := by decide +kernel
theorem dX10_oneCut_48 : decode cX10_oneCut 48 = .ok (.iload 4, 2) := by decide +kernel
theorem dX10_oneCut_50 : decode cX10_oneCut 50 = .ok (.iadd, 1) := by decide +kernel
theorem dX10_oneCut_51 : decode cX10_oneCut 51 = .ok (.iaload, 1) := by decide +kernel
theorem dX10_oneCut_52 : decode cX10_oneCut 52 = .ok (.goto 4, 3) := by decide +kernel
theorem dX10_oneCut_55 : decode cX10_oneCut 55 = .ok (.iconst 0, 1) := by decide +kernel
theorem dX10_oneCut_56 : decode cX10_oneCut 56 = .ok (.ior, 1) := by decide +kernel
theorem dX10_oneCut_57 : decode cX10_oneCut 57 = .ok (.istore_n 2, 1) := by decide +kernel
theorem dX10_oneCut_58 : decode cX10_oneCut 58 = .ok (.iinc 4 1, 3) := by decide +kernel
theorem dX10_oneCut_61 : decode cX10_oneCut 61 = .ok (.goto (-48), 3) := by decide +kernel
theorem dX10_oneCut_64 : decode cX10_oneCut 64 = .ok (.iinc 3 1, 3) := by decide +kernel
theorem dX10_oneCut_67 : decode cX10_oneCut 67 = .ok (.goto (-63), 3) := by decide +kernel
theorem dX10_oneCut_70 : decode cX10_oneCut 70 = .ok (.iload_n 2, 1) := by decide +kernel
theorem dX10_oneCut_71 : decode cX10_oneCut 71 = .ok (.ireturn, 1) := by decide +kernel
set_option maxRecDepth 20000 in
theorem ggX10_isSmall_X10_isClause : GoodIn wsX10_isSmall wsX10_isClause := goodIn_r _ [4, 5, 6, 3, 7] (by decide +kernel) (by decide +kernel)
set_option maxRecDepth 20000 in
theorem gX10_isSmall_X10_isClause : GoodIn wsX10_isSmall (va_wsS RX10 96 yX10_isClause wsX10_isClause) := goodIn_app (goodIn_of _ (by decide +kernel)) ggX10_isSmall_X10_isClause
theorem dX10_isSmall_0 : decode cX10_isSmall 0 = .ok (.iload_n 0, 1) := by decide +kernel
theorem dX10_isSmall_1 : decode cX10_isSmall 1 = .ok (.invokestatic 96, 3) := by decide +kernel
theorem dX10_isSmall_4 : decode cX10_isSmall 4 = .ok (.ifCond .eq 19, 3) := by decide +kernel
theorem dX10_isSmall_7 : decode cX10_isSmall 7 = .ok (.iload_n 0, 1) := by decide +kernel
theorem dX10_isSmall_8 : decode cX10_isSmall 8 = .ok (.iload_n 0, 1) := by decide +kernel
theorem dX10_isSmall_9 : decode cX10_isSmall 9 = .ok (.bipush 6, 2) := by decide +kernel
theorem dX10_isSmall_11 : decode cX10_isSmall 11 = .ok (.ishr, 1) := by decide +kernel
theorem dX10_isSmall_12 : decode cX10_isSmall 12 = .ok (.ior, 1) := by decide +kernel
theorem dX10_isSmall_13 : decode cX10_isSmall 13 = .ok (.bipush 56, 2) := by decide +kernel
theorem dX10_isSmall_15 : decode cX10_isSmall 15 = .ok (.iand, 1) := by decide +kernel
theorem dX10_isSmall_16 : decode cX10_isSmall 16 = .ok (.ifCond .ne 7, 3) := by decide +kernel
theorem dX10_isSmall_19 : decode cX10_isSmall 19 = .ok (.iconst 1, 1) := by decide +kernel
theorem dX10_isSmall_20 : decode cX10_isSmall 20 = .ok (.goto 4, 3) := by decide +kernel
theorem dX10_isSmall_23 : decode cX10_isSmall 23 = .ok (.iconst 0, 1) := by decide +kernel
theorem dX10_isSmall_24 : decode cX10_isSmall 24 = .ok (.ireturn, 1) := by decide +kernel
set_option maxRecDepth 20000 in
theorem ggX10_cuts_X10_isProof : GoodIn wsX10_cuts wsX10_isProof := goodIn_r _ [9, 10, 38, 39, 40, 41, 42, 43, 44, 45, 46, 47, 48, 49, 50, 51, 52, 53, 54, 55, 56, 57, 58, 59, 60, 61, 62, 63, 64, 65, 66, 67, 68, 69] (by decide +kernel) (by decide +kernel)
set_option maxRecDepth 20000 in
theorem gX10_cuts_X10_isProof : GoodIn wsX10_cuts (wsV RX10 111 RX10 yX10_isProof wsX10_isProof) := goodIn_app (goodIn_of _ (by decide +kernel)) ggX10_cuts_X10_isProof
set_option maxRecDepth 20000 in
theorem ggX10_cuts_X10_isSmall : GoodIn wsX10_cuts wsX10_isSmall := goodIn_r _ [13, 14, 15, 8, 16, 17, 18, 19] (by decide +kernel) (by decide +kernel)
set_option maxRecDepth 20000 in
theorem gX10_cuts_X10_isSmall : GoodIn wsX10_cuts (va_wsS RX10 276 yX10_isSmall wsX10_isSmall) := goodIn_app (goodIn_of _ (by decide +kernel)) ggX10_cuts_X10_isSmall
set_option maxRecDepth 20000 in
theorem ggX10_cuts_X10_smallOf : GoodIn wsX10_cuts wsX10_smallOf := goodIn_r _ [22] (by decide +kernel) (by decide +kernel)
set_option maxRecDepth 20000 in
theorem gX10_cuts_X10_smallOf : GoodIn wsX10_cuts (va_wsS RX10 273 yX10_smallOf wsX10_smallOf) := goodIn_app (goodIn_of _ (by decide +kernel)) ggX10_cuts_X10_smallOf
set_option maxRecDepth 20000 in
theorem ggX10_cuts_X10_laySmall : GoodIn wsX10_cuts wsX10_laySmall := goodIn_r _ [26, 4, 27, 28, 29, 8, 30, 14, 15, 16, 17, 18, 19, 20, 21, 22, 38, 39, 40, 41, 42, 43, 44, 45, 46, 47, 48, 49, 50, 51, 52, 53, 54, 55, 56, 57, 58, 59, 60, 61, 62, 63, 64, 65, 66, 67, 68, 69] (by decide +kernel) (by decide +kernel)
set_option maxRecDepth 20000 in
theorem gX10_cuts_X10_laySmall : GoodIn wsX10_cuts (wsV RX10 279 RX10 yX10_laySmall wsX10_laySmall) := goodIn_app (goodIn_of _ (by decide +kernel)) ggX10_cuts_X10_laySmall
set_option maxRecDepth 20000 in
theorem ggX10_cuts_X10_isStronger : GoodIn wsX10_cuts wsX10_isStronger := goodIn_r _ [33] (by decide +kernel) (by decide +kernel)
set_option maxRecDepth 20000 in
theorem gX10_cuts_X10_isStronger : GoodIn wsX10_cuts (va_wsS RX10 104 yX10_isStronger wsX10_isStronger) := goodIn_app (goodIn_of _ (by decide +kernel)) ggX10_cuts_X10_isStronger
set_option maxRecDepth 20000 in
theorem ggX10_cuts_X10_oneCut : GoodIn wsX10_cuts wsX10_oneCut := goodIn_r _ [37, 27, 38, 39, 40, 41, 42, 43, 44, 45, 46, 47, 48, 49, 50, 51, 52, 53, 54, 55, 56, 57, 58, 59, 60, 61, 62, 63, 64, 65, 66, 67, 68, 69] (by decide +kernel) (by decide +kernel)
set_option maxRecDepth 20000 in
theorem gX10_cuts_X10_oneCut : GoodIn wsX10_cuts (wsV RX10 282 RX10 yX10_oneCut wsX10_oneCut) := goodIn_app (goodIn_of _ (by decide +kernel)) ggX10_cuts_X10_oneCut
theorem dX10_cuts_0 : decode cX10_cuts 0 = .ok (.aload_n 0, 1) := by decide +kernel
theorem dX10_cuts_1 : decode cX10_cuts 1 = .ok (.iload_n 1, 1) := by decide +kernel
theorem dX10_cuts_2 : decode cX10_cuts 2 = .ok (.invokevirtual 111, 3) := by decide +kernel
theorem dX10_cuts_5 : decode cX10_cuts 5 = .ok (.ifCond .ne 5, 3) := by decide +kernel
theorem dX10_cuts_8 : decode cX10_cuts 8 = .ok (.iconst (-1), 1) := by decide +kernel
theorem dX10_cuts_9 : decode cX10_cuts 9 = .ok (.ireturn, 1) := by decide +kernel
theorem dX10_cuts_10 : decode cX10_cuts 10 = .ok (.iload_n 2, 1) := by decide +kernel
theorem dX10_cuts_11 : decode cX10_cuts 11 = .ok (.invokestatic 276, 3) := by decide +kernel
theorem dX10_cuts_14 : decode cX10_cuts 14 = .ok (.ifCond .ne 6, 3) := by decide +kernel
theorem dX10_cuts_17 : decode cX10_cuts 17 = .ok (.bipush (-2), 2) := by decide +kernel
theorem dX10_cuts_19 : decode cX10_cuts 19 = .ok (.ireturn, 1) := by decide +kernel
theorem dX10_cuts_20 : decode cX10_cuts 20 = .ok (.iconst 0, 1) := by decide +kernel
theorem dX10_cuts_21 : decode cX10_cuts 21 = .ok (.istore_n 3, 1) := by decide +kernel
theorem dX10_cuts_22 : decode cX10_cuts 22 = .ok (.iconst 0, 1) := by decide +kernel
theorem dX10_cuts_23 : decode cX10_cuts 23 = .ok (.istore 4, 2) := by decide +kernel
theorem dX10_cuts_25 : decode cX10_cuts 25 = .ok (.iload 4, 2) := by decide +kernel
theorem dX10_cuts_27 : decode cX10_cuts 27 = .ok (.aload_n 0, 1) := by decide +kernel
theorem dX10_cuts_28 : decode cX10_cuts 28 = .ok (.getfield 19, 3) := by decide +kernel
theorem dX10_cuts_31 : decode cX10_cuts 31 = .ok (.iload_n 1, 1) := by decide +kernel
theorem dX10_cuts_32 : decode cX10_cuts 32 = .ok (.iaload, 1) := by decide +kernel
theorem dX10_cuts_33 : decode cX10_cuts 33 = .ok (.if_icmp .ge 64, 3) := by decide +kernel
theorem dX10_cuts_36 : decode cX10_cuts 36 = .ok (.bipush 24, 2) := by decide +kernel
theorem dX10_cuts_38 : decode cX10_cuts 38 = .ok (.iload_n 1, 1) := by decide +kernel
theorem dX10_cuts_39 : decode cX10_cuts 39 = .ok (.imul, 1) := by decide +kernel
theorem dX10_cuts_40 : decode cX10_cuts 40 = .ok (.iload 4, 2) := by decide +kernel
theorem dX10_cuts_42 : decode cX10_cuts 42 = .ok (.iadd, 1) := by decide +kernel
theorem dX10_cuts_43 : decode cX10_cuts 43 = .ok (.istore 5, 2) := by decide +kernel
theorem dX10_cuts_45 : decode cX10_cuts 45 = .ok (.aload_n 0, 1) := by decide +kernel
theorem dX10_cuts_46 : decode cX10_cuts 46 = .ok (.getfield 31, 3) := by decide +kernel
theorem dX10_cuts_49 : decode cX10_cuts 49 = .ok (.iload 5, 2) := by decide +kernel
theorem dX10_cuts_51 : decode cX10_cuts 51 = .ok (.iaload, 1) := by decide +kernel
theorem dX10_cuts_52 : decode cX10_cuts 52 = .ok (.bipush (-9), 2) := by decide +kernel
theorem dX10_cuts_54 : decode cX10_cuts 54 = .ok (.if_icmp .eq 6, 3) := by decide +kernel
theorem dX10_cuts_57 : decode cX10_cuts 57 = .ok (.goto 34, 3) := by decide +kernel
theorem dX10_cuts_60 : decode cX10_cuts 60 = .ok (.aload_n 0, 1) := by decide +kernel
theorem dX10_cuts_61 : decode cX10_cuts 61 = .ok (.getfield 22, 3) := by decide +kernel
theorem dX10_cuts_64 : decode cX10_cuts 64 = .ok (.iload 5, 2) := by decide +kernel
theorem dX10_cuts_66 : decode cX10_cuts 66 = .ok (.iaload, 1) := by decide +kernel
theorem dX10_cuts_67 : decode cX10_cuts 67 = .ok (.invokestatic 276, 3) := by decide +kernel
theorem dX10_cuts_70 : decode cX10_cuts 70 = .ok (.ifCond .ne 6, 3) := by decide +kernel
theorem dX10_cuts_73 : decode cX10_cuts 73 = .ok (.bipush (-3), 2) := by decide +kernel
theorem dX10_cuts_75 : decode cX10_cuts 75 = .ok (.ireturn, 1) := by decide +kernel
theorem dX10_cuts_76 : decode cX10_cuts 76 = .ok (.iload_n 3, 1) := by decide +kernel
theorem dX10_cuts_77 : decode cX10_cuts 77 = .ok (.iconst 1, 1) := by decide +kernel
theorem dX10_cuts_78 : decode cX10_cuts 78 = .ok (.aload_n 0, 1) := by decide +kernel
theorem dX10_cuts_79 : decode cX10_cuts 79 = .ok (.getfield 22, 3) := by decide +kernel
theorem dX10_cuts_82 : decode cX10_cuts 82 = .ok (.iload 5, 2) := by decide +kernel
theorem dX10_cuts_84 : decode cX10_cuts 84 = .ok (.iaload, 1) := by decide +kernel
theorem dX10_cuts_85 : decode cX10_cuts 85 = .ok (.invokestatic 273, 3) := by decide +kernel
theorem dX10_cuts_88 : decode cX10_cuts 88 = .ok (.ishl, 1) := by decide +kernel
theorem dX10_cuts_89 : decode cX10_cuts 89 = .ok (.ior, 1) := by decide +kernel
theorem dX10_cuts_90 : decode cX10_cuts 90 = .ok (.istore_n 3, 1) := by decide +kernel
theorem dX10_cuts_91 : decode cX10_cuts 91 = .ok (.iinc 4 1, 3) := by decide +kernel
theorem dX10_cuts_94 : decode cX10_cuts 94 = .ok (.goto (-69), 3) := by decide +kernel
theorem dX10_cuts_97 : decode cX10_cuts 97 = .ok (.aload_n 0, 1) := by decide +kernel
theorem dX10_cuts_98 : decode cX10_cuts 98 = .ok (.invokevirtual 279, 3) := by decide +kernel
theorem dX10_cuts_101 : decode cX10_cuts 101 = .ok (.iconst 0, 1) := by decide +kernel
theorem dX10_cuts_102 : decode cX10_cuts 102 = .ok (.istore 4, 2) := by decide +kernel
theorem dX10_cuts_104 : decode cX10_cuts 104 = .ok (.iconst 0, 1) := by decide +kernel
theorem dX10_cuts_105 : decode cX10_cuts 105 = .ok (.istore 5, 2) := by decide +kernel
theorem dX10_cuts_107 : decode cX10_cuts 107 = .ok (.iload 5, 2) := by decide +kernel
theorem dX10_cuts_109 : decode cX10_cuts 109 = .ok (.bipush 27, 2) := by decide +kernel
theorem dX10_cuts_111 : decode cX10_cuts 111 = .ok (.if_icmp .ge 36, 3) := by decide +kernel
theorem dX10_cuts_114 : decode cX10_cuts 114 = .ok (.iload 4, 2) := by decide +kernel
theorem dX10_cuts_116 : decode cX10_cuts 116 = .ok (.aload_n 0, 1) := by decide +kernel
theorem dX10_cuts_117 : decode cX10_cuts 117 = .ok (.getfield 80, 3) := by decide +kernel
theorem dX10_cuts_120 : decode cX10_cuts 120 = .ok (.iload 5, 2) := by decide +kernel
theorem dX10_cuts_122 : decode cX10_cuts 122 = .ok (.iaload, 1) := by decide +kernel
theorem dX10_cuts_123 : decode cX10_cuts 123 = .ok (.iload_n 2, 1) := by decide +kernel
theorem dX10_cuts_124 : decode cX10_cuts 124 = .ok (.invokestatic 104, 3) := by decide +kernel
theorem dX10_cuts_127 : decode cX10_cuts 127 = .ok (.ifCond .eq 10, 3) := by decide +kernel
theorem dX10_cuts_130 : decode cX10_cuts 130 = .ok (.iconst 1, 1) := by decide +kernel
theorem dX10_cuts_131 : decode cX10_cuts 131 = .ok (.iload 5, 2) := by decide +kernel
theorem dX10_cuts_133 : decode cX10_cuts 133 = .ok (.ishl, 1) := by decide +kernel
theorem dX10_cuts_134 : decode cX10_cuts 134 = .ok (.goto 4, 3) := by decide +kernel
theorem dX10_cuts_137 : decode cX10_cuts 137 = .ok (.iconst 0, 1) := by decide +kernel
theorem dX10_cuts_138 : decode cX10_cuts 138 = .ok (.ior, 1) := by decide +kernel
theorem dX10_cuts_139 : decode cX10_cuts 139 = .ok (.istore 4, 2) := by decide +kernel
theorem dX10_cuts_141 : decode cX10_cuts 141 = .ok (.iinc 5 1, 3) := by decide +kernel
theorem dX10_cuts_144 : decode cX10_cuts 144 = .ok (.goto (-37), 3) := by decide +kernel
theorem dX10_cuts_147 : decode cX10_cuts 147 = .ok (.iload_n 3, 1) := by decide +kernel
theorem dX10_cuts_148 : decode cX10_cuts 148 = .ok (.iload 4, 2) := by decide +kernel
theorem dX10_cuts_150 : decode cX10_cuts 150 = .ok (.iand, 1) := by decide +kernel
theorem dX10_cuts_151 : decode cX10_cuts 151 = .ok (.ifCond .eq 5, 3) := by decide +kernel
theorem dX10_cuts_154 : decode cX10_cuts 154 = .ok (.iconst 0, 1) := by decide +kernel
