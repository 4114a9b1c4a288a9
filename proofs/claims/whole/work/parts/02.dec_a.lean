theorem dX0_isClause_0 : decode cX0_isClause 0 = .ok (.iload_n 0, 1) := by decide +kernel
theorem dX0_isClause_1 : decode cX0_isClause 1 = .ok (.ifCond .lt 23, 3) := by decide +kernel
theorem dX0_isClause_4 : decode cX0_isClause 4 = .ok (.iload_n 0, 1) := by decide +kernel
theorem dX0_isClause_5 : decode cX0_isClause 5 = .ok (.sipush 4095, 3) := by decide +kernel
theorem dX0_isClause_8 : decode cX0_isClause 8 = .ok (.if_icmp .gt 16, 3) := by decide +kernel
theorem dX0_isClause_11 : decode cX0_isClause 11 = .ok (.iload_n 0, 1) := by decide +kernel
theorem dX0_isClause_12 : decode cX0_isClause 12 = .ok (.iload_n 0, 1) := by decide +kernel
theorem dX0_isClause_13 : decode cX0_isClause 13 = .ok (.bipush 6, 2) := by decide +kernel
theorem dX0_isClause_15 : decode cX0_isClause 15 = .ok (.ishr, 1) := by decide +kernel
theorem dX0_isClause_16 : decode cX0_isClause 16 = .ok (.iand, 1) := by decide +kernel
theorem dX0_isClause_17 : decode cX0_isClause 17 = .ok (.ifCond .ne 7, 3) := by decide +kernel
theorem dX0_isClause_20 : decode cX0_isClause 20 = .ok (.iconst 1, 1) := by decide +kernel
theorem dX0_isClause_21 : decode cX0_isClause 21 = .ok (.goto 4, 3) := by decide +kernel
theorem dX0_isClause_24 : decode cX0_isClause 24 = .ok (.iconst 0, 1) := by decide +kernel
theorem dX0_isClause_25 : decode cX0_isClause 25 = .ok (.ireturn, 1) := by decide +kernel
set_option maxRecDepth 20000 in
theorem ggX0_isSmall_X0_lettersOf : GoodIn wsX0_isSmall wsX0_lettersOf := goodIn_r _ [4] (by decide +kernel) (by decide +kernel)
set_option maxRecDepth 20000 in
theorem gX0_isSmall_X0_lettersOf : GoodIn wsX0_isSmall (va_wsS RX0 9 yX0_lettersOf wsX0_lettersOf) := goodIn_app (goodIn_of _ (by decide +kernel)) ggX0_isSmall_X0_lettersOf
theorem dX0_isSmall_0 : decode cX0_isSmall 0 = .ok (.iload_n 0, 1) := by decide +kernel
theorem dX0_isSmall_1 : decode cX0_isSmall 1 = .ok (.invokestatic 9, 3) := by decide +kernel
theorem dX0_isSmall_4 : decode cX0_isSmall 4 = .ok (.bipush 8, 2) := by decide +kernel
theorem dX0_isSmall_6 : decode cX0_isSmall 6 = .ok (.if_icmp .ge 7, 3) := by decide +kernel
theorem dX0_isSmall_9 : decode cX0_isSmall 9 = .ok (.iconst 1, 1) := by decide +kernel
theorem dX0_isSmall_10 : decode cX0_isSmall 10 = .ok (.goto 4, 3) := by decide +kernel
theorem dX0_isSmall_13 : decode cX0_isSmall 13 = .ok (.iconst 0, 1) := by decide +kernel
theorem dX0_isSmall_14 : decode cX0_isSmall 14 = .ok (.ireturn, 1) := by decide +kernel
theorem dX0_isPart_0 : decode cX0_isPart 0 = .ok (.iload_n 0, 1) := by decide +kernel
theorem dX0_isPart_1 : decode cX0_isPart 1 = .ok (.iload_n 1, 1) := by decide +kernel
theorem dX0_isPart_2 : decode cX0_isPart 2 = .ok (.iconst (-1), 1) := by decide +kernel
theorem dX0_isPart_3 : decode cX0_isPart 3 = .ok (.ixor, 1) := by decide +kernel
theorem dX0_isPart_4 : decode cX0_isPart 4 = .ok (.iand, 1) := by decide +kernel
theorem dX0_isPart_5 : decode cX0_isPart 5 = .ok (.ifCond .ne 7, 3) := by decide +kernel
theorem dX0_isPart_8 : decode cX0_isPart 8 = .ok (.iconst 1, 1) := by decide +kernel
theorem dX0_isPart_9 : decode cX0_isPart 9 = .ok (.goto 4, 3) := by decide +kernel
theorem dX0_isPart_12 : decode cX0_isPart 12 = .ok (.iconst 0, 1) := by decide +kernel
theorem dX0_isPart_13 : decode cX0_isPart 13 = .ok (.ireturn, 1) := by decide +kernel
theorem dX0_plain_0 : decode cX0_plain 0 = .ok (.iconst 1, 1) := by decide +kernel
theorem dX0_plain_1 : decode cX0_plain 1 = .ok (.iload_n 0, 1) := by decide +kernel
theorem dX0_plain_2 : decode cX0_plain 2 = .ok (.ishl, 1) := by decide +kernel
theorem dX0_plain_3 : decode cX0_plain 3 = .ok (.ireturn, 1) := by decide +kernel
theorem dX0_negated_0 : decode cX0_negated 0 = .ok (.iconst 1, 1) := by decide +kernel
theorem dX0_negated_1 : decode cX0_negated 1 = .ok (.iload_n 0, 1) := by decide +kernel
theorem dX0_negated_2 : decode cX0_negated 2 = .ok (.bipush 6, 2) := by decide +kernel
theorem dX0_negated_4 : decode cX0_negated 4 = .ok (.iadd, 1) := by decide +kernel
theorem dX0_negated_5 : decode cX0_negated 5 = .ok (.ishl, 1) := by decide +kernel
theorem dX0_negated_6 : decode cX0_negated 6 = .ok (.ireturn, 1) := by decide +kernel
theorem dX0_others_0 : decode cX0_others 0 = .ok (.iload_n 0, 1) := by decide +kernel
theorem dX0_others_1 : decode cX0_others 1 = .ok (.bipush 6, 2) := by decide +kernel
theorem dX0_others_3 : decode cX0_others 3 = .ok (.ishr, 1) := by decide +kernel
theorem dX0_others_4 : decode cX0_others 4 = .ok (.iload_n 0, 1) := by decide +kernel
theorem dX0_others_5 : decode cX0_others 5 = .ok (.bipush 6, 2) := by decide +kernel
theorem dX0_others_7 : decode cX0_others 7 = .ok (.ishl, 1) := by decide +kernel
theorem dX0_others_8 : decode cX0_others 8 = .ok (.sipush 4095, 3) := by decide +kernel
theorem dX0_others_11 : decode cX0_others 11 = .ok (.iand, 1) := by decide +kernel
theorem dX0_others_12 : decode cX0_others 12 = .ok (.ior, 1) := by decide +kernel
theorem dX0_others_13 : decode cX0_others 13 = .ok (.ireturn, 1) := by decide +kernel
theorem dX0_lettersOf_0 : decode cX0_lettersOf 0 = .ok (.iload_n 0, 1) := by decide +kernel
theorem dX0_lettersOf_1 : decode cX0_lettersOf 1 = .ok (.iload_n 0, 1) := by decide +kernel
theorem dX0_lettersOf_2 : decode cX0_lettersOf 2 = .ok (.bipush 6, 2) := by decide +kernel
theorem dX0_lettersOf_4 : decode cX0_lettersOf 4 = .ok (.ishr, 1) := by decide +kernel
theorem dX0_lettersOf_5 : decode cX0_lettersOf 5 = .ok (.ior, 1) := by decide +kernel
theorem dX0_lettersOf_6 : decode cX0_lettersOf 6 = .ok (.bipush 63, 2) := by decide +kernel
theorem dX0_lettersOf_8 : decode cX0_lettersOf 8 = .ok (.iand, 1) := by decide +kernel
theorem dX0_lettersOf_9 : decode cX0_lettersOf 9 = .ok (.ireturn, 1) := by decide +kernel
set_option maxRecDepth 20000 in
theorem ggX0_cutOf_X0_plain : GoodIn wsX0_cutOf wsX0_plain := goodIn_r _ [4] (by decide +kernel) (by decide +kernel)
set_option maxRecDepth 20000 in
theorem gX0_cutOf_X0_plain : GoodIn wsX0_cutOf (va_wsS RX0 15 yX0_plain wsX0_plain) := goodIn_app (goodIn_of _ (by decide +kernel)) ggX0_cutOf_X0_plain
set_option maxRecDepth 20000 in
theorem ggX0_cutOf_X0_negated : GoodIn wsX0_cutOf wsX0_negated := goodIn_r _ [7] (by decide +kernel) (by decide +kernel)
set_option maxRecDepth 20000 in
theorem gX0_cutOf_X0_negated : GoodIn wsX0_cutOf (va_wsS RX0 18 yX0_negated wsX0_negated) := goodIn_app (goodIn_of _ (by decide +kernel)) ggX0_cutOf_X0_negated
set_option maxRecDepth 20000 in
theorem ggX0_cutOf_X0_isPart : GoodIn wsX0_cutOf wsX0_isPart := goodIn_r _ [10] (by decide +kernel) (by decide +kernel)
set_option maxRecDepth 20000 in
theorem gX0_cutOf_X0_isPart : GoodIn wsX0_cutOf (va_wsS RX0 21 yX0_isPart wsX0_isPart) := goodIn_app (goodIn_of _ (by decide +kernel)) ggX0_cutOf_X0_isPart
set_option maxRecDepth 20000 in
theorem ggX0_cutOf_X0_isClause : GoodIn wsX0_cutOf wsX0_isClause := goodIn_r _ [13] (by decide +kernel) (by decide +kernel)
set_option maxRecDepth 20000 in
theorem gX0_cutOf_X0_isClause : GoodIn wsX0_cutOf (va_wsS RX0 25 yX0_isClause wsX0_isClause) := goodIn_app (goodIn_of _ (by decide +kernel)) ggX0_cutOf_X0_isClause
theorem dX0_cutOf_0 : decode cX0_cutOf 0 = .ok (.iload_n 2, 1) := by decide +kernel
theorem dX0_cutOf_1 : decode cX0_cutOf 1 = .ok (.invokestatic 15, 3) := by decide +kernel
theorem dX0_cutOf_4 : decode cX0_cutOf 4 = .ok (.istore_n 3, 1) := by decide +kernel
theorem dX0_cutOf_5 : decode cX0_cutOf 5 = .ok (.iload_n 2, 1) := by decide +kernel
theorem dX0_cutOf_6 : decode cX0_cutOf 6 = .ok (.invokestatic 18, 3) := by decide +kernel
theorem dX0_cutOf_9 : decode cX0_cutOf 9 = .ok (.istore 4, 2) := by decide +kernel
theorem dX0_cutOf_11 : decode cX0_cutOf 11 = .ok (.iload_n 3, 1) := by decide +kernel
theorem dX0_cutOf_12 : decode cX0_cutOf 12 = .ok (.iload_n 0, 1) := by decide +kernel
theorem dX0_cutOf_13 : decode cX0_cutOf 13 = .ok (.invokestatic 21, 3) := by decide +kernel
theorem dX0_cutOf_16 : decode cX0_cutOf 16 = .ok (.ifCond .eq 12, 3) := by decide +kernel
theorem dX0_cutOf_19 : decode cX0_cutOf 19 = .ok (.iload 4, 2) := by decide +kernel
theorem dX0_cutOf_21 : decode cX0_cutOf 21 = .ok (.iload_n 1, 1) := by decide +kernel
theorem dX0_cutOf_22 : decode cX0_cutOf 22 = .ok (.invokestatic 21, 3) := by decide +kernel
theorem dX0_cutOf_25 : decode cX0_cutOf 25 = .ok (.ifCond .ne 6, 3) := by decide +kernel
theorem dX0_cutOf_28 : decode cX0_cutOf 28 = .ok (.bipush (-9), 2) := by decide +kernel
theorem dX0_cutOf_30 : decode cX0_cutOf 30 = .ok (.ireturn, 1) := by decide +kernel
theorem dX0_cutOf_31 : decode cX0_cutOf 31 = .ok (.iload_n 0, 1) := by decide +kernel
theorem dX0_cutOf_32 : decode cX0_cutOf 32 = .ok (.iload_n 3, 1) := by decide +kernel
theorem dX0_cutOf_33 : decode cX0_cutOf 33 = .ok (.iconst (-1), 1) := by decide +kernel
theorem dX0_cutOf_34 : decode cX0_cutOf 34 = .ok (.ixor, 1) := by decide +kernel
theorem dX0_cutOf_35 : decode cX0_cutOf 35 = .ok (.iand, 1) := by decide +kernel
theorem dX0_cutOf_36 : decode cX0_cutOf 36 = .ok (.iload_n 1, 1) := by decide +kernel
theorem dX0_cutOf_37 : decode cX0_cutOf 37 = .ok (.iload 4, 2) := by decide +kernel
theorem dX0_cutOf_39 : decode cX0_cutOf 39 = .ok (.iconst (-1), 1) := by decide +kernel
theorem dX0_cutOf_40 : decode cX0_cutOf 40 = .ok (.ixor, 1) := by decide +kernel
theorem dX0_cutOf_41 : decode cX0_cutOf 41 = .ok (.iand, 1) := by decide +kernel
theorem dX0_cutOf_42 : decode cX0_cutOf 42 = .ok (.ior, 1) := by decide +kernel
theorem dX0_cutOf_43 : decode cX0_cutOf 43 = .ok (.istore 5, 2) := by decide +kernel
theorem dX0_cutOf_45 : decode cX0_cutOf 45 = .ok (.iload 5, 2) := by decide +kernel
theorem dX0_cutOf_47 : decode cX0_cutOf 47 = .ok (.invokestatic 25, 3) := by decide +kernel
theorem dX0_cutOf_50 : decode cX0_cutOf 50 = .ok (.ifCond .eq 8, 3) := by decide +kernel
theorem dX0_cutOf_53 : decode cX0_cutOf 53 = .ok (.iload 5, 2) := by decide +kernel
theorem dX0_cutOf_55 : decode cX0_cutOf 55 = .ok (.goto 5, 3) := by decide +kernel
theorem dX0_cutOf_58 : decode cX0_cutOf 58 = .ok (.bipush (-9), 2) := by decide +kernel
theorem dX0_cutOf_60 : decode cX0_cutOf 60 = .ok (.ireturn, 1) := by decide +kernel
set_option maxRecDepth 20000 in
theorem ggX0_tableOf_X0_plain : GoodIn wsX0_tableOf wsX0_plain := goodIn_r _ [5] (by decide +kernel) (by decide +kernel)
set_option maxRecDepth 20000 in
theorem gX0_tableOf_X0_plain : GoodIn wsX0_tableOf (va_wsS RX0 15 yX0_plain wsX0_plain) := goodIn_app (goodIn_of _ (by decide +kernel)) ggX0_tableOf_X0_plain
set_option maxRecDepth 20000 in
theorem ggX0_tableOf_X0_isPart : GoodIn wsX0_tableOf wsX0_isPart := goodIn_r _ [8] (by decide +kernel) (by decide +kernel)
set_option maxRecDepth 20000 in
theorem gX0_tableOf_X0_isPart : GoodIn wsX0_tableOf (va_wsS RX0 21 yX0_isPart wsX0_isPart) := goodIn_app (goodIn_of _ (by decide +kernel)) ggX0_tableOf_X0_isPart
set_option maxRecDepth 20000 in
theorem ggX0_tableOf_X0_negated : GoodIn wsX0_tableOf wsX0_negated := goodIn_r _ [11] (by decide +kernel) (by decide +kernel)
set_option maxRecDepth 20000 in
theorem gX0_tableOf_X0_negated : GoodIn wsX0_tableOf (va_wsS RX0 18 yX0_negated wsX0_negated) := goodIn_app (goodIn_of _ (by decide +kernel)) ggX0_tableOf_X0_negated
theorem dX0_tableOf_0 : decode cX0_tableOf 0 = .ok (.lconst 0, 1) := by decide +kernel
theorem dX0_tableOf_1 : decode cX0_tableOf 1 = .ok (.lstore_n 1, 1) := by decide +kernel
theorem dX0_tableOf_2 : decode cX0_tableOf 2 = .ok (.iconst 0, 1) := by decide +kernel
theorem dX0_tableOf_3 : decode cX0_tableOf 3 = .ok (.istore_n 3, 1) := by decide +kernel
theorem dX0_tableOf_4 : decode cX0_tableOf 4 = .ok (.iload_n 3, 1) := by decide +kernel
theorem dX0_tableOf_5 : decode cX0_tableOf 5 = .ok (.bipush 6, 2) := by decide +kernel
theorem dX0_tableOf_7 : decode cX0_tableOf 7 = .ok (.if_icmp .ge 51, 3) := by decide +kernel
theorem dX0_tableOf_10 : decode cX0_tableOf 10 = .ok (.iload_n 3, 1) := by decide +kernel
theorem dX0_tableOf_11 : decode cX0_tableOf 11 = .ok (.invokestatic 15, 3) := by decide +kernel
theorem dX0_tableOf_14 : decode cX0_tableOf 14 = .ok (.iload_n 0, 1) := by decide +kernel
theorem dX0_tableOf_15 : decode cX0_tableOf 15 = .ok (.invokestatic 21, 3) := by decide +kernel
theorem dX0_tableOf_18 : decode cX0_tableOf 18 = .ok (.ifCond .eq 11, 3) := by decide +kernel
theorem dX0_tableOf_21 : decode cX0_tableOf 21 = .ok (.lload_n 1, 1) := by decide +kernel
theorem dX0_tableOf_22 : decode cX0_tableOf 22 = .ok (.getstatic 29, 3) := by decide +kernel
theorem dX0_tableOf_25 : decode cX0_tableOf 25 = .ok (.iload_n 3, 1) := by decide +kernel
theorem dX0_tableOf_26 : decode cX0_tableOf 26 = .ok (.laload, 1) := by decide +kernel
theorem dX0_tableOf_27 : decode cX0_tableOf 27 = .ok (.lor, 1) := by decide +kernel
theorem dX0_tableOf_28 : decode cX0_tableOf 28 = .ok (.lstore_n 1, 1) := by decide +kernel
theorem dX0_tableOf_29 : decode cX0_tableOf 29 = .ok (.iload_n 3, 1) := by decide +kernel
theorem dX0_tableOf_30 : decode cX0_tableOf 30 = .ok (.invokestatic 18, 3) := by decide +kernel
theorem dX0_tableOf_33 : decode cX0_tableOf 33 = .ok (.iload_n 0, 1) := by decide +kernel
theorem dX0_tableOf_34 : decode cX0_tableOf 34 = .ok (.invokestatic 21, 3) := by decide +kernel
theorem dX0_tableOf_37 : decode cX0_tableOf 37 = .ok (.ifCond .eq 15, 3) := by decide +kernel
theorem dX0_tableOf_40 : decode cX0_tableOf 40 = .ok (.lload_n 1, 1) := by decide +kernel
theorem dX0_tableOf_41 : decode cX0_tableOf 41 = .ok (.getstatic 29, 3) := by decide +kernel
theorem dX0_tableOf_44 : decode cX0_tableOf 44 = .ok (.iload_n 3, 1) := by decide +kernel
theorem dX0_tableOf_45 : decode cX0_tableOf 45 = .ok (.laload, 1) := by decide +kernel
theorem dX0_tableOf_46 : decode cX0_tableOf 46 = .ok (.ldc2_w 33, 3) := by decide +kernel
theorem dX0_tableOf_49 : decode cX0_tableOf 49 = .ok (.lxor, 1) := by decide +kernel
theorem dX0_tableOf_50 : decode cX0_tableOf 50 = .ok (.lor, 1) := by decide +kernel
theorem dX0_tableOf_51 : decode cX0_tableOf 51 = .ok (.lstore_n 1, 1) := by decide +kernel
theorem dX0_tableOf_52 : decode cX0_tableOf 52 = .ok (.iinc 3 1, 3) := by decide +kernel
theorem dX0_tableOf_55 : decode cX0_tableOf 55 = .ok (.goto (-51), 3) := by decide +kernel
theorem dX0_tableOf_58 : decode cX0_tableOf 58 = .ok (.lload_n 1, 1) := by decide +kernel
theorem dX0_tableOf_59 : decode cX0_tableOf 59 = .ok (.lreturn, 1) := by decide +kernel
theorem dX1_init_0 : decode cX1_init 0 = .ok (.aload_n 0, 1) := by decide +kernel
theorem dX1_init_1 : decode cX1_init 1 = .ok (.invokespecial 3, 3) := by decide +kernel
theorem dX1_init_4 : decode cX1_init 4 = .ok (.aload_n 0, 1) := by decide +kernel
theorem dX1_init_5 : decode cX1_init 5 = .ok (.bipush 12, 2) := by decide +kernel
theorem dX1_init_7 : decode cX1_init 7 = .ok (.newarray .int, 2) := by decide +kernel
theorem dX1_init_9 : decode cX1_init 9 = .ok (.putfield 9, 3) := by decide +kernel
theorem dX1_init_12 : decode cX1_init 12 = .ok (.aload_n 0, 1) := by decide +kernel
theorem dX1_init_13 : decode cX1_init 13 = .ok (.bipush 12, 2) := by decide +kernel
theorem dX1_init_15 : decode cX1_init 15 = .ok (.newarray .int, 2) := by decide +kernel
theorem dX1_init_17 : decode cX1_init 17 = .ok (.putfield 15, 3) := by decide +kernel
theorem dX1_init_20 : decode cX1_init 20 = .ok (.aload_n 0, 1) := by decide +kernel
theorem dX1_init_21 : decode cX1_init 21 = .ok (.bipush 12, 2) := by decide +kernel
theorem dX1_init_23 : decode cX1_init 23 = .ok (.newarray .int, 2) := by decide +kernel
theorem dX1_init_25 : decode cX1_init 25 = .ok (.putfield 18, 3) := by decide +kernel
theorem dX1_init_28 : decode cX1_init 28 = .ok (.aload_n 0, 1) := by decide +kernel
theorem dX1_init_29 : decode cX1_init 29 = .ok (.bipush 12, 2) := by decide +kernel
theorem dX1_init_31 : decode cX1_init 31 = .ok (.newarray .int, 2) := by decide +kernel
theorem dX1_init_33 : decode cX1_init 33 = .ok (.putfield 21, 3) := by decide +kernel
theorem dX1_init_36 : decode cX1_init 36 = .ok (.aload_n 0, 1) := by decide +kernel
theorem dX1_init_37 : decode cX1_init 37 = .ok (.sipush 4096, 3) := by decide +kernel
theorem dX1_init_40 : decode cX1_init 40 = .ok (.newarray .byte, 2) := by decide +kernel
theorem dX1_init_42 : decode cX1_init 42 = .ok (.putfield 24, 3) := by decide +kernel
theorem dX1_init_45 : decode cX1_init 45 = .ok (.return_, 1) := by decide +kernel
set_option maxRecDepth 20000 in
theorem ggX1_arrange_X1_number : GoodIn wsX1_arrange wsX1_number := goodIn_r _ [12, 1, 13, 14, 15, 16, 17, 18, 19, 20, 21, 22, 23, 24, 25, 26, 27, 28, 29, 30, 31, 32, 33, 34, 35, 36, 37, 38, 11, 39, 40, 41, 42, 43, 68, 69, 70, 71, 72, 73, 74, 75, 76, 77, 78, 79, 80, 81] (by decide +kernel) (by decide +kernel)
set_option maxRecDepth 20000 in
theorem gX1_arrange_X1_number : GoodIn wsX1_arrange (wsV RX1 28 RX1 yX1_number wsX1_number) := goodIn_app (goodIn_of _ (by decide +kernel)) ggX1_arrange_X1_number
set_option maxRecDepth 20000 in
theorem ggX1_arrange_X1_keptOf : GoodIn wsX1_arrange wsX1_keptOf := goodIn_r _ [47, 1, 16, 68, 69, 70, 71, 72, 73, 74] (by decide +kernel) (by decide +kernel)
set_option maxRecDepth 20000 in
theorem gX1_arrange_X1_keptOf : GoodIn wsX1_arrange (wsV RX1 36 RX1 yX1_keptOf wsX1_keptOf) := goodIn_app (goodIn_of _ (by decide +kernel)) ggX1_arrange_X1_keptOf
set_option maxRecDepth 20000 in
theorem ggX1_arrange_X1_leastBehind : GoodIn wsX1_arrange wsX1_leastBehind := goodIn_r _ [51, 1, 2, 52, 53, 5, 54, 55, 56, 57, 11, 58, 15, 68, 69, 70, 71, 72, 73, 74] (by decide +kernel) (by decide +kernel)
set_option maxRecDepth 20000 in
theorem gX1_arrange_X1_leastBehind : GoodIn wsX1_arrange (wsV RX1 40 RX1 yX1_leastBehind wsX1_leastBehind) := goodIn_app (goodIn_of _ (by decide +kernel)) ggX1_arrange_X1_leastBehind
set_option maxRecDepth 20000 in
theorem ggX1_arrange_X1_fillRow : GoodIn wsX1_arrange wsX1_fillRow := goodIn_r _ [62, 1, 63, 14, 64, 65, 66, 11, 67, 2, 7, 55, 56, 57, 58, 15, 68, 69, 70, 71, 72, 73, 74] (by decide +kernel) (by decide +kernel)
set_option maxRecDepth 20000 in
theorem gX1_arrange_X1_fillRow : GoodIn wsX1_arrange (wsV RX1 52 RX1 yX1_fillRow wsX1_fillRow) := goodIn_app (goodIn_of _ (by decide +kernel)) ggX1_arrange_X1_fillRow
theorem dX1_arrange_0 : decode cX1_arrange 0 = .ok (.aload_n 0, 1) := by decide +kernel
theorem dX1_arrange_1 : decode cX1_arrange 1 = .ok (.aload_n 1, 1) := by decide +kernel
theorem dX1_arrange_2 : decode cX1_arrange 2 = .ok (.invokevirtual 28, 3) := by decide +kernel
theorem dX1_arrange_5 : decode cX1_arrange 5 = .ok (.iconst 1, 1) := by decide +kernel
theorem dX1_arrange_6 : decode cX1_arrange 6 = .ok (.aload_n 0, 1) := by decide +kernel
theorem dX1_arrange_7 : decode cX1_arrange 7 = .ok (.getfield 32, 3) := by decide +kernel
theorem dX1_arrange_10 : decode cX1_arrange 10 = .ok (.ishl, 1) := by decide +kernel
theorem dX1_arrange_11 : decode cX1_arrange 11 = .ok (.iconst 1, 1) := by decide +kernel
theorem dX1_arrange_12 : decode cX1_arrange 12 = .ok (.isub, 1) := by decide +kernel
theorem dX1_arrange_13 : decode cX1_arrange 13 = .ok (.istore_n 2, 1) := by decide +kernel
theorem dX1_arrange_14 : decode cX1_arrange 14 = .ok (.aload_n 0, 1) := by decide +kernel
theorem dX1_arrange_15 : decode cX1_arrange 15 = .ok (.getfield 24, 3) := by decide +kernel
theorem dX1_arrange_18 : decode cX1_arrange 18 = .ok (.iload_n 2, 1) := by decide +kernel
theorem dX1_arrange_19 : decode cX1_arrange 19 = .ok (.iconst 0, 1) := by decide +kernel
theorem dX1_arrange_20 : decode cX1_arrange 20 = .ok (.bastore, 1) := by decide +kernel
theorem dX1_arrange_21 : decode cX1_arrange 21 = .ok (.iload_n 2, 1) := by decide +kernel
theorem dX1_arrange_22 : decode cX1_arrange 22 = .ok (.iconst 1, 1) := by decide +kernel
theorem dX1_arrange_23 : decode cX1_arrange 23 = .ok (.isub, 1) := by decide +kernel
theorem dX1_arrange_24 : decode cX1_arrange 24 = .ok (.istore_n 3, 1) := by decide +kernel
theorem dX1_arrange_25 : decode cX1_arrange 25 = .ok (.iload_n 3, 1) := by decide +kernel
theorem dX1_arrange_26 : decode cX1_arrange 26 = .ok (.ifCond .lt 31, 3) := by decide +kernel
theorem dX1_arrange_29 : decode cX1_arrange 29 = .ok (.aload_n 0, 1) := by decide +kernel
theorem dX1_arrange_30 : decode cX1_arrange 30 = .ok (.getfield 24, 3) := by decide +kernel
theorem dX1_arrange_33 : decode cX1_arrange 33 = .ok (.iload_n 3, 1) := by decide +kernel
theorem dX1_arrange_34 : decode cX1_arrange 34 = .ok (.iconst 1, 1) := by decide +kernel
theorem dX1_arrange_35 : decode cX1_arrange 35 = .ok (.aload_n 0, 1) := by decide +kernel
theorem dX1_arrange_36 : decode cX1_arrange 36 = .ok (.iload_n 3, 1) := by decide +kernel
theorem dX1_arrange_37 : decode cX1_arrange 37 = .ok (.invokevirtual 36, 3) := by decide +kernel
theorem dX1_arrange_40 : decode cX1_arrange 40 = .ok (.iadd, 1) := by decide +kernel
theorem dX1_arrange_41 : decode cX1_arrange 41 = .ok (.aload_n 0, 1) := by decide +kernel
theorem dX1_arrange_42 : decode cX1_arrange 42 = .ok (.iload_n 3, 1) := by decide +kernel
theorem dX1_arrange_43 : decode cX1_arrange 43 = .ok (.invokevirtual 40, 3) := by decide +kernel
theorem dX1_arrange_46 : decode cX1_arrange 46 = .ok (.invokestatic 43, 3) := by decide +kernel
theorem dX1_arrange_49 : decode cX1_arrange 49 = .ok (.i2b, 1) := by decide +kernel
theorem dX1_arrange_50 : decode cX1_arrange 50 = .ok (.bastore, 1) := by decide +kernel
theorem dX1_arrange_51 : decode cX1_arrange 51 = .ok (.iinc 3 (-1), 3) := by decide +kernel
theorem dX1_arrange_54 : decode cX1_arrange 54 = .ok (.goto (-29), 3) := by decide +kernel
theorem dX1_arrange_57 : decode cX1_arrange 57 = .ok (.aload_n 0, 1) := by decide +kernel
theorem dX1_arrange_58 : decode cX1_arrange 58 = .ok (.aload_n 0, 1) := by decide +kernel
theorem dX1_arrange_59 : decode cX1_arrange 59 = .ok (.getfield 24, 3) := by decide +kernel
theorem dX1_arrange_62 : decode cX1_arrange 62 = .ok (.iconst 0, 1) := by decide +kernel
theorem dX1_arrange_63 : decode cX1_arrange 63 = .ok (.baload, 1) := by decide +kernel
theorem dX1_arrange_64 : decode cX1_arrange 64 = .ok (.putfield 49, 3) := by decide +kernel
theorem dX1_arrange_67 : decode cX1_arrange 67 = .ok (.aload_n 0, 1) := by decide +kernel
theorem dX1_arrange_68 : decode cX1_arrange 68 = .ok (.invokevirtual 52, 3) := by decide +kernel
theorem dX1_arrange_71 : decode cX1_arrange 71 = .ok (.return_, 1) := by decide +kernel
set_option maxRecDepth 20000 in
theorem ggX1_number_X2_restSet : GoodIn wsX1_number wsX2_restSet := goodIn_r _ [10, 11, 12, 13, 14, 9, 15, 16, 17, 18, 19, 20, 21, 22, 23, 24, 41, 42, 43, 44, 45, 46, 47] (by decide +kernel) (by decide +kernel)
set_option maxRecDepth 20000 in
theorem gX1_number_X2_restSet : GoodIn wsX1_number (wsV RX1 55 RX2 yX2_restSet wsX2_restSet) := goodIn_app (goodIn_of _ (by decide +kernel)) ggX1_number_X2_restSet
set_option maxRecDepth 20000 in
theorem ggX1_number_X9_isIn : GoodIn wsX1_number wsX9_isIn := goodIn_r _ [20] (by decide +kernel) (by decide +kernel)
set_option maxRecDepth 20000 in
theorem gX1_number_X9_isIn_n64 : GoodIn wsX1_number (wsX9_isIn) := ggX1_number_X9_isIn
set_option maxRecDepth 20000 in
theorem ggX1_number_X1_linkTo : GoodIn wsX1_number wsX1_linkTo := goodIn_r _ [29, 3, 4, 5, 30, 31, 32, 9, 33, 16, 17, 21, 22, 23, 24, 34, 35, 36, 37, 38, 39, 40, 41, 42, 43, 44, 45, 46, 47] (by decide +kernel) (by decide +kernel)
set_option maxRecDepth 20000 in
theorem gX1_number_X1_linkTo : GoodIn wsX1_number (wsV RX1 68 RX1 yX1_linkTo wsX1_linkTo) := goodIn_app (goodIn_of _ (by decide +kernel)) ggX1_number_X1_linkTo
theorem dX1_number_0 : decode cX1_number 0 = .ok (.aload_n 1, 1) := by decide +kernel
theorem dX1_number_1 : decode cX1_number 1 = .ok (.invokevirtual 55, 3) := by decide +kernel
theorem dX1_number_4 : decode cX1_number 4 = .ok (.lstore_n 2, 1) := by decide +kernel
theorem dX1_number_5 : decode cX1_number 5 = .ok (.aload_n 0, 1) := by decide +kernel
theorem dX1_number_6 : decode cX1_number 6 = .ok (.iconst 0, 1) := by decide +kernel
theorem dX1_number_7 : decode cX1_number 7 = .ok (.putfield 32, 3) := by decide +kernel
theorem dX1_number_10 : decode cX1_number 10 = .ok (.iconst 0, 1) := by decide +kernel
theorem dX1_number_11 : decode cX1_number 11 = .ok (.istore 4, 2) := by decide +kernel
theorem dX1_number_13 : decode cX1_number 13 = .ok (.iload 4, 2) := by decide +kernel
theorem dX1_number_15 : decode cX1_number 15 = .ok (.aload_n 1, 1) := by decide +kernel
theorem dX1_number_16 : decode cX1_number 16 = .ok (.getfield 61, 3) := by decide +kernel
theorem dX1_number_19 : decode cX1_number 19 = .ok (.if_icmp .ge 77, 3) := by decide +kernel
theorem dX1_number_22 : decode cX1_number 22 = .ok (.iload 4, 2) := by decide +kernel
theorem dX1_number_24 : decode cX1_number 24 = .ok (.lload_n 2, 1) := by decide +kernel
theorem dX1_number_25 : decode cX1_number 25 = .ok (.invokestatic 64, 3) := by decide +kernel
theorem dX1_number_28 : decode cX1_number 28 = .ok (.ifCond .eq 62, 3) := by decide +kernel
theorem dX1_number_31 : decode cX1_number 31 = .ok (.aload_n 0, 1) := by decide +kernel
theorem dX1_number_32 : decode cX1_number 32 = .ok (.getfield 32, 3) := by decide +kernel
theorem dX1_number_35 : decode cX1_number 35 = .ok (.bipush 12, 2) := by decide +kernel
theorem dX1_number_37 : decode cX1_number 37 = .ok (.if_icmp .ge 53, 3) := by decide +kernel
theorem dX1_number_40 : decode cX1_number 40 = .ok (.aload_n 0, 1) := by decide +kernel
theorem dX1_number_41 : decode cX1_number 41 = .ok (.getfield 15, 3) := by decide +kernel
theorem dX1_number_44 : decode cX1_number 44 = .ok (.aload_n 0, 1) := by decide +kernel
theorem dX1_number_45 : decode cX1_number 45 = .ok (.getfield 32, 3) := by decide +kernel
theorem dX1_number_48 : decode cX1_number 48 = .ok (.iload 4, 2) := by decide +kernel
theorem dX1_number_50 : decode cX1_number 50 = .ok (.iastore, 1) := by decide +kernel
theorem dX1_number_51 : decode cX1_number 51 = .ok (.aload_n 0, 1) := by decide +kernel
theorem dX1_number_52 : decode cX1_number 52 = .ok (.getfield 18, 3) := by decide +kernel
theorem dX1_number_55 : decode cX1_number 55 = .ok (.aload_n 0, 1) := by decide +kernel
theorem dX1_number_56 : decode cX1_number 56 = .ok (.getfield 32, 3) := by decide +kernel
theorem dX1_number_59 : decode cX1_number 59 = .ok (.iconst 0, 1) := by decide +kernel
theorem dX1_number_60 : decode cX1_number 60 = .ok (.iastore, 1) := by decide +kernel
theorem dX1_number_61 : decode cX1_number 61 = .ok (.aload_n 0, 1) := by decide +kernel
theorem dX1_number_62 : decode cX1_number 62 = .ok (.getfield 21, 3) := by decide +kernel
theorem dX1_number_65 : decode cX1_number 65 = .ok (.aload_n 0, 1) := by decide +kernel
theorem dX1_number_66 : decode cX1_number 66 = .ok (.getfield 32, 3) := by decide +kernel
theorem dX1_number_69 : decode cX1_number 69 = .ok (.iconst 0, 1) := by decide +kernel
theorem dX1_number_70 : decode cX1_number 70 = .ok (.iastore, 1) := by decide +kernel
theorem dX1_number_71 : decode cX1_number 71 = .ok (.aload_n 0, 1) := by decide +kernel
theorem dX1_number_72 : decode cX1_number 72 = .ok (.aload_n 1, 1) := by decide +kernel
theorem dX1_number_73 : decode cX1_number 73 = .ok (.aload_n 0, 1) := by decide +kernel
theorem dX1_number_74 : decode cX1_number 74 = .ok (.getfield 32, 3) := by decide +kernel
theorem dX1_number_77 : decode cX1_number 77 = .ok (.invokevirtual 68, 3) := by decide +kernel
theorem dX1_number_80 : decode cX1_number 80 = .ok (.aload_n 0, 1) := by decide +kernel
theorem dX1_number_81 : decode cX1_number 81 = .ok (.dup, 1) := by decide +kernel
theorem dX1_number_82 : decode cX1_number 82 = .ok (.getfield 32, 3) := by decide +kernel
theorem dX1_number_85 : decode cX1_number 85 = .ok (.iconst 1, 1) := by decide +kernel
theorem dX1_number_86 : decode cX1_number 86 = .ok (.iadd, 1) := by decide +kernel
theorem dX1_number_87 : decode cX1_number 87 = .ok (.putfield 32, 3) := by decide +kernel
theorem dX1_number_90 : decode cX1_number 90 = .ok (.iinc 4 1, 3) := by decide +kernel
theorem dX1_number_93 : decode cX1_number 93 = .ok (.goto (-80), 3) := by decide +kernel
theorem dX1_number_96 : decode cX1_number 96 = .ok (.return_, 1) := by decide +kernel
set_option maxRecDepth 20000 in
theorem ggX1_linkTo_X2_isCutFrom : GoodIn wsX1_linkTo wsX2_isCutFrom := goodIn_r _ [8, 9, 10, 11, 12, 13, 7, 14, 22, 23, 24, 25, 26, 27, 28] (by decide +kernel) (by decide +kernel)
set_option maxRecDepth 20000 in
theorem gX1_linkTo_X2_isCutFrom : GoodIn wsX1_linkTo (wsV RX1 72 RX2 yX2_isCutFrom wsX2_isCutFrom) := goodIn_app (goodIn_of _ (by decide +kernel)) ggX1_linkTo_X2_isCutFrom
theorem dX1_linkTo_0 : decode cX1_linkTo 0 = .ok (.iconst 0, 1) := by decide +kernel
theorem dX1_linkTo_1 : decode cX1_linkTo 1 = .ok (.istore_n 3, 1) := by decide +kernel
theorem dX1_linkTo_2 : decode cX1_linkTo 2 = .ok (.iload_n 3, 1) := by decide +kernel
theorem dX1_linkTo_3 : decode cX1_linkTo 3 = .ok (.iload_n 2, 1) := by decide +kernel
theorem dX1_linkTo_4 : decode cX1_linkTo 4 = .ok (.if_icmp .ge 52, 3) := by decide +kernel
theorem dX1_linkTo_7 : decode cX1_linkTo 7 = .ok (.aload_n 1, 1) := by decide +kernel
theorem dX1_linkTo_8 : decode cX1_linkTo 8 = .ok (.aload_n 0, 1) := by decide +kernel
theorem dX1_linkTo_9 : decode cX1_linkTo 9 = .ok (.getfield 15, 3) := by decide +kernel
theorem dX1_linkTo_12 : decode cX1_linkTo 12 = .ok (.iload_n 2, 1) := by decide +kernel
theorem dX1_linkTo_13 : decode cX1_linkTo 13 = .ok (.iaload, 1) := by decide +kernel
theorem dX1_linkTo_14 : decode cX1_linkTo 14 = .ok (.aload_n 0, 1) := by decide +kernel
theorem dX1_linkTo_15 : decode cX1_linkTo 15 = .ok (.getfield 15, 3) := by decide +kernel
theorem dX1_linkTo_18 : decode cX1_linkTo 18 = .ok (.iload_n 3, 1) := by decide +kernel
theorem dX1_linkTo_19 : decode cX1_linkTo 19 = .ok (.iaload, 1) := by decide +kernel
theorem dX1_linkTo_20 : decode cX1_linkTo 20 = .ok (.invokevirtual 72, 3) := by decide +kernel
theorem dX1_linkTo_23 : decode cX1_linkTo 23 = .ok (.ifCond .eq 27, 3) := by decide +kernel
theorem dX1_linkTo_26 : decode cX1_linkTo 26 = .ok (.aload_n 0, 1) := by decide +kernel
theorem dX1_linkTo_27 : decode cX1_linkTo 27 = .ok (.getfield 18, 3) := by decide +kernel
theorem dX1_linkTo_30 : decode cX1_linkTo 30 = .ok (.iload_n 2, 1) := by decide +kernel
theorem dX1_linkTo_31 : decode cX1_linkTo 31 = .ok (.dup2, 1) := by decide +kernel
theorem dX1_linkTo_32 : decode cX1_linkTo 32 = .ok (.iaload, 1) := by decide +kernel
theorem dX1_linkTo_33 : decode cX1_linkTo 33 = .ok (.iconst 1, 1) := by decide +kernel
theorem dX1_linkTo_34 : decode cX1_linkTo 34 = .ok (.iload_n 3, 1) := by decide +kernel
theorem dX1_linkTo_35 : decode cX1_linkTo 35 = .ok (.ishl, 1) := by decide +kernel
theorem dX1_linkTo_36 : decode cX1_linkTo 36 = .ok (.ior, 1) := by decide +kernel
theorem dX1_linkTo_37 : decode cX1_linkTo 37 = .ok (.iastore, 1) := by decide +kernel
theorem dX1_linkTo_38 : decode cX1_linkTo 38 = .ok (.aload_n 0, 1) := by decide +kernel
theorem dX1_linkTo_39 : decode cX1_linkTo 39 = .ok (.getfield 21, 3) := by decide +kernel
theorem dX1_linkTo_42 : decode cX1_linkTo 42 = .ok (.iload_n 3, 1) := by decide +kernel
theorem dX1_linkTo_43 : decode cX1_linkTo 43 = .ok (.dup2, 1) := by decide +kernel
theorem dX1_linkTo_44 : decode cX1_linkTo 44 = .ok (.iaload, 1) := by decide +kernel
theorem dX1_linkTo_45 : decode cX1_linkTo 45 = .ok (.iconst 1, 1) := by decide +kernel
theorem dX1_linkTo_46 : decode cX1_linkTo 46 = .ok (.iload_n 2, 1) := by decide +kernel
theorem dX1_linkTo_47 : decode cX1_linkTo 47 = .ok (.ishl, 1) := by decide +kernel
theorem dX1_linkTo_48 : decode cX1_linkTo 48 = .ok (.ior, 1) := by decide +kernel
theorem dX1_linkTo_49 : decode cX1_linkTo 49 = .ok (.iastore, 1) := by decide +kernel
theorem dX1_linkTo_50 : decode cX1_linkTo 50 = .ok (.iinc 3 1, 3) := by decide +kernel
theorem dX1_linkTo_53 : decode cX1_linkTo 53 = .ok (.goto (-51), 3) := by decide +kernel
theorem dX1_linkTo_56 : decode cX1_linkTo 56 = .ok (.return_, 1) := by decide +kernel
theorem dX1_keptOf_0 : decode cX1_keptOf 0 = .ok (.iconst 0, 1) := by decide +kernel
theorem dX1_keptOf_1 : decode cX1_keptOf 1 = .ok (.istore_n 2, 1) := by decide +kernel
theorem dX1_keptOf_2 : decode cX1_keptOf 2 = .ok (.iconst 0, 1) := by decide +kernel
theorem dX1_keptOf_3 : decode cX1_keptOf 3 = .ok (.istore_n 3, 1) := by decide +kernel
theorem dX1_keptOf_4 : decode cX1_keptOf 4 = .ok (.iload_n 3, 1) := by decide +kernel
theorem dX1_keptOf_5 : decode cX1_keptOf 5 = .ok (.aload_n 0, 1) := by decide +kernel
theorem dX1_keptOf_6 : decode cX1_keptOf 6 = .ok (.getfield 32, 3) := by decide +kernel
theorem dX1_keptOf_9 : decode cX1_keptOf 9 = .ok (.if_icmp .ge 33, 3) := by decide +kernel
theorem dX1_keptOf_12 : decode cX1_keptOf 12 = .ok (.iload_n 1, 1) := by decide +kernel
theorem dX1_keptOf_13 : decode cX1_keptOf 13 = .ok (.iload_n 3, 1) := by decide +kernel
theorem dX1_keptOf_14 : decode cX1_keptOf 14 = .ok (.ishr, 1) := by decide +kernel
theorem dX1_keptOf_15 : decode cX1_keptOf 15 = .ok (.iconst 1, 1) := by decide +kernel
theorem dX1_keptOf_16 : decode cX1_keptOf 16 = .ok (.iand, 1) := by decide +kernel
theorem dX1_keptOf_17 : decode cX1_keptOf 17 = .ok (.ifCond .eq 19, 3) := by decide +kernel
theorem dX1_keptOf_20 : decode cX1_keptOf 20 = .ok (.aload_n 0, 1) := by decide +kernel
theorem dX1_keptOf_21 : decode cX1_keptOf 21 = .ok (.getfield 21, 3) := by decide +kernel
theorem dX1_keptOf_24 : decode cX1_keptOf 24 = .ok (.iload_n 3, 1) := by decide +kernel
theorem dX1_keptOf_25 : decode cX1_keptOf 25 = .ok (.iaload, 1) := by decide +kernel
theorem dX1_keptOf_26 : decode cX1_keptOf 26 = .ok (.iload_n 1, 1) := by decide +kernel
theorem dX1_keptOf_27 : decode cX1_keptOf 27 = .ok (.iconst (-1), 1) := by decide +kernel
theorem dX1_keptOf_28 : decode cX1_keptOf 28 = .ok (.ixor, 1) := by decide +kernel
theorem dX1_keptOf_29 : decode cX1_keptOf 29 = .ok (.iand, 1) := by decide +kernel
theorem dX1_keptOf_30 : decode cX1_keptOf 30 = .ok (.ifCond .eq 6, 3) := by decide +kernel
theorem dX1_keptOf_33 : decode cX1_keptOf 33 = .ok (.iinc 2 1, 3) := by decide +kernel
theorem dX1_keptOf_36 : decode cX1_keptOf 36 = .ok (.iinc 3 1, 3) := by decide +kernel
theorem dX1_keptOf_39 : decode cX1_keptOf 39 = .ok (.goto (-35), 3) := by decide +kernel
theorem dX1_keptOf_42 : decode cX1_keptOf 42 = .ok (.iload_n 2, 1) := by decide +kernel
theorem dX1_keptOf_43 : decode cX1_keptOf 43 = .ok (.ireturn, 1) := by decide +kernel
theorem dX1_mayCome_0 : decode cX1_mayCome 0 = .ok (.iload_n 2, 1) := by decide +kernel
theorem dX1_mayCome_1 : decode cX1_mayCome 1 = .ok (.iload_n 1, 1) := by decide +kernel
theorem dX1_mayCome_2 : decode cX1_mayCome 2 = .ok (.ishr, 1) := by decide +kernel
theorem dX1_mayCome_3 : decode cX1_mayCome 3 = .ok (.iconst 1, 1) := by decide +kernel
theorem dX1_mayCome_4 : decode cX1_mayCome 4 = .ok (.iand, 1) := by decide +kernel
theorem dX1_mayCome_5 : decode cX1_mayCome 5 = .ok (.ifCond .ne 20, 3) := by decide +kernel
theorem dX1_mayCome_8 : decode cX1_mayCome 8 = .ok (.aload_n 0, 1) := by decide +kernel
theorem dX1_mayCome_9 : decode cX1_mayCome 9 = .ok (.getfield 18, 3) := by decide +kernel
theorem dX1_mayCome_12 : decode cX1_mayCome 12 = .ok (.iload_n 1, 1) := by decide +kernel
theorem dX1_mayCome_13 : decode cX1_mayCome 13 = .ok (.iaload, 1) := by decide +kernel
theorem dX1_mayCome_14 : decode cX1_mayCome 14 = .ok (.iload_n 2, 1) := by decide +kernel
theorem dX1_mayCome_15 : decode cX1_mayCome 15 = .ok (.iconst (-1), 1) := by decide +kernel
theorem dX1_mayCome_16 : decode cX1_mayCome 16 = .ok (.ixor, 1) := by decide +kernel
theorem dX1_mayCome_17 : decode cX1_mayCome 17 = .ok (.iand, 1) := by decide +kernel
theorem dX1_mayCome_18 : decode cX1_mayCome 18 = .ok (.ifCond .ne 7, 3) := by decide +kernel
theorem dX1_mayCome_21 : decode cX1_mayCome 21 = .ok (.iconst 1, 1) := by decide +kernel
theorem dX1_mayCome_22 : decode cX1_mayCome 22 = .ok (.goto 4, 3) := by decide +kernel
theorem dX1_mayCome_25 : decode cX1_mayCome 25 = .ok (.iconst 0, 1) := by decide +kernel
theorem dX1_mayCome_26 : decode cX1_mayCome 26 = .ok (.ireturn, 1) := by decide +kernel
set_option maxRecDepth 20000 in
theorem ggX1_leastBehind_X1_mayCome : GoodIn wsX1_leastBehind wsX1_mayCome := goodIn_r _ [11, 12, 13, 14, 15, 16, 17, 18, 19] (by decide +kernel) (by decide +kernel)
set_option maxRecDepth 20000 in
theorem gX1_leastBehind_X1_mayCome : GoodIn wsX1_leastBehind (wsV RX1 76 RX1 yX1_mayCome wsX1_mayCome) := goodIn_app (goodIn_of _ (by decide +kernel)) ggX1_leastBehind_X1_mayCome
theorem dX1_leastBehind_0 : decode cX1_leastBehind 0 = .ok (.bipush 99, 2) := by decide +kernel
theorem dX1_leastBehind_2 : decode cX1_leastBehind 2 = .ok (.istore_n 2, 1) := by decide +kernel
theorem dX1_leastBehind_3 : decode cX1_leastBehind 3 = .ok (.iconst 0, 1) := by decide +kernel
theorem dX1_leastBehind_4 : decode cX1_leastBehind 4 = .ok (.istore_n 3, 1) := by decide +kernel
theorem dX1_leastBehind_5 : decode cX1_leastBehind 5 = .ok (.iload_n 3, 1) := by decide +kernel
theorem dX1_leastBehind_6 : decode cX1_leastBehind 6 = .ok (.aload_n 0, 1) := by decide +kernel
theorem dX1_leastBehind_7 : decode cX1_leastBehind 7 = .ok (.getfield 32, 3) := by decide +kernel
theorem dX1_leastBehind_10 : decode cX1_leastBehind 10 = .ok (.if_icmp .ge 33, 3) := by decide +kernel
theorem dX1_leastBehind_13 : decode cX1_leastBehind 13 = .ok (.aload_n 0, 1) := by decide +kernel
theorem dX1_leastBehind_14 : decode cX1_leastBehind 14 = .ok (.iload_n 3, 1) := by decide +kernel
theorem dX1_leastBehind_15 : decode cX1_leastBehind 15 = .ok (.iload_n 1, 1) := by decide +kernel
theorem dX1_leastBehind_16 : decode cX1_leastBehind 16 = .ok (.invokevirtual 76, 3) := by decide +kernel
theorem dX1_leastBehind_19 : decode cX1_leastBehind 19 = .ok (.ifCond .eq 18, 3) := by decide +kernel
theorem dX1_leastBehind_22 : decode cX1_leastBehind 22 = .ok (.iload_n 2, 1) := by decide +kernel
theorem dX1_leastBehind_23 : decode cX1_leastBehind 23 = .ok (.aload_n 0, 1) := by decide +kernel
theorem dX1_leastBehind_24 : decode cX1_leastBehind 24 = .ok (.getfield 24, 3) := by decide +kernel
theorem dX1_leastBehind_27 : decode cX1_leastBehind 27 = .ok (.iload_n 1, 1) := by decide +kernel
theorem dX1_leastBehind_28 : decode cX1_leastBehind 28 = .ok (.iconst 1, 1) := by decide +kernel
theorem dX1_leastBehind_29 : decode cX1_leastBehind 29 = .ok (.iload_n 3, 1) := by decide +kernel
theorem dX1_leastBehind_30 : decode cX1_leastBehind 30 = .ok (.ishl, 1) := by decide +kernel
theorem dX1_leastBehind_31 : decode cX1_leastBehind 31 = .ok (.ior, 1) := by decide +kernel
theorem dX1_leastBehind_32 : decode cX1_leastBehind 32 = .ok (.baload, 1) := by decide +kernel
theorem dX1_leastBehind_33 : decode cX1_leastBehind 33 = .ok (.invokestatic 79, 3) := by decide +kernel
theorem dX1_leastBehind_36 : decode cX1_leastBehind 36 = .ok (.istore_n 2, 1) := by decide +kernel
theorem dX1_leastBehind_37 : decode cX1_leastBehind 37 = .ok (.iinc 3 1, 3) := by decide +kernel
theorem dX1_leastBehind_40 : decode cX1_leastBehind 40 = .ok (.goto (-35), 3) := by decide +kernel
theorem dX1_leastBehind_43 : decode cX1_leastBehind 43 = .ok (.iload_n 2, 1) := by decide +kernel
theorem dX1_leastBehind_44 : decode cX1_leastBehind 44 = .ok (.ireturn, 1) := by decide +kernel
set_option maxRecDepth 20000 in
theorem ggX1_fillRow_X1_firstOf : GoodIn wsX1_fillRow wsX1_firstOf := goodIn_r _ [8, 1, 9, 10, 11, 12, 13, 7, 14, 15, 16, 17, 18, 19, 20, 21, 22] (by decide +kernel) (by decide +kernel)
set_option maxRecDepth 20000 in
theorem gX1_fillRow_X1_firstOf : GoodIn wsX1_fillRow (wsV RX1 82 RX1 yX1_firstOf wsX1_firstOf) := goodIn_app (goodIn_of _ (by decide +kernel)) ggX1_fillRow_X1_firstOf
theorem dX1_fillRow_0 : decode cX1_fillRow 0 = .ok (.iconst 0, 1) := by decide +kernel
theorem dX1_fillRow_1 : decode cX1_fillRow 1 = .ok (.istore_n 1, 1) := by decide +kernel
theorem dX1_fillRow_2 : decode cX1_fillRow 2 = .ok (.iconst 0, 1) := by decide +kernel
theorem dX1_fillRow_3 : decode cX1_fillRow 3 = .ok (.istore_n 2, 1) := by decide +kernel
theorem dX1_fillRow_4 : decode cX1_fillRow 4 = .ok (.iload_n 2, 1) := by decide +kernel
theorem dX1_fillRow_5 : decode cX1_fillRow 5 = .ok (.aload_n 0, 1) := by decide +kernel
theorem dX1_fillRow_6 : decode cX1_fillRow 6 = .ok (.getfield 32, 3) := by decide +kernel
theorem dX1_fillRow_9 : decode cX1_fillRow 9 = .ok (.if_icmp .ge 33, 3) := by decide +kernel
theorem dX1_fillRow_12 : decode cX1_fillRow 12 = .ok (.aload_n 0, 1) := by decide +kernel
theorem dX1_fillRow_13 : decode cX1_fillRow 13 = .ok (.iload_n 1, 1) := by decide +kernel
theorem dX1_fillRow_14 : decode cX1_fillRow 14 = .ok (.invokevirtual 82, 3) := by decide +kernel
theorem dX1_fillRow_17 : decode cX1_fillRow 17 = .ok (.istore_n 3, 1) := by decide +kernel
theorem dX1_fillRow_18 : decode cX1_fillRow 18 = .ok (.aload_n 0, 1) := by decide +kernel
theorem dX1_fillRow_19 : decode cX1_fillRow 19 = .ok (.getfield 9, 3) := by decide +kernel
theorem dX1_fillRow_22 : decode cX1_fillRow 22 = .ok (.iload_n 2, 1) := by decide +kernel
theorem dX1_fillRow_23 : decode cX1_fillRow 23 = .ok (.aload_n 0, 1) := by decide +kernel
theorem dX1_fillRow_24 : decode cX1_fillRow 24 = .ok (.getfield 15, 3) := by decide +kernel
theorem dX1_fillRow_27 : decode cX1_fillRow 27 = .ok (.iload_n 3, 1) := by decide +kernel
theorem dX1_fillRow_28 : decode cX1_fillRow 28 = .ok (.iaload, 1) := by decide +kernel
theorem dX1_fillRow_29 : decode cX1_fillRow 29 = .ok (.iastore, 1) := by decide +kernel
theorem dX1_fillRow_30 : decode cX1_fillRow 30 = .ok (.iload_n 1, 1) := by decide +kernel
theorem dX1_fillRow_31 : decode cX1_fillRow 31 = .ok (.iconst 1, 1) := by decide +kernel
theorem dX1_fillRow_32 : decode cX1_fillRow 32 = .ok (.iload_n 3, 1) := by decide +kernel
theorem dX1_fillRow_33 : decode cX1_fillRow 33 = .ok (.ishl, 1) := by decide +kernel
theorem dX1_fillRow_34 : decode cX1_fillRow 34 = .ok (.ior, 1) := by decide +kernel
theorem dX1_fillRow_35 : decode cX1_fillRow 35 = .ok (.istore_n 1, 1) := by decide +kernel
theorem dX1_fillRow_36 : decode cX1_fillRow 36 = .ok (.iinc 2 1, 3) := by decide +kernel
theorem dX1_fillRow_39 : decode cX1_fillRow 39 = .ok (.goto (-35), 3) := by decide +kernel
theorem dX1_fillRow_42 : decode cX1_fillRow 42 = .ok (.return_, 1) := by decide +kernel
set_option maxRecDepth 20000 in
theorem ggX1_firstOf_X1_mayCome : GoodIn wsX1_firstOf wsX1_mayCome := goodIn_r _ [8, 9, 10, 11, 12, 13, 14, 15, 16] (by decide +kernel) (by decide +kernel)
set_option maxRecDepth 20000 in
theorem gX1_firstOf_X1_mayCome : GoodIn wsX1_firstOf (wsV RX1 76 RX1 yX1_mayCome wsX1_mayCome) := goodIn_app (goodIn_of _ (by decide +kernel)) ggX1_firstOf_X1_mayCome
theorem dX1_firstOf_0 : decode cX1_firstOf 0 = .ok (.iconst 0, 1) := by decide +kernel
theorem dX1_firstOf_1 : decode cX1_firstOf 1 = .ok (.istore_n 2, 1) := by decide +kernel
theorem dX1_firstOf_2 : decode cX1_firstOf 2 = .ok (.iload_n 2, 1) := by decide +kernel
theorem dX1_firstOf_3 : decode cX1_firstOf 3 = .ok (.aload_n 0, 1) := by decide +kernel
theorem dX1_firstOf_4 : decode cX1_firstOf 4 = .ok (.getfield 32, 3) := by decide +kernel
theorem dX1_firstOf_7 : decode cX1_firstOf 7 = .ok (.if_icmp .ge 37, 3) := by decide +kernel
theorem dX1_firstOf_10 : decode cX1_firstOf 10 = .ok (.aload_n 0, 1) := by decide +kernel
theorem dX1_firstOf_11 : decode cX1_firstOf 11 = .ok (.iload_n 2, 1) := by decide +kernel
theorem dX1_firstOf_12 : decode cX1_firstOf 12 = .ok (.iload_n 1, 1) := by decide +kernel
theorem dX1_firstOf_13 : decode cX1_firstOf 13 = .ok (.invokevirtual 76, 3) := by decide +kernel
theorem dX1_firstOf_16 : decode cX1_firstOf 16 = .ok (.ifCond .eq 22, 3) := by decide +kernel
theorem dX1_firstOf_19 : decode cX1_firstOf 19 = .ok (.aload_n 0, 1) := by decide +kernel
theorem dX1_firstOf_20 : decode cX1_firstOf 20 = .ok (.getfield 24, 3) := by decide +kernel
theorem dX1_firstOf_23 : decode cX1_firstOf 23 = .ok (.iload_n 1, 1) := by decide +kernel
theorem dX1_firstOf_24 : decode cX1_firstOf 24 = .ok (.iconst 1, 1) := by decide +kernel
theorem dX1_firstOf_25 : decode cX1_firstOf 25 = .ok (.iload_n 2, 1) := by decide +kernel
theorem dX1_firstOf_26 : decode cX1_firstOf 26 = .ok (.ishl, 1) := by decide +kernel
theorem dX1_firstOf_27 : decode cX1_firstOf 27 = .ok (.ior, 1) := by decide +kernel
theorem dX1_firstOf_28 : decode cX1_firstOf 28 = .ok (.baload, 1) := by decide +kernel
theorem dX1_firstOf_29 : decode cX1_firstOf 29 = .ok (.aload_n 0, 1) := by decide +kernel
theorem dX1_firstOf_30 : decode cX1_firstOf 30 = .ok (.getfield 49, 3) := by decide +kernel
theorem dX1_firstOf_33 : decode cX1_firstOf 33 = .ok (.if_icmp .gt 5, 3) := by decide +kernel
theorem dX1_firstOf_36 : decode cX1_firstOf 36 = .ok (.iload_n 2, 1) := by decide +kernel
theorem dX1_firstOf_37 : decode cX1_firstOf 37 = .ok (.ireturn, 1) := by decide +kernel
theorem dX1_firstOf_38 : decode cX1_firstOf 38 = .ok (.iinc 2 1, 3) := by decide +kernel
theorem dX1_firstOf_41 : decode cX1_firstOf 41 = .ok (.goto (-39), 3) := by decide +kernel
theorem dX1_firstOf_44 : decode cX1_firstOf 44 = .ok (.iconst 0, 1) := by decide +kernel
theorem dX1_firstOf_45 : decode cX1_firstOf 45 = .ok (.ireturn, 1) := by decide +kernel
theorem dX2_init_0 : decode cX2_init 0 = .ok (.aload_n 0, 1) := by decide +kernel
theorem dX2_init_1 : decode cX2_init 1 = .ok (.invokespecial 3, 3) := by decide +kernel
theorem dX2_init_4 : decode cX2_init 4 = .ok (.aload_n 0, 1) := by decide +kernel
theorem dX2_init_5 : decode cX2_init 5 = .ok (.bipush 48, 2) := by decide +kernel
theorem dX2_init_7 : decode cX2_init 7 = .ok (.newarray .int, 2) := by decide +kernel
theorem dX2_init_9 : decode cX2_init 9 = .ok (.putfield 9, 3) := by decide +kernel
theorem dX2_init_12 : decode cX2_init 12 = .ok (.aload_n 0, 1) := by decide +kernel
theorem dX2_init_13 : decode cX2_init 13 = .ok (.bipush 48, 2) := by decide +kernel
theorem dX2_init_15 : decode cX2_init 15 = .ok (.newarray .int, 2) := by decide +kernel
theorem dX2_init_17 : decode cX2_init 17 = .ok (.putfield 15, 3) := by decide +kernel
theorem dX2_init_20 : decode cX2_init 20 = .ok (.aload_n 0, 1) := by decide +kernel
theorem dX2_init_21 : decode cX2_init 21 = .ok (.bipush 48, 2) := by decide +kernel
theorem dX2_init_23 : decode cX2_init 23 = .ok (.newarray .int, 2) := by decide +kernel
theorem dX2_init_25 : decode cX2_init 25 = .ok (.putfield 18, 3) := by decide +kernel
theorem dX2_init_28 : decode cX2_init 28 = .ok (.aload_n 0, 1) := by decide +kernel
theorem dX2_init_29 : decode cX2_init 29 = .ok (.bipush 48, 2) := by decide +kernel
theorem dX2_init_31 : decode cX2_init 31 = .ok (.newarray .int, 2) := by decide +kernel
theorem dX2_init_33 : decode cX2_init 33 = .ok (.putfield 21, 3) := by decide +kernel
theorem dX2_init_36 : decode cX2_init 36 = .ok (.aload_n 0, 1) := by decide +kernel
theorem dX2_init_37 : decode cX2_init 37 = .ok (.bipush 48, 2) := by decide +kernel
theorem dX2_init_39 : decode cX2_init 39 = .ok (.newarray .int, 2) := by decide +kernel
theorem dX2_init_41 : decode cX2_init 41 = .ok (.putfield 24, 3) := by decide +kernel
theorem dX2_init_44 : decode cX2_init 44 = .ok (.return_, 1) := by decide +kernel
theorem dX2_clear_0 : decode cX2_clear 0 = .ok (.aload_n 0, 1) := by decide +kernel
theorem dX2_clear_1 : decode cX2_clear 1 = .ok (.iconst 0, 1) := by decide +kernel
theorem dX2_clear_2 : decode cX2_clear 2 = .ok (.putfield 27, 3) := by decide +kernel
theorem dX2_clear_5 : decode cX2_clear 5 = .ok (.aload_n 0, 1) := by decide +kernel
theorem dX2_clear_6 : decode cX2_clear 6 = .ok (.iconst 0, 1) := by decide +kernel
theorem dX2_clear_7 : decode cX2_clear 7 = .ok (.putfield 31, 3) := by decide +kernel
theorem dX2_clear_10 : decode cX2_clear 10 = .ok (.return_, 1) := by decide +kernel
theorem dX2_isGround_0 : decode cX2_isGround 0 = .ok (.aload_n 0, 1) := by decide +kernel
theorem dX2_isGround_1 : decode cX2_isGround 1 = .ok (.getfield 15, 3) := by decide +kernel
theorem dX2_isGround_4 : decode cX2_isGround 4 = .ok (.iload_n 1, 1) := by decide +kernel
theorem dX2_isGround_5 : decode cX2_isGround 5 = .ok (.iaload, 1) := by decide +kernel
theorem dX2_isGround_6 : decode cX2_isGround 6 = .ok (.ifCond .ge 7, 3) := by decide +kernel
theorem dX2_isGround_9 : decode cX2_isGround 9 = .ok (.iconst 1, 1) := by decide +kernel
theorem dX2_isGround_10 : decode cX2_isGround 10 = .ok (.goto 4, 3) := by decide +kernel
theorem dX2_isGround_13 : decode cX2_isGround 13 = .ok (.iconst 0, 1) := by decide +kernel
theorem dX2_isGround_14 : decode cX2_isGround 14 = .ok (.ireturn, 1) := by decide +kernel
set_option maxRecDepth 20000 in
theorem ggX2_kindOf_X2_isGround : GoodIn wsX2_kindOf wsX2_isGround := goodIn_r _ [6, 7, 8, 9, 10, 11, 12, 13, 14] (by decide +kernel) (by decide +kernel)
set_option maxRecDepth 20000 in
theorem gX2_kindOf_X2_isGround : GoodIn wsX2_kindOf (wsV RX2 34 RX2 yX2_isGround wsX2_isGround) := goodIn_app (goodIn_of _ (by decide +kernel)) ggX2_kindOf_X2_isGround
theorem dX2_kindOf_0 : decode cX2_kindOf 0 = .ok (.aload_n 0, 1) := by decide +kernel
theorem dX2_kindOf_1 : decode cX2_kindOf 1 = .ok (.iload_n 1, 1) := by decide +kernel
theorem dX2_kindOf_2 : decode cX2_kindOf 2 = .ok (.invokevirtual 34, 3) := by decide +kernel
theorem dX2_kindOf_5 : decode cX2_kindOf 5 = .ok (.ifCond .eq 5, 3) := by decide +kernel
theorem dX2_kindOf_8 : decode cX2_kindOf 8 = .ok (.iconst 0, 1) := by decide +kernel
theorem dX2_kindOf_9 : decode cX2_kindOf 9 = .ok (.ireturn, 1) := by decide +kernel
theorem dX2_kindOf_10 : decode cX2_kindOf 10 = .ok (.iload_n 1, 1) := by decide +kernel
theorem dX2_kindOf_11 : decode cX2_kindOf 11 = .ok (.aload_n 0, 1) := by decide +kernel
theorem dX2_kindOf_12 : decode cX2_kindOf 12 = .ok (.getfield 27, 3) := by decide +kernel
theorem dX2_kindOf_15 : decode cX2_kindOf 15 = .ok (.iconst 1, 1) := by decide +kernel
theorem dX2_kindOf_16 : decode cX2_kindOf 16 = .ok (.isub, 1) := by decide +kernel
theorem dX2_kindOf_17 : decode cX2_kindOf 17 = .ok (.if_icmp .ne 7, 3) := by decide +kernel
theorem dX2_kindOf_20 : decode cX2_kindOf 20 = .ok (.iconst 2, 1) := by decide +kernel
theorem dX2_kindOf_21 : decode cX2_kindOf 21 = .ok (.goto 4, 3) := by decide +kernel
theorem dX2_kindOf_24 : decode cX2_kindOf 24 = .ok (.iconst 1, 1) := by decide +kernel
theorem dX2_kindOf_25 : decode cX2_kindOf 25 = .ok (.ireturn, 1) := by decide +kernel
theorem dX2_add_0 : decode cX2_add 0 = .ok (.aload_n 0, 1) := by decide +kernel
theorem dX2_add_1 : decode cX2_add 1 = .ok (.getfield 27, 3) := by decide +kernel
theorem dX2_add_4 : decode cX2_add 4 = .ok (.bipush 48, 2) := by decide +kernel
theorem dX2_add_6 : decode cX2_add 6 = .ok (.if_icmp .lt 6, 3) := by decide +kernel
theorem dX2_add_9 : decode cX2_add 9 = .ok (.bipush (-3), 2) := by decide +kernel
theorem dX2_add_11 : decode cX2_add 11 = .ok (.ireturn, 1) := by decide +kernel
theorem dX2_add_12 : decode cX2_add 12 = .ok (.aload_n 0, 1) := by decide +kernel
theorem dX2_add_13 : decode cX2_add 13 = .ok (.getfield 9, 3) := by decide +kernel
theorem dX2_add_16 : decode cX2_add 16 = .ok (.aload_n 0, 1) := by decide +kernel
theorem dX2_add_17 : decode cX2_add 17 = .ok (.getfield 27, 3) := by decide +kernel
theorem dX2_add_20 : decode cX2_add 20 = .ok (.iload_n 1, 1) := by decide +kernel
theorem dX2_add_21 : decode cX2_add 21 = .ok (.iastore, 1) := by decide +kernel
theorem dX2_add_22 : decode cX2_add 22 = .ok (.aload_n 0, 1) := by decide +kernel
theorem dX2_add_23 : decode cX2_add 23 = .ok (.getfield 15, 3) := by decide +kernel
theorem dX2_add_26 : decode cX2_add 26 = .ok (.aload_n 0, 1) := by decide +kernel
theorem dX2_add_27 : decode cX2_add 27 = .ok (.getfield 27, 3) := by decide +kernel
theorem dX2_add_30 : decode cX2_add 30 = .ok (.iload_n 2, 1) := by decide +kernel
theorem dX2_add_31 : decode cX2_add 31 = .ok (.iastore, 1) := by decide +kernel
theorem dX2_add_32 : decode cX2_add 32 = .ok (.aload_n 0, 1) := by decide +kernel
theorem dX2_add_33 : decode cX2_add 33 = .ok (.getfield 18, 3) := by decide +kernel
theorem dX2_add_36 : decode cX2_add 36 = .ok (.aload_n 0, 1) := by decide +kernel
theorem dX2_add_37 : decode cX2_add 37 = .ok (.getfield 27, 3) := by decide +kernel
theorem dX2_add_40 : decode cX2_add 40 = .ok (.iload_n 3, 1) := by decide +kernel
theorem dX2_add_41 : decode cX2_add 41 = .ok (.iastore, 1) := by decide +kernel
theorem dX2_add_42 : decode cX2_add 42 = .ok (.aload_n 0, 1) := by decide +kernel
theorem dX2_add_43 : decode cX2_add 43 = .ok (.getfield 21, 3) := by decide +kernel
theorem dX2_add_46 : decode cX2_add 46 = .ok (.aload_n 0, 1) := by decide +kernel
theorem dX2_add_47 : decode cX2_add 47 = .ok (.getfield 27, 3) := by decide +kernel
theorem dX2_add_50 : decode cX2_add 50 = .ok (.iload 4, 2) := by decide +kernel
theorem dX2_add_52 : decode cX2_add 52 = .ok (.iastore, 1) := by decide +kernel
theorem dX2_add_53 : decode cX2_add 53 = .ok (.iload_n 2, 1) := by decide +kernel
theorem dX2_add_54 : decode cX2_add 54 = .ok (.ifCond .ge 26, 3) := by decide +kernel
theorem dX2_add_57 : decode cX2_add 57 = .ok (.aload_n 0, 1) := by decide +kernel
theorem dX2_add_58 : decode cX2_add 58 = .ok (.getfield 24, 3) := by decide +kernel
theorem dX2_add_61 : decode cX2_add 61 = .ok (.aload_n 0, 1) := by decide +kernel
theorem dX2_add_62 : decode cX2_add 62 = .ok (.getfield 31, 3) := by decide +kernel
theorem dX2_add_65 : decode cX2_add 65 = .ok (.aload_n 0, 1) := by decide +kernel
theorem dX2_add_66 : decode cX2_add 66 = .ok (.getfield 27, 3) := by decide +kernel
theorem dX2_add_69 : decode cX2_add 69 = .ok (.iastore, 1) := by decide +kernel
theorem dX2_add_70 : decode cX2_add 70 = .ok (.aload_n 0, 1) := by decide +kernel
theorem dX2_add_71 : decode cX2_add 71 = .ok (.dup, 1) := by decide +kernel
theorem dX2_add_72 : decode cX2_add 72 = .ok (.getfield 31, 3) := by decide +kernel
theorem dX2_add_75 : decode cX2_add 75 = .ok (.iconst 1, 1) := by decide +kernel
theorem dX2_add_76 : decode cX2_add 76 = .ok (.iadd, 1) := by decide +kernel
theorem dX2_add_77 : decode cX2_add 77 = .ok (.putfield 31, 3) := by decide +kernel
theorem dX2_add_80 : decode cX2_add 80 = .ok (.aload_n 0, 1) := by decide +kernel
theorem dX2_add_81 : decode cX2_add 81 = .ok (.dup, 1) := by decide +kernel
theorem dX2_add_82 : decode cX2_add 82 = .ok (.getfield 27, 3) := by decide +kernel
theorem dX2_add_85 : decode cX2_add 85 = .ok (.iconst 1, 1) := by decide +kernel
theorem dX2_add_86 : decode cX2_add 86 = .ok (.iadd, 1) := by decide +kernel
theorem dX2_add_87 : decode cX2_add 87 = .ok (.putfield 27, 3) := by decide +kernel
theorem dX2_add_90 : decode cX2_add 90 = .ok (.aload_n 0, 1) := by decide +kernel
theorem dX2_add_91 : decode cX2_add 91 = .ok (.getfield 27, 3) := by decide +kernel
theorem dX2_add_94 : decode cX2_add 94 = .ok (.iconst 1, 1) := by decide +kernel
theorem dX2_add_95 : decode cX2_add 95 = .ok (.isub, 1) := by decide +kernel
theorem dX2_add_96 : decode cX2_add 96 = .ok (.ireturn, 1) := by decide +kernel
set_option maxRecDepth 20000 in
theorem ggX2_addGround_X2_add : GoodIn wsX2_addGround wsX2_add := goodIn_r _ [5, 6, 7, 8, 9, 10, 11, 12, 13, 14, 15, 16, 17, 18, 19] (by decide +kernel) (by decide +kernel)
set_option maxRecDepth 20000 in
theorem gX2_addGround_X2_add : GoodIn wsX2_addGround (wsV RX2 38 RX2 yX2_add wsX2_add) := goodIn_app (goodIn_of _ (by decide +kernel)) ggX2_addGround_X2_add
theorem dX2_addGround_0 : decode cX2_addGround 0 = .ok (.aload_n 0, 1) := by decide +kernel
theorem dX2_addGround_1 : decode cX2_addGround 1 = .ok (.iload_n 1, 1) := by decide +kernel
theorem dX2_addGround_2 : decode cX2_addGround 2 = .ok (.bipush (-9), 2) := by decide +kernel
theorem dX2_addGround_4 : decode cX2_addGround 4 = .ok (.bipush (-9), 2) := by decide +kernel
theorem dX2_addGround_6 : decode cX2_addGround 6 = .ok (.bipush (-9), 2) := by decide +kernel
theorem dX2_addGround_8 : decode cX2_addGround 8 = .ok (.invokevirtual 38, 3) := by decide +kernel
theorem dX2_addGround_11 : decode cX2_addGround 11 = .ok (.ireturn, 1) := by decide +kernel
set_option maxRecDepth 20000 in
theorem ggX2_take_X2_clear : GoodIn wsX2_take wsX2_clear := goodIn_r _ [10, 1, 11, 17, 18, 19, 20, 21, 22, 23] (by decide +kernel) (by decide +kernel)
set_option maxRecDepth 20000 in
theorem gX2_take_X2_clear : GoodIn wsX2_take (wsV RX2 42 RX2 yX2_clear wsX2_clear) := goodIn_app (goodIn_of _ (by decide +kernel)) ggX2_take_X2_clear
set_option maxRecDepth 20000 in
theorem ggX2_take_X2_add : GoodIn wsX2_take wsX2_add := goodIn_r _ [15, 1, 2, 3, 4, 5, 16, 11, 17, 18, 19, 20, 21, 22, 23] (by decide +kernel) (by decide +kernel)
set_option maxRecDepth 20000 in
theorem gX2_take_X2_add : GoodIn wsX2_take (wsV RX2 38 RX2 yX2_add wsX2_add) := goodIn_app (goodIn_of _ (by decide +kernel)) ggX2_take_X2_add
theorem dX2_take_0 : decode cX2_take 0 = .ok (.aload_n 0, 1) := by decide +kernel
theorem dX2_take_1 : decode cX2_take 1 = .ok (.invokevirtual 42, 3) := by decide +kernel
theorem dX2_take_4 : decode cX2_take 4 = .ok (.iconst 0, 1) := by decide +kernel
theorem dX2_take_5 : decode cX2_take 5 = .ok (.istore_n 2, 1) := by decide +kernel
theorem dX2_take_6 : decode cX2_take 6 = .ok (.iload_n 2, 1) := by decide +kernel
theorem dX2_take_7 : decode cX2_take 7 = .ok (.aload_n 1, 1) := by decide +kernel
theorem dX2_take_8 : decode cX2_take 8 = .ok (.getfield 27, 3) := by decide +kernel
theorem dX2_take_11 : decode cX2_take 11 = .ok (.if_icmp .ge 38, 3) := by decide +kernel
theorem dX2_take_14 : decode cX2_take 14 = .ok (.aload_n 0, 1) := by decide +kernel
theorem dX2_take_15 : decode cX2_take 15 = .ok (.aload_n 1, 1) := by decide +kernel
theorem dX2_take_16 : decode cX2_take 16 = .ok (.getfield 9, 3) := by decide +kernel
theorem dX2_take_19 : decode cX2_take 19 = .ok (.iload_n 2, 1) := by decide +kernel
theorem dX2_take_20 : decode cX2_take 20 = .ok (.iaload, 1) := by decide +kernel
theorem dX2_take_21 : decode cX2_take 21 = .ok (.aload_n 1, 1) := by decide +kernel
theorem dX2_take_22 : decode cX2_take 22 = .ok (.getfield 15, 3) := by decide +kernel
theorem dX2_take_25 : decode cX2_take 25 = .ok (.iload_n 2, 1) := by decide +kernel
theorem dX2_take_26 : decode cX2_take 26 = .ok (.iaload, 1) := by decide +kernel
theorem dX2_take_27 : decode cX2_take 27 = .ok (.aload_n 1, 1) := by decide +kernel
theorem dX2_take_28 : decode cX2_take 28 = .ok (.getfield 18, 3) := by decide +kernel
theorem dX2_take_31 : decode cX2_take 31 = .ok (.iload_n 2, 1) := by decide +kernel
theorem dX2_take_32 : decode cX2_take 32 = .ok (.iaload, 1) := by decide +kernel
theorem dX2_take_33 : decode cX2_take 33 = .ok (.aload_n 1, 1) := by decide +kernel
theorem dX2_take_34 : decode cX2_take 34 = .ok (.getfield 21, 3) := by decide +kernel
theorem dX2_take_37 : decode cX2_take 37 = .ok (.iload_n 2, 1) := by decide +kernel
theorem dX2_take_38 : decode cX2_take 38 = .ok (.iaload, 1) := by decide +kernel
theorem dX2_take_39 : decode cX2_take 39 = .ok (.invokevirtual 38, 3) := by decide +kernel
theorem dX2_take_42 : decode cX2_take 42 = .ok (.pop, 1) := by decide +kernel
theorem dX2_take_43 : decode cX2_take 43 = .ok (.iinc 2 1, 3) := by decide +kernel
theorem dX2_take_46 : decode cX2_take 46 = .ok (.goto (-40), 3) := by decide +kernel
theorem dX2_take_49 : decode cX2_take 49 = .ok (.return_, 1) := by decide +kernel
set_option maxRecDepth 20000 in
theorem ggX2_restSet_X2_restSetOf : GoodIn wsX2_restSet wsX2_restSetOf := goodIn_r _ [6, 7, 8, 9, 10, 11, 12, 13, 14, 5, 15, 16, 17, 18, 19, 20, 21, 22] (by decide +kernel) (by decide +kernel)
set_option maxRecDepth 20000 in
theorem gX2_restSet_X2_restSetOf : GoodIn wsX2_restSet (wsV RX2 45 RX2 yX2_restSetOf wsX2_restSetOf) := goodIn_app (goodIn_of _ (by decide +kernel)) ggX2_restSet_X2_restSetOf
theorem dX2_restSet_0 : decode cX2_restSet 0 = .ok (.aload_n 0, 1) := by decide +kernel
theorem dX2_restSet_1 : decode cX2_restSet 1 = .ok (.aload_n 0, 1) := by decide +kernel
theorem dX2_restSet_2 : decode cX2_restSet 2 = .ok (.getfield 27, 3) := by decide +kernel
theorem dX2_restSet_5 : decode cX2_restSet 5 = .ok (.iconst 1, 1) := by decide +kernel
theorem dX2_restSet_6 : decode cX2_restSet 6 = .ok (.isub, 1) := by decide +kernel
theorem dX2_restSet_7 : decode cX2_restSet 7 = .ok (.invokevirtual 45, 3) := by decide +kernel
theorem dX2_restSet_10 : decode cX2_restSet 10 = .ok (.lreturn, 1) := by decide +kernel
set_option maxRecDepth 20000 in
theorem ggX2_restSetOf_X9_isIn : GoodIn wsX2_restSetOf wsX9_isIn := goodIn_r _ [5] (by decide +kernel) (by decide +kernel)
set_option maxRecDepth 20000 in
theorem gX2_restSetOf_X9_isIn_n49 : GoodIn wsX2_restSetOf (wsX9_isIn) := ggX2_restSetOf_X9_isIn
set_option maxRecDepth 20000 in
theorem ggX2_restSetOf_X2_isGround : GoodIn wsX2_restSetOf wsX2_isGround := goodIn_r _ [10, 1, 11, 12, 13, 14, 15, 16, 17] (by decide +kernel) (by decide +kernel)
set_option maxRecDepth 20000 in
theorem gX2_restSetOf_X2_isGround : GoodIn wsX2_restSetOf (wsV RX2 34 RX2 yX2_isGround wsX2_isGround) := goodIn_app (goodIn_of _ (by decide +kernel)) ggX2_restSetOf_X2_isGround
theorem dX2_restSetOf_0 : decode cX2_restSetOf 0 = .ok (.lconst 1, 1) := by decide +kernel
theorem dX2_restSetOf_1 : decode cX2_restSetOf 1 = .ok (.iload_n 1, 1) := by decide +kernel
theorem dX2_restSetOf_2 : decode cX2_restSetOf 2 = .ok (.lshl, 1) := by decide +kernel
theorem dX2_restSetOf_3 : decode cX2_restSetOf 3 = .ok (.lstore_n 2, 1) := by decide +kernel
theorem dX2_restSetOf_4 : decode cX2_restSetOf 4 = .ok (.iload_n 1, 1) := by decide +kernel
theorem dX2_restSetOf_5 : decode cX2_restSetOf 5 = .ok (.istore 4, 2) := by decide +kernel
theorem dX2_restSetOf_7 : decode cX2_restSetOf 7 = .ok (.iload 4, 2) := by decide +kernel
theorem dX2_restSetOf_9 : decode cX2_restSetOf 9 = .ok (.ifCond .lt 49, 3) := by decide +kernel
theorem dX2_restSetOf_12 : decode cX2_restSetOf 12 = .ok (.iload 4, 2) := by decide +kernel
theorem dX2_restSetOf_14 : decode cX2_restSetOf 14 = .ok (.lload_n 2, 1) := by decide +kernel
theorem dX2_restSetOf_15 : decode cX2_restSetOf 15 = .ok (.invokestatic 49, 3) := by decide +kernel
theorem dX2_restSetOf_18 : decode cX2_restSetOf 18 = .ok (.ifCond .eq 34, 3) := by decide +kernel
theorem dX2_restSetOf_21 : decode cX2_restSetOf 21 = .ok (.aload_n 0, 1) := by decide +kernel
theorem dX2_restSetOf_22 : decode cX2_restSetOf 22 = .ok (.iload 4, 2) := by decide +kernel
theorem dX2_restSetOf_24 : decode cX2_restSetOf 24 = .ok (.invokevirtual 34, 3) := by decide +kernel
theorem dX2_restSetOf_27 : decode cX2_restSetOf 27 = .ok (.ifCond .ne 25, 3) := by decide +kernel
theorem dX2_restSetOf_30 : decode cX2_restSetOf 30 = .ok (.lload_n 2, 1) := by decide +kernel
theorem dX2_restSetOf_31 : decode cX2_restSetOf 31 = .ok (.lconst 1, 1) := by decide +kernel
theorem dX2_restSetOf_32 : decode cX2_restSetOf 32 = .ok (.aload_n 0, 1) := by decide +kernel
theorem dX2_restSetOf_33 : decode cX2_restSetOf 33 = .ok (.getfield 15, 3) := by decide +kernel
theorem dX2_restSetOf_36 : decode cX2_restSetOf 36 = .ok (.iload 4, 2) := by decide +kernel
theorem dX2_restSetOf_38 : decode cX2_restSetOf 38 = .ok (.iaload, 1) := by decide +kernel
theorem dX2_restSetOf_39 : decode cX2_restSetOf 39 = .ok (.lshl, 1) := by decide +kernel
theorem dX2_restSetOf_40 : decode cX2_restSetOf 40 = .ok (.lconst 1, 1) := by decide +kernel
theorem dX2_restSetOf_41 : decode cX2_restSetOf 41 = .ok (.aload_n 0, 1) := by decide +kernel
theorem dX2_restSetOf_42 : decode cX2_restSetOf 42 = .ok (.getfield 18, 3) := by decide +kernel
theorem dX2_restSetOf_45 : decode cX2_restSetOf 45 = .ok (.iload 4, 2) := by decide +kernel
theorem dX2_restSetOf_47 : decode cX2_restSetOf 47 = .ok (.iaload, 1) := by decide +kernel
theorem dX2_restSetOf_48 : decode cX2_restSetOf 48 = .ok (.lshl, 1) := by decide +kernel
theorem dX2_restSetOf_49 : decode cX2_restSetOf 49 = .ok (.lor, 1) := by decide +kernel
theorem dX2_restSetOf_50 : decode cX2_restSetOf 50 = .ok (.lor, 1) := by decide +kernel
theorem dX2_restSetOf_51 : decode cX2_restSetOf 51 = .ok (.lstore_n 2, 1) := by decide +kernel
theorem dX2_restSetOf_52 : decode cX2_restSetOf 52 = .ok (.iinc 4 (-1), 3) := by decide +kernel
theorem dX2_restSetOf_55 : decode cX2_restSetOf 55 = .ok (.goto (-48), 3) := by decide +kernel
theorem dX2_restSetOf_58 : decode cX2_restSetOf 58 = .ok (.lload_n 2, 1) := by decide +kernel
theorem dX2_restSetOf_59 : decode cX2_restSetOf 59 = .ok (.lreturn, 1) := by decide +kernel
set_option maxRecDepth 20000 in
theorem ggX2_isCutFrom_X2_isGround : GoodIn wsX2_isCutFrom wsX2_isGround := goodIn_r _ [7, 1, 8, 9, 10, 11, 12, 13, 14] (by decide +kernel) (by decide +kernel)
set_option maxRecDepth 20000 in
theorem gX2_isCutFrom_X2_isGround : GoodIn wsX2_isCutFrom (wsV RX2 34 RX2 yX2_isGround wsX2_isGround) := goodIn_app (goodIn_of _ (by decide +kernel)) ggX2_isCutFrom_X2_isGround
theorem dX2_isCutFrom_0 : decode cX2_isCutFrom 0 = .ok (.aload_n 0, 1) := by decide +kernel
theorem dX2_isCutFrom_1 : decode cX2_isCutFrom 1 = .ok (.iload_n 1, 1) := by decide +kernel
theorem dX2_isCutFrom_2 : decode cX2_isCutFrom 2 = .ok (.invokevirtual 34, 3) := by decide +kernel
theorem dX2_isCutFrom_5 : decode cX2_isCutFrom 5 = .ok (.ifCond .ne 27, 3) := by decide +kernel
theorem dX2_isCutFrom_8 : decode cX2_isCutFrom 8 = .ok (.aload_n 0, 1) := by decide +kernel
theorem dX2_isCutFrom_9 : decode cX2_isCutFrom 9 = .ok (.getfield 15, 3) := by decide +kernel
theorem dX2_isCutFrom_12 : decode cX2_isCutFrom 12 = .ok (.iload_n 1, 1) := by decide +kernel
theorem dX2_isCutFrom_13 : decode cX2_isCutFrom 13 = .ok (.iaload, 1) := by decide +kernel
theorem dX2_isCutFrom_14 : decode cX2_isCutFrom 14 = .ok (.iload_n 2, 1) := by decide +kernel
theorem dX2_isCutFrom_15 : decode cX2_isCutFrom 15 = .ok (.if_icmp .eq 13, 3) := by decide +kernel
theorem dX2_isCutFrom_18 : decode cX2_isCutFrom 18 = .ok (.aload_n 0, 1) := by decide +kernel
theorem dX2_isCutFrom_19 : decode cX2_isCutFrom 19 = .ok (.getfield 18, 3) := by decide +kernel
theorem dX2_isCutFrom_22 : decode cX2_isCutFrom 22 = .ok (.iload_n 1, 1) := by decide +kernel
theorem dX2_isCutFrom_23 : decode cX2_isCutFrom 23 = .ok (.iaload, 1) := by decide +kernel
theorem dX2_isCutFrom_24 : decode cX2_isCutFrom 24 = .ok (.iload_n 2, 1) := by decide +kernel
theorem dX2_isCutFrom_25 : decode cX2_isCutFrom 25 = .ok (.if_icmp .ne 7, 3) := by decide +kernel
theorem dX2_isCutFrom_28 : decode cX2_isCutFrom 28 = .ok (.iconst 1, 1) := by decide +kernel
theorem dX2_isCutFrom_29 : decode cX2_isCutFrom 29 = .ok (.goto 4, 3) := by decide +kernel
theorem dX2_isCutFrom_32 : decode cX2_isCutFrom 32 = .ok (.iconst 0, 1) := by decide +kernel
theorem dX2_isCutFrom_33 : decode cX2_isCutFrom 33 = .ok (.ireturn, 1) := by decide +kernel
theorem dX2_firstWith_0 : decode cX2_firstWith 0 = .ok (.iconst 0, 1) := by decide +kernel
theorem dX2_firstWith_1 : decode cX2_firstWith 1 = .ok (.istore_n 3, 1) := by decide +kernel
theorem dX2_firstWith_2 : decode cX2_firstWith 2 = .ok (.iload_n 3, 1) := by decide +kernel
theorem dX2_firstWith_3 : decode cX2_firstWith 3 = .ok (.iload_n 2, 1) := by decide +kernel
theorem dX2_firstWith_4 : decode cX2_firstWith 4 = .ok (.if_icmp .ge 21, 3) := by decide +kernel
theorem dX2_firstWith_7 : decode cX2_firstWith 7 = .ok (.aload_n 0, 1) := by decide +kernel
theorem dX2_firstWith_8 : decode cX2_firstWith 8 = .ok (.getfield 9, 3) := by decide +kernel
theorem dX2_firstWith_11 : decode cX2_firstWith 11 = .ok (.iload_n 3, 1) := by decide +kernel
theorem dX2_firstWith_12 : decode cX2_firstWith 12 = .ok (.iaload, 1) := by decide +kernel
theorem dX2_firstWith_13 : decode cX2_firstWith 13 = .ok (.iload_n 1, 1) := by decide +kernel
theorem dX2_firstWith_14 : decode cX2_firstWith 14 = .ok (.if_icmp .ne 5, 3) := by decide +kernel
theorem dX2_firstWith_17 : decode cX2_firstWith 17 = .ok (.iload_n 3, 1) := by decide +kernel
theorem dX2_firstWith_18 : decode cX2_firstWith 18 = .ok (.ireturn, 1) := by decide +kernel
theorem dX2_firstWith_19 : decode cX2_firstWith 19 = .ok (.iinc 3 1, 3) := by decide +kernel
theorem dX2_firstWith_22 : decode cX2_firstWith 22 = .ok (.goto (-20), 3) := by decide +kernel
theorem dX2_firstWith_25 : decode cX2_firstWith 25 = .ok (.bipush (-9), 2) := by decide +kernel
theorem dX2_firstWith_27 : decode cX2_firstWith 27 = .ok (.ireturn, 1) := by decide +kernel
theorem dX2_firstPartOf_0 : decode cX2_firstPartOf 0 = .ok (.iconst 0, 1) := by decide +kernel
theorem dX2_firstPartOf_1 : decode cX2_firstPartOf 1 = .ok (.istore_n 2, 1) := by decide +kernel
theorem dX2_firstPartOf_2 : decode cX2_firstPartOf 2 = .ok (.iload_n 2, 1) := by decide +kernel
theorem dX2_firstPartOf_3 : decode cX2_firstPartOf 3 = .ok (.aload_n 0, 1) := by decide +kernel
theorem dX2_firstPartOf_4 : decode cX2_firstPartOf 4 = .ok (.getfield 27, 3) := by decide +kernel
theorem dX2_firstPartOf_7 : decode cX2_firstPartOf 7 = .ok (.if_icmp .ge 24, 3) := by decide +kernel
theorem dX2_firstPartOf_10 : decode cX2_firstPartOf 10 = .ok (.aload_n 0, 1) := by decide +kernel
theorem dX2_firstPartOf_11 : decode cX2_firstPartOf 11 = .ok (.getfield 9, 3) := by decide +kernel
theorem dX2_firstPartOf_14 : decode cX2_firstPartOf 14 = .ok (.iload_n 2, 1) := by decide +kernel
theorem dX2_firstPartOf_15 : decode cX2_firstPartOf 15 = .ok (.iaload, 1) := by decide +kernel
theorem dX2_firstPartOf_16 : decode cX2_firstPartOf 16 = .ok (.iload_n 1, 1) := by decide +kernel
theorem dX2_firstPartOf_17 : decode cX2_firstPartOf 17 = .ok (.iconst (-1), 1) := by decide +kernel
theorem dX2_firstPartOf_18 : decode cX2_firstPartOf 18 = .ok (.ixor, 1) := by decide +kernel
theorem dX2_firstPartOf_19 : decode cX2_firstPartOf 19 = .ok (.iand, 1) := by decide +kernel
theorem dX2_firstPartOf_20 : decode cX2_firstPartOf 20 = .ok (.ifCond .ne 5, 3) := by decide +kernel
theorem dX2_firstPartOf_23 : decode cX2_firstPartOf 23 = .ok (.iload_n 2, 1) := by decide +kernel
theorem dX2_firstPartOf_24 : decode cX2_firstPartOf 24 = .ok (.ireturn, 1) := by decide +kernel
theorem dX2_firstPartOf_25 : decode cX2_firstPartOf 25 = .ok (.iinc 2 1, 3) := by decide +kernel
theorem dX2_firstPartOf_28 : decode cX2_firstPartOf 28 = .ok (.goto (-26), 3) := by decide +kernel
theorem dX2_firstPartOf_31 : decode cX2_firstPartOf 31 = .ok (.bipush (-9), 2) := by decide +kernel
theorem dX2_firstPartOf_33 : decode cX2_firstPartOf 33 = .ok (.ireturn, 1) := by decide +kernel
set_option maxRecDepth 20000 in
theorem ggX2_unlikeIn_X2_firstWith : GoodIn wsX2_unlikeIn wsX2_firstWith := goodIn_r _ [7, 2, 8, 9, 10, 11, 12, 13, 14] (by decide +kernel) (by decide +kernel)
set_option maxRecDepth 20000 in
theorem gX2_unlikeIn_X2_firstWith : GoodIn wsX2_unlikeIn (wsV RX2 53 RX2 yX2_firstWith wsX2_firstWith) := goodIn_app (goodIn_of _ (by decide +kernel)) ggX2_unlikeIn_X2_firstWith
theorem dX2_unlikeIn_0 : decode cX2_unlikeIn 0 = .ok (.iconst 0, 1) := by decide +kernel
theorem dX2_unlikeIn_1 : decode cX2_unlikeIn 1 = .ok (.istore_n 2, 1) := by decide +kernel
theorem dX2_unlikeIn_2 : decode cX2_unlikeIn 2 = .ok (.iconst 0, 1) := by decide +kernel
theorem dX2_unlikeIn_3 : decode cX2_unlikeIn 3 = .ok (.istore_n 3, 1) := by decide +kernel
theorem dX2_unlikeIn_4 : decode cX2_unlikeIn 4 = .ok (.iload_n 3, 1) := by decide +kernel
theorem dX2_unlikeIn_5 : decode cX2_unlikeIn 5 = .ok (.aload_n 0, 1) := by decide +kernel
theorem dX2_unlikeIn_6 : decode cX2_unlikeIn 6 = .ok (.getfield 27, 3) := by decide +kernel
theorem dX2_unlikeIn_9 : decode cX2_unlikeIn 9 = .ok (.if_icmp .ge 47, 3) := by decide +kernel
theorem dX2_unlikeIn_12 : decode cX2_unlikeIn 12 = .ok (.aload_n 0, 1) := by decide +kernel
theorem dX2_unlikeIn_13 : decode cX2_unlikeIn 13 = .ok (.aload_n 0, 1) := by decide +kernel
theorem dX2_unlikeIn_14 : decode cX2_unlikeIn 14 = .ok (.getfield 9, 3) := by decide +kernel
theorem dX2_unlikeIn_17 : decode cX2_unlikeIn 17 = .ok (.iload_n 3, 1) := by decide +kernel
theorem dX2_unlikeIn_18 : decode cX2_unlikeIn 18 = .ok (.iaload, 1) := by decide +kernel
theorem dX2_unlikeIn_19 : decode cX2_unlikeIn 19 = .ok (.iload_n 3, 1) := by decide +kernel
theorem dX2_unlikeIn_20 : decode cX2_unlikeIn 20 = .ok (.invokevirtual 53, 3) := by decide +kernel
theorem dX2_unlikeIn_23 : decode cX2_unlikeIn 23 = .ok (.bipush (-9), 2) := by decide +kernel
theorem dX2_unlikeIn_25 : decode cX2_unlikeIn 25 = .ok (.if_icmp .ne 25, 3) := by decide +kernel
theorem dX2_unlikeIn_28 : decode cX2_unlikeIn 28 = .ok (.aload_n 1, 1) := by decide +kernel
theorem dX2_unlikeIn_29 : decode cX2_unlikeIn 29 = .ok (.aload_n 0, 1) := by decide +kernel
theorem dX2_unlikeIn_30 : decode cX2_unlikeIn 30 = .ok (.getfield 9, 3) := by decide +kernel
theorem dX2_unlikeIn_33 : decode cX2_unlikeIn 33 = .ok (.iload_n 3, 1) := by decide +kernel
theorem dX2_unlikeIn_34 : decode cX2_unlikeIn 34 = .ok (.iaload, 1) := by decide +kernel
theorem dX2_unlikeIn_35 : decode cX2_unlikeIn 35 = .ok (.aload_n 1, 1) := by decide +kernel
theorem dX2_unlikeIn_36 : decode cX2_unlikeIn 36 = .ok (.getfield 27, 3) := by decide +kernel
theorem dX2_unlikeIn_39 : decode cX2_unlikeIn 39 = .ok (.invokevirtual 53, 3) := by decide +kernel
theorem dX2_unlikeIn_42 : decode cX2_unlikeIn 42 = .ok (.bipush (-9), 2) := by decide +kernel
theorem dX2_unlikeIn_44 : decode cX2_unlikeIn 44 = .ok (.if_icmp .eq 6, 3) := by decide +kernel
theorem dX2_unlikeIn_47 : decode cX2_unlikeIn 47 = .ok (.iinc 2 1, 3) := by decide +kernel
theorem dX2_unlikeIn_50 : decode cX2_unlikeIn 50 = .ok (.iinc 3 1, 3) := by decide +kernel
theorem dX2_unlikeIn_53 : decode cX2_unlikeIn 53 = .ok (.goto (-49), 3) := by decide +kernel
theorem dX2_unlikeIn_56 : decode cX2_unlikeIn 56 = .ok (.iload_n 2, 1) := by decide +kernel
theorem dX2_unlikeIn_57 : decode cX2_unlikeIn 57 = .ok (.ireturn, 1) := by decide +kernel
set_option maxRecDepth 20000 in
theorem ggX2_keepOnly_X2_clear : GoodIn wsX2_keepOnly wsX2_clear := goodIn_r _ [10, 1, 11, 28, 29, 30, 31, 32, 33, 34] (by decide +kernel) (by decide +kernel)
set_option maxRecDepth 20000 in
theorem gX2_keepOnly_X2_clear : GoodIn wsX2_keepOnly (wsV RX2 42 RX2 yX2_clear wsX2_clear) := goodIn_app (goodIn_of _ (by decide +kernel)) ggX2_keepOnly_X2_clear
set_option maxRecDepth 20000 in
theorem ggX2_keepOnly_X9_isIn : GoodIn wsX2_keepOnly wsX9_isIn := goodIn_r _ [14] (by decide +kernel) (by decide +kernel)
set_option maxRecDepth 20000 in
theorem gX2_keepOnly_X9_isIn_n49 : GoodIn wsX2_keepOnly (wsX9_isIn) := ggX2_keepOnly_X9_isIn
set_option maxRecDepth 20000 in
theorem ggX2_keepOnly_X2_isGround : GoodIn wsX2_keepOnly wsX2_isGround := goodIn_r _ [18, 3, 28, 29, 30, 31, 32, 33, 34] (by decide +kernel) (by decide +kernel)
set_option maxRecDepth 20000 in
theorem gX2_keepOnly_X2_isGround : GoodIn wsX2_keepOnly (wsV RX2 34 RX2 yX2_isGround wsX2_isGround) := goodIn_app (goodIn_of _ (by decide +kernel)) ggX2_keepOnly_X2_isGround
set_option maxRecDepth 20000 in
theorem ggX2_keepOnly_X2_addGround : GoodIn wsX2_keepOnly wsX2_addGround := goodIn_r _ [22, 23, 24, 25, 9, 26, 1, 2, 3, 4, 5, 27, 11, 28, 29, 30, 31, 32, 33, 34] (by decide +kernel) (by decide +kernel)
set_option maxRecDepth 20000 in
theorem gX2_keepOnly_X2_addGround : GoodIn wsX2_keepOnly (wsV RX2 57 RX2 yX2_addGround wsX2_addGround) := goodIn_app (goodIn_of _ (by decide +kernel)) ggX2_keepOnly_X2_addGround
set_option maxRecDepth 20000 in
theorem ggX2_keepOnly_X2_add : GoodIn wsX2_keepOnly wsX2_add := goodIn_r _ [26, 1, 2, 3, 4, 5, 27, 11, 28, 29, 30, 31, 32, 33, 34] (by decide +kernel) (by decide +kernel)
set_option maxRecDepth 20000 in
theorem gX2_keepOnly_X2_add : GoodIn wsX2_keepOnly (wsV RX2 38 RX2 yX2_add wsX2_add) := goodIn_app (goodIn_of _ (by decide +kernel)) ggX2_keepOnly_X2_add
theorem dX2_keepOnly_0 : decode cX2_keepOnly 0 = .ok (.aload_n 0, 1) := by decide +kernel
theorem dX2_keepOnly_1 : decode cX2_keepOnly 1 = .ok (.getfield 27, 3) := by decide +kernel
theorem dX2_keepOnly_4 : decode cX2_keepOnly 4 = .ok (.istore 4, 2) := by decide +kernel
theorem dX2_keepOnly_6 : decode cX2_keepOnly 6 = .ok (.aload_n 0, 1) := by decide +kernel
theorem dX2_keepOnly_7 : decode cX2_keepOnly 7 = .ok (.invokevirtual 42, 3) := by decide +kernel
theorem dX2_keepOnly_10 : decode cX2_keepOnly 10 = .ok (.iconst 0, 1) := by decide +kernel
theorem dX2_keepOnly_11 : decode cX2_keepOnly 11 = .ok (.istore 5, 2) := by decide +kernel
theorem dX2_keepOnly_13 : decode cX2_keepOnly 13 = .ok (.iload 5, 2) := by decide +kernel
theorem dX2_keepOnly_15 : decode cX2_keepOnly 15 = .ok (.iload 4, 2) := by decide +kernel
theorem dX2_keepOnly_17 : decode cX2_keepOnly 17 = .ok (.if_icmp .ge 88, 3) := by decide +kernel
theorem dX2_keepOnly_20 : decode cX2_keepOnly 20 = .ok (.iload 5, 2) := by decide +kernel
theorem dX2_keepOnly_22 : decode cX2_keepOnly 22 = .ok (.lload_n 1, 1) := by decide +kernel
theorem dX2_keepOnly_23 : decode cX2_keepOnly 23 = .ok (.invokestatic 49, 3) := by decide +kernel
theorem dX2_keepOnly_26 : decode cX2_keepOnly 26 = .ok (.ifCond .ne 6, 3) := by decide +kernel
theorem dX2_keepOnly_29 : decode cX2_keepOnly 29 = .ok (.goto 70, 3) := by decide +kernel
theorem dX2_keepOnly_32 : decode cX2_keepOnly 32 = .ok (.aload_n 0, 1) := by decide +kernel
theorem dX2_keepOnly_33 : decode cX2_keepOnly 33 = .ok (.iload 5, 2) := by decide +kernel
theorem dX2_keepOnly_35 : decode cX2_keepOnly 35 = .ok (.invokevirtual 34, 3) := by decide +kernel
theorem dX2_keepOnly_38 : decode cX2_keepOnly 38 = .ok (.ifCond .eq 21, 3) := by decide +kernel
theorem dX2_keepOnly_41 : decode cX2_keepOnly 41 = .ok (.aload_n 3, 1) := by decide +kernel
theorem dX2_keepOnly_42 : decode cX2_keepOnly 42 = .ok (.iload 5, 2) := by decide +kernel
theorem dX2_keepOnly_44 : decode cX2_keepOnly 44 = .ok (.aload_n 0, 1) := by decide +kernel
theorem dX2_keepOnly_45 : decode cX2_keepOnly 45 = .ok (.aload_n 0, 1) := by decide +kernel
theorem dX2_keepOnly_46 : decode cX2_keepOnly 46 = .ok (.getfield 9, 3) := by decide +kernel
theorem dX2_keepOnly_49 : decode cX2_keepOnly 49 = .ok (.iload 5, 2) := by decide +kernel
theorem dX2_keepOnly_51 : decode cX2_keepOnly 51 = .ok (.iaload, 1) := by decide +kernel
theorem dX2_keepOnly_52 : decode cX2_keepOnly 52 = .ok (.invokevirtual 57, 3) := by decide +kernel
theorem dX2_keepOnly_55 : decode cX2_keepOnly 55 = .ok (.iastore, 1) := by decide +kernel
theorem dX2_keepOnly_56 : decode cX2_keepOnly 56 = .ok (.goto 43, 3) := by decide +kernel
theorem dX2_keepOnly_59 : decode cX2_keepOnly 59 = .ok (.aload_n 3, 1) := by decide +kernel
theorem dX2_keepOnly_60 : decode cX2_keepOnly 60 = .ok (.iload 5, 2) := by decide +kernel
theorem dX2_keepOnly_62 : decode cX2_keepOnly 62 = .ok (.aload_n 0, 1) := by decide +kernel
theorem dX2_keepOnly_63 : decode cX2_keepOnly 63 = .ok (.aload_n 0, 1) := by decide +kernel
theorem dX2_keepOnly_64 : decode cX2_keepOnly 64 = .ok (.getfield 9, 3) := by decide +kernel
theorem dX2_keepOnly_67 : decode cX2_keepOnly 67 = .ok (.iload 5, 2) := by decide +kernel
theorem dX2_keepOnly_69 : decode cX2_keepOnly 69 = .ok (.iaload, 1) := by decide +kernel
theorem dX2_keepOnly_70 : decode cX2_keepOnly 70 = .ok (.aload_n 3, 1) := by decide +kernel
theorem dX2_keepOnly_71 : decode cX2_keepOnly 71 = .ok (.aload_n 0, 1) := by decide +kernel
theorem dX2_keepOnly_72 : decode cX2_keepOnly 72 = .ok (.getfield 15, 3) := by decide +kernel
theorem dX2_keepOnly_75 : decode cX2_keepOnly 75 = .ok (.iload 5, 2) := by decide +kernel
theorem dX2_keepOnly_77 : decode cX2_keepOnly 77 = .ok (.iaload, 1) := by decide +kernel
theorem dX2_keepOnly_78 : decode cX2_keepOnly 78 = .ok (.iaload, 1) := by decide +kernel
theorem dX2_keepOnly_79 : decode cX2_keepOnly 79 = .ok (.aload_n 3, 1) := by decide +kernel
theorem dX2_keepOnly_80 : decode cX2_keepOnly 80 = .ok (.aload_n 0, 1) := by decide +kernel
theorem dX2_keepOnly_81 : decode cX2_keepOnly 81 = .ok (.getfield 18, 3) := by decide +kernel
theorem dX2_keepOnly_84 : decode cX2_keepOnly 84 = .ok (.iload 5, 2) := by decide +kernel
theorem dX2_keepOnly_86 : decode cX2_keepOnly 86 = .ok (.iaload, 1) := by decide +kernel
theorem dX2_keepOnly_87 : decode cX2_keepOnly 87 = .ok (.iaload, 1) := by decide +kernel
theorem dX2_keepOnly_88 : decode cX2_keepOnly 88 = .ok (.aload_n 0, 1) := by decide +kernel
theorem dX2_keepOnly_89 : decode cX2_keepOnly 89 = .ok (.getfield 21, 3) := by decide +kernel
theorem dX2_keepOnly_92 : decode cX2_keepOnly 92 = .ok (.iload 5, 2) := by decide +kernel
theorem dX2_keepOnly_94 : decode cX2_keepOnly 94 = .ok (.iaload, 1) := by decide +kernel
theorem dX2_keepOnly_95 : decode cX2_keepOnly 95 = .ok (.invokevirtual 38, 3) := by decide +kernel
theorem dX2_keepOnly_98 : decode cX2_keepOnly 98 = .ok (.iastore, 1) := by decide +kernel
theorem dX2_keepOnly_99 : decode cX2_keepOnly 99 = .ok (.iinc 5 1, 3) := by decide +kernel
theorem dX2_keepOnly_102 : decode cX2_keepOnly 102 = .ok (.goto (-89), 3) := by decide +kernel
theorem dX2_keepOnly_105 : decode cX2_keepOnly 105 = .ok (.return_, 1) := by decide +kernel
