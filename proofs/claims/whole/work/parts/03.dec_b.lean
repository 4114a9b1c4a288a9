set_option maxRecDepth 20000 in
theorem ggX3_init_X2_init : GoodIn wsX3_init wsX2_init := goodIn_r _ [11, 12, 2, 3, 4, 13, 14, 15, 16, 17, 22, 23, 24, 25, 26, 27, 28] (by decide +kernel) (by decide +kernel)
set_option maxRecDepth 20000 in
theorem gX3_init_X2_init_n17 : GoodIn wsX3_init (wsX2_init) := ggX3_init_X2_init
theorem dX3_init_0 : decode cX3_init 0 = .ok (.aload_n 0, 1) := by decide +kernel
theorem dX3_init_1 : decode cX3_init 1 = .ok (.invokespecial 3, 3) := by decide +kernel
theorem dX3_init_4 : decode cX3_init 4 = .ok (.aload_n 0, 1) := by decide +kernel
theorem dX3_init_5 : decode cX3_init 5 = .ok (.bipush 60, 2) := by decide +kernel
theorem dX3_init_7 : decode cX3_init 7 = .ok (.newarray .int, 2) := by decide +kernel
theorem dX3_init_9 : decode cX3_init 9 = .ok (.putfield 9, 3) := by decide +kernel
theorem dX3_init_12 : decode cX3_init 12 = .ok (.aload_n 0, 1) := by decide +kernel
theorem dX3_init_13 : decode cX3_init 13 = .ok (.new 15, 3) := by decide +kernel
theorem dX3_init_16 : decode cX3_init 16 = .ok (.dup, 1) := by decide +kernel
theorem dX3_init_17 : decode cX3_init 17 = .ok (.invokespecial 17, 3) := by decide +kernel
theorem dX3_init_20 : decode cX3_init 20 = .ok (.putfield 18, 3) := by decide +kernel
theorem dX3_init_23 : decode cX3_init 23 = .ok (.return_, 1) := by decide +kernel
theorem dX3_take_0 : decode cX3_take 0 = .ok (.aload_n 1, 1) := by decide +kernel
theorem dX3_take_1 : decode cX3_take 1 = .ok (.getfield 22, 3) := by decide +kernel
theorem dX3_take_4 : decode cX3_take 4 = .ok (.iload_n 2, 1) := by decide +kernel
theorem dX3_take_5 : decode cX3_take 5 = .ok (.aload_n 0, 1) := by decide +kernel
theorem dX3_take_6 : decode cX3_take 6 = .ok (.getfield 9, 3) := by decide +kernel
theorem dX3_take_9 : decode cX3_take 9 = .ok (.iconst 0, 1) := by decide +kernel
theorem dX3_take_10 : decode cX3_take 10 = .ok (.iload_n 3, 1) := by decide +kernel
theorem dX3_take_11 : decode cX3_take 11 = .ok (.invokestatic 27, 3) := by decide +kernel
theorem dX3_take_14 : decode cX3_take 14 = .ok (.aload_n 0, 1) := by decide +kernel
theorem dX3_take_15 : decode cX3_take 15 = .ok (.iload_n 3, 1) := by decide +kernel
theorem dX3_take_16 : decode cX3_take 16 = .ok (.putfield 33, 3) := by decide +kernel
theorem dX3_take_19 : decode cX3_take 19 = .ok (.return_, 1) := by decide +kernel
set_option maxRecDepth 20000 in
theorem ggX3_isText_X2_clear : GoodIn wsX3_isText wsX2_clear := goodIn_r _ [8, 9, 10, 84, 85, 86, 87, 88, 89, 90] (by decide +kernel) (by decide +kernel)
set_option maxRecDepth 20000 in
theorem gX3_isText_X2_clear : GoodIn wsX3_isText (wsV RX3 37 RX2 yX2_clear wsX2_clear) := goodIn_app (goodIn_of _ (by decide +kernel)) ggX3_isText_X2_clear
set_option maxRecDepth 20000 in
theorem ggX3_isText_X3_readsItem : GoodIn wsX3_isText wsX3_readsItem := goodIn_r _ [15, 1, 16, 17, 18, 14, 19, 2, 20, 21, 22, 23, 3, 24, 25, 26, 27, 28, 29, 30, 31, 32, 33, 34, 35, 36, 37, 38, 39, 40, 41, 42, 43, 44, 7, 45, 46, 47, 48, 49, 9, 50, 51, 52, 53, 54, 10, 55, 56, 57, 58, 59, 60, 61, 62, 63, 64, 65, 66, 67, 68, 69, 70, 71, 72, 73, 74, 75, 76, 77, 78, 79, 80, 81, 82, 83, 84, 85, 86, 87, 88, 89, 90] (by decide +kernel) (by decide +kernel)
set_option maxRecDepth 20000 in
theorem gX3_isText_X3_readsItem : GoodIn wsX3_isText (wsV RX3 43 RX3 yX3_readsItem wsX3_readsItem) := goodIn_app (goodIn_of _ (by decide +kernel)) ggX3_isText_X3_readsItem
set_option maxRecDepth 20000 in
theorem ggX3_isText_X3_reads : GoodIn wsX3_isText wsX3_reads := goodIn_r _ [19, 2, 20, 21, 22, 14, 23, 3, 24, 80, 81, 82, 83] (by decide +kernel) (by decide +kernel)
set_option maxRecDepth 20000 in
theorem gX3_isText_X3_reads : GoodIn wsX3_isText (wsV RX3 47 RX3 yX3_reads wsX3_reads) := goodIn_app (goodIn_of _ (by decide +kernel)) ggX3_isText_X3_reads
theorem dX3_isText_0 : decode cX3_isText 0 = .ok (.aload_n 0, 1) := by decide +kernel
theorem dX3_isText_1 : decode cX3_isText 1 = .ok (.getfield 18, 3) := by decide +kernel
theorem dX3_isText_4 : decode cX3_isText 4 = .ok (.invokevirtual 37, 3) := by decide +kernel
theorem dX3_isText_7 : decode cX3_isText 7 = .ok (.aload_n 0, 1) := by decide +kernel
theorem dX3_isText_8 : decode cX3_isText 8 = .ok (.iconst 0, 1) := by decide +kernel
theorem dX3_isText_9 : decode cX3_isText 9 = .ok (.putfield 40, 3) := by decide +kernel
theorem dX3_isText_12 : decode cX3_isText 12 = .ok (.iconst 1, 1) := by decide +kernel
theorem dX3_isText_13 : decode cX3_isText 13 = .ok (.istore_n 1, 1) := by decide +kernel
theorem dX3_isText_14 : decode cX3_isText 14 = .ok (.iload_n 1, 1) := by decide +kernel
theorem dX3_isText_15 : decode cX3_isText 15 = .ok (.bipush 16, 2) := by decide +kernel
theorem dX3_isText_17 : decode cX3_isText 17 = .ok (.if_icmp .gt 48, 3) := by decide +kernel
theorem dX3_isText_20 : decode cX3_isText 20 = .ok (.aload_n 0, 1) := by decide +kernel
theorem dX3_isText_21 : decode cX3_isText 21 = .ok (.invokevirtual 43, 3) := by decide +kernel
theorem dX3_isText_24 : decode cX3_isText 24 = .ok (.ifCond .ne 5, 3) := by decide +kernel
theorem dX3_isText_27 : decode cX3_isText 27 = .ok (.iconst 0, 1) := by decide +kernel
theorem dX3_isText_28 : decode cX3_isText 28 = .ok (.ireturn, 1) := by decide +kernel
theorem dX3_isText_29 : decode cX3_isText 29 = .ok (.aload_n 0, 1) := by decide +kernel
theorem dX3_isText_30 : decode cX3_isText 30 = .ok (.getfield 40, 3) := by decide +kernel
theorem dX3_isText_33 : decode cX3_isText 33 = .ok (.aload_n 0, 1) := by decide +kernel
theorem dX3_isText_34 : decode cX3_isText 34 = .ok (.getfield 33, 3) := by decide +kernel
theorem dX3_isText_37 : decode cX3_isText 37 = .ok (.if_icmp .ne 5, 3) := by decide +kernel
theorem dX3_isText_40 : decode cX3_isText 40 = .ok (.iconst 1, 1) := by decide +kernel
theorem dX3_isText_41 : decode cX3_isText 41 = .ok (.ireturn, 1) := by decide +kernel
theorem dX3_isText_42 : decode cX3_isText 42 = .ok (.iload_n 1, 1) := by decide +kernel
theorem dX3_isText_43 : decode cX3_isText 43 = .ok (.bipush 16, 2) := by decide +kernel
theorem dX3_isText_45 : decode cX3_isText 45 = .ok (.if_icmp .eq 12, 3) := by decide +kernel
theorem dX3_isText_48 : decode cX3_isText 48 = .ok (.aload_n 0, 1) := by decide +kernel
theorem dX3_isText_49 : decode cX3_isText 49 = .ok (.bipush 59, 2) := by decide +kernel
theorem dX3_isText_51 : decode cX3_isText 51 = .ok (.invokevirtual 47, 3) := by decide +kernel
theorem dX3_isText_54 : decode cX3_isText 54 = .ok (.ifCond .ne 5, 3) := by decide +kernel
theorem dX3_isText_57 : decode cX3_isText 57 = .ok (.iconst 0, 1) := by decide +kernel
theorem dX3_isText_58 : decode cX3_isText 58 = .ok (.ireturn, 1) := by decide +kernel
theorem dX3_isText_59 : decode cX3_isText 59 = .ok (.iinc 1 1, 3) := by decide +kernel
theorem dX3_isText_62 : decode cX3_isText 62 = .ok (.goto (-48), 3) := by decide +kernel
theorem dX3_isText_65 : decode cX3_isText 65 = .ok (.iconst 0, 1) := by decide +kernel
theorem dX3_isText_66 : decode cX3_isText 66 = .ok (.ireturn, 1) := by decide +kernel
theorem dX3_codeAt_0 : decode cX3_codeAt 0 = .ok (.iload_n 1, 1) := by decide +kernel
theorem dX3_codeAt_1 : decode cX3_codeAt 1 = .ok (.aload_n 0, 1) := by decide +kernel
theorem dX3_codeAt_2 : decode cX3_codeAt 2 = .ok (.getfield 33, 3) := by decide +kernel
theorem dX3_codeAt_5 : decode cX3_codeAt 5 = .ok (.if_icmp .ge 12, 3) := by decide +kernel
theorem dX3_codeAt_8 : decode cX3_codeAt 8 = .ok (.aload_n 0, 1) := by decide +kernel
theorem dX3_codeAt_9 : decode cX3_codeAt 9 = .ok (.getfield 9, 3) := by decide +kernel
theorem dX3_codeAt_12 : decode cX3_codeAt 12 = .ok (.iload_n 1, 1) := by decide +kernel
theorem dX3_codeAt_13 : decode cX3_codeAt 13 = .ok (.iaload, 1) := by decide +kernel
theorem dX3_codeAt_14 : decode cX3_codeAt 14 = .ok (.goto 5, 3) := by decide +kernel
theorem dX3_codeAt_17 : decode cX3_codeAt 17 = .ok (.bipush (-9), 2) := by decide +kernel
theorem dX3_codeAt_19 : decode cX3_codeAt 19 = .ok (.ireturn, 1) := by decide +kernel
set_option maxRecDepth 20000 in
theorem ggX3_reads_X3_codeAt : GoodIn wsX3_reads wsX3_codeAt := goodIn_r _ [6, 7, 8, 9, 10, 11, 12] (by decide +kernel) (by decide +kernel)
set_option maxRecDepth 20000 in
theorem gX3_reads_X3_codeAt : GoodIn wsX3_reads (wsV RX3 51 RX3 yX3_codeAt wsX3_codeAt) := goodIn_app (goodIn_of _ (by decide +kernel)) ggX3_reads_X3_codeAt
theorem dX3_reads_0 : decode cX3_reads 0 = .ok (.aload_n 0, 1) := by decide +kernel
theorem dX3_reads_1 : decode cX3_reads 1 = .ok (.aload_n 0, 1) := by decide +kernel
theorem dX3_reads_2 : decode cX3_reads 2 = .ok (.getfield 40, 3) := by decide +kernel
theorem dX3_reads_5 : decode cX3_reads 5 = .ok (.invokevirtual 51, 3) := by decide +kernel
theorem dX3_reads_8 : decode cX3_reads 8 = .ok (.iload_n 1, 1) := by decide +kernel
theorem dX3_reads_9 : decode cX3_reads 9 = .ok (.if_icmp .eq 5, 3) := by decide +kernel
theorem dX3_reads_12 : decode cX3_reads 12 = .ok (.iconst 0, 1) := by decide +kernel
theorem dX3_reads_13 : decode cX3_reads 13 = .ok (.ireturn, 1) := by decide +kernel
theorem dX3_reads_14 : decode cX3_reads 14 = .ok (.aload_n 0, 1) := by decide +kernel
theorem dX3_reads_15 : decode cX3_reads 15 = .ok (.dup, 1) := by decide +kernel
theorem dX3_reads_16 : decode cX3_reads 16 = .ok (.getfield 40, 3) := by decide +kernel
theorem dX3_reads_19 : decode cX3_reads 19 = .ok (.iconst 1, 1) := by decide +kernel
theorem dX3_reads_20 : decode cX3_reads 20 = .ok (.iadd, 1) := by decide +kernel
theorem dX3_reads_21 : decode cX3_reads 21 = .ok (.putfield 40, 3) := by decide +kernel
theorem dX3_reads_24 : decode cX3_reads 24 = .ok (.iconst 1, 1) := by decide +kernel
theorem dX3_reads_25 : decode cX3_reads 25 = .ok (.ireturn, 1) := by decide +kernel
set_option maxRecDepth 20000 in
theorem ggX3_readsItem_X3_reads : GoodIn wsX3_readsItem wsX3_reads := goodIn_r _ [6, 7, 8, 9, 10, 5, 11, 12, 13, 72, 73, 74, 75] (by decide +kernel) (by decide +kernel)
set_option maxRecDepth 20000 in
theorem gX3_readsItem_X3_reads : GoodIn wsX3_readsItem (wsV RX3 47 RX3 yX3_reads wsX3_reads) := goodIn_app (goodIn_of _ (by decide +kernel)) ggX3_readsItem_X3_reads
set_option maxRecDepth 20000 in
theorem ggX3_readsItem_X3_readSigns : GoodIn wsX3_readsItem wsX3_readSigns := goodIn_r _ [17, 7, 8, 9, 10, 5, 11, 12, 13, 18, 19, 20, 21, 22, 23, 24, 25, 26, 27, 28, 29, 30, 72, 73, 74, 75] (by decide +kernel) (by decide +kernel)
set_option maxRecDepth 20000 in
theorem gX3_readsItem_X3_readSigns : GoodIn wsX3_readsItem (wsV RX3 55 RX3 yX3_readSigns wsX3_readSigns) := goodIn_app (goodIn_of _ (by decide +kernel)) ggX3_readsItem_X3_readSigns
set_option maxRecDepth 20000 in
theorem ggX3_readsItem_X2_addGround : GoodIn wsX3_readsItem wsX2_addGround := goodIn_r _ [35, 36, 37, 38, 34, 39, 40, 41, 42, 43, 44, 45, 46, 76, 77, 78, 79, 80, 81, 82] (by decide +kernel) (by decide +kernel)
set_option maxRecDepth 20000 in
theorem gX3_readsItem_X2_addGround : GoodIn wsX3_readsItem (wsV RX3 59 RX2 yX2_addGround wsX2_addGround) := goodIn_app (goodIn_of _ (by decide +kernel)) ggX3_readsItem_X2_addGround
set_option maxRecDepth 20000 in
theorem ggX3_readsItem_X3_readsCut : GoodIn wsX3_readsItem wsX3_readsCut := goodIn_r _ [50, 7, 1, 51, 52, 53, 54, 5, 55, 56, 8, 9, 10, 11, 12, 13, 57, 58, 59, 2, 3, 4, 6, 60, 61, 23, 62, 63, 22, 24, 64, 26, 27, 65, 66, 67, 68, 69, 70, 71, 37, 38, 34, 39, 40, 41, 42, 43, 44, 45, 46, 72, 73, 74, 75, 76, 77, 78, 79, 80, 81, 82] (by decide +kernel) (by decide +kernel)
set_option maxRecDepth 20000 in
theorem gX3_readsItem_X3_readsCut : GoodIn wsX3_readsItem (wsV RX3 62 RX3 yX3_readsCut wsX3_readsCut) := goodIn_app (goodIn_of _ (by decide +kernel)) ggX3_readsItem_X3_readsCut
theorem dX3_readsItem_0 : decode cX3_readsItem 0 = .ok (.aload_n 0, 1) := by decide +kernel
theorem dX3_readsItem_1 : decode cX3_readsItem 1 = .ok (.bipush 103, 2) := by decide +kernel
theorem dX3_readsItem_3 : decode cX3_readsItem 3 = .ok (.invokevirtual 47, 3) := by decide +kernel
theorem dX3_readsItem_6 : decode cX3_readsItem 6 = .ok (.ifCond .eq 17, 3) := by decide +kernel
theorem dX3_readsItem_9 : decode cX3_readsItem 9 = .ok (.aload_n 0, 1) := by decide +kernel
theorem dX3_readsItem_10 : decode cX3_readsItem 10 = .ok (.getfield 18, 3) := by decide +kernel
theorem dX3_readsItem_13 : decode cX3_readsItem 13 = .ok (.aload_n 0, 1) := by decide +kernel
theorem dX3_readsItem_14 : decode cX3_readsItem 14 = .ok (.invokevirtual 55, 3) := by decide +kernel
theorem dX3_readsItem_17 : decode cX3_readsItem 17 = .ok (.invokevirtual 59, 3) := by decide +kernel
theorem dX3_readsItem_20 : decode cX3_readsItem 20 = .ok (.pop, 1) := by decide +kernel
theorem dX3_readsItem_21 : decode cX3_readsItem 21 = .ok (.iconst 1, 1) := by decide +kernel
theorem dX3_readsItem_22 : decode cX3_readsItem 22 = .ok (.ireturn, 1) := by decide +kernel
theorem dX3_readsItem_23 : decode cX3_readsItem 23 = .ok (.aload_n 0, 1) := by decide +kernel
theorem dX3_readsItem_24 : decode cX3_readsItem 24 = .ok (.bipush 99, 2) := by decide +kernel
theorem dX3_readsItem_26 : decode cX3_readsItem 26 = .ok (.invokevirtual 47, 3) := by decide +kernel
theorem dX3_readsItem_29 : decode cX3_readsItem 29 = .ok (.ifCond .eq 14, 3) := by decide +kernel
theorem dX3_readsItem_32 : decode cX3_readsItem 32 = .ok (.aload_n 0, 1) := by decide +kernel
theorem dX3_readsItem_33 : decode cX3_readsItem 33 = .ok (.invokevirtual 62, 3) := by decide +kernel
theorem dX3_readsItem_36 : decode cX3_readsItem 36 = .ok (.ifCond .eq 7, 3) := by decide +kernel
theorem dX3_readsItem_39 : decode cX3_readsItem 39 = .ok (.iconst 1, 1) := by decide +kernel
theorem dX3_readsItem_40 : decode cX3_readsItem 40 = .ok (.goto 4, 3) := by decide +kernel
theorem dX3_readsItem_43 : decode cX3_readsItem 43 = .ok (.iconst 0, 1) := by decide +kernel
theorem dX3_readsItem_44 : decode cX3_readsItem 44 = .ok (.ireturn, 1) := by decide +kernel
set_option maxRecDepth 20000 in
theorem ggX3_readSigns_X3_codeAt : GoodIn wsX3_readSigns wsX3_codeAt := goodIn_r _ [6, 7, 8, 22, 23, 24, 25] (by decide +kernel) (by decide +kernel)
set_option maxRecDepth 20000 in
theorem gX3_readSigns_X3_codeAt : GoodIn wsX3_readSigns (wsV RX3 51 RX3 yX3_codeAt wsX3_codeAt) := goodIn_app (goodIn_of _ (by decide +kernel)) ggX3_readSigns_X3_codeAt
set_option maxRecDepth 20000 in
theorem ggX3_readSigns_X3_signOf : GoodIn wsX3_readSigns wsX3_signOf := goodIn_r _ [11, 12, 13, 14, 15, 16, 17, 18] (by decide +kernel) (by decide +kernel)
set_option maxRecDepth 20000 in
theorem gX3_readSigns_X3_signOf : GoodIn wsX3_readSigns (va_wsS RX3 65 yX3_signOf wsX3_signOf) := goodIn_app (goodIn_of _ (by decide +kernel)) ggX3_readSigns_X3_signOf
set_option maxRecDepth 20000 in
theorem ggX3_readSigns_X0_lettersOf : GoodIn wsX3_readSigns wsX0_lettersOf := goodIn_r _ [21] (by decide +kernel) (by decide +kernel)
set_option maxRecDepth 20000 in
theorem gX3_readSigns_X0_lettersOf : GoodIn wsX3_readSigns (va_wsS RX3 68 yX0_lettersOf wsX0_lettersOf) := goodIn_app (goodIn_of _ (by decide +kernel)) ggX3_readSigns_X0_lettersOf
theorem dX3_readSigns_0 : decode cX3_readSigns 0 = .ok (.iconst 0, 1) := by decide +kernel
theorem dX3_readSigns_1 : decode cX3_readSigns 1 = .ok (.istore_n 1, 1) := by decide +kernel
theorem dX3_readSigns_2 : decode cX3_readSigns 2 = .ok (.iconst 0, 1) := by decide +kernel
theorem dX3_readSigns_3 : decode cX3_readSigns 3 = .ok (.istore_n 2, 1) := by decide +kernel
theorem dX3_readSigns_4 : decode cX3_readSigns 4 = .ok (.iload_n 2, 1) := by decide +kernel
theorem dX3_readSigns_5 : decode cX3_readSigns 5 = .ok (.bipush 6, 2) := by decide +kernel
theorem dX3_readSigns_7 : decode cX3_readSigns 7 = .ok (.if_icmp .ge 53, 3) := by decide +kernel
theorem dX3_readSigns_10 : decode cX3_readSigns 10 = .ok (.aload_n 0, 1) := by decide +kernel
theorem dX3_readSigns_11 : decode cX3_readSigns 11 = .ok (.aload_n 0, 1) := by decide +kernel
theorem dX3_readSigns_12 : decode cX3_readSigns 12 = .ok (.getfield 40, 3) := by decide +kernel
theorem dX3_readSigns_15 : decode cX3_readSigns 15 = .ok (.invokevirtual 51, 3) := by decide +kernel
theorem dX3_readSigns_18 : decode cX3_readSigns 18 = .ok (.invokestatic 65, 3) := by decide +kernel
theorem dX3_readSigns_21 : decode cX3_readSigns 21 = .ok (.istore_n 3, 1) := by decide +kernel
theorem dX3_readSigns_22 : decode cX3_readSigns 22 = .ok (.iload_n 3, 1) := by decide +kernel
theorem dX3_readSigns_23 : decode cX3_readSigns 23 = .ok (.ifCond .eq 15, 3) := by decide +kernel
theorem dX3_readSigns_26 : decode cX3_readSigns 26 = .ok (.iload_n 3, 1) := by decide +kernel
theorem dX3_readSigns_27 : decode cX3_readSigns 27 = .ok (.invokestatic 68, 3) := by decide +kernel
theorem dX3_readSigns_30 : decode cX3_readSigns 30 = .ok (.iload_n 1, 1) := by decide +kernel
theorem dX3_readSigns_31 : decode cX3_readSigns 31 = .ok (.invokestatic 68, 3) := by decide +kernel
theorem dX3_readSigns_34 : decode cX3_readSigns 34 = .ok (.iand, 1) := by decide +kernel
theorem dX3_readSigns_35 : decode cX3_readSigns 35 = .ok (.ifCond .eq 5, 3) := by decide +kernel
theorem dX3_readSigns_38 : decode cX3_readSigns 38 = .ok (.iload_n 1, 1) := by decide +kernel
theorem dX3_readSigns_39 : decode cX3_readSigns 39 = .ok (.ireturn, 1) := by decide +kernel
theorem dX3_readSigns_40 : decode cX3_readSigns 40 = .ok (.iload_n 1, 1) := by decide +kernel
theorem dX3_readSigns_41 : decode cX3_readSigns 41 = .ok (.iload_n 3, 1) := by decide +kernel
theorem dX3_readSigns_42 : decode cX3_readSigns 42 = .ok (.ior, 1) := by decide +kernel
theorem dX3_readSigns_43 : decode cX3_readSigns 43 = .ok (.istore_n 1, 1) := by decide +kernel
theorem dX3_readSigns_44 : decode cX3_readSigns 44 = .ok (.aload_n 0, 1) := by decide +kernel
theorem dX3_readSigns_45 : decode cX3_readSigns 45 = .ok (.dup, 1) := by decide +kernel
theorem dX3_readSigns_46 : decode cX3_readSigns 46 = .ok (.getfield 40, 3) := by decide +kernel
theorem dX3_readSigns_49 : decode cX3_readSigns 49 = .ok (.iconst 1, 1) := by decide +kernel
theorem dX3_readSigns_50 : decode cX3_readSigns 50 = .ok (.iadd, 1) := by decide +kernel
theorem dX3_readSigns_51 : decode cX3_readSigns 51 = .ok (.putfield 40, 3) := by decide +kernel
theorem dX3_readSigns_54 : decode cX3_readSigns 54 = .ok (.iinc 2 1, 3) := by decide +kernel
theorem dX3_readSigns_57 : decode cX3_readSigns 57 = .ok (.goto (-53), 3) := by decide +kernel
theorem dX3_readSigns_60 : decode cX3_readSigns 60 = .ok (.iload_n 1, 1) := by decide +kernel
theorem dX3_readSigns_61 : decode cX3_readSigns 61 = .ok (.ireturn, 1) := by decide +kernel
set_option maxRecDepth 20000 in
theorem ggX3_signOf_X0_plain : GoodIn wsX3_signOf wsX0_plain := goodIn_r _ [4] (by decide +kernel) (by decide +kernel)
set_option maxRecDepth 20000 in
theorem gX3_signOf_X0_plain : GoodIn wsX3_signOf (va_wsS RX3 73 yX0_plain wsX0_plain) := goodIn_app (goodIn_of _ (by decide +kernel)) ggX3_signOf_X0_plain
set_option maxRecDepth 20000 in
theorem ggX3_signOf_X0_negated : GoodIn wsX3_signOf wsX0_negated := goodIn_r _ [7] (by decide +kernel) (by decide +kernel)
set_option maxRecDepth 20000 in
theorem gX3_signOf_X0_negated : GoodIn wsX3_signOf (va_wsS RX3 76 yX0_negated wsX0_negated) := goodIn_app (goodIn_of _ (by decide +kernel)) ggX3_signOf_X0_negated
theorem dX3_signOf_0 : decode cX3_signOf 0 = .ok (.iload_n 0, 1) := by decide +kernel
theorem dX3_signOf_1 : decode cX3_signOf 1 = .ok (.bipush 97, 2) := by decide +kernel
theorem dX3_signOf_3 : decode cX3_signOf 3 = .ok (.if_icmp .lt 17, 3) := by decide +kernel
theorem dX3_signOf_6 : decode cX3_signOf 6 = .ok (.iload_n 0, 1) := by decide +kernel
theorem dX3_signOf_7 : decode cX3_signOf 7 = .ok (.bipush 103, 2) := by decide +kernel
theorem dX3_signOf_9 : decode cX3_signOf 9 = .ok (.if_icmp .ge 11, 3) := by decide +kernel
theorem dX3_signOf_12 : decode cX3_signOf 12 = .ok (.iload_n 0, 1) := by decide +kernel
theorem dX3_signOf_13 : decode cX3_signOf 13 = .ok (.bipush 97, 2) := by decide +kernel
theorem dX3_signOf_15 : decode cX3_signOf 15 = .ok (.isub, 1) := by decide +kernel
theorem dX3_signOf_16 : decode cX3_signOf 16 = .ok (.invokestatic 73, 3) := by decide +kernel
theorem dX3_signOf_19 : decode cX3_signOf 19 = .ok (.ireturn, 1) := by decide +kernel
theorem dX3_signOf_20 : decode cX3_signOf 20 = .ok (.iload_n 0, 1) := by decide +kernel
theorem dX3_signOf_21 : decode cX3_signOf 21 = .ok (.bipush 65, 2) := by decide +kernel
theorem dX3_signOf_23 : decode cX3_signOf 23 = .ok (.if_icmp .lt 17, 3) := by decide +kernel
theorem dX3_signOf_26 : decode cX3_signOf 26 = .ok (.iload_n 0, 1) := by decide +kernel
theorem dX3_signOf_27 : decode cX3_signOf 27 = .ok (.bipush 71, 2) := by decide +kernel
theorem dX3_signOf_29 : decode cX3_signOf 29 = .ok (.if_icmp .ge 11, 3) := by decide +kernel
theorem dX3_signOf_32 : decode cX3_signOf 32 = .ok (.iload_n 0, 1) := by decide +kernel
theorem dX3_signOf_33 : decode cX3_signOf 33 = .ok (.bipush 65, 2) := by decide +kernel
theorem dX3_signOf_35 : decode cX3_signOf 35 = .ok (.isub, 1) := by decide +kernel
theorem dX3_signOf_36 : decode cX3_signOf 36 = .ok (.invokestatic 76, 3) := by decide +kernel
theorem dX3_signOf_39 : decode cX3_signOf 39 = .ok (.ireturn, 1) := by decide +kernel
theorem dX3_signOf_40 : decode cX3_signOf 40 = .ok (.iconst 0, 1) := by decide +kernel
theorem dX3_signOf_41 : decode cX3_signOf 41 = .ok (.ireturn, 1) := by decide +kernel
set_option maxRecDepth 20000 in
theorem ggX3_readsCut_X3_readLine : GoodIn wsX3_readsCut wsX3_readLine := goodIn_r _ [8, 1, 2, 9, 10, 11, 12, 7, 13, 14, 15, 16, 17, 18, 51, 52, 53, 54, 55, 56, 57, 58, 59, 60, 61] (by decide +kernel) (by decide +kernel)
set_option maxRecDepth 20000 in
theorem gX3_readsCut_X3_readLine : GoodIn wsX3_readsCut (wsV RX3 79 RX3 yX3_readLine wsX3_readLine) := goodIn_app (goodIn_of _ (by decide +kernel)) ggX3_readsCut_X3_readLine
set_option maxRecDepth 20000 in
theorem ggX3_readsCut_X3_reads : GoodIn wsX3_readsCut wsX3_reads := goodIn_r _ [22, 1, 10, 11, 12, 7, 13, 14, 15, 51, 52, 53, 54] (by decide +kernel) (by decide +kernel)
set_option maxRecDepth 20000 in
theorem gX3_readsCut_X3_reads : GoodIn wsX3_readsCut (wsV RX3 47 RX3 yX3_reads wsX3_reads) := goodIn_app (goodIn_of _ (by decide +kernel)) ggX3_readsCut_X3_reads
set_option maxRecDepth 20000 in
theorem ggX3_readsCut_X3_codeAt : GoodIn wsX3_readsCut wsX3_codeAt := goodIn_r _ [13, 14, 15, 51, 52, 53, 54] (by decide +kernel) (by decide +kernel)
set_option maxRecDepth 20000 in
theorem gX3_readsCut_X3_codeAt : GoodIn wsX3_readsCut (wsV RX3 51 RX3 yX3_codeAt wsX3_codeAt) := goodIn_app (goodIn_of _ (by decide +kernel)) ggX3_readsCut_X3_codeAt
set_option maxRecDepth 20000 in
theorem ggX3_readsCut_X0_cutOf : GoodIn wsX3_readsCut wsX0_cutOf := goodIn_r _ [26, 27, 28, 25, 29, 30, 31, 32, 33, 34, 35, 36, 37, 38] (by decide +kernel) (by decide +kernel)
set_option maxRecDepth 20000 in
theorem gX3_readsCut_X0_cutOf : GoodIn wsX3_readsCut (va_wsS RX3 85 yX0_cutOf wsX0_cutOf) := goodIn_app (goodIn_of _ (by decide +kernel)) ggX3_readsCut_X0_cutOf
set_option maxRecDepth 20000 in
theorem ggX3_readsCut_X2_add : GoodIn wsX3_readsCut wsX2_add := goodIn_r _ [43, 44, 45, 46, 47, 48, 49, 50, 55, 56, 57, 58, 59, 60, 61] (by decide +kernel) (by decide +kernel)
set_option maxRecDepth 20000 in
theorem gX3_readsCut_X2_add : GoodIn wsX3_readsCut (wsV RX3 89 RX2 yX2_add wsX2_add) := goodIn_app (goodIn_of _ (by decide +kernel)) ggX3_readsCut_X2_add
theorem dX3_readsCut_0 : decode cX3_readsCut 0 = .ok (.aload_n 0, 1) := by decide +kernel
theorem dX3_readsCut_1 : decode cX3_readsCut 1 = .ok (.invokevirtual 79, 3) := by decide +kernel
theorem dX3_readsCut_4 : decode cX3_readsCut 4 = .ok (.istore_n 1, 1) := by decide +kernel
theorem dX3_readsCut_5 : decode cX3_readsCut 5 = .ok (.iload_n 1, 1) := by decide +kernel
theorem dX3_readsCut_6 : decode cX3_readsCut 6 = .ok (.bipush (-9), 2) := by decide +kernel
theorem dX3_readsCut_8 : decode cX3_readsCut 8 = .ok (.if_icmp .eq 12, 3) := by decide +kernel
theorem dX3_readsCut_11 : decode cX3_readsCut 11 = .ok (.aload_n 0, 1) := by decide +kernel
theorem dX3_readsCut_12 : decode cX3_readsCut 12 = .ok (.bipush 44, 2) := by decide +kernel
theorem dX3_readsCut_14 : decode cX3_readsCut 14 = .ok (.invokevirtual 47, 3) := by decide +kernel
theorem dX3_readsCut_17 : decode cX3_readsCut 17 = .ok (.ifCond .ne 5, 3) := by decide +kernel
theorem dX3_readsCut_20 : decode cX3_readsCut 20 = .ok (.iconst 0, 1) := by decide +kernel
theorem dX3_readsCut_21 : decode cX3_readsCut 21 = .ok (.ireturn, 1) := by decide +kernel
theorem dX3_readsCut_22 : decode cX3_readsCut 22 = .ok (.aload_n 0, 1) := by decide +kernel
theorem dX3_readsCut_23 : decode cX3_readsCut 23 = .ok (.invokevirtual 79, 3) := by decide +kernel
theorem dX3_readsCut_26 : decode cX3_readsCut 26 = .ok (.istore_n 2, 1) := by decide +kernel
theorem dX3_readsCut_27 : decode cX3_readsCut 27 = .ok (.iload_n 2, 1) := by decide +kernel
theorem dX3_readsCut_28 : decode cX3_readsCut 28 = .ok (.bipush (-9), 2) := by decide +kernel
theorem dX3_readsCut_30 : decode cX3_readsCut 30 = .ok (.if_icmp .ne 5, 3) := by decide +kernel
theorem dX3_readsCut_33 : decode cX3_readsCut 33 = .ok (.iconst 0, 1) := by decide +kernel
theorem dX3_readsCut_34 : decode cX3_readsCut 34 = .ok (.ireturn, 1) := by decide +kernel
theorem dX3_readsCut_35 : decode cX3_readsCut 35 = .ok (.aload_n 0, 1) := by decide +kernel
theorem dX3_readsCut_36 : decode cX3_readsCut 36 = .ok (.aload_n 0, 1) := by decide +kernel
theorem dX3_readsCut_37 : decode cX3_readsCut 37 = .ok (.getfield 40, 3) := by decide +kernel
theorem dX3_readsCut_40 : decode cX3_readsCut 40 = .ok (.invokevirtual 51, 3) := by decide +kernel
theorem dX3_readsCut_43 : decode cX3_readsCut 43 = .ok (.istore_n 3, 1) := by decide +kernel
theorem dX3_readsCut_44 : decode cX3_readsCut 44 = .ok (.iload_n 3, 1) := by decide +kernel
theorem dX3_readsCut_45 : decode cX3_readsCut 45 = .ok (.bipush 97, 2) := by decide +kernel
theorem dX3_readsCut_47 : decode cX3_readsCut 47 = .ok (.if_icmp .lt 9, 3) := by decide +kernel
theorem dX3_readsCut_50 : decode cX3_readsCut 50 = .ok (.iload_n 3, 1) := by decide +kernel
theorem dX3_readsCut_51 : decode cX3_readsCut 51 = .ok (.bipush 103, 2) := by decide +kernel
theorem dX3_readsCut_53 : decode cX3_readsCut 53 = .ok (.if_icmp .lt 5, 3) := by decide +kernel
theorem dX3_readsCut_56 : decode cX3_readsCut 56 = .ok (.iconst 0, 1) := by decide +kernel
theorem dX3_readsCut_57 : decode cX3_readsCut 57 = .ok (.ireturn, 1) := by decide +kernel
theorem dX3_readsCut_58 : decode cX3_readsCut 58 = .ok (.iload_n 3, 1) := by decide +kernel
theorem dX3_readsCut_59 : decode cX3_readsCut 59 = .ok (.bipush 97, 2) := by decide +kernel
theorem dX3_readsCut_61 : decode cX3_readsCut 61 = .ok (.isub, 1) := by decide +kernel
theorem dX3_readsCut_62 : decode cX3_readsCut 62 = .ok (.istore 4, 2) := by decide +kernel
theorem dX3_readsCut_64 : decode cX3_readsCut 64 = .ok (.aload_n 0, 1) := by decide +kernel
theorem dX3_readsCut_65 : decode cX3_readsCut 65 = .ok (.getfield 18, 3) := by decide +kernel
theorem dX3_readsCut_68 : decode cX3_readsCut 68 = .ok (.getfield 82, 3) := by decide +kernel
theorem dX3_readsCut_71 : decode cX3_readsCut 71 = .ok (.iload_n 1, 1) := by decide +kernel
theorem dX3_readsCut_72 : decode cX3_readsCut 72 = .ok (.iaload, 1) := by decide +kernel
theorem dX3_readsCut_73 : decode cX3_readsCut 73 = .ok (.aload_n 0, 1) := by decide +kernel
theorem dX3_readsCut_74 : decode cX3_readsCut 74 = .ok (.getfield 18, 3) := by decide +kernel
theorem dX3_readsCut_77 : decode cX3_readsCut 77 = .ok (.getfield 82, 3) := by decide +kernel
theorem dX3_readsCut_80 : decode cX3_readsCut 80 = .ok (.iload_n 2, 1) := by decide +kernel
theorem dX3_readsCut_81 : decode cX3_readsCut 81 = .ok (.iaload, 1) := by decide +kernel
theorem dX3_readsCut_82 : decode cX3_readsCut 82 = .ok (.iload 4, 2) := by decide +kernel
theorem dX3_readsCut_84 : decode cX3_readsCut 84 = .ok (.invokestatic 85, 3) := by decide +kernel
theorem dX3_readsCut_87 : decode cX3_readsCut 87 = .ok (.istore 5, 2) := by decide +kernel
theorem dX3_readsCut_89 : decode cX3_readsCut 89 = .ok (.iload 5, 2) := by decide +kernel
theorem dX3_readsCut_91 : decode cX3_readsCut 91 = .ok (.bipush (-9), 2) := by decide +kernel
theorem dX3_readsCut_93 : decode cX3_readsCut 93 = .ok (.if_icmp .ne 5, 3) := by decide +kernel
theorem dX3_readsCut_96 : decode cX3_readsCut 96 = .ok (.iconst 0, 1) := by decide +kernel
theorem dX3_readsCut_97 : decode cX3_readsCut 97 = .ok (.ireturn, 1) := by decide +kernel
theorem dX3_readsCut_98 : decode cX3_readsCut 98 = .ok (.aload_n 0, 1) := by decide +kernel
theorem dX3_readsCut_99 : decode cX3_readsCut 99 = .ok (.getfield 18, 3) := by decide +kernel
theorem dX3_readsCut_102 : decode cX3_readsCut 102 = .ok (.iload 5, 2) := by decide +kernel
theorem dX3_readsCut_104 : decode cX3_readsCut 104 = .ok (.iload_n 1, 1) := by decide +kernel
theorem dX3_readsCut_105 : decode cX3_readsCut 105 = .ok (.iload_n 2, 1) := by decide +kernel
theorem dX3_readsCut_106 : decode cX3_readsCut 106 = .ok (.iload 4, 2) := by decide +kernel
theorem dX3_readsCut_108 : decode cX3_readsCut 108 = .ok (.invokevirtual 89, 3) := by decide +kernel
theorem dX3_readsCut_111 : decode cX3_readsCut 111 = .ok (.pop, 1) := by decide +kernel
theorem dX3_readsCut_112 : decode cX3_readsCut 112 = .ok (.aload_n 0, 1) := by decide +kernel
theorem dX3_readsCut_113 : decode cX3_readsCut 113 = .ok (.dup, 1) := by decide +kernel
theorem dX3_readsCut_114 : decode cX3_readsCut 114 = .ok (.getfield 40, 3) := by decide +kernel
theorem dX3_readsCut_117 : decode cX3_readsCut 117 = .ok (.iconst 1, 1) := by decide +kernel
theorem dX3_readsCut_118 : decode cX3_readsCut 118 = .ok (.iadd, 1) := by decide +kernel
theorem dX3_readsCut_119 : decode cX3_readsCut 119 = .ok (.putfield 40, 3) := by decide +kernel
theorem dX3_readsCut_122 : decode cX3_readsCut 122 = .ok (.iconst 1, 1) := by decide +kernel
theorem dX3_readsCut_123 : decode cX3_readsCut 123 = .ok (.ireturn, 1) := by decide +kernel
set_option maxRecDepth 20000 in
theorem ggX3_readLine_X3_codeAt : GoodIn wsX3_readLine wsX3_codeAt := goodIn_r _ [8, 9, 10, 14, 15, 16, 17] (by decide +kernel) (by decide +kernel)
set_option maxRecDepth 20000 in
theorem gX3_readLine_X3_codeAt : GoodIn wsX3_readLine (wsV RX3 51 RX3 yX3_codeAt wsX3_codeAt) := goodIn_app (goodIn_of _ (by decide +kernel)) ggX3_readLine_X3_codeAt
set_option maxRecDepth 20000 in
theorem ggX3_readLine_X3_isDigit : GoodIn wsX3_readLine wsX3_isDigit := goodIn_r _ [13] (by decide +kernel) (by decide +kernel)
set_option maxRecDepth 20000 in
theorem gX3_readLine_X3_isDigit : GoodIn wsX3_readLine (va_wsS RX3 93 yX3_isDigit wsX3_isDigit) := goodIn_app (goodIn_of _ (by decide +kernel)) ggX3_readLine_X3_isDigit
theorem dX3_readLine_0 : decode cX3_readLine 0 = .ok (.aload_n 0, 1) := by decide +kernel
theorem dX3_readLine_1 : decode cX3_readLine 1 = .ok (.aload_n 0, 1) := by decide +kernel
theorem dX3_readLine_2 : decode cX3_readLine 2 = .ok (.getfield 40, 3) := by decide +kernel
theorem dX3_readLine_5 : decode cX3_readLine 5 = .ok (.invokevirtual 51, 3) := by decide +kernel
theorem dX3_readLine_8 : decode cX3_readLine 8 = .ok (.invokestatic 93, 3) := by decide +kernel
theorem dX3_readLine_11 : decode cX3_readLine 11 = .ok (.ifCond .ne 6, 3) := by decide +kernel
theorem dX3_readLine_14 : decode cX3_readLine 14 = .ok (.bipush (-9), 2) := by decide +kernel
theorem dX3_readLine_16 : decode cX3_readLine 16 = .ok (.ireturn, 1) := by decide +kernel
theorem dX3_readLine_17 : decode cX3_readLine 17 = .ok (.aload_n 0, 1) := by decide +kernel
theorem dX3_readLine_18 : decode cX3_readLine 18 = .ok (.aload_n 0, 1) := by decide +kernel
theorem dX3_readLine_19 : decode cX3_readLine 19 = .ok (.getfield 40, 3) := by decide +kernel
theorem dX3_readLine_22 : decode cX3_readLine 22 = .ok (.invokevirtual 51, 3) := by decide +kernel
theorem dX3_readLine_25 : decode cX3_readLine 25 = .ok (.bipush 48, 2) := by decide +kernel
theorem dX3_readLine_27 : decode cX3_readLine 27 = .ok (.isub, 1) := by decide +kernel
theorem dX3_readLine_28 : decode cX3_readLine 28 = .ok (.istore_n 1, 1) := by decide +kernel
theorem dX3_readLine_29 : decode cX3_readLine 29 = .ok (.iconst 1, 1) := by decide +kernel
theorem dX3_readLine_30 : decode cX3_readLine 30 = .ok (.istore_n 2, 1) := by decide +kernel
theorem dX3_readLine_31 : decode cX3_readLine 31 = .ok (.aload_n 0, 1) := by decide +kernel
theorem dX3_readLine_32 : decode cX3_readLine 32 = .ok (.aload_n 0, 1) := by decide +kernel
theorem dX3_readLine_33 : decode cX3_readLine 33 = .ok (.getfield 40, 3) := by decide +kernel
theorem dX3_readLine_36 : decode cX3_readLine 36 = .ok (.iconst 1, 1) := by decide +kernel
theorem dX3_readLine_37 : decode cX3_readLine 37 = .ok (.iadd, 1) := by decide +kernel
theorem dX3_readLine_38 : decode cX3_readLine 38 = .ok (.invokevirtual 51, 3) := by decide +kernel
theorem dX3_readLine_41 : decode cX3_readLine 41 = .ok (.invokestatic 93, 3) := by decide +kernel
theorem dX3_readLine_44 : decode cX3_readLine 44 = .ok (.ifCond .eq 24, 3) := by decide +kernel
theorem dX3_readLine_47 : decode cX3_readLine 47 = .ok (.bipush 10, 2) := by decide +kernel
theorem dX3_readLine_49 : decode cX3_readLine 49 = .ok (.iload_n 1, 1) := by decide +kernel
theorem dX3_readLine_50 : decode cX3_readLine 50 = .ok (.imul, 1) := by decide +kernel
theorem dX3_readLine_51 : decode cX3_readLine 51 = .ok (.aload_n 0, 1) := by decide +kernel
theorem dX3_readLine_52 : decode cX3_readLine 52 = .ok (.aload_n 0, 1) := by decide +kernel
theorem dX3_readLine_53 : decode cX3_readLine 53 = .ok (.getfield 40, 3) := by decide +kernel
theorem dX3_readLine_56 : decode cX3_readLine 56 = .ok (.iconst 1, 1) := by decide +kernel
theorem dX3_readLine_57 : decode cX3_readLine 57 = .ok (.iadd, 1) := by decide +kernel
theorem dX3_readLine_58 : decode cX3_readLine 58 = .ok (.invokevirtual 51, 3) := by decide +kernel
theorem dX3_readLine_61 : decode cX3_readLine 61 = .ok (.iadd, 1) := by decide +kernel
theorem dX3_readLine_62 : decode cX3_readLine 62 = .ok (.bipush 48, 2) := by decide +kernel
theorem dX3_readLine_64 : decode cX3_readLine 64 = .ok (.isub, 1) := by decide +kernel
theorem dX3_readLine_65 : decode cX3_readLine 65 = .ok (.istore_n 1, 1) := by decide +kernel
theorem dX3_readLine_66 : decode cX3_readLine 66 = .ok (.iconst 2, 1) := by decide +kernel
theorem dX3_readLine_67 : decode cX3_readLine 67 = .ok (.istore_n 2, 1) := by decide +kernel
theorem dX3_readLine_68 : decode cX3_readLine 68 = .ok (.iload_n 1, 1) := by decide +kernel
theorem dX3_readLine_69 : decode cX3_readLine 69 = .ok (.aload_n 0, 1) := by decide +kernel
theorem dX3_readLine_70 : decode cX3_readLine 70 = .ok (.getfield 18, 3) := by decide +kernel
theorem dX3_readLine_73 : decode cX3_readLine 73 = .ok (.getfield 96, 3) := by decide +kernel
theorem dX3_readLine_76 : decode cX3_readLine 76 = .ok (.if_icmp .lt 6, 3) := by decide +kernel
theorem dX3_readLine_79 : decode cX3_readLine 79 = .ok (.bipush (-9), 2) := by decide +kernel
theorem dX3_readLine_81 : decode cX3_readLine 81 = .ok (.ireturn, 1) := by decide +kernel
theorem dX3_readLine_82 : decode cX3_readLine 82 = .ok (.aload_n 0, 1) := by decide +kernel
theorem dX3_readLine_83 : decode cX3_readLine 83 = .ok (.dup, 1) := by decide +kernel
theorem dX3_readLine_84 : decode cX3_readLine 84 = .ok (.getfield 40, 3) := by decide +kernel
theorem dX3_readLine_87 : decode cX3_readLine 87 = .ok (.iload_n 2, 1) := by decide +kernel
theorem dX3_readLine_88 : decode cX3_readLine 88 = .ok (.iadd, 1) := by decide +kernel
theorem dX3_readLine_89 : decode cX3_readLine 89 = .ok (.putfield 40, 3) := by decide +kernel
theorem dX3_readLine_92 : decode cX3_readLine 92 = .ok (.iload_n 1, 1) := by decide +kernel
theorem dX3_readLine_93 : decode cX3_readLine 93 = .ok (.ireturn, 1) := by decide +kernel
theorem dX3_isDigit_0 : decode cX3_isDigit 0 = .ok (.iload_n 0, 1) := by decide +kernel
theorem dX3_isDigit_1 : decode cX3_isDigit 1 = .ok (.bipush 48, 2) := by decide +kernel
theorem dX3_isDigit_3 : decode cX3_isDigit 3 = .ok (.if_icmp .lt 13, 3) := by decide +kernel
theorem dX3_isDigit_6 : decode cX3_isDigit 6 = .ok (.iload_n 0, 1) := by decide +kernel
theorem dX3_isDigit_7 : decode cX3_isDigit 7 = .ok (.bipush 57, 2) := by decide +kernel
theorem dX3_isDigit_9 : decode cX3_isDigit 9 = .ok (.if_icmp .gt 7, 3) := by decide +kernel
theorem dX3_isDigit_12 : decode cX3_isDigit 12 = .ok (.iconst 1, 1) := by decide +kernel
theorem dX3_isDigit_13 : decode cX3_isDigit 13 = .ok (.goto 4, 3) := by decide +kernel
theorem dX3_isDigit_16 : decode cX3_isDigit 16 = .ok (.iconst 0, 1) := by decide +kernel
theorem dX3_isDigit_17 : decode cX3_isDigit 17 = .ok (.ireturn, 1) := by decide +kernel
theorem dX4_init_0 : decode cX4_init 0 = .ok (.aload_n 0, 1) := by decide +kernel
theorem dX4_init_1 : decode cX4_init 1 = .ok (.invokespecial 3, 3) := by decide +kernel
theorem dX4_init_4 : decode cX4_init 4 = .ok (.aload_n 0, 1) := by decide +kernel
theorem dX4_init_5 : decode cX4_init 5 = .ok (.bipush 60, 2) := by decide +kernel
theorem dX4_init_7 : decode cX4_init 7 = .ok (.newarray .int, 2) := by decide +kernel
theorem dX4_init_9 : decode cX4_init 9 = .ok (.putfield 9, 3) := by decide +kernel
theorem dX4_init_12 : decode cX4_init 12 = .ok (.aload_n 0, 1) := by decide +kernel
theorem dX4_init_13 : decode cX4_init 13 = .ok (.iconst (-1), 1) := by decide +kernel
theorem dX4_init_14 : decode cX4_init 14 = .ok (.putfield 15, 3) := by decide +kernel
theorem dX4_init_17 : decode cX4_init 17 = .ok (.return_, 1) := by decide +kernel
theorem dX4_isNothing_0 : decode cX4_isNothing 0 = .ok (.aload_n 0, 1) := by decide +kernel
theorem dX4_isNothing_1 : decode cX4_isNothing 1 = .ok (.getfield 15, 3) := by decide +kernel
theorem dX4_isNothing_4 : decode cX4_isNothing 4 = .ok (.iconst (-1), 1) := by decide +kernel
theorem dX4_isNothing_5 : decode cX4_isNothing 5 = .ok (.if_icmp .ne 7, 3) := by decide +kernel
theorem dX4_isNothing_8 : decode cX4_isNothing 8 = .ok (.iconst 1, 1) := by decide +kernel
theorem dX4_isNothing_9 : decode cX4_isNothing 9 = .ok (.goto 4, 3) := by decide +kernel
theorem dX4_isNothing_12 : decode cX4_isNothing 12 = .ok (.iconst 0, 1) := by decide +kernel
theorem dX4_isNothing_13 : decode cX4_isNothing 13 = .ok (.ireturn, 1) := by decide +kernel
theorem dX4_begin_0 : decode cX4_begin 0 = .ok (.aload_n 0, 1) := by decide +kernel
theorem dX4_begin_1 : decode cX4_begin 1 = .ok (.iload_n 1, 1) := by decide +kernel
theorem dX4_begin_2 : decode cX4_begin 2 = .ok (.putfield 15, 3) := by decide +kernel
theorem dX4_begin_5 : decode cX4_begin 5 = .ok (.aload_n 0, 1) := by decide +kernel
theorem dX4_begin_6 : decode cX4_begin 6 = .ok (.iload_n 2, 1) := by decide +kernel
theorem dX4_begin_7 : decode cX4_begin 7 = .ok (.putfield 19, 3) := by decide +kernel
theorem dX4_begin_10 : decode cX4_begin 10 = .ok (.iconst 0, 1) := by decide +kernel
theorem dX4_begin_11 : decode cX4_begin 11 = .ok (.istore_n 3, 1) := by decide +kernel
theorem dX4_begin_12 : decode cX4_begin 12 = .ok (.iload_n 3, 1) := by decide +kernel
theorem dX4_begin_13 : decode cX4_begin 13 = .ok (.bipush 60, 2) := by decide +kernel
theorem dX4_begin_15 : decode cX4_begin 15 = .ok (.if_icmp .ge 16, 3) := by decide +kernel
theorem dX4_begin_18 : decode cX4_begin 18 = .ok (.aload_n 0, 1) := by decide +kernel
theorem dX4_begin_19 : decode cX4_begin 19 = .ok (.getfield 9, 3) := by decide +kernel
theorem dX4_begin_22 : decode cX4_begin 22 = .ok (.iload_n 3, 1) := by decide +kernel
theorem dX4_begin_23 : decode cX4_begin 23 = .ok (.iconst 0, 1) := by decide +kernel
theorem dX4_begin_24 : decode cX4_begin 24 = .ok (.iastore, 1) := by decide +kernel
theorem dX4_begin_25 : decode cX4_begin 25 = .ok (.iinc 3 1, 3) := by decide +kernel
theorem dX4_begin_28 : decode cX4_begin 28 = .ok (.goto (-16), 3) := by decide +kernel
theorem dX4_begin_31 : decode cX4_begin 31 = .ok (.return_, 1) := by decide +kernel
set_option maxRecDepth 20000 in
theorem ggX4_faultAs_X4_isNothing : GoodIn wsX4_faultAs wsX4_isNothing := goodIn_r _ [6, 1, 7, 8, 9] (by decide +kernel) (by decide +kernel)
set_option maxRecDepth 20000 in
theorem gX4_faultAs_X4_isNothing : GoodIn wsX4_faultAs (wsV RX4 22 RX4 yX4_isNothing wsX4_isNothing) := goodIn_app (goodIn_of _ (by decide +kernel)) ggX4_faultAs_X4_isNothing
theorem dX4_faultAs_0 : decode cX4_faultAs 0 = .ok (.aload_n 0, 1) := by decide +kernel
theorem dX4_faultAs_1 : decode cX4_faultAs 1 = .ok (.invokevirtual 22, 3) := by decide +kernel
theorem dX4_faultAs_4 : decode cX4_faultAs 4 = .ok (.ifCond .eq 5, 3) := by decide +kernel
theorem dX4_faultAs_7 : decode cX4_faultAs 7 = .ok (.iconst 1, 1) := by decide +kernel
theorem dX4_faultAs_8 : decode cX4_faultAs 8 = .ok (.ireturn, 1) := by decide +kernel
theorem dX4_faultAs_9 : decode cX4_faultAs 9 = .ok (.aload_n 0, 1) := by decide +kernel
theorem dX4_faultAs_10 : decode cX4_faultAs 10 = .ok (.getfield 15, 3) := by decide +kernel
theorem dX4_faultAs_13 : decode cX4_faultAs 13 = .ok (.iload_n 1, 1) := by decide +kernel
theorem dX4_faultAs_14 : decode cX4_faultAs 14 = .ok (.if_icmp .ne 7, 3) := by decide +kernel
theorem dX4_faultAs_17 : decode cX4_faultAs 17 = .ok (.iconst 0, 1) := by decide +kernel
theorem dX4_faultAs_18 : decode cX4_faultAs 18 = .ok (.goto 4, 3) := by decide +kernel
theorem dX4_faultAs_21 : decode cX4_faultAs 21 = .ok (.iconst 2, 1) := by decide +kernel
theorem dX4_faultAs_22 : decode cX4_faultAs 22 = .ok (.ireturn, 1) := by decide +kernel
theorem dX4_hasCell_0 : decode cX4_hasCell 0 = .ok (.iload_n 1, 1) := by decide +kernel
theorem dX4_hasCell_1 : decode cX4_hasCell 1 = .ok (.ifCond .lt 15, 3) := by decide +kernel
theorem dX4_hasCell_4 : decode cX4_hasCell 4 = .ok (.iload_n 1, 1) := by decide +kernel
theorem dX4_hasCell_5 : decode cX4_hasCell 5 = .ok (.aload_n 0, 1) := by decide +kernel
theorem dX4_hasCell_6 : decode cX4_hasCell 6 = .ok (.getfield 19, 3) := by decide +kernel
theorem dX4_hasCell_9 : decode cX4_hasCell 9 = .ok (.if_icmp .ge 7, 3) := by decide +kernel
theorem dX4_hasCell_12 : decode cX4_hasCell 12 = .ok (.iconst 1, 1) := by decide +kernel
theorem dX4_hasCell_13 : decode cX4_hasCell 13 = .ok (.goto 4, 3) := by decide +kernel
theorem dX4_hasCell_16 : decode cX4_hasCell 16 = .ok (.iconst 0, 1) := by decide +kernel
theorem dX4_hasCell_17 : decode cX4_hasCell 17 = .ok (.ireturn, 1) := by decide +kernel
theorem dX4_hasCells_0 : decode cX4_hasCells 0 = .ok (.iload_n 1, 1) := by decide +kernel
theorem dX4_hasCells_1 : decode cX4_hasCells 1 = .ok (.ifCond .lt 29, 3) := by decide +kernel
theorem dX4_hasCells_4 : decode cX4_hasCells 4 = .ok (.iload_n 1, 1) := by decide +kernel
theorem dX4_hasCells_5 : decode cX4_hasCells 5 = .ok (.aload_n 0, 1) := by decide +kernel
theorem dX4_hasCells_6 : decode cX4_hasCells 6 = .ok (.getfield 19, 3) := by decide +kernel
theorem dX4_hasCells_9 : decode cX4_hasCells 9 = .ok (.if_icmp .gt 21, 3) := by decide +kernel
theorem dX4_hasCells_12 : decode cX4_hasCells 12 = .ok (.iload_n 2, 1) := by decide +kernel
theorem dX4_hasCells_13 : decode cX4_hasCells 13 = .ok (.ifCond .lt 17, 3) := by decide +kernel
theorem dX4_hasCells_16 : decode cX4_hasCells 16 = .ok (.iload_n 2, 1) := by decide +kernel
theorem dX4_hasCells_17 : decode cX4_hasCells 17 = .ok (.aload_n 0, 1) := by decide +kernel
theorem dX4_hasCells_18 : decode cX4_hasCells 18 = .ok (.getfield 19, 3) := by decide +kernel
theorem dX4_hasCells_21 : decode cX4_hasCells 21 = .ok (.iload_n 1, 1) := by decide +kernel
theorem dX4_hasCells_22 : decode cX4_hasCells 22 = .ok (.isub, 1) := by decide +kernel
theorem dX4_hasCells_23 : decode cX4_hasCells 23 = .ok (.if_icmp .gt 7, 3) := by decide +kernel
theorem dX4_hasCells_26 : decode cX4_hasCells 26 = .ok (.iconst 1, 1) := by decide +kernel
theorem dX4_hasCells_27 : decode cX4_hasCells 27 = .ok (.goto 4, 3) := by decide +kernel
theorem dX4_hasCells_30 : decode cX4_hasCells 30 = .ok (.iconst 0, 1) := by decide +kernel
theorem dX4_hasCells_31 : decode cX4_hasCells 31 = .ok (.ireturn, 1) := by decide +kernel
theorem dX4_write_0 : decode cX4_write 0 = .ok (.aload_n 0, 1) := by decide +kernel
theorem dX4_write_1 : decode cX4_write 1 = .ok (.getfield 15, 3) := by decide +kernel
theorem dX4_write_4 : decode cX4_write 4 = .ok (.ifCond .ne 14, 3) := by decide +kernel
theorem dX4_write_7 : decode cX4_write 7 = .ok (.aload_n 0, 1) := by decide +kernel
theorem dX4_write_8 : decode cX4_write 8 = .ok (.getfield 9, 3) := by decide +kernel
theorem dX4_write_11 : decode cX4_write 11 = .ok (.iload_n 1, 1) := by decide +kernel
theorem dX4_write_12 : decode cX4_write 12 = .ok (.iload_n 2, 1) := by decide +kernel
theorem dX4_write_13 : decode cX4_write 13 = .ok (.i2b, 1) := by decide +kernel
theorem dX4_write_14 : decode cX4_write 14 = .ok (.iastore, 1) := by decide +kernel
theorem dX4_write_15 : decode cX4_write 15 = .ok (.goto 29, 3) := by decide +kernel
theorem dX4_write_18 : decode cX4_write 18 = .ok (.aload_n 0, 1) := by decide +kernel
theorem dX4_write_19 : decode cX4_write 19 = .ok (.getfield 15, 3) := by decide +kernel
theorem dX4_write_22 : decode cX4_write 22 = .ok (.iconst 1, 1) := by decide +kernel
theorem dX4_write_23 : decode cX4_write 23 = .ok (.if_icmp .ne 14, 3) := by decide +kernel
theorem dX4_write_26 : decode cX4_write 26 = .ok (.aload_n 0, 1) := by decide +kernel
theorem dX4_write_27 : decode cX4_write 27 = .ok (.getfield 9, 3) := by decide +kernel
theorem dX4_write_30 : decode cX4_write 30 = .ok (.iload_n 1, 1) := by decide +kernel
theorem dX4_write_31 : decode cX4_write 31 = .ok (.iload_n 2, 1) := by decide +kernel
theorem dX4_write_32 : decode cX4_write 32 = .ok (.i2s, 1) := by decide +kernel
theorem dX4_write_33 : decode cX4_write 33 = .ok (.iastore, 1) := by decide +kernel
theorem dX4_write_34 : decode cX4_write 34 = .ok (.goto 10, 3) := by decide +kernel
theorem dX4_write_37 : decode cX4_write 37 = .ok (.aload_n 0, 1) := by decide +kernel
theorem dX4_write_38 : decode cX4_write 38 = .ok (.getfield 9, 3) := by decide +kernel
theorem dX4_write_41 : decode cX4_write 41 = .ok (.iload_n 1, 1) := by decide +kernel
theorem dX4_write_42 : decode cX4_write 42 = .ok (.iload_n 2, 1) := by decide +kernel
theorem dX4_write_43 : decode cX4_write 43 = .ok (.iastore, 1) := by decide +kernel
theorem dX4_write_44 : decode cX4_write 44 = .ok (.return_, 1) := by decide +kernel
set_option maxRecDepth 20000 in
theorem ggX5_init_X2_init : GoodIn wsX5_init wsX2_init := goodIn_r _ [13, 14, 2, 3, 8, 15, 16, 17, 18, 19, 20, 21, 22, 23, 24, 25, 26] (by decide +kernel) (by decide +kernel)
set_option maxRecDepth 20000 in
theorem gX5_init_X2_init_n11 : GoodIn wsX5_init (wsX2_init) := ggX5_init_X2_init
theorem dX5_init_0 : decode cX5_init 0 = .ok (.aload_n 0, 1) := by decide +kernel
theorem dX5_init_1 : decode cX5_init 1 = .ok (.invokespecial 3, 3) := by decide +kernel
theorem dX5_init_4 : decode cX5_init 4 = .ok (.aload_n 0, 1) := by decide +kernel
theorem dX5_init_5 : decode cX5_init 5 = .ok (.new 9, 3) := by decide +kernel
theorem dX5_init_8 : decode cX5_init 8 = .ok (.dup, 1) := by decide +kernel
theorem dX5_init_9 : decode cX5_init 9 = .ok (.invokespecial 11, 3) := by decide +kernel
theorem dX5_init_12 : decode cX5_init 12 = .ok (.putfield 12, 3) := by decide +kernel
theorem dX5_init_15 : decode cX5_init 15 = .ok (.aload_n 0, 1) := by decide +kernel
theorem dX5_init_16 : decode cX5_init 16 = .ok (.bipush 48, 2) := by decide +kernel
theorem dX5_init_18 : decode cX5_init 18 = .ok (.newarray .int, 2) := by decide +kernel
theorem dX5_init_20 : decode cX5_init 20 = .ok (.putfield 18, 3) := by decide +kernel
theorem dX5_init_23 : decode cX5_init 23 = .ok (.aload_n 0, 1) := by decide +kernel
theorem dX5_init_24 : decode cX5_init 24 = .ok (.bipush 48, 2) := by decide +kernel
theorem dX5_init_26 : decode cX5_init 26 = .ok (.newarray .int, 2) := by decide +kernel
theorem dX5_init_28 : decode cX5_init 28 = .ok (.putfield 22, 3) := by decide +kernel
theorem dX5_init_31 : decode cX5_init 31 = .ok (.aload_n 0, 1) := by decide +kernel
theorem dX5_init_32 : decode cX5_init 32 = .ok (.bipush 48, 2) := by decide +kernel
theorem dX5_init_34 : decode cX5_init 34 = .ok (.newarray .int, 2) := by decide +kernel
theorem dX5_init_36 : decode cX5_init 36 = .ok (.putfield 25, 3) := by decide +kernel
theorem dX5_init_39 : decode cX5_init 39 = .ok (.return_, 1) := by decide +kernel
set_option maxRecDepth 20000 in
theorem ggX5_shortens_X2_clear : GoodIn wsX5_shortens wsX2_clear := goodIn_r _ [10, 11, 12, 142, 143, 144, 145, 146, 147, 148] (by decide +kernel) (by decide +kernel)
set_option maxRecDepth 20000 in
theorem gX5_shortens_X2_clear : GoodIn wsX5_shortens (wsV RX5 28 RX2 yX2_clear wsX2_clear) := goodIn_app (goodIn_of _ (by decide +kernel)) ggX5_shortens_X2_clear
set_option maxRecDepth 20000 in
theorem ggX5_shortens_X5_fillSafes : GoodIn wsX5_shortens wsX5_fillSafes := goodIn_r _ [17, 4, 18, 19, 20, 21, 22, 23, 24, 25, 9, 26, 11, 27, 28, 29, 30, 31, 32, 33, 34, 35, 36, 37, 38, 39, 40, 41, 42, 43, 44, 45, 46, 47, 142, 143, 144, 145, 146, 147, 148, 137, 138, 139, 140, 141] (by decide +kernel) (by decide +kernel)
set_option maxRecDepth 20000 in
theorem gX5_shortens_X5_fillSafes : GoodIn wsX5_shortens (wsV RX5 31 RX5 yX5_fillSafes wsX5_fillSafes) := goodIn_app (goodIn_of _ (by decide +kernel)) ggX5_shortens_X5_fillSafes
set_option maxRecDepth 20000 in
theorem ggX5_shortens_X5_unitsOf : GoodIn wsX5_shortens wsX5_unitsOf := goodIn_r _ [50, 4, 19, 23, 24, 25, 9, 26, 11, 27, 28, 29, 30, 31, 32, 33, 34, 35, 36, 37, 38, 39, 51, 52, 53, 54, 55, 56, 57, 58, 59, 16, 60, 61, 62, 63, 64, 142, 143, 144, 145, 146, 147, 148] (by decide +kernel) (by decide +kernel)
set_option maxRecDepth 20000 in
theorem gX5_shortens_X5_unitsOf : GoodIn wsX5_shortens (va_wsS RX5 35 yX5_unitsOf wsX5_unitsOf) := goodIn_app (goodIn_of _ (by decide +kernel)) ggX5_shortens_X5_unitsOf
set_option maxRecDepth 20000 in
theorem ggX5_shortens_X5_goesThrough : GoodIn wsX5_shortens wsX5_goesThrough := goodIn_r _ [68, 4, 3, 69, 70, 71, 16, 72, 19, 20, 22, 21, 18, 2, 40, 37, 38, 9, 39, 31, 73, 74, 75, 76, 1, 77, 78, 79, 80, 81, 82, 83, 84, 85, 11, 86, 87, 88, 89, 32, 90, 91, 12, 41, 42, 43, 44, 92, 93, 94, 45, 46, 47, 33, 34, 35, 95, 96, 97, 98, 99, 100, 101, 102, 103, 104, 105, 106, 107, 142, 143, 144, 145, 146, 147, 148, 137, 138, 139, 140, 141] (by decide +kernel) (by decide +kernel)
set_option maxRecDepth 20000 in
theorem gX5_shortens_X5_goesThrough : GoodIn wsX5_shortens (wsV RX5 43 RX5 yX5_goesThrough wsX5_goesThrough) := goodIn_app (goodIn_of _ (by decide +kernel)) ggX5_shortens_X5_goesThrough
set_option maxRecDepth 20000 in
theorem ggX5_shortens_X5_cutUnits : GoodIn wsX5_shortens wsX5_cutUnits := goodIn_r _ [111, 4, 2, 3, 19, 33, 34, 35, 112, 113, 114, 16, 115, 1, 92, 93, 43, 94, 116, 117, 118, 119, 120, 121, 122, 123, 53, 124, 125, 41, 42, 44, 95, 96, 97, 98, 45, 46, 47, 99, 100, 101, 102, 103, 104, 105, 106, 107, 73, 74, 75, 76, 77, 78, 79, 9, 80, 81, 82, 83, 84, 85, 11, 86, 87, 88, 89, 31, 32, 90, 91, 12, 142, 143, 144, 145, 146, 147, 148, 137, 138, 139, 140, 141] (by decide +kernel) (by decide +kernel)
set_option maxRecDepth 20000 in
theorem gX5_shortens_X5_cutUnits : GoodIn wsX5_shortens (wsV RX5 51 RX5 yX5_cutUnits wsX5_cutUnits) := goodIn_app (goodIn_of _ (by decide +kernel)) ggX5_shortens_X5_cutUnits
set_option maxRecDepth 20000 in
theorem ggX5_shortens_X2_restSetOf : GoodIn wsX5_shortens wsX2_restSetOf := goodIn_r _ [30, 31, 32, 33, 34, 35, 36, 37, 38, 9, 39, 142, 143, 144, 145, 146, 147, 148] (by decide +kernel) (by decide +kernel)
set_option maxRecDepth 20000 in
theorem gX5_shortens_X2_restSetOf : GoodIn wsX5_shortens (wsV RX5 55 RX2 yX2_restSetOf wsX2_restSetOf) := goodIn_app (goodIn_of _ (by decide +kernel)) ggX5_shortens_X2_restSetOf
set_option maxRecDepth 20000 in
theorem ggX5_shortens_X2_keepOnly : GoodIn wsX5_shortens wsX2_keepOnly := goodIn_r _ [130, 11, 81, 31, 32, 90, 131, 7, 8, 9, 10, 12, 33, 34, 35, 36, 37, 38, 39, 132, 133, 134, 135, 136, 87, 88, 89, 91, 142, 143, 144, 145, 146, 147, 148] (by decide +kernel) (by decide +kernel)
set_option maxRecDepth 20000 in
theorem gX5_shortens_X2_keepOnly : GoodIn wsX5_shortens (wsV RX5 59 RX2 yX2_keepOnly wsX2_keepOnly) := goodIn_app (goodIn_of _ (by decide +kernel)) ggX5_shortens_X2_keepOnly
theorem dX5_shortens_0 : decode cX5_shortens 0 = .ok (.aload_n 0, 1) := by decide +kernel
theorem dX5_shortens_1 : decode cX5_shortens 1 = .ok (.getfield 12, 3) := by decide +kernel
theorem dX5_shortens_4 : decode cX5_shortens 4 = .ok (.invokevirtual 28, 3) := by decide +kernel
theorem dX5_shortens_7 : decode cX5_shortens 7 = .ok (.aload_n 0, 1) := by decide +kernel
theorem dX5_shortens_8 : decode cX5_shortens 8 = .ok (.aload_n 1, 1) := by decide +kernel
theorem dX5_shortens_9 : decode cX5_shortens 9 = .ok (.invokevirtual 31, 3) := by decide +kernel
theorem dX5_shortens_12 : decode cX5_shortens 12 = .ok (.aload_n 0, 1) := by decide +kernel
theorem dX5_shortens_13 : decode cX5_shortens 13 = .ok (.aload_n 1, 1) := by decide +kernel
theorem dX5_shortens_14 : decode cX5_shortens 14 = .ok (.invokestatic 35, 3) := by decide +kernel
theorem dX5_shortens_17 : decode cX5_shortens 17 = .ok (.putfield 39, 3) := by decide +kernel
theorem dX5_shortens_20 : decode cX5_shortens 20 = .ok (.aload_n 0, 1) := by decide +kernel
theorem dX5_shortens_21 : decode cX5_shortens 21 = .ok (.aload_n 1, 1) := by decide +kernel
theorem dX5_shortens_22 : decode cX5_shortens 22 = .ok (.iload_n 2, 1) := by decide +kernel
theorem dX5_shortens_23 : decode cX5_shortens 23 = .ok (.invokevirtual 43, 3) := by decide +kernel
theorem dX5_shortens_26 : decode cX5_shortens 26 = .ok (.ifCond .ne 5, 3) := by decide +kernel
theorem dX5_shortens_29 : decode cX5_shortens 29 = .ok (.iconst 0, 1) := by decide +kernel
theorem dX5_shortens_30 : decode cX5_shortens 30 = .ok (.ireturn, 1) := by decide +kernel
theorem dX5_shortens_31 : decode cX5_shortens 31 = .ok (.aload_n 0, 1) := by decide +kernel
theorem dX5_shortens_32 : decode cX5_shortens 32 = .ok (.getfield 18, 3) := by decide +kernel
theorem dX5_shortens_35 : decode cX5_shortens 35 = .ok (.aload_n 1, 1) := by decide +kernel
theorem dX5_shortens_36 : decode cX5_shortens 36 = .ok (.getfield 47, 3) := by decide +kernel
theorem dX5_shortens_39 : decode cX5_shortens 39 = .ok (.iconst 1, 1) := by decide +kernel
theorem dX5_shortens_40 : decode cX5_shortens 40 = .ok (.isub, 1) := by decide +kernel
theorem dX5_shortens_41 : decode cX5_shortens 41 = .ok (.iaload, 1) := by decide +kernel
theorem dX5_shortens_42 : decode cX5_shortens 42 = .ok (.istore_n 3, 1) := by decide +kernel
theorem dX5_shortens_43 : decode cX5_shortens 43 = .ok (.iload_n 2, 1) := by decide +kernel
theorem dX5_shortens_44 : decode cX5_shortens 44 = .ok (.iconst 4, 1) := by decide +kernel
theorem dX5_shortens_45 : decode cX5_shortens 45 = .ok (.if_icmp .ne 10, 3) := by decide +kernel
theorem dX5_shortens_48 : decode cX5_shortens 48 = .ok (.aload_n 0, 1) := by decide +kernel
theorem dX5_shortens_49 : decode cX5_shortens 49 = .ok (.aload_n 1, 1) := by decide +kernel
theorem dX5_shortens_50 : decode cX5_shortens 50 = .ok (.iload_n 3, 1) := by decide +kernel
theorem dX5_shortens_51 : decode cX5_shortens 51 = .ok (.invokevirtual 51, 3) := by decide +kernel
theorem dX5_shortens_54 : decode cX5_shortens 54 = .ok (.istore_n 3, 1) := by decide +kernel
theorem dX5_shortens_55 : decode cX5_shortens 55 = .ok (.iload_n 3, 1) := by decide +kernel
theorem dX5_shortens_56 : decode cX5_shortens 56 = .ok (.ifCond .ge 5, 3) := by decide +kernel
theorem dX5_shortens_59 : decode cX5_shortens 59 = .ok (.iconst 0, 1) := by decide +kernel
theorem dX5_shortens_60 : decode cX5_shortens 60 = .ok (.ireturn, 1) := by decide +kernel
theorem dX5_shortens_61 : decode cX5_shortens 61 = .ok (.aload_n 0, 1) := by decide +kernel
theorem dX5_shortens_62 : decode cX5_shortens 62 = .ok (.getfield 12, 3) := by decide +kernel
theorem dX5_shortens_65 : decode cX5_shortens 65 = .ok (.aload_n 0, 1) := by decide +kernel
theorem dX5_shortens_66 : decode cX5_shortens 66 = .ok (.getfield 12, 3) := by decide +kernel
theorem dX5_shortens_69 : decode cX5_shortens 69 = .ok (.iload_n 3, 1) := by decide +kernel
theorem dX5_shortens_70 : decode cX5_shortens 70 = .ok (.invokevirtual 55, 3) := by decide +kernel
theorem dX5_shortens_73 : decode cX5_shortens 73 = .ok (.aload_n 0, 1) := by decide +kernel
theorem dX5_shortens_74 : decode cX5_shortens 74 = .ok (.getfield 25, 3) := by decide +kernel
theorem dX5_shortens_77 : decode cX5_shortens 77 = .ok (.invokevirtual 59, 3) := by decide +kernel
theorem dX5_shortens_80 : decode cX5_shortens 80 = .ok (.iconst 1, 1) := by decide +kernel
theorem dX5_shortens_81 : decode cX5_shortens 81 = .ok (.ireturn, 1) := by decide +kernel
set_option maxRecDepth 20000 in
theorem ggX5_heaps_X2_clear : GoodIn wsX5_heaps wsX2_clear := goodIn_r _ [9, 10, 11, 94, 95, 96, 97, 98, 99, 100] (by decide +kernel) (by decide +kernel)
set_option maxRecDepth 20000 in
theorem gX5_heaps_X2_clear : GoodIn wsX5_heaps (wsV RX5 28 RX2 yX2_clear wsX2_clear) := goodIn_app (goodIn_of _ (by decide +kernel)) ggX5_heaps_X2_clear
set_option maxRecDepth 20000 in
theorem ggX5_heaps_X5_goesThrough : GoodIn wsX5_heaps wsX5_goesThrough := goodIn_r _ [16, 3, 2, 17, 18, 19, 15, 20, 21, 22, 23, 24, 25, 26, 27, 28, 29, 8, 30, 31, 32, 33, 34, 35, 1, 36, 37, 38, 39, 40, 41, 42, 43, 44, 10, 45, 46, 47, 48, 49, 50, 51, 11, 52, 53, 54, 55, 56, 57, 58, 59, 60, 61, 62, 63, 64, 65, 66, 67, 68, 69, 70, 71, 72, 73, 74, 75, 76, 77, 94, 95, 96, 97, 98, 99, 100, 89, 90, 91, 92, 93] (by decide +kernel) (by decide +kernel)
set_option maxRecDepth 20000 in
theorem gX5_heaps_X5_goesThrough : GoodIn wsX5_heaps (wsV RX5 43 RX5 yX5_goesThrough wsX5_goesThrough) := goodIn_app (goodIn_of _ (by decide +kernel)) ggX5_heaps_X5_goesThrough
set_option maxRecDepth 20000 in
theorem ggX5_heaps_X2_keepOnly : GoodIn wsX5_heaps wsX2_keepOnly := goodIn_r _ [81, 10, 40, 31, 49, 50, 82, 6, 7, 8, 9, 11, 62, 63, 64, 83, 28, 29, 30, 84, 85, 86, 87, 88, 46, 47, 48, 51, 94, 95, 96, 97, 98, 99, 100] (by decide +kernel) (by decide +kernel)
set_option maxRecDepth 20000 in
theorem gX5_heaps_X2_keepOnly : GoodIn wsX5_heaps (wsV RX5 59 RX2 yX2_keepOnly wsX2_keepOnly) := goodIn_app (goodIn_of _ (by decide +kernel)) ggX5_heaps_X2_keepOnly
theorem dX5_heaps_0 : decode cX5_heaps 0 = .ok (.aload_n 0, 1) := by decide +kernel
theorem dX5_heaps_1 : decode cX5_heaps 1 = .ok (.getfield 12, 3) := by decide +kernel
theorem dX5_heaps_4 : decode cX5_heaps 4 = .ok (.invokevirtual 28, 3) := by decide +kernel
theorem dX5_heaps_7 : decode cX5_heaps 7 = .ok (.aload_n 0, 1) := by decide +kernel
theorem dX5_heaps_8 : decode cX5_heaps 8 = .ok (.aload_n 1, 1) := by decide +kernel
theorem dX5_heaps_9 : decode cX5_heaps 9 = .ok (.iconst 1, 1) := by decide +kernel
theorem dX5_heaps_10 : decode cX5_heaps 10 = .ok (.invokevirtual 43, 3) := by decide +kernel
theorem dX5_heaps_13 : decode cX5_heaps 13 = .ok (.ifCond .eq 12, 3) := by decide +kernel
theorem dX5_heaps_16 : decode cX5_heaps 16 = .ok (.aload_n 0, 1) := by decide +kernel
theorem dX5_heaps_17 : decode cX5_heaps 17 = .ok (.aload_n 2, 1) := by decide +kernel
theorem dX5_heaps_18 : decode cX5_heaps 18 = .ok (.iconst 1, 1) := by decide +kernel
theorem dX5_heaps_19 : decode cX5_heaps 19 = .ok (.invokevirtual 43, 3) := by decide +kernel
theorem dX5_heaps_22 : decode cX5_heaps 22 = .ok (.ifCond .ne 5, 3) := by decide +kernel
theorem dX5_heaps_25 : decode cX5_heaps 25 = .ok (.iconst 0, 1) := by decide +kernel
theorem dX5_heaps_26 : decode cX5_heaps 26 = .ok (.ireturn, 1) := by decide +kernel
theorem dX5_heaps_27 : decode cX5_heaps 27 = .ok (.aload_n 0, 1) := by decide +kernel
theorem dX5_heaps_28 : decode cX5_heaps 28 = .ok (.getfield 18, 3) := by decide +kernel
theorem dX5_heaps_31 : decode cX5_heaps 31 = .ok (.aload_n 2, 1) := by decide +kernel
theorem dX5_heaps_32 : decode cX5_heaps 32 = .ok (.getfield 47, 3) := by decide +kernel
theorem dX5_heaps_35 : decode cX5_heaps 35 = .ok (.iconst 1, 1) := by decide +kernel
theorem dX5_heaps_36 : decode cX5_heaps 36 = .ok (.isub, 1) := by decide +kernel
theorem dX5_heaps_37 : decode cX5_heaps 37 = .ok (.iaload, 1) := by decide +kernel
theorem dX5_heaps_38 : decode cX5_heaps 38 = .ok (.istore_n 3, 1) := by decide +kernel
theorem dX5_heaps_39 : decode cX5_heaps 39 = .ok (.aload_n 0, 1) := by decide +kernel
theorem dX5_heaps_40 : decode cX5_heaps 40 = .ok (.getfield 12, 3) := by decide +kernel
theorem dX5_heaps_43 : decode cX5_heaps 43 = .ok (.lconst 1, 1) := by decide +kernel
theorem dX5_heaps_44 : decode cX5_heaps 44 = .ok (.iload_n 3, 1) := by decide +kernel
theorem dX5_heaps_45 : decode cX5_heaps 45 = .ok (.iconst 1, 1) := by decide +kernel
theorem dX5_heaps_46 : decode cX5_heaps 46 = .ok (.iadd, 1) := by decide +kernel
theorem dX5_heaps_47 : decode cX5_heaps 47 = .ok (.lshl, 1) := by decide +kernel
theorem dX5_heaps_48 : decode cX5_heaps 48 = .ok (.lconst 1, 1) := by decide +kernel
theorem dX5_heaps_49 : decode cX5_heaps 49 = .ok (.lsub, 1) := by decide +kernel
theorem dX5_heaps_50 : decode cX5_heaps 50 = .ok (.aload_n 0, 1) := by decide +kernel
theorem dX5_heaps_51 : decode cX5_heaps 51 = .ok (.getfield 25, 3) := by decide +kernel
theorem dX5_heaps_54 : decode cX5_heaps 54 = .ok (.invokevirtual 59, 3) := by decide +kernel
theorem dX5_heaps_57 : decode cX5_heaps 57 = .ok (.aload_n 0, 1) := by decide +kernel
theorem dX5_heaps_58 : decode cX5_heaps 58 = .ok (.getfield 12, 3) := by decide +kernel
theorem dX5_heaps_61 : decode cX5_heaps 61 = .ok (.getfield 47, 3) := by decide +kernel
theorem dX5_heaps_64 : decode cX5_heaps 64 = .ok (.bipush 24, 2) := by decide +kernel
theorem dX5_heaps_66 : decode cX5_heaps 66 = .ok (.if_icmp .gt 7, 3) := by decide +kernel
theorem dX5_heaps_69 : decode cX5_heaps 69 = .ok (.iconst 1, 1) := by decide +kernel
theorem dX5_heaps_70 : decode cX5_heaps 70 = .ok (.goto 4, 3) := by decide +kernel
theorem dX5_heaps_73 : decode cX5_heaps 73 = .ok (.iconst 0, 1) := by decide +kernel
theorem dX5_heaps_74 : decode cX5_heaps 74 = .ok (.ireturn, 1) := by decide +kernel
set_option maxRecDepth 20000 in
theorem ggX5_safeSigns_X5_fillSafes : GoodIn wsX5_safeSigns wsX5_fillSafes := goodIn_r _ [6, 7, 1, 8, 9, 10, 11, 12, 13, 14, 15, 16, 17, 18, 19, 20, 21, 22, 23, 24, 25, 26, 27, 28, 29, 30, 31, 32, 33, 34, 35, 36, 37, 38, 44, 45, 46, 47, 48, 49, 50, 39, 40, 41, 42, 43] (by decide +kernel) (by decide +kernel)
set_option maxRecDepth 20000 in
theorem gX5_safeSigns_X5_fillSafes : GoodIn wsX5_safeSigns (wsV RX5 31 RX5 yX5_fillSafes wsX5_fillSafes) := goodIn_app (goodIn_of _ (by decide +kernel)) ggX5_safeSigns_X5_fillSafes
theorem dX5_safeSigns_0 : decode cX5_safeSigns 0 = .ok (.aload_n 0, 1) := by decide +kernel
theorem dX5_safeSigns_1 : decode cX5_safeSigns 1 = .ok (.aload_n 1, 1) := by decide +kernel
theorem dX5_safeSigns_2 : decode cX5_safeSigns 2 = .ok (.invokevirtual 31, 3) := by decide +kernel
theorem dX5_safeSigns_5 : decode cX5_safeSigns 5 = .ok (.aload_n 0, 1) := by decide +kernel
theorem dX5_safeSigns_6 : decode cX5_safeSigns 6 = .ok (.getfield 22, 3) := by decide +kernel
theorem dX5_safeSigns_9 : decode cX5_safeSigns 9 = .ok (.iload_n 2, 1) := by decide +kernel
theorem dX5_safeSigns_10 : decode cX5_safeSigns 10 = .ok (.iaload, 1) := by decide +kernel
theorem dX5_safeSigns_11 : decode cX5_safeSigns 11 = .ok (.ireturn, 1) := by decide +kernel
set_option maxRecDepth 20000 in
theorem ggX5_fillSafes_X2_restSet : GoodIn wsX5_fillSafes wsX2_restSet := goodIn_r _ [11, 12, 13, 14, 15, 10, 16, 17, 18, 19, 20, 21, 22, 23, 24, 25, 34, 35, 36, 37, 38, 39, 40] (by decide +kernel) (by decide +kernel)
set_option maxRecDepth 20000 in
theorem gX5_fillSafes_X2_restSet : GoodIn wsX5_fillSafes (wsV RX5 63 RX2 yX2_restSet wsX2_restSet) := goodIn_app (goodIn_of _ (by decide +kernel)) ggX5_fillSafes_X2_restSet
set_option maxRecDepth 20000 in
theorem ggX5_fillSafes_X9_isIn : GoodIn wsX5_fillSafes wsX9_isIn := goodIn_r _ [21] (by decide +kernel) (by decide +kernel)
set_option maxRecDepth 20000 in
theorem gX5_fillSafes_X9_isIn_n70 : GoodIn wsX5_fillSafes (wsX9_isIn) := ggX5_fillSafes_X9_isIn
set_option maxRecDepth 20000 in
theorem ggX5_fillSafes_X2_isGround : GoodIn wsX5_fillSafes wsX2_isGround := goodIn_r _ [25, 17, 34, 35, 36, 37, 38, 39, 40] (by decide +kernel) (by decide +kernel)
set_option maxRecDepth 20000 in
theorem gX5_fillSafes_X2_isGround : GoodIn wsX5_fillSafes (wsV RX5 74 RX2 yX2_isGround wsX2_isGround) := goodIn_app (goodIn_of _ (by decide +kernel)) ggX5_fillSafes_X2_isGround
set_option maxRecDepth 20000 in
theorem ggX5_fillSafes_X0_plain : GoodIn wsX5_fillSafes wsX0_plain := goodIn_r _ [30] (by decide +kernel) (by decide +kernel)
set_option maxRecDepth 20000 in
theorem gX5_fillSafes_X0_plain : GoodIn wsX5_fillSafes (va_wsS RX5 84 yX0_plain wsX0_plain) := goodIn_app (goodIn_of _ (by decide +kernel)) ggX5_fillSafes_X0_plain
set_option maxRecDepth 20000 in
theorem ggX5_fillSafes_X0_negated : GoodIn wsX5_fillSafes wsX0_negated := goodIn_r _ [33] (by decide +kernel) (by decide +kernel)
set_option maxRecDepth 20000 in
theorem gX5_fillSafes_X0_negated : GoodIn wsX5_fillSafes (va_wsS RX5 93 yX0_negated wsX0_negated) := goodIn_app (goodIn_of _ (by decide +kernel)) ggX5_fillSafes_X0_negated
theorem dX5_fillSafes_0 : decode cX5_fillSafes 0 = .ok (.aload_n 1, 1) := by decide +kernel
theorem dX5_fillSafes_1 : decode cX5_fillSafes 1 = .ok (.getfield 47, 3) := by decide +kernel
theorem dX5_fillSafes_4 : decode cX5_fillSafes 4 = .ok (.iconst 1, 1) := by decide +kernel
theorem dX5_fillSafes_5 : decode cX5_fillSafes 5 = .ok (.isub, 1) := by decide +kernel
theorem dX5_fillSafes_6 : decode cX5_fillSafes 6 = .ok (.istore_n 2, 1) := by decide +kernel
theorem dX5_fillSafes_7 : decode cX5_fillSafes 7 = .ok (.aload_n 1, 1) := by decide +kernel
theorem dX5_fillSafes_8 : decode cX5_fillSafes 8 = .ok (.invokevirtual 63, 3) := by decide +kernel
theorem dX5_fillSafes_11 : decode cX5_fillSafes 11 = .ok (.lstore_n 3, 1) := by decide +kernel
theorem dX5_fillSafes_12 : decode cX5_fillSafes 12 = .ok (.iconst 0, 1) := by decide +kernel
theorem dX5_fillSafes_13 : decode cX5_fillSafes 13 = .ok (.istore 5, 2) := by decide +kernel
theorem dX5_fillSafes_15 : decode cX5_fillSafes 15 = .ok (.iload 5, 2) := by decide +kernel
theorem dX5_fillSafes_17 : decode cX5_fillSafes 17 = .ok (.iload_n 2, 1) := by decide +kernel
theorem dX5_fillSafes_18 : decode cX5_fillSafes 18 = .ok (.if_icmp .ge 19, 3) := by decide +kernel
theorem dX5_fillSafes_21 : decode cX5_fillSafes 21 = .ok (.aload_n 0, 1) := by decide +kernel
theorem dX5_fillSafes_22 : decode cX5_fillSafes 22 = .ok (.getfield 22, 3) := by decide +kernel
theorem dX5_fillSafes_25 : decode cX5_fillSafes 25 = .ok (.iload 5, 2) := by decide +kernel
theorem dX5_fillSafes_27 : decode cX5_fillSafes 27 = .ok (.sipush 4095, 3) := by decide +kernel
theorem dX5_fillSafes_30 : decode cX5_fillSafes 30 = .ok (.iastore, 1) := by decide +kernel
theorem dX5_fillSafes_31 : decode cX5_fillSafes 31 = .ok (.iinc 5 1, 3) := by decide +kernel
theorem dX5_fillSafes_34 : decode cX5_fillSafes 34 = .ok (.goto (-19), 3) := by decide +kernel
theorem dX5_fillSafes_37 : decode cX5_fillSafes 37 = .ok (.aload_n 0, 1) := by decide +kernel
theorem dX5_fillSafes_38 : decode cX5_fillSafes 38 = .ok (.getfield 22, 3) := by decide +kernel
theorem dX5_fillSafes_41 : decode cX5_fillSafes 41 = .ok (.iload_n 2, 1) := by decide +kernel
theorem dX5_fillSafes_42 : decode cX5_fillSafes 42 = .ok (.aload_n 1, 1) := by decide +kernel
theorem dX5_fillSafes_43 : decode cX5_fillSafes 43 = .ok (.getfield 67, 3) := by decide +kernel
theorem dX5_fillSafes_46 : decode cX5_fillSafes 46 = .ok (.iload_n 2, 1) := by decide +kernel
theorem dX5_fillSafes_47 : decode cX5_fillSafes 47 = .ok (.iaload, 1) := by decide +kernel
theorem dX5_fillSafes_48 : decode cX5_fillSafes 48 = .ok (.iastore, 1) := by decide +kernel
theorem dX5_fillSafes_49 : decode cX5_fillSafes 49 = .ok (.iload_n 2, 1) := by decide +kernel
theorem dX5_fillSafes_50 : decode cX5_fillSafes 50 = .ok (.istore 5, 2) := by decide +kernel
theorem dX5_fillSafes_52 : decode cX5_fillSafes 52 = .ok (.iload 5, 2) := by decide +kernel
theorem dX5_fillSafes_54 : decode cX5_fillSafes 54 = .ok (.ifCond .lt 93, 3) := by decide +kernel
theorem dX5_fillSafes_57 : decode cX5_fillSafes 57 = .ok (.iload 5, 2) := by decide +kernel
theorem dX5_fillSafes_59 : decode cX5_fillSafes 59 = .ok (.lload_n 3, 1) := by decide +kernel
theorem dX5_fillSafes_60 : decode cX5_fillSafes 60 = .ok (.invokestatic 70, 3) := by decide +kernel
theorem dX5_fillSafes_63 : decode cX5_fillSafes 63 = .ok (.ifCond .eq 78, 3) := by decide +kernel
theorem dX5_fillSafes_66 : decode cX5_fillSafes 66 = .ok (.aload_n 1, 1) := by decide +kernel
theorem dX5_fillSafes_67 : decode cX5_fillSafes 67 = .ok (.iload 5, 2) := by decide +kernel
theorem dX5_fillSafes_69 : decode cX5_fillSafes 69 = .ok (.invokevirtual 74, 3) := by decide +kernel
theorem dX5_fillSafes_72 : decode cX5_fillSafes 72 = .ok (.ifCond .ne 69, 3) := by decide +kernel
theorem dX5_fillSafes_75 : decode cX5_fillSafes 75 = .ok (.aload_n 0, 1) := by decide +kernel
theorem dX5_fillSafes_76 : decode cX5_fillSafes 76 = .ok (.getfield 22, 3) := by decide +kernel
theorem dX5_fillSafes_79 : decode cX5_fillSafes 79 = .ok (.aload_n 1, 1) := by decide +kernel
theorem dX5_fillSafes_80 : decode cX5_fillSafes 80 = .ok (.getfield 78, 3) := by decide +kernel
theorem dX5_fillSafes_83 : decode cX5_fillSafes 83 = .ok (.iload 5, 2) := by decide +kernel
theorem dX5_fillSafes_85 : decode cX5_fillSafes 85 = .ok (.iaload, 1) := by decide +kernel
theorem dX5_fillSafes_86 : decode cX5_fillSafes 86 = .ok (.dup2, 1) := by decide +kernel
theorem dX5_fillSafes_87 : decode cX5_fillSafes 87 = .ok (.iaload, 1) := by decide +kernel
theorem dX5_fillSafes_88 : decode cX5_fillSafes 88 = .ok (.aload_n 0, 1) := by decide +kernel
theorem dX5_fillSafes_89 : decode cX5_fillSafes 89 = .ok (.getfield 22, 3) := by decide +kernel
theorem dX5_fillSafes_92 : decode cX5_fillSafes 92 = .ok (.iload 5, 2) := by decide +kernel
theorem dX5_fillSafes_94 : decode cX5_fillSafes 94 = .ok (.iaload, 1) := by decide +kernel
theorem dX5_fillSafes_95 : decode cX5_fillSafes 95 = .ok (.aload_n 1, 1) := by decide +kernel
theorem dX5_fillSafes_96 : decode cX5_fillSafes 96 = .ok (.getfield 81, 3) := by decide +kernel
theorem dX5_fillSafes_99 : decode cX5_fillSafes 99 = .ok (.iload 5, 2) := by decide +kernel
theorem dX5_fillSafes_101 : decode cX5_fillSafes 101 = .ok (.iaload, 1) := by decide +kernel
theorem dX5_fillSafes_102 : decode cX5_fillSafes 102 = .ok (.invokestatic 84, 3) := by decide +kernel
theorem dX5_fillSafes_105 : decode cX5_fillSafes 105 = .ok (.ior, 1) := by decide +kernel
theorem dX5_fillSafes_106 : decode cX5_fillSafes 106 = .ok (.iand, 1) := by decide +kernel
theorem dX5_fillSafes_107 : decode cX5_fillSafes 107 = .ok (.iastore, 1) := by decide +kernel
theorem dX5_fillSafes_108 : decode cX5_fillSafes 108 = .ok (.aload_n 0, 1) := by decide +kernel
theorem dX5_fillSafes_109 : decode cX5_fillSafes 109 = .ok (.getfield 22, 3) := by decide +kernel
theorem dX5_fillSafes_112 : decode cX5_fillSafes 112 = .ok (.aload_n 1, 1) := by decide +kernel
theorem dX5_fillSafes_113 : decode cX5_fillSafes 113 = .ok (.getfield 90, 3) := by decide +kernel
theorem dX5_fillSafes_116 : decode cX5_fillSafes 116 = .ok (.iload 5, 2) := by decide +kernel
theorem dX5_fillSafes_118 : decode cX5_fillSafes 118 = .ok (.iaload, 1) := by decide +kernel
theorem dX5_fillSafes_119 : decode cX5_fillSafes 119 = .ok (.dup2, 1) := by decide +kernel
theorem dX5_fillSafes_120 : decode cX5_fillSafes 120 = .ok (.iaload, 1) := by decide +kernel
theorem dX5_fillSafes_121 : decode cX5_fillSafes 121 = .ok (.aload_n 0, 1) := by decide +kernel
theorem dX5_fillSafes_122 : decode cX5_fillSafes 122 = .ok (.getfield 22, 3) := by decide +kernel
theorem dX5_fillSafes_125 : decode cX5_fillSafes 125 = .ok (.iload 5, 2) := by decide +kernel
theorem dX5_fillSafes_127 : decode cX5_fillSafes 127 = .ok (.iaload, 1) := by decide +kernel
theorem dX5_fillSafes_128 : decode cX5_fillSafes 128 = .ok (.aload_n 1, 1) := by decide +kernel
theorem dX5_fillSafes_129 : decode cX5_fillSafes 129 = .ok (.getfield 81, 3) := by decide +kernel
theorem dX5_fillSafes_132 : decode cX5_fillSafes 132 = .ok (.iload 5, 2) := by decide +kernel
theorem dX5_fillSafes_134 : decode cX5_fillSafes 134 = .ok (.iaload, 1) := by decide +kernel
theorem dX5_fillSafes_135 : decode cX5_fillSafes 135 = .ok (.invokestatic 93, 3) := by decide +kernel
theorem dX5_fillSafes_138 : decode cX5_fillSafes 138 = .ok (.ior, 1) := by decide +kernel
theorem dX5_fillSafes_139 : decode cX5_fillSafes 139 = .ok (.iand, 1) := by decide +kernel
theorem dX5_fillSafes_140 : decode cX5_fillSafes 140 = .ok (.iastore, 1) := by decide +kernel
theorem dX5_fillSafes_141 : decode cX5_fillSafes 141 = .ok (.iinc 5 (-1), 3) := by decide +kernel
theorem dX5_fillSafes_144 : decode cX5_fillSafes 144 = .ok (.goto (-92), 3) := by decide +kernel
theorem dX5_fillSafes_147 : decode cX5_fillSafes 147 = .ok (.return_, 1) := by decide +kernel
set_option maxRecDepth 20000 in
theorem ggX5_unitsOf_X2_restSet : GoodIn wsX5_unitsOf wsX2_restSet := goodIn_r _ [7, 8, 9, 10, 11, 6, 12, 13, 14, 15, 16, 17, 18, 19, 20, 21, 37, 38, 39, 40, 41, 42, 43] (by decide +kernel) (by decide +kernel)
set_option maxRecDepth 20000 in
theorem gX5_unitsOf_X2_restSet : GoodIn wsX5_unitsOf (wsV RX5 63 RX2 yX2_restSet wsX2_restSet) := goodIn_app (goodIn_of _ (by decide +kernel)) ggX5_unitsOf_X2_restSet
set_option maxRecDepth 20000 in
theorem ggX5_unitsOf_X9_isIn : GoodIn wsX5_unitsOf wsX9_isIn := goodIn_r _ [17] (by decide +kernel) (by decide +kernel)
set_option maxRecDepth 20000 in
theorem gX5_unitsOf_X9_isIn_n70 : GoodIn wsX5_unitsOf (wsX9_isIn) := ggX5_unitsOf_X9_isIn
set_option maxRecDepth 20000 in
theorem ggX5_unitsOf_J6_bitCount_0f7a4 : GoodIn wsX5_unitsOf wsJ6_bitCount_0f7a4 := goodIn_r _ [25, 26, 27, 28] (by decide +kernel) (by decide +kernel)
set_option maxRecDepth 20000 in
theorem gX5_unitsOf_J6_bitCount_0f7a4 : GoodIn wsX5_unitsOf (va_wsS RX5 96 yJ6_bitCount_0f7a4 wsJ6_bitCount_0f7a4) := goodIn_app (goodIn_of _ (by decide +kernel)) ggX5_unitsOf_J6_bitCount_0f7a4
set_option maxRecDepth 20000 in
theorem ggX5_unitsOf_X5_cutsFrom : GoodIn wsX5_unitsOf wsX5_cutsFrom := goodIn_r _ [32, 1, 15, 16, 17, 33, 34, 35, 6, 36, 13, 14, 18, 19, 20, 21, 37, 38, 39, 40, 41, 42, 43] (by decide +kernel) (by decide +kernel)
set_option maxRecDepth 20000 in
theorem gX5_unitsOf_X5_cutsFrom : GoodIn wsX5_unitsOf (va_wsS RX5 101 yX5_cutsFrom wsX5_cutsFrom) := goodIn_app (goodIn_of _ (by decide +kernel)) ggX5_unitsOf_X5_cutsFrom
theorem dX5_unitsOf_0 : decode cX5_unitsOf 0 = .ok (.aload_n 0, 1) := by decide +kernel
theorem dX5_unitsOf_1 : decode cX5_unitsOf 1 = .ok (.invokevirtual 63, 3) := by decide +kernel
theorem dX5_unitsOf_4 : decode cX5_unitsOf 4 = .ok (.lstore_n 1, 1) := by decide +kernel
theorem dX5_unitsOf_5 : decode cX5_unitsOf 5 = .ok (.lconst 0, 1) := by decide +kernel
theorem dX5_unitsOf_6 : decode cX5_unitsOf 6 = .ok (.lstore_n 3, 1) := by decide +kernel
theorem dX5_unitsOf_7 : decode cX5_unitsOf 7 = .ok (.iconst 0, 1) := by decide +kernel
theorem dX5_unitsOf_8 : decode cX5_unitsOf 8 = .ok (.istore 5, 2) := by decide +kernel
theorem dX5_unitsOf_10 : decode cX5_unitsOf 10 = .ok (.iload 5, 2) := by decide +kernel
theorem dX5_unitsOf_12 : decode cX5_unitsOf 12 = .ok (.aload_n 0, 1) := by decide +kernel
theorem dX5_unitsOf_13 : decode cX5_unitsOf 13 = .ok (.getfield 47, 3) := by decide +kernel
theorem dX5_unitsOf_16 : decode cX5_unitsOf 16 = .ok (.iconst 1, 1) := by decide +kernel
theorem dX5_unitsOf_17 : decode cX5_unitsOf 17 = .ok (.isub, 1) := by decide +kernel
theorem dX5_unitsOf_18 : decode cX5_unitsOf 18 = .ok (.if_icmp .ge 50, 3) := by decide +kernel
theorem dX5_unitsOf_21 : decode cX5_unitsOf 21 = .ok (.iload 5, 2) := by decide +kernel
theorem dX5_unitsOf_23 : decode cX5_unitsOf 23 = .ok (.lload_n 1, 1) := by decide +kernel
theorem dX5_unitsOf_24 : decode cX5_unitsOf 24 = .ok (.invokestatic 70, 3) := by decide +kernel
theorem dX5_unitsOf_27 : decode cX5_unitsOf 27 = .ok (.ifCond .eq 35, 3) := by decide +kernel
theorem dX5_unitsOf_30 : decode cX5_unitsOf 30 = .ok (.aload_n 0, 1) := by decide +kernel
theorem dX5_unitsOf_31 : decode cX5_unitsOf 31 = .ok (.getfield 67, 3) := by decide +kernel
theorem dX5_unitsOf_34 : decode cX5_unitsOf 34 = .ok (.iload 5, 2) := by decide +kernel
theorem dX5_unitsOf_36 : decode cX5_unitsOf 36 = .ok (.iaload, 1) := by decide +kernel
theorem dX5_unitsOf_37 : decode cX5_unitsOf 37 = .ok (.invokestatic 96, 3) := by decide +kernel
theorem dX5_unitsOf_40 : decode cX5_unitsOf 40 = .ok (.iconst 1, 1) := by decide +kernel
theorem dX5_unitsOf_41 : decode cX5_unitsOf 41 = .ok (.if_icmp .ne 21, 3) := by decide +kernel
theorem dX5_unitsOf_44 : decode cX5_unitsOf 44 = .ok (.aload_n 0, 1) := by decide +kernel
theorem dX5_unitsOf_45 : decode cX5_unitsOf 45 = .ok (.iload 5, 2) := by decide +kernel
theorem dX5_unitsOf_47 : decode cX5_unitsOf 47 = .ok (.lload_n 1, 1) := by decide +kernel
theorem dX5_unitsOf_48 : decode cX5_unitsOf 48 = .ok (.invokestatic 101, 3) := by decide +kernel
theorem dX5_unitsOf_51 : decode cX5_unitsOf 51 = .ok (.iconst 2, 1) := by decide +kernel
theorem dX5_unitsOf_52 : decode cX5_unitsOf 52 = .ok (.if_icmp .lt 10, 3) := by decide +kernel
theorem dX5_unitsOf_55 : decode cX5_unitsOf 55 = .ok (.lload_n 3, 1) := by decide +kernel
theorem dX5_unitsOf_56 : decode cX5_unitsOf 56 = .ok (.lconst 1, 1) := by decide +kernel
theorem dX5_unitsOf_57 : decode cX5_unitsOf 57 = .ok (.iload 5, 2) := by decide +kernel
theorem dX5_unitsOf_59 : decode cX5_unitsOf 59 = .ok (.lshl, 1) := by decide +kernel
theorem dX5_unitsOf_60 : decode cX5_unitsOf 60 = .ok (.lor, 1) := by decide +kernel
theorem dX5_unitsOf_61 : decode cX5_unitsOf 61 = .ok (.lstore_n 3, 1) := by decide +kernel
theorem dX5_unitsOf_62 : decode cX5_unitsOf 62 = .ok (.iinc 5 1, 3) := by decide +kernel
theorem dX5_unitsOf_65 : decode cX5_unitsOf 65 = .ok (.goto (-55), 3) := by decide +kernel
theorem dX5_unitsOf_68 : decode cX5_unitsOf 68 = .ok (.lload_n 3, 1) := by decide +kernel
theorem dX5_unitsOf_69 : decode cX5_unitsOf 69 = .ok (.lreturn, 1) := by decide +kernel
set_option maxRecDepth 20000 in
theorem ggX5_cutsFrom_X9_isIn : GoodIn wsX5_cutsFrom wsX9_isIn := goodIn_r _ [4] (by decide +kernel) (by decide +kernel)
set_option maxRecDepth 20000 in
theorem gX5_cutsFrom_X9_isIn_n70 : GoodIn wsX5_cutsFrom (wsX9_isIn) := ggX5_cutsFrom_X9_isIn
set_option maxRecDepth 20000 in
theorem ggX5_cutsFrom_X2_isCutFrom : GoodIn wsX5_cutsFrom wsX2_isCutFrom := goodIn_r _ [9, 10, 11, 12, 13, 14, 8, 15, 16, 17, 18, 19, 20, 21, 22] (by decide +kernel) (by decide +kernel)
set_option maxRecDepth 20000 in
theorem gX5_cutsFrom_X2_isCutFrom : GoodIn wsX5_cutsFrom (wsV RX5 105 RX2 yX2_isCutFrom wsX2_isCutFrom) := goodIn_app (goodIn_of _ (by decide +kernel)) ggX5_cutsFrom_X2_isCutFrom
theorem dX5_cutsFrom_0 : decode cX5_cutsFrom 0 = .ok (.iconst 0, 1) := by decide +kernel
theorem dX5_cutsFrom_1 : decode cX5_cutsFrom 1 = .ok (.istore 4, 2) := by decide +kernel
theorem dX5_cutsFrom_3 : decode cX5_cutsFrom 3 = .ok (.iload_n 1, 1) := by decide +kernel
theorem dX5_cutsFrom_4 : decode cX5_cutsFrom 4 = .ok (.iconst 1, 1) := by decide +kernel
theorem dX5_cutsFrom_5 : decode cX5_cutsFrom 5 = .ok (.iadd, 1) := by decide +kernel
theorem dX5_cutsFrom_6 : decode cX5_cutsFrom 6 = .ok (.istore 5, 2) := by decide +kernel
theorem dX5_cutsFrom_8 : decode cX5_cutsFrom 8 = .ok (.iload 5, 2) := by decide +kernel
theorem dX5_cutsFrom_10 : decode cX5_cutsFrom 10 = .ok (.aload_n 0, 1) := by decide +kernel
theorem dX5_cutsFrom_11 : decode cX5_cutsFrom 11 = .ok (.getfield 47, 3) := by decide +kernel
theorem dX5_cutsFrom_14 : decode cX5_cutsFrom 14 = .ok (.if_icmp .ge 31, 3) := by decide +kernel
theorem dX5_cutsFrom_17 : decode cX5_cutsFrom 17 = .ok (.iload 5, 2) := by decide +kernel
theorem dX5_cutsFrom_19 : decode cX5_cutsFrom 19 = .ok (.lload_n 2, 1) := by decide +kernel
theorem dX5_cutsFrom_20 : decode cX5_cutsFrom 20 = .ok (.invokestatic 70, 3) := by decide +kernel
theorem dX5_cutsFrom_23 : decode cX5_cutsFrom 23 = .ok (.ifCond .eq 16, 3) := by decide +kernel
theorem dX5_cutsFrom_26 : decode cX5_cutsFrom 26 = .ok (.aload_n 0, 1) := by decide +kernel
theorem dX5_cutsFrom_27 : decode cX5_cutsFrom 27 = .ok (.iload 5, 2) := by decide +kernel
theorem dX5_cutsFrom_29 : decode cX5_cutsFrom 29 = .ok (.iload_n 1, 1) := by decide +kernel
theorem dX5_cutsFrom_30 : decode cX5_cutsFrom 30 = .ok (.invokevirtual 105, 3) := by decide +kernel
theorem dX5_cutsFrom_33 : decode cX5_cutsFrom 33 = .ok (.ifCond .eq 6, 3) := by decide +kernel
theorem dX5_cutsFrom_36 : decode cX5_cutsFrom 36 = .ok (.iinc 4 1, 3) := by decide +kernel
theorem dX5_cutsFrom_39 : decode cX5_cutsFrom 39 = .ok (.iinc 5 1, 3) := by decide +kernel
theorem dX5_cutsFrom_42 : decode cX5_cutsFrom 42 = .ok (.goto (-34), 3) := by decide +kernel
theorem dX5_cutsFrom_45 : decode cX5_cutsFrom 45 = .ok (.iload 4, 2) := by decide +kernel
theorem dX5_cutsFrom_47 : decode cX5_cutsFrom 47 = .ok (.ireturn, 1) := by decide +kernel
set_option maxRecDepth 20000 in
theorem ggX5_goesThrough_X5_standIn : GoodIn wsX5_goesThrough wsX5_standIn := goodIn_r _ [7, 8, 2, 9, 10, 11, 12, 13, 14, 15, 16, 17, 18, 19, 20, 21, 22, 6, 23, 24, 1, 25, 26, 27, 28, 29, 30, 31, 32, 33, 34, 35, 36, 37, 38, 39, 40, 41, 42, 43, 44, 45, 46, 47, 48, 49, 50, 51, 52, 53, 54, 55, 56, 57, 58, 59, 60, 61, 62, 63, 64, 65, 66, 67, 68, 69, 70, 71, 72, 73, 74, 75, 76, 77, 78, 79, 80] (by decide +kernel) (by decide +kernel)
set_option maxRecDepth 20000 in
theorem gX5_goesThrough_X5_standIn : GoodIn wsX5_goesThrough (wsV RX5 109 RX5 yX5_standIn wsX5_standIn) := goodIn_app (goodIn_of _ (by decide +kernel)) ggX5_goesThrough_X5_standIn
theorem dX5_goesThrough_0 : decode cX5_goesThrough 0 = .ok (.iconst 0, 1) := by decide +kernel
theorem dX5_goesThrough_1 : decode cX5_goesThrough 1 = .ok (.istore_n 3, 1) := by decide +kernel
theorem dX5_goesThrough_2 : decode cX5_goesThrough 2 = .ok (.iload_n 3, 1) := by decide +kernel
theorem dX5_goesThrough_3 : decode cX5_goesThrough 3 = .ok (.aload_n 1, 1) := by decide +kernel
theorem dX5_goesThrough_4 : decode cX5_goesThrough 4 = .ok (.getfield 47, 3) := by decide +kernel
theorem dX5_goesThrough_7 : decode cX5_goesThrough 7 = .ok (.if_icmp .ge 33, 3) := by decide +kernel
theorem dX5_goesThrough_10 : decode cX5_goesThrough 10 = .ok (.aload_n 0, 1) := by decide +kernel
theorem dX5_goesThrough_11 : decode cX5_goesThrough 11 = .ok (.getfield 18, 3) := by decide +kernel
theorem dX5_goesThrough_14 : decode cX5_goesThrough 14 = .ok (.iload_n 3, 1) := by decide +kernel
theorem dX5_goesThrough_15 : decode cX5_goesThrough 15 = .ok (.aload_n 0, 1) := by decide +kernel
theorem dX5_goesThrough_16 : decode cX5_goesThrough 16 = .ok (.aload_n 1, 1) := by decide +kernel
theorem dX5_goesThrough_17 : decode cX5_goesThrough 17 = .ok (.iload_n 3, 1) := by decide +kernel
theorem dX5_goesThrough_18 : decode cX5_goesThrough 18 = .ok (.iload_n 2, 1) := by decide +kernel
theorem dX5_goesThrough_19 : decode cX5_goesThrough 19 = .ok (.invokevirtual 109, 3) := by decide +kernel
theorem dX5_goesThrough_22 : decode cX5_goesThrough 22 = .ok (.iastore, 1) := by decide +kernel
theorem dX5_goesThrough_23 : decode cX5_goesThrough 23 = .ok (.aload_n 0, 1) := by decide +kernel
theorem dX5_goesThrough_24 : decode cX5_goesThrough 24 = .ok (.getfield 18, 3) := by decide +kernel
theorem dX5_goesThrough_27 : decode cX5_goesThrough 27 = .ok (.iload_n 3, 1) := by decide +kernel
theorem dX5_goesThrough_28 : decode cX5_goesThrough 28 = .ok (.iaload, 1) := by decide +kernel
theorem dX5_goesThrough_29 : decode cX5_goesThrough 29 = .ok (.ifCond .ge 5, 3) := by decide +kernel
theorem dX5_goesThrough_32 : decode cX5_goesThrough 32 = .ok (.iconst 0, 1) := by decide +kernel
theorem dX5_goesThrough_33 : decode cX5_goesThrough 33 = .ok (.ireturn, 1) := by decide +kernel
theorem dX5_goesThrough_34 : decode cX5_goesThrough 34 = .ok (.iinc 3 1, 3) := by decide +kernel
theorem dX5_goesThrough_37 : decode cX5_goesThrough 37 = .ok (.goto (-35), 3) := by decide +kernel
theorem dX5_goesThrough_40 : decode cX5_goesThrough 40 = .ok (.iconst 1, 1) := by decide +kernel
theorem dX5_goesThrough_41 : decode cX5_goesThrough 41 = .ok (.ireturn, 1) := by decide +kernel
set_option maxRecDepth 20000 in
theorem ggX5_standIn_X2_isGround : GoodIn wsX5_standIn wsX2_isGround := goodIn_r _ [12, 13, 65, 66, 67, 68, 69, 70, 71] (by decide +kernel) (by decide +kernel)
set_option maxRecDepth 20000 in
theorem gX5_standIn_X2_isGround : GoodIn wsX5_standIn (wsV RX5 74 RX2 yX2_isGround wsX2_isGround) := goodIn_app (goodIn_of _ (by decide +kernel)) ggX5_standIn_X2_isGround
set_option maxRecDepth 20000 in
theorem ggX5_standIn_X5_placed : GoodIn wsX5_standIn wsX5_placed := goodIn_r _ [18, 19, 20, 21, 22, 23, 11, 24, 25, 26, 27, 28, 29, 30, 31, 32, 33, 34, 13, 35, 36, 37, 38, 72, 73, 74, 75, 76, 65, 66, 67, 68, 69, 70, 71] (by decide +kernel) (by decide +kernel)
set_option maxRecDepth 20000 in
theorem gX5_standIn_X5_placed : GoodIn wsX5_standIn (wsV RX5 113 RX5 yX5_placed wsX5_placed) := goodIn_app (goodIn_of _ (by decide +kernel)) ggX5_standIn_X5_placed
set_option maxRecDepth 20000 in
theorem ggX5_standIn_X0_plain : GoodIn wsX5_standIn wsX0_plain := goodIn_r _ [42] (by decide +kernel) (by decide +kernel)
set_option maxRecDepth 20000 in
theorem gX5_standIn_X0_plain : GoodIn wsX5_standIn (va_wsS RX5 84 yX0_plain wsX0_plain) := goodIn_app (goodIn_of _ (by decide +kernel)) ggX5_standIn_X0_plain
set_option maxRecDepth 20000 in
theorem ggX5_standIn_X0_isPart : GoodIn wsX5_standIn wsX0_isPart := goodIn_r _ [45] (by decide +kernel) (by decide +kernel)
set_option maxRecDepth 20000 in
theorem gX5_standIn_X0_isPart : GoodIn wsX5_standIn (va_wsS RX5 117 yX0_isPart wsX0_isPart) := goodIn_app (goodIn_of _ (by decide +kernel)) ggX5_standIn_X0_isPart
set_option maxRecDepth 20000 in
theorem ggX5_standIn_X0_negated : GoodIn wsX5_standIn wsX0_negated := goodIn_r _ [48] (by decide +kernel) (by decide +kernel)
set_option maxRecDepth 20000 in
theorem gX5_standIn_X0_negated : GoodIn wsX5_standIn (va_wsS RX5 93 yX0_negated wsX0_negated) := goodIn_app (goodIn_of _ (by decide +kernel)) ggX5_standIn_X0_negated
set_option maxRecDepth 20000 in
theorem ggX5_standIn_X9_isIn : GoodIn wsX5_standIn wsX9_isIn := goodIn_r _ [51] (by decide +kernel) (by decide +kernel)
set_option maxRecDepth 20000 in
theorem gX5_standIn_X9_isIn_n70 : GoodIn wsX5_standIn (wsX9_isIn) := ggX5_standIn_X9_isIn
set_option maxRecDepth 20000 in
theorem ggX5_standIn_X5_cutAnew : GoodIn wsX5_standIn wsX5_cutAnew := goodIn_r _ [55, 19, 1, 39, 40, 41, 42, 43, 44, 45, 46, 47, 48, 56, 57, 58, 59, 60, 61, 62, 63, 64, 14, 15, 16, 17, 18, 20, 21, 22, 23, 11, 24, 25, 26, 27, 28, 29, 30, 31, 32, 33, 34, 13, 35, 36, 37, 38, 72, 73, 74, 75, 76, 65, 66, 67, 68, 69, 70, 71] (by decide +kernel) (by decide +kernel)
set_option maxRecDepth 20000 in
theorem gX5_standIn_X5_cutAnew : GoodIn wsX5_standIn (wsV RX5 120 RX5 yX5_cutAnew wsX5_cutAnew) := goodIn_app (goodIn_of _ (by decide +kernel)) ggX5_standIn_X5_cutAnew
theorem dX5_standIn_0 : decode cX5_standIn 0 = .ok (.aload_n 1, 1) := by decide +kernel
theorem dX5_standIn_1 : decode cX5_standIn 1 = .ok (.iload_n 2, 1) := by decide +kernel
theorem dX5_standIn_2 : decode cX5_standIn 2 = .ok (.invokevirtual 74, 3) := by decide +kernel
theorem dX5_standIn_5 : decode cX5_standIn 5 = .ok (.ifCond .eq 21, 3) := by decide +kernel
theorem dX5_standIn_8 : decode cX5_standIn 8 = .ok (.aload_n 0, 1) := by decide +kernel
theorem dX5_standIn_9 : decode cX5_standIn 9 = .ok (.aload_n 1, 1) := by decide +kernel
theorem dX5_standIn_10 : decode cX5_standIn 10 = .ok (.getfield 67, 3) := by decide +kernel
theorem dX5_standIn_13 : decode cX5_standIn 13 = .ok (.iload_n 2, 1) := by decide +kernel
theorem dX5_standIn_14 : decode cX5_standIn 14 = .ok (.iaload, 1) := by decide +kernel
theorem dX5_standIn_15 : decode cX5_standIn 15 = .ok (.bipush (-9), 2) := by decide +kernel
theorem dX5_standIn_17 : decode cX5_standIn 17 = .ok (.bipush (-9), 2) := by decide +kernel
theorem dX5_standIn_19 : decode cX5_standIn 19 = .ok (.bipush (-9), 2) := by decide +kernel
theorem dX5_standIn_21 : decode cX5_standIn 21 = .ok (.iload_n 3, 1) := by decide +kernel
theorem dX5_standIn_22 : decode cX5_standIn 22 = .ok (.invokevirtual 113, 3) := by decide +kernel
theorem dX5_standIn_25 : decode cX5_standIn 25 = .ok (.ireturn, 1) := by decide +kernel
theorem dX5_standIn_26 : decode cX5_standIn 26 = .ok (.aload_n 0, 1) := by decide +kernel
theorem dX5_standIn_27 : decode cX5_standIn 27 = .ok (.getfield 18, 3) := by decide +kernel
theorem dX5_standIn_30 : decode cX5_standIn 30 = .ok (.aload_n 1, 1) := by decide +kernel
theorem dX5_standIn_31 : decode cX5_standIn 31 = .ok (.getfield 78, 3) := by decide +kernel
theorem dX5_standIn_34 : decode cX5_standIn 34 = .ok (.iload_n 2, 1) := by decide +kernel
theorem dX5_standIn_35 : decode cX5_standIn 35 = .ok (.iaload, 1) := by decide +kernel
theorem dX5_standIn_36 : decode cX5_standIn 36 = .ok (.iaload, 1) := by decide +kernel
theorem dX5_standIn_37 : decode cX5_standIn 37 = .ok (.istore 4, 2) := by decide +kernel
theorem dX5_standIn_39 : decode cX5_standIn 39 = .ok (.aload_n 0, 1) := by decide +kernel
theorem dX5_standIn_40 : decode cX5_standIn 40 = .ok (.getfield 18, 3) := by decide +kernel
theorem dX5_standIn_43 : decode cX5_standIn 43 = .ok (.aload_n 1, 1) := by decide +kernel
theorem dX5_standIn_44 : decode cX5_standIn 44 = .ok (.getfield 90, 3) := by decide +kernel
theorem dX5_standIn_47 : decode cX5_standIn 47 = .ok (.iload_n 2, 1) := by decide +kernel
theorem dX5_standIn_48 : decode cX5_standIn 48 = .ok (.iaload, 1) := by decide +kernel
theorem dX5_standIn_49 : decode cX5_standIn 49 = .ok (.iaload, 1) := by decide +kernel
theorem dX5_standIn_50 : decode cX5_standIn 50 = .ok (.istore 5, 2) := by decide +kernel
theorem dX5_standIn_52 : decode cX5_standIn 52 = .ok (.aload_n 1, 1) := by decide +kernel
theorem dX5_standIn_53 : decode cX5_standIn 53 = .ok (.getfield 81, 3) := by decide +kernel
theorem dX5_standIn_56 : decode cX5_standIn 56 = .ok (.iload_n 2, 1) := by decide +kernel
theorem dX5_standIn_57 : decode cX5_standIn 57 = .ok (.iaload, 1) := by decide +kernel
theorem dX5_standIn_58 : decode cX5_standIn 58 = .ok (.istore 6, 2) := by decide +kernel
theorem dX5_standIn_60 : decode cX5_standIn 60 = .ok (.iload_n 3, 1) := by decide +kernel
theorem dX5_standIn_61 : decode cX5_standIn 61 = .ok (.iconst 3, 1) := by decide +kernel
theorem dX5_standIn_62 : decode cX5_standIn 62 = .ok (.if_icmp .ne 23, 3) := by decide +kernel
theorem dX5_standIn_65 : decode cX5_standIn 65 = .ok (.iload 6, 2) := by decide +kernel
theorem dX5_standIn_67 : decode cX5_standIn 67 = .ok (.invokestatic 84, 3) := by decide +kernel
theorem dX5_standIn_70 : decode cX5_standIn 70 = .ok (.aload_n 0, 1) := by decide +kernel
theorem dX5_standIn_71 : decode cX5_standIn 71 = .ok (.getfield 22, 3) := by decide +kernel
theorem dX5_standIn_74 : decode cX5_standIn 74 = .ok (.iload_n 2, 1) := by decide +kernel
theorem dX5_standIn_75 : decode cX5_standIn 75 = .ok (.iaload, 1) := by decide +kernel
theorem dX5_standIn_76 : decode cX5_standIn 76 = .ok (.invokestatic 117, 3) := by decide +kernel
theorem dX5_standIn_79 : decode cX5_standIn 79 = .ok (.ifCond .eq 6, 3) := by decide +kernel
theorem dX5_standIn_82 : decode cX5_standIn 82 = .ok (.iload 4, 2) := by decide +kernel
theorem dX5_standIn_84 : decode cX5_standIn 84 = .ok (.ireturn, 1) := by decide +kernel
theorem dX5_standIn_85 : decode cX5_standIn 85 = .ok (.iload_n 3, 1) := by decide +kernel
theorem dX5_standIn_86 : decode cX5_standIn 86 = .ok (.iconst 3, 1) := by decide +kernel
theorem dX5_standIn_87 : decode cX5_standIn 87 = .ok (.if_icmp .ne 23, 3) := by decide +kernel
theorem dX5_standIn_90 : decode cX5_standIn 90 = .ok (.iload 6, 2) := by decide +kernel
theorem dX5_standIn_92 : decode cX5_standIn 92 = .ok (.invokestatic 93, 3) := by decide +kernel
theorem dX5_standIn_95 : decode cX5_standIn 95 = .ok (.aload_n 0, 1) := by decide +kernel
theorem dX5_standIn_96 : decode cX5_standIn 96 = .ok (.getfield 22, 3) := by decide +kernel
theorem dX5_standIn_99 : decode cX5_standIn 99 = .ok (.iload_n 2, 1) := by decide +kernel
theorem dX5_standIn_100 : decode cX5_standIn 100 = .ok (.iaload, 1) := by decide +kernel
theorem dX5_standIn_101 : decode cX5_standIn 101 = .ok (.invokestatic 117, 3) := by decide +kernel
theorem dX5_standIn_104 : decode cX5_standIn 104 = .ok (.ifCond .eq 6, 3) := by decide +kernel
theorem dX5_standIn_107 : decode cX5_standIn 107 = .ok (.iload 5, 2) := by decide +kernel
theorem dX5_standIn_109 : decode cX5_standIn 109 = .ok (.ireturn, 1) := by decide +kernel
theorem dX5_standIn_110 : decode cX5_standIn 110 = .ok (.iload_n 3, 1) := by decide +kernel
theorem dX5_standIn_111 : decode cX5_standIn 111 = .ok (.iconst 4, 1) := by decide +kernel
theorem dX5_standIn_112 : decode cX5_standIn 112 = .ok (.if_icmp .ne 22, 3) := by decide +kernel
theorem dX5_standIn_115 : decode cX5_standIn 115 = .ok (.aload_n 1, 1) := by decide +kernel
theorem dX5_standIn_116 : decode cX5_standIn 116 = .ok (.getfield 78, 3) := by decide +kernel
theorem dX5_standIn_119 : decode cX5_standIn 119 = .ok (.iload_n 2, 1) := by decide +kernel
theorem dX5_standIn_120 : decode cX5_standIn 120 = .ok (.iaload, 1) := by decide +kernel
theorem dX5_standIn_121 : decode cX5_standIn 121 = .ok (.aload_n 0, 1) := by decide +kernel
theorem dX5_standIn_122 : decode cX5_standIn 122 = .ok (.getfield 39, 3) := by decide +kernel
theorem dX5_standIn_125 : decode cX5_standIn 125 = .ok (.invokestatic 70, 3) := by decide +kernel
theorem dX5_standIn_128 : decode cX5_standIn 128 = .ok (.ifCond .eq 6, 3) := by decide +kernel
theorem dX5_standIn_131 : decode cX5_standIn 131 = .ok (.iload 5, 2) := by decide +kernel
theorem dX5_standIn_133 : decode cX5_standIn 133 = .ok (.ireturn, 1) := by decide +kernel
theorem dX5_standIn_134 : decode cX5_standIn 134 = .ok (.iload_n 3, 1) := by decide +kernel
theorem dX5_standIn_135 : decode cX5_standIn 135 = .ok (.iconst 4, 1) := by decide +kernel
theorem dX5_standIn_136 : decode cX5_standIn 136 = .ok (.if_icmp .ne 22, 3) := by decide +kernel
theorem dX5_standIn_139 : decode cX5_standIn 139 = .ok (.aload_n 1, 1) := by decide +kernel
theorem dX5_standIn_140 : decode cX5_standIn 140 = .ok (.getfield 90, 3) := by decide +kernel
theorem dX5_standIn_143 : decode cX5_standIn 143 = .ok (.iload_n 2, 1) := by decide +kernel
theorem dX5_standIn_144 : decode cX5_standIn 144 = .ok (.iaload, 1) := by decide +kernel
theorem dX5_standIn_145 : decode cX5_standIn 145 = .ok (.aload_n 0, 1) := by decide +kernel
theorem dX5_standIn_146 : decode cX5_standIn 146 = .ok (.getfield 39, 3) := by decide +kernel
theorem dX5_standIn_149 : decode cX5_standIn 149 = .ok (.invokestatic 70, 3) := by decide +kernel
theorem dX5_standIn_152 : decode cX5_standIn 152 = .ok (.ifCond .eq 6, 3) := by decide +kernel
theorem dX5_standIn_155 : decode cX5_standIn 155 = .ok (.iload 4, 2) := by decide +kernel
theorem dX5_standIn_157 : decode cX5_standIn 157 = .ok (.ireturn, 1) := by decide +kernel
theorem dX5_standIn_158 : decode cX5_standIn 158 = .ok (.aload_n 0, 1) := by decide +kernel
theorem dX5_standIn_159 : decode cX5_standIn 159 = .ok (.iload 4, 2) := by decide +kernel
theorem dX5_standIn_161 : decode cX5_standIn 161 = .ok (.iload 5, 2) := by decide +kernel
theorem dX5_standIn_163 : decode cX5_standIn 163 = .ok (.iload 6, 2) := by decide +kernel
theorem dX5_standIn_165 : decode cX5_standIn 165 = .ok (.iload_n 3, 1) := by decide +kernel
theorem dX5_standIn_166 : decode cX5_standIn 166 = .ok (.invokevirtual 120, 3) := by decide +kernel
theorem dX5_standIn_169 : decode cX5_standIn 169 = .ok (.ireturn, 1) := by decide +kernel
set_option maxRecDepth 20000 in
theorem ggX5_cutAnew_X0_plain : GoodIn wsX5_cutAnew wsX0_plain := goodIn_r _ [6] (by decide +kernel) (by decide +kernel)
set_option maxRecDepth 20000 in
theorem gX5_cutAnew_X0_plain : GoodIn wsX5_cutAnew (va_wsS RX5 84 yX0_plain wsX0_plain) := goodIn_app (goodIn_of _ (by decide +kernel)) ggX5_cutAnew_X0_plain
set_option maxRecDepth 20000 in
theorem ggX5_cutAnew_X0_isPart : GoodIn wsX5_cutAnew wsX0_isPart := goodIn_r _ [9] (by decide +kernel) (by decide +kernel)
set_option maxRecDepth 20000 in
theorem gX5_cutAnew_X0_isPart : GoodIn wsX5_cutAnew (va_wsS RX5 117 yX0_isPart wsX0_isPart) := goodIn_app (goodIn_of _ (by decide +kernel)) ggX5_cutAnew_X0_isPart
set_option maxRecDepth 20000 in
theorem ggX5_cutAnew_X0_negated : GoodIn wsX5_cutAnew wsX0_negated := goodIn_r _ [12] (by decide +kernel) (by decide +kernel)
set_option maxRecDepth 20000 in
theorem gX5_cutAnew_X0_negated : GoodIn wsX5_cutAnew (va_wsS RX5 93 yX0_negated wsX0_negated) := goodIn_app (goodIn_of _ (by decide +kernel)) ggX5_cutAnew_X0_negated
set_option maxRecDepth 20000 in
theorem ggX5_cutAnew_X0_cutOf : GoodIn wsX5_cutAnew wsX0_cutOf := goodIn_r _ [15, 16, 4, 5, 6, 17, 11, 12, 18, 8, 9, 19, 20, 21] (by decide +kernel) (by decide +kernel)
set_option maxRecDepth 20000 in
theorem gX5_cutAnew_X0_cutOf : GoodIn wsX5_cutAnew (va_wsS RX5 124 yX0_cutOf wsX0_cutOf) := goodIn_app (goodIn_of _ (by decide +kernel)) ggX5_cutAnew_X0_cutOf
set_option maxRecDepth 20000 in
theorem ggX5_cutAnew_X5_placed : GoodIn wsX5_cutAnew wsX5_placed := goodIn_r _ [26, 1, 27, 28, 29, 30, 31, 32, 33, 34, 35, 36, 37, 38, 39, 40, 41, 42, 43, 44, 45, 46, 47, 48, 49, 50, 51, 52, 53, 54, 55, 56, 57, 58, 59] (by decide +kernel) (by decide +kernel)
set_option maxRecDepth 20000 in
theorem gX5_cutAnew_X5_placed : GoodIn wsX5_cutAnew (wsV RX5 113 RX5 yX5_placed wsX5_placed) := goodIn_app (goodIn_of _ (by decide +kernel)) ggX5_cutAnew_X5_placed
theorem dX5_cutAnew_0 : decode cX5_cutAnew 0 = .ok (.iload_n 3, 1) := by decide +kernel
theorem dX5_cutAnew_1 : decode cX5_cutAnew 1 = .ok (.invokestatic 84, 3) := by decide +kernel
theorem dX5_cutAnew_4 : decode cX5_cutAnew 4 = .ok (.aload_n 0, 1) := by decide +kernel
theorem dX5_cutAnew_5 : decode cX5_cutAnew 5 = .ok (.getfield 12, 3) := by decide +kernel
theorem dX5_cutAnew_8 : decode cX5_cutAnew 8 = .ok (.getfield 67, 3) := by decide +kernel
theorem dX5_cutAnew_11 : decode cX5_cutAnew 11 = .ok (.iload_n 1, 1) := by decide +kernel
theorem dX5_cutAnew_12 : decode cX5_cutAnew 12 = .ok (.iaload, 1) := by decide +kernel
theorem dX5_cutAnew_13 : decode cX5_cutAnew 13 = .ok (.invokestatic 117, 3) := by decide +kernel
theorem dX5_cutAnew_16 : decode cX5_cutAnew 16 = .ok (.ifCond .ne 5, 3) := by decide +kernel
theorem dX5_cutAnew_19 : decode cX5_cutAnew 19 = .ok (.iload_n 1, 1) := by decide +kernel
theorem dX5_cutAnew_20 : decode cX5_cutAnew 20 = .ok (.ireturn, 1) := by decide +kernel
theorem dX5_cutAnew_21 : decode cX5_cutAnew 21 = .ok (.iload_n 3, 1) := by decide +kernel
theorem dX5_cutAnew_22 : decode cX5_cutAnew 22 = .ok (.invokestatic 93, 3) := by decide +kernel
theorem dX5_cutAnew_25 : decode cX5_cutAnew 25 = .ok (.aload_n 0, 1) := by decide +kernel
theorem dX5_cutAnew_26 : decode cX5_cutAnew 26 = .ok (.getfield 12, 3) := by decide +kernel
theorem dX5_cutAnew_29 : decode cX5_cutAnew 29 = .ok (.getfield 67, 3) := by decide +kernel
theorem dX5_cutAnew_32 : decode cX5_cutAnew 32 = .ok (.iload_n 2, 1) := by decide +kernel
theorem dX5_cutAnew_33 : decode cX5_cutAnew 33 = .ok (.iaload, 1) := by decide +kernel
theorem dX5_cutAnew_34 : decode cX5_cutAnew 34 = .ok (.invokestatic 117, 3) := by decide +kernel
theorem dX5_cutAnew_37 : decode cX5_cutAnew 37 = .ok (.ifCond .ne 5, 3) := by decide +kernel
theorem dX5_cutAnew_40 : decode cX5_cutAnew 40 = .ok (.iload_n 2, 1) := by decide +kernel
theorem dX5_cutAnew_41 : decode cX5_cutAnew 41 = .ok (.ireturn, 1) := by decide +kernel
theorem dX5_cutAnew_42 : decode cX5_cutAnew 42 = .ok (.aload_n 0, 1) := by decide +kernel
theorem dX5_cutAnew_43 : decode cX5_cutAnew 43 = .ok (.getfield 12, 3) := by decide +kernel
theorem dX5_cutAnew_46 : decode cX5_cutAnew 46 = .ok (.getfield 67, 3) := by decide +kernel
theorem dX5_cutAnew_49 : decode cX5_cutAnew 49 = .ok (.iload_n 1, 1) := by decide +kernel
theorem dX5_cutAnew_50 : decode cX5_cutAnew 50 = .ok (.iaload, 1) := by decide +kernel
theorem dX5_cutAnew_51 : decode cX5_cutAnew 51 = .ok (.aload_n 0, 1) := by decide +kernel
theorem dX5_cutAnew_52 : decode cX5_cutAnew 52 = .ok (.getfield 12, 3) := by decide +kernel
theorem dX5_cutAnew_55 : decode cX5_cutAnew 55 = .ok (.getfield 67, 3) := by decide +kernel
theorem dX5_cutAnew_58 : decode cX5_cutAnew 58 = .ok (.iload_n 2, 1) := by decide +kernel
theorem dX5_cutAnew_59 : decode cX5_cutAnew 59 = .ok (.iaload, 1) := by decide +kernel
theorem dX5_cutAnew_60 : decode cX5_cutAnew 60 = .ok (.iload_n 3, 1) := by decide +kernel
theorem dX5_cutAnew_61 : decode cX5_cutAnew 61 = .ok (.invokestatic 124, 3) := by decide +kernel
theorem dX5_cutAnew_64 : decode cX5_cutAnew 64 = .ok (.istore 5, 2) := by decide +kernel
theorem dX5_cutAnew_66 : decode cX5_cutAnew 66 = .ok (.iload 5, 2) := by decide +kernel
theorem dX5_cutAnew_68 : decode cX5_cutAnew 68 = .ok (.bipush (-9), 2) := by decide +kernel
theorem dX5_cutAnew_70 : decode cX5_cutAnew 70 = .ok (.if_icmp .ne 8, 3) := by decide +kernel
theorem dX5_cutAnew_73 : decode cX5_cutAnew 73 = .ok (.bipush (-3), 2) := by decide +kernel
theorem dX5_cutAnew_75 : decode cX5_cutAnew 75 = .ok (.goto 14, 3) := by decide +kernel
theorem dX5_cutAnew_78 : decode cX5_cutAnew 78 = .ok (.aload_n 0, 1) := by decide +kernel
theorem dX5_cutAnew_79 : decode cX5_cutAnew 79 = .ok (.iload 5, 2) := by decide +kernel
theorem dX5_cutAnew_81 : decode cX5_cutAnew 81 = .ok (.iload_n 1, 1) := by decide +kernel
theorem dX5_cutAnew_82 : decode cX5_cutAnew 82 = .ok (.iload_n 2, 1) := by decide +kernel
theorem dX5_cutAnew_83 : decode cX5_cutAnew 83 = .ok (.iload_n 3, 1) := by decide +kernel
theorem dX5_cutAnew_84 : decode cX5_cutAnew 84 = .ok (.iload 4, 2) := by decide +kernel
theorem dX5_cutAnew_86 : decode cX5_cutAnew 86 = .ok (.invokevirtual 113, 3) := by decide +kernel
theorem dX5_cutAnew_89 : decode cX5_cutAnew 89 = .ok (.ireturn, 1) := by decide +kernel
set_option maxRecDepth 20000 in
theorem ggX5_placed_X2_firstWith : GoodIn wsX5_placed wsX2_firstWith := goodIn_r _ [7, 8, 28, 29, 30, 31, 32, 33, 34] (by decide +kernel) (by decide +kernel)
set_option maxRecDepth 20000 in
theorem gX5_placed_X2_firstWith : GoodIn wsX5_placed (wsV RX5 128 RX2 yX2_firstWith wsX2_firstWith) := goodIn_app (goodIn_of _ (by decide +kernel)) ggX5_placed_X2_firstWith
set_option maxRecDepth 20000 in
theorem ggX5_placed_X2_firstPartOf : GoodIn wsX5_placed wsX2_firstPartOf := goodIn_r _ [12, 13, 8, 28, 29, 30, 31, 32, 33, 34] (by decide +kernel) (by decide +kernel)
set_option maxRecDepth 20000 in
theorem gX5_placed_X2_firstPartOf : GoodIn wsX5_placed (wsV RX5 132 RX2 yX2_firstPartOf wsX2_firstPartOf) := goodIn_app (goodIn_of _ (by decide +kernel)) ggX5_placed_X2_firstPartOf
set_option maxRecDepth 20000 in
theorem ggX5_placed_X2_add : GoodIn wsX5_placed wsX2_add := goodIn_r _ [17, 13, 8, 18, 19, 20, 21, 22, 28, 29, 30, 31, 32, 33, 34] (by decide +kernel) (by decide +kernel)
set_option maxRecDepth 20000 in
theorem gX5_placed_X2_add : GoodIn wsX5_placed (wsV RX5 135 RX2 yX2_add wsX2_add) := goodIn_app (goodIn_of _ (by decide +kernel)) ggX5_placed_X2_add
theorem dX5_placed_0 : decode cX5_placed 0 = .ok (.bipush (-9), 2) := by decide +kernel
theorem dX5_placed_2 : decode cX5_placed 2 = .ok (.istore 6, 2) := by decide +kernel
theorem dX5_placed_4 : decode cX5_placed 4 = .ok (.iload 5, 2) := by decide +kernel
theorem dX5_placed_6 : decode cX5_placed 6 = .ok (.iconst 1, 1) := by decide +kernel
theorem dX5_placed_7 : decode cX5_placed 7 = .ok (.if_icmp .ne 23, 3) := by decide +kernel
theorem dX5_placed_10 : decode cX5_placed 10 = .ok (.aload_n 0, 1) := by decide +kernel
theorem dX5_placed_11 : decode cX5_placed 11 = .ok (.getfield 12, 3) := by decide +kernel
theorem dX5_placed_14 : decode cX5_placed 14 = .ok (.iload_n 1, 1) := by decide +kernel
theorem dX5_placed_15 : decode cX5_placed 15 = .ok (.aload_n 0, 1) := by decide +kernel
theorem dX5_placed_16 : decode cX5_placed 16 = .ok (.getfield 12, 3) := by decide +kernel
theorem dX5_placed_19 : decode cX5_placed 19 = .ok (.getfield 47, 3) := by decide +kernel
theorem dX5_placed_22 : decode cX5_placed 22 = .ok (.invokevirtual 128, 3) := by decide +kernel
theorem dX5_placed_25 : decode cX5_placed 25 = .ok (.istore 6, 2) := by decide +kernel
theorem dX5_placed_27 : decode cX5_placed 27 = .ok (.goto 19, 3) := by decide +kernel
theorem dX5_placed_30 : decode cX5_placed 30 = .ok (.iload 5, 2) := by decide +kernel
theorem dX5_placed_32 : decode cX5_placed 32 = .ok (.iconst 2, 1) := by decide +kernel
theorem dX5_placed_33 : decode cX5_placed 33 = .ok (.if_icmp .ne 13, 3) := by decide +kernel
theorem dX5_placed_36 : decode cX5_placed 36 = .ok (.aload_n 0, 1) := by decide +kernel
theorem dX5_placed_37 : decode cX5_placed 37 = .ok (.getfield 12, 3) := by decide +kernel
theorem dX5_placed_40 : decode cX5_placed 40 = .ok (.iload_n 1, 1) := by decide +kernel
theorem dX5_placed_41 : decode cX5_placed 41 = .ok (.invokevirtual 132, 3) := by decide +kernel
theorem dX5_placed_44 : decode cX5_placed 44 = .ok (.istore 6, 2) := by decide +kernel
theorem dX5_placed_46 : decode cX5_placed 46 = .ok (.iload 6, 2) := by decide +kernel
theorem dX5_placed_48 : decode cX5_placed 48 = .ok (.bipush (-9), 2) := by decide +kernel
theorem dX5_placed_50 : decode cX5_placed 50 = .ok (.if_icmp .ne 18, 3) := by decide +kernel
theorem dX5_placed_53 : decode cX5_placed 53 = .ok (.aload_n 0, 1) := by decide +kernel
theorem dX5_placed_54 : decode cX5_placed 54 = .ok (.getfield 12, 3) := by decide +kernel
theorem dX5_placed_57 : decode cX5_placed 57 = .ok (.iload_n 1, 1) := by decide +kernel
theorem dX5_placed_58 : decode cX5_placed 58 = .ok (.iload_n 2, 1) := by decide +kernel
theorem dX5_placed_59 : decode cX5_placed 59 = .ok (.iload_n 3, 1) := by decide +kernel
theorem dX5_placed_60 : decode cX5_placed 60 = .ok (.iload 4, 2) := by decide +kernel
theorem dX5_placed_62 : decode cX5_placed 62 = .ok (.invokevirtual 135, 3) := by decide +kernel
theorem dX5_placed_65 : decode cX5_placed 65 = .ok (.goto 5, 3) := by decide +kernel
theorem dX5_placed_68 : decode cX5_placed 68 = .ok (.iload 6, 2) := by decide +kernel
theorem dX5_placed_70 : decode cX5_placed 70 = .ok (.ireturn, 1) := by decide +kernel
set_option maxRecDepth 20000 in
theorem ggX5_cutUnits_X9_isIn : GoodIn wsX5_cutUnits wsX9_isIn := goodIn_r _ [7] (by decide +kernel) (by decide +kernel)
set_option maxRecDepth 20000 in
theorem gX5_cutUnits_X9_isIn_n70 : GoodIn wsX5_cutUnits (wsX9_isIn) := ggX5_cutUnits_X9_isIn
set_option maxRecDepth 20000 in
theorem ggX5_cutUnits_X5_cutUnit : GoodIn wsX5_cutUnits wsX5_cutUnit := goodIn_r _ [12, 13, 4, 14, 15, 16, 17, 18, 19, 20, 21, 22, 23, 24, 25, 26, 27, 28, 29, 30, 31, 32, 33, 34, 11, 35, 36, 37, 38, 39, 40, 41, 42, 43, 44, 45, 46, 47, 48, 49, 50, 51, 1, 52, 53, 54, 55, 56, 57, 58, 59, 60, 61, 62, 63, 64, 65, 66, 67, 68, 69, 70, 71, 79, 80, 81, 82, 83, 72, 73, 74, 75, 76, 77, 78] (by decide +kernel) (by decide +kernel)
set_option maxRecDepth 20000 in
theorem gX5_cutUnits_X5_cutUnit : GoodIn wsX5_cutUnits (wsV RX5 138 RX5 yX5_cutUnit wsX5_cutUnit) := goodIn_app (goodIn_of _ (by decide +kernel)) ggX5_cutUnits_X5_cutUnit
theorem dX5_cutUnits_0 : decode cX5_cutUnits 0 = .ok (.iload_n 2, 1) := by decide +kernel
theorem dX5_cutUnits_1 : decode cX5_cutUnits 1 = .ok (.istore_n 3, 1) := by decide +kernel
theorem dX5_cutUnits_2 : decode cX5_cutUnits 2 = .ok (.aload_n 1, 1) := by decide +kernel
theorem dX5_cutUnits_3 : decode cX5_cutUnits 3 = .ok (.getfield 47, 3) := by decide +kernel
theorem dX5_cutUnits_6 : decode cX5_cutUnits 6 = .ok (.iconst 1, 1) := by decide +kernel
theorem dX5_cutUnits_7 : decode cX5_cutUnits 7 = .ok (.isub, 1) := by decide +kernel
theorem dX5_cutUnits_8 : decode cX5_cutUnits 8 = .ok (.istore 4, 2) := by decide +kernel
theorem dX5_cutUnits_10 : decode cX5_cutUnits 10 = .ok (.iload 4, 2) := by decide +kernel
theorem dX5_cutUnits_12 : decode cX5_cutUnits 12 = .ok (.ifCond .lt 45, 3) := by decide +kernel
theorem dX5_cutUnits_15 : decode cX5_cutUnits 15 = .ok (.iload_n 3, 1) := by decide +kernel
theorem dX5_cutUnits_16 : decode cX5_cutUnits 16 = .ok (.ifCond .lt 41, 3) := by decide +kernel
theorem dX5_cutUnits_19 : decode cX5_cutUnits 19 = .ok (.iload 4, 2) := by decide +kernel
theorem dX5_cutUnits_21 : decode cX5_cutUnits 21 = .ok (.aload_n 0, 1) := by decide +kernel
theorem dX5_cutUnits_22 : decode cX5_cutUnits 22 = .ok (.getfield 39, 3) := by decide +kernel
theorem dX5_cutUnits_25 : decode cX5_cutUnits 25 = .ok (.invokestatic 70, 3) := by decide +kernel
theorem dX5_cutUnits_28 : decode cX5_cutUnits 28 = .ok (.ifCond .eq 23, 3) := by decide +kernel
theorem dX5_cutUnits_31 : decode cX5_cutUnits 31 = .ok (.aload_n 0, 1) := by decide +kernel
theorem dX5_cutUnits_32 : decode cX5_cutUnits 32 = .ok (.iload_n 3, 1) := by decide +kernel
theorem dX5_cutUnits_33 : decode cX5_cutUnits 33 = .ok (.aload_n 0, 1) := by decide +kernel
theorem dX5_cutUnits_34 : decode cX5_cutUnits 34 = .ok (.getfield 18, 3) := by decide +kernel
theorem dX5_cutUnits_37 : decode cX5_cutUnits 37 = .ok (.iload 4, 2) := by decide +kernel
theorem dX5_cutUnits_39 : decode cX5_cutUnits 39 = .ok (.iaload, 1) := by decide +kernel
theorem dX5_cutUnits_40 : decode cX5_cutUnits 40 = .ok (.aload_n 1, 1) := by decide +kernel
theorem dX5_cutUnits_41 : decode cX5_cutUnits 41 = .ok (.getfield 67, 3) := by decide +kernel
theorem dX5_cutUnits_44 : decode cX5_cutUnits 44 = .ok (.iload 4, 2) := by decide +kernel
theorem dX5_cutUnits_46 : decode cX5_cutUnits 46 = .ok (.iaload, 1) := by decide +kernel
theorem dX5_cutUnits_47 : decode cX5_cutUnits 47 = .ok (.invokevirtual 138, 3) := by decide +kernel
theorem dX5_cutUnits_50 : decode cX5_cutUnits 50 = .ok (.istore_n 3, 1) := by decide +kernel
theorem dX5_cutUnits_51 : decode cX5_cutUnits 51 = .ok (.iinc 4 (-1), 3) := by decide +kernel
theorem dX5_cutUnits_54 : decode cX5_cutUnits 54 = .ok (.goto (-44), 3) := by decide +kernel
theorem dX5_cutUnits_57 : decode cX5_cutUnits 57 = .ok (.iload_n 3, 1) := by decide +kernel
theorem dX5_cutUnits_58 : decode cX5_cutUnits 58 = .ok (.ireturn, 1) := by decide +kernel
set_option maxRecDepth 20000 in
theorem ggX5_cutUnit_X0_isPart : GoodIn wsX5_cutUnit wsX0_isPart := goodIn_r _ [6] (by decide +kernel) (by decide +kernel)
set_option maxRecDepth 20000 in
theorem gX5_cutUnit_X0_isPart : GoodIn wsX5_cutUnit (va_wsS RX5 117 yX0_isPart wsX0_isPart) := goodIn_app (goodIn_of _ (by decide +kernel)) ggX5_cutUnit_X0_isPart
set_option maxRecDepth 20000 in
theorem ggX5_cutUnit_X0_others : GoodIn wsX5_cutUnit wsX0_others := goodIn_r _ [9] (by decide +kernel) (by decide +kernel)
set_option maxRecDepth 20000 in
theorem gX5_cutUnit_X0_others : GoodIn wsX5_cutUnit (va_wsS RX5 141 yX0_others wsX0_others) := goodIn_app (goodIn_of _ (by decide +kernel)) ggX5_cutUnit_X0_others
set_option maxRecDepth 20000 in
theorem ggX5_cutUnit_X0_lettersOf : GoodIn wsX5_cutUnit wsX0_lettersOf := goodIn_r _ [12] (by decide +kernel) (by decide +kernel)
set_option maxRecDepth 20000 in
theorem gX5_cutUnit_X0_lettersOf : GoodIn wsX5_cutUnit (va_wsS RX5 144 yX0_lettersOf wsX0_lettersOf) := goodIn_app (goodIn_of _ (by decide +kernel)) ggX5_cutUnit_X0_lettersOf
set_option maxRecDepth 20000 in
theorem ggX5_cutUnit_J6_numberOfTrailingZeros_0f7a4 : GoodIn wsX5_cutUnit wsJ6_numberOfTrailingZeros_0f7a4 := goodIn_r _ [16, 17] (by decide +kernel) (by decide +kernel)
set_option maxRecDepth 20000 in
theorem gX5_cutUnit_J6_numberOfTrailingZeros_0f7a4 : GoodIn wsX5_cutUnit (va_wsS RX5 147 yJ6_numberOfTrailingZeros_0f7a4 wsJ6_numberOfTrailingZeros_0f7a4) := goodIn_app (goodIn_of _ (by decide +kernel)) ggX5_cutUnit_J6_numberOfTrailingZeros_0f7a4
set_option maxRecDepth 20000 in
theorem ggX5_cutUnit_X0_plain : GoodIn wsX5_cutUnit wsX0_plain := goodIn_r _ [20] (by decide +kernel) (by decide +kernel)
set_option maxRecDepth 20000 in
theorem gX5_cutUnit_X0_plain : GoodIn wsX5_cutUnit (va_wsS RX5 84 yX0_plain wsX0_plain) := goodIn_app (goodIn_of _ (by decide +kernel)) ggX5_cutUnit_X0_plain
set_option maxRecDepth 20000 in
theorem ggX5_cutUnit_X5_cutAnew : GoodIn wsX5_cutUnit wsX5_cutAnew := goodIn_r _ [25, 1, 2, 18, 19, 5, 20, 3, 4, 6, 26, 27, 28, 29, 30, 31, 32, 33, 34, 35, 36, 37, 38, 39, 40, 24, 41, 42, 43, 44, 45, 46, 47, 48, 49, 50, 51, 52, 53, 54, 55, 56, 57, 58, 59, 60, 61, 62, 63, 64, 65, 66, 67, 68, 69, 70, 71, 72, 73, 74] (by decide +kernel) (by decide +kernel)
set_option maxRecDepth 20000 in
theorem gX5_cutUnit_X5_cutAnew : GoodIn wsX5_cutUnit (wsV RX5 120 RX5 yX5_cutAnew wsX5_cutAnew) := goodIn_app (goodIn_of _ (by decide +kernel)) ggX5_cutUnit_X5_cutAnew
theorem dX5_cutUnit_0 : decode cX5_cutUnit 0 = .ok (.iload_n 3, 1) := by decide +kernel
theorem dX5_cutUnit_1 : decode cX5_cutUnit 1 = .ok (.aload_n 0, 1) := by decide +kernel
theorem dX5_cutUnit_2 : decode cX5_cutUnit 2 = .ok (.getfield 12, 3) := by decide +kernel
theorem dX5_cutUnit_5 : decode cX5_cutUnit 5 = .ok (.getfield 67, 3) := by decide +kernel
theorem dX5_cutUnit_8 : decode cX5_cutUnit 8 = .ok (.iload_n 2, 1) := by decide +kernel
theorem dX5_cutUnit_9 : decode cX5_cutUnit 9 = .ok (.iaload, 1) := by decide +kernel
theorem dX5_cutUnit_10 : decode cX5_cutUnit 10 = .ok (.invokestatic 117, 3) := by decide +kernel
theorem dX5_cutUnit_13 : decode cX5_cutUnit 13 = .ok (.ifCond .ne 5, 3) := by decide +kernel
theorem dX5_cutUnit_16 : decode cX5_cutUnit 16 = .ok (.iload_n 2, 1) := by decide +kernel
theorem dX5_cutUnit_17 : decode cX5_cutUnit 17 = .ok (.ireturn, 1) := by decide +kernel
theorem dX5_cutUnit_18 : decode cX5_cutUnit 18 = .ok (.iload_n 3, 1) := by decide +kernel
theorem dX5_cutUnit_19 : decode cX5_cutUnit 19 = .ok (.invokestatic 141, 3) := by decide +kernel
theorem dX5_cutUnit_22 : decode cX5_cutUnit 22 = .ok (.aload_n 0, 1) := by decide +kernel
theorem dX5_cutUnit_23 : decode cX5_cutUnit 23 = .ok (.getfield 12, 3) := by decide +kernel
theorem dX5_cutUnit_26 : decode cX5_cutUnit 26 = .ok (.getfield 67, 3) := by decide +kernel
theorem dX5_cutUnit_29 : decode cX5_cutUnit 29 = .ok (.iload_n 1, 1) := by decide +kernel
theorem dX5_cutUnit_30 : decode cX5_cutUnit 30 = .ok (.iaload, 1) := by decide +kernel
theorem dX5_cutUnit_31 : decode cX5_cutUnit 31 = .ok (.invokestatic 117, 3) := by decide +kernel
theorem dX5_cutUnit_34 : decode cX5_cutUnit 34 = .ok (.ifCond .ne 5, 3) := by decide +kernel
theorem dX5_cutUnit_37 : decode cX5_cutUnit 37 = .ok (.iload_n 1, 1) := by decide +kernel
theorem dX5_cutUnit_38 : decode cX5_cutUnit 38 = .ok (.ireturn, 1) := by decide +kernel
theorem dX5_cutUnit_39 : decode cX5_cutUnit 39 = .ok (.iload_n 3, 1) := by decide +kernel
theorem dX5_cutUnit_40 : decode cX5_cutUnit 40 = .ok (.invokestatic 144, 3) := by decide +kernel
theorem dX5_cutUnit_43 : decode cX5_cutUnit 43 = .ok (.invokestatic 147, 3) := by decide +kernel
theorem dX5_cutUnit_46 : decode cX5_cutUnit 46 = .ok (.istore 4, 2) := by decide +kernel
theorem dX5_cutUnit_48 : decode cX5_cutUnit 48 = .ok (.iload_n 3, 1) := by decide +kernel
theorem dX5_cutUnit_49 : decode cX5_cutUnit 49 = .ok (.iload 4, 2) := by decide +kernel
theorem dX5_cutUnit_51 : decode cX5_cutUnit 51 = .ok (.invokestatic 84, 3) := by decide +kernel
theorem dX5_cutUnit_54 : decode cX5_cutUnit 54 = .ok (.if_icmp .ne 7, 3) := by decide +kernel
theorem dX5_cutUnit_57 : decode cX5_cutUnit 57 = .ok (.iconst 1, 1) := by decide +kernel
theorem dX5_cutUnit_58 : decode cX5_cutUnit 58 = .ok (.goto 4, 3) := by decide +kernel
theorem dX5_cutUnit_61 : decode cX5_cutUnit 61 = .ok (.iconst 0, 1) := by decide +kernel
theorem dX5_cutUnit_62 : decode cX5_cutUnit 62 = .ok (.istore 5, 2) := by decide +kernel
theorem dX5_cutUnit_64 : decode cX5_cutUnit 64 = .ok (.aload_n 0, 1) := by decide +kernel
theorem dX5_cutUnit_65 : decode cX5_cutUnit 65 = .ok (.iload 5, 2) := by decide +kernel
theorem dX5_cutUnit_67 : decode cX5_cutUnit 67 = .ok (.ifCond .eq 7, 3) := by decide +kernel
theorem dX5_cutUnit_70 : decode cX5_cutUnit 70 = .ok (.iload_n 2, 1) := by decide +kernel
theorem dX5_cutUnit_71 : decode cX5_cutUnit 71 = .ok (.goto 4, 3) := by decide +kernel
theorem dX5_cutUnit_74 : decode cX5_cutUnit 74 = .ok (.iload_n 1, 1) := by decide +kernel
theorem dX5_cutUnit_75 : decode cX5_cutUnit 75 = .ok (.iload 5, 2) := by decide +kernel
theorem dX5_cutUnit_77 : decode cX5_cutUnit 77 = .ok (.ifCond .eq 7, 3) := by decide +kernel
theorem dX5_cutUnit_80 : decode cX5_cutUnit 80 = .ok (.iload_n 1, 1) := by decide +kernel
theorem dX5_cutUnit_81 : decode cX5_cutUnit 81 = .ok (.goto 4, 3) := by decide +kernel
theorem dX5_cutUnit_84 : decode cX5_cutUnit 84 = .ok (.iload_n 2, 1) := by decide +kernel
theorem dX5_cutUnit_85 : decode cX5_cutUnit 85 = .ok (.iload 4, 2) := by decide +kernel
theorem dX5_cutUnit_87 : decode cX5_cutUnit 87 = .ok (.iconst 4, 1) := by decide +kernel
theorem dX5_cutUnit_88 : decode cX5_cutUnit 88 = .ok (.invokevirtual 120, 3) := by decide +kernel
