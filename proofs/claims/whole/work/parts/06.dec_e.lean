theorem dX9_units_0 : decode cX9_units 0 = .ok (.aload_n 0, 1) := by decide +kernel
theorem dX9_units_1 : decode cX9_units 1 = .ok (.iload_n 1, 1) := by decide +kernel
theorem dX9_units_2 : decode cX9_units 2 = .ok (.invokevirtual 123, 3) := by decide +kernel
theorem dX9_units_5 : decode cX9_units 5 = .ok (.ifCond .ne 5, 3) := by decide +kernel
theorem dX9_units_8 : decode cX9_units 8 = .ok (.iconst (-1), 1) := by decide +kernel
theorem dX9_units_9 : decode cX9_units 9 = .ok (.ireturn, 1) := by decide +kernel
theorem dX9_units_10 : decode cX9_units 10 = .ok (.iload_n 2, 1) := by decide +kernel
theorem dX9_units_11 : decode cX9_units 11 = .ok (.invokestatic 225, 3) := by decide +kernel
theorem dX9_units_14 : decode cX9_units 14 = .ok (.ifCond .ne 6, 3) := by decide +kernel
theorem dX9_units_17 : decode cX9_units 17 = .ok (.bipush (-2), 2) := by decide +kernel
theorem dX9_units_19 : decode cX9_units 19 = .ok (.ireturn, 1) := by decide +kernel
theorem dX9_units_20 : decode cX9_units 20 = .ok (.aload_n 0, 1) := by decide +kernel
theorem dX9_units_21 : decode cX9_units 21 = .ok (.getfield 13, 3) := by decide +kernel
theorem dX9_units_24 : decode cX9_units 24 = .ok (.iload_n 1, 1) := by decide +kernel
theorem dX9_units_25 : decode cX9_units 25 = .ok (.aaload, 1) := by decide +kernel
theorem dX9_units_26 : decode cX9_units 26 = .ok (.iload_n 2, 1) := by decide +kernel
theorem dX9_units_27 : decode cX9_units 27 = .ok (.invokestatic 238, 3) := by decide +kernel
theorem dX9_units_30 : decode cX9_units 30 = .ok (.ifCond .eq 7, 3) := by decide +kernel
theorem dX9_units_33 : decode cX9_units 33 = .ok (.iconst 1, 1) := by decide +kernel
theorem dX9_units_34 : decode cX9_units 34 = .ok (.goto 4, 3) := by decide +kernel
theorem dX9_units_37 : decode cX9_units 37 = .ok (.iconst 0, 1) := by decide +kernel
theorem dX9_units_38 : decode cX9_units 38 = .ok (.ireturn, 1) := by decide +kernel
set_option maxRecDepth 20000 in
theorem ggX9_follows_X9_isProof : GoodIn wsX9_follows wsX9_isProof := goodIn_r _ [7, 8, 37, 38, 39, 40, 41, 42, 43, 44, 45, 46, 47] (by decide +kernel) (by decide +kernel)
set_option maxRecDepth 20000 in
theorem gX9_follows_X9_isProof : GoodIn wsX9_follows (wsV RX9 123 RX9 yX9_isProof wsX9_isProof) := goodIn_app (goodIn_of _ (by decide +kernel)) ggX9_follows_X9_isProof
set_option maxRecDepth 20000 in
theorem ggX9_follows_X0_isClause : GoodIn wsX9_follows wsX0_isClause := goodIn_r _ [12] (by decide +kernel) (by decide +kernel)
set_option maxRecDepth 20000 in
theorem gX9_follows_X0_isClause : GoodIn wsX9_follows (va_wsS RX9 225 yX0_isClause wsX0_isClause) := goodIn_app (goodIn_of _ (by decide +kernel)) ggX9_follows_X0_isClause
set_option maxRecDepth 20000 in
theorem ggX9_follows_X8_allOf : GoodIn wsX9_follows wsX8_allOf := goodIn_r _ [16, 17, 18, 19, 20, 21, 6, 22, 23, 24, 11, 25, 26, 27, 28, 29, 30, 31, 32, 33, 34, 35, 48, 49, 50, 51, 52, 53, 54] (by decide +kernel) (by decide +kernel)
set_option maxRecDepth 20000 in
theorem gX9_follows_X8_allOf : GoodIn wsX9_follows (va_wsS RX9 222 yX8_allOf wsX8_allOf) := goodIn_app (goodIn_of _ (by decide +kernel)) ggX9_follows_X8_allOf
set_option maxRecDepth 20000 in
theorem ggX9_follows_X0_tableOf : GoodIn wsX9_follows wsX0_tableOf := goodIn_r _ [25, 26, 27, 28, 11, 29, 30, 31, 32, 33, 34, 35] (by decide +kernel) (by decide +kernel)
set_option maxRecDepth 20000 in
theorem gX9_follows_X0_tableOf : GoodIn wsX9_follows (va_wsS RX9 241 yX0_tableOf wsX0_tableOf) := goodIn_app (goodIn_of _ (by decide +kernel)) ggX9_follows_X0_tableOf
theorem dX9_follows_0 : decode cX9_follows 0 = .ok (.aload_n 0, 1) := by decide +kernel
theorem dX9_follows_1 : decode cX9_follows 1 = .ok (.iload_n 1, 1) := by decide +kernel
theorem dX9_follows_2 : decode cX9_follows 2 = .ok (.invokevirtual 123, 3) := by decide +kernel
theorem dX9_follows_5 : decode cX9_follows 5 = .ok (.ifCond .ne 5, 3) := by decide +kernel
theorem dX9_follows_8 : decode cX9_follows 8 = .ok (.iconst (-1), 1) := by decide +kernel
theorem dX9_follows_9 : decode cX9_follows 9 = .ok (.ireturn, 1) := by decide +kernel
theorem dX9_follows_10 : decode cX9_follows 10 = .ok (.iload_n 2, 1) := by decide +kernel
theorem dX9_follows_11 : decode cX9_follows 11 = .ok (.invokestatic 225, 3) := by decide +kernel
theorem dX9_follows_14 : decode cX9_follows 14 = .ok (.ifCond .ne 6, 3) := by decide +kernel
theorem dX9_follows_17 : decode cX9_follows 17 = .ok (.bipush (-2), 2) := by decide +kernel
theorem dX9_follows_19 : decode cX9_follows 19 = .ok (.ireturn, 1) := by decide +kernel
theorem dX9_follows_20 : decode cX9_follows 20 = .ok (.aload_n 0, 1) := by decide +kernel
theorem dX9_follows_21 : decode cX9_follows 21 = .ok (.getfield 13, 3) := by decide +kernel
theorem dX9_follows_24 : decode cX9_follows 24 = .ok (.iload_n 1, 1) := by decide +kernel
theorem dX9_follows_25 : decode cX9_follows 25 = .ok (.aaload, 1) := by decide +kernel
theorem dX9_follows_26 : decode cX9_follows 26 = .ok (.iconst (-1), 1) := by decide +kernel
theorem dX9_follows_27 : decode cX9_follows 27 = .ok (.invokestatic 222, 3) := by decide +kernel
theorem dX9_follows_30 : decode cX9_follows 30 = .ok (.lstore_n 3, 1) := by decide +kernel
theorem dX9_follows_31 : decode cX9_follows 31 = .ok (.lload_n 3, 1) := by decide +kernel
theorem dX9_follows_32 : decode cX9_follows 32 = .ok (.iload_n 2, 1) := by decide +kernel
theorem dX9_follows_33 : decode cX9_follows 33 = .ok (.invokestatic 241, 3) := by decide +kernel
theorem dX9_follows_36 : decode cX9_follows 36 = .ok (.ldc2_w 245, 3) := by decide +kernel
theorem dX9_follows_39 : decode cX9_follows 39 = .ok (.lxor, 1) := by decide +kernel
theorem dX9_follows_40 : decode cX9_follows 40 = .ok (.land, 1) := by decide +kernel
theorem dX9_follows_41 : decode cX9_follows 41 = .ok (.lconst 0, 1) := by decide +kernel
theorem dX9_follows_42 : decode cX9_follows 42 = .ok (.lcmp, 1) := by decide +kernel
theorem dX9_follows_43 : decode cX9_follows 43 = .ok (.ifCond .ne 7, 3) := by decide +kernel
theorem dX9_follows_46 : decode cX9_follows 46 = .ok (.iconst 1, 1) := by decide +kernel
theorem dX9_follows_47 : decode cX9_follows 47 = .ok (.goto 4, 3) := by decide +kernel
theorem dX9_follows_50 : decode cX9_follows 50 = .ok (.iconst 0, 1) := by decide +kernel
theorem dX9_follows_51 : decode cX9_follows 51 = .ok (.ireturn, 1) := by decide +kernel
set_option maxRecDepth 20000 in
theorem ggX9_cut_X0_isClause : GoodIn wsX9_cut wsX0_isClause := goodIn_r _ [4] (by decide +kernel) (by decide +kernel)
set_option maxRecDepth 20000 in
theorem gX9_cut_X0_isClause : GoodIn wsX9_cut (va_wsS RX9 225 yX0_isClause wsX0_isClause) := goodIn_app (goodIn_of _ (by decide +kernel)) ggX9_cut_X0_isClause
set_option maxRecDepth 20000 in
theorem ggX9_cut_X0_cutOf : GoodIn wsX9_cut wsX0_cutOf := goodIn_r _ [7, 8, 9, 3, 10, 11, 12, 13, 14, 15, 16, 17, 2, 4] (by decide +kernel) (by decide +kernel)
set_option maxRecDepth 20000 in
theorem gX9_cut_X0_cutOf : GoodIn wsX9_cut (va_wsS RX9 247 yX0_cutOf wsX0_cutOf) := goodIn_app (goodIn_of _ (by decide +kernel)) ggX9_cut_X0_cutOf
theorem dX9_cut_0 : decode cX9_cut 0 = .ok (.iload_n 1, 1) := by decide +kernel
theorem dX9_cut_1 : decode cX9_cut 1 = .ok (.invokestatic 225, 3) := by decide +kernel
theorem dX9_cut_4 : decode cX9_cut 4 = .ok (.ifCond .eq 20, 3) := by decide +kernel
theorem dX9_cut_7 : decode cX9_cut 7 = .ok (.iload_n 2, 1) := by decide +kernel
theorem dX9_cut_8 : decode cX9_cut 8 = .ok (.invokestatic 225, 3) := by decide +kernel
theorem dX9_cut_11 : decode cX9_cut 11 = .ok (.ifCond .eq 13, 3) := by decide +kernel
theorem dX9_cut_14 : decode cX9_cut 14 = .ok (.iload_n 3, 1) := by decide +kernel
theorem dX9_cut_15 : decode cX9_cut 15 = .ok (.ifCond .lt 9, 3) := by decide +kernel
theorem dX9_cut_18 : decode cX9_cut 18 = .ok (.iload_n 3, 1) := by decide +kernel
theorem dX9_cut_19 : decode cX9_cut 19 = .ok (.bipush 6, 2) := by decide +kernel
theorem dX9_cut_21 : decode cX9_cut 21 = .ok (.if_icmp .lt 6, 3) := by decide +kernel
theorem dX9_cut_24 : decode cX9_cut 24 = .ok (.bipush (-2), 2) := by decide +kernel
theorem dX9_cut_26 : decode cX9_cut 26 = .ok (.ireturn, 1) := by decide +kernel
theorem dX9_cut_27 : decode cX9_cut 27 = .ok (.iload_n 1, 1) := by decide +kernel
theorem dX9_cut_28 : decode cX9_cut 28 = .ok (.iload_n 2, 1) := by decide +kernel
theorem dX9_cut_29 : decode cX9_cut 29 = .ok (.iload_n 3, 1) := by decide +kernel
theorem dX9_cut_30 : decode cX9_cut 30 = .ok (.invokestatic 247, 3) := by decide +kernel
theorem dX9_cut_33 : decode cX9_cut 33 = .ok (.ireturn, 1) := by decide +kernel
set_option maxRecDepth 20000 in
theorem ggX9_stronger_X0_isClause : GoodIn wsX9_stronger wsX0_isClause := goodIn_r _ [4] (by decide +kernel) (by decide +kernel)
set_option maxRecDepth 20000 in
theorem gX9_stronger_X0_isClause : GoodIn wsX9_stronger (va_wsS RX9 225 yX0_isClause wsX0_isClause) := goodIn_app (goodIn_of _ (by decide +kernel)) ggX9_stronger_X0_isClause
set_option maxRecDepth 20000 in
theorem ggX9_stronger_X0_isPart : GoodIn wsX9_stronger wsX0_isPart := goodIn_r _ [7] (by decide +kernel) (by decide +kernel)
set_option maxRecDepth 20000 in
theorem gX9_stronger_X0_isPart : GoodIn wsX9_stronger (va_wsS RX9 251 yX0_isPart wsX0_isPart) := goodIn_app (goodIn_of _ (by decide +kernel)) ggX9_stronger_X0_isPart
theorem dX9_stronger_0 : decode cX9_stronger 0 = .ok (.iload_n 1, 1) := by decide +kernel
theorem dX9_stronger_1 : decode cX9_stronger 1 = .ok (.invokestatic 225, 3) := by decide +kernel
theorem dX9_stronger_4 : decode cX9_stronger 4 = .ok (.ifCond .eq 10, 3) := by decide +kernel
theorem dX9_stronger_7 : decode cX9_stronger 7 = .ok (.iload_n 2, 1) := by decide +kernel
theorem dX9_stronger_8 : decode cX9_stronger 8 = .ok (.invokestatic 225, 3) := by decide +kernel
theorem dX9_stronger_11 : decode cX9_stronger 11 = .ok (.ifCond .ne 6, 3) := by decide +kernel
theorem dX9_stronger_14 : decode cX9_stronger 14 = .ok (.bipush (-2), 2) := by decide +kernel
theorem dX9_stronger_16 : decode cX9_stronger 16 = .ok (.ireturn, 1) := by decide +kernel
theorem dX9_stronger_17 : decode cX9_stronger 17 = .ok (.iload_n 1, 1) := by decide +kernel
theorem dX9_stronger_18 : decode cX9_stronger 18 = .ok (.iload_n 2, 1) := by decide +kernel
theorem dX9_stronger_19 : decode cX9_stronger 19 = .ok (.invokestatic 251, 3) := by decide +kernel
theorem dX9_stronger_22 : decode cX9_stronger 22 = .ok (.ifCond .eq 7, 3) := by decide +kernel
theorem dX9_stronger_25 : decode cX9_stronger 25 = .ok (.iconst 1, 1) := by decide +kernel
theorem dX9_stronger_26 : decode cX9_stronger 26 = .ok (.goto 4, 3) := by decide +kernel
theorem dX9_stronger_29 : decode cX9_stronger 29 = .ok (.iconst 0, 1) := by decide +kernel
theorem dX9_stronger_30 : decode cX9_stronger 30 = .ok (.ireturn, 1) := by decide +kernel
set_option maxRecDepth 20000 in
theorem ggX9_sheet_X9_isSheet : GoodIn wsX9_sheet wsX9_isSheet := goodIn_r _ [5] (by decide +kernel) (by decide +kernel)
set_option maxRecDepth 20000 in
theorem gX9_sheet_X9_isSheet : GoodIn wsX9_sheet (va_wsS RX9 64 yX9_isSheet wsX9_isSheet) := goodIn_app (goodIn_of _ (by decide +kernel)) ggX9_sheet_X9_isSheet
set_option maxRecDepth 20000 in
theorem ggX9_sheet_X9_unfaulted : GoodIn wsX9_sheet wsX9_unfaulted := goodIn_r _ [9, 10, 26, 27, 28, 29, 30, 31, 32, 33, 34, 35, 36] (by decide +kernel) (by decide +kernel)
set_option maxRecDepth 20000 in
theorem gX9_sheet_X9_unfaulted : GoodIn wsX9_sheet (wsV RX9 68 RX9 yX9_unfaulted wsX9_unfaulted) := goodIn_app (goodIn_of _ (by decide +kernel)) ggX9_sheet_X9_unfaulted
set_option maxRecDepth 20000 in
theorem ggX9_sheet_X9_isLane : GoodIn wsX9_sheet wsX9_isLane := goodIn_r _ [13] (by decide +kernel) (by decide +kernel)
set_option maxRecDepth 20000 in
theorem gX9_sheet_X9_isLane : GoodIn wsX9_sheet (va_wsS RX9 72 yX9_isLane wsX9_isLane) := goodIn_app (goodIn_of _ (by decide +kernel)) ggX9_sheet_X9_isLane
set_option maxRecDepth 20000 in
theorem ggX9_sheet_X9_faulted : GoodIn wsX9_sheet wsX9_faulted := goodIn_r _ [17, 10, 26, 27, 28, 29, 30, 31, 32, 33, 34, 35, 36] (by decide +kernel) (by decide +kernel)
set_option maxRecDepth 20000 in
theorem gX9_sheet_X9_faulted : GoodIn wsX9_sheet (wsV RX9 82 RX9 yX9_faulted wsX9_faulted) := goodIn_app (goodIn_of _ (by decide +kernel)) ggX9_sheet_X9_faulted
set_option maxRecDepth 20000 in
theorem ggX9_sheet_X4_begin : GoodIn wsX9_sheet wsX4_begin := goodIn_r _ [22, 23, 24, 25, 37, 38, 39] (by decide +kernel) (by decide +kernel)
set_option maxRecDepth 20000 in
theorem gX9_sheet_X4_begin : GoodIn wsX9_sheet (wsV RX9 254 RX4 yX4_begin wsX4_begin) := goodIn_app (goodIn_of _ (by decide +kernel)) ggX9_sheet_X4_begin
theorem dX9_sheet_0 : decode cX9_sheet 0 = .ok (.iload_n 1, 1) := by decide +kernel
theorem dX9_sheet_1 : decode cX9_sheet 1 = .ok (.invokestatic 64, 3) := by decide +kernel
theorem dX9_sheet_4 : decode cX9_sheet 4 = .ok (.ifCond .ne 9, 3) := by decide +kernel
theorem dX9_sheet_7 : decode cX9_sheet 7 = .ok (.aload_n 0, 1) := by decide +kernel
theorem dX9_sheet_8 : decode cX9_sheet 8 = .ok (.iconst (-1), 1) := by decide +kernel
theorem dX9_sheet_9 : decode cX9_sheet 9 = .ok (.invokevirtual 68, 3) := by decide +kernel
theorem dX9_sheet_12 : decode cX9_sheet 12 = .ok (.ireturn, 1) := by decide +kernel
theorem dX9_sheet_13 : decode cX9_sheet 13 = .ok (.iload_n 2, 1) := by decide +kernel
theorem dX9_sheet_14 : decode cX9_sheet 14 = .ok (.invokestatic 72, 3) := by decide +kernel
theorem dX9_sheet_17 : decode cX9_sheet 17 = .ok (.ifCond .eq 9, 3) := by decide +kernel
theorem dX9_sheet_20 : decode cX9_sheet 20 = .ok (.iload_n 3, 1) := by decide +kernel
theorem dX9_sheet_21 : decode cX9_sheet 21 = .ok (.bipush 60, 2) := by decide +kernel
theorem dX9_sheet_23 : decode cX9_sheet 23 = .ok (.if_icmp .le 10, 3) := by decide +kernel
theorem dX9_sheet_26 : decode cX9_sheet 26 = .ok (.aload_n 0, 1) := by decide +kernel
theorem dX9_sheet_27 : decode cX9_sheet 27 = .ok (.bipush (-2), 2) := by decide +kernel
theorem dX9_sheet_29 : decode cX9_sheet 29 = .ok (.invokevirtual 68, 3) := by decide +kernel
theorem dX9_sheet_32 : decode cX9_sheet 32 = .ok (.ireturn, 1) := by decide +kernel
theorem dX9_sheet_33 : decode cX9_sheet 33 = .ok (.iload_n 3, 1) := by decide +kernel
theorem dX9_sheet_34 : decode cX9_sheet 34 = .ok (.ifCond .ge 9, 3) := by decide +kernel
theorem dX9_sheet_37 : decode cX9_sheet 37 = .ok (.aload_n 0, 1) := by decide +kernel
theorem dX9_sheet_38 : decode cX9_sheet 38 = .ok (.iconst 4, 1) := by decide +kernel
theorem dX9_sheet_39 : decode cX9_sheet 39 = .ok (.invokevirtual 82, 3) := by decide +kernel
theorem dX9_sheet_42 : decode cX9_sheet 42 = .ok (.ireturn, 1) := by decide +kernel
theorem dX9_sheet_43 : decode cX9_sheet 43 = .ok (.aload_n 0, 1) := by decide +kernel
theorem dX9_sheet_44 : decode cX9_sheet 44 = .ok (.getfield 20, 3) := by decide +kernel
theorem dX9_sheet_47 : decode cX9_sheet 47 = .ok (.iload_n 1, 1) := by decide +kernel
theorem dX9_sheet_48 : decode cX9_sheet 48 = .ok (.aaload, 1) := by decide +kernel
theorem dX9_sheet_49 : decode cX9_sheet 49 = .ok (.iload_n 2, 1) := by decide +kernel
theorem dX9_sheet_50 : decode cX9_sheet 50 = .ok (.iload_n 3, 1) := by decide +kernel
theorem dX9_sheet_51 : decode cX9_sheet 51 = .ok (.invokevirtual 254, 3) := by decide +kernel
theorem dX9_sheet_54 : decode cX9_sheet 54 = .ok (.aload_n 0, 1) := by decide +kernel
theorem dX9_sheet_55 : decode cX9_sheet 55 = .ok (.iconst 1, 1) := by decide +kernel
theorem dX9_sheet_56 : decode cX9_sheet 56 = .ok (.invokevirtual 68, 3) := by decide +kernel
theorem dX9_sheet_59 : decode cX9_sheet 59 = .ok (.ireturn, 1) := by decide +kernel
set_option maxRecDepth 20000 in
theorem ggX9_lose_X9_isSheet : GoodIn wsX9_lose wsX9_isSheet := goodIn_r _ [6] (by decide +kernel) (by decide +kernel)
set_option maxRecDepth 20000 in
theorem gX9_lose_X9_isSheet : GoodIn wsX9_lose (va_wsS RX9 64 yX9_isSheet wsX9_isSheet) := goodIn_app (goodIn_of _ (by decide +kernel)) ggX9_lose_X9_isSheet
set_option maxRecDepth 20000 in
theorem ggX9_lose_X4_isNothing : GoodIn wsX9_lose wsX4_isNothing := goodIn_r _ [11, 12, 24, 25, 26] (by decide +kernel) (by decide +kernel)
set_option maxRecDepth 20000 in
theorem gX9_lose_X4_isNothing : GoodIn wsX9_lose (wsV RX9 258 RX4 yX4_isNothing wsX4_isNothing) := goodIn_app (goodIn_of _ (by decide +kernel)) ggX9_lose_X4_isNothing
theorem dX9_lose_0 : decode cX9_lose 0 = .ok (.iload_n 1, 1) := by decide +kernel
theorem dX9_lose_1 : decode cX9_lose 1 = .ok (.invokestatic 64, 3) := by decide +kernel
theorem dX9_lose_4 : decode cX9_lose 4 = .ok (.ifCond .ne 5, 3) := by decide +kernel
theorem dX9_lose_7 : decode cX9_lose 7 = .ok (.iconst (-1), 1) := by decide +kernel
theorem dX9_lose_8 : decode cX9_lose 8 = .ok (.ireturn, 1) := by decide +kernel
theorem dX9_lose_9 : decode cX9_lose 9 = .ok (.aload_n 0, 1) := by decide +kernel
theorem dX9_lose_10 : decode cX9_lose 10 = .ok (.getfield 20, 3) := by decide +kernel
theorem dX9_lose_13 : decode cX9_lose 13 = .ok (.iload_n 1, 1) := by decide +kernel
theorem dX9_lose_14 : decode cX9_lose 14 = .ok (.aaload, 1) := by decide +kernel
theorem dX9_lose_15 : decode cX9_lose 15 = .ok (.invokevirtual 258, 3) := by decide +kernel
theorem dX9_lose_18 : decode cX9_lose 18 = .ok (.ifCond .eq 5, 3) := by decide +kernel
theorem dX9_lose_21 : decode cX9_lose 21 = .ok (.iconst 0, 1) := by decide +kernel
theorem dX9_lose_22 : decode cX9_lose 22 = .ok (.ireturn, 1) := by decide +kernel
theorem dX9_lose_23 : decode cX9_lose 23 = .ok (.aload_n 0, 1) := by decide +kernel
theorem dX9_lose_24 : decode cX9_lose 24 = .ok (.getfield 20, 3) := by decide +kernel
theorem dX9_lose_27 : decode cX9_lose 27 = .ok (.iload_n 1, 1) := by decide +kernel
theorem dX9_lose_28 : decode cX9_lose 28 = .ok (.aaload, 1) := by decide +kernel
theorem dX9_lose_29 : decode cX9_lose 29 = .ok (.iconst (-1), 1) := by decide +kernel
theorem dX9_lose_30 : decode cX9_lose 30 = .ok (.putfield 261, 3) := by decide +kernel
theorem dX9_lose_33 : decode cX9_lose 33 = .ok (.iconst 1, 1) := by decide +kernel
theorem dX9_lose_34 : decode cX9_lose 34 = .ok (.ireturn, 1) := by decide +kernel
set_option maxRecDepth 20000 in
theorem ggX9_put_X9_isSheet : GoodIn wsX9_put wsX9_isSheet := goodIn_r _ [5] (by decide +kernel) (by decide +kernel)
set_option maxRecDepth 20000 in
theorem gX9_put_X9_isSheet : GoodIn wsX9_put (va_wsS RX9 64 yX9_isSheet wsX9_isSheet) := goodIn_app (goodIn_of _ (by decide +kernel)) ggX9_put_X9_isSheet
set_option maxRecDepth 20000 in
theorem ggX9_put_X9_unfaulted : GoodIn wsX9_put wsX9_unfaulted := goodIn_r _ [9, 10, 31, 32, 33, 34, 35, 36, 37, 38, 39, 40, 41] (by decide +kernel) (by decide +kernel)
set_option maxRecDepth 20000 in
theorem gX9_put_X9_unfaulted : GoodIn wsX9_put (wsV RX9 68 RX9 yX9_unfaulted wsX9_unfaulted) := goodIn_app (goodIn_of _ (by decide +kernel)) ggX9_put_X9_unfaulted
set_option maxRecDepth 20000 in
theorem ggX9_put_X4_isNothing : GoodIn wsX9_put wsX4_isNothing := goodIn_r _ [15, 16, 42, 43, 44] (by decide +kernel) (by decide +kernel)
set_option maxRecDepth 20000 in
theorem gX9_put_X4_isNothing : GoodIn wsX9_put (wsV RX9 258 RX4 yX4_isNothing wsX4_isNothing) := goodIn_app (goodIn_of _ (by decide +kernel)) ggX9_put_X4_isNothing
set_option maxRecDepth 20000 in
theorem ggX9_put_X9_faulted : GoodIn wsX9_put wsX9_faulted := goodIn_r _ [20, 10, 31, 32, 33, 34, 35, 36, 37, 38, 39, 40, 41] (by decide +kernel) (by decide +kernel)
set_option maxRecDepth 20000 in
theorem gX9_put_X9_faulted : GoodIn wsX9_put (wsV RX9 82 RX9 yX9_faulted wsX9_faulted) := goodIn_app (goodIn_of _ (by decide +kernel)) ggX9_put_X9_faulted
set_option maxRecDepth 20000 in
theorem ggX9_put_X4_hasCell : GoodIn wsX9_put wsX4_hasCell := goodIn_r _ [24, 25, 42, 43, 44] (by decide +kernel) (by decide +kernel)
set_option maxRecDepth 20000 in
theorem gX9_put_X4_hasCell : GoodIn wsX9_put (wsV RX9 264 RX4 yX4_hasCell wsX4_hasCell) := goodIn_app (goodIn_of _ (by decide +kernel)) ggX9_put_X4_hasCell
set_option maxRecDepth 20000 in
theorem ggX9_put_X4_write : GoodIn wsX9_put wsX4_write := goodIn_r _ [29, 16, 30, 42, 43, 44] (by decide +kernel) (by decide +kernel)
set_option maxRecDepth 20000 in
theorem gX9_put_X4_write : GoodIn wsX9_put (wsV RX9 267 RX4 yX4_write wsX4_write) := goodIn_app (goodIn_of _ (by decide +kernel)) ggX9_put_X4_write
theorem dX9_put_0 : decode cX9_put 0 = .ok (.iload_n 1, 1) := by decide +kernel
theorem dX9_put_1 : decode cX9_put 1 = .ok (.invokestatic 64, 3) := by decide +kernel
theorem dX9_put_4 : decode cX9_put 4 = .ok (.ifCond .ne 9, 3) := by decide +kernel
theorem dX9_put_7 : decode cX9_put 7 = .ok (.aload_n 0, 1) := by decide +kernel
theorem dX9_put_8 : decode cX9_put 8 = .ok (.iconst (-1), 1) := by decide +kernel
theorem dX9_put_9 : decode cX9_put 9 = .ok (.invokevirtual 68, 3) := by decide +kernel
theorem dX9_put_12 : decode cX9_put 12 = .ok (.ireturn, 1) := by decide +kernel
theorem dX9_put_13 : decode cX9_put 13 = .ok (.aload_n 0, 1) := by decide +kernel
theorem dX9_put_14 : decode cX9_put 14 = .ok (.getfield 20, 3) := by decide +kernel
theorem dX9_put_17 : decode cX9_put 17 = .ok (.iload_n 1, 1) := by decide +kernel
theorem dX9_put_18 : decode cX9_put 18 = .ok (.aaload, 1) := by decide +kernel
theorem dX9_put_19 : decode cX9_put 19 = .ok (.astore 4, 2) := by decide +kernel
theorem dX9_put_21 : decode cX9_put 21 = .ok (.aload 4, 2) := by decide +kernel
theorem dX9_put_23 : decode cX9_put 23 = .ok (.invokevirtual 258, 3) := by decide +kernel
theorem dX9_put_26 : decode cX9_put 26 = .ok (.ifCond .eq 9, 3) := by decide +kernel
theorem dX9_put_29 : decode cX9_put 29 = .ok (.aload_n 0, 1) := by decide +kernel
theorem dX9_put_30 : decode cX9_put 30 = .ok (.iconst 1, 1) := by decide +kernel
theorem dX9_put_31 : decode cX9_put 31 = .ok (.invokevirtual 82, 3) := by decide +kernel
theorem dX9_put_34 : decode cX9_put 34 = .ok (.ireturn, 1) := by decide +kernel
theorem dX9_put_35 : decode cX9_put 35 = .ok (.aload 4, 2) := by decide +kernel
theorem dX9_put_37 : decode cX9_put 37 = .ok (.iload_n 2, 1) := by decide +kernel
theorem dX9_put_38 : decode cX9_put 38 = .ok (.invokevirtual 264, 3) := by decide +kernel
theorem dX9_put_41 : decode cX9_put 41 = .ok (.ifCond .ne 9, 3) := by decide +kernel
theorem dX9_put_44 : decode cX9_put 44 = .ok (.aload_n 0, 1) := by decide +kernel
theorem dX9_put_45 : decode cX9_put 45 = .ok (.iconst 3, 1) := by decide +kernel
theorem dX9_put_46 : decode cX9_put 46 = .ok (.invokevirtual 82, 3) := by decide +kernel
theorem dX9_put_49 : decode cX9_put 49 = .ok (.ireturn, 1) := by decide +kernel
theorem dX9_put_50 : decode cX9_put 50 = .ok (.aload 4, 2) := by decide +kernel
theorem dX9_put_52 : decode cX9_put 52 = .ok (.iload_n 2, 1) := by decide +kernel
theorem dX9_put_53 : decode cX9_put 53 = .ok (.iload_n 3, 1) := by decide +kernel
theorem dX9_put_54 : decode cX9_put 54 = .ok (.invokevirtual 267, 3) := by decide +kernel
theorem dX9_put_57 : decode cX9_put 57 = .ok (.aload_n 0, 1) := by decide +kernel
theorem dX9_put_58 : decode cX9_put 58 = .ok (.iconst 1, 1) := by decide +kernel
theorem dX9_put_59 : decode cX9_put 59 = .ok (.invokevirtual 68, 3) := by decide +kernel
theorem dX9_put_62 : decode cX9_put 62 = .ok (.ireturn, 1) := by decide +kernel
set_option maxRecDepth 20000 in
theorem ggX9_cell_X9_isSheet : GoodIn wsX9_cell wsX9_isSheet := goodIn_r _ [8] (by decide +kernel) (by decide +kernel)
set_option maxRecDepth 20000 in
theorem gX9_cell_X9_isSheet : GoodIn wsX9_cell (va_wsS RX9 64 yX9_isSheet wsX9_isSheet) := goodIn_app (goodIn_of _ (by decide +kernel)) ggX9_cell_X9_isSheet
set_option maxRecDepth 20000 in
theorem ggX9_cell_X9_isLane : GoodIn wsX9_cell wsX9_isLane := goodIn_r _ [11] (by decide +kernel) (by decide +kernel)
set_option maxRecDepth 20000 in
theorem gX9_cell_X9_isLane : GoodIn wsX9_cell (va_wsS RX9 72 yX9_isLane wsX9_isLane) := goodIn_app (goodIn_of _ (by decide +kernel)) ggX9_cell_X9_isLane
set_option maxRecDepth 20000 in
theorem ggX9_cell_X4_faultAs : GoodIn wsX9_cell wsX4_faultAs := goodIn_r _ [16, 17, 18, 19, 20, 15, 21, 38, 39, 40] (by decide +kernel) (by decide +kernel)
set_option maxRecDepth 20000 in
theorem gX9_cell_X4_faultAs : GoodIn wsX9_cell (wsV RX9 75 RX4 yX4_faultAs wsX4_faultAs) := goodIn_app (goodIn_of _ (by decide +kernel)) ggX9_cell_X4_faultAs
set_option maxRecDepth 20000 in
theorem ggX9_cell_X4_hasCell : GoodIn wsX9_cell wsX4_hasCell := goodIn_r _ [25, 26, 38, 39, 40] (by decide +kernel) (by decide +kernel)
set_option maxRecDepth 20000 in
theorem gX9_cell_X4_hasCell : GoodIn wsX9_cell (wsV RX9 264 RX4 yX4_hasCell wsX4_hasCell) := goodIn_app (goodIn_of _ (by decide +kernel)) ggX9_cell_X4_hasCell
theorem dX9_cell_0 : decode cX9_cell 0 = .ok (.iload_n 1, 1) := by decide +kernel
theorem dX9_cell_1 : decode cX9_cell 1 = .ok (.invokestatic 64, 3) := by decide +kernel
theorem dX9_cell_4 : decode cX9_cell 4 = .ok (.ifCond .eq 10, 3) := by decide +kernel
theorem dX9_cell_7 : decode cX9_cell 7 = .ok (.iload_n 3, 1) := by decide +kernel
theorem dX9_cell_8 : decode cX9_cell 8 = .ok (.invokestatic 72, 3) := by decide +kernel
theorem dX9_cell_11 : decode cX9_cell 11 = .ok (.ifCond .ne 12, 3) := by decide +kernel
theorem dX9_cell_14 : decode cX9_cell 14 = .ok (.aload_n 0, 1) := by decide +kernel
theorem dX9_cell_15 : decode cX9_cell 15 = .ok (.iconst 0, 1) := by decide +kernel
theorem dX9_cell_16 : decode cX9_cell 16 = .ok (.putfield 270, 3) := by decide +kernel
theorem dX9_cell_19 : decode cX9_cell 19 = .ok (.ldc2_w 212, 3) := by decide +kernel
theorem dX9_cell_22 : decode cX9_cell 22 = .ok (.lreturn, 1) := by decide +kernel
theorem dX9_cell_23 : decode cX9_cell 23 = .ok (.aload_n 0, 1) := by decide +kernel
theorem dX9_cell_24 : decode cX9_cell 24 = .ok (.getfield 20, 3) := by decide +kernel
theorem dX9_cell_27 : decode cX9_cell 27 = .ok (.iload_n 1, 1) := by decide +kernel
theorem dX9_cell_28 : decode cX9_cell 28 = .ok (.aaload, 1) := by decide +kernel
theorem dX9_cell_29 : decode cX9_cell 29 = .ok (.astore 4, 2) := by decide +kernel
theorem dX9_cell_31 : decode cX9_cell 31 = .ok (.aload 4, 2) := by decide +kernel
theorem dX9_cell_33 : decode cX9_cell 33 = .ok (.iload_n 3, 1) := by decide +kernel
theorem dX9_cell_34 : decode cX9_cell 34 = .ok (.invokevirtual 75, 3) := by decide +kernel
theorem dX9_cell_37 : decode cX9_cell 37 = .ok (.istore 5, 2) := by decide +kernel
theorem dX9_cell_39 : decode cX9_cell 39 = .ok (.iload 5, 2) := by decide +kernel
theorem dX9_cell_41 : decode cX9_cell 41 = .ok (.ifCond .ne 15, 3) := by decide +kernel
theorem dX9_cell_44 : decode cX9_cell 44 = .ok (.aload 4, 2) := by decide +kernel
theorem dX9_cell_46 : decode cX9_cell 46 = .ok (.iload_n 2, 1) := by decide +kernel
theorem dX9_cell_47 : decode cX9_cell 47 = .ok (.invokevirtual 264, 3) := by decide +kernel
theorem dX9_cell_50 : decode cX9_cell 50 = .ok (.ifCond .ne 6, 3) := by decide +kernel
theorem dX9_cell_53 : decode cX9_cell 53 = .ok (.iconst 3, 1) := by decide +kernel
theorem dX9_cell_54 : decode cX9_cell 54 = .ok (.istore 5, 2) := by decide +kernel
theorem dX9_cell_56 : decode cX9_cell 56 = .ok (.aload_n 0, 1) := by decide +kernel
theorem dX9_cell_57 : decode cX9_cell 57 = .ok (.iload 5, 2) := by decide +kernel
theorem dX9_cell_59 : decode cX9_cell 59 = .ok (.putfield 270, 3) := by decide +kernel
theorem dX9_cell_62 : decode cX9_cell 62 = .ok (.iload 5, 2) := by decide +kernel
theorem dX9_cell_64 : decode cX9_cell 64 = .ok (.ifCond .ne 14, 3) := by decide +kernel
theorem dX9_cell_67 : decode cX9_cell 67 = .ok (.aload 4, 2) := by decide +kernel
theorem dX9_cell_69 : decode cX9_cell 69 = .ok (.getfield 273, 3) := by decide +kernel
theorem dX9_cell_72 : decode cX9_cell 72 = .ok (.iload_n 2, 1) := by decide +kernel
theorem dX9_cell_73 : decode cX9_cell 73 = .ok (.iaload, 1) := by decide +kernel
theorem dX9_cell_74 : decode cX9_cell 74 = .ok (.i2l, 1) := by decide +kernel
theorem dX9_cell_75 : decode cX9_cell 75 = .ok (.goto 6, 3) := by decide +kernel
theorem dX9_cell_78 : decode cX9_cell 78 = .ok (.ldc2_w 212, 3) := by decide +kernel
theorem dX9_cell_81 : decode cX9_cell 81 = .ok (.lreturn, 1) := by decide +kernel
set_option maxRecDepth 20000 in
theorem ggX9_copy_X9_isSheet : GoodIn wsX9_copy wsX9_isSheet := goodIn_r _ [11] (by decide +kernel) (by decide +kernel)
set_option maxRecDepth 20000 in
theorem gX9_copy_X9_isSheet : GoodIn wsX9_copy (va_wsS RX9 64 yX9_isSheet wsX9_isSheet) := goodIn_app (goodIn_of _ (by decide +kernel)) ggX9_copy_X9_isSheet
set_option maxRecDepth 20000 in
theorem ggX9_copy_X9_unfaulted : GoodIn wsX9_copy wsX9_unfaulted := goodIn_r _ [15, 16, 32, 33, 34, 35, 36, 37, 38, 39, 40, 41, 42] (by decide +kernel) (by decide +kernel)
set_option maxRecDepth 20000 in
theorem gX9_copy_X9_unfaulted : GoodIn wsX9_copy (wsV RX9 68 RX9 yX9_unfaulted wsX9_unfaulted) := goodIn_app (goodIn_of _ (by decide +kernel)) ggX9_copy_X9_unfaulted
set_option maxRecDepth 20000 in
theorem ggX9_copy_X4_isNothing : GoodIn wsX9_copy wsX4_isNothing := goodIn_r _ [21, 22, 43, 44, 45] (by decide +kernel) (by decide +kernel)
set_option maxRecDepth 20000 in
theorem gX9_copy_X4_isNothing : GoodIn wsX9_copy (wsV RX9 258 RX4 yX4_isNothing wsX4_isNothing) := goodIn_app (goodIn_of _ (by decide +kernel)) ggX9_copy_X4_isNothing
set_option maxRecDepth 20000 in
theorem ggX9_copy_X9_faulted : GoodIn wsX9_copy wsX9_faulted := goodIn_r _ [26, 16, 32, 33, 34, 35, 36, 37, 38, 39, 40, 41, 42] (by decide +kernel) (by decide +kernel)
set_option maxRecDepth 20000 in
theorem gX9_copy_X9_faulted : GoodIn wsX9_copy (wsV RX9 82 RX9 yX9_faulted wsX9_faulted) := goodIn_app (goodIn_of _ (by decide +kernel)) ggX9_copy_X9_faulted
set_option maxRecDepth 20000 in
theorem ggX9_copy_X4_hasCells : GoodIn wsX9_copy wsX4_hasCells := goodIn_r _ [30, 31, 43, 44, 45] (by decide +kernel) (by decide +kernel)
set_option maxRecDepth 20000 in
theorem gX9_copy_X4_hasCells : GoodIn wsX9_copy (wsV RX9 78 RX4 yX4_hasCells wsX4_hasCells) := goodIn_app (goodIn_of _ (by decide +kernel)) ggX9_copy_X4_hasCells
theorem dX9_copy_0 : decode cX9_copy 0 = .ok (.iload_n 1, 1) := by decide +kernel
theorem dX9_copy_1 : decode cX9_copy 1 = .ok (.invokestatic 64, 3) := by decide +kernel
theorem dX9_copy_4 : decode cX9_copy 4 = .ok (.ifCond .eq 10, 3) := by decide +kernel
theorem dX9_copy_7 : decode cX9_copy 7 = .ok (.iload_n 3, 1) := by decide +kernel
theorem dX9_copy_8 : decode cX9_copy 8 = .ok (.invokestatic 64, 3) := by decide +kernel
theorem dX9_copy_11 : decode cX9_copy 11 = .ok (.ifCond .ne 9, 3) := by decide +kernel
theorem dX9_copy_14 : decode cX9_copy 14 = .ok (.aload_n 0, 1) := by decide +kernel
theorem dX9_copy_15 : decode cX9_copy 15 = .ok (.iconst (-1), 1) := by decide +kernel
theorem dX9_copy_16 : decode cX9_copy 16 = .ok (.invokevirtual 68, 3) := by decide +kernel
theorem dX9_copy_19 : decode cX9_copy 19 = .ok (.ireturn, 1) := by decide +kernel
theorem dX9_copy_20 : decode cX9_copy 20 = .ok (.aload_n 0, 1) := by decide +kernel
theorem dX9_copy_21 : decode cX9_copy 21 = .ok (.getfield 20, 3) := by decide +kernel
theorem dX9_copy_24 : decode cX9_copy 24 = .ok (.iload_n 1, 1) := by decide +kernel
theorem dX9_copy_25 : decode cX9_copy 25 = .ok (.aaload, 1) := by decide +kernel
theorem dX9_copy_26 : decode cX9_copy 26 = .ok (.astore 6, 2) := by decide +kernel
theorem dX9_copy_28 : decode cX9_copy 28 = .ok (.aload_n 0, 1) := by decide +kernel
theorem dX9_copy_29 : decode cX9_copy 29 = .ok (.getfield 20, 3) := by decide +kernel
theorem dX9_copy_32 : decode cX9_copy 32 = .ok (.iload_n 3, 1) := by decide +kernel
theorem dX9_copy_33 : decode cX9_copy 33 = .ok (.aaload, 1) := by decide +kernel
theorem dX9_copy_34 : decode cX9_copy 34 = .ok (.astore 7, 2) := by decide +kernel
theorem dX9_copy_36 : decode cX9_copy 36 = .ok (.aload 6, 2) := by decide +kernel
theorem dX9_copy_38 : decode cX9_copy 38 = .ok (.invokevirtual 258, 3) := by decide +kernel
theorem dX9_copy_41 : decode cX9_copy 41 = .ok (.ifCond .ne 11, 3) := by decide +kernel
theorem dX9_copy_44 : decode cX9_copy 44 = .ok (.aload 7, 2) := by decide +kernel
theorem dX9_copy_46 : decode cX9_copy 46 = .ok (.invokevirtual 258, 3) := by decide +kernel
theorem dX9_copy_49 : decode cX9_copy 49 = .ok (.ifCond .eq 9, 3) := by decide +kernel
theorem dX9_copy_52 : decode cX9_copy 52 = .ok (.aload_n 0, 1) := by decide +kernel
theorem dX9_copy_53 : decode cX9_copy 53 = .ok (.iconst 1, 1) := by decide +kernel
theorem dX9_copy_54 : decode cX9_copy 54 = .ok (.invokevirtual 82, 3) := by decide +kernel
theorem dX9_copy_57 : decode cX9_copy 57 = .ok (.ireturn, 1) := by decide +kernel
theorem dX9_copy_58 : decode cX9_copy 58 = .ok (.aload 6, 2) := by decide +kernel
theorem dX9_copy_60 : decode cX9_copy 60 = .ok (.getfield 261, 3) := by decide +kernel
theorem dX9_copy_63 : decode cX9_copy 63 = .ok (.aload 7, 2) := by decide +kernel
theorem dX9_copy_65 : decode cX9_copy 65 = .ok (.getfield 261, 3) := by decide +kernel
theorem dX9_copy_68 : decode cX9_copy 68 = .ok (.if_icmp .eq 9, 3) := by decide +kernel
theorem dX9_copy_71 : decode cX9_copy 71 = .ok (.aload_n 0, 1) := by decide +kernel
theorem dX9_copy_72 : decode cX9_copy 72 = .ok (.iconst 2, 1) := by decide +kernel
theorem dX9_copy_73 : decode cX9_copy 73 = .ok (.invokevirtual 82, 3) := by decide +kernel
theorem dX9_copy_76 : decode cX9_copy 76 = .ok (.ireturn, 1) := by decide +kernel
theorem dX9_copy_77 : decode cX9_copy 77 = .ok (.aload 6, 2) := by decide +kernel
theorem dX9_copy_79 : decode cX9_copy 79 = .ok (.iload_n 2, 1) := by decide +kernel
theorem dX9_copy_80 : decode cX9_copy 80 = .ok (.iload 5, 2) := by decide +kernel
theorem dX9_copy_82 : decode cX9_copy 82 = .ok (.invokevirtual 78, 3) := by decide +kernel
theorem dX9_copy_85 : decode cX9_copy 85 = .ok (.ifCond .eq 15, 3) := by decide +kernel
theorem dX9_copy_88 : decode cX9_copy 88 = .ok (.aload 7, 2) := by decide +kernel
theorem dX9_copy_90 : decode cX9_copy 90 = .ok (.iload 4, 2) := by decide +kernel
theorem dX9_copy_92 : decode cX9_copy 92 = .ok (.iload 5, 2) := by decide +kernel
theorem dX9_copy_94 : decode cX9_copy 94 = .ok (.invokevirtual 78, 3) := by decide +kernel
theorem dX9_copy_97 : decode cX9_copy 97 = .ok (.ifCond .ne 9, 3) := by decide +kernel
theorem dX9_copy_100 : decode cX9_copy 100 = .ok (.aload_n 0, 1) := by decide +kernel
theorem dX9_copy_101 : decode cX9_copy 101 = .ok (.iconst 3, 1) := by decide +kernel
theorem dX9_copy_102 : decode cX9_copy 102 = .ok (.invokevirtual 82, 3) := by decide +kernel
theorem dX9_copy_105 : decode cX9_copy 105 = .ok (.ireturn, 1) := by decide +kernel
theorem dX9_copy_106 : decode cX9_copy 106 = .ok (.aload 6, 2) := by decide +kernel
theorem dX9_copy_108 : decode cX9_copy 108 = .ok (.getfield 273, 3) := by decide +kernel
theorem dX9_copy_111 : decode cX9_copy 111 = .ok (.iload_n 2, 1) := by decide +kernel
theorem dX9_copy_112 : decode cX9_copy 112 = .ok (.aload 7, 2) := by decide +kernel
theorem dX9_copy_114 : decode cX9_copy 114 = .ok (.getfield 273, 3) := by decide +kernel
theorem dX9_copy_117 : decode cX9_copy 117 = .ok (.iload 4, 2) := by decide +kernel
theorem dX9_copy_119 : decode cX9_copy 119 = .ok (.iload 5, 2) := by decide +kernel
theorem dX9_copy_121 : decode cX9_copy 121 = .ok (.invokestatic 276, 3) := by decide +kernel
theorem dX9_copy_124 : decode cX9_copy 124 = .ok (.aload_n 0, 1) := by decide +kernel
theorem dX9_copy_125 : decode cX9_copy 125 = .ok (.iload 5, 2) := by decide +kernel
theorem dX9_copy_127 : decode cX9_copy 127 = .ok (.invokevirtual 68, 3) := by decide +kernel
theorem dX9_copy_130 : decode cX9_copy 130 = .ok (.ireturn, 1) := by decide +kernel
set_option maxRecDepth 20000 in
theorem ggX9_tell_X9_isLine : GoodIn wsX9_tell wsX9_isLine := goodIn_r _ [6, 1, 7, 8, 9, 10, 5, 11, 12, 44, 45, 46, 47, 48, 49, 50, 51, 52, 53, 54, 55, 56, 57, 58, 59, 60, 61] (by decide +kernel) (by decide +kernel)
set_option maxRecDepth 20000 in
theorem gX9_tell_X9_isLine : GoodIn wsX9_tell (wsV RX9 104 RX9 yX9_isLine wsX9_isLine) := goodIn_app (goodIn_of _ (by decide +kernel)) ggX9_tell_X9_isLine
set_option maxRecDepth 20000 in
theorem ggX9_tell_X2_kindOf : GoodIn wsX9_tell wsX2_kindOf := goodIn_r _ [17, 18, 19, 20, 21, 16, 22, 23, 55, 56, 57, 58, 59, 60, 61] (by decide +kernel) (by decide +kernel)
set_option maxRecDepth 20000 in
theorem gX9_tell_X2_kindOf : GoodIn wsX9_tell (wsV RX9 111 RX2 yX2_kindOf wsX2_kindOf) := goodIn_app (goodIn_of _ (by decide +kernel)) ggX9_tell_X2_kindOf
set_option maxRecDepth 20000 in
theorem ggX9_tell_X9_toldAsGround : GoodIn wsX9_tell wsX9_toldAsGround := goodIn_r _ [27, 28, 29, 30, 31, 5, 32, 33, 55, 56, 57, 58, 59, 60, 61, 44, 45, 46, 47, 48, 49, 50, 51, 52, 53, 54] (by decide +kernel) (by decide +kernel)
set_option maxRecDepth 20000 in
theorem gX9_tell_X9_toldAsGround : GoodIn wsX9_tell (wsV RX9 282 RX9 yX9_toldAsGround wsX9_toldAsGround) := goodIn_app (goodIn_of _ (by decide +kernel)) ggX9_tell_X9_toldAsGround
set_option maxRecDepth 20000 in
theorem ggX9_tell_X9_toldAsCut : GoodIn wsX9_tell wsX9_toldAsCut := goodIn_r _ [37, 38, 39, 29, 30, 31, 5, 32, 33, 24, 25, 26, 27, 28, 55, 56, 57, 58, 59, 60, 61, 44, 45, 46, 47, 48, 49, 50, 51, 52, 53, 54] (by decide +kernel) (by decide +kernel)
set_option maxRecDepth 20000 in
theorem gX9_tell_X9_toldAsCut : GoodIn wsX9_tell (wsV RX9 285 RX9 yX9_toldAsCut wsX9_toldAsCut) := goodIn_app (goodIn_of _ (by decide +kernel)) ggX9_tell_X9_toldAsCut
set_option maxRecDepth 20000 in
theorem ggX9_tell_X9_toldAsEnd : GoodIn wsX9_tell wsX9_toldAsEnd := goodIn_r _ [43, 29, 30, 31, 5, 32, 33, 34, 35, 36, 37, 38, 39, 24, 25, 26, 27, 28, 44, 45, 46, 47, 48, 49, 50, 51, 52, 53, 54, 55, 56, 57, 58, 59, 60, 61] (by decide +kernel) (by decide +kernel)
set_option maxRecDepth 20000 in
theorem gX9_tell_X9_toldAsEnd : GoodIn wsX9_tell (wsV RX9 288 RX9 yX9_toldAsEnd wsX9_toldAsEnd) := goodIn_app (goodIn_of _ (by decide +kernel)) ggX9_tell_X9_toldAsEnd
theorem dX9_tell_0 : decode cX9_tell 0 = .ok (.aload_n 0, 1) := by decide +kernel
theorem dX9_tell_1 : decode cX9_tell 1 = .ok (.iload_n 1, 1) := by decide +kernel
theorem dX9_tell_2 : decode cX9_tell 2 = .ok (.iload_n 2, 1) := by decide +kernel
theorem dX9_tell_3 : decode cX9_tell 3 = .ok (.invokevirtual 104, 3) := by decide +kernel
theorem dX9_tell_6 : decode cX9_tell 6 = .ok (.ifCond .ne 5, 3) := by decide +kernel
theorem dX9_tell_9 : decode cX9_tell 9 = .ok (.iconst (-1), 1) := by decide +kernel
theorem dX9_tell_10 : decode cX9_tell 10 = .ok (.ireturn, 1) := by decide +kernel
theorem dX9_tell_11 : decode cX9_tell 11 = .ok (.aload_n 0, 1) := by decide +kernel
theorem dX9_tell_12 : decode cX9_tell 12 = .ok (.getfield 13, 3) := by decide +kernel
theorem dX9_tell_15 : decode cX9_tell 15 = .ok (.iload_n 1, 1) := by decide +kernel
theorem dX9_tell_16 : decode cX9_tell 16 = .ok (.aaload, 1) := by decide +kernel
theorem dX9_tell_17 : decode cX9_tell 17 = .ok (.astore_n 3, 1) := by decide +kernel
theorem dX9_tell_18 : decode cX9_tell 18 = .ok (.aload_n 3, 1) := by decide +kernel
theorem dX9_tell_19 : decode cX9_tell 19 = .ok (.iload_n 2, 1) := by decide +kernel
theorem dX9_tell_20 : decode cX9_tell 20 = .ok (.invokevirtual 111, 3) := by decide +kernel
theorem dX9_tell_23 : decode cX9_tell 23 = .ok (.lookupswitch 39 #[(0, 25), (1, 32)], 25) := by decide +kernel
theorem dX9_tell_48 : decode cX9_tell 48 = .ok (.aload_n 0, 1) := by decide +kernel
theorem dX9_tell_49 : decode cX9_tell 49 = .ok (.aload_n 3, 1) := by decide +kernel
theorem dX9_tell_50 : decode cX9_tell 50 = .ok (.iload_n 2, 1) := by decide +kernel
theorem dX9_tell_51 : decode cX9_tell 51 = .ok (.invokevirtual 282, 3) := by decide +kernel
theorem dX9_tell_54 : decode cX9_tell 54 = .ok (.ireturn, 1) := by decide +kernel
theorem dX9_tell_55 : decode cX9_tell 55 = .ok (.aload_n 0, 1) := by decide +kernel
theorem dX9_tell_56 : decode cX9_tell 56 = .ok (.aload_n 3, 1) := by decide +kernel
theorem dX9_tell_57 : decode cX9_tell 57 = .ok (.iload_n 2, 1) := by decide +kernel
theorem dX9_tell_58 : decode cX9_tell 58 = .ok (.invokevirtual 285, 3) := by decide +kernel
theorem dX9_tell_61 : decode cX9_tell 61 = .ok (.ireturn, 1) := by decide +kernel
theorem dX9_tell_62 : decode cX9_tell 62 = .ok (.aload_n 0, 1) := by decide +kernel
theorem dX9_tell_63 : decode cX9_tell 63 = .ok (.aload_n 3, 1) := by decide +kernel
theorem dX9_tell_64 : decode cX9_tell 64 = .ok (.iload_n 2, 1) := by decide +kernel
theorem dX9_tell_65 : decode cX9_tell 65 = .ok (.invokevirtual 288, 3) := by decide +kernel
theorem dX9_tell_68 : decode cX9_tell 68 = .ok (.ireturn, 1) := by decide +kernel
set_option maxRecDepth 20000 in
theorem ggX9_show_X9_isLine : GoodIn wsX9_show wsX9_isLine := goodIn_r _ [6, 1, 7, 8, 9, 10, 5, 11, 12, 29, 30, 31, 32, 33, 34, 35, 36, 37, 38, 39, 40, 41, 42, 43, 44, 45, 46] (by decide +kernel) (by decide +kernel)
set_option maxRecDepth 20000 in
theorem gX9_show_X9_isLine : GoodIn wsX9_show (wsV RX9 104 RX9 yX9_isLine wsX9_isLine) := goodIn_app (goodIn_of _ (by decide +kernel)) ggX9_show_X9_isLine
set_option maxRecDepth 20000 in
theorem ggX9_show_X2_kindOf : GoodIn wsX9_show wsX2_kindOf := goodIn_r _ [17, 18, 19, 20, 21, 16, 22, 23, 40, 41, 42, 43, 44, 45, 46] (by decide +kernel) (by decide +kernel)
set_option maxRecDepth 20000 in
theorem gX9_show_X2_kindOf : GoodIn wsX9_show (wsV RX9 111 RX2 yX2_kindOf wsX2_kindOf) := goodIn_app (goodIn_of _ (by decide +kernel)) ggX9_show_X2_kindOf
set_option maxRecDepth 20000 in
theorem ggX9_show_X9_leave : GoodIn wsX9_show wsX9_leave := goodIn_r _ [27, 28, 29, 30, 31, 32, 33, 34, 35, 36, 37, 38, 39] (by decide +kernel) (by decide +kernel)
set_option maxRecDepth 20000 in
theorem gX9_show_X9_leave : GoodIn wsX9_show (wsV RX9 291 RX9 yX9_leave wsX9_leave) := goodIn_app (goodIn_of _ (by decide +kernel)) ggX9_show_X9_leave
theorem dX9_show_0 : decode cX9_show 0 = .ok (.aload_n 0, 1) := by decide +kernel
theorem dX9_show_1 : decode cX9_show 1 = .ok (.iload_n 1, 1) := by decide +kernel
theorem dX9_show_2 : decode cX9_show 2 = .ok (.iload_n 2, 1) := by decide +kernel
theorem dX9_show_3 : decode cX9_show 3 = .ok (.invokevirtual 104, 3) := by decide +kernel
theorem dX9_show_6 : decode cX9_show 6 = .ok (.ifCond .ne 5, 3) := by decide +kernel
theorem dX9_show_9 : decode cX9_show 9 = .ok (.iconst (-1), 1) := by decide +kernel
theorem dX9_show_10 : decode cX9_show 10 = .ok (.ireturn, 1) := by decide +kernel
theorem dX9_show_11 : decode cX9_show 11 = .ok (.aload_n 0, 1) := by decide +kernel
theorem dX9_show_12 : decode cX9_show 12 = .ok (.getfield 13, 3) := by decide +kernel
theorem dX9_show_15 : decode cX9_show 15 = .ok (.iload_n 1, 1) := by decide +kernel
theorem dX9_show_16 : decode cX9_show 16 = .ok (.aaload, 1) := by decide +kernel
theorem dX9_show_17 : decode cX9_show 17 = .ok (.iload_n 2, 1) := by decide +kernel
theorem dX9_show_18 : decode cX9_show 18 = .ok (.invokevirtual 111, 3) := by decide +kernel
theorem dX9_show_21 : decode cX9_show 21 = .ok (.iconst 2, 1) := by decide +kernel
theorem dX9_show_22 : decode cX9_show 22 = .ok (.if_icmp .ne 11, 3) := by decide +kernel
theorem dX9_show_25 : decode cX9_show 25 = .ok (.aload_n 0, 1) := by decide +kernel
theorem dX9_show_26 : decode cX9_show 26 = .ok (.iconst 5, 1) := by decide +kernel
theorem dX9_show_27 : decode cX9_show 27 = .ok (.invokevirtual 291, 3) := by decide +kernel
theorem dX9_show_30 : decode cX9_show 30 = .ok (.bipush 90, 2) := by decide +kernel
theorem dX9_show_32 : decode cX9_show 32 = .ok (.ireturn, 1) := by decide +kernel
theorem dX9_show_33 : decode cX9_show 33 = .ok (.aload_n 0, 1) := by decide +kernel
theorem dX9_show_34 : decode cX9_show 34 = .ok (.iconst 4, 1) := by decide +kernel
theorem dX9_show_35 : decode cX9_show 35 = .ok (.invokevirtual 291, 3) := by decide +kernel
theorem dX9_show_38 : decode cX9_show 38 = .ok (.iload_n 2, 1) := by decide +kernel
theorem dX9_show_39 : decode cX9_show 39 = .ok (.ireturn, 1) := by decide +kernel
set_option maxRecDepth 20000 in
theorem ggX9_as_X9_isLine : GoodIn wsX9_as wsX9_isLine := goodIn_r _ [6, 1, 7, 8, 9, 10, 5, 11, 12, 33, 34, 35, 36, 37, 38, 39, 40, 41, 42, 43, 44, 45, 46, 47, 48, 49, 50] (by decide +kernel) (by decide +kernel)
set_option maxRecDepth 20000 in
theorem gX9_as_X9_isLine : GoodIn wsX9_as (wsV RX9 104 RX9 yX9_isLine wsX9_isLine) := goodIn_app (goodIn_of _ (by decide +kernel)) ggX9_as_X9_isLine
set_option maxRecDepth 20000 in
theorem ggX9_as_X9_unfaulted : GoodIn wsX9_as wsX9_unfaulted := goodIn_r _ [16, 17, 33, 34, 35, 36, 37, 38, 39, 40, 41, 42, 43] (by decide +kernel) (by decide +kernel)
set_option maxRecDepth 20000 in
theorem gX9_as_X9_unfaulted : GoodIn wsX9_as (wsV RX9 68 RX9 yX9_unfaulted wsX9_unfaulted) := goodIn_app (goodIn_of _ (by decide +kernel)) ggX9_as_X9_unfaulted
set_option maxRecDepth 20000 in
theorem ggX9_as_X2_kindOf : GoodIn wsX9_as wsX2_kindOf := goodIn_r _ [22, 23, 24, 25, 26, 21, 27, 28, 44, 45, 46, 47, 48, 49, 50] (by decide +kernel) (by decide +kernel)
set_option maxRecDepth 20000 in
theorem gX9_as_X2_kindOf : GoodIn wsX9_as (wsV RX9 111 RX2 yX2_kindOf wsX2_kindOf) := goodIn_app (goodIn_of _ (by decide +kernel)) ggX9_as_X2_kindOf
set_option maxRecDepth 20000 in
theorem ggX9_as_X9_faulted : GoodIn wsX9_as wsX9_faulted := goodIn_r _ [32, 17, 33, 34, 35, 36, 37, 38, 39, 40, 41, 42, 43] (by decide +kernel) (by decide +kernel)
set_option maxRecDepth 20000 in
theorem gX9_as_X9_faulted : GoodIn wsX9_as (wsV RX9 82 RX9 yX9_faulted wsX9_faulted) := goodIn_app (goodIn_of _ (by decide +kernel)) ggX9_as_X9_faulted
theorem dX9_as_0 : decode cX9_as 0 = .ok (.aload_n 0, 1) := by decide +kernel
theorem dX9_as_1 : decode cX9_as 1 = .ok (.iload_n 1, 1) := by decide +kernel
theorem dX9_as_2 : decode cX9_as 2 = .ok (.iload_n 2, 1) := by decide +kernel
theorem dX9_as_3 : decode cX9_as 3 = .ok (.invokevirtual 104, 3) := by decide +kernel
theorem dX9_as_6 : decode cX9_as 6 = .ok (.ifCond .ne 9, 3) := by decide +kernel
theorem dX9_as_9 : decode cX9_as 9 = .ok (.aload_n 0, 1) := by decide +kernel
theorem dX9_as_10 : decode cX9_as 10 = .ok (.iconst (-1), 1) := by decide +kernel
theorem dX9_as_11 : decode cX9_as 11 = .ok (.invokevirtual 68, 3) := by decide +kernel
theorem dX9_as_14 : decode cX9_as 14 = .ok (.ireturn, 1) := by decide +kernel
theorem dX9_as_15 : decode cX9_as 15 = .ok (.iload_n 3, 1) := by decide +kernel
theorem dX9_as_16 : decode cX9_as 16 = .ok (.ifCond .lt 8, 3) := by decide +kernel
theorem dX9_as_19 : decode cX9_as 19 = .ok (.iload_n 3, 1) := by decide +kernel
theorem dX9_as_20 : decode cX9_as 20 = .ok (.iconst 2, 1) := by decide +kernel
theorem dX9_as_21 : decode cX9_as 21 = .ok (.if_icmp .le 10, 3) := by decide +kernel
theorem dX9_as_24 : decode cX9_as 24 = .ok (.aload_n 0, 1) := by decide +kernel
theorem dX9_as_25 : decode cX9_as 25 = .ok (.bipush (-2), 2) := by decide +kernel
theorem dX9_as_27 : decode cX9_as 27 = .ok (.invokevirtual 68, 3) := by decide +kernel
theorem dX9_as_30 : decode cX9_as 30 = .ok (.ireturn, 1) := by decide +kernel
theorem dX9_as_31 : decode cX9_as 31 = .ok (.iload_n 3, 1) := by decide +kernel
theorem dX9_as_32 : decode cX9_as 32 = .ok (.aload_n 0, 1) := by decide +kernel
theorem dX9_as_33 : decode cX9_as 33 = .ok (.getfield 13, 3) := by decide +kernel
theorem dX9_as_36 : decode cX9_as 36 = .ok (.iload_n 1, 1) := by decide +kernel
theorem dX9_as_37 : decode cX9_as 37 = .ok (.aaload, 1) := by decide +kernel
theorem dX9_as_38 : decode cX9_as 38 = .ok (.iload_n 2, 1) := by decide +kernel
theorem dX9_as_39 : decode cX9_as 39 = .ok (.invokevirtual 111, 3) := by decide +kernel
theorem dX9_as_42 : decode cX9_as 42 = .ok (.if_icmp .gt 11, 3) := by decide +kernel
theorem dX9_as_45 : decode cX9_as 45 = .ok (.aload_n 0, 1) := by decide +kernel
theorem dX9_as_46 : decode cX9_as 46 = .ok (.iconst 1, 1) := by decide +kernel
theorem dX9_as_47 : decode cX9_as 47 = .ok (.invokevirtual 68, 3) := by decide +kernel
theorem dX9_as_50 : decode cX9_as 50 = .ok (.goto 8, 3) := by decide +kernel
theorem dX9_as_53 : decode cX9_as 53 = .ok (.aload_n 0, 1) := by decide +kernel
theorem dX9_as_54 : decode cX9_as 54 = .ok (.iconst 2, 1) := by decide +kernel
theorem dX9_as_55 : decode cX9_as 55 = .ok (.invokevirtual 82, 3) := by decide +kernel
theorem dX9_as_58 : decode cX9_as 58 = .ok (.ireturn, 1) := by decide +kernel
theorem dX9_trace_0 : decode cX9_trace 0 = .ok (.aload_n 0, 1) := by decide +kernel
theorem dX9_trace_1 : decode cX9_trace 1 = .ok (.getfield 295, 3) := by decide +kernel
theorem dX9_trace_4 : decode cX9_trace 4 = .ok (.ireturn, 1) := by decide +kernel
theorem dX9_fault_0 : decode cX9_fault 0 = .ok (.aload_n 0, 1) := by decide +kernel
theorem dX9_fault_1 : decode cX9_fault 1 = .ok (.getfield 270, 3) := by decide +kernel
theorem dX9_fault_4 : decode cX9_fault 4 = .ok (.ireturn, 1) := by decide +kernel
theorem dX9_many_0 : decode cX9_many 0 = .ok (.iload_n 1, 1) := by decide +kernel
theorem dX9_many_1 : decode cX9_many 1 = .ok (.ifCond .ne 8, 3) := by decide +kernel
theorem dX9_many_4 : decode cX9_many 4 = .ok (.aload_n 0, 1) := by decide +kernel
theorem dX9_many_5 : decode cX9_many 5 = .ok (.getfield 298, 3) := by decide +kernel
theorem dX9_many_8 : decode cX9_many 8 = .ok (.ireturn, 1) := by decide +kernel
theorem dX9_many_9 : decode cX9_many 9 = .ok (.iload_n 1, 1) := by decide +kernel
theorem dX9_many_10 : decode cX9_many 10 = .ok (.iconst 1, 1) := by decide +kernel
theorem dX9_many_11 : decode cX9_many 11 = .ok (.if_icmp .eq 6, 3) := by decide +kernel
theorem dX9_many_14 : decode cX9_many 14 = .ok (.bipush (-2), 2) := by decide +kernel
theorem dX9_many_16 : decode cX9_many 16 = .ok (.ireturn, 1) := by decide +kernel
theorem dX9_many_17 : decode cX9_many 17 = .ok (.iconst 0, 1) := by decide +kernel
theorem dX9_many_18 : decode cX9_many 18 = .ok (.istore_n 2, 1) := by decide +kernel
theorem dX9_many_19 : decode cX9_many 19 = .ok (.iconst 0, 1) := by decide +kernel
theorem dX9_many_20 : decode cX9_many 20 = .ok (.istore_n 3, 1) := by decide +kernel
theorem dX9_many_21 : decode cX9_many 21 = .ok (.iload_n 3, 1) := by decide +kernel
theorem dX9_many_22 : decode cX9_many 22 = .ok (.aload_n 0, 1) := by decide +kernel
theorem dX9_many_23 : decode cX9_many 23 = .ok (.getfield 298, 3) := by decide +kernel
theorem dX9_many_26 : decode cX9_many 26 = .ok (.if_icmp .ge 21, 3) := by decide +kernel
theorem dX9_many_29 : decode cX9_many 29 = .ok (.iload_n 2, 1) := by decide +kernel
theorem dX9_many_30 : decode cX9_many 30 = .ok (.aload_n 0, 1) := by decide +kernel
theorem dX9_many_31 : decode cX9_many 31 = .ok (.getfield 13, 3) := by decide +kernel
theorem dX9_many_34 : decode cX9_many 34 = .ok (.iload_n 3, 1) := by decide +kernel
theorem dX9_many_35 : decode cX9_many 35 = .ok (.aaload, 1) := by decide +kernel
theorem dX9_many_36 : decode cX9_many 36 = .ok (.getfield 126, 3) := by decide +kernel
theorem dX9_many_39 : decode cX9_many 39 = .ok (.iadd, 1) := by decide +kernel
theorem dX9_many_40 : decode cX9_many 40 = .ok (.istore_n 2, 1) := by decide +kernel
theorem dX9_many_41 : decode cX9_many 41 = .ok (.iinc 3 1, 3) := by decide +kernel
theorem dX9_many_44 : decode cX9_many 44 = .ok (.goto (-23), 3) := by decide +kernel
theorem dX9_many_47 : decode cX9_many 47 = .ok (.iload_n 2, 1) := by decide +kernel
theorem dX9_many_48 : decode cX9_many 48 = .ok (.ireturn, 1) := by decide +kernel
theorem dX9_isProof_0 : decode cX9_isProof 0 = .ok (.iload_n 1, 1) := by decide +kernel
theorem dX9_isProof_1 : decode cX9_isProof 1 = .ok (.ifCond .lt 15, 3) := by decide +kernel
theorem dX9_isProof_4 : decode cX9_isProof 4 = .ok (.iload_n 1, 1) := by decide +kernel
theorem dX9_isProof_5 : decode cX9_isProof 5 = .ok (.aload_n 0, 1) := by decide +kernel
theorem dX9_isProof_6 : decode cX9_isProof 6 = .ok (.getfield 298, 3) := by decide +kernel
theorem dX9_isProof_9 : decode cX9_isProof 9 = .ok (.if_icmp .ge 7, 3) := by decide +kernel
theorem dX9_isProof_12 : decode cX9_isProof 12 = .ok (.iconst 1, 1) := by decide +kernel
theorem dX9_isProof_13 : decode cX9_isProof 13 = .ok (.goto 4, 3) := by decide +kernel
theorem dX9_isProof_16 : decode cX9_isProof 16 = .ok (.iconst 0, 1) := by decide +kernel
theorem dX9_isProof_17 : decode cX9_isProof 17 = .ok (.ireturn, 1) := by decide +kernel
set_option maxRecDepth 20000 in
theorem ggX9_isLine_X9_isProof : GoodIn wsX9_isLine wsX9_isProof := goodIn_r _ [7, 8, 9, 10, 11, 12, 13, 14, 15, 16, 17, 18, 19] (by decide +kernel) (by decide +kernel)
set_option maxRecDepth 20000 in
theorem gX9_isLine_X9_isProof : GoodIn wsX9_isLine (wsV RX9 123 RX9 yX9_isProof wsX9_isProof) := goodIn_app (goodIn_of _ (by decide +kernel)) ggX9_isLine_X9_isProof
theorem dX9_isLine_0 : decode cX9_isLine 0 = .ok (.aload_n 0, 1) := by decide +kernel
theorem dX9_isLine_1 : decode cX9_isLine 1 = .ok (.iload_n 1, 1) := by decide +kernel
theorem dX9_isLine_2 : decode cX9_isLine 2 = .ok (.invokevirtual 123, 3) := by decide +kernel
theorem dX9_isLine_5 : decode cX9_isLine 5 = .ok (.ifCond .eq 24, 3) := by decide +kernel
theorem dX9_isLine_8 : decode cX9_isLine 8 = .ok (.iload_n 2, 1) := by decide +kernel
theorem dX9_isLine_9 : decode cX9_isLine 9 = .ok (.ifCond .lt 20, 3) := by decide +kernel
theorem dX9_isLine_12 : decode cX9_isLine 12 = .ok (.iload_n 2, 1) := by decide +kernel
theorem dX9_isLine_13 : decode cX9_isLine 13 = .ok (.aload_n 0, 1) := by decide +kernel
theorem dX9_isLine_14 : decode cX9_isLine 14 = .ok (.getfield 13, 3) := by decide +kernel
theorem dX9_isLine_17 : decode cX9_isLine 17 = .ok (.iload_n 1, 1) := by decide +kernel
theorem dX9_isLine_18 : decode cX9_isLine 18 = .ok (.aaload, 1) := by decide +kernel
theorem dX9_isLine_19 : decode cX9_isLine 19 = .ok (.getfield 126, 3) := by decide +kernel
theorem dX9_isLine_22 : decode cX9_isLine 22 = .ok (.if_icmp .ge 7, 3) := by decide +kernel
theorem dX9_isLine_25 : decode cX9_isLine 25 = .ok (.iconst 1, 1) := by decide +kernel
theorem dX9_isLine_26 : decode cX9_isLine 26 = .ok (.goto 4, 3) := by decide +kernel
theorem dX9_isLine_29 : decode cX9_isLine 29 = .ok (.iconst 0, 1) := by decide +kernel
theorem dX9_isLine_30 : decode cX9_isLine 30 = .ok (.ireturn, 1) := by decide +kernel
theorem dX9_isSheet_0 : decode cX9_isSheet 0 = .ok (.iload_n 0, 1) := by decide +kernel
theorem dX9_isSheet_1 : decode cX9_isSheet 1 = .ok (.ifCond .lt 12, 3) := by decide +kernel
theorem dX9_isSheet_4 : decode cX9_isSheet 4 = .ok (.iload_n 0, 1) := by decide +kernel
theorem dX9_isSheet_5 : decode cX9_isSheet 5 = .ok (.iconst 4, 1) := by decide +kernel
theorem dX9_isSheet_6 : decode cX9_isSheet 6 = .ok (.if_icmp .ge 7, 3) := by decide +kernel
theorem dX9_isSheet_9 : decode cX9_isSheet 9 = .ok (.iconst 1, 1) := by decide +kernel
theorem dX9_isSheet_10 : decode cX9_isSheet 10 = .ok (.goto 4, 3) := by decide +kernel
theorem dX9_isSheet_13 : decode cX9_isSheet 13 = .ok (.iconst 0, 1) := by decide +kernel
theorem dX9_isSheet_14 : decode cX9_isSheet 14 = .ok (.ireturn, 1) := by decide +kernel
theorem dX9_isLane_0 : decode cX9_isLane 0 = .ok (.iload_n 0, 1) := by decide +kernel
theorem dX9_isLane_1 : decode cX9_isLane 1 = .ok (.ifCond .lt 12, 3) := by decide +kernel
theorem dX9_isLane_4 : decode cX9_isLane 4 = .ok (.iload_n 0, 1) := by decide +kernel
theorem dX9_isLane_5 : decode cX9_isLane 5 = .ok (.iconst 2, 1) := by decide +kernel
theorem dX9_isLane_6 : decode cX9_isLane 6 = .ok (.if_icmp .gt 7, 3) := by decide +kernel
theorem dX9_isLane_9 : decode cX9_isLane 9 = .ok (.iconst 1, 1) := by decide +kernel
theorem dX9_isLane_10 : decode cX9_isLane 10 = .ok (.goto 4, 3) := by decide +kernel
theorem dX9_isLane_13 : decode cX9_isLane 13 = .ok (.iconst 0, 1) := by decide +kernel
theorem dX9_isLane_14 : decode cX9_isLane 14 = .ok (.ireturn, 1) := by decide +kernel
theorem dX9_isIn_0 : decode cX9_isIn 0 = .ok (.lload_n 1, 1) := by decide +kernel
theorem dX9_isIn_1 : decode cX9_isIn 1 = .ok (.iload_n 0, 1) := by decide +kernel
theorem dX9_isIn_2 : decode cX9_isIn 2 = .ok (.lshr, 1) := by decide +kernel
theorem dX9_isIn_3 : decode cX9_isIn 3 = .ok (.lconst 1, 1) := by decide +kernel
theorem dX9_isIn_4 : decode cX9_isIn 4 = .ok (.land, 1) := by decide +kernel
theorem dX9_isIn_5 : decode cX9_isIn 5 = .ok (.lconst 0, 1) := by decide +kernel
theorem dX9_isIn_6 : decode cX9_isIn 6 = .ok (.lcmp, 1) := by decide +kernel
theorem dX9_isIn_7 : decode cX9_isIn 7 = .ok (.ifCond .eq 7, 3) := by decide +kernel
theorem dX9_isIn_10 : decode cX9_isIn 10 = .ok (.iconst 1, 1) := by decide +kernel
theorem dX9_isIn_11 : decode cX9_isIn 11 = .ok (.goto 4, 3) := by decide +kernel
theorem dX9_isIn_14 : decode cX9_isIn 14 = .ok (.iconst 0, 1) := by decide +kernel
theorem dX9_isIn_15 : decode cX9_isIn 15 = .ok (.ireturn, 1) := by decide +kernel
theorem dX9_isGroundSet_0 : decode cX9_isGroundSet 0 = .ok (.iload_n 1, 1) := by decide +kernel
theorem dX9_isGroundSet_1 : decode cX9_isGroundSet 1 = .ok (.ifCond .lt 17, 3) := by decide +kernel
theorem dX9_isGroundSet_4 : decode cX9_isGroundSet 4 = .ok (.iload_n 1, 1) := by decide +kernel
theorem dX9_isGroundSet_5 : decode cX9_isGroundSet 5 = .ok (.iconst 1, 1) := by decide +kernel
theorem dX9_isGroundSet_6 : decode cX9_isGroundSet 6 = .ok (.aload_n 0, 1) := by decide +kernel
theorem dX9_isGroundSet_7 : decode cX9_isGroundSet 7 = .ok (.getfield 141, 3) := by decide +kernel
theorem dX9_isGroundSet_10 : decode cX9_isGroundSet 10 = .ok (.ishl, 1) := by decide +kernel
theorem dX9_isGroundSet_11 : decode cX9_isGroundSet 11 = .ok (.if_icmp .ge 7, 3) := by decide +kernel
theorem dX9_isGroundSet_14 : decode cX9_isGroundSet 14 = .ok (.iconst 1, 1) := by decide +kernel
theorem dX9_isGroundSet_15 : decode cX9_isGroundSet 15 = .ok (.goto 4, 3) := by decide +kernel
theorem dX9_isGroundSet_18 : decode cX9_isGroundSet 18 = .ok (.iconst 0, 1) := by decide +kernel
theorem dX9_isGroundSet_19 : decode cX9_isGroundSet 19 = .ok (.ireturn, 1) := by decide +kernel
set_option maxRecDepth 20000 in
theorem ggX9_isTableAsked_X9_isProof : GoodIn wsX9_isTableAsked wsX9_isProof := goodIn_r _ [7, 8, 12, 13, 14, 15, 16, 17, 18, 19, 20, 21, 22] (by decide +kernel) (by decide +kernel)
set_option maxRecDepth 20000 in
theorem gX9_isTableAsked_X9_isProof : GoodIn wsX9_isTableAsked (wsV RX9 123 RX9 yX9_isProof wsX9_isProof) := goodIn_app (goodIn_of _ (by decide +kernel)) ggX9_isTableAsked_X9_isProof
set_option maxRecDepth 20000 in
theorem ggX9_isTableAsked_X9_isGroundSet : GoodIn wsX9_isTableAsked wsX9_isGroundSet := goodIn_r _ [11, 2, 23, 24, 25, 26, 27, 28, 29] (by decide +kernel) (by decide +kernel)
set_option maxRecDepth 20000 in
theorem gX9_isTableAsked_X9_isGroundSet : GoodIn wsX9_isTableAsked (va_wsS RX9 190 yX9_isGroundSet wsX9_isGroundSet) := goodIn_app (goodIn_of _ (by decide +kernel)) ggX9_isTableAsked_X9_isGroundSet
theorem dX9_isTableAsked_0 : decode cX9_isTableAsked 0 = .ok (.aload_n 0, 1) := by decide +kernel
theorem dX9_isTableAsked_1 : decode cX9_isTableAsked 1 = .ok (.iload_n 1, 1) := by decide +kernel
theorem dX9_isTableAsked_2 : decode cX9_isTableAsked 2 = .ok (.invokevirtual 123, 3) := by decide +kernel
theorem dX9_isTableAsked_5 : decode cX9_isTableAsked 5 = .ok (.ifCond .eq 43, 3) := by decide +kernel
theorem dX9_isTableAsked_8 : decode cX9_isTableAsked 8 = .ok (.iload_n 3, 1) := by decide +kernel
theorem dX9_isTableAsked_9 : decode cX9_isTableAsked 9 = .ok (.ifCond .eq 8, 3) := by decide +kernel
theorem dX9_isTableAsked_12 : decode cX9_isTableAsked 12 = .ok (.iload_n 3, 1) := by decide +kernel
theorem dX9_isTableAsked_13 : decode cX9_isTableAsked 13 = .ok (.iconst 1, 1) := by decide +kernel
theorem dX9_isTableAsked_14 : decode cX9_isTableAsked 14 = .ok (.if_icmp .ne 34, 3) := by decide +kernel
theorem dX9_isTableAsked_17 : decode cX9_isTableAsked 17 = .ok (.aload_n 0, 1) := by decide +kernel
theorem dX9_isTableAsked_18 : decode cX9_isTableAsked 18 = .ok (.getfield 13, 3) := by decide +kernel
theorem dX9_isTableAsked_21 : decode cX9_isTableAsked 21 = .ok (.iload_n 1, 1) := by decide +kernel
theorem dX9_isTableAsked_22 : decode cX9_isTableAsked 22 = .ok (.aaload, 1) := by decide +kernel
theorem dX9_isTableAsked_23 : decode cX9_isTableAsked 23 = .ok (.getfield 141, 3) := by decide +kernel
theorem dX9_isTableAsked_26 : decode cX9_isTableAsked 26 = .ok (.bipush 10, 2) := by decide +kernel
theorem dX9_isTableAsked_28 : decode cX9_isTableAsked 28 = .ok (.if_icmp .gt 20, 3) := by decide +kernel
theorem dX9_isTableAsked_31 : decode cX9_isTableAsked 31 = .ok (.aload_n 0, 1) := by decide +kernel
theorem dX9_isTableAsked_32 : decode cX9_isTableAsked 32 = .ok (.getfield 13, 3) := by decide +kernel
theorem dX9_isTableAsked_35 : decode cX9_isTableAsked 35 = .ok (.iload_n 1, 1) := by decide +kernel
theorem dX9_isTableAsked_36 : decode cX9_isTableAsked 36 = .ok (.aaload, 1) := by decide +kernel
theorem dX9_isTableAsked_37 : decode cX9_isTableAsked 37 = .ok (.iload_n 2, 1) := by decide +kernel
theorem dX9_isTableAsked_38 : decode cX9_isTableAsked 38 = .ok (.invokestatic 190, 3) := by decide +kernel
theorem dX9_isTableAsked_41 : decode cX9_isTableAsked 41 = .ok (.ifCond .eq 7, 3) := by decide +kernel
theorem dX9_isTableAsked_44 : decode cX9_isTableAsked 44 = .ok (.iconst 1, 1) := by decide +kernel
theorem dX9_isTableAsked_45 : decode cX9_isTableAsked 45 = .ok (.goto 4, 3) := by decide +kernel
theorem dX9_isTableAsked_48 : decode cX9_isTableAsked 48 = .ok (.iconst 0, 1) := by decide +kernel
theorem dX9_isTableAsked_49 : decode cX9_isTableAsked 49 = .ok (.ireturn, 1) := by decide +kernel
theorem dX9_halfOf_0 : decode cX9_halfOf 0 = .ok (.iload_n 2, 1) := by decide +kernel
theorem dX9_halfOf_1 : decode cX9_halfOf 1 = .ok (.ifCond .ne 11, 3) := by decide +kernel
theorem dX9_halfOf_4 : decode cX9_halfOf 4 = .ok (.lload_n 0, 1) := by decide +kernel
theorem dX9_halfOf_5 : decode cX9_halfOf 5 = .ok (.ldc2_w 301, 3) := by decide +kernel
theorem dX9_halfOf_8 : decode cX9_halfOf 8 = .ok (.land, 1) := by decide +kernel
theorem dX9_halfOf_9 : decode cX9_halfOf 9 = .ok (.goto 7, 3) := by decide +kernel
theorem dX9_halfOf_12 : decode cX9_halfOf 12 = .ok (.lload_n 0, 1) := by decide +kernel
theorem dX9_halfOf_13 : decode cX9_halfOf 13 = .ok (.bipush 32, 2) := by decide +kernel
theorem dX9_halfOf_15 : decode cX9_halfOf 15 = .ok (.lushr, 1) := by decide +kernel
theorem dX9_halfOf_16 : decode cX9_halfOf 16 = .ok (.lreturn, 1) := by decide +kernel
theorem dX9_faulted_0 : decode cX9_faulted 0 = .ok (.aload_n 0, 1) := by decide +kernel
theorem dX9_faulted_1 : decode cX9_faulted 1 = .ok (.iload_n 1, 1) := by decide +kernel
theorem dX9_faulted_2 : decode cX9_faulted 2 = .ok (.putfield 270, 3) := by decide +kernel
theorem dX9_faulted_5 : decode cX9_faulted 5 = .ok (.bipush (-10), 2) := by decide +kernel
theorem dX9_faulted_7 : decode cX9_faulted 7 = .ok (.iload_n 1, 1) := by decide +kernel
theorem dX9_faulted_8 : decode cX9_faulted 8 = .ok (.isub, 1) := by decide +kernel
theorem dX9_faulted_9 : decode cX9_faulted 9 = .ok (.ireturn, 1) := by decide +kernel
theorem dX9_unfaulted_0 : decode cX9_unfaulted 0 = .ok (.aload_n 0, 1) := by decide +kernel
theorem dX9_unfaulted_1 : decode cX9_unfaulted 1 = .ok (.iconst 0, 1) := by decide +kernel
theorem dX9_unfaulted_2 : decode cX9_unfaulted 2 = .ok (.putfield 270, 3) := by decide +kernel
theorem dX9_unfaulted_5 : decode cX9_unfaulted 5 = .ok (.iload_n 1, 1) := by decide +kernel
theorem dX9_unfaulted_6 : decode cX9_unfaulted 6 = .ok (.ireturn, 1) := by decide +kernel
set_option maxRecDepth 20000 in
theorem ggX9_kept_X2_take : GoodIn wsX9_kept wsX2_take := goodIn_r _ [7, 8, 9, 10, 11, 12, 13, 14, 15, 6, 16, 17, 18, 19, 20, 21, 22, 34, 35, 36, 37, 38, 39, 40] (by decide +kernel) (by decide +kernel)
set_option maxRecDepth 20000 in
theorem gX9_kept_X2_take : GoodIn wsX9_kept (wsV RX9 303 RX2 yX2_take wsX2_take) := goodIn_app (goodIn_of _ (by decide +kernel)) ggX9_kept_X2_take
theorem dX9_kept_0 : decode cX9_kept 0 = .ok (.aload_n 0, 1) := by decide +kernel
theorem dX9_kept_1 : decode cX9_kept 1 = .ok (.getfield 298, 3) := by decide +kernel
theorem dX9_kept_4 : decode cX9_kept 4 = .ok (.bipush 12, 2) := by decide +kernel
theorem dX9_kept_6 : decode cX9_kept 6 = .ok (.if_icmp .lt 6, 3) := by decide +kernel
theorem dX9_kept_9 : decode cX9_kept 9 = .ok (.bipush (-4), 2) := by decide +kernel
theorem dX9_kept_11 : decode cX9_kept 11 = .ok (.ireturn, 1) := by decide +kernel
theorem dX9_kept_12 : decode cX9_kept 12 = .ok (.aload_n 0, 1) := by decide +kernel
theorem dX9_kept_13 : decode cX9_kept 13 = .ok (.getfield 13, 3) := by decide +kernel
theorem dX9_kept_16 : decode cX9_kept 16 = .ok (.aload_n 0, 1) := by decide +kernel
theorem dX9_kept_17 : decode cX9_kept 17 = .ok (.getfield 298, 3) := by decide +kernel
theorem dX9_kept_20 : decode cX9_kept 20 = .ok (.aaload, 1) := by decide +kernel
theorem dX9_kept_21 : decode cX9_kept 21 = .ok (.aload_n 1, 1) := by decide +kernel
theorem dX9_kept_22 : decode cX9_kept 22 = .ok (.invokevirtual 303, 3) := by decide +kernel
theorem dX9_kept_25 : decode cX9_kept 25 = .ok (.aload_n 0, 1) := by decide +kernel
theorem dX9_kept_26 : decode cX9_kept 26 = .ok (.dup, 1) := by decide +kernel
theorem dX9_kept_27 : decode cX9_kept 27 = .ok (.getfield 298, 3) := by decide +kernel
theorem dX9_kept_30 : decode cX9_kept 30 = .ok (.iconst 1, 1) := by decide +kernel
theorem dX9_kept_31 : decode cX9_kept 31 = .ok (.iadd, 1) := by decide +kernel
theorem dX9_kept_32 : decode cX9_kept 32 = .ok (.putfield 298, 3) := by decide +kernel
theorem dX9_kept_35 : decode cX9_kept 35 = .ok (.aload_n 0, 1) := by decide +kernel
theorem dX9_kept_36 : decode cX9_kept 36 = .ok (.getfield 298, 3) := by decide +kernel
theorem dX9_kept_39 : decode cX9_kept 39 = .ok (.iconst 1, 1) := by decide +kernel
theorem dX9_kept_40 : decode cX9_kept 40 = .ok (.isub, 1) := by decide +kernel
theorem dX9_kept_41 : decode cX9_kept 41 = .ok (.ireturn, 1) := by decide +kernel
theorem dX9_leave_0 : decode cX9_leave 0 = .ok (.aload_n 0, 1) := by decide +kernel
theorem dX9_leave_1 : decode cX9_leave 1 = .ok (.bipush 31, 2) := by decide +kernel
theorem dX9_leave_3 : decode cX9_leave 3 = .ok (.aload_n 0, 1) := by decide +kernel
theorem dX9_leave_4 : decode cX9_leave 4 = .ok (.getfield 295, 3) := by decide +kernel
theorem dX9_leave_7 : decode cX9_leave 7 = .ok (.imul, 1) := by decide +kernel
theorem dX9_leave_8 : decode cX9_leave 8 = .ok (.iload_n 1, 1) := by decide +kernel
theorem dX9_leave_9 : decode cX9_leave 9 = .ok (.iadd, 1) := by decide +kernel
theorem dX9_leave_10 : decode cX9_leave 10 = .ok (.putfield 295, 3) := by decide +kernel
theorem dX9_leave_13 : decode cX9_leave 13 = .ok (.return_, 1) := by decide +kernel
set_option maxRecDepth 20000 in
theorem ggX9_toldAsGround_X9_leave : GoodIn wsX9_toldAsGround wsX9_leave := goodIn_r _ [6, 7, 15, 16, 17, 18, 19, 20, 21, 22, 23, 24, 25] (by decide +kernel) (by decide +kernel)
set_option maxRecDepth 20000 in
theorem gX9_toldAsGround_X9_leave : GoodIn wsX9_toldAsGround (wsV RX9 291 RX9 yX9_leave wsX9_leave) := goodIn_app (goodIn_of _ (by decide +kernel)) ggX9_toldAsGround_X9_leave
theorem dX9_toldAsGround_0 : decode cX9_toldAsGround 0 = .ok (.aload_n 0, 1) := by decide +kernel
theorem dX9_toldAsGround_1 : decode cX9_toldAsGround 1 = .ok (.iconst 1, 1) := by decide +kernel
theorem dX9_toldAsGround_2 : decode cX9_toldAsGround 2 = .ok (.invokevirtual 291, 3) := by decide +kernel
theorem dX9_toldAsGround_5 : decode cX9_toldAsGround 5 = .ok (.aload_n 1, 1) := by decide +kernel
theorem dX9_toldAsGround_6 : decode cX9_toldAsGround 6 = .ok (.getfield 107, 3) := by decide +kernel
theorem dX9_toldAsGround_9 : decode cX9_toldAsGround 9 = .ok (.iload_n 2, 1) := by decide +kernel
theorem dX9_toldAsGround_10 : decode cX9_toldAsGround 10 = .ok (.iaload, 1) := by decide +kernel
theorem dX9_toldAsGround_11 : decode cX9_toldAsGround 11 = .ok (.ireturn, 1) := by decide +kernel
set_option maxRecDepth 20000 in
theorem ggX9_toldAsCut_X9_leave : GoodIn wsX9_toldAsCut wsX9_leave := goodIn_r _ [7, 8, 21, 22, 23, 24, 25, 26, 27, 28, 29, 30, 31] (by decide +kernel) (by decide +kernel)
set_option maxRecDepth 20000 in
theorem gX9_toldAsCut_X9_leave : GoodIn wsX9_toldAsCut (wsV RX9 291 RX9 yX9_leave wsX9_leave) := goodIn_app (goodIn_of _ (by decide +kernel)) ggX9_toldAsCut_X9_leave
set_option maxRecDepth 20000 in
theorem ggX9_toldAsCut_X9_toldAsGround : GoodIn wsX9_toldAsCut wsX9_toldAsGround := goodIn_r _ [12, 13, 3, 4, 5, 6, 7, 8, 14, 15, 16, 17, 18, 19, 20, 21, 22, 23, 24, 25, 26, 27, 28, 29, 30, 31] (by decide +kernel) (by decide +kernel)
set_option maxRecDepth 20000 in
theorem gX9_toldAsCut_X9_toldAsGround : GoodIn wsX9_toldAsCut (wsV RX9 282 RX9 yX9_toldAsGround wsX9_toldAsGround) := goodIn_app (goodIn_of _ (by decide +kernel)) ggX9_toldAsCut_X9_toldAsGround
theorem dX9_toldAsCut_0 : decode cX9_toldAsCut 0 = .ok (.aload_n 0, 1) := by decide +kernel
theorem dX9_toldAsCut_1 : decode cX9_toldAsCut 1 = .ok (.iconst 2, 1) := by decide +kernel
theorem dX9_toldAsCut_2 : decode cX9_toldAsCut 2 = .ok (.invokevirtual 291, 3) := by decide +kernel
theorem dX9_toldAsCut_5 : decode cX9_toldAsCut 5 = .ok (.aload_n 0, 1) := by decide +kernel
theorem dX9_toldAsCut_6 : decode cX9_toldAsCut 6 = .ok (.aload_n 1, 1) := by decide +kernel
theorem dX9_toldAsCut_7 : decode cX9_toldAsCut 7 = .ok (.iload_n 2, 1) := by decide +kernel
theorem dX9_toldAsCut_8 : decode cX9_toldAsCut 8 = .ok (.invokevirtual 282, 3) := by decide +kernel
theorem dX9_toldAsCut_11 : decode cX9_toldAsCut 11 = .ok (.aload_n 1, 1) := by decide +kernel
theorem dX9_toldAsCut_12 : decode cX9_toldAsCut 12 = .ok (.getfield 114, 3) := by decide +kernel
theorem dX9_toldAsCut_15 : decode cX9_toldAsCut 15 = .ok (.iload_n 2, 1) := by decide +kernel
theorem dX9_toldAsCut_16 : decode cX9_toldAsCut 16 = .ok (.iaload, 1) := by decide +kernel
theorem dX9_toldAsCut_17 : decode cX9_toldAsCut 17 = .ok (.iadd, 1) := by decide +kernel
theorem dX9_toldAsCut_18 : decode cX9_toldAsCut 18 = .ok (.aload_n 1, 1) := by decide +kernel
theorem dX9_toldAsCut_19 : decode cX9_toldAsCut 19 = .ok (.getfield 117, 3) := by decide +kernel
theorem dX9_toldAsCut_22 : decode cX9_toldAsCut 22 = .ok (.iload_n 2, 1) := by decide +kernel
theorem dX9_toldAsCut_23 : decode cX9_toldAsCut 23 = .ok (.iaload, 1) := by decide +kernel
theorem dX9_toldAsCut_24 : decode cX9_toldAsCut 24 = .ok (.iadd, 1) := by decide +kernel
theorem dX9_toldAsCut_25 : decode cX9_toldAsCut 25 = .ok (.ireturn, 1) := by decide +kernel
set_option maxRecDepth 20000 in
theorem ggX9_toldAsEnd_X9_leave : GoodIn wsX9_toldAsEnd wsX9_leave := goodIn_r _ [5, 6, 18, 19, 20, 21, 22, 23, 24, 25, 26, 27, 28] (by decide +kernel) (by decide +kernel)
set_option maxRecDepth 20000 in
theorem gX9_toldAsEnd_X9_leave : GoodIn wsX9_toldAsEnd (wsV RX9 291 RX9 yX9_leave wsX9_leave) := goodIn_app (goodIn_of _ (by decide +kernel)) ggX9_toldAsEnd_X9_leave
set_option maxRecDepth 20000 in
theorem ggX9_toldAsEnd_X9_toldAsCut : GoodIn wsX9_toldAsEnd wsX9_toldAsCut := goodIn_r _ [10, 11, 12, 1, 2, 3, 4, 5, 6, 13, 14, 15, 16, 17, 29, 30, 31, 32, 33, 34, 35, 18, 19, 20, 21, 22, 23, 24, 25, 26, 27, 28] (by decide +kernel) (by decide +kernel)
set_option maxRecDepth 20000 in
theorem gX9_toldAsEnd_X9_toldAsCut : GoodIn wsX9_toldAsEnd (wsV RX9 285 RX9 yX9_toldAsCut wsX9_toldAsCut) := goodIn_app (goodIn_of _ (by decide +kernel)) ggX9_toldAsEnd_X9_toldAsCut
set_option maxRecDepth 20000 in
theorem ggX9_toldAsEnd_X9_toldAsGround : GoodIn wsX9_toldAsEnd wsX9_toldAsGround := goodIn_r _ [16, 17, 1, 2, 3, 4, 5, 6, 29, 30, 31, 32, 33, 34, 35, 18, 19, 20, 21, 22, 23, 24, 25, 26, 27, 28] (by decide +kernel) (by decide +kernel)
set_option maxRecDepth 20000 in
theorem gX9_toldAsEnd_X9_toldAsGround : GoodIn wsX9_toldAsEnd (wsV RX9 282 RX9 yX9_toldAsGround wsX9_toldAsGround) := goodIn_app (goodIn_of _ (by decide +kernel)) ggX9_toldAsEnd_X9_toldAsGround
theorem dX9_toldAsEnd_0 : decode cX9_toldAsEnd 0 = .ok (.aload_n 0, 1) := by decide +kernel
theorem dX9_toldAsEnd_1 : decode cX9_toldAsEnd 1 = .ok (.iconst 3, 1) := by decide +kernel
theorem dX9_toldAsEnd_2 : decode cX9_toldAsEnd 2 = .ok (.invokevirtual 291, 3) := by decide +kernel
theorem dX9_toldAsEnd_5 : decode cX9_toldAsEnd 5 = .ok (.aload_n 0, 1) := by decide +kernel
theorem dX9_toldAsEnd_6 : decode cX9_toldAsEnd 6 = .ok (.aload_n 1, 1) := by decide +kernel
theorem dX9_toldAsEnd_7 : decode cX9_toldAsEnd 7 = .ok (.iload_n 2, 1) := by decide +kernel
theorem dX9_toldAsEnd_8 : decode cX9_toldAsEnd 8 = .ok (.invokevirtual 285, 3) := by decide +kernel
theorem dX9_toldAsEnd_11 : decode cX9_toldAsEnd 11 = .ok (.istore_n 3, 1) := by decide +kernel
theorem dX9_toldAsEnd_12 : decode cX9_toldAsEnd 12 = .ok (.iload_n 3, 1) := by decide +kernel
theorem dX9_toldAsEnd_13 : decode cX9_toldAsEnd 13 = .ok (.aload_n 0, 1) := by decide +kernel
theorem dX9_toldAsEnd_14 : decode cX9_toldAsEnd 14 = .ok (.aload_n 1, 1) := by decide +kernel
theorem dX9_toldAsEnd_15 : decode cX9_toldAsEnd 15 = .ok (.iload_n 2, 1) := by decide +kernel
theorem dX9_toldAsEnd_16 : decode cX9_toldAsEnd 16 = .ok (.invokevirtual 282, 3) := by decide +kernel
theorem dX9_toldAsEnd_19 : decode cX9_toldAsEnd 19 = .ok (.iadd, 1) := by decide +kernel
theorem dX9_toldAsEnd_20 : decode cX9_toldAsEnd 20 = .ok (.ireturn, 1) := by decide +kernel
