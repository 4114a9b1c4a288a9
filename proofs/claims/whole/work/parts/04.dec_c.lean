theorem dX5_cutUnit_91 : decode cX5_cutUnit 91 = .ok (.ireturn, 1) := by decide +kernel
theorem dX6_init_0 : decode cX6_init 0 = .ok (.aload_n 0, 1) := by decide +kernel
theorem dX6_init_1 : decode cX6_init 1 = .ok (.invokespecial 3, 3) := by decide +kernel
theorem dX6_init_4 : decode cX6_init 4 = .ok (.aload_n 0, 1) := by decide +kernel
theorem dX6_init_5 : decode cX6_init 5 = .ok (.bipush 48, 2) := by decide +kernel
theorem dX6_init_7 : decode cX6_init 7 = .ok (.newarray .int, 2) := by decide +kernel
theorem dX6_init_9 : decode cX6_init 9 = .ok (.putfield 9, 3) := by decide +kernel
theorem dX6_init_12 : decode cX6_init 12 = .ok (.aload_n 0, 1) := by decide +kernel
theorem dX6_init_13 : decode cX6_init 13 = .ok (.bipush 48, 2) := by decide +kernel
theorem dX6_init_15 : decode cX6_init 15 = .ok (.newarray .int, 2) := by decide +kernel
theorem dX6_init_17 : decode cX6_init 17 = .ok (.putfield 15, 3) := by decide +kernel
theorem dX6_init_20 : decode cX6_init 20 = .ok (.return_, 1) := by decide +kernel
set_option maxRecDepth 20000 in
theorem ggX6_signsOf_J6_bitCount_0f7a4 : GoodIn wsX6_signsOf wsJ6_bitCount_0f7a4 := goodIn_r _ [6, 7, 8, 9] (by decide +kernel) (by decide +kernel)
set_option maxRecDepth 20000 in
theorem gX6_signsOf_J6_bitCount_0f7a4 : GoodIn wsX6_signsOf (va_wsS RX6 27 yJ6_bitCount_0f7a4 wsJ6_bitCount_0f7a4) := goodIn_app (goodIn_of _ (by decide +kernel)) ggX6_signsOf_J6_bitCount_0f7a4
theorem dX6_signsOf_0 : decode cX6_signsOf 0 = .ok (.iconst 0, 1) := by decide +kernel
theorem dX6_signsOf_1 : decode cX6_signsOf 1 = .ok (.istore_n 1, 1) := by decide +kernel
theorem dX6_signsOf_2 : decode cX6_signsOf 2 = .ok (.iconst 0, 1) := by decide +kernel
theorem dX6_signsOf_3 : decode cX6_signsOf 3 = .ok (.istore_n 2, 1) := by decide +kernel
theorem dX6_signsOf_4 : decode cX6_signsOf 4 = .ok (.iload_n 2, 1) := by decide +kernel
theorem dX6_signsOf_5 : decode cX6_signsOf 5 = .ok (.aload_n 0, 1) := by decide +kernel
theorem dX6_signsOf_6 : decode cX6_signsOf 6 = .ok (.getfield 18, 3) := by decide +kernel
theorem dX6_signsOf_9 : decode cX6_signsOf 9 = .ok (.if_icmp .ge 21, 3) := by decide +kernel
theorem dX6_signsOf_12 : decode cX6_signsOf 12 = .ok (.iload_n 1, 1) := by decide +kernel
theorem dX6_signsOf_13 : decode cX6_signsOf 13 = .ok (.aload_n 0, 1) := by decide +kernel
theorem dX6_signsOf_14 : decode cX6_signsOf 14 = .ok (.getfield 24, 3) := by decide +kernel
theorem dX6_signsOf_17 : decode cX6_signsOf 17 = .ok (.iload_n 2, 1) := by decide +kernel
theorem dX6_signsOf_18 : decode cX6_signsOf 18 = .ok (.iaload, 1) := by decide +kernel
theorem dX6_signsOf_19 : decode cX6_signsOf 19 = .ok (.invokestatic 27, 3) := by decide +kernel
theorem dX6_signsOf_22 : decode cX6_signsOf 22 = .ok (.iadd, 1) := by decide +kernel
theorem dX6_signsOf_23 : decode cX6_signsOf 23 = .ok (.istore_n 1, 1) := by decide +kernel
theorem dX6_signsOf_24 : decode cX6_signsOf 24 = .ok (.iinc 2 1, 3) := by decide +kernel
theorem dX6_signsOf_27 : decode cX6_signsOf 27 = .ok (.goto (-23), 3) := by decide +kernel
theorem dX6_signsOf_30 : decode cX6_signsOf 30 = .ok (.iload_n 1, 1) := by decide +kernel
theorem dX6_signsOf_31 : decode cX6_signsOf 31 = .ok (.ireturn, 1) := by decide +kernel
set_option maxRecDepth 20000 in
theorem ggX6_widestOf_J6_bitCount_0f7a4 : GoodIn wsX6_widestOf wsJ6_bitCount_0f7a4 := goodIn_r _ [10, 11, 12, 13] (by decide +kernel) (by decide +kernel)
set_option maxRecDepth 20000 in
theorem gX6_widestOf_J6_bitCount_0f7a4 : GoodIn wsX6_widestOf (va_wsS RX6 27 yJ6_bitCount_0f7a4 wsJ6_bitCount_0f7a4) := goodIn_app (goodIn_of _ (by decide +kernel)) ggX6_widestOf_J6_bitCount_0f7a4
theorem dX6_widestOf_0 : decode cX6_widestOf 0 = .ok (.iconst 0, 1) := by decide +kernel
theorem dX6_widestOf_1 : decode cX6_widestOf 1 = .ok (.istore_n 1, 1) := by decide +kernel
theorem dX6_widestOf_2 : decode cX6_widestOf 2 = .ok (.iconst 0, 1) := by decide +kernel
theorem dX6_widestOf_3 : decode cX6_widestOf 3 = .ok (.istore_n 2, 1) := by decide +kernel
theorem dX6_widestOf_4 : decode cX6_widestOf 4 = .ok (.iload_n 2, 1) := by decide +kernel
theorem dX6_widestOf_5 : decode cX6_widestOf 5 = .ok (.aload_n 0, 1) := by decide +kernel
theorem dX6_widestOf_6 : decode cX6_widestOf 6 = .ok (.getfield 18, 3) := by decide +kernel
theorem dX6_widestOf_9 : decode cX6_widestOf 9 = .ok (.if_icmp .ge 23, 3) := by decide +kernel
theorem dX6_widestOf_12 : decode cX6_widestOf 12 = .ok (.iload_n 1, 1) := by decide +kernel
theorem dX6_widestOf_13 : decode cX6_widestOf 13 = .ok (.aload_n 0, 1) := by decide +kernel
theorem dX6_widestOf_14 : decode cX6_widestOf 14 = .ok (.getfield 24, 3) := by decide +kernel
theorem dX6_widestOf_17 : decode cX6_widestOf 17 = .ok (.iload_n 2, 1) := by decide +kernel
theorem dX6_widestOf_18 : decode cX6_widestOf 18 = .ok (.iaload, 1) := by decide +kernel
theorem dX6_widestOf_19 : decode cX6_widestOf 19 = .ok (.invokestatic 27, 3) := by decide +kernel
theorem dX6_widestOf_22 : decode cX6_widestOf 22 = .ok (.invokestatic 33, 3) := by decide +kernel
theorem dX6_widestOf_25 : decode cX6_widestOf 25 = .ok (.istore_n 1, 1) := by decide +kernel
theorem dX6_widestOf_26 : decode cX6_widestOf 26 = .ok (.iinc 2 1, 3) := by decide +kernel
theorem dX6_widestOf_29 : decode cX6_widestOf 29 = .ok (.goto (-25), 3) := by decide +kernel
theorem dX6_widestOf_32 : decode cX6_widestOf 32 = .ok (.iload_n 1, 1) := by decide +kernel
theorem dX6_widestOf_33 : decode cX6_widestOf 33 = .ok (.ireturn, 1) := by decide +kernel
set_option maxRecDepth 20000 in
theorem ggX6_deepOf_X2_isGround : GoodIn wsX6_deepOf wsX2_isGround := goodIn_r _ [13, 14, 15, 16, 17, 18, 19, 20, 21] (by decide +kernel) (by decide +kernel)
set_option maxRecDepth 20000 in
theorem gX6_deepOf_X2_isGround : GoodIn wsX6_deepOf (wsV RX6 39 RX2 yX2_isGround wsX2_isGround) := goodIn_app (goodIn_of _ (by decide +kernel)) ggX6_deepOf_X2_isGround
theorem dX6_deepOf_0 : decode cX6_deepOf 0 = .ok (.iconst 0, 1) := by decide +kernel
theorem dX6_deepOf_1 : decode cX6_deepOf 1 = .ok (.istore_n 2, 1) := by decide +kernel
theorem dX6_deepOf_2 : decode cX6_deepOf 2 = .ok (.iload_n 2, 1) := by decide +kernel
theorem dX6_deepOf_3 : decode cX6_deepOf 3 = .ok (.aload_n 1, 1) := by decide +kernel
theorem dX6_deepOf_4 : decode cX6_deepOf 4 = .ok (.getfield 18, 3) := by decide +kernel
theorem dX6_deepOf_7 : decode cX6_deepOf 7 = .ok (.if_icmp .ge 54, 3) := by decide +kernel
theorem dX6_deepOf_10 : decode cX6_deepOf 10 = .ok (.aload_n 0, 1) := by decide +kernel
theorem dX6_deepOf_11 : decode cX6_deepOf 11 = .ok (.getfield 9, 3) := by decide +kernel
theorem dX6_deepOf_14 : decode cX6_deepOf 14 = .ok (.iload_n 2, 1) := by decide +kernel
theorem dX6_deepOf_15 : decode cX6_deepOf 15 = .ok (.aload_n 1, 1) := by decide +kernel
theorem dX6_deepOf_16 : decode cX6_deepOf 16 = .ok (.iload_n 2, 1) := by decide +kernel
theorem dX6_deepOf_17 : decode cX6_deepOf 17 = .ok (.invokevirtual 39, 3) := by decide +kernel
theorem dX6_deepOf_20 : decode cX6_deepOf 20 = .ok (.ifCond .eq 7, 3) := by decide +kernel
theorem dX6_deepOf_23 : decode cX6_deepOf 23 = .ok (.iconst 0, 1) := by decide +kernel
theorem dX6_deepOf_24 : decode cX6_deepOf 24 = .ok (.goto 30, 3) := by decide +kernel
theorem dX6_deepOf_27 : decode cX6_deepOf 27 = .ok (.iconst 1, 1) := by decide +kernel
theorem dX6_deepOf_28 : decode cX6_deepOf 28 = .ok (.aload_n 0, 1) := by decide +kernel
theorem dX6_deepOf_29 : decode cX6_deepOf 29 = .ok (.getfield 9, 3) := by decide +kernel
theorem dX6_deepOf_32 : decode cX6_deepOf 32 = .ok (.aload_n 1, 1) := by decide +kernel
theorem dX6_deepOf_33 : decode cX6_deepOf 33 = .ok (.getfield 43, 3) := by decide +kernel
theorem dX6_deepOf_36 : decode cX6_deepOf 36 = .ok (.iload_n 2, 1) := by decide +kernel
theorem dX6_deepOf_37 : decode cX6_deepOf 37 = .ok (.iaload, 1) := by decide +kernel
theorem dX6_deepOf_38 : decode cX6_deepOf 38 = .ok (.iaload, 1) := by decide +kernel
theorem dX6_deepOf_39 : decode cX6_deepOf 39 = .ok (.aload_n 0, 1) := by decide +kernel
theorem dX6_deepOf_40 : decode cX6_deepOf 40 = .ok (.getfield 9, 3) := by decide +kernel
theorem dX6_deepOf_43 : decode cX6_deepOf 43 = .ok (.aload_n 1, 1) := by decide +kernel
theorem dX6_deepOf_44 : decode cX6_deepOf 44 = .ok (.getfield 46, 3) := by decide +kernel
theorem dX6_deepOf_47 : decode cX6_deepOf 47 = .ok (.iload_n 2, 1) := by decide +kernel
theorem dX6_deepOf_48 : decode cX6_deepOf 48 = .ok (.iaload, 1) := by decide +kernel
theorem dX6_deepOf_49 : decode cX6_deepOf 49 = .ok (.iaload, 1) := by decide +kernel
theorem dX6_deepOf_50 : decode cX6_deepOf 50 = .ok (.invokestatic 33, 3) := by decide +kernel
theorem dX6_deepOf_53 : decode cX6_deepOf 53 = .ok (.iadd, 1) := by decide +kernel
theorem dX6_deepOf_54 : decode cX6_deepOf 54 = .ok (.iastore, 1) := by decide +kernel
theorem dX6_deepOf_55 : decode cX6_deepOf 55 = .ok (.iinc 2 1, 3) := by decide +kernel
theorem dX6_deepOf_58 : decode cX6_deepOf 58 = .ok (.goto (-56), 3) := by decide +kernel
theorem dX6_deepOf_61 : decode cX6_deepOf 61 = .ok (.aload_n 0, 1) := by decide +kernel
theorem dX6_deepOf_62 : decode cX6_deepOf 62 = .ok (.getfield 9, 3) := by decide +kernel
theorem dX6_deepOf_65 : decode cX6_deepOf 65 = .ok (.aload_n 1, 1) := by decide +kernel
theorem dX6_deepOf_66 : decode cX6_deepOf 66 = .ok (.getfield 18, 3) := by decide +kernel
theorem dX6_deepOf_69 : decode cX6_deepOf 69 = .ok (.iconst 1, 1) := by decide +kernel
theorem dX6_deepOf_70 : decode cX6_deepOf 70 = .ok (.isub, 1) := by decide +kernel
theorem dX6_deepOf_71 : decode cX6_deepOf 71 = .ok (.iaload, 1) := by decide +kernel
theorem dX6_deepOf_72 : decode cX6_deepOf 72 = .ok (.ireturn, 1) := by decide +kernel
set_option maxRecDepth 20000 in
theorem ggX6_keptOf_X2_isGround : GoodIn wsX6_keptOf wsX2_isGround := goodIn_r _ [13, 14, 15, 16, 17, 18, 19, 20, 21] (by decide +kernel) (by decide +kernel)
set_option maxRecDepth 20000 in
theorem gX6_keptOf_X2_isGround : GoodIn wsX6_keptOf (wsV RX6 39 RX2 yX2_isGround wsX2_isGround) := goodIn_app (goodIn_of _ (by decide +kernel)) ggX6_keptOf_X2_isGround
theorem dX6_keptOf_0 : decode cX6_keptOf 0 = .ok (.iconst 0, 1) := by decide +kernel
theorem dX6_keptOf_1 : decode cX6_keptOf 1 = .ok (.istore_n 2, 1) := by decide +kernel
theorem dX6_keptOf_2 : decode cX6_keptOf 2 = .ok (.iload_n 2, 1) := by decide +kernel
theorem dX6_keptOf_3 : decode cX6_keptOf 3 = .ok (.aload_n 1, 1) := by decide +kernel
theorem dX6_keptOf_4 : decode cX6_keptOf 4 = .ok (.getfield 18, 3) := by decide +kernel
theorem dX6_keptOf_7 : decode cX6_keptOf 7 = .ok (.if_icmp .ge 48, 3) := by decide +kernel
theorem dX6_keptOf_10 : decode cX6_keptOf 10 = .ok (.aload_n 0, 1) := by decide +kernel
theorem dX6_keptOf_11 : decode cX6_keptOf 11 = .ok (.getfield 15, 3) := by decide +kernel
theorem dX6_keptOf_14 : decode cX6_keptOf 14 = .ok (.iload_n 2, 1) := by decide +kernel
theorem dX6_keptOf_15 : decode cX6_keptOf 15 = .ok (.iload_n 2, 1) := by decide +kernel
theorem dX6_keptOf_16 : decode cX6_keptOf 16 = .ok (.iastore, 1) := by decide +kernel
theorem dX6_keptOf_17 : decode cX6_keptOf 17 = .ok (.aload_n 1, 1) := by decide +kernel
theorem dX6_keptOf_18 : decode cX6_keptOf 18 = .ok (.iload_n 2, 1) := by decide +kernel
theorem dX6_keptOf_19 : decode cX6_keptOf 19 = .ok (.invokevirtual 39, 3) := by decide +kernel
theorem dX6_keptOf_22 : decode cX6_keptOf 22 = .ok (.ifCond .ne 27, 3) := by decide +kernel
theorem dX6_keptOf_25 : decode cX6_keptOf 25 = .ok (.aload_n 0, 1) := by decide +kernel
theorem dX6_keptOf_26 : decode cX6_keptOf 26 = .ok (.getfield 15, 3) := by decide +kernel
theorem dX6_keptOf_29 : decode cX6_keptOf 29 = .ok (.aload_n 1, 1) := by decide +kernel
theorem dX6_keptOf_30 : decode cX6_keptOf 30 = .ok (.getfield 43, 3) := by decide +kernel
theorem dX6_keptOf_33 : decode cX6_keptOf 33 = .ok (.iload_n 2, 1) := by decide +kernel
theorem dX6_keptOf_34 : decode cX6_keptOf 34 = .ok (.iaload, 1) := by decide +kernel
theorem dX6_keptOf_35 : decode cX6_keptOf 35 = .ok (.iload_n 2, 1) := by decide +kernel
theorem dX6_keptOf_36 : decode cX6_keptOf 36 = .ok (.iastore, 1) := by decide +kernel
theorem dX6_keptOf_37 : decode cX6_keptOf 37 = .ok (.aload_n 0, 1) := by decide +kernel
theorem dX6_keptOf_38 : decode cX6_keptOf 38 = .ok (.getfield 15, 3) := by decide +kernel
theorem dX6_keptOf_41 : decode cX6_keptOf 41 = .ok (.aload_n 1, 1) := by decide +kernel
theorem dX6_keptOf_42 : decode cX6_keptOf 42 = .ok (.getfield 46, 3) := by decide +kernel
theorem dX6_keptOf_45 : decode cX6_keptOf 45 = .ok (.iload_n 2, 1) := by decide +kernel
theorem dX6_keptOf_46 : decode cX6_keptOf 46 = .ok (.iaload, 1) := by decide +kernel
theorem dX6_keptOf_47 : decode cX6_keptOf 47 = .ok (.iload_n 2, 1) := by decide +kernel
theorem dX6_keptOf_48 : decode cX6_keptOf 48 = .ok (.iastore, 1) := by decide +kernel
theorem dX6_keptOf_49 : decode cX6_keptOf 49 = .ok (.iinc 2 1, 3) := by decide +kernel
theorem dX6_keptOf_52 : decode cX6_keptOf 52 = .ok (.goto (-50), 3) := by decide +kernel
theorem dX6_keptOf_55 : decode cX6_keptOf 55 = .ok (.iconst 0, 1) := by decide +kernel
theorem dX6_keptOf_56 : decode cX6_keptOf 56 = .ok (.istore_n 2, 1) := by decide +kernel
theorem dX6_keptOf_57 : decode cX6_keptOf 57 = .ok (.iconst 0, 1) := by decide +kernel
theorem dX6_keptOf_58 : decode cX6_keptOf 58 = .ok (.istore_n 3, 1) := by decide +kernel
theorem dX6_keptOf_59 : decode cX6_keptOf 59 = .ok (.iload_n 3, 1) := by decide +kernel
theorem dX6_keptOf_60 : decode cX6_keptOf 60 = .ok (.aload_n 1, 1) := by decide +kernel
theorem dX6_keptOf_61 : decode cX6_keptOf 61 = .ok (.getfield 18, 3) := by decide +kernel
theorem dX6_keptOf_64 : decode cX6_keptOf 64 = .ok (.if_icmp .ge 48, 3) := by decide +kernel
theorem dX6_keptOf_67 : decode cX6_keptOf 67 = .ok (.iconst 0, 1) := by decide +kernel
theorem dX6_keptOf_68 : decode cX6_keptOf 68 = .ok (.istore 4, 2) := by decide +kernel
theorem dX6_keptOf_70 : decode cX6_keptOf 70 = .ok (.iconst 0, 1) := by decide +kernel
theorem dX6_keptOf_71 : decode cX6_keptOf 71 = .ok (.istore 5, 2) := by decide +kernel
theorem dX6_keptOf_73 : decode cX6_keptOf 73 = .ok (.iload 5, 2) := by decide +kernel
theorem dX6_keptOf_75 : decode cX6_keptOf 75 = .ok (.iload_n 3, 1) := by decide +kernel
theorem dX6_keptOf_76 : decode cX6_keptOf 76 = .ok (.if_icmp .gt 23, 3) := by decide +kernel
theorem dX6_keptOf_79 : decode cX6_keptOf 79 = .ok (.aload_n 0, 1) := by decide +kernel
theorem dX6_keptOf_80 : decode cX6_keptOf 80 = .ok (.getfield 15, 3) := by decide +kernel
theorem dX6_keptOf_83 : decode cX6_keptOf 83 = .ok (.iload 5, 2) := by decide +kernel
theorem dX6_keptOf_85 : decode cX6_keptOf 85 = .ok (.iaload, 1) := by decide +kernel
theorem dX6_keptOf_86 : decode cX6_keptOf 86 = .ok (.iload_n 3, 1) := by decide +kernel
theorem dX6_keptOf_87 : decode cX6_keptOf 87 = .ok (.if_icmp .lt 6, 3) := by decide +kernel
theorem dX6_keptOf_90 : decode cX6_keptOf 90 = .ok (.iinc 4 1, 3) := by decide +kernel
theorem dX6_keptOf_93 : decode cX6_keptOf 93 = .ok (.iinc 5 1, 3) := by decide +kernel
theorem dX6_keptOf_96 : decode cX6_keptOf 96 = .ok (.goto (-23), 3) := by decide +kernel
theorem dX6_keptOf_99 : decode cX6_keptOf 99 = .ok (.iload_n 2, 1) := by decide +kernel
theorem dX6_keptOf_100 : decode cX6_keptOf 100 = .ok (.iload 4, 2) := by decide +kernel
theorem dX6_keptOf_102 : decode cX6_keptOf 102 = .ok (.invokestatic 33, 3) := by decide +kernel
theorem dX6_keptOf_105 : decode cX6_keptOf 105 = .ok (.istore_n 2, 1) := by decide +kernel
theorem dX6_keptOf_106 : decode cX6_keptOf 106 = .ok (.iinc 3 1, 3) := by decide +kernel
theorem dX6_keptOf_109 : decode cX6_keptOf 109 = .ok (.goto (-50), 3) := by decide +kernel
theorem dX6_keptOf_112 : decode cX6_keptOf 112 = .ok (.iload_n 2, 1) := by decide +kernel
theorem dX6_keptOf_113 : decode cX6_keptOf 113 = .ok (.ireturn, 1) := by decide +kernel
theorem dX7_codeOf_0 : decode cX7_codeOf 0 = .ok (.iload_n 0, 1) := by decide +kernel
theorem dX7_codeOf_1 : decode cX7_codeOf 1 = .ok (.bipush 7, 2) := by decide +kernel
theorem dX7_codeOf_3 : decode cX7_codeOf 3 = .ok (.iand, 1) := by decide +kernel
theorem dX7_codeOf_4 : decode cX7_codeOf 4 = .ok (.iload_n 0, 1) := by decide +kernel
theorem dX7_codeOf_5 : decode cX7_codeOf 5 = .ok (.bipush 6, 2) := by decide +kernel
theorem dX7_codeOf_7 : decode cX7_codeOf 7 = .ok (.ishr, 1) := by decide +kernel
theorem dX7_codeOf_8 : decode cX7_codeOf 8 = .ok (.bipush 7, 2) := by decide +kernel
theorem dX7_codeOf_10 : decode cX7_codeOf 10 = .ok (.iand, 1) := by decide +kernel
theorem dX7_codeOf_11 : decode cX7_codeOf 11 = .ok (.iconst 3, 1) := by decide +kernel
theorem dX7_codeOf_12 : decode cX7_codeOf 12 = .ok (.ishl, 1) := by decide +kernel
theorem dX7_codeOf_13 : decode cX7_codeOf 13 = .ok (.ior, 1) := by decide +kernel
theorem dX7_codeOf_14 : decode cX7_codeOf 14 = .ok (.ireturn, 1) := by decide +kernel
set_option maxRecDepth 20000 in
theorem ggX7_fewestCuts_X7_codeOf : GoodIn wsX7_fewestCuts wsX7_codeOf := goodIn_r _ [7] (by decide +kernel) (by decide +kernel)
set_option maxRecDepth 20000 in
theorem gX7_fewestCuts_X7_codeOf : GoodIn wsX7_fewestCuts (va_wsS RX7 22 yX7_codeOf wsX7_codeOf) := goodIn_app (goodIn_of _ (by decide +kernel)) ggX7_fewestCuts_X7_codeOf
set_option maxRecDepth 20000 in
theorem ggX7_fewestCuts_X0_isPart : GoodIn wsX7_fewestCuts wsX0_isPart := goodIn_r _ [11] (by decide +kernel) (by decide +kernel)
set_option maxRecDepth 20000 in
theorem gX7_fewestCuts_X0_isPart : GoodIn wsX7_fewestCuts (va_wsS RX7 28 yX0_isPart wsX0_isPart) := goodIn_app (goodIn_of _ (by decide +kernel)) ggX7_fewestCuts_X0_isPart
set_option maxRecDepth 20000 in
theorem ggX7_fewestCuts_X9_isIn : GoodIn wsX7_fewestCuts wsX9_isIn := goodIn_r _ [14] (by decide +kernel) (by decide +kernel)
set_option maxRecDepth 20000 in
theorem gX7_fewestCuts_X9_isIn_n34 : GoodIn wsX7_fewestCuts (wsX9_isIn) := ggX7_fewestCuts_X9_isIn
set_option maxRecDepth 20000 in
theorem ggX7_fewestCuts_X7_cutsWith : GoodIn wsX7_fewestCuts wsX7_cutsWith := goodIn_r _ [17, 12, 13, 14, 18, 19, 20, 21, 22, 23, 24] (by decide +kernel) (by decide +kernel)
set_option maxRecDepth 20000 in
theorem gX7_fewestCuts_X7_cutsWith : GoodIn wsX7_fewestCuts (va_wsS RX7 38 yX7_cutsWith wsX7_cutsWith) := goodIn_app (goodIn_of _ (by decide +kernel)) ggX7_fewestCuts_X7_cutsWith
set_option maxRecDepth 20000 in
theorem ggX7_fewestCuts_X7_furtherCuts : GoodIn wsX7_fewestCuts wsX7_furtherCuts := goodIn_r _ [27, 28, 12, 13, 14, 15, 16, 6, 17, 18, 19, 20, 21, 22, 23, 24, 25, 26] (by decide +kernel) (by decide +kernel)
set_option maxRecDepth 20000 in
theorem gX7_fewestCuts_X7_furtherCuts : GoodIn wsX7_fewestCuts (va_wsS RX7 42 yX7_furtherCuts wsX7_furtherCuts) := goodIn_app (goodIn_of _ (by decide +kernel)) ggX7_fewestCuts_X7_furtherCuts
theorem dX7_fewestCuts_0 : decode cX7_fewestCuts 0 = .ok (.lconst 0, 1) := by decide +kernel
theorem dX7_fewestCuts_1 : decode cX7_fewestCuts 1 = .ok (.lstore_n 2, 1) := by decide +kernel
theorem dX7_fewestCuts_2 : decode cX7_fewestCuts 2 = .ok (.iconst 0, 1) := by decide +kernel
theorem dX7_fewestCuts_3 : decode cX7_fewestCuts 3 = .ok (.istore 4, 2) := by decide +kernel
theorem dX7_fewestCuts_5 : decode cX7_fewestCuts 5 = .ok (.iload 4, 2) := by decide +kernel
theorem dX7_fewestCuts_7 : decode cX7_fewestCuts 7 = .ok (.aload_n 0, 1) := by decide +kernel
theorem dX7_fewestCuts_8 : decode cX7_fewestCuts 8 = .ok (.getfield 9, 3) := by decide +kernel
theorem dX7_fewestCuts_11 : decode cX7_fewestCuts 11 = .ok (.if_icmp .ge 29, 3) := by decide +kernel
theorem dX7_fewestCuts_14 : decode cX7_fewestCuts 14 = .ok (.lload_n 2, 1) := by decide +kernel
theorem dX7_fewestCuts_15 : decode cX7_fewestCuts 15 = .ok (.lconst 1, 1) := by decide +kernel
theorem dX7_fewestCuts_16 : decode cX7_fewestCuts 16 = .ok (.aload_n 0, 1) := by decide +kernel
theorem dX7_fewestCuts_17 : decode cX7_fewestCuts 17 = .ok (.getfield 15, 3) := by decide +kernel
theorem dX7_fewestCuts_20 : decode cX7_fewestCuts 20 = .ok (.aload_n 0, 1) := by decide +kernel
theorem dX7_fewestCuts_21 : decode cX7_fewestCuts 21 = .ok (.getfield 19, 3) := by decide +kernel
theorem dX7_fewestCuts_24 : decode cX7_fewestCuts 24 = .ok (.iload 4, 2) := by decide +kernel
theorem dX7_fewestCuts_26 : decode cX7_fewestCuts 26 = .ok (.iaload, 1) := by decide +kernel
theorem dX7_fewestCuts_27 : decode cX7_fewestCuts 27 = .ok (.iaload, 1) := by decide +kernel
theorem dX7_fewestCuts_28 : decode cX7_fewestCuts 28 = .ok (.invokestatic 22, 3) := by decide +kernel
theorem dX7_fewestCuts_31 : decode cX7_fewestCuts 31 = .ok (.lshl, 1) := by decide +kernel
theorem dX7_fewestCuts_32 : decode cX7_fewestCuts 32 = .ok (.lor, 1) := by decide +kernel
theorem dX7_fewestCuts_33 : decode cX7_fewestCuts 33 = .ok (.lstore_n 2, 1) := by decide +kernel
theorem dX7_fewestCuts_34 : decode cX7_fewestCuts 34 = .ok (.iinc 4 1, 3) := by decide +kernel
theorem dX7_fewestCuts_37 : decode cX7_fewestCuts 37 = .ok (.goto (-32), 3) := by decide +kernel
theorem dX7_fewestCuts_40 : decode cX7_fewestCuts 40 = .ok (.lconst 0, 1) := by decide +kernel
theorem dX7_fewestCuts_41 : decode cX7_fewestCuts 41 = .ok (.lstore 4, 2) := by decide +kernel
theorem dX7_fewestCuts_43 : decode cX7_fewestCuts 43 = .ok (.lconst 0, 1) := by decide +kernel
theorem dX7_fewestCuts_44 : decode cX7_fewestCuts 44 = .ok (.lstore 6, 2) := by decide +kernel
theorem dX7_fewestCuts_46 : decode cX7_fewestCuts 46 = .ok (.iconst 0, 1) := by decide +kernel
theorem dX7_fewestCuts_47 : decode cX7_fewestCuts 47 = .ok (.istore 8, 2) := by decide +kernel
theorem dX7_fewestCuts_49 : decode cX7_fewestCuts 49 = .ok (.iload 8, 2) := by decide +kernel
theorem dX7_fewestCuts_51 : decode cX7_fewestCuts 51 = .ok (.bipush 64, 2) := by decide +kernel
theorem dX7_fewestCuts_53 : decode cX7_fewestCuts 53 = .ok (.if_icmp .ge 50, 3) := by decide +kernel
theorem dX7_fewestCuts_56 : decode cX7_fewestCuts 56 = .ok (.iload 8, 2) := by decide +kernel
theorem dX7_fewestCuts_58 : decode cX7_fewestCuts 58 = .ok (.iload_n 1, 1) := by decide +kernel
theorem dX7_fewestCuts_59 : decode cX7_fewestCuts 59 = .ok (.invokestatic 22, 3) := by decide +kernel
theorem dX7_fewestCuts_62 : decode cX7_fewestCuts 62 = .ok (.invokestatic 28, 3) := by decide +kernel
theorem dX7_fewestCuts_65 : decode cX7_fewestCuts 65 = .ok (.ifCond .eq 12, 3) := by decide +kernel
theorem dX7_fewestCuts_68 : decode cX7_fewestCuts 68 = .ok (.lload 4, 2) := by decide +kernel
theorem dX7_fewestCuts_70 : decode cX7_fewestCuts 70 = .ok (.lconst 1, 1) := by decide +kernel
theorem dX7_fewestCuts_71 : decode cX7_fewestCuts 71 = .ok (.iload 8, 2) := by decide +kernel
theorem dX7_fewestCuts_73 : decode cX7_fewestCuts 73 = .ok (.lshl, 1) := by decide +kernel
theorem dX7_fewestCuts_74 : decode cX7_fewestCuts 74 = .ok (.lor, 1) := by decide +kernel
theorem dX7_fewestCuts_75 : decode cX7_fewestCuts 75 = .ok (.lstore 4, 2) := by decide +kernel
theorem dX7_fewestCuts_77 : decode cX7_fewestCuts 77 = .ok (.iload 8, 2) := by decide +kernel
theorem dX7_fewestCuts_79 : decode cX7_fewestCuts 79 = .ok (.lload_n 2, 1) := by decide +kernel
theorem dX7_fewestCuts_80 : decode cX7_fewestCuts 80 = .ok (.invokestatic 34, 3) := by decide +kernel
theorem dX7_fewestCuts_83 : decode cX7_fewestCuts 83 = .ok (.ifCond .eq 14, 3) := by decide +kernel
theorem dX7_fewestCuts_86 : decode cX7_fewestCuts 86 = .ok (.lload 6, 2) := by decide +kernel
theorem dX7_fewestCuts_88 : decode cX7_fewestCuts 88 = .ok (.iload 8, 2) := by decide +kernel
theorem dX7_fewestCuts_90 : decode cX7_fewestCuts 90 = .ok (.lload_n 2, 1) := by decide +kernel
theorem dX7_fewestCuts_91 : decode cX7_fewestCuts 91 = .ok (.invokestatic 38, 3) := by decide +kernel
theorem dX7_fewestCuts_94 : decode cX7_fewestCuts 94 = .ok (.lor, 1) := by decide +kernel
theorem dX7_fewestCuts_95 : decode cX7_fewestCuts 95 = .ok (.lstore 6, 2) := by decide +kernel
theorem dX7_fewestCuts_97 : decode cX7_fewestCuts 97 = .ok (.iinc 8 1, 3) := by decide +kernel
theorem dX7_fewestCuts_100 : decode cX7_fewestCuts 100 = .ok (.goto (-51), 3) := by decide +kernel
theorem dX7_fewestCuts_103 : decode cX7_fewestCuts 103 = .ok (.lload_n 2, 1) := by decide +kernel
theorem dX7_fewestCuts_104 : decode cX7_fewestCuts 104 = .ok (.lload 4, 2) := by decide +kernel
theorem dX7_fewestCuts_106 : decode cX7_fewestCuts 106 = .ok (.land, 1) := by decide +kernel
theorem dX7_fewestCuts_107 : decode cX7_fewestCuts 107 = .ok (.lconst 0, 1) := by decide +kernel
theorem dX7_fewestCuts_108 : decode cX7_fewestCuts 108 = .ok (.lcmp, 1) := by decide +kernel
theorem dX7_fewestCuts_109 : decode cX7_fewestCuts 109 = .ok (.ifCond .eq 7, 3) := by decide +kernel
theorem dX7_fewestCuts_112 : decode cX7_fewestCuts 112 = .ok (.iconst 0, 1) := by decide +kernel
theorem dX7_fewestCuts_113 : decode cX7_fewestCuts 113 = .ok (.goto 12, 3) := by decide +kernel
theorem dX7_fewestCuts_116 : decode cX7_fewestCuts 116 = .ok (.lload_n 2, 1) := by decide +kernel
theorem dX7_fewestCuts_117 : decode cX7_fewestCuts 117 = .ok (.lload 6, 2) := by decide +kernel
theorem dX7_fewestCuts_119 : decode cX7_fewestCuts 119 = .ok (.lload 4, 2) := by decide +kernel
theorem dX7_fewestCuts_121 : decode cX7_fewestCuts 121 = .ok (.iconst 3, 1) := by decide +kernel
theorem dX7_fewestCuts_122 : decode cX7_fewestCuts 122 = .ok (.invokestatic 42, 3) := by decide +kernel
theorem dX7_fewestCuts_125 : decode cX7_fewestCuts 125 = .ok (.ireturn, 1) := by decide +kernel
set_option maxRecDepth 20000 in
theorem ggX7_cutsWith_X9_isIn : GoodIn wsX7_cutsWith wsX9_isIn := goodIn_r _ [3] (by decide +kernel) (by decide +kernel)
set_option maxRecDepth 20000 in
theorem gX7_cutsWith_X9_isIn_n34 : GoodIn wsX7_cutsWith (wsX9_isIn) := ggX7_cutsWith_X9_isIn
set_option maxRecDepth 20000 in
theorem ggX7_cutsWith_J6_bitCount_0f7a4 : GoodIn wsX7_cutsWith wsJ6_bitCount_0f7a4 := goodIn_r _ [7, 8, 9, 10] (by decide +kernel) (by decide +kernel)
set_option maxRecDepth 20000 in
theorem gX7_cutsWith_J6_bitCount_0f7a4 : GoodIn wsX7_cutsWith (va_wsS RX7 46 yJ6_bitCount_0f7a4 wsJ6_bitCount_0f7a4) := goodIn_app (goodIn_of _ (by decide +kernel)) ggX7_cutsWith_J6_bitCount_0f7a4
theorem dX7_cutsWith_0 : decode cX7_cutsWith 0 = .ok (.lconst 0, 1) := by decide +kernel
theorem dX7_cutsWith_1 : decode cX7_cutsWith 1 = .ok (.lstore_n 3, 1) := by decide +kernel
theorem dX7_cutsWith_2 : decode cX7_cutsWith 2 = .ok (.iconst 0, 1) := by decide +kernel
theorem dX7_cutsWith_3 : decode cX7_cutsWith 3 = .ok (.istore 5, 2) := by decide +kernel
theorem dX7_cutsWith_5 : decode cX7_cutsWith 5 = .ok (.iload 5, 2) := by decide +kernel
theorem dX7_cutsWith_7 : decode cX7_cutsWith 7 = .ok (.bipush 64, 2) := by decide +kernel
theorem dX7_cutsWith_9 : decode cX7_cutsWith 9 = .ok (.if_icmp .ge 67, 3) := by decide +kernel
theorem dX7_cutsWith_12 : decode cX7_cutsWith 12 = .ok (.iload 5, 2) := by decide +kernel
theorem dX7_cutsWith_14 : decode cX7_cutsWith 14 = .ok (.lload_n 1, 1) := by decide +kernel
theorem dX7_cutsWith_15 : decode cX7_cutsWith 15 = .ok (.invokestatic 34, 3) := by decide +kernel
theorem dX7_cutsWith_18 : decode cX7_cutsWith 18 = .ok (.ifCond .ne 6, 3) := by decide +kernel
theorem dX7_cutsWith_21 : decode cX7_cutsWith 21 = .ok (.goto 49, 3) := by decide +kernel
theorem dX7_cutsWith_24 : decode cX7_cutsWith 24 = .ok (.iload_n 0, 1) := by decide +kernel
theorem dX7_cutsWith_25 : decode cX7_cutsWith 25 = .ok (.iload 5, 2) := by decide +kernel
theorem dX7_cutsWith_27 : decode cX7_cutsWith 27 = .ok (.iconst 3, 1) := by decide +kernel
theorem dX7_cutsWith_28 : decode cX7_cutsWith 28 = .ok (.ishr, 1) := by decide +kernel
theorem dX7_cutsWith_29 : decode cX7_cutsWith 29 = .ok (.iand, 1) := by decide +kernel
theorem dX7_cutsWith_30 : decode cX7_cutsWith 30 = .ok (.iload_n 0, 1) := by decide +kernel
theorem dX7_cutsWith_31 : decode cX7_cutsWith 31 = .ok (.iconst 3, 1) := by decide +kernel
theorem dX7_cutsWith_32 : decode cX7_cutsWith 32 = .ok (.ishr, 1) := by decide +kernel
theorem dX7_cutsWith_33 : decode cX7_cutsWith 33 = .ok (.iload 5, 2) := by decide +kernel
theorem dX7_cutsWith_35 : decode cX7_cutsWith 35 = .ok (.iand, 1) := by decide +kernel
theorem dX7_cutsWith_36 : decode cX7_cutsWith 36 = .ok (.ior, 1) := by decide +kernel
theorem dX7_cutsWith_37 : decode cX7_cutsWith 37 = .ok (.bipush 7, 2) := by decide +kernel
theorem dX7_cutsWith_39 : decode cX7_cutsWith 39 = .ok (.iand, 1) := by decide +kernel
theorem dX7_cutsWith_40 : decode cX7_cutsWith 40 = .ok (.istore 6, 2) := by decide +kernel
theorem dX7_cutsWith_42 : decode cX7_cutsWith 42 = .ok (.iload 6, 2) := by decide +kernel
theorem dX7_cutsWith_44 : decode cX7_cutsWith 44 = .ok (.invokestatic 46, 3) := by decide +kernel
theorem dX7_cutsWith_47 : decode cX7_cutsWith 47 = .ok (.iconst 1, 1) := by decide +kernel
theorem dX7_cutsWith_48 : decode cX7_cutsWith 48 = .ok (.if_icmp .ne 22, 3) := by decide +kernel
theorem dX7_cutsWith_51 : decode cX7_cutsWith 51 = .ok (.lload_n 3, 1) := by decide +kernel
theorem dX7_cutsWith_52 : decode cX7_cutsWith 52 = .ok (.lconst 1, 1) := by decide +kernel
theorem dX7_cutsWith_53 : decode cX7_cutsWith 53 = .ok (.iload_n 0, 1) := by decide +kernel
theorem dX7_cutsWith_54 : decode cX7_cutsWith 54 = .ok (.iload 5, 2) := by decide +kernel
theorem dX7_cutsWith_56 : decode cX7_cutsWith 56 = .ok (.ior, 1) := by decide +kernel
theorem dX7_cutsWith_57 : decode cX7_cutsWith 57 = .ok (.iload 6, 2) := by decide +kernel
theorem dX7_cutsWith_59 : decode cX7_cutsWith 59 = .ok (.iload 6, 2) := by decide +kernel
theorem dX7_cutsWith_61 : decode cX7_cutsWith 61 = .ok (.iconst 3, 1) := by decide +kernel
theorem dX7_cutsWith_62 : decode cX7_cutsWith 62 = .ok (.ishl, 1) := by decide +kernel
theorem dX7_cutsWith_63 : decode cX7_cutsWith 63 = .ok (.ior, 1) := by decide +kernel
theorem dX7_cutsWith_64 : decode cX7_cutsWith 64 = .ok (.iconst (-1), 1) := by decide +kernel
theorem dX7_cutsWith_65 : decode cX7_cutsWith 65 = .ok (.ixor, 1) := by decide +kernel
theorem dX7_cutsWith_66 : decode cX7_cutsWith 66 = .ok (.iand, 1) := by decide +kernel
theorem dX7_cutsWith_67 : decode cX7_cutsWith 67 = .ok (.lshl, 1) := by decide +kernel
theorem dX7_cutsWith_68 : decode cX7_cutsWith 68 = .ok (.lor, 1) := by decide +kernel
theorem dX7_cutsWith_69 : decode cX7_cutsWith 69 = .ok (.lstore_n 3, 1) := by decide +kernel
theorem dX7_cutsWith_70 : decode cX7_cutsWith 70 = .ok (.iinc 5 1, 3) := by decide +kernel
theorem dX7_cutsWith_73 : decode cX7_cutsWith 73 = .ok (.goto (-68), 3) := by decide +kernel
theorem dX7_cutsWith_76 : decode cX7_cutsWith 76 = .ok (.lload_n 3, 1) := by decide +kernel
theorem dX7_cutsWith_77 : decode cX7_cutsWith 77 = .ok (.lreturn, 1) := by decide +kernel
set_option maxRecDepth 20000 in
theorem ggX7_furtherCuts_X9_isIn : GoodIn wsX7_furtherCuts wsX9_isIn := goodIn_r _ [4] (by decide +kernel) (by decide +kernel)
set_option maxRecDepth 20000 in
theorem gX7_furtherCuts_X9_isIn_n34 : GoodIn wsX7_furtherCuts (wsX9_isIn) := ggX7_furtherCuts_X9_isIn
set_option maxRecDepth 20000 in
theorem ggX7_furtherCuts_X7_cutsWith : GoodIn wsX7_furtherCuts wsX7_cutsWith := goodIn_r _ [8, 2, 3, 4, 9, 10, 11, 12, 13, 14, 15] (by decide +kernel) (by decide +kernel)
set_option maxRecDepth 20000 in
theorem gX7_furtherCuts_X7_cutsWith : GoodIn wsX7_furtherCuts (va_wsS RX7 38 yX7_cutsWith wsX7_cutsWith) := goodIn_app (goodIn_of _ (by decide +kernel)) ggX7_furtherCuts_X7_cutsWith
set_option maxRecDepth 20000 in
theorem ggX7_furtherCuts_X7_furtherCuts : GoodIn wsX7_furtherCuts wsX7_furtherCuts := goodIn_r _ [0, 1, 2, 3, 4, 5, 6, 7, 8, 9, 10, 11, 12, 13, 14, 15, 16, 17] (by decide +kernel) (by decide +kernel)
set_option maxRecDepth 20000 in
theorem gX7_furtherCuts_X7_furtherCuts : GoodIn wsX7_furtherCuts (va_wsS RX7 42 yX7_furtherCuts wsX7_furtherCuts) := goodIn_app (goodIn_of _ (by decide +kernel)) ggX7_furtherCuts_X7_furtherCuts
theorem dX7_furtherCuts_0 : decode cX7_furtherCuts 0 = .ok (.lload_n 2, 1) := by decide +kernel
theorem dX7_furtherCuts_1 : decode cX7_furtherCuts 1 = .ok (.lload 4, 2) := by decide +kernel
theorem dX7_furtherCuts_3 : decode cX7_furtherCuts 3 = .ok (.land, 1) := by decide +kernel
theorem dX7_furtherCuts_4 : decode cX7_furtherCuts 4 = .ok (.lconst 0, 1) := by decide +kernel
theorem dX7_furtherCuts_5 : decode cX7_furtherCuts 5 = .ok (.lcmp, 1) := by decide +kernel
theorem dX7_furtherCuts_6 : decode cX7_furtherCuts 6 = .ok (.ifCond .eq 5, 3) := by decide +kernel
theorem dX7_furtherCuts_9 : decode cX7_furtherCuts 9 = .ok (.iconst 1, 1) := by decide +kernel
theorem dX7_furtherCuts_10 : decode cX7_furtherCuts 10 = .ok (.ireturn, 1) := by decide +kernel
theorem dX7_furtherCuts_11 : decode cX7_furtherCuts 11 = .ok (.bipush (-9), 2) := by decide +kernel
theorem dX7_furtherCuts_13 : decode cX7_furtherCuts 13 = .ok (.istore 7, 2) := by decide +kernel
theorem dX7_furtherCuts_15 : decode cX7_furtherCuts 15 = .ok (.iconst 0, 1) := by decide +kernel
theorem dX7_furtherCuts_16 : decode cX7_furtherCuts 16 = .ok (.istore 8, 2) := by decide +kernel
theorem dX7_furtherCuts_18 : decode cX7_furtherCuts 18 = .ok (.iload 8, 2) := by decide +kernel
theorem dX7_furtherCuts_20 : decode cX7_furtherCuts 20 = .ok (.bipush 64, 2) := by decide +kernel
theorem dX7_furtherCuts_22 : decode cX7_furtherCuts 22 = .ok (.if_icmp .ge 93, 3) := by decide +kernel
theorem dX7_furtherCuts_25 : decode cX7_furtherCuts 25 = .ok (.iload 6, 2) := by decide +kernel
theorem dX7_furtherCuts_27 : decode cX7_furtherCuts 27 = .ok (.iconst 1, 1) := by decide +kernel
theorem dX7_furtherCuts_28 : decode cX7_furtherCuts 28 = .ok (.if_icmp .le 87, 3) := by decide +kernel
theorem dX7_furtherCuts_31 : decode cX7_furtherCuts 31 = .ok (.iload 7, 2) := by decide +kernel
theorem dX7_furtherCuts_33 : decode cX7_furtherCuts 33 = .ok (.iconst 2, 1) := by decide +kernel
theorem dX7_furtherCuts_34 : decode cX7_furtherCuts 34 = .ok (.if_icmp .eq 81, 3) := by decide +kernel
theorem dX7_furtherCuts_37 : decode cX7_furtherCuts 37 = .ok (.iload 8, 2) := by decide +kernel
theorem dX7_furtherCuts_39 : decode cX7_furtherCuts 39 = .ok (.lload_n 2, 1) := by decide +kernel
theorem dX7_furtherCuts_40 : decode cX7_furtherCuts 40 = .ok (.lload_n 0, 1) := by decide +kernel
theorem dX7_furtherCuts_41 : decode cX7_furtherCuts 41 = .ok (.ldc2_w 51, 3) := by decide +kernel
theorem dX7_furtherCuts_44 : decode cX7_furtherCuts 44 = .ok (.lxor, 1) := by decide +kernel
theorem dX7_furtherCuts_45 : decode cX7_furtherCuts 45 = .ok (.land, 1) := by decide +kernel
theorem dX7_furtherCuts_46 : decode cX7_furtherCuts 46 = .ok (.invokestatic 34, 3) := by decide +kernel
theorem dX7_furtherCuts_49 : decode cX7_furtherCuts 49 = .ok (.ifCond .ne 6, 3) := by decide +kernel
theorem dX7_furtherCuts_52 : decode cX7_furtherCuts 52 = .ok (.goto 57, 3) := by decide +kernel
theorem dX7_furtherCuts_55 : decode cX7_furtherCuts 55 = .ok (.lload_n 0, 1) := by decide +kernel
theorem dX7_furtherCuts_56 : decode cX7_furtherCuts 56 = .ok (.lconst 1, 1) := by decide +kernel
theorem dX7_furtherCuts_57 : decode cX7_furtherCuts 57 = .ok (.iload 8, 2) := by decide +kernel
theorem dX7_furtherCuts_59 : decode cX7_furtherCuts 59 = .ok (.lshl, 1) := by decide +kernel
theorem dX7_furtherCuts_60 : decode cX7_furtherCuts 60 = .ok (.lor, 1) := by decide +kernel
theorem dX7_furtherCuts_61 : decode cX7_furtherCuts 61 = .ok (.lload_n 2, 1) := by decide +kernel
theorem dX7_furtherCuts_62 : decode cX7_furtherCuts 62 = .ok (.iload 8, 2) := by decide +kernel
theorem dX7_furtherCuts_64 : decode cX7_furtherCuts 64 = .ok (.lload_n 0, 1) := by decide +kernel
theorem dX7_furtherCuts_65 : decode cX7_furtherCuts 65 = .ok (.invokestatic 38, 3) := by decide +kernel
theorem dX7_furtherCuts_68 : decode cX7_furtherCuts 68 = .ok (.lor, 1) := by decide +kernel
theorem dX7_furtherCuts_69 : decode cX7_furtherCuts 69 = .ok (.lload 4, 2) := by decide +kernel
theorem dX7_furtherCuts_71 : decode cX7_furtherCuts 71 = .ok (.iload 6, 2) := by decide +kernel
theorem dX7_furtherCuts_73 : decode cX7_furtherCuts 73 = .ok (.iconst 1, 1) := by decide +kernel
theorem dX7_furtherCuts_74 : decode cX7_furtherCuts 74 = .ok (.isub, 1) := by decide +kernel
theorem dX7_furtherCuts_75 : decode cX7_furtherCuts 75 = .ok (.invokestatic 42, 3) := by decide +kernel
theorem dX7_furtherCuts_78 : decode cX7_furtherCuts 78 = .ok (.istore 9, 2) := by decide +kernel
theorem dX7_furtherCuts_80 : decode cX7_furtherCuts 80 = .ok (.iload 9, 2) := by decide +kernel
theorem dX7_furtherCuts_82 : decode cX7_furtherCuts 82 = .ok (.bipush (-9), 2) := by decide +kernel
theorem dX7_furtherCuts_84 : decode cX7_furtherCuts 84 = .ok (.if_icmp .eq 25, 3) := by decide +kernel
theorem dX7_furtherCuts_87 : decode cX7_furtherCuts 87 = .ok (.iload 7, 2) := by decide +kernel
theorem dX7_furtherCuts_89 : decode cX7_furtherCuts 89 = .ok (.bipush (-9), 2) := by decide +kernel
theorem dX7_furtherCuts_91 : decode cX7_furtherCuts 91 = .ok (.if_icmp .eq 12, 3) := by decide +kernel
theorem dX7_furtherCuts_94 : decode cX7_furtherCuts 94 = .ok (.iload 9, 2) := by decide +kernel
theorem dX7_furtherCuts_96 : decode cX7_furtherCuts 96 = .ok (.iconst 1, 1) := by decide +kernel
theorem dX7_furtherCuts_97 : decode cX7_furtherCuts 97 = .ok (.iadd, 1) := by decide +kernel
theorem dX7_furtherCuts_98 : decode cX7_furtherCuts 98 = .ok (.iload 7, 2) := by decide +kernel
theorem dX7_furtherCuts_100 : decode cX7_furtherCuts 100 = .ok (.if_icmp .ge 9, 3) := by decide +kernel
theorem dX7_furtherCuts_103 : decode cX7_furtherCuts 103 = .ok (.iload 9, 2) := by decide +kernel
theorem dX7_furtherCuts_105 : decode cX7_furtherCuts 105 = .ok (.iconst 1, 1) := by decide +kernel
theorem dX7_furtherCuts_106 : decode cX7_furtherCuts 106 = .ok (.iadd, 1) := by decide +kernel
theorem dX7_furtherCuts_107 : decode cX7_furtherCuts 107 = .ok (.istore 7, 2) := by decide +kernel
theorem dX7_furtherCuts_109 : decode cX7_furtherCuts 109 = .ok (.iinc 8 1, 3) := by decide +kernel
theorem dX7_furtherCuts_112 : decode cX7_furtherCuts 112 = .ok (.goto (-94), 3) := by decide +kernel
theorem dX7_furtherCuts_115 : decode cX7_furtherCuts 115 = .ok (.iload 7, 2) := by decide +kernel
theorem dX7_furtherCuts_117 : decode cX7_furtherCuts 117 = .ok (.ireturn, 1) := by decide +kernel
set_option maxRecDepth 20000 in
theorem ggX7_isByUnits_X7_withUnits : GoodIn wsX7_isByUnits wsX7_withUnits := goodIn_r _ [7, 1, 2, 3, 8, 9, 10, 11, 12, 13, 14, 15, 16, 17, 18, 19, 20, 21, 22, 23, 24, 25, 26, 27, 28] (by decide +kernel) (by decide +kernel)
set_option maxRecDepth 20000 in
theorem gX7_isByUnits_X7_withUnits : GoodIn wsX7_isByUnits (va_wsS RX7 53 yX7_withUnits wsX7_withUnits) := goodIn_app (goodIn_of _ (by decide +kernel)) ggX7_isByUnits_X7_withUnits
set_option maxRecDepth 20000 in
theorem ggX7_isByUnits_X0_isPart : GoodIn wsX7_isByUnits wsX0_isPart := goodIn_r _ [21] (by decide +kernel) (by decide +kernel)
set_option maxRecDepth 20000 in
theorem gX7_isByUnits_X0_isPart : GoodIn wsX7_isByUnits (va_wsS RX7 28 yX0_isPart wsX0_isPart) := goodIn_app (goodIn_of _ (by decide +kernel)) ggX7_isByUnits_X0_isPart
theorem dX7_isByUnits_0 : decode cX7_isByUnits 0 = .ok (.iload_n 1, 1) := by decide +kernel
theorem dX7_isByUnits_1 : decode cX7_isByUnits 1 = .ok (.istore_n 2, 1) := by decide +kernel
theorem dX7_isByUnits_2 : decode cX7_isByUnits 2 = .ok (.iconst 0, 1) := by decide +kernel
theorem dX7_isByUnits_3 : decode cX7_isByUnits 3 = .ok (.istore_n 3, 1) := by decide +kernel
theorem dX7_isByUnits_4 : decode cX7_isByUnits 4 = .ok (.iload_n 3, 1) := by decide +kernel
theorem dX7_isByUnits_5 : decode cX7_isByUnits 5 = .ok (.bipush 6, 2) := by decide +kernel
theorem dX7_isByUnits_7 : decode cX7_isByUnits 7 = .ok (.if_icmp .ge 15, 3) := by decide +kernel
theorem dX7_isByUnits_10 : decode cX7_isByUnits 10 = .ok (.aload_n 0, 1) := by decide +kernel
theorem dX7_isByUnits_11 : decode cX7_isByUnits 11 = .ok (.iload_n 2, 1) := by decide +kernel
theorem dX7_isByUnits_12 : decode cX7_isByUnits 12 = .ok (.invokestatic 53, 3) := by decide +kernel
theorem dX7_isByUnits_15 : decode cX7_isByUnits 15 = .ok (.istore_n 2, 1) := by decide +kernel
theorem dX7_isByUnits_16 : decode cX7_isByUnits 16 = .ok (.iinc 3 1, 3) := by decide +kernel
theorem dX7_isByUnits_19 : decode cX7_isByUnits 19 = .ok (.goto (-15), 3) := by decide +kernel
theorem dX7_isByUnits_22 : decode cX7_isByUnits 22 = .ok (.iconst 0, 1) := by decide +kernel
theorem dX7_isByUnits_23 : decode cX7_isByUnits 23 = .ok (.istore_n 3, 1) := by decide +kernel
theorem dX7_isByUnits_24 : decode cX7_isByUnits 24 = .ok (.iload_n 3, 1) := by decide +kernel
theorem dX7_isByUnits_25 : decode cX7_isByUnits 25 = .ok (.aload_n 0, 1) := by decide +kernel
theorem dX7_isByUnits_26 : decode cX7_isByUnits 26 = .ok (.getfield 9, 3) := by decide +kernel
theorem dX7_isByUnits_29 : decode cX7_isByUnits 29 = .ok (.if_icmp .ge 29, 3) := by decide +kernel
theorem dX7_isByUnits_32 : decode cX7_isByUnits 32 = .ok (.aload_n 0, 1) := by decide +kernel
theorem dX7_isByUnits_33 : decode cX7_isByUnits 33 = .ok (.getfield 15, 3) := by decide +kernel
theorem dX7_isByUnits_36 : decode cX7_isByUnits 36 = .ok (.aload_n 0, 1) := by decide +kernel
theorem dX7_isByUnits_37 : decode cX7_isByUnits 37 = .ok (.getfield 19, 3) := by decide +kernel
theorem dX7_isByUnits_40 : decode cX7_isByUnits 40 = .ok (.iload_n 3, 1) := by decide +kernel
theorem dX7_isByUnits_41 : decode cX7_isByUnits 41 = .ok (.iaload, 1) := by decide +kernel
theorem dX7_isByUnits_42 : decode cX7_isByUnits 42 = .ok (.iaload, 1) := by decide +kernel
theorem dX7_isByUnits_43 : decode cX7_isByUnits 43 = .ok (.iload_n 2, 1) := by decide +kernel
theorem dX7_isByUnits_44 : decode cX7_isByUnits 44 = .ok (.invokestatic 28, 3) := by decide +kernel
theorem dX7_isByUnits_47 : decode cX7_isByUnits 47 = .ok (.ifCond .eq 5, 3) := by decide +kernel
theorem dX7_isByUnits_50 : decode cX7_isByUnits 50 = .ok (.iconst 1, 1) := by decide +kernel
theorem dX7_isByUnits_51 : decode cX7_isByUnits 51 = .ok (.ireturn, 1) := by decide +kernel
theorem dX7_isByUnits_52 : decode cX7_isByUnits 52 = .ok (.iinc 3 1, 3) := by decide +kernel
theorem dX7_isByUnits_55 : decode cX7_isByUnits 55 = .ok (.goto (-31), 3) := by decide +kernel
theorem dX7_isByUnits_58 : decode cX7_isByUnits 58 = .ok (.iconst 0, 1) := by decide +kernel
theorem dX7_isByUnits_59 : decode cX7_isByUnits 59 = .ok (.ireturn, 1) := by decide +kernel
set_option maxRecDepth 20000 in
theorem ggX7_withUnits_J6_bitCount_0f7a4 : GoodIn wsX7_withUnits wsJ6_bitCount_0f7a4 := goodIn_r _ [7, 8, 9, 10] (by decide +kernel) (by decide +kernel)
set_option maxRecDepth 20000 in
theorem gX7_withUnits_J6_bitCount_0f7a4 : GoodIn wsX7_withUnits (va_wsS RX7 46 yJ6_bitCount_0f7a4 wsJ6_bitCount_0f7a4) := goodIn_app (goodIn_of _ (by decide +kernel)) ggX7_withUnits_J6_bitCount_0f7a4
set_option maxRecDepth 20000 in
theorem ggX7_withUnits_X0_others : GoodIn wsX7_withUnits wsX0_others := goodIn_r _ [14] (by decide +kernel) (by decide +kernel)
set_option maxRecDepth 20000 in
theorem gX7_withUnits_X0_others : GoodIn wsX7_withUnits (va_wsS RX7 57 yX0_others wsX0_others) := goodIn_app (goodIn_of _ (by decide +kernel)) ggX7_withUnits_X0_others
set_option maxRecDepth 20000 in
theorem ggX7_withUnits_X0_isPart : GoodIn wsX7_withUnits wsX0_isPart := goodIn_r _ [17] (by decide +kernel) (by decide +kernel)
set_option maxRecDepth 20000 in
theorem gX7_withUnits_X0_isPart : GoodIn wsX7_withUnits (va_wsS RX7 28 yX0_isPart wsX0_isPart) := goodIn_app (goodIn_of _ (by decide +kernel)) ggX7_withUnits_X0_isPart
theorem dX7_withUnits_0 : decode cX7_withUnits 0 = .ok (.iload_n 1, 1) := by decide +kernel
theorem dX7_withUnits_1 : decode cX7_withUnits 1 = .ok (.istore_n 2, 1) := by decide +kernel
theorem dX7_withUnits_2 : decode cX7_withUnits 2 = .ok (.iconst 0, 1) := by decide +kernel
theorem dX7_withUnits_3 : decode cX7_withUnits 3 = .ok (.istore_n 3, 1) := by decide +kernel
theorem dX7_withUnits_4 : decode cX7_withUnits 4 = .ok (.iload_n 3, 1) := by decide +kernel
theorem dX7_withUnits_5 : decode cX7_withUnits 5 = .ok (.aload_n 0, 1) := by decide +kernel
theorem dX7_withUnits_6 : decode cX7_withUnits 6 = .ok (.getfield 9, 3) := by decide +kernel
theorem dX7_withUnits_9 : decode cX7_withUnits 9 = .ok (.if_icmp .ge 55, 3) := by decide +kernel
theorem dX7_withUnits_12 : decode cX7_withUnits 12 = .ok (.aload_n 0, 1) := by decide +kernel
theorem dX7_withUnits_13 : decode cX7_withUnits 13 = .ok (.getfield 15, 3) := by decide +kernel
theorem dX7_withUnits_16 : decode cX7_withUnits 16 = .ok (.aload_n 0, 1) := by decide +kernel
theorem dX7_withUnits_17 : decode cX7_withUnits 17 = .ok (.getfield 19, 3) := by decide +kernel
theorem dX7_withUnits_20 : decode cX7_withUnits 20 = .ok (.iload_n 3, 1) := by decide +kernel
theorem dX7_withUnits_21 : decode cX7_withUnits 21 = .ok (.iaload, 1) := by decide +kernel
theorem dX7_withUnits_22 : decode cX7_withUnits 22 = .ok (.iaload, 1) := by decide +kernel
theorem dX7_withUnits_23 : decode cX7_withUnits 23 = .ok (.iload_n 2, 1) := by decide +kernel
theorem dX7_withUnits_24 : decode cX7_withUnits 24 = .ok (.iconst (-1), 1) := by decide +kernel
theorem dX7_withUnits_25 : decode cX7_withUnits 25 = .ok (.ixor, 1) := by decide +kernel
theorem dX7_withUnits_26 : decode cX7_withUnits 26 = .ok (.iand, 1) := by decide +kernel
theorem dX7_withUnits_27 : decode cX7_withUnits 27 = .ok (.istore 4, 2) := by decide +kernel
theorem dX7_withUnits_29 : decode cX7_withUnits 29 = .ok (.iload 4, 2) := by decide +kernel
theorem dX7_withUnits_31 : decode cX7_withUnits 31 = .ok (.invokestatic 46, 3) := by decide +kernel
theorem dX7_withUnits_34 : decode cX7_withUnits 34 = .ok (.iconst 1, 1) := by decide +kernel
theorem dX7_withUnits_35 : decode cX7_withUnits 35 = .ok (.if_icmp .ne 23, 3) := by decide +kernel
theorem dX7_withUnits_38 : decode cX7_withUnits 38 = .ok (.iload 4, 2) := by decide +kernel
theorem dX7_withUnits_40 : decode cX7_withUnits 40 = .ok (.invokestatic 57, 3) := by decide +kernel
theorem dX7_withUnits_43 : decode cX7_withUnits 43 = .ok (.iload_n 2, 1) := by decide +kernel
theorem dX7_withUnits_44 : decode cX7_withUnits 44 = .ok (.invokestatic 28, 3) := by decide +kernel
theorem dX7_withUnits_47 : decode cX7_withUnits 47 = .ok (.ifCond .ne 11, 3) := by decide +kernel
theorem dX7_withUnits_50 : decode cX7_withUnits 50 = .ok (.iload_n 2, 1) := by decide +kernel
theorem dX7_withUnits_51 : decode cX7_withUnits 51 = .ok (.iload 4, 2) := by decide +kernel
theorem dX7_withUnits_53 : decode cX7_withUnits 53 = .ok (.invokestatic 57, 3) := by decide +kernel
theorem dX7_withUnits_56 : decode cX7_withUnits 56 = .ok (.ior, 1) := by decide +kernel
theorem dX7_withUnits_57 : decode cX7_withUnits 57 = .ok (.istore_n 2, 1) := by decide +kernel
theorem dX7_withUnits_58 : decode cX7_withUnits 58 = .ok (.iinc 3 1, 3) := by decide +kernel
theorem dX7_withUnits_61 : decode cX7_withUnits 61 = .ok (.goto (-57), 3) := by decide +kernel
theorem dX7_withUnits_64 : decode cX7_withUnits 64 = .ok (.iload_n 2, 1) := by decide +kernel
theorem dX7_withUnits_65 : decode cX7_withUnits 65 = .ok (.ireturn, 1) := by decide +kernel
theorem dX8_init_0 : decode cX8_init 0 = .ok (.aload_n 0, 1) := by decide +kernel
theorem dX8_init_1 : decode cX8_init 1 = .ok (.invokespecial 3, 3) := by decide +kernel
theorem dX8_init_4 : decode cX8_init 4 = .ok (.aload_n 0, 1) := by decide +kernel
theorem dX8_init_5 : decode cX8_init 5 = .ok (.sipush 1024, 3) := by decide +kernel
theorem dX8_init_8 : decode cX8_init 8 = .ok (.newarray .long, 2) := by decide +kernel
theorem dX8_init_10 : decode cX8_init 10 = .ok (.putfield 9, 3) := by decide +kernel
theorem dX8_init_13 : decode cX8_init 13 = .ok (.aload_n 0, 1) := by decide +kernel
theorem dX8_init_14 : decode cX8_init 14 = .ok (.bipush 48, 2) := by decide +kernel
theorem dX8_init_16 : decode cX8_init 16 = .ok (.newarray .long, 2) := by decide +kernel
theorem dX8_init_18 : decode cX8_init 18 = .ok (.putfield 15, 3) := by decide +kernel
theorem dX8_init_21 : decode cX8_init 21 = .ok (.return_, 1) := by decide +kernel
set_option maxRecDepth 20000 in
theorem ggX8_allOf_X9_isIn : GoodIn wsX8_allOf wsX9_isIn := goodIn_r _ [7] (by decide +kernel) (by decide +kernel)
set_option maxRecDepth 20000 in
theorem gX8_allOf_X9_isIn_n26 : GoodIn wsX8_allOf (wsX9_isIn) := ggX8_allOf_X9_isIn
set_option maxRecDepth 20000 in
theorem ggX8_allOf_X0_tableOf : GoodIn wsX8_allOf wsX0_tableOf := goodIn_r _ [11, 12, 13, 14, 10, 15, 16, 17, 18, 19, 20, 21] (by decide +kernel) (by decide +kernel)
set_option maxRecDepth 20000 in
theorem gX8_allOf_X0_tableOf : GoodIn wsX8_allOf (va_wsS RX8 37 yX0_tableOf wsX0_tableOf) := goodIn_app (goodIn_of _ (by decide +kernel)) ggX8_allOf_X0_tableOf
theorem dX8_allOf_0 : decode cX8_allOf 0 = .ok (.ldc2_w 18, 3) := by decide +kernel
theorem dX8_allOf_3 : decode cX8_allOf 3 = .ok (.lstore_n 2, 1) := by decide +kernel
theorem dX8_allOf_4 : decode cX8_allOf 4 = .ok (.iconst 0, 1) := by decide +kernel
theorem dX8_allOf_5 : decode cX8_allOf 5 = .ok (.istore 4, 2) := by decide +kernel
theorem dX8_allOf_7 : decode cX8_allOf 7 = .ok (.iload 4, 2) := by decide +kernel
theorem dX8_allOf_9 : decode cX8_allOf 9 = .ok (.aload_n 0, 1) := by decide +kernel
theorem dX8_allOf_10 : decode cX8_allOf 10 = .ok (.getfield 20, 3) := by decide +kernel
theorem dX8_allOf_13 : decode cX8_allOf 13 = .ok (.if_icmp .ge 37, 3) := by decide +kernel
theorem dX8_allOf_16 : decode cX8_allOf 16 = .ok (.iload 4, 2) := by decide +kernel
theorem dX8_allOf_18 : decode cX8_allOf 18 = .ok (.iload_n 1, 1) := by decide +kernel
theorem dX8_allOf_19 : decode cX8_allOf 19 = .ok (.i2l, 1) := by decide +kernel
theorem dX8_allOf_20 : decode cX8_allOf 20 = .ok (.invokestatic 26, 3) := by decide +kernel
theorem dX8_allOf_23 : decode cX8_allOf 23 = .ok (.ifCond .eq 21, 3) := by decide +kernel
theorem dX8_allOf_26 : decode cX8_allOf 26 = .ok (.lload_n 2, 1) := by decide +kernel
theorem dX8_allOf_27 : decode cX8_allOf 27 = .ok (.aload_n 0, 1) := by decide +kernel
theorem dX8_allOf_28 : decode cX8_allOf 28 = .ok (.getfield 30, 3) := by decide +kernel
theorem dX8_allOf_31 : decode cX8_allOf 31 = .ok (.aload_n 0, 1) := by decide +kernel
theorem dX8_allOf_32 : decode cX8_allOf 32 = .ok (.getfield 34, 3) := by decide +kernel
theorem dX8_allOf_35 : decode cX8_allOf 35 = .ok (.iload 4, 2) := by decide +kernel
theorem dX8_allOf_37 : decode cX8_allOf 37 = .ok (.iaload, 1) := by decide +kernel
theorem dX8_allOf_38 : decode cX8_allOf 38 = .ok (.iaload, 1) := by decide +kernel
theorem dX8_allOf_39 : decode cX8_allOf 39 = .ok (.invokestatic 37, 3) := by decide +kernel
theorem dX8_allOf_42 : decode cX8_allOf 42 = .ok (.land, 1) := by decide +kernel
theorem dX8_allOf_43 : decode cX8_allOf 43 = .ok (.lstore_n 2, 1) := by decide +kernel
theorem dX8_allOf_44 : decode cX8_allOf 44 = .ok (.iinc 4 1, 3) := by decide +kernel
theorem dX8_allOf_47 : decode cX8_allOf 47 = .ok (.goto (-40), 3) := by decide +kernel
theorem dX8_allOf_50 : decode cX8_allOf 50 = .ok (.lload_n 2, 1) := by decide +kernel
theorem dX8_allOf_51 : decode cX8_allOf 51 = .ok (.lreturn, 1) := by decide +kernel
set_option maxRecDepth 20000 in
theorem ggX8_fillTogether_X0_tableOf : GoodIn wsX8_fillTogether wsX0_tableOf := goodIn_r _ [9, 10, 11, 12, 8, 13, 14, 15, 16, 17, 18, 19] (by decide +kernel) (by decide +kernel)
set_option maxRecDepth 20000 in
theorem gX8_fillTogether_X0_tableOf : GoodIn wsX8_fillTogether (va_wsS RX8 37 yX0_tableOf wsX0_tableOf) := goodIn_app (goodIn_of _ (by decide +kernel)) ggX8_fillTogether_X0_tableOf
theorem dX8_fillTogether_0 : decode cX8_fillTogether 0 = .ok (.aload_n 0, 1) := by decide +kernel
theorem dX8_fillTogether_1 : decode cX8_fillTogether 1 = .ok (.getfield 9, 3) := by decide +kernel
theorem dX8_fillTogether_4 : decode cX8_fillTogether 4 = .ok (.iconst 0, 1) := by decide +kernel
theorem dX8_fillTogether_5 : decode cX8_fillTogether 5 = .ok (.ldc2_w 18, 3) := by decide +kernel
theorem dX8_fillTogether_8 : decode cX8_fillTogether 8 = .ok (.lastore, 1) := by decide +kernel
theorem dX8_fillTogether_9 : decode cX8_fillTogether 9 = .ok (.iconst 0, 1) := by decide +kernel
theorem dX8_fillTogether_10 : decode cX8_fillTogether 10 = .ok (.istore_n 2, 1) := by decide +kernel
theorem dX8_fillTogether_11 : decode cX8_fillTogether 11 = .ok (.iload_n 2, 1) := by decide +kernel
theorem dX8_fillTogether_12 : decode cX8_fillTogether 12 = .ok (.aload_n 1, 1) := by decide +kernel
theorem dX8_fillTogether_13 : decode cX8_fillTogether 13 = .ok (.getfield 20, 3) := by decide +kernel
theorem dX8_fillTogether_16 : decode cX8_fillTogether 16 = .ok (.if_icmp .ge 67, 3) := by decide +kernel
theorem dX8_fillTogether_19 : decode cX8_fillTogether 19 = .ok (.iload_n 2, 1) := by decide +kernel
theorem dX8_fillTogether_20 : decode cX8_fillTogether 20 = .ok (.bipush 10, 2) := by decide +kernel
theorem dX8_fillTogether_22 : decode cX8_fillTogether 22 = .ok (.if_icmp .ge 61, 3) := by decide +kernel
theorem dX8_fillTogether_25 : decode cX8_fillTogether 25 = .ok (.aload_n 1, 1) := by decide +kernel
theorem dX8_fillTogether_26 : decode cX8_fillTogether 26 = .ok (.getfield 30, 3) := by decide +kernel
theorem dX8_fillTogether_29 : decode cX8_fillTogether 29 = .ok (.aload_n 1, 1) := by decide +kernel
theorem dX8_fillTogether_30 : decode cX8_fillTogether 30 = .ok (.getfield 34, 3) := by decide +kernel
theorem dX8_fillTogether_33 : decode cX8_fillTogether 33 = .ok (.iload_n 2, 1) := by decide +kernel
theorem dX8_fillTogether_34 : decode cX8_fillTogether 34 = .ok (.iaload, 1) := by decide +kernel
theorem dX8_fillTogether_35 : decode cX8_fillTogether 35 = .ok (.iaload, 1) := by decide +kernel
theorem dX8_fillTogether_36 : decode cX8_fillTogether 36 = .ok (.invokestatic 37, 3) := by decide +kernel
theorem dX8_fillTogether_39 : decode cX8_fillTogether 39 = .ok (.lstore_n 3, 1) := by decide +kernel
theorem dX8_fillTogether_40 : decode cX8_fillTogether 40 = .ok (.iconst 0, 1) := by decide +kernel
theorem dX8_fillTogether_41 : decode cX8_fillTogether 41 = .ok (.istore 5, 2) := by decide +kernel
theorem dX8_fillTogether_43 : decode cX8_fillTogether 43 = .ok (.iload 5, 2) := by decide +kernel
theorem dX8_fillTogether_45 : decode cX8_fillTogether 45 = .ok (.iconst 1, 1) := by decide +kernel
theorem dX8_fillTogether_46 : decode cX8_fillTogether 46 = .ok (.iload_n 2, 1) := by decide +kernel
theorem dX8_fillTogether_47 : decode cX8_fillTogether 47 = .ok (.ishl, 1) := by decide +kernel
theorem dX8_fillTogether_48 : decode cX8_fillTogether 48 = .ok (.if_icmp .ge 29, 3) := by decide +kernel
theorem dX8_fillTogether_51 : decode cX8_fillTogether 51 = .ok (.aload_n 0, 1) := by decide +kernel
theorem dX8_fillTogether_52 : decode cX8_fillTogether 52 = .ok (.getfield 9, 3) := by decide +kernel
theorem dX8_fillTogether_55 : decode cX8_fillTogether 55 = .ok (.iload 5, 2) := by decide +kernel
theorem dX8_fillTogether_57 : decode cX8_fillTogether 57 = .ok (.iconst 1, 1) := by decide +kernel
theorem dX8_fillTogether_58 : decode cX8_fillTogether 58 = .ok (.iload_n 2, 1) := by decide +kernel
theorem dX8_fillTogether_59 : decode cX8_fillTogether 59 = .ok (.ishl, 1) := by decide +kernel
theorem dX8_fillTogether_60 : decode cX8_fillTogether 60 = .ok (.ior, 1) := by decide +kernel
theorem dX8_fillTogether_61 : decode cX8_fillTogether 61 = .ok (.aload_n 0, 1) := by decide +kernel
theorem dX8_fillTogether_62 : decode cX8_fillTogether 62 = .ok (.getfield 9, 3) := by decide +kernel
theorem dX8_fillTogether_65 : decode cX8_fillTogether 65 = .ok (.iload 5, 2) := by decide +kernel
theorem dX8_fillTogether_67 : decode cX8_fillTogether 67 = .ok (.laload, 1) := by decide +kernel
theorem dX8_fillTogether_68 : decode cX8_fillTogether 68 = .ok (.lload_n 3, 1) := by decide +kernel
theorem dX8_fillTogether_69 : decode cX8_fillTogether 69 = .ok (.land, 1) := by decide +kernel
theorem dX8_fillTogether_70 : decode cX8_fillTogether 70 = .ok (.lastore, 1) := by decide +kernel
theorem dX8_fillTogether_71 : decode cX8_fillTogether 71 = .ok (.iinc 5 1, 3) := by decide +kernel
theorem dX8_fillTogether_74 : decode cX8_fillTogether 74 = .ok (.goto (-31), 3) := by decide +kernel
theorem dX8_fillTogether_77 : decode cX8_fillTogether 77 = .ok (.iinc 2 1, 3) := by decide +kernel
theorem dX8_fillTogether_80 : decode cX8_fillTogether 80 = .ok (.goto (-69), 3) := by decide +kernel
theorem dX8_fillTogether_83 : decode cX8_fillTogether 83 = .ok (.return_, 1) := by decide +kernel
theorem dX8_isCore_0 : decode cX8_isCore 0 = .ok (.aload_n 0, 1) := by decide +kernel
theorem dX8_isCore_1 : decode cX8_isCore 1 = .ok (.getfield 9, 3) := by decide +kernel
theorem dX8_isCore_4 : decode cX8_isCore 4 = .ok (.iload_n 1, 1) := by decide +kernel
theorem dX8_isCore_5 : decode cX8_isCore 5 = .ok (.laload, 1) := by decide +kernel
theorem dX8_isCore_6 : decode cX8_isCore 6 = .ok (.lconst 0, 1) := by decide +kernel
theorem dX8_isCore_7 : decode cX8_isCore 7 = .ok (.lcmp, 1) := by decide +kernel
theorem dX8_isCore_8 : decode cX8_isCore 8 = .ok (.ifCond .ne 7, 3) := by decide +kernel
theorem dX8_isCore_11 : decode cX8_isCore 11 = .ok (.iconst 1, 1) := by decide +kernel
theorem dX8_isCore_12 : decode cX8_isCore 12 = .ok (.goto 4, 3) := by decide +kernel
theorem dX8_isCore_15 : decode cX8_isCore 15 = .ok (.iconst 0, 1) := by decide +kernel
theorem dX8_isCore_16 : decode cX8_isCore 16 = .ok (.ireturn, 1) := by decide +kernel
set_option maxRecDepth 20000 in
theorem ggX8_isBare_X8_isCore : GoodIn wsX8_isBare wsX8_isCore := goodIn_r _ [5, 6, 10, 11] (by decide +kernel) (by decide +kernel)
set_option maxRecDepth 20000 in
theorem gX8_isBare_X8_isCore : GoodIn wsX8_isBare (wsV RX8 43 RX8 yX8_isCore wsX8_isCore) := goodIn_app (goodIn_of _ (by decide +kernel)) ggX8_isBare_X8_isCore
set_option maxRecDepth 20000 in
theorem ggX8_isBare_X9_isIn : GoodIn wsX8_isBare wsX9_isIn := goodIn_r _ [9] (by decide +kernel) (by decide +kernel)
set_option maxRecDepth 20000 in
theorem gX8_isBare_X9_isIn_n26 : GoodIn wsX8_isBare (wsX9_isIn) := ggX8_isBare_X9_isIn
theorem dX8_isBare_0 : decode cX8_isBare 0 = .ok (.aload_n 0, 1) := by decide +kernel
theorem dX8_isBare_1 : decode cX8_isBare 1 = .ok (.iload_n 1, 1) := by decide +kernel
theorem dX8_isBare_2 : decode cX8_isBare 2 = .ok (.invokevirtual 43, 3) := by decide +kernel
theorem dX8_isBare_5 : decode cX8_isBare 5 = .ok (.ifCond .ne 5, 3) := by decide +kernel
theorem dX8_isBare_8 : decode cX8_isBare 8 = .ok (.iconst 0, 1) := by decide +kernel
theorem dX8_isBare_9 : decode cX8_isBare 9 = .ok (.ireturn, 1) := by decide +kernel
theorem dX8_isBare_10 : decode cX8_isBare 10 = .ok (.iconst 0, 1) := by decide +kernel
theorem dX8_isBare_11 : decode cX8_isBare 11 = .ok (.istore_n 2, 1) := by decide +kernel
theorem dX8_isBare_12 : decode cX8_isBare 12 = .ok (.iload_n 2, 1) := by decide +kernel
theorem dX8_isBare_13 : decode cX8_isBare 13 = .ok (.bipush 10, 2) := by decide +kernel
theorem dX8_isBare_15 : decode cX8_isBare 15 = .ok (.if_icmp .ge 34, 3) := by decide +kernel
theorem dX8_isBare_18 : decode cX8_isBare 18 = .ok (.iload_n 2, 1) := by decide +kernel
theorem dX8_isBare_19 : decode cX8_isBare 19 = .ok (.iload_n 1, 1) := by decide +kernel
theorem dX8_isBare_20 : decode cX8_isBare 20 = .ok (.i2l, 1) := by decide +kernel
theorem dX8_isBare_21 : decode cX8_isBare 21 = .ok (.invokestatic 26, 3) := by decide +kernel
theorem dX8_isBare_24 : decode cX8_isBare 24 = .ok (.ifCond .eq 19, 3) := by decide +kernel
theorem dX8_isBare_27 : decode cX8_isBare 27 = .ok (.aload_n 0, 1) := by decide +kernel
theorem dX8_isBare_28 : decode cX8_isBare 28 = .ok (.iload_n 1, 1) := by decide +kernel
theorem dX8_isBare_29 : decode cX8_isBare 29 = .ok (.iconst 1, 1) := by decide +kernel
theorem dX8_isBare_30 : decode cX8_isBare 30 = .ok (.iload_n 2, 1) := by decide +kernel
theorem dX8_isBare_31 : decode cX8_isBare 31 = .ok (.ishl, 1) := by decide +kernel
theorem dX8_isBare_32 : decode cX8_isBare 32 = .ok (.iconst (-1), 1) := by decide +kernel
theorem dX8_isBare_33 : decode cX8_isBare 33 = .ok (.ixor, 1) := by decide +kernel
theorem dX8_isBare_34 : decode cX8_isBare 34 = .ok (.iand, 1) := by decide +kernel
theorem dX8_isBare_35 : decode cX8_isBare 35 = .ok (.invokevirtual 43, 3) := by decide +kernel
theorem dX8_isBare_38 : decode cX8_isBare 38 = .ok (.ifCond .eq 5, 3) := by decide +kernel
theorem dX8_isBare_41 : decode cX8_isBare 41 = .ok (.iconst 0, 1) := by decide +kernel
theorem dX8_isBare_42 : decode cX8_isBare 42 = .ok (.ireturn, 1) := by decide +kernel
theorem dX8_isBare_43 : decode cX8_isBare 43 = .ok (.iinc 2 1, 3) := by decide +kernel
theorem dX8_isBare_46 : decode cX8_isBare 46 = .ok (.goto (-34), 3) := by decide +kernel
theorem dX8_isBare_49 : decode cX8_isBare 49 = .ok (.iconst 1, 1) := by decide +kernel
theorem dX8_isBare_50 : decode cX8_isBare 50 = .ok (.ireturn, 1) := by decide +kernel
set_option maxRecDepth 20000 in
theorem ggX8_leastCore_X8_isCore : GoodIn wsX8_leastCore wsX8_isCore := goodIn_r _ [5, 6, 14, 15] (by decide +kernel) (by decide +kernel)
set_option maxRecDepth 20000 in
theorem gX8_leastCore_X8_isCore : GoodIn wsX8_leastCore (wsV RX8 43 RX8 yX8_isCore wsX8_isCore) := goodIn_app (goodIn_of _ (by decide +kernel)) ggX8_leastCore_X8_isCore
set_option maxRecDepth 20000 in
theorem ggX8_leastCore_J6_bitCount_0f7a4 : GoodIn wsX8_leastCore wsJ6_bitCount_0f7a4 := goodIn_r _ [10, 11, 12, 13] (by decide +kernel) (by decide +kernel)
set_option maxRecDepth 20000 in
theorem gX8_leastCore_J6_bitCount_0f7a4 : GoodIn wsX8_leastCore (va_wsS RX8 47 yJ6_bitCount_0f7a4 wsJ6_bitCount_0f7a4) := goodIn_app (goodIn_of _ (by decide +kernel)) ggX8_leastCore_J6_bitCount_0f7a4
theorem dX8_leastCore_0 : decode cX8_leastCore 0 = .ok (.bipush (-9), 2) := by decide +kernel
theorem dX8_leastCore_2 : decode cX8_leastCore 2 = .ok (.istore_n 2, 1) := by decide +kernel
theorem dX8_leastCore_3 : decode cX8_leastCore 3 = .ok (.iconst 0, 1) := by decide +kernel
theorem dX8_leastCore_4 : decode cX8_leastCore 4 = .ok (.istore_n 3, 1) := by decide +kernel
theorem dX8_leastCore_5 : decode cX8_leastCore 5 = .ok (.iload_n 3, 1) := by decide +kernel
theorem dX8_leastCore_6 : decode cX8_leastCore 6 = .ok (.iload_n 1, 1) := by decide +kernel
theorem dX8_leastCore_7 : decode cX8_leastCore 7 = .ok (.if_icmp .ge 36, 3) := by decide +kernel
theorem dX8_leastCore_10 : decode cX8_leastCore 10 = .ok (.aload_n 0, 1) := by decide +kernel
theorem dX8_leastCore_11 : decode cX8_leastCore 11 = .ok (.iload_n 3, 1) := by decide +kernel
theorem dX8_leastCore_12 : decode cX8_leastCore 12 = .ok (.invokevirtual 43, 3) := by decide +kernel
theorem dX8_leastCore_15 : decode cX8_leastCore 15 = .ok (.ifCond .eq 22, 3) := by decide +kernel
theorem dX8_leastCore_18 : decode cX8_leastCore 18 = .ok (.iload_n 2, 1) := by decide +kernel
theorem dX8_leastCore_19 : decode cX8_leastCore 19 = .ok (.bipush (-9), 2) := by decide +kernel
theorem dX8_leastCore_21 : decode cX8_leastCore 21 = .ok (.if_icmp .eq 14, 3) := by decide +kernel
theorem dX8_leastCore_24 : decode cX8_leastCore 24 = .ok (.iload_n 3, 1) := by decide +kernel
theorem dX8_leastCore_25 : decode cX8_leastCore 25 = .ok (.invokestatic 47, 3) := by decide +kernel
theorem dX8_leastCore_28 : decode cX8_leastCore 28 = .ok (.iload_n 2, 1) := by decide +kernel
theorem dX8_leastCore_29 : decode cX8_leastCore 29 = .ok (.invokestatic 47, 3) := by decide +kernel
theorem dX8_leastCore_32 : decode cX8_leastCore 32 = .ok (.if_icmp .ge 5, 3) := by decide +kernel
theorem dX8_leastCore_35 : decode cX8_leastCore 35 = .ok (.iload_n 3, 1) := by decide +kernel
theorem dX8_leastCore_36 : decode cX8_leastCore 36 = .ok (.istore_n 2, 1) := by decide +kernel
theorem dX8_leastCore_37 : decode cX8_leastCore 37 = .ok (.iinc 3 1, 3) := by decide +kernel
theorem dX8_leastCore_40 : decode cX8_leastCore 40 = .ok (.goto (-35), 3) := by decide +kernel
theorem dX8_leastCore_43 : decode cX8_leastCore 43 = .ok (.iload_n 2, 1) := by decide +kernel
theorem dX8_leastCore_44 : decode cX8_leastCore 44 = .ok (.ireturn, 1) := by decide +kernel
set_option maxRecDepth 20000 in
theorem ggX8_bareCores_X8_isBare : GoodIn wsX8_bareCores wsX8_isBare := goodIn_r _ [5, 6, 7, 8, 4, 9, 10, 11, 12, 13, 14, 15] (by decide +kernel) (by decide +kernel)
set_option maxRecDepth 20000 in
theorem gX8_bareCores_X8_isBare : GoodIn wsX8_bareCores (wsV RX8 53 RX8 yX8_isBare wsX8_isBare) := goodIn_app (goodIn_of _ (by decide +kernel)) ggX8_bareCores_X8_isBare
theorem dX8_bareCores_0 : decode cX8_bareCores 0 = .ok (.iconst 0, 1) := by decide +kernel
theorem dX8_bareCores_1 : decode cX8_bareCores 1 = .ok (.istore_n 2, 1) := by decide +kernel
theorem dX8_bareCores_2 : decode cX8_bareCores 2 = .ok (.iconst 0, 1) := by decide +kernel
theorem dX8_bareCores_3 : decode cX8_bareCores 3 = .ok (.istore_n 3, 1) := by decide +kernel
theorem dX8_bareCores_4 : decode cX8_bareCores 4 = .ok (.iload_n 3, 1) := by decide +kernel
theorem dX8_bareCores_5 : decode cX8_bareCores 5 = .ok (.iload_n 1, 1) := by decide +kernel
theorem dX8_bareCores_6 : decode cX8_bareCores 6 = .ok (.if_icmp .ge 20, 3) := by decide +kernel
theorem dX8_bareCores_9 : decode cX8_bareCores 9 = .ok (.aload_n 0, 1) := by decide +kernel
theorem dX8_bareCores_10 : decode cX8_bareCores 10 = .ok (.iload_n 3, 1) := by decide +kernel
theorem dX8_bareCores_11 : decode cX8_bareCores 11 = .ok (.invokevirtual 53, 3) := by decide +kernel
theorem dX8_bareCores_14 : decode cX8_bareCores 14 = .ok (.ifCond .eq 6, 3) := by decide +kernel
theorem dX8_bareCores_17 : decode cX8_bareCores 17 = .ok (.iinc 2 1, 3) := by decide +kernel
theorem dX8_bareCores_20 : decode cX8_bareCores 20 = .ok (.iinc 3 1, 3) := by decide +kernel
theorem dX8_bareCores_23 : decode cX8_bareCores 23 = .ok (.goto (-19), 3) := by decide +kernel
theorem dX8_bareCores_26 : decode cX8_bareCores 26 = .ok (.iload_n 2, 1) := by decide +kernel
theorem dX8_bareCores_27 : decode cX8_bareCores 27 = .ok (.ireturn, 1) := by decide +kernel
set_option maxRecDepth 20000 in
theorem ggX8_middleOf_X0_lettersOf : GoodIn wsX8_middleOf wsX0_lettersOf := goodIn_r _ [10] (by decide +kernel) (by decide +kernel)
set_option maxRecDepth 20000 in
theorem gX8_middleOf_X0_lettersOf : GoodIn wsX8_middleOf (va_wsS RX8 56 yX0_lettersOf wsX0_lettersOf) := goodIn_app (goodIn_of _ (by decide +kernel)) ggX8_middleOf_X0_lettersOf
set_option maxRecDepth 20000 in
theorem ggX8_middleOf_X9_isIn : GoodIn wsX8_middleOf wsX9_isIn := goodIn_r _ [13] (by decide +kernel) (by decide +kernel)
set_option maxRecDepth 20000 in
theorem gX8_middleOf_X9_isIn_n26 : GoodIn wsX8_middleOf (wsX9_isIn) := ggX8_middleOf_X9_isIn
set_option maxRecDepth 20000 in
theorem ggX8_middleOf_X2_isGround : GoodIn wsX8_middleOf wsX2_isGround := goodIn_r _ [18, 19, 28, 29, 30, 31, 32, 33, 34] (by decide +kernel) (by decide +kernel)
set_option maxRecDepth 20000 in
theorem gX8_middleOf_X2_isGround : GoodIn wsX8_middleOf (wsV RX8 62 RX2 yX2_isGround wsX2_isGround) := goodIn_app (goodIn_of _ (by decide +kernel)) ggX8_middleOf_X2_isGround
set_option maxRecDepth 20000 in
theorem ggX8_middleOf_X8_middleOfCut : GoodIn wsX8_middleOf wsX8_middleOfCut := goodIn_r _ [24, 4, 25, 26, 27, 5, 11, 12, 13, 35, 36, 28, 29, 30, 31, 32, 33, 34] (by decide +kernel) (by decide +kernel)
set_option maxRecDepth 20000 in
theorem gX8_middleOf_X8_middleOfCut : GoodIn wsX8_middleOf (wsV RX8 65 RX8 yX8_middleOfCut wsX8_middleOfCut) := goodIn_app (goodIn_of _ (by decide +kernel)) ggX8_middleOf_X8_middleOfCut
theorem dX8_middleOf_0 : decode cX8_middleOf 0 = .ok (.iconst 0, 1) := by decide +kernel
theorem dX8_middleOf_1 : decode cX8_middleOf 1 = .ok (.istore_n 3, 1) := by decide +kernel
theorem dX8_middleOf_2 : decode cX8_middleOf 2 = .ok (.iconst 0, 1) := by decide +kernel
theorem dX8_middleOf_3 : decode cX8_middleOf 3 = .ok (.istore 4, 2) := by decide +kernel
theorem dX8_middleOf_5 : decode cX8_middleOf 5 = .ok (.iconst 0, 1) := by decide +kernel
theorem dX8_middleOf_6 : decode cX8_middleOf 6 = .ok (.istore 5, 2) := by decide +kernel
theorem dX8_middleOf_8 : decode cX8_middleOf 8 = .ok (.iload 5, 2) := by decide +kernel
theorem dX8_middleOf_10 : decode cX8_middleOf 10 = .ok (.aload_n 1, 1) := by decide +kernel
theorem dX8_middleOf_11 : decode cX8_middleOf 11 = .ok (.getfield 20, 3) := by decide +kernel
theorem dX8_middleOf_14 : decode cX8_middleOf 14 = .ok (.if_icmp .ge 73, 3) := by decide +kernel
theorem dX8_middleOf_17 : decode cX8_middleOf 17 = .ok (.aload_n 1, 1) := by decide +kernel
theorem dX8_middleOf_18 : decode cX8_middleOf 18 = .ok (.getfield 34, 3) := by decide +kernel
theorem dX8_middleOf_21 : decode cX8_middleOf 21 = .ok (.iload 5, 2) := by decide +kernel
theorem dX8_middleOf_23 : decode cX8_middleOf 23 = .ok (.iaload, 1) := by decide +kernel
theorem dX8_middleOf_24 : decode cX8_middleOf 24 = .ok (.istore 6, 2) := by decide +kernel
theorem dX8_middleOf_26 : decode cX8_middleOf 26 = .ok (.aload_n 1, 1) := by decide +kernel
theorem dX8_middleOf_27 : decode cX8_middleOf 27 = .ok (.getfield 30, 3) := by decide +kernel
theorem dX8_middleOf_30 : decode cX8_middleOf 30 = .ok (.iload 6, 2) := by decide +kernel
theorem dX8_middleOf_32 : decode cX8_middleOf 32 = .ok (.iaload, 1) := by decide +kernel
theorem dX8_middleOf_33 : decode cX8_middleOf 33 = .ok (.invokestatic 56, 3) := by decide +kernel
theorem dX8_middleOf_36 : decode cX8_middleOf 36 = .ok (.istore 7, 2) := by decide +kernel
theorem dX8_middleOf_38 : decode cX8_middleOf 38 = .ok (.iload 5, 2) := by decide +kernel
theorem dX8_middleOf_40 : decode cX8_middleOf 40 = .ok (.iload_n 2, 1) := by decide +kernel
theorem dX8_middleOf_41 : decode cX8_middleOf 41 = .ok (.i2l, 1) := by decide +kernel
theorem dX8_middleOf_42 : decode cX8_middleOf 42 = .ok (.invokestatic 26, 3) := by decide +kernel
theorem dX8_middleOf_45 : decode cX8_middleOf 45 = .ok (.ifCond .eq 19, 3) := by decide +kernel
theorem dX8_middleOf_48 : decode cX8_middleOf 48 = .ok (.iload_n 3, 1) := by decide +kernel
theorem dX8_middleOf_49 : decode cX8_middleOf 49 = .ok (.iload 7, 2) := by decide +kernel
theorem dX8_middleOf_51 : decode cX8_middleOf 51 = .ok (.ior, 1) := by decide +kernel
theorem dX8_middleOf_52 : decode cX8_middleOf 52 = .ok (.istore_n 3, 1) := by decide +kernel
theorem dX8_middleOf_53 : decode cX8_middleOf 53 = .ok (.aload_n 0, 1) := by decide +kernel
theorem dX8_middleOf_54 : decode cX8_middleOf 54 = .ok (.getfield 15, 3) := by decide +kernel
theorem dX8_middleOf_57 : decode cX8_middleOf 57 = .ok (.iload 6, 2) := by decide +kernel
theorem dX8_middleOf_59 : decode cX8_middleOf 59 = .ok (.lconst 0, 1) := by decide +kernel
theorem dX8_middleOf_60 : decode cX8_middleOf 60 = .ok (.lastore, 1) := by decide +kernel
theorem dX8_middleOf_61 : decode cX8_middleOf 61 = .ok (.goto 20, 3) := by decide +kernel
theorem dX8_middleOf_64 : decode cX8_middleOf 64 = .ok (.iload 4, 2) := by decide +kernel
theorem dX8_middleOf_66 : decode cX8_middleOf 66 = .ok (.iload 7, 2) := by decide +kernel
theorem dX8_middleOf_68 : decode cX8_middleOf 68 = .ok (.ior, 1) := by decide +kernel
theorem dX8_middleOf_69 : decode cX8_middleOf 69 = .ok (.istore 4, 2) := by decide +kernel
theorem dX8_middleOf_71 : decode cX8_middleOf 71 = .ok (.aload_n 0, 1) := by decide +kernel
theorem dX8_middleOf_72 : decode cX8_middleOf 72 = .ok (.getfield 15, 3) := by decide +kernel
theorem dX8_middleOf_75 : decode cX8_middleOf 75 = .ok (.iload 6, 2) := by decide +kernel
theorem dX8_middleOf_77 : decode cX8_middleOf 77 = .ok (.ldc2_w 18, 3) := by decide +kernel
theorem dX8_middleOf_80 : decode cX8_middleOf 80 = .ok (.lastore, 1) := by decide +kernel
theorem dX8_middleOf_81 : decode cX8_middleOf 81 = .ok (.iinc 5 1, 3) := by decide +kernel
theorem dX8_middleOf_84 : decode cX8_middleOf 84 = .ok (.goto (-76), 3) := by decide +kernel
theorem dX8_middleOf_87 : decode cX8_middleOf 87 = .ok (.iconst 0, 1) := by decide +kernel
theorem dX8_middleOf_88 : decode cX8_middleOf 88 = .ok (.istore 5, 2) := by decide +kernel
theorem dX8_middleOf_90 : decode cX8_middleOf 90 = .ok (.iload 5, 2) := by decide +kernel
theorem dX8_middleOf_92 : decode cX8_middleOf 92 = .ok (.aload_n 1, 1) := by decide +kernel
theorem dX8_middleOf_93 : decode cX8_middleOf 93 = .ok (.getfield 59, 3) := by decide +kernel
theorem dX8_middleOf_96 : decode cX8_middleOf 96 = .ok (.if_icmp .ge 35, 3) := by decide +kernel
theorem dX8_middleOf_99 : decode cX8_middleOf 99 = .ok (.aload_n 1, 1) := by decide +kernel
theorem dX8_middleOf_100 : decode cX8_middleOf 100 = .ok (.iload 5, 2) := by decide +kernel
theorem dX8_middleOf_102 : decode cX8_middleOf 102 = .ok (.invokevirtual 62, 3) := by decide +kernel
theorem dX8_middleOf_105 : decode cX8_middleOf 105 = .ok (.ifCond .ne 20, 3) := by decide +kernel
theorem dX8_middleOf_108 : decode cX8_middleOf 108 = .ok (.aload_n 0, 1) := by decide +kernel
theorem dX8_middleOf_109 : decode cX8_middleOf 109 = .ok (.getfield 15, 3) := by decide +kernel
theorem dX8_middleOf_112 : decode cX8_middleOf 112 = .ok (.iload 5, 2) := by decide +kernel
theorem dX8_middleOf_114 : decode cX8_middleOf 114 = .ok (.aload_n 0, 1) := by decide +kernel
theorem dX8_middleOf_115 : decode cX8_middleOf 115 = .ok (.aload_n 1, 1) := by decide +kernel
theorem dX8_middleOf_116 : decode cX8_middleOf 116 = .ok (.iload 5, 2) := by decide +kernel
theorem dX8_middleOf_118 : decode cX8_middleOf 118 = .ok (.iload_n 3, 1) := by decide +kernel
theorem dX8_middleOf_119 : decode cX8_middleOf 119 = .ok (.iload 4, 2) := by decide +kernel
theorem dX8_middleOf_121 : decode cX8_middleOf 121 = .ok (.invokevirtual 65, 3) := by decide +kernel
theorem dX8_middleOf_124 : decode cX8_middleOf 124 = .ok (.lastore, 1) := by decide +kernel
theorem dX8_middleOf_125 : decode cX8_middleOf 125 = .ok (.iinc 5 1, 3) := by decide +kernel
theorem dX8_middleOf_128 : decode cX8_middleOf 128 = .ok (.goto (-38), 3) := by decide +kernel
theorem dX8_middleOf_131 : decode cX8_middleOf 131 = .ok (.aload_n 0, 1) := by decide +kernel
theorem dX8_middleOf_132 : decode cX8_middleOf 132 = .ok (.getfield 15, 3) := by decide +kernel
theorem dX8_middleOf_135 : decode cX8_middleOf 135 = .ok (.aload_n 1, 1) := by decide +kernel
theorem dX8_middleOf_136 : decode cX8_middleOf 136 = .ok (.getfield 59, 3) := by decide +kernel
theorem dX8_middleOf_139 : decode cX8_middleOf 139 = .ok (.iconst 1, 1) := by decide +kernel
theorem dX8_middleOf_140 : decode cX8_middleOf 140 = .ok (.isub, 1) := by decide +kernel
theorem dX8_middleOf_141 : decode cX8_middleOf 141 = .ok (.laload, 1) := by decide +kernel
theorem dX8_middleOf_142 : decode cX8_middleOf 142 = .ok (.lreturn, 1) := by decide +kernel
set_option maxRecDepth 20000 in
theorem ggX8_middleOfCut_X9_isIn : GoodIn wsX8_middleOfCut wsX9_isIn := goodIn_r _ [8] (by decide +kernel) (by decide +kernel)
set_option maxRecDepth 20000 in
theorem gX8_middleOfCut_X9_isIn_n26 : GoodIn wsX8_middleOfCut (wsX9_isIn) := ggX8_middleOfCut_X9_isIn
theorem dX8_middleOfCut_0 : decode cX8_middleOfCut 0 = .ok (.aload_n 0, 1) := by decide +kernel
theorem dX8_middleOfCut_1 : decode cX8_middleOfCut 1 = .ok (.getfield 15, 3) := by decide +kernel
theorem dX8_middleOfCut_4 : decode cX8_middleOfCut 4 = .ok (.aload_n 1, 1) := by decide +kernel
theorem dX8_middleOfCut_5 : decode cX8_middleOfCut 5 = .ok (.getfield 69, 3) := by decide +kernel
theorem dX8_middleOfCut_8 : decode cX8_middleOfCut 8 = .ok (.iload_n 2, 1) := by decide +kernel
theorem dX8_middleOfCut_9 : decode cX8_middleOfCut 9 = .ok (.iaload, 1) := by decide +kernel
theorem dX8_middleOfCut_10 : decode cX8_middleOfCut 10 = .ok (.laload, 1) := by decide +kernel
theorem dX8_middleOfCut_11 : decode cX8_middleOfCut 11 = .ok (.lstore 5, 2) := by decide +kernel
theorem dX8_middleOfCut_13 : decode cX8_middleOfCut 13 = .ok (.aload_n 0, 1) := by decide +kernel
theorem dX8_middleOfCut_14 : decode cX8_middleOfCut 14 = .ok (.getfield 15, 3) := by decide +kernel
theorem dX8_middleOfCut_17 : decode cX8_middleOfCut 17 = .ok (.aload_n 1, 1) := by decide +kernel
theorem dX8_middleOfCut_18 : decode cX8_middleOfCut 18 = .ok (.getfield 72, 3) := by decide +kernel
theorem dX8_middleOfCut_21 : decode cX8_middleOfCut 21 = .ok (.iload_n 2, 1) := by decide +kernel
theorem dX8_middleOfCut_22 : decode cX8_middleOfCut 22 = .ok (.iaload, 1) := by decide +kernel
theorem dX8_middleOfCut_23 : decode cX8_middleOfCut 23 = .ok (.laload, 1) := by decide +kernel
theorem dX8_middleOfCut_24 : decode cX8_middleOfCut 24 = .ok (.lstore 7, 2) := by decide +kernel
theorem dX8_middleOfCut_26 : decode cX8_middleOfCut 26 = .ok (.aload_n 1, 1) := by decide +kernel
theorem dX8_middleOfCut_27 : decode cX8_middleOfCut 27 = .ok (.getfield 75, 3) := by decide +kernel
theorem dX8_middleOfCut_30 : decode cX8_middleOfCut 30 = .ok (.iload_n 2, 1) := by decide +kernel
theorem dX8_middleOfCut_31 : decode cX8_middleOfCut 31 = .ok (.iaload, 1) := by decide +kernel
theorem dX8_middleOfCut_32 : decode cX8_middleOfCut 32 = .ok (.istore 9, 2) := by decide +kernel
theorem dX8_middleOfCut_34 : decode cX8_middleOfCut 34 = .ok (.iload 9, 2) := by decide +kernel
theorem dX8_middleOfCut_36 : decode cX8_middleOfCut 36 = .ok (.iload 4, 2) := by decide +kernel
theorem dX8_middleOfCut_38 : decode cX8_middleOfCut 38 = .ok (.i2l, 1) := by decide +kernel
theorem dX8_middleOfCut_39 : decode cX8_middleOfCut 39 = .ok (.invokestatic 26, 3) := by decide +kernel
theorem dX8_middleOfCut_42 : decode cX8_middleOfCut 42 = .ok (.ifCond .ne 9, 3) := by decide +kernel
theorem dX8_middleOfCut_45 : decode cX8_middleOfCut 45 = .ok (.lload 5, 2) := by decide +kernel
theorem dX8_middleOfCut_47 : decode cX8_middleOfCut 47 = .ok (.lload 7, 2) := by decide +kernel
theorem dX8_middleOfCut_49 : decode cX8_middleOfCut 49 = .ok (.lor, 1) := by decide +kernel
theorem dX8_middleOfCut_50 : decode cX8_middleOfCut 50 = .ok (.lreturn, 1) := by decide +kernel
theorem dX8_middleOfCut_51 : decode cX8_middleOfCut 51 = .ok (.iload 9, 2) := by decide +kernel
theorem dX8_middleOfCut_53 : decode cX8_middleOfCut 53 = .ok (.iload_n 3, 1) := by decide +kernel
theorem dX8_middleOfCut_54 : decode cX8_middleOfCut 54 = .ok (.i2l, 1) := by decide +kernel
theorem dX8_middleOfCut_55 : decode cX8_middleOfCut 55 = .ok (.invokestatic 26, 3) := by decide +kernel
theorem dX8_middleOfCut_58 : decode cX8_middleOfCut 58 = .ok (.ifCond .ne 9, 3) := by decide +kernel
theorem dX8_middleOfCut_61 : decode cX8_middleOfCut 61 = .ok (.lload 5, 2) := by decide +kernel
theorem dX8_middleOfCut_63 : decode cX8_middleOfCut 63 = .ok (.lload 7, 2) := by decide +kernel
theorem dX8_middleOfCut_65 : decode cX8_middleOfCut 65 = .ok (.land, 1) := by decide +kernel
theorem dX8_middleOfCut_66 : decode cX8_middleOfCut 66 = .ok (.lreturn, 1) := by decide +kernel
theorem dX8_middleOfCut_67 : decode cX8_middleOfCut 67 = .ok (.getstatic 78, 3) := by decide +kernel
theorem dX8_middleOfCut_70 : decode cX8_middleOfCut 70 = .ok (.iload 9, 2) := by decide +kernel
theorem dX8_middleOfCut_72 : decode cX8_middleOfCut 72 = .ok (.laload, 1) := by decide +kernel
theorem dX8_middleOfCut_73 : decode cX8_middleOfCut 73 = .ok (.lstore 10, 2) := by decide +kernel
theorem dX8_middleOfCut_75 : decode cX8_middleOfCut 75 = .ok (.lload 5, 2) := by decide +kernel
theorem dX8_middleOfCut_77 : decode cX8_middleOfCut 77 = .ok (.lload 10, 2) := by decide +kernel
theorem dX8_middleOfCut_79 : decode cX8_middleOfCut 79 = .ok (.ldc2_w 18, 3) := by decide +kernel
theorem dX8_middleOfCut_82 : decode cX8_middleOfCut 82 = .ok (.lxor, 1) := by decide +kernel
theorem dX8_middleOfCut_83 : decode cX8_middleOfCut 83 = .ok (.land, 1) := by decide +kernel
theorem dX8_middleOfCut_84 : decode cX8_middleOfCut 84 = .ok (.lload 7, 2) := by decide +kernel
theorem dX8_middleOfCut_86 : decode cX8_middleOfCut 86 = .ok (.lload 10, 2) := by decide +kernel
theorem dX8_middleOfCut_88 : decode cX8_middleOfCut 88 = .ok (.land, 1) := by decide +kernel
theorem dX8_middleOfCut_89 : decode cX8_middleOfCut 89 = .ok (.lor, 1) := by decide +kernel
theorem dX8_middleOfCut_90 : decode cX8_middleOfCut 90 = .ok (.lreturn, 1) := by decide +kernel
