set_option maxRecDepth 20000 in
theorem ggX9_init_X2_init : GoodIn wsX9_init wsX2_init := goodIn_r _ [34, 35, 2, 3, 36, 37, 38, 39, 40, 41, 92, 93, 94, 95, 96, 97, 98] (by decide +kernel) (by decide +kernel)
set_option maxRecDepth 20000 in
theorem gX9_init_X2_init_n17 : GoodIn wsX9_init (wsX2_init) := ggX9_init_X2_init
set_option maxRecDepth 20000 in
theorem ggX9_init_X4_init : GoodIn wsX9_init wsX4_init := goodIn_r _ [43, 44, 2, 3, 36, 45, 46, 99, 100, 101] (by decide +kernel) (by decide +kernel)
set_option maxRecDepth 20000 in
theorem gX9_init_X4_init_n24 : GoodIn wsX9_init (wsX4_init) := ggX9_init_X4_init
set_option maxRecDepth 20000 in
theorem ggX9_init_X3_init : GoodIn wsX9_init wsX3_init := goodIn_r _ [48, 49, 2, 3, 36, 50, 51, 6, 7, 52, 33, 34, 35, 37, 38, 39, 40, 41, 102, 103, 104, 105, 92, 93, 94, 95, 96, 97, 98] (by decide +kernel) (by decide +kernel)
set_option maxRecDepth 20000 in
theorem gX9_init_X3_init_n27 : GoodIn wsX9_init (wsX3_init) := ggX9_init_X3_init
set_option maxRecDepth 20000 in
theorem ggX9_init_X6_init : GoodIn wsX9_init wsX6_init := goodIn_r _ [54, 55, 2, 3, 36, 56, 57, 106, 107] (by decide +kernel) (by decide +kernel)
set_option maxRecDepth 20000 in
theorem gX9_init_X6_init_n34 : GoodIn wsX9_init (wsX6_init) := ggX9_init_X6_init
set_option maxRecDepth 20000 in
theorem ggX9_init_X1_init : GoodIn wsX9_init wsX1_init := goodIn_r _ [59, 60, 2, 3, 36, 61, 62, 63, 64, 65, 66, 108, 109, 110, 111, 112, 113, 114] (by decide +kernel) (by decide +kernel)
set_option maxRecDepth 20000 in
theorem gX9_init_X1_init_n41 : GoodIn wsX9_init (wsX1_init) := ggX9_init_X1_init
set_option maxRecDepth 20000 in
theorem ggX9_init_X5_init : GoodIn wsX9_init wsX5_init := goodIn_r _ [68, 69, 2, 3, 70, 6, 7, 71, 36, 72, 73, 74, 33, 34, 35, 37, 38, 39, 40, 41, 92, 93, 94, 95, 96, 97, 98, 115, 116, 117, 118, 119] (by decide +kernel) (by decide +kernel)
set_option maxRecDepth 20000 in
theorem gX9_init_X5_init_n48 : GoodIn wsX9_init (wsX5_init) := ggX9_init_X5_init
set_option maxRecDepth 20000 in
theorem ggX9_init_X8_init : GoodIn wsX9_init wsX8_init := goodIn_r _ [76, 77, 2, 3, 78, 79, 80, 120, 121] (by decide +kernel) (by decide +kernel)
set_option maxRecDepth 20000 in
theorem gX9_init_X8_init_n55 : GoodIn wsX9_init (wsX8_init) := ggX9_init_X8_init
theorem dX9_init_0 : decode cX9_init 0 = .ok (.aload_n 0, 1) := by decide +kernel
theorem dX9_init_1 : decode cX9_init 1 = .ok (.invokespecial 5, 3) := by decide +kernel
theorem dX9_init_4 : decode cX9_init 4 = .ok (.aload_n 0, 1) := by decide +kernel
theorem dX9_init_5 : decode cX9_init 5 = .ok (.bipush 12, 2) := by decide +kernel
theorem dX9_init_7 : decode cX9_init 7 = .ok (.anewarray 11, 3) := by decide +kernel
theorem dX9_init_10 : decode cX9_init 10 = .ok (.putfield 13, 3) := by decide +kernel
theorem dX9_init_13 : decode cX9_init 13 = .ok (.iconst 0, 1) := by decide +kernel
theorem dX9_init_14 : decode cX9_init 14 = .ok (.istore_n 1, 1) := by decide +kernel
theorem dX9_init_15 : decode cX9_init 15 = .ok (.iload_n 1, 1) := by decide +kernel
theorem dX9_init_16 : decode cX9_init 16 = .ok (.bipush 12, 2) := by decide +kernel
theorem dX9_init_18 : decode cX9_init 18 = .ok (.if_icmp .ge 22, 3) := by decide +kernel
theorem dX9_init_21 : decode cX9_init 21 = .ok (.aload_n 0, 1) := by decide +kernel
theorem dX9_init_22 : decode cX9_init 22 = .ok (.getfield 13, 3) := by decide +kernel
theorem dX9_init_25 : decode cX9_init 25 = .ok (.iload_n 1, 1) := by decide +kernel
theorem dX9_init_26 : decode cX9_init 26 = .ok (.new 11, 3) := by decide +kernel
theorem dX9_init_29 : decode cX9_init 29 = .ok (.dup, 1) := by decide +kernel
theorem dX9_init_30 : decode cX9_init 30 = .ok (.invokespecial 17, 3) := by decide +kernel
theorem dX9_init_33 : decode cX9_init 33 = .ok (.aastore, 1) := by decide +kernel
theorem dX9_init_34 : decode cX9_init 34 = .ok (.iinc 1 1, 3) := by decide +kernel
theorem dX9_init_37 : decode cX9_init 37 = .ok (.goto (-22), 3) := by decide +kernel
theorem dX9_init_40 : decode cX9_init 40 = .ok (.aload_n 0, 1) := by decide +kernel
theorem dX9_init_41 : decode cX9_init 41 = .ok (.iconst 4, 1) := by decide +kernel
theorem dX9_init_42 : decode cX9_init 42 = .ok (.anewarray 18, 3) := by decide +kernel
theorem dX9_init_45 : decode cX9_init 45 = .ok (.putfield 20, 3) := by decide +kernel
theorem dX9_init_48 : decode cX9_init 48 = .ok (.iconst 0, 1) := by decide +kernel
theorem dX9_init_49 : decode cX9_init 49 = .ok (.istore_n 1, 1) := by decide +kernel
theorem dX9_init_50 : decode cX9_init 50 = .ok (.iload_n 1, 1) := by decide +kernel
theorem dX9_init_51 : decode cX9_init 51 = .ok (.iconst 4, 1) := by decide +kernel
theorem dX9_init_52 : decode cX9_init 52 = .ok (.if_icmp .ge 22, 3) := by decide +kernel
theorem dX9_init_55 : decode cX9_init 55 = .ok (.aload_n 0, 1) := by decide +kernel
theorem dX9_init_56 : decode cX9_init 56 = .ok (.getfield 20, 3) := by decide +kernel
theorem dX9_init_59 : decode cX9_init 59 = .ok (.iload_n 1, 1) := by decide +kernel
theorem dX9_init_60 : decode cX9_init 60 = .ok (.new 18, 3) := by decide +kernel
theorem dX9_init_63 : decode cX9_init 63 = .ok (.dup, 1) := by decide +kernel
theorem dX9_init_64 : decode cX9_init 64 = .ok (.invokespecial 24, 3) := by decide +kernel
theorem dX9_init_67 : decode cX9_init 67 = .ok (.aastore, 1) := by decide +kernel
theorem dX9_init_68 : decode cX9_init 68 = .ok (.iinc 1 1, 3) := by decide +kernel
theorem dX9_init_71 : decode cX9_init 71 = .ok (.goto (-21), 3) := by decide +kernel
theorem dX9_init_74 : decode cX9_init 74 = .ok (.aload_n 0, 1) := by decide +kernel
theorem dX9_init_75 : decode cX9_init 75 = .ok (.new 25, 3) := by decide +kernel
theorem dX9_init_78 : decode cX9_init 78 = .ok (.dup, 1) := by decide +kernel
theorem dX9_init_79 : decode cX9_init 79 = .ok (.invokespecial 27, 3) := by decide +kernel
theorem dX9_init_82 : decode cX9_init 82 = .ok (.putfield 28, 3) := by decide +kernel
theorem dX9_init_85 : decode cX9_init 85 = .ok (.aload_n 0, 1) := by decide +kernel
theorem dX9_init_86 : decode cX9_init 86 = .ok (.new 32, 3) := by decide +kernel
theorem dX9_init_89 : decode cX9_init 89 = .ok (.dup, 1) := by decide +kernel
theorem dX9_init_90 : decode cX9_init 90 = .ok (.invokespecial 34, 3) := by decide +kernel
theorem dX9_init_93 : decode cX9_init 93 = .ok (.putfield 35, 3) := by decide +kernel
theorem dX9_init_96 : decode cX9_init 96 = .ok (.aload_n 0, 1) := by decide +kernel
theorem dX9_init_97 : decode cX9_init 97 = .ok (.new 39, 3) := by decide +kernel
theorem dX9_init_100 : decode cX9_init 100 = .ok (.dup, 1) := by decide +kernel
theorem dX9_init_101 : decode cX9_init 101 = .ok (.invokespecial 41, 3) := by decide +kernel
theorem dX9_init_104 : decode cX9_init 104 = .ok (.putfield 42, 3) := by decide +kernel
theorem dX9_init_107 : decode cX9_init 107 = .ok (.aload_n 0, 1) := by decide +kernel
theorem dX9_init_108 : decode cX9_init 108 = .ok (.new 46, 3) := by decide +kernel
theorem dX9_init_111 : decode cX9_init 111 = .ok (.dup, 1) := by decide +kernel
theorem dX9_init_112 : decode cX9_init 112 = .ok (.invokespecial 48, 3) := by decide +kernel
theorem dX9_init_115 : decode cX9_init 115 = .ok (.putfield 49, 3) := by decide +kernel
theorem dX9_init_118 : decode cX9_init 118 = .ok (.aload_n 0, 1) := by decide +kernel
theorem dX9_init_119 : decode cX9_init 119 = .ok (.new 53, 3) := by decide +kernel
theorem dX9_init_122 : decode cX9_init 122 = .ok (.dup, 1) := by decide +kernel
theorem dX9_init_123 : decode cX9_init 123 = .ok (.invokespecial 55, 3) := by decide +kernel
theorem dX9_init_126 : decode cX9_init 126 = .ok (.putfield 56, 3) := by decide +kernel
theorem dX9_init_129 : decode cX9_init 129 = .ok (.aload_n 0, 1) := by decide +kernel
theorem dX9_init_130 : decode cX9_init 130 = .ok (.iconst (-1), 1) := by decide +kernel
theorem dX9_init_131 : decode cX9_init 131 = .ok (.putfield 60, 3) := by decide +kernel
theorem dX9_init_134 : decode cX9_init 134 = .ok (.return_, 1) := by decide +kernel
set_option maxRecDepth 20000 in
theorem ggX9_text_X9_isSheet : GoodIn wsX9_text wsX9_isSheet := goodIn_r _ [8] (by decide +kernel) (by decide +kernel)
set_option maxRecDepth 20000 in
theorem gX9_text_X9_isSheet : GoodIn wsX9_text (va_wsS RX9 64 yX9_isSheet wsX9_isSheet) := goodIn_app (goodIn_of _ (by decide +kernel)) ggX9_text_X9_isSheet
set_option maxRecDepth 20000 in
theorem ggX9_text_X9_unfaulted : GoodIn wsX9_text wsX9_unfaulted := goodIn_r _ [12, 13, 139, 140, 141, 142, 143, 144, 145, 146, 147, 148, 149] (by decide +kernel) (by decide +kernel)
set_option maxRecDepth 20000 in
theorem gX9_text_X9_unfaulted : GoodIn wsX9_text (wsV RX9 68 RX9 yX9_unfaulted wsX9_unfaulted) := goodIn_app (goodIn_of _ (by decide +kernel)) ggX9_text_X9_unfaulted
set_option maxRecDepth 20000 in
theorem ggX9_text_X9_isLane : GoodIn wsX9_text wsX9_isLane := goodIn_r _ [16] (by decide +kernel) (by decide +kernel)
set_option maxRecDepth 20000 in
theorem gX9_text_X9_isLane : GoodIn wsX9_text (va_wsS RX9 72 yX9_isLane wsX9_isLane) := goodIn_app (goodIn_of _ (by decide +kernel)) ggX9_text_X9_isLane
set_option maxRecDepth 20000 in
theorem ggX9_text_X4_faultAs : GoodIn wsX9_text wsX4_faultAs := goodIn_r _ [21, 22, 23, 24, 25, 20, 26, 154, 155, 156] (by decide +kernel) (by decide +kernel)
set_option maxRecDepth 20000 in
theorem gX9_text_X4_faultAs : GoodIn wsX9_text (wsV RX9 75 RX4 yX4_faultAs wsX4_faultAs) := goodIn_app (goodIn_of _ (by decide +kernel)) ggX9_text_X4_faultAs
set_option maxRecDepth 20000 in
theorem ggX9_text_X4_hasCells : GoodIn wsX9_text wsX4_hasCells := goodIn_r _ [30, 31, 154, 155, 156] (by decide +kernel) (by decide +kernel)
set_option maxRecDepth 20000 in
theorem gX9_text_X4_hasCells : GoodIn wsX9_text (wsV RX9 78 RX4 yX4_hasCells wsX4_hasCells) := goodIn_app (goodIn_of _ (by decide +kernel)) ggX9_text_X4_hasCells
set_option maxRecDepth 20000 in
theorem ggX9_text_X9_faulted : GoodIn wsX9_text wsX9_faulted := goodIn_r _ [35, 13, 139, 140, 141, 142, 143, 144, 145, 146, 147, 148, 149] (by decide +kernel) (by decide +kernel)
set_option maxRecDepth 20000 in
theorem gX9_text_X9_faulted : GoodIn wsX9_text (wsV RX9 82 RX9 yX9_faulted wsX9_faulted) := goodIn_app (goodIn_of _ (by decide +kernel)) ggX9_text_X9_faulted
set_option maxRecDepth 20000 in
theorem ggX9_text_X3_take : GoodIn wsX9_text wsX3_take := goodIn_r _ [40, 41, 42, 43, 44, 45, 46, 47, 154, 155, 156, 150, 151, 152, 153] (by decide +kernel) (by decide +kernel)
set_option maxRecDepth 20000 in
theorem gX9_text_X3_take : GoodIn wsX9_text (wsV RX9 85 RX3 yX3_take wsX3_take) := goodIn_app (goodIn_of _ (by decide +kernel)) ggX9_text_X3_take
set_option maxRecDepth 20000 in
theorem ggX9_text_X3_isText : GoodIn wsX9_text wsX3_isText := goodIn_r _ [51, 52, 53, 47, 54, 55, 56, 57, 58, 59, 60, 61, 62, 63, 39, 64, 65, 66, 67, 68, 69, 70, 71, 72, 42, 73, 74, 75, 76, 77, 78, 79, 80, 81, 82, 83, 84, 85, 86, 87, 88, 89, 90, 91, 92, 93, 94, 95, 96, 97, 98, 99, 100, 101, 102, 103, 104, 105, 106, 107, 108, 109, 110, 111, 112, 113, 114, 115, 116, 117, 118, 119, 120, 121, 122, 123, 124, 125, 126, 127, 150, 151, 152, 153, 157, 158, 159, 160, 161, 162, 163] (by decide +kernel) (by decide +kernel)
set_option maxRecDepth 20000 in
theorem gX9_text_X3_isText : GoodIn wsX9_text (wsV RX9 89 RX3 yX3_isText wsX3_isText) := goodIn_app (goodIn_of _ (by decide +kernel)) ggX9_text_X3_isText
set_option maxRecDepth 20000 in
theorem ggX9_text_X9_kept : GoodIn wsX9_text wsX9_kept := goodIn_r _ [131, 132, 133, 134, 135, 136, 57, 137, 59, 98, 99, 100, 101, 138, 55, 56, 58, 60, 94, 95, 96, 97, 102, 139, 140, 141, 142, 143, 144, 145, 146, 147, 148, 149, 157, 158, 159, 160, 161, 162, 163] (by decide +kernel) (by decide +kernel)
set_option maxRecDepth 20000 in
theorem gX9_text_X9_kept : GoodIn wsX9_text (wsV RX9 100 RX9 yX9_kept wsX9_kept) := goodIn_app (goodIn_of _ (by decide +kernel)) ggX9_text_X9_kept
theorem dX9_text_0 : decode cX9_text 0 = .ok (.iload_n 1, 1) := by decide +kernel
theorem dX9_text_1 : decode cX9_text 1 = .ok (.invokestatic 64, 3) := by decide +kernel
theorem dX9_text_4 : decode cX9_text 4 = .ok (.ifCond .ne 9, 3) := by decide +kernel
theorem dX9_text_7 : decode cX9_text 7 = .ok (.aload_n 0, 1) := by decide +kernel
theorem dX9_text_8 : decode cX9_text 8 = .ok (.iconst (-1), 1) := by decide +kernel
theorem dX9_text_9 : decode cX9_text 9 = .ok (.invokevirtual 68, 3) := by decide +kernel
theorem dX9_text_12 : decode cX9_text 12 = .ok (.ireturn, 1) := by decide +kernel
theorem dX9_text_13 : decode cX9_text 13 = .ok (.iload_n 2, 1) := by decide +kernel
theorem dX9_text_14 : decode cX9_text 14 = .ok (.invokestatic 72, 3) := by decide +kernel
theorem dX9_text_17 : decode cX9_text 17 = .ok (.ifCond .ne 10, 3) := by decide +kernel
theorem dX9_text_20 : decode cX9_text 20 = .ok (.aload_n 0, 1) := by decide +kernel
theorem dX9_text_21 : decode cX9_text 21 = .ok (.bipush (-2), 2) := by decide +kernel
theorem dX9_text_23 : decode cX9_text 23 = .ok (.invokevirtual 68, 3) := by decide +kernel
theorem dX9_text_26 : decode cX9_text 26 = .ok (.ireturn, 1) := by decide +kernel
theorem dX9_text_27 : decode cX9_text 27 = .ok (.aload_n 0, 1) := by decide +kernel
theorem dX9_text_28 : decode cX9_text 28 = .ok (.getfield 20, 3) := by decide +kernel
theorem dX9_text_31 : decode cX9_text 31 = .ok (.iload_n 1, 1) := by decide +kernel
theorem dX9_text_32 : decode cX9_text 32 = .ok (.aaload, 1) := by decide +kernel
theorem dX9_text_33 : decode cX9_text 33 = .ok (.astore 5, 2) := by decide +kernel
theorem dX9_text_35 : decode cX9_text 35 = .ok (.aload 5, 2) := by decide +kernel
theorem dX9_text_37 : decode cX9_text 37 = .ok (.iload_n 2, 1) := by decide +kernel
theorem dX9_text_38 : decode cX9_text 38 = .ok (.invokevirtual 75, 3) := by decide +kernel
theorem dX9_text_41 : decode cX9_text 41 = .ok (.istore 6, 2) := by decide +kernel
theorem dX9_text_43 : decode cX9_text 43 = .ok (.iload 6, 2) := by decide +kernel
theorem dX9_text_45 : decode cX9_text 45 = .ok (.ifCond .ne 11, 3) := by decide +kernel
theorem dX9_text_48 : decode cX9_text 48 = .ok (.iload 4, 2) := by decide +kernel
theorem dX9_text_50 : decode cX9_text 50 = .ok (.ifCond .ge 6, 3) := by decide +kernel
theorem dX9_text_53 : decode cX9_text 53 = .ok (.iconst 4, 1) := by decide +kernel
theorem dX9_text_54 : decode cX9_text 54 = .ok (.istore 6, 2) := by decide +kernel
theorem dX9_text_56 : decode cX9_text 56 = .ok (.iload 6, 2) := by decide +kernel
theorem dX9_text_58 : decode cX9_text 58 = .ok (.ifCond .ne 17, 3) := by decide +kernel
theorem dX9_text_61 : decode cX9_text 61 = .ok (.aload 5, 2) := by decide +kernel
theorem dX9_text_63 : decode cX9_text 63 = .ok (.iload_n 3, 1) := by decide +kernel
theorem dX9_text_64 : decode cX9_text 64 = .ok (.iload 4, 2) := by decide +kernel
theorem dX9_text_66 : decode cX9_text 66 = .ok (.invokevirtual 78, 3) := by decide +kernel
theorem dX9_text_69 : decode cX9_text 69 = .ok (.ifCond .ne 6, 3) := by decide +kernel
theorem dX9_text_72 : decode cX9_text 72 = .ok (.iconst 3, 1) := by decide +kernel
theorem dX9_text_73 : decode cX9_text 73 = .ok (.istore 6, 2) := by decide +kernel
theorem dX9_text_75 : decode cX9_text 75 = .ok (.iload 6, 2) := by decide +kernel
theorem dX9_text_77 : decode cX9_text 77 = .ok (.ifCond .eq 10, 3) := by decide +kernel
theorem dX9_text_80 : decode cX9_text 80 = .ok (.aload_n 0, 1) := by decide +kernel
theorem dX9_text_81 : decode cX9_text 81 = .ok (.iload 6, 2) := by decide +kernel
theorem dX9_text_83 : decode cX9_text 83 = .ok (.invokevirtual 82, 3) := by decide +kernel
theorem dX9_text_86 : decode cX9_text 86 = .ok (.ireturn, 1) := by decide +kernel
theorem dX9_text_87 : decode cX9_text 87 = .ok (.aload_n 0, 1) := by decide +kernel
theorem dX9_text_88 : decode cX9_text 88 = .ok (.getfield 28, 3) := by decide +kernel
theorem dX9_text_91 : decode cX9_text 91 = .ok (.aload 5, 2) := by decide +kernel
theorem dX9_text_93 : decode cX9_text 93 = .ok (.iload_n 3, 1) := by decide +kernel
theorem dX9_text_94 : decode cX9_text 94 = .ok (.iload 4, 2) := by decide +kernel
theorem dX9_text_96 : decode cX9_text 96 = .ok (.invokevirtual 85, 3) := by decide +kernel
theorem dX9_text_99 : decode cX9_text 99 = .ok (.aload_n 0, 1) := by decide +kernel
theorem dX9_text_100 : decode cX9_text 100 = .ok (.getfield 28, 3) := by decide +kernel
theorem dX9_text_103 : decode cX9_text 103 = .ok (.invokevirtual 89, 3) := by decide +kernel
theorem dX9_text_106 : decode cX9_text 106 = .ok (.ifCond .ne 18, 3) := by decide +kernel
theorem dX9_text_109 : decode cX9_text 109 = .ok (.aload_n 0, 1) := by decide +kernel
theorem dX9_text_110 : decode cX9_text 110 = .ok (.bipush (-100), 2) := by decide +kernel
theorem dX9_text_112 : decode cX9_text 112 = .ok (.aload_n 0, 1) := by decide +kernel
theorem dX9_text_113 : decode cX9_text 113 = .ok (.getfield 28, 3) := by decide +kernel
theorem dX9_text_116 : decode cX9_text 116 = .ok (.getfield 93, 3) := by decide +kernel
theorem dX9_text_119 : decode cX9_text 119 = .ok (.isub, 1) := by decide +kernel
theorem dX9_text_120 : decode cX9_text 120 = .ok (.invokevirtual 68, 3) := by decide +kernel
theorem dX9_text_123 : decode cX9_text 123 = .ok (.ireturn, 1) := by decide +kernel
theorem dX9_text_124 : decode cX9_text 124 = .ok (.aload_n 0, 1) := by decide +kernel
theorem dX9_text_125 : decode cX9_text 125 = .ok (.aload_n 0, 1) := by decide +kernel
theorem dX9_text_126 : decode cX9_text 126 = .ok (.aload_n 0, 1) := by decide +kernel
theorem dX9_text_127 : decode cX9_text 127 = .ok (.getfield 28, 3) := by decide +kernel
theorem dX9_text_130 : decode cX9_text 130 = .ok (.getfield 96, 3) := by decide +kernel
theorem dX9_text_133 : decode cX9_text 133 = .ok (.invokevirtual 100, 3) := by decide +kernel
theorem dX9_text_136 : decode cX9_text 136 = .ok (.invokevirtual 68, 3) := by decide +kernel
theorem dX9_text_139 : decode cX9_text 139 = .ok (.ireturn, 1) := by decide +kernel
set_option maxRecDepth 20000 in
theorem ggX9_line_X9_isLine : GoodIn wsX9_line wsX9_isLine := goodIn_r _ [10, 1, 11, 12, 13, 14, 9, 15, 16, 28, 29, 30, 31, 32, 33, 34, 35, 36, 37, 38, 39, 40, 41, 42, 43, 44, 45] (by decide +kernel) (by decide +kernel)
set_option maxRecDepth 20000 in
theorem gX9_line_X9_isLine : GoodIn wsX9_line (wsV RX9 104 RX9 yX9_isLine wsX9_isLine) := goodIn_app (goodIn_of _ (by decide +kernel)) ggX9_line_X9_isLine
set_option maxRecDepth 20000 in
theorem ggX9_line_X2_kindOf : GoodIn wsX9_line wsX2_kindOf := goodIn_r _ [21, 22, 23, 24, 25, 20, 26, 27, 39, 40, 41, 42, 43, 44, 45] (by decide +kernel) (by decide +kernel)
set_option maxRecDepth 20000 in
theorem gX9_line_X2_kindOf : GoodIn wsX9_line (wsV RX9 111 RX2 yX2_kindOf wsX2_kindOf) := goodIn_app (goodIn_of _ (by decide +kernel)) ggX9_line_X2_kindOf
theorem dX9_line_0 : decode cX9_line 0 = .ok (.aload_n 0, 1) := by decide +kernel
theorem dX9_line_1 : decode cX9_line 1 = .ok (.iload_n 1, 1) := by decide +kernel
theorem dX9_line_2 : decode cX9_line 2 = .ok (.iload_n 2, 1) := by decide +kernel
theorem dX9_line_3 : decode cX9_line 3 = .ok (.invokevirtual 104, 3) := by decide +kernel
theorem dX9_line_6 : decode cX9_line 6 = .ok (.ifCond .ne 5, 3) := by decide +kernel
theorem dX9_line_9 : decode cX9_line 9 = .ok (.iconst (-1), 1) := by decide +kernel
theorem dX9_line_10 : decode cX9_line 10 = .ok (.ireturn, 1) := by decide +kernel
theorem dX9_line_11 : decode cX9_line 11 = .ok (.aload_n 0, 1) := by decide +kernel
theorem dX9_line_12 : decode cX9_line 12 = .ok (.getfield 13, 3) := by decide +kernel
theorem dX9_line_15 : decode cX9_line 15 = .ok (.iload_n 1, 1) := by decide +kernel
theorem dX9_line_16 : decode cX9_line 16 = .ok (.aaload, 1) := by decide +kernel
theorem dX9_line_17 : decode cX9_line 17 = .ok (.astore 4, 2) := by decide +kernel
theorem dX9_line_19 : decode cX9_line 19 = .ok (.iload_n 3, 1) := by decide +kernel
theorem dX9_line_20 : decode cX9_line 20 = .ok (.tableswitch 75 0 4 #[36, 44, 51, 59, 67], 36) := by decide +kernel
theorem dX9_line_56 : decode cX9_line 56 = .ok (.aload 4, 2) := by decide +kernel
theorem dX9_line_58 : decode cX9_line 58 = .ok (.getfield 107, 3) := by decide +kernel
theorem dX9_line_61 : decode cX9_line 61 = .ok (.iload_n 2, 1) := by decide +kernel
theorem dX9_line_62 : decode cX9_line 62 = .ok (.iaload, 1) := by decide +kernel
theorem dX9_line_63 : decode cX9_line 63 = .ok (.ireturn, 1) := by decide +kernel
theorem dX9_line_64 : decode cX9_line 64 = .ok (.aload 4, 2) := by decide +kernel
theorem dX9_line_66 : decode cX9_line 66 = .ok (.iload_n 2, 1) := by decide +kernel
theorem dX9_line_67 : decode cX9_line 67 = .ok (.invokevirtual 111, 3) := by decide +kernel
theorem dX9_line_70 : decode cX9_line 70 = .ok (.ireturn, 1) := by decide +kernel
theorem dX9_line_71 : decode cX9_line 71 = .ok (.aload 4, 2) := by decide +kernel
theorem dX9_line_73 : decode cX9_line 73 = .ok (.getfield 114, 3) := by decide +kernel
theorem dX9_line_76 : decode cX9_line 76 = .ok (.iload_n 2, 1) := by decide +kernel
theorem dX9_line_77 : decode cX9_line 77 = .ok (.iaload, 1) := by decide +kernel
theorem dX9_line_78 : decode cX9_line 78 = .ok (.ireturn, 1) := by decide +kernel
theorem dX9_line_79 : decode cX9_line 79 = .ok (.aload 4, 2) := by decide +kernel
theorem dX9_line_81 : decode cX9_line 81 = .ok (.getfield 117, 3) := by decide +kernel
theorem dX9_line_84 : decode cX9_line 84 = .ok (.iload_n 2, 1) := by decide +kernel
theorem dX9_line_85 : decode cX9_line 85 = .ok (.iaload, 1) := by decide +kernel
theorem dX9_line_86 : decode cX9_line 86 = .ok (.ireturn, 1) := by decide +kernel
theorem dX9_line_87 : decode cX9_line 87 = .ok (.aload 4, 2) := by decide +kernel
theorem dX9_line_89 : decode cX9_line 89 = .ok (.getfield 120, 3) := by decide +kernel
theorem dX9_line_92 : decode cX9_line 92 = .ok (.iload_n 2, 1) := by decide +kernel
theorem dX9_line_93 : decode cX9_line 93 = .ok (.iaload, 1) := by decide +kernel
theorem dX9_line_94 : decode cX9_line 94 = .ok (.ireturn, 1) := by decide +kernel
theorem dX9_line_95 : decode cX9_line 95 = .ok (.bipush (-2), 2) := by decide +kernel
theorem dX9_line_97 : decode cX9_line 97 = .ok (.ireturn, 1) := by decide +kernel
set_option maxRecDepth 20000 in
theorem ggX9_size_X9_isProof : GoodIn wsX9_size wsX9_isProof := goodIn_r _ [9, 10, 49, 50, 51, 52, 53, 54, 55, 56, 57, 58, 59] (by decide +kernel) (by decide +kernel)
set_option maxRecDepth 20000 in
theorem gX9_size_X9_isProof : GoodIn wsX9_size (wsV RX9 123 RX9 yX9_isProof wsX9_isProof) := goodIn_app (goodIn_of _ (by decide +kernel)) ggX9_size_X9_isProof
set_option maxRecDepth 20000 in
theorem ggX9_size_X6_signsOf : GoodIn wsX9_size wsX6_signsOf := goodIn_r _ [14, 15, 16, 17, 18, 19, 20, 21, 22, 23, 60, 61, 62, 63, 64, 65, 66] (by decide +kernel) (by decide +kernel)
set_option maxRecDepth 20000 in
theorem gX9_size_X6_signsOf : GoodIn wsX9_size (va_wsS RX9 129 yX6_signsOf wsX6_signsOf) := goodIn_app (goodIn_of _ (by decide +kernel)) ggX9_size_X6_signsOf
set_option maxRecDepth 20000 in
theorem ggX9_size_X6_widestOf : GoodIn wsX9_size wsX6_widestOf := goodIn_r _ [26, 15, 16, 27, 28, 29, 30, 17, 18, 19, 20, 21, 22, 23, 60, 61, 62, 63, 64, 65, 66] (by decide +kernel) (by decide +kernel)
set_option maxRecDepth 20000 in
theorem gX9_size_X6_widestOf : GoodIn wsX9_size (va_wsS RX9 132 yX6_widestOf wsX6_widestOf) := goodIn_app (goodIn_of _ (by decide +kernel)) ggX9_size_X6_widestOf
set_option maxRecDepth 20000 in
theorem ggX9_size_X6_deepOf : GoodIn wsX9_size wsX6_deepOf := goodIn_r _ [34, 15, 35, 36, 37, 27, 28, 29, 30, 38, 39, 40, 41, 42, 43, 60, 61, 62, 63, 64, 65, 66, 67, 68] (by decide +kernel) (by decide +kernel)
set_option maxRecDepth 20000 in
theorem gX9_size_X6_deepOf : GoodIn wsX9_size (wsV RX9 135 RX6 yX6_deepOf wsX6_deepOf) := goodIn_app (goodIn_of _ (by decide +kernel)) ggX9_size_X6_deepOf
set_option maxRecDepth 20000 in
theorem ggX9_size_X6_keptOf : GoodIn wsX9_size wsX6_keptOf := goodIn_r _ [47, 15, 48, 36, 37, 27, 28, 29, 30, 38, 39, 40, 41, 42, 43, 60, 61, 62, 63, 64, 65, 66, 67, 68] (by decide +kernel) (by decide +kernel)
set_option maxRecDepth 20000 in
theorem gX9_size_X6_keptOf : GoodIn wsX9_size (wsV RX9 138 RX6 yX6_keptOf wsX6_keptOf) := goodIn_app (goodIn_of _ (by decide +kernel)) ggX9_size_X6_keptOf
theorem dX9_size_0 : decode cX9_size 0 = .ok (.aload_n 0, 1) := by decide +kernel
theorem dX9_size_1 : decode cX9_size 1 = .ok (.iload_n 1, 1) := by decide +kernel
theorem dX9_size_2 : decode cX9_size 2 = .ok (.invokevirtual 123, 3) := by decide +kernel
theorem dX9_size_5 : decode cX9_size 5 = .ok (.ifCond .ne 5, 3) := by decide +kernel
theorem dX9_size_8 : decode cX9_size 8 = .ok (.iconst (-1), 1) := by decide +kernel
theorem dX9_size_9 : decode cX9_size 9 = .ok (.ireturn, 1) := by decide +kernel
theorem dX9_size_10 : decode cX9_size 10 = .ok (.aload_n 0, 1) := by decide +kernel
theorem dX9_size_11 : decode cX9_size 11 = .ok (.getfield 13, 3) := by decide +kernel
theorem dX9_size_14 : decode cX9_size 14 = .ok (.iload_n 1, 1) := by decide +kernel
theorem dX9_size_15 : decode cX9_size 15 = .ok (.aaload, 1) := by decide +kernel
theorem dX9_size_16 : decode cX9_size 16 = .ok (.astore_n 3, 1) := by decide +kernel
theorem dX9_size_17 : decode cX9_size 17 = .ok (.iload_n 2, 1) := by decide +kernel
theorem dX9_size_18 : decode cX9_size 18 = .ok (.tableswitch 76 0 5 #[38, 43, 48, 53, 62, 71], 38) := by decide +kernel
theorem dX9_size_56 : decode cX9_size 56 = .ok (.aload_n 3, 1) := by decide +kernel
theorem dX9_size_57 : decode cX9_size 57 = .ok (.getfield 126, 3) := by decide +kernel
theorem dX9_size_60 : decode cX9_size 60 = .ok (.ireturn, 1) := by decide +kernel
theorem dX9_size_61 : decode cX9_size 61 = .ok (.aload_n 3, 1) := by decide +kernel
theorem dX9_size_62 : decode cX9_size 62 = .ok (.invokestatic 129, 3) := by decide +kernel
theorem dX9_size_65 : decode cX9_size 65 = .ok (.ireturn, 1) := by decide +kernel
theorem dX9_size_66 : decode cX9_size 66 = .ok (.aload_n 3, 1) := by decide +kernel
theorem dX9_size_67 : decode cX9_size 67 = .ok (.invokestatic 132, 3) := by decide +kernel
theorem dX9_size_70 : decode cX9_size 70 = .ok (.ireturn, 1) := by decide +kernel
theorem dX9_size_71 : decode cX9_size 71 = .ok (.aload_n 0, 1) := by decide +kernel
theorem dX9_size_72 : decode cX9_size 72 = .ok (.getfield 35, 3) := by decide +kernel
theorem dX9_size_75 : decode cX9_size 75 = .ok (.aload_n 3, 1) := by decide +kernel
theorem dX9_size_76 : decode cX9_size 76 = .ok (.invokevirtual 135, 3) := by decide +kernel
theorem dX9_size_79 : decode cX9_size 79 = .ok (.ireturn, 1) := by decide +kernel
theorem dX9_size_80 : decode cX9_size 80 = .ok (.aload_n 0, 1) := by decide +kernel
theorem dX9_size_81 : decode cX9_size 81 = .ok (.getfield 35, 3) := by decide +kernel
theorem dX9_size_84 : decode cX9_size 84 = .ok (.aload_n 3, 1) := by decide +kernel
theorem dX9_size_85 : decode cX9_size 85 = .ok (.invokevirtual 138, 3) := by decide +kernel
theorem dX9_size_88 : decode cX9_size 88 = .ok (.ireturn, 1) := by decide +kernel
theorem dX9_size_89 : decode cX9_size 89 = .ok (.aload_n 3, 1) := by decide +kernel
theorem dX9_size_90 : decode cX9_size 90 = .ok (.getfield 141, 3) := by decide +kernel
theorem dX9_size_93 : decode cX9_size 93 = .ok (.ireturn, 1) := by decide +kernel
theorem dX9_size_94 : decode cX9_size 94 = .ok (.bipush (-2), 2) := by decide +kernel
theorem dX9_size_96 : decode cX9_size 96 = .ok (.ireturn, 1) := by decide +kernel
set_option maxRecDepth 20000 in
theorem ggX9_rests_X9_isProof : GoodIn wsX9_rests wsX9_isProof := goodIn_r _ [6, 7, 26, 27, 28, 29, 30, 31, 32, 33, 34, 35, 36] (by decide +kernel) (by decide +kernel)
set_option maxRecDepth 20000 in
theorem gX9_rests_X9_isProof : GoodIn wsX9_rests (wsV RX9 123 RX9 yX9_isProof wsX9_isProof) := goodIn_app (goodIn_of _ (by decide +kernel)) ggX9_rests_X9_isProof
set_option maxRecDepth 20000 in
theorem ggX9_rests_X2_restSet : GoodIn wsX9_rests wsX2_restSet := goodIn_r _ [12, 13, 14, 15, 16, 11, 17, 18, 19, 20, 5, 21, 22, 23, 24, 25, 37, 38, 39, 40, 41, 42, 43] (by decide +kernel) (by decide +kernel)
set_option maxRecDepth 20000 in
theorem gX9_rests_X2_restSet : GoodIn wsX9_rests (wsV RX9 144 RX2 yX2_restSet wsX2_restSet) := goodIn_app (goodIn_of _ (by decide +kernel)) ggX9_rests_X2_restSet
theorem dX9_rests_0 : decode cX9_rests 0 = .ok (.aload_n 0, 1) := by decide +kernel
theorem dX9_rests_1 : decode cX9_rests 1 = .ok (.iload_n 1, 1) := by decide +kernel
theorem dX9_rests_2 : decode cX9_rests 2 = .ok (.invokevirtual 123, 3) := by decide +kernel
theorem dX9_rests_5 : decode cX9_rests 5 = .ok (.ifCond .eq 16, 3) := by decide +kernel
theorem dX9_rests_8 : decode cX9_rests 8 = .ok (.aload_n 0, 1) := by decide +kernel
theorem dX9_rests_9 : decode cX9_rests 9 = .ok (.getfield 13, 3) := by decide +kernel
theorem dX9_rests_12 : decode cX9_rests 12 = .ok (.iload_n 1, 1) := by decide +kernel
theorem dX9_rests_13 : decode cX9_rests 13 = .ok (.aaload, 1) := by decide +kernel
theorem dX9_rests_14 : decode cX9_rests 14 = .ok (.invokevirtual 144, 3) := by decide +kernel
theorem dX9_rests_17 : decode cX9_rests 17 = .ok (.l2i, 1) := by decide +kernel
theorem dX9_rests_18 : decode cX9_rests 18 = .ok (.goto 4, 3) := by decide +kernel
theorem dX9_rests_21 : decode cX9_rests 21 = .ok (.iconst (-1), 1) := by decide +kernel
theorem dX9_rests_22 : decode cX9_rests 22 = .ok (.ireturn, 1) := by decide +kernel
set_option maxRecDepth 20000 in
theorem ggX9_truly_X9_isProof : GoodIn wsX9_truly wsX9_isProof := goodIn_r _ [8, 9, 29, 30, 31, 32, 33, 34, 35, 36, 37, 38, 39] (by decide +kernel) (by decide +kernel)
set_option maxRecDepth 20000 in
theorem gX9_truly_X9_isProof : GoodIn wsX9_truly (wsV RX9 123 RX9 yX9_isProof wsX9_isProof) := goodIn_app (goodIn_of _ (by decide +kernel)) ggX9_truly_X9_isProof
set_option maxRecDepth 20000 in
theorem ggX9_truly_X2_restSet : GoodIn wsX9_truly wsX2_restSet := goodIn_r _ [14, 15, 16, 17, 18, 13, 19, 20, 21, 22, 7, 23, 24, 25, 26, 27, 40, 41, 42, 43, 44, 45, 46] (by decide +kernel) (by decide +kernel)
set_option maxRecDepth 20000 in
theorem gX9_truly_X2_restSet : GoodIn wsX9_truly (wsV RX9 144 RX2 yX2_restSet wsX2_restSet) := goodIn_app (goodIn_of _ (by decide +kernel)) ggX9_truly_X2_restSet
set_option maxRecDepth 20000 in
theorem ggX9_truly_X9_isIn : GoodIn wsX9_truly wsX9_isIn := goodIn_r _ [23] (by decide +kernel) (by decide +kernel)
set_option maxRecDepth 20000 in
theorem gX9_truly_X9_isIn : GoodIn wsX9_truly (va_wsS RX9 151 yX9_isIn wsX9_isIn) := goodIn_app (goodIn_of _ (by decide +kernel)) ggX9_truly_X9_isIn
theorem dX9_truly_0 : decode cX9_truly 0 = .ok (.aload_n 0, 1) := by decide +kernel
theorem dX9_truly_1 : decode cX9_truly 1 = .ok (.iload_n 1, 1) := by decide +kernel
theorem dX9_truly_2 : decode cX9_truly 2 = .ok (.invokevirtual 123, 3) := by decide +kernel
theorem dX9_truly_5 : decode cX9_truly 5 = .ok (.ifCond .ne 5, 3) := by decide +kernel
theorem dX9_truly_8 : decode cX9_truly 8 = .ok (.iconst (-1), 1) := by decide +kernel
theorem dX9_truly_9 : decode cX9_truly 9 = .ok (.ireturn, 1) := by decide +kernel
theorem dX9_truly_10 : decode cX9_truly 10 = .ok (.aload_n 0, 1) := by decide +kernel
theorem dX9_truly_11 : decode cX9_truly 11 = .ok (.getfield 13, 3) := by decide +kernel
theorem dX9_truly_14 : decode cX9_truly 14 = .ok (.iload_n 1, 1) := by decide +kernel
theorem dX9_truly_15 : decode cX9_truly 15 = .ok (.aaload, 1) := by decide +kernel
theorem dX9_truly_16 : decode cX9_truly 16 = .ok (.astore_n 2, 1) := by decide +kernel
theorem dX9_truly_17 : decode cX9_truly 17 = .ok (.aload_n 2, 1) := by decide +kernel
theorem dX9_truly_18 : decode cX9_truly 18 = .ok (.getfield 141, 3) := by decide +kernel
theorem dX9_truly_21 : decode cX9_truly 21 = .ok (.bipush 10, 2) := by decide +kernel
theorem dX9_truly_23 : decode cX9_truly 23 = .ok (.if_icmp .le 6, 3) := by decide +kernel
theorem dX9_truly_26 : decode cX9_truly 26 = .ok (.bipush (-3), 2) := by decide +kernel
theorem dX9_truly_28 : decode cX9_truly 28 = .ok (.ireturn, 1) := by decide +kernel
theorem dX9_truly_29 : decode cX9_truly 29 = .ok (.aload_n 2, 1) := by decide +kernel
theorem dX9_truly_30 : decode cX9_truly 30 = .ok (.invokevirtual 144, 3) := by decide +kernel
theorem dX9_truly_33 : decode cX9_truly 33 = .ok (.lstore_n 3, 1) := by decide +kernel
theorem dX9_truly_34 : decode cX9_truly 34 = .ok (.iconst 0, 1) := by decide +kernel
theorem dX9_truly_35 : decode cX9_truly 35 = .ok (.istore 5, 2) := by decide +kernel
theorem dX9_truly_37 : decode cX9_truly 37 = .ok (.iconst 0, 1) := by decide +kernel
theorem dX9_truly_38 : decode cX9_truly 38 = .ok (.istore 6, 2) := by decide +kernel
theorem dX9_truly_40 : decode cX9_truly 40 = .ok (.iload 6, 2) := by decide +kernel
theorem dX9_truly_42 : decode cX9_truly 42 = .ok (.aload_n 2, 1) := by decide +kernel
theorem dX9_truly_43 : decode cX9_truly 43 = .ok (.getfield 141, 3) := by decide +kernel
theorem dX9_truly_46 : decode cX9_truly 46 = .ok (.if_icmp .ge 32, 3) := by decide +kernel
theorem dX9_truly_49 : decode cX9_truly 49 = .ok (.aload_n 2, 1) := by decide +kernel
theorem dX9_truly_50 : decode cX9_truly 50 = .ok (.getfield 148, 3) := by decide +kernel
theorem dX9_truly_53 : decode cX9_truly 53 = .ok (.iload 6, 2) := by decide +kernel
theorem dX9_truly_55 : decode cX9_truly 55 = .ok (.iaload, 1) := by decide +kernel
theorem dX9_truly_56 : decode cX9_truly 56 = .ok (.lload_n 3, 1) := by decide +kernel
theorem dX9_truly_57 : decode cX9_truly 57 = .ok (.invokestatic 151, 3) := by decide +kernel
theorem dX9_truly_60 : decode cX9_truly 60 = .ok (.ifCond .eq 12, 3) := by decide +kernel
theorem dX9_truly_63 : decode cX9_truly 63 = .ok (.iload 5, 2) := by decide +kernel
theorem dX9_truly_65 : decode cX9_truly 65 = .ok (.iconst 1, 1) := by decide +kernel
theorem dX9_truly_66 : decode cX9_truly 66 = .ok (.iload 6, 2) := by decide +kernel
theorem dX9_truly_68 : decode cX9_truly 68 = .ok (.ishl, 1) := by decide +kernel
theorem dX9_truly_69 : decode cX9_truly 69 = .ok (.ior, 1) := by decide +kernel
theorem dX9_truly_70 : decode cX9_truly 70 = .ok (.istore 5, 2) := by decide +kernel
theorem dX9_truly_72 : decode cX9_truly 72 = .ok (.iinc 6 1, 3) := by decide +kernel
theorem dX9_truly_75 : decode cX9_truly 75 = .ok (.goto (-35), 3) := by decide +kernel
theorem dX9_truly_78 : decode cX9_truly 78 = .ok (.iload 5, 2) := by decide +kernel
theorem dX9_truly_80 : decode cX9_truly 80 = .ok (.ireturn, 1) := by decide +kernel
set_option maxRecDepth 20000 in
theorem ggX9_fewest_X9_isProof : GoodIn wsX9_fewest wsX9_isProof := goodIn_r _ [11, 12, 91, 92, 93, 94, 95, 96, 97, 98, 99, 100, 101] (by decide +kernel) (by decide +kernel)
set_option maxRecDepth 20000 in
theorem gX9_fewest_X9_isProof : GoodIn wsX9_fewest (wsV RX9 123 RX9 yX9_isProof wsX9_isProof) := goodIn_app (goodIn_of _ (by decide +kernel)) ggX9_fewest_X9_isProof
set_option maxRecDepth 20000 in
theorem ggX9_fewest_X2_restSet : GoodIn wsX9_fewest wsX2_restSet := goodIn_r _ [17, 18, 19, 20, 21, 16, 22, 23, 24, 25, 10, 26, 27, 28, 29, 30, 109, 110, 111, 112, 113, 114, 115] (by decide +kernel) (by decide +kernel)
set_option maxRecDepth 20000 in
theorem gX9_fewest_X2_restSet : GoodIn wsX9_fewest (wsV RX9 144 RX2 yX2_restSet wsX2_restSet) := goodIn_app (goodIn_of _ (by decide +kernel)) ggX9_fewest_X2_restSet
set_option maxRecDepth 20000 in
theorem ggX9_fewest_J13_bitCount_95d88 : GoodIn wsX9_fewest wsJ13_bitCount_95d88 := goodIn_r _ [34, 35, 36, 37] (by decide +kernel) (by decide +kernel)
set_option maxRecDepth 20000 in
theorem gX9_fewest_J13_bitCount_95d88 : GoodIn wsX9_fewest (va_wsS RX9 155 yJ13_bitCount_95d88 wsJ13_bitCount_95d88) := goodIn_app (goodIn_of _ (by decide +kernel)) ggX9_fewest_J13_bitCount_95d88
set_option maxRecDepth 20000 in
theorem ggX9_fewest_X1_arrange : GoodIn wsX9_fewest wsX1_arrange := goodIn_r _ [42, 43, 44, 45, 46, 47, 48, 49, 50, 51, 52, 41, 53, 54, 55, 56, 57, 58, 14, 15, 16, 17, 18, 19, 20, 21, 22, 23, 24, 25, 10, 26, 27, 28, 29, 30, 59, 60, 61, 62, 63, 64, 65, 66, 67, 68, 69, 70, 71, 72, 73, 74, 75, 76, 77, 78, 79, 80, 81, 82, 83, 84, 85, 86, 87, 88, 89, 90, 102, 103, 104, 105, 106, 107, 108, 109, 110, 111, 112, 113, 114, 115] (by decide +kernel) (by decide +kernel)
set_option maxRecDepth 20000 in
theorem gX9_fewest_X1_arrange : GoodIn wsX9_fewest (wsV RX9 159 RX1 yX1_arrange wsX1_arrange) := goodIn_app (goodIn_of _ (by decide +kernel)) ggX9_fewest_X1_arrange
theorem dX9_fewest_0 : decode cX9_fewest 0 = .ok (.aload_n 0, 1) := by decide +kernel
theorem dX9_fewest_1 : decode cX9_fewest 1 = .ok (.iload_n 1, 1) := by decide +kernel
theorem dX9_fewest_2 : decode cX9_fewest 2 = .ok (.invokevirtual 123, 3) := by decide +kernel
theorem dX9_fewest_5 : decode cX9_fewest 5 = .ok (.ifCond .eq 14, 3) := by decide +kernel
theorem dX9_fewest_8 : decode cX9_fewest 8 = .ok (.iload_n 2, 1) := by decide +kernel
theorem dX9_fewest_9 : decode cX9_fewest 9 = .ok (.iconst (-1), 1) := by decide +kernel
theorem dX9_fewest_10 : decode cX9_fewest 10 = .ok (.if_icmp .lt 9, 3) := by decide +kernel
theorem dX9_fewest_13 : decode cX9_fewest 13 = .ok (.iload_n 2, 1) := by decide +kernel
theorem dX9_fewest_14 : decode cX9_fewest 14 = .ok (.bipush 12, 2) := by decide +kernel
theorem dX9_fewest_16 : decode cX9_fewest 16 = .ok (.if_icmp .lt 5, 3) := by decide +kernel
theorem dX9_fewest_19 : decode cX9_fewest 19 = .ok (.iconst (-1), 1) := by decide +kernel
theorem dX9_fewest_20 : decode cX9_fewest 20 = .ok (.ireturn, 1) := by decide +kernel
theorem dX9_fewest_21 : decode cX9_fewest 21 = .ok (.aload_n 0, 1) := by decide +kernel
theorem dX9_fewest_22 : decode cX9_fewest 22 = .ok (.getfield 13, 3) := by decide +kernel
theorem dX9_fewest_25 : decode cX9_fewest 25 = .ok (.iload_n 1, 1) := by decide +kernel
theorem dX9_fewest_26 : decode cX9_fewest 26 = .ok (.aaload, 1) := by decide +kernel
theorem dX9_fewest_27 : decode cX9_fewest 27 = .ok (.invokevirtual 144, 3) := by decide +kernel
theorem dX9_fewest_30 : decode cX9_fewest 30 = .ok (.invokestatic 155, 3) := by decide +kernel
theorem dX9_fewest_33 : decode cX9_fewest 33 = .ok (.bipush 12, 2) := by decide +kernel
theorem dX9_fewest_35 : decode cX9_fewest 35 = .ok (.if_icmp .le 6, 3) := by decide +kernel
theorem dX9_fewest_38 : decode cX9_fewest 38 = .ok (.bipush (-3), 2) := by decide +kernel
theorem dX9_fewest_40 : decode cX9_fewest 40 = .ok (.ireturn, 1) := by decide +kernel
theorem dX9_fewest_41 : decode cX9_fewest 41 = .ok (.aload_n 0, 1) := by decide +kernel
theorem dX9_fewest_42 : decode cX9_fewest 42 = .ok (.getfield 60, 3) := by decide +kernel
theorem dX9_fewest_45 : decode cX9_fewest 45 = .ok (.iload_n 1, 1) := by decide +kernel
theorem dX9_fewest_46 : decode cX9_fewest 46 = .ok (.if_icmp .eq 21, 3) := by decide +kernel
theorem dX9_fewest_49 : decode cX9_fewest 49 = .ok (.aload_n 0, 1) := by decide +kernel
theorem dX9_fewest_50 : decode cX9_fewest 50 = .ok (.getfield 42, 3) := by decide +kernel
theorem dX9_fewest_53 : decode cX9_fewest 53 = .ok (.aload_n 0, 1) := by decide +kernel
theorem dX9_fewest_54 : decode cX9_fewest 54 = .ok (.getfield 13, 3) := by decide +kernel
theorem dX9_fewest_57 : decode cX9_fewest 57 = .ok (.iload_n 1, 1) := by decide +kernel
theorem dX9_fewest_58 : decode cX9_fewest 58 = .ok (.aaload, 1) := by decide +kernel
theorem dX9_fewest_59 : decode cX9_fewest 59 = .ok (.invokevirtual 159, 3) := by decide +kernel
theorem dX9_fewest_62 : decode cX9_fewest 62 = .ok (.aload_n 0, 1) := by decide +kernel
theorem dX9_fewest_63 : decode cX9_fewest 63 = .ok (.iload_n 1, 1) := by decide +kernel
theorem dX9_fewest_64 : decode cX9_fewest 64 = .ok (.putfield 60, 3) := by decide +kernel
theorem dX9_fewest_67 : decode cX9_fewest 67 = .ok (.iload_n 2, 1) := by decide +kernel
theorem dX9_fewest_68 : decode cX9_fewest 68 = .ok (.iconst (-1), 1) := by decide +kernel
theorem dX9_fewest_69 : decode cX9_fewest 69 = .ok (.if_icmp .ne 11, 3) := by decide +kernel
theorem dX9_fewest_72 : decode cX9_fewest 72 = .ok (.aload_n 0, 1) := by decide +kernel
theorem dX9_fewest_73 : decode cX9_fewest 73 = .ok (.getfield 42, 3) := by decide +kernel
theorem dX9_fewest_76 : decode cX9_fewest 76 = .ok (.getfield 163, 3) := by decide +kernel
theorem dX9_fewest_79 : decode cX9_fewest 79 = .ok (.ireturn, 1) := by decide +kernel
theorem dX9_fewest_80 : decode cX9_fewest 80 = .ok (.iload_n 2, 1) := by decide +kernel
theorem dX9_fewest_81 : decode cX9_fewest 81 = .ok (.aload_n 0, 1) := by decide +kernel
theorem dX9_fewest_82 : decode cX9_fewest 82 = .ok (.getfield 42, 3) := by decide +kernel
theorem dX9_fewest_85 : decode cX9_fewest 85 = .ok (.getfield 166, 3) := by decide +kernel
theorem dX9_fewest_88 : decode cX9_fewest 88 = .ok (.if_icmp .ge 15, 3) := by decide +kernel
theorem dX9_fewest_91 : decode cX9_fewest 91 = .ok (.aload_n 0, 1) := by decide +kernel
theorem dX9_fewest_92 : decode cX9_fewest 92 = .ok (.getfield 42, 3) := by decide +kernel
theorem dX9_fewest_95 : decode cX9_fewest 95 = .ok (.getfield 169, 3) := by decide +kernel
theorem dX9_fewest_98 : decode cX9_fewest 98 = .ok (.iload_n 2, 1) := by decide +kernel
theorem dX9_fewest_99 : decode cX9_fewest 99 = .ok (.iaload, 1) := by decide +kernel
theorem dX9_fewest_100 : decode cX9_fewest 100 = .ok (.goto 5, 3) := by decide +kernel
theorem dX9_fewest_103 : decode cX9_fewest 103 = .ok (.bipush (-9), 2) := by decide +kernel
theorem dX9_fewest_105 : decode cX9_fewest 105 = .ok (.ireturn, 1) := by decide +kernel
set_option maxRecDepth 20000 in
theorem ggX9_shorter_X9_isProof : GoodIn wsX9_shorter wsX9_isProof := goodIn_r _ [8, 9, 157, 158, 159, 160, 161, 162, 163, 164, 165, 166, 167] (by decide +kernel) (by decide +kernel)
set_option maxRecDepth 20000 in
theorem gX9_shorter_X9_isProof : GoodIn wsX9_shorter (wsV RX9 123 RX9 yX9_isProof wsX9_isProof) := goodIn_app (goodIn_of _ (by decide +kernel)) ggX9_shorter_X9_isProof
set_option maxRecDepth 20000 in
theorem ggX9_shorter_X5_shortens : GoodIn wsX9_shorter wsX5_shortens := goodIn_r _ [14, 15, 16, 17, 18, 19, 20, 21, 22, 23, 24, 25, 26, 27, 28, 29, 13, 30, 31, 32, 33, 34, 35, 36, 37, 38, 39, 40, 41, 42, 43, 44, 45, 46, 7, 47, 48, 49, 50, 51, 52, 53, 54, 55, 56, 57, 58, 59, 60, 61, 62, 63, 64, 65, 66, 67, 68, 69, 70, 71, 72, 73, 74, 75, 76, 77, 78, 79, 80, 81, 82, 83, 84, 85, 86, 87, 88, 89, 90, 91, 92, 93, 94, 95, 96, 97, 98, 99, 100, 101, 102, 103, 104, 105, 106, 107, 108, 109, 110, 111, 112, 113, 114, 115, 116, 117, 118, 119, 120, 121, 122, 123, 124, 125, 126, 127, 128, 129, 130, 131, 132, 133, 134, 135, 136, 137, 138, 139, 140, 141, 142, 143, 144, 145, 146, 147, 148, 168, 169, 170, 171, 172, 173, 174, 175, 176, 177, 178, 179] (by decide +kernel) (by decide +kernel)
set_option maxRecDepth 20000 in
theorem gX9_shorter_X5_shortens : GoodIn wsX9_shorter (wsV RX9 172 RX5 yX5_shortens wsX5_shortens) := goodIn_app (goodIn_of _ (by decide +kernel)) ggX9_shorter_X5_shortens
set_option maxRecDepth 20000 in
theorem ggX9_shorter_X9_kept : GoodIn wsX9_shorter wsX9_kept := goodIn_r _ [152, 9, 2, 153, 154, 155, 23, 156, 25, 93, 44, 45, 102, 143, 21, 22, 24, 26, 148, 99, 100, 101, 103, 157, 158, 159, 160, 161, 162, 163, 164, 165, 166, 167, 173, 174, 175, 176, 177, 178, 179] (by decide +kernel) (by decide +kernel)
set_option maxRecDepth 20000 in
theorem gX9_shorter_X9_kept : GoodIn wsX9_shorter (wsV RX9 100 RX9 yX9_kept wsX9_kept) := goodIn_app (goodIn_of _ (by decide +kernel)) ggX9_shorter_X9_kept
theorem dX9_shorter_0 : decode cX9_shorter 0 = .ok (.aload_n 0, 1) := by decide +kernel
theorem dX9_shorter_1 : decode cX9_shorter 1 = .ok (.iload_n 1, 1) := by decide +kernel
theorem dX9_shorter_2 : decode cX9_shorter 2 = .ok (.invokevirtual 123, 3) := by decide +kernel
theorem dX9_shorter_5 : decode cX9_shorter 5 = .ok (.ifCond .ne 5, 3) := by decide +kernel
theorem dX9_shorter_8 : decode cX9_shorter 8 = .ok (.iconst (-1), 1) := by decide +kernel
theorem dX9_shorter_9 : decode cX9_shorter 9 = .ok (.ireturn, 1) := by decide +kernel
theorem dX9_shorter_10 : decode cX9_shorter 10 = .ok (.iload_n 2, 1) := by decide +kernel
theorem dX9_shorter_11 : decode cX9_shorter 11 = .ok (.ifCond .lt 8, 3) := by decide +kernel
theorem dX9_shorter_14 : decode cX9_shorter 14 = .ok (.iload_n 2, 1) := by decide +kernel
theorem dX9_shorter_15 : decode cX9_shorter 15 = .ok (.iconst 4, 1) := by decide +kernel
theorem dX9_shorter_16 : decode cX9_shorter 16 = .ok (.if_icmp .le 6, 3) := by decide +kernel
theorem dX9_shorter_19 : decode cX9_shorter 19 = .ok (.bipush (-2), 2) := by decide +kernel
theorem dX9_shorter_21 : decode cX9_shorter 21 = .ok (.ireturn, 1) := by decide +kernel
theorem dX9_shorter_22 : decode cX9_shorter 22 = .ok (.aload_n 0, 1) := by decide +kernel
theorem dX9_shorter_23 : decode cX9_shorter 23 = .ok (.getfield 49, 3) := by decide +kernel
theorem dX9_shorter_26 : decode cX9_shorter 26 = .ok (.aload_n 0, 1) := by decide +kernel
theorem dX9_shorter_27 : decode cX9_shorter 27 = .ok (.getfield 13, 3) := by decide +kernel
theorem dX9_shorter_30 : decode cX9_shorter 30 = .ok (.iload_n 1, 1) := by decide +kernel
theorem dX9_shorter_31 : decode cX9_shorter 31 = .ok (.aaload, 1) := by decide +kernel
theorem dX9_shorter_32 : decode cX9_shorter 32 = .ok (.iload_n 2, 1) := by decide +kernel
theorem dX9_shorter_33 : decode cX9_shorter 33 = .ok (.invokevirtual 172, 3) := by decide +kernel
theorem dX9_shorter_36 : decode cX9_shorter 36 = .ok (.ifCond .eq 17, 3) := by decide +kernel
theorem dX9_shorter_39 : decode cX9_shorter 39 = .ok (.aload_n 0, 1) := by decide +kernel
theorem dX9_shorter_40 : decode cX9_shorter 40 = .ok (.aload_n 0, 1) := by decide +kernel
theorem dX9_shorter_41 : decode cX9_shorter 41 = .ok (.getfield 49, 3) := by decide +kernel
theorem dX9_shorter_44 : decode cX9_shorter 44 = .ok (.getfield 176, 3) := by decide +kernel
theorem dX9_shorter_47 : decode cX9_shorter 47 = .ok (.invokevirtual 100, 3) := by decide +kernel
theorem dX9_shorter_50 : decode cX9_shorter 50 = .ok (.goto 5, 3) := by decide +kernel
theorem dX9_shorter_53 : decode cX9_shorter 53 = .ok (.bipush (-3), 2) := by decide +kernel
theorem dX9_shorter_55 : decode cX9_shorter 55 = .ok (.ireturn, 1) := by decide +kernel
set_option maxRecDepth 20000 in
theorem ggX9_safe_X9_isLine : GoodIn wsX9_safe wsX9_isLine := goodIn_r _ [7, 2, 8, 9, 10, 11, 6, 12, 13, 55, 56, 57, 58, 59, 60, 61, 62, 63, 64, 65, 66, 67, 68, 69, 70, 71, 72] (by decide +kernel) (by decide +kernel)
set_option maxRecDepth 20000 in
theorem gX9_safe_X9_isLine : GoodIn wsX9_safe (wsV RX9 104 RX9 yX9_isLine wsX9_isLine) := goodIn_app (goodIn_of _ (by decide +kernel)) ggX9_safe_X9_isLine
set_option maxRecDepth 20000 in
theorem ggX9_safe_X5_safeSigns : GoodIn wsX9_safe wsX5_safeSigns := goodIn_r _ [18, 19, 20, 21, 22, 17, 23, 24, 25, 26, 27, 28, 29, 30, 31, 32, 33, 34, 35, 36, 37, 38, 39, 40, 41, 6, 42, 43, 44, 45, 46, 47, 48, 49, 50, 51, 52, 53, 54, 73, 74, 75, 76, 77, 66, 67, 68, 69, 70, 71, 72] (by decide +kernel) (by decide +kernel)
set_option maxRecDepth 20000 in
theorem gX9_safe_X5_safeSigns : GoodIn wsX9_safe (wsV RX9 179 RX5 yX5_safeSigns wsX5_safeSigns) := goodIn_app (goodIn_of _ (by decide +kernel)) ggX9_safe_X5_safeSigns
theorem dX9_safe_0 : decode cX9_safe 0 = .ok (.aload_n 0, 1) := by decide +kernel
theorem dX9_safe_1 : decode cX9_safe 1 = .ok (.iload_n 1, 1) := by decide +kernel
theorem dX9_safe_2 : decode cX9_safe 2 = .ok (.iload_n 2, 1) := by decide +kernel
theorem dX9_safe_3 : decode cX9_safe 3 = .ok (.invokevirtual 104, 3) := by decide +kernel
theorem dX9_safe_6 : decode cX9_safe 6 = .ok (.ifCond .eq 20, 3) := by decide +kernel
theorem dX9_safe_9 : decode cX9_safe 9 = .ok (.aload_n 0, 1) := by decide +kernel
theorem dX9_safe_10 : decode cX9_safe 10 = .ok (.getfield 49, 3) := by decide +kernel
theorem dX9_safe_13 : decode cX9_safe 13 = .ok (.aload_n 0, 1) := by decide +kernel
theorem dX9_safe_14 : decode cX9_safe 14 = .ok (.getfield 13, 3) := by decide +kernel
theorem dX9_safe_17 : decode cX9_safe 17 = .ok (.iload_n 1, 1) := by decide +kernel
theorem dX9_safe_18 : decode cX9_safe 18 = .ok (.aaload, 1) := by decide +kernel
theorem dX9_safe_19 : decode cX9_safe 19 = .ok (.iload_n 2, 1) := by decide +kernel
theorem dX9_safe_20 : decode cX9_safe 20 = .ok (.invokevirtual 179, 3) := by decide +kernel
theorem dX9_safe_23 : decode cX9_safe 23 = .ok (.goto 4, 3) := by decide +kernel
theorem dX9_safe_26 : decode cX9_safe 26 = .ok (.iconst (-1), 1) := by decide +kernel
theorem dX9_safe_27 : decode cX9_safe 27 = .ok (.ireturn, 1) := by decide +kernel
set_option maxRecDepth 20000 in
theorem ggX9_twice_X9_isProof : GoodIn wsX9_twice wsX9_isProof := goodIn_r _ [7, 8, 20, 21, 22, 23, 24, 25, 26, 27, 28, 29, 30] (by decide +kernel) (by decide +kernel)
set_option maxRecDepth 20000 in
theorem gX9_twice_X9_isProof : GoodIn wsX9_twice (wsV RX9 123 RX9 yX9_isProof wsX9_isProof) := goodIn_app (goodIn_of _ (by decide +kernel)) ggX9_twice_X9_isProof
set_option maxRecDepth 20000 in
theorem ggX9_twice_X2_unlikeIn : GoodIn wsX9_twice wsX2_unlikeIn := goodIn_r _ [13, 14, 15, 16, 17, 18, 12, 19, 31, 32, 33, 34, 35, 36, 37] (by decide +kernel) (by decide +kernel)
set_option maxRecDepth 20000 in
theorem gX9_twice_X2_unlikeIn : GoodIn wsX9_twice (wsV RX9 183 RX2 yX2_unlikeIn wsX2_unlikeIn) := goodIn_app (goodIn_of _ (by decide +kernel)) ggX9_twice_X2_unlikeIn
theorem dX9_twice_0 : decode cX9_twice 0 = .ok (.aload_n 0, 1) := by decide +kernel
theorem dX9_twice_1 : decode cX9_twice 1 = .ok (.iload_n 1, 1) := by decide +kernel
theorem dX9_twice_2 : decode cX9_twice 2 = .ok (.invokevirtual 123, 3) := by decide +kernel
theorem dX9_twice_5 : decode cX9_twice 5 = .ok (.ifCond .ne 5, 3) := by decide +kernel
theorem dX9_twice_8 : decode cX9_twice 8 = .ok (.iconst (-1), 1) := by decide +kernel
theorem dX9_twice_9 : decode cX9_twice 9 = .ok (.ireturn, 1) := by decide +kernel
theorem dX9_twice_10 : decode cX9_twice 10 = .ok (.aload_n 0, 1) := by decide +kernel
theorem dX9_twice_11 : decode cX9_twice 11 = .ok (.getfield 13, 3) := by decide +kernel
theorem dX9_twice_14 : decode cX9_twice 14 = .ok (.iload_n 1, 1) := by decide +kernel
theorem dX9_twice_15 : decode cX9_twice 15 = .ok (.aaload, 1) := by decide +kernel
theorem dX9_twice_16 : decode cX9_twice 16 = .ok (.astore_n 2, 1) := by decide +kernel
theorem dX9_twice_17 : decode cX9_twice 17 = .ok (.aload_n 2, 1) := by decide +kernel
theorem dX9_twice_18 : decode cX9_twice 18 = .ok (.getfield 126, 3) := by decide +kernel
theorem dX9_twice_21 : decode cX9_twice 21 = .ok (.aload_n 2, 1) := by decide +kernel
theorem dX9_twice_22 : decode cX9_twice 22 = .ok (.aload_n 2, 1) := by decide +kernel
theorem dX9_twice_23 : decode cX9_twice 23 = .ok (.invokevirtual 183, 3) := by decide +kernel
theorem dX9_twice_26 : decode cX9_twice 26 = .ok (.isub, 1) := by decide +kernel
theorem dX9_twice_27 : decode cX9_twice 27 = .ok (.ireturn, 1) := by decide +kernel
set_option maxRecDepth 20000 in
theorem ggX9_heap_X9_isProof : GoodIn wsX9_heap wsX9_isProof := goodIn_r _ [8, 9, 109, 110, 111, 112, 113, 114, 115, 116, 117, 118, 119] (by decide +kernel) (by decide +kernel)
set_option maxRecDepth 20000 in
theorem gX9_heap_X9_isProof : GoodIn wsX9_heap (wsV RX9 123 RX9 yX9_isProof wsX9_isProof) := goodIn_app (goodIn_of _ (by decide +kernel)) ggX9_heap_X9_isProof
set_option maxRecDepth 20000 in
theorem ggX9_heap_X5_heaps : GoodIn wsX9_heap wsX5_heaps := goodIn_r _ [14, 15, 16, 17, 18, 19, 20, 21, 22, 23, 24, 25, 26, 27, 28, 13, 29, 30, 31, 32, 33, 34, 35, 36, 37, 38, 39, 40, 41, 42, 43, 44, 45, 46, 47, 48, 49, 50, 51, 52, 53, 54, 55, 56, 57, 58, 59, 60, 61, 62, 63, 64, 65, 66, 67, 68, 69, 70, 71, 72, 73, 74, 75, 7, 76, 77, 78, 79, 80, 81, 82, 83, 84, 85, 86, 87, 88, 89, 90, 91, 92, 93, 94, 95, 96, 97, 98, 99, 100, 120, 121, 122, 123, 124, 125, 126, 127, 128, 129, 130, 131] (by decide +kernel) (by decide +kernel)
set_option maxRecDepth 20000 in
theorem gX9_heap_X5_heaps : GoodIn wsX9_heap (wsV RX9 186 RX5 yX5_heaps wsX5_heaps) := goodIn_app (goodIn_of _ (by decide +kernel)) ggX9_heap_X5_heaps
set_option maxRecDepth 20000 in
theorem ggX9_heap_X9_kept : GoodIn wsX9_heap wsX9_kept := goodIn_r _ [104, 9, 2, 105, 106, 107, 22, 108, 24, 53, 44, 62, 63, 94, 20, 21, 23, 25, 100, 59, 60, 61, 64, 109, 110, 111, 112, 113, 114, 115, 116, 117, 118, 119, 125, 126, 127, 128, 129, 130, 131] (by decide +kernel) (by decide +kernel)
set_option maxRecDepth 20000 in
theorem gX9_heap_X9_kept : GoodIn wsX9_heap (wsV RX9 100 RX9 yX9_kept wsX9_kept) := goodIn_app (goodIn_of _ (by decide +kernel)) ggX9_heap_X9_kept
theorem dX9_heap_0 : decode cX9_heap 0 = .ok (.aload_n 0, 1) := by decide +kernel
theorem dX9_heap_1 : decode cX9_heap 1 = .ok (.iload_n 1, 1) := by decide +kernel
theorem dX9_heap_2 : decode cX9_heap 2 = .ok (.invokevirtual 123, 3) := by decide +kernel
theorem dX9_heap_5 : decode cX9_heap 5 = .ok (.ifCond .eq 11, 3) := by decide +kernel
theorem dX9_heap_8 : decode cX9_heap 8 = .ok (.aload_n 0, 1) := by decide +kernel
theorem dX9_heap_9 : decode cX9_heap 9 = .ok (.iload_n 2, 1) := by decide +kernel
theorem dX9_heap_10 : decode cX9_heap 10 = .ok (.invokevirtual 123, 3) := by decide +kernel
theorem dX9_heap_13 : decode cX9_heap 13 = .ok (.ifCond .ne 5, 3) := by decide +kernel
theorem dX9_heap_16 : decode cX9_heap 16 = .ok (.iconst (-1), 1) := by decide +kernel
theorem dX9_heap_17 : decode cX9_heap 17 = .ok (.ireturn, 1) := by decide +kernel
theorem dX9_heap_18 : decode cX9_heap 18 = .ok (.aload_n 0, 1) := by decide +kernel
theorem dX9_heap_19 : decode cX9_heap 19 = .ok (.getfield 49, 3) := by decide +kernel
theorem dX9_heap_22 : decode cX9_heap 22 = .ok (.aload_n 0, 1) := by decide +kernel
theorem dX9_heap_23 : decode cX9_heap 23 = .ok (.getfield 13, 3) := by decide +kernel
theorem dX9_heap_26 : decode cX9_heap 26 = .ok (.iload_n 1, 1) := by decide +kernel
theorem dX9_heap_27 : decode cX9_heap 27 = .ok (.aaload, 1) := by decide +kernel
theorem dX9_heap_28 : decode cX9_heap 28 = .ok (.aload_n 0, 1) := by decide +kernel
theorem dX9_heap_29 : decode cX9_heap 29 = .ok (.getfield 13, 3) := by decide +kernel
theorem dX9_heap_32 : decode cX9_heap 32 = .ok (.iload_n 2, 1) := by decide +kernel
theorem dX9_heap_33 : decode cX9_heap 33 = .ok (.aaload, 1) := by decide +kernel
theorem dX9_heap_34 : decode cX9_heap 34 = .ok (.invokevirtual 186, 3) := by decide +kernel
theorem dX9_heap_37 : decode cX9_heap 37 = .ok (.ifCond .eq 17, 3) := by decide +kernel
theorem dX9_heap_40 : decode cX9_heap 40 = .ok (.aload_n 0, 1) := by decide +kernel
theorem dX9_heap_41 : decode cX9_heap 41 = .ok (.aload_n 0, 1) := by decide +kernel
theorem dX9_heap_42 : decode cX9_heap 42 = .ok (.getfield 49, 3) := by decide +kernel
theorem dX9_heap_45 : decode cX9_heap 45 = .ok (.getfield 176, 3) := by decide +kernel
theorem dX9_heap_48 : decode cX9_heap 48 = .ok (.invokevirtual 100, 3) := by decide +kernel
theorem dX9_heap_51 : decode cX9_heap 51 = .ok (.goto 5, 3) := by decide +kernel
theorem dX9_heap_54 : decode cX9_heap 54 = .ok (.bipush (-3), 2) := by decide +kernel
theorem dX9_heap_56 : decode cX9_heap 56 = .ok (.ireturn, 1) := by decide +kernel
set_option maxRecDepth 20000 in
theorem ggX9_shared_X9_isProof : GoodIn wsX9_shared wsX9_isProof := goodIn_r _ [6, 7, 19, 20, 21, 22, 23, 24, 25, 26, 27, 28, 29] (by decide +kernel) (by decide +kernel)
set_option maxRecDepth 20000 in
theorem gX9_shared_X9_isProof : GoodIn wsX9_shared (wsV RX9 123 RX9 yX9_isProof wsX9_isProof) := goodIn_app (goodIn_of _ (by decide +kernel)) ggX9_shared_X9_isProof
set_option maxRecDepth 20000 in
theorem ggX9_shared_X2_unlikeIn : GoodIn wsX9_shared wsX2_unlikeIn := goodIn_r _ [12, 13, 14, 15, 16, 17, 11, 18, 30, 31, 32, 33, 34, 35, 36] (by decide +kernel) (by decide +kernel)
set_option maxRecDepth 20000 in
theorem gX9_shared_X2_unlikeIn : GoodIn wsX9_shared (wsV RX9 183 RX2 yX2_unlikeIn wsX2_unlikeIn) := goodIn_app (goodIn_of _ (by decide +kernel)) ggX9_shared_X2_unlikeIn
theorem dX9_shared_0 : decode cX9_shared 0 = .ok (.aload_n 0, 1) := by decide +kernel
theorem dX9_shared_1 : decode cX9_shared 1 = .ok (.iload_n 1, 1) := by decide +kernel
theorem dX9_shared_2 : decode cX9_shared 2 = .ok (.invokevirtual 123, 3) := by decide +kernel
theorem dX9_shared_5 : decode cX9_shared 5 = .ok (.ifCond .eq 11, 3) := by decide +kernel
theorem dX9_shared_8 : decode cX9_shared 8 = .ok (.aload_n 0, 1) := by decide +kernel
theorem dX9_shared_9 : decode cX9_shared 9 = .ok (.iload_n 2, 1) := by decide +kernel
theorem dX9_shared_10 : decode cX9_shared 10 = .ok (.invokevirtual 123, 3) := by decide +kernel
theorem dX9_shared_13 : decode cX9_shared 13 = .ok (.ifCond .ne 5, 3) := by decide +kernel
theorem dX9_shared_16 : decode cX9_shared 16 = .ok (.iconst (-1), 1) := by decide +kernel
theorem dX9_shared_17 : decode cX9_shared 17 = .ok (.ireturn, 1) := by decide +kernel
theorem dX9_shared_18 : decode cX9_shared 18 = .ok (.aload_n 0, 1) := by decide +kernel
theorem dX9_shared_19 : decode cX9_shared 19 = .ok (.getfield 13, 3) := by decide +kernel
theorem dX9_shared_22 : decode cX9_shared 22 = .ok (.iload_n 1, 1) := by decide +kernel
theorem dX9_shared_23 : decode cX9_shared 23 = .ok (.aaload, 1) := by decide +kernel
theorem dX9_shared_24 : decode cX9_shared 24 = .ok (.aload_n 0, 1) := by decide +kernel
theorem dX9_shared_25 : decode cX9_shared 25 = .ok (.getfield 13, 3) := by decide +kernel
theorem dX9_shared_28 : decode cX9_shared 28 = .ok (.iload_n 2, 1) := by decide +kernel
theorem dX9_shared_29 : decode cX9_shared 29 = .ok (.aaload, 1) := by decide +kernel
theorem dX9_shared_30 : decode cX9_shared 30 = .ok (.invokevirtual 183, 3) := by decide +kernel
theorem dX9_shared_33 : decode cX9_shared 33 = .ok (.ireturn, 1) := by decide +kernel
set_option maxRecDepth 20000 in
theorem ggX9_core_X9_isProof : GoodIn wsX9_core wsX9_isProof := goodIn_r _ [8, 9, 64, 65, 66, 67, 68, 69, 70, 71, 72, 73, 74] (by decide +kernel) (by decide +kernel)
set_option maxRecDepth 20000 in
theorem gX9_core_X9_isProof : GoodIn wsX9_core (wsV RX9 123 RX9 yX9_isProof wsX9_isProof) := goodIn_app (goodIn_of _ (by decide +kernel)) ggX9_core_X9_isProof
set_option maxRecDepth 20000 in
theorem ggX9_core_X9_isGroundSet : GoodIn wsX9_core wsX9_isGroundSet := goodIn_r _ [12, 2, 75, 76, 77, 78, 79, 80, 81] (by decide +kernel) (by decide +kernel)
set_option maxRecDepth 20000 in
theorem gX9_core_X9_isGroundSet : GoodIn wsX9_core (va_wsS RX9 190 yX9_isGroundSet wsX9_isGroundSet) := goodIn_app (goodIn_of _ (by decide +kernel)) ggX9_core_X9_isGroundSet
set_option maxRecDepth 20000 in
theorem ggX9_core_X8_fillTogether : GoodIn wsX9_core wsX8_fillTogether := goodIn_r _ [17, 18, 19, 20, 21, 22, 23, 24, 25, 26, 27, 28, 29, 30, 31, 32, 33, 34, 35, 36, 82, 83, 75, 76, 77, 78, 79, 80, 81] (by decide +kernel) (by decide +kernel)
set_option maxRecDepth 20000 in
theorem gX9_core_X8_fillTogether : GoodIn wsX9_core (wsV RX9 193 RX8 yX8_fillTogether wsX8_fillTogether) := goodIn_app (goodIn_of _ (by decide +kernel)) ggX9_core_X8_fillTogether
set_option maxRecDepth 20000 in
theorem ggX9_core_X8_leastCore : GoodIn wsX9_core wsX8_leastCore := goodIn_r _ [40, 41, 42, 43, 16, 44, 18, 45, 46, 47, 48, 49, 50, 51, 82, 83] (by decide +kernel) (by decide +kernel)
set_option maxRecDepth 20000 in
theorem gX9_core_X8_leastCore : GoodIn wsX9_core (wsV RX9 196 RX8 yX8_leastCore wsX8_leastCore) := goodIn_app (goodIn_of _ (by decide +kernel)) ggX9_core_X8_leastCore
set_option maxRecDepth 20000 in
theorem ggX9_core_X8_bareCores : GoodIn wsX9_core wsX8_bareCores := goodIn_r _ [55, 56, 57, 58, 16, 59, 41, 42, 43, 44, 18, 60, 7, 61, 82, 83] (by decide +kernel) (by decide +kernel)
set_option maxRecDepth 20000 in
theorem gX9_core_X8_bareCores : GoodIn wsX9_core (wsV RX9 199 RX8 yX8_bareCores wsX8_bareCores) := goodIn_app (goodIn_of _ (by decide +kernel)) ggX9_core_X8_bareCores
set_option maxRecDepth 20000 in
theorem ggX9_core_X8_isCore : GoodIn wsX9_core wsX8_isCore := goodIn_r _ [44, 18, 82, 83] (by decide +kernel) (by decide +kernel)
set_option maxRecDepth 20000 in
theorem gX9_core_X8_isCore : GoodIn wsX9_core (wsV RX9 202 RX8 yX8_isCore wsX8_isCore) := goodIn_app (goodIn_of _ (by decide +kernel)) ggX9_core_X8_isCore
set_option maxRecDepth 20000 in
theorem ggX9_core_X8_isBare : GoodIn wsX9_core wsX8_isBare := goodIn_r _ [59, 41, 42, 43, 16, 44, 18, 60, 7, 61, 82, 83] (by decide +kernel) (by decide +kernel)
set_option maxRecDepth 20000 in
theorem gX9_core_X8_isBare : GoodIn wsX9_core (wsV RX9 205 RX8 yX8_isBare wsX8_isBare) := goodIn_app (goodIn_of _ (by decide +kernel)) ggX9_core_X8_isBare
theorem dX9_core_0 : decode cX9_core 0 = .ok (.aload_n 0, 1) := by decide +kernel
theorem dX9_core_1 : decode cX9_core 1 = .ok (.iload_n 1, 1) := by decide +kernel
theorem dX9_core_2 : decode cX9_core 2 = .ok (.invokevirtual 123, 3) := by decide +kernel
theorem dX9_core_5 : decode cX9_core 5 = .ok (.ifCond .ne 5, 3) := by decide +kernel
theorem dX9_core_8 : decode cX9_core 8 = .ok (.iconst (-1), 1) := by decide +kernel
theorem dX9_core_9 : decode cX9_core 9 = .ok (.ireturn, 1) := by decide +kernel
theorem dX9_core_10 : decode cX9_core 10 = .ok (.aload_n 0, 1) := by decide +kernel
theorem dX9_core_11 : decode cX9_core 11 = .ok (.getfield 13, 3) := by decide +kernel
theorem dX9_core_14 : decode cX9_core 14 = .ok (.iload_n 1, 1) := by decide +kernel
theorem dX9_core_15 : decode cX9_core 15 = .ok (.aaload, 1) := by decide +kernel
theorem dX9_core_16 : decode cX9_core 16 = .ok (.astore 4, 2) := by decide +kernel
theorem dX9_core_18 : decode cX9_core 18 = .ok (.aload 4, 2) := by decide +kernel
theorem dX9_core_20 : decode cX9_core 20 = .ok (.getfield 141, 3) := by decide +kernel
theorem dX9_core_23 : decode cX9_core 23 = .ok (.bipush 10, 2) := by decide +kernel
theorem dX9_core_25 : decode cX9_core 25 = .ok (.if_icmp .le 6, 3) := by decide +kernel
theorem dX9_core_28 : decode cX9_core 28 = .ok (.bipush (-3), 2) := by decide +kernel
theorem dX9_core_30 : decode cX9_core 30 = .ok (.ireturn, 1) := by decide +kernel
theorem dX9_core_31 : decode cX9_core 31 = .ok (.iload_n 2, 1) := by decide +kernel
theorem dX9_core_32 : decode cX9_core 32 = .ok (.ifCond .lt 22, 3) := by decide +kernel
theorem dX9_core_35 : decode cX9_core 35 = .ok (.iload_n 2, 1) := by decide +kernel
theorem dX9_core_36 : decode cX9_core 36 = .ok (.iconst 3, 1) := by decide +kernel
theorem dX9_core_37 : decode cX9_core 37 = .ok (.if_icmp .gt 17, 3) := by decide +kernel
theorem dX9_core_40 : decode cX9_core 40 = .ok (.iload_n 2, 1) := by decide +kernel
theorem dX9_core_41 : decode cX9_core 41 = .ok (.iconst 1, 1) := by decide +kernel
theorem dX9_core_42 : decode cX9_core 42 = .ok (.if_icmp .le 15, 3) := by decide +kernel
theorem dX9_core_45 : decode cX9_core 45 = .ok (.aload 4, 2) := by decide +kernel
theorem dX9_core_47 : decode cX9_core 47 = .ok (.iload_n 3, 1) := by decide +kernel
theorem dX9_core_48 : decode cX9_core 48 = .ok (.invokestatic 190, 3) := by decide +kernel
theorem dX9_core_51 : decode cX9_core 51 = .ok (.ifCond .ne 6, 3) := by decide +kernel
theorem dX9_core_54 : decode cX9_core 54 = .ok (.bipush (-2), 2) := by decide +kernel
theorem dX9_core_56 : decode cX9_core 56 = .ok (.ireturn, 1) := by decide +kernel
theorem dX9_core_57 : decode cX9_core 57 = .ok (.aload_n 0, 1) := by decide +kernel
theorem dX9_core_58 : decode cX9_core 58 = .ok (.getfield 56, 3) := by decide +kernel
theorem dX9_core_61 : decode cX9_core 61 = .ok (.aload 4, 2) := by decide +kernel
theorem dX9_core_63 : decode cX9_core 63 = .ok (.invokevirtual 193, 3) := by decide +kernel
theorem dX9_core_66 : decode cX9_core 66 = .ok (.iload_n 2, 1) := by decide +kernel
theorem dX9_core_67 : decode cX9_core 67 = .ok (.tableswitch 72 0 2 #[25, 40, 55], 25) := by decide +kernel
theorem dX9_core_92 : decode cX9_core 92 = .ok (.aload_n 0, 1) := by decide +kernel
theorem dX9_core_93 : decode cX9_core 93 = .ok (.getfield 56, 3) := by decide +kernel
theorem dX9_core_96 : decode cX9_core 96 = .ok (.iconst 1, 1) := by decide +kernel
theorem dX9_core_97 : decode cX9_core 97 = .ok (.aload 4, 2) := by decide +kernel
theorem dX9_core_99 : decode cX9_core 99 = .ok (.getfield 141, 3) := by decide +kernel
theorem dX9_core_102 : decode cX9_core 102 = .ok (.ishl, 1) := by decide +kernel
theorem dX9_core_103 : decode cX9_core 103 = .ok (.invokevirtual 196, 3) := by decide +kernel
theorem dX9_core_106 : decode cX9_core 106 = .ok (.ireturn, 1) := by decide +kernel
theorem dX9_core_107 : decode cX9_core 107 = .ok (.aload_n 0, 1) := by decide +kernel
theorem dX9_core_108 : decode cX9_core 108 = .ok (.getfield 56, 3) := by decide +kernel
theorem dX9_core_111 : decode cX9_core 111 = .ok (.iconst 1, 1) := by decide +kernel
theorem dX9_core_112 : decode cX9_core 112 = .ok (.aload 4, 2) := by decide +kernel
theorem dX9_core_114 : decode cX9_core 114 = .ok (.getfield 141, 3) := by decide +kernel
theorem dX9_core_117 : decode cX9_core 117 = .ok (.ishl, 1) := by decide +kernel
theorem dX9_core_118 : decode cX9_core 118 = .ok (.invokevirtual 199, 3) := by decide +kernel
theorem dX9_core_121 : decode cX9_core 121 = .ok (.ireturn, 1) := by decide +kernel
theorem dX9_core_122 : decode cX9_core 122 = .ok (.aload_n 0, 1) := by decide +kernel
theorem dX9_core_123 : decode cX9_core 123 = .ok (.getfield 56, 3) := by decide +kernel
theorem dX9_core_126 : decode cX9_core 126 = .ok (.iload_n 3, 1) := by decide +kernel
theorem dX9_core_127 : decode cX9_core 127 = .ok (.invokevirtual 202, 3) := by decide +kernel
theorem dX9_core_130 : decode cX9_core 130 = .ok (.ifCond .eq 7, 3) := by decide +kernel
theorem dX9_core_133 : decode cX9_core 133 = .ok (.iconst 1, 1) := by decide +kernel
theorem dX9_core_134 : decode cX9_core 134 = .ok (.goto 4, 3) := by decide +kernel
theorem dX9_core_137 : decode cX9_core 137 = .ok (.iconst 0, 1) := by decide +kernel
theorem dX9_core_138 : decode cX9_core 138 = .ok (.ireturn, 1) := by decide +kernel
theorem dX9_core_139 : decode cX9_core 139 = .ok (.aload_n 0, 1) := by decide +kernel
theorem dX9_core_140 : decode cX9_core 140 = .ok (.getfield 56, 3) := by decide +kernel
theorem dX9_core_143 : decode cX9_core 143 = .ok (.iload_n 3, 1) := by decide +kernel
theorem dX9_core_144 : decode cX9_core 144 = .ok (.invokevirtual 205, 3) := by decide +kernel
theorem dX9_core_147 : decode cX9_core 147 = .ok (.ifCond .eq 7, 3) := by decide +kernel
theorem dX9_core_150 : decode cX9_core 150 = .ok (.iconst 1, 1) := by decide +kernel
theorem dX9_core_151 : decode cX9_core 151 = .ok (.goto 4, 3) := by decide +kernel
theorem dX9_core_154 : decode cX9_core 154 = .ok (.iconst 0, 1) := by decide +kernel
theorem dX9_core_155 : decode cX9_core 155 = .ok (.ireturn, 1) := by decide +kernel
set_option maxRecDepth 20000 in
theorem ggX9_middle_X9_isTableAsked : GoodIn wsX9_middle wsX9_isTableAsked := goodIn_r _ [10, 2, 11, 12, 13, 14, 9, 15, 16, 17, 18, 19, 54, 55, 56, 57, 58, 59, 60, 61, 62, 63, 64, 65, 66, 67, 68, 69, 70, 71] (by decide +kernel) (by decide +kernel)
set_option maxRecDepth 20000 in
theorem gX9_middle_X9_isTableAsked : GoodIn wsX9_middle (wsV RX9 208 RX9 yX9_isTableAsked wsX9_isTableAsked) := goodIn_app (goodIn_of _ (by decide +kernel)) ggX9_middle_X9_isTableAsked
set_option maxRecDepth 20000 in
theorem ggX9_middle_X8_middleOf : GoodIn wsX9_middle wsX8_middleOf := goodIn_r _ [24, 25, 26, 27, 28, 29, 30, 31, 32, 33, 34, 35, 9, 36, 37, 38, 39, 40, 41, 42, 43, 44, 45, 23, 46, 47, 48, 49, 65, 66, 67, 68, 69, 70, 71, 72, 73] (by decide +kernel) (by decide +kernel)
set_option maxRecDepth 20000 in
theorem gX9_middle_X8_middleOf : GoodIn wsX9_middle (wsV RX9 214 RX8 yX8_middleOf wsX8_middleOf) := goodIn_app (goodIn_of _ (by decide +kernel)) ggX9_middle_X8_middleOf
set_option maxRecDepth 20000 in
theorem ggX9_middle_X9_halfOf : GoodIn wsX9_middle wsX9_halfOf := goodIn_r _ [52, 53] (by decide +kernel) (by decide +kernel)
set_option maxRecDepth 20000 in
theorem gX9_middle_X9_halfOf : GoodIn wsX9_middle (va_wsS RX9 218 yX9_halfOf wsX9_halfOf) := goodIn_app (goodIn_of _ (by decide +kernel)) ggX9_middle_X9_halfOf
theorem dX9_middle_0 : decode cX9_middle 0 = .ok (.aload_n 0, 1) := by decide +kernel
theorem dX9_middle_1 : decode cX9_middle 1 = .ok (.iload_n 1, 1) := by decide +kernel
theorem dX9_middle_2 : decode cX9_middle 2 = .ok (.iload_n 2, 1) := by decide +kernel
theorem dX9_middle_3 : decode cX9_middle 3 = .ok (.iload_n 3, 1) := by decide +kernel
theorem dX9_middle_4 : decode cX9_middle 4 = .ok (.invokevirtual 208, 3) := by decide +kernel
theorem dX9_middle_7 : decode cX9_middle 7 = .ok (.ifCond .ne 7, 3) := by decide +kernel
theorem dX9_middle_10 : decode cX9_middle 10 = .ok (.ldc2_w 212, 3) := by decide +kernel
theorem dX9_middle_13 : decode cX9_middle 13 = .ok (.lreturn, 1) := by decide +kernel
theorem dX9_middle_14 : decode cX9_middle 14 = .ok (.aload_n 0, 1) := by decide +kernel
theorem dX9_middle_15 : decode cX9_middle 15 = .ok (.getfield 13, 3) := by decide +kernel
theorem dX9_middle_18 : decode cX9_middle 18 = .ok (.iload_n 1, 1) := by decide +kernel
theorem dX9_middle_19 : decode cX9_middle 19 = .ok (.aaload, 1) := by decide +kernel
theorem dX9_middle_20 : decode cX9_middle 20 = .ok (.astore 4, 2) := by decide +kernel
theorem dX9_middle_22 : decode cX9_middle 22 = .ok (.aload 4, 2) := by decide +kernel
theorem dX9_middle_24 : decode cX9_middle 24 = .ok (.getfield 107, 3) := by decide +kernel
theorem dX9_middle_27 : decode cX9_middle 27 = .ok (.aload 4, 2) := by decide +kernel
theorem dX9_middle_29 : decode cX9_middle 29 = .ok (.getfield 126, 3) := by decide +kernel
theorem dX9_middle_32 : decode cX9_middle 32 = .ok (.iconst 1, 1) := by decide +kernel
theorem dX9_middle_33 : decode cX9_middle 33 = .ok (.isub, 1) := by decide +kernel
theorem dX9_middle_34 : decode cX9_middle 34 = .ok (.iaload, 1) := by decide +kernel
theorem dX9_middle_35 : decode cX9_middle 35 = .ok (.ifCond .eq 7, 3) := by decide +kernel
theorem dX9_middle_38 : decode cX9_middle 38 = .ok (.ldc2_w 212, 3) := by decide +kernel
theorem dX9_middle_41 : decode cX9_middle 41 = .ok (.lreturn, 1) := by decide +kernel
theorem dX9_middle_42 : decode cX9_middle 42 = .ok (.aload_n 0, 1) := by decide +kernel
theorem dX9_middle_43 : decode cX9_middle 43 = .ok (.getfield 56, 3) := by decide +kernel
theorem dX9_middle_46 : decode cX9_middle 46 = .ok (.aload 4, 2) := by decide +kernel
theorem dX9_middle_48 : decode cX9_middle 48 = .ok (.iload_n 2, 1) := by decide +kernel
theorem dX9_middle_49 : decode cX9_middle 49 = .ok (.invokevirtual 214, 3) := by decide +kernel
theorem dX9_middle_52 : decode cX9_middle 52 = .ok (.iload_n 3, 1) := by decide +kernel
theorem dX9_middle_53 : decode cX9_middle 53 = .ok (.invokestatic 218, 3) := by decide +kernel
theorem dX9_middle_56 : decode cX9_middle 56 = .ok (.lreturn, 1) := by decide +kernel
set_option maxRecDepth 20000 in
theorem ggX9_truths_X9_isTableAsked : GoodIn wsX9_truths wsX9_isTableAsked := goodIn_r _ [7, 2, 8, 9, 10, 11, 6, 12, 13, 14, 15, 16, 45, 46, 47, 48, 49, 50, 51, 52, 53, 54, 55, 56, 57, 58, 59, 60, 61, 62] (by decide +kernel) (by decide +kernel)
set_option maxRecDepth 20000 in
theorem gX9_truths_X9_isTableAsked : GoodIn wsX9_truths (wsV RX9 208 RX9 yX9_isTableAsked wsX9_isTableAsked) := goodIn_app (goodIn_of _ (by decide +kernel)) ggX9_truths_X9_isTableAsked
set_option maxRecDepth 20000 in
theorem ggX9_truths_X8_allOf : GoodIn wsX9_truths wsX8_allOf := goodIn_r _ [20, 21, 22, 23, 24, 25, 6, 26, 27, 28, 29, 30, 31, 32, 33, 34, 35, 36, 37, 38, 39, 40, 56, 57, 58, 59, 60, 61, 62] (by decide +kernel) (by decide +kernel)
set_option maxRecDepth 20000 in
theorem gX9_truths_X8_allOf : GoodIn wsX9_truths (va_wsS RX9 222 yX8_allOf wsX8_allOf) := goodIn_app (goodIn_of _ (by decide +kernel)) ggX9_truths_X8_allOf
set_option maxRecDepth 20000 in
theorem ggX9_truths_X9_halfOf : GoodIn wsX9_truths wsX9_halfOf := goodIn_r _ [43, 44] (by decide +kernel) (by decide +kernel)
set_option maxRecDepth 20000 in
theorem gX9_truths_X9_halfOf : GoodIn wsX9_truths (va_wsS RX9 218 yX9_halfOf wsX9_halfOf) := goodIn_app (goodIn_of _ (by decide +kernel)) ggX9_truths_X9_halfOf
theorem dX9_truths_0 : decode cX9_truths 0 = .ok (.aload_n 0, 1) := by decide +kernel
theorem dX9_truths_1 : decode cX9_truths 1 = .ok (.iload_n 1, 1) := by decide +kernel
theorem dX9_truths_2 : decode cX9_truths 2 = .ok (.iload_n 2, 1) := by decide +kernel
theorem dX9_truths_3 : decode cX9_truths 3 = .ok (.iload_n 3, 1) := by decide +kernel
theorem dX9_truths_4 : decode cX9_truths 4 = .ok (.invokevirtual 208, 3) := by decide +kernel
theorem dX9_truths_7 : decode cX9_truths 7 = .ok (.ifCond .ne 7, 3) := by decide +kernel
theorem dX9_truths_10 : decode cX9_truths 10 = .ok (.ldc2_w 212, 3) := by decide +kernel
theorem dX9_truths_13 : decode cX9_truths 13 = .ok (.lreturn, 1) := by decide +kernel
theorem dX9_truths_14 : decode cX9_truths 14 = .ok (.aload_n 0, 1) := by decide +kernel
theorem dX9_truths_15 : decode cX9_truths 15 = .ok (.getfield 13, 3) := by decide +kernel
theorem dX9_truths_18 : decode cX9_truths 18 = .ok (.iload_n 1, 1) := by decide +kernel
theorem dX9_truths_19 : decode cX9_truths 19 = .ok (.aaload, 1) := by decide +kernel
theorem dX9_truths_20 : decode cX9_truths 20 = .ok (.iload_n 2, 1) := by decide +kernel
theorem dX9_truths_21 : decode cX9_truths 21 = .ok (.invokestatic 222, 3) := by decide +kernel
theorem dX9_truths_24 : decode cX9_truths 24 = .ok (.iload_n 3, 1) := by decide +kernel
theorem dX9_truths_25 : decode cX9_truths 25 = .ok (.invokestatic 218, 3) := by decide +kernel
theorem dX9_truths_28 : decode cX9_truths 28 = .ok (.lreturn, 1) := by decide +kernel
set_option maxRecDepth 20000 in
theorem ggX9_cuts_X9_isProof : GoodIn wsX9_cuts wsX9_isProof := goodIn_r _ [9, 10, 50, 51, 52, 53, 54, 55, 56, 57, 58, 59, 60] (by decide +kernel) (by decide +kernel)
set_option maxRecDepth 20000 in
theorem gX9_cuts_X9_isProof : GoodIn wsX9_cuts (wsV RX9 123 RX9 yX9_isProof wsX9_isProof) := goodIn_app (goodIn_of _ (by decide +kernel)) ggX9_cuts_X9_isProof
set_option maxRecDepth 20000 in
theorem ggX9_cuts_X0_isClause : GoodIn wsX9_cuts wsX0_isClause := goodIn_r _ [14] (by decide +kernel) (by decide +kernel)
set_option maxRecDepth 20000 in
theorem gX9_cuts_X0_isClause : GoodIn wsX9_cuts (va_wsS RX9 225 yX0_isClause wsX0_isClause) := goodIn_app (goodIn_of _ (by decide +kernel)) ggX9_cuts_X0_isClause
set_option maxRecDepth 20000 in
theorem ggX9_cuts_X0_isSmall : GoodIn wsX9_cuts wsX0_isSmall := goodIn_r _ [17, 18, 19, 13, 20] (by decide +kernel) (by decide +kernel)
set_option maxRecDepth 20000 in
theorem gX9_cuts_X0_isSmall : GoodIn wsX9_cuts (va_wsS RX9 230 yX0_isSmall wsX0_isSmall) := goodIn_app (goodIn_of _ (by decide +kernel)) ggX9_cuts_X0_isSmall
set_option maxRecDepth 20000 in
theorem ggX9_cuts_X7_fewestCuts : GoodIn wsX9_cuts wsX7_fewestCuts := goodIn_r _ [24, 25, 26, 27, 28, 29, 23, 30, 31, 32, 13, 33, 34, 8, 35, 36, 37, 38, 39, 40, 41, 42, 43, 44, 45, 46, 47, 48, 49, 61, 62, 63, 64, 65, 66, 67] (by decide +kernel) (by decide +kernel)
set_option maxRecDepth 20000 in
theorem gX9_cuts_X7_fewestCuts : GoodIn wsX9_cuts (va_wsS RX9 233 yX7_fewestCuts wsX7_fewestCuts) := goodIn_app (goodIn_of _ (by decide +kernel)) ggX9_cuts_X7_fewestCuts
theorem dX9_cuts_0 : decode cX9_cuts 0 = .ok (.aload_n 0, 1) := by decide +kernel
theorem dX9_cuts_1 : decode cX9_cuts 1 = .ok (.iload_n 1, 1) := by decide +kernel
theorem dX9_cuts_2 : decode cX9_cuts 2 = .ok (.invokevirtual 123, 3) := by decide +kernel
theorem dX9_cuts_5 : decode cX9_cuts 5 = .ok (.ifCond .ne 5, 3) := by decide +kernel
theorem dX9_cuts_8 : decode cX9_cuts 8 = .ok (.iconst (-1), 1) := by decide +kernel
theorem dX9_cuts_9 : decode cX9_cuts 9 = .ok (.ireturn, 1) := by decide +kernel
theorem dX9_cuts_10 : decode cX9_cuts 10 = .ok (.iload_n 2, 1) := by decide +kernel
theorem dX9_cuts_11 : decode cX9_cuts 11 = .ok (.invokestatic 225, 3) := by decide +kernel
theorem dX9_cuts_14 : decode cX9_cuts 14 = .ok (.ifCond .eq 10, 3) := by decide +kernel
theorem dX9_cuts_17 : decode cX9_cuts 17 = .ok (.iload_n 2, 1) := by decide +kernel
theorem dX9_cuts_18 : decode cX9_cuts 18 = .ok (.invokestatic 230, 3) := by decide +kernel
theorem dX9_cuts_21 : decode cX9_cuts 21 = .ok (.ifCond .ne 6, 3) := by decide +kernel
theorem dX9_cuts_24 : decode cX9_cuts 24 = .ok (.bipush (-2), 2) := by decide +kernel
theorem dX9_cuts_26 : decode cX9_cuts 26 = .ok (.ireturn, 1) := by decide +kernel
theorem dX9_cuts_27 : decode cX9_cuts 27 = .ok (.aload_n 0, 1) := by decide +kernel
theorem dX9_cuts_28 : decode cX9_cuts 28 = .ok (.getfield 13, 3) := by decide +kernel
theorem dX9_cuts_31 : decode cX9_cuts 31 = .ok (.iload_n 1, 1) := by decide +kernel
theorem dX9_cuts_32 : decode cX9_cuts 32 = .ok (.aaload, 1) := by decide +kernel
theorem dX9_cuts_33 : decode cX9_cuts 33 = .ok (.astore_n 3, 1) := by decide +kernel
theorem dX9_cuts_34 : decode cX9_cuts 34 = .ok (.iconst 0, 1) := by decide +kernel
theorem dX9_cuts_35 : decode cX9_cuts 35 = .ok (.istore 4, 2) := by decide +kernel
theorem dX9_cuts_37 : decode cX9_cuts 37 = .ok (.iload 4, 2) := by decide +kernel
theorem dX9_cuts_39 : decode cX9_cuts 39 = .ok (.aload_n 3, 1) := by decide +kernel
theorem dX9_cuts_40 : decode cX9_cuts 40 = .ok (.getfield 141, 3) := by decide +kernel
theorem dX9_cuts_43 : decode cX9_cuts 43 = .ok (.if_icmp .ge 30, 3) := by decide +kernel
theorem dX9_cuts_46 : decode cX9_cuts 46 = .ok (.aload_n 3, 1) := by decide +kernel
theorem dX9_cuts_47 : decode cX9_cuts 47 = .ok (.getfield 107, 3) := by decide +kernel
theorem dX9_cuts_50 : decode cX9_cuts 50 = .ok (.aload_n 3, 1) := by decide +kernel
theorem dX9_cuts_51 : decode cX9_cuts 51 = .ok (.getfield 148, 3) := by decide +kernel
theorem dX9_cuts_54 : decode cX9_cuts 54 = .ok (.iload 4, 2) := by decide +kernel
theorem dX9_cuts_56 : decode cX9_cuts 56 = .ok (.iaload, 1) := by decide +kernel
theorem dX9_cuts_57 : decode cX9_cuts 57 = .ok (.iaload, 1) := by decide +kernel
theorem dX9_cuts_58 : decode cX9_cuts 58 = .ok (.invokestatic 230, 3) := by decide +kernel
theorem dX9_cuts_61 : decode cX9_cuts 61 = .ok (.ifCond .ne 6, 3) := by decide +kernel
theorem dX9_cuts_64 : decode cX9_cuts 64 = .ok (.bipush (-3), 2) := by decide +kernel
theorem dX9_cuts_66 : decode cX9_cuts 66 = .ok (.ireturn, 1) := by decide +kernel
theorem dX9_cuts_67 : decode cX9_cuts 67 = .ok (.iinc 4 1, 3) := by decide +kernel
theorem dX9_cuts_70 : decode cX9_cuts 70 = .ok (.goto (-33), 3) := by decide +kernel
theorem dX9_cuts_73 : decode cX9_cuts 73 = .ok (.aload_n 3, 1) := by decide +kernel
theorem dX9_cuts_74 : decode cX9_cuts 74 = .ok (.iload_n 2, 1) := by decide +kernel
theorem dX9_cuts_75 : decode cX9_cuts 75 = .ok (.invokestatic 233, 3) := by decide +kernel
theorem dX9_cuts_78 : decode cX9_cuts 78 = .ok (.ireturn, 1) := by decide +kernel
set_option maxRecDepth 20000 in
theorem ggX9_units_X9_isProof : GoodIn wsX9_units wsX9_isProof := goodIn_r _ [6, 7, 35, 36, 37, 38, 39, 40, 41, 42, 43, 44, 45] (by decide +kernel) (by decide +kernel)
set_option maxRecDepth 20000 in
theorem gX9_units_X9_isProof : GoodIn wsX9_units (wsV RX9 123 RX9 yX9_isProof wsX9_isProof) := goodIn_app (goodIn_of _ (by decide +kernel)) ggX9_units_X9_isProof
set_option maxRecDepth 20000 in
theorem ggX9_units_X0_isClause : GoodIn wsX9_units wsX0_isClause := goodIn_r _ [11] (by decide +kernel) (by decide +kernel)
set_option maxRecDepth 20000 in
theorem gX9_units_X0_isClause : GoodIn wsX9_units (va_wsS RX9 225 yX0_isClause wsX0_isClause) := goodIn_app (goodIn_of _ (by decide +kernel)) ggX9_units_X0_isClause
set_option maxRecDepth 20000 in
theorem ggX9_units_X7_isByUnits : GoodIn wsX9_units wsX7_isByUnits := goodIn_r _ [15, 16, 17, 18, 19, 20, 14, 21, 22, 23, 24, 25, 26, 27, 28, 29, 30, 10, 31, 32, 33, 34, 46, 47, 48, 49, 50, 51, 52] (by decide +kernel) (by decide +kernel)
set_option maxRecDepth 20000 in
theorem gX9_units_X7_isByUnits : GoodIn wsX9_units (va_wsS RX9 238 yX7_isByUnits wsX7_isByUnits) := goodIn_app (goodIn_of _ (by decide +kernel)) ggX9_units_X7_isByUnits
