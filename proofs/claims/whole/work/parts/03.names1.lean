theorem dX0_init_0 : decode cX0_init 0 = .ok (.aload_n 0, 1) := by decide +kernel
theorem dX0_init_1 : decode cX0_init 1 = .ok (.invokespecial 3, 3) := by decide +kernel
theorem dX0_init_4 : decode cX0_init 4 = .ok (.aload_n 0, 1) := by decide +kernel
theorem dX0_init_5 : decode cX0_init 5 = .ok (.bipush 6, 2) := by decide +kernel
theorem dX0_init_7 : decode cX0_init 7 = .ok (.newarray .int, 2) := by decide +kernel
theorem dX0_init_9 : decode cX0_init 9 = .ok (.putfield 9, 3) := by decide +kernel
theorem dX0_init_12 : decode cX0_init 12 = .ok (.aload_n 0, 1) := by decide +kernel
theorem dX0_init_13 : decode cX0_init 13 = .ok (.bipush 6, 2) := by decide +kernel
theorem dX0_init_15 : decode cX0_init 15 = .ok (.newarray .int, 2) := by decide +kernel
theorem dX0_init_17 : decode cX0_init 17 = .ok (.putfield 15, 3) := by decide +kernel
theorem dX0_init_20 : decode cX0_init 20 = .ok (.return_, 1) := by decide +kernel
set_option maxRecDepth 20000 in
theorem ggX0_go_X3_heardInAnyWind : GoodIn wsX0_go wsX3_heardInAnyWind := goodIn_r _ [10, 11, 12, 13, 9, 14, 15, 16, 24, 25, 26, 27, 28, 29, 30, 31, 32, 33, 34, 35, 36, 37, 38] (by decide +kernel) (by decide +kernel)
set_option maxRecDepth 20000 in
theorem gX0_go_X3_heardInAnyWind : GoodIn wsX0_go (wsV RX0 28 RX3 yX3_heardInAnyWind wsX3_heardInAnyWind) := goodIn_app (goodIn_of _ (by decide +kernel)) ggX0_go_X3_heardInAnyWind
set_option maxRecDepth 20000 in
theorem ggX0_go_X0_closes : GoodIn wsX0_go wsX0_closes := goodIn_r _ [20, 3, 5, 2, 21, 22, 23, 17, 18, 19, 39, 40, 41] (by decide +kernel) (by decide +kernel)
set_option maxRecDepth 20000 in
theorem gX0_go_X0_closes : GoodIn wsX0_go (va_wsS RX0 32 yX0_closes wsX0_closes) := goodIn_app (goodIn_of _ (by decide +kernel)) ggX0_go_X0_closes
theorem dX0_go_0 : decode cX0_go 0 = .ok (.aload_n 0, 1) := by decide +kernel
theorem dX0_go_1 : decode cX0_go 1 = .ok (.aload_n 1, 1) := by decide +kernel
theorem dX0_go_2 : decode cX0_go 2 = .ok (.getfield 18, 3) := by decide +kernel
theorem dX0_go_5 : decode cX0_go 5 = .ok (.putfield 24, 3) := by decide +kernel
theorem dX0_go_8 : decode cX0_go 8 = .ok (.iconst 0, 1) := by decide +kernel
theorem dX0_go_9 : decode cX0_go 9 = .ok (.istore_n 2, 1) := by decide +kernel
theorem dX0_go_10 : decode cX0_go 10 = .ok (.iload_n 2, 1) := by decide +kernel
theorem dX0_go_11 : decode cX0_go 11 = .ok (.aload_n 0, 1) := by decide +kernel
theorem dX0_go_12 : decode cX0_go 12 = .ok (.getfield 24, 3) := by decide +kernel
theorem dX0_go_15 : decode cX0_go 15 = .ok (.if_icmp .ge 25, 3) := by decide +kernel
theorem dX0_go_18 : decode cX0_go 18 = .ok (.aload_n 0, 1) := by decide +kernel
theorem dX0_go_19 : decode cX0_go 19 = .ok (.getfield 15, 3) := by decide +kernel
theorem dX0_go_22 : decode cX0_go 22 = .ok (.aload_n 1, 1) := by decide +kernel
theorem dX0_go_23 : decode cX0_go 23 = .ok (.getfield 25, 3) := by decide +kernel
theorem dX0_go_26 : decode cX0_go 26 = .ok (.iload_n 2, 1) := by decide +kernel
theorem dX0_go_27 : decode cX0_go 27 = .ok (.iaload, 1) := by decide +kernel
theorem dX0_go_28 : decode cX0_go 28 = .ok (.aload_n 1, 1) := by decide +kernel
theorem dX0_go_29 : decode cX0_go 29 = .ok (.iload_n 2, 1) := by decide +kernel
theorem dX0_go_30 : decode cX0_go 30 = .ok (.invokevirtual 28, 3) := by decide +kernel
theorem dX0_go_33 : decode cX0_go 33 = .ok (.iastore, 1) := by decide +kernel
theorem dX0_go_34 : decode cX0_go 34 = .ok (.iinc 2 1, 3) := by decide +kernel
theorem dX0_go_37 : decode cX0_go 37 = .ok (.goto (-27), 3) := by decide +kernel
theorem dX0_go_40 : decode cX0_go 40 = .ok (.iconst 2, 1) := by decide +kernel
theorem dX0_go_41 : decode cX0_go 41 = .ok (.istore_n 2, 1) := by decide +kernel
theorem dX0_go_42 : decode cX0_go 42 = .ok (.iload_n 2, 1) := by decide +kernel
theorem dX0_go_43 : decode cX0_go 43 = .ok (.aload_n 0, 1) := by decide +kernel
theorem dX0_go_44 : decode cX0_go 44 = .ok (.getfield 24, 3) := by decide +kernel
theorem dX0_go_47 : decode cX0_go 47 = .ok (.if_icmp .gt 46, 3) := by decide +kernel
theorem dX0_go_50 : decode cX0_go 50 = .ok (.iconst 0, 1) := by decide +kernel
theorem dX0_go_51 : decode cX0_go 51 = .ok (.istore_n 3, 1) := by decide +kernel
theorem dX0_go_52 : decode cX0_go 52 = .ok (.iload_n 3, 1) := by decide +kernel
theorem dX0_go_53 : decode cX0_go 53 = .ok (.aload_n 0, 1) := by decide +kernel
theorem dX0_go_54 : decode cX0_go 54 = .ok (.getfield 24, 3) := by decide +kernel
theorem dX0_go_57 : decode cX0_go 57 = .ok (.if_icmp .ge 30, 3) := by decide +kernel
theorem dX0_go_60 : decode cX0_go 60 = .ok (.aload_n 0, 1) := by decide +kernel
theorem dX0_go_61 : decode cX0_go 61 = .ok (.getfield 9, 3) := by decide +kernel
theorem dX0_go_64 : decode cX0_go 64 = .ok (.iconst 0, 1) := by decide +kernel
theorem dX0_go_65 : decode cX0_go 65 = .ok (.iload_n 3, 1) := by decide +kernel
theorem dX0_go_66 : decode cX0_go 66 = .ok (.iastore, 1) := by decide +kernel
theorem dX0_go_67 : decode cX0_go 67 = .ok (.aload_n 0, 1) := by decide +kernel
theorem dX0_go_68 : decode cX0_go 68 = .ok (.iload_n 2, 1) := by decide +kernel
theorem dX0_go_69 : decode cX0_go 69 = .ok (.iconst 1, 1) := by decide +kernel
theorem dX0_go_70 : decode cX0_go 70 = .ok (.iconst 1, 1) := by decide +kernel
theorem dX0_go_71 : decode cX0_go 71 = .ok (.iload_n 3, 1) := by decide +kernel
theorem dX0_go_72 : decode cX0_go 72 = .ok (.ishl, 1) := by decide +kernel
theorem dX0_go_73 : decode cX0_go 73 = .ok (.invokestatic 32, 3) := by decide +kernel
theorem dX0_go_76 : decode cX0_go 76 = .ok (.ifCond .eq 5, 3) := by decide +kernel
theorem dX0_go_79 : decode cX0_go 79 = .ok (.iload_n 2, 1) := by decide +kernel
theorem dX0_go_80 : decode cX0_go 80 = .ok (.ireturn, 1) := by decide +kernel
theorem dX0_go_81 : decode cX0_go 81 = .ok (.iinc 3 1, 3) := by decide +kernel
theorem dX0_go_84 : decode cX0_go 84 = .ok (.goto (-32), 3) := by decide +kernel
theorem dX0_go_87 : decode cX0_go 87 = .ok (.iinc 2 1, 3) := by decide +kernel
theorem dX0_go_90 : decode cX0_go 90 = .ok (.goto (-48), 3) := by decide +kernel
theorem dX0_go_93 : decode cX0_go 93 = .ok (.iconst 0, 1) := by decide +kernel
theorem dX0_go_94 : decode cX0_go 94 = .ok (.ireturn, 1) := by decide +kernel
set_option maxRecDepth 20000 in
theorem ggX0_closes_X6_has : GoodIn wsX0_closes wsX6_has := goodIn_r _ [6] (by decide +kernel) (by decide +kernel)
set_option maxRecDepth 20000 in
theorem gX0_closes_X6_has_n36 : GoodIn wsX0_closes (wsX6_has) := ggX0_closes_X6_has
set_option maxRecDepth 20000 in
theorem ggX0_closes_X0_closes : GoodIn wsX0_closes wsX0_closes := goodIn_r _ [0, 1, 2, 3, 4, 5, 6, 7, 8, 9, 10, 11, 12] (by decide +kernel) (by decide +kernel)
set_option maxRecDepth 20000 in
theorem gX0_closes_X0_closes : GoodIn wsX0_closes (va_wsS RX0 32 yX0_closes wsX0_closes) := goodIn_app (goodIn_of _ (by decide +kernel)) ggX0_closes_X0_closes
theorem dX0_closes_0 : decode cX0_closes 0 = .ok (.aload_n 0, 1) := by decide +kernel
theorem dX0_closes_1 : decode cX0_closes 1 = .ok (.getfield 15, 3) := by decide +kernel
theorem dX0_closes_4 : decode cX0_closes 4 = .ok (.aload_n 0, 1) := by decide +kernel
theorem dX0_closes_5 : decode cX0_closes 5 = .ok (.getfield 9, 3) := by decide +kernel
theorem dX0_closes_8 : decode cX0_closes 8 = .ok (.iload_n 2, 1) := by decide +kernel
theorem dX0_closes_9 : decode cX0_closes 9 = .ok (.iconst 1, 1) := by decide +kernel
theorem dX0_closes_10 : decode cX0_closes 10 = .ok (.isub, 1) := by decide +kernel
theorem dX0_closes_11 : decode cX0_closes 11 = .ok (.iaload, 1) := by decide +kernel
theorem dX0_closes_12 : decode cX0_closes 12 = .ok (.iaload, 1) := by decide +kernel
theorem dX0_closes_13 : decode cX0_closes 13 = .ok (.istore 4, 2) := by decide +kernel
theorem dX0_closes_15 : decode cX0_closes 15 = .ok (.iload_n 2, 1) := by decide +kernel
theorem dX0_closes_16 : decode cX0_closes 16 = .ok (.iload_n 1, 1) := by decide +kernel
theorem dX0_closes_17 : decode cX0_closes 17 = .ok (.if_icmp .ge 9, 3) := by decide +kernel
theorem dX0_closes_20 : decode cX0_closes 20 = .ok (.iload_n 2, 1) := by decide +kernel
theorem dX0_closes_21 : decode cX0_closes 21 = .ok (.bipush 6, 2) := by decide +kernel
theorem dX0_closes_23 : decode cX0_closes 23 = .ok (.if_icmp .lt 15, 3) := by decide +kernel
theorem dX0_closes_26 : decode cX0_closes 26 = .ok (.iload 4, 2) := by decide +kernel
theorem dX0_closes_28 : decode cX0_closes 28 = .ok (.aload_n 0, 1) := by decide +kernel
theorem dX0_closes_29 : decode cX0_closes 29 = .ok (.getfield 9, 3) := by decide +kernel
theorem dX0_closes_32 : decode cX0_closes 32 = .ok (.iconst 0, 1) := by decide +kernel
theorem dX0_closes_33 : decode cX0_closes 33 = .ok (.iaload, 1) := by decide +kernel
theorem dX0_closes_34 : decode cX0_closes 34 = .ok (.invokestatic 36, 3) := by decide +kernel
theorem dX0_closes_37 : decode cX0_closes 37 = .ok (.ireturn, 1) := by decide +kernel
theorem dX0_closes_38 : decode cX0_closes 38 = .ok (.aload_n 0, 1) := by decide +kernel
theorem dX0_closes_39 : decode cX0_closes 39 = .ok (.getfield 9, 3) := by decide +kernel
theorem dX0_closes_42 : decode cX0_closes 42 = .ok (.iconst 0, 1) := by decide +kernel
theorem dX0_closes_43 : decode cX0_closes 43 = .ok (.iaload, 1) := by decide +kernel
theorem dX0_closes_44 : decode cX0_closes 44 = .ok (.iconst 1, 1) := by decide +kernel
theorem dX0_closes_45 : decode cX0_closes 45 = .ok (.iadd, 1) := by decide +kernel
theorem dX0_closes_46 : decode cX0_closes 46 = .ok (.istore 5, 2) := by decide +kernel
theorem dX0_closes_48 : decode cX0_closes 48 = .ok (.iload 5, 2) := by decide +kernel
theorem dX0_closes_50 : decode cX0_closes 50 = .ok (.aload_n 0, 1) := by decide +kernel
theorem dX0_closes_51 : decode cX0_closes 51 = .ok (.getfield 24, 3) := by decide +kernel
theorem dX0_closes_54 : decode cX0_closes 54 = .ok (.if_icmp .ge 55, 3) := by decide +kernel
theorem dX0_closes_57 : decode cX0_closes 57 = .ok (.iload 4, 2) := by decide +kernel
theorem dX0_closes_59 : decode cX0_closes 59 = .ok (.iload 5, 2) := by decide +kernel
theorem dX0_closes_61 : decode cX0_closes 61 = .ok (.invokestatic 36, 3) := by decide +kernel
theorem dX0_closes_64 : decode cX0_closes 64 = .ok (.ifCond .eq 39, 3) := by decide +kernel
theorem dX0_closes_67 : decode cX0_closes 67 = .ok (.iload_n 3, 1) := by decide +kernel
theorem dX0_closes_68 : decode cX0_closes 68 = .ok (.iload 5, 2) := by decide +kernel
theorem dX0_closes_70 : decode cX0_closes 70 = .ok (.invokestatic 36, 3) := by decide +kernel
theorem dX0_closes_73 : decode cX0_closes 73 = .ok (.ifCond .ne 30, 3) := by decide +kernel
theorem dX0_closes_76 : decode cX0_closes 76 = .ok (.aload_n 0, 1) := by decide +kernel
theorem dX0_closes_77 : decode cX0_closes 77 = .ok (.getfield 9, 3) := by decide +kernel
theorem dX0_closes_80 : decode cX0_closes 80 = .ok (.iload_n 2, 1) := by decide +kernel
theorem dX0_closes_81 : decode cX0_closes 81 = .ok (.iload 5, 2) := by decide +kernel
theorem dX0_closes_83 : decode cX0_closes 83 = .ok (.iastore, 1) := by decide +kernel
theorem dX0_closes_84 : decode cX0_closes 84 = .ok (.aload_n 0, 1) := by decide +kernel
theorem dX0_closes_85 : decode cX0_closes 85 = .ok (.iload_n 1, 1) := by decide +kernel
theorem dX0_closes_86 : decode cX0_closes 86 = .ok (.iload_n 2, 1) := by decide +kernel
theorem dX0_closes_87 : decode cX0_closes 87 = .ok (.iconst 1, 1) := by decide +kernel
theorem dX0_closes_88 : decode cX0_closes 88 = .ok (.iadd, 1) := by decide +kernel
theorem dX0_closes_89 : decode cX0_closes 89 = .ok (.iload_n 3, 1) := by decide +kernel
theorem dX0_closes_90 : decode cX0_closes 90 = .ok (.iconst 1, 1) := by decide +kernel
theorem dX0_closes_91 : decode cX0_closes 91 = .ok (.iload 5, 2) := by decide +kernel
theorem dX0_closes_93 : decode cX0_closes 93 = .ok (.ishl, 1) := by decide +kernel
theorem dX0_closes_94 : decode cX0_closes 94 = .ok (.ior, 1) := by decide +kernel
theorem dX0_closes_95 : decode cX0_closes 95 = .ok (.invokestatic 32, 3) := by decide +kernel
theorem dX0_closes_98 : decode cX0_closes 98 = .ok (.ifCond .eq 5, 3) := by decide +kernel
theorem dX0_closes_101 : decode cX0_closes 101 = .ok (.iconst 1, 1) := by decide +kernel
theorem dX0_closes_102 : decode cX0_closes 102 = .ok (.ireturn, 1) := by decide +kernel
theorem dX0_closes_103 : decode cX0_closes 103 = .ok (.iinc 5 1, 3) := by decide +kernel
theorem dX0_closes_106 : decode cX0_closes 106 = .ok (.goto (-58), 3) := by decide +kernel
theorem dX0_closes_109 : decode cX0_closes 109 = .ok (.iconst 0, 1) := by decide +kernel
theorem dX0_closes_110 : decode cX0_closes 110 = .ok (.ireturn, 1) := by decide +kernel
theorem dX1_init_0 : decode cX1_init 0 = .ok (.aload_n 0, 1) := by decide +kernel
theorem dX1_init_1 : decode cX1_init 1 = .ok (.invokespecial 3, 3) := by decide +kernel
theorem dX1_init_4 : decode cX1_init 4 = .ok (.aload_n 0, 1) := by decide +kernel
theorem dX1_init_5 : decode cX1_init 5 = .ok (.bipush 6, 2) := by decide +kernel
theorem dX1_init_7 : decode cX1_init 7 = .ok (.newarray .int, 2) := by decide +kernel
theorem dX1_init_9 : decode cX1_init 9 = .ok (.putfield 9, 3) := by decide +kernel
theorem dX1_init_12 : decode cX1_init 12 = .ok (.aload_n 0, 1) := by decide +kernel
theorem dX1_init_13 : decode cX1_init 13 = .ok (.bipush 6, 2) := by decide +kernel
theorem dX1_init_15 : decode cX1_init 15 = .ok (.newarray .int, 2) := by decide +kernel
theorem dX1_init_17 : decode cX1_init 17 = .ok (.putfield 15, 3) := by decide +kernel
theorem dX1_init_20 : decode cX1_init 20 = .ok (.aload_n 0, 1) := by decide +kernel
theorem dX1_init_21 : decode cX1_init 21 = .ok (.bipush 36, 2) := by decide +kernel
theorem dX1_init_23 : decode cX1_init 23 = .ok (.newarray .int, 2) := by decide +kernel
theorem dX1_init_25 : decode cX1_init 25 = .ok (.putfield 18, 3) := by decide +kernel
theorem dX1_init_28 : decode cX1_init 28 = .ok (.return_, 1) := by decide +kernel
set_option maxRecDepth 20000 in
theorem ggX1_go_X3_heardInAnyWind : GoodIn wsX1_go wsX3_heardInAnyWind := goodIn_r _ [9, 10, 11, 12, 8, 13, 14, 15, 50, 51, 52, 53, 54, 55, 56, 57, 58, 59, 60, 61, 62, 63, 64] (by decide +kernel) (by decide +kernel)
set_option maxRecDepth 20000 in
theorem gX1_go_X3_heardInAnyWind : GoodIn wsX1_go (wsV RX1 31 RX3 yX3_heardInAnyWind wsX3_heardInAnyWind) := goodIn_app (goodIn_of _ (by decide +kernel)) ggX1_go_X3_heardInAnyWind
set_option maxRecDepth 20000 in
theorem ggX1_go_X6_pair : GoodIn wsX1_go wsX6_pair := goodIn_r _ [18] (by decide +kernel) (by decide +kernel)
set_option maxRecDepth 20000 in
theorem gX1_go_X6_pair_n35 : GoodIn wsX1_go (wsX6_pair) := ggX1_go_X6_pair
set_option maxRecDepth 20000 in
theorem ggX1_go_X6_has : GoodIn wsX1_go wsX6_has := goodIn_r _ [20] (by decide +kernel) (by decide +kernel)
set_option maxRecDepth 20000 in
theorem gX1_go_X6_has_n39 : GoodIn wsX1_go (wsX6_has) := ggX1_go_X6_has
set_option maxRecDepth 20000 in
theorem ggX1_go_X1_needsMet : GoodIn wsX1_go wsX1_needsMet := goodIn_r _ [24, 25, 26, 27, 28, 29, 11, 12, 8, 13, 14, 15, 19, 17, 20, 50, 51, 52, 53, 54, 55, 56, 57, 58, 59, 60, 61, 62, 63, 64] (by decide +kernel) (by decide +kernel)
set_option maxRecDepth 20000 in
theorem gX1_go_X1_needsMet : GoodIn wsX1_go (va_wsS RX1 43 yX1_needsMet wsX1_needsMet) := goodIn_app (goodIn_of _ (by decide +kernel)) ggX1_go_X1_needsMet
set_option maxRecDepth 20000 in
theorem ggX1_go_X1_give : GoodIn wsX1_go wsX1_give := goodIn_r _ [32, 2, 4, 33, 34, 35, 36, 37, 38, 39, 40, 41, 42, 43, 23, 44, 3, 45, 46, 47, 48, 49, 16, 17, 18, 19, 20, 30, 31, 65, 66, 67, 68, 69] (by decide +kernel) (by decide +kernel)
set_option maxRecDepth 20000 in
theorem gX1_go_X1_give : GoodIn wsX1_go (va_wsS RX1 47 yX1_give wsX1_give) := goodIn_app (goodIn_of _ (by decide +kernel)) ggX1_go_X1_give
theorem dX1_go_0 : decode cX1_go 0 = .ok (.aload_n 0, 1) := by decide +kernel
theorem dX1_go_1 : decode cX1_go 1 = .ok (.aload_n 1, 1) := by decide +kernel
theorem dX1_go_2 : decode cX1_go 2 = .ok (.getfield 21, 3) := by decide +kernel
theorem dX1_go_5 : decode cX1_go 5 = .ok (.putfield 27, 3) := by decide +kernel
theorem dX1_go_8 : decode cX1_go 8 = .ok (.aload_n 0, 1) := by decide +kernel
theorem dX1_go_9 : decode cX1_go 9 = .ok (.iconst (-1), 1) := by decide +kernel
theorem dX1_go_10 : decode cX1_go 10 = .ok (.putfield 28, 3) := by decide +kernel
theorem dX1_go_13 : decode cX1_go 13 = .ok (.iconst 0, 1) := by decide +kernel
theorem dX1_go_14 : decode cX1_go 14 = .ok (.istore_n 2, 1) := by decide +kernel
theorem dX1_go_15 : decode cX1_go 15 = .ok (.iload_n 2, 1) := by decide +kernel
theorem dX1_go_16 : decode cX1_go 16 = .ok (.aload_n 0, 1) := by decide +kernel
theorem dX1_go_17 : decode cX1_go 17 = .ok (.getfield 27, 3) := by decide +kernel
theorem dX1_go_20 : decode cX1_go 20 = .ok (.if_icmp .ge 64, 3) := by decide +kernel
theorem dX1_go_23 : decode cX1_go 23 = .ok (.aload_n 1, 1) := by decide +kernel
theorem dX1_go_24 : decode cX1_go 24 = .ok (.iload_n 2, 1) := by decide +kernel
theorem dX1_go_25 : decode cX1_go 25 = .ok (.invokevirtual 31, 3) := by decide +kernel
theorem dX1_go_28 : decode cX1_go 28 = .ok (.istore_n 3, 1) := by decide +kernel
theorem dX1_go_29 : decode cX1_go 29 = .ok (.iconst 0, 1) := by decide +kernel
theorem dX1_go_30 : decode cX1_go 30 = .ok (.istore 4, 2) := by decide +kernel
theorem dX1_go_32 : decode cX1_go 32 = .ok (.iload 4, 2) := by decide +kernel
theorem dX1_go_34 : decode cX1_go 34 = .ok (.aload_n 0, 1) := by decide +kernel
theorem dX1_go_35 : decode cX1_go 35 = .ok (.getfield 27, 3) := by decide +kernel
theorem dX1_go_38 : decode cX1_go 38 = .ok (.if_icmp .ge 40, 3) := by decide +kernel
theorem dX1_go_41 : decode cX1_go 41 = .ok (.aload_n 0, 1) := by decide +kernel
theorem dX1_go_42 : decode cX1_go 42 = .ok (.getfield 18, 3) := by decide +kernel
theorem dX1_go_45 : decode cX1_go 45 = .ok (.iload_n 2, 1) := by decide +kernel
theorem dX1_go_46 : decode cX1_go 46 = .ok (.iload 4, 2) := by decide +kernel
theorem dX1_go_48 : decode cX1_go 48 = .ok (.invokestatic 35, 3) := by decide +kernel
theorem dX1_go_51 : decode cX1_go 51 = .ok (.iload_n 3, 1) := by decide +kernel
theorem dX1_go_52 : decode cX1_go 52 = .ok (.iload 4, 2) := by decide +kernel
theorem dX1_go_54 : decode cX1_go 54 = .ok (.invokestatic 39, 3) := by decide +kernel
theorem dX1_go_57 : decode cX1_go 57 = .ok (.ifCond .eq 7, 3) := by decide +kernel
theorem dX1_go_60 : decode cX1_go 60 = .ok (.iconst (-1), 1) := by decide +kernel
theorem dX1_go_61 : decode cX1_go 61 = .ok (.goto 10, 3) := by decide +kernel
theorem dX1_go_64 : decode cX1_go 64 = .ok (.aload_n 1, 1) := by decide +kernel
theorem dX1_go_65 : decode cX1_go 65 = .ok (.iload_n 2, 1) := by decide +kernel
theorem dX1_go_66 : decode cX1_go 66 = .ok (.iload 4, 2) := by decide +kernel
theorem dX1_go_68 : decode cX1_go 68 = .ok (.invokestatic 43, 3) := by decide +kernel
theorem dX1_go_71 : decode cX1_go 71 = .ok (.iastore, 1) := by decide +kernel
theorem dX1_go_72 : decode cX1_go 72 = .ok (.iinc 4 1, 3) := by decide +kernel
theorem dX1_go_75 : decode cX1_go 75 = .ok (.goto (-43), 3) := by decide +kernel
theorem dX1_go_78 : decode cX1_go 78 = .ok (.iinc 2 1, 3) := by decide +kernel
theorem dX1_go_81 : decode cX1_go 81 = .ok (.goto (-66), 3) := by decide +kernel
theorem dX1_go_84 : decode cX1_go 84 = .ok (.aload_n 0, 1) := by decide +kernel
theorem dX1_go_85 : decode cX1_go 85 = .ok (.iconst 0, 1) := by decide +kernel
theorem dX1_go_86 : decode cX1_go 86 = .ok (.iconst 0, 1) := by decide +kernel
theorem dX1_go_87 : decode cX1_go 87 = .ok (.iconst 0, 1) := by decide +kernel
theorem dX1_go_88 : decode cX1_go 88 = .ok (.invokestatic 47, 3) := by decide +kernel
theorem dX1_go_91 : decode cX1_go 91 = .ok (.return_, 1) := by decide +kernel
set_option maxRecDepth 20000 in
theorem ggX1_needsMet_X3_heardIn : GoodIn wsX1_needsMet wsX3_heardIn := goodIn_r _ [9, 10, 11, 15, 16, 17, 18, 19, 20, 21, 22, 23, 24, 25, 26, 27, 28, 29] (by decide +kernel) (by decide +kernel)
set_option maxRecDepth 20000 in
theorem gX1_needsMet_X3_heardIn : GoodIn wsX1_needsMet (wsV RX1 57 RX3 yX3_heardIn wsX3_heardIn) := goodIn_app (goodIn_of _ (by decide +kernel)) ggX1_needsMet_X3_heardIn
set_option maxRecDepth 20000 in
theorem ggX1_needsMet_X6_has : GoodIn wsX1_needsMet wsX6_has := goodIn_r _ [14] (by decide +kernel) (by decide +kernel)
set_option maxRecDepth 20000 in
theorem gX1_needsMet_X6_has_n39 : GoodIn wsX1_needsMet (wsX6_has) := ggX1_needsMet_X6_has
theorem dX1_needsMet_0 : decode cX1_needsMet 0 = .ok (.iconst 0, 1) := by decide +kernel
theorem dX1_needsMet_1 : decode cX1_needsMet 1 = .ok (.istore_n 3, 1) := by decide +kernel
theorem dX1_needsMet_2 : decode cX1_needsMet 2 = .ok (.iconst 0, 1) := by decide +kernel
theorem dX1_needsMet_3 : decode cX1_needsMet 3 = .ok (.istore 4, 2) := by decide +kernel
theorem dX1_needsMet_5 : decode cX1_needsMet 5 = .ok (.iload 4, 2) := by decide +kernel
theorem dX1_needsMet_7 : decode cX1_needsMet 7 = .ok (.aload_n 0, 1) := by decide +kernel
theorem dX1_needsMet_8 : decode cX1_needsMet 8 = .ok (.getfield 51, 3) := by decide +kernel
theorem dX1_needsMet_11 : decode cX1_needsMet 11 = .ok (.if_icmp .ge 59, 3) := by decide +kernel
theorem dX1_needsMet_14 : decode cX1_needsMet 14 = .ok (.aload_n 0, 1) := by decide +kernel
theorem dX1_needsMet_15 : decode cX1_needsMet 15 = .ok (.iload_n 1, 1) := by decide +kernel
theorem dX1_needsMet_16 : decode cX1_needsMet 16 = .ok (.aload_n 0, 1) := by decide +kernel
theorem dX1_needsMet_17 : decode cX1_needsMet 17 = .ok (.getfield 54, 3) := by decide +kernel
theorem dX1_needsMet_20 : decode cX1_needsMet 20 = .ok (.iload 4, 2) := by decide +kernel
theorem dX1_needsMet_22 : decode cX1_needsMet 22 = .ok (.iaload, 1) := by decide +kernel
theorem dX1_needsMet_23 : decode cX1_needsMet 23 = .ok (.invokevirtual 57, 3) := by decide +kernel
theorem dX1_needsMet_26 : decode cX1_needsMet 26 = .ok (.aload_n 0, 1) := by decide +kernel
theorem dX1_needsMet_27 : decode cX1_needsMet 27 = .ok (.getfield 60, 3) := by decide +kernel
theorem dX1_needsMet_30 : decode cX1_needsMet 30 = .ok (.iload 4, 2) := by decide +kernel
theorem dX1_needsMet_32 : decode cX1_needsMet 32 = .ok (.iaload, 1) := by decide +kernel
theorem dX1_needsMet_33 : decode cX1_needsMet 33 = .ok (.invokestatic 39, 3) := by decide +kernel
theorem dX1_needsMet_36 : decode cX1_needsMet 36 = .ok (.istore 5, 2) := by decide +kernel
theorem dX1_needsMet_38 : decode cX1_needsMet 38 = .ok (.iload 5, 2) := by decide +kernel
theorem dX1_needsMet_40 : decode cX1_needsMet 40 = .ok (.ifCond .eq 24, 3) := by decide +kernel
theorem dX1_needsMet_43 : decode cX1_needsMet 43 = .ok (.aload_n 0, 1) := by decide +kernel
theorem dX1_needsMet_44 : decode cX1_needsMet 44 = .ok (.getfield 63, 3) := by decide +kernel
theorem dX1_needsMet_47 : decode cX1_needsMet 47 = .ok (.iload 4, 2) := by decide +kernel
theorem dX1_needsMet_49 : decode cX1_needsMet 49 = .ok (.iaload, 1) := by decide +kernel
theorem dX1_needsMet_50 : decode cX1_needsMet 50 = .ok (.iload_n 2, 1) := by decide +kernel
theorem dX1_needsMet_51 : decode cX1_needsMet 51 = .ok (.invokestatic 39, 3) := by decide +kernel
theorem dX1_needsMet_54 : decode cX1_needsMet 54 = .ok (.ifCond .eq 10, 3) := by decide +kernel
theorem dX1_needsMet_57 : decode cX1_needsMet 57 = .ok (.iload_n 3, 1) := by decide +kernel
theorem dX1_needsMet_58 : decode cX1_needsMet 58 = .ok (.iconst 1, 1) := by decide +kernel
theorem dX1_needsMet_59 : decode cX1_needsMet 59 = .ok (.iload 4, 2) := by decide +kernel
theorem dX1_needsMet_61 : decode cX1_needsMet 61 = .ok (.ishl, 1) := by decide +kernel
theorem dX1_needsMet_62 : decode cX1_needsMet 62 = .ok (.ior, 1) := by decide +kernel
theorem dX1_needsMet_63 : decode cX1_needsMet 63 = .ok (.istore_n 3, 1) := by decide +kernel
theorem dX1_needsMet_64 : decode cX1_needsMet 64 = .ok (.iinc 4 1, 3) := by decide +kernel
theorem dX1_needsMet_67 : decode cX1_needsMet 67 = .ok (.goto (-62), 3) := by decide +kernel
theorem dX1_needsMet_70 : decode cX1_needsMet 70 = .ok (.iload_n 3, 1) := by decide +kernel
theorem dX1_needsMet_71 : decode cX1_needsMet 71 = .ok (.ireturn, 1) := by decide +kernel
set_option maxRecDepth 20000 in
theorem ggX1_give_J6_bitCount_0f7a4 : GoodIn wsX1_give wsJ6_bitCount_0f7a4 := goodIn_r _ [7, 8, 9, 10] (by decide +kernel) (by decide +kernel)
set_option maxRecDepth 20000 in
theorem gX1_give_J6_bitCount_0f7a4 : GoodIn wsX1_give (va_wsS RX1 66 yJ6_bitCount_0f7a4 wsJ6_bitCount_0f7a4) := goodIn_app (goodIn_of _ (by decide +kernel)) ggX1_give_J6_bitCount_0f7a4
set_option maxRecDepth 20000 in
theorem ggX1_give_X1_keepIfMore : GoodIn wsX1_give wsX1_keepIfMore := goodIn_r _ [15, 16, 3, 17, 18, 19, 20, 21, 29, 30, 31, 32, 33] (by decide +kernel) (by decide +kernel)
set_option maxRecDepth 20000 in
theorem gX1_give_X1_keepIfMore : GoodIn wsX1_give (wsV RX1 71 RX1 yX1_keepIfMore wsX1_keepIfMore) := goodIn_app (goodIn_of _ (by decide +kernel)) ggX1_give_X1_keepIfMore
set_option maxRecDepth 20000 in
theorem ggX1_give_X6_pair : GoodIn wsX1_give wsX6_pair := goodIn_r _ [24] (by decide +kernel) (by decide +kernel)
set_option maxRecDepth 20000 in
theorem gX1_give_X6_pair_n35 : GoodIn wsX1_give (wsX6_pair) := ggX1_give_X6_pair
set_option maxRecDepth 20000 in
theorem ggX1_give_X6_has : GoodIn wsX1_give wsX6_has := goodIn_r _ [26] (by decide +kernel) (by decide +kernel)
set_option maxRecDepth 20000 in
theorem gX1_give_X6_has_n39 : GoodIn wsX1_give (wsX6_has) := ggX1_give_X6_has
set_option maxRecDepth 20000 in
theorem ggX1_give_X1_give : GoodIn wsX1_give wsX1_give := goodIn_r _ [0, 1, 2, 3, 4, 5, 6, 7, 8, 9, 10, 11, 12, 13, 14, 15, 16, 17, 18, 19, 20, 21, 22, 23, 24, 25, 26, 27, 28, 29, 30, 31, 32, 33] (by decide +kernel) (by decide +kernel)
set_option maxRecDepth 20000 in
theorem gX1_give_X1_give : GoodIn wsX1_give (va_wsS RX1 47 yX1_give wsX1_give) := goodIn_app (goodIn_of _ (by decide +kernel)) ggX1_give_X1_give
theorem dX1_give_0 : decode cX1_give 0 = .ok (.iload_n 1, 1) := by decide +kernel
theorem dX1_give_1 : decode cX1_give 1 = .ok (.aload_n 0, 1) := by decide +kernel
theorem dX1_give_2 : decode cX1_give 2 = .ok (.getfield 27, 3) := by decide +kernel
theorem dX1_give_5 : decode cX1_give 5 = .ok (.if_icmp .ge 9, 3) := by decide +kernel
theorem dX1_give_8 : decode cX1_give 8 = .ok (.iload_n 1, 1) := by decide +kernel
theorem dX1_give_9 : decode cX1_give 9 = .ok (.bipush 6, 2) := by decide +kernel
theorem dX1_give_11 : decode cX1_give 11 = .ok (.if_icmp .lt 12, 3) := by decide +kernel
theorem dX1_give_14 : decode cX1_give 14 = .ok (.aload_n 0, 1) := by decide +kernel
theorem dX1_give_15 : decode cX1_give 15 = .ok (.iload_n 3, 1) := by decide +kernel
theorem dX1_give_16 : decode cX1_give 16 = .ok (.invokestatic 66, 3) := by decide +kernel
theorem dX1_give_19 : decode cX1_give 19 = .ok (.invokevirtual 71, 3) := by decide +kernel
theorem dX1_give_22 : decode cX1_give 22 = .ok (.return_, 1) := by decide +kernel
theorem dX1_give_23 : decode cX1_give 23 = .ok (.iconst 0, 1) := by decide +kernel
theorem dX1_give_24 : decode cX1_give 24 = .ok (.istore 4, 2) := by decide +kernel
theorem dX1_give_26 : decode cX1_give 26 = .ok (.iload 4, 2) := by decide +kernel
theorem dX1_give_28 : decode cX1_give 28 = .ok (.aload_n 0, 1) := by decide +kernel
theorem dX1_give_29 : decode cX1_give 29 = .ok (.getfield 27, 3) := by decide +kernel
theorem dX1_give_32 : decode cX1_give 32 = .ok (.if_icmp .ge 62, 3) := by decide +kernel
theorem dX1_give_35 : decode cX1_give 35 = .ok (.aload_n 0, 1) := by decide +kernel
theorem dX1_give_36 : decode cX1_give 36 = .ok (.getfield 18, 3) := by decide +kernel
theorem dX1_give_39 : decode cX1_give 39 = .ok (.iload_n 1, 1) := by decide +kernel
theorem dX1_give_40 : decode cX1_give 40 = .ok (.iload 4, 2) := by decide +kernel
theorem dX1_give_42 : decode cX1_give 42 = .ok (.invokestatic 35, 3) := by decide +kernel
theorem dX1_give_45 : decode cX1_give 45 = .ok (.iaload, 1) := by decide +kernel
theorem dX1_give_46 : decode cX1_give 46 = .ok (.istore 5, 2) := by decide +kernel
theorem dX1_give_48 : decode cX1_give 48 = .ok (.iload 5, 2) := by decide +kernel
theorem dX1_give_50 : decode cX1_give 50 = .ok (.iconst (-1), 1) := by decide +kernel
theorem dX1_give_51 : decode cX1_give 51 = .ok (.if_icmp .eq 37, 3) := by decide +kernel
theorem dX1_give_54 : decode cX1_give 54 = .ok (.iload_n 2, 1) := by decide +kernel
theorem dX1_give_55 : decode cX1_give 55 = .ok (.iload 4, 2) := by decide +kernel
theorem dX1_give_57 : decode cX1_give 57 = .ok (.invokestatic 39, 3) := by decide +kernel
theorem dX1_give_60 : decode cX1_give 60 = .ok (.ifCond .ne 28, 3) := by decide +kernel
theorem dX1_give_63 : decode cX1_give 63 = .ok (.aload_n 0, 1) := by decide +kernel
theorem dX1_give_64 : decode cX1_give 64 = .ok (.getfield 15, 3) := by decide +kernel
theorem dX1_give_67 : decode cX1_give 67 = .ok (.iload_n 1, 1) := by decide +kernel
theorem dX1_give_68 : decode cX1_give 68 = .ok (.iload 4, 2) := by decide +kernel
theorem dX1_give_70 : decode cX1_give 70 = .ok (.iastore, 1) := by decide +kernel
theorem dX1_give_71 : decode cX1_give 71 = .ok (.aload_n 0, 1) := by decide +kernel
theorem dX1_give_72 : decode cX1_give 72 = .ok (.iload_n 1, 1) := by decide +kernel
theorem dX1_give_73 : decode cX1_give 73 = .ok (.iconst 1, 1) := by decide +kernel
theorem dX1_give_74 : decode cX1_give 74 = .ok (.iadd, 1) := by decide +kernel
theorem dX1_give_75 : decode cX1_give 75 = .ok (.iload_n 2, 1) := by decide +kernel
theorem dX1_give_76 : decode cX1_give 76 = .ok (.iconst 1, 1) := by decide +kernel
theorem dX1_give_77 : decode cX1_give 77 = .ok (.iload 4, 2) := by decide +kernel
theorem dX1_give_79 : decode cX1_give 79 = .ok (.ishl, 1) := by decide +kernel
theorem dX1_give_80 : decode cX1_give 80 = .ok (.ior, 1) := by decide +kernel
theorem dX1_give_81 : decode cX1_give 81 = .ok (.iload_n 3, 1) := by decide +kernel
theorem dX1_give_82 : decode cX1_give 82 = .ok (.iload 5, 2) := by decide +kernel
theorem dX1_give_84 : decode cX1_give 84 = .ok (.ior, 1) := by decide +kernel
theorem dX1_give_85 : decode cX1_give 85 = .ok (.invokestatic 47, 3) := by decide +kernel
theorem dX1_give_88 : decode cX1_give 88 = .ok (.iinc 4 1, 3) := by decide +kernel
theorem dX1_give_91 : decode cX1_give 91 = .ok (.goto (-65), 3) := by decide +kernel
theorem dX1_give_94 : decode cX1_give 94 = .ok (.return_, 1) := by decide +kernel
theorem dX1_keepIfMore_0 : decode cX1_keepIfMore 0 = .ok (.iload_n 1, 1) := by decide +kernel
theorem dX1_keepIfMore_1 : decode cX1_keepIfMore 1 = .ok (.aload_n 0, 1) := by decide +kernel
theorem dX1_keepIfMore_2 : decode cX1_keepIfMore 2 = .ok (.getfield 28, 3) := by decide +kernel
theorem dX1_keepIfMore_5 : decode cX1_keepIfMore 5 = .ok (.if_icmp .le 23, 3) := by decide +kernel
theorem dX1_keepIfMore_8 : decode cX1_keepIfMore 8 = .ok (.aload_n 0, 1) := by decide +kernel
theorem dX1_keepIfMore_9 : decode cX1_keepIfMore 9 = .ok (.iload_n 1, 1) := by decide +kernel
theorem dX1_keepIfMore_10 : decode cX1_keepIfMore 10 = .ok (.putfield 28, 3) := by decide +kernel
theorem dX1_keepIfMore_13 : decode cX1_keepIfMore 13 = .ok (.aload_n 0, 1) := by decide +kernel
theorem dX1_keepIfMore_14 : decode cX1_keepIfMore 14 = .ok (.getfield 15, 3) := by decide +kernel
theorem dX1_keepIfMore_17 : decode cX1_keepIfMore 17 = .ok (.iconst 0, 1) := by decide +kernel
theorem dX1_keepIfMore_18 : decode cX1_keepIfMore 18 = .ok (.aload_n 0, 1) := by decide +kernel
theorem dX1_keepIfMore_19 : decode cX1_keepIfMore 19 = .ok (.getfield 9, 3) := by decide +kernel
theorem dX1_keepIfMore_22 : decode cX1_keepIfMore 22 = .ok (.iconst 0, 1) := by decide +kernel
theorem dX1_keepIfMore_23 : decode cX1_keepIfMore 23 = .ok (.bipush 6, 2) := by decide +kernel
theorem dX1_keepIfMore_25 : decode cX1_keepIfMore 25 = .ok (.invokestatic 75, 3) := by decide +kernel
theorem dX1_keepIfMore_28 : decode cX1_keepIfMore 28 = .ok (.return_, 1) := by decide +kernel
theorem dX2_init_0 : decode cX2_init 0 = .ok (.aload_n 0, 1) := by decide +kernel
theorem dX2_init_1 : decode cX2_init 1 = .ok (.invokespecial 3, 3) := by decide +kernel
theorem dX2_init_4 : decode cX2_init 4 = .ok (.aload_n 0, 1) := by decide +kernel
theorem dX2_init_5 : decode cX2_init 5 = .ok (.sipush 250, 3) := by decide +kernel
theorem dX2_init_8 : decode cX2_init 8 = .ok (.newarray .byte, 2) := by decide +kernel
theorem dX2_init_10 : decode cX2_init 10 = .ok (.putfield 9, 3) := by decide +kernel
theorem dX2_init_13 : decode cX2_init 13 = .ok (.aload_n 0, 1) := by decide +kernel
theorem dX2_init_14 : decode cX2_init 14 = .ok (.iconst 3, 1) := by decide +kernel
theorem dX2_init_15 : decode cX2_init 15 = .ok (.newarray .int, 2) := by decide +kernel
theorem dX2_init_17 : decode cX2_init 17 = .ok (.putfield 15, 3) := by decide +kernel
theorem dX2_init_20 : decode cX2_init 20 = .ok (.return_, 1) := by decide +kernel
theorem dX2_write_0 : decode cX2_write 0 = .ok (.iload_n 3, 1) := by decide +kernel
theorem dX2_write_1 : decode cX2_write 1 = .ok (.iconst 1, 1) := by decide +kernel
theorem dX2_write_2 : decode cX2_write 2 = .ok (.if_icmp .lt 9, 3) := by decide +kernel
theorem dX2_write_5 : decode cX2_write 5 = .ok (.iload_n 3, 1) := by decide +kernel
theorem dX2_write_6 : decode cX2_write 6 = .ok (.bipush 8, 2) := by decide +kernel
theorem dX2_write_8 : decode cX2_write 8 = .ok (.if_icmp .le 6, 3) := by decide +kernel
theorem dX2_write_11 : decode cX2_write 11 = .ok (.bipush (-2), 2) := by decide +kernel
theorem dX2_write_13 : decode cX2_write 13 = .ok (.ireturn, 1) := by decide +kernel
theorem dX2_write_14 : decode cX2_write 14 = .ok (.aload_n 0, 1) := by decide +kernel
theorem dX2_write_15 : decode cX2_write 15 = .ok (.getfield 19, 3) := by decide +kernel
theorem dX2_write_18 : decode cX2_write 18 = .ok (.iload_n 3, 1) := by decide +kernel
theorem dX2_write_19 : decode cX2_write 19 = .ok (.iadd, 1) := by decide +kernel
theorem dX2_write_20 : decode cX2_write 20 = .ok (.sipush 250, 3) := by decide +kernel
theorem dX2_write_23 : decode cX2_write 23 = .ok (.if_icmp .le 6, 3) := by decide +kernel
theorem dX2_write_26 : decode cX2_write 26 = .ok (.bipush (-4), 2) := by decide +kernel
theorem dX2_write_28 : decode cX2_write 28 = .ok (.ireturn, 1) := by decide +kernel
theorem dX2_write_29 : decode cX2_write 29 = .ok (.iload_n 3, 1) := by decide +kernel
theorem dX2_write_30 : decode cX2_write 30 = .ok (.iconst 1, 1) := by decide +kernel
theorem dX2_write_31 : decode cX2_write 31 = .ok (.isub, 1) := by decide +kernel
theorem dX2_write_32 : decode cX2_write 32 = .ok (.istore 4, 2) := by decide +kernel
theorem dX2_write_34 : decode cX2_write 34 = .ok (.iload 4, 2) := by decide +kernel
theorem dX2_write_36 : decode cX2_write 36 = .ok (.ifCond .lt 37, 3) := by decide +kernel
theorem dX2_write_39 : decode cX2_write 39 = .ok (.aload_n 0, 1) := by decide +kernel
theorem dX2_write_40 : decode cX2_write 40 = .ok (.getfield 9, 3) := by decide +kernel
theorem dX2_write_43 : decode cX2_write 43 = .ok (.aload_n 0, 1) := by decide +kernel
theorem dX2_write_44 : decode cX2_write 44 = .ok (.getfield 19, 3) := by decide +kernel
theorem dX2_write_47 : decode cX2_write 47 = .ok (.lload_n 1, 1) := by decide +kernel
theorem dX2_write_48 : decode cX2_write 48 = .ok (.bipush 8, 2) := by decide +kernel
theorem dX2_write_50 : decode cX2_write 50 = .ok (.iload 4, 2) := by decide +kernel
theorem dX2_write_52 : decode cX2_write 52 = .ok (.imul, 1) := by decide +kernel
theorem dX2_write_53 : decode cX2_write 53 = .ok (.lshr, 1) := by decide +kernel
theorem dX2_write_54 : decode cX2_write 54 = .ok (.l2i, 1) := by decide +kernel
theorem dX2_write_55 : decode cX2_write 55 = .ok (.i2b, 1) := by decide +kernel
theorem dX2_write_56 : decode cX2_write 56 = .ok (.bastore, 1) := by decide +kernel
theorem dX2_write_57 : decode cX2_write 57 = .ok (.aload_n 0, 1) := by decide +kernel
theorem dX2_write_58 : decode cX2_write 58 = .ok (.dup, 1) := by decide +kernel
theorem dX2_write_59 : decode cX2_write 59 = .ok (.getfield 19, 3) := by decide +kernel
theorem dX2_write_62 : decode cX2_write 62 = .ok (.iconst 1, 1) := by decide +kernel
theorem dX2_write_63 : decode cX2_write 63 = .ok (.iadd, 1) := by decide +kernel
theorem dX2_write_64 : decode cX2_write 64 = .ok (.putfield 19, 3) := by decide +kernel
theorem dX2_write_67 : decode cX2_write 67 = .ok (.iinc 4 (-1), 3) := by decide +kernel
theorem dX2_write_70 : decode cX2_write 70 = .ok (.goto (-36), 3) := by decide +kernel
theorem dX2_write_73 : decode cX2_write 73 = .ok (.aload_n 0, 1) := by decide +kernel
theorem dX2_write_74 : decode cX2_write 74 = .ok (.getfield 19, 3) := by decide +kernel
theorem dX2_write_77 : decode cX2_write 77 = .ok (.ireturn, 1) := by decide +kernel
theorem dX2_wipe_0 : decode cX2_wipe 0 = .ok (.aload_n 0, 1) := by decide +kernel
theorem dX2_wipe_1 : decode cX2_wipe 1 = .ok (.getfield 19, 3) := by decide +kernel
theorem dX2_wipe_4 : decode cX2_wipe 4 = .ok (.istore_n 1, 1) := by decide +kernel
theorem dX2_wipe_5 : decode cX2_wipe 5 = .ok (.aload_n 0, 1) := by decide +kernel
theorem dX2_wipe_6 : decode cX2_wipe 6 = .ok (.iconst 0, 1) := by decide +kernel
theorem dX2_wipe_7 : decode cX2_wipe 7 = .ok (.putfield 19, 3) := by decide +kernel
theorem dX2_wipe_10 : decode cX2_wipe 10 = .ok (.iload_n 1, 1) := by decide +kernel
theorem dX2_wipe_11 : decode cX2_wipe 11 = .ok (.ireturn, 1) := by decide +kernel
set_option maxRecDepth 20000 in
theorem ggX2_tell_X2_endOfToken : GoodIn wsX2_tell wsX2_endOfToken := goodIn_r _ [10, 5, 4, 11, 12, 9, 13, 14, 15, 16, 153, 154, 155, 156, 157, 158, 159] (by decide +kernel) (by decide +kernel)
set_option maxRecDepth 20000 in
theorem gX2_tell_X2_endOfToken : GoodIn wsX2_tell (wsV RX2 32 RX2 yX2_endOfToken wsX2_endOfToken) := goodIn_app (goodIn_of _ (by decide +kernel)) ggX2_tell_X2_endOfToken
set_option maxRecDepth 20000 in
theorem ggX2_tell_X2_stands : GoodIn wsX2_tell wsX2_stands := goodIn_r _ [20, 1, 21, 22, 5, 3, 2, 23, 24, 25, 9, 26, 27, 28, 29, 30, 31, 32, 33, 34, 35, 36, 37, 38, 39, 40, 41, 42, 43, 44, 45, 46, 47, 48, 49, 50, 51, 52, 53, 54, 55, 56, 57, 58, 59, 60, 61, 62, 63, 64, 65, 66, 67, 68, 69, 70, 71, 72, 73, 74, 75, 76, 77, 78, 79, 80, 81, 82, 83, 84, 85, 86, 87, 88, 14, 15, 16, 89, 90, 91, 92, 93, 94, 95, 96, 97, 98, 99, 100, 101, 102, 103, 104, 105, 106, 107, 108, 109, 110, 111, 112, 113, 114, 115, 116, 117, 118, 119, 120, 121, 122, 123, 124, 125, 126, 127, 128, 129, 130, 131, 132, 133, 134, 135, 136, 137, 138, 139, 140, 141, 142, 143, 144, 145, 146, 147, 148, 149, 150, 151, 152, 153, 154, 155, 156, 157, 158, 159, 160, 161, 162, 163, 164, 165, 166, 167, 168, 169, 170, 171, 172, 173, 174] (by decide +kernel) (by decide +kernel)
set_option maxRecDepth 20000 in
theorem gX2_tell_X2_stands : GoodIn wsX2_tell (wsV RX2 36 RX2 yX2_stands wsX2_stands) := goodIn_app (goodIn_of _ (by decide +kernel)) ggX2_tell_X2_stands
theorem dX2_tell_0 : decode cX2_tell 0 = .ok (.aload_n 0, 1) := by decide +kernel
theorem dX2_tell_1 : decode cX2_tell 1 = .ok (.iconst (-1), 1) := by decide +kernel
theorem dX2_tell_2 : decode cX2_tell 2 = .ok (.putfield 23, 3) := by decide +kernel
theorem dX2_tell_5 : decode cX2_tell 5 = .ok (.aload_n 0, 1) := by decide +kernel
theorem dX2_tell_6 : decode cX2_tell 6 = .ok (.iconst 0, 1) := by decide +kernel
theorem dX2_tell_7 : decode cX2_tell 7 = .ok (.putfield 26, 3) := by decide +kernel
theorem dX2_tell_10 : decode cX2_tell 10 = .ok (.aload_n 0, 1) := by decide +kernel
theorem dX2_tell_11 : decode cX2_tell 11 = .ok (.iconst (-1), 1) := by decide +kernel
theorem dX2_tell_12 : decode cX2_tell 12 = .ok (.putfield 29, 3) := by decide +kernel
theorem dX2_tell_15 : decode cX2_tell 15 = .ok (.iconst 0, 1) := by decide +kernel
theorem dX2_tell_16 : decode cX2_tell 16 = .ok (.istore_n 2, 1) := by decide +kernel
theorem dX2_tell_17 : decode cX2_tell 17 = .ok (.iconst 0, 1) := by decide +kernel
theorem dX2_tell_18 : decode cX2_tell 18 = .ok (.istore_n 3, 1) := by decide +kernel
theorem dX2_tell_19 : decode cX2_tell 19 = .ok (.iload_n 3, 1) := by decide +kernel
theorem dX2_tell_20 : decode cX2_tell 20 = .ok (.aload_n 0, 1) := by decide +kernel
theorem dX2_tell_21 : decode cX2_tell 21 = .ok (.getfield 19, 3) := by decide +kernel
theorem dX2_tell_24 : decode cX2_tell 24 = .ok (.if_icmp .ge 46, 3) := by decide +kernel
theorem dX2_tell_27 : decode cX2_tell 27 = .ok (.iload_n 3, 1) := by decide +kernel
theorem dX2_tell_28 : decode cX2_tell 28 = .ok (.iload_n 2, 1) := by decide +kernel
theorem dX2_tell_29 : decode cX2_tell 29 = .ok (.if_icmp .lt 35, 3) := by decide +kernel
theorem dX2_tell_32 : decode cX2_tell 32 = .ok (.aload_n 0, 1) := by decide +kernel
theorem dX2_tell_33 : decode cX2_tell 33 = .ok (.getfield 9, 3) := by decide +kernel
theorem dX2_tell_36 : decode cX2_tell 36 = .ok (.iload_n 3, 1) := by decide +kernel
theorem dX2_tell_37 : decode cX2_tell 37 = .ok (.baload, 1) := by decide +kernel
theorem dX2_tell_38 : decode cX2_tell 38 = .ok (.bipush 32, 2) := by decide +kernel
theorem dX2_tell_40 : decode cX2_tell 40 = .ok (.if_icmp .eq 24, 3) := by decide +kernel
theorem dX2_tell_43 : decode cX2_tell 43 = .ok (.aload_n 0, 1) := by decide +kernel
theorem dX2_tell_44 : decode cX2_tell 44 = .ok (.iload_n 3, 1) := by decide +kernel
theorem dX2_tell_45 : decode cX2_tell 45 = .ok (.invokevirtual 32, 3) := by decide +kernel
theorem dX2_tell_48 : decode cX2_tell 48 = .ok (.istore_n 2, 1) := by decide +kernel
theorem dX2_tell_49 : decode cX2_tell 49 = .ok (.aload_n 0, 1) := by decide +kernel
theorem dX2_tell_50 : decode cX2_tell 50 = .ok (.iload_n 3, 1) := by decide +kernel
theorem dX2_tell_51 : decode cX2_tell 51 = .ok (.iload_n 2, 1) := by decide +kernel
theorem dX2_tell_52 : decode cX2_tell 52 = .ok (.aload_n 1, 1) := by decide +kernel
theorem dX2_tell_53 : decode cX2_tell 53 = .ok (.invokevirtual 36, 3) := by decide +kernel
theorem dX2_tell_56 : decode cX2_tell 56 = .ok (.ifCond .ne 8, 3) := by decide +kernel
theorem dX2_tell_59 : decode cX2_tell 59 = .ok (.bipush (-10), 2) := by decide +kernel
theorem dX2_tell_61 : decode cX2_tell 61 = .ok (.iload_n 3, 1) := by decide +kernel
theorem dX2_tell_62 : decode cX2_tell 62 = .ok (.isub, 1) := by decide +kernel
theorem dX2_tell_63 : decode cX2_tell 63 = .ok (.ireturn, 1) := by decide +kernel
theorem dX2_tell_64 : decode cX2_tell 64 = .ok (.iinc 3 1, 3) := by decide +kernel
theorem dX2_tell_67 : decode cX2_tell 67 = .ok (.goto (-48), 3) := by decide +kernel
theorem dX2_tell_70 : decode cX2_tell 70 = .ok (.aload_n 0, 1) := by decide +kernel
theorem dX2_tell_71 : decode cX2_tell 71 = .ok (.getfield 26, 3) := by decide +kernel
theorem dX2_tell_74 : decode cX2_tell 74 = .ok (.ifCond .eq 11, 3) := by decide +kernel
theorem dX2_tell_77 : decode cX2_tell 77 = .ok (.aload_n 0, 1) := by decide +kernel
theorem dX2_tell_78 : decode cX2_tell 78 = .ok (.getfield 23, 3) := by decide +kernel
theorem dX2_tell_81 : decode cX2_tell 81 = .ok (.iconst (-1), 1) := by decide +kernel
theorem dX2_tell_82 : decode cX2_tell 82 = .ok (.if_icmp .eq 11, 3) := by decide +kernel
theorem dX2_tell_85 : decode cX2_tell 85 = .ok (.bipush (-10), 2) := by decide +kernel
theorem dX2_tell_87 : decode cX2_tell 87 = .ok (.aload_n 0, 1) := by decide +kernel
theorem dX2_tell_88 : decode cX2_tell 88 = .ok (.getfield 19, 3) := by decide +kernel
theorem dX2_tell_91 : decode cX2_tell 91 = .ok (.isub, 1) := by decide +kernel
theorem dX2_tell_92 : decode cX2_tell 92 = .ok (.ireturn, 1) := by decide +kernel
theorem dX2_tell_93 : decode cX2_tell 93 = .ok (.aload_n 0, 1) := by decide +kernel
theorem dX2_tell_94 : decode cX2_tell 94 = .ok (.getfield 29, 3) := by decide +kernel
theorem dX2_tell_97 : decode cX2_tell 97 = .ok (.iconst (-1), 1) := by decide +kernel
theorem dX2_tell_98 : decode cX2_tell 98 = .ok (.if_icmp .ne 10, 3) := by decide +kernel
theorem dX2_tell_101 : decode cX2_tell 101 = .ok (.aload_n 0, 1) := by decide +kernel
theorem dX2_tell_102 : decode cX2_tell 102 = .ok (.getfield 26, 3) := by decide +kernel
theorem dX2_tell_105 : decode cX2_tell 105 = .ok (.goto 11, 3) := by decide +kernel
theorem dX2_tell_108 : decode cX2_tell 108 = .ok (.sipush (-1000), 3) := by decide +kernel
theorem dX2_tell_111 : decode cX2_tell 111 = .ok (.aload_n 0, 1) := by decide +kernel
theorem dX2_tell_112 : decode cX2_tell 112 = .ok (.getfield 29, 3) := by decide +kernel
theorem dX2_tell_115 : decode cX2_tell 115 = .ok (.isub, 1) := by decide +kernel
theorem dX2_tell_116 : decode cX2_tell 116 = .ok (.ireturn, 1) := by decide +kernel
set_option maxRecDepth 20000 in
theorem ggX2_endOfToken_X2_isLetter : GoodIn wsX2_endOfToken wsX2_isLetter := goodIn_r _ [6] (by decide +kernel) (by decide +kernel)
set_option maxRecDepth 20000 in
theorem gX2_endOfToken_X2_isLetter : GoodIn wsX2_endOfToken (va_wsS RX2 40 yX2_isLetter wsX2_isLetter) := goodIn_app (goodIn_of _ (by decide +kernel)) ggX2_endOfToken_X2_isLetter
set_option maxRecDepth 20000 in
theorem ggX2_endOfToken_X2_isFigure : GoodIn wsX2_endOfToken wsX2_isFigure := goodIn_r _ [9] (by decide +kernel) (by decide +kernel)
set_option maxRecDepth 20000 in
theorem gX2_endOfToken_X2_isFigure : GoodIn wsX2_endOfToken (va_wsS RX2 44 yX2_isFigure wsX2_isFigure) := goodIn_app (goodIn_of _ (by decide +kernel)) ggX2_endOfToken_X2_isFigure
theorem dX2_endOfToken_0 : decode cX2_endOfToken 0 = .ok (.iload_n 1, 1) := by decide +kernel
theorem dX2_endOfToken_1 : decode cX2_endOfToken 1 = .ok (.iconst 1, 1) := by decide +kernel
theorem dX2_endOfToken_2 : decode cX2_endOfToken 2 = .ok (.iadd, 1) := by decide +kernel
theorem dX2_endOfToken_3 : decode cX2_endOfToken 3 = .ok (.istore_n 2, 1) := by decide +kernel
theorem dX2_endOfToken_4 : decode cX2_endOfToken 4 = .ok (.aload_n 0, 1) := by decide +kernel
theorem dX2_endOfToken_5 : decode cX2_endOfToken 5 = .ok (.getfield 9, 3) := by decide +kernel
theorem dX2_endOfToken_8 : decode cX2_endOfToken 8 = .ok (.iload_n 1, 1) := by decide +kernel
theorem dX2_endOfToken_9 : decode cX2_endOfToken 9 = .ok (.baload, 1) := by decide +kernel
theorem dX2_endOfToken_10 : decode cX2_endOfToken 10 = .ok (.invokestatic 40, 3) := by decide +kernel
theorem dX2_endOfToken_13 : decode cX2_endOfToken 13 = .ok (.ifCond .eq 29, 3) := by decide +kernel
theorem dX2_endOfToken_16 : decode cX2_endOfToken 16 = .ok (.iload_n 2, 1) := by decide +kernel
theorem dX2_endOfToken_17 : decode cX2_endOfToken 17 = .ok (.aload_n 0, 1) := by decide +kernel
theorem dX2_endOfToken_18 : decode cX2_endOfToken 18 = .ok (.getfield 19, 3) := by decide +kernel
theorem dX2_endOfToken_21 : decode cX2_endOfToken 21 = .ok (.if_icmp .ge 59, 3) := by decide +kernel
theorem dX2_endOfToken_24 : decode cX2_endOfToken 24 = .ok (.aload_n 0, 1) := by decide +kernel
theorem dX2_endOfToken_25 : decode cX2_endOfToken 25 = .ok (.getfield 9, 3) := by decide +kernel
theorem dX2_endOfToken_28 : decode cX2_endOfToken 28 = .ok (.iload_n 2, 1) := by decide +kernel
theorem dX2_endOfToken_29 : decode cX2_endOfToken 29 = .ok (.baload, 1) := by decide +kernel
theorem dX2_endOfToken_30 : decode cX2_endOfToken 30 = .ok (.invokestatic 40, 3) := by decide +kernel
theorem dX2_endOfToken_33 : decode cX2_endOfToken 33 = .ok (.ifCond .eq 47, 3) := by decide +kernel
theorem dX2_endOfToken_36 : decode cX2_endOfToken 36 = .ok (.iinc 2 1, 3) := by decide +kernel
theorem dX2_endOfToken_39 : decode cX2_endOfToken 39 = .ok (.goto (-23), 3) := by decide +kernel
theorem dX2_endOfToken_42 : decode cX2_endOfToken 42 = .ok (.aload_n 0, 1) := by decide +kernel
theorem dX2_endOfToken_43 : decode cX2_endOfToken 43 = .ok (.getfield 9, 3) := by decide +kernel
theorem dX2_endOfToken_46 : decode cX2_endOfToken 46 = .ok (.iload_n 1, 1) := by decide +kernel
theorem dX2_endOfToken_47 : decode cX2_endOfToken 47 = .ok (.baload, 1) := by decide +kernel
theorem dX2_endOfToken_48 : decode cX2_endOfToken 48 = .ok (.invokestatic 44, 3) := by decide +kernel
theorem dX2_endOfToken_51 : decode cX2_endOfToken 51 = .ok (.ifCond .eq 29, 3) := by decide +kernel
theorem dX2_endOfToken_54 : decode cX2_endOfToken 54 = .ok (.iload_n 2, 1) := by decide +kernel
theorem dX2_endOfToken_55 : decode cX2_endOfToken 55 = .ok (.aload_n 0, 1) := by decide +kernel
theorem dX2_endOfToken_56 : decode cX2_endOfToken 56 = .ok (.getfield 19, 3) := by decide +kernel
theorem dX2_endOfToken_59 : decode cX2_endOfToken 59 = .ok (.if_icmp .ge 21, 3) := by decide +kernel
theorem dX2_endOfToken_62 : decode cX2_endOfToken 62 = .ok (.aload_n 0, 1) := by decide +kernel
theorem dX2_endOfToken_63 : decode cX2_endOfToken 63 = .ok (.getfield 9, 3) := by decide +kernel
theorem dX2_endOfToken_66 : decode cX2_endOfToken 66 = .ok (.iload_n 2, 1) := by decide +kernel
theorem dX2_endOfToken_67 : decode cX2_endOfToken 67 = .ok (.baload, 1) := by decide +kernel
theorem dX2_endOfToken_68 : decode cX2_endOfToken 68 = .ok (.invokestatic 44, 3) := by decide +kernel
theorem dX2_endOfToken_71 : decode cX2_endOfToken 71 = .ok (.ifCond .eq 9, 3) := by decide +kernel
theorem dX2_endOfToken_74 : decode cX2_endOfToken 74 = .ok (.iinc 2 1, 3) := by decide +kernel
theorem dX2_endOfToken_77 : decode cX2_endOfToken 77 = .ok (.goto (-23), 3) := by decide +kernel
theorem dX2_endOfToken_80 : decode cX2_endOfToken 80 = .ok (.iload_n 2, 1) := by decide +kernel
theorem dX2_endOfToken_81 : decode cX2_endOfToken 81 = .ok (.ireturn, 1) := by decide +kernel
set_option maxRecDepth 20000 in
theorem ggX2_stands_X2_takesWord : GoodIn wsX2_stands wsX2_takesWord := goodIn_r _ [11, 6, 1, 2, 12, 13, 14, 10, 15, 16, 17, 18, 19, 4, 20, 21, 22, 23, 24, 25, 26, 27, 28, 29, 30, 31, 32, 33, 34, 35, 36, 37, 38, 39, 40, 41, 42, 43, 44, 45, 46, 47, 48, 49, 50, 51, 52, 53, 54, 55, 56, 57, 58, 59, 60, 61, 62, 63, 64, 65, 66, 67, 68, 141, 142, 143, 144, 145, 146, 147] (by decide +kernel) (by decide +kernel)
set_option maxRecDepth 20000 in
theorem gX2_stands_X2_takesWord : GoodIn wsX2_stands (wsV RX2 47 RX2 yX2_takesWord wsX2_takesWord) := goodIn_app (goodIn_of _ (by decide +kernel)) ggX2_stands_X2_takesWord
set_option maxRecDepth 20000 in
theorem ggX2_stands_X2_takesNumber : GoodIn wsX2_stands wsX2_takesNumber := goodIn_r _ [72, 4, 73, 2, 74, 75, 10, 76, 141, 142, 143, 144, 145, 146, 147] (by decide +kernel) (by decide +kernel)
set_option maxRecDepth 20000 in
theorem gX2_stands_X2_takesNumber : GoodIn wsX2_stands (wsV RX2 57 RX2 yX2_takesNumber wsX2_takesNumber) := goodIn_app (goodIn_of _ (by decide +kernel)) ggX2_stands_X2_takesNumber
set_option maxRecDepth 20000 in
theorem ggX2_stands_X2_isTaken : GoodIn wsX2_stands wsX2_isTaken := goodIn_r _ [80, 1, 73, 81, 82, 83, 84, 85, 86, 87, 88, 89, 90, 91, 92, 93, 94, 95, 96, 97, 98, 99, 100, 101, 102, 103, 104, 105, 106, 107, 108, 109, 110, 111, 112, 113, 114, 115, 116, 117, 118, 119, 120, 121, 122, 123, 124, 125, 126, 127, 128, 129, 130, 131, 132, 133, 134, 135, 136, 137, 138, 139, 140, 141, 142, 143, 144, 145, 146, 147, 148, 149, 150, 151, 152, 153, 154, 155, 156, 157, 158, 159, 160, 161, 162] (by decide +kernel) (by decide +kernel)
set_option maxRecDepth 20000 in
theorem gX2_stands_X2_isTaken : GoodIn wsX2_stands (wsV RX2 60 RX2 yX2_isTaken wsX2_isTaken) := goodIn_app (goodIn_of _ (by decide +kernel)) ggX2_stands_X2_isTaken
theorem dX2_stands_0 : decode cX2_stands 0 = .ok (.aload_n 0, 1) := by decide +kernel
theorem dX2_stands_1 : decode cX2_stands 1 = .ok (.getfield 23, 3) := by decide +kernel
theorem dX2_stands_4 : decode cX2_stands 4 = .ok (.iconst (-1), 1) := by decide +kernel
theorem dX2_stands_5 : decode cX2_stands 5 = .ok (.if_icmp .ne 10, 3) := by decide +kernel
theorem dX2_stands_8 : decode cX2_stands 8 = .ok (.aload_n 0, 1) := by decide +kernel
theorem dX2_stands_9 : decode cX2_stands 9 = .ok (.iload_n 1, 1) := by decide +kernel
theorem dX2_stands_10 : decode cX2_stands 10 = .ok (.iload_n 2, 1) := by decide +kernel
theorem dX2_stands_11 : decode cX2_stands 11 = .ok (.invokevirtual 47, 3) := by decide +kernel
theorem dX2_stands_14 : decode cX2_stands 14 = .ok (.ireturn, 1) := by decide +kernel
theorem dX2_stands_15 : decode cX2_stands 15 = .ok (.aload_n 0, 1) := by decide +kernel
theorem dX2_stands_16 : decode cX2_stands 16 = .ok (.getfield 51, 3) := by decide +kernel
theorem dX2_stands_19 : decode cX2_stands 19 = .ok (.getstatic 54, 3) := by decide +kernel
theorem dX2_stands_22 : decode cX2_stands 22 = .ok (.aload_n 0, 1) := by decide +kernel
theorem dX2_stands_23 : decode cX2_stands 23 = .ok (.getfield 23, 3) := by decide +kernel
theorem dX2_stands_26 : decode cX2_stands 26 = .ok (.iaload, 1) := by decide +kernel
theorem dX2_stands_27 : decode cX2_stands 27 = .ok (.if_icmp .ge 10, 3) := by decide +kernel
theorem dX2_stands_30 : decode cX2_stands 30 = .ok (.aload_n 0, 1) := by decide +kernel
theorem dX2_stands_31 : decode cX2_stands 31 = .ok (.iload_n 1, 1) := by decide +kernel
theorem dX2_stands_32 : decode cX2_stands 32 = .ok (.iload_n 2, 1) := by decide +kernel
theorem dX2_stands_33 : decode cX2_stands 33 = .ok (.invokevirtual 57, 3) := by decide +kernel
theorem dX2_stands_36 : decode cX2_stands 36 = .ok (.ireturn, 1) := by decide +kernel
theorem dX2_stands_37 : decode cX2_stands 37 = .ok (.aload_n 0, 1) := by decide +kernel
theorem dX2_stands_38 : decode cX2_stands 38 = .ok (.getfield 9, 3) := by decide +kernel
theorem dX2_stands_41 : decode cX2_stands 41 = .ok (.iload_n 1, 1) := by decide +kernel
theorem dX2_stands_42 : decode cX2_stands 42 = .ok (.baload, 1) := by decide +kernel
theorem dX2_stands_43 : decode cX2_stands 43 = .ok (.bipush 59, 2) := by decide +kernel
theorem dX2_stands_45 : decode cX2_stands 45 = .ok (.if_icmp .eq 5, 3) := by decide +kernel
theorem dX2_stands_48 : decode cX2_stands 48 = .ok (.iconst 0, 1) := by decide +kernel
theorem dX2_stands_49 : decode cX2_stands 49 = .ok (.ireturn, 1) := by decide +kernel
theorem dX2_stands_50 : decode cX2_stands 50 = .ok (.aload_n 0, 1) := by decide +kernel
theorem dX2_stands_51 : decode cX2_stands 51 = .ok (.getfield 29, 3) := by decide +kernel
theorem dX2_stands_54 : decode cX2_stands 54 = .ok (.iconst (-1), 1) := by decide +kernel
theorem dX2_stands_55 : decode cX2_stands 55 = .ok (.if_icmp .ne 19, 3) := by decide +kernel
theorem dX2_stands_58 : decode cX2_stands 58 = .ok (.aload_n 0, 1) := by decide +kernel
theorem dX2_stands_59 : decode cX2_stands 59 = .ok (.aload_n 3, 1) := by decide +kernel
theorem dX2_stands_60 : decode cX2_stands 60 = .ok (.invokevirtual 60, 3) := by decide +kernel
theorem dX2_stands_63 : decode cX2_stands 63 = .ok (.ifCond .ne 11, 3) := by decide +kernel
theorem dX2_stands_66 : decode cX2_stands 66 = .ok (.aload_n 0, 1) := by decide +kernel
theorem dX2_stands_67 : decode cX2_stands 67 = .ok (.aload_n 0, 1) := by decide +kernel
theorem dX2_stands_68 : decode cX2_stands 68 = .ok (.getfield 26, 3) := by decide +kernel
theorem dX2_stands_71 : decode cX2_stands 71 = .ok (.putfield 29, 3) := by decide +kernel
theorem dX2_stands_74 : decode cX2_stands 74 = .ok (.aload_n 0, 1) := by decide +kernel
theorem dX2_stands_75 : decode cX2_stands 75 = .ok (.dup, 1) := by decide +kernel
theorem dX2_stands_76 : decode cX2_stands 76 = .ok (.getfield 26, 3) := by decide +kernel
theorem dX2_stands_79 : decode cX2_stands 79 = .ok (.iconst 1, 1) := by decide +kernel
theorem dX2_stands_80 : decode cX2_stands 80 = .ok (.iadd, 1) := by decide +kernel
theorem dX2_stands_81 : decode cX2_stands 81 = .ok (.putfield 26, 3) := by decide +kernel
theorem dX2_stands_84 : decode cX2_stands 84 = .ok (.aload_n 0, 1) := by decide +kernel
theorem dX2_stands_85 : decode cX2_stands 85 = .ok (.iconst (-1), 1) := by decide +kernel
theorem dX2_stands_86 : decode cX2_stands 86 = .ok (.putfield 23, 3) := by decide +kernel
theorem dX2_stands_89 : decode cX2_stands 89 = .ok (.iconst 1, 1) := by decide +kernel
theorem dX2_stands_90 : decode cX2_stands 90 = .ok (.ireturn, 1) := by decide +kernel
set_option maxRecDepth 20000 in
theorem ggX2_takesWord_X2_wordAt : GoodIn wsX2_takesWord wsX2_wordAt := goodIn_r _ [8, 9, 10, 11, 7, 12, 13, 14, 15, 16, 17, 18, 19, 20, 21, 22, 23, 24, 25, 26, 27, 28, 29, 30, 31, 32, 33, 34, 35, 36, 37, 38, 39, 40, 41, 42, 43, 44, 45, 46, 47, 48, 49, 50, 51, 52, 53, 54, 55, 56, 57, 58, 59, 60, 61, 62, 63, 64, 65, 66, 67, 68, 69] (by decide +kernel) (by decide +kernel)
set_option maxRecDepth 20000 in
theorem gX2_takesWord_X2_wordAt : GoodIn wsX2_takesWord (wsV RX2 64 RX2 yX2_wordAt wsX2_wordAt) := goodIn_app (goodIn_of _ (by decide +kernel)) ggX2_takesWord_X2_wordAt
theorem dX2_takesWord_0 : decode cX2_takesWord 0 = .ok (.aload_n 0, 1) := by decide +kernel
theorem dX2_takesWord_1 : decode cX2_takesWord 1 = .ok (.iload_n 1, 1) := by decide +kernel
theorem dX2_takesWord_2 : decode cX2_takesWord 2 = .ok (.iload_n 2, 1) := by decide +kernel
theorem dX2_takesWord_3 : decode cX2_takesWord 3 = .ok (.invokevirtual 64, 3) := by decide +kernel
theorem dX2_takesWord_6 : decode cX2_takesWord 6 = .ok (.istore_n 3, 1) := by decide +kernel
theorem dX2_takesWord_7 : decode cX2_takesWord 7 = .ok (.iload_n 3, 1) := by decide +kernel
theorem dX2_takesWord_8 : decode cX2_takesWord 8 = .ok (.iconst (-1), 1) := by decide +kernel
theorem dX2_takesWord_9 : decode cX2_takesWord 9 = .ok (.if_icmp .eq 27, 3) := by decide +kernel
theorem dX2_takesWord_12 : decode cX2_takesWord 12 = .ok (.iload_n 3, 1) := by decide +kernel
theorem dX2_takesWord_13 : decode cX2_takesWord 13 = .ok (.ifCond .ne 7, 3) := by decide +kernel
theorem dX2_takesWord_16 : decode cX2_takesWord 16 = .ok (.iconst 1, 1) := by decide +kernel
theorem dX2_takesWord_17 : decode cX2_takesWord 17 = .ok (.goto 4, 3) := by decide +kernel
theorem dX2_takesWord_20 : decode cX2_takesWord 20 = .ok (.iconst 0, 1) := by decide +kernel
theorem dX2_takesWord_21 : decode cX2_takesWord 21 = .ok (.aload_n 0, 1) := by decide +kernel
theorem dX2_takesWord_22 : decode cX2_takesWord 22 = .ok (.getfield 26, 3) := by decide +kernel
theorem dX2_takesWord_25 : decode cX2_takesWord 25 = .ok (.ifCond .ne 7, 3) := by decide +kernel
theorem dX2_takesWord_28 : decode cX2_takesWord 28 = .ok (.iconst 1, 1) := by decide +kernel
theorem dX2_takesWord_29 : decode cX2_takesWord 29 = .ok (.goto 4, 3) := by decide +kernel
theorem dX2_takesWord_32 : decode cX2_takesWord 32 = .ok (.iconst 0, 1) := by decide +kernel
theorem dX2_takesWord_33 : decode cX2_takesWord 33 = .ok (.if_icmp .eq 5, 3) := by decide +kernel
theorem dX2_takesWord_36 : decode cX2_takesWord 36 = .ok (.iconst 0, 1) := by decide +kernel
theorem dX2_takesWord_37 : decode cX2_takesWord 37 = .ok (.ireturn, 1) := by decide +kernel
theorem dX2_takesWord_38 : decode cX2_takesWord 38 = .ok (.aload_n 0, 1) := by decide +kernel
theorem dX2_takesWord_39 : decode cX2_takesWord 39 = .ok (.iload_n 3, 1) := by decide +kernel
theorem dX2_takesWord_40 : decode cX2_takesWord 40 = .ok (.putfield 23, 3) := by decide +kernel
theorem dX2_takesWord_43 : decode cX2_takesWord 43 = .ok (.aload_n 0, 1) := by decide +kernel
theorem dX2_takesWord_44 : decode cX2_takesWord 44 = .ok (.iconst 0, 1) := by decide +kernel
theorem dX2_takesWord_45 : decode cX2_takesWord 45 = .ok (.putfield 51, 3) := by decide +kernel
theorem dX2_takesWord_48 : decode cX2_takesWord 48 = .ok (.iconst 1, 1) := by decide +kernel
theorem dX2_takesWord_49 : decode cX2_takesWord 49 = .ok (.ireturn, 1) := by decide +kernel
set_option maxRecDepth 20000 in
theorem ggX2_takesNumber_X2_isFigure : GoodIn wsX2_takesNumber wsX2_isFigure := goodIn_r _ [7] (by decide +kernel) (by decide +kernel)
set_option maxRecDepth 20000 in
theorem gX2_takesNumber_X2_isFigure : GoodIn wsX2_takesNumber (va_wsS RX2 44 yX2_isFigure wsX2_isFigure) := goodIn_app (goodIn_of _ (by decide +kernel)) ggX2_takesNumber_X2_isFigure
theorem dX2_takesNumber_0 : decode cX2_takesNumber 0 = .ok (.aload_n 0, 1) := by decide +kernel
theorem dX2_takesNumber_1 : decode cX2_takesNumber 1 = .ok (.getfield 9, 3) := by decide +kernel
theorem dX2_takesNumber_4 : decode cX2_takesNumber 4 = .ok (.iload_n 1, 1) := by decide +kernel
theorem dX2_takesNumber_5 : decode cX2_takesNumber 5 = .ok (.baload, 1) := by decide +kernel
theorem dX2_takesNumber_6 : decode cX2_takesNumber 6 = .ok (.invokestatic 44, 3) := by decide +kernel
theorem dX2_takesNumber_9 : decode cX2_takesNumber 9 = .ok (.ifCond .eq 10, 3) := by decide +kernel
theorem dX2_takesNumber_12 : decode cX2_takesNumber 12 = .ok (.iload_n 2, 1) := by decide +kernel
theorem dX2_takesNumber_13 : decode cX2_takesNumber 13 = .ok (.iload_n 1, 1) := by decide +kernel
theorem dX2_takesNumber_14 : decode cX2_takesNumber 14 = .ok (.isub, 1) := by decide +kernel
theorem dX2_takesNumber_15 : decode cX2_takesNumber 15 = .ok (.iconst 2, 1) := by decide +kernel
theorem dX2_takesNumber_16 : decode cX2_takesNumber 16 = .ok (.if_icmp .le 5, 3) := by decide +kernel
theorem dX2_takesNumber_19 : decode cX2_takesNumber 19 = .ok (.iconst 0, 1) := by decide +kernel
theorem dX2_takesNumber_20 : decode cX2_takesNumber 20 = .ok (.ireturn, 1) := by decide +kernel
theorem dX2_takesNumber_21 : decode cX2_takesNumber 21 = .ok (.iconst 0, 1) := by decide +kernel
theorem dX2_takesNumber_22 : decode cX2_takesNumber 22 = .ok (.istore_n 3, 1) := by decide +kernel
theorem dX2_takesNumber_23 : decode cX2_takesNumber 23 = .ok (.iload_n 1, 1) := by decide +kernel
theorem dX2_takesNumber_24 : decode cX2_takesNumber 24 = .ok (.istore 4, 2) := by decide +kernel
theorem dX2_takesNumber_26 : decode cX2_takesNumber 26 = .ok (.iload 4, 2) := by decide +kernel
theorem dX2_takesNumber_28 : decode cX2_takesNumber 28 = .ok (.iload_n 2, 1) := by decide +kernel
theorem dX2_takesNumber_29 : decode cX2_takesNumber 29 = .ok (.if_icmp .ge 25, 3) := by decide +kernel
theorem dX2_takesNumber_32 : decode cX2_takesNumber 32 = .ok (.bipush 10, 2) := by decide +kernel
theorem dX2_takesNumber_34 : decode cX2_takesNumber 34 = .ok (.iload_n 3, 1) := by decide +kernel
theorem dX2_takesNumber_35 : decode cX2_takesNumber 35 = .ok (.imul, 1) := by decide +kernel
theorem dX2_takesNumber_36 : decode cX2_takesNumber 36 = .ok (.aload_n 0, 1) := by decide +kernel
theorem dX2_takesNumber_37 : decode cX2_takesNumber 37 = .ok (.getfield 9, 3) := by decide +kernel
theorem dX2_takesNumber_40 : decode cX2_takesNumber 40 = .ok (.iload 4, 2) := by decide +kernel
theorem dX2_takesNumber_42 : decode cX2_takesNumber 42 = .ok (.baload, 1) := by decide +kernel
theorem dX2_takesNumber_43 : decode cX2_takesNumber 43 = .ok (.iadd, 1) := by decide +kernel
theorem dX2_takesNumber_44 : decode cX2_takesNumber 44 = .ok (.bipush 48, 2) := by decide +kernel
theorem dX2_takesNumber_46 : decode cX2_takesNumber 46 = .ok (.isub, 1) := by decide +kernel
theorem dX2_takesNumber_47 : decode cX2_takesNumber 47 = .ok (.istore_n 3, 1) := by decide +kernel
theorem dX2_takesNumber_48 : decode cX2_takesNumber 48 = .ok (.iinc 4 1, 3) := by decide +kernel
theorem dX2_takesNumber_51 : decode cX2_takesNumber 51 = .ok (.goto (-25), 3) := by decide +kernel
theorem dX2_takesNumber_54 : decode cX2_takesNumber 54 = .ok (.aload_n 0, 1) := by decide +kernel
theorem dX2_takesNumber_55 : decode cX2_takesNumber 55 = .ok (.getfield 15, 3) := by decide +kernel
theorem dX2_takesNumber_58 : decode cX2_takesNumber 58 = .ok (.aload_n 0, 1) := by decide +kernel
theorem dX2_takesNumber_59 : decode cX2_takesNumber 59 = .ok (.getfield 51, 3) := by decide +kernel
theorem dX2_takesNumber_62 : decode cX2_takesNumber 62 = .ok (.iload_n 3, 1) := by decide +kernel
theorem dX2_takesNumber_63 : decode cX2_takesNumber 63 = .ok (.iastore, 1) := by decide +kernel
theorem dX2_takesNumber_64 : decode cX2_takesNumber 64 = .ok (.aload_n 0, 1) := by decide +kernel
theorem dX2_takesNumber_65 : decode cX2_takesNumber 65 = .ok (.dup, 1) := by decide +kernel
theorem dX2_takesNumber_66 : decode cX2_takesNumber 66 = .ok (.getfield 51, 3) := by decide +kernel
theorem dX2_takesNumber_69 : decode cX2_takesNumber 69 = .ok (.iconst 1, 1) := by decide +kernel
theorem dX2_takesNumber_70 : decode cX2_takesNumber 70 = .ok (.iadd, 1) := by decide +kernel
theorem dX2_takesNumber_71 : decode cX2_takesNumber 71 = .ok (.putfield 51, 3) := by decide +kernel
theorem dX2_takesNumber_74 : decode cX2_takesNumber 74 = .ok (.iconst 1, 1) := by decide +kernel
theorem dX2_takesNumber_75 : decode cX2_takesNumber 75 = .ok (.ireturn, 1) := by decide +kernel
set_option maxRecDepth 20000 in
theorem ggX2_isTaken_X3_settle : GoodIn wsX2_isTaken wsX3_settle := goodIn_r _ [7, 8, 9, 10, 11, 12, 13, 14, 15, 16, 17, 18, 19, 20, 70, 71, 72, 73, 74, 75, 76, 77, 78, 79, 80, 81, 82, 83, 84] (by decide +kernel) (by decide +kernel)
set_option maxRecDepth 20000 in
theorem gX2_isTaken_X3_settle : GoodIn wsX2_isTaken (wsV RX2 68 RX3 yX3_settle wsX3_settle) := goodIn_app (goodIn_of _ (by decide +kernel)) ggX2_isTaken_X3_settle
set_option maxRecDepth 20000 in
theorem ggX2_isTaken_X3_setHears : GoodIn wsX2_isTaken wsX3_setHears := goodIn_r _ [24, 13, 25, 26, 27, 6, 28, 29, 30, 31, 32, 8, 33, 34, 35, 36, 37, 70, 71, 72, 73, 74, 75, 76, 77, 78, 79, 80, 81, 82, 83, 84] (by decide +kernel) (by decide +kernel)
set_option maxRecDepth 20000 in
theorem gX2_isTaken_X3_setHears : GoodIn wsX2_isTaken (wsV RX2 74 RX3 yX3_setHears wsX3_setHears) := goodIn_app (goodIn_of _ (by decide +kernel)) ggX2_isTaken_X3_setHears
set_option maxRecDepth 20000 in
theorem ggX2_isTaken_X3_addWood : GoodIn wsX2_isTaken wsX3_addWood := goodIn_r _ [41, 9, 42, 43, 14, 25, 26, 27, 6, 28, 29, 30, 31, 32, 8, 70, 71, 72, 73, 74, 75, 76, 77, 78, 79, 80, 81, 82, 83, 84] (by decide +kernel) (by decide +kernel)
set_option maxRecDepth 20000 in
theorem gX2_isTaken_X3_addWood : GoodIn wsX2_isTaken (wsV RX2 78 RX3 yX3_addWood wsX3_addWood) := goodIn_app (goodIn_of _ (by decide +kernel)) ggX2_isTaken_X3_addWood
set_option maxRecDepth 20000 in
theorem ggX2_isTaken_X3_setTemper : GoodIn wsX2_isTaken wsX3_setTemper := goodIn_r _ [47, 12, 29, 30, 31, 6, 32, 8, 70, 71, 72, 73, 74, 75, 76, 77, 78, 79, 80, 81, 82, 83, 84] (by decide +kernel) (by decide +kernel)
set_option maxRecDepth 20000 in
theorem gX2_isTaken_X3_setTemper : GoodIn wsX2_isTaken (wsV RX2 81 RX3 yX3_setTemper wsX3_setTemper) := goodIn_app (goodIn_of _ (by decide +kernel)) ggX2_isTaken_X3_setTemper
set_option maxRecDepth 20000 in
theorem ggX2_isTaken_X3_setFriend : GoodIn wsX2_isTaken wsX3_setFriend := goodIn_r _ [51, 15, 29, 30, 31, 6, 32, 8, 70, 71, 72, 73, 74, 75, 76, 77, 78, 79, 80, 81, 82, 83, 84] (by decide +kernel) (by decide +kernel)
set_option maxRecDepth 20000 in
theorem gX2_isTaken_X3_setFriend : GoodIn wsX2_isTaken (wsV RX2 84 RX3 yX3_setFriend wsX3_setFriend) := goodIn_app (goodIn_of _ (by decide +kernel)) ggX2_isTaken_X3_setFriend
set_option maxRecDepth 20000 in
theorem ggX2_isTaken_X3_addNeed : GoodIn wsX2_isTaken wsX3_addNeed := goodIn_r _ [55, 10, 56, 57, 58, 29, 30, 31, 6, 32, 8, 33, 34, 35, 59, 60, 61, 62, 36, 37, 70, 71, 72, 73, 74, 75, 76, 77, 78, 79, 80, 81, 82, 83, 84] (by decide +kernel) (by decide +kernel)
set_option maxRecDepth 20000 in
theorem gX2_isTaken_X3_addNeed : GoodIn wsX2_isTaken (wsV RX2 87 RX3 yX3_addNeed wsX3_addNeed) := goodIn_app (goodIn_of _ (by decide +kernel)) ggX2_isTaken_X3_addNeed
theorem dX2_isTaken_0 : decode cX2_isTaken 0 = .ok (.aload_n 0, 1) := by decide +kernel
theorem dX2_isTaken_1 : decode cX2_isTaken 1 = .ok (.getfield 23, 3) := by decide +kernel
theorem dX2_isTaken_4 : decode cX2_isTaken 4 = .ok (.tableswitch 154 0 4 #[36, 47, 79, 104, 129], 36) := by decide +kernel
theorem dX2_isTaken_40 : decode cX2_isTaken 40 = .ok (.aload_n 1, 1) := by decide +kernel
theorem dX2_isTaken_41 : decode cX2_isTaken 41 = .ok (.aload_n 0, 1) := by decide +kernel
theorem dX2_isTaken_42 : decode cX2_isTaken 42 = .ok (.getfield 15, 3) := by decide +kernel
theorem dX2_isTaken_45 : decode cX2_isTaken 45 = .ok (.iconst 0, 1) := by decide +kernel
theorem dX2_isTaken_46 : decode cX2_isTaken 46 = .ok (.iaload, 1) := by decide +kernel
theorem dX2_isTaken_47 : decode cX2_isTaken 47 = .ok (.invokevirtual 68, 3) := by decide +kernel
theorem dX2_isTaken_50 : decode cX2_isTaken 50 = .ok (.ireturn, 1) := by decide +kernel
theorem dX2_isTaken_51 : decode cX2_isTaken 51 = .ok (.aload_n 1, 1) := by decide +kernel
theorem dX2_isTaken_52 : decode cX2_isTaken 52 = .ok (.aload_n 0, 1) := by decide +kernel
theorem dX2_isTaken_53 : decode cX2_isTaken 53 = .ok (.getfield 15, 3) := by decide +kernel
theorem dX2_isTaken_56 : decode cX2_isTaken 56 = .ok (.iconst 0, 1) := by decide +kernel
theorem dX2_isTaken_57 : decode cX2_isTaken 57 = .ok (.iaload, 1) := by decide +kernel
theorem dX2_isTaken_58 : decode cX2_isTaken 58 = .ok (.aload_n 0, 1) := by decide +kernel
theorem dX2_isTaken_59 : decode cX2_isTaken 59 = .ok (.getfield 15, 3) := by decide +kernel
theorem dX2_isTaken_62 : decode cX2_isTaken 62 = .ok (.iconst 1, 1) := by decide +kernel
theorem dX2_isTaken_63 : decode cX2_isTaken 63 = .ok (.iaload, 1) := by decide +kernel
theorem dX2_isTaken_64 : decode cX2_isTaken 64 = .ok (.aload_n 0, 1) := by decide +kernel
theorem dX2_isTaken_65 : decode cX2_isTaken 65 = .ok (.getfield 15, 3) := by decide +kernel
theorem dX2_isTaken_68 : decode cX2_isTaken 68 = .ok (.iconst 2, 1) := by decide +kernel
theorem dX2_isTaken_69 : decode cX2_isTaken 69 = .ok (.iaload, 1) := by decide +kernel
theorem dX2_isTaken_70 : decode cX2_isTaken 70 = .ok (.iconst 1, 1) := by decide +kernel
theorem dX2_isTaken_71 : decode cX2_isTaken 71 = .ok (.invokevirtual 74, 3) := by decide +kernel
theorem dX2_isTaken_74 : decode cX2_isTaken 74 = .ok (.ifCond .lt 7, 3) := by decide +kernel
theorem dX2_isTaken_77 : decode cX2_isTaken 77 = .ok (.iconst 1, 1) := by decide +kernel
theorem dX2_isTaken_78 : decode cX2_isTaken 78 = .ok (.goto 4, 3) := by decide +kernel
theorem dX2_isTaken_81 : decode cX2_isTaken 81 = .ok (.iconst 0, 1) := by decide +kernel
theorem dX2_isTaken_82 : decode cX2_isTaken 82 = .ok (.ireturn, 1) := by decide +kernel
theorem dX2_isTaken_83 : decode cX2_isTaken 83 = .ok (.aload_n 1, 1) := by decide +kernel
theorem dX2_isTaken_84 : decode cX2_isTaken 84 = .ok (.aload_n 0, 1) := by decide +kernel
theorem dX2_isTaken_85 : decode cX2_isTaken 85 = .ok (.getfield 15, 3) := by decide +kernel
theorem dX2_isTaken_88 : decode cX2_isTaken 88 = .ok (.iconst 0, 1) := by decide +kernel
theorem dX2_isTaken_89 : decode cX2_isTaken 89 = .ok (.iaload, 1) := by decide +kernel
theorem dX2_isTaken_90 : decode cX2_isTaken 90 = .ok (.aload_n 0, 1) := by decide +kernel
theorem dX2_isTaken_91 : decode cX2_isTaken 91 = .ok (.getfield 15, 3) := by decide +kernel
theorem dX2_isTaken_94 : decode cX2_isTaken 94 = .ok (.iconst 1, 1) := by decide +kernel
theorem dX2_isTaken_95 : decode cX2_isTaken 95 = .ok (.iaload, 1) := by decide +kernel
theorem dX2_isTaken_96 : decode cX2_isTaken 96 = .ok (.invokevirtual 78, 3) := by decide +kernel
theorem dX2_isTaken_99 : decode cX2_isTaken 99 = .ok (.ifCond .lt 7, 3) := by decide +kernel
theorem dX2_isTaken_102 : decode cX2_isTaken 102 = .ok (.iconst 1, 1) := by decide +kernel
theorem dX2_isTaken_103 : decode cX2_isTaken 103 = .ok (.goto 4, 3) := by decide +kernel
theorem dX2_isTaken_106 : decode cX2_isTaken 106 = .ok (.iconst 0, 1) := by decide +kernel
theorem dX2_isTaken_107 : decode cX2_isTaken 107 = .ok (.ireturn, 1) := by decide +kernel
theorem dX2_isTaken_108 : decode cX2_isTaken 108 = .ok (.aload_n 1, 1) := by decide +kernel
theorem dX2_isTaken_109 : decode cX2_isTaken 109 = .ok (.aload_n 0, 1) := by decide +kernel
theorem dX2_isTaken_110 : decode cX2_isTaken 110 = .ok (.getfield 15, 3) := by decide +kernel
theorem dX2_isTaken_113 : decode cX2_isTaken 113 = .ok (.iconst 0, 1) := by decide +kernel
theorem dX2_isTaken_114 : decode cX2_isTaken 114 = .ok (.iaload, 1) := by decide +kernel
theorem dX2_isTaken_115 : decode cX2_isTaken 115 = .ok (.aload_n 0, 1) := by decide +kernel
theorem dX2_isTaken_116 : decode cX2_isTaken 116 = .ok (.getfield 15, 3) := by decide +kernel
theorem dX2_isTaken_119 : decode cX2_isTaken 119 = .ok (.iconst 1, 1) := by decide +kernel
theorem dX2_isTaken_120 : decode cX2_isTaken 120 = .ok (.iaload, 1) := by decide +kernel
theorem dX2_isTaken_121 : decode cX2_isTaken 121 = .ok (.invokevirtual 81, 3) := by decide +kernel
theorem dX2_isTaken_124 : decode cX2_isTaken 124 = .ok (.ifCond .lt 7, 3) := by decide +kernel
theorem dX2_isTaken_127 : decode cX2_isTaken 127 = .ok (.iconst 1, 1) := by decide +kernel
theorem dX2_isTaken_128 : decode cX2_isTaken 128 = .ok (.goto 4, 3) := by decide +kernel
theorem dX2_isTaken_131 : decode cX2_isTaken 131 = .ok (.iconst 0, 1) := by decide +kernel
theorem dX2_isTaken_132 : decode cX2_isTaken 132 = .ok (.ireturn, 1) := by decide +kernel
theorem dX2_isTaken_133 : decode cX2_isTaken 133 = .ok (.aload_n 1, 1) := by decide +kernel
theorem dX2_isTaken_134 : decode cX2_isTaken 134 = .ok (.aload_n 0, 1) := by decide +kernel
theorem dX2_isTaken_135 : decode cX2_isTaken 135 = .ok (.getfield 15, 3) := by decide +kernel
theorem dX2_isTaken_138 : decode cX2_isTaken 138 = .ok (.iconst 0, 1) := by decide +kernel
theorem dX2_isTaken_139 : decode cX2_isTaken 139 = .ok (.iaload, 1) := by decide +kernel
theorem dX2_isTaken_140 : decode cX2_isTaken 140 = .ok (.aload_n 0, 1) := by decide +kernel
theorem dX2_isTaken_141 : decode cX2_isTaken 141 = .ok (.getfield 15, 3) := by decide +kernel
theorem dX2_isTaken_144 : decode cX2_isTaken 144 = .ok (.iconst 1, 1) := by decide +kernel
theorem dX2_isTaken_145 : decode cX2_isTaken 145 = .ok (.iaload, 1) := by decide +kernel
theorem dX2_isTaken_146 : decode cX2_isTaken 146 = .ok (.invokevirtual 84, 3) := by decide +kernel
theorem dX2_isTaken_149 : decode cX2_isTaken 149 = .ok (.ifCond .lt 7, 3) := by decide +kernel
theorem dX2_isTaken_152 : decode cX2_isTaken 152 = .ok (.iconst 1, 1) := by decide +kernel
theorem dX2_isTaken_153 : decode cX2_isTaken 153 = .ok (.goto 4, 3) := by decide +kernel
theorem dX2_isTaken_156 : decode cX2_isTaken 156 = .ok (.iconst 0, 1) := by decide +kernel
theorem dX2_isTaken_157 : decode cX2_isTaken 157 = .ok (.ireturn, 1) := by decide +kernel
theorem dX2_isTaken_158 : decode cX2_isTaken 158 = .ok (.aload_n 1, 1) := by decide +kernel
theorem dX2_isTaken_159 : decode cX2_isTaken 159 = .ok (.aload_n 0, 1) := by decide +kernel
theorem dX2_isTaken_160 : decode cX2_isTaken 160 = .ok (.getfield 15, 3) := by decide +kernel
theorem dX2_isTaken_163 : decode cX2_isTaken 163 = .ok (.iconst 0, 1) := by decide +kernel
theorem dX2_isTaken_164 : decode cX2_isTaken 164 = .ok (.iaload, 1) := by decide +kernel
theorem dX2_isTaken_165 : decode cX2_isTaken 165 = .ok (.aload_n 0, 1) := by decide +kernel
theorem dX2_isTaken_166 : decode cX2_isTaken 166 = .ok (.getfield 15, 3) := by decide +kernel
theorem dX2_isTaken_169 : decode cX2_isTaken 169 = .ok (.iconst 1, 1) := by decide +kernel
theorem dX2_isTaken_170 : decode cX2_isTaken 170 = .ok (.iaload, 1) := by decide +kernel
theorem dX2_isTaken_171 : decode cX2_isTaken 171 = .ok (.aload_n 0, 1) := by decide +kernel
theorem dX2_isTaken_172 : decode cX2_isTaken 172 = .ok (.getfield 15, 3) := by decide +kernel
theorem dX2_isTaken_175 : decode cX2_isTaken 175 = .ok (.iconst 2, 1) := by decide +kernel
theorem dX2_isTaken_176 : decode cX2_isTaken 176 = .ok (.iaload, 1) := by decide +kernel
theorem dX2_isTaken_177 : decode cX2_isTaken 177 = .ok (.invokevirtual 87, 3) := by decide +kernel
theorem dX2_isTaken_180 : decode cX2_isTaken 180 = .ok (.ifCond .lt 7, 3) := by decide +kernel
theorem dX2_isTaken_183 : decode cX2_isTaken 183 = .ok (.iconst 1, 1) := by decide +kernel
theorem dX2_isTaken_184 : decode cX2_isTaken 184 = .ok (.goto 4, 3) := by decide +kernel
theorem dX2_isTaken_187 : decode cX2_isTaken 187 = .ok (.iconst 0, 1) := by decide +kernel
theorem dX2_isTaken_188 : decode cX2_isTaken 188 = .ok (.ireturn, 1) := by decide +kernel
set_option maxRecDepth 20000 in
theorem ggX2_wordAt_X2_isWord : GoodIn wsX2_wordAt wsX2_isWord := goodIn_r _ [5, 6, 7, 8, 9, 10, 11, 12, 13, 14, 15, 16, 17, 18, 19, 20, 21, 22, 23, 24, 25, 26, 27, 28, 29, 30, 31, 32, 33, 34, 35, 36, 37, 38, 39, 40, 41, 42, 43, 44, 45, 46, 47, 48, 49, 50, 51, 52, 53, 54, 55, 56, 57, 58, 59, 60, 61, 62] (by decide +kernel) (by decide +kernel)
set_option maxRecDepth 20000 in
theorem gX2_wordAt_X2_isWord : GoodIn wsX2_wordAt (wsV RX2 93 RX2 yX2_isWord wsX2_isWord) := goodIn_app (goodIn_of _ (by decide +kernel)) ggX2_wordAt_X2_isWord
theorem dX2_wordAt_0 : decode cX2_wordAt 0 = .ok (.aload_n 0, 1) := by decide +kernel
theorem dX2_wordAt_1 : decode cX2_wordAt 1 = .ok (.ldc 91, 2) := by decide +kernel
theorem dX2_wordAt_3 : decode cX2_wordAt 3 = .ok (.iload_n 1, 1) := by decide +kernel
theorem dX2_wordAt_4 : decode cX2_wordAt 4 = .ok (.iload_n 2, 1) := by decide +kernel
theorem dX2_wordAt_5 : decode cX2_wordAt 5 = .ok (.invokevirtual 93, 3) := by decide +kernel
theorem dX2_wordAt_8 : decode cX2_wordAt 8 = .ok (.ifCond .eq 5, 3) := by decide +kernel
theorem dX2_wordAt_11 : decode cX2_wordAt 11 = .ok (.iconst 0, 1) := by decide +kernel
theorem dX2_wordAt_12 : decode cX2_wordAt 12 = .ok (.ireturn, 1) := by decide +kernel
theorem dX2_wordAt_13 : decode cX2_wordAt 13 = .ok (.aload_n 0, 1) := by decide +kernel
theorem dX2_wordAt_14 : decode cX2_wordAt 14 = .ok (.ldc 97, 2) := by decide +kernel
theorem dX2_wordAt_16 : decode cX2_wordAt 16 = .ok (.iload_n 1, 1) := by decide +kernel
theorem dX2_wordAt_17 : decode cX2_wordAt 17 = .ok (.iload_n 2, 1) := by decide +kernel
theorem dX2_wordAt_18 : decode cX2_wordAt 18 = .ok (.invokevirtual 93, 3) := by decide +kernel
theorem dX2_wordAt_21 : decode cX2_wordAt 21 = .ok (.ifCond .eq 5, 3) := by decide +kernel
theorem dX2_wordAt_24 : decode cX2_wordAt 24 = .ok (.iconst 1, 1) := by decide +kernel
theorem dX2_wordAt_25 : decode cX2_wordAt 25 = .ok (.ireturn, 1) := by decide +kernel
theorem dX2_wordAt_26 : decode cX2_wordAt 26 = .ok (.aload_n 0, 1) := by decide +kernel
theorem dX2_wordAt_27 : decode cX2_wordAt 27 = .ok (.ldc 99, 2) := by decide +kernel
theorem dX2_wordAt_29 : decode cX2_wordAt 29 = .ok (.iload_n 1, 1) := by decide +kernel
theorem dX2_wordAt_30 : decode cX2_wordAt 30 = .ok (.iload_n 2, 1) := by decide +kernel
theorem dX2_wordAt_31 : decode cX2_wordAt 31 = .ok (.invokevirtual 93, 3) := by decide +kernel
theorem dX2_wordAt_34 : decode cX2_wordAt 34 = .ok (.ifCond .eq 5, 3) := by decide +kernel
theorem dX2_wordAt_37 : decode cX2_wordAt 37 = .ok (.iconst 2, 1) := by decide +kernel
theorem dX2_wordAt_38 : decode cX2_wordAt 38 = .ok (.ireturn, 1) := by decide +kernel
theorem dX2_wordAt_39 : decode cX2_wordAt 39 = .ok (.aload_n 0, 1) := by decide +kernel
theorem dX2_wordAt_40 : decode cX2_wordAt 40 = .ok (.ldc 101, 2) := by decide +kernel
theorem dX2_wordAt_42 : decode cX2_wordAt 42 = .ok (.iload_n 1, 1) := by decide +kernel
theorem dX2_wordAt_43 : decode cX2_wordAt 43 = .ok (.iload_n 2, 1) := by decide +kernel
theorem dX2_wordAt_44 : decode cX2_wordAt 44 = .ok (.invokevirtual 93, 3) := by decide +kernel
theorem dX2_wordAt_47 : decode cX2_wordAt 47 = .ok (.ifCond .eq 5, 3) := by decide +kernel
theorem dX2_wordAt_50 : decode cX2_wordAt 50 = .ok (.iconst 3, 1) := by decide +kernel
theorem dX2_wordAt_51 : decode cX2_wordAt 51 = .ok (.ireturn, 1) := by decide +kernel
theorem dX2_wordAt_52 : decode cX2_wordAt 52 = .ok (.aload_n 0, 1) := by decide +kernel
theorem dX2_wordAt_53 : decode cX2_wordAt 53 = .ok (.ldc 103, 2) := by decide +kernel
theorem dX2_wordAt_55 : decode cX2_wordAt 55 = .ok (.iload_n 1, 1) := by decide +kernel
theorem dX2_wordAt_56 : decode cX2_wordAt 56 = .ok (.iload_n 2, 1) := by decide +kernel
theorem dX2_wordAt_57 : decode cX2_wordAt 57 = .ok (.invokevirtual 93, 3) := by decide +kernel
theorem dX2_wordAt_60 : decode cX2_wordAt 60 = .ok (.ifCond .eq 5, 3) := by decide +kernel
theorem dX2_wordAt_63 : decode cX2_wordAt 63 = .ok (.iconst 4, 1) := by decide +kernel
theorem dX2_wordAt_64 : decode cX2_wordAt 64 = .ok (.ireturn, 1) := by decide +kernel
theorem dX2_wordAt_65 : decode cX2_wordAt 65 = .ok (.aload_n 0, 1) := by decide +kernel
theorem dX2_wordAt_66 : decode cX2_wordAt 66 = .ok (.ldc 105, 2) := by decide +kernel
theorem dX2_wordAt_68 : decode cX2_wordAt 68 = .ok (.iload_n 1, 1) := by decide +kernel
theorem dX2_wordAt_69 : decode cX2_wordAt 69 = .ok (.iload_n 2, 1) := by decide +kernel
theorem dX2_wordAt_70 : decode cX2_wordAt 70 = .ok (.invokevirtual 93, 3) := by decide +kernel
theorem dX2_wordAt_73 : decode cX2_wordAt 73 = .ok (.ifCond .eq 7, 3) := by decide +kernel
theorem dX2_wordAt_76 : decode cX2_wordAt 76 = .ok (.iconst 5, 1) := by decide +kernel
theorem dX2_wordAt_77 : decode cX2_wordAt 77 = .ok (.goto 4, 3) := by decide +kernel
theorem dX2_wordAt_80 : decode cX2_wordAt 80 = .ok (.iconst (-1), 1) := by decide +kernel
theorem dX2_wordAt_81 : decode cX2_wordAt 81 = .ok (.ireturn, 1) := by decide +kernel
set_option maxRecDepth 20000 in
theorem ggX2_isWord_J0_length_8abf5 : GoodIn wsX2_isWord wsJ0_length_8abf5 := goodIn_r _ [6, 7, 8, 9, 10, 5, 11, 12, 13] (by decide +kernel) (by decide +kernel)
set_option maxRecDepth 20000 in
theorem gX2_isWord_J0_length_8abf5 : GoodIn wsX2_isWord (wsV RX2 107 RJ0 yJ0_length_8abf5 wsJ0_length_8abf5) := goodIn_app (goodIn_of _ (by decide +kernel)) ggX2_isWord_J0_length_8abf5
set_option maxRecDepth 20000 in
theorem ggX2_isWord_J0_charAt_5068e : GoodIn wsX2_isWord wsJ0_charAt_5068e := goodIn_r _ [17, 7, 18, 19, 20, 5, 21, 12, 13, 22, 23, 24, 25, 26, 27, 28, 29, 30, 31, 32, 33, 34, 35, 36, 37, 38, 39, 40, 41, 42, 43, 44, 45, 46, 47, 48, 49, 50] (by decide +kernel) (by decide +kernel)
set_option maxRecDepth 20000 in
theorem gX2_isWord_J0_charAt_5068e : GoodIn wsX2_isWord (wsV RX2 112 RJ0 yJ0_charAt_5068e wsJ0_charAt_5068e) := goodIn_app (goodIn_of _ (by decide +kernel)) ggX2_isWord_J0_charAt_5068e
theorem dX2_isWord_0 : decode cX2_isWord 0 = .ok (.aload_n 1, 1) := by decide +kernel
theorem dX2_isWord_1 : decode cX2_isWord 1 = .ok (.invokevirtual 107, 3) := by decide +kernel
theorem dX2_isWord_4 : decode cX2_isWord 4 = .ok (.iload_n 3, 1) := by decide +kernel
theorem dX2_isWord_5 : decode cX2_isWord 5 = .ok (.iload_n 2, 1) := by decide +kernel
theorem dX2_isWord_6 : decode cX2_isWord 6 = .ok (.isub, 1) := by decide +kernel
theorem dX2_isWord_7 : decode cX2_isWord 7 = .ok (.if_icmp .eq 5, 3) := by decide +kernel
theorem dX2_isWord_10 : decode cX2_isWord 10 = .ok (.iconst 0, 1) := by decide +kernel
theorem dX2_isWord_11 : decode cX2_isWord 11 = .ok (.ireturn, 1) := by decide +kernel
theorem dX2_isWord_12 : decode cX2_isWord 12 = .ok (.iload_n 2, 1) := by decide +kernel
theorem dX2_isWord_13 : decode cX2_isWord 13 = .ok (.istore 4, 2) := by decide +kernel
theorem dX2_isWord_15 : decode cX2_isWord 15 = .ok (.iload 4, 2) := by decide +kernel
theorem dX2_isWord_17 : decode cX2_isWord 17 = .ok (.iload_n 3, 1) := by decide +kernel
theorem dX2_isWord_18 : decode cX2_isWord 18 = .ok (.if_icmp .ge 29, 3) := by decide +kernel
theorem dX2_isWord_21 : decode cX2_isWord 21 = .ok (.aload_n 1, 1) := by decide +kernel
theorem dX2_isWord_22 : decode cX2_isWord 22 = .ok (.iload 4, 2) := by decide +kernel
theorem dX2_isWord_24 : decode cX2_isWord 24 = .ok (.iload_n 2, 1) := by decide +kernel
theorem dX2_isWord_25 : decode cX2_isWord 25 = .ok (.isub, 1) := by decide +kernel
theorem dX2_isWord_26 : decode cX2_isWord 26 = .ok (.invokevirtual 112, 3) := by decide +kernel
theorem dX2_isWord_29 : decode cX2_isWord 29 = .ok (.aload_n 0, 1) := by decide +kernel
theorem dX2_isWord_30 : decode cX2_isWord 30 = .ok (.getfield 9, 3) := by decide +kernel
theorem dX2_isWord_33 : decode cX2_isWord 33 = .ok (.iload 4, 2) := by decide +kernel
theorem dX2_isWord_35 : decode cX2_isWord 35 = .ok (.baload, 1) := by decide +kernel
theorem dX2_isWord_36 : decode cX2_isWord 36 = .ok (.if_icmp .eq 5, 3) := by decide +kernel
theorem dX2_isWord_39 : decode cX2_isWord 39 = .ok (.iconst 0, 1) := by decide +kernel
theorem dX2_isWord_40 : decode cX2_isWord 40 = .ok (.ireturn, 1) := by decide +kernel
theorem dX2_isWord_41 : decode cX2_isWord 41 = .ok (.iinc 4 1, 3) := by decide +kernel
theorem dX2_isWord_44 : decode cX2_isWord 44 = .ok (.goto (-29), 3) := by decide +kernel
theorem dX2_isWord_47 : decode cX2_isWord 47 = .ok (.iconst 1, 1) := by decide +kernel
theorem dX2_isWord_48 : decode cX2_isWord 48 = .ok (.ireturn, 1) := by decide +kernel
theorem dX2_isLetter_0 : decode cX2_isLetter 0 = .ok (.iload_n 0, 1) := by decide +kernel
theorem dX2_isLetter_1 : decode cX2_isLetter 1 = .ok (.bipush 97, 2) := by decide +kernel
theorem dX2_isLetter_3 : decode cX2_isLetter 3 = .ok (.if_icmp .lt 13, 3) := by decide +kernel
theorem dX2_isLetter_6 : decode cX2_isLetter 6 = .ok (.iload_n 0, 1) := by decide +kernel
theorem dX2_isLetter_7 : decode cX2_isLetter 7 = .ok (.bipush 122, 2) := by decide +kernel
theorem dX2_isLetter_9 : decode cX2_isLetter 9 = .ok (.if_icmp .gt 7, 3) := by decide +kernel
theorem dX2_isLetter_12 : decode cX2_isLetter 12 = .ok (.iconst 1, 1) := by decide +kernel
theorem dX2_isLetter_13 : decode cX2_isLetter 13 = .ok (.goto 4, 3) := by decide +kernel
theorem dX2_isLetter_16 : decode cX2_isLetter 16 = .ok (.iconst 0, 1) := by decide +kernel
theorem dX2_isLetter_17 : decode cX2_isLetter 17 = .ok (.ireturn, 1) := by decide +kernel
theorem dX2_isFigure_0 : decode cX2_isFigure 0 = .ok (.iload_n 0, 1) := by decide +kernel
theorem dX2_isFigure_1 : decode cX2_isFigure 1 = .ok (.bipush 48, 2) := by decide +kernel
theorem dX2_isFigure_3 : decode cX2_isFigure 3 = .ok (.if_icmp .lt 13, 3) := by decide +kernel
theorem dX2_isFigure_6 : decode cX2_isFigure 6 = .ok (.iload_n 0, 1) := by decide +kernel
theorem dX2_isFigure_7 : decode cX2_isFigure 7 = .ok (.bipush 57, 2) := by decide +kernel
theorem dX2_isFigure_9 : decode cX2_isFigure 9 = .ok (.if_icmp .gt 7, 3) := by decide +kernel
theorem dX2_isFigure_12 : decode cX2_isFigure 12 = .ok (.iconst 1, 1) := by decide +kernel
theorem dX2_isFigure_13 : decode cX2_isFigure 13 = .ok (.goto 4, 3) := by decide +kernel
theorem dX2_isFigure_16 : decode cX2_isFigure 16 = .ok (.iconst 0, 1) := by decide +kernel
theorem dX2_isFigure_17 : decode cX2_isFigure 17 = .ok (.ireturn, 1) := by decide +kernel
set_option maxRecDepth 20000 in
theorem ggX3_init_X3_settle : GoodIn wsX3_init wsX3_settle := goodIn_r _ [20, 21, 22, 23, 24, 5, 8, 9, 6, 7, 25, 26, 27, 28, 29, 30, 31, 32, 33, 34, 35, 36, 37, 38, 39, 40, 41, 42, 43] (by decide +kernel) (by decide +kernel)
set_option maxRecDepth 20000 in
theorem gX3_init_X3_settle : GoodIn wsX3_init (wsV RX3 45 RX3 yX3_settle wsX3_settle) := goodIn_app (goodIn_of _ (by decide +kernel)) ggX3_init_X3_settle
theorem dX3_init_0 : decode cX3_init 0 = .ok (.aload_n 0, 1) := by decide +kernel
theorem dX3_init_1 : decode cX3_init 1 = .ok (.invokespecial 3, 3) := by decide +kernel
theorem dX3_init_4 : decode cX3_init 4 = .ok (.aload_n 0, 1) := by decide +kernel
theorem dX3_init_5 : decode cX3_init 5 = .ok (.bipush 6, 2) := by decide +kernel
theorem dX3_init_7 : decode cX3_init 7 = .ok (.newarray .int, 2) := by decide +kernel
theorem dX3_init_9 : decode cX3_init 9 = .ok (.putfield 9, 3) := by decide +kernel
theorem dX3_init_12 : decode cX3_init 12 = .ok (.aload_n 0, 1) := by decide +kernel
theorem dX3_init_13 : decode cX3_init 13 = .ok (.bipush 6, 2) := by decide +kernel
theorem dX3_init_15 : decode cX3_init 15 = .ok (.newarray .int, 2) := by decide +kernel
theorem dX3_init_17 : decode cX3_init 17 = .ok (.putfield 15, 3) := by decide +kernel
theorem dX3_init_20 : decode cX3_init 20 = .ok (.aload_n 0, 1) := by decide +kernel
theorem dX3_init_21 : decode cX3_init 21 = .ok (.bipush 6, 2) := by decide +kernel
theorem dX3_init_23 : decode cX3_init 23 = .ok (.newarray .int, 2) := by decide +kernel
theorem dX3_init_25 : decode cX3_init 25 = .ok (.putfield 18, 3) := by decide +kernel
theorem dX3_init_28 : decode cX3_init 28 = .ok (.aload_n 0, 1) := by decide +kernel
theorem dX3_init_29 : decode cX3_init 29 = .ok (.bipush 24, 2) := by decide +kernel
theorem dX3_init_31 : decode cX3_init 31 = .ok (.newarray .int, 2) := by decide +kernel
theorem dX3_init_33 : decode cX3_init 33 = .ok (.putfield 21, 3) := by decide +kernel
theorem dX3_init_36 : decode cX3_init 36 = .ok (.aload_n 0, 1) := by decide +kernel
theorem dX3_init_37 : decode cX3_init 37 = .ok (.bipush 6, 2) := by decide +kernel
theorem dX3_init_39 : decode cX3_init 39 = .ok (.newarray .int, 2) := by decide +kernel
theorem dX3_init_41 : decode cX3_init 41 = .ok (.putfield 24, 3) := by decide +kernel
theorem dX3_init_44 : decode cX3_init 44 = .ok (.aload_n 0, 1) := by decide +kernel
theorem dX3_init_45 : decode cX3_init 45 = .ok (.bipush 8, 2) := by decide +kernel
theorem dX3_init_47 : decode cX3_init 47 = .ok (.newarray .int, 2) := by decide +kernel
theorem dX3_init_49 : decode cX3_init 49 = .ok (.putfield 27, 3) := by decide +kernel
theorem dX3_init_52 : decode cX3_init 52 = .ok (.aload_n 0, 1) := by decide +kernel
theorem dX3_init_53 : decode cX3_init 53 = .ok (.bipush 8, 2) := by decide +kernel
theorem dX3_init_55 : decode cX3_init 55 = .ok (.newarray .int, 2) := by decide +kernel
theorem dX3_init_57 : decode cX3_init 57 = .ok (.putfield 30, 3) := by decide +kernel
theorem dX3_init_60 : decode cX3_init 60 = .ok (.aload_n 0, 1) := by decide +kernel
theorem dX3_init_61 : decode cX3_init 61 = .ok (.bipush 12, 2) := by decide +kernel
theorem dX3_init_63 : decode cX3_init 63 = .ok (.newarray .int, 2) := by decide +kernel
theorem dX3_init_65 : decode cX3_init 65 = .ok (.putfield 33, 3) := by decide +kernel
theorem dX3_init_68 : decode cX3_init 68 = .ok (.aload_n 0, 1) := by decide +kernel
theorem dX3_init_69 : decode cX3_init 69 = .ok (.bipush 12, 2) := by decide +kernel
theorem dX3_init_71 : decode cX3_init 71 = .ok (.newarray .int, 2) := by decide +kernel
theorem dX3_init_73 : decode cX3_init 73 = .ok (.putfield 36, 3) := by decide +kernel
theorem dX3_init_76 : decode cX3_init 76 = .ok (.aload_n 0, 1) := by decide +kernel
theorem dX3_init_77 : decode cX3_init 77 = .ok (.bipush 12, 2) := by decide +kernel
theorem dX3_init_79 : decode cX3_init 79 = .ok (.newarray .int, 2) := by decide +kernel
theorem dX3_init_81 : decode cX3_init 81 = .ok (.putfield 39, 3) := by decide +kernel
theorem dX3_init_84 : decode cX3_init 84 = .ok (.aload_n 0, 1) := by decide +kernel
theorem dX3_init_85 : decode cX3_init 85 = .ok (.bipush 6, 2) := by decide +kernel
theorem dX3_init_87 : decode cX3_init 87 = .ok (.newarray .int, 2) := by decide +kernel
theorem dX3_init_89 : decode cX3_init 89 = .ok (.putfield 42, 3) := by decide +kernel
theorem dX3_init_92 : decode cX3_init 92 = .ok (.aload_n 0, 1) := by decide +kernel
theorem dX3_init_93 : decode cX3_init 93 = .ok (.iconst 4, 1) := by decide +kernel
theorem dX3_init_94 : decode cX3_init 94 = .ok (.invokevirtual 45, 3) := by decide +kernel
theorem dX3_init_97 : decode cX3_init 97 = .ok (.pop, 1) := by decide +kernel
theorem dX3_init_98 : decode cX3_init 98 = .ok (.return_, 1) := by decide +kernel
set_option maxRecDepth 20000 in
theorem ggX3_settle_J7_fill_53178 : GoodIn wsX3_settle wsJ7_fill_53178 := goodIn_r _ [13] (by decide +kernel) (by decide +kernel)
set_option maxRecDepth 20000 in
theorem gX3_settle_J7_fill_53178 : GoodIn wsX3_settle (va_wsS RX3 62 yJ7_fill_53178 wsJ7_fill_53178) := goodIn_app (goodIn_of _ (by decide +kernel)) ggX3_settle_J7_fill_53178
theorem dX3_settle_0 : decode cX3_settle 0 = .ok (.iload_n 1, 1) := by decide +kernel
theorem dX3_settle_1 : decode cX3_settle 1 = .ok (.iconst 2, 1) := by decide +kernel
theorem dX3_settle_2 : decode cX3_settle 2 = .ok (.if_icmp .lt 9, 3) := by decide +kernel
theorem dX3_settle_5 : decode cX3_settle 5 = .ok (.iload_n 1, 1) := by decide +kernel
theorem dX3_settle_6 : decode cX3_settle 6 = .ok (.bipush 6, 2) := by decide +kernel
theorem dX3_settle_8 : decode cX3_settle 8 = .ok (.if_icmp .le 5, 3) := by decide +kernel
theorem dX3_settle_11 : decode cX3_settle 11 = .ok (.iconst 0, 1) := by decide +kernel
theorem dX3_settle_12 : decode cX3_settle 12 = .ok (.ireturn, 1) := by decide +kernel
theorem dX3_settle_13 : decode cX3_settle 13 = .ok (.aload_n 0, 1) := by decide +kernel
theorem dX3_settle_14 : decode cX3_settle 14 = .ok (.iload_n 1, 1) := by decide +kernel
theorem dX3_settle_15 : decode cX3_settle 15 = .ok (.putfield 49, 3) := by decide +kernel
theorem dX3_settle_18 : decode cX3_settle 18 = .ok (.aload_n 0, 1) := by decide +kernel
theorem dX3_settle_19 : decode cX3_settle 19 = .ok (.iconst 0, 1) := by decide +kernel
theorem dX3_settle_20 : decode cX3_settle 20 = .ok (.putfield 53, 3) := by decide +kernel
theorem dX3_settle_23 : decode cX3_settle 23 = .ok (.aload_n 0, 1) := by decide +kernel
theorem dX3_settle_24 : decode cX3_settle 24 = .ok (.iconst 0, 1) := by decide +kernel
theorem dX3_settle_25 : decode cX3_settle 25 = .ok (.putfield 56, 3) := by decide +kernel
theorem dX3_settle_28 : decode cX3_settle 28 = .ok (.aload_n 0, 1) := by decide +kernel
theorem dX3_settle_29 : decode cX3_settle 29 = .ok (.iconst 0, 1) := by decide +kernel
theorem dX3_settle_30 : decode cX3_settle 30 = .ok (.putfield 59, 3) := by decide +kernel
theorem dX3_settle_33 : decode cX3_settle 33 = .ok (.aload_n 0, 1) := by decide +kernel
theorem dX3_settle_34 : decode cX3_settle 34 = .ok (.getfield 9, 3) := by decide +kernel
theorem dX3_settle_37 : decode cX3_settle 37 = .ok (.iconst 0, 1) := by decide +kernel
theorem dX3_settle_38 : decode cX3_settle 38 = .ok (.invokestatic 62, 3) := by decide +kernel
theorem dX3_settle_41 : decode cX3_settle 41 = .ok (.aload_n 0, 1) := by decide +kernel
theorem dX3_settle_42 : decode cX3_settle 42 = .ok (.getfield 21, 3) := by decide +kernel
theorem dX3_settle_45 : decode cX3_settle 45 = .ok (.iconst 0, 1) := by decide +kernel
theorem dX3_settle_46 : decode cX3_settle 46 = .ok (.invokestatic 62, 3) := by decide +kernel
theorem dX3_settle_49 : decode cX3_settle 49 = .ok (.aload_n 0, 1) := by decide +kernel
theorem dX3_settle_50 : decode cX3_settle 50 = .ok (.getfield 24, 3) := by decide +kernel
theorem dX3_settle_53 : decode cX3_settle 53 = .ok (.iconst 0, 1) := by decide +kernel
theorem dX3_settle_54 : decode cX3_settle 54 = .ok (.invokestatic 62, 3) := by decide +kernel
theorem dX3_settle_57 : decode cX3_settle 57 = .ok (.iconst 0, 1) := by decide +kernel
theorem dX3_settle_58 : decode cX3_settle 58 = .ok (.istore_n 2, 1) := by decide +kernel
theorem dX3_settle_59 : decode cX3_settle 59 = .ok (.iload_n 2, 1) := by decide +kernel
theorem dX3_settle_60 : decode cX3_settle 60 = .ok (.bipush 6, 2) := by decide +kernel
theorem dX3_settle_62 : decode cX3_settle 62 = .ok (.if_icmp .ge 23, 3) := by decide +kernel
theorem dX3_settle_65 : decode cX3_settle 65 = .ok (.aload_n 0, 1) := by decide +kernel
theorem dX3_settle_66 : decode cX3_settle 66 = .ok (.getfield 15, 3) := by decide +kernel
theorem dX3_settle_69 : decode cX3_settle 69 = .ok (.iload_n 2, 1) := by decide +kernel
theorem dX3_settle_70 : decode cX3_settle 70 = .ok (.iload_n 2, 1) := by decide +kernel
theorem dX3_settle_71 : decode cX3_settle 71 = .ok (.iastore, 1) := by decide +kernel
theorem dX3_settle_72 : decode cX3_settle 72 = .ok (.aload_n 0, 1) := by decide +kernel
theorem dX3_settle_73 : decode cX3_settle 73 = .ok (.getfield 18, 3) := by decide +kernel
theorem dX3_settle_76 : decode cX3_settle 76 = .ok (.iload_n 2, 1) := by decide +kernel
theorem dX3_settle_77 : decode cX3_settle 77 = .ok (.iload_n 2, 1) := by decide +kernel
theorem dX3_settle_78 : decode cX3_settle 78 = .ok (.iastore, 1) := by decide +kernel
theorem dX3_settle_79 : decode cX3_settle 79 = .ok (.iinc 2 1, 3) := by decide +kernel
theorem dX3_settle_82 : decode cX3_settle 82 = .ok (.goto (-23), 3) := by decide +kernel
theorem dX3_settle_85 : decode cX3_settle 85 = .ok (.iconst 1, 1) := by decide +kernel
theorem dX3_settle_86 : decode cX3_settle 86 = .ok (.ireturn, 1) := by decide +kernel
theorem dX3_copy_0 : decode cX3_copy 0 = .ok (.aload_n 0, 1) := by decide +kernel
theorem dX3_copy_1 : decode cX3_copy 1 = .ok (.aload_n 1, 1) := by decide +kernel
theorem dX3_copy_2 : decode cX3_copy 2 = .ok (.getfield 49, 3) := by decide +kernel
theorem dX3_copy_5 : decode cX3_copy 5 = .ok (.putfield 49, 3) := by decide +kernel
theorem dX3_copy_8 : decode cX3_copy 8 = .ok (.aload_n 0, 1) := by decide +kernel
theorem dX3_copy_9 : decode cX3_copy 9 = .ok (.aload_n 1, 1) := by decide +kernel
theorem dX3_copy_10 : decode cX3_copy 10 = .ok (.getfield 53, 3) := by decide +kernel
theorem dX3_copy_13 : decode cX3_copy 13 = .ok (.putfield 53, 3) := by decide +kernel
theorem dX3_copy_16 : decode cX3_copy 16 = .ok (.aload_n 0, 1) := by decide +kernel
theorem dX3_copy_17 : decode cX3_copy 17 = .ok (.aload_n 1, 1) := by decide +kernel
theorem dX3_copy_18 : decode cX3_copy 18 = .ok (.getfield 56, 3) := by decide +kernel
theorem dX3_copy_21 : decode cX3_copy 21 = .ok (.putfield 56, 3) := by decide +kernel
theorem dX3_copy_24 : decode cX3_copy 24 = .ok (.aload_n 0, 1) := by decide +kernel
theorem dX3_copy_25 : decode cX3_copy 25 = .ok (.aload_n 1, 1) := by decide +kernel
theorem dX3_copy_26 : decode cX3_copy 26 = .ok (.getfield 59, 3) := by decide +kernel
theorem dX3_copy_29 : decode cX3_copy 29 = .ok (.putfield 59, 3) := by decide +kernel
theorem dX3_copy_32 : decode cX3_copy 32 = .ok (.aload_n 1, 1) := by decide +kernel
theorem dX3_copy_33 : decode cX3_copy 33 = .ok (.getfield 9, 3) := by decide +kernel
theorem dX3_copy_36 : decode cX3_copy 36 = .ok (.iconst 0, 1) := by decide +kernel
theorem dX3_copy_37 : decode cX3_copy 37 = .ok (.aload_n 0, 1) := by decide +kernel
theorem dX3_copy_38 : decode cX3_copy 38 = .ok (.getfield 9, 3) := by decide +kernel
theorem dX3_copy_41 : decode cX3_copy 41 = .ok (.iconst 0, 1) := by decide +kernel
theorem dX3_copy_42 : decode cX3_copy 42 = .ok (.bipush 6, 2) := by decide +kernel
theorem dX3_copy_44 : decode cX3_copy 44 = .ok (.invokestatic 68, 3) := by decide +kernel
theorem dX3_copy_47 : decode cX3_copy 47 = .ok (.aload_n 1, 1) := by decide +kernel
theorem dX3_copy_48 : decode cX3_copy 48 = .ok (.getfield 15, 3) := by decide +kernel
theorem dX3_copy_51 : decode cX3_copy 51 = .ok (.iconst 0, 1) := by decide +kernel
theorem dX3_copy_52 : decode cX3_copy 52 = .ok (.aload_n 0, 1) := by decide +kernel
theorem dX3_copy_53 : decode cX3_copy 53 = .ok (.getfield 15, 3) := by decide +kernel
theorem dX3_copy_56 : decode cX3_copy 56 = .ok (.iconst 0, 1) := by decide +kernel
theorem dX3_copy_57 : decode cX3_copy 57 = .ok (.bipush 6, 2) := by decide +kernel
theorem dX3_copy_59 : decode cX3_copy 59 = .ok (.invokestatic 68, 3) := by decide +kernel
theorem dX3_copy_62 : decode cX3_copy 62 = .ok (.aload_n 1, 1) := by decide +kernel
theorem dX3_copy_63 : decode cX3_copy 63 = .ok (.getfield 18, 3) := by decide +kernel
theorem dX3_copy_66 : decode cX3_copy 66 = .ok (.iconst 0, 1) := by decide +kernel
theorem dX3_copy_67 : decode cX3_copy 67 = .ok (.aload_n 0, 1) := by decide +kernel
theorem dX3_copy_68 : decode cX3_copy 68 = .ok (.getfield 18, 3) := by decide +kernel
theorem dX3_copy_71 : decode cX3_copy 71 = .ok (.iconst 0, 1) := by decide +kernel
theorem dX3_copy_72 : decode cX3_copy 72 = .ok (.bipush 6, 2) := by decide +kernel
theorem dX3_copy_74 : decode cX3_copy 74 = .ok (.invokestatic 68, 3) := by decide +kernel
theorem dX3_copy_77 : decode cX3_copy 77 = .ok (.aload_n 1, 1) := by decide +kernel
theorem dX3_copy_78 : decode cX3_copy 78 = .ok (.getfield 21, 3) := by decide +kernel
theorem dX3_copy_81 : decode cX3_copy 81 = .ok (.iconst 0, 1) := by decide +kernel
theorem dX3_copy_82 : decode cX3_copy 82 = .ok (.aload_n 0, 1) := by decide +kernel
theorem dX3_copy_83 : decode cX3_copy 83 = .ok (.getfield 21, 3) := by decide +kernel
theorem dX3_copy_86 : decode cX3_copy 86 = .ok (.iconst 0, 1) := by decide +kernel
theorem dX3_copy_87 : decode cX3_copy 87 = .ok (.bipush 24, 2) := by decide +kernel
theorem dX3_copy_89 : decode cX3_copy 89 = .ok (.invokestatic 68, 3) := by decide +kernel
theorem dX3_copy_92 : decode cX3_copy 92 = .ok (.aload_n 1, 1) := by decide +kernel
theorem dX3_copy_93 : decode cX3_copy 93 = .ok (.getfield 24, 3) := by decide +kernel
theorem dX3_copy_96 : decode cX3_copy 96 = .ok (.iconst 0, 1) := by decide +kernel
theorem dX3_copy_97 : decode cX3_copy 97 = .ok (.aload_n 0, 1) := by decide +kernel
theorem dX3_copy_98 : decode cX3_copy 98 = .ok (.getfield 24, 3) := by decide +kernel
theorem dX3_copy_101 : decode cX3_copy 101 = .ok (.iconst 0, 1) := by decide +kernel
theorem dX3_copy_102 : decode cX3_copy 102 = .ok (.bipush 6, 2) := by decide +kernel
theorem dX3_copy_104 : decode cX3_copy 104 = .ok (.invokestatic 68, 3) := by decide +kernel
theorem dX3_copy_107 : decode cX3_copy 107 = .ok (.aload_n 1, 1) := by decide +kernel
theorem dX3_copy_108 : decode cX3_copy 108 = .ok (.getfield 27, 3) := by decide +kernel
theorem dX3_copy_111 : decode cX3_copy 111 = .ok (.iconst 0, 1) := by decide +kernel
theorem dX3_copy_112 : decode cX3_copy 112 = .ok (.aload_n 0, 1) := by decide +kernel
theorem dX3_copy_113 : decode cX3_copy 113 = .ok (.getfield 27, 3) := by decide +kernel
theorem dX3_copy_116 : decode cX3_copy 116 = .ok (.iconst 0, 1) := by decide +kernel
theorem dX3_copy_117 : decode cX3_copy 117 = .ok (.bipush 8, 2) := by decide +kernel
theorem dX3_copy_119 : decode cX3_copy 119 = .ok (.invokestatic 68, 3) := by decide +kernel
theorem dX3_copy_122 : decode cX3_copy 122 = .ok (.aload_n 1, 1) := by decide +kernel
theorem dX3_copy_123 : decode cX3_copy 123 = .ok (.getfield 30, 3) := by decide +kernel
theorem dX3_copy_126 : decode cX3_copy 126 = .ok (.iconst 0, 1) := by decide +kernel
theorem dX3_copy_127 : decode cX3_copy 127 = .ok (.aload_n 0, 1) := by decide +kernel
theorem dX3_copy_128 : decode cX3_copy 128 = .ok (.getfield 30, 3) := by decide +kernel
theorem dX3_copy_131 : decode cX3_copy 131 = .ok (.iconst 0, 1) := by decide +kernel
theorem dX3_copy_132 : decode cX3_copy 132 = .ok (.bipush 8, 2) := by decide +kernel
theorem dX3_copy_134 : decode cX3_copy 134 = .ok (.invokestatic 68, 3) := by decide +kernel
theorem dX3_copy_137 : decode cX3_copy 137 = .ok (.aload_n 1, 1) := by decide +kernel
theorem dX3_copy_138 : decode cX3_copy 138 = .ok (.getfield 33, 3) := by decide +kernel
theorem dX3_copy_141 : decode cX3_copy 141 = .ok (.iconst 0, 1) := by decide +kernel
theorem dX3_copy_142 : decode cX3_copy 142 = .ok (.aload_n 0, 1) := by decide +kernel
theorem dX3_copy_143 : decode cX3_copy 143 = .ok (.getfield 33, 3) := by decide +kernel
theorem dX3_copy_146 : decode cX3_copy 146 = .ok (.iconst 0, 1) := by decide +kernel
theorem dX3_copy_147 : decode cX3_copy 147 = .ok (.bipush 12, 2) := by decide +kernel
theorem dX3_copy_149 : decode cX3_copy 149 = .ok (.invokestatic 68, 3) := by decide +kernel
theorem dX3_copy_152 : decode cX3_copy 152 = .ok (.aload_n 1, 1) := by decide +kernel
theorem dX3_copy_153 : decode cX3_copy 153 = .ok (.getfield 36, 3) := by decide +kernel
theorem dX3_copy_156 : decode cX3_copy 156 = .ok (.iconst 0, 1) := by decide +kernel
theorem dX3_copy_157 : decode cX3_copy 157 = .ok (.aload_n 0, 1) := by decide +kernel
theorem dX3_copy_158 : decode cX3_copy 158 = .ok (.getfield 36, 3) := by decide +kernel
theorem dX3_copy_161 : decode cX3_copy 161 = .ok (.iconst 0, 1) := by decide +kernel
theorem dX3_copy_162 : decode cX3_copy 162 = .ok (.bipush 12, 2) := by decide +kernel
theorem dX3_copy_164 : decode cX3_copy 164 = .ok (.invokestatic 68, 3) := by decide +kernel
theorem dX3_copy_167 : decode cX3_copy 167 = .ok (.aload_n 1, 1) := by decide +kernel
theorem dX3_copy_168 : decode cX3_copy 168 = .ok (.getfield 39, 3) := by decide +kernel
theorem dX3_copy_171 : decode cX3_copy 171 = .ok (.iconst 0, 1) := by decide +kernel
theorem dX3_copy_172 : decode cX3_copy 172 = .ok (.aload_n 0, 1) := by decide +kernel
theorem dX3_copy_173 : decode cX3_copy 173 = .ok (.getfield 39, 3) := by decide +kernel
theorem dX3_copy_176 : decode cX3_copy 176 = .ok (.iconst 0, 1) := by decide +kernel
theorem dX3_copy_177 : decode cX3_copy 177 = .ok (.bipush 12, 2) := by decide +kernel
theorem dX3_copy_179 : decode cX3_copy 179 = .ok (.invokestatic 68, 3) := by decide +kernel
theorem dX3_copy_182 : decode cX3_copy 182 = .ok (.aload_n 1, 1) := by decide +kernel
theorem dX3_copy_183 : decode cX3_copy 183 = .ok (.getfield 42, 3) := by decide +kernel
theorem dX3_copy_186 : decode cX3_copy 186 = .ok (.iconst 0, 1) := by decide +kernel
theorem dX3_copy_187 : decode cX3_copy 187 = .ok (.aload_n 0, 1) := by decide +kernel
theorem dX3_copy_188 : decode cX3_copy 188 = .ok (.getfield 42, 3) := by decide +kernel
theorem dX3_copy_191 : decode cX3_copy 191 = .ok (.iconst 0, 1) := by decide +kernel
theorem dX3_copy_192 : decode cX3_copy 192 = .ok (.bipush 6, 2) := by decide +kernel
theorem dX3_copy_194 : decode cX3_copy 194 = .ok (.invokestatic 68, 3) := by decide +kernel
theorem dX3_copy_197 : decode cX3_copy 197 = .ok (.return_, 1) := by decide +kernel
theorem dX3_isVillage_0 : decode cX3_isVillage 0 = .ok (.iload_n 1, 1) := by decide +kernel
theorem dX3_isVillage_1 : decode cX3_isVillage 1 = .ok (.ifCond .lt 15, 3) := by decide +kernel
theorem dX3_isVillage_4 : decode cX3_isVillage 4 = .ok (.iload_n 1, 1) := by decide +kernel
theorem dX3_isVillage_5 : decode cX3_isVillage 5 = .ok (.aload_n 0, 1) := by decide +kernel
theorem dX3_isVillage_6 : decode cX3_isVillage 6 = .ok (.getfield 49, 3) := by decide +kernel
theorem dX3_isVillage_9 : decode cX3_isVillage 9 = .ok (.if_icmp .ge 7, 3) := by decide +kernel
theorem dX3_isVillage_12 : decode cX3_isVillage 12 = .ok (.iconst 1, 1) := by decide +kernel
theorem dX3_isVillage_13 : decode cX3_isVillage 13 = .ok (.goto 4, 3) := by decide +kernel
theorem dX3_isVillage_16 : decode cX3_isVillage 16 = .ok (.iconst 0, 1) := by decide +kernel
theorem dX3_isVillage_17 : decode cX3_isVillage 17 = .ok (.ireturn, 1) := by decide +kernel
set_option maxRecDepth 20000 in
theorem ggX3_areTwo_X3_isVillage : GoodIn wsX3_areTwo wsX3_isVillage := goodIn_r _ [5, 6, 7, 8, 9, 10, 11, 12, 13, 14, 15, 16, 17, 18, 19, 20, 21] (by decide +kernel) (by decide +kernel)
set_option maxRecDepth 20000 in
theorem gX3_areTwo_X3_isVillage : GoodIn wsX3_areTwo (wsV RX3 74 RX3 yX3_isVillage wsX3_isVillage) := goodIn_app (goodIn_of _ (by decide +kernel)) ggX3_areTwo_X3_isVillage
theorem dX3_areTwo_0 : decode cX3_areTwo 0 = .ok (.aload_n 0, 1) := by decide +kernel
theorem dX3_areTwo_1 : decode cX3_areTwo 1 = .ok (.iload_n 1, 1) := by decide +kernel
theorem dX3_areTwo_2 : decode cX3_areTwo 2 = .ok (.invokevirtual 74, 3) := by decide +kernel
theorem dX3_areTwo_5 : decode cX3_areTwo 5 = .ok (.ifCond .eq 20, 3) := by decide +kernel
theorem dX3_areTwo_8 : decode cX3_areTwo 8 = .ok (.aload_n 0, 1) := by decide +kernel
theorem dX3_areTwo_9 : decode cX3_areTwo 9 = .ok (.iload_n 2, 1) := by decide +kernel
theorem dX3_areTwo_10 : decode cX3_areTwo 10 = .ok (.invokevirtual 74, 3) := by decide +kernel
theorem dX3_areTwo_13 : decode cX3_areTwo 13 = .ok (.ifCond .eq 12, 3) := by decide +kernel
theorem dX3_areTwo_16 : decode cX3_areTwo 16 = .ok (.iload_n 1, 1) := by decide +kernel
theorem dX3_areTwo_17 : decode cX3_areTwo 17 = .ok (.iload_n 2, 1) := by decide +kernel
theorem dX3_areTwo_18 : decode cX3_areTwo 18 = .ok (.if_icmp .eq 7, 3) := by decide +kernel
theorem dX3_areTwo_21 : decode cX3_areTwo 21 = .ok (.iconst 1, 1) := by decide +kernel
theorem dX3_areTwo_22 : decode cX3_areTwo 22 = .ok (.goto 4, 3) := by decide +kernel
theorem dX3_areTwo_25 : decode cX3_areTwo 25 = .ok (.iconst 0, 1) := by decide +kernel
theorem dX3_areTwo_26 : decode cX3_areTwo 26 = .ok (.ireturn, 1) := by decide +kernel
theorem dX3_areBits_0 : decode cX3_areBits 0 = .ok (.iload_n 1, 1) := by decide +kernel
theorem dX3_areBits_1 : decode cX3_areBits 1 = .ok (.ifCond .lt 17, 3) := by decide +kernel
theorem dX3_areBits_4 : decode cX3_areBits 4 = .ok (.iload_n 1, 1) := by decide +kernel
theorem dX3_areBits_5 : decode cX3_areBits 5 = .ok (.iconst 1, 1) := by decide +kernel
theorem dX3_areBits_6 : decode cX3_areBits 6 = .ok (.aload_n 0, 1) := by decide +kernel
theorem dX3_areBits_7 : decode cX3_areBits 7 = .ok (.getfield 49, 3) := by decide +kernel
theorem dX3_areBits_10 : decode cX3_areBits 10 = .ok (.ishl, 1) := by decide +kernel
theorem dX3_areBits_11 : decode cX3_areBits 11 = .ok (.if_icmp .ge 7, 3) := by decide +kernel
theorem dX3_areBits_14 : decode cX3_areBits 14 = .ok (.iconst 1, 1) := by decide +kernel
theorem dX3_areBits_15 : decode cX3_areBits 15 = .ok (.goto 4, 3) := by decide +kernel
theorem dX3_areBits_18 : decode cX3_areBits 18 = .ok (.iconst 0, 1) := by decide +kernel
theorem dX3_areBits_19 : decode cX3_areBits 19 = .ok (.ireturn, 1) := by decide +kernel
set_option maxRecDepth 20000 in
theorem ggX3_setHears_X3_areTwo : GoodIn wsX3_setHears wsX3_areTwo := goodIn_r _ [6, 7, 8, 9, 5, 10, 11, 17, 18, 19, 20, 21, 22, 23, 24, 25, 26, 27, 28, 29, 30, 31] (by decide +kernel) (by decide +kernel)
set_option maxRecDepth 20000 in
theorem gX3_setHears_X3_areTwo : GoodIn wsX3_setHears (wsV RX3 77 RX3 yX3_areTwo wsX3_areTwo) := goodIn_app (goodIn_of _ (by decide +kernel)) ggX3_setHears_X3_areTwo
set_option maxRecDepth 20000 in
theorem ggX3_setHears_X6_isWind : GoodIn wsX3_setHears wsX6_isWind := goodIn_r _ [14] (by decide +kernel) (by decide +kernel)
set_option maxRecDepth 20000 in
theorem gX3_setHears_X6_isWind_n81 : GoodIn wsX3_setHears (wsX6_isWind) := ggX3_setHears_X6_isWind
set_option maxRecDepth 20000 in
theorem ggX3_setHears_X6_has : GoodIn wsX3_setHears wsX6_has := goodIn_r _ [16] (by decide +kernel) (by decide +kernel)
set_option maxRecDepth 20000 in
theorem gX3_setHears_X6_has_n84 : GoodIn wsX3_setHears (wsX6_has) := ggX3_setHears_X6_has
theorem dX3_setHears_0 : decode cX3_setHears 0 = .ok (.aload_n 0, 1) := by decide +kernel
theorem dX3_setHears_1 : decode cX3_setHears 1 = .ok (.iload_n 1, 1) := by decide +kernel
theorem dX3_setHears_2 : decode cX3_setHears 2 = .ok (.iload_n 3, 1) := by decide +kernel
theorem dX3_setHears_3 : decode cX3_setHears 3 = .ok (.invokevirtual 77, 3) := by decide +kernel
theorem dX3_setHears_6 : decode cX3_setHears 6 = .ok (.ifCond .eq 10, 3) := by decide +kernel
theorem dX3_setHears_9 : decode cX3_setHears 9 = .ok (.iload_n 2, 1) := by decide +kernel
theorem dX3_setHears_10 : decode cX3_setHears 10 = .ok (.invokestatic 81, 3) := by decide +kernel
theorem dX3_setHears_13 : decode cX3_setHears 13 = .ok (.ifCond .ne 6, 3) := by decide +kernel
theorem dX3_setHears_16 : decode cX3_setHears 16 = .ok (.bipush (-2), 2) := by decide +kernel
theorem dX3_setHears_18 : decode cX3_setHears 18 = .ok (.ireturn, 1) := by decide +kernel
theorem dX3_setHears_19 : decode cX3_setHears 19 = .ok (.iload_n 1, 1) := by decide +kernel
theorem dX3_setHears_20 : decode cX3_setHears 20 = .ok (.iconst 4, 1) := by decide +kernel
theorem dX3_setHears_21 : decode cX3_setHears 21 = .ok (.imul, 1) := by decide +kernel
theorem dX3_setHears_22 : decode cX3_setHears 22 = .ok (.iload_n 2, 1) := by decide +kernel
theorem dX3_setHears_23 : decode cX3_setHears 23 = .ok (.iadd, 1) := by decide +kernel
theorem dX3_setHears_24 : decode cX3_setHears 24 = .ok (.istore 5, 2) := by decide +kernel
theorem dX3_setHears_26 : decode cX3_setHears 26 = .ok (.aload_n 0, 1) := by decide +kernel
theorem dX3_setHears_27 : decode cX3_setHears 27 = .ok (.getfield 21, 3) := by decide +kernel
theorem dX3_setHears_30 : decode cX3_setHears 30 = .ok (.iload 5, 2) := by decide +kernel
theorem dX3_setHears_32 : decode cX3_setHears 32 = .ok (.iaload, 1) := by decide +kernel
theorem dX3_setHears_33 : decode cX3_setHears 33 = .ok (.iload_n 3, 1) := by decide +kernel
theorem dX3_setHears_34 : decode cX3_setHears 34 = .ok (.invokestatic 84, 3) := by decide +kernel
theorem dX3_setHears_37 : decode cX3_setHears 37 = .ok (.iload 4, 2) := by decide +kernel
theorem dX3_setHears_39 : decode cX3_setHears 39 = .ok (.if_icmp .ne 6, 3) := by decide +kernel
theorem dX3_setHears_42 : decode cX3_setHears 42 = .ok (.bipush (-3), 2) := by decide +kernel
theorem dX3_setHears_44 : decode cX3_setHears 44 = .ok (.ireturn, 1) := by decide +kernel
theorem dX3_setHears_45 : decode cX3_setHears 45 = .ok (.aload_n 0, 1) := by decide +kernel
theorem dX3_setHears_46 : decode cX3_setHears 46 = .ok (.getfield 21, 3) := by decide +kernel
theorem dX3_setHears_49 : decode cX3_setHears 49 = .ok (.iload 5, 2) := by decide +kernel
theorem dX3_setHears_51 : decode cX3_setHears 51 = .ok (.dup2, 1) := by decide +kernel
theorem dX3_setHears_52 : decode cX3_setHears 52 = .ok (.iaload, 1) := by decide +kernel
theorem dX3_setHears_53 : decode cX3_setHears 53 = .ok (.iconst 1, 1) := by decide +kernel
theorem dX3_setHears_54 : decode cX3_setHears 54 = .ok (.iload_n 3, 1) := by decide +kernel
theorem dX3_setHears_55 : decode cX3_setHears 55 = .ok (.ishl, 1) := by decide +kernel
theorem dX3_setHears_56 : decode cX3_setHears 56 = .ok (.ixor, 1) := by decide +kernel
theorem dX3_setHears_57 : decode cX3_setHears 57 = .ok (.iastore, 1) := by decide +kernel
theorem dX3_setHears_58 : decode cX3_setHears 58 = .ok (.iconst 1, 1) := by decide +kernel
theorem dX3_setHears_59 : decode cX3_setHears 59 = .ok (.ireturn, 1) := by decide +kernel
set_option maxRecDepth 20000 in
theorem ggX3_addWood_X3_areTwo : GoodIn wsX3_addWood wsX3_areTwo := goodIn_r _ [9, 10, 11, 12, 8, 13, 14, 15, 16, 17, 18, 19, 20, 21, 22, 23, 24, 25, 26, 27, 28, 29] (by decide +kernel) (by decide +kernel)
set_option maxRecDepth 20000 in
theorem gX3_addWood_X3_areTwo : GoodIn wsX3_addWood (wsV RX3 77 RX3 yX3_areTwo wsX3_areTwo) := goodIn_app (goodIn_of _ (by decide +kernel)) ggX3_addWood_X3_areTwo
theorem dX3_addWood_0 : decode cX3_addWood 0 = .ok (.aload_n 0, 1) := by decide +kernel
theorem dX3_addWood_1 : decode cX3_addWood 1 = .ok (.iload_n 1, 1) := by decide +kernel
theorem dX3_addWood_2 : decode cX3_addWood 2 = .ok (.iload_n 2, 1) := by decide +kernel
theorem dX3_addWood_3 : decode cX3_addWood 3 = .ok (.invokevirtual 77, 3) := by decide +kernel
theorem dX3_addWood_6 : decode cX3_addWood 6 = .ok (.ifCond .ne 6, 3) := by decide +kernel
theorem dX3_addWood_9 : decode cX3_addWood 9 = .ok (.bipush (-2), 2) := by decide +kernel
theorem dX3_addWood_11 : decode cX3_addWood 11 = .ok (.ireturn, 1) := by decide +kernel
theorem dX3_addWood_12 : decode cX3_addWood 12 = .ok (.aload_n 0, 1) := by decide +kernel
theorem dX3_addWood_13 : decode cX3_addWood 13 = .ok (.getfield 53, 3) := by decide +kernel
theorem dX3_addWood_16 : decode cX3_addWood 16 = .ok (.bipush 8, 2) := by decide +kernel
theorem dX3_addWood_18 : decode cX3_addWood 18 = .ok (.if_icmp .lt 6, 3) := by decide +kernel
theorem dX3_addWood_21 : decode cX3_addWood 21 = .ok (.bipush (-4), 2) := by decide +kernel
theorem dX3_addWood_23 : decode cX3_addWood 23 = .ok (.ireturn, 1) := by decide +kernel
theorem dX3_addWood_24 : decode cX3_addWood 24 = .ok (.aload_n 0, 1) := by decide +kernel
theorem dX3_addWood_25 : decode cX3_addWood 25 = .ok (.getfield 27, 3) := by decide +kernel
theorem dX3_addWood_28 : decode cX3_addWood 28 = .ok (.aload_n 0, 1) := by decide +kernel
theorem dX3_addWood_29 : decode cX3_addWood 29 = .ok (.getfield 53, 3) := by decide +kernel
theorem dX3_addWood_32 : decode cX3_addWood 32 = .ok (.iload_n 1, 1) := by decide +kernel
theorem dX3_addWood_33 : decode cX3_addWood 33 = .ok (.iastore, 1) := by decide +kernel
theorem dX3_addWood_34 : decode cX3_addWood 34 = .ok (.aload_n 0, 1) := by decide +kernel
theorem dX3_addWood_35 : decode cX3_addWood 35 = .ok (.getfield 30, 3) := by decide +kernel
theorem dX3_addWood_38 : decode cX3_addWood 38 = .ok (.aload_n 0, 1) := by decide +kernel
theorem dX3_addWood_39 : decode cX3_addWood 39 = .ok (.getfield 53, 3) := by decide +kernel
theorem dX3_addWood_42 : decode cX3_addWood 42 = .ok (.iload_n 2, 1) := by decide +kernel
theorem dX3_addWood_43 : decode cX3_addWood 43 = .ok (.iastore, 1) := by decide +kernel
theorem dX3_addWood_44 : decode cX3_addWood 44 = .ok (.aload_n 0, 1) := by decide +kernel
theorem dX3_addWood_45 : decode cX3_addWood 45 = .ok (.getfield 24, 3) := by decide +kernel
theorem dX3_addWood_48 : decode cX3_addWood 48 = .ok (.iload_n 1, 1) := by decide +kernel
theorem dX3_addWood_49 : decode cX3_addWood 49 = .ok (.dup2, 1) := by decide +kernel
theorem dX3_addWood_50 : decode cX3_addWood 50 = .ok (.iaload, 1) := by decide +kernel
theorem dX3_addWood_51 : decode cX3_addWood 51 = .ok (.iconst 1, 1) := by decide +kernel
theorem dX3_addWood_52 : decode cX3_addWood 52 = .ok (.iload_n 2, 1) := by decide +kernel
theorem dX3_addWood_53 : decode cX3_addWood 53 = .ok (.ishl, 1) := by decide +kernel
theorem dX3_addWood_54 : decode cX3_addWood 54 = .ok (.ior, 1) := by decide +kernel
theorem dX3_addWood_55 : decode cX3_addWood 55 = .ok (.iastore, 1) := by decide +kernel
theorem dX3_addWood_56 : decode cX3_addWood 56 = .ok (.aload_n 0, 1) := by decide +kernel
theorem dX3_addWood_57 : decode cX3_addWood 57 = .ok (.dup, 1) := by decide +kernel
theorem dX3_addWood_58 : decode cX3_addWood 58 = .ok (.getfield 53, 3) := by decide +kernel
theorem dX3_addWood_61 : decode cX3_addWood 61 = .ok (.dup_x1, 1) := by decide +kernel
theorem dX3_addWood_62 : decode cX3_addWood 62 = .ok (.iconst 1, 1) := by decide +kernel
theorem dX3_addWood_63 : decode cX3_addWood 63 = .ok (.iadd, 1) := by decide +kernel
theorem dX3_addWood_64 : decode cX3_addWood 64 = .ok (.putfield 53, 3) := by decide +kernel
theorem dX3_addWood_67 : decode cX3_addWood 67 = .ok (.ireturn, 1) := by decide +kernel
set_option maxRecDepth 20000 in
theorem ggX3_setTemper_X3_isVillage : GoodIn wsX3_setTemper wsX3_isVillage := goodIn_r _ [6, 7, 8, 9, 10, 11, 12, 13, 14, 15, 16, 17, 18, 19, 20, 21, 22] (by decide +kernel) (by decide +kernel)
set_option maxRecDepth 20000 in
theorem gX3_setTemper_X3_isVillage : GoodIn wsX3_setTemper (wsV RX3 74 RX3 yX3_isVillage wsX3_isVillage) := goodIn_app (goodIn_of _ (by decide +kernel)) ggX3_setTemper_X3_isVillage
theorem dX3_setTemper_0 : decode cX3_setTemper 0 = .ok (.aload_n 0, 1) := by decide +kernel
theorem dX3_setTemper_1 : decode cX3_setTemper 1 = .ok (.iload_n 1, 1) := by decide +kernel
theorem dX3_setTemper_2 : decode cX3_setTemper 2 = .ok (.invokevirtual 74, 3) := by decide +kernel
theorem dX3_setTemper_5 : decode cX3_setTemper 5 = .ok (.ifCond .eq 12, 3) := by decide +kernel
theorem dX3_setTemper_8 : decode cX3_setTemper 8 = .ok (.iload_n 2, 1) := by decide +kernel
theorem dX3_setTemper_9 : decode cX3_setTemper 9 = .ok (.ifCond .lt 8, 3) := by decide +kernel
theorem dX3_setTemper_12 : decode cX3_setTemper 12 = .ok (.iload_n 2, 1) := by decide +kernel
theorem dX3_setTemper_13 : decode cX3_setTemper 13 = .ok (.iconst 5, 1) := by decide +kernel
theorem dX3_setTemper_14 : decode cX3_setTemper 14 = .ok (.if_icmp .le 6, 3) := by decide +kernel
theorem dX3_setTemper_17 : decode cX3_setTemper 17 = .ok (.bipush (-2), 2) := by decide +kernel
theorem dX3_setTemper_19 : decode cX3_setTemper 19 = .ok (.ireturn, 1) := by decide +kernel
theorem dX3_setTemper_20 : decode cX3_setTemper 20 = .ok (.aload_n 0, 1) := by decide +kernel
theorem dX3_setTemper_21 : decode cX3_setTemper 21 = .ok (.getfield 9, 3) := by decide +kernel
theorem dX3_setTemper_24 : decode cX3_setTemper 24 = .ok (.iload_n 1, 1) := by decide +kernel
theorem dX3_setTemper_25 : decode cX3_setTemper 25 = .ok (.iaload, 1) := by decide +kernel
theorem dX3_setTemper_26 : decode cX3_setTemper 26 = .ok (.istore_n 3, 1) := by decide +kernel
theorem dX3_setTemper_27 : decode cX3_setTemper 27 = .ok (.aload_n 0, 1) := by decide +kernel
theorem dX3_setTemper_28 : decode cX3_setTemper 28 = .ok (.getfield 9, 3) := by decide +kernel
theorem dX3_setTemper_31 : decode cX3_setTemper 31 = .ok (.iload_n 1, 1) := by decide +kernel
theorem dX3_setTemper_32 : decode cX3_setTemper 32 = .ok (.iload_n 2, 1) := by decide +kernel
theorem dX3_setTemper_33 : decode cX3_setTemper 33 = .ok (.iastore, 1) := by decide +kernel
theorem dX3_setTemper_34 : decode cX3_setTemper 34 = .ok (.iload_n 3, 1) := by decide +kernel
theorem dX3_setTemper_35 : decode cX3_setTemper 35 = .ok (.ireturn, 1) := by decide +kernel
set_option maxRecDepth 20000 in
theorem ggX3_setFriend_X3_isVillage : GoodIn wsX3_setFriend wsX3_isVillage := goodIn_r _ [6, 7, 8, 9, 10, 11, 12, 13, 14, 15, 16, 17, 18, 19, 20, 21, 22] (by decide +kernel) (by decide +kernel)
set_option maxRecDepth 20000 in
theorem gX3_setFriend_X3_isVillage : GoodIn wsX3_setFriend (wsV RX3 74 RX3 yX3_isVillage wsX3_isVillage) := goodIn_app (goodIn_of _ (by decide +kernel)) ggX3_setFriend_X3_isVillage
theorem dX3_setFriend_0 : decode cX3_setFriend 0 = .ok (.aload_n 0, 1) := by decide +kernel
theorem dX3_setFriend_1 : decode cX3_setFriend 1 = .ok (.iload_n 1, 1) := by decide +kernel
theorem dX3_setFriend_2 : decode cX3_setFriend 2 = .ok (.invokevirtual 74, 3) := by decide +kernel
theorem dX3_setFriend_5 : decode cX3_setFriend 5 = .ok (.ifCond .eq 11, 3) := by decide +kernel
theorem dX3_setFriend_8 : decode cX3_setFriend 8 = .ok (.aload_n 0, 1) := by decide +kernel
theorem dX3_setFriend_9 : decode cX3_setFriend 9 = .ok (.iload_n 2, 1) := by decide +kernel
theorem dX3_setFriend_10 : decode cX3_setFriend 10 = .ok (.invokevirtual 74, 3) := by decide +kernel
theorem dX3_setFriend_13 : decode cX3_setFriend 13 = .ok (.ifCond .ne 6, 3) := by decide +kernel
theorem dX3_setFriend_16 : decode cX3_setFriend 16 = .ok (.bipush (-2), 2) := by decide +kernel
theorem dX3_setFriend_18 : decode cX3_setFriend 18 = .ok (.ireturn, 1) := by decide +kernel
theorem dX3_setFriend_19 : decode cX3_setFriend 19 = .ok (.aload_n 0, 1) := by decide +kernel
theorem dX3_setFriend_20 : decode cX3_setFriend 20 = .ok (.getfield 15, 3) := by decide +kernel
theorem dX3_setFriend_23 : decode cX3_setFriend 23 = .ok (.iload_n 1, 1) := by decide +kernel
theorem dX3_setFriend_24 : decode cX3_setFriend 24 = .ok (.iaload, 1) := by decide +kernel
theorem dX3_setFriend_25 : decode cX3_setFriend 25 = .ok (.istore_n 3, 1) := by decide +kernel
theorem dX3_setFriend_26 : decode cX3_setFriend 26 = .ok (.aload_n 0, 1) := by decide +kernel
theorem dX3_setFriend_27 : decode cX3_setFriend 27 = .ok (.getfield 15, 3) := by decide +kernel
theorem dX3_setFriend_30 : decode cX3_setFriend 30 = .ok (.iload_n 1, 1) := by decide +kernel
theorem dX3_setFriend_31 : decode cX3_setFriend 31 = .ok (.iload_n 2, 1) := by decide +kernel
theorem dX3_setFriend_32 : decode cX3_setFriend 32 = .ok (.iastore, 1) := by decide +kernel
theorem dX3_setFriend_33 : decode cX3_setFriend 33 = .ok (.iload_n 3, 1) := by decide +kernel
theorem dX3_setFriend_34 : decode cX3_setFriend 34 = .ok (.ireturn, 1) := by decide +kernel
set_option maxRecDepth 20000 in
theorem ggX3_changeRopes_X3_areTwo : GoodIn wsX3_changeRopes wsX3_areTwo := goodIn_r _ [6, 7, 8, 9, 5, 10, 11, 12, 13, 14, 15, 16, 17, 18, 19, 20, 21, 22, 23, 24, 25, 26] (by decide +kernel) (by decide +kernel)
set_option maxRecDepth 20000 in
theorem gX3_changeRopes_X3_areTwo : GoodIn wsX3_changeRopes (wsV RX3 77 RX3 yX3_areTwo wsX3_areTwo) := goodIn_app (goodIn_of _ (by decide +kernel)) ggX3_changeRopes_X3_areTwo
theorem dX3_changeRopes_0 : decode cX3_changeRopes 0 = .ok (.aload_n 0, 1) := by decide +kernel
theorem dX3_changeRopes_1 : decode cX3_changeRopes 1 = .ok (.iload_n 1, 1) := by decide +kernel
theorem dX3_changeRopes_2 : decode cX3_changeRopes 2 = .ok (.iload_n 2, 1) := by decide +kernel
theorem dX3_changeRopes_3 : decode cX3_changeRopes 3 = .ok (.invokevirtual 77, 3) := by decide +kernel
theorem dX3_changeRopes_6 : decode cX3_changeRopes 6 = .ok (.ifCond .ne 6, 3) := by decide +kernel
theorem dX3_changeRopes_9 : decode cX3_changeRopes 9 = .ok (.bipush (-2), 2) := by decide +kernel
theorem dX3_changeRopes_11 : decode cX3_changeRopes 11 = .ok (.ireturn, 1) := by decide +kernel
theorem dX3_changeRopes_12 : decode cX3_changeRopes 12 = .ok (.aload_n 0, 1) := by decide +kernel
theorem dX3_changeRopes_13 : decode cX3_changeRopes 13 = .ok (.getfield 18, 3) := by decide +kernel
theorem dX3_changeRopes_16 : decode cX3_changeRopes 16 = .ok (.iload_n 1, 1) := by decide +kernel
theorem dX3_changeRopes_17 : decode cX3_changeRopes 17 = .ok (.iaload, 1) := by decide +kernel
theorem dX3_changeRopes_18 : decode cX3_changeRopes 18 = .ok (.istore_n 3, 1) := by decide +kernel
theorem dX3_changeRopes_19 : decode cX3_changeRopes 19 = .ok (.aload_n 0, 1) := by decide +kernel
theorem dX3_changeRopes_20 : decode cX3_changeRopes 20 = .ok (.getfield 18, 3) := by decide +kernel
theorem dX3_changeRopes_23 : decode cX3_changeRopes 23 = .ok (.iload_n 1, 1) := by decide +kernel
theorem dX3_changeRopes_24 : decode cX3_changeRopes 24 = .ok (.aload_n 0, 1) := by decide +kernel
theorem dX3_changeRopes_25 : decode cX3_changeRopes 25 = .ok (.getfield 18, 3) := by decide +kernel
theorem dX3_changeRopes_28 : decode cX3_changeRopes 28 = .ok (.iload_n 2, 1) := by decide +kernel
theorem dX3_changeRopes_29 : decode cX3_changeRopes 29 = .ok (.iaload, 1) := by decide +kernel
theorem dX3_changeRopes_30 : decode cX3_changeRopes 30 = .ok (.iastore, 1) := by decide +kernel
theorem dX3_changeRopes_31 : decode cX3_changeRopes 31 = .ok (.aload_n 0, 1) := by decide +kernel
theorem dX3_changeRopes_32 : decode cX3_changeRopes 32 = .ok (.getfield 18, 3) := by decide +kernel
theorem dX3_changeRopes_35 : decode cX3_changeRopes 35 = .ok (.iload_n 2, 1) := by decide +kernel
theorem dX3_changeRopes_36 : decode cX3_changeRopes 36 = .ok (.iload_n 3, 1) := by decide +kernel
theorem dX3_changeRopes_37 : decode cX3_changeRopes 37 = .ok (.iastore, 1) := by decide +kernel
theorem dX3_changeRopes_38 : decode cX3_changeRopes 38 = .ok (.iconst 1, 1) := by decide +kernel
theorem dX3_changeRopes_39 : decode cX3_changeRopes 39 = .ok (.ireturn, 1) := by decide +kernel
set_option maxRecDepth 20000 in
theorem ggX3_addNeed_X3_isVillage : GoodIn wsX3_addNeed wsX3_isVillage := goodIn_r _ [9, 10, 20, 21, 22, 23, 24, 25, 26, 27, 28, 29, 30, 31, 32, 33, 34] (by decide +kernel) (by decide +kernel)
set_option maxRecDepth 20000 in
theorem gX3_addNeed_X3_isVillage : GoodIn wsX3_addNeed (wsV RX3 74 RX3 yX3_isVillage wsX3_isVillage) := goodIn_app (goodIn_of _ (by decide +kernel)) ggX3_addNeed_X3_isVillage
set_option maxRecDepth 20000 in
theorem ggX3_addNeed_X6_isWind : GoodIn wsX3_addNeed wsX6_isWind := goodIn_r _ [13] (by decide +kernel) (by decide +kernel)
set_option maxRecDepth 20000 in
theorem gX3_addNeed_X6_isWind_n81 : GoodIn wsX3_addNeed (wsX6_isWind) := ggX3_addNeed_X6_isWind
set_option maxRecDepth 20000 in
theorem ggX3_addNeed_X3_areBits : GoodIn wsX3_addNeed wsX3_areBits := goodIn_r _ [17, 10, 20, 21, 22, 23, 24, 25, 26, 27, 28, 29, 30, 31, 32, 33, 34] (by decide +kernel) (by decide +kernel)
set_option maxRecDepth 20000 in
theorem gX3_addNeed_X3_areBits : GoodIn wsX3_addNeed (wsV RX3 87 RX3 yX3_areBits wsX3_areBits) := goodIn_app (goodIn_of _ (by decide +kernel)) ggX3_addNeed_X3_areBits
set_option maxRecDepth 20000 in
theorem ggX3_addNeed_X6_has : GoodIn wsX3_addNeed wsX6_has := goodIn_r _ [19] (by decide +kernel) (by decide +kernel)
set_option maxRecDepth 20000 in
theorem gX3_addNeed_X6_has_n84 : GoodIn wsX3_addNeed (wsX6_has) := ggX3_addNeed_X6_has
theorem dX3_addNeed_0 : decode cX3_addNeed 0 = .ok (.aload_n 0, 1) := by decide +kernel
theorem dX3_addNeed_1 : decode cX3_addNeed 1 = .ok (.iload_n 1, 1) := by decide +kernel
theorem dX3_addNeed_2 : decode cX3_addNeed 2 = .ok (.invokevirtual 74, 3) := by decide +kernel
theorem dX3_addNeed_5 : decode cX3_addNeed 5 = .ok (.ifCond .eq 26, 3) := by decide +kernel
theorem dX3_addNeed_8 : decode cX3_addNeed 8 = .ok (.iload_n 2, 1) := by decide +kernel
theorem dX3_addNeed_9 : decode cX3_addNeed 9 = .ok (.invokestatic 81, 3) := by decide +kernel
theorem dX3_addNeed_12 : decode cX3_addNeed 12 = .ok (.ifCond .eq 19, 3) := by decide +kernel
theorem dX3_addNeed_15 : decode cX3_addNeed 15 = .ok (.aload_n 0, 1) := by decide +kernel
theorem dX3_addNeed_16 : decode cX3_addNeed 16 = .ok (.iload_n 3, 1) := by decide +kernel
theorem dX3_addNeed_17 : decode cX3_addNeed 17 = .ok (.invokevirtual 87, 3) := by decide +kernel
theorem dX3_addNeed_20 : decode cX3_addNeed 20 = .ok (.ifCond .eq 11, 3) := by decide +kernel
theorem dX3_addNeed_23 : decode cX3_addNeed 23 = .ok (.iload_n 3, 1) := by decide +kernel
theorem dX3_addNeed_24 : decode cX3_addNeed 24 = .ok (.iload_n 1, 1) := by decide +kernel
theorem dX3_addNeed_25 : decode cX3_addNeed 25 = .ok (.invokestatic 84, 3) := by decide +kernel
theorem dX3_addNeed_28 : decode cX3_addNeed 28 = .ok (.ifCond .eq 6, 3) := by decide +kernel
theorem dX3_addNeed_31 : decode cX3_addNeed 31 = .ok (.bipush (-2), 2) := by decide +kernel
theorem dX3_addNeed_33 : decode cX3_addNeed 33 = .ok (.ireturn, 1) := by decide +kernel
theorem dX3_addNeed_34 : decode cX3_addNeed 34 = .ok (.aload_n 0, 1) := by decide +kernel
theorem dX3_addNeed_35 : decode cX3_addNeed 35 = .ok (.getfield 56, 3) := by decide +kernel
theorem dX3_addNeed_38 : decode cX3_addNeed 38 = .ok (.bipush 12, 2) := by decide +kernel
theorem dX3_addNeed_40 : decode cX3_addNeed 40 = .ok (.if_icmp .lt 6, 3) := by decide +kernel
theorem dX3_addNeed_43 : decode cX3_addNeed 43 = .ok (.bipush (-4), 2) := by decide +kernel
theorem dX3_addNeed_45 : decode cX3_addNeed 45 = .ok (.ireturn, 1) := by decide +kernel
theorem dX3_addNeed_46 : decode cX3_addNeed 46 = .ok (.aload_n 0, 1) := by decide +kernel
theorem dX3_addNeed_47 : decode cX3_addNeed 47 = .ok (.getfield 33, 3) := by decide +kernel
theorem dX3_addNeed_50 : decode cX3_addNeed 50 = .ok (.aload_n 0, 1) := by decide +kernel
theorem dX3_addNeed_51 : decode cX3_addNeed 51 = .ok (.getfield 56, 3) := by decide +kernel
theorem dX3_addNeed_54 : decode cX3_addNeed 54 = .ok (.iload_n 1, 1) := by decide +kernel
theorem dX3_addNeed_55 : decode cX3_addNeed 55 = .ok (.iastore, 1) := by decide +kernel
theorem dX3_addNeed_56 : decode cX3_addNeed 56 = .ok (.aload_n 0, 1) := by decide +kernel
theorem dX3_addNeed_57 : decode cX3_addNeed 57 = .ok (.getfield 36, 3) := by decide +kernel
theorem dX3_addNeed_60 : decode cX3_addNeed 60 = .ok (.aload_n 0, 1) := by decide +kernel
theorem dX3_addNeed_61 : decode cX3_addNeed 61 = .ok (.getfield 56, 3) := by decide +kernel
theorem dX3_addNeed_64 : decode cX3_addNeed 64 = .ok (.iload_n 2, 1) := by decide +kernel
theorem dX3_addNeed_65 : decode cX3_addNeed 65 = .ok (.iastore, 1) := by decide +kernel
theorem dX3_addNeed_66 : decode cX3_addNeed 66 = .ok (.aload_n 0, 1) := by decide +kernel
theorem dX3_addNeed_67 : decode cX3_addNeed 67 = .ok (.getfield 39, 3) := by decide +kernel
theorem dX3_addNeed_70 : decode cX3_addNeed 70 = .ok (.aload_n 0, 1) := by decide +kernel
theorem dX3_addNeed_71 : decode cX3_addNeed 71 = .ok (.getfield 56, 3) := by decide +kernel
theorem dX3_addNeed_74 : decode cX3_addNeed 74 = .ok (.iload_n 3, 1) := by decide +kernel
theorem dX3_addNeed_75 : decode cX3_addNeed 75 = .ok (.iastore, 1) := by decide +kernel
theorem dX3_addNeed_76 : decode cX3_addNeed 76 = .ok (.aload_n 0, 1) := by decide +kernel
theorem dX3_addNeed_77 : decode cX3_addNeed 77 = .ok (.dup, 1) := by decide +kernel
theorem dX3_addNeed_78 : decode cX3_addNeed 78 = .ok (.getfield 56, 3) := by decide +kernel
theorem dX3_addNeed_81 : decode cX3_addNeed 81 = .ok (.dup_x1, 1) := by decide +kernel
theorem dX3_addNeed_82 : decode cX3_addNeed 82 = .ok (.iconst 1, 1) := by decide +kernel
theorem dX3_addNeed_83 : decode cX3_addNeed 83 = .ok (.iadd, 1) := by decide +kernel
theorem dX3_addNeed_84 : decode cX3_addNeed 84 = .ok (.putfield 56, 3) := by decide +kernel
theorem dX3_addNeed_87 : decode cX3_addNeed 87 = .ok (.ireturn, 1) := by decide +kernel
theorem dX3_dropNeed_0 : decode cX3_dropNeed 0 = .ok (.aload_n 0, 1) := by decide +kernel
theorem dX3_dropNeed_1 : decode cX3_dropNeed 1 = .ok (.getfield 56, 3) := by decide +kernel
theorem dX3_dropNeed_4 : decode cX3_dropNeed 4 = .ok (.ifCond .gt 6, 3) := by decide +kernel
theorem dX3_dropNeed_7 : decode cX3_dropNeed 7 = .ok (.bipush (-3), 2) := by decide +kernel
theorem dX3_dropNeed_9 : decode cX3_dropNeed 9 = .ok (.ireturn, 1) := by decide +kernel
theorem dX3_dropNeed_10 : decode cX3_dropNeed 10 = .ok (.aload_n 0, 1) := by decide +kernel
theorem dX3_dropNeed_11 : decode cX3_dropNeed 11 = .ok (.dup, 1) := by decide +kernel
theorem dX3_dropNeed_12 : decode cX3_dropNeed 12 = .ok (.getfield 56, 3) := by decide +kernel
theorem dX3_dropNeed_15 : decode cX3_dropNeed 15 = .ok (.iconst 1, 1) := by decide +kernel
theorem dX3_dropNeed_16 : decode cX3_dropNeed 16 = .ok (.isub, 1) := by decide +kernel
theorem dX3_dropNeed_17 : decode cX3_dropNeed 17 = .ok (.putfield 56, 3) := by decide +kernel
theorem dX3_dropNeed_20 : decode cX3_dropNeed 20 = .ok (.aload_n 0, 1) := by decide +kernel
theorem dX3_dropNeed_21 : decode cX3_dropNeed 21 = .ok (.getfield 56, 3) := by decide +kernel
theorem dX3_dropNeed_24 : decode cX3_dropNeed 24 = .ok (.ireturn, 1) := by decide +kernel
set_option maxRecDepth 20000 in
theorem ggX3_addSign_X3_signOf : GoodIn wsX3_addSign wsX3_signOf := goodIn_r _ [7, 1, 2, 8, 9, 10, 11, 12, 13, 14, 15, 16, 17, 18, 19, 20, 21, 22] (by decide +kernel) (by decide +kernel)
set_option maxRecDepth 20000 in
theorem gX3_addSign_X3_signOf : GoodIn wsX3_addSign (wsV RX3 90 RX3 yX3_signOf wsX3_signOf) := goodIn_app (goodIn_of _ (by decide +kernel)) ggX3_addSign_X3_signOf
theorem dX3_addSign_0 : decode cX3_addSign 0 = .ok (.iload_n 1, 1) := by decide +kernel
theorem dX3_addSign_1 : decode cX3_addSign 1 = .ok (.iconst 1, 1) := by decide +kernel
theorem dX3_addSign_2 : decode cX3_addSign 2 = .ok (.if_icmp .lt 19, 3) := by decide +kernel
theorem dX3_addSign_5 : decode cX3_addSign 5 = .ok (.iload_n 1, 1) := by decide +kernel
theorem dX3_addSign_6 : decode cX3_addSign 6 = .ok (.sipush 255, 3) := by decide +kernel
theorem dX3_addSign_9 : decode cX3_addSign 9 = .ok (.if_icmp .gt 12, 3) := by decide +kernel
theorem dX3_addSign_12 : decode cX3_addSign 12 = .ok (.aload_n 0, 1) := by decide +kernel
theorem dX3_addSign_13 : decode cX3_addSign 13 = .ok (.iload_n 1, 1) := by decide +kernel
theorem dX3_addSign_14 : decode cX3_addSign 14 = .ok (.invokevirtual 90, 3) := by decide +kernel
theorem dX3_addSign_17 : decode cX3_addSign 17 = .ok (.iconst (-1), 1) := by decide +kernel
theorem dX3_addSign_18 : decode cX3_addSign 18 = .ok (.if_icmp .eq 6, 3) := by decide +kernel
theorem dX3_addSign_21 : decode cX3_addSign 21 = .ok (.bipush (-2), 2) := by decide +kernel
theorem dX3_addSign_23 : decode cX3_addSign 23 = .ok (.ireturn, 1) := by decide +kernel
theorem dX3_addSign_24 : decode cX3_addSign 24 = .ok (.aload_n 0, 1) := by decide +kernel
theorem dX3_addSign_25 : decode cX3_addSign 25 = .ok (.getfield 59, 3) := by decide +kernel
theorem dX3_addSign_28 : decode cX3_addSign 28 = .ok (.bipush 6, 2) := by decide +kernel
theorem dX3_addSign_30 : decode cX3_addSign 30 = .ok (.if_icmp .lt 6, 3) := by decide +kernel
theorem dX3_addSign_33 : decode cX3_addSign 33 = .ok (.bipush (-4), 2) := by decide +kernel
theorem dX3_addSign_35 : decode cX3_addSign 35 = .ok (.ireturn, 1) := by decide +kernel
theorem dX3_addSign_36 : decode cX3_addSign 36 = .ok (.aload_n 0, 1) := by decide +kernel
theorem dX3_addSign_37 : decode cX3_addSign 37 = .ok (.getfield 42, 3) := by decide +kernel
theorem dX3_addSign_40 : decode cX3_addSign 40 = .ok (.aload_n 0, 1) := by decide +kernel
theorem dX3_addSign_41 : decode cX3_addSign 41 = .ok (.getfield 59, 3) := by decide +kernel
theorem dX3_addSign_44 : decode cX3_addSign 44 = .ok (.iload_n 1, 1) := by decide +kernel
theorem dX3_addSign_45 : decode cX3_addSign 45 = .ok (.iastore, 1) := by decide +kernel
theorem dX3_addSign_46 : decode cX3_addSign 46 = .ok (.aload_n 0, 1) := by decide +kernel
theorem dX3_addSign_47 : decode cX3_addSign 47 = .ok (.dup, 1) := by decide +kernel
theorem dX3_addSign_48 : decode cX3_addSign 48 = .ok (.getfield 59, 3) := by decide +kernel
theorem dX3_addSign_51 : decode cX3_addSign 51 = .ok (.dup_x1, 1) := by decide +kernel
theorem dX3_addSign_52 : decode cX3_addSign 52 = .ok (.iconst 1, 1) := by decide +kernel
theorem dX3_addSign_53 : decode cX3_addSign 53 = .ok (.iadd, 1) := by decide +kernel
theorem dX3_addSign_54 : decode cX3_addSign 54 = .ok (.putfield 59, 3) := by decide +kernel
theorem dX3_addSign_57 : decode cX3_addSign 57 = .ok (.ireturn, 1) := by decide +kernel
theorem dX3_heardIn_0 : decode cX3_heardIn 0 = .ok (.aload_n 0, 1) := by decide +kernel
theorem dX3_heardIn_1 : decode cX3_heardIn 1 = .ok (.getfield 21, 3) := by decide +kernel
theorem dX3_heardIn_4 : decode cX3_heardIn 4 = .ok (.iload_n 1, 1) := by decide +kernel
theorem dX3_heardIn_5 : decode cX3_heardIn 5 = .ok (.iconst 4, 1) := by decide +kernel
theorem dX3_heardIn_6 : decode cX3_heardIn 6 = .ok (.imul, 1) := by decide +kernel
theorem dX3_heardIn_7 : decode cX3_heardIn 7 = .ok (.iload_n 2, 1) := by decide +kernel
theorem dX3_heardIn_8 : decode cX3_heardIn 8 = .ok (.iadd, 1) := by decide +kernel
theorem dX3_heardIn_9 : decode cX3_heardIn 9 = .ok (.iaload, 1) := by decide +kernel
theorem dX3_heardIn_10 : decode cX3_heardIn 10 = .ok (.aload_n 0, 1) := by decide +kernel
theorem dX3_heardIn_11 : decode cX3_heardIn 11 = .ok (.getfield 24, 3) := by decide +kernel
theorem dX3_heardIn_14 : decode cX3_heardIn 14 = .ok (.iload_n 1, 1) := by decide +kernel
theorem dX3_heardIn_15 : decode cX3_heardIn 15 = .ok (.iaload, 1) := by decide +kernel
theorem dX3_heardIn_16 : decode cX3_heardIn 16 = .ok (.iconst (-1), 1) := by decide +kernel
theorem dX3_heardIn_17 : decode cX3_heardIn 17 = .ok (.ixor, 1) := by decide +kernel
theorem dX3_heardIn_18 : decode cX3_heardIn 18 = .ok (.iand, 1) := by decide +kernel
theorem dX3_heardIn_19 : decode cX3_heardIn 19 = .ok (.ireturn, 1) := by decide +kernel
set_option maxRecDepth 20000 in
theorem ggX3_heardInAnyWind_X3_heardIn : GoodIn wsX3_heardInAnyWind wsX3_heardIn := goodIn_r _ [5, 6, 7, 8, 9, 10, 11, 12, 13, 14, 15, 16, 17, 18, 19, 20, 21, 22] (by decide +kernel) (by decide +kernel)
set_option maxRecDepth 20000 in
theorem gX3_heardInAnyWind_X3_heardIn : GoodIn wsX3_heardInAnyWind (wsV RX3 94 RX3 yX3_heardIn wsX3_heardIn) := goodIn_app (goodIn_of _ (by decide +kernel)) ggX3_heardInAnyWind_X3_heardIn
theorem dX3_heardInAnyWind_0 : decode cX3_heardInAnyWind 0 = .ok (.iconst 0, 1) := by decide +kernel
theorem dX3_heardInAnyWind_1 : decode cX3_heardInAnyWind 1 = .ok (.istore_n 2, 1) := by decide +kernel
theorem dX3_heardInAnyWind_2 : decode cX3_heardInAnyWind 2 = .ok (.iconst 0, 1) := by decide +kernel
theorem dX3_heardInAnyWind_3 : decode cX3_heardInAnyWind 3 = .ok (.istore_n 3, 1) := by decide +kernel
theorem dX3_heardInAnyWind_4 : decode cX3_heardInAnyWind 4 = .ok (.iload_n 3, 1) := by decide +kernel
theorem dX3_heardInAnyWind_5 : decode cX3_heardInAnyWind 5 = .ok (.iconst 4, 1) := by decide +kernel
theorem dX3_heardInAnyWind_6 : decode cX3_heardInAnyWind 6 = .ok (.if_icmp .ge 18, 3) := by decide +kernel
theorem dX3_heardInAnyWind_9 : decode cX3_heardInAnyWind 9 = .ok (.iload_n 2, 1) := by decide +kernel
theorem dX3_heardInAnyWind_10 : decode cX3_heardInAnyWind 10 = .ok (.aload_n 0, 1) := by decide +kernel
theorem dX3_heardInAnyWind_11 : decode cX3_heardInAnyWind 11 = .ok (.iload_n 1, 1) := by decide +kernel
theorem dX3_heardInAnyWind_12 : decode cX3_heardInAnyWind 12 = .ok (.iload_n 3, 1) := by decide +kernel
theorem dX3_heardInAnyWind_13 : decode cX3_heardInAnyWind 13 = .ok (.invokevirtual 94, 3) := by decide +kernel
theorem dX3_heardInAnyWind_16 : decode cX3_heardInAnyWind 16 = .ok (.ior, 1) := by decide +kernel
theorem dX3_heardInAnyWind_17 : decode cX3_heardInAnyWind 17 = .ok (.istore_n 2, 1) := by decide +kernel
theorem dX3_heardInAnyWind_18 : decode cX3_heardInAnyWind 18 = .ok (.iinc 3 1, 3) := by decide +kernel
theorem dX3_heardInAnyWind_21 : decode cX3_heardInAnyWind 21 = .ok (.goto (-17), 3) := by decide +kernel
theorem dX3_heardInAnyWind_24 : decode cX3_heardInAnyWind 24 = .ok (.iload_n 2, 1) := by decide +kernel
theorem dX3_heardInAnyWind_25 : decode cX3_heardInAnyWind 25 = .ok (.ireturn, 1) := by decide +kernel
set_option maxRecDepth 20000 in
theorem ggX3_dueFor_X3_heardIn : GoodIn wsX3_dueFor wsX3_heardIn := goodIn_r _ [10, 11, 12, 16, 17, 18, 19, 20, 21, 22, 23, 24, 25, 26, 27, 28, 29, 30] (by decide +kernel) (by decide +kernel)
set_option maxRecDepth 20000 in
theorem gX3_dueFor_X3_heardIn : GoodIn wsX3_dueFor (wsV RX3 94 RX3 yX3_heardIn wsX3_heardIn) := goodIn_app (goodIn_of _ (by decide +kernel)) ggX3_dueFor_X3_heardIn
set_option maxRecDepth 20000 in
theorem ggX3_dueFor_X6_has : GoodIn wsX3_dueFor wsX6_has := goodIn_r _ [15] (by decide +kernel) (by decide +kernel)
set_option maxRecDepth 20000 in
theorem gX3_dueFor_X6_has_n84 : GoodIn wsX3_dueFor (wsX6_has) := ggX3_dueFor_X6_has
theorem dX3_dueFor_0 : decode cX3_dueFor 0 = .ok (.iconst 0, 1) := by decide +kernel
theorem dX3_dueFor_1 : decode cX3_dueFor 1 = .ok (.istore_n 2, 1) := by decide +kernel
theorem dX3_dueFor_2 : decode cX3_dueFor 2 = .ok (.iconst 0, 1) := by decide +kernel
theorem dX3_dueFor_3 : decode cX3_dueFor 3 = .ok (.istore_n 3, 1) := by decide +kernel
theorem dX3_dueFor_4 : decode cX3_dueFor 4 = .ok (.iload_n 3, 1) := by decide +kernel
theorem dX3_dueFor_5 : decode cX3_dueFor 5 = .ok (.aload_n 0, 1) := by decide +kernel
theorem dX3_dueFor_6 : decode cX3_dueFor 6 = .ok (.getfield 49, 3) := by decide +kernel
theorem dX3_dueFor_9 : decode cX3_dueFor 9 = .ok (.if_icmp .ge 43, 3) := by decide +kernel
theorem dX3_dueFor_12 : decode cX3_dueFor 12 = .ok (.aload_n 0, 1) := by decide +kernel
theorem dX3_dueFor_13 : decode cX3_dueFor 13 = .ok (.iload_n 3, 1) := by decide +kernel
theorem dX3_dueFor_14 : decode cX3_dueFor 14 = .ok (.aload_n 0, 1) := by decide +kernel
theorem dX3_dueFor_15 : decode cX3_dueFor 15 = .ok (.getfield 36, 3) := by decide +kernel
theorem dX3_dueFor_18 : decode cX3_dueFor 18 = .ok (.iload_n 1, 1) := by decide +kernel
theorem dX3_dueFor_19 : decode cX3_dueFor 19 = .ok (.iaload, 1) := by decide +kernel
theorem dX3_dueFor_20 : decode cX3_dueFor 20 = .ok (.invokevirtual 94, 3) := by decide +kernel
theorem dX3_dueFor_23 : decode cX3_dueFor 23 = .ok (.aload_n 0, 1) := by decide +kernel
theorem dX3_dueFor_24 : decode cX3_dueFor 24 = .ok (.getfield 33, 3) := by decide +kernel
theorem dX3_dueFor_27 : decode cX3_dueFor 27 = .ok (.iload_n 1, 1) := by decide +kernel
theorem dX3_dueFor_28 : decode cX3_dueFor 28 = .ok (.iaload, 1) := by decide +kernel
theorem dX3_dueFor_29 : decode cX3_dueFor 29 = .ok (.invokestatic 84, 3) := by decide +kernel
theorem dX3_dueFor_32 : decode cX3_dueFor 32 = .ok (.ifCond .eq 14, 3) := by decide +kernel
theorem dX3_dueFor_35 : decode cX3_dueFor 35 = .ok (.iload_n 2, 1) := by decide +kernel
theorem dX3_dueFor_36 : decode cX3_dueFor 36 = .ok (.iconst 1, 1) := by decide +kernel
theorem dX3_dueFor_37 : decode cX3_dueFor 37 = .ok (.aload_n 0, 1) := by decide +kernel
theorem dX3_dueFor_38 : decode cX3_dueFor 38 = .ok (.getfield 18, 3) := by decide +kernel
theorem dX3_dueFor_41 : decode cX3_dueFor 41 = .ok (.iload_n 3, 1) := by decide +kernel
theorem dX3_dueFor_42 : decode cX3_dueFor 42 = .ok (.iaload, 1) := by decide +kernel
theorem dX3_dueFor_43 : decode cX3_dueFor 43 = .ok (.ishl, 1) := by decide +kernel
theorem dX3_dueFor_44 : decode cX3_dueFor 44 = .ok (.ior, 1) := by decide +kernel
theorem dX3_dueFor_45 : decode cX3_dueFor 45 = .ok (.istore_n 2, 1) := by decide +kernel
theorem dX3_dueFor_46 : decode cX3_dueFor 46 = .ok (.iinc 3 1, 3) := by decide +kernel
theorem dX3_dueFor_49 : decode cX3_dueFor 49 = .ok (.goto (-45), 3) := by decide +kernel
theorem dX3_dueFor_52 : decode cX3_dueFor 52 = .ok (.iload_n 2, 1) := by decide +kernel
theorem dX3_dueFor_53 : decode cX3_dueFor 53 = .ok (.aload_n 0, 1) := by decide +kernel
theorem dX3_dueFor_54 : decode cX3_dueFor 54 = .ok (.getfield 39, 3) := by decide +kernel
theorem dX3_dueFor_57 : decode cX3_dueFor 57 = .ok (.iload_n 1, 1) := by decide +kernel
theorem dX3_dueFor_58 : decode cX3_dueFor 58 = .ok (.iaload, 1) := by decide +kernel
theorem dX3_dueFor_59 : decode cX3_dueFor 59 = .ok (.iand, 1) := by decide +kernel
theorem dX3_dueFor_60 : decode cX3_dueFor 60 = .ok (.ireturn, 1) := by decide +kernel
