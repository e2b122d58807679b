set_option maxRecDepth 20000 in
theorem ggX7_isHeard_X7_in : GoodIn wsX7_isHeard wsX7_in := goodIn_r _ [4] (by decide +kernel) (by decide +kernel)
set_option maxRecDepth 20000 in
theorem gX7_isHeard_X7_in : GoodIn wsX7_isHeard (va_wsS RX7 49 yX7_in wsX7_in) := goodIn_app (goodIn_of _ (by decide +kernel)) ggX7_isHeard_X7_in
set_option maxRecDepth 20000 in
theorem ggX7_isHeard_X7_isSet : GoodIn wsX7_isHeard wsX7_isSet := goodIn_r _ [8, 9, 1, 2, 3, 4, 10, 11, 12, 13, 14, 15, 16, 17, 18, 19, 20, 21, 22, 23, 24, 25] (by decide +kernel) (by decide +kernel)
set_option maxRecDepth 20000 in
theorem gX7_isHeard_X7_isSet : GoodIn wsX7_isHeard (wsV RX7 60 RX7 yX7_isSet wsX7_isSet) := goodIn_app (goodIn_of _ (by decide +kernel)) ggX7_isHeard_X7_isSet
theorem dX7_isHeard_0 : decode cX7_isHeard 0 = .ok (.iload_n 1, 1) := by decide +kernel
theorem dX7_isHeard_1 : decode cX7_isHeard 1 = .ok (.iconst 0, 1) := by decide +kernel
theorem dX7_isHeard_2 : decode cX7_isHeard 2 = .ok (.iconst 3, 1) := by decide +kernel
theorem dX7_isHeard_3 : decode cX7_isHeard 3 = .ok (.invokestatic 49, 3) := by decide +kernel
theorem dX7_isHeard_6 : decode cX7_isHeard 6 = .ok (.ifCond .eq 29, 3) := by decide +kernel
theorem dX7_isHeard_9 : decode cX7_isHeard 9 = .ok (.aload_n 0, 1) := by decide +kernel
theorem dX7_isHeard_10 : decode cX7_isHeard 10 = .ok (.iload_n 2, 1) := by decide +kernel
theorem dX7_isHeard_11 : decode cX7_isHeard 11 = .ok (.invokevirtual 60, 3) := by decide +kernel
theorem dX7_isHeard_14 : decode cX7_isHeard 14 = .ok (.ifCond .eq 21, 3) := by decide +kernel
theorem dX7_isHeard_17 : decode cX7_isHeard 17 = .ok (.aload_n 0, 1) := by decide +kernel
theorem dX7_isHeard_18 : decode cX7_isHeard 18 = .ok (.iload_n 3, 1) := by decide +kernel
theorem dX7_isHeard_19 : decode cX7_isHeard 19 = .ok (.invokevirtual 60, 3) := by decide +kernel
theorem dX7_isHeard_22 : decode cX7_isHeard 22 = .ok (.ifCond .eq 13, 3) := by decide +kernel
theorem dX7_isHeard_25 : decode cX7_isHeard 25 = .ok (.iload_n 2, 1) := by decide +kernel
theorem dX7_isHeard_26 : decode cX7_isHeard 26 = .ok (.iload_n 3, 1) := by decide +kernel
theorem dX7_isHeard_27 : decode cX7_isHeard 27 = .ok (.iand, 1) := by decide +kernel
theorem dX7_isHeard_28 : decode cX7_isHeard 28 = .ok (.ifCond .ne 7, 3) := by decide +kernel
theorem dX7_isHeard_31 : decode cX7_isHeard 31 = .ok (.iconst 1, 1) := by decide +kernel
theorem dX7_isHeard_32 : decode cX7_isHeard 32 = .ok (.goto 4, 3) := by decide +kernel
theorem dX7_isHeard_35 : decode cX7_isHeard 35 = .ok (.iconst 0, 1) := by decide +kernel
theorem dX7_isHeard_36 : decode cX7_isHeard 36 = .ok (.ireturn, 1) := by decide +kernel
set_option maxRecDepth 20000 in
theorem ggX7_came_X7_isHeard : GoodIn wsX7_came wsX7_isHeard := goodIn_r _ [5, 6, 7, 4, 8, 9, 10, 11, 12, 13, 35, 36, 37, 38, 39, 40, 41, 42, 43, 44, 45, 46, 47, 48, 49, 50] (by decide +kernel) (by decide +kernel)
set_option maxRecDepth 20000 in
theorem gX7_came_X7_isHeard : GoodIn wsX7_came (wsV RX7 201 RX7 yX7_isHeard wsX7_isHeard) := goodIn_app (goodIn_of _ (by decide +kernel)) ggX7_came_X7_isHeard
set_option maxRecDepth 20000 in
theorem ggX7_came_X7_bells : GoodIn wsX7_came wsX7_bells := goodIn_r _ [17, 13, 18, 19, 20, 4, 21, 22, 23, 24, 25, 35, 36, 37, 38, 39, 40, 41, 42, 43, 44, 45, 46, 47, 48, 49, 50] (by decide +kernel) (by decide +kernel)
set_option maxRecDepth 20000 in
theorem gX7_came_X7_bells : GoodIn wsX7_came (wsV RX7 204 RX7 yX7_bells wsX7_bells) := goodIn_app (goodIn_of _ (by decide +kernel)) ggX7_came_X7_bells
set_option maxRecDepth 20000 in
theorem ggX7_came_X7_bad : GoodIn wsX7_came wsX7_bad := goodIn_r _ [29, 30, 31, 32, 4, 33, 34, 35, 36, 37, 38, 39, 40, 41, 42, 43, 44, 45, 46, 47, 48, 49, 50] (by decide +kernel) (by decide +kernel)
set_option maxRecDepth 20000 in
theorem gX7_came_X7_bad : GoodIn wsX7_came (wsV RX7 63 RX7 yX7_bad wsX7_bad) := goodIn_app (goodIn_of _ (by decide +kernel)) ggX7_came_X7_bad
theorem dX7_came_0 : decode cX7_came 0 = .ok (.aload_n 0, 1) := by decide +kernel
theorem dX7_came_1 : decode cX7_came 1 = .ok (.iload_n 1, 1) := by decide +kernel
theorem dX7_came_2 : decode cX7_came 2 = .ok (.iload_n 2, 1) := by decide +kernel
theorem dX7_came_3 : decode cX7_came 3 = .ok (.iload_n 3, 1) := by decide +kernel
theorem dX7_came_4 : decode cX7_came 4 = .ok (.invokevirtual 201, 3) := by decide +kernel
theorem dX7_came_7 : decode cX7_came 7 = .ok (.ifCond .eq 13, 3) := by decide +kernel
theorem dX7_came_10 : decode cX7_came 10 = .ok (.aload_n 0, 1) := by decide +kernel
theorem dX7_came_11 : decode cX7_came 11 = .ok (.iload_n 1, 1) := by decide +kernel
theorem dX7_came_12 : decode cX7_came 12 = .ok (.iload_n 2, 1) := by decide +kernel
theorem dX7_came_13 : decode cX7_came 13 = .ok (.iload_n 3, 1) := by decide +kernel
theorem dX7_came_14 : decode cX7_came 14 = .ok (.invokevirtual 204, 3) := by decide +kernel
theorem dX7_came_17 : decode cX7_came 17 = .ok (.goto 7, 3) := by decide +kernel
theorem dX7_came_20 : decode cX7_came 20 = .ok (.aload_n 0, 1) := by decide +kernel
theorem dX7_came_21 : decode cX7_came 21 = .ok (.invokevirtual 63, 3) := by decide +kernel
theorem dX7_came_24 : decode cX7_came 24 = .ok (.ireturn, 1) := by decide +kernel
set_option maxRecDepth 20000 in
theorem ggX7_ask_X7_isHeard : GoodIn wsX7_ask wsX7_isHeard := goodIn_r _ [6, 7, 8, 5, 9, 10, 11, 12, 13, 1, 38, 39, 40, 41, 42, 43, 44, 45, 46, 47, 48, 49, 50, 51, 52, 53] (by decide +kernel) (by decide +kernel)
set_option maxRecDepth 20000 in
theorem gX7_ask_X7_isHeard : GoodIn wsX7_ask (wsV RX7 201 RX7 yX7_isHeard wsX7_isHeard) := goodIn_app (goodIn_of _ (by decide +kernel)) ggX7_ask_X7_isHeard
set_option maxRecDepth 20000 in
theorem ggX7_ask_X7_bad : GoodIn wsX7_ask wsX7_bad := goodIn_r _ [17, 18, 19, 20, 5, 21, 22, 38, 39, 40, 41, 42, 43, 44, 45, 46, 47, 48, 49, 50, 51, 52, 53] (by decide +kernel) (by decide +kernel)
set_option maxRecDepth 20000 in
theorem gX7_ask_X7_bad : GoodIn wsX7_ask (wsV RX7 63 RX7 yX7_bad wsX7_bad) := goodIn_app (goodIn_of _ (by decide +kernel)) ggX7_ask_X7_bad
set_option maxRecDepth 20000 in
theorem ggX7_ask_X7_bells : GoodIn wsX7_ask wsX7_bells := goodIn_r _ [26, 1, 27, 28, 29, 5, 30, 31, 32, 33, 34, 38, 39, 40, 41, 42, 43, 44, 45, 46, 47, 48, 49, 50, 51, 52, 53] (by decide +kernel) (by decide +kernel)
set_option maxRecDepth 20000 in
theorem gX7_ask_X7_bells : GoodIn wsX7_ask (wsV RX7 204 RX7 yX7_bells wsX7_bells) := goodIn_app (goodIn_of _ (by decide +kernel)) ggX7_ask_X7_bells
set_option maxRecDepth 20000 in
theorem ggX7_ask_X7_ones : GoodIn wsX7_ask wsX7_ones := goodIn_r _ [37] (by decide +kernel) (by decide +kernel)
set_option maxRecDepth 20000 in
theorem gX7_ask_X7_ones : GoodIn wsX7_ask (va_wsS RX7 198 yX7_ones wsX7_ones) := goodIn_app (goodIn_of _ (by decide +kernel)) ggX7_ask_X7_ones
theorem dX7_ask_0 : decode cX7_ask 0 = .ok (.aload_n 0, 1) := by decide +kernel
theorem dX7_ask_1 : decode cX7_ask 1 = .ok (.iload_n 1, 1) := by decide +kernel
theorem dX7_ask_2 : decode cX7_ask 2 = .ok (.iload_n 2, 1) := by decide +kernel
theorem dX7_ask_3 : decode cX7_ask 3 = .ok (.iload_n 3, 1) := by decide +kernel
theorem dX7_ask_4 : decode cX7_ask 4 = .ok (.invokevirtual 201, 3) := by decide +kernel
theorem dX7_ask_7 : decode cX7_ask 7 = .ok (.ifCond .ne 8, 3) := by decide +kernel
theorem dX7_ask_10 : decode cX7_ask 10 = .ok (.aload_n 0, 1) := by decide +kernel
theorem dX7_ask_11 : decode cX7_ask 11 = .ok (.invokevirtual 63, 3) := by decide +kernel
theorem dX7_ask_14 : decode cX7_ask 14 = .ok (.ireturn, 1) := by decide +kernel
theorem dX7_ask_15 : decode cX7_ask 15 = .ok (.iconst 0, 1) := by decide +kernel
theorem dX7_ask_16 : decode cX7_ask 16 = .ok (.istore 4, 2) := by decide +kernel
theorem dX7_ask_18 : decode cX7_ask 18 = .ok (.iconst (-1), 1) := by decide +kernel
theorem dX7_ask_19 : decode cX7_ask 19 = .ok (.istore 5, 2) := by decide +kernel
theorem dX7_ask_21 : decode cX7_ask 21 = .ok (.iconst 0, 1) := by decide +kernel
theorem dX7_ask_22 : decode cX7_ask 22 = .ok (.istore 6, 2) := by decide +kernel
theorem dX7_ask_24 : decode cX7_ask 24 = .ok (.iload 6, 2) := by decide +kernel
theorem dX7_ask_26 : decode cX7_ask 26 = .ok (.aload_n 0, 1) := by decide +kernel
theorem dX7_ask_27 : decode cX7_ask 27 = .ok (.getfield 7, 3) := by decide +kernel
theorem dX7_ask_30 : decode cX7_ask 30 = .ok (.iconst 0, 1) := by decide +kernel
theorem dX7_ask_31 : decode cX7_ask 31 = .ok (.iaload, 1) := by decide +kernel
theorem dX7_ask_32 : decode cX7_ask 32 = .ok (.if_icmp .ge 112, 3) := by decide +kernel
theorem dX7_ask_35 : decode cX7_ask 35 = .ok (.aload_n 0, 1) := by decide +kernel
theorem dX7_ask_36 : decode cX7_ask 36 = .ok (.iload_n 1, 1) := by decide +kernel
theorem dX7_ask_37 : decode cX7_ask 37 = .ok (.iload_n 2, 1) := by decide +kernel
theorem dX7_ask_38 : decode cX7_ask 38 = .ok (.iconst 1, 1) := by decide +kernel
theorem dX7_ask_39 : decode cX7_ask 39 = .ok (.iload 6, 2) := by decide +kernel
theorem dX7_ask_41 : decode cX7_ask 41 = .ok (.ishl, 1) := by decide +kernel
theorem dX7_ask_42 : decode cX7_ask 42 = .ok (.ior, 1) := by decide +kernel
theorem dX7_ask_43 : decode cX7_ask 43 = .ok (.iload_n 3, 1) := by decide +kernel
theorem dX7_ask_44 : decode cX7_ask 44 = .ok (.invokevirtual 204, 3) := by decide +kernel
theorem dX7_ask_47 : decode cX7_ask 47 = .ok (.invokestatic 198, 3) := by decide +kernel
theorem dX7_ask_50 : decode cX7_ask 50 = .ok (.istore 7, 2) := by decide +kernel
theorem dX7_ask_52 : decode cX7_ask 52 = .ok (.aload_n 0, 1) := by decide +kernel
theorem dX7_ask_53 : decode cX7_ask 53 = .ok (.iload_n 1, 1) := by decide +kernel
theorem dX7_ask_54 : decode cX7_ask 54 = .ok (.iload_n 2, 1) := by decide +kernel
theorem dX7_ask_55 : decode cX7_ask 55 = .ok (.iload_n 3, 1) := by decide +kernel
theorem dX7_ask_56 : decode cX7_ask 56 = .ok (.iconst 1, 1) := by decide +kernel
theorem dX7_ask_57 : decode cX7_ask 57 = .ok (.iload 6, 2) := by decide +kernel
theorem dX7_ask_59 : decode cX7_ask 59 = .ok (.ishl, 1) := by decide +kernel
theorem dX7_ask_60 : decode cX7_ask 60 = .ok (.ior, 1) := by decide +kernel
theorem dX7_ask_61 : decode cX7_ask 61 = .ok (.invokevirtual 204, 3) := by decide +kernel
theorem dX7_ask_64 : decode cX7_ask 64 = .ok (.invokestatic 198, 3) := by decide +kernel
theorem dX7_ask_67 : decode cX7_ask 67 = .ok (.istore 8, 2) := by decide +kernel
theorem dX7_ask_69 : decode cX7_ask 69 = .ok (.iload 7, 2) := by decide +kernel
theorem dX7_ask_71 : decode cX7_ask 71 = .ok (.iload 8, 2) := by decide +kernel
theorem dX7_ask_73 : decode cX7_ask 73 = .ok (.if_icmp .ge 8, 3) := by decide +kernel
theorem dX7_ask_76 : decode cX7_ask 76 = .ok (.iload 7, 2) := by decide +kernel
theorem dX7_ask_78 : decode cX7_ask 78 = .ok (.goto 5, 3) := by decide +kernel
theorem dX7_ask_81 : decode cX7_ask 81 = .ok (.iload 8, 2) := by decide +kernel
theorem dX7_ask_83 : decode cX7_ask 83 = .ok (.istore 9, 2) := by decide +kernel
theorem dX7_ask_85 : decode cX7_ask 85 = .ok (.iload_n 2, 1) := by decide +kernel
theorem dX7_ask_86 : decode cX7_ask 86 = .ok (.iload_n 3, 1) := by decide +kernel
theorem dX7_ask_87 : decode cX7_ask 87 = .ok (.ior, 1) := by decide +kernel
theorem dX7_ask_88 : decode cX7_ask 88 = .ok (.iload 6, 2) := by decide +kernel
theorem dX7_ask_90 : decode cX7_ask 90 = .ok (.ishr, 1) := by decide +kernel
theorem dX7_ask_91 : decode cX7_ask 91 = .ok (.iconst 1, 1) := by decide +kernel
theorem dX7_ask_92 : decode cX7_ask 92 = .ok (.iand, 1) := by decide +kernel
theorem dX7_ask_93 : decode cX7_ask 93 = .ok (.ifCond .ne 14, 3) := by decide +kernel
theorem dX7_ask_96 : decode cX7_ask 96 = .ok (.iload 9, 2) := by decide +kernel
theorem dX7_ask_98 : decode cX7_ask 98 = .ok (.iload 4, 2) := by decide +kernel
theorem dX7_ask_100 : decode cX7_ask 100 = .ok (.if_icmp .le 7, 3) := by decide +kernel
theorem dX7_ask_103 : decode cX7_ask 103 = .ok (.iconst 1, 1) := by decide +kernel
theorem dX7_ask_104 : decode cX7_ask 104 = .ok (.goto 4, 3) := by decide +kernel
theorem dX7_ask_107 : decode cX7_ask 107 = .ok (.iconst 0, 1) := by decide +kernel
theorem dX7_ask_108 : decode cX7_ask 108 = .ok (.istore 10, 2) := by decide +kernel
theorem dX7_ask_110 : decode cX7_ask 110 = .ok (.iload 10, 2) := by decide +kernel
theorem dX7_ask_112 : decode cX7_ask 112 = .ok (.ifCond .eq 8, 3) := by decide +kernel
theorem dX7_ask_115 : decode cX7_ask 115 = .ok (.iload 6, 2) := by decide +kernel
theorem dX7_ask_117 : decode cX7_ask 117 = .ok (.goto 5, 3) := by decide +kernel
theorem dX7_ask_120 : decode cX7_ask 120 = .ok (.iload 5, 2) := by decide +kernel
theorem dX7_ask_122 : decode cX7_ask 122 = .ok (.istore 5, 2) := by decide +kernel
theorem dX7_ask_124 : decode cX7_ask 124 = .ok (.iload 10, 2) := by decide +kernel
theorem dX7_ask_126 : decode cX7_ask 126 = .ok (.ifCond .eq 8, 3) := by decide +kernel
theorem dX7_ask_129 : decode cX7_ask 129 = .ok (.iload 9, 2) := by decide +kernel
theorem dX7_ask_131 : decode cX7_ask 131 = .ok (.goto 5, 3) := by decide +kernel
theorem dX7_ask_134 : decode cX7_ask 134 = .ok (.iload 4, 2) := by decide +kernel
theorem dX7_ask_136 : decode cX7_ask 136 = .ok (.istore 4, 2) := by decide +kernel
theorem dX7_ask_138 : decode cX7_ask 138 = .ok (.iinc 6 1, 3) := by decide +kernel
theorem dX7_ask_141 : decode cX7_ask 141 = .ok (.goto (-117), 3) := by decide +kernel
theorem dX7_ask_144 : decode cX7_ask 144 = .ok (.iload 5, 2) := by decide +kernel
theorem dX7_ask_146 : decode cX7_ask 146 = .ok (.ireturn, 1) := by decide +kernel
set_option maxRecDepth 20000 in
theorem ggX7_image_X7_in : GoodIn wsX7_image wsX7_in := goodIn_r _ [7] (by decide +kernel) (by decide +kernel)
set_option maxRecDepth 20000 in
theorem gX7_image_X7_in : GoodIn wsX7_image (va_wsS RX7 49 yX7_in wsX7_in) := goodIn_app (goodIn_of _ (by decide +kernel)) ggX7_image_X7_in
set_option maxRecDepth 20000 in
theorem ggX7_image_X7_bad : GoodIn wsX7_image wsX7_bad := goodIn_r _ [11, 12, 13, 14, 6, 15, 16, 17, 18, 19, 20, 21, 22, 23, 24, 25, 26, 27, 28, 29, 30, 31, 32] (by decide +kernel) (by decide +kernel)
set_option maxRecDepth 20000 in
theorem gX7_image_X7_bad : GoodIn wsX7_image (wsV RX7 63 RX7 yX7_bad wsX7_bad) := goodIn_app (goodIn_of _ (by decide +kernel)) ggX7_image_X7_bad
theorem dX7_image_0 : decode cX7_image 0 = .ok (.iload_n 1, 1) := by decide +kernel
theorem dX7_image_1 : decode cX7_image 1 = .ok (.iconst 0, 1) := by decide +kernel
theorem dX7_image_2 : decode cX7_image 2 = .ok (.iconst 1, 1) := by decide +kernel
theorem dX7_image_3 : decode cX7_image 3 = .ok (.invokestatic 49, 3) := by decide +kernel
theorem dX7_image_6 : decode cX7_image 6 = .ok (.ifCond .ne 8, 3) := by decide +kernel
theorem dX7_image_9 : decode cX7_image 9 = .ok (.aload_n 0, 1) := by decide +kernel
theorem dX7_image_10 : decode cX7_image 10 = .ok (.invokevirtual 63, 3) := by decide +kernel
theorem dX7_image_13 : decode cX7_image 13 = .ok (.ireturn, 1) := by decide +kernel
theorem dX7_image_14 : decode cX7_image 14 = .ok (.iconst 0, 1) := by decide +kernel
theorem dX7_image_15 : decode cX7_image 15 = .ok (.istore_n 2, 1) := by decide +kernel
theorem dX7_image_16 : decode cX7_image 16 = .ok (.iload_n 2, 1) := by decide +kernel
theorem dX7_image_17 : decode cX7_image 17 = .ok (.bipush 104, 2) := by decide +kernel
theorem dX7_image_19 : decode cX7_image 19 = .ok (.if_icmp .ge 26, 3) := by decide +kernel
theorem dX7_image_22 : decode cX7_image 22 = .ok (.aload_n 0, 1) := by decide +kernel
theorem dX7_image_23 : decode cX7_image 23 = .ok (.getfield 16, 3) := by decide +kernel
theorem dX7_image_26 : decode cX7_image 26 = .ok (.bipush 104, 2) := by decide +kernel
theorem dX7_image_28 : decode cX7_image 28 = .ok (.iload_n 1, 1) := by decide +kernel
theorem dX7_image_29 : decode cX7_image 29 = .ok (.imul, 1) := by decide +kernel
theorem dX7_image_30 : decode cX7_image 30 = .ok (.iload_n 2, 1) := by decide +kernel
theorem dX7_image_31 : decode cX7_image 31 = .ok (.iadd, 1) := by decide +kernel
theorem dX7_image_32 : decode cX7_image 32 = .ok (.aload_n 0, 1) := by decide +kernel
theorem dX7_image_33 : decode cX7_image 33 = .ok (.getfield 7, 3) := by decide +kernel
theorem dX7_image_36 : decode cX7_image 36 = .ok (.iload_n 2, 1) := by decide +kernel
theorem dX7_image_37 : decode cX7_image 37 = .ok (.iaload, 1) := by decide +kernel
theorem dX7_image_38 : decode cX7_image 38 = .ok (.iastore, 1) := by decide +kernel
theorem dX7_image_39 : decode cX7_image 39 = .ok (.iinc 2 1, 3) := by decide +kernel
theorem dX7_image_42 : decode cX7_image 42 = .ok (.goto (-26), 3) := by decide +kernel
theorem dX7_image_45 : decode cX7_image 45 = .ok (.aload_n 0, 1) := by decide +kernel
theorem dX7_image_46 : decode cX7_image 46 = .ok (.getfield 19, 3) := by decide +kernel
theorem dX7_image_49 : decode cX7_image 49 = .ok (.iload_n 1, 1) := by decide +kernel
theorem dX7_image_50 : decode cX7_image 50 = .ok (.iconst 1, 1) := by decide +kernel
theorem dX7_image_51 : decode cX7_image 51 = .ok (.bastore, 1) := by decide +kernel
theorem dX7_image_52 : decode cX7_image 52 = .ok (.iconst 1, 1) := by decide +kernel
theorem dX7_image_53 : decode cX7_image 53 = .ok (.ireturn, 1) := by decide +kernel
set_option maxRecDepth 20000 in
theorem ggX7_from_X7_in : GoodIn wsX7_from wsX7_in := goodIn_r _ [7] (by decide +kernel) (by decide +kernel)
set_option maxRecDepth 20000 in
theorem gX7_from_X7_in : GoodIn wsX7_from (va_wsS RX7 49 yX7_in wsX7_in) := goodIn_app (goodIn_of _ (by decide +kernel)) ggX7_from_X7_in
set_option maxRecDepth 20000 in
theorem ggX7_from_X7_bad : GoodIn wsX7_from wsX7_bad := goodIn_r _ [11, 12, 13, 14, 6, 15, 16, 17, 18, 19, 20, 21, 22, 23, 24, 25, 26, 27, 28, 29, 30, 31, 32] (by decide +kernel) (by decide +kernel)
set_option maxRecDepth 20000 in
theorem gX7_from_X7_bad : GoodIn wsX7_from (wsV RX7 63 RX7 yX7_bad wsX7_bad) := goodIn_app (goodIn_of _ (by decide +kernel)) ggX7_from_X7_bad
set_option maxRecDepth 20000 in
theorem ggX7_from_X7_refuses : GoodIn wsX7_from wsX7_refuses := goodIn_r _ [15, 16, 17, 18, 19, 20, 21, 22, 23, 24, 25, 26, 27, 28, 29, 30, 31, 32] (by decide +kernel) (by decide +kernel)
set_option maxRecDepth 20000 in
theorem gX7_from_X7_refuses : GoodIn wsX7_from (wsV RX7 45 RX7 yX7_refuses wsX7_refuses) := goodIn_app (goodIn_of _ (by decide +kernel)) ggX7_from_X7_refuses
theorem dX7_from_0 : decode cX7_from 0 = .ok (.iload_n 1, 1) := by decide +kernel
theorem dX7_from_1 : decode cX7_from 1 = .ok (.iconst 0, 1) := by decide +kernel
theorem dX7_from_2 : decode cX7_from 2 = .ok (.iconst 1, 1) := by decide +kernel
theorem dX7_from_3 : decode cX7_from 3 = .ok (.invokestatic 49, 3) := by decide +kernel
theorem dX7_from_6 : decode cX7_from 6 = .ok (.ifCond .ne 8, 3) := by decide +kernel
theorem dX7_from_9 : decode cX7_from 9 = .ok (.aload_n 0, 1) := by decide +kernel
theorem dX7_from_10 : decode cX7_from 10 = .ok (.invokevirtual 63, 3) := by decide +kernel
theorem dX7_from_13 : decode cX7_from 13 = .ok (.ireturn, 1) := by decide +kernel
theorem dX7_from_14 : decode cX7_from 14 = .ok (.aload_n 0, 1) := by decide +kernel
theorem dX7_from_15 : decode cX7_from 15 = .ok (.getfield 19, 3) := by decide +kernel
theorem dX7_from_18 : decode cX7_from 18 = .ok (.iload_n 1, 1) := by decide +kernel
theorem dX7_from_19 : decode cX7_from 19 = .ok (.baload, 1) := by decide +kernel
theorem dX7_from_20 : decode cX7_from 20 = .ok (.ifCond .ne 11, 3) := by decide +kernel
theorem dX7_from_23 : decode cX7_from 23 = .ok (.aload_n 0, 1) := by decide +kernel
theorem dX7_from_24 : decode cX7_from 24 = .ok (.iconst 1, 1) := by decide +kernel
theorem dX7_from_25 : decode cX7_from 25 = .ok (.bipush (-3), 2) := by decide +kernel
theorem dX7_from_27 : decode cX7_from 27 = .ok (.invokevirtual 45, 3) := by decide +kernel
theorem dX7_from_30 : decode cX7_from 30 = .ok (.ireturn, 1) := by decide +kernel
theorem dX7_from_31 : decode cX7_from 31 = .ok (.iconst 0, 1) := by decide +kernel
theorem dX7_from_32 : decode cX7_from 32 = .ok (.istore_n 2, 1) := by decide +kernel
theorem dX7_from_33 : decode cX7_from 33 = .ok (.iload_n 2, 1) := by decide +kernel
theorem dX7_from_34 : decode cX7_from 34 = .ok (.bipush 104, 2) := by decide +kernel
theorem dX7_from_36 : decode cX7_from 36 = .ok (.if_icmp .ge 26, 3) := by decide +kernel
theorem dX7_from_39 : decode cX7_from 39 = .ok (.aload_n 0, 1) := by decide +kernel
theorem dX7_from_40 : decode cX7_from 40 = .ok (.getfield 7, 3) := by decide +kernel
theorem dX7_from_43 : decode cX7_from 43 = .ok (.iload_n 2, 1) := by decide +kernel
theorem dX7_from_44 : decode cX7_from 44 = .ok (.aload_n 0, 1) := by decide +kernel
theorem dX7_from_45 : decode cX7_from 45 = .ok (.getfield 16, 3) := by decide +kernel
theorem dX7_from_48 : decode cX7_from 48 = .ok (.bipush 104, 2) := by decide +kernel
theorem dX7_from_50 : decode cX7_from 50 = .ok (.iload_n 1, 1) := by decide +kernel
theorem dX7_from_51 : decode cX7_from 51 = .ok (.imul, 1) := by decide +kernel
theorem dX7_from_52 : decode cX7_from 52 = .ok (.iload_n 2, 1) := by decide +kernel
theorem dX7_from_53 : decode cX7_from 53 = .ok (.iadd, 1) := by decide +kernel
theorem dX7_from_54 : decode cX7_from 54 = .ok (.iaload, 1) := by decide +kernel
theorem dX7_from_55 : decode cX7_from 55 = .ok (.iastore, 1) := by decide +kernel
theorem dX7_from_56 : decode cX7_from 56 = .ok (.iinc 2 1, 3) := by decide +kernel
theorem dX7_from_59 : decode cX7_from 59 = .ok (.goto (-26), 3) := by decide +kernel
theorem dX7_from_62 : decode cX7_from 62 = .ok (.iconst 1, 1) := by decide +kernel
theorem dX7_from_63 : decode cX7_from 63 = .ok (.ireturn, 1) := by decide +kernel
set_option maxRecDepth 20000 in
theorem ggX7_status_X7_in : GoodIn wsX7_status wsX7_in := goodIn_r _ [5] (by decide +kernel) (by decide +kernel)
set_option maxRecDepth 20000 in
theorem gX7_status_X7_in : GoodIn wsX7_status (va_wsS RX7 49 yX7_in wsX7_in) := goodIn_app (goodIn_of _ (by decide +kernel)) ggX7_status_X7_in
set_option maxRecDepth 20000 in
theorem ggX7_status_X7_refuses : GoodIn wsX7_status wsX7_refuses := goodIn_r _ [9, 1, 10, 11, 12, 13, 14, 15, 16, 17, 18, 19, 20, 21, 22, 23, 24, 25] (by decide +kernel) (by decide +kernel)
set_option maxRecDepth 20000 in
theorem gX7_status_X7_refuses : GoodIn wsX7_status (wsV RX7 45 RX7 yX7_refuses wsX7_refuses) := goodIn_app (goodIn_of _ (by decide +kernel)) ggX7_status_X7_refuses
theorem dX7_status_0 : decode cX7_status 0 = .ok (.iload_n 1, 1) := by decide +kernel
theorem dX7_status_1 : decode cX7_status 1 = .ok (.iconst 0, 1) := by decide +kernel
theorem dX7_status_2 : decode cX7_status 2 = .ok (.iconst 2, 1) := by decide +kernel
theorem dX7_status_3 : decode cX7_status 3 = .ok (.invokestatic 49, 3) := by decide +kernel
theorem dX7_status_6 : decode cX7_status 6 = .ok (.ifCond .eq 12, 3) := by decide +kernel
theorem dX7_status_9 : decode cX7_status 9 = .ok (.aload_n 0, 1) := by decide +kernel
theorem dX7_status_10 : decode cX7_status 10 = .ok (.getfield 26, 3) := by decide +kernel
theorem dX7_status_13 : decode cX7_status 13 = .ok (.iload_n 1, 1) := by decide +kernel
theorem dX7_status_14 : decode cX7_status 14 = .ok (.iaload, 1) := by decide +kernel
theorem dX7_status_15 : decode cX7_status 15 = .ok (.goto 9, 3) := by decide +kernel
theorem dX7_status_18 : decode cX7_status 18 = .ok (.aload_n 0, 1) := by decide +kernel
theorem dX7_status_19 : decode cX7_status 19 = .ok (.iconst 0, 1) := by decide +kernel
theorem dX7_status_20 : decode cX7_status 20 = .ok (.iconst (-1), 1) := by decide +kernel
theorem dX7_status_21 : decode cX7_status 21 = .ok (.invokevirtual 45, 3) := by decide +kernel
theorem dX7_status_24 : decode cX7_status 24 = .ok (.ireturn, 1) := by decide +kernel
set_option maxRecDepth 20000 in
theorem ggX7_count_X7_in : GoodIn wsX7_count wsX7_in := goodIn_r _ [6] (by decide +kernel) (by decide +kernel)
set_option maxRecDepth 20000 in
theorem gX7_count_X7_in : GoodIn wsX7_count (va_wsS RX7 49 yX7_in wsX7_in) := goodIn_app (goodIn_of _ (by decide +kernel)) ggX7_count_X7_in
set_option maxRecDepth 20000 in
theorem ggX7_count_X7_bad : GoodIn wsX7_count wsX7_bad := goodIn_r _ [10, 11, 12, 13, 5, 14, 15, 16, 17, 18, 19, 20, 21, 22, 23, 24, 25, 26, 27, 28, 29, 30, 31] (by decide +kernel) (by decide +kernel)
set_option maxRecDepth 20000 in
theorem gX7_count_X7_bad : GoodIn wsX7_count (wsV RX7 63 RX7 yX7_bad wsX7_bad) := goodIn_app (goodIn_of _ (by decide +kernel)) ggX7_count_X7_bad
theorem dX7_count_0 : decode cX7_count 0 = .ok (.iload_n 1, 1) := by decide +kernel
theorem dX7_count_1 : decode cX7_count 1 = .ok (.iconst 0, 1) := by decide +kernel
theorem dX7_count_2 : decode cX7_count 2 = .ok (.iconst 3, 1) := by decide +kernel
theorem dX7_count_3 : decode cX7_count 3 = .ok (.invokestatic 49, 3) := by decide +kernel
theorem dX7_count_6 : decode cX7_count 6 = .ok (.ifCond .eq 12, 3) := by decide +kernel
theorem dX7_count_9 : decode cX7_count 9 = .ok (.aload_n 0, 1) := by decide +kernel
theorem dX7_count_10 : decode cX7_count 10 = .ok (.getfield 7, 3) := by decide +kernel
theorem dX7_count_13 : decode cX7_count 13 = .ok (.iload_n 1, 1) := by decide +kernel
theorem dX7_count_14 : decode cX7_count 14 = .ok (.iaload, 1) := by decide +kernel
theorem dX7_count_15 : decode cX7_count 15 = .ok (.goto 19, 3) := by decide +kernel
theorem dX7_count_18 : decode cX7_count 18 = .ok (.iload_n 1, 1) := by decide +kernel
theorem dX7_count_19 : decode cX7_count 19 = .ok (.iconst 4, 1) := by decide +kernel
theorem dX7_count_20 : decode cX7_count 20 = .ok (.if_icmp .ne 10, 3) := by decide +kernel
theorem dX7_count_23 : decode cX7_count 23 = .ok (.aload_n 0, 1) := by decide +kernel
theorem dX7_count_24 : decode cX7_count 24 = .ok (.getfield 94, 3) := by decide +kernel
theorem dX7_count_27 : decode cX7_count 27 = .ok (.goto 7, 3) := by decide +kernel
theorem dX7_count_30 : decode cX7_count 30 = .ok (.aload_n 0, 1) := by decide +kernel
theorem dX7_count_31 : decode cX7_count 31 = .ok (.invokevirtual 63, 3) := by decide +kernel
theorem dX7_count_34 : decode cX7_count 34 = .ok (.ireturn, 1) := by decide +kernel
theorem dX7_digest_0 : decode cX7_digest 0 = .ok (.ldc2_w 207, 3) := by decide +kernel
theorem dX7_digest_3 : decode cX7_digest 3 = .ok (.lstore_n 1, 1) := by decide +kernel
theorem dX7_digest_4 : decode cX7_digest 4 = .ok (.iconst 0, 1) := by decide +kernel
theorem dX7_digest_5 : decode cX7_digest 5 = .ok (.istore_n 3, 1) := by decide +kernel
theorem dX7_digest_6 : decode cX7_digest 6 = .ok (.iload_n 3, 1) := by decide +kernel
theorem dX7_digest_7 : decode cX7_digest 7 = .ok (.iconst 4, 1) := by decide +kernel
theorem dX7_digest_8 : decode cX7_digest 8 = .ok (.if_icmp .ge 23, 3) := by decide +kernel
theorem dX7_digest_11 : decode cX7_digest 11 = .ok (.ldc2_w 209, 3) := by decide +kernel
theorem dX7_digest_14 : decode cX7_digest 14 = .ok (.lload_n 1, 1) := by decide +kernel
theorem dX7_digest_15 : decode cX7_digest 15 = .ok (.lmul, 1) := by decide +kernel
theorem dX7_digest_16 : decode cX7_digest 16 = .ok (.aload_n 0, 1) := by decide +kernel
theorem dX7_digest_17 : decode cX7_digest 17 = .ok (.getfield 7, 3) := by decide +kernel
theorem dX7_digest_20 : decode cX7_digest 20 = .ok (.iload_n 3, 1) := by decide +kernel
theorem dX7_digest_21 : decode cX7_digest 21 = .ok (.iaload, 1) := by decide +kernel
theorem dX7_digest_22 : decode cX7_digest 22 = .ok (.i2l, 1) := by decide +kernel
theorem dX7_digest_23 : decode cX7_digest 23 = .ok (.ladd, 1) := by decide +kernel
theorem dX7_digest_24 : decode cX7_digest 24 = .ok (.lstore_n 1, 1) := by decide +kernel
theorem dX7_digest_25 : decode cX7_digest 25 = .ok (.iinc 3 1, 3) := by decide +kernel
theorem dX7_digest_28 : decode cX7_digest 28 = .ok (.goto (-22), 3) := by decide +kernel
theorem dX7_digest_31 : decode cX7_digest 31 = .ok (.ldc2_w 209, 3) := by decide +kernel
theorem dX7_digest_34 : decode cX7_digest 34 = .ok (.lload_n 1, 1) := by decide +kernel
theorem dX7_digest_35 : decode cX7_digest 35 = .ok (.lmul, 1) := by decide +kernel
theorem dX7_digest_36 : decode cX7_digest 36 = .ok (.aload_n 0, 1) := by decide +kernel
theorem dX7_digest_37 : decode cX7_digest 37 = .ok (.getfield 94, 3) := by decide +kernel
theorem dX7_digest_40 : decode cX7_digest 40 = .ok (.i2l, 1) := by decide +kernel
theorem dX7_digest_41 : decode cX7_digest 41 = .ok (.ladd, 1) := by decide +kernel
theorem dX7_digest_42 : decode cX7_digest 42 = .ok (.lstore_n 1, 1) := by decide +kernel
theorem dX7_digest_43 : decode cX7_digest 43 = .ok (.iconst 0, 1) := by decide +kernel
theorem dX7_digest_44 : decode cX7_digest 44 = .ok (.istore_n 3, 1) := by decide +kernel
theorem dX7_digest_45 : decode cX7_digest 45 = .ok (.iload_n 3, 1) := by decide +kernel
theorem dX7_digest_46 : decode cX7_digest 46 = .ok (.aload_n 0, 1) := by decide +kernel
theorem dX7_digest_47 : decode cX7_digest 47 = .ok (.getfield 7, 3) := by decide +kernel
theorem dX7_digest_50 : decode cX7_digest 50 = .ok (.iconst 0, 1) := by decide +kernel
theorem dX7_digest_51 : decode cX7_digest 51 = .ok (.iaload, 1) := by decide +kernel
theorem dX7_digest_52 : decode cX7_digest 52 = .ok (.if_icmp .ge 92, 3) := by decide +kernel
theorem dX7_digest_55 : decode cX7_digest 55 = .ok (.ldc2_w 209, 3) := by decide +kernel
theorem dX7_digest_58 : decode cX7_digest 58 = .ok (.ldc2_w 209, 3) := by decide +kernel
theorem dX7_digest_61 : decode cX7_digest 61 = .ok (.ldc2_w 209, 3) := by decide +kernel
theorem dX7_digest_64 : decode cX7_digest 64 = .ok (.lload_n 1, 1) := by decide +kernel
theorem dX7_digest_65 : decode cX7_digest 65 = .ok (.lmul, 1) := by decide +kernel
theorem dX7_digest_66 : decode cX7_digest 66 = .ok (.aload_n 0, 1) := by decide +kernel
theorem dX7_digest_67 : decode cX7_digest 67 = .ok (.getfield 7, 3) := by decide +kernel
theorem dX7_digest_70 : decode cX7_digest 70 = .ok (.iconst 4, 1) := by decide +kernel
theorem dX7_digest_71 : decode cX7_digest 71 = .ok (.iload_n 3, 1) := by decide +kernel
theorem dX7_digest_72 : decode cX7_digest 72 = .ok (.iadd, 1) := by decide +kernel
theorem dX7_digest_73 : decode cX7_digest 73 = .ok (.iaload, 1) := by decide +kernel
theorem dX7_digest_74 : decode cX7_digest 74 = .ok (.i2l, 1) := by decide +kernel
theorem dX7_digest_75 : decode cX7_digest 75 = .ok (.ladd, 1) := by decide +kernel
theorem dX7_digest_76 : decode cX7_digest 76 = .ok (.lmul, 1) := by decide +kernel
theorem dX7_digest_77 : decode cX7_digest 77 = .ok (.aload_n 0, 1) := by decide +kernel
theorem dX7_digest_78 : decode cX7_digest 78 = .ok (.getfield 7, 3) := by decide +kernel
theorem dX7_digest_81 : decode cX7_digest 81 = .ok (.bipush 10, 2) := by decide +kernel
theorem dX7_digest_83 : decode cX7_digest 83 = .ok (.iload_n 3, 1) := by decide +kernel
theorem dX7_digest_84 : decode cX7_digest 84 = .ok (.iadd, 1) := by decide +kernel
theorem dX7_digest_85 : decode cX7_digest 85 = .ok (.iaload, 1) := by decide +kernel
theorem dX7_digest_86 : decode cX7_digest 86 = .ok (.i2l, 1) := by decide +kernel
theorem dX7_digest_87 : decode cX7_digest 87 = .ok (.ladd, 1) := by decide +kernel
theorem dX7_digest_88 : decode cX7_digest 88 = .ok (.lmul, 1) := by decide +kernel
theorem dX7_digest_89 : decode cX7_digest 89 = .ok (.aload_n 0, 1) := by decide +kernel
theorem dX7_digest_90 : decode cX7_digest 90 = .ok (.getfield 7, 3) := by decide +kernel
theorem dX7_digest_93 : decode cX7_digest 93 = .ok (.bipush 16, 2) := by decide +kernel
theorem dX7_digest_95 : decode cX7_digest 95 = .ok (.iload_n 3, 1) := by decide +kernel
theorem dX7_digest_96 : decode cX7_digest 96 = .ok (.iadd, 1) := by decide +kernel
theorem dX7_digest_97 : decode cX7_digest 97 = .ok (.iaload, 1) := by decide +kernel
theorem dX7_digest_98 : decode cX7_digest 98 = .ok (.i2l, 1) := by decide +kernel
theorem dX7_digest_99 : decode cX7_digest 99 = .ok (.ladd, 1) := by decide +kernel
theorem dX7_digest_100 : decode cX7_digest 100 = .ok (.lstore_n 1, 1) := by decide +kernel
theorem dX7_digest_101 : decode cX7_digest 101 = .ok (.iconst 0, 1) := by decide +kernel
theorem dX7_digest_102 : decode cX7_digest 102 = .ok (.istore 4, 2) := by decide +kernel
theorem dX7_digest_104 : decode cX7_digest 104 = .ok (.iload 4, 2) := by decide +kernel
theorem dX7_digest_106 : decode cX7_digest 106 = .ok (.iconst 4, 1) := by decide +kernel
theorem dX7_digest_107 : decode cX7_digest 107 = .ok (.if_icmp .ge 31, 3) := by decide +kernel
theorem dX7_digest_110 : decode cX7_digest 110 = .ok (.ldc2_w 209, 3) := by decide +kernel
theorem dX7_digest_113 : decode cX7_digest 113 = .ok (.lload_n 1, 1) := by decide +kernel
theorem dX7_digest_114 : decode cX7_digest 114 = .ok (.lmul, 1) := by decide +kernel
theorem dX7_digest_115 : decode cX7_digest 115 = .ok (.aload_n 0, 1) := by decide +kernel
theorem dX7_digest_116 : decode cX7_digest 116 = .ok (.getfield 7, 3) := by decide +kernel
theorem dX7_digest_119 : decode cX7_digest 119 = .ok (.bipush 22, 2) := by decide +kernel
theorem dX7_digest_121 : decode cX7_digest 121 = .ok (.iconst 4, 1) := by decide +kernel
theorem dX7_digest_122 : decode cX7_digest 122 = .ok (.iload_n 3, 1) := by decide +kernel
theorem dX7_digest_123 : decode cX7_digest 123 = .ok (.imul, 1) := by decide +kernel
theorem dX7_digest_124 : decode cX7_digest 124 = .ok (.iadd, 1) := by decide +kernel
theorem dX7_digest_125 : decode cX7_digest 125 = .ok (.iload 4, 2) := by decide +kernel
theorem dX7_digest_127 : decode cX7_digest 127 = .ok (.iadd, 1) := by decide +kernel
theorem dX7_digest_128 : decode cX7_digest 128 = .ok (.iaload, 1) := by decide +kernel
theorem dX7_digest_129 : decode cX7_digest 129 = .ok (.i2l, 1) := by decide +kernel
theorem dX7_digest_130 : decode cX7_digest 130 = .ok (.ladd, 1) := by decide +kernel
theorem dX7_digest_131 : decode cX7_digest 131 = .ok (.lstore_n 1, 1) := by decide +kernel
theorem dX7_digest_132 : decode cX7_digest 132 = .ok (.iinc 4 1, 3) := by decide +kernel
theorem dX7_digest_135 : decode cX7_digest 135 = .ok (.goto (-31), 3) := by decide +kernel
theorem dX7_digest_138 : decode cX7_digest 138 = .ok (.iinc 3 1, 3) := by decide +kernel
theorem dX7_digest_141 : decode cX7_digest 141 = .ok (.goto (-96), 3) := by decide +kernel
theorem dX7_digest_144 : decode cX7_digest 144 = .ok (.iconst 0, 1) := by decide +kernel
theorem dX7_digest_145 : decode cX7_digest 145 = .ok (.istore_n 3, 1) := by decide +kernel
theorem dX7_digest_146 : decode cX7_digest 146 = .ok (.iload_n 3, 1) := by decide +kernel
theorem dX7_digest_147 : decode cX7_digest 147 = .ok (.aload_n 0, 1) := by decide +kernel
theorem dX7_digest_148 : decode cX7_digest 148 = .ok (.getfield 7, 3) := by decide +kernel
theorem dX7_digest_151 : decode cX7_digest 151 = .ok (.iconst 1, 1) := by decide +kernel
theorem dX7_digest_152 : decode cX7_digest 152 = .ok (.iaload, 1) := by decide +kernel
theorem dX7_digest_153 : decode cX7_digest 153 = .ok (.if_icmp .ge 41, 3) := by decide +kernel
theorem dX7_digest_156 : decode cX7_digest 156 = .ok (.ldc2_w 209, 3) := by decide +kernel
theorem dX7_digest_159 : decode cX7_digest 159 = .ok (.ldc2_w 209, 3) := by decide +kernel
theorem dX7_digest_162 : decode cX7_digest 162 = .ok (.lload_n 1, 1) := by decide +kernel
theorem dX7_digest_163 : decode cX7_digest 163 = .ok (.lmul, 1) := by decide +kernel
theorem dX7_digest_164 : decode cX7_digest 164 = .ok (.aload_n 0, 1) := by decide +kernel
theorem dX7_digest_165 : decode cX7_digest 165 = .ok (.getfield 7, 3) := by decide +kernel
theorem dX7_digest_168 : decode cX7_digest 168 = .ok (.bipush 46, 2) := by decide +kernel
theorem dX7_digest_170 : decode cX7_digest 170 = .ok (.iload_n 3, 1) := by decide +kernel
theorem dX7_digest_171 : decode cX7_digest 171 = .ok (.iadd, 1) := by decide +kernel
theorem dX7_digest_172 : decode cX7_digest 172 = .ok (.iaload, 1) := by decide +kernel
theorem dX7_digest_173 : decode cX7_digest 173 = .ok (.i2l, 1) := by decide +kernel
theorem dX7_digest_174 : decode cX7_digest 174 = .ok (.ladd, 1) := by decide +kernel
theorem dX7_digest_175 : decode cX7_digest 175 = .ok (.lmul, 1) := by decide +kernel
theorem dX7_digest_176 : decode cX7_digest 176 = .ok (.aload_n 0, 1) := by decide +kernel
theorem dX7_digest_177 : decode cX7_digest 177 = .ok (.getfield 7, 3) := by decide +kernel
theorem dX7_digest_180 : decode cX7_digest 180 = .ok (.bipush 54, 2) := by decide +kernel
theorem dX7_digest_182 : decode cX7_digest 182 = .ok (.iload_n 3, 1) := by decide +kernel
theorem dX7_digest_183 : decode cX7_digest 183 = .ok (.iadd, 1) := by decide +kernel
theorem dX7_digest_184 : decode cX7_digest 184 = .ok (.iaload, 1) := by decide +kernel
theorem dX7_digest_185 : decode cX7_digest 185 = .ok (.i2l, 1) := by decide +kernel
theorem dX7_digest_186 : decode cX7_digest 186 = .ok (.ladd, 1) := by decide +kernel
theorem dX7_digest_187 : decode cX7_digest 187 = .ok (.lstore_n 1, 1) := by decide +kernel
theorem dX7_digest_188 : decode cX7_digest 188 = .ok (.iinc 3 1, 3) := by decide +kernel
theorem dX7_digest_191 : decode cX7_digest 191 = .ok (.goto (-45), 3) := by decide +kernel
theorem dX7_digest_194 : decode cX7_digest 194 = .ok (.iconst 0, 1) := by decide +kernel
theorem dX7_digest_195 : decode cX7_digest 195 = .ok (.istore_n 3, 1) := by decide +kernel
theorem dX7_digest_196 : decode cX7_digest 196 = .ok (.iload_n 3, 1) := by decide +kernel
theorem dX7_digest_197 : decode cX7_digest 197 = .ok (.aload_n 0, 1) := by decide +kernel
theorem dX7_digest_198 : decode cX7_digest 198 = .ok (.getfield 7, 3) := by decide +kernel
theorem dX7_digest_201 : decode cX7_digest 201 = .ok (.iconst 2, 1) := by decide +kernel
theorem dX7_digest_202 : decode cX7_digest 202 = .ok (.iaload, 1) := by decide +kernel
theorem dX7_digest_203 : decode cX7_digest 203 = .ok (.if_icmp .ge 56, 3) := by decide +kernel
theorem dX7_digest_206 : decode cX7_digest 206 = .ok (.ldc2_w 209, 3) := by decide +kernel
theorem dX7_digest_209 : decode cX7_digest 209 = .ok (.ldc2_w 209, 3) := by decide +kernel
theorem dX7_digest_212 : decode cX7_digest 212 = .ok (.ldc2_w 209, 3) := by decide +kernel
theorem dX7_digest_215 : decode cX7_digest 215 = .ok (.lload_n 1, 1) := by decide +kernel
theorem dX7_digest_216 : decode cX7_digest 216 = .ok (.lmul, 1) := by decide +kernel
theorem dX7_digest_217 : decode cX7_digest 217 = .ok (.aload_n 0, 1) := by decide +kernel
theorem dX7_digest_218 : decode cX7_digest 218 = .ok (.getfield 7, 3) := by decide +kernel
theorem dX7_digest_221 : decode cX7_digest 221 = .ok (.bipush 62, 2) := by decide +kernel
theorem dX7_digest_223 : decode cX7_digest 223 = .ok (.iload_n 3, 1) := by decide +kernel
theorem dX7_digest_224 : decode cX7_digest 224 = .ok (.iadd, 1) := by decide +kernel
theorem dX7_digest_225 : decode cX7_digest 225 = .ok (.iaload, 1) := by decide +kernel
theorem dX7_digest_226 : decode cX7_digest 226 = .ok (.i2l, 1) := by decide +kernel
theorem dX7_digest_227 : decode cX7_digest 227 = .ok (.ladd, 1) := by decide +kernel
theorem dX7_digest_228 : decode cX7_digest 228 = .ok (.lmul, 1) := by decide +kernel
theorem dX7_digest_229 : decode cX7_digest 229 = .ok (.aload_n 0, 1) := by decide +kernel
theorem dX7_digest_230 : decode cX7_digest 230 = .ok (.getfield 7, 3) := by decide +kernel
theorem dX7_digest_233 : decode cX7_digest 233 = .ok (.bipush 74, 2) := by decide +kernel
theorem dX7_digest_235 : decode cX7_digest 235 = .ok (.iload_n 3, 1) := by decide +kernel
theorem dX7_digest_236 : decode cX7_digest 236 = .ok (.iadd, 1) := by decide +kernel
theorem dX7_digest_237 : decode cX7_digest 237 = .ok (.iaload, 1) := by decide +kernel
theorem dX7_digest_238 : decode cX7_digest 238 = .ok (.i2l, 1) := by decide +kernel
theorem dX7_digest_239 : decode cX7_digest 239 = .ok (.ladd, 1) := by decide +kernel
theorem dX7_digest_240 : decode cX7_digest 240 = .ok (.lmul, 1) := by decide +kernel
theorem dX7_digest_241 : decode cX7_digest 241 = .ok (.aload_n 0, 1) := by decide +kernel
theorem dX7_digest_242 : decode cX7_digest 242 = .ok (.getfield 7, 3) := by decide +kernel
theorem dX7_digest_245 : decode cX7_digest 245 = .ok (.bipush 86, 2) := by decide +kernel
theorem dX7_digest_247 : decode cX7_digest 247 = .ok (.iload_n 3, 1) := by decide +kernel
theorem dX7_digest_248 : decode cX7_digest 248 = .ok (.iadd, 1) := by decide +kernel
theorem dX7_digest_249 : decode cX7_digest 249 = .ok (.iaload, 1) := by decide +kernel
theorem dX7_digest_250 : decode cX7_digest 250 = .ok (.i2l, 1) := by decide +kernel
theorem dX7_digest_251 : decode cX7_digest 251 = .ok (.ladd, 1) := by decide +kernel
theorem dX7_digest_252 : decode cX7_digest 252 = .ok (.lstore_n 1, 1) := by decide +kernel
theorem dX7_digest_253 : decode cX7_digest 253 = .ok (.iinc 3 1, 3) := by decide +kernel
theorem dX7_digest_256 : decode cX7_digest 256 = .ok (.goto (-60), 3) := by decide +kernel
theorem dX7_digest_259 : decode cX7_digest 259 = .ok (.iconst 0, 1) := by decide +kernel
theorem dX7_digest_260 : decode cX7_digest 260 = .ok (.istore_n 3, 1) := by decide +kernel
theorem dX7_digest_261 : decode cX7_digest 261 = .ok (.iload_n 3, 1) := by decide +kernel
theorem dX7_digest_262 : decode cX7_digest 262 = .ok (.aload_n 0, 1) := by decide +kernel
theorem dX7_digest_263 : decode cX7_digest 263 = .ok (.getfield 7, 3) := by decide +kernel
theorem dX7_digest_266 : decode cX7_digest 266 = .ok (.iconst 3, 1) := by decide +kernel
theorem dX7_digest_267 : decode cX7_digest 267 = .ok (.iaload, 1) := by decide +kernel
theorem dX7_digest_268 : decode cX7_digest 268 = .ok (.if_icmp .ge 26, 3) := by decide +kernel
theorem dX7_digest_271 : decode cX7_digest 271 = .ok (.ldc2_w 209, 3) := by decide +kernel
theorem dX7_digest_274 : decode cX7_digest 274 = .ok (.lload_n 1, 1) := by decide +kernel
theorem dX7_digest_275 : decode cX7_digest 275 = .ok (.lmul, 1) := by decide +kernel
theorem dX7_digest_276 : decode cX7_digest 276 = .ok (.aload_n 0, 1) := by decide +kernel
theorem dX7_digest_277 : decode cX7_digest 277 = .ok (.getfield 7, 3) := by decide +kernel
theorem dX7_digest_280 : decode cX7_digest 280 = .ok (.bipush 98, 2) := by decide +kernel
theorem dX7_digest_282 : decode cX7_digest 282 = .ok (.iload_n 3, 1) := by decide +kernel
theorem dX7_digest_283 : decode cX7_digest 283 = .ok (.iadd, 1) := by decide +kernel
theorem dX7_digest_284 : decode cX7_digest 284 = .ok (.iaload, 1) := by decide +kernel
theorem dX7_digest_285 : decode cX7_digest 285 = .ok (.i2l, 1) := by decide +kernel
theorem dX7_digest_286 : decode cX7_digest 286 = .ok (.ladd, 1) := by decide +kernel
theorem dX7_digest_287 : decode cX7_digest 287 = .ok (.lstore_n 1, 1) := by decide +kernel
theorem dX7_digest_288 : decode cX7_digest 288 = .ok (.iinc 3 1, 3) := by decide +kernel
theorem dX7_digest_291 : decode cX7_digest 291 = .ok (.goto (-30), 3) := by decide +kernel
theorem dX7_digest_294 : decode cX7_digest 294 = .ok (.lload_n 1, 1) := by decide +kernel
theorem dX7_digest_295 : decode cX7_digest 295 = .ok (.lreturn, 1) := by decide +kernel
theorem dJ6_bitCount_0f7a4_0 : decode cJ6_bitCount_0f7a4 0 = .ok (.iload_n 0, 1) := by decide +kernel
theorem dJ6_bitCount_0f7a4_1 : decode cJ6_bitCount_0f7a4 1 = .ok (.iload_n 0, 1) := by decide +kernel
theorem dJ6_bitCount_0f7a4_2 : decode cJ6_bitCount_0f7a4 2 = .ok (.iconst 1, 1) := by decide +kernel
theorem dJ6_bitCount_0f7a4_3 : decode cJ6_bitCount_0f7a4 3 = .ok (.iushr, 1) := by decide +kernel
theorem dJ6_bitCount_0f7a4_4 : decode cJ6_bitCount_0f7a4 4 = .ok (.ldc_w 265, 3) := by decide +kernel
theorem dJ6_bitCount_0f7a4_7 : decode cJ6_bitCount_0f7a4 7 = .ok (.iand, 1) := by decide +kernel
theorem dJ6_bitCount_0f7a4_8 : decode cJ6_bitCount_0f7a4 8 = .ok (.isub, 1) := by decide +kernel
theorem dJ6_bitCount_0f7a4_9 : decode cJ6_bitCount_0f7a4 9 = .ok (.istore_n 0, 1) := by decide +kernel
theorem dJ6_bitCount_0f7a4_10 : decode cJ6_bitCount_0f7a4 10 = .ok (.iload_n 0, 1) := by decide +kernel
theorem dJ6_bitCount_0f7a4_11 : decode cJ6_bitCount_0f7a4 11 = .ok (.ldc_w 266, 3) := by decide +kernel
theorem dJ6_bitCount_0f7a4_14 : decode cJ6_bitCount_0f7a4 14 = .ok (.iand, 1) := by decide +kernel
theorem dJ6_bitCount_0f7a4_15 : decode cJ6_bitCount_0f7a4 15 = .ok (.iload_n 0, 1) := by decide +kernel
theorem dJ6_bitCount_0f7a4_16 : decode cJ6_bitCount_0f7a4 16 = .ok (.iconst 2, 1) := by decide +kernel
theorem dJ6_bitCount_0f7a4_17 : decode cJ6_bitCount_0f7a4 17 = .ok (.iushr, 1) := by decide +kernel
theorem dJ6_bitCount_0f7a4_18 : decode cJ6_bitCount_0f7a4 18 = .ok (.ldc_w 266, 3) := by decide +kernel
theorem dJ6_bitCount_0f7a4_21 : decode cJ6_bitCount_0f7a4 21 = .ok (.iand, 1) := by decide +kernel
theorem dJ6_bitCount_0f7a4_22 : decode cJ6_bitCount_0f7a4 22 = .ok (.iadd, 1) := by decide +kernel
theorem dJ6_bitCount_0f7a4_23 : decode cJ6_bitCount_0f7a4 23 = .ok (.istore_n 0, 1) := by decide +kernel
theorem dJ6_bitCount_0f7a4_24 : decode cJ6_bitCount_0f7a4 24 = .ok (.iload_n 0, 1) := by decide +kernel
theorem dJ6_bitCount_0f7a4_25 : decode cJ6_bitCount_0f7a4 25 = .ok (.iload_n 0, 1) := by decide +kernel
theorem dJ6_bitCount_0f7a4_26 : decode cJ6_bitCount_0f7a4 26 = .ok (.iconst 4, 1) := by decide +kernel
theorem dJ6_bitCount_0f7a4_27 : decode cJ6_bitCount_0f7a4 27 = .ok (.iushr, 1) := by decide +kernel
theorem dJ6_bitCount_0f7a4_28 : decode cJ6_bitCount_0f7a4 28 = .ok (.iadd, 1) := by decide +kernel
theorem dJ6_bitCount_0f7a4_29 : decode cJ6_bitCount_0f7a4 29 = .ok (.ldc_w 267, 3) := by decide +kernel
theorem dJ6_bitCount_0f7a4_32 : decode cJ6_bitCount_0f7a4 32 = .ok (.iand, 1) := by decide +kernel
theorem dJ6_bitCount_0f7a4_33 : decode cJ6_bitCount_0f7a4 33 = .ok (.istore_n 0, 1) := by decide +kernel
theorem dJ6_bitCount_0f7a4_34 : decode cJ6_bitCount_0f7a4 34 = .ok (.iload_n 0, 1) := by decide +kernel
theorem dJ6_bitCount_0f7a4_35 : decode cJ6_bitCount_0f7a4 35 = .ok (.iload_n 0, 1) := by decide +kernel
theorem dJ6_bitCount_0f7a4_36 : decode cJ6_bitCount_0f7a4 36 = .ok (.bipush 8, 2) := by decide +kernel
theorem dJ6_bitCount_0f7a4_38 : decode cJ6_bitCount_0f7a4 38 = .ok (.iushr, 1) := by decide +kernel
theorem dJ6_bitCount_0f7a4_39 : decode cJ6_bitCount_0f7a4 39 = .ok (.iadd, 1) := by decide +kernel
theorem dJ6_bitCount_0f7a4_40 : decode cJ6_bitCount_0f7a4 40 = .ok (.istore_n 0, 1) := by decide +kernel
theorem dJ6_bitCount_0f7a4_41 : decode cJ6_bitCount_0f7a4 41 = .ok (.iload_n 0, 1) := by decide +kernel
theorem dJ6_bitCount_0f7a4_42 : decode cJ6_bitCount_0f7a4 42 = .ok (.iload_n 0, 1) := by decide +kernel
theorem dJ6_bitCount_0f7a4_43 : decode cJ6_bitCount_0f7a4 43 = .ok (.bipush 16, 2) := by decide +kernel
theorem dJ6_bitCount_0f7a4_45 : decode cJ6_bitCount_0f7a4 45 = .ok (.iushr, 1) := by decide +kernel
theorem dJ6_bitCount_0f7a4_46 : decode cJ6_bitCount_0f7a4 46 = .ok (.iadd, 1) := by decide +kernel
theorem dJ6_bitCount_0f7a4_47 : decode cJ6_bitCount_0f7a4 47 = .ok (.istore_n 0, 1) := by decide +kernel
theorem dJ6_bitCount_0f7a4_48 : decode cJ6_bitCount_0f7a4 48 = .ok (.iload_n 0, 1) := by decide +kernel
theorem dJ6_bitCount_0f7a4_49 : decode cJ6_bitCount_0f7a4 49 = .ok (.bipush 63, 2) := by decide +kernel
theorem dJ6_bitCount_0f7a4_51 : decode cJ6_bitCount_0f7a4 51 = .ok (.iand, 1) := by decide +kernel
theorem dJ6_bitCount_0f7a4_52 : decode cJ6_bitCount_0f7a4 52 = .ok (.ireturn, 1) := by decide +kernel
theorem dJ9_min_7cf53_0 : decode cJ9_min_7cf53 0 = .ok (.iload_n 0, 1) := by decide +kernel
theorem dJ9_min_7cf53_1 : decode cJ9_min_7cf53 1 = .ok (.iload_n 1, 1) := by decide +kernel
theorem dJ9_min_7cf53_2 : decode cJ9_min_7cf53 2 = .ok (.if_icmp .gt 7, 3) := by decide +kernel
theorem dJ9_min_7cf53_5 : decode cJ9_min_7cf53 5 = .ok (.iload_n 0, 1) := by decide +kernel
theorem dJ9_min_7cf53_6 : decode cJ9_min_7cf53 6 = .ok (.goto 4, 3) := by decide +kernel
theorem dJ9_min_7cf53_9 : decode cJ9_min_7cf53 9 = .ok (.iload_n 1, 1) := by decide +kernel
theorem dJ9_min_7cf53_10 : decode cJ9_min_7cf53 10 = .ok (.ireturn, 1) := by decide +kernel
set_option maxRecDepth 20000 in
theorem ggJ0_length_8abf5_J0_coder_7d493 : GoodIn wsJ0_length_8abf5 wsJ0_coder_7d493 := goodIn_r _ [6, 7, 8] (by decide +kernel) (by decide +kernel)
set_option maxRecDepth 20000 in
theorem gJ0_length_8abf5_J0_coder_7d493 : GoodIn wsJ0_length_8abf5 (wsV RJ0 335 RJ0 yJ0_coder_7d493 wsJ0_coder_7d493) := goodIn_app (goodIn_of _ (by decide +kernel)) ggJ0_length_8abf5_J0_coder_7d493
theorem dJ0_length_8abf5_0 : decode cJ0_length_8abf5 0 = .ok (.aload_n 0, 1) := by decide +kernel
theorem dJ0_length_8abf5_1 : decode cJ0_length_8abf5 1 = .ok (.getfield 9, 3) := by decide +kernel
theorem dJ0_length_8abf5_4 : decode cJ0_length_8abf5 4 = .ok (.arraylength, 1) := by decide +kernel
theorem dJ0_length_8abf5_5 : decode cJ0_length_8abf5 5 = .ok (.aload_n 0, 1) := by decide +kernel
theorem dJ0_length_8abf5_6 : decode cJ0_length_8abf5 6 = .ok (.invokevirtual 335, 3) := by decide +kernel
theorem dJ0_length_8abf5_9 : decode cJ0_length_8abf5 9 = .ok (.ishr, 1) := by decide +kernel
theorem dJ0_length_8abf5_10 : decode cJ0_length_8abf5 10 = .ok (.ireturn, 1) := by decide +kernel
set_option maxRecDepth 20000 in
theorem ggJ0_charAt_5068e_J0_isLatin1_aae02 : GoodIn wsJ0_charAt_5068e wsJ0_isLatin1_aae02 := goodIn_r _ [6, 7, 8] (by decide +kernel) (by decide +kernel)
set_option maxRecDepth 20000 in
theorem gJ0_charAt_5068e_J0_isLatin1_aae02 : GoodIn wsJ0_charAt_5068e (wsV RJ0 492 RJ0 yJ0_isLatin1_aae02 wsJ0_isLatin1_aae02) := goodIn_app (goodIn_of _ (by decide +kernel)) ggJ0_charAt_5068e_J0_isLatin1_aae02
set_option maxRecDepth 20000 in
theorem ggJ0_charAt_5068e_J1_charAt_3b067 : GoodIn wsJ0_charAt_5068e wsJ1_charAt_3b067 := goodIn_r _ [12, 13, 14, 5, 15, 16, 17, 18, 19, 20] (by decide +kernel) (by decide +kernel)
set_option maxRecDepth 20000 in
theorem gJ0_charAt_5068e_J1_charAt_3b067 : GoodIn wsJ0_charAt_5068e (va_wsS RJ0 495 yJ1_charAt_3b067 wsJ1_charAt_3b067) := goodIn_app (goodIn_of _ (by decide +kernel)) ggJ0_charAt_5068e_J1_charAt_3b067
set_option maxRecDepth 20000 in
theorem ggJ0_charAt_5068e_J2_charAt_3b067 : GoodIn wsJ0_charAt_5068e wsJ2_charAt_3b067 := goodIn_r _ [24, 25, 26, 23, 27, 28, 29, 30, 31, 14, 5, 15, 16, 17, 18, 19, 20, 32, 33, 34, 35, 36, 37] (by decide +kernel) (by decide +kernel)
set_option maxRecDepth 20000 in
theorem gJ0_charAt_5068e_J2_charAt_3b067 : GoodIn wsJ0_charAt_5068e (va_wsS RJ0 498 yJ2_charAt_3b067 wsJ2_charAt_3b067) := goodIn_app (goodIn_of _ (by decide +kernel)) ggJ0_charAt_5068e_J2_charAt_3b067
theorem dJ0_charAt_5068e_0 : decode cJ0_charAt_5068e 0 = .ok (.aload_n 0, 1) := by decide +kernel
theorem dJ0_charAt_5068e_1 : decode cJ0_charAt_5068e 1 = .ok (.invokevirtual 492, 3) := by decide +kernel
theorem dJ0_charAt_5068e_4 : decode cJ0_charAt_5068e 4 = .ok (.ifCond .eq 12, 3) := by decide +kernel
theorem dJ0_charAt_5068e_7 : decode cJ0_charAt_5068e 7 = .ok (.aload_n 0, 1) := by decide +kernel
theorem dJ0_charAt_5068e_8 : decode cJ0_charAt_5068e 8 = .ok (.getfield 9, 3) := by decide +kernel
theorem dJ0_charAt_5068e_11 : decode cJ0_charAt_5068e 11 = .ok (.iload_n 1, 1) := by decide +kernel
theorem dJ0_charAt_5068e_12 : decode cJ0_charAt_5068e 12 = .ok (.invokestatic 495, 3) := by decide +kernel
theorem dJ0_charAt_5068e_15 : decode cJ0_charAt_5068e 15 = .ok (.ireturn, 1) := by decide +kernel
theorem dJ0_charAt_5068e_16 : decode cJ0_charAt_5068e 16 = .ok (.aload_n 0, 1) := by decide +kernel
theorem dJ0_charAt_5068e_17 : decode cJ0_charAt_5068e 17 = .ok (.getfield 9, 3) := by decide +kernel
theorem dJ0_charAt_5068e_20 : decode cJ0_charAt_5068e 20 = .ok (.iload_n 1, 1) := by decide +kernel
theorem dJ0_charAt_5068e_21 : decode cJ0_charAt_5068e 21 = .ok (.invokestatic 498, 3) := by decide +kernel
theorem dJ0_charAt_5068e_24 : decode cJ0_charAt_5068e 24 = .ok (.ireturn, 1) := by decide +kernel
theorem dJ0_coder_7d493_0 : decode cJ0_coder_7d493 0 = .ok (.getstatic 38, 3) := by decide +kernel
theorem dJ0_coder_7d493_3 : decode cJ0_coder_7d493 3 = .ok (.ifCond .eq 10, 3) := by decide +kernel
theorem dJ0_coder_7d493_6 : decode cJ0_coder_7d493 6 = .ok (.aload_n 0, 1) := by decide +kernel
theorem dJ0_coder_7d493_7 : decode cJ0_coder_7d493 7 = .ok (.getfield 15, 3) := by decide +kernel
theorem dJ0_coder_7d493_10 : decode cJ0_coder_7d493 10 = .ok (.goto 4, 3) := by decide +kernel
theorem dJ0_coder_7d493_13 : decode cJ0_coder_7d493 13 = .ok (.iconst 1, 1) := by decide +kernel
theorem dJ0_coder_7d493_14 : decode cJ0_coder_7d493 14 = .ok (.ireturn, 1) := by decide +kernel
theorem dJ0_isLatin1_aae02_0 : decode cJ0_isLatin1_aae02 0 = .ok (.getstatic 38, 3) := by decide +kernel
theorem dJ0_isLatin1_aae02_3 : decode cJ0_isLatin1_aae02 3 = .ok (.ifCond .eq 14, 3) := by decide +kernel
theorem dJ0_isLatin1_aae02_6 : decode cJ0_isLatin1_aae02 6 = .ok (.aload_n 0, 1) := by decide +kernel
theorem dJ0_isLatin1_aae02_7 : decode cJ0_isLatin1_aae02 7 = .ok (.getfield 15, 3) := by decide +kernel
theorem dJ0_isLatin1_aae02_10 : decode cJ0_isLatin1_aae02 10 = .ok (.ifCond .ne 7, 3) := by decide +kernel
theorem dJ0_isLatin1_aae02_13 : decode cJ0_isLatin1_aae02 13 = .ok (.iconst 1, 1) := by decide +kernel
theorem dJ0_isLatin1_aae02_14 : decode cJ0_isLatin1_aae02 14 = .ok (.goto 4, 3) := by decide +kernel
theorem dJ0_isLatin1_aae02_17 : decode cJ0_isLatin1_aae02 17 = .ok (.iconst 0, 1) := by decide +kernel
theorem dJ0_isLatin1_aae02_18 : decode cJ0_isLatin1_aae02 18 = .ok (.ireturn, 1) := by decide +kernel
set_option maxRecDepth 20000 in
theorem ggJ0_checkIndex_df160_J3_checkIndex_8e157 : GoodIn wsJ0_checkIndex_df160 wsJ3_checkIndex_8e157 := goodIn_r _ [5] (by decide +kernel) (by decide +kernel)
set_option maxRecDepth 20000 in
theorem gJ0_checkIndex_df160_J3_checkIndex_8e157 : GoodIn wsJ0_checkIndex_df160 (va_wsS RJ0 1059 yJ3_checkIndex_8e157 wsJ3_checkIndex_8e157) := goodIn_app (goodIn_of _ (by decide +kernel)) ggJ0_checkIndex_df160_J3_checkIndex_8e157
theorem dJ0_checkIndex_df160_0 : decode cJ0_checkIndex_df160 0 = .ok (.iload_n 0, 1) := by decide +kernel
theorem dJ0_checkIndex_df160_1 : decode cJ0_checkIndex_df160 1 = .ok (.iload_n 1, 1) := by decide +kernel
theorem dJ0_checkIndex_df160_2 : decode cJ0_checkIndex_df160 2 = .ok (.getstatic 1053, 3) := by decide +kernel
theorem dJ0_checkIndex_df160_5 : decode cJ0_checkIndex_df160 5 = .ok (.invokestatic 1059, 3) := by decide +kernel
theorem dJ0_checkIndex_df160_8 : decode cJ0_checkIndex_df160 8 = .ok (.pop, 1) := by decide +kernel
theorem dJ0_checkIndex_df160_9 : decode cJ0_checkIndex_df160 9 = .ok (.return_, 1) := by decide +kernel
set_option maxRecDepth 20000 in
theorem ggJ1_charAt_3b067_J0_checkIndex_df160 : GoodIn wsJ1_charAt_3b067 wsJ0_checkIndex_df160 := goodIn_r _ [4, 5, 6, 7, 8, 9] (by decide +kernel) (by decide +kernel)
set_option maxRecDepth 20000 in
theorem gJ1_charAt_3b067_J0_checkIndex_df160 : GoodIn wsJ1_charAt_3b067 (va_wsS RJ1 9 yJ0_checkIndex_df160 wsJ0_checkIndex_df160) := goodIn_app (goodIn_of _ (by decide +kernel)) ggJ1_charAt_3b067_J0_checkIndex_df160
theorem dJ1_charAt_3b067_0 : decode cJ1_charAt_3b067 0 = .ok (.iload_n 1, 1) := by decide +kernel
theorem dJ1_charAt_3b067_1 : decode cJ1_charAt_3b067 1 = .ok (.aload_n 0, 1) := by decide +kernel
theorem dJ1_charAt_3b067_2 : decode cJ1_charAt_3b067 2 = .ok (.arraylength, 1) := by decide +kernel
theorem dJ1_charAt_3b067_3 : decode cJ1_charAt_3b067 3 = .ok (.invokestatic 9, 3) := by decide +kernel
theorem dJ1_charAt_3b067_6 : decode cJ1_charAt_3b067 6 = .ok (.aload_n 0, 1) := by decide +kernel
theorem dJ1_charAt_3b067_7 : decode cJ1_charAt_3b067 7 = .ok (.iload_n 1, 1) := by decide +kernel
theorem dJ1_charAt_3b067_8 : decode cJ1_charAt_3b067 8 = .ok (.baload, 1) := by decide +kernel
theorem dJ1_charAt_3b067_9 : decode cJ1_charAt_3b067 9 = .ok (.sipush 255, 3) := by decide +kernel
theorem dJ1_charAt_3b067_12 : decode cJ1_charAt_3b067 12 = .ok (.iand, 1) := by decide +kernel
theorem dJ1_charAt_3b067_13 : decode cJ1_charAt_3b067 13 = .ok (.i2c, 1) := by decide +kernel
theorem dJ1_charAt_3b067_14 : decode cJ1_charAt_3b067 14 = .ok (.ireturn, 1) := by decide +kernel
set_option maxRecDepth 20000 in
theorem ggJ2_getChar_3b067_J2_length_9d52b : GoodIn wsJ2_getChar_3b067 wsJ2_length_9d52b := goodIn_r _ [7] (by decide +kernel) (by decide +kernel)
set_option maxRecDepth 20000 in
theorem gJ2_getChar_3b067_J2_length_9d52b : GoodIn wsJ2_getChar_3b067 (va_wsS RJ2 48 yJ2_length_9d52b wsJ2_length_9d52b) := goodIn_app (goodIn_of _ (by decide +kernel)) ggJ2_getChar_3b067_J2_length_9d52b
theorem dJ2_getChar_3b067_0 : decode cJ2_getChar_3b067 0 = .ok (.getstatic 44, 3) := by decide +kernel
theorem dJ2_getChar_3b067_3 : decode cJ2_getChar_3b067 3 = .ok (.ifCond .ne 25, 3) := by decide +kernel
theorem dJ2_getChar_3b067_6 : decode cJ2_getChar_3b067 6 = .ok (.iload_n 1, 1) := by decide +kernel
theorem dJ2_getChar_3b067_7 : decode cJ2_getChar_3b067 7 = .ok (.ifCond .lt 11, 3) := by decide +kernel
theorem dJ2_getChar_3b067_10 : decode cJ2_getChar_3b067 10 = .ok (.iload_n 1, 1) := by decide +kernel
theorem dJ2_getChar_3b067_11 : decode cJ2_getChar_3b067 11 = .ok (.aload_n 0, 1) := by decide +kernel
theorem dJ2_getChar_3b067_12 : decode cJ2_getChar_3b067 12 = .ok (.invokestatic 48, 3) := by decide +kernel
theorem dJ2_getChar_3b067_15 : decode cJ2_getChar_3b067 15 = .ok (.if_icmp .lt 13, 3) := by decide +kernel
theorem dJ2_getChar_3b067_18 : decode cJ2_getChar_3b067 18 = .ok (.new 52, 3) := by decide +kernel
theorem dJ2_getChar_3b067_21 : decode cJ2_getChar_3b067 21 = .ok (.dup, 1) := by decide +kernel
theorem dJ2_getChar_3b067_22 : decode cJ2_getChar_3b067 22 = .ok (.ldc 54, 2) := by decide +kernel
theorem dJ2_getChar_3b067_24 : decode cJ2_getChar_3b067 24 = .ok (.invokespecial 56, 3) := by decide +kernel
theorem dJ2_getChar_3b067_27 : decode cJ2_getChar_3b067 27 = .ok (.athrow, 1) := by decide +kernel
theorem dJ2_getChar_3b067_28 : decode cJ2_getChar_3b067 28 = .ok (.iload_n 1, 1) := by decide +kernel
theorem dJ2_getChar_3b067_29 : decode cJ2_getChar_3b067 29 = .ok (.iconst 1, 1) := by decide +kernel
theorem dJ2_getChar_3b067_30 : decode cJ2_getChar_3b067 30 = .ok (.ishl, 1) := by decide +kernel
theorem dJ2_getChar_3b067_31 : decode cJ2_getChar_3b067 31 = .ok (.istore_n 1, 1) := by decide +kernel
theorem dJ2_getChar_3b067_32 : decode cJ2_getChar_3b067 32 = .ok (.aload_n 0, 1) := by decide +kernel
theorem dJ2_getChar_3b067_33 : decode cJ2_getChar_3b067 33 = .ok (.iload_n 1, 1) := by decide +kernel
theorem dJ2_getChar_3b067_34 : decode cJ2_getChar_3b067 34 = .ok (.iinc 1 1, 3) := by decide +kernel
theorem dJ2_getChar_3b067_37 : decode cJ2_getChar_3b067 37 = .ok (.baload, 1) := by decide +kernel
theorem dJ2_getChar_3b067_38 : decode cJ2_getChar_3b067 38 = .ok (.sipush 255, 3) := by decide +kernel
theorem dJ2_getChar_3b067_41 : decode cJ2_getChar_3b067 41 = .ok (.iand, 1) := by decide +kernel
theorem dJ2_getChar_3b067_42 : decode cJ2_getChar_3b067 42 = .ok (.getstatic 59, 3) := by decide +kernel
theorem dJ2_getChar_3b067_45 : decode cJ2_getChar_3b067 45 = .ok (.ishl, 1) := by decide +kernel
theorem dJ2_getChar_3b067_46 : decode cJ2_getChar_3b067 46 = .ok (.aload_n 0, 1) := by decide +kernel
theorem dJ2_getChar_3b067_47 : decode cJ2_getChar_3b067 47 = .ok (.iload_n 1, 1) := by decide +kernel
theorem dJ2_getChar_3b067_48 : decode cJ2_getChar_3b067 48 = .ok (.baload, 1) := by decide +kernel
theorem dJ2_getChar_3b067_49 : decode cJ2_getChar_3b067 49 = .ok (.sipush 255, 3) := by decide +kernel
theorem dJ2_getChar_3b067_52 : decode cJ2_getChar_3b067 52 = .ok (.iand, 1) := by decide +kernel
theorem dJ2_getChar_3b067_53 : decode cJ2_getChar_3b067 53 = .ok (.getstatic 63, 3) := by decide +kernel
theorem dJ2_getChar_3b067_56 : decode cJ2_getChar_3b067 56 = .ok (.ishl, 1) := by decide +kernel
theorem dJ2_getChar_3b067_57 : decode cJ2_getChar_3b067 57 = .ok (.ior, 1) := by decide +kernel
theorem dJ2_getChar_3b067_58 : decode cJ2_getChar_3b067 58 = .ok (.i2c, 1) := by decide +kernel
theorem dJ2_getChar_3b067_59 : decode cJ2_getChar_3b067 59 = .ok (.ireturn, 1) := by decide +kernel
theorem dJ2_length_9d52b_0 : decode cJ2_length_9d52b 0 = .ok (.aload_n 0, 1) := by decide +kernel
theorem dJ2_length_9d52b_1 : decode cJ2_length_9d52b 1 = .ok (.arraylength, 1) := by decide +kernel
theorem dJ2_length_9d52b_2 : decode cJ2_length_9d52b 2 = .ok (.iconst 1, 1) := by decide +kernel
theorem dJ2_length_9d52b_3 : decode cJ2_length_9d52b 3 = .ok (.ishr, 1) := by decide +kernel
theorem dJ2_length_9d52b_4 : decode cJ2_length_9d52b 4 = .ok (.ireturn, 1) := by decide +kernel
set_option maxRecDepth 20000 in
theorem ggJ2_charAt_3b067_J2_checkIndex_2214a : GoodIn wsJ2_charAt_3b067 wsJ2_checkIndex_2214a := goodIn_r _ [4, 5, 6, 3, 7, 8, 9, 10, 11, 12, 13, 14, 15, 16] (by decide +kernel) (by decide +kernel)
set_option maxRecDepth 20000 in
theorem gJ2_charAt_3b067_J2_checkIndex_2214a : GoodIn wsJ2_charAt_3b067 (va_wsS RJ2 67 yJ2_checkIndex_2214a wsJ2_checkIndex_2214a) := goodIn_app (goodIn_of _ (by decide +kernel)) ggJ2_charAt_3b067_J2_checkIndex_2214a
set_option maxRecDepth 20000 in
theorem ggJ2_charAt_3b067_J2_getChar_3b067 : GoodIn wsJ2_charAt_3b067 wsJ2_getChar_3b067 := goodIn_r _ [19, 20, 21, 22, 5, 6, 3, 7] (by decide +kernel) (by decide +kernel)
set_option maxRecDepth 20000 in
theorem gJ2_charAt_3b067_J2_getChar_3b067 : GoodIn wsJ2_charAt_3b067 (va_wsS RJ2 71 yJ2_getChar_3b067 wsJ2_getChar_3b067) := goodIn_app (goodIn_of _ (by decide +kernel)) ggJ2_charAt_3b067_J2_getChar_3b067
theorem dJ2_charAt_3b067_0 : decode cJ2_charAt_3b067 0 = .ok (.iload_n 1, 1) := by decide +kernel
theorem dJ2_charAt_3b067_1 : decode cJ2_charAt_3b067 1 = .ok (.aload_n 0, 1) := by decide +kernel
theorem dJ2_charAt_3b067_2 : decode cJ2_charAt_3b067 2 = .ok (.invokestatic 67, 3) := by decide +kernel
theorem dJ2_charAt_3b067_5 : decode cJ2_charAt_3b067 5 = .ok (.aload_n 0, 1) := by decide +kernel
theorem dJ2_charAt_3b067_6 : decode cJ2_charAt_3b067 6 = .ok (.iload_n 1, 1) := by decide +kernel
theorem dJ2_charAt_3b067_7 : decode cJ2_charAt_3b067 7 = .ok (.invokestatic 71, 3) := by decide +kernel
theorem dJ2_charAt_3b067_10 : decode cJ2_charAt_3b067 10 = .ok (.ireturn, 1) := by decide +kernel
set_option maxRecDepth 20000 in
theorem ggJ2_checkIndex_2214a_J2_length_9d52b : GoodIn wsJ2_checkIndex_2214a wsJ2_length_9d52b := goodIn_r _ [4] (by decide +kernel) (by decide +kernel)
set_option maxRecDepth 20000 in
theorem gJ2_checkIndex_2214a_J2_length_9d52b : GoodIn wsJ2_checkIndex_2214a (va_wsS RJ2 48 yJ2_length_9d52b wsJ2_length_9d52b) := goodIn_app (goodIn_of _ (by decide +kernel)) ggJ2_checkIndex_2214a_J2_length_9d52b
set_option maxRecDepth 20000 in
theorem ggJ2_checkIndex_2214a_J0_checkIndex_df160 : GoodIn wsJ2_checkIndex_2214a wsJ0_checkIndex_df160 := goodIn_r _ [8, 9, 10, 11, 12, 13] (by decide +kernel) (by decide +kernel)
set_option maxRecDepth 20000 in
theorem gJ2_checkIndex_2214a_J0_checkIndex_df160 : GoodIn wsJ2_checkIndex_2214a (va_wsS RJ2 414 yJ0_checkIndex_df160 wsJ0_checkIndex_df160) := goodIn_app (goodIn_of _ (by decide +kernel)) ggJ2_checkIndex_2214a_J0_checkIndex_df160
theorem dJ2_checkIndex_2214a_0 : decode cJ2_checkIndex_2214a 0 = .ok (.iload_n 0, 1) := by decide +kernel
theorem dJ2_checkIndex_2214a_1 : decode cJ2_checkIndex_2214a 1 = .ok (.aload_n 1, 1) := by decide +kernel
theorem dJ2_checkIndex_2214a_2 : decode cJ2_checkIndex_2214a 2 = .ok (.invokestatic 48, 3) := by decide +kernel
theorem dJ2_checkIndex_2214a_5 : decode cJ2_checkIndex_2214a 5 = .ok (.invokestatic 414, 3) := by decide +kernel
theorem dJ2_checkIndex_2214a_8 : decode cJ2_checkIndex_2214a 8 = .ok (.return_, 1) := by decide +kernel
theorem dJ7_fill_53178_0 : decode cJ7_fill_53178 0 = .ok (.iconst 0, 1) := by decide +kernel
theorem dJ7_fill_53178_1 : decode cJ7_fill_53178 1 = .ok (.istore_n 2, 1) := by decide +kernel
theorem dJ7_fill_53178_2 : decode cJ7_fill_53178 2 = .ok (.aload_n 0, 1) := by decide +kernel
theorem dJ7_fill_53178_3 : decode cJ7_fill_53178 3 = .ok (.arraylength, 1) := by decide +kernel
theorem dJ7_fill_53178_4 : decode cJ7_fill_53178 4 = .ok (.istore_n 3, 1) := by decide +kernel
theorem dJ7_fill_53178_5 : decode cJ7_fill_53178 5 = .ok (.iload_n 2, 1) := by decide +kernel
theorem dJ7_fill_53178_6 : decode cJ7_fill_53178 6 = .ok (.iload_n 3, 1) := by decide +kernel
theorem dJ7_fill_53178_7 : decode cJ7_fill_53178 7 = .ok (.if_icmp .ge 13, 3) := by decide +kernel
theorem dJ7_fill_53178_10 : decode cJ7_fill_53178 10 = .ok (.aload_n 0, 1) := by decide +kernel
theorem dJ7_fill_53178_11 : decode cJ7_fill_53178 11 = .ok (.iload_n 2, 1) := by decide +kernel
theorem dJ7_fill_53178_12 : decode cJ7_fill_53178 12 = .ok (.iload_n 1, 1) := by decide +kernel
theorem dJ7_fill_53178_13 : decode cJ7_fill_53178 13 = .ok (.iastore, 1) := by decide +kernel
theorem dJ7_fill_53178_14 : decode cJ7_fill_53178 14 = .ok (.iinc 2 1, 3) := by decide +kernel
theorem dJ7_fill_53178_17 : decode cJ7_fill_53178 17 = .ok (.goto (-12), 3) := by decide +kernel
theorem dJ7_fill_53178_20 : decode cJ7_fill_53178 20 = .ok (.return_, 1) := by decide +kernel
theorem dJ3_checkIndex_8e157_0 : decode cJ3_checkIndex_8e157 0 = .ok (.iload_n 0, 1) := by decide +kernel
theorem dJ3_checkIndex_8e157_1 : decode cJ3_checkIndex_8e157 1 = .ok (.ifCond .lt 8, 3) := by decide +kernel
theorem dJ3_checkIndex_8e157_4 : decode cJ3_checkIndex_8e157 4 = .ok (.iload_n 0, 1) := by decide +kernel
theorem dJ3_checkIndex_8e157_5 : decode cJ3_checkIndex_8e157 5 = .ok (.iload_n 1, 1) := by decide +kernel
theorem dJ3_checkIndex_8e157_6 : decode cJ3_checkIndex_8e157 6 = .ok (.if_icmp .lt 10, 3) := by decide +kernel
theorem dJ3_checkIndex_8e157_9 : decode cJ3_checkIndex_8e157 9 = .ok (.aload_n 2, 1) := by decide +kernel
theorem dJ3_checkIndex_8e157_10 : decode cJ3_checkIndex_8e157 10 = .ok (.iload_n 0, 1) := by decide +kernel
theorem dJ3_checkIndex_8e157_11 : decode cJ3_checkIndex_8e157 11 = .ok (.iload_n 1, 1) := by decide +kernel
theorem dJ3_checkIndex_8e157_12 : decode cJ3_checkIndex_8e157 12 = .ok (.invokestatic 95, 3) := by decide +kernel
theorem dJ3_checkIndex_8e157_15 : decode cJ3_checkIndex_8e157 15 = .ok (.athrow, 1) := by decide +kernel
theorem dJ3_checkIndex_8e157_16 : decode cJ3_checkIndex_8e157 16 = .ok (.iload_n 0, 1) := by decide +kernel
theorem dJ3_checkIndex_8e157_17 : decode cJ3_checkIndex_8e157 17 = .ok (.ireturn, 1) := by decide +kernel
