set_option maxRecDepth 20000 in
theorem ggX7_read_X7_reads : GoodIn wsX7_read wsX7_reads := goodIn_r _ [9, 10, 4, 11, 12, 13, 14, 15, 8, 16, 1, 17, 18, 19, 20, 21, 22, 23, 24, 25, 26, 27, 28, 29, 30, 31, 32, 33, 34, 35, 36, 37, 38, 39, 40, 41, 42, 43, 44, 45, 46, 47, 88, 89, 90, 91, 92, 93, 94, 95, 96, 97, 98, 99, 100, 101, 102, 103] (by decide +kernel) (by decide +kernel)
set_option maxRecDepth 20000 in
theorem gX7_read_X7_reads : GoodIn wsX7_read (wsV RX7 147 RX7 yX7_reads wsX7_reads) := goodIn_app (goodIn_of _ (by decide +kernel)) ggX7_read_X7_reads
set_option maxRecDepth 20000 in
theorem ggX7_read_X7_tells : GoodIn wsX7_read wsX7_tells := goodIn_r _ [51, 12, 27, 28, 8, 29, 52, 53, 54, 55, 3, 56, 57, 58, 59, 60, 61, 62, 63, 64, 65, 66, 67, 68, 69, 70, 71, 72, 73, 74, 75, 76, 77, 78, 79, 80, 81, 82, 83, 84, 85, 86, 87, 88, 89, 90, 91, 92, 93, 94, 95, 96, 97, 98, 99, 100, 101, 102, 103] (by decide +kernel) (by decide +kernel)
set_option maxRecDepth 20000 in
theorem gX7_read_X7_tells : GoodIn wsX7_read (wsV RX7 151 RX7 yX7_tells wsX7_tells) := goodIn_app (goodIn_of _ (by decide +kernel)) ggX7_read_X7_tells
theorem dX7_read_0 : decode cX7_read 0 = .ok (.aload_n 0, 1) := by decide +kernel
theorem dX7_read_1 : decode cX7_read 1 = .ok (.invokevirtual 147, 3) := by decide +kernel
theorem dX7_read_4 : decode cX7_read 4 = .ok (.ifCond .ne 11, 3) := by decide +kernel
theorem dX7_read_7 : decode cX7_read 7 = .ok (.bipush (-10), 2) := by decide +kernel
theorem dX7_read_9 : decode cX7_read 9 = .ok (.aload_n 0, 1) := by decide +kernel
theorem dX7_read_10 : decode cX7_read 10 = .ok (.getfield 106, 3) := by decide +kernel
theorem dX7_read_13 : decode cX7_read 13 = .ok (.isub, 1) := by decide +kernel
theorem dX7_read_14 : decode cX7_read 14 = .ok (.ireturn, 1) := by decide +kernel
theorem dX7_read_15 : decode cX7_read 15 = .ok (.iconst 0, 1) := by decide +kernel
theorem dX7_read_16 : decode cX7_read 16 = .ok (.istore_n 1, 1) := by decide +kernel
theorem dX7_read_17 : decode cX7_read 17 = .ok (.iload_n 1, 1) := by decide +kernel
theorem dX7_read_18 : decode cX7_read 18 = .ok (.bipush 104, 2) := by decide +kernel
theorem dX7_read_20 : decode cX7_read 20 = .ok (.if_icmp .ge 21, 3) := by decide +kernel
theorem dX7_read_23 : decode cX7_read 23 = .ok (.aload_n 0, 1) := by decide +kernel
theorem dX7_read_24 : decode cX7_read 24 = .ok (.getfield 13, 3) := by decide +kernel
theorem dX7_read_27 : decode cX7_read 27 = .ok (.iload_n 1, 1) := by decide +kernel
theorem dX7_read_28 : decode cX7_read 28 = .ok (.aload_n 0, 1) := by decide +kernel
theorem dX7_read_29 : decode cX7_read 29 = .ok (.getfield 7, 3) := by decide +kernel
theorem dX7_read_32 : decode cX7_read 32 = .ok (.iload_n 1, 1) := by decide +kernel
theorem dX7_read_33 : decode cX7_read 33 = .ok (.iaload, 1) := by decide +kernel
theorem dX7_read_34 : decode cX7_read 34 = .ok (.iastore, 1) := by decide +kernel
theorem dX7_read_35 : decode cX7_read 35 = .ok (.iinc 1 1, 3) := by decide +kernel
theorem dX7_read_38 : decode cX7_read 38 = .ok (.goto (-21), 3) := by decide +kernel
theorem dX7_read_41 : decode cX7_read 41 = .ok (.iconst 0, 1) := by decide +kernel
theorem dX7_read_42 : decode cX7_read 42 = .ok (.istore_n 1, 1) := by decide +kernel
theorem dX7_read_43 : decode cX7_read 43 = .ok (.iload_n 1, 1) := by decide +kernel
theorem dX7_read_44 : decode cX7_read 44 = .ok (.aload_n 0, 1) := by decide +kernel
theorem dX7_read_45 : decode cX7_read 45 = .ok (.getfield 135, 3) := by decide +kernel
theorem dX7_read_48 : decode cX7_read 48 = .ok (.if_icmp .ge 49, 3) := by decide +kernel
theorem dX7_read_51 : decode cX7_read 51 = .ok (.aload_n 0, 1) := by decide +kernel
theorem dX7_read_52 : decode cX7_read 52 = .ok (.iload_n 1, 1) := by decide +kernel
theorem dX7_read_53 : decode cX7_read 53 = .ok (.invokevirtual 151, 3) := by decide +kernel
theorem dX7_read_56 : decode cX7_read 56 = .ok (.ifCond .ge 35, 3) := by decide +kernel
theorem dX7_read_59 : decode cX7_read 59 = .ok (.iconst 0, 1) := by decide +kernel
theorem dX7_read_60 : decode cX7_read 60 = .ok (.istore_n 2, 1) := by decide +kernel
theorem dX7_read_61 : decode cX7_read 61 = .ok (.iload_n 2, 1) := by decide +kernel
theorem dX7_read_62 : decode cX7_read 62 = .ok (.bipush 104, 2) := by decide +kernel
theorem dX7_read_64 : decode cX7_read 64 = .ok (.if_icmp .ge 21, 3) := by decide +kernel
theorem dX7_read_67 : decode cX7_read 67 = .ok (.aload_n 0, 1) := by decide +kernel
theorem dX7_read_68 : decode cX7_read 68 = .ok (.getfield 7, 3) := by decide +kernel
theorem dX7_read_71 : decode cX7_read 71 = .ok (.iload_n 2, 1) := by decide +kernel
theorem dX7_read_72 : decode cX7_read 72 = .ok (.aload_n 0, 1) := by decide +kernel
theorem dX7_read_73 : decode cX7_read 73 = .ok (.getfield 13, 3) := by decide +kernel
theorem dX7_read_76 : decode cX7_read 76 = .ok (.iload_n 2, 1) := by decide +kernel
theorem dX7_read_77 : decode cX7_read 77 = .ok (.iaload, 1) := by decide +kernel
theorem dX7_read_78 : decode cX7_read 78 = .ok (.iastore, 1) := by decide +kernel
theorem dX7_read_79 : decode cX7_read 79 = .ok (.iinc 2 1, 3) := by decide +kernel
theorem dX7_read_82 : decode cX7_read 82 = .ok (.goto (-21), 3) := by decide +kernel
theorem dX7_read_85 : decode cX7_read 85 = .ok (.sipush (-1000), 3) := by decide +kernel
theorem dX7_read_88 : decode cX7_read 88 = .ok (.iload_n 1, 1) := by decide +kernel
theorem dX7_read_89 : decode cX7_read 89 = .ok (.isub, 1) := by decide +kernel
theorem dX7_read_90 : decode cX7_read 90 = .ok (.ireturn, 1) := by decide +kernel
theorem dX7_read_91 : decode cX7_read 91 = .ok (.iinc 1 1, 3) := by decide +kernel
theorem dX7_read_94 : decode cX7_read 94 = .ok (.goto (-51), 3) := by decide +kernel
theorem dX7_read_97 : decode cX7_read 97 = .ok (.aload_n 0, 1) := by decide +kernel
theorem dX7_read_98 : decode cX7_read 98 = .ok (.getfield 135, 3) := by decide +kernel
theorem dX7_read_101 : decode cX7_read 101 = .ok (.ireturn, 1) := by decide +kernel
set_option maxRecDepth 20000 in
theorem ggX7_reaches_X7_sounds : GoodIn wsX7_reaches wsX7_sounds := goodIn_r _ [6, 1, 7, 8, 9, 10, 11, 12, 13, 14, 15, 16, 17, 18, 19, 20, 21, 22] (by decide +kernel) (by decide +kernel)
set_option maxRecDepth 20000 in
theorem gX7_reaches_X7_sounds : GoodIn wsX7_reaches (wsV RX7 88 RX7 yX7_sounds wsX7_sounds) := goodIn_app (goodIn_of _ (by decide +kernel)) ggX7_reaches_X7_sounds
theorem dX7_reaches_0 : decode cX7_reaches 0 = .ok (.iconst 0, 1) := by decide +kernel
theorem dX7_reaches_1 : decode cX7_reaches 1 = .ok (.istore 5, 2) := by decide +kernel
theorem dX7_reaches_3 : decode cX7_reaches 3 = .ok (.iconst 0, 1) := by decide +kernel
theorem dX7_reaches_4 : decode cX7_reaches 4 = .ok (.istore 6, 2) := by decide +kernel
theorem dX7_reaches_6 : decode cX7_reaches 6 = .ok (.iload 6, 2) := by decide +kernel
theorem dX7_reaches_8 : decode cX7_reaches 8 = .ok (.aload_n 0, 1) := by decide +kernel
theorem dX7_reaches_9 : decode cX7_reaches 9 = .ok (.getfield 7, 3) := by decide +kernel
theorem dX7_reaches_12 : decode cX7_reaches 12 = .ok (.iconst 0, 1) := by decide +kernel
theorem dX7_reaches_13 : decode cX7_reaches 13 = .ok (.iaload, 1) := by decide +kernel
theorem dX7_reaches_14 : decode cX7_reaches 14 = .ok (.if_icmp .ge 52, 3) := by decide +kernel
theorem dX7_reaches_17 : decode cX7_reaches 17 = .ok (.iload 5, 2) := by decide +kernel
theorem dX7_reaches_19 : decode cX7_reaches 19 = .ok (.ifCond .ne 34, 3) := by decide +kernel
theorem dX7_reaches_22 : decode cX7_reaches 22 = .ok (.aload_n 0, 1) := by decide +kernel
theorem dX7_reaches_23 : decode cX7_reaches 23 = .ok (.getfield 7, 3) := by decide +kernel
theorem dX7_reaches_26 : decode cX7_reaches 26 = .ok (.bipush 16, 2) := by decide +kernel
theorem dX7_reaches_28 : decode cX7_reaches 28 = .ok (.iload 6, 2) := by decide +kernel
theorem dX7_reaches_30 : decode cX7_reaches 30 = .ok (.iadd, 1) := by decide +kernel
theorem dX7_reaches_31 : decode cX7_reaches 31 = .ok (.iaload, 1) := by decide +kernel
theorem dX7_reaches_32 : decode cX7_reaches 32 = .ok (.iload_n 1, 1) := by decide +kernel
theorem dX7_reaches_33 : decode cX7_reaches 33 = .ok (.if_icmp .ne 24, 3) := by decide +kernel
theorem dX7_reaches_36 : decode cX7_reaches 36 = .ok (.aload_n 0, 1) := by decide +kernel
theorem dX7_reaches_37 : decode cX7_reaches 37 = .ok (.iload 6, 2) := by decide +kernel
theorem dX7_reaches_39 : decode cX7_reaches 39 = .ok (.iload_n 3, 1) := by decide +kernel
theorem dX7_reaches_40 : decode cX7_reaches 40 = .ok (.iload 4, 2) := by decide +kernel
theorem dX7_reaches_42 : decode cX7_reaches 42 = .ok (.invokevirtual 88, 3) := by decide +kernel
theorem dX7_reaches_45 : decode cX7_reaches 45 = .ok (.iload_n 2, 1) := by decide +kernel
theorem dX7_reaches_46 : decode cX7_reaches 46 = .ok (.ishr, 1) := by decide +kernel
theorem dX7_reaches_47 : decode cX7_reaches 47 = .ok (.iconst 1, 1) := by decide +kernel
theorem dX7_reaches_48 : decode cX7_reaches 48 = .ok (.iand, 1) := by decide +kernel
theorem dX7_reaches_49 : decode cX7_reaches 49 = .ok (.iconst 1, 1) := by decide +kernel
theorem dX7_reaches_50 : decode cX7_reaches 50 = .ok (.if_icmp .ne 7, 3) := by decide +kernel
theorem dX7_reaches_53 : decode cX7_reaches 53 = .ok (.iconst 1, 1) := by decide +kernel
theorem dX7_reaches_54 : decode cX7_reaches 54 = .ok (.goto 4, 3) := by decide +kernel
theorem dX7_reaches_57 : decode cX7_reaches 57 = .ok (.iconst 0, 1) := by decide +kernel
theorem dX7_reaches_58 : decode cX7_reaches 58 = .ok (.istore 5, 2) := by decide +kernel
theorem dX7_reaches_60 : decode cX7_reaches 60 = .ok (.iinc 6 1, 3) := by decide +kernel
theorem dX7_reaches_63 : decode cX7_reaches 63 = .ok (.goto (-57), 3) := by decide +kernel
theorem dX7_reaches_66 : decode cX7_reaches 66 = .ok (.iload 5, 2) := by decide +kernel
theorem dX7_reaches_68 : decode cX7_reaches 68 = .ok (.ireturn, 1) := by decide +kernel
set_option maxRecDepth 20000 in
theorem ggX7_dueFor_X7_reaches : GoodIn wsX7_dueFor wsX7_reaches := goodIn_r _ [6, 1, 7, 8, 9, 5, 10, 11, 12, 13, 14, 15, 16, 17, 18, 19, 20, 21, 22, 23, 24, 25, 26] (by decide +kernel) (by decide +kernel)
set_option maxRecDepth 20000 in
theorem gX7_dueFor_X7_reaches : GoodIn wsX7_dueFor (wsV RX7 154 RX7 yX7_reaches wsX7_reaches) := goodIn_app (goodIn_of _ (by decide +kernel)) ggX7_dueFor_X7_reaches
theorem dX7_dueFor_0 : decode cX7_dueFor 0 = .ok (.iconst 0, 1) := by decide +kernel
theorem dX7_dueFor_1 : decode cX7_dueFor 1 = .ok (.istore_n 3, 1) := by decide +kernel
theorem dX7_dueFor_2 : decode cX7_dueFor 2 = .ok (.iconst 0, 1) := by decide +kernel
theorem dX7_dueFor_3 : decode cX7_dueFor 3 = .ok (.istore 4, 2) := by decide +kernel
theorem dX7_dueFor_5 : decode cX7_dueFor 5 = .ok (.iload 4, 2) := by decide +kernel
theorem dX7_dueFor_7 : decode cX7_dueFor 7 = .ok (.aload_n 0, 1) := by decide +kernel
theorem dX7_dueFor_8 : decode cX7_dueFor 8 = .ok (.getfield 7, 3) := by decide +kernel
theorem dX7_dueFor_11 : decode cX7_dueFor 11 = .ok (.iconst 0, 1) := by decide +kernel
theorem dX7_dueFor_12 : decode cX7_dueFor 12 = .ok (.iaload, 1) := by decide +kernel
theorem dX7_dueFor_13 : decode cX7_dueFor 13 = .ok (.if_icmp .ge 66, 3) := by decide +kernel
theorem dX7_dueFor_16 : decode cX7_dueFor 16 = .ok (.iload_n 3, 1) := by decide +kernel
theorem dX7_dueFor_17 : decode cX7_dueFor 17 = .ok (.aload_n 0, 1) := by decide +kernel
theorem dX7_dueFor_18 : decode cX7_dueFor 18 = .ok (.getfield 7, 3) := by decide +kernel
theorem dX7_dueFor_21 : decode cX7_dueFor 21 = .ok (.bipush 86, 2) := by decide +kernel
theorem dX7_dueFor_23 : decode cX7_dueFor 23 = .ok (.iload_n 1, 1) := by decide +kernel
theorem dX7_dueFor_24 : decode cX7_dueFor 24 = .ok (.iadd, 1) := by decide +kernel
theorem dX7_dueFor_25 : decode cX7_dueFor 25 = .ok (.iaload, 1) := by decide +kernel
theorem dX7_dueFor_26 : decode cX7_dueFor 26 = .ok (.iload 4, 2) := by decide +kernel
theorem dX7_dueFor_28 : decode cX7_dueFor 28 = .ok (.ishr, 1) := by decide +kernel
theorem dX7_dueFor_29 : decode cX7_dueFor 29 = .ok (.iconst 1, 1) := by decide +kernel
theorem dX7_dueFor_30 : decode cX7_dueFor 30 = .ok (.iand, 1) := by decide +kernel
theorem dX7_dueFor_31 : decode cX7_dueFor 31 = .ok (.iconst 1, 1) := by decide +kernel
theorem dX7_dueFor_32 : decode cX7_dueFor 32 = .ok (.if_icmp .ne 38, 3) := by decide +kernel
theorem dX7_dueFor_35 : decode cX7_dueFor 35 = .ok (.aload_n 0, 1) := by decide +kernel
theorem dX7_dueFor_36 : decode cX7_dueFor 36 = .ok (.iload 4, 2) := by decide +kernel
theorem dX7_dueFor_38 : decode cX7_dueFor 38 = .ok (.aload_n 0, 1) := by decide +kernel
theorem dX7_dueFor_39 : decode cX7_dueFor 39 = .ok (.getfield 7, 3) := by decide +kernel
theorem dX7_dueFor_42 : decode cX7_dueFor 42 = .ok (.bipush 62, 2) := by decide +kernel
theorem dX7_dueFor_44 : decode cX7_dueFor 44 = .ok (.iload_n 1, 1) := by decide +kernel
theorem dX7_dueFor_45 : decode cX7_dueFor 45 = .ok (.iadd, 1) := by decide +kernel
theorem dX7_dueFor_46 : decode cX7_dueFor 46 = .ok (.iaload, 1) := by decide +kernel
theorem dX7_dueFor_47 : decode cX7_dueFor 47 = .ok (.aload_n 0, 1) := by decide +kernel
theorem dX7_dueFor_48 : decode cX7_dueFor 48 = .ok (.getfield 7, 3) := by decide +kernel
theorem dX7_dueFor_51 : decode cX7_dueFor 51 = .ok (.bipush 74, 2) := by decide +kernel
theorem dX7_dueFor_53 : decode cX7_dueFor 53 = .ok (.iload_n 1, 1) := by decide +kernel
theorem dX7_dueFor_54 : decode cX7_dueFor 54 = .ok (.iadd, 1) := by decide +kernel
theorem dX7_dueFor_55 : decode cX7_dueFor 55 = .ok (.iaload, 1) := by decide +kernel
theorem dX7_dueFor_56 : decode cX7_dueFor 56 = .ok (.iload_n 2, 1) := by decide +kernel
theorem dX7_dueFor_57 : decode cX7_dueFor 57 = .ok (.invokevirtual 154, 3) := by decide +kernel
theorem dX7_dueFor_60 : decode cX7_dueFor 60 = .ok (.ifCond .eq 10, 3) := by decide +kernel
theorem dX7_dueFor_63 : decode cX7_dueFor 63 = .ok (.iconst 1, 1) := by decide +kernel
theorem dX7_dueFor_64 : decode cX7_dueFor 64 = .ok (.iload 4, 2) := by decide +kernel
theorem dX7_dueFor_66 : decode cX7_dueFor 66 = .ok (.ishl, 1) := by decide +kernel
theorem dX7_dueFor_67 : decode cX7_dueFor 67 = .ok (.goto 4, 3) := by decide +kernel
theorem dX7_dueFor_70 : decode cX7_dueFor 70 = .ok (.iconst 0, 1) := by decide +kernel
theorem dX7_dueFor_71 : decode cX7_dueFor 71 = .ok (.ior, 1) := by decide +kernel
theorem dX7_dueFor_72 : decode cX7_dueFor 72 = .ok (.istore_n 3, 1) := by decide +kernel
theorem dX7_dueFor_73 : decode cX7_dueFor 73 = .ok (.iinc 4 1, 3) := by decide +kernel
theorem dX7_dueFor_76 : decode cX7_dueFor 76 = .ok (.goto (-71), 3) := by decide +kernel
theorem dX7_dueFor_79 : decode cX7_dueFor 79 = .ok (.iload_n 3, 1) := by decide +kernel
theorem dX7_dueFor_80 : decode cX7_dueFor 80 = .ok (.ireturn, 1) := by decide +kernel
theorem dX7_rangAhead_0 : decode cX7_rangAhead 0 = .ok (.iconst 0, 1) := by decide +kernel
theorem dX7_rangAhead_1 : decode cX7_rangAhead 1 = .ok (.istore 4, 2) := by decide +kernel
theorem dX7_rangAhead_3 : decode cX7_rangAhead 3 = .ok (.iconst 0, 1) := by decide +kernel
theorem dX7_rangAhead_4 : decode cX7_rangAhead 4 = .ok (.istore 5, 2) := by decide +kernel
theorem dX7_rangAhead_6 : decode cX7_rangAhead 6 = .ok (.iload 5, 2) := by decide +kernel
theorem dX7_rangAhead_8 : decode cX7_rangAhead 8 = .ok (.iload_n 3, 1) := by decide +kernel
theorem dX7_rangAhead_9 : decode cX7_rangAhead 9 = .ok (.if_icmp .ge 43, 3) := by decide +kernel
theorem dX7_rangAhead_12 : decode cX7_rangAhead 12 = .ok (.iload 4, 2) := by decide +kernel
theorem dX7_rangAhead_14 : decode cX7_rangAhead 14 = .ok (.aload_n 0, 1) := by decide +kernel
theorem dX7_rangAhead_15 : decode cX7_rangAhead 15 = .ok (.getfield 7, 3) := by decide +kernel
theorem dX7_rangAhead_18 : decode cX7_rangAhead 18 = .ok (.bipush 62, 2) := by decide +kernel
theorem dX7_rangAhead_20 : decode cX7_rangAhead 20 = .ok (.iload 5, 2) := by decide +kernel
theorem dX7_rangAhead_22 : decode cX7_rangAhead 22 = .ok (.iadd, 1) := by decide +kernel
theorem dX7_rangAhead_23 : decode cX7_rangAhead 23 = .ok (.iaload, 1) := by decide +kernel
theorem dX7_rangAhead_24 : decode cX7_rangAhead 24 = .ok (.iload_n 2, 1) := by decide +kernel
theorem dX7_rangAhead_25 : decode cX7_rangAhead 25 = .ok (.if_icmp .ne 17, 3) := by decide +kernel
theorem dX7_rangAhead_28 : decode cX7_rangAhead 28 = .ok (.aload_n 0, 1) := by decide +kernel
theorem dX7_rangAhead_29 : decode cX7_rangAhead 29 = .ok (.getfield 35, 3) := by decide +kernel
theorem dX7_rangAhead_32 : decode cX7_rangAhead 32 = .ok (.iload 5, 2) := by decide +kernel
theorem dX7_rangAhead_34 : decode cX7_rangAhead 34 = .ok (.iaload, 1) := by decide +kernel
theorem dX7_rangAhead_35 : decode cX7_rangAhead 35 = .ok (.iload_n 1, 1) := by decide +kernel
theorem dX7_rangAhead_36 : decode cX7_rangAhead 36 = .ok (.ishr, 1) := by decide +kernel
theorem dX7_rangAhead_37 : decode cX7_rangAhead 37 = .ok (.iconst 1, 1) := by decide +kernel
theorem dX7_rangAhead_38 : decode cX7_rangAhead 38 = .ok (.iand, 1) := by decide +kernel
theorem dX7_rangAhead_39 : decode cX7_rangAhead 39 = .ok (.goto 4, 3) := by decide +kernel
theorem dX7_rangAhead_42 : decode cX7_rangAhead 42 = .ok (.iconst 0, 1) := by decide +kernel
theorem dX7_rangAhead_43 : decode cX7_rangAhead 43 = .ok (.iadd, 1) := by decide +kernel
theorem dX7_rangAhead_44 : decode cX7_rangAhead 44 = .ok (.istore 4, 2) := by decide +kernel
theorem dX7_rangAhead_46 : decode cX7_rangAhead 46 = .ok (.iinc 5 1, 3) := by decide +kernel
theorem dX7_rangAhead_49 : decode cX7_rangAhead 49 = .ok (.goto (-43), 3) := by decide +kernel
theorem dX7_rangAhead_52 : decode cX7_rangAhead 52 = .ok (.iload 4, 2) := by decide +kernel
theorem dX7_rangAhead_54 : decode cX7_rangAhead 54 = .ok (.ireturn, 1) := by decide +kernel
theorem dX7_lastAhead_0 : decode cX7_lastAhead 0 = .ok (.iconst (-1), 1) := by decide +kernel
theorem dX7_lastAhead_1 : decode cX7_lastAhead 1 = .ok (.istore 4, 2) := by decide +kernel
theorem dX7_lastAhead_3 : decode cX7_lastAhead 3 = .ok (.iconst 0, 1) := by decide +kernel
theorem dX7_lastAhead_4 : decode cX7_lastAhead 4 = .ok (.istore 5, 2) := by decide +kernel
theorem dX7_lastAhead_6 : decode cX7_lastAhead 6 = .ok (.iload 5, 2) := by decide +kernel
theorem dX7_lastAhead_8 : decode cX7_lastAhead 8 = .ok (.iload_n 3, 1) := by decide +kernel
theorem dX7_lastAhead_9 : decode cX7_lastAhead 9 = .ok (.if_icmp .ge 56, 3) := by decide +kernel
theorem dX7_lastAhead_12 : decode cX7_lastAhead 12 = .ok (.aload_n 0, 1) := by decide +kernel
theorem dX7_lastAhead_13 : decode cX7_lastAhead 13 = .ok (.getfield 7, 3) := by decide +kernel
theorem dX7_lastAhead_16 : decode cX7_lastAhead 16 = .ok (.bipush 62, 2) := by decide +kernel
theorem dX7_lastAhead_18 : decode cX7_lastAhead 18 = .ok (.iload 5, 2) := by decide +kernel
theorem dX7_lastAhead_20 : decode cX7_lastAhead 20 = .ok (.iadd, 1) := by decide +kernel
theorem dX7_lastAhead_21 : decode cX7_lastAhead 21 = .ok (.iaload, 1) := by decide +kernel
theorem dX7_lastAhead_22 : decode cX7_lastAhead 22 = .ok (.iload_n 2, 1) := by decide +kernel
theorem dX7_lastAhead_23 : decode cX7_lastAhead 23 = .ok (.if_icmp .ne 32, 3) := by decide +kernel
theorem dX7_lastAhead_26 : decode cX7_lastAhead 26 = .ok (.aload_n 0, 1) := by decide +kernel
theorem dX7_lastAhead_27 : decode cX7_lastAhead 27 = .ok (.getfield 32, 3) := by decide +kernel
theorem dX7_lastAhead_30 : decode cX7_lastAhead 30 = .ok (.iload 5, 2) := by decide +kernel
theorem dX7_lastAhead_32 : decode cX7_lastAhead 32 = .ok (.iaload, 1) := by decide +kernel
theorem dX7_lastAhead_33 : decode cX7_lastAhead 33 = .ok (.iload_n 1, 1) := by decide +kernel
theorem dX7_lastAhead_34 : decode cX7_lastAhead 34 = .ok (.ishr, 1) := by decide +kernel
theorem dX7_lastAhead_35 : decode cX7_lastAhead 35 = .ok (.iconst 1, 1) := by decide +kernel
theorem dX7_lastAhead_36 : decode cX7_lastAhead 36 = .ok (.iand, 1) := by decide +kernel
theorem dX7_lastAhead_37 : decode cX7_lastAhead 37 = .ok (.iconst 1, 1) := by decide +kernel
theorem dX7_lastAhead_38 : decode cX7_lastAhead 38 = .ok (.if_icmp .ne 17, 3) := by decide +kernel
theorem dX7_lastAhead_41 : decode cX7_lastAhead 41 = .ok (.aload_n 0, 1) := by decide +kernel
theorem dX7_lastAhead_42 : decode cX7_lastAhead 42 = .ok (.getfield 35, 3) := by decide +kernel
theorem dX7_lastAhead_45 : decode cX7_lastAhead 45 = .ok (.iload 5, 2) := by decide +kernel
theorem dX7_lastAhead_47 : decode cX7_lastAhead 47 = .ok (.iaload, 1) := by decide +kernel
theorem dX7_lastAhead_48 : decode cX7_lastAhead 48 = .ok (.iload_n 1, 1) := by decide +kernel
theorem dX7_lastAhead_49 : decode cX7_lastAhead 49 = .ok (.ishr, 1) := by decide +kernel
theorem dX7_lastAhead_50 : decode cX7_lastAhead 50 = .ok (.iconst 1, 1) := by decide +kernel
theorem dX7_lastAhead_51 : decode cX7_lastAhead 51 = .ok (.iand, 1) := by decide +kernel
theorem dX7_lastAhead_52 : decode cX7_lastAhead 52 = .ok (.goto 5, 3) := by decide +kernel
theorem dX7_lastAhead_55 : decode cX7_lastAhead 55 = .ok (.iload 4, 2) := by decide +kernel
theorem dX7_lastAhead_57 : decode cX7_lastAhead 57 = .ok (.istore 4, 2) := by decide +kernel
theorem dX7_lastAhead_59 : decode cX7_lastAhead 59 = .ok (.iinc 5 1, 3) := by decide +kernel
theorem dX7_lastAhead_62 : decode cX7_lastAhead 62 = .ok (.goto (-56), 3) := by decide +kernel
theorem dX7_lastAhead_65 : decode cX7_lastAhead 65 = .ok (.iload 4, 2) := by decide +kernel
theorem dX7_lastAhead_67 : decode cX7_lastAhead 67 = .ok (.ireturn, 1) := by decide +kernel
set_option maxRecDepth 20000 in
theorem ggX7_rings_X7_lastAhead : GoodIn wsX7_rings wsX7_lastAhead := goodIn_r _ [7, 1, 8, 2, 13, 14, 15, 16, 17, 18, 19, 20, 21, 22, 23, 24, 25, 26, 27, 28] (by decide +kernel) (by decide +kernel)
set_option maxRecDepth 20000 in
theorem gX7_rings_X7_lastAhead : GoodIn wsX7_rings (wsV RX7 158 RX7 yX7_lastAhead wsX7_lastAhead) := goodIn_app (goodIn_of _ (by decide +kernel)) ggX7_rings_X7_lastAhead
set_option maxRecDepth 20000 in
theorem ggX7_rings_X7_rangAhead : GoodIn wsX7_rings wsX7_rangAhead := goodIn_r _ [12, 1, 2, 13, 14, 15, 16, 17, 18, 19, 20, 21, 22, 23, 24, 25, 26, 27, 28] (by decide +kernel) (by decide +kernel)
set_option maxRecDepth 20000 in
theorem gX7_rings_X7_rangAhead : GoodIn wsX7_rings (wsV RX7 161 RX7 yX7_rangAhead wsX7_rangAhead) := goodIn_app (goodIn_of _ (by decide +kernel)) ggX7_rings_X7_rangAhead
theorem dX7_rings_0 : decode cX7_rings 0 = .ok (.aload_n 0, 1) := by decide +kernel
theorem dX7_rings_1 : decode cX7_rings 1 = .ok (.getfield 7, 3) := by decide +kernel
theorem dX7_rings_4 : decode cX7_rings 4 = .ok (.bipush 62, 2) := by decide +kernel
theorem dX7_rings_6 : decode cX7_rings 6 = .ok (.iload_n 2, 1) := by decide +kernel
theorem dX7_rings_7 : decode cX7_rings 7 = .ok (.iadd, 1) := by decide +kernel
theorem dX7_rings_8 : decode cX7_rings 8 = .ok (.iaload, 1) := by decide +kernel
theorem dX7_rings_9 : decode cX7_rings 9 = .ok (.istore_n 3, 1) := by decide +kernel
theorem dX7_rings_10 : decode cX7_rings 10 = .ok (.aload_n 0, 1) := by decide +kernel
theorem dX7_rings_11 : decode cX7_rings 11 = .ok (.getfield 7, 3) := by decide +kernel
theorem dX7_rings_14 : decode cX7_rings 14 = .ok (.iconst 4, 1) := by decide +kernel
theorem dX7_rings_15 : decode cX7_rings 15 = .ok (.iload_n 1, 1) := by decide +kernel
theorem dX7_rings_16 : decode cX7_rings 16 = .ok (.iadd, 1) := by decide +kernel
theorem dX7_rings_17 : decode cX7_rings 17 = .ok (.iaload, 1) := by decide +kernel
theorem dX7_rings_18 : decode cX7_rings 18 = .ok (.istore 4, 2) := by decide +kernel
theorem dX7_rings_20 : decode cX7_rings 20 = .ok (.aload_n 0, 1) := by decide +kernel
theorem dX7_rings_21 : decode cX7_rings 21 = .ok (.iload_n 3, 1) := by decide +kernel
theorem dX7_rings_22 : decode cX7_rings 22 = .ok (.iload_n 1, 1) := by decide +kernel
theorem dX7_rings_23 : decode cX7_rings 23 = .ok (.iload_n 2, 1) := by decide +kernel
theorem dX7_rings_24 : decode cX7_rings 24 = .ok (.invokevirtual 158, 3) := by decide +kernel
theorem dX7_rings_27 : decode cX7_rings 27 = .ok (.ifCond .eq 7, 3) := by decide +kernel
theorem dX7_rings_30 : decode cX7_rings 30 = .ok (.iconst 1, 1) := by decide +kernel
theorem dX7_rings_31 : decode cX7_rings 31 = .ok (.goto 4, 3) := by decide +kernel
theorem dX7_rings_34 : decode cX7_rings 34 = .ok (.iconst 0, 1) := by decide +kernel
theorem dX7_rings_35 : decode cX7_rings 35 = .ok (.istore 5, 2) := by decide +kernel
theorem dX7_rings_37 : decode cX7_rings 37 = .ok (.iload 4, 2) := by decide +kernel
theorem dX7_rings_39 : decode cX7_rings 39 = .ok (.iconst 2, 1) := by decide +kernel
theorem dX7_rings_40 : decode cX7_rings 40 = .ok (.if_icmp .ne 72, 3) := by decide +kernel
theorem dX7_rings_43 : decode cX7_rings 43 = .ok (.iload_n 2, 1) := by decide +kernel
theorem dX7_rings_44 : decode cX7_rings 44 = .ok (.ifCond .le 49, 3) := by decide +kernel
theorem dX7_rings_47 : decode cX7_rings 47 = .ok (.aload_n 0, 1) := by decide +kernel
theorem dX7_rings_48 : decode cX7_rings 48 = .ok (.getfield 7, 3) := by decide +kernel
theorem dX7_rings_51 : decode cX7_rings 51 = .ok (.bipush 62, 2) := by decide +kernel
theorem dX7_rings_53 : decode cX7_rings 53 = .ok (.iload_n 2, 1) := by decide +kernel
theorem dX7_rings_54 : decode cX7_rings 54 = .ok (.ifCond .le 9, 3) := by decide +kernel
theorem dX7_rings_57 : decode cX7_rings 57 = .ok (.iload_n 2, 1) := by decide +kernel
theorem dX7_rings_58 : decode cX7_rings 58 = .ok (.iconst 1, 1) := by decide +kernel
theorem dX7_rings_59 : decode cX7_rings 59 = .ok (.isub, 1) := by decide +kernel
theorem dX7_rings_60 : decode cX7_rings 60 = .ok (.goto 4, 3) := by decide +kernel
theorem dX7_rings_63 : decode cX7_rings 63 = .ok (.iconst 0, 1) := by decide +kernel
theorem dX7_rings_64 : decode cX7_rings 64 = .ok (.iadd, 1) := by decide +kernel
theorem dX7_rings_65 : decode cX7_rings 65 = .ok (.iaload, 1) := by decide +kernel
theorem dX7_rings_66 : decode cX7_rings 66 = .ok (.iload_n 1, 1) := by decide +kernel
theorem dX7_rings_67 : decode cX7_rings 67 = .ok (.if_icmp .ne 26, 3) := by decide +kernel
theorem dX7_rings_70 : decode cX7_rings 70 = .ok (.aload_n 0, 1) := by decide +kernel
theorem dX7_rings_71 : decode cX7_rings 71 = .ok (.getfield 35, 3) := by decide +kernel
theorem dX7_rings_74 : decode cX7_rings 74 = .ok (.iload_n 2, 1) := by decide +kernel
theorem dX7_rings_75 : decode cX7_rings 75 = .ok (.ifCond .le 9, 3) := by decide +kernel
theorem dX7_rings_78 : decode cX7_rings 78 = .ok (.iload_n 2, 1) := by decide +kernel
theorem dX7_rings_79 : decode cX7_rings 79 = .ok (.iconst 1, 1) := by decide +kernel
theorem dX7_rings_80 : decode cX7_rings 80 = .ok (.isub, 1) := by decide +kernel
theorem dX7_rings_81 : decode cX7_rings 81 = .ok (.goto 4, 3) := by decide +kernel
theorem dX7_rings_84 : decode cX7_rings 84 = .ok (.iconst 0, 1) := by decide +kernel
theorem dX7_rings_85 : decode cX7_rings 85 = .ok (.iaload, 1) := by decide +kernel
theorem dX7_rings_86 : decode cX7_rings 86 = .ok (.ifCond .ne 7, 3) := by decide +kernel
theorem dX7_rings_89 : decode cX7_rings 89 = .ok (.iconst 1, 1) := by decide +kernel
theorem dX7_rings_90 : decode cX7_rings 90 = .ok (.goto 4, 3) := by decide +kernel
theorem dX7_rings_93 : decode cX7_rings 93 = .ok (.iconst 0, 1) := by decide +kernel
theorem dX7_rings_94 : decode cX7_rings 94 = .ok (.istore 6, 2) := by decide +kernel
theorem dX7_rings_96 : decode cX7_rings 96 = .ok (.iload 5, 2) := by decide +kernel
theorem dX7_rings_98 : decode cX7_rings 98 = .ok (.ifCond .eq 12, 3) := by decide +kernel
theorem dX7_rings_101 : decode cX7_rings 101 = .ok (.iload 6, 2) := by decide +kernel
theorem dX7_rings_103 : decode cX7_rings 103 = .ok (.ifCond .ne 7, 3) := by decide +kernel
theorem dX7_rings_106 : decode cX7_rings 106 = .ok (.iconst 1, 1) := by decide +kernel
theorem dX7_rings_107 : decode cX7_rings 107 = .ok (.goto 4, 3) := by decide +kernel
theorem dX7_rings_110 : decode cX7_rings 110 = .ok (.iconst 0, 1) := by decide +kernel
theorem dX7_rings_111 : decode cX7_rings 111 = .ok (.ireturn, 1) := by decide +kernel
theorem dX7_rings_112 : decode cX7_rings 112 = .ok (.iload 4, 2) := by decide +kernel
theorem dX7_rings_114 : decode cX7_rings 114 = .ok (.iconst 4, 1) := by decide +kernel
theorem dX7_rings_115 : decode cX7_rings 115 = .ok (.if_icmp .ne 26, 3) := by decide +kernel
theorem dX7_rings_118 : decode cX7_rings 118 = .ok (.aload_n 0, 1) := by decide +kernel
theorem dX7_rings_119 : decode cX7_rings 119 = .ok (.iload_n 3, 1) := by decide +kernel
theorem dX7_rings_120 : decode cX7_rings 120 = .ok (.iload_n 1, 1) := by decide +kernel
theorem dX7_rings_121 : decode cX7_rings 121 = .ok (.iload_n 2, 1) := by decide +kernel
theorem dX7_rings_122 : decode cX7_rings 122 = .ok (.invokevirtual 161, 3) := by decide +kernel
theorem dX7_rings_125 : decode cX7_rings 125 = .ok (.aload_n 0, 1) := by decide +kernel
theorem dX7_rings_126 : decode cX7_rings 126 = .ok (.iload_n 1, 1) := by decide +kernel
theorem dX7_rings_127 : decode cX7_rings 127 = .ok (.iload_n 3, 1) := by decide +kernel
theorem dX7_rings_128 : decode cX7_rings 128 = .ok (.iload_n 2, 1) := by decide +kernel
theorem dX7_rings_129 : decode cX7_rings 129 = .ok (.invokevirtual 161, 3) := by decide +kernel
theorem dX7_rings_132 : decode cX7_rings 132 = .ok (.if_icmp .le 7, 3) := by decide +kernel
theorem dX7_rings_135 : decode cX7_rings 135 = .ok (.iconst 1, 1) := by decide +kernel
theorem dX7_rings_136 : decode cX7_rings 136 = .ok (.goto 4, 3) := by decide +kernel
theorem dX7_rings_139 : decode cX7_rings 139 = .ok (.iconst 0, 1) := by decide +kernel
theorem dX7_rings_140 : decode cX7_rings 140 = .ok (.ireturn, 1) := by decide +kernel
theorem dX7_rings_141 : decode cX7_rings 141 = .ok (.iload 4, 2) := by decide +kernel
theorem dX7_rings_143 : decode cX7_rings 143 = .ok (.iconst 1, 1) := by decide +kernel
theorem dX7_rings_144 : decode cX7_rings 144 = .ok (.if_icmp .ne 8, 3) := by decide +kernel
theorem dX7_rings_147 : decode cX7_rings 147 = .ok (.iload 5, 2) := by decide +kernel
theorem dX7_rings_149 : decode cX7_rings 149 = .ok (.goto 32, 3) := by decide +kernel
theorem dX7_rings_152 : decode cX7_rings 152 = .ok (.iload 4, 2) := by decide +kernel
theorem dX7_rings_154 : decode cX7_rings 154 = .ok (.iconst 3, 1) := by decide +kernel
theorem dX7_rings_155 : decode cX7_rings 155 = .ok (.if_icmp .ne 21, 3) := by decide +kernel
theorem dX7_rings_158 : decode cX7_rings 158 = .ok (.iload 5, 2) := by decide +kernel
theorem dX7_rings_160 : decode cX7_rings 160 = .ok (.ifCond .ne 16, 3) := by decide +kernel
theorem dX7_rings_163 : decode cX7_rings 163 = .ok (.aload_n 0, 1) := by decide +kernel
theorem dX7_rings_164 : decode cX7_rings 164 = .ok (.getfield 7, 3) := by decide +kernel
theorem dX7_rings_167 : decode cX7_rings 167 = .ok (.bipush 10, 2) := by decide +kernel
theorem dX7_rings_169 : decode cX7_rings 169 = .ok (.iload_n 1, 1) := by decide +kernel
theorem dX7_rings_170 : decode cX7_rings 170 = .ok (.iadd, 1) := by decide +kernel
theorem dX7_rings_171 : decode cX7_rings 171 = .ok (.iaload, 1) := by decide +kernel
theorem dX7_rings_172 : decode cX7_rings 172 = .ok (.iload_n 3, 1) := by decide +kernel
theorem dX7_rings_173 : decode cX7_rings 173 = .ok (.if_icmp .ne 7, 3) := by decide +kernel
theorem dX7_rings_176 : decode cX7_rings 176 = .ok (.iconst 1, 1) := by decide +kernel
theorem dX7_rings_177 : decode cX7_rings 177 = .ok (.goto 4, 3) := by decide +kernel
theorem dX7_rings_180 : decode cX7_rings 180 = .ok (.iconst 0, 1) := by decide +kernel
theorem dX7_rings_181 : decode cX7_rings 181 = .ok (.ireturn, 1) := by decide +kernel
set_option maxRecDepth 20000 in
theorem ggX7_runs_X7_dueFor : GoodIn wsX7_runs wsX7_dueFor := goodIn_r _ [8, 1, 9, 10, 11, 7, 12, 13, 14, 15, 16, 29, 30, 31, 32, 33, 34, 35, 36, 37, 38, 39, 40, 41, 42, 43, 44] (by decide +kernel) (by decide +kernel)
set_option maxRecDepth 20000 in
theorem gX7_runs_X7_dueFor : GoodIn wsX7_runs (wsV RX7 164 RX7 yX7_dueFor wsX7_dueFor) := goodIn_app (goodIn_of _ (by decide +kernel)) ggX7_runs_X7_dueFor
set_option maxRecDepth 20000 in
theorem ggX7_runs_X7_rings : GoodIn wsX7_runs wsX7_rings := goodIn_r _ [20, 1, 3, 21, 22, 23, 7, 24, 2, 25, 26, 27, 28, 29, 30, 31, 32, 33, 34, 35, 36, 37, 38, 39, 40, 41, 42, 43, 44] (by decide +kernel) (by decide +kernel)
set_option maxRecDepth 20000 in
theorem gX7_runs_X7_rings : GoodIn wsX7_runs (wsV RX7 167 RX7 yX7_rings wsX7_rings) := goodIn_app (goodIn_of _ (by decide +kernel)) ggX7_runs_X7_rings
theorem dX7_runs_0 : decode cX7_runs 0 = .ok (.iconst 0, 1) := by decide +kernel
theorem dX7_runs_1 : decode cX7_runs 1 = .ok (.istore_n 1, 1) := by decide +kernel
theorem dX7_runs_2 : decode cX7_runs 2 = .ok (.iload_n 1, 1) := by decide +kernel
theorem dX7_runs_3 : decode cX7_runs 3 = .ok (.aload_n 0, 1) := by decide +kernel
theorem dX7_runs_4 : decode cX7_runs 4 = .ok (.getfield 7, 3) := by decide +kernel
theorem dX7_runs_7 : decode cX7_runs 7 = .ok (.iconst 2, 1) := by decide +kernel
theorem dX7_runs_8 : decode cX7_runs 8 = .ok (.iaload, 1) := by decide +kernel
theorem dX7_runs_9 : decode cX7_runs 9 = .ok (.if_icmp .ge 83, 3) := by decide +kernel
theorem dX7_runs_12 : decode cX7_runs 12 = .ok (.aload_n 0, 1) := by decide +kernel
theorem dX7_runs_13 : decode cX7_runs 13 = .ok (.getfield 32, 3) := by decide +kernel
theorem dX7_runs_16 : decode cX7_runs 16 = .ok (.iload_n 1, 1) := by decide +kernel
theorem dX7_runs_17 : decode cX7_runs 17 = .ok (.aload_n 0, 1) := by decide +kernel
theorem dX7_runs_18 : decode cX7_runs 18 = .ok (.iload_n 1, 1) := by decide +kernel
theorem dX7_runs_19 : decode cX7_runs 19 = .ok (.sipush 255, 3) := by decide +kernel
theorem dX7_runs_22 : decode cX7_runs 22 = .ok (.invokevirtual 164, 3) := by decide +kernel
theorem dX7_runs_25 : decode cX7_runs 25 = .ok (.iastore, 1) := by decide +kernel
theorem dX7_runs_26 : decode cX7_runs 26 = .ok (.iconst 0, 1) := by decide +kernel
theorem dX7_runs_27 : decode cX7_runs 27 = .ok (.istore_n 2, 1) := by decide +kernel
theorem dX7_runs_28 : decode cX7_runs 28 = .ok (.iconst 0, 1) := by decide +kernel
theorem dX7_runs_29 : decode cX7_runs 29 = .ok (.istore_n 3, 1) := by decide +kernel
theorem dX7_runs_30 : decode cX7_runs 30 = .ok (.iload_n 3, 1) := by decide +kernel
theorem dX7_runs_31 : decode cX7_runs 31 = .ok (.aload_n 0, 1) := by decide +kernel
theorem dX7_runs_32 : decode cX7_runs 32 = .ok (.getfield 7, 3) := by decide +kernel
theorem dX7_runs_35 : decode cX7_runs 35 = .ok (.iconst 0, 1) := by decide +kernel
theorem dX7_runs_36 : decode cX7_runs 36 = .ok (.iaload, 1) := by decide +kernel
theorem dX7_runs_37 : decode cX7_runs 37 = .ok (.if_icmp .ge 42, 3) := by decide +kernel
theorem dX7_runs_40 : decode cX7_runs 40 = .ok (.iload_n 2, 1) := by decide +kernel
theorem dX7_runs_41 : decode cX7_runs 41 = .ok (.aload_n 0, 1) := by decide +kernel
theorem dX7_runs_42 : decode cX7_runs 42 = .ok (.getfield 32, 3) := by decide +kernel
theorem dX7_runs_45 : decode cX7_runs 45 = .ok (.iload_n 1, 1) := by decide +kernel
theorem dX7_runs_46 : decode cX7_runs 46 = .ok (.iaload, 1) := by decide +kernel
theorem dX7_runs_47 : decode cX7_runs 47 = .ok (.iload_n 3, 1) := by decide +kernel
theorem dX7_runs_48 : decode cX7_runs 48 = .ok (.ishr, 1) := by decide +kernel
theorem dX7_runs_49 : decode cX7_runs 49 = .ok (.iconst 1, 1) := by decide +kernel
theorem dX7_runs_50 : decode cX7_runs 50 = .ok (.iand, 1) := by decide +kernel
theorem dX7_runs_51 : decode cX7_runs 51 = .ok (.iconst 1, 1) := by decide +kernel
theorem dX7_runs_52 : decode cX7_runs 52 = .ok (.if_icmp .ne 18, 3) := by decide +kernel
theorem dX7_runs_55 : decode cX7_runs 55 = .ok (.aload_n 0, 1) := by decide +kernel
theorem dX7_runs_56 : decode cX7_runs 56 = .ok (.iload_n 3, 1) := by decide +kernel
theorem dX7_runs_57 : decode cX7_runs 57 = .ok (.iload_n 1, 1) := by decide +kernel
theorem dX7_runs_58 : decode cX7_runs 58 = .ok (.invokevirtual 167, 3) := by decide +kernel
theorem dX7_runs_61 : decode cX7_runs 61 = .ok (.ifCond .eq 9, 3) := by decide +kernel
theorem dX7_runs_64 : decode cX7_runs 64 = .ok (.iconst 1, 1) := by decide +kernel
theorem dX7_runs_65 : decode cX7_runs 65 = .ok (.iload_n 3, 1) := by decide +kernel
theorem dX7_runs_66 : decode cX7_runs 66 = .ok (.ishl, 1) := by decide +kernel
theorem dX7_runs_67 : decode cX7_runs 67 = .ok (.goto 4, 3) := by decide +kernel
theorem dX7_runs_70 : decode cX7_runs 70 = .ok (.iconst 0, 1) := by decide +kernel
theorem dX7_runs_71 : decode cX7_runs 71 = .ok (.ior, 1) := by decide +kernel
theorem dX7_runs_72 : decode cX7_runs 72 = .ok (.istore_n 2, 1) := by decide +kernel
theorem dX7_runs_73 : decode cX7_runs 73 = .ok (.iinc 3 1, 3) := by decide +kernel
theorem dX7_runs_76 : decode cX7_runs 76 = .ok (.goto (-46), 3) := by decide +kernel
theorem dX7_runs_79 : decode cX7_runs 79 = .ok (.aload_n 0, 1) := by decide +kernel
theorem dX7_runs_80 : decode cX7_runs 80 = .ok (.getfield 35, 3) := by decide +kernel
theorem dX7_runs_83 : decode cX7_runs 83 = .ok (.iload_n 1, 1) := by decide +kernel
theorem dX7_runs_84 : decode cX7_runs 84 = .ok (.iload_n 2, 1) := by decide +kernel
theorem dX7_runs_85 : decode cX7_runs 85 = .ok (.iastore, 1) := by decide +kernel
theorem dX7_runs_86 : decode cX7_runs 86 = .ok (.iinc 1 1, 3) := by decide +kernel
theorem dX7_runs_89 : decode cX7_runs 89 = .ok (.goto (-87), 3) := by decide +kernel
theorem dX7_runs_92 : decode cX7_runs 92 = .ok (.return_, 1) := by decide +kernel
set_option maxRecDepth 20000 in
theorem ggX7_rang_X7_in : GoodIn wsX7_rang wsX7_in := goodIn_r _ [7] (by decide +kernel) (by decide +kernel)
set_option maxRecDepth 20000 in
theorem gX7_rang_X7_in : GoodIn wsX7_rang (va_wsS RX7 49 yX7_in wsX7_in) := goodIn_app (goodIn_of _ (by decide +kernel)) ggX7_rang_X7_in
set_option maxRecDepth 20000 in
theorem ggX7_rang_X7_bad : GoodIn wsX7_rang wsX7_bad := goodIn_r _ [11, 12, 13, 14, 6, 15, 16, 45, 46, 47, 48, 49, 50, 51, 52, 53, 54, 55, 56, 57, 58, 59, 60] (by decide +kernel) (by decide +kernel)
set_option maxRecDepth 20000 in
theorem gX7_rang_X7_bad : GoodIn wsX7_rang (wsV RX7 63 RX7 yX7_bad wsX7_bad) := goodIn_app (goodIn_of _ (by decide +kernel)) ggX7_rang_X7_bad
set_option maxRecDepth 20000 in
theorem ggX7_rang_X7_runs : GoodIn wsX7_rang wsX7_runs := goodIn_r _ [20, 1, 2, 3, 21, 22, 23, 6, 24, 25, 26, 27, 28, 29, 30, 31, 32, 33, 34, 35, 36, 37, 38, 39, 40, 41, 42, 43, 44, 45, 46, 47, 48, 49, 50, 51, 52, 53, 54, 55, 56, 57, 58, 59, 60] (by decide +kernel) (by decide +kernel)
set_option maxRecDepth 20000 in
theorem gX7_rang_X7_runs : GoodIn wsX7_rang (wsV RX7 171 RX7 yX7_runs wsX7_runs) := goodIn_app (goodIn_of _ (by decide +kernel)) ggX7_rang_X7_runs
theorem dX7_rang_0 : decode cX7_rang 0 = .ok (.iload_n 1, 1) := by decide +kernel
theorem dX7_rang_1 : decode cX7_rang 1 = .ok (.iconst 0, 1) := by decide +kernel
theorem dX7_rang_2 : decode cX7_rang 2 = .ok (.aload_n 0, 1) := by decide +kernel
theorem dX7_rang_3 : decode cX7_rang 3 = .ok (.getfield 7, 3) := by decide +kernel
theorem dX7_rang_6 : decode cX7_rang 6 = .ok (.iconst 2, 1) := by decide +kernel
theorem dX7_rang_7 : decode cX7_rang 7 = .ok (.iaload, 1) := by decide +kernel
theorem dX7_rang_8 : decode cX7_rang 8 = .ok (.iconst 1, 1) := by decide +kernel
theorem dX7_rang_9 : decode cX7_rang 9 = .ok (.isub, 1) := by decide +kernel
theorem dX7_rang_10 : decode cX7_rang 10 = .ok (.invokestatic 49, 3) := by decide +kernel
theorem dX7_rang_13 : decode cX7_rang 13 = .ok (.ifCond .eq 12, 3) := by decide +kernel
theorem dX7_rang_16 : decode cX7_rang 16 = .ok (.iload_n 2, 1) := by decide +kernel
theorem dX7_rang_17 : decode cX7_rang 17 = .ok (.iconst 0, 1) := by decide +kernel
theorem dX7_rang_18 : decode cX7_rang 18 = .ok (.iconst 1, 1) := by decide +kernel
theorem dX7_rang_19 : decode cX7_rang 19 = .ok (.invokestatic 49, 3) := by decide +kernel
theorem dX7_rang_22 : decode cX7_rang 22 = .ok (.ifCond .ne 8, 3) := by decide +kernel
theorem dX7_rang_25 : decode cX7_rang 25 = .ok (.aload_n 0, 1) := by decide +kernel
theorem dX7_rang_26 : decode cX7_rang 26 = .ok (.invokevirtual 63, 3) := by decide +kernel
theorem dX7_rang_29 : decode cX7_rang 29 = .ok (.ireturn, 1) := by decide +kernel
theorem dX7_rang_30 : decode cX7_rang 30 = .ok (.aload_n 0, 1) := by decide +kernel
theorem dX7_rang_31 : decode cX7_rang 31 = .ok (.invokevirtual 171, 3) := by decide +kernel
theorem dX7_rang_34 : decode cX7_rang 34 = .ok (.iload_n 2, 1) := by decide +kernel
theorem dX7_rang_35 : decode cX7_rang 35 = .ok (.ifCond .ne 12, 3) := by decide +kernel
theorem dX7_rang_38 : decode cX7_rang 38 = .ok (.aload_n 0, 1) := by decide +kernel
theorem dX7_rang_39 : decode cX7_rang 39 = .ok (.getfield 32, 3) := by decide +kernel
theorem dX7_rang_42 : decode cX7_rang 42 = .ok (.iload_n 1, 1) := by decide +kernel
theorem dX7_rang_43 : decode cX7_rang 43 = .ok (.iaload, 1) := by decide +kernel
theorem dX7_rang_44 : decode cX7_rang 44 = .ok (.goto 9, 3) := by decide +kernel
theorem dX7_rang_47 : decode cX7_rang 47 = .ok (.aload_n 0, 1) := by decide +kernel
theorem dX7_rang_48 : decode cX7_rang 48 = .ok (.getfield 35, 3) := by decide +kernel
theorem dX7_rang_51 : decode cX7_rang 51 = .ok (.iload_n 1, 1) := by decide +kernel
theorem dX7_rang_52 : decode cX7_rang 52 = .ok (.iaload, 1) := by decide +kernel
theorem dX7_rang_53 : decode cX7_rang 53 = .ok (.ireturn, 1) := by decide +kernel
set_option maxRecDepth 20000 in
theorem ggX7_helped_X7_in : GoodIn wsX7_helped wsX7_in := goodIn_r _ [6] (by decide +kernel) (by decide +kernel)
set_option maxRecDepth 20000 in
theorem gX7_helped_X7_in : GoodIn wsX7_helped (va_wsS RX7 49 yX7_in wsX7_in) := goodIn_app (goodIn_of _ (by decide +kernel)) ggX7_helped_X7_in
set_option maxRecDepth 20000 in
theorem ggX7_helped_X7_bad : GoodIn wsX7_helped wsX7_bad := goodIn_r _ [10, 11, 12, 13, 5, 14, 15, 45, 46, 47, 48, 49, 50, 51, 52, 53, 54, 55, 56, 57, 58, 59, 60] (by decide +kernel) (by decide +kernel)
set_option maxRecDepth 20000 in
theorem gX7_helped_X7_bad : GoodIn wsX7_helped (wsV RX7 63 RX7 yX7_bad wsX7_bad) := goodIn_app (goodIn_of _ (by decide +kernel)) ggX7_helped_X7_bad
set_option maxRecDepth 20000 in
theorem ggX7_helped_X7_runs : GoodIn wsX7_helped wsX7_runs := goodIn_r _ [19, 1, 20, 2, 21, 22, 23, 5, 24, 25, 26, 27, 28, 29, 30, 31, 32, 33, 34, 35, 36, 37, 38, 39, 40, 41, 42, 43, 44, 45, 46, 47, 48, 49, 50, 51, 52, 53, 54, 55, 56, 57, 58, 59, 60] (by decide +kernel) (by decide +kernel)
set_option maxRecDepth 20000 in
theorem gX7_helped_X7_runs : GoodIn wsX7_helped (wsV RX7 171 RX7 yX7_runs wsX7_runs) := goodIn_app (goodIn_of _ (by decide +kernel)) ggX7_helped_X7_runs
theorem dX7_helped_0 : decode cX7_helped 0 = .ok (.iload_n 1, 1) := by decide +kernel
theorem dX7_helped_1 : decode cX7_helped 1 = .ok (.iconst (-1), 1) := by decide +kernel
theorem dX7_helped_2 : decode cX7_helped 2 = .ok (.aload_n 0, 1) := by decide +kernel
theorem dX7_helped_3 : decode cX7_helped 3 = .ok (.getfield 7, 3) := by decide +kernel
theorem dX7_helped_6 : decode cX7_helped 6 = .ok (.iconst 0, 1) := by decide +kernel
theorem dX7_helped_7 : decode cX7_helped 7 = .ok (.iaload, 1) := by decide +kernel
theorem dX7_helped_8 : decode cX7_helped 8 = .ok (.iconst 1, 1) := by decide +kernel
theorem dX7_helped_9 : decode cX7_helped 9 = .ok (.isub, 1) := by decide +kernel
theorem dX7_helped_10 : decode cX7_helped 10 = .ok (.invokestatic 49, 3) := by decide +kernel
theorem dX7_helped_13 : decode cX7_helped 13 = .ok (.ifCond .ne 8, 3) := by decide +kernel
theorem dX7_helped_16 : decode cX7_helped 16 = .ok (.aload_n 0, 1) := by decide +kernel
theorem dX7_helped_17 : decode cX7_helped 17 = .ok (.invokevirtual 63, 3) := by decide +kernel
theorem dX7_helped_20 : decode cX7_helped 20 = .ok (.ireturn, 1) := by decide +kernel
theorem dX7_helped_21 : decode cX7_helped 21 = .ok (.aload_n 0, 1) := by decide +kernel
theorem dX7_helped_22 : decode cX7_helped 22 = .ok (.invokevirtual 171, 3) := by decide +kernel
theorem dX7_helped_25 : decode cX7_helped 25 = .ok (.iconst 0, 1) := by decide +kernel
theorem dX7_helped_26 : decode cX7_helped 26 = .ok (.istore_n 2, 1) := by decide +kernel
theorem dX7_helped_27 : decode cX7_helped 27 = .ok (.iconst 0, 1) := by decide +kernel
theorem dX7_helped_28 : decode cX7_helped 28 = .ok (.istore_n 3, 1) := by decide +kernel
theorem dX7_helped_29 : decode cX7_helped 29 = .ok (.iload_n 3, 1) := by decide +kernel
theorem dX7_helped_30 : decode cX7_helped 30 = .ok (.aload_n 0, 1) := by decide +kernel
theorem dX7_helped_31 : decode cX7_helped 31 = .ok (.getfield 7, 3) := by decide +kernel
theorem dX7_helped_34 : decode cX7_helped 34 = .ok (.iconst 2, 1) := by decide +kernel
theorem dX7_helped_35 : decode cX7_helped 35 = .ok (.iaload, 1) := by decide +kernel
theorem dX7_helped_36 : decode cX7_helped 36 = .ok (.if_icmp .ge 44, 3) := by decide +kernel
theorem dX7_helped_39 : decode cX7_helped 39 = .ok (.iload_n 2, 1) := by decide +kernel
theorem dX7_helped_40 : decode cX7_helped 40 = .ok (.aload_n 0, 1) := by decide +kernel
theorem dX7_helped_41 : decode cX7_helped 41 = .ok (.getfield 35, 3) := by decide +kernel
theorem dX7_helped_44 : decode cX7_helped 44 = .ok (.iload_n 3, 1) := by decide +kernel
theorem dX7_helped_45 : decode cX7_helped 45 = .ok (.iaload, 1) := by decide +kernel
theorem dX7_helped_46 : decode cX7_helped 46 = .ok (.ifCond .eq 25, 3) := by decide +kernel
theorem dX7_helped_49 : decode cX7_helped 49 = .ok (.iload_n 1, 1) := by decide +kernel
theorem dX7_helped_50 : decode cX7_helped 50 = .ok (.iconst (-1), 1) := by decide +kernel
theorem dX7_helped_51 : decode cX7_helped 51 = .ok (.if_icmp .eq 16, 3) := by decide +kernel
theorem dX7_helped_54 : decode cX7_helped 54 = .ok (.aload_n 0, 1) := by decide +kernel
theorem dX7_helped_55 : decode cX7_helped 55 = .ok (.getfield 7, 3) := by decide +kernel
theorem dX7_helped_58 : decode cX7_helped 58 = .ok (.bipush 62, 2) := by decide +kernel
theorem dX7_helped_60 : decode cX7_helped 60 = .ok (.iload_n 3, 1) := by decide +kernel
theorem dX7_helped_61 : decode cX7_helped 61 = .ok (.iadd, 1) := by decide +kernel
theorem dX7_helped_62 : decode cX7_helped 62 = .ok (.iaload, 1) := by decide +kernel
theorem dX7_helped_63 : decode cX7_helped 63 = .ok (.iload_n 1, 1) := by decide +kernel
theorem dX7_helped_64 : decode cX7_helped 64 = .ok (.if_icmp .ne 7, 3) := by decide +kernel
theorem dX7_helped_67 : decode cX7_helped 67 = .ok (.iconst 1, 1) := by decide +kernel
theorem dX7_helped_68 : decode cX7_helped 68 = .ok (.goto 4, 3) := by decide +kernel
theorem dX7_helped_71 : decode cX7_helped 71 = .ok (.iconst 0, 1) := by decide +kernel
theorem dX7_helped_72 : decode cX7_helped 72 = .ok (.iadd, 1) := by decide +kernel
theorem dX7_helped_73 : decode cX7_helped 73 = .ok (.istore_n 2, 1) := by decide +kernel
theorem dX7_helped_74 : decode cX7_helped 74 = .ok (.iinc 3 1, 3) := by decide +kernel
theorem dX7_helped_77 : decode cX7_helped 77 = .ok (.goto (-48), 3) := by decide +kernel
theorem dX7_helped_80 : decode cX7_helped 80 = .ok (.iload_n 2, 1) := by decide +kernel
theorem dX7_helped_81 : decode cX7_helped 81 = .ok (.ireturn, 1) := by decide +kernel
set_option maxRecDepth 20000 in
theorem ggX7_isTwo_X7_isOne : GoodIn wsX7_isTwo wsX7_isOne := goodIn_r _ [5, 6, 7, 8, 4, 9, 10, 11, 12, 13, 14, 15, 16, 17, 18, 19, 20, 21, 22, 23, 24, 25] (by decide +kernel) (by decide +kernel)
set_option maxRecDepth 20000 in
theorem gX7_isTwo_X7_isOne : GoodIn wsX7_isTwo (wsV RX7 53 RX7 yX7_isOne wsX7_isOne) := goodIn_app (goodIn_of _ (by decide +kernel)) ggX7_isTwo_X7_isOne
theorem dX7_isTwo_0 : decode cX7_isTwo 0 = .ok (.aload_n 0, 1) := by decide +kernel
theorem dX7_isTwo_1 : decode cX7_isTwo 1 = .ok (.iload_n 1, 1) := by decide +kernel
theorem dX7_isTwo_2 : decode cX7_isTwo 2 = .ok (.invokevirtual 53, 3) := by decide +kernel
theorem dX7_isTwo_5 : decode cX7_isTwo 5 = .ok (.ifCond .eq 20, 3) := by decide +kernel
theorem dX7_isTwo_8 : decode cX7_isTwo 8 = .ok (.aload_n 0, 1) := by decide +kernel
theorem dX7_isTwo_9 : decode cX7_isTwo 9 = .ok (.iload_n 2, 1) := by decide +kernel
theorem dX7_isTwo_10 : decode cX7_isTwo 10 = .ok (.invokevirtual 53, 3) := by decide +kernel
theorem dX7_isTwo_13 : decode cX7_isTwo 13 = .ok (.ifCond .eq 12, 3) := by decide +kernel
theorem dX7_isTwo_16 : decode cX7_isTwo 16 = .ok (.iload_n 1, 1) := by decide +kernel
theorem dX7_isTwo_17 : decode cX7_isTwo 17 = .ok (.iload_n 2, 1) := by decide +kernel
theorem dX7_isTwo_18 : decode cX7_isTwo 18 = .ok (.if_icmp .eq 7, 3) := by decide +kernel
theorem dX7_isTwo_21 : decode cX7_isTwo 21 = .ok (.iconst 1, 1) := by decide +kernel
theorem dX7_isTwo_22 : decode cX7_isTwo 22 = .ok (.goto 4, 3) := by decide +kernel
theorem dX7_isTwo_25 : decode cX7_isTwo 25 = .ok (.iconst 0, 1) := by decide +kernel
theorem dX7_isTwo_26 : decode cX7_isTwo 26 = .ok (.ireturn, 1) := by decide +kernel
set_option maxRecDepth 20000 in
theorem ggX7_favours_X7_isTwo : GoodIn wsX7_favours wsX7_isTwo := goodIn_r _ [6, 7, 8, 9, 5, 10, 1, 11, 12, 13, 53, 54, 55, 56, 57, 58, 59, 60, 61, 62, 63, 64, 65, 66, 67, 68] (by decide +kernel) (by decide +kernel)
set_option maxRecDepth 20000 in
theorem gX7_favours_X7_isTwo : GoodIn wsX7_favours (wsV RX7 174 RX7 yX7_isTwo wsX7_isTwo) := goodIn_app (goodIn_of _ (by decide +kernel)) ggX7_favours_X7_isTwo
set_option maxRecDepth 20000 in
theorem ggX7_favours_X7_bad : GoodIn wsX7_favours wsX7_bad := goodIn_r _ [17, 18, 19, 20, 5, 21, 22, 53, 54, 55, 56, 57, 58, 59, 60, 61, 62, 63, 64, 65, 66, 67, 68] (by decide +kernel) (by decide +kernel)
set_option maxRecDepth 20000 in
theorem gX7_favours_X7_bad : GoodIn wsX7_favours (wsV RX7 63 RX7 yX7_bad wsX7_bad) := goodIn_app (goodIn_of _ (by decide +kernel)) ggX7_favours_X7_bad
set_option maxRecDepth 20000 in
theorem ggX7_favours_X7_runs : GoodIn wsX7_favours wsX7_runs := goodIn_r _ [26, 1, 27, 28, 29, 30, 31, 5, 32, 33, 34, 35, 36, 37, 38, 39, 40, 41, 42, 43, 44, 45, 46, 47, 48, 49, 50, 51, 52, 53, 54, 55, 56, 57, 58, 59, 60, 61, 62, 63, 64, 65, 66, 67, 68] (by decide +kernel) (by decide +kernel)
set_option maxRecDepth 20000 in
theorem gX7_favours_X7_runs : GoodIn wsX7_favours (wsV RX7 171 RX7 yX7_runs wsX7_runs) := goodIn_app (goodIn_of _ (by decide +kernel)) ggX7_favours_X7_runs
set_option maxRecDepth 20000 in
theorem ggX7_favours_X7_rangAhead : GoodIn wsX7_favours wsX7_rangAhead := goodIn_r _ [52, 1, 28, 53, 54, 55, 56, 57, 58, 59, 60, 61, 62, 63, 64, 65, 66, 67, 68] (by decide +kernel) (by decide +kernel)
set_option maxRecDepth 20000 in
theorem gX7_favours_X7_rangAhead : GoodIn wsX7_favours (wsV RX7 161 RX7 yX7_rangAhead wsX7_rangAhead) := goodIn_app (goodIn_of _ (by decide +kernel)) ggX7_favours_X7_rangAhead
theorem dX7_favours_0 : decode cX7_favours 0 = .ok (.aload_n 0, 1) := by decide +kernel
theorem dX7_favours_1 : decode cX7_favours 1 = .ok (.iload_n 1, 1) := by decide +kernel
theorem dX7_favours_2 : decode cX7_favours 2 = .ok (.iload_n 2, 1) := by decide +kernel
theorem dX7_favours_3 : decode cX7_favours 3 = .ok (.invokevirtual 174, 3) := by decide +kernel
theorem dX7_favours_6 : decode cX7_favours 6 = .ok (.ifCond .ne 8, 3) := by decide +kernel
theorem dX7_favours_9 : decode cX7_favours 9 = .ok (.aload_n 0, 1) := by decide +kernel
theorem dX7_favours_10 : decode cX7_favours 10 = .ok (.invokevirtual 63, 3) := by decide +kernel
theorem dX7_favours_13 : decode cX7_favours 13 = .ok (.ireturn, 1) := by decide +kernel
theorem dX7_favours_14 : decode cX7_favours 14 = .ok (.aload_n 0, 1) := by decide +kernel
theorem dX7_favours_15 : decode cX7_favours 15 = .ok (.invokevirtual 171, 3) := by decide +kernel
theorem dX7_favours_18 : decode cX7_favours 18 = .ok (.aload_n 0, 1) := by decide +kernel
theorem dX7_favours_19 : decode cX7_favours 19 = .ok (.iload_n 1, 1) := by decide +kernel
theorem dX7_favours_20 : decode cX7_favours 20 = .ok (.iload_n 2, 1) := by decide +kernel
theorem dX7_favours_21 : decode cX7_favours 21 = .ok (.aload_n 0, 1) := by decide +kernel
theorem dX7_favours_22 : decode cX7_favours 22 = .ok (.getfield 7, 3) := by decide +kernel
theorem dX7_favours_25 : decode cX7_favours 25 = .ok (.iconst 2, 1) := by decide +kernel
theorem dX7_favours_26 : decode cX7_favours 26 = .ok (.iaload, 1) := by decide +kernel
theorem dX7_favours_27 : decode cX7_favours 27 = .ok (.invokevirtual 161, 3) := by decide +kernel
theorem dX7_favours_30 : decode cX7_favours 30 = .ok (.ireturn, 1) := by decide +kernel
set_option maxRecDepth 20000 in
theorem ggX7_last_X7_isTwo : GoodIn wsX7_last wsX7_isTwo := goodIn_r _ [6, 7, 8, 9, 5, 10, 1, 11, 12, 13, 53, 54, 55, 56, 57, 58, 59, 60, 61, 62, 63, 64, 65, 66, 67, 68] (by decide +kernel) (by decide +kernel)
set_option maxRecDepth 20000 in
theorem gX7_last_X7_isTwo : GoodIn wsX7_last (wsV RX7 174 RX7 yX7_isTwo wsX7_isTwo) := goodIn_app (goodIn_of _ (by decide +kernel)) ggX7_last_X7_isTwo
set_option maxRecDepth 20000 in
theorem ggX7_last_X7_bad : GoodIn wsX7_last wsX7_bad := goodIn_r _ [17, 18, 19, 20, 5, 21, 22, 53, 54, 55, 56, 57, 58, 59, 60, 61, 62, 63, 64, 65, 66, 67, 68] (by decide +kernel) (by decide +kernel)
set_option maxRecDepth 20000 in
theorem gX7_last_X7_bad : GoodIn wsX7_last (wsV RX7 63 RX7 yX7_bad wsX7_bad) := goodIn_app (goodIn_of _ (by decide +kernel)) ggX7_last_X7_bad
set_option maxRecDepth 20000 in
theorem ggX7_last_X7_runs : GoodIn wsX7_last wsX7_runs := goodIn_r _ [26, 1, 27, 28, 29, 30, 31, 5, 32, 33, 34, 35, 36, 37, 38, 39, 40, 41, 42, 43, 44, 45, 46, 47, 48, 49, 50, 51, 52, 53, 54, 55, 56, 57, 58, 59, 60, 61, 62, 63, 64, 65, 66, 67, 68] (by decide +kernel) (by decide +kernel)
set_option maxRecDepth 20000 in
theorem gX7_last_X7_runs : GoodIn wsX7_last (wsV RX7 171 RX7 yX7_runs wsX7_runs) := goodIn_app (goodIn_of _ (by decide +kernel)) ggX7_last_X7_runs
set_option maxRecDepth 20000 in
theorem ggX7_last_X7_lastAhead : GoodIn wsX7_last wsX7_lastAhead := goodIn_r _ [48, 1, 27, 28, 53, 54, 55, 56, 57, 58, 59, 60, 61, 62, 63, 64, 65, 66, 67, 68] (by decide +kernel) (by decide +kernel)
set_option maxRecDepth 20000 in
theorem gX7_last_X7_lastAhead : GoodIn wsX7_last (wsV RX7 158 RX7 yX7_lastAhead wsX7_lastAhead) := goodIn_app (goodIn_of _ (by decide +kernel)) ggX7_last_X7_lastAhead
theorem dX7_last_0 : decode cX7_last 0 = .ok (.aload_n 0, 1) := by decide +kernel
theorem dX7_last_1 : decode cX7_last 1 = .ok (.iload_n 1, 1) := by decide +kernel
theorem dX7_last_2 : decode cX7_last 2 = .ok (.iload_n 2, 1) := by decide +kernel
theorem dX7_last_3 : decode cX7_last 3 = .ok (.invokevirtual 174, 3) := by decide +kernel
theorem dX7_last_6 : decode cX7_last 6 = .ok (.ifCond .ne 8, 3) := by decide +kernel
theorem dX7_last_9 : decode cX7_last 9 = .ok (.aload_n 0, 1) := by decide +kernel
theorem dX7_last_10 : decode cX7_last 10 = .ok (.invokevirtual 63, 3) := by decide +kernel
theorem dX7_last_13 : decode cX7_last 13 = .ok (.ireturn, 1) := by decide +kernel
theorem dX7_last_14 : decode cX7_last 14 = .ok (.aload_n 0, 1) := by decide +kernel
theorem dX7_last_15 : decode cX7_last 15 = .ok (.invokevirtual 171, 3) := by decide +kernel
theorem dX7_last_18 : decode cX7_last 18 = .ok (.aload_n 0, 1) := by decide +kernel
theorem dX7_last_19 : decode cX7_last 19 = .ok (.iload_n 1, 1) := by decide +kernel
theorem dX7_last_20 : decode cX7_last 20 = .ok (.iload_n 2, 1) := by decide +kernel
theorem dX7_last_21 : decode cX7_last 21 = .ok (.aload_n 0, 1) := by decide +kernel
theorem dX7_last_22 : decode cX7_last 22 = .ok (.getfield 7, 3) := by decide +kernel
theorem dX7_last_25 : decode cX7_last 25 = .ok (.iconst 2, 1) := by decide +kernel
theorem dX7_last_26 : decode cX7_last 26 = .ok (.iaload, 1) := by decide +kernel
theorem dX7_last_27 : decode cX7_last 27 = .ok (.invokevirtual 158, 3) := by decide +kernel
theorem dX7_last_30 : decode cX7_last 30 = .ok (.ireturn, 1) := by decide +kernel
theorem dX7_digit_0 : decode cX7_digit 0 = .ok (.iload_n 1, 1) := by decide +kernel
theorem dX7_digit_1 : decode cX7_digit 1 = .ok (.istore 4, 2) := by decide +kernel
theorem dX7_digit_3 : decode cX7_digit 3 = .ok (.iload_n 2, 1) := by decide +kernel
theorem dX7_digit_4 : decode cX7_digit 4 = .ok (.iconst 1, 1) := by decide +kernel
theorem dX7_digit_5 : decode cX7_digit 5 = .ok (.isub, 1) := by decide +kernel
theorem dX7_digit_6 : decode cX7_digit 6 = .ok (.istore 5, 2) := by decide +kernel
theorem dX7_digit_8 : decode cX7_digit 8 = .ok (.iload 5, 2) := by decide +kernel
theorem dX7_digit_10 : decode cX7_digit 10 = .ok (.iload_n 3, 1) := by decide +kernel
theorem dX7_digit_11 : decode cX7_digit 11 = .ok (.if_icmp .le 20, 3) := by decide +kernel
theorem dX7_digit_14 : decode cX7_digit 14 = .ok (.iload 4, 2) := by decide +kernel
theorem dX7_digit_16 : decode cX7_digit 16 = .ok (.aload_n 0, 1) := by decide +kernel
theorem dX7_digit_17 : decode cX7_digit 17 = .ok (.getfield 7, 3) := by decide +kernel
theorem dX7_digit_20 : decode cX7_digit 20 = .ok (.iconst 0, 1) := by decide +kernel
theorem dX7_digit_21 : decode cX7_digit 21 = .ok (.iaload, 1) := by decide +kernel
theorem dX7_digit_22 : decode cX7_digit 22 = .ok (.idiv, 1) := by decide +kernel
theorem dX7_digit_23 : decode cX7_digit 23 = .ok (.istore 4, 2) := by decide +kernel
theorem dX7_digit_25 : decode cX7_digit 25 = .ok (.iinc 5 (-1), 3) := by decide +kernel
theorem dX7_digit_28 : decode cX7_digit 28 = .ok (.goto (-20), 3) := by decide +kernel
theorem dX7_digit_31 : decode cX7_digit 31 = .ok (.iload 4, 2) := by decide +kernel
theorem dX7_digit_33 : decode cX7_digit 33 = .ok (.aload_n 0, 1) := by decide +kernel
theorem dX7_digit_34 : decode cX7_digit 34 = .ok (.getfield 7, 3) := by decide +kernel
theorem dX7_digit_37 : decode cX7_digit 37 = .ok (.iconst 0, 1) := by decide +kernel
theorem dX7_digit_38 : decode cX7_digit 38 = .ok (.iaload, 1) := by decide +kernel
theorem dX7_digit_39 : decode cX7_digit 39 = .ok (.irem, 1) := by decide +kernel
theorem dX7_digit_40 : decode cX7_digit 40 = .ok (.ireturn, 1) := by decide +kernel
theorem dX7_rows_0 : decode cX7_rows 0 = .ok (.iconst 1, 1) := by decide +kernel
theorem dX7_rows_1 : decode cX7_rows 1 = .ok (.istore_n 2, 1) := by decide +kernel
theorem dX7_rows_2 : decode cX7_rows 2 = .ok (.iconst 0, 1) := by decide +kernel
theorem dX7_rows_3 : decode cX7_rows 3 = .ok (.istore_n 3, 1) := by decide +kernel
theorem dX7_rows_4 : decode cX7_rows 4 = .ok (.iload_n 3, 1) := by decide +kernel
theorem dX7_rows_5 : decode cX7_rows 5 = .ok (.iload_n 1, 1) := by decide +kernel
theorem dX7_rows_6 : decode cX7_rows 6 = .ok (.if_icmp .ge 18, 3) := by decide +kernel
theorem dX7_rows_9 : decode cX7_rows 9 = .ok (.iload_n 2, 1) := by decide +kernel
theorem dX7_rows_10 : decode cX7_rows 10 = .ok (.aload_n 0, 1) := by decide +kernel
theorem dX7_rows_11 : decode cX7_rows 11 = .ok (.getfield 7, 3) := by decide +kernel
theorem dX7_rows_14 : decode cX7_rows 14 = .ok (.iconst 0, 1) := by decide +kernel
theorem dX7_rows_15 : decode cX7_rows 15 = .ok (.iaload, 1) := by decide +kernel
theorem dX7_rows_16 : decode cX7_rows 16 = .ok (.imul, 1) := by decide +kernel
theorem dX7_rows_17 : decode cX7_rows 17 = .ok (.istore_n 2, 1) := by decide +kernel
theorem dX7_rows_18 : decode cX7_rows 18 = .ok (.iinc 3 1, 3) := by decide +kernel
theorem dX7_rows_21 : decode cX7_rows 21 = .ok (.goto (-17), 3) := by decide +kernel
theorem dX7_rows_24 : decode cX7_rows 24 = .ok (.iload_n 2, 1) := by decide +kernel
theorem dX7_rows_25 : decode cX7_rows 25 = .ok (.ireturn, 1) := by decide +kernel
set_option maxRecDepth 20000 in
theorem ggX7_areUnlike_X7_digit : GoodIn wsX7_areUnlike wsX7_digit := goodIn_r _ [5, 6, 7, 8, 9, 10, 11, 12, 13, 14, 15, 16, 17, 18, 19, 20, 21, 22] (by decide +kernel) (by decide +kernel)
set_option maxRecDepth 20000 in
theorem gX7_areUnlike_X7_digit : GoodIn wsX7_areUnlike (wsV RX7 177 RX7 yX7_digit wsX7_digit) := goodIn_app (goodIn_of _ (by decide +kernel)) ggX7_areUnlike_X7_digit
theorem dX7_areUnlike_0 : decode cX7_areUnlike 0 = .ok (.iconst 0, 1) := by decide +kernel
theorem dX7_areUnlike_1 : decode cX7_areUnlike 1 = .ok (.istore_n 3, 1) := by decide +kernel
theorem dX7_areUnlike_2 : decode cX7_areUnlike 2 = .ok (.iconst 1, 1) := by decide +kernel
theorem dX7_areUnlike_3 : decode cX7_areUnlike 3 = .ok (.istore 4, 2) := by decide +kernel
theorem dX7_areUnlike_5 : decode cX7_areUnlike 5 = .ok (.iconst 0, 1) := by decide +kernel
theorem dX7_areUnlike_6 : decode cX7_areUnlike 6 = .ok (.istore 5, 2) := by decide +kernel
theorem dX7_areUnlike_8 : decode cX7_areUnlike 8 = .ok (.iload 5, 2) := by decide +kernel
theorem dX7_areUnlike_10 : decode cX7_areUnlike 10 = .ok (.iload_n 2, 1) := by decide +kernel
theorem dX7_areUnlike_11 : decode cX7_areUnlike 11 = .ok (.if_icmp .ge 45, 3) := by decide +kernel
theorem dX7_areUnlike_14 : decode cX7_areUnlike 14 = .ok (.iconst 1, 1) := by decide +kernel
theorem dX7_areUnlike_15 : decode cX7_areUnlike 15 = .ok (.aload_n 0, 1) := by decide +kernel
theorem dX7_areUnlike_16 : decode cX7_areUnlike 16 = .ok (.iload_n 1, 1) := by decide +kernel
theorem dX7_areUnlike_17 : decode cX7_areUnlike 17 = .ok (.iload_n 2, 1) := by decide +kernel
theorem dX7_areUnlike_18 : decode cX7_areUnlike 18 = .ok (.iload 5, 2) := by decide +kernel
theorem dX7_areUnlike_20 : decode cX7_areUnlike 20 = .ok (.invokevirtual 177, 3) := by decide +kernel
theorem dX7_areUnlike_23 : decode cX7_areUnlike 23 = .ok (.ishl, 1) := by decide +kernel
theorem dX7_areUnlike_24 : decode cX7_areUnlike 24 = .ok (.istore 6, 2) := by decide +kernel
theorem dX7_areUnlike_26 : decode cX7_areUnlike 26 = .ok (.iload 4, 2) := by decide +kernel
theorem dX7_areUnlike_28 : decode cX7_areUnlike 28 = .ok (.ifCond .eq 14, 3) := by decide +kernel
theorem dX7_areUnlike_31 : decode cX7_areUnlike 31 = .ok (.iload_n 3, 1) := by decide +kernel
theorem dX7_areUnlike_32 : decode cX7_areUnlike 32 = .ok (.iload 6, 2) := by decide +kernel
theorem dX7_areUnlike_34 : decode cX7_areUnlike 34 = .ok (.iand, 1) := by decide +kernel
theorem dX7_areUnlike_35 : decode cX7_areUnlike 35 = .ok (.ifCond .ne 7, 3) := by decide +kernel
theorem dX7_areUnlike_38 : decode cX7_areUnlike 38 = .ok (.iconst 1, 1) := by decide +kernel
theorem dX7_areUnlike_39 : decode cX7_areUnlike 39 = .ok (.goto 4, 3) := by decide +kernel
theorem dX7_areUnlike_42 : decode cX7_areUnlike 42 = .ok (.iconst 0, 1) := by decide +kernel
theorem dX7_areUnlike_43 : decode cX7_areUnlike 43 = .ok (.istore 4, 2) := by decide +kernel
theorem dX7_areUnlike_45 : decode cX7_areUnlike 45 = .ok (.iload_n 3, 1) := by decide +kernel
theorem dX7_areUnlike_46 : decode cX7_areUnlike 46 = .ok (.iload 6, 2) := by decide +kernel
theorem dX7_areUnlike_48 : decode cX7_areUnlike 48 = .ok (.ior, 1) := by decide +kernel
theorem dX7_areUnlike_49 : decode cX7_areUnlike 49 = .ok (.istore_n 3, 1) := by decide +kernel
theorem dX7_areUnlike_50 : decode cX7_areUnlike 50 = .ok (.iinc 5 1, 3) := by decide +kernel
theorem dX7_areUnlike_53 : decode cX7_areUnlike 53 = .ok (.goto (-45), 3) := by decide +kernel
theorem dX7_areUnlike_56 : decode cX7_areUnlike 56 = .ok (.iload 4, 2) := by decide +kernel
theorem dX7_areUnlike_58 : decode cX7_areUnlike 58 = .ok (.ireturn, 1) := by decide +kernel
set_option maxRecDepth 20000 in
theorem ggX7_dues_X7_digit : GoodIn wsX7_dues wsX7_digit := goodIn_r _ [6, 1, 15, 16, 17, 18, 19, 20, 21, 22, 23, 24, 25, 26, 27, 28, 29, 30] (by decide +kernel) (by decide +kernel)
set_option maxRecDepth 20000 in
theorem gX7_dues_X7_digit : GoodIn wsX7_dues (wsV RX7 177 RX7 yX7_digit wsX7_digit) := goodIn_app (goodIn_of _ (by decide +kernel)) ggX7_dues_X7_digit
set_option maxRecDepth 20000 in
theorem ggX7_dues_X7_hall : GoodIn wsX7_dues wsX7_hall := goodIn_r _ [10, 11, 12, 13, 5, 14, 1, 15, 16, 17, 18, 19, 20, 21, 22, 23, 24, 25, 26, 27, 28, 29, 30] (by decide +kernel) (by decide +kernel)
set_option maxRecDepth 20000 in
theorem gX7_dues_X7_hall : GoodIn wsX7_dues (wsV RX7 91 RX7 yX7_hall wsX7_hall) := goodIn_app (goodIn_of _ (by decide +kernel)) ggX7_dues_X7_hall
theorem dX7_dues_0 : decode cX7_dues 0 = .ok (.iconst 0, 1) := by decide +kernel
theorem dX7_dues_1 : decode cX7_dues 1 = .ok (.istore_n 2, 1) := by decide +kernel
theorem dX7_dues_2 : decode cX7_dues 2 = .ok (.iconst 0, 1) := by decide +kernel
theorem dX7_dues_3 : decode cX7_dues 3 = .ok (.istore_n 3, 1) := by decide +kernel
theorem dX7_dues_4 : decode cX7_dues 4 = .ok (.iload_n 3, 1) := by decide +kernel
theorem dX7_dues_5 : decode cX7_dues 5 = .ok (.aload_n 0, 1) := by decide +kernel
theorem dX7_dues_6 : decode cX7_dues 6 = .ok (.getfield 7, 3) := by decide +kernel
theorem dX7_dues_9 : decode cX7_dues 9 = .ok (.iconst 2, 1) := by decide +kernel
theorem dX7_dues_10 : decode cX7_dues 10 = .ok (.iaload, 1) := by decide +kernel
theorem dX7_dues_11 : decode cX7_dues 11 = .ok (.if_icmp .ge 117, 3) := by decide +kernel
theorem dX7_dues_14 : decode cX7_dues 14 = .ok (.iconst 0, 1) := by decide +kernel
theorem dX7_dues_15 : decode cX7_dues 15 = .ok (.istore 4, 2) := by decide +kernel
theorem dX7_dues_17 : decode cX7_dues 17 = .ok (.iconst 0, 1) := by decide +kernel
theorem dX7_dues_18 : decode cX7_dues 18 = .ok (.istore 5, 2) := by decide +kernel
theorem dX7_dues_20 : decode cX7_dues 20 = .ok (.iload 5, 2) := by decide +kernel
theorem dX7_dues_22 : decode cX7_dues 22 = .ok (.aload_n 0, 1) := by decide +kernel
theorem dX7_dues_23 : decode cX7_dues 23 = .ok (.getfield 7, 3) := by decide +kernel
theorem dX7_dues_26 : decode cX7_dues 26 = .ok (.iconst 0, 1) := by decide +kernel
theorem dX7_dues_27 : decode cX7_dues 27 = .ok (.iaload, 1) := by decide +kernel
theorem dX7_dues_28 : decode cX7_dues 28 = .ok (.if_icmp .ge 81, 3) := by decide +kernel
theorem dX7_dues_31 : decode cX7_dues 31 = .ok (.iload 4, 2) := by decide +kernel
theorem dX7_dues_33 : decode cX7_dues 33 = .ok (.ifCond .ne 63, 3) := by decide +kernel
theorem dX7_dues_36 : decode cX7_dues 36 = .ok (.aload_n 0, 1) := by decide +kernel
theorem dX7_dues_37 : decode cX7_dues 37 = .ok (.getfield 7, 3) := by decide +kernel
theorem dX7_dues_40 : decode cX7_dues 40 = .ok (.bipush 86, 2) := by decide +kernel
theorem dX7_dues_42 : decode cX7_dues 42 = .ok (.iload_n 3, 1) := by decide +kernel
theorem dX7_dues_43 : decode cX7_dues 43 = .ok (.iadd, 1) := by decide +kernel
theorem dX7_dues_44 : decode cX7_dues 44 = .ok (.iaload, 1) := by decide +kernel
theorem dX7_dues_45 : decode cX7_dues 45 = .ok (.aload_n 0, 1) := by decide +kernel
theorem dX7_dues_46 : decode cX7_dues 46 = .ok (.iload_n 1, 1) := by decide +kernel
theorem dX7_dues_47 : decode cX7_dues 47 = .ok (.aload_n 0, 1) := by decide +kernel
theorem dX7_dues_48 : decode cX7_dues 48 = .ok (.getfield 7, 3) := by decide +kernel
theorem dX7_dues_51 : decode cX7_dues 51 = .ok (.iconst 0, 1) := by decide +kernel
theorem dX7_dues_52 : decode cX7_dues 52 = .ok (.iaload, 1) := by decide +kernel
theorem dX7_dues_53 : decode cX7_dues 53 = .ok (.iload 5, 2) := by decide +kernel
theorem dX7_dues_55 : decode cX7_dues 55 = .ok (.invokevirtual 177, 3) := by decide +kernel
theorem dX7_dues_58 : decode cX7_dues 58 = .ok (.ishr, 1) := by decide +kernel
theorem dX7_dues_59 : decode cX7_dues 59 = .ok (.iconst 1, 1) := by decide +kernel
theorem dX7_dues_60 : decode cX7_dues 60 = .ok (.iand, 1) := by decide +kernel
theorem dX7_dues_61 : decode cX7_dues 61 = .ok (.iconst 1, 1) := by decide +kernel
theorem dX7_dues_62 : decode cX7_dues 62 = .ok (.if_icmp .ne 38, 3) := by decide +kernel
theorem dX7_dues_65 : decode cX7_dues 65 = .ok (.aload_n 0, 1) := by decide +kernel
theorem dX7_dues_66 : decode cX7_dues 66 = .ok (.iload 5, 2) := by decide +kernel
theorem dX7_dues_68 : decode cX7_dues 68 = .ok (.aload_n 0, 1) := by decide +kernel
theorem dX7_dues_69 : decode cX7_dues 69 = .ok (.getfield 7, 3) := by decide +kernel
theorem dX7_dues_72 : decode cX7_dues 72 = .ok (.bipush 74, 2) := by decide +kernel
theorem dX7_dues_74 : decode cX7_dues 74 = .ok (.iload_n 3, 1) := by decide +kernel
theorem dX7_dues_75 : decode cX7_dues 75 = .ok (.iadd, 1) := by decide +kernel
theorem dX7_dues_76 : decode cX7_dues 76 = .ok (.iaload, 1) := by decide +kernel
theorem dX7_dues_77 : decode cX7_dues 77 = .ok (.invokevirtual 91, 3) := by decide +kernel
theorem dX7_dues_80 : decode cX7_dues 80 = .ok (.aload_n 0, 1) := by decide +kernel
theorem dX7_dues_81 : decode cX7_dues 81 = .ok (.getfield 7, 3) := by decide +kernel
theorem dX7_dues_84 : decode cX7_dues 84 = .ok (.bipush 62, 2) := by decide +kernel
theorem dX7_dues_86 : decode cX7_dues 86 = .ok (.iload_n 3, 1) := by decide +kernel
theorem dX7_dues_87 : decode cX7_dues 87 = .ok (.iadd, 1) := by decide +kernel
theorem dX7_dues_88 : decode cX7_dues 88 = .ok (.iaload, 1) := by decide +kernel
theorem dX7_dues_89 : decode cX7_dues 89 = .ok (.ishr, 1) := by decide +kernel
theorem dX7_dues_90 : decode cX7_dues 90 = .ok (.iconst 1, 1) := by decide +kernel
theorem dX7_dues_91 : decode cX7_dues 91 = .ok (.iand, 1) := by decide +kernel
theorem dX7_dues_92 : decode cX7_dues 92 = .ok (.iconst 1, 1) := by decide +kernel
theorem dX7_dues_93 : decode cX7_dues 93 = .ok (.if_icmp .ne 7, 3) := by decide +kernel
theorem dX7_dues_96 : decode cX7_dues 96 = .ok (.iconst 1, 1) := by decide +kernel
theorem dX7_dues_97 : decode cX7_dues 97 = .ok (.goto 4, 3) := by decide +kernel
theorem dX7_dues_100 : decode cX7_dues 100 = .ok (.iconst 0, 1) := by decide +kernel
theorem dX7_dues_101 : decode cX7_dues 101 = .ok (.istore 4, 2) := by decide +kernel
theorem dX7_dues_103 : decode cX7_dues 103 = .ok (.iinc 5 1, 3) := by decide +kernel
theorem dX7_dues_106 : decode cX7_dues 106 = .ok (.goto (-86), 3) := by decide +kernel
theorem dX7_dues_109 : decode cX7_dues 109 = .ok (.iload_n 2, 1) := by decide +kernel
theorem dX7_dues_110 : decode cX7_dues 110 = .ok (.iload 4, 2) := by decide +kernel
theorem dX7_dues_112 : decode cX7_dues 112 = .ok (.ifCond .eq 7, 3) := by decide +kernel
theorem dX7_dues_115 : decode cX7_dues 115 = .ok (.iconst 1, 1) := by decide +kernel
theorem dX7_dues_116 : decode cX7_dues 116 = .ok (.goto 4, 3) := by decide +kernel
theorem dX7_dues_119 : decode cX7_dues 119 = .ok (.iconst 0, 1) := by decide +kernel
theorem dX7_dues_120 : decode cX7_dues 120 = .ok (.iadd, 1) := by decide +kernel
theorem dX7_dues_121 : decode cX7_dues 121 = .ok (.istore_n 2, 1) := by decide +kernel
theorem dX7_dues_122 : decode cX7_dues 122 = .ok (.iinc 3 1, 3) := by decide +kernel
theorem dX7_dues_125 : decode cX7_dues 125 = .ok (.goto (-121), 3) := by decide +kernel
theorem dX7_dues_128 : decode cX7_dues 128 = .ok (.iload_n 2, 1) := by decide +kernel
theorem dX7_dues_129 : decode cX7_dues 129 = .ok (.ireturn, 1) := by decide +kernel
set_option maxRecDepth 20000 in
theorem ggX7_places_X7_hall : GoodIn wsX7_places wsX7_hall := goodIn_r _ [7, 8, 9, 10, 6, 11, 1, 12, 13, 14, 15, 16, 17, 18, 19, 20, 21, 22, 23, 24, 25, 26, 27] (by decide +kernel) (by decide +kernel)
set_option maxRecDepth 20000 in
theorem gX7_places_X7_hall : GoodIn wsX7_places (wsV RX7 91 RX7 yX7_hall wsX7_hall) := goodIn_app (goodIn_of _ (by decide +kernel)) ggX7_places_X7_hall
theorem dX7_places_0 : decode cX7_places 0 = .ok (.iconst 0, 1) := by decide +kernel
theorem dX7_places_1 : decode cX7_places 1 = .ok (.istore_n 1, 1) := by decide +kernel
theorem dX7_places_2 : decode cX7_places 2 = .ok (.iload_n 1, 1) := by decide +kernel
theorem dX7_places_3 : decode cX7_places 3 = .ok (.aload_n 0, 1) := by decide +kernel
theorem dX7_places_4 : decode cX7_places 4 = .ok (.getfield 7, 3) := by decide +kernel
theorem dX7_places_7 : decode cX7_places 7 = .ok (.iconst 0, 1) := by decide +kernel
theorem dX7_places_8 : decode cX7_places 8 = .ok (.iaload, 1) := by decide +kernel
theorem dX7_places_9 : decode cX7_places 9 = .ok (.if_icmp .ge 44, 3) := by decide +kernel
theorem dX7_places_12 : decode cX7_places 12 = .ok (.aload_n 0, 1) := by decide +kernel
theorem dX7_places_13 : decode cX7_places 13 = .ok (.getfield 38, 3) := by decide +kernel
theorem dX7_places_16 : decode cX7_places 16 = .ok (.iload_n 1, 1) := by decide +kernel
theorem dX7_places_17 : decode cX7_places 17 = .ok (.iconst 0, 1) := by decide +kernel
theorem dX7_places_18 : decode cX7_places 18 = .ok (.iastore, 1) := by decide +kernel
theorem dX7_places_19 : decode cX7_places 19 = .ok (.iconst 0, 1) := by decide +kernel
theorem dX7_places_20 : decode cX7_places 20 = .ok (.istore_n 2, 1) := by decide +kernel
theorem dX7_places_21 : decode cX7_places 21 = .ok (.iload_n 2, 1) := by decide +kernel
theorem dX7_places_22 : decode cX7_places 22 = .ok (.iconst 4, 1) := by decide +kernel
theorem dX7_places_23 : decode cX7_places 23 = .ok (.if_icmp .ge 24, 3) := by decide +kernel
theorem dX7_places_26 : decode cX7_places 26 = .ok (.aload_n 0, 1) := by decide +kernel
theorem dX7_places_27 : decode cX7_places 27 = .ok (.getfield 38, 3) := by decide +kernel
theorem dX7_places_30 : decode cX7_places 30 = .ok (.iload_n 1, 1) := by decide +kernel
theorem dX7_places_31 : decode cX7_places 31 = .ok (.dup2, 1) := by decide +kernel
theorem dX7_places_32 : decode cX7_places 32 = .ok (.iaload, 1) := by decide +kernel
theorem dX7_places_33 : decode cX7_places 33 = .ok (.aload_n 0, 1) := by decide +kernel
theorem dX7_places_34 : decode cX7_places 34 = .ok (.iload_n 1, 1) := by decide +kernel
theorem dX7_places_35 : decode cX7_places 35 = .ok (.iload_n 2, 1) := by decide +kernel
theorem dX7_places_36 : decode cX7_places 36 = .ok (.invokevirtual 91, 3) := by decide +kernel
theorem dX7_places_39 : decode cX7_places 39 = .ok (.ior, 1) := by decide +kernel
theorem dX7_places_40 : decode cX7_places 40 = .ok (.iastore, 1) := by decide +kernel
theorem dX7_places_41 : decode cX7_places 41 = .ok (.iinc 2 1, 3) := by decide +kernel
theorem dX7_places_44 : decode cX7_places 44 = .ok (.goto (-23), 3) := by decide +kernel
theorem dX7_places_47 : decode cX7_places 47 = .ok (.iinc 1 1, 3) := by decide +kernel
theorem dX7_places_50 : decode cX7_places 50 = .ok (.goto (-48), 3) := by decide +kernel
theorem dX7_places_53 : decode cX7_places 53 = .ok (.return_, 1) := by decide +kernel
set_option maxRecDepth 20000 in
theorem ggX7_ropes_X7_in : GoodIn wsX7_ropes wsX7_in := goodIn_r _ [6] (by decide +kernel) (by decide +kernel)
set_option maxRecDepth 20000 in
theorem gX7_ropes_X7_in : GoodIn wsX7_ropes (va_wsS RX7 49 yX7_in wsX7_in) := goodIn_app (goodIn_of _ (by decide +kernel)) ggX7_ropes_X7_in
set_option maxRecDepth 20000 in
theorem ggX7_ropes_X7_refuses : GoodIn wsX7_ropes wsX7_refuses := goodIn_r _ [10, 11, 40, 41, 42, 43, 44, 45, 46, 47, 48, 49, 50, 51, 52, 53, 54, 55] (by decide +kernel) (by decide +kernel)
set_option maxRecDepth 20000 in
theorem gX7_ropes_X7_refuses : GoodIn wsX7_ropes (wsV RX7 45 RX7 yX7_refuses wsX7_refuses) := goodIn_app (goodIn_of _ (by decide +kernel)) ggX7_ropes_X7_refuses
set_option maxRecDepth 20000 in
theorem ggX7_ropes_X7_places : GoodIn wsX7_ropes wsX7_places := goodIn_r _ [15, 1, 2, 16, 17, 18, 5, 19, 20, 21, 22, 23, 40, 41, 42, 43, 44, 45, 46, 47, 48, 49, 50, 51, 52, 53, 54, 55] (by decide +kernel) (by decide +kernel)
set_option maxRecDepth 20000 in
theorem gX7_ropes_X7_places : GoodIn wsX7_ropes (wsV RX7 180 RX7 yX7_places wsX7_places) := goodIn_app (goodIn_of _ (by decide +kernel)) ggX7_ropes_X7_places
set_option maxRecDepth 20000 in
theorem ggX7_ropes_X7_rows : GoodIn wsX7_ropes wsX7_rows := goodIn_r _ [27, 1, 40, 41, 42, 43, 44, 45, 46, 47, 48, 49, 50, 51, 52, 53, 54, 55] (by decide +kernel) (by decide +kernel)
set_option maxRecDepth 20000 in
theorem gX7_ropes_X7_rows : GoodIn wsX7_ropes (wsV RX7 183 RX7 yX7_rows wsX7_rows) := goodIn_app (goodIn_of _ (by decide +kernel)) ggX7_ropes_X7_rows
set_option maxRecDepth 20000 in
theorem ggX7_ropes_X7_areUnlike : GoodIn wsX7_ropes wsX7_areUnlike := goodIn_r _ [31, 32, 33, 34, 5, 35, 1, 40, 41, 42, 43, 44, 45, 46, 47, 48, 49, 50, 51, 52, 53, 54, 55] (by decide +kernel) (by decide +kernel)
set_option maxRecDepth 20000 in
theorem gX7_ropes_X7_areUnlike : GoodIn wsX7_ropes (wsV RX7 186 RX7 yX7_areUnlike wsX7_areUnlike) := goodIn_app (goodIn_of _ (by decide +kernel)) ggX7_ropes_X7_areUnlike
set_option maxRecDepth 20000 in
theorem ggX7_ropes_X7_digit : GoodIn wsX7_ropes wsX7_digit := goodIn_r _ [35, 1, 40, 41, 42, 43, 44, 45, 46, 47, 48, 49, 50, 51, 52, 53, 54, 55] (by decide +kernel) (by decide +kernel)
set_option maxRecDepth 20000 in
theorem gX7_ropes_X7_digit : GoodIn wsX7_ropes (wsV RX7 177 RX7 yX7_digit wsX7_digit) := goodIn_app (goodIn_of _ (by decide +kernel)) ggX7_ropes_X7_digit
set_option maxRecDepth 20000 in
theorem ggX7_ropes_X7_dues : GoodIn wsX7_ropes wsX7_dues := goodIn_r _ [39, 1, 32, 33, 34, 5, 35, 16, 17, 18, 19, 20, 21, 22, 23, 40, 41, 42, 43, 44, 45, 46, 47, 48, 49, 50, 51, 52, 53, 54, 55] (by decide +kernel) (by decide +kernel)
set_option maxRecDepth 20000 in
theorem gX7_ropes_X7_dues : GoodIn wsX7_ropes (wsV RX7 189 RX7 yX7_dues wsX7_dues) := goodIn_app (goodIn_of _ (by decide +kernel)) ggX7_ropes_X7_dues
theorem dX7_ropes_0 : decode cX7_ropes 0 = .ok (.iload_n 1, 1) := by decide +kernel
theorem dX7_ropes_1 : decode cX7_ropes 1 = .ok (.iconst (-1), 1) := by decide +kernel
theorem dX7_ropes_2 : decode cX7_ropes 2 = .ok (.aload_n 0, 1) := by decide +kernel
theorem dX7_ropes_3 : decode cX7_ropes 3 = .ok (.getfield 7, 3) := by decide +kernel
theorem dX7_ropes_6 : decode cX7_ropes 6 = .ok (.iconst 0, 1) := by decide +kernel
theorem dX7_ropes_7 : decode cX7_ropes 7 = .ok (.iaload, 1) := by decide +kernel
theorem dX7_ropes_8 : decode cX7_ropes 8 = .ok (.iconst 1, 1) := by decide +kernel
theorem dX7_ropes_9 : decode cX7_ropes 9 = .ok (.isub, 1) := by decide +kernel
theorem dX7_ropes_10 : decode cX7_ropes 10 = .ok (.invokestatic 49, 3) := by decide +kernel
theorem dX7_ropes_13 : decode cX7_ropes 13 = .ok (.ifCond .ne 11, 3) := by decide +kernel
theorem dX7_ropes_16 : decode cX7_ropes 16 = .ok (.aload_n 0, 1) := by decide +kernel
theorem dX7_ropes_17 : decode cX7_ropes 17 = .ok (.iconst 0, 1) := by decide +kernel
theorem dX7_ropes_18 : decode cX7_ropes 18 = .ok (.bipush (-10), 2) := by decide +kernel
theorem dX7_ropes_20 : decode cX7_ropes 20 = .ok (.invokevirtual 45, 3) := by decide +kernel
theorem dX7_ropes_23 : decode cX7_ropes 23 = .ok (.ireturn, 1) := by decide +kernel
theorem dX7_ropes_24 : decode cX7_ropes 24 = .ok (.aload_n 0, 1) := by decide +kernel
theorem dX7_ropes_25 : decode cX7_ropes 25 = .ok (.invokevirtual 180, 3) := by decide +kernel
theorem dX7_ropes_28 : decode cX7_ropes 28 = .ok (.iconst (-1), 1) := by decide +kernel
theorem dX7_ropes_29 : decode cX7_ropes 29 = .ok (.istore_n 2, 1) := by decide +kernel
theorem dX7_ropes_30 : decode cX7_ropes 30 = .ok (.iconst 0, 1) := by decide +kernel
theorem dX7_ropes_31 : decode cX7_ropes 31 = .ok (.istore_n 3, 1) := by decide +kernel
theorem dX7_ropes_32 : decode cX7_ropes 32 = .ok (.iconst 0, 1) := by decide +kernel
theorem dX7_ropes_33 : decode cX7_ropes 33 = .ok (.istore 4, 2) := by decide +kernel
theorem dX7_ropes_35 : decode cX7_ropes 35 = .ok (.iload 4, 2) := by decide +kernel
theorem dX7_ropes_37 : decode cX7_ropes 37 = .ok (.aload_n 0, 1) := by decide +kernel
theorem dX7_ropes_38 : decode cX7_ropes 38 = .ok (.aload_n 0, 1) := by decide +kernel
theorem dX7_ropes_39 : decode cX7_ropes 39 = .ok (.getfield 7, 3) := by decide +kernel
theorem dX7_ropes_42 : decode cX7_ropes 42 = .ok (.iconst 0, 1) := by decide +kernel
theorem dX7_ropes_43 : decode cX7_ropes 43 = .ok (.iaload, 1) := by decide +kernel
theorem dX7_ropes_44 : decode cX7_ropes 44 = .ok (.invokevirtual 183, 3) := by decide +kernel
theorem dX7_ropes_47 : decode cX7_ropes 47 = .ok (.if_icmp .ge 125, 3) := by decide +kernel
theorem dX7_ropes_50 : decode cX7_ropes 50 = .ok (.aload_n 0, 1) := by decide +kernel
theorem dX7_ropes_51 : decode cX7_ropes 51 = .ok (.iload 4, 2) := by decide +kernel
theorem dX7_ropes_53 : decode cX7_ropes 53 = .ok (.aload_n 0, 1) := by decide +kernel
theorem dX7_ropes_54 : decode cX7_ropes 54 = .ok (.getfield 7, 3) := by decide +kernel
theorem dX7_ropes_57 : decode cX7_ropes 57 = .ok (.iconst 0, 1) := by decide +kernel
theorem dX7_ropes_58 : decode cX7_ropes 58 = .ok (.iaload, 1) := by decide +kernel
theorem dX7_ropes_59 : decode cX7_ropes 59 = .ok (.invokevirtual 186, 3) := by decide +kernel
theorem dX7_ropes_62 : decode cX7_ropes 62 = .ok (.istore 5, 2) := by decide +kernel
theorem dX7_ropes_64 : decode cX7_ropes 64 = .ok (.iconst 0, 1) := by decide +kernel
theorem dX7_ropes_65 : decode cX7_ropes 65 = .ok (.istore 6, 2) := by decide +kernel
theorem dX7_ropes_67 : decode cX7_ropes 67 = .ok (.iload 6, 2) := by decide +kernel
theorem dX7_ropes_69 : decode cX7_ropes 69 = .ok (.aload_n 0, 1) := by decide +kernel
theorem dX7_ropes_70 : decode cX7_ropes 70 = .ok (.getfield 7, 3) := by decide +kernel
theorem dX7_ropes_73 : decode cX7_ropes 73 = .ok (.iconst 0, 1) := by decide +kernel
theorem dX7_ropes_74 : decode cX7_ropes 74 = .ok (.iaload, 1) := by decide +kernel
theorem dX7_ropes_75 : decode cX7_ropes 75 = .ok (.if_icmp .ge 48, 3) := by decide +kernel
theorem dX7_ropes_78 : decode cX7_ropes 78 = .ok (.iload 5, 2) := by decide +kernel
theorem dX7_ropes_80 : decode cX7_ropes 80 = .ok (.ifCond .eq 43, 3) := by decide +kernel
theorem dX7_ropes_83 : decode cX7_ropes 83 = .ok (.aload_n 0, 1) := by decide +kernel
theorem dX7_ropes_84 : decode cX7_ropes 84 = .ok (.getfield 38, 3) := by decide +kernel
theorem dX7_ropes_87 : decode cX7_ropes 87 = .ok (.iload 6, 2) := by decide +kernel
theorem dX7_ropes_89 : decode cX7_ropes 89 = .ok (.iaload, 1) := by decide +kernel
theorem dX7_ropes_90 : decode cX7_ropes 90 = .ok (.aload_n 0, 1) := by decide +kernel
theorem dX7_ropes_91 : decode cX7_ropes 91 = .ok (.iload 4, 2) := by decide +kernel
theorem dX7_ropes_93 : decode cX7_ropes 93 = .ok (.aload_n 0, 1) := by decide +kernel
theorem dX7_ropes_94 : decode cX7_ropes 94 = .ok (.getfield 7, 3) := by decide +kernel
theorem dX7_ropes_97 : decode cX7_ropes 97 = .ok (.iconst 0, 1) := by decide +kernel
theorem dX7_ropes_98 : decode cX7_ropes 98 = .ok (.iaload, 1) := by decide +kernel
theorem dX7_ropes_99 : decode cX7_ropes 99 = .ok (.iload 6, 2) := by decide +kernel
theorem dX7_ropes_101 : decode cX7_ropes 101 = .ok (.invokevirtual 177, 3) := by decide +kernel
theorem dX7_ropes_104 : decode cX7_ropes 104 = .ok (.ishr, 1) := by decide +kernel
theorem dX7_ropes_105 : decode cX7_ropes 105 = .ok (.iconst 1, 1) := by decide +kernel
theorem dX7_ropes_106 : decode cX7_ropes 106 = .ok (.iand, 1) := by decide +kernel
theorem dX7_ropes_107 : decode cX7_ropes 107 = .ok (.ifCond .ne 7, 3) := by decide +kernel
theorem dX7_ropes_110 : decode cX7_ropes 110 = .ok (.iconst 1, 1) := by decide +kernel
theorem dX7_ropes_111 : decode cX7_ropes 111 = .ok (.goto 4, 3) := by decide +kernel
theorem dX7_ropes_114 : decode cX7_ropes 114 = .ok (.iconst 0, 1) := by decide +kernel
theorem dX7_ropes_115 : decode cX7_ropes 115 = .ok (.istore 5, 2) := by decide +kernel
theorem dX7_ropes_117 : decode cX7_ropes 117 = .ok (.iinc 6 1, 3) := by decide +kernel
theorem dX7_ropes_120 : decode cX7_ropes 120 = .ok (.goto (-53), 3) := by decide +kernel
theorem dX7_ropes_123 : decode cX7_ropes 123 = .ok (.iload 5, 2) := by decide +kernel
theorem dX7_ropes_125 : decode cX7_ropes 125 = .ok (.ifCond .eq 12, 3) := by decide +kernel
theorem dX7_ropes_128 : decode cX7_ropes 128 = .ok (.aload_n 0, 1) := by decide +kernel
theorem dX7_ropes_129 : decode cX7_ropes 129 = .ok (.iload 4, 2) := by decide +kernel
theorem dX7_ropes_131 : decode cX7_ropes 131 = .ok (.invokevirtual 189, 3) := by decide +kernel
theorem dX7_ropes_134 : decode cX7_ropes 134 = .ok (.goto 4, 3) := by decide +kernel
theorem dX7_ropes_137 : decode cX7_ropes 137 = .ok (.iconst (-1), 1) := by decide +kernel
theorem dX7_ropes_138 : decode cX7_ropes 138 = .ok (.istore 6, 2) := by decide +kernel
theorem dX7_ropes_140 : decode cX7_ropes 140 = .ok (.iload 6, 2) := by decide +kernel
theorem dX7_ropes_142 : decode cX7_ropes 142 = .ok (.iload_n 2, 1) := by decide +kernel
theorem dX7_ropes_143 : decode cX7_ropes 143 = .ok (.if_icmp .le 8, 3) := by decide +kernel
theorem dX7_ropes_146 : decode cX7_ropes 146 = .ok (.iload 4, 2) := by decide +kernel
theorem dX7_ropes_148 : decode cX7_ropes 148 = .ok (.goto 4, 3) := by decide +kernel
theorem dX7_ropes_151 : decode cX7_ropes 151 = .ok (.iload_n 3, 1) := by decide +kernel
theorem dX7_ropes_152 : decode cX7_ropes 152 = .ok (.istore_n 3, 1) := by decide +kernel
theorem dX7_ropes_153 : decode cX7_ropes 153 = .ok (.iload 6, 2) := by decide +kernel
theorem dX7_ropes_155 : decode cX7_ropes 155 = .ok (.iload_n 2, 1) := by decide +kernel
theorem dX7_ropes_156 : decode cX7_ropes 156 = .ok (.if_icmp .le 8, 3) := by decide +kernel
theorem dX7_ropes_159 : decode cX7_ropes 159 = .ok (.iload 6, 2) := by decide +kernel
theorem dX7_ropes_161 : decode cX7_ropes 161 = .ok (.goto 4, 3) := by decide +kernel
theorem dX7_ropes_164 : decode cX7_ropes 164 = .ok (.iload_n 2, 1) := by decide +kernel
theorem dX7_ropes_165 : decode cX7_ropes 165 = .ok (.istore_n 2, 1) := by decide +kernel
theorem dX7_ropes_166 : decode cX7_ropes 166 = .ok (.iinc 4 1, 3) := by decide +kernel
theorem dX7_ropes_169 : decode cX7_ropes 169 = .ok (.goto (-134), 3) := by decide +kernel
theorem dX7_ropes_172 : decode cX7_ropes 172 = .ok (.iload_n 1, 1) := by decide +kernel
theorem dX7_ropes_173 : decode cX7_ropes 173 = .ok (.iconst (-1), 1) := by decide +kernel
theorem dX7_ropes_174 : decode cX7_ropes 174 = .ok (.if_icmp .eq 8, 3) := by decide +kernel
theorem dX7_ropes_177 : decode cX7_ropes 177 = .ok (.iload_n 2, 1) := by decide +kernel
theorem dX7_ropes_178 : decode cX7_ropes 178 = .ok (.iconst (-1), 1) := by decide +kernel
theorem dX7_ropes_179 : decode cX7_ropes 179 = .ok (.if_icmp .ne 7, 3) := by decide +kernel
theorem dX7_ropes_182 : decode cX7_ropes 182 = .ok (.iload_n 2, 1) := by decide +kernel
theorem dX7_ropes_183 : decode cX7_ropes 183 = .ok (.goto 15, 3) := by decide +kernel
theorem dX7_ropes_186 : decode cX7_ropes 186 = .ok (.aload_n 0, 1) := by decide +kernel
theorem dX7_ropes_187 : decode cX7_ropes 187 = .ok (.iload_n 3, 1) := by decide +kernel
theorem dX7_ropes_188 : decode cX7_ropes 188 = .ok (.aload_n 0, 1) := by decide +kernel
theorem dX7_ropes_189 : decode cX7_ropes 189 = .ok (.getfield 7, 3) := by decide +kernel
theorem dX7_ropes_192 : decode cX7_ropes 192 = .ok (.iconst 0, 1) := by decide +kernel
theorem dX7_ropes_193 : decode cX7_ropes 193 = .ok (.iaload, 1) := by decide +kernel
theorem dX7_ropes_194 : decode cX7_ropes 194 = .ok (.iload_n 1, 1) := by decide +kernel
theorem dX7_ropes_195 : decode cX7_ropes 195 = .ok (.invokevirtual 177, 3) := by decide +kernel
theorem dX7_ropes_198 : decode cX7_ropes 198 = .ok (.ireturn, 1) := by decide +kernel
set_option maxRecDepth 20000 in
theorem ggX7_rope_X7_isOne : GoodIn wsX7_rope wsX7_isOne := goodIn_r _ [6, 1, 7, 8, 5, 9, 19, 20, 21, 22, 23, 24, 25, 26, 27, 28, 29, 30, 31, 32, 33, 34] (by decide +kernel) (by decide +kernel)
set_option maxRecDepth 20000 in
theorem gX7_rope_X7_isOne : GoodIn wsX7_rope (wsV RX7 53 RX7 yX7_isOne wsX7_isOne) := goodIn_app (goodIn_of _ (by decide +kernel)) ggX7_rope_X7_isOne
set_option maxRecDepth 20000 in
theorem ggX7_rope_X7_bad : GoodIn wsX7_rope wsX7_bad := goodIn_r _ [13, 14, 15, 16, 5, 17, 18, 19, 20, 21, 22, 23, 24, 25, 26, 27, 28, 29, 30, 31, 32, 33, 34] (by decide +kernel) (by decide +kernel)
set_option maxRecDepth 20000 in
theorem gX7_rope_X7_bad : GoodIn wsX7_rope (wsV RX7 63 RX7 yX7_bad wsX7_bad) := goodIn_app (goodIn_of _ (by decide +kernel)) ggX7_rope_X7_bad
theorem dX7_rope_0 : decode cX7_rope 0 = .ok (.aload_n 0, 1) := by decide +kernel
theorem dX7_rope_1 : decode cX7_rope 1 = .ok (.iload_n 1, 1) := by decide +kernel
theorem dX7_rope_2 : decode cX7_rope 2 = .ok (.invokevirtual 53, 3) := by decide +kernel
theorem dX7_rope_5 : decode cX7_rope 5 = .ok (.ifCond .eq 15, 3) := by decide +kernel
theorem dX7_rope_8 : decode cX7_rope 8 = .ok (.aload_n 0, 1) := by decide +kernel
theorem dX7_rope_9 : decode cX7_rope 9 = .ok (.getfield 7, 3) := by decide +kernel
theorem dX7_rope_12 : decode cX7_rope 12 = .ok (.bipush 16, 2) := by decide +kernel
theorem dX7_rope_14 : decode cX7_rope 14 = .ok (.iload_n 1, 1) := by decide +kernel
theorem dX7_rope_15 : decode cX7_rope 15 = .ok (.iadd, 1) := by decide +kernel
theorem dX7_rope_16 : decode cX7_rope 16 = .ok (.iaload, 1) := by decide +kernel
theorem dX7_rope_17 : decode cX7_rope 17 = .ok (.goto 7, 3) := by decide +kernel
theorem dX7_rope_20 : decode cX7_rope 20 = .ok (.aload_n 0, 1) := by decide +kernel
theorem dX7_rope_21 : decode cX7_rope 21 = .ok (.invokevirtual 63, 3) := by decide +kernel
theorem dX7_rope_24 : decode cX7_rope 24 = .ok (.ireturn, 1) := by decide +kernel
theorem dX7_favoured_0 : decode cX7_favoured 0 = .ok (.iconst 0, 1) := by decide +kernel
theorem dX7_favoured_1 : decode cX7_favoured 1 = .ok (.istore_n 3, 1) := by decide +kernel
theorem dX7_favoured_2 : decode cX7_favoured 2 = .ok (.iconst 0, 1) := by decide +kernel
theorem dX7_favoured_3 : decode cX7_favoured 3 = .ok (.istore 4, 2) := by decide +kernel
theorem dX7_favoured_5 : decode cX7_favoured 5 = .ok (.iload 4, 2) := by decide +kernel
theorem dX7_favoured_7 : decode cX7_favoured 7 = .ok (.aload_n 0, 1) := by decide +kernel
theorem dX7_favoured_8 : decode cX7_favoured 8 = .ok (.getfield 7, 3) := by decide +kernel
theorem dX7_favoured_11 : decode cX7_favoured 11 = .ok (.iconst 0, 1) := by decide +kernel
theorem dX7_favoured_12 : decode cX7_favoured 12 = .ok (.iaload, 1) := by decide +kernel
theorem dX7_favoured_13 : decode cX7_favoured 13 = .ok (.if_icmp .ge 48, 3) := by decide +kernel
theorem dX7_favoured_16 : decode cX7_favoured 16 = .ok (.iload_n 3, 1) := by decide +kernel
theorem dX7_favoured_17 : decode cX7_favoured 17 = .ok (.ifCond .ne 32, 3) := by decide +kernel
theorem dX7_favoured_20 : decode cX7_favoured 20 = .ok (.aload_n 0, 1) := by decide +kernel
theorem dX7_favoured_21 : decode cX7_favoured 21 = .ok (.getfield 7, 3) := by decide +kernel
theorem dX7_favoured_24 : decode cX7_favoured 24 = .ok (.bipush 16, 2) := by decide +kernel
theorem dX7_favoured_26 : decode cX7_favoured 26 = .ok (.iload 4, 2) := by decide +kernel
theorem dX7_favoured_28 : decode cX7_favoured 28 = .ok (.iadd, 1) := by decide +kernel
theorem dX7_favoured_29 : decode cX7_favoured 29 = .ok (.iaload, 1) := by decide +kernel
theorem dX7_favoured_30 : decode cX7_favoured 30 = .ok (.iload_n 1, 1) := by decide +kernel
theorem dX7_favoured_31 : decode cX7_favoured 31 = .ok (.if_icmp .ne 22, 3) := by decide +kernel
theorem dX7_favoured_34 : decode cX7_favoured 34 = .ok (.aload_n 0, 1) := by decide +kernel
theorem dX7_favoured_35 : decode cX7_favoured 35 = .ok (.getfield 38, 3) := by decide +kernel
theorem dX7_favoured_38 : decode cX7_favoured 38 = .ok (.iload 4, 2) := by decide +kernel
theorem dX7_favoured_40 : decode cX7_favoured 40 = .ok (.iaload, 1) := by decide +kernel
theorem dX7_favoured_41 : decode cX7_favoured 41 = .ok (.iload_n 2, 1) := by decide +kernel
theorem dX7_favoured_42 : decode cX7_favoured 42 = .ok (.ishr, 1) := by decide +kernel
theorem dX7_favoured_43 : decode cX7_favoured 43 = .ok (.iconst 1, 1) := by decide +kernel
theorem dX7_favoured_44 : decode cX7_favoured 44 = .ok (.iand, 1) := by decide +kernel
theorem dX7_favoured_45 : decode cX7_favoured 45 = .ok (.iconst 1, 1) := by decide +kernel
theorem dX7_favoured_46 : decode cX7_favoured 46 = .ok (.if_icmp .ne 7, 3) := by decide +kernel
theorem dX7_favoured_49 : decode cX7_favoured 49 = .ok (.iconst 1, 1) := by decide +kernel
theorem dX7_favoured_50 : decode cX7_favoured 50 = .ok (.goto 4, 3) := by decide +kernel
theorem dX7_favoured_53 : decode cX7_favoured 53 = .ok (.iconst 0, 1) := by decide +kernel
theorem dX7_favoured_54 : decode cX7_favoured 54 = .ok (.istore_n 3, 1) := by decide +kernel
theorem dX7_favoured_55 : decode cX7_favoured 55 = .ok (.iinc 4 1, 3) := by decide +kernel
theorem dX7_favoured_58 : decode cX7_favoured 58 = .ok (.goto (-53), 3) := by decide +kernel
theorem dX7_favoured_61 : decode cX7_favoured 61 = .ok (.iload_n 3, 1) := by decide +kernel
theorem dX7_favoured_62 : decode cX7_favoured 62 = .ok (.ireturn, 1) := by decide +kernel
set_option maxRecDepth 20000 in
theorem ggX7_isRing_X7_areUnlike : GoodIn wsX7_isRing wsX7_areUnlike := goodIn_r _ [5, 6, 7, 8, 4, 9, 10, 16, 17, 18, 19, 20, 21, 22, 23, 24, 25, 26, 27, 28, 29, 30, 31] (by decide +kernel) (by decide +kernel)
set_option maxRecDepth 20000 in
theorem gX7_isRing_X7_areUnlike : GoodIn wsX7_isRing (wsV RX7 186 RX7 yX7_areUnlike wsX7_areUnlike) := goodIn_app (goodIn_of _ (by decide +kernel)) ggX7_isRing_X7_areUnlike
set_option maxRecDepth 20000 in
theorem ggX7_isRing_X7_digit : GoodIn wsX7_isRing wsX7_digit := goodIn_r _ [9, 10, 16, 17, 18, 19, 20, 21, 22, 23, 24, 25, 26, 27, 28, 29, 30, 31] (by decide +kernel) (by decide +kernel)
set_option maxRecDepth 20000 in
theorem gX7_isRing_X7_digit : GoodIn wsX7_isRing (wsV RX7 177 RX7 yX7_digit wsX7_digit) := goodIn_app (goodIn_of _ (by decide +kernel)) ggX7_isRing_X7_digit
set_option maxRecDepth 20000 in
theorem ggX7_isRing_X7_favoured : GoodIn wsX7_isRing wsX7_favoured := goodIn_r _ [14, 10, 15, 16, 17, 18, 19, 20, 21, 22, 23, 24, 25, 26, 27, 28, 29, 30, 31] (by decide +kernel) (by decide +kernel)
set_option maxRecDepth 20000 in
theorem gX7_isRing_X7_favoured : GoodIn wsX7_isRing (wsV RX7 192 RX7 yX7_favoured wsX7_favoured) := goodIn_app (goodIn_of _ (by decide +kernel)) ggX7_isRing_X7_favoured
theorem dX7_isRing_0 : decode cX7_isRing 0 = .ok (.aload_n 0, 1) := by decide +kernel
theorem dX7_isRing_1 : decode cX7_isRing 1 = .ok (.iload_n 1, 1) := by decide +kernel
theorem dX7_isRing_2 : decode cX7_isRing 2 = .ok (.iload_n 2, 1) := by decide +kernel
theorem dX7_isRing_3 : decode cX7_isRing 3 = .ok (.invokevirtual 186, 3) := by decide +kernel
theorem dX7_isRing_6 : decode cX7_isRing 6 = .ok (.istore_n 3, 1) := by decide +kernel
theorem dX7_isRing_7 : decode cX7_isRing 7 = .ok (.iconst 0, 1) := by decide +kernel
theorem dX7_isRing_8 : decode cX7_isRing 8 = .ok (.istore 4, 2) := by decide +kernel
theorem dX7_isRing_10 : decode cX7_isRing 10 = .ok (.iload 4, 2) := by decide +kernel
theorem dX7_isRing_12 : decode cX7_isRing 12 = .ok (.iload_n 2, 1) := by decide +kernel
theorem dX7_isRing_13 : decode cX7_isRing 13 = .ok (.if_icmp .ge 62, 3) := by decide +kernel
theorem dX7_isRing_16 : decode cX7_isRing 16 = .ok (.iload_n 3, 1) := by decide +kernel
theorem dX7_isRing_17 : decode cX7_isRing 17 = .ok (.ifCond .eq 58, 3) := by decide +kernel
theorem dX7_isRing_20 : decode cX7_isRing 20 = .ok (.aload_n 0, 1) := by decide +kernel
theorem dX7_isRing_21 : decode cX7_isRing 21 = .ok (.iload_n 1, 1) := by decide +kernel
theorem dX7_isRing_22 : decode cX7_isRing 22 = .ok (.iload_n 2, 1) := by decide +kernel
theorem dX7_isRing_23 : decode cX7_isRing 23 = .ok (.iload 4, 2) := by decide +kernel
theorem dX7_isRing_25 : decode cX7_isRing 25 = .ok (.invokevirtual 177, 3) := by decide +kernel
theorem dX7_isRing_28 : decode cX7_isRing 28 = .ok (.istore 5, 2) := by decide +kernel
theorem dX7_isRing_30 : decode cX7_isRing 30 = .ok (.iload 5, 2) := by decide +kernel
theorem dX7_isRing_32 : decode cX7_isRing 32 = .ok (.aload_n 0, 1) := by decide +kernel
theorem dX7_isRing_33 : decode cX7_isRing 33 = .ok (.iload_n 1, 1) := by decide +kernel
theorem dX7_isRing_34 : decode cX7_isRing 34 = .ok (.iload_n 2, 1) := by decide +kernel
theorem dX7_isRing_35 : decode cX7_isRing 35 = .ok (.iconst 0, 1) := by decide +kernel
theorem dX7_isRing_36 : decode cX7_isRing 36 = .ok (.invokevirtual 177, 3) := by decide +kernel
theorem dX7_isRing_39 : decode cX7_isRing 39 = .ok (.if_icmp .lt 28, 3) := by decide +kernel
theorem dX7_isRing_42 : decode cX7_isRing 42 = .ok (.aload_n 0, 1) := by decide +kernel
theorem dX7_isRing_43 : decode cX7_isRing 43 = .ok (.iload 5, 2) := by decide +kernel
theorem dX7_isRing_45 : decode cX7_isRing 45 = .ok (.aload_n 0, 1) := by decide +kernel
theorem dX7_isRing_46 : decode cX7_isRing 46 = .ok (.iload_n 1, 1) := by decide +kernel
theorem dX7_isRing_47 : decode cX7_isRing 47 = .ok (.iload_n 2, 1) := by decide +kernel
theorem dX7_isRing_48 : decode cX7_isRing 48 = .ok (.iload 4, 2) := by decide +kernel
theorem dX7_isRing_50 : decode cX7_isRing 50 = .ok (.iconst 1, 1) := by decide +kernel
theorem dX7_isRing_51 : decode cX7_isRing 51 = .ok (.iadd, 1) := by decide +kernel
theorem dX7_isRing_52 : decode cX7_isRing 52 = .ok (.iload_n 2, 1) := by decide +kernel
theorem dX7_isRing_53 : decode cX7_isRing 53 = .ok (.irem, 1) := by decide +kernel
theorem dX7_isRing_54 : decode cX7_isRing 54 = .ok (.invokevirtual 177, 3) := by decide +kernel
theorem dX7_isRing_57 : decode cX7_isRing 57 = .ok (.invokevirtual 192, 3) := by decide +kernel
theorem dX7_isRing_60 : decode cX7_isRing 60 = .ok (.ifCond .eq 7, 3) := by decide +kernel
theorem dX7_isRing_63 : decode cX7_isRing 63 = .ok (.iconst 1, 1) := by decide +kernel
theorem dX7_isRing_64 : decode cX7_isRing 64 = .ok (.goto 4, 3) := by decide +kernel
theorem dX7_isRing_67 : decode cX7_isRing 67 = .ok (.iconst 0, 1) := by decide +kernel
theorem dX7_isRing_68 : decode cX7_isRing 68 = .ok (.istore_n 3, 1) := by decide +kernel
theorem dX7_isRing_69 : decode cX7_isRing 69 = .ok (.iinc 4 1, 3) := by decide +kernel
theorem dX7_isRing_72 : decode cX7_isRing 72 = .ok (.goto (-62), 3) := by decide +kernel
theorem dX7_isRing_75 : decode cX7_isRing 75 = .ok (.iload_n 3, 1) := by decide +kernel
theorem dX7_isRing_76 : decode cX7_isRing 76 = .ok (.ireturn, 1) := by decide +kernel
set_option maxRecDepth 20000 in
theorem ggX7_ring_X7_refuses : GoodIn wsX7_ring wsX7_refuses := goodIn_r _ [6, 7, 41, 42, 43, 44, 45, 46, 47, 48, 49, 50, 51, 52, 53, 54, 55, 56] (by decide +kernel) (by decide +kernel)
set_option maxRecDepth 20000 in
theorem gX7_ring_X7_refuses : GoodIn wsX7_ring (wsV RX7 45 RX7 yX7_refuses wsX7_refuses) := goodIn_app (goodIn_of _ (by decide +kernel)) ggX7_ring_X7_refuses
set_option maxRecDepth 20000 in
theorem ggX7_ring_X7_places : GoodIn wsX7_ring wsX7_places := goodIn_r _ [11, 1, 12, 13, 14, 15, 5, 16, 17, 18, 19, 20, 41, 42, 43, 44, 45, 46, 47, 48, 49, 50, 51, 52, 53, 54, 55, 56] (by decide +kernel) (by decide +kernel)
set_option maxRecDepth 20000 in
theorem gX7_ring_X7_places : GoodIn wsX7_ring (wsV RX7 180 RX7 yX7_places wsX7_places) := goodIn_app (goodIn_of _ (by decide +kernel)) ggX7_ring_X7_places
set_option maxRecDepth 20000 in
theorem ggX7_ring_X7_rows : GoodIn wsX7_ring wsX7_rows := goodIn_r _ [24, 1, 41, 42, 43, 44, 45, 46, 47, 48, 49, 50, 51, 52, 53, 54, 55, 56] (by decide +kernel) (by decide +kernel)
set_option maxRecDepth 20000 in
theorem gX7_ring_X7_rows : GoodIn wsX7_ring (wsV RX7 183 RX7 yX7_rows wsX7_rows) := goodIn_app (goodIn_of _ (by decide +kernel)) ggX7_ring_X7_rows
set_option maxRecDepth 20000 in
theorem ggX7_ring_X7_isRing : GoodIn wsX7_ring wsX7_isRing := goodIn_r _ [28, 29, 30, 31, 5, 32, 33, 34, 35, 36, 1, 37, 38, 39, 40, 12, 41, 42, 43, 44, 45, 46, 47, 48, 49, 50, 51, 52, 53, 54, 55, 56] (by decide +kernel) (by decide +kernel)
set_option maxRecDepth 20000 in
theorem gX7_ring_X7_isRing : GoodIn wsX7_ring (wsV RX7 195 RX7 yX7_isRing wsX7_isRing) := goodIn_app (goodIn_of _ (by decide +kernel)) ggX7_ring_X7_isRing
set_option maxRecDepth 20000 in
theorem ggX7_ring_X7_digit : GoodIn wsX7_ring wsX7_digit := goodIn_r _ [36, 1, 41, 42, 43, 44, 45, 46, 47, 48, 49, 50, 51, 52, 53, 54, 55, 56] (by decide +kernel) (by decide +kernel)
set_option maxRecDepth 20000 in
theorem gX7_ring_X7_digit : GoodIn wsX7_ring (wsV RX7 177 RX7 yX7_digit wsX7_digit) := goodIn_app (goodIn_of _ (by decide +kernel)) ggX7_ring_X7_digit
theorem dX7_ring_0 : decode cX7_ring 0 = .ok (.iload_n 1, 1) := by decide +kernel
theorem dX7_ring_1 : decode cX7_ring 1 = .ok (.iconst (-1), 1) := by decide +kernel
theorem dX7_ring_2 : decode cX7_ring 2 = .ok (.if_icmp .ge 11, 3) := by decide +kernel
theorem dX7_ring_5 : decode cX7_ring 5 = .ok (.aload_n 0, 1) := by decide +kernel
theorem dX7_ring_6 : decode cX7_ring 6 = .ok (.iconst 0, 1) := by decide +kernel
theorem dX7_ring_7 : decode cX7_ring 7 = .ok (.bipush (-10), 2) := by decide +kernel
theorem dX7_ring_9 : decode cX7_ring 9 = .ok (.invokevirtual 45, 3) := by decide +kernel
theorem dX7_ring_12 : decode cX7_ring 12 = .ok (.ireturn, 1) := by decide +kernel
theorem dX7_ring_13 : decode cX7_ring 13 = .ok (.aload_n 0, 1) := by decide +kernel
theorem dX7_ring_14 : decode cX7_ring 14 = .ok (.invokevirtual 180, 3) := by decide +kernel
theorem dX7_ring_17 : decode cX7_ring 17 = .ok (.iconst 2, 1) := by decide +kernel
theorem dX7_ring_18 : decode cX7_ring 18 = .ok (.istore_n 2, 1) := by decide +kernel
theorem dX7_ring_19 : decode cX7_ring 19 = .ok (.iload_n 2, 1) := by decide +kernel
theorem dX7_ring_20 : decode cX7_ring 20 = .ok (.aload_n 0, 1) := by decide +kernel
theorem dX7_ring_21 : decode cX7_ring 21 = .ok (.getfield 7, 3) := by decide +kernel
theorem dX7_ring_24 : decode cX7_ring 24 = .ok (.iconst 0, 1) := by decide +kernel
theorem dX7_ring_25 : decode cX7_ring 25 = .ok (.iaload, 1) := by decide +kernel
theorem dX7_ring_26 : decode cX7_ring 26 = .ok (.if_icmp .gt 62, 3) := by decide +kernel
theorem dX7_ring_29 : decode cX7_ring 29 = .ok (.iconst 0, 1) := by decide +kernel
theorem dX7_ring_30 : decode cX7_ring 30 = .ok (.istore_n 3, 1) := by decide +kernel
theorem dX7_ring_31 : decode cX7_ring 31 = .ok (.iload_n 3, 1) := by decide +kernel
theorem dX7_ring_32 : decode cX7_ring 32 = .ok (.aload_n 0, 1) := by decide +kernel
theorem dX7_ring_33 : decode cX7_ring 33 = .ok (.iload_n 2, 1) := by decide +kernel
theorem dX7_ring_34 : decode cX7_ring 34 = .ok (.invokevirtual 183, 3) := by decide +kernel
theorem dX7_ring_37 : decode cX7_ring 37 = .ok (.if_icmp .ge 45, 3) := by decide +kernel
theorem dX7_ring_40 : decode cX7_ring 40 = .ok (.aload_n 0, 1) := by decide +kernel
theorem dX7_ring_41 : decode cX7_ring 41 = .ok (.iload_n 3, 1) := by decide +kernel
theorem dX7_ring_42 : decode cX7_ring 42 = .ok (.iload_n 2, 1) := by decide +kernel
theorem dX7_ring_43 : decode cX7_ring 43 = .ok (.invokevirtual 195, 3) := by decide +kernel
theorem dX7_ring_46 : decode cX7_ring 46 = .ok (.ifCond .eq 30, 3) := by decide +kernel
theorem dX7_ring_49 : decode cX7_ring 49 = .ok (.iload_n 1, 1) := by decide +kernel
theorem dX7_ring_50 : decode cX7_ring 50 = .ok (.iconst (-1), 1) := by decide +kernel
theorem dX7_ring_51 : decode cX7_ring 51 = .ok (.if_icmp .ne 7, 3) := by decide +kernel
theorem dX7_ring_54 : decode cX7_ring 54 = .ok (.iload_n 2, 1) := by decide +kernel
theorem dX7_ring_55 : decode cX7_ring 55 = .ok (.goto 20, 3) := by decide +kernel
theorem dX7_ring_58 : decode cX7_ring 58 = .ok (.iload_n 1, 1) := by decide +kernel
theorem dX7_ring_59 : decode cX7_ring 59 = .ok (.iload_n 2, 1) := by decide +kernel
theorem dX7_ring_60 : decode cX7_ring 60 = .ok (.if_icmp .ge 13, 3) := by decide +kernel
theorem dX7_ring_63 : decode cX7_ring 63 = .ok (.aload_n 0, 1) := by decide +kernel
theorem dX7_ring_64 : decode cX7_ring 64 = .ok (.iload_n 3, 1) := by decide +kernel
theorem dX7_ring_65 : decode cX7_ring 65 = .ok (.iload_n 2, 1) := by decide +kernel
theorem dX7_ring_66 : decode cX7_ring 66 = .ok (.iload_n 1, 1) := by decide +kernel
theorem dX7_ring_67 : decode cX7_ring 67 = .ok (.invokevirtual 177, 3) := by decide +kernel
theorem dX7_ring_70 : decode cX7_ring 70 = .ok (.goto 5, 3) := by decide +kernel
theorem dX7_ring_73 : decode cX7_ring 73 = .ok (.bipush (-5), 2) := by decide +kernel
theorem dX7_ring_75 : decode cX7_ring 75 = .ok (.ireturn, 1) := by decide +kernel
theorem dX7_ring_76 : decode cX7_ring 76 = .ok (.iinc 3 1, 3) := by decide +kernel
theorem dX7_ring_79 : decode cX7_ring 79 = .ok (.goto (-48), 3) := by decide +kernel
theorem dX7_ring_82 : decode cX7_ring 82 = .ok (.iinc 2 1, 3) := by decide +kernel
theorem dX7_ring_85 : decode cX7_ring 85 = .ok (.goto (-66), 3) := by decide +kernel
theorem dX7_ring_88 : decode cX7_ring 88 = .ok (.iload_n 1, 1) := by decide +kernel
theorem dX7_ring_89 : decode cX7_ring 89 = .ok (.iconst (-1), 1) := by decide +kernel
theorem dX7_ring_90 : decode cX7_ring 90 = .ok (.if_icmp .ne 7, 3) := by decide +kernel
theorem dX7_ring_93 : decode cX7_ring 93 = .ok (.iconst 0, 1) := by decide +kernel
theorem dX7_ring_94 : decode cX7_ring 94 = .ok (.goto 5, 3) := by decide +kernel
theorem dX7_ring_97 : decode cX7_ring 97 = .ok (.bipush (-5), 2) := by decide +kernel
theorem dX7_ring_99 : decode cX7_ring 99 = .ok (.ireturn, 1) := by decide +kernel
set_option maxRecDepth 20000 in
theorem ggX7_word_X7_isOne : GoodIn wsX7_word wsX7_isOne := goodIn_r _ [6, 1, 7, 8, 5, 9, 27, 28, 29, 30, 31, 32, 33, 34, 35, 36, 37, 38, 39, 40, 41, 42] (by decide +kernel) (by decide +kernel)
set_option maxRecDepth 20000 in
theorem gX7_word_X7_isOne : GoodIn wsX7_word (wsV RX7 53 RX7 yX7_isOne wsX7_isOne) := goodIn_app (goodIn_of _ (by decide +kernel)) ggX7_word_X7_isOne
set_option maxRecDepth 20000 in
theorem ggX7_word_X7_in : GoodIn wsX7_word wsX7_in := goodIn_r _ [9] (by decide +kernel) (by decide +kernel)
set_option maxRecDepth 20000 in
theorem gX7_word_X7_in : GoodIn wsX7_word (va_wsS RX7 49 yX7_in wsX7_in) := goodIn_app (goodIn_of _ (by decide +kernel)) ggX7_word_X7_in
set_option maxRecDepth 20000 in
theorem ggX7_word_X7_bad : GoodIn wsX7_word wsX7_bad := goodIn_r _ [13, 14, 15, 16, 5, 17, 18, 27, 28, 29, 30, 31, 32, 33, 34, 35, 36, 37, 38, 39, 40, 41, 42] (by decide +kernel) (by decide +kernel)
set_option maxRecDepth 20000 in
theorem gX7_word_X7_bad : GoodIn wsX7_word (wsV RX7 63 RX7 yX7_bad wsX7_bad) := goodIn_app (goodIn_of _ (by decide +kernel)) ggX7_word_X7_bad
set_option maxRecDepth 20000 in
theorem ggX7_word_X7_hall : GoodIn wsX7_word wsX7_hall := goodIn_r _ [22, 23, 24, 25, 5, 26, 1, 27, 28, 29, 30, 31, 32, 33, 34, 35, 36, 37, 38, 39, 40, 41, 42] (by decide +kernel) (by decide +kernel)
set_option maxRecDepth 20000 in
theorem gX7_word_X7_hall : GoodIn wsX7_word (wsV RX7 91 RX7 yX7_hall wsX7_hall) := goodIn_app (goodIn_of _ (by decide +kernel)) ggX7_word_X7_hall
theorem dX7_word_0 : decode cX7_word 0 = .ok (.aload_n 0, 1) := by decide +kernel
theorem dX7_word_1 : decode cX7_word 1 = .ok (.iload_n 1, 1) := by decide +kernel
theorem dX7_word_2 : decode cX7_word 2 = .ok (.invokevirtual 53, 3) := by decide +kernel
theorem dX7_word_5 : decode cX7_word 5 = .ok (.ifCond .eq 21, 3) := by decide +kernel
theorem dX7_word_8 : decode cX7_word 8 = .ok (.iload_n 2, 1) := by decide +kernel
theorem dX7_word_9 : decode cX7_word 9 = .ok (.iconst 0, 1) := by decide +kernel
theorem dX7_word_10 : decode cX7_word 10 = .ok (.iconst 3, 1) := by decide +kernel
theorem dX7_word_11 : decode cX7_word 11 = .ok (.invokestatic 49, 3) := by decide +kernel
theorem dX7_word_14 : decode cX7_word 14 = .ok (.ifCond .eq 12, 3) := by decide +kernel
theorem dX7_word_17 : decode cX7_word 17 = .ok (.iload_n 3, 1) := by decide +kernel
theorem dX7_word_18 : decode cX7_word 18 = .ok (.iconst 0, 1) := by decide +kernel
theorem dX7_word_19 : decode cX7_word 19 = .ok (.iconst 1, 1) := by decide +kernel
theorem dX7_word_20 : decode cX7_word 20 = .ok (.invokestatic 49, 3) := by decide +kernel
theorem dX7_word_23 : decode cX7_word 23 = .ok (.ifCond .ne 8, 3) := by decide +kernel
theorem dX7_word_26 : decode cX7_word 26 = .ok (.aload_n 0, 1) := by decide +kernel
theorem dX7_word_27 : decode cX7_word 27 = .ok (.invokevirtual 63, 3) := by decide +kernel
theorem dX7_word_30 : decode cX7_word 30 = .ok (.ireturn, 1) := by decide +kernel
theorem dX7_word_31 : decode cX7_word 31 = .ok (.iconst 1, 1) := by decide +kernel
theorem dX7_word_32 : decode cX7_word 32 = .ok (.iload_n 1, 1) := by decide +kernel
theorem dX7_word_33 : decode cX7_word 33 = .ok (.ishl, 1) := by decide +kernel
theorem dX7_word_34 : decode cX7_word 34 = .ok (.istore 4, 2) := by decide +kernel
theorem dX7_word_36 : decode cX7_word 36 = .ok (.iconst 0, 1) := by decide +kernel
theorem dX7_word_37 : decode cX7_word 37 = .ok (.istore 5, 2) := by decide +kernel
theorem dX7_word_39 : decode cX7_word 39 = .ok (.iconst 1, 1) := by decide +kernel
theorem dX7_word_40 : decode cX7_word 40 = .ok (.istore 6, 2) := by decide +kernel
theorem dX7_word_42 : decode cX7_word 42 = .ok (.iload 6, 2) := by decide +kernel
theorem dX7_word_44 : decode cX7_word 44 = .ok (.ifCond .eq 98, 3) := by decide +kernel
theorem dX7_word_47 : decode cX7_word 47 = .ok (.iload 4, 2) := by decide +kernel
theorem dX7_word_49 : decode cX7_word 49 = .ok (.istore 7, 2) := by decide +kernel
theorem dX7_word_51 : decode cX7_word 51 = .ok (.iconst 0, 1) := by decide +kernel
theorem dX7_word_52 : decode cX7_word 52 = .ok (.istore 8, 2) := by decide +kernel
theorem dX7_word_54 : decode cX7_word 54 = .ok (.iload 8, 2) := by decide +kernel
theorem dX7_word_56 : decode cX7_word 56 = .ok (.aload_n 0, 1) := by decide +kernel
theorem dX7_word_57 : decode cX7_word 57 = .ok (.getfield 7, 3) := by decide +kernel
theorem dX7_word_60 : decode cX7_word 60 = .ok (.iconst 0, 1) := by decide +kernel
theorem dX7_word_61 : decode cX7_word 61 = .ok (.iaload, 1) := by decide +kernel
theorem dX7_word_62 : decode cX7_word 62 = .ok (.if_icmp .ge 44, 3) := by decide +kernel
theorem dX7_word_65 : decode cX7_word 65 = .ok (.iload 7, 2) := by decide +kernel
theorem dX7_word_67 : decode cX7_word 67 = .ok (.iload 4, 2) := by decide +kernel
theorem dX7_word_69 : decode cX7_word 69 = .ok (.aload_n 0, 1) := by decide +kernel
theorem dX7_word_70 : decode cX7_word 70 = .ok (.getfield 7, 3) := by decide +kernel
theorem dX7_word_73 : decode cX7_word 73 = .ok (.bipush 16, 2) := by decide +kernel
theorem dX7_word_75 : decode cX7_word 75 = .ok (.iload 8, 2) := by decide +kernel
theorem dX7_word_77 : decode cX7_word 77 = .ok (.iadd, 1) := by decide +kernel
theorem dX7_word_78 : decode cX7_word 78 = .ok (.iaload, 1) := by decide +kernel
theorem dX7_word_79 : decode cX7_word 79 = .ok (.ishr, 1) := by decide +kernel
theorem dX7_word_80 : decode cX7_word 80 = .ok (.iconst 1, 1) := by decide +kernel
theorem dX7_word_81 : decode cX7_word 81 = .ok (.iand, 1) := by decide +kernel
theorem dX7_word_82 : decode cX7_word 82 = .ok (.iconst 1, 1) := by decide +kernel
theorem dX7_word_83 : decode cX7_word 83 = .ok (.if_icmp .ne 13, 3) := by decide +kernel
theorem dX7_word_86 : decode cX7_word 86 = .ok (.aload_n 0, 1) := by decide +kernel
theorem dX7_word_87 : decode cX7_word 87 = .ok (.iload 8, 2) := by decide +kernel
theorem dX7_word_89 : decode cX7_word 89 = .ok (.iload_n 2, 1) := by decide +kernel
theorem dX7_word_90 : decode cX7_word 90 = .ok (.invokevirtual 91, 3) := by decide +kernel
theorem dX7_word_93 : decode cX7_word 93 = .ok (.goto 4, 3) := by decide +kernel
theorem dX7_word_96 : decode cX7_word 96 = .ok (.iconst 0, 1) := by decide +kernel
theorem dX7_word_97 : decode cX7_word 97 = .ok (.ior, 1) := by decide +kernel
theorem dX7_word_98 : decode cX7_word 98 = .ok (.istore 7, 2) := by decide +kernel
theorem dX7_word_100 : decode cX7_word 100 = .ok (.iinc 8 1, 3) := by decide +kernel
theorem dX7_word_103 : decode cX7_word 103 = .ok (.goto (-49), 3) := by decide +kernel
theorem dX7_word_106 : decode cX7_word 106 = .ok (.iload 7, 2) := by decide +kernel
theorem dX7_word_108 : decode cX7_word 108 = .ok (.iload 4, 2) := by decide +kernel
theorem dX7_word_110 : decode cX7_word 110 = .ok (.if_icmp .eq 7, 3) := by decide +kernel
theorem dX7_word_113 : decode cX7_word 113 = .ok (.iconst 1, 1) := by decide +kernel
theorem dX7_word_114 : decode cX7_word 114 = .ok (.goto 4, 3) := by decide +kernel
theorem dX7_word_117 : decode cX7_word 117 = .ok (.iconst 0, 1) := by decide +kernel
theorem dX7_word_118 : decode cX7_word 118 = .ok (.istore 6, 2) := by decide +kernel
theorem dX7_word_120 : decode cX7_word 120 = .ok (.iload 5, 2) := by decide +kernel
theorem dX7_word_122 : decode cX7_word 122 = .ok (.iload 6, 2) := by decide +kernel
theorem dX7_word_124 : decode cX7_word 124 = .ok (.ifCond .eq 7, 3) := by decide +kernel
theorem dX7_word_127 : decode cX7_word 127 = .ok (.iconst 1, 1) := by decide +kernel
theorem dX7_word_128 : decode cX7_word 128 = .ok (.goto 4, 3) := by decide +kernel
theorem dX7_word_131 : decode cX7_word 131 = .ok (.iconst 0, 1) := by decide +kernel
theorem dX7_word_132 : decode cX7_word 132 = .ok (.iadd, 1) := by decide +kernel
theorem dX7_word_133 : decode cX7_word 133 = .ok (.istore 5, 2) := by decide +kernel
theorem dX7_word_135 : decode cX7_word 135 = .ok (.iload 7, 2) := by decide +kernel
theorem dX7_word_137 : decode cX7_word 137 = .ok (.istore 4, 2) := by decide +kernel
theorem dX7_word_139 : decode cX7_word 139 = .ok (.goto (-97), 3) := by decide +kernel
theorem dX7_word_142 : decode cX7_word 142 = .ok (.iload_n 3, 1) := by decide +kernel
theorem dX7_word_143 : decode cX7_word 143 = .ok (.ifCond .ne 8, 3) := by decide +kernel
theorem dX7_word_146 : decode cX7_word 146 = .ok (.iload 5, 2) := by decide +kernel
theorem dX7_word_148 : decode cX7_word 148 = .ok (.goto 5, 3) := by decide +kernel
theorem dX7_word_151 : decode cX7_word 151 = .ok (.iload 4, 2) := by decide +kernel
theorem dX7_word_153 : decode cX7_word 153 = .ok (.ireturn, 1) := by decide +kernel
theorem dX7_ones_0 : decode cX7_ones 0 = .ok (.iconst 0, 1) := by decide +kernel
theorem dX7_ones_1 : decode cX7_ones 1 = .ok (.istore_n 1, 1) := by decide +kernel
theorem dX7_ones_2 : decode cX7_ones 2 = .ok (.iconst 0, 1) := by decide +kernel
theorem dX7_ones_3 : decode cX7_ones 3 = .ok (.istore_n 2, 1) := by decide +kernel
theorem dX7_ones_4 : decode cX7_ones 4 = .ok (.iload_n 2, 1) := by decide +kernel
theorem dX7_ones_5 : decode cX7_ones 5 = .ok (.bipush 8, 2) := by decide +kernel
theorem dX7_ones_7 : decode cX7_ones 7 = .ok (.if_icmp .ge 17, 3) := by decide +kernel
theorem dX7_ones_10 : decode cX7_ones 10 = .ok (.iload_n 1, 1) := by decide +kernel
theorem dX7_ones_11 : decode cX7_ones 11 = .ok (.iload_n 0, 1) := by decide +kernel
theorem dX7_ones_12 : decode cX7_ones 12 = .ok (.iload_n 2, 1) := by decide +kernel
theorem dX7_ones_13 : decode cX7_ones 13 = .ok (.ishr, 1) := by decide +kernel
theorem dX7_ones_14 : decode cX7_ones 14 = .ok (.iconst 1, 1) := by decide +kernel
theorem dX7_ones_15 : decode cX7_ones 15 = .ok (.iand, 1) := by decide +kernel
theorem dX7_ones_16 : decode cX7_ones 16 = .ok (.iadd, 1) := by decide +kernel
theorem dX7_ones_17 : decode cX7_ones 17 = .ok (.istore_n 1, 1) := by decide +kernel
theorem dX7_ones_18 : decode cX7_ones 18 = .ok (.iinc 2 1, 3) := by decide +kernel
theorem dX7_ones_21 : decode cX7_ones 21 = .ok (.goto (-17), 3) := by decide +kernel
theorem dX7_ones_24 : decode cX7_ones 24 = .ok (.iload_n 1, 1) := by decide +kernel
theorem dX7_ones_25 : decode cX7_ones 25 = .ok (.ireturn, 1) := by decide +kernel
set_option maxRecDepth 20000 in
theorem ggX7_fell_X7_ones : GoodIn wsX7_fell wsX7_ones := goodIn_r _ [5] (by decide +kernel) (by decide +kernel)
set_option maxRecDepth 20000 in
theorem gX7_fell_X7_ones : GoodIn wsX7_fell (va_wsS RX7 198 yX7_ones wsX7_ones) := goodIn_app (goodIn_of _ (by decide +kernel)) ggX7_fell_X7_ones
set_option maxRecDepth 20000 in
theorem ggX7_fell_X7_dueFor : GoodIn wsX7_fell wsX7_dueFor := goodIn_r _ [9, 1, 10, 11, 12, 4, 13, 14, 15, 16, 17, 18, 19, 20, 21, 22, 23, 24, 25, 26, 27, 28, 29, 30, 31, 32, 33] (by decide +kernel) (by decide +kernel)
set_option maxRecDepth 20000 in
theorem gX7_fell_X7_dueFor : GoodIn wsX7_fell (wsV RX7 164 RX7 yX7_dueFor wsX7_dueFor) := goodIn_app (goodIn_of _ (by decide +kernel)) ggX7_fell_X7_dueFor
theorem dX7_fell_0 : decode cX7_fell 0 = .ok (.iconst 1, 1) := by decide +kernel
theorem dX7_fell_1 : decode cX7_fell 1 = .ok (.aload_n 0, 1) := by decide +kernel
theorem dX7_fell_2 : decode cX7_fell 2 = .ok (.getfield 7, 3) := by decide +kernel
theorem dX7_fell_5 : decode cX7_fell 5 = .ok (.iconst 1, 1) := by decide +kernel
theorem dX7_fell_6 : decode cX7_fell 6 = .ok (.iaload, 1) := by decide +kernel
theorem dX7_fell_7 : decode cX7_fell 7 = .ok (.ishl, 1) := by decide +kernel
theorem dX7_fell_8 : decode cX7_fell 8 = .ok (.iconst 1, 1) := by decide +kernel
theorem dX7_fell_9 : decode cX7_fell 9 = .ok (.isub, 1) := by decide +kernel
theorem dX7_fell_10 : decode cX7_fell 10 = .ok (.istore_n 1, 1) := by decide +kernel
theorem dX7_fell_11 : decode cX7_fell 11 = .ok (.iconst (-1), 1) := by decide +kernel
theorem dX7_fell_12 : decode cX7_fell 12 = .ok (.istore_n 2, 1) := by decide +kernel
theorem dX7_fell_13 : decode cX7_fell 13 = .ok (.iconst 0, 1) := by decide +kernel
theorem dX7_fell_14 : decode cX7_fell 14 = .ok (.istore_n 3, 1) := by decide +kernel
theorem dX7_fell_15 : decode cX7_fell 15 = .ok (.iload_n 3, 1) := by decide +kernel
theorem dX7_fell_16 : decode cX7_fell 16 = .ok (.iload_n 1, 1) := by decide +kernel
theorem dX7_fell_17 : decode cX7_fell 17 = .ok (.if_icmp .gt 89, 3) := by decide +kernel
theorem dX7_fell_20 : decode cX7_fell 20 = .ok (.iload_n 2, 1) := by decide +kernel
theorem dX7_fell_21 : decode cX7_fell 21 = .ok (.iconst (-1), 1) := by decide +kernel
theorem dX7_fell_22 : decode cX7_fell 22 = .ok (.if_icmp .eq 14, 3) := by decide +kernel
theorem dX7_fell_25 : decode cX7_fell 25 = .ok (.iload_n 3, 1) := by decide +kernel
theorem dX7_fell_26 : decode cX7_fell 26 = .ok (.invokestatic 198, 3) := by decide +kernel
theorem dX7_fell_29 : decode cX7_fell 29 = .ok (.iload_n 2, 1) := by decide +kernel
theorem dX7_fell_30 : decode cX7_fell 30 = .ok (.invokestatic 198, 3) := by decide +kernel
theorem dX7_fell_33 : decode cX7_fell 33 = .ok (.if_icmp .ge 7, 3) := by decide +kernel
theorem dX7_fell_36 : decode cX7_fell 36 = .ok (.iconst 1, 1) := by decide +kernel
theorem dX7_fell_37 : decode cX7_fell 37 = .ok (.goto 4, 3) := by decide +kernel
theorem dX7_fell_40 : decode cX7_fell 40 = .ok (.iconst 0, 1) := by decide +kernel
theorem dX7_fell_41 : decode cX7_fell 41 = .ok (.istore 4, 2) := by decide +kernel
theorem dX7_fell_43 : decode cX7_fell 43 = .ok (.iconst 0, 1) := by decide +kernel
theorem dX7_fell_44 : decode cX7_fell 44 = .ok (.istore 5, 2) := by decide +kernel
theorem dX7_fell_46 : decode cX7_fell 46 = .ok (.iload 5, 2) := by decide +kernel
theorem dX7_fell_48 : decode cX7_fell 48 = .ok (.aload_n 0, 1) := by decide +kernel
theorem dX7_fell_49 : decode cX7_fell 49 = .ok (.getfield 7, 3) := by decide +kernel
theorem dX7_fell_52 : decode cX7_fell 52 = .ok (.iconst 2, 1) := by decide +kernel
theorem dX7_fell_53 : decode cX7_fell 53 = .ok (.iaload, 1) := by decide +kernel
theorem dX7_fell_54 : decode cX7_fell 54 = .ok (.if_icmp .ge 35, 3) := by decide +kernel
theorem dX7_fell_57 : decode cX7_fell 57 = .ok (.iload 4, 2) := by decide +kernel
theorem dX7_fell_59 : decode cX7_fell 59 = .ok (.ifCond .eq 30, 3) := by decide +kernel
theorem dX7_fell_62 : decode cX7_fell 62 = .ok (.aload_n 0, 1) := by decide +kernel
theorem dX7_fell_63 : decode cX7_fell 63 = .ok (.iload 5, 2) := by decide +kernel
theorem dX7_fell_65 : decode cX7_fell 65 = .ok (.iload_n 1, 1) := by decide +kernel
theorem dX7_fell_66 : decode cX7_fell 66 = .ok (.iload_n 3, 1) := by decide +kernel
theorem dX7_fell_67 : decode cX7_fell 67 = .ok (.iconst (-1), 1) := by decide +kernel
theorem dX7_fell_68 : decode cX7_fell 68 = .ok (.ixor, 1) := by decide +kernel
theorem dX7_fell_69 : decode cX7_fell 69 = .ok (.iand, 1) := by decide +kernel
theorem dX7_fell_70 : decode cX7_fell 70 = .ok (.invokevirtual 164, 3) := by decide +kernel
theorem dX7_fell_73 : decode cX7_fell 73 = .ok (.ifCond .eq 7, 3) := by decide +kernel
theorem dX7_fell_76 : decode cX7_fell 76 = .ok (.iconst 1, 1) := by decide +kernel
theorem dX7_fell_77 : decode cX7_fell 77 = .ok (.goto 4, 3) := by decide +kernel
theorem dX7_fell_80 : decode cX7_fell 80 = .ok (.iconst 0, 1) := by decide +kernel
theorem dX7_fell_81 : decode cX7_fell 81 = .ok (.istore 4, 2) := by decide +kernel
theorem dX7_fell_83 : decode cX7_fell 83 = .ok (.iinc 5 1, 3) := by decide +kernel
theorem dX7_fell_86 : decode cX7_fell 86 = .ok (.goto (-40), 3) := by decide +kernel
theorem dX7_fell_89 : decode cX7_fell 89 = .ok (.iload 4, 2) := by decide +kernel
theorem dX7_fell_91 : decode cX7_fell 91 = .ok (.ifCond .eq 7, 3) := by decide +kernel
theorem dX7_fell_94 : decode cX7_fell 94 = .ok (.iload_n 3, 1) := by decide +kernel
theorem dX7_fell_95 : decode cX7_fell 95 = .ok (.goto 4, 3) := by decide +kernel
theorem dX7_fell_98 : decode cX7_fell 98 = .ok (.iload_n 2, 1) := by decide +kernel
theorem dX7_fell_99 : decode cX7_fell 99 = .ok (.istore_n 2, 1) := by decide +kernel
theorem dX7_fell_100 : decode cX7_fell 100 = .ok (.iinc 3 1, 3) := by decide +kernel
theorem dX7_fell_103 : decode cX7_fell 103 = .ok (.goto (-88), 3) := by decide +kernel
theorem dX7_fell_106 : decode cX7_fell 106 = .ok (.iload_n 2, 1) := by decide +kernel
theorem dX7_fell_107 : decode cX7_fell 107 = .ok (.ireturn, 1) := by decide +kernel
set_option maxRecDepth 20000 in
theorem ggX7_sign_X7_in : GoodIn wsX7_sign wsX7_in := goodIn_r _ [5] (by decide +kernel) (by decide +kernel)
set_option maxRecDepth 20000 in
theorem gX7_sign_X7_in : GoodIn wsX7_sign (va_wsS RX7 49 yX7_in wsX7_in) := goodIn_app (goodIn_of _ (by decide +kernel)) ggX7_sign_X7_in
set_option maxRecDepth 20000 in
theorem ggX7_sign_X7_bad : GoodIn wsX7_sign wsX7_bad := goodIn_r _ [9, 10, 11, 12, 4, 13, 14, 15, 16, 17, 18, 19, 20, 21, 22, 23, 24, 25, 26, 27, 28, 29, 30] (by decide +kernel) (by decide +kernel)
set_option maxRecDepth 20000 in
theorem gX7_sign_X7_bad : GoodIn wsX7_sign (wsV RX7 63 RX7 yX7_bad wsX7_bad) := goodIn_app (goodIn_of _ (by decide +kernel)) ggX7_sign_X7_bad
set_option maxRecDepth 20000 in
theorem ggX7_sign_X7_refuses : GoodIn wsX7_sign wsX7_refuses := goodIn_r _ [13, 14, 15, 16, 17, 18, 19, 20, 21, 22, 23, 24, 25, 26, 27, 28, 29, 30] (by decide +kernel) (by decide +kernel)
set_option maxRecDepth 20000 in
theorem gX7_sign_X7_refuses : GoodIn wsX7_sign (wsV RX7 45 RX7 yX7_refuses wsX7_refuses) := goodIn_app (goodIn_of _ (by decide +kernel)) ggX7_sign_X7_refuses
theorem dX7_sign_0 : decode cX7_sign 0 = .ok (.iload_n 1, 1) := by decide +kernel
theorem dX7_sign_1 : decode cX7_sign 1 = .ok (.iconst 1, 1) := by decide +kernel
theorem dX7_sign_2 : decode cX7_sign 2 = .ok (.sipush 255, 3) := by decide +kernel
theorem dX7_sign_5 : decode cX7_sign 5 = .ok (.invokestatic 49, 3) := by decide +kernel
theorem dX7_sign_8 : decode cX7_sign 8 = .ok (.istore_n 2, 1) := by decide +kernel
theorem dX7_sign_9 : decode cX7_sign 9 = .ok (.iconst 0, 1) := by decide +kernel
theorem dX7_sign_10 : decode cX7_sign 10 = .ok (.istore_n 3, 1) := by decide +kernel
theorem dX7_sign_11 : decode cX7_sign 11 = .ok (.iload_n 3, 1) := by decide +kernel
theorem dX7_sign_12 : decode cX7_sign 12 = .ok (.aload_n 0, 1) := by decide +kernel
theorem dX7_sign_13 : decode cX7_sign 13 = .ok (.getfield 7, 3) := by decide +kernel
theorem dX7_sign_16 : decode cX7_sign 16 = .ok (.iconst 3, 1) := by decide +kernel
theorem dX7_sign_17 : decode cX7_sign 17 = .ok (.iaload, 1) := by decide +kernel
theorem dX7_sign_18 : decode cX7_sign 18 = .ok (.if_icmp .ge 32, 3) := by decide +kernel
theorem dX7_sign_21 : decode cX7_sign 21 = .ok (.iload_n 2, 1) := by decide +kernel
theorem dX7_sign_22 : decode cX7_sign 22 = .ok (.ifCond .eq 20, 3) := by decide +kernel
theorem dX7_sign_25 : decode cX7_sign 25 = .ok (.aload_n 0, 1) := by decide +kernel
theorem dX7_sign_26 : decode cX7_sign 26 = .ok (.getfield 7, 3) := by decide +kernel
theorem dX7_sign_29 : decode cX7_sign 29 = .ok (.bipush 98, 2) := by decide +kernel
theorem dX7_sign_31 : decode cX7_sign 31 = .ok (.iload_n 3, 1) := by decide +kernel
theorem dX7_sign_32 : decode cX7_sign 32 = .ok (.iadd, 1) := by decide +kernel
theorem dX7_sign_33 : decode cX7_sign 33 = .ok (.iaload, 1) := by decide +kernel
theorem dX7_sign_34 : decode cX7_sign 34 = .ok (.iload_n 1, 1) := by decide +kernel
theorem dX7_sign_35 : decode cX7_sign 35 = .ok (.if_icmp .eq 7, 3) := by decide +kernel
theorem dX7_sign_38 : decode cX7_sign 38 = .ok (.iconst 1, 1) := by decide +kernel
theorem dX7_sign_39 : decode cX7_sign 39 = .ok (.goto 4, 3) := by decide +kernel
theorem dX7_sign_42 : decode cX7_sign 42 = .ok (.iconst 0, 1) := by decide +kernel
theorem dX7_sign_43 : decode cX7_sign 43 = .ok (.istore_n 2, 1) := by decide +kernel
theorem dX7_sign_44 : decode cX7_sign 44 = .ok (.iinc 3 1, 3) := by decide +kernel
theorem dX7_sign_47 : decode cX7_sign 47 = .ok (.goto (-36), 3) := by decide +kernel
theorem dX7_sign_50 : decode cX7_sign 50 = .ok (.iload_n 2, 1) := by decide +kernel
theorem dX7_sign_51 : decode cX7_sign 51 = .ok (.ifCond .ne 8, 3) := by decide +kernel
theorem dX7_sign_54 : decode cX7_sign 54 = .ok (.aload_n 0, 1) := by decide +kernel
theorem dX7_sign_55 : decode cX7_sign 55 = .ok (.invokevirtual 63, 3) := by decide +kernel
theorem dX7_sign_58 : decode cX7_sign 58 = .ok (.ireturn, 1) := by decide +kernel
theorem dX7_sign_59 : decode cX7_sign 59 = .ok (.aload_n 0, 1) := by decide +kernel
theorem dX7_sign_60 : decode cX7_sign 60 = .ok (.getfield 7, 3) := by decide +kernel
theorem dX7_sign_63 : decode cX7_sign 63 = .ok (.iconst 3, 1) := by decide +kernel
theorem dX7_sign_64 : decode cX7_sign 64 = .ok (.iaload, 1) := by decide +kernel
theorem dX7_sign_65 : decode cX7_sign 65 = .ok (.bipush 6, 2) := by decide +kernel
theorem dX7_sign_67 : decode cX7_sign 67 = .ok (.if_icmp .ne 11, 3) := by decide +kernel
theorem dX7_sign_70 : decode cX7_sign 70 = .ok (.aload_n 0, 1) := by decide +kernel
theorem dX7_sign_71 : decode cX7_sign 71 = .ok (.iconst 2, 1) := by decide +kernel
theorem dX7_sign_72 : decode cX7_sign 72 = .ok (.bipush (-4), 2) := by decide +kernel
theorem dX7_sign_74 : decode cX7_sign 74 = .ok (.invokevirtual 45, 3) := by decide +kernel
theorem dX7_sign_77 : decode cX7_sign 77 = .ok (.ireturn, 1) := by decide +kernel
theorem dX7_sign_78 : decode cX7_sign 78 = .ok (.aload_n 0, 1) := by decide +kernel
theorem dX7_sign_79 : decode cX7_sign 79 = .ok (.getfield 7, 3) := by decide +kernel
theorem dX7_sign_82 : decode cX7_sign 82 = .ok (.bipush 98, 2) := by decide +kernel
theorem dX7_sign_84 : decode cX7_sign 84 = .ok (.aload_n 0, 1) := by decide +kernel
theorem dX7_sign_85 : decode cX7_sign 85 = .ok (.getfield 7, 3) := by decide +kernel
theorem dX7_sign_88 : decode cX7_sign 88 = .ok (.iconst 3, 1) := by decide +kernel
theorem dX7_sign_89 : decode cX7_sign 89 = .ok (.iaload, 1) := by decide +kernel
theorem dX7_sign_90 : decode cX7_sign 90 = .ok (.iadd, 1) := by decide +kernel
theorem dX7_sign_91 : decode cX7_sign 91 = .ok (.iload_n 1, 1) := by decide +kernel
theorem dX7_sign_92 : decode cX7_sign 92 = .ok (.iastore, 1) := by decide +kernel
theorem dX7_sign_93 : decode cX7_sign 93 = .ok (.aload_n 0, 1) := by decide +kernel
theorem dX7_sign_94 : decode cX7_sign 94 = .ok (.getfield 7, 3) := by decide +kernel
theorem dX7_sign_97 : decode cX7_sign 97 = .ok (.iconst 3, 1) := by decide +kernel
theorem dX7_sign_98 : decode cX7_sign 98 = .ok (.dup2, 1) := by decide +kernel
theorem dX7_sign_99 : decode cX7_sign 99 = .ok (.iaload, 1) := by decide +kernel
theorem dX7_sign_100 : decode cX7_sign 100 = .ok (.iconst 1, 1) := by decide +kernel
theorem dX7_sign_101 : decode cX7_sign 101 = .ok (.iadd, 1) := by decide +kernel
theorem dX7_sign_102 : decode cX7_sign 102 = .ok (.iastore, 1) := by decide +kernel
theorem dX7_sign_103 : decode cX7_sign 103 = .ok (.aload_n 0, 1) := by decide +kernel
theorem dX7_sign_104 : decode cX7_sign 104 = .ok (.getfield 7, 3) := by decide +kernel
theorem dX7_sign_107 : decode cX7_sign 107 = .ok (.iconst 3, 1) := by decide +kernel
theorem dX7_sign_108 : decode cX7_sign 108 = .ok (.iaload, 1) := by decide +kernel
theorem dX7_sign_109 : decode cX7_sign 109 = .ok (.iconst 1, 1) := by decide +kernel
theorem dX7_sign_110 : decode cX7_sign 110 = .ok (.isub, 1) := by decide +kernel
theorem dX7_sign_111 : decode cX7_sign 111 = .ok (.ireturn, 1) := by decide +kernel
theorem dX7_clearSigns_0 : decode cX7_clearSigns 0 = .ok (.aload_n 0, 1) := by decide +kernel
theorem dX7_clearSigns_1 : decode cX7_clearSigns 1 = .ok (.getfield 7, 3) := by decide +kernel
theorem dX7_clearSigns_4 : decode cX7_clearSigns 4 = .ok (.iconst 3, 1) := by decide +kernel
theorem dX7_clearSigns_5 : decode cX7_clearSigns 5 = .ok (.iaload, 1) := by decide +kernel
theorem dX7_clearSigns_6 : decode cX7_clearSigns 6 = .ok (.istore_n 1, 1) := by decide +kernel
theorem dX7_clearSigns_7 : decode cX7_clearSigns 7 = .ok (.iconst 0, 1) := by decide +kernel
theorem dX7_clearSigns_8 : decode cX7_clearSigns 8 = .ok (.istore_n 2, 1) := by decide +kernel
theorem dX7_clearSigns_9 : decode cX7_clearSigns 9 = .ok (.iload_n 2, 1) := by decide +kernel
theorem dX7_clearSigns_10 : decode cX7_clearSigns 10 = .ok (.bipush 24, 2) := by decide +kernel
theorem dX7_clearSigns_12 : decode cX7_clearSigns 12 = .ok (.iload_n 1, 1) := by decide +kernel
theorem dX7_clearSigns_13 : decode cX7_clearSigns 13 = .ok (.imul, 1) := by decide +kernel
theorem dX7_clearSigns_14 : decode cX7_clearSigns 14 = .ok (.iload_n 1, 1) := by decide +kernel
theorem dX7_clearSigns_15 : decode cX7_clearSigns 15 = .ok (.imul, 1) := by decide +kernel
theorem dX7_clearSigns_16 : decode cX7_clearSigns 16 = .ok (.if_icmp .ge 122, 3) := by decide +kernel
theorem dX7_clearSigns_19 : decode cX7_clearSigns 19 = .ok (.iload_n 2, 1) := by decide +kernel
theorem dX7_clearSigns_20 : decode cX7_clearSigns 20 = .ok (.bipush 24, 2) := by decide +kernel
theorem dX7_clearSigns_22 : decode cX7_clearSigns 22 = .ok (.iload_n 1, 1) := by decide +kernel
theorem dX7_clearSigns_23 : decode cX7_clearSigns 23 = .ok (.imul, 1) := by decide +kernel
theorem dX7_clearSigns_24 : decode cX7_clearSigns 24 = .ok (.idiv, 1) := by decide +kernel
theorem dX7_clearSigns_25 : decode cX7_clearSigns 25 = .ok (.istore_n 3, 1) := by decide +kernel
theorem dX7_clearSigns_26 : decode cX7_clearSigns 26 = .ok (.iload_n 2, 1) := by decide +kernel
theorem dX7_clearSigns_27 : decode cX7_clearSigns 27 = .ok (.bipush 24, 2) := by decide +kernel
theorem dX7_clearSigns_29 : decode cX7_clearSigns 29 = .ok (.idiv, 1) := by decide +kernel
theorem dX7_clearSigns_30 : decode cX7_clearSigns 30 = .ok (.iload_n 1, 1) := by decide +kernel
theorem dX7_clearSigns_31 : decode cX7_clearSigns 31 = .ok (.irem, 1) := by decide +kernel
theorem dX7_clearSigns_32 : decode cX7_clearSigns 32 = .ok (.istore 4, 2) := by decide +kernel
theorem dX7_clearSigns_34 : decode cX7_clearSigns 34 = .ok (.iload_n 2, 1) := by decide +kernel
theorem dX7_clearSigns_35 : decode cX7_clearSigns 35 = .ok (.bipush 6, 2) := by decide +kernel
theorem dX7_clearSigns_37 : decode cX7_clearSigns 37 = .ok (.idiv, 1) := by decide +kernel
theorem dX7_clearSigns_38 : decode cX7_clearSigns 38 = .ok (.iconst 4, 1) := by decide +kernel
theorem dX7_clearSigns_39 : decode cX7_clearSigns 39 = .ok (.irem, 1) := by decide +kernel
theorem dX7_clearSigns_40 : decode cX7_clearSigns 40 = .ok (.istore 5, 2) := by decide +kernel
theorem dX7_clearSigns_42 : decode cX7_clearSigns 42 = .ok (.iload_n 2, 1) := by decide +kernel
theorem dX7_clearSigns_43 : decode cX7_clearSigns 43 = .ok (.bipush 6, 2) := by decide +kernel
theorem dX7_clearSigns_45 : decode cX7_clearSigns 45 = .ok (.irem, 1) := by decide +kernel
theorem dX7_clearSigns_46 : decode cX7_clearSigns 46 = .ok (.istore 6, 2) := by decide +kernel
theorem dX7_clearSigns_48 : decode cX7_clearSigns 48 = .ok (.aload_n 0, 1) := by decide +kernel
theorem dX7_clearSigns_49 : decode cX7_clearSigns 49 = .ok (.getfield 7, 3) := by decide +kernel
theorem dX7_clearSigns_52 : decode cX7_clearSigns 52 = .ok (.bipush 98, 2) := by decide +kernel
theorem dX7_clearSigns_54 : decode cX7_clearSigns 54 = .ok (.iload_n 3, 1) := by decide +kernel
theorem dX7_clearSigns_55 : decode cX7_clearSigns 55 = .ok (.iadd, 1) := by decide +kernel
theorem dX7_clearSigns_56 : decode cX7_clearSigns 56 = .ok (.iaload, 1) := by decide +kernel
theorem dX7_clearSigns_57 : decode cX7_clearSigns 57 = .ok (.aload_n 0, 1) := by decide +kernel
theorem dX7_clearSigns_58 : decode cX7_clearSigns 58 = .ok (.getfield 7, 3) := by decide +kernel
theorem dX7_clearSigns_61 : decode cX7_clearSigns 61 = .ok (.bipush 98, 2) := by decide +kernel
theorem dX7_clearSigns_63 : decode cX7_clearSigns 63 = .ok (.iload 4, 2) := by decide +kernel
theorem dX7_clearSigns_65 : decode cX7_clearSigns 65 = .ok (.iadd, 1) := by decide +kernel
theorem dX7_clearSigns_66 : decode cX7_clearSigns 66 = .ok (.iaload, 1) := by decide +kernel
theorem dX7_clearSigns_67 : decode cX7_clearSigns 67 = .ok (.iload 5, 2) := by decide +kernel
theorem dX7_clearSigns_69 : decode cX7_clearSigns 69 = .ok (.ishl, 1) := by decide +kernel
theorem dX7_clearSigns_70 : decode cX7_clearSigns 70 = .ok (.ior, 1) := by decide +kernel
theorem dX7_clearSigns_71 : decode cX7_clearSigns 71 = .ok (.sipush 255, 3) := by decide +kernel
theorem dX7_clearSigns_74 : decode cX7_clearSigns 74 = .ok (.iand, 1) := by decide +kernel
theorem dX7_clearSigns_75 : decode cX7_clearSigns 75 = .ok (.istore 7, 2) := by decide +kernel
theorem dX7_clearSigns_77 : decode cX7_clearSigns 77 = .ok (.iload 6, 2) := by decide +kernel
theorem dX7_clearSigns_79 : decode cX7_clearSigns 79 = .ok (.iload_n 1, 1) := by decide +kernel
theorem dX7_clearSigns_80 : decode cX7_clearSigns 80 = .ok (.if_icmp .ge 52, 3) := by decide +kernel
theorem dX7_clearSigns_83 : decode cX7_clearSigns 83 = .ok (.iload 6, 2) := by decide +kernel
theorem dX7_clearSigns_85 : decode cX7_clearSigns 85 = .ok (.iload_n 3, 1) := by decide +kernel
theorem dX7_clearSigns_86 : decode cX7_clearSigns 86 = .ok (.if_icmp .eq 46, 3) := by decide +kernel
theorem dX7_clearSigns_89 : decode cX7_clearSigns 89 = .ok (.iload 6, 2) := by decide +kernel
theorem dX7_clearSigns_91 : decode cX7_clearSigns 91 = .ok (.iload 4, 2) := by decide +kernel
theorem dX7_clearSigns_93 : decode cX7_clearSigns 93 = .ok (.if_icmp .eq 39, 3) := by decide +kernel
theorem dX7_clearSigns_96 : decode cX7_clearSigns 96 = .ok (.aload_n 0, 1) := by decide +kernel
theorem dX7_clearSigns_97 : decode cX7_clearSigns 97 = .ok (.getfield 7, 3) := by decide +kernel
theorem dX7_clearSigns_100 : decode cX7_clearSigns 100 = .ok (.bipush 98, 2) := by decide +kernel
theorem dX7_clearSigns_102 : decode cX7_clearSigns 102 = .ok (.iload 6, 2) := by decide +kernel
theorem dX7_clearSigns_104 : decode cX7_clearSigns 104 = .ok (.iadd, 1) := by decide +kernel
theorem dX7_clearSigns_105 : decode cX7_clearSigns 105 = .ok (.iaload, 1) := by decide +kernel
theorem dX7_clearSigns_106 : decode cX7_clearSigns 106 = .ok (.iload 7, 2) := by decide +kernel
theorem dX7_clearSigns_108 : decode cX7_clearSigns 108 = .ok (.if_icmp .ne 24, 3) := by decide +kernel
theorem dX7_clearSigns_111 : decode cX7_clearSigns 111 = .ok (.sipush 1000, 3) := by decide +kernel
theorem dX7_clearSigns_114 : decode cX7_clearSigns 114 = .ok (.iload_n 3, 1) := by decide +kernel
theorem dX7_clearSigns_115 : decode cX7_clearSigns 115 = .ok (.imul, 1) := by decide +kernel
theorem dX7_clearSigns_116 : decode cX7_clearSigns 116 = .ok (.bipush 100, 2) := by decide +kernel
theorem dX7_clearSigns_118 : decode cX7_clearSigns 118 = .ok (.iload 4, 2) := by decide +kernel
theorem dX7_clearSigns_120 : decode cX7_clearSigns 120 = .ok (.imul, 1) := by decide +kernel
theorem dX7_clearSigns_121 : decode cX7_clearSigns 121 = .ok (.iadd, 1) := by decide +kernel
theorem dX7_clearSigns_122 : decode cX7_clearSigns 122 = .ok (.bipush 10, 2) := by decide +kernel
theorem dX7_clearSigns_124 : decode cX7_clearSigns 124 = .ok (.iload 5, 2) := by decide +kernel
theorem dX7_clearSigns_126 : decode cX7_clearSigns 126 = .ok (.imul, 1) := by decide +kernel
theorem dX7_clearSigns_127 : decode cX7_clearSigns 127 = .ok (.iadd, 1) := by decide +kernel
theorem dX7_clearSigns_128 : decode cX7_clearSigns 128 = .ok (.iload 6, 2) := by decide +kernel
theorem dX7_clearSigns_130 : decode cX7_clearSigns 130 = .ok (.iadd, 1) := by decide +kernel
theorem dX7_clearSigns_131 : decode cX7_clearSigns 131 = .ok (.ireturn, 1) := by decide +kernel
theorem dX7_clearSigns_132 : decode cX7_clearSigns 132 = .ok (.iinc 2 1, 3) := by decide +kernel
theorem dX7_clearSigns_135 : decode cX7_clearSigns 135 = .ok (.goto (-126), 3) := by decide +kernel
theorem dX7_clearSigns_138 : decode cX7_clearSigns 138 = .ok (.iconst (-1), 1) := by decide +kernel
theorem dX7_clearSigns_139 : decode cX7_clearSigns 139 = .ok (.ireturn, 1) := by decide +kernel
set_option maxRecDepth 20000 in
theorem ggX7_bells_X7_hall : GoodIn wsX7_bells wsX7_hall := goodIn_r _ [6, 7, 8, 9, 5, 10, 1, 11, 12, 13, 14, 15, 16, 17, 18, 19, 20, 21, 22, 23, 24, 25, 26] (by decide +kernel) (by decide +kernel)
set_option maxRecDepth 20000 in
theorem gX7_bells_X7_hall : GoodIn wsX7_bells (wsV RX7 91 RX7 yX7_hall wsX7_hall) := goodIn_app (goodIn_of _ (by decide +kernel)) ggX7_bells_X7_hall
theorem dX7_bells_0 : decode cX7_bells 0 = .ok (.iconst 0, 1) := by decide +kernel
theorem dX7_bells_1 : decode cX7_bells 1 = .ok (.istore 4, 2) := by decide +kernel
theorem dX7_bells_3 : decode cX7_bells 3 = .ok (.iconst 0, 1) := by decide +kernel
theorem dX7_bells_4 : decode cX7_bells 4 = .ok (.istore 5, 2) := by decide +kernel
theorem dX7_bells_6 : decode cX7_bells 6 = .ok (.iload 5, 2) := by decide +kernel
theorem dX7_bells_8 : decode cX7_bells 8 = .ok (.aload_n 0, 1) := by decide +kernel
theorem dX7_bells_9 : decode cX7_bells 9 = .ok (.getfield 7, 3) := by decide +kernel
theorem dX7_bells_12 : decode cX7_bells 12 = .ok (.iconst 0, 1) := by decide +kernel
theorem dX7_bells_13 : decode cX7_bells 13 = .ok (.iaload, 1) := by decide +kernel
theorem dX7_bells_14 : decode cX7_bells 14 = .ok (.if_icmp .ge 47, 3) := by decide +kernel
theorem dX7_bells_17 : decode cX7_bells 17 = .ok (.aload_n 0, 1) := by decide +kernel
theorem dX7_bells_18 : decode cX7_bells 18 = .ok (.iload 5, 2) := by decide +kernel
theorem dX7_bells_20 : decode cX7_bells 20 = .ok (.iload_n 1, 1) := by decide +kernel
theorem dX7_bells_21 : decode cX7_bells 21 = .ok (.invokevirtual 91, 3) := by decide +kernel
theorem dX7_bells_24 : decode cX7_bells 24 = .ok (.istore 6, 2) := by decide +kernel
theorem dX7_bells_26 : decode cX7_bells 26 = .ok (.iload 4, 2) := by decide +kernel
theorem dX7_bells_28 : decode cX7_bells 28 = .ok (.iload_n 2, 1) := by decide +kernel
theorem dX7_bells_29 : decode cX7_bells 29 = .ok (.iload 6, 2) := by decide +kernel
theorem dX7_bells_31 : decode cX7_bells 31 = .ok (.iconst (-1), 1) := by decide +kernel
theorem dX7_bells_32 : decode cX7_bells 32 = .ok (.ixor, 1) := by decide +kernel
theorem dX7_bells_33 : decode cX7_bells 33 = .ok (.iand, 1) := by decide +kernel
theorem dX7_bells_34 : decode cX7_bells 34 = .ok (.ifCond .ne 17, 3) := by decide +kernel
theorem dX7_bells_37 : decode cX7_bells 37 = .ok (.iload_n 3, 1) := by decide +kernel
theorem dX7_bells_38 : decode cX7_bells 38 = .ok (.iload 6, 2) := by decide +kernel
theorem dX7_bells_40 : decode cX7_bells 40 = .ok (.iand, 1) := by decide +kernel
theorem dX7_bells_41 : decode cX7_bells 41 = .ok (.ifCond .ne 10, 3) := by decide +kernel
theorem dX7_bells_44 : decode cX7_bells 44 = .ok (.iconst 1, 1) := by decide +kernel
theorem dX7_bells_45 : decode cX7_bells 45 = .ok (.iload 5, 2) := by decide +kernel
theorem dX7_bells_47 : decode cX7_bells 47 = .ok (.ishl, 1) := by decide +kernel
theorem dX7_bells_48 : decode cX7_bells 48 = .ok (.goto 4, 3) := by decide +kernel
theorem dX7_bells_51 : decode cX7_bells 51 = .ok (.iconst 0, 1) := by decide +kernel
theorem dX7_bells_52 : decode cX7_bells 52 = .ok (.ior, 1) := by decide +kernel
theorem dX7_bells_53 : decode cX7_bells 53 = .ok (.istore 4, 2) := by decide +kernel
theorem dX7_bells_55 : decode cX7_bells 55 = .ok (.iinc 5 1, 3) := by decide +kernel
theorem dX7_bells_58 : decode cX7_bells 58 = .ok (.goto (-52), 3) := by decide +kernel
theorem dX7_bells_61 : decode cX7_bells 61 = .ok (.iload 4, 2) := by decide +kernel
theorem dX7_bells_63 : decode cX7_bells 63 = .ok (.ireturn, 1) := by decide +kernel
