set_option maxRecDepth 20000 in
theorem ggX3_knowAfterRound_X6_has : GoodIn wsX3_knowAfterRound wsX6_has := goodIn_r _ [5] (by decide +kernel) (by decide +kernel)
set_option maxRecDepth 20000 in
theorem gX3_knowAfterRound_X6_has_n84 : GoodIn wsX3_knowAfterRound (wsX6_has) := ggX3_knowAfterRound_X6_has
set_option maxRecDepth 20000 in
theorem ggX3_knowAfterRound_X3_heardIn : GoodIn wsX3_knowAfterRound wsX3_heardIn := goodIn_r _ [10, 11, 12, 13, 14, 15, 16, 17, 18, 19, 20, 21, 22, 23, 24, 25, 26, 27] (by decide +kernel) (by decide +kernel)
set_option maxRecDepth 20000 in
theorem gX3_knowAfterRound_X3_heardIn : GoodIn wsX3_knowAfterRound (wsV RX3 94 RX3 yX3_heardIn wsX3_heardIn) := goodIn_app (goodIn_of _ (by decide +kernel)) ggX3_knowAfterRound_X3_heardIn
theorem dX3_knowAfterRound_0 : decode cX3_knowAfterRound 0 = .ok (.iload_n 1, 1) := by decide +kernel
theorem dX3_knowAfterRound_1 : decode cX3_knowAfterRound 1 = .ok (.istore_n 3, 1) := by decide +kernel
theorem dX3_knowAfterRound_2 : decode cX3_knowAfterRound 2 = .ok (.iconst 0, 1) := by decide +kernel
theorem dX3_knowAfterRound_3 : decode cX3_knowAfterRound 3 = .ok (.istore 4, 2) := by decide +kernel
theorem dX3_knowAfterRound_5 : decode cX3_knowAfterRound 5 = .ok (.iload 4, 2) := by decide +kernel
theorem dX3_knowAfterRound_7 : decode cX3_knowAfterRound 7 = .ok (.aload_n 0, 1) := by decide +kernel
theorem dX3_knowAfterRound_8 : decode cX3_knowAfterRound 8 = .ok (.getfield 49, 3) := by decide +kernel
theorem dX3_knowAfterRound_11 : decode cX3_knowAfterRound 11 = .ok (.if_icmp .ge 33, 3) := by decide +kernel
theorem dX3_knowAfterRound_14 : decode cX3_knowAfterRound 14 = .ok (.iload_n 1, 1) := by decide +kernel
theorem dX3_knowAfterRound_15 : decode cX3_knowAfterRound 15 = .ok (.aload_n 0, 1) := by decide +kernel
theorem dX3_knowAfterRound_16 : decode cX3_knowAfterRound 16 = .ok (.getfield 18, 3) := by decide +kernel
theorem dX3_knowAfterRound_19 : decode cX3_knowAfterRound 19 = .ok (.iload 4, 2) := by decide +kernel
theorem dX3_knowAfterRound_21 : decode cX3_knowAfterRound 21 = .ok (.iaload, 1) := by decide +kernel
theorem dX3_knowAfterRound_22 : decode cX3_knowAfterRound 22 = .ok (.invokestatic 84, 3) := by decide +kernel
theorem dX3_knowAfterRound_25 : decode cX3_knowAfterRound 25 = .ok (.ifCond .eq 13, 3) := by decide +kernel
theorem dX3_knowAfterRound_28 : decode cX3_knowAfterRound 28 = .ok (.iload_n 3, 1) := by decide +kernel
theorem dX3_knowAfterRound_29 : decode cX3_knowAfterRound 29 = .ok (.aload_n 0, 1) := by decide +kernel
theorem dX3_knowAfterRound_30 : decode cX3_knowAfterRound 30 = .ok (.iload 4, 2) := by decide +kernel
theorem dX3_knowAfterRound_32 : decode cX3_knowAfterRound 32 = .ok (.iload_n 2, 1) := by decide +kernel
theorem dX3_knowAfterRound_33 : decode cX3_knowAfterRound 33 = .ok (.invokevirtual 94, 3) := by decide +kernel
theorem dX3_knowAfterRound_36 : decode cX3_knowAfterRound 36 = .ok (.ior, 1) := by decide +kernel
theorem dX3_knowAfterRound_37 : decode cX3_knowAfterRound 37 = .ok (.istore_n 3, 1) := by decide +kernel
theorem dX3_knowAfterRound_38 : decode cX3_knowAfterRound 38 = .ok (.iinc 4 1, 3) := by decide +kernel
theorem dX3_knowAfterRound_41 : decode cX3_knowAfterRound 41 = .ok (.goto (-36), 3) := by decide +kernel
theorem dX3_knowAfterRound_44 : decode cX3_knowAfterRound 44 = .ok (.iload_n 3, 1) := by decide +kernel
theorem dX3_knowAfterRound_45 : decode cX3_knowAfterRound 45 = .ok (.ireturn, 1) := by decide +kernel
set_option maxRecDepth 20000 in
theorem ggX3_canCome_X6_isWind : GoodIn wsX3_canCome wsX6_isWind := goodIn_r _ [3] (by decide +kernel) (by decide +kernel)
set_option maxRecDepth 20000 in
theorem gX3_canCome_X6_isWind_n81 : GoodIn wsX3_canCome (wsX6_isWind) := ggX3_canCome_X6_isWind
set_option maxRecDepth 20000 in
theorem ggX3_canCome_X3_areBits : GoodIn wsX3_canCome wsX3_areBits := goodIn_r _ [8, 9, 10, 11, 12, 13, 14, 15, 16, 17, 18, 19, 20, 21, 22, 23, 24] (by decide +kernel) (by decide +kernel)
set_option maxRecDepth 20000 in
theorem gX3_canCome_X3_areBits : GoodIn wsX3_canCome (wsV RX3 87 RX3 yX3_areBits wsX3_areBits) := goodIn_app (goodIn_of _ (by decide +kernel)) ggX3_canCome_X3_areBits
theorem dX3_canCome_0 : decode cX3_canCome 0 = .ok (.iload_n 1, 1) := by decide +kernel
theorem dX3_canCome_1 : decode cX3_canCome 1 = .ok (.invokestatic 81, 3) := by decide +kernel
theorem dX3_canCome_4 : decode cX3_canCome 4 = .ok (.ifCond .eq 29, 3) := by decide +kernel
theorem dX3_canCome_7 : decode cX3_canCome 7 = .ok (.aload_n 0, 1) := by decide +kernel
theorem dX3_canCome_8 : decode cX3_canCome 8 = .ok (.iload_n 2, 1) := by decide +kernel
theorem dX3_canCome_9 : decode cX3_canCome 9 = .ok (.invokevirtual 87, 3) := by decide +kernel
theorem dX3_canCome_12 : decode cX3_canCome 12 = .ok (.ifCond .eq 21, 3) := by decide +kernel
theorem dX3_canCome_15 : decode cX3_canCome 15 = .ok (.aload_n 0, 1) := by decide +kernel
theorem dX3_canCome_16 : decode cX3_canCome 16 = .ok (.iload_n 3, 1) := by decide +kernel
theorem dX3_canCome_17 : decode cX3_canCome 17 = .ok (.invokevirtual 87, 3) := by decide +kernel
theorem dX3_canCome_20 : decode cX3_canCome 20 = .ok (.ifCond .eq 13, 3) := by decide +kernel
theorem dX3_canCome_23 : decode cX3_canCome 23 = .ok (.iload_n 2, 1) := by decide +kernel
theorem dX3_canCome_24 : decode cX3_canCome 24 = .ok (.iload_n 3, 1) := by decide +kernel
theorem dX3_canCome_25 : decode cX3_canCome 25 = .ok (.iand, 1) := by decide +kernel
theorem dX3_canCome_26 : decode cX3_canCome 26 = .ok (.ifCond .ne 7, 3) := by decide +kernel
theorem dX3_canCome_29 : decode cX3_canCome 29 = .ok (.iconst 1, 1) := by decide +kernel
theorem dX3_canCome_30 : decode cX3_canCome 30 = .ok (.goto 4, 3) := by decide +kernel
theorem dX3_canCome_33 : decode cX3_canCome 33 = .ok (.iconst 0, 1) := by decide +kernel
theorem dX3_canCome_34 : decode cX3_canCome 34 = .ok (.ireturn, 1) := by decide +kernel
set_option maxRecDepth 20000 in
theorem ggX3_bellsFrom_X3_heardIn : GoodIn wsX3_bellsFrom wsX3_heardIn := goodIn_r _ [6, 7, 8, 9, 10, 11, 12, 13, 14, 15, 16, 17, 18, 19, 20, 21, 22, 23] (by decide +kernel) (by decide +kernel)
set_option maxRecDepth 20000 in
theorem gX3_bellsFrom_X3_heardIn : GoodIn wsX3_bellsFrom (wsV RX3 94 RX3 yX3_heardIn wsX3_heardIn) := goodIn_app (goodIn_of _ (by decide +kernel)) ggX3_bellsFrom_X3_heardIn
theorem dX3_bellsFrom_0 : decode cX3_bellsFrom 0 = .ok (.iconst 0, 1) := by decide +kernel
theorem dX3_bellsFrom_1 : decode cX3_bellsFrom 1 = .ok (.istore 4, 2) := by decide +kernel
theorem dX3_bellsFrom_3 : decode cX3_bellsFrom 3 = .ok (.iconst 0, 1) := by decide +kernel
theorem dX3_bellsFrom_4 : decode cX3_bellsFrom 4 = .ok (.istore 5, 2) := by decide +kernel
theorem dX3_bellsFrom_6 : decode cX3_bellsFrom 6 = .ok (.iload 5, 2) := by decide +kernel
theorem dX3_bellsFrom_8 : decode cX3_bellsFrom 8 = .ok (.aload_n 0, 1) := by decide +kernel
theorem dX3_bellsFrom_9 : decode cX3_bellsFrom 9 = .ok (.getfield 49, 3) := by decide +kernel
theorem dX3_bellsFrom_12 : decode cX3_bellsFrom 12 = .ok (.if_icmp .ge 42, 3) := by decide +kernel
theorem dX3_bellsFrom_15 : decode cX3_bellsFrom 15 = .ok (.aload_n 0, 1) := by decide +kernel
theorem dX3_bellsFrom_16 : decode cX3_bellsFrom 16 = .ok (.iload 5, 2) := by decide +kernel
theorem dX3_bellsFrom_18 : decode cX3_bellsFrom 18 = .ok (.iload_n 1, 1) := by decide +kernel
theorem dX3_bellsFrom_19 : decode cX3_bellsFrom 19 = .ok (.invokevirtual 94, 3) := by decide +kernel
theorem dX3_bellsFrom_22 : decode cX3_bellsFrom 22 = .ok (.istore 6, 2) := by decide +kernel
theorem dX3_bellsFrom_24 : decode cX3_bellsFrom 24 = .ok (.iload 6, 2) := by decide +kernel
theorem dX3_bellsFrom_26 : decode cX3_bellsFrom 26 = .ok (.iload_n 2, 1) := by decide +kernel
theorem dX3_bellsFrom_27 : decode cX3_bellsFrom 27 = .ok (.iand, 1) := by decide +kernel
theorem dX3_bellsFrom_28 : decode cX3_bellsFrom 28 = .ok (.iload_n 2, 1) := by decide +kernel
theorem dX3_bellsFrom_29 : decode cX3_bellsFrom 29 = .ok (.if_icmp .ne 19, 3) := by decide +kernel
theorem dX3_bellsFrom_32 : decode cX3_bellsFrom 32 = .ok (.iload 6, 2) := by decide +kernel
theorem dX3_bellsFrom_34 : decode cX3_bellsFrom 34 = .ok (.iload_n 3, 1) := by decide +kernel
theorem dX3_bellsFrom_35 : decode cX3_bellsFrom 35 = .ok (.iand, 1) := by decide +kernel
theorem dX3_bellsFrom_36 : decode cX3_bellsFrom 36 = .ok (.ifCond .ne 12, 3) := by decide +kernel
theorem dX3_bellsFrom_39 : decode cX3_bellsFrom 39 = .ok (.iload 4, 2) := by decide +kernel
theorem dX3_bellsFrom_41 : decode cX3_bellsFrom 41 = .ok (.iconst 1, 1) := by decide +kernel
theorem dX3_bellsFrom_42 : decode cX3_bellsFrom 42 = .ok (.iload 5, 2) := by decide +kernel
theorem dX3_bellsFrom_44 : decode cX3_bellsFrom 44 = .ok (.ishl, 1) := by decide +kernel
theorem dX3_bellsFrom_45 : decode cX3_bellsFrom 45 = .ok (.ior, 1) := by decide +kernel
theorem dX3_bellsFrom_46 : decode cX3_bellsFrom 46 = .ok (.istore 4, 2) := by decide +kernel
theorem dX3_bellsFrom_48 : decode cX3_bellsFrom 48 = .ok (.iinc 5 1, 3) := by decide +kernel
theorem dX3_bellsFrom_51 : decode cX3_bellsFrom 51 = .ok (.goto (-45), 3) := by decide +kernel
theorem dX3_bellsFrom_54 : decode cX3_bellsFrom 54 = .ok (.iload 4, 2) := by decide +kernel
theorem dX3_bellsFrom_56 : decode cX3_bellsFrom 56 = .ok (.ireturn, 1) := by decide +kernel
set_option maxRecDepth 20000 in
theorem ggX3_partsMostEvenly_X6_has : GoodIn wsX3_partsMostEvenly wsX6_has := goodIn_r _ [8] (by decide +kernel) (by decide +kernel)
set_option maxRecDepth 20000 in
theorem gX3_partsMostEvenly_X6_has_n84 : GoodIn wsX3_partsMostEvenly (wsX6_has) := ggX3_partsMostEvenly_X6_has
set_option maxRecDepth 20000 in
theorem ggX3_partsMostEvenly_X3_bellsHeardAt : GoodIn wsX3_partsMostEvenly wsX3_bellsHeardAt := goodIn_r _ [13, 14, 15, 16, 12, 17, 1, 18, 19, 20, 21, 22, 23, 31, 32, 33, 34, 35, 36, 37, 38, 39, 40, 41, 42, 43, 44, 45] (by decide +kernel) (by decide +kernel)
set_option maxRecDepth 20000 in
theorem gX3_partsMostEvenly_X3_bellsHeardAt : GoodIn wsX3_partsMostEvenly (wsV RX3 98 RX3 yX3_bellsHeardAt wsX3_bellsHeardAt) := goodIn_app (goodIn_of _ (by decide +kernel)) ggX3_partsMostEvenly_X3_bellsHeardAt
set_option maxRecDepth 20000 in
theorem ggX3_partsMostEvenly_J6_bitCount_0f7a4 : GoodIn wsX3_partsMostEvenly wsJ6_bitCount_0f7a4 := goodIn_r _ [27, 28, 29, 30] (by decide +kernel) (by decide +kernel)
set_option maxRecDepth 20000 in
theorem gX3_partsMostEvenly_J6_bitCount_0f7a4 : GoodIn wsX3_partsMostEvenly (va_wsS RX3 101 yJ6_bitCount_0f7a4 wsJ6_bitCount_0f7a4) := goodIn_app (goodIn_of _ (by decide +kernel)) ggX3_partsMostEvenly_J6_bitCount_0f7a4
theorem dX3_partsMostEvenly_0 : decode cX3_partsMostEvenly 0 = .ok (.iconst (-1), 1) := by decide +kernel
theorem dX3_partsMostEvenly_1 : decode cX3_partsMostEvenly 1 = .ok (.istore 4, 2) := by decide +kernel
theorem dX3_partsMostEvenly_3 : decode cX3_partsMostEvenly 3 = .ok (.iconst 0, 1) := by decide +kernel
theorem dX3_partsMostEvenly_4 : decode cX3_partsMostEvenly 4 = .ok (.istore 5, 2) := by decide +kernel
theorem dX3_partsMostEvenly_6 : decode cX3_partsMostEvenly 6 = .ok (.iconst 0, 1) := by decide +kernel
theorem dX3_partsMostEvenly_7 : decode cX3_partsMostEvenly 7 = .ok (.istore 6, 2) := by decide +kernel
theorem dX3_partsMostEvenly_9 : decode cX3_partsMostEvenly 9 = .ok (.iload 6, 2) := by decide +kernel
theorem dX3_partsMostEvenly_11 : decode cX3_partsMostEvenly 11 = .ok (.aload_n 0, 1) := by decide +kernel
theorem dX3_partsMostEvenly_12 : decode cX3_partsMostEvenly 12 = .ok (.getfield 49, 3) := by decide +kernel
theorem dX3_partsMostEvenly_15 : decode cX3_partsMostEvenly 15 = .ok (.if_icmp .ge 61, 3) := by decide +kernel
theorem dX3_partsMostEvenly_18 : decode cX3_partsMostEvenly 18 = .ok (.iload_n 3, 1) := by decide +kernel
theorem dX3_partsMostEvenly_19 : decode cX3_partsMostEvenly 19 = .ok (.iload 6, 2) := by decide +kernel
theorem dX3_partsMostEvenly_21 : decode cX3_partsMostEvenly 21 = .ok (.invokestatic 84, 3) := by decide +kernel
theorem dX3_partsMostEvenly_24 : decode cX3_partsMostEvenly 24 = .ok (.ifCond .ne 46, 3) := by decide +kernel
theorem dX3_partsMostEvenly_27 : decode cX3_partsMostEvenly 27 = .ok (.iload_n 2, 1) := by decide +kernel
theorem dX3_partsMostEvenly_28 : decode cX3_partsMostEvenly 28 = .ok (.aload_n 0, 1) := by decide +kernel
theorem dX3_partsMostEvenly_29 : decode cX3_partsMostEvenly 29 = .ok (.iload 6, 2) := by decide +kernel
theorem dX3_partsMostEvenly_31 : decode cX3_partsMostEvenly 31 = .ok (.iload_n 1, 1) := by decide +kernel
theorem dX3_partsMostEvenly_32 : decode cX3_partsMostEvenly 32 = .ok (.invokevirtual 98, 3) := by decide +kernel
theorem dX3_partsMostEvenly_35 : decode cX3_partsMostEvenly 35 = .ok (.iand, 1) := by decide +kernel
theorem dX3_partsMostEvenly_36 : decode cX3_partsMostEvenly 36 = .ok (.invokestatic 101, 3) := by decide +kernel
theorem dX3_partsMostEvenly_39 : decode cX3_partsMostEvenly 39 = .ok (.istore 7, 2) := by decide +kernel
theorem dX3_partsMostEvenly_41 : decode cX3_partsMostEvenly 41 = .ok (.iload 7, 2) := by decide +kernel
theorem dX3_partsMostEvenly_43 : decode cX3_partsMostEvenly 43 = .ok (.iload_n 2, 1) := by decide +kernel
theorem dX3_partsMostEvenly_44 : decode cX3_partsMostEvenly 44 = .ok (.invokestatic 101, 3) := by decide +kernel
theorem dX3_partsMostEvenly_47 : decode cX3_partsMostEvenly 47 = .ok (.iload 7, 2) := by decide +kernel
theorem dX3_partsMostEvenly_49 : decode cX3_partsMostEvenly 49 = .ok (.isub, 1) := by decide +kernel
theorem dX3_partsMostEvenly_50 : decode cX3_partsMostEvenly 50 = .ok (.invokestatic 106, 3) := by decide +kernel
theorem dX3_partsMostEvenly_53 : decode cX3_partsMostEvenly 53 = .ok (.istore 8, 2) := by decide +kernel
theorem dX3_partsMostEvenly_55 : decode cX3_partsMostEvenly 55 = .ok (.iload 8, 2) := by decide +kernel
theorem dX3_partsMostEvenly_57 : decode cX3_partsMostEvenly 57 = .ok (.iload 5, 2) := by decide +kernel
theorem dX3_partsMostEvenly_59 : decode cX3_partsMostEvenly 59 = .ok (.if_icmp .le 11, 3) := by decide +kernel
theorem dX3_partsMostEvenly_62 : decode cX3_partsMostEvenly 62 = .ok (.iload 6, 2) := by decide +kernel
theorem dX3_partsMostEvenly_64 : decode cX3_partsMostEvenly 64 = .ok (.istore 4, 2) := by decide +kernel
theorem dX3_partsMostEvenly_66 : decode cX3_partsMostEvenly 66 = .ok (.iload 8, 2) := by decide +kernel
theorem dX3_partsMostEvenly_68 : decode cX3_partsMostEvenly 68 = .ok (.istore 5, 2) := by decide +kernel
theorem dX3_partsMostEvenly_70 : decode cX3_partsMostEvenly 70 = .ok (.iinc 6 1, 3) := by decide +kernel
theorem dX3_partsMostEvenly_73 : decode cX3_partsMostEvenly 73 = .ok (.goto (-64), 3) := by decide +kernel
theorem dX3_partsMostEvenly_76 : decode cX3_partsMostEvenly 76 = .ok (.iload 4, 2) := by decide +kernel
theorem dX3_partsMostEvenly_78 : decode cX3_partsMostEvenly 78 = .ok (.ireturn, 1) := by decide +kernel
set_option maxRecDepth 20000 in
theorem ggX3_bellsHeardAt_X3_bellsFrom : GoodIn wsX3_bellsHeardAt wsX3_bellsFrom := goodIn_r _ [5, 6, 7, 8, 9, 4, 10, 11, 12, 13, 14, 15, 16, 17, 18, 19, 20, 21, 22, 23, 24, 25, 26, 27] (by decide +kernel) (by decide +kernel)
set_option maxRecDepth 20000 in
theorem gX3_bellsHeardAt_X3_bellsFrom : GoodIn wsX3_bellsHeardAt (wsV RX3 111 RX3 yX3_bellsFrom wsX3_bellsFrom) := goodIn_app (goodIn_of _ (by decide +kernel)) ggX3_bellsHeardAt_X3_bellsFrom
theorem dX3_bellsHeardAt_0 : decode cX3_bellsHeardAt 0 = .ok (.aload_n 0, 1) := by decide +kernel
theorem dX3_bellsHeardAt_1 : decode cX3_bellsHeardAt 1 = .ok (.iload_n 2, 1) := by decide +kernel
theorem dX3_bellsHeardAt_2 : decode cX3_bellsHeardAt 2 = .ok (.iconst 1, 1) := by decide +kernel
theorem dX3_bellsHeardAt_3 : decode cX3_bellsHeardAt 3 = .ok (.iload_n 1, 1) := by decide +kernel
theorem dX3_bellsHeardAt_4 : decode cX3_bellsHeardAt 4 = .ok (.ishl, 1) := by decide +kernel
theorem dX3_bellsHeardAt_5 : decode cX3_bellsHeardAt 5 = .ok (.iconst 0, 1) := by decide +kernel
theorem dX3_bellsHeardAt_6 : decode cX3_bellsHeardAt 6 = .ok (.invokevirtual 111, 3) := by decide +kernel
theorem dX3_bellsHeardAt_9 : decode cX3_bellsHeardAt 9 = .ok (.ireturn, 1) := by decide +kernel
set_option maxRecDepth 20000 in
theorem ggX3_firstTakenFor_X3_signOf : GoodIn wsX3_firstTakenFor wsX3_signOf := goodIn_r _ [6, 7, 1, 8, 9, 10, 11, 12, 13, 14, 15, 16, 17, 18, 19, 20, 21, 22] (by decide +kernel) (by decide +kernel)
set_option maxRecDepth 20000 in
theorem gX3_firstTakenFor_X3_signOf : GoodIn wsX3_firstTakenFor (wsV RX3 90 RX3 yX3_signOf wsX3_signOf) := goodIn_app (goodIn_of _ (by decide +kernel)) ggX3_firstTakenFor_X3_signOf
theorem dX3_firstTakenFor_0 : decode cX3_firstTakenFor 0 = .ok (.iconst 0, 1) := by decide +kernel
theorem dX3_firstTakenFor_1 : decode cX3_firstTakenFor 1 = .ok (.istore_n 3, 1) := by decide +kernel
theorem dX3_firstTakenFor_2 : decode cX3_firstTakenFor 2 = .ok (.iload_n 3, 1) := by decide +kernel
theorem dX3_firstTakenFor_3 : decode cX3_firstTakenFor 3 = .ok (.iconst 3, 1) := by decide +kernel
theorem dX3_firstTakenFor_4 : decode cX3_firstTakenFor 4 = .ok (.if_icmp .gt 60, 3) := by decide +kernel
theorem dX3_firstTakenFor_7 : decode cX3_firstTakenFor 7 = .ok (.aload_n 0, 1) := by decide +kernel
theorem dX3_firstTakenFor_8 : decode cX3_firstTakenFor 8 = .ok (.aload_n 0, 1) := by decide +kernel
theorem dX3_firstTakenFor_9 : decode cX3_firstTakenFor 9 = .ok (.getfield 42, 3) := by decide +kernel
theorem dX3_firstTakenFor_12 : decode cX3_firstTakenFor 12 = .ok (.iload_n 1, 1) := by decide +kernel
theorem dX3_firstTakenFor_13 : decode cX3_firstTakenFor 13 = .ok (.iaload, 1) := by decide +kernel
theorem dX3_firstTakenFor_14 : decode cX3_firstTakenFor 14 = .ok (.aload_n 0, 1) := by decide +kernel
theorem dX3_firstTakenFor_15 : decode cX3_firstTakenFor 15 = .ok (.getfield 42, 3) := by decide +kernel
theorem dX3_firstTakenFor_18 : decode cX3_firstTakenFor 18 = .ok (.iload_n 2, 1) := by decide +kernel
theorem dX3_firstTakenFor_19 : decode cX3_firstTakenFor 19 = .ok (.iaload, 1) := by decide +kernel
theorem dX3_firstTakenFor_20 : decode cX3_firstTakenFor 20 = .ok (.iload_n 3, 1) := by decide +kernel
theorem dX3_firstTakenFor_21 : decode cX3_firstTakenFor 21 = .ok (.ishl, 1) := by decide +kernel
theorem dX3_firstTakenFor_22 : decode cX3_firstTakenFor 22 = .ok (.ior, 1) := by decide +kernel
theorem dX3_firstTakenFor_23 : decode cX3_firstTakenFor 23 = .ok (.sipush 255, 3) := by decide +kernel
theorem dX3_firstTakenFor_26 : decode cX3_firstTakenFor 26 = .ok (.iand, 1) := by decide +kernel
theorem dX3_firstTakenFor_27 : decode cX3_firstTakenFor 27 = .ok (.invokevirtual 90, 3) := by decide +kernel
theorem dX3_firstTakenFor_30 : decode cX3_firstTakenFor 30 = .ok (.istore 4, 2) := by decide +kernel
theorem dX3_firstTakenFor_32 : decode cX3_firstTakenFor 32 = .ok (.iload 4, 2) := by decide +kernel
theorem dX3_firstTakenFor_34 : decode cX3_firstTakenFor 34 = .ok (.iconst (-1), 1) := by decide +kernel
theorem dX3_firstTakenFor_35 : decode cX3_firstTakenFor 35 = .ok (.if_icmp .eq 23, 3) := by decide +kernel
theorem dX3_firstTakenFor_38 : decode cX3_firstTakenFor 38 = .ok (.iload 4, 2) := by decide +kernel
theorem dX3_firstTakenFor_40 : decode cX3_firstTakenFor 40 = .ok (.iload_n 1, 1) := by decide +kernel
theorem dX3_firstTakenFor_41 : decode cX3_firstTakenFor 41 = .ok (.if_icmp .eq 17, 3) := by decide +kernel
theorem dX3_firstTakenFor_44 : decode cX3_firstTakenFor 44 = .ok (.iload 4, 2) := by decide +kernel
theorem dX3_firstTakenFor_46 : decode cX3_firstTakenFor 46 = .ok (.iload_n 2, 1) := by decide +kernel
theorem dX3_firstTakenFor_47 : decode cX3_firstTakenFor 47 = .ok (.if_icmp .eq 11, 3) := by decide +kernel
theorem dX3_firstTakenFor_50 : decode cX3_firstTakenFor 50 = .ok (.bipush 10, 2) := by decide +kernel
theorem dX3_firstTakenFor_52 : decode cX3_firstTakenFor 52 = .ok (.iload_n 3, 1) := by decide +kernel
theorem dX3_firstTakenFor_53 : decode cX3_firstTakenFor 53 = .ok (.imul, 1) := by decide +kernel
theorem dX3_firstTakenFor_54 : decode cX3_firstTakenFor 54 = .ok (.iload 4, 2) := by decide +kernel
theorem dX3_firstTakenFor_56 : decode cX3_firstTakenFor 56 = .ok (.iadd, 1) := by decide +kernel
theorem dX3_firstTakenFor_57 : decode cX3_firstTakenFor 57 = .ok (.ireturn, 1) := by decide +kernel
theorem dX3_firstTakenFor_58 : decode cX3_firstTakenFor 58 = .ok (.iinc 3 1, 3) := by decide +kernel
theorem dX3_firstTakenFor_61 : decode cX3_firstTakenFor 61 = .ok (.goto (-59), 3) := by decide +kernel
theorem dX3_firstTakenFor_64 : decode cX3_firstTakenFor 64 = .ok (.iconst (-1), 1) := by decide +kernel
theorem dX3_firstTakenFor_65 : decode cX3_firstTakenFor 65 = .ok (.ireturn, 1) := by decide +kernel
theorem dX3_signOf_0 : decode cX3_signOf 0 = .ok (.iconst 0, 1) := by decide +kernel
theorem dX3_signOf_1 : decode cX3_signOf 1 = .ok (.istore_n 2, 1) := by decide +kernel
theorem dX3_signOf_2 : decode cX3_signOf 2 = .ok (.iload_n 2, 1) := by decide +kernel
theorem dX3_signOf_3 : decode cX3_signOf 3 = .ok (.aload_n 0, 1) := by decide +kernel
theorem dX3_signOf_4 : decode cX3_signOf 4 = .ok (.getfield 59, 3) := by decide +kernel
theorem dX3_signOf_7 : decode cX3_signOf 7 = .ok (.if_icmp .ge 21, 3) := by decide +kernel
theorem dX3_signOf_10 : decode cX3_signOf 10 = .ok (.aload_n 0, 1) := by decide +kernel
theorem dX3_signOf_11 : decode cX3_signOf 11 = .ok (.getfield 42, 3) := by decide +kernel
theorem dX3_signOf_14 : decode cX3_signOf 14 = .ok (.iload_n 2, 1) := by decide +kernel
theorem dX3_signOf_15 : decode cX3_signOf 15 = .ok (.iaload, 1) := by decide +kernel
theorem dX3_signOf_16 : decode cX3_signOf 16 = .ok (.iload_n 1, 1) := by decide +kernel
theorem dX3_signOf_17 : decode cX3_signOf 17 = .ok (.if_icmp .ne 5, 3) := by decide +kernel
theorem dX3_signOf_20 : decode cX3_signOf 20 = .ok (.iload_n 2, 1) := by decide +kernel
theorem dX3_signOf_21 : decode cX3_signOf 21 = .ok (.ireturn, 1) := by decide +kernel
theorem dX3_signOf_22 : decode cX3_signOf 22 = .ok (.iinc 2 1, 3) := by decide +kernel
theorem dX3_signOf_25 : decode cX3_signOf 25 = .ok (.goto (-23), 3) := by decide +kernel
theorem dX3_signOf_28 : decode cX3_signOf 28 = .ok (.iconst (-1), 1) := by decide +kernel
theorem dX3_signOf_29 : decode cX3_signOf 29 = .ok (.ireturn, 1) := by decide +kernel
theorem dX3_digestFrom_0 : decode cX3_digestFrom 0 = .ok (.lload_n 1, 1) := by decide +kernel
theorem dX3_digestFrom_1 : decode cX3_digestFrom 1 = .ok (.lstore_n 3, 1) := by decide +kernel
theorem dX3_digestFrom_2 : decode cX3_digestFrom 2 = .ok (.iconst 0, 1) := by decide +kernel
theorem dX3_digestFrom_3 : decode cX3_digestFrom 3 = .ok (.istore 5, 2) := by decide +kernel
theorem dX3_digestFrom_5 : decode cX3_digestFrom 5 = .ok (.iload 5, 2) := by decide +kernel
theorem dX3_digestFrom_7 : decode cX3_digestFrom 7 = .ok (.aload_n 0, 1) := by decide +kernel
theorem dX3_digestFrom_8 : decode cX3_digestFrom 8 = .ok (.getfield 49, 3) := by decide +kernel
theorem dX3_digestFrom_11 : decode cX3_digestFrom 11 = .ok (.if_icmp .ge 89, 3) := by decide +kernel
theorem dX3_digestFrom_14 : decode cX3_digestFrom 14 = .ok (.ldc2_w 115, 3) := by decide +kernel
theorem dX3_digestFrom_17 : decode cX3_digestFrom 17 = .ok (.lload_n 3, 1) := by decide +kernel
theorem dX3_digestFrom_18 : decode cX3_digestFrom 18 = .ok (.lmul, 1) := by decide +kernel
theorem dX3_digestFrom_19 : decode cX3_digestFrom 19 = .ok (.aload_n 0, 1) := by decide +kernel
theorem dX3_digestFrom_20 : decode cX3_digestFrom 20 = .ok (.getfield 9, 3) := by decide +kernel
theorem dX3_digestFrom_23 : decode cX3_digestFrom 23 = .ok (.iload 5, 2) := by decide +kernel
theorem dX3_digestFrom_25 : decode cX3_digestFrom 25 = .ok (.iaload, 1) := by decide +kernel
theorem dX3_digestFrom_26 : decode cX3_digestFrom 26 = .ok (.i2l, 1) := by decide +kernel
theorem dX3_digestFrom_27 : decode cX3_digestFrom 27 = .ok (.ladd, 1) := by decide +kernel
theorem dX3_digestFrom_28 : decode cX3_digestFrom 28 = .ok (.lstore_n 3, 1) := by decide +kernel
theorem dX3_digestFrom_29 : decode cX3_digestFrom 29 = .ok (.ldc2_w 115, 3) := by decide +kernel
theorem dX3_digestFrom_32 : decode cX3_digestFrom 32 = .ok (.lload_n 3, 1) := by decide +kernel
theorem dX3_digestFrom_33 : decode cX3_digestFrom 33 = .ok (.lmul, 1) := by decide +kernel
theorem dX3_digestFrom_34 : decode cX3_digestFrom 34 = .ok (.aload_n 0, 1) := by decide +kernel
theorem dX3_digestFrom_35 : decode cX3_digestFrom 35 = .ok (.getfield 15, 3) := by decide +kernel
theorem dX3_digestFrom_38 : decode cX3_digestFrom 38 = .ok (.iload 5, 2) := by decide +kernel
theorem dX3_digestFrom_40 : decode cX3_digestFrom 40 = .ok (.iaload, 1) := by decide +kernel
theorem dX3_digestFrom_41 : decode cX3_digestFrom 41 = .ok (.i2l, 1) := by decide +kernel
theorem dX3_digestFrom_42 : decode cX3_digestFrom 42 = .ok (.ladd, 1) := by decide +kernel
theorem dX3_digestFrom_43 : decode cX3_digestFrom 43 = .ok (.lstore_n 3, 1) := by decide +kernel
theorem dX3_digestFrom_44 : decode cX3_digestFrom 44 = .ok (.ldc2_w 115, 3) := by decide +kernel
theorem dX3_digestFrom_47 : decode cX3_digestFrom 47 = .ok (.lload_n 3, 1) := by decide +kernel
theorem dX3_digestFrom_48 : decode cX3_digestFrom 48 = .ok (.lmul, 1) := by decide +kernel
theorem dX3_digestFrom_49 : decode cX3_digestFrom 49 = .ok (.aload_n 0, 1) := by decide +kernel
theorem dX3_digestFrom_50 : decode cX3_digestFrom 50 = .ok (.getfield 18, 3) := by decide +kernel
theorem dX3_digestFrom_53 : decode cX3_digestFrom 53 = .ok (.iload 5, 2) := by decide +kernel
theorem dX3_digestFrom_55 : decode cX3_digestFrom 55 = .ok (.iaload, 1) := by decide +kernel
theorem dX3_digestFrom_56 : decode cX3_digestFrom 56 = .ok (.i2l, 1) := by decide +kernel
theorem dX3_digestFrom_57 : decode cX3_digestFrom 57 = .ok (.ladd, 1) := by decide +kernel
theorem dX3_digestFrom_58 : decode cX3_digestFrom 58 = .ok (.lstore_n 3, 1) := by decide +kernel
theorem dX3_digestFrom_59 : decode cX3_digestFrom 59 = .ok (.iconst 0, 1) := by decide +kernel
theorem dX3_digestFrom_60 : decode cX3_digestFrom 60 = .ok (.istore 6, 2) := by decide +kernel
theorem dX3_digestFrom_62 : decode cX3_digestFrom 62 = .ok (.iload 6, 2) := by decide +kernel
theorem dX3_digestFrom_64 : decode cX3_digestFrom 64 = .ok (.iconst 4, 1) := by decide +kernel
theorem dX3_digestFrom_65 : decode cX3_digestFrom 65 = .ok (.if_icmp .ge 29, 3) := by decide +kernel
theorem dX3_digestFrom_68 : decode cX3_digestFrom 68 = .ok (.ldc2_w 115, 3) := by decide +kernel
theorem dX3_digestFrom_71 : decode cX3_digestFrom 71 = .ok (.lload_n 3, 1) := by decide +kernel
theorem dX3_digestFrom_72 : decode cX3_digestFrom 72 = .ok (.lmul, 1) := by decide +kernel
theorem dX3_digestFrom_73 : decode cX3_digestFrom 73 = .ok (.aload_n 0, 1) := by decide +kernel
theorem dX3_digestFrom_74 : decode cX3_digestFrom 74 = .ok (.getfield 21, 3) := by decide +kernel
theorem dX3_digestFrom_77 : decode cX3_digestFrom 77 = .ok (.iload 5, 2) := by decide +kernel
theorem dX3_digestFrom_79 : decode cX3_digestFrom 79 = .ok (.iconst 4, 1) := by decide +kernel
theorem dX3_digestFrom_80 : decode cX3_digestFrom 80 = .ok (.imul, 1) := by decide +kernel
theorem dX3_digestFrom_81 : decode cX3_digestFrom 81 = .ok (.iload 6, 2) := by decide +kernel
theorem dX3_digestFrom_83 : decode cX3_digestFrom 83 = .ok (.iadd, 1) := by decide +kernel
theorem dX3_digestFrom_84 : decode cX3_digestFrom 84 = .ok (.iaload, 1) := by decide +kernel
theorem dX3_digestFrom_85 : decode cX3_digestFrom 85 = .ok (.i2l, 1) := by decide +kernel
theorem dX3_digestFrom_86 : decode cX3_digestFrom 86 = .ok (.ladd, 1) := by decide +kernel
theorem dX3_digestFrom_87 : decode cX3_digestFrom 87 = .ok (.lstore_n 3, 1) := by decide +kernel
theorem dX3_digestFrom_88 : decode cX3_digestFrom 88 = .ok (.iinc 6 1, 3) := by decide +kernel
theorem dX3_digestFrom_91 : decode cX3_digestFrom 91 = .ok (.goto (-29), 3) := by decide +kernel
theorem dX3_digestFrom_94 : decode cX3_digestFrom 94 = .ok (.iinc 5 1, 3) := by decide +kernel
theorem dX3_digestFrom_97 : decode cX3_digestFrom 97 = .ok (.goto (-92), 3) := by decide +kernel
theorem dX3_digestFrom_100 : decode cX3_digestFrom 100 = .ok (.iconst 0, 1) := by decide +kernel
theorem dX3_digestFrom_101 : decode cX3_digestFrom 101 = .ok (.istore 5, 2) := by decide +kernel
theorem dX3_digestFrom_103 : decode cX3_digestFrom 103 = .ok (.iload 5, 2) := by decide +kernel
theorem dX3_digestFrom_105 : decode cX3_digestFrom 105 = .ok (.aload_n 0, 1) := by decide +kernel
theorem dX3_digestFrom_106 : decode cX3_digestFrom 106 = .ok (.getfield 53, 3) := by decide +kernel
theorem dX3_digestFrom_109 : decode cX3_digestFrom 109 = .ok (.if_icmp .ge 39, 3) := by decide +kernel
theorem dX3_digestFrom_112 : decode cX3_digestFrom 112 = .ok (.ldc2_w 115, 3) := by decide +kernel
theorem dX3_digestFrom_115 : decode cX3_digestFrom 115 = .ok (.lload_n 3, 1) := by decide +kernel
theorem dX3_digestFrom_116 : decode cX3_digestFrom 116 = .ok (.lmul, 1) := by decide +kernel
theorem dX3_digestFrom_117 : decode cX3_digestFrom 117 = .ok (.aload_n 0, 1) := by decide +kernel
theorem dX3_digestFrom_118 : decode cX3_digestFrom 118 = .ok (.getfield 27, 3) := by decide +kernel
theorem dX3_digestFrom_121 : decode cX3_digestFrom 121 = .ok (.iload 5, 2) := by decide +kernel
theorem dX3_digestFrom_123 : decode cX3_digestFrom 123 = .ok (.iaload, 1) := by decide +kernel
theorem dX3_digestFrom_124 : decode cX3_digestFrom 124 = .ok (.i2l, 1) := by decide +kernel
theorem dX3_digestFrom_125 : decode cX3_digestFrom 125 = .ok (.ladd, 1) := by decide +kernel
theorem dX3_digestFrom_126 : decode cX3_digestFrom 126 = .ok (.lstore_n 3, 1) := by decide +kernel
theorem dX3_digestFrom_127 : decode cX3_digestFrom 127 = .ok (.ldc2_w 115, 3) := by decide +kernel
theorem dX3_digestFrom_130 : decode cX3_digestFrom 130 = .ok (.lload_n 3, 1) := by decide +kernel
theorem dX3_digestFrom_131 : decode cX3_digestFrom 131 = .ok (.lmul, 1) := by decide +kernel
theorem dX3_digestFrom_132 : decode cX3_digestFrom 132 = .ok (.aload_n 0, 1) := by decide +kernel
theorem dX3_digestFrom_133 : decode cX3_digestFrom 133 = .ok (.getfield 30, 3) := by decide +kernel
theorem dX3_digestFrom_136 : decode cX3_digestFrom 136 = .ok (.iload 5, 2) := by decide +kernel
theorem dX3_digestFrom_138 : decode cX3_digestFrom 138 = .ok (.iaload, 1) := by decide +kernel
theorem dX3_digestFrom_139 : decode cX3_digestFrom 139 = .ok (.i2l, 1) := by decide +kernel
theorem dX3_digestFrom_140 : decode cX3_digestFrom 140 = .ok (.ladd, 1) := by decide +kernel
theorem dX3_digestFrom_141 : decode cX3_digestFrom 141 = .ok (.lstore_n 3, 1) := by decide +kernel
theorem dX3_digestFrom_142 : decode cX3_digestFrom 142 = .ok (.iinc 5 1, 3) := by decide +kernel
theorem dX3_digestFrom_145 : decode cX3_digestFrom 145 = .ok (.goto (-42), 3) := by decide +kernel
theorem dX3_digestFrom_148 : decode cX3_digestFrom 148 = .ok (.iconst 0, 1) := by decide +kernel
theorem dX3_digestFrom_149 : decode cX3_digestFrom 149 = .ok (.istore 5, 2) := by decide +kernel
theorem dX3_digestFrom_151 : decode cX3_digestFrom 151 = .ok (.iload 5, 2) := by decide +kernel
theorem dX3_digestFrom_153 : decode cX3_digestFrom 153 = .ok (.aload_n 0, 1) := by decide +kernel
theorem dX3_digestFrom_154 : decode cX3_digestFrom 154 = .ok (.getfield 56, 3) := by decide +kernel
theorem dX3_digestFrom_157 : decode cX3_digestFrom 157 = .ok (.if_icmp .ge 54, 3) := by decide +kernel
theorem dX3_digestFrom_160 : decode cX3_digestFrom 160 = .ok (.ldc2_w 115, 3) := by decide +kernel
theorem dX3_digestFrom_163 : decode cX3_digestFrom 163 = .ok (.lload_n 3, 1) := by decide +kernel
theorem dX3_digestFrom_164 : decode cX3_digestFrom 164 = .ok (.lmul, 1) := by decide +kernel
theorem dX3_digestFrom_165 : decode cX3_digestFrom 165 = .ok (.aload_n 0, 1) := by decide +kernel
theorem dX3_digestFrom_166 : decode cX3_digestFrom 166 = .ok (.getfield 33, 3) := by decide +kernel
theorem dX3_digestFrom_169 : decode cX3_digestFrom 169 = .ok (.iload 5, 2) := by decide +kernel
theorem dX3_digestFrom_171 : decode cX3_digestFrom 171 = .ok (.iaload, 1) := by decide +kernel
theorem dX3_digestFrom_172 : decode cX3_digestFrom 172 = .ok (.i2l, 1) := by decide +kernel
theorem dX3_digestFrom_173 : decode cX3_digestFrom 173 = .ok (.ladd, 1) := by decide +kernel
theorem dX3_digestFrom_174 : decode cX3_digestFrom 174 = .ok (.lstore_n 3, 1) := by decide +kernel
theorem dX3_digestFrom_175 : decode cX3_digestFrom 175 = .ok (.ldc2_w 115, 3) := by decide +kernel
theorem dX3_digestFrom_178 : decode cX3_digestFrom 178 = .ok (.lload_n 3, 1) := by decide +kernel
theorem dX3_digestFrom_179 : decode cX3_digestFrom 179 = .ok (.lmul, 1) := by decide +kernel
theorem dX3_digestFrom_180 : decode cX3_digestFrom 180 = .ok (.aload_n 0, 1) := by decide +kernel
theorem dX3_digestFrom_181 : decode cX3_digestFrom 181 = .ok (.getfield 36, 3) := by decide +kernel
theorem dX3_digestFrom_184 : decode cX3_digestFrom 184 = .ok (.iload 5, 2) := by decide +kernel
theorem dX3_digestFrom_186 : decode cX3_digestFrom 186 = .ok (.iaload, 1) := by decide +kernel
theorem dX3_digestFrom_187 : decode cX3_digestFrom 187 = .ok (.i2l, 1) := by decide +kernel
theorem dX3_digestFrom_188 : decode cX3_digestFrom 188 = .ok (.ladd, 1) := by decide +kernel
theorem dX3_digestFrom_189 : decode cX3_digestFrom 189 = .ok (.lstore_n 3, 1) := by decide +kernel
theorem dX3_digestFrom_190 : decode cX3_digestFrom 190 = .ok (.ldc2_w 115, 3) := by decide +kernel
theorem dX3_digestFrom_193 : decode cX3_digestFrom 193 = .ok (.lload_n 3, 1) := by decide +kernel
theorem dX3_digestFrom_194 : decode cX3_digestFrom 194 = .ok (.lmul, 1) := by decide +kernel
theorem dX3_digestFrom_195 : decode cX3_digestFrom 195 = .ok (.aload_n 0, 1) := by decide +kernel
theorem dX3_digestFrom_196 : decode cX3_digestFrom 196 = .ok (.getfield 39, 3) := by decide +kernel
theorem dX3_digestFrom_199 : decode cX3_digestFrom 199 = .ok (.iload 5, 2) := by decide +kernel
theorem dX3_digestFrom_201 : decode cX3_digestFrom 201 = .ok (.iaload, 1) := by decide +kernel
theorem dX3_digestFrom_202 : decode cX3_digestFrom 202 = .ok (.i2l, 1) := by decide +kernel
theorem dX3_digestFrom_203 : decode cX3_digestFrom 203 = .ok (.ladd, 1) := by decide +kernel
theorem dX3_digestFrom_204 : decode cX3_digestFrom 204 = .ok (.lstore_n 3, 1) := by decide +kernel
theorem dX3_digestFrom_205 : decode cX3_digestFrom 205 = .ok (.iinc 5 1, 3) := by decide +kernel
theorem dX3_digestFrom_208 : decode cX3_digestFrom 208 = .ok (.goto (-57), 3) := by decide +kernel
theorem dX3_digestFrom_211 : decode cX3_digestFrom 211 = .ok (.iconst 0, 1) := by decide +kernel
theorem dX3_digestFrom_212 : decode cX3_digestFrom 212 = .ok (.istore 5, 2) := by decide +kernel
theorem dX3_digestFrom_214 : decode cX3_digestFrom 214 = .ok (.iload 5, 2) := by decide +kernel
theorem dX3_digestFrom_216 : decode cX3_digestFrom 216 = .ok (.aload_n 0, 1) := by decide +kernel
theorem dX3_digestFrom_217 : decode cX3_digestFrom 217 = .ok (.getfield 59, 3) := by decide +kernel
theorem dX3_digestFrom_220 : decode cX3_digestFrom 220 = .ok (.if_icmp .ge 24, 3) := by decide +kernel
theorem dX3_digestFrom_223 : decode cX3_digestFrom 223 = .ok (.ldc2_w 115, 3) := by decide +kernel
theorem dX3_digestFrom_226 : decode cX3_digestFrom 226 = .ok (.lload_n 3, 1) := by decide +kernel
theorem dX3_digestFrom_227 : decode cX3_digestFrom 227 = .ok (.lmul, 1) := by decide +kernel
theorem dX3_digestFrom_228 : decode cX3_digestFrom 228 = .ok (.aload_n 0, 1) := by decide +kernel
theorem dX3_digestFrom_229 : decode cX3_digestFrom 229 = .ok (.getfield 42, 3) := by decide +kernel
theorem dX3_digestFrom_232 : decode cX3_digestFrom 232 = .ok (.iload 5, 2) := by decide +kernel
theorem dX3_digestFrom_234 : decode cX3_digestFrom 234 = .ok (.iaload, 1) := by decide +kernel
theorem dX3_digestFrom_235 : decode cX3_digestFrom 235 = .ok (.i2l, 1) := by decide +kernel
theorem dX3_digestFrom_236 : decode cX3_digestFrom 236 = .ok (.ladd, 1) := by decide +kernel
theorem dX3_digestFrom_237 : decode cX3_digestFrom 237 = .ok (.lstore_n 3, 1) := by decide +kernel
theorem dX3_digestFrom_238 : decode cX3_digestFrom 238 = .ok (.iinc 5 1, 3) := by decide +kernel
theorem dX3_digestFrom_241 : decode cX3_digestFrom 241 = .ok (.goto (-27), 3) := by decide +kernel
theorem dX3_digestFrom_244 : decode cX3_digestFrom 244 = .ok (.lload_n 3, 1) := by decide +kernel
theorem dX3_digestFrom_245 : decode cX3_digestFrom 245 = .ok (.lreturn, 1) := by decide +kernel
theorem dX4_init_0 : decode cX4_init 0 = .ok (.aload_n 0, 1) := by decide +kernel
theorem dX4_init_1 : decode cX4_init 1 = .ok (.invokespecial 3, 3) := by decide +kernel
theorem dX4_init_4 : decode cX4_init 4 = .ok (.aload_n 0, 1) := by decide +kernel
theorem dX4_init_5 : decode cX4_init 5 = .ok (.bipush 12, 2) := by decide +kernel
theorem dX4_init_7 : decode cX4_init 7 = .ok (.newarray .int, 2) := by decide +kernel
theorem dX4_init_9 : decode cX4_init 9 = .ok (.putfield 9, 3) := by decide +kernel
theorem dX4_init_12 : decode cX4_init 12 = .ok (.aload_n 0, 1) := by decide +kernel
theorem dX4_init_13 : decode cX4_init 13 = .ok (.bipush 12, 2) := by decide +kernel
theorem dX4_init_15 : decode cX4_init 15 = .ok (.newarray .int, 2) := by decide +kernel
theorem dX4_init_17 : decode cX4_init 17 = .ok (.putfield 15, 3) := by decide +kernel
theorem dX4_init_20 : decode cX4_init 20 = .ok (.aload_n 0, 1) := by decide +kernel
theorem dX4_init_21 : decode cX4_init 21 = .ok (.bipush 36, 2) := by decide +kernel
theorem dX4_init_23 : decode cX4_init 23 = .ok (.newarray .int, 2) := by decide +kernel
theorem dX4_init_25 : decode cX4_init 25 = .ok (.putfield 18, 3) := by decide +kernel
theorem dX4_init_28 : decode cX4_init 28 = .ok (.aload_n 0, 1) := by decide +kernel
theorem dX4_init_29 : decode cX4_init 29 = .ok (.bipush 36, 2) := by decide +kernel
theorem dX4_init_31 : decode cX4_init 31 = .ok (.newarray .int, 2) := by decide +kernel
theorem dX4_init_33 : decode cX4_init 33 = .ok (.putfield 21, 3) := by decide +kernel
theorem dX4_init_36 : decode cX4_init 36 = .ok (.return_, 1) := by decide +kernel
set_option maxRecDepth 20000 in
theorem ggX4_go_J7_fill_53178 : GoodIn wsX4_go wsJ7_fill_53178 := goodIn_r _ [9] (by decide +kernel) (by decide +kernel)
set_option maxRecDepth 20000 in
theorem gX4_go_J7_fill_53178 : GoodIn wsX4_go (va_wsS RX4 24 yJ7_fill_53178 wsJ7_fill_53178) := goodIn_app (goodIn_of _ (by decide +kernel)) ggX4_go_J7_fill_53178
set_option maxRecDepth 20000 in
theorem ggX4_go_X3_dueFor : GoodIn wsX4_go wsX3_dueFor := goodIn_r _ [14, 15, 16, 17, 18, 19, 20, 21, 22, 13, 23, 24, 25, 26, 27, 28, 60, 61, 62, 63, 64, 65, 66, 67, 68, 69, 70, 71, 72, 73, 74] (by decide +kernel) (by decide +kernel)
set_option maxRecDepth 20000 in
theorem gX4_go_X3_dueFor : GoodIn wsX4_go (wsV RX4 36 RX3 yX3_dueFor wsX3_dueFor) := goodIn_app (goodIn_of _ (by decide +kernel)) ggX4_go_X3_dueFor
set_option maxRecDepth 20000 in
theorem ggX4_go_X4_whoRings : GoodIn wsX4_go wsX4_whoRings := goodIn_r _ [33, 34, 4, 26, 27, 28, 35, 36, 37, 32, 38, 39, 40, 41, 1, 42, 43, 44, 45, 2, 46, 47, 48, 49, 50, 51, 5, 60, 61, 62, 63, 64, 65, 66, 67, 68, 69, 70, 71, 72, 73, 74, 56, 57, 58, 59] (by decide +kernel) (by decide +kernel)
set_option maxRecDepth 20000 in
theorem gX4_go_X4_whoRings : GoodIn wsX4_go (wsV RX4 40 RX4 yX4_whoRings wsX4_whoRings) := goodIn_app (goodIn_of _ (by decide +kernel)) ggX4_go_X4_whoRings
set_option maxRecDepth 20000 in
theorem ggX4_go_X4_remember : GoodIn wsX4_go wsX4_remember := goodIn_r _ [55, 39, 34, 4, 5, 1, 2, 26, 27, 28, 46, 47, 60, 61, 62, 63, 64, 65, 66, 67, 68, 69, 70, 71, 72, 73, 74, 56, 57, 58, 59] (by decide +kernel) (by decide +kernel)
set_option maxRecDepth 20000 in
theorem gX4_go_X4_remember : GoodIn wsX4_go (wsV RX4 44 RX4 yX4_remember wsX4_remember) := goodIn_app (goodIn_of _ (by decide +kernel)) ggX4_go_X4_remember
theorem dX4_go_0 : decode cX4_go 0 = .ok (.aload_n 0, 1) := by decide +kernel
theorem dX4_go_1 : decode cX4_go 1 = .ok (.getfield 18, 3) := by decide +kernel
theorem dX4_go_4 : decode cX4_go 4 = .ok (.iconst 0, 1) := by decide +kernel
theorem dX4_go_5 : decode cX4_go 5 = .ok (.invokestatic 24, 3) := by decide +kernel
theorem dX4_go_8 : decode cX4_go 8 = .ok (.aload_n 0, 1) := by decide +kernel
theorem dX4_go_9 : decode cX4_go 9 = .ok (.getfield 21, 3) := by decide +kernel
theorem dX4_go_12 : decode cX4_go 12 = .ok (.iconst (-1), 1) := by decide +kernel
theorem dX4_go_13 : decode cX4_go 13 = .ok (.invokestatic 24, 3) := by decide +kernel
theorem dX4_go_16 : decode cX4_go 16 = .ok (.iconst 0, 1) := by decide +kernel
theorem dX4_go_17 : decode cX4_go 17 = .ok (.istore_n 2, 1) := by decide +kernel
theorem dX4_go_18 : decode cX4_go 18 = .ok (.iload_n 2, 1) := by decide +kernel
theorem dX4_go_19 : decode cX4_go 19 = .ok (.aload_n 1, 1) := by decide +kernel
theorem dX4_go_20 : decode cX4_go 20 = .ok (.getfield 30, 3) := by decide +kernel
theorem dX4_go_23 : decode cX4_go 23 = .ok (.if_icmp .ge 38, 3) := by decide +kernel
theorem dX4_go_26 : decode cX4_go 26 = .ok (.aload_n 0, 1) := by decide +kernel
theorem dX4_go_27 : decode cX4_go 27 = .ok (.getfield 9, 3) := by decide +kernel
theorem dX4_go_30 : decode cX4_go 30 = .ok (.iload_n 2, 1) := by decide +kernel
theorem dX4_go_31 : decode cX4_go 31 = .ok (.aload_n 1, 1) := by decide +kernel
theorem dX4_go_32 : decode cX4_go 32 = .ok (.iload_n 2, 1) := by decide +kernel
theorem dX4_go_33 : decode cX4_go 33 = .ok (.invokevirtual 36, 3) := by decide +kernel
theorem dX4_go_36 : decode cX4_go 36 = .ok (.iastore, 1) := by decide +kernel
theorem dX4_go_37 : decode cX4_go 37 = .ok (.aload_n 0, 1) := by decide +kernel
theorem dX4_go_38 : decode cX4_go 38 = .ok (.getfield 15, 3) := by decide +kernel
theorem dX4_go_41 : decode cX4_go 41 = .ok (.iload_n 2, 1) := by decide +kernel
theorem dX4_go_42 : decode cX4_go 42 = .ok (.aload_n 0, 1) := by decide +kernel
theorem dX4_go_43 : decode cX4_go 43 = .ok (.aload_n 1, 1) := by decide +kernel
theorem dX4_go_44 : decode cX4_go 44 = .ok (.iload_n 2, 1) := by decide +kernel
theorem dX4_go_45 : decode cX4_go 45 = .ok (.invokevirtual 40, 3) := by decide +kernel
theorem dX4_go_48 : decode cX4_go 48 = .ok (.iastore, 1) := by decide +kernel
theorem dX4_go_49 : decode cX4_go 49 = .ok (.aload_n 0, 1) := by decide +kernel
theorem dX4_go_50 : decode cX4_go 50 = .ok (.aload_n 1, 1) := by decide +kernel
theorem dX4_go_51 : decode cX4_go 51 = .ok (.iload_n 2, 1) := by decide +kernel
theorem dX4_go_52 : decode cX4_go 52 = .ok (.invokevirtual 44, 3) := by decide +kernel
theorem dX4_go_55 : decode cX4_go 55 = .ok (.iinc 2 1, 3) := by decide +kernel
theorem dX4_go_58 : decode cX4_go 58 = .ok (.goto (-40), 3) := by decide +kernel
theorem dX4_go_61 : decode cX4_go 61 = .ok (.return_, 1) := by decide +kernel
theorem dX4_needsHelped_0 : decode cX4_needsHelped 0 = .ok (.iconst 0, 1) := by decide +kernel
theorem dX4_needsHelped_1 : decode cX4_needsHelped 1 = .ok (.istore_n 3, 1) := by decide +kernel
theorem dX4_needsHelped_2 : decode cX4_needsHelped 2 = .ok (.iconst 0, 1) := by decide +kernel
theorem dX4_needsHelped_3 : decode cX4_needsHelped 3 = .ok (.istore 4, 2) := by decide +kernel
theorem dX4_needsHelped_5 : decode cX4_needsHelped 5 = .ok (.iload 4, 2) := by decide +kernel
theorem dX4_needsHelped_7 : decode cX4_needsHelped 7 = .ok (.aload_n 1, 1) := by decide +kernel
theorem dX4_needsHelped_8 : decode cX4_needsHelped 8 = .ok (.getfield 30, 3) := by decide +kernel
theorem dX4_needsHelped_11 : decode cX4_needsHelped 11 = .ok (.if_icmp .ge 50, 3) := by decide +kernel
theorem dX4_needsHelped_14 : decode cX4_needsHelped 14 = .ok (.iload_n 2, 1) := by decide +kernel
theorem dX4_needsHelped_15 : decode cX4_needsHelped 15 = .ok (.iconst (-1), 1) := by decide +kernel
theorem dX4_needsHelped_16 : decode cX4_needsHelped 16 = .ok (.if_icmp .eq 14, 3) := by decide +kernel
theorem dX4_needsHelped_19 : decode cX4_needsHelped 19 = .ok (.aload_n 1, 1) := by decide +kernel
theorem dX4_needsHelped_20 : decode cX4_needsHelped 20 = .ok (.getfield 48, 3) := by decide +kernel
theorem dX4_needsHelped_23 : decode cX4_needsHelped 23 = .ok (.iload 4, 2) := by decide +kernel
theorem dX4_needsHelped_25 : decode cX4_needsHelped 25 = .ok (.iaload, 1) := by decide +kernel
theorem dX4_needsHelped_26 : decode cX4_needsHelped 26 = .ok (.iload_n 2, 1) := by decide +kernel
theorem dX4_needsHelped_27 : decode cX4_needsHelped 27 = .ok (.if_icmp .ne 7, 3) := by decide +kernel
theorem dX4_needsHelped_30 : decode cX4_needsHelped 30 = .ok (.iconst 1, 1) := by decide +kernel
theorem dX4_needsHelped_31 : decode cX4_needsHelped 31 = .ok (.goto 4, 3) := by decide +kernel
theorem dX4_needsHelped_34 : decode cX4_needsHelped 34 = .ok (.iconst 0, 1) := by decide +kernel
theorem dX4_needsHelped_35 : decode cX4_needsHelped 35 = .ok (.istore 5, 2) := by decide +kernel
theorem dX4_needsHelped_37 : decode cX4_needsHelped 37 = .ok (.iload 5, 2) := by decide +kernel
theorem dX4_needsHelped_39 : decode cX4_needsHelped 39 = .ok (.ifCond .eq 16, 3) := by decide +kernel
theorem dX4_needsHelped_42 : decode cX4_needsHelped 42 = .ok (.aload_n 0, 1) := by decide +kernel
theorem dX4_needsHelped_43 : decode cX4_needsHelped 43 = .ok (.getfield 15, 3) := by decide +kernel
theorem dX4_needsHelped_46 : decode cX4_needsHelped 46 = .ok (.iload 4, 2) := by decide +kernel
theorem dX4_needsHelped_48 : decode cX4_needsHelped 48 = .ok (.iaload, 1) := by decide +kernel
theorem dX4_needsHelped_49 : decode cX4_needsHelped 49 = .ok (.ifCond .eq 6, 3) := by decide +kernel
theorem dX4_needsHelped_52 : decode cX4_needsHelped 52 = .ok (.iinc 3 1, 3) := by decide +kernel
theorem dX4_needsHelped_55 : decode cX4_needsHelped 55 = .ok (.iinc 4 1, 3) := by decide +kernel
theorem dX4_needsHelped_58 : decode cX4_needsHelped 58 = .ok (.goto (-53), 3) := by decide +kernel
theorem dX4_needsHelped_61 : decode cX4_needsHelped 61 = .ok (.iload_n 3, 1) := by decide +kernel
theorem dX4_needsHelped_62 : decode cX4_needsHelped 62 = .ok (.ireturn, 1) := by decide +kernel
set_option maxRecDepth 20000 in
theorem ggX4_whoRings_X6_has : GoodIn wsX4_whoRings wsX6_has := goodIn_r _ [5] (by decide +kernel) (by decide +kernel)
set_option maxRecDepth 20000 in
theorem gX4_whoRings_X6_has_n54 : GoodIn wsX4_whoRings (wsX6_has) := ggX4_whoRings_X6_has
set_option maxRecDepth 20000 in
theorem ggX4_whoRings_X4_rings : GoodIn wsX4_whoRings wsX4_rings := goodIn_r _ [10, 11, 12, 13, 14, 15, 16, 17, 9, 18, 19, 20, 4, 21, 22, 23, 24, 25, 26, 27, 28, 29, 30, 31, 32, 33, 34, 35, 36, 37, 38, 39, 40, 41, 42, 43, 44, 45] (by decide +kernel) (by decide +kernel)
set_option maxRecDepth 20000 in
theorem gX4_whoRings_X4_rings : GoodIn wsX4_whoRings (wsV RX4 58 RX4 yX4_rings wsX4_rings) := goodIn_app (goodIn_of _ (by decide +kernel)) ggX4_whoRings_X4_rings
theorem dX4_whoRings_0 : decode cX4_whoRings 0 = .ok (.iconst 0, 1) := by decide +kernel
theorem dX4_whoRings_1 : decode cX4_whoRings 1 = .ok (.istore_n 3, 1) := by decide +kernel
theorem dX4_whoRings_2 : decode cX4_whoRings 2 = .ok (.iconst 0, 1) := by decide +kernel
theorem dX4_whoRings_3 : decode cX4_whoRings 3 = .ok (.istore 4, 2) := by decide +kernel
theorem dX4_whoRings_5 : decode cX4_whoRings 5 = .ok (.iload 4, 2) := by decide +kernel
theorem dX4_whoRings_7 : decode cX4_whoRings 7 = .ok (.aload_n 1, 1) := by decide +kernel
theorem dX4_whoRings_8 : decode cX4_whoRings 8 = .ok (.getfield 51, 3) := by decide +kernel
theorem dX4_whoRings_11 : decode cX4_whoRings 11 = .ok (.if_icmp .ge 41, 3) := by decide +kernel
theorem dX4_whoRings_14 : decode cX4_whoRings 14 = .ok (.aload_n 0, 1) := by decide +kernel
theorem dX4_whoRings_15 : decode cX4_whoRings 15 = .ok (.getfield 9, 3) := by decide +kernel
theorem dX4_whoRings_18 : decode cX4_whoRings 18 = .ok (.iload_n 2, 1) := by decide +kernel
theorem dX4_whoRings_19 : decode cX4_whoRings 19 = .ok (.iaload, 1) := by decide +kernel
theorem dX4_whoRings_20 : decode cX4_whoRings 20 = .ok (.iload 4, 2) := by decide +kernel
theorem dX4_whoRings_22 : decode cX4_whoRings 22 = .ok (.invokestatic 54, 3) := by decide +kernel
theorem dX4_whoRings_25 : decode cX4_whoRings 25 = .ok (.ifCond .eq 21, 3) := by decide +kernel
theorem dX4_whoRings_28 : decode cX4_whoRings 28 = .ok (.aload_n 0, 1) := by decide +kernel
theorem dX4_whoRings_29 : decode cX4_whoRings 29 = .ok (.aload_n 1, 1) := by decide +kernel
theorem dX4_whoRings_30 : decode cX4_whoRings 30 = .ok (.iload 4, 2) := by decide +kernel
theorem dX4_whoRings_32 : decode cX4_whoRings 32 = .ok (.iload_n 2, 1) := by decide +kernel
theorem dX4_whoRings_33 : decode cX4_whoRings 33 = .ok (.invokevirtual 58, 3) := by decide +kernel
theorem dX4_whoRings_36 : decode cX4_whoRings 36 = .ok (.ifCond .eq 10, 3) := by decide +kernel
theorem dX4_whoRings_39 : decode cX4_whoRings 39 = .ok (.iload_n 3, 1) := by decide +kernel
theorem dX4_whoRings_40 : decode cX4_whoRings 40 = .ok (.iconst 1, 1) := by decide +kernel
theorem dX4_whoRings_41 : decode cX4_whoRings 41 = .ok (.iload 4, 2) := by decide +kernel
theorem dX4_whoRings_43 : decode cX4_whoRings 43 = .ok (.ishl, 1) := by decide +kernel
theorem dX4_whoRings_44 : decode cX4_whoRings 44 = .ok (.ior, 1) := by decide +kernel
theorem dX4_whoRings_45 : decode cX4_whoRings 45 = .ok (.istore_n 3, 1) := by decide +kernel
theorem dX4_whoRings_46 : decode cX4_whoRings 46 = .ok (.iinc 4 1, 3) := by decide +kernel
theorem dX4_whoRings_49 : decode cX4_whoRings 49 = .ok (.goto (-44), 3) := by decide +kernel
theorem dX4_whoRings_52 : decode cX4_whoRings 52 = .ok (.iload_n 3, 1) := by decide +kernel
theorem dX4_whoRings_53 : decode cX4_whoRings 53 = .ok (.ireturn, 1) := by decide +kernel
set_option maxRecDepth 20000 in
theorem ggX4_rings_X4_wasRefused : GoodIn wsX4_rings wsX4_wasRefused := goodIn_r _ [9, 10, 11, 12, 13, 34, 35, 36, 37] (by decide +kernel) (by decide +kernel)
set_option maxRecDepth 20000 in
theorem gX4_rings_X4_wasRefused : GoodIn wsX4_rings (wsV RX4 65 RX4 yX4_wasRefused wsX4_wasRefused) := goodIn_app (goodIn_of _ (by decide +kernel)) ggX4_rings_X4_wasRefused
set_option maxRecDepth 20000 in
theorem ggX4_rings_X4_wasJustLetDown : GoodIn wsX4_rings wsX4_wasJustLetDown := goodIn_r _ [17, 1, 18, 19, 20, 21, 22, 23, 24, 25, 26, 27, 28, 29, 30, 31, 32, 33, 34, 35, 36, 37] (by decide +kernel) (by decide +kernel)
set_option maxRecDepth 20000 in
theorem gX4_rings_X4_wasJustLetDown : GoodIn wsX4_rings (wsV RX4 68 RX4 yX4_wasJustLetDown wsX4_wasJustLetDown) := goodIn_app (goodIn_of _ (by decide +kernel)) ggX4_rings_X4_wasJustLetDown
set_option maxRecDepth 20000 in
theorem ggX4_rings_X6_pair : GoodIn wsX4_rings wsX6_pair := goodIn_r _ [13] (by decide +kernel) (by decide +kernel)
set_option maxRecDepth 20000 in
theorem gX4_rings_X6_pair_n74 : GoodIn wsX4_rings (wsX6_pair) := ggX4_rings_X6_pair
theorem dX4_rings_0 : decode cX4_rings 0 = .ok (.aload_n 1, 1) := by decide +kernel
theorem dX4_rings_1 : decode cX4_rings 1 = .ok (.getfield 48, 3) := by decide +kernel
theorem dX4_rings_4 : decode cX4_rings 4 = .ok (.iload_n 3, 1) := by decide +kernel
theorem dX4_rings_5 : decode cX4_rings 5 = .ok (.iaload, 1) := by decide +kernel
theorem dX4_rings_6 : decode cX4_rings 6 = .ok (.istore 4, 2) := by decide +kernel
theorem dX4_rings_8 : decode cX4_rings 8 = .ok (.aload_n 1, 1) := by decide +kernel
theorem dX4_rings_9 : decode cX4_rings 9 = .ok (.getfield 62, 3) := by decide +kernel
theorem dX4_rings_12 : decode cX4_rings 12 = .ok (.iload_n 2, 1) := by decide +kernel
theorem dX4_rings_13 : decode cX4_rings 13 = .ok (.iaload, 1) := by decide +kernel
theorem dX4_rings_14 : decode cX4_rings 14 = .ok (.tableswitch 130 1 4 #[30, 46, 72, 99], 30) := by decide +kernel
theorem dX4_rings_44 : decode cX4_rings 44 = .ok (.aload_n 0, 1) := by decide +kernel
theorem dX4_rings_45 : decode cX4_rings 45 = .ok (.iload_n 2, 1) := by decide +kernel
theorem dX4_rings_46 : decode cX4_rings 46 = .ok (.iload 4, 2) := by decide +kernel
theorem dX4_rings_48 : decode cX4_rings 48 = .ok (.invokevirtual 65, 3) := by decide +kernel
theorem dX4_rings_51 : decode cX4_rings 51 = .ok (.ifCond .ne 7, 3) := by decide +kernel
theorem dX4_rings_54 : decode cX4_rings 54 = .ok (.iconst 1, 1) := by decide +kernel
theorem dX4_rings_55 : decode cX4_rings 55 = .ok (.goto 4, 3) := by decide +kernel
theorem dX4_rings_58 : decode cX4_rings 58 = .ok (.iconst 0, 1) := by decide +kernel
theorem dX4_rings_59 : decode cX4_rings 59 = .ok (.ireturn, 1) := by decide +kernel
theorem dX4_rings_60 : decode cX4_rings 60 = .ok (.aload_n 0, 1) := by decide +kernel
theorem dX4_rings_61 : decode cX4_rings 61 = .ok (.iload_n 2, 1) := by decide +kernel
theorem dX4_rings_62 : decode cX4_rings 62 = .ok (.iload 4, 2) := by decide +kernel
theorem dX4_rings_64 : decode cX4_rings 64 = .ok (.invokevirtual 65, 3) := by decide +kernel
theorem dX4_rings_67 : decode cX4_rings 67 = .ok (.ifCond .ne 17, 3) := by decide +kernel
theorem dX4_rings_70 : decode cX4_rings 70 = .ok (.aload_n 0, 1) := by decide +kernel
theorem dX4_rings_71 : decode cX4_rings 71 = .ok (.aload_n 1, 1) := by decide +kernel
theorem dX4_rings_72 : decode cX4_rings 72 = .ok (.iload_n 2, 1) := by decide +kernel
theorem dX4_rings_73 : decode cX4_rings 73 = .ok (.iload_n 3, 1) := by decide +kernel
theorem dX4_rings_74 : decode cX4_rings 74 = .ok (.invokevirtual 68, 3) := by decide +kernel
theorem dX4_rings_77 : decode cX4_rings 77 = .ok (.ifCond .ne 7, 3) := by decide +kernel
theorem dX4_rings_80 : decode cX4_rings 80 = .ok (.iconst 1, 1) := by decide +kernel
theorem dX4_rings_81 : decode cX4_rings 81 = .ok (.goto 4, 3) := by decide +kernel
theorem dX4_rings_84 : decode cX4_rings 84 = .ok (.iconst 0, 1) := by decide +kernel
theorem dX4_rings_85 : decode cX4_rings 85 = .ok (.ireturn, 1) := by decide +kernel
theorem dX4_rings_86 : decode cX4_rings 86 = .ok (.aload_n 1, 1) := by decide +kernel
theorem dX4_rings_87 : decode cX4_rings 87 = .ok (.getfield 71, 3) := by decide +kernel
theorem dX4_rings_90 : decode cX4_rings 90 = .ok (.iload_n 2, 1) := by decide +kernel
theorem dX4_rings_91 : decode cX4_rings 91 = .ok (.iaload, 1) := by decide +kernel
theorem dX4_rings_92 : decode cX4_rings 92 = .ok (.iload 4, 2) := by decide +kernel
theorem dX4_rings_94 : decode cX4_rings 94 = .ok (.if_icmp .eq 13, 3) := by decide +kernel
theorem dX4_rings_97 : decode cX4_rings 97 = .ok (.aload_n 0, 1) := by decide +kernel
theorem dX4_rings_98 : decode cX4_rings 98 = .ok (.iload_n 2, 1) := by decide +kernel
theorem dX4_rings_99 : decode cX4_rings 99 = .ok (.iload 4, 2) := by decide +kernel
theorem dX4_rings_101 : decode cX4_rings 101 = .ok (.invokevirtual 65, 3) := by decide +kernel
theorem dX4_rings_104 : decode cX4_rings 104 = .ok (.ifCond .ne 7, 3) := by decide +kernel
theorem dX4_rings_107 : decode cX4_rings 107 = .ok (.iconst 1, 1) := by decide +kernel
theorem dX4_rings_108 : decode cX4_rings 108 = .ok (.goto 4, 3) := by decide +kernel
theorem dX4_rings_111 : decode cX4_rings 111 = .ok (.iconst 0, 1) := by decide +kernel
theorem dX4_rings_112 : decode cX4_rings 112 = .ok (.ireturn, 1) := by decide +kernel
theorem dX4_rings_113 : decode cX4_rings 113 = .ok (.aload_n 0, 1) := by decide +kernel
theorem dX4_rings_114 : decode cX4_rings 114 = .ok (.getfield 18, 3) := by decide +kernel
theorem dX4_rings_117 : decode cX4_rings 117 = .ok (.iload_n 2, 1) := by decide +kernel
theorem dX4_rings_118 : decode cX4_rings 118 = .ok (.iload 4, 2) := by decide +kernel
theorem dX4_rings_120 : decode cX4_rings 120 = .ok (.invokestatic 74, 3) := by decide +kernel
theorem dX4_rings_123 : decode cX4_rings 123 = .ok (.iaload, 1) := by decide +kernel
theorem dX4_rings_124 : decode cX4_rings 124 = .ok (.aload_n 0, 1) := by decide +kernel
theorem dX4_rings_125 : decode cX4_rings 125 = .ok (.getfield 18, 3) := by decide +kernel
theorem dX4_rings_128 : decode cX4_rings 128 = .ok (.iload 4, 2) := by decide +kernel
theorem dX4_rings_130 : decode cX4_rings 130 = .ok (.iload_n 2, 1) := by decide +kernel
theorem dX4_rings_131 : decode cX4_rings 131 = .ok (.invokestatic 74, 3) := by decide +kernel
theorem dX4_rings_134 : decode cX4_rings 134 = .ok (.iaload, 1) := by decide +kernel
theorem dX4_rings_135 : decode cX4_rings 135 = .ok (.if_icmp .ge 7, 3) := by decide +kernel
theorem dX4_rings_138 : decode cX4_rings 138 = .ok (.iconst 1, 1) := by decide +kernel
theorem dX4_rings_139 : decode cX4_rings 139 = .ok (.goto 4, 3) := by decide +kernel
theorem dX4_rings_142 : decode cX4_rings 142 = .ok (.iconst 0, 1) := by decide +kernel
theorem dX4_rings_143 : decode cX4_rings 143 = .ok (.ireturn, 1) := by decide +kernel
theorem dX4_rings_144 : decode cX4_rings 144 = .ok (.iconst 1, 1) := by decide +kernel
theorem dX4_rings_145 : decode cX4_rings 145 = .ok (.ireturn, 1) := by decide +kernel
set_option maxRecDepth 20000 in
theorem ggX4_wasRefused_X6_pair : GoodIn wsX4_wasRefused wsX6_pair := goodIn_r _ [4] (by decide +kernel) (by decide +kernel)
set_option maxRecDepth 20000 in
theorem gX4_wasRefused_X6_pair_n74 : GoodIn wsX4_wasRefused (wsX6_pair) := ggX4_wasRefused_X6_pair
theorem dX4_wasRefused_0 : decode cX4_wasRefused 0 = .ok (.aload_n 0, 1) := by decide +kernel
theorem dX4_wasRefused_1 : decode cX4_wasRefused 1 = .ok (.getfield 21, 3) := by decide +kernel
theorem dX4_wasRefused_4 : decode cX4_wasRefused 4 = .ok (.iload_n 2, 1) := by decide +kernel
theorem dX4_wasRefused_5 : decode cX4_wasRefused 5 = .ok (.iload_n 1, 1) := by decide +kernel
theorem dX4_wasRefused_6 : decode cX4_wasRefused 6 = .ok (.invokestatic 74, 3) := by decide +kernel
theorem dX4_wasRefused_9 : decode cX4_wasRefused 9 = .ok (.iaload, 1) := by decide +kernel
theorem dX4_wasRefused_10 : decode cX4_wasRefused 10 = .ok (.ifCond .ne 7, 3) := by decide +kernel
theorem dX4_wasRefused_13 : decode cX4_wasRefused 13 = .ok (.iconst 1, 1) := by decide +kernel
theorem dX4_wasRefused_14 : decode cX4_wasRefused 14 = .ok (.goto 4, 3) := by decide +kernel
theorem dX4_wasRefused_17 : decode cX4_wasRefused 17 = .ok (.iconst 0, 1) := by decide +kernel
theorem dX4_wasRefused_18 : decode cX4_wasRefused 18 = .ok (.ireturn, 1) := by decide +kernel
theorem dX4_wasJustLetDown_0 : decode cX4_wasJustLetDown 0 = .ok (.iload_n 3, 1) := by decide +kernel
theorem dX4_wasJustLetDown_1 : decode cX4_wasJustLetDown 1 = .ok (.ifCond .le 30, 3) := by decide +kernel
theorem dX4_wasJustLetDown_4 : decode cX4_wasJustLetDown 4 = .ok (.aload_n 1, 1) := by decide +kernel
theorem dX4_wasJustLetDown_5 : decode cX4_wasJustLetDown 5 = .ok (.getfield 48, 3) := by decide +kernel
theorem dX4_wasJustLetDown_8 : decode cX4_wasJustLetDown 8 = .ok (.iload_n 3, 1) := by decide +kernel
theorem dX4_wasJustLetDown_9 : decode cX4_wasJustLetDown 9 = .ok (.iconst 1, 1) := by decide +kernel
theorem dX4_wasJustLetDown_10 : decode cX4_wasJustLetDown 10 = .ok (.isub, 1) := by decide +kernel
theorem dX4_wasJustLetDown_11 : decode cX4_wasJustLetDown 11 = .ok (.iaload, 1) := by decide +kernel
theorem dX4_wasJustLetDown_12 : decode cX4_wasJustLetDown 12 = .ok (.iload_n 2, 1) := by decide +kernel
theorem dX4_wasJustLetDown_13 : decode cX4_wasJustLetDown 13 = .ok (.if_icmp .ne 18, 3) := by decide +kernel
theorem dX4_wasJustLetDown_16 : decode cX4_wasJustLetDown 16 = .ok (.aload_n 0, 1) := by decide +kernel
theorem dX4_wasJustLetDown_17 : decode cX4_wasJustLetDown 17 = .ok (.getfield 15, 3) := by decide +kernel
theorem dX4_wasJustLetDown_20 : decode cX4_wasJustLetDown 20 = .ok (.iload_n 3, 1) := by decide +kernel
theorem dX4_wasJustLetDown_21 : decode cX4_wasJustLetDown 21 = .ok (.iconst 1, 1) := by decide +kernel
theorem dX4_wasJustLetDown_22 : decode cX4_wasJustLetDown 22 = .ok (.isub, 1) := by decide +kernel
theorem dX4_wasJustLetDown_23 : decode cX4_wasJustLetDown 23 = .ok (.iaload, 1) := by decide +kernel
theorem dX4_wasJustLetDown_24 : decode cX4_wasJustLetDown 24 = .ok (.ifCond .ne 7, 3) := by decide +kernel
theorem dX4_wasJustLetDown_27 : decode cX4_wasJustLetDown 27 = .ok (.iconst 1, 1) := by decide +kernel
theorem dX4_wasJustLetDown_28 : decode cX4_wasJustLetDown 28 = .ok (.goto 4, 3) := by decide +kernel
theorem dX4_wasJustLetDown_31 : decode cX4_wasJustLetDown 31 = .ok (.iconst 0, 1) := by decide +kernel
theorem dX4_wasJustLetDown_32 : decode cX4_wasJustLetDown 32 = .ok (.ireturn, 1) := by decide +kernel
set_option maxRecDepth 20000 in
theorem ggX4_remember_X6_has : GoodIn wsX4_remember wsX6_has := goodIn_r _ [9] (by decide +kernel) (by decide +kernel)
set_option maxRecDepth 20000 in
theorem gX4_remember_X6_has_n54 : GoodIn wsX4_remember (wsX6_has) := ggX4_remember_X6_has
set_option maxRecDepth 20000 in
theorem ggX4_remember_X6_pair : GoodIn wsX4_remember wsX6_pair := goodIn_r _ [11] (by decide +kernel) (by decide +kernel)
set_option maxRecDepth 20000 in
theorem gX4_remember_X6_pair_n74 : GoodIn wsX4_remember (wsX6_pair) := ggX4_remember_X6_pair
theorem dX4_remember_0 : decode cX4_remember 0 = .ok (.aload_n 1, 1) := by decide +kernel
theorem dX4_remember_1 : decode cX4_remember 1 = .ok (.getfield 48, 3) := by decide +kernel
theorem dX4_remember_4 : decode cX4_remember 4 = .ok (.iload_n 2, 1) := by decide +kernel
theorem dX4_remember_5 : decode cX4_remember 5 = .ok (.iaload, 1) := by decide +kernel
theorem dX4_remember_6 : decode cX4_remember 6 = .ok (.istore_n 3, 1) := by decide +kernel
theorem dX4_remember_7 : decode cX4_remember 7 = .ok (.iconst 0, 1) := by decide +kernel
theorem dX4_remember_8 : decode cX4_remember 8 = .ok (.istore 4, 2) := by decide +kernel
theorem dX4_remember_10 : decode cX4_remember 10 = .ok (.iload 4, 2) := by decide +kernel
theorem dX4_remember_12 : decode cX4_remember 12 = .ok (.aload_n 1, 1) := by decide +kernel
theorem dX4_remember_13 : decode cX4_remember 13 = .ok (.getfield 51, 3) := by decide +kernel
theorem dX4_remember_16 : decode cX4_remember 16 = .ok (.if_icmp .ge 73, 3) := by decide +kernel
theorem dX4_remember_19 : decode cX4_remember 19 = .ok (.aload_n 0, 1) := by decide +kernel
theorem dX4_remember_20 : decode cX4_remember 20 = .ok (.getfield 9, 3) := by decide +kernel
theorem dX4_remember_23 : decode cX4_remember 23 = .ok (.iload_n 2, 1) := by decide +kernel
theorem dX4_remember_24 : decode cX4_remember 24 = .ok (.iaload, 1) := by decide +kernel
theorem dX4_remember_25 : decode cX4_remember 25 = .ok (.iload 4, 2) := by decide +kernel
theorem dX4_remember_27 : decode cX4_remember 27 = .ok (.invokestatic 54, 3) := by decide +kernel
theorem dX4_remember_30 : decode cX4_remember 30 = .ok (.ifCond .eq 53, 3) := by decide +kernel
theorem dX4_remember_33 : decode cX4_remember 33 = .ok (.aload_n 0, 1) := by decide +kernel
theorem dX4_remember_34 : decode cX4_remember 34 = .ok (.getfield 15, 3) := by decide +kernel
theorem dX4_remember_37 : decode cX4_remember 37 = .ok (.iload_n 2, 1) := by decide +kernel
theorem dX4_remember_38 : decode cX4_remember 38 = .ok (.iaload, 1) := by decide +kernel
theorem dX4_remember_39 : decode cX4_remember 39 = .ok (.iload 4, 2) := by decide +kernel
theorem dX4_remember_41 : decode cX4_remember 41 = .ok (.invokestatic 54, 3) := by decide +kernel
theorem dX4_remember_44 : decode cX4_remember 44 = .ok (.ifCond .eq 7, 3) := by decide +kernel
theorem dX4_remember_47 : decode cX4_remember 47 = .ok (.iconst 1, 1) := by decide +kernel
theorem dX4_remember_48 : decode cX4_remember 48 = .ok (.goto 4, 3) := by decide +kernel
theorem dX4_remember_51 : decode cX4_remember 51 = .ok (.iconst 0, 1) := by decide +kernel
theorem dX4_remember_52 : decode cX4_remember 52 = .ok (.istore 5, 2) := by decide +kernel
theorem dX4_remember_54 : decode cX4_remember 54 = .ok (.aload_n 0, 1) := by decide +kernel
theorem dX4_remember_55 : decode cX4_remember 55 = .ok (.getfield 18, 3) := by decide +kernel
theorem dX4_remember_58 : decode cX4_remember 58 = .ok (.iload 4, 2) := by decide +kernel
theorem dX4_remember_60 : decode cX4_remember 60 = .ok (.iload_n 3, 1) := by decide +kernel
theorem dX4_remember_61 : decode cX4_remember 61 = .ok (.invokestatic 74, 3) := by decide +kernel
theorem dX4_remember_64 : decode cX4_remember 64 = .ok (.dup2, 1) := by decide +kernel
theorem dX4_remember_65 : decode cX4_remember 65 = .ok (.iaload, 1) := by decide +kernel
theorem dX4_remember_66 : decode cX4_remember 66 = .ok (.iload 5, 2) := by decide +kernel
theorem dX4_remember_68 : decode cX4_remember 68 = .ok (.iadd, 1) := by decide +kernel
theorem dX4_remember_69 : decode cX4_remember 69 = .ok (.iastore, 1) := by decide +kernel
theorem dX4_remember_70 : decode cX4_remember 70 = .ok (.aload_n 0, 1) := by decide +kernel
theorem dX4_remember_71 : decode cX4_remember 71 = .ok (.getfield 21, 3) := by decide +kernel
theorem dX4_remember_74 : decode cX4_remember 74 = .ok (.iload 4, 2) := by decide +kernel
theorem dX4_remember_76 : decode cX4_remember 76 = .ok (.iload_n 3, 1) := by decide +kernel
theorem dX4_remember_77 : decode cX4_remember 77 = .ok (.invokestatic 74, 3) := by decide +kernel
theorem dX4_remember_80 : decode cX4_remember 80 = .ok (.iload 5, 2) := by decide +kernel
theorem dX4_remember_82 : decode cX4_remember 82 = .ok (.iastore, 1) := by decide +kernel
theorem dX4_remember_83 : decode cX4_remember 83 = .ok (.iinc 4 1, 3) := by decide +kernel
theorem dX4_remember_86 : decode cX4_remember 86 = .ok (.goto (-76), 3) := by decide +kernel
theorem dX4_remember_89 : decode cX4_remember 89 = .ok (.return_, 1) := by decide +kernel
theorem dX5_init_0 : decode cX5_init 0 = .ok (.aload_n 0, 1) := by decide +kernel
theorem dX5_init_1 : decode cX5_init 1 = .ok (.invokespecial 3, 3) := by decide +kernel
theorem dX5_init_4 : decode cX5_init 4 = .ok (.aload_n 0, 1) := by decide +kernel
theorem dX5_init_5 : decode cX5_init 5 = .ok (.bipush 36, 2) := by decide +kernel
theorem dX5_init_7 : decode cX5_init 7 = .ok (.newarray .int, 2) := by decide +kernel
theorem dX5_init_9 : decode cX5_init 9 = .ok (.putfield 9, 3) := by decide +kernel
theorem dX5_init_12 : decode cX5_init 12 = .ok (.return_, 1) := by decide +kernel
set_option maxRecDepth 20000 in
theorem ggX5_go_J7_fill_53178 : GoodIn wsX5_go wsJ7_fill_53178 := goodIn_r _ [8] (by decide +kernel) (by decide +kernel)
set_option maxRecDepth 20000 in
theorem gX5_go_J7_fill_53178 : GoodIn wsX5_go (va_wsS RX5 15 yJ7_fill_53178 wsJ7_fill_53178) := goodIn_app (goodIn_of _ (by decide +kernel)) ggX5_go_J7_fill_53178
set_option maxRecDepth 20000 in
theorem ggX5_go_X6_pair : GoodIn wsX5_go wsX6_pair := goodIn_r _ [11] (by decide +kernel) (by decide +kernel)
set_option maxRecDepth 20000 in
theorem gX5_go_X6_pair_n33 : GoodIn wsX5_go (wsX6_pair) := ggX5_go_X6_pair
set_option maxRecDepth 20000 in
theorem ggX5_go_J6_bitCount_0f7a4 : GoodIn wsX5_go wsJ6_bitCount_0f7a4 := goodIn_r _ [15, 16, 17, 18] (by decide +kernel) (by decide +kernel)
set_option maxRecDepth 20000 in
theorem gX5_go_J6_bitCount_0f7a4 : GoodIn wsX5_go (va_wsS RX5 37 yJ6_bitCount_0f7a4 wsJ6_bitCount_0f7a4) := goodIn_app (goodIn_of _ (by decide +kernel)) ggX5_go_J6_bitCount_0f7a4
set_option maxRecDepth 20000 in
theorem ggX5_go_X5_meetsAll : GoodIn wsX5_go wsX5_meetsAll := goodIn_r _ [23, 24, 25, 26, 27, 22, 28, 29, 30, 31, 32, 33, 34, 1, 35, 10, 36, 9, 11, 38, 39, 40, 41, 42, 43, 44, 45, 46, 47, 48, 49, 50, 51, 52, 37] (by decide +kernel) (by decide +kernel)
set_option maxRecDepth 20000 in
theorem gX5_go_X5_meetsAll : GoodIn wsX5_go (wsV RX5 43 RX5 yX5_meetsAll wsX5_meetsAll) := goodIn_app (goodIn_of _ (by decide +kernel)) ggX5_go_X5_meetsAll
theorem dX5_go_0 : decode cX5_go 0 = .ok (.aload_n 0, 1) := by decide +kernel
theorem dX5_go_1 : decode cX5_go 1 = .ok (.getfield 9, 3) := by decide +kernel
theorem dX5_go_4 : decode cX5_go 4 = .ok (.iconst 0, 1) := by decide +kernel
theorem dX5_go_5 : decode cX5_go 5 = .ok (.invokestatic 15, 3) := by decide +kernel
theorem dX5_go_8 : decode cX5_go 8 = .ok (.iconst 0, 1) := by decide +kernel
theorem dX5_go_9 : decode cX5_go 9 = .ok (.istore_n 2, 1) := by decide +kernel
theorem dX5_go_10 : decode cX5_go 10 = .ok (.iload_n 2, 1) := by decide +kernel
theorem dX5_go_11 : decode cX5_go 11 = .ok (.aload_n 1, 1) := by decide +kernel
theorem dX5_go_12 : decode cX5_go 12 = .ok (.getfield 21, 3) := by decide +kernel
theorem dX5_go_15 : decode cX5_go 15 = .ok (.if_icmp .ge 35, 3) := by decide +kernel
theorem dX5_go_18 : decode cX5_go 18 = .ok (.aload_n 0, 1) := by decide +kernel
theorem dX5_go_19 : decode cX5_go 19 = .ok (.getfield 9, 3) := by decide +kernel
theorem dX5_go_22 : decode cX5_go 22 = .ok (.aload_n 1, 1) := by decide +kernel
theorem dX5_go_23 : decode cX5_go 23 = .ok (.getfield 27, 3) := by decide +kernel
theorem dX5_go_26 : decode cX5_go 26 = .ok (.iload_n 2, 1) := by decide +kernel
theorem dX5_go_27 : decode cX5_go 27 = .ok (.iaload, 1) := by decide +kernel
theorem dX5_go_28 : decode cX5_go 28 = .ok (.aload_n 1, 1) := by decide +kernel
theorem dX5_go_29 : decode cX5_go 29 = .ok (.getfield 30, 3) := by decide +kernel
theorem dX5_go_32 : decode cX5_go 32 = .ok (.iload_n 2, 1) := by decide +kernel
theorem dX5_go_33 : decode cX5_go 33 = .ok (.iaload, 1) := by decide +kernel
theorem dX5_go_34 : decode cX5_go 34 = .ok (.invokestatic 33, 3) := by decide +kernel
theorem dX5_go_37 : decode cX5_go 37 = .ok (.dup2, 1) := by decide +kernel
theorem dX5_go_38 : decode cX5_go 38 = .ok (.iaload, 1) := by decide +kernel
theorem dX5_go_39 : decode cX5_go 39 = .ok (.iconst 1, 1) := by decide +kernel
theorem dX5_go_40 : decode cX5_go 40 = .ok (.iload_n 2, 1) := by decide +kernel
theorem dX5_go_41 : decode cX5_go 41 = .ok (.ishl, 1) := by decide +kernel
theorem dX5_go_42 : decode cX5_go 42 = .ok (.ior, 1) := by decide +kernel
theorem dX5_go_43 : decode cX5_go 43 = .ok (.iastore, 1) := by decide +kernel
theorem dX5_go_44 : decode cX5_go 44 = .ok (.iinc 2 1, 3) := by decide +kernel
theorem dX5_go_47 : decode cX5_go 47 = .ok (.goto (-37), 3) := by decide +kernel
theorem dX5_go_50 : decode cX5_go 50 = .ok (.iconst (-1), 1) := by decide +kernel
theorem dX5_go_51 : decode cX5_go 51 = .ok (.istore_n 2, 1) := by decide +kernel
theorem dX5_go_52 : decode cX5_go 52 = .ok (.bipush 9, 2) := by decide +kernel
theorem dX5_go_54 : decode cX5_go 54 = .ok (.istore_n 3, 1) := by decide +kernel
theorem dX5_go_55 : decode cX5_go 55 = .ok (.iconst 0, 1) := by decide +kernel
theorem dX5_go_56 : decode cX5_go 56 = .ok (.istore 4, 2) := by decide +kernel
theorem dX5_go_58 : decode cX5_go 58 = .ok (.iload 4, 2) := by decide +kernel
theorem dX5_go_60 : decode cX5_go 60 = .ok (.iconst 1, 1) := by decide +kernel
theorem dX5_go_61 : decode cX5_go 61 = .ok (.aload_n 1, 1) := by decide +kernel
theorem dX5_go_62 : decode cX5_go 62 = .ok (.getfield 21, 3) := by decide +kernel
theorem dX5_go_65 : decode cX5_go 65 = .ok (.ishl, 1) := by decide +kernel
theorem dX5_go_66 : decode cX5_go 66 = .ok (.if_icmp .ge 37, 3) := by decide +kernel
theorem dX5_go_69 : decode cX5_go 69 = .ok (.iload 4, 2) := by decide +kernel
theorem dX5_go_71 : decode cX5_go 71 = .ok (.invokestatic 37, 3) := by decide +kernel
theorem dX5_go_74 : decode cX5_go 74 = .ok (.iload_n 3, 1) := by decide +kernel
theorem dX5_go_75 : decode cX5_go 75 = .ok (.if_icmp .ge 22, 3) := by decide +kernel
theorem dX5_go_78 : decode cX5_go 78 = .ok (.aload_n 0, 1) := by decide +kernel
theorem dX5_go_79 : decode cX5_go 79 = .ok (.aload_n 1, 1) := by decide +kernel
theorem dX5_go_80 : decode cX5_go 80 = .ok (.iload 4, 2) := by decide +kernel
theorem dX5_go_82 : decode cX5_go 82 = .ok (.invokevirtual 43, 3) := by decide +kernel
theorem dX5_go_85 : decode cX5_go 85 = .ok (.ifCond .eq 12, 3) := by decide +kernel
theorem dX5_go_88 : decode cX5_go 88 = .ok (.iload 4, 2) := by decide +kernel
theorem dX5_go_90 : decode cX5_go 90 = .ok (.istore_n 2, 1) := by decide +kernel
theorem dX5_go_91 : decode cX5_go 91 = .ok (.iload 4, 2) := by decide +kernel
theorem dX5_go_93 : decode cX5_go 93 = .ok (.invokestatic 37, 3) := by decide +kernel
theorem dX5_go_96 : decode cX5_go 96 = .ok (.istore_n 3, 1) := by decide +kernel
theorem dX5_go_97 : decode cX5_go 97 = .ok (.iinc 4 1, 3) := by decide +kernel
theorem dX5_go_100 : decode cX5_go 100 = .ok (.goto (-42), 3) := by decide +kernel
theorem dX5_go_103 : decode cX5_go 103 = .ok (.iload_n 2, 1) := by decide +kernel
theorem dX5_go_104 : decode cX5_go 104 = .ok (.ireturn, 1) := by decide +kernel
set_option maxRecDepth 20000 in
theorem ggX5_meetsAll_X5_meetsOne : GoodIn wsX5_meetsAll wsX5_meetsOne := goodIn_r _ [6, 7, 8, 9, 10, 11, 12, 13, 14, 15, 16, 17, 18, 19, 20, 21, 22, 23, 24, 25, 26, 27, 28, 29, 30, 31, 32, 33, 34] (by decide +kernel) (by decide +kernel)
set_option maxRecDepth 20000 in
theorem gX5_meetsAll_X5_meetsOne : GoodIn wsX5_meetsAll (wsV RX5 50 RX5 yX5_meetsOne wsX5_meetsOne) := goodIn_app (goodIn_of _ (by decide +kernel)) ggX5_meetsAll_X5_meetsOne
theorem dX5_meetsAll_0 : decode cX5_meetsAll 0 = .ok (.iconst 0, 1) := by decide +kernel
theorem dX5_meetsAll_1 : decode cX5_meetsAll 1 = .ok (.istore_n 3, 1) := by decide +kernel
theorem dX5_meetsAll_2 : decode cX5_meetsAll 2 = .ok (.iload_n 3, 1) := by decide +kernel
theorem dX5_meetsAll_3 : decode cX5_meetsAll 3 = .ok (.aload_n 1, 1) := by decide +kernel
theorem dX5_meetsAll_4 : decode cX5_meetsAll 4 = .ok (.getfield 47, 3) := by decide +kernel
theorem dX5_meetsAll_7 : decode cX5_meetsAll 7 = .ok (.if_icmp .ge 21, 3) := by decide +kernel
theorem dX5_meetsAll_10 : decode cX5_meetsAll 10 = .ok (.aload_n 0, 1) := by decide +kernel
theorem dX5_meetsAll_11 : decode cX5_meetsAll 11 = .ok (.aload_n 1, 1) := by decide +kernel
theorem dX5_meetsAll_12 : decode cX5_meetsAll 12 = .ok (.iload_n 3, 1) := by decide +kernel
theorem dX5_meetsAll_13 : decode cX5_meetsAll 13 = .ok (.iload_n 2, 1) := by decide +kernel
theorem dX5_meetsAll_14 : decode cX5_meetsAll 14 = .ok (.invokevirtual 50, 3) := by decide +kernel
theorem dX5_meetsAll_17 : decode cX5_meetsAll 17 = .ok (.ifCond .ne 5, 3) := by decide +kernel
theorem dX5_meetsAll_20 : decode cX5_meetsAll 20 = .ok (.iconst 0, 1) := by decide +kernel
theorem dX5_meetsAll_21 : decode cX5_meetsAll 21 = .ok (.ireturn, 1) := by decide +kernel
theorem dX5_meetsAll_22 : decode cX5_meetsAll 22 = .ok (.iinc 3 1, 3) := by decide +kernel
theorem dX5_meetsAll_25 : decode cX5_meetsAll 25 = .ok (.goto (-23), 3) := by decide +kernel
theorem dX5_meetsAll_28 : decode cX5_meetsAll 28 = .ok (.iconst 1, 1) := by decide +kernel
theorem dX5_meetsAll_29 : decode cX5_meetsAll 29 = .ok (.ireturn, 1) := by decide +kernel
set_option maxRecDepth 20000 in
theorem ggX5_meetsOne_X6_has : GoodIn wsX5_meetsOne wsX6_has := goodIn_r _ [10] (by decide +kernel) (by decide +kernel)
set_option maxRecDepth 20000 in
theorem gX5_meetsOne_X6_has_n66 : GoodIn wsX5_meetsOne (wsX6_has) := ggX5_meetsOne_X6_has
set_option maxRecDepth 20000 in
theorem ggX5_meetsOne_X6_pair : GoodIn wsX5_meetsOne wsX6_pair := goodIn_r _ [12] (by decide +kernel) (by decide +kernel)
set_option maxRecDepth 20000 in
theorem gX5_meetsOne_X6_pair_n33 : GoodIn wsX5_meetsOne (wsX6_pair) := ggX5_meetsOne_X6_pair
theorem dX5_meetsOne_0 : decode cX5_meetsOne 0 = .ok (.aload_n 1, 1) := by decide +kernel
theorem dX5_meetsOne_1 : decode cX5_meetsOne 1 = .ok (.getfield 54, 3) := by decide +kernel
theorem dX5_meetsOne_4 : decode cX5_meetsOne 4 = .ok (.iload_n 2, 1) := by decide +kernel
theorem dX5_meetsOne_5 : decode cX5_meetsOne 5 = .ok (.iaload, 1) := by decide +kernel
theorem dX5_meetsOne_6 : decode cX5_meetsOne 6 = .ok (.istore 4, 2) := by decide +kernel
theorem dX5_meetsOne_8 : decode cX5_meetsOne 8 = .ok (.iconst 0, 1) := by decide +kernel
theorem dX5_meetsOne_9 : decode cX5_meetsOne 9 = .ok (.istore 5, 2) := by decide +kernel
theorem dX5_meetsOne_11 : decode cX5_meetsOne 11 = .ok (.iload 5, 2) := by decide +kernel
theorem dX5_meetsOne_13 : decode cX5_meetsOne 13 = .ok (.aload_n 1, 1) := by decide +kernel
theorem dX5_meetsOne_14 : decode cX5_meetsOne 14 = .ok (.getfield 57, 3) := by decide +kernel
theorem dX5_meetsOne_17 : decode cX5_meetsOne 17 = .ok (.if_icmp .ge 81, 3) := by decide +kernel
theorem dX5_meetsOne_20 : decode cX5_meetsOne 20 = .ok (.aload_n 1, 1) := by decide +kernel
theorem dX5_meetsOne_21 : decode cX5_meetsOne 21 = .ok (.getfield 60, 3) := by decide +kernel
theorem dX5_meetsOne_24 : decode cX5_meetsOne 24 = .ok (.iload_n 2, 1) := by decide +kernel
theorem dX5_meetsOne_25 : decode cX5_meetsOne 25 = .ok (.iaload, 1) := by decide +kernel
theorem dX5_meetsOne_26 : decode cX5_meetsOne 26 = .ok (.aload_n 1, 1) := by decide +kernel
theorem dX5_meetsOne_27 : decode cX5_meetsOne 27 = .ok (.getfield 63, 3) := by decide +kernel
theorem dX5_meetsOne_30 : decode cX5_meetsOne 30 = .ok (.iload 5, 2) := by decide +kernel
theorem dX5_meetsOne_32 : decode cX5_meetsOne 32 = .ok (.iaload, 1) := by decide +kernel
theorem dX5_meetsOne_33 : decode cX5_meetsOne 33 = .ok (.invokestatic 66, 3) := by decide +kernel
theorem dX5_meetsOne_36 : decode cX5_meetsOne 36 = .ok (.istore 6, 2) := by decide +kernel
theorem dX5_meetsOne_38 : decode cX5_meetsOne 38 = .ok (.aload_n 1, 1) := by decide +kernel
theorem dX5_meetsOne_39 : decode cX5_meetsOne 39 = .ok (.getfield 70, 3) := by decide +kernel
theorem dX5_meetsOne_42 : decode cX5_meetsOne 42 = .ok (.iload 5, 2) := by decide +kernel
theorem dX5_meetsOne_44 : decode cX5_meetsOne 44 = .ok (.iconst 4, 1) := by decide +kernel
theorem dX5_meetsOne_45 : decode cX5_meetsOne 45 = .ok (.imul, 1) := by decide +kernel
theorem dX5_meetsOne_46 : decode cX5_meetsOne 46 = .ok (.aload_n 1, 1) := by decide +kernel
theorem dX5_meetsOne_47 : decode cX5_meetsOne 47 = .ok (.getfield 73, 3) := by decide +kernel
theorem dX5_meetsOne_50 : decode cX5_meetsOne 50 = .ok (.iload_n 2, 1) := by decide +kernel
theorem dX5_meetsOne_51 : decode cX5_meetsOne 51 = .ok (.iaload, 1) := by decide +kernel
theorem dX5_meetsOne_52 : decode cX5_meetsOne 52 = .ok (.iadd, 1) := by decide +kernel
theorem dX5_meetsOne_53 : decode cX5_meetsOne 53 = .ok (.iaload, 1) := by decide +kernel
theorem dX5_meetsOne_54 : decode cX5_meetsOne 54 = .ok (.iload 4, 2) := by decide +kernel
theorem dX5_meetsOne_56 : decode cX5_meetsOne 56 = .ok (.invokestatic 66, 3) := by decide +kernel
theorem dX5_meetsOne_59 : decode cX5_meetsOne 59 = .ok (.istore 7, 2) := by decide +kernel
theorem dX5_meetsOne_61 : decode cX5_meetsOne 61 = .ok (.iload 6, 2) := by decide +kernel
theorem dX5_meetsOne_63 : decode cX5_meetsOne 63 = .ok (.ifCond .eq 29, 3) := by decide +kernel
theorem dX5_meetsOne_66 : decode cX5_meetsOne 66 = .ok (.iload 7, 2) := by decide +kernel
theorem dX5_meetsOne_68 : decode cX5_meetsOne 68 = .ok (.ifCond .eq 24, 3) := by decide +kernel
theorem dX5_meetsOne_71 : decode cX5_meetsOne 71 = .ok (.aload_n 0, 1) := by decide +kernel
theorem dX5_meetsOne_72 : decode cX5_meetsOne 72 = .ok (.getfield 9, 3) := by decide +kernel
theorem dX5_meetsOne_75 : decode cX5_meetsOne 75 = .ok (.iload 5, 2) := by decide +kernel
theorem dX5_meetsOne_77 : decode cX5_meetsOne 77 = .ok (.iload 4, 2) := by decide +kernel
theorem dX5_meetsOne_79 : decode cX5_meetsOne 79 = .ok (.invokestatic 33, 3) := by decide +kernel
theorem dX5_meetsOne_82 : decode cX5_meetsOne 82 = .ok (.iaload, 1) := by decide +kernel
theorem dX5_meetsOne_83 : decode cX5_meetsOne 83 = .ok (.iload_n 3, 1) := by decide +kernel
theorem dX5_meetsOne_84 : decode cX5_meetsOne 84 = .ok (.iconst (-1), 1) := by decide +kernel
theorem dX5_meetsOne_85 : decode cX5_meetsOne 85 = .ok (.ixor, 1) := by decide +kernel
theorem dX5_meetsOne_86 : decode cX5_meetsOne 86 = .ok (.iand, 1) := by decide +kernel
theorem dX5_meetsOne_87 : decode cX5_meetsOne 87 = .ok (.ifCond .ne 5, 3) := by decide +kernel
theorem dX5_meetsOne_90 : decode cX5_meetsOne 90 = .ok (.iconst 1, 1) := by decide +kernel
theorem dX5_meetsOne_91 : decode cX5_meetsOne 91 = .ok (.ireturn, 1) := by decide +kernel
theorem dX5_meetsOne_92 : decode cX5_meetsOne 92 = .ok (.iinc 5 1, 3) := by decide +kernel
theorem dX5_meetsOne_95 : decode cX5_meetsOne 95 = .ok (.goto (-84), 3) := by decide +kernel
theorem dX5_meetsOne_98 : decode cX5_meetsOne 98 = .ok (.iconst 0, 1) := by decide +kernel
theorem dX5_meetsOne_99 : decode cX5_meetsOne 99 = .ok (.ireturn, 1) := by decide +kernel
set_option maxRecDepth 20000 in
theorem ggX6_init_X3_init : GoodIn wsX6_init wsX3_init := goodIn_r _ [32, 33, 2, 3, 34, 35, 36, 37, 38, 39, 40, 41, 42, 43, 44, 45, 46, 47, 48, 6, 49, 50, 51, 52, 53, 54, 55, 56, 57, 86, 87, 88, 89, 90, 91, 92, 93, 94, 95, 96, 97, 98, 99, 100] (by decide +kernel) (by decide +kernel)
set_option maxRecDepth 20000 in
theorem gX6_init_X3_init : GoodIn wsX6_init (wsX3_init) := ggX6_init_X3_init
set_option maxRecDepth 20000 in
theorem ggX6_init_X2_init : GoodIn wsX6_init wsX2_init := goodIn_r _ [59, 60, 2, 3, 61, 62, 34, 63, 112, 113, 114, 115, 116, 117, 118] (by decide +kernel) (by decide +kernel)
set_option maxRecDepth 20000 in
theorem gX6_init_X2_init_n25 : GoodIn wsX6_init (wsX2_init) := ggX6_init_X2_init
set_option maxRecDepth 20000 in
theorem ggX6_init_X4_init : GoodIn wsX6_init wsX4_init := goodIn_r _ [65, 66, 2, 3, 34, 67, 68, 69, 70, 119, 120, 121, 122] (by decide +kernel) (by decide +kernel)
set_option maxRecDepth 20000 in
theorem gX6_init_X4_init_n32 : GoodIn wsX6_init (wsX4_init) := ggX6_init_X4_init
set_option maxRecDepth 20000 in
theorem ggX6_init_X1_init : GoodIn wsX6_init wsX1_init := goodIn_r _ [72, 73, 2, 3, 34, 74, 75, 76, 123, 124, 125, 126, 127] (by decide +kernel) (by decide +kernel)
set_option maxRecDepth 20000 in
theorem gX6_init_X1_init_n39 : GoodIn wsX6_init (wsX1_init) := ggX6_init_X1_init
set_option maxRecDepth 20000 in
theorem ggX6_init_X0_init : GoodIn wsX6_init wsX0_init := goodIn_r _ [78, 79, 2, 3, 34, 80, 81, 128, 129, 130] (by decide +kernel) (by decide +kernel)
set_option maxRecDepth 20000 in
theorem gX6_init_X0_init_n46 : GoodIn wsX6_init (wsX0_init) := ggX6_init_X0_init
set_option maxRecDepth 20000 in
theorem ggX6_init_X5_init : GoodIn wsX6_init wsX5_init := goodIn_r _ [83, 84, 2, 3, 34, 85, 131] (by decide +kernel) (by decide +kernel)
set_option maxRecDepth 20000 in
theorem gX6_init_X5_init_n53 : GoodIn wsX6_init (wsX5_init) := ggX6_init_X5_init
theorem dX6_init_0 : decode cX6_init 0 = .ok (.aload_n 0, 1) := by decide +kernel
theorem dX6_init_1 : decode cX6_init 1 = .ok (.invokespecial 3, 3) := by decide +kernel
theorem dX6_init_4 : decode cX6_init 4 = .ok (.aload_n 0, 1) := by decide +kernel
theorem dX6_init_5 : decode cX6_init 5 = .ok (.new 9, 3) := by decide +kernel
theorem dX6_init_8 : decode cX6_init 8 = .ok (.dup, 1) := by decide +kernel
theorem dX6_init_9 : decode cX6_init 9 = .ok (.invokespecial 11, 3) := by decide +kernel
theorem dX6_init_12 : decode cX6_init 12 = .ok (.putfield 12, 3) := by decide +kernel
theorem dX6_init_15 : decode cX6_init 15 = .ok (.aload_n 0, 1) := by decide +kernel
theorem dX6_init_16 : decode cX6_init 16 = .ok (.new 9, 3) := by decide +kernel
theorem dX6_init_19 : decode cX6_init 19 = .ok (.dup, 1) := by decide +kernel
theorem dX6_init_20 : decode cX6_init 20 = .ok (.invokespecial 11, 3) := by decide +kernel
theorem dX6_init_23 : decode cX6_init 23 = .ok (.putfield 16, 3) := by decide +kernel
theorem dX6_init_26 : decode cX6_init 26 = .ok (.aload_n 0, 1) := by decide +kernel
theorem dX6_init_27 : decode cX6_init 27 = .ok (.iconst 2, 1) := by decide +kernel
theorem dX6_init_28 : decode cX6_init 28 = .ok (.anewarray 9, 3) := by decide +kernel
theorem dX6_init_31 : decode cX6_init 31 = .ok (.putfield 19, 3) := by decide +kernel
theorem dX6_init_34 : decode cX6_init 34 = .ok (.aload_n 0, 1) := by decide +kernel
theorem dX6_init_35 : decode cX6_init 35 = .ok (.new 23, 3) := by decide +kernel
theorem dX6_init_38 : decode cX6_init 38 = .ok (.dup, 1) := by decide +kernel
theorem dX6_init_39 : decode cX6_init 39 = .ok (.invokespecial 25, 3) := by decide +kernel
theorem dX6_init_42 : decode cX6_init 42 = .ok (.putfield 26, 3) := by decide +kernel
theorem dX6_init_45 : decode cX6_init 45 = .ok (.aload_n 0, 1) := by decide +kernel
theorem dX6_init_46 : decode cX6_init 46 = .ok (.new 30, 3) := by decide +kernel
theorem dX6_init_49 : decode cX6_init 49 = .ok (.dup, 1) := by decide +kernel
theorem dX6_init_50 : decode cX6_init 50 = .ok (.invokespecial 32, 3) := by decide +kernel
theorem dX6_init_53 : decode cX6_init 53 = .ok (.putfield 33, 3) := by decide +kernel
theorem dX6_init_56 : decode cX6_init 56 = .ok (.aload_n 0, 1) := by decide +kernel
theorem dX6_init_57 : decode cX6_init 57 = .ok (.new 37, 3) := by decide +kernel
theorem dX6_init_60 : decode cX6_init 60 = .ok (.dup, 1) := by decide +kernel
theorem dX6_init_61 : decode cX6_init 61 = .ok (.invokespecial 39, 3) := by decide +kernel
theorem dX6_init_64 : decode cX6_init 64 = .ok (.putfield 40, 3) := by decide +kernel
theorem dX6_init_67 : decode cX6_init 67 = .ok (.aload_n 0, 1) := by decide +kernel
theorem dX6_init_68 : decode cX6_init 68 = .ok (.new 44, 3) := by decide +kernel
theorem dX6_init_71 : decode cX6_init 71 = .ok (.dup, 1) := by decide +kernel
theorem dX6_init_72 : decode cX6_init 72 = .ok (.invokespecial 46, 3) := by decide +kernel
theorem dX6_init_75 : decode cX6_init 75 = .ok (.putfield 47, 3) := by decide +kernel
theorem dX6_init_78 : decode cX6_init 78 = .ok (.aload_n 0, 1) := by decide +kernel
theorem dX6_init_79 : decode cX6_init 79 = .ok (.new 51, 3) := by decide +kernel
theorem dX6_init_82 : decode cX6_init 82 = .ok (.dup, 1) := by decide +kernel
theorem dX6_init_83 : decode cX6_init 83 = .ok (.invokespecial 53, 3) := by decide +kernel
theorem dX6_init_86 : decode cX6_init 86 = .ok (.putfield 54, 3) := by decide +kernel
theorem dX6_init_89 : decode cX6_init 89 = .ok (.return_, 1) := by decide +kernel
set_option maxRecDepth 20000 in
theorem ggX6_villages_X3_settle : GoodIn wsX6_villages wsX3_settle := goodIn_r _ [7, 8, 9, 10, 11, 12, 13, 14, 15, 16, 17, 18, 19, 20, 40, 41, 42, 43, 44, 45, 46, 47, 48, 49, 50, 51, 52, 53, 54] (by decide +kernel) (by decide +kernel)
set_option maxRecDepth 20000 in
theorem gX6_villages_X3_settle : GoodIn wsX6_villages (wsV RX6 62 RX3 yX3_settle wsX3_settle) := goodIn_app (goodIn_of _ (by decide +kernel)) ggX6_villages_X3_settle
set_option maxRecDepth 20000 in
theorem ggX6_villages_X6_counted : GoodIn wsX6_villages wsX6_counted := goodIn_r _ [25, 26, 27, 28, 29, 30, 31, 32, 33, 34, 35, 36, 37, 38, 39] (by decide +kernel) (by decide +kernel)
set_option maxRecDepth 20000 in
theorem gX6_villages_X6_counted : GoodIn wsX6_villages (wsV RX6 66 RX6 yX6_counted wsX6_counted) := goodIn_app (goodIn_of _ (by decide +kernel)) ggX6_villages_X6_counted
theorem dX6_villages_0 : decode cX6_villages 0 = .ok (.aload_n 0, 1) := by decide +kernel
theorem dX6_villages_1 : decode cX6_villages 1 = .ok (.getfield 12, 3) := by decide +kernel
theorem dX6_villages_4 : decode cX6_villages 4 = .ok (.getfield 58, 3) := by decide +kernel
theorem dX6_villages_7 : decode cX6_villages 7 = .ok (.istore_n 2, 1) := by decide +kernel
theorem dX6_villages_8 : decode cX6_villages 8 = .ok (.aload_n 0, 1) := by decide +kernel
theorem dX6_villages_9 : decode cX6_villages 9 = .ok (.aload_n 0, 1) := by decide +kernel
theorem dX6_villages_10 : decode cX6_villages 10 = .ok (.getfield 12, 3) := by decide +kernel
theorem dX6_villages_13 : decode cX6_villages 13 = .ok (.iload_n 1, 1) := by decide +kernel
theorem dX6_villages_14 : decode cX6_villages 14 = .ok (.invokevirtual 62, 3) := by decide +kernel
theorem dX6_villages_17 : decode cX6_villages 17 = .ok (.ifCond .eq 7, 3) := by decide +kernel
theorem dX6_villages_20 : decode cX6_villages 20 = .ok (.iload_n 2, 1) := by decide +kernel
theorem dX6_villages_21 : decode cX6_villages 21 = .ok (.goto 5, 3) := by decide +kernel
theorem dX6_villages_24 : decode cX6_villages 24 = .ok (.bipush (-2), 2) := by decide +kernel
theorem dX6_villages_26 : decode cX6_villages 26 = .ok (.invokevirtual 66, 3) := by decide +kernel
theorem dX6_villages_29 : decode cX6_villages 29 = .ok (.ireturn, 1) := by decide +kernel
set_option maxRecDepth 20000 in
theorem ggX6_hears_X3_setHears : GoodIn wsX6_hears wsX3_setHears := goodIn_r _ [6, 7, 8, 9, 10, 5, 11, 12, 13, 14, 15, 16, 17, 18, 19, 20, 21, 40, 41, 42, 43, 44, 45, 46, 47, 48, 49, 50, 51, 52, 53, 54] (by decide +kernel) (by decide +kernel)
set_option maxRecDepth 20000 in
theorem gX6_hears_X3_setHears : GoodIn wsX6_hears (wsV RX6 70 RX3 yX3_setHears wsX3_setHears) := goodIn_app (goodIn_of _ (by decide +kernel)) ggX6_hears_X3_setHears
set_option maxRecDepth 20000 in
theorem ggX6_hears_X6_counted : GoodIn wsX6_hears wsX6_counted := goodIn_r _ [25, 26, 27, 28, 29, 30, 31, 32, 33, 34, 35, 36, 37, 38, 39] (by decide +kernel) (by decide +kernel)
set_option maxRecDepth 20000 in
theorem gX6_hears_X6_counted : GoodIn wsX6_hears (wsV RX6 66 RX6 yX6_counted wsX6_counted) := goodIn_app (goodIn_of _ (by decide +kernel)) ggX6_hears_X6_counted
theorem dX6_hears_0 : decode cX6_hears 0 = .ok (.aload_n 0, 1) := by decide +kernel
theorem dX6_hears_1 : decode cX6_hears 1 = .ok (.aload_n 0, 1) := by decide +kernel
theorem dX6_hears_2 : decode cX6_hears 2 = .ok (.getfield 12, 3) := by decide +kernel
theorem dX6_hears_5 : decode cX6_hears 5 = .ok (.iload_n 1, 1) := by decide +kernel
theorem dX6_hears_6 : decode cX6_hears 6 = .ok (.iload_n 2, 1) := by decide +kernel
theorem dX6_hears_7 : decode cX6_hears 7 = .ok (.iload_n 3, 1) := by decide +kernel
theorem dX6_hears_8 : decode cX6_hears 8 = .ok (.iload 4, 2) := by decide +kernel
theorem dX6_hears_10 : decode cX6_hears 10 = .ok (.invokevirtual 70, 3) := by decide +kernel
theorem dX6_hears_13 : decode cX6_hears 13 = .ok (.invokevirtual 66, 3) := by decide +kernel
theorem dX6_hears_16 : decode cX6_hears 16 = .ok (.ireturn, 1) := by decide +kernel
set_option maxRecDepth 20000 in
theorem ggX6_wood_X3_addWood : GoodIn wsX6_wood wsX3_addWood := goodIn_r _ [6, 7, 8, 9, 10, 11, 12, 13, 5, 14, 15, 16, 17, 18, 19, 39, 40, 41, 42, 43, 44, 45, 46, 47, 48, 49, 50, 51, 52, 53] (by decide +kernel) (by decide +kernel)
set_option maxRecDepth 20000 in
theorem gX6_wood_X3_addWood : GoodIn wsX6_wood (wsV RX6 74 RX3 yX3_addWood wsX3_addWood) := goodIn_app (goodIn_of _ (by decide +kernel)) ggX6_wood_X3_addWood
set_option maxRecDepth 20000 in
theorem ggX6_wood_X6_counted : GoodIn wsX6_wood wsX6_counted := goodIn_r _ [24, 25, 26, 27, 28, 29, 30, 31, 32, 33, 34, 35, 36, 37, 38] (by decide +kernel) (by decide +kernel)
set_option maxRecDepth 20000 in
theorem gX6_wood_X6_counted : GoodIn wsX6_wood (wsV RX6 66 RX6 yX6_counted wsX6_counted) := goodIn_app (goodIn_of _ (by decide +kernel)) ggX6_wood_X6_counted
theorem dX6_wood_0 : decode cX6_wood 0 = .ok (.aload_n 0, 1) := by decide +kernel
theorem dX6_wood_1 : decode cX6_wood 1 = .ok (.aload_n 0, 1) := by decide +kernel
theorem dX6_wood_2 : decode cX6_wood 2 = .ok (.getfield 12, 3) := by decide +kernel
theorem dX6_wood_5 : decode cX6_wood 5 = .ok (.iload_n 1, 1) := by decide +kernel
theorem dX6_wood_6 : decode cX6_wood 6 = .ok (.iload_n 2, 1) := by decide +kernel
theorem dX6_wood_7 : decode cX6_wood 7 = .ok (.invokevirtual 74, 3) := by decide +kernel
theorem dX6_wood_10 : decode cX6_wood 10 = .ok (.invokevirtual 66, 3) := by decide +kernel
theorem dX6_wood_13 : decode cX6_wood 13 = .ok (.ireturn, 1) := by decide +kernel
set_option maxRecDepth 20000 in
theorem ggX6_temper_X3_setTemper : GoodIn wsX6_temper wsX3_setTemper := goodIn_r _ [6, 7, 8, 9, 10, 5, 11, 12, 32, 33, 34, 35, 36, 37, 38, 39, 40, 41, 42, 43, 44, 45, 46] (by decide +kernel) (by decide +kernel)
set_option maxRecDepth 20000 in
theorem gX6_temper_X3_setTemper : GoodIn wsX6_temper (wsV RX6 78 RX3 yX3_setTemper wsX3_setTemper) := goodIn_app (goodIn_of _ (by decide +kernel)) ggX6_temper_X3_setTemper
set_option maxRecDepth 20000 in
theorem ggX6_temper_X6_counted : GoodIn wsX6_temper wsX6_counted := goodIn_r _ [17, 18, 19, 20, 21, 22, 23, 24, 25, 26, 27, 28, 29, 30, 31] (by decide +kernel) (by decide +kernel)
set_option maxRecDepth 20000 in
theorem gX6_temper_X6_counted : GoodIn wsX6_temper (wsV RX6 66 RX6 yX6_counted wsX6_counted) := goodIn_app (goodIn_of _ (by decide +kernel)) ggX6_temper_X6_counted
theorem dX6_temper_0 : decode cX6_temper 0 = .ok (.aload_n 0, 1) := by decide +kernel
theorem dX6_temper_1 : decode cX6_temper 1 = .ok (.aload_n 0, 1) := by decide +kernel
theorem dX6_temper_2 : decode cX6_temper 2 = .ok (.getfield 12, 3) := by decide +kernel
theorem dX6_temper_5 : decode cX6_temper 5 = .ok (.iload_n 1, 1) := by decide +kernel
theorem dX6_temper_6 : decode cX6_temper 6 = .ok (.iload_n 2, 1) := by decide +kernel
theorem dX6_temper_7 : decode cX6_temper 7 = .ok (.invokevirtual 78, 3) := by decide +kernel
theorem dX6_temper_10 : decode cX6_temper 10 = .ok (.invokevirtual 66, 3) := by decide +kernel
theorem dX6_temper_13 : decode cX6_temper 13 = .ok (.ireturn, 1) := by decide +kernel
set_option maxRecDepth 20000 in
theorem ggX6_friendOf_X3_setFriend : GoodIn wsX6_friendOf wsX3_setFriend := goodIn_r _ [6, 7, 8, 9, 10, 5, 11, 12, 32, 33, 34, 35, 36, 37, 38, 39, 40, 41, 42, 43, 44, 45, 46] (by decide +kernel) (by decide +kernel)
set_option maxRecDepth 20000 in
theorem gX6_friendOf_X3_setFriend : GoodIn wsX6_friendOf (wsV RX6 81 RX3 yX3_setFriend wsX3_setFriend) := goodIn_app (goodIn_of _ (by decide +kernel)) ggX6_friendOf_X3_setFriend
set_option maxRecDepth 20000 in
theorem ggX6_friendOf_X6_counted : GoodIn wsX6_friendOf wsX6_counted := goodIn_r _ [17, 18, 19, 20, 21, 22, 23, 24, 25, 26, 27, 28, 29, 30, 31] (by decide +kernel) (by decide +kernel)
set_option maxRecDepth 20000 in
theorem gX6_friendOf_X6_counted : GoodIn wsX6_friendOf (wsV RX6 66 RX6 yX6_counted wsX6_counted) := goodIn_app (goodIn_of _ (by decide +kernel)) ggX6_friendOf_X6_counted
theorem dX6_friendOf_0 : decode cX6_friendOf 0 = .ok (.aload_n 0, 1) := by decide +kernel
theorem dX6_friendOf_1 : decode cX6_friendOf 1 = .ok (.aload_n 0, 1) := by decide +kernel
theorem dX6_friendOf_2 : decode cX6_friendOf 2 = .ok (.getfield 12, 3) := by decide +kernel
theorem dX6_friendOf_5 : decode cX6_friendOf 5 = .ok (.iload_n 1, 1) := by decide +kernel
theorem dX6_friendOf_6 : decode cX6_friendOf 6 = .ok (.iload_n 2, 1) := by decide +kernel
theorem dX6_friendOf_7 : decode cX6_friendOf 7 = .ok (.invokevirtual 81, 3) := by decide +kernel
theorem dX6_friendOf_10 : decode cX6_friendOf 10 = .ok (.invokevirtual 66, 3) := by decide +kernel
theorem dX6_friendOf_13 : decode cX6_friendOf 13 = .ok (.ireturn, 1) := by decide +kernel
set_option maxRecDepth 20000 in
theorem ggX6_change_X3_changeRopes : GoodIn wsX6_change wsX3_changeRopes := goodIn_r _ [6, 7, 8, 9, 10, 5, 11, 12, 13, 14, 15, 16, 36, 37, 38, 39, 40, 41, 42, 43, 44, 45, 46, 47, 48, 49, 50] (by decide +kernel) (by decide +kernel)
set_option maxRecDepth 20000 in
theorem gX6_change_X3_changeRopes : GoodIn wsX6_change (wsV RX6 84 RX3 yX3_changeRopes wsX3_changeRopes) := goodIn_app (goodIn_of _ (by decide +kernel)) ggX6_change_X3_changeRopes
set_option maxRecDepth 20000 in
theorem ggX6_change_X6_counted : GoodIn wsX6_change wsX6_counted := goodIn_r _ [21, 22, 23, 24, 25, 26, 27, 28, 29, 30, 31, 32, 33, 34, 35] (by decide +kernel) (by decide +kernel)
set_option maxRecDepth 20000 in
theorem gX6_change_X6_counted : GoodIn wsX6_change (wsV RX6 66 RX6 yX6_counted wsX6_counted) := goodIn_app (goodIn_of _ (by decide +kernel)) ggX6_change_X6_counted
theorem dX6_change_0 : decode cX6_change 0 = .ok (.aload_n 0, 1) := by decide +kernel
theorem dX6_change_1 : decode cX6_change 1 = .ok (.aload_n 0, 1) := by decide +kernel
theorem dX6_change_2 : decode cX6_change 2 = .ok (.getfield 12, 3) := by decide +kernel
theorem dX6_change_5 : decode cX6_change 5 = .ok (.iload_n 1, 1) := by decide +kernel
theorem dX6_change_6 : decode cX6_change 6 = .ok (.iload_n 2, 1) := by decide +kernel
theorem dX6_change_7 : decode cX6_change 7 = .ok (.invokevirtual 84, 3) := by decide +kernel
theorem dX6_change_10 : decode cX6_change 10 = .ok (.invokevirtual 66, 3) := by decide +kernel
theorem dX6_change_13 : decode cX6_change 13 = .ok (.ireturn, 1) := by decide +kernel
set_option maxRecDepth 20000 in
theorem ggX6_need_X3_addNeed : GoodIn wsX6_need wsX3_addNeed := goodIn_r _ [6, 7, 8, 9, 10, 11, 12, 13, 5, 14, 15, 16, 17, 18, 19, 20, 21, 22, 23, 24, 43, 44, 45, 46, 47, 48, 49, 50, 51, 52, 53, 54, 55, 56, 57] (by decide +kernel) (by decide +kernel)
set_option maxRecDepth 20000 in
theorem gX6_need_X3_addNeed : GoodIn wsX6_need (wsV RX6 87 RX3 yX3_addNeed wsX3_addNeed) := goodIn_app (goodIn_of _ (by decide +kernel)) ggX6_need_X3_addNeed
set_option maxRecDepth 20000 in
theorem ggX6_need_X6_counted : GoodIn wsX6_need wsX6_counted := goodIn_r _ [28, 29, 30, 31, 32, 33, 34, 35, 36, 37, 38, 39, 40, 41, 42] (by decide +kernel) (by decide +kernel)
set_option maxRecDepth 20000 in
theorem gX6_need_X6_counted : GoodIn wsX6_need (wsV RX6 66 RX6 yX6_counted wsX6_counted) := goodIn_app (goodIn_of _ (by decide +kernel)) ggX6_need_X6_counted
theorem dX6_need_0 : decode cX6_need 0 = .ok (.aload_n 0, 1) := by decide +kernel
theorem dX6_need_1 : decode cX6_need 1 = .ok (.aload_n 0, 1) := by decide +kernel
theorem dX6_need_2 : decode cX6_need 2 = .ok (.getfield 12, 3) := by decide +kernel
theorem dX6_need_5 : decode cX6_need 5 = .ok (.iload_n 1, 1) := by decide +kernel
theorem dX6_need_6 : decode cX6_need 6 = .ok (.iload_n 2, 1) := by decide +kernel
theorem dX6_need_7 : decode cX6_need 7 = .ok (.iload_n 3, 1) := by decide +kernel
theorem dX6_need_8 : decode cX6_need 8 = .ok (.invokevirtual 87, 3) := by decide +kernel
theorem dX6_need_11 : decode cX6_need 11 = .ok (.invokevirtual 66, 3) := by decide +kernel
theorem dX6_need_14 : decode cX6_need 14 = .ok (.ireturn, 1) := by decide +kernel
set_option maxRecDepth 20000 in
theorem ggX6_undo_X3_dropNeed : GoodIn wsX6_undo wsX3_dropNeed := goodIn_r _ [6, 7, 27, 28, 29, 30, 31, 32, 33, 34, 35, 36, 37, 38, 39, 40, 41] (by decide +kernel) (by decide +kernel)
set_option maxRecDepth 20000 in
theorem gX6_undo_X3_dropNeed : GoodIn wsX6_undo (wsV RX6 91 RX3 yX3_dropNeed wsX3_dropNeed) := goodIn_app (goodIn_of _ (by decide +kernel)) ggX6_undo_X3_dropNeed
set_option maxRecDepth 20000 in
theorem ggX6_undo_X6_counted : GoodIn wsX6_undo wsX6_counted := goodIn_r _ [12, 13, 14, 15, 16, 17, 18, 19, 20, 21, 22, 23, 24, 25, 26] (by decide +kernel) (by decide +kernel)
set_option maxRecDepth 20000 in
theorem gX6_undo_X6_counted : GoodIn wsX6_undo (wsV RX6 66 RX6 yX6_counted wsX6_counted) := goodIn_app (goodIn_of _ (by decide +kernel)) ggX6_undo_X6_counted
theorem dX6_undo_0 : decode cX6_undo 0 = .ok (.aload_n 0, 1) := by decide +kernel
theorem dX6_undo_1 : decode cX6_undo 1 = .ok (.aload_n 0, 1) := by decide +kernel
theorem dX6_undo_2 : decode cX6_undo 2 = .ok (.getfield 12, 3) := by decide +kernel
theorem dX6_undo_5 : decode cX6_undo 5 = .ok (.invokevirtual 91, 3) := by decide +kernel
theorem dX6_undo_8 : decode cX6_undo 8 = .ok (.invokevirtual 66, 3) := by decide +kernel
theorem dX6_undo_11 : decode cX6_undo 11 = .ok (.ireturn, 1) := by decide +kernel
set_option maxRecDepth 20000 in
theorem ggX6_heard_X3_isVillage : GoodIn wsX6_heard wsX3_isVillage := goodIn_r _ [6, 7, 36, 37, 38, 39, 40, 41, 42, 43, 44, 45, 46, 47, 48, 49, 50] (by decide +kernel) (by decide +kernel)
set_option maxRecDepth 20000 in
theorem gX6_heard_X3_isVillage : GoodIn wsX6_heard (wsV RX6 95 RX3 yX3_isVillage wsX3_isVillage) := goodIn_app (goodIn_of _ (by decide +kernel)) ggX6_heard_X3_isVillage
set_option maxRecDepth 20000 in
theorem ggX6_heard_X6_isWind : GoodIn wsX6_heard wsX6_isWind := goodIn_r _ [11] (by decide +kernel) (by decide +kernel)
set_option maxRecDepth 20000 in
theorem gX6_heard_X6_isWind : GoodIn wsX6_heard (va_wsS RX6 98 yX6_isWind wsX6_isWind) := goodIn_app (goodIn_of _ (by decide +kernel)) ggX6_heard_X6_isWind
set_option maxRecDepth 20000 in
theorem ggX6_heard_X3_heardIn : GoodIn wsX6_heard wsX3_heardIn := goodIn_r _ [15, 16, 17, 36, 37, 38, 39, 40, 41, 42, 43, 44, 45, 46, 47, 48, 49, 50] (by decide +kernel) (by decide +kernel)
set_option maxRecDepth 20000 in
theorem gX6_heard_X3_heardIn : GoodIn wsX6_heard (wsV RX6 101 RX3 yX3_heardIn wsX3_heardIn) := goodIn_app (goodIn_of _ (by decide +kernel)) ggX6_heard_X3_heardIn
set_option maxRecDepth 20000 in
theorem ggX6_heard_X6_counted : GoodIn wsX6_heard wsX6_counted := goodIn_r _ [21, 22, 23, 24, 25, 26, 27, 28, 29, 30, 31, 32, 33, 34, 35] (by decide +kernel) (by decide +kernel)
set_option maxRecDepth 20000 in
theorem gX6_heard_X6_counted : GoodIn wsX6_heard (wsV RX6 66 RX6 yX6_counted wsX6_counted) := goodIn_app (goodIn_of _ (by decide +kernel)) ggX6_heard_X6_counted
theorem dX6_heard_0 : decode cX6_heard 0 = .ok (.aload_n 0, 1) := by decide +kernel
theorem dX6_heard_1 : decode cX6_heard 1 = .ok (.aload_n 0, 1) := by decide +kernel
theorem dX6_heard_2 : decode cX6_heard 2 = .ok (.getfield 12, 3) := by decide +kernel
theorem dX6_heard_5 : decode cX6_heard 5 = .ok (.iload_n 1, 1) := by decide +kernel
theorem dX6_heard_6 : decode cX6_heard 6 = .ok (.invokevirtual 95, 3) := by decide +kernel
theorem dX6_heard_9 : decode cX6_heard 9 = .ok (.ifCond .eq 22, 3) := by decide +kernel
theorem dX6_heard_12 : decode cX6_heard 12 = .ok (.iload_n 2, 1) := by decide +kernel
theorem dX6_heard_13 : decode cX6_heard 13 = .ok (.invokestatic 98, 3) := by decide +kernel
theorem dX6_heard_16 : decode cX6_heard 16 = .ok (.ifCond .eq 15, 3) := by decide +kernel
theorem dX6_heard_19 : decode cX6_heard 19 = .ok (.aload_n 0, 1) := by decide +kernel
theorem dX6_heard_20 : decode cX6_heard 20 = .ok (.getfield 12, 3) := by decide +kernel
theorem dX6_heard_23 : decode cX6_heard 23 = .ok (.iload_n 1, 1) := by decide +kernel
theorem dX6_heard_24 : decode cX6_heard 24 = .ok (.iload_n 2, 1) := by decide +kernel
theorem dX6_heard_25 : decode cX6_heard 25 = .ok (.invokevirtual 101, 3) := by decide +kernel
theorem dX6_heard_28 : decode cX6_heard 28 = .ok (.goto 5, 3) := by decide +kernel
theorem dX6_heard_31 : decode cX6_heard 31 = .ok (.bipush (-2), 2) := by decide +kernel
theorem dX6_heard_33 : decode cX6_heard 33 = .ok (.invokevirtual 66, 3) := by decide +kernel
theorem dX6_heard_36 : decode cX6_heard 36 = .ok (.ireturn, 1) := by decide +kernel
set_option maxRecDepth 20000 in
theorem ggX6_type_X2_write : GoodIn wsX6_type wsX2_write := goodIn_r _ [6, 7, 8, 28, 29, 30, 31, 32, 33, 34] (by decide +kernel) (by decide +kernel)
set_option maxRecDepth 20000 in
theorem gX6_type_X2_write : GoodIn wsX6_type (wsV RX6 104 RX2 yX2_write wsX2_write) := goodIn_app (goodIn_of _ (by decide +kernel)) ggX6_type_X2_write
set_option maxRecDepth 20000 in
theorem ggX6_type_X6_counted : GoodIn wsX6_type wsX6_counted := goodIn_r _ [13, 14, 15, 16, 17, 18, 19, 20, 21, 22, 23, 24, 25, 26, 27] (by decide +kernel) (by decide +kernel)
set_option maxRecDepth 20000 in
theorem gX6_type_X6_counted : GoodIn wsX6_type (wsV RX6 66 RX6 yX6_counted wsX6_counted) := goodIn_app (goodIn_of _ (by decide +kernel)) ggX6_type_X6_counted
theorem dX6_type_0 : decode cX6_type 0 = .ok (.aload_n 0, 1) := by decide +kernel
theorem dX6_type_1 : decode cX6_type 1 = .ok (.aload_n 0, 1) := by decide +kernel
theorem dX6_type_2 : decode cX6_type 2 = .ok (.getfield 26, 3) := by decide +kernel
theorem dX6_type_5 : decode cX6_type 5 = .ok (.lload_n 1, 1) := by decide +kernel
theorem dX6_type_6 : decode cX6_type 6 = .ok (.iload_n 3, 1) := by decide +kernel
theorem dX6_type_7 : decode cX6_type 7 = .ok (.invokevirtual 104, 3) := by decide +kernel
theorem dX6_type_10 : decode cX6_type 10 = .ok (.invokevirtual 66, 3) := by decide +kernel
theorem dX6_type_13 : decode cX6_type 13 = .ok (.ireturn, 1) := by decide +kernel
set_option maxRecDepth 20000 in
theorem ggX6_clear_X2_wipe : GoodIn wsX6_clear wsX2_wipe := goodIn_r _ [6, 7, 19, 20, 21, 22, 23, 24, 25] (by decide +kernel) (by decide +kernel)
set_option maxRecDepth 20000 in
theorem gX6_clear_X2_wipe : GoodIn wsX6_clear (wsV RX6 108 RX2 yX2_wipe wsX2_wipe) := goodIn_app (goodIn_of _ (by decide +kernel)) ggX6_clear_X2_wipe
theorem dX6_clear_0 : decode cX6_clear 0 = .ok (.aload_n 0, 1) := by decide +kernel
theorem dX6_clear_1 : decode cX6_clear 1 = .ok (.getfield 26, 3) := by decide +kernel
theorem dX6_clear_4 : decode cX6_clear 4 = .ok (.invokevirtual 108, 3) := by decide +kernel
theorem dX6_clear_7 : decode cX6_clear 7 = .ok (.ireturn, 1) := by decide +kernel
set_option maxRecDepth 20000 in
theorem ggX6_read_X2_tell : GoodIn wsX6_read wsX2_tell := goodIn_r _ [8, 9, 10, 11, 12, 13, 14, 15, 16, 7, 17, 18, 19, 20, 21, 22, 23, 24, 25, 26, 27, 28, 29, 30, 31, 32, 33, 34, 35, 36, 37, 38, 39, 40, 41, 42, 43, 44, 45, 46, 47, 48, 49, 50, 51, 52, 53, 54, 55, 56, 57, 58, 59, 60, 61, 62, 63, 64, 65, 66, 67, 68, 69, 70, 71, 72, 73, 74, 75, 76, 77, 78, 79, 80, 81, 82, 83, 84, 85, 86, 87, 88, 89, 90, 91, 92, 93, 94, 95, 96, 97, 98, 99, 100, 101, 102, 103, 104, 105, 106, 107, 108, 109, 110, 111, 112, 113, 114, 115, 116, 117, 118, 119, 120, 121, 122, 123, 124, 125, 126, 127, 128, 129, 130, 131, 132, 133, 134, 135, 136, 137, 138, 139, 140, 141, 142, 143, 144, 145, 146, 147, 148, 149, 150, 151, 152, 153, 154, 155, 156, 157, 158, 159, 180, 181, 182, 183, 184, 185, 186, 187, 188, 189, 190, 191, 192, 193, 194, 195, 196, 197, 198, 199, 200, 201] (by decide +kernel) (by decide +kernel)
set_option maxRecDepth 20000 in
theorem gX6_read_X2_tell : GoodIn wsX6_read (wsV RX6 111 RX2 yX2_tell wsX2_tell) := goodIn_app (goodIn_of _ (by decide +kernel)) ggX6_read_X2_tell
set_option maxRecDepth 20000 in
theorem ggX6_read_X3_copy : GoodIn wsX6_read wsX3_copy := goodIn_r _ [163, 105, 106, 107, 108, 109, 164, 165, 166, 167, 112, 113, 110, 111, 139, 140, 153, 154, 155, 168, 187, 188, 189, 190, 191, 192, 193, 194, 195, 196, 197, 198, 199, 200, 201] (by decide +kernel) (by decide +kernel)
set_option maxRecDepth 20000 in
theorem gX6_read_X3_copy : GoodIn wsX6_read (wsV RX6 115 RX3 yX3_copy wsX3_copy) := goodIn_app (goodIn_of _ (by decide +kernel)) ggX6_read_X3_copy
theorem dX6_read_0 : decode cX6_read 0 = .ok (.aload_n 0, 1) := by decide +kernel
theorem dX6_read_1 : decode cX6_read 1 = .ok (.getfield 26, 3) := by decide +kernel
theorem dX6_read_4 : decode cX6_read 4 = .ok (.aload_n 0, 1) := by decide +kernel
theorem dX6_read_5 : decode cX6_read 5 = .ok (.getfield 16, 3) := by decide +kernel
theorem dX6_read_8 : decode cX6_read 8 = .ok (.invokevirtual 111, 3) := by decide +kernel
theorem dX6_read_11 : decode cX6_read 11 = .ok (.istore_n 1, 1) := by decide +kernel
theorem dX6_read_12 : decode cX6_read 12 = .ok (.iload_n 1, 1) := by decide +kernel
theorem dX6_read_13 : decode cX6_read 13 = .ok (.ifCond .le 14, 3) := by decide +kernel
theorem dX6_read_16 : decode cX6_read 16 = .ok (.aload_n 0, 1) := by decide +kernel
theorem dX6_read_17 : decode cX6_read 17 = .ok (.getfield 12, 3) := by decide +kernel
theorem dX6_read_20 : decode cX6_read 20 = .ok (.aload_n 0, 1) := by decide +kernel
theorem dX6_read_21 : decode cX6_read 21 = .ok (.getfield 16, 3) := by decide +kernel
theorem dX6_read_24 : decode cX6_read 24 = .ok (.invokevirtual 115, 3) := by decide +kernel
theorem dX6_read_27 : decode cX6_read 27 = .ok (.iload_n 1, 1) := by decide +kernel
theorem dX6_read_28 : decode cX6_read 28 = .ok (.ireturn, 1) := by decide +kernel
set_option maxRecDepth 20000 in
theorem ggX6_rang_X6_isSide : GoodIn wsX6_rang wsX6_isSide := goodIn_r _ [9] (by decide +kernel) (by decide +kernel)
set_option maxRecDepth 20000 in
theorem gX6_rang_X6_isSide : GoodIn wsX6_rang (va_wsS RX6 122 yX6_isSide wsX6_isSide) := goodIn_app (goodIn_of _ (by decide +kernel)) ggX6_rang_X6_isSide
set_option maxRecDepth 20000 in
theorem ggX6_rang_X6_counted : GoodIn wsX6_rang wsX6_counted := goodIn_r _ [13, 14, 15, 16, 75, 76, 77, 78, 79, 80, 81, 82, 83, 84, 85] (by decide +kernel) (by decide +kernel)
set_option maxRecDepth 20000 in
theorem gX6_rang_X6_counted : GoodIn wsX6_rang (wsV RX6 66 RX6 yX6_counted wsX6_counted) := goodIn_app (goodIn_of _ (by decide +kernel)) ggX6_rang_X6_counted
set_option maxRecDepth 20000 in
theorem ggX6_rang_X4_go : GoodIn wsX6_rang wsX4_go := goodIn_r _ [21, 22, 23, 24, 25, 26, 27, 28, 29, 30, 31, 32, 33, 34, 35, 36, 37, 38, 39, 40, 41, 42, 43, 44, 45, 46, 47, 8, 48, 49, 50, 51, 20, 52, 53, 54, 55, 56, 57, 58, 59, 60, 61, 62, 63, 64, 65, 66, 67, 68, 69, 70, 71, 72, 73, 74, 101, 102, 103, 104, 86, 87, 88, 89, 90, 91, 92, 93, 94, 95, 96, 97, 98, 99, 100] (by decide +kernel) (by decide +kernel)
set_option maxRecDepth 20000 in
theorem gX6_rang_X4_go : GoodIn wsX6_rang (wsV RX6 125 RX4 yX4_go wsX4_go) := goodIn_app (goodIn_of _ (by decide +kernel)) ggX6_rang_X4_go
theorem dX6_rang_0 : decode cX6_rang 0 = .ok (.iload_n 1, 1) := by decide +kernel
theorem dX6_rang_1 : decode cX6_rang 1 = .ok (.ifCond .lt 21, 3) := by decide +kernel
theorem dX6_rang_4 : decode cX6_rang 4 = .ok (.iload_n 1, 1) := by decide +kernel
theorem dX6_rang_5 : decode cX6_rang 5 = .ok (.aload_n 0, 1) := by decide +kernel
theorem dX6_rang_6 : decode cX6_rang 6 = .ok (.getfield 12, 3) := by decide +kernel
theorem dX6_rang_9 : decode cX6_rang 9 = .ok (.getfield 119, 3) := by decide +kernel
theorem dX6_rang_12 : decode cX6_rang 12 = .ok (.if_icmp .ge 10, 3) := by decide +kernel
theorem dX6_rang_15 : decode cX6_rang 15 = .ok (.iload_n 2, 1) := by decide +kernel
theorem dX6_rang_16 : decode cX6_rang 16 = .ok (.invokestatic 122, 3) := by decide +kernel
theorem dX6_rang_19 : decode cX6_rang 19 = .ok (.ifCond .ne 10, 3) := by decide +kernel
theorem dX6_rang_22 : decode cX6_rang 22 = .ok (.aload_n 0, 1) := by decide +kernel
theorem dX6_rang_23 : decode cX6_rang 23 = .ok (.bipush (-2), 2) := by decide +kernel
theorem dX6_rang_25 : decode cX6_rang 25 = .ok (.invokevirtual 66, 3) := by decide +kernel
theorem dX6_rang_28 : decode cX6_rang 28 = .ok (.ireturn, 1) := by decide +kernel
theorem dX6_rang_29 : decode cX6_rang 29 = .ok (.aload_n 0, 1) := by decide +kernel
theorem dX6_rang_30 : decode cX6_rang 30 = .ok (.getfield 33, 3) := by decide +kernel
theorem dX6_rang_33 : decode cX6_rang 33 = .ok (.aload_n 0, 1) := by decide +kernel
theorem dX6_rang_34 : decode cX6_rang 34 = .ok (.getfield 12, 3) := by decide +kernel
theorem dX6_rang_37 : decode cX6_rang 37 = .ok (.invokevirtual 125, 3) := by decide +kernel
theorem dX6_rang_40 : decode cX6_rang 40 = .ok (.iload_n 2, 1) := by decide +kernel
theorem dX6_rang_41 : decode cX6_rang 41 = .ok (.ifCond .ne 15, 3) := by decide +kernel
theorem dX6_rang_44 : decode cX6_rang 44 = .ok (.aload_n 0, 1) := by decide +kernel
theorem dX6_rang_45 : decode cX6_rang 45 = .ok (.getfield 33, 3) := by decide +kernel
theorem dX6_rang_48 : decode cX6_rang 48 = .ok (.getfield 128, 3) := by decide +kernel
theorem dX6_rang_51 : decode cX6_rang 51 = .ok (.iload_n 1, 1) := by decide +kernel
theorem dX6_rang_52 : decode cX6_rang 52 = .ok (.iaload, 1) := by decide +kernel
theorem dX6_rang_53 : decode cX6_rang 53 = .ok (.goto 12, 3) := by decide +kernel
theorem dX6_rang_56 : decode cX6_rang 56 = .ok (.aload_n 0, 1) := by decide +kernel
theorem dX6_rang_57 : decode cX6_rang 57 = .ok (.getfield 33, 3) := by decide +kernel
theorem dX6_rang_60 : decode cX6_rang 60 = .ok (.getfield 132, 3) := by decide +kernel
theorem dX6_rang_63 : decode cX6_rang 63 = .ok (.iload_n 1, 1) := by decide +kernel
theorem dX6_rang_64 : decode cX6_rang 64 = .ok (.iaload, 1) := by decide +kernel
theorem dX6_rang_65 : decode cX6_rang 65 = .ok (.ireturn, 1) := by decide +kernel
set_option maxRecDepth 20000 in
theorem ggX6_helped_X3_isVillage : GoodIn wsX6_helped wsX3_isVillage := goodIn_r _ [7, 8, 88, 89, 90, 91, 92, 93, 94, 95, 96, 97, 98, 99, 100, 101, 102] (by decide +kernel) (by decide +kernel)
set_option maxRecDepth 20000 in
theorem gX6_helped_X3_isVillage : GoodIn wsX6_helped (wsV RX6 95 RX3 yX3_isVillage wsX3_isVillage) := goodIn_app (goodIn_of _ (by decide +kernel)) ggX6_helped_X3_isVillage
set_option maxRecDepth 20000 in
theorem ggX6_helped_X6_counted : GoodIn wsX6_helped wsX6_counted := goodIn_r _ [13, 14, 15, 16, 77, 78, 79, 80, 81, 82, 83, 84, 85, 86, 87] (by decide +kernel) (by decide +kernel)
set_option maxRecDepth 20000 in
theorem gX6_helped_X6_counted : GoodIn wsX6_helped (wsV RX6 66 RX6 yX6_counted wsX6_counted) := goodIn_app (goodIn_of _ (by decide +kernel)) ggX6_helped_X6_counted
set_option maxRecDepth 20000 in
theorem ggX6_helped_X4_go : GoodIn wsX6_helped wsX4_go := goodIn_r _ [21, 22, 23, 24, 25, 26, 27, 28, 29, 30, 31, 32, 33, 6, 34, 8, 35, 36, 37, 38, 39, 40, 41, 42, 43, 44, 45, 12, 46, 47, 48, 49, 20, 50, 51, 52, 53, 54, 55, 56, 57, 58, 59, 60, 61, 62, 63, 64, 65, 66, 67, 68, 69, 70, 71, 72, 103, 104, 105, 106, 88, 89, 90, 91, 92, 93, 94, 95, 96, 97, 98, 99, 100, 101, 102] (by decide +kernel) (by decide +kernel)
set_option maxRecDepth 20000 in
theorem gX6_helped_X4_go : GoodIn wsX6_helped (wsV RX6 125 RX4 yX4_go wsX4_go) := goodIn_app (goodIn_of _ (by decide +kernel)) ggX6_helped_X4_go
set_option maxRecDepth 20000 in
theorem ggX6_helped_X4_needsHelped : GoodIn wsX6_helped wsX4_needsHelped := goodIn_r _ [76, 24, 56, 26, 88, 89, 90, 91, 92, 93, 94, 95, 96, 97, 98, 99, 100, 101, 102, 103, 104, 105, 106] (by decide +kernel) (by decide +kernel)
set_option maxRecDepth 20000 in
theorem gX6_helped_X4_needsHelped : GoodIn wsX6_helped (wsV RX6 135 RX4 yX4_needsHelped wsX4_needsHelped) := goodIn_app (goodIn_of _ (by decide +kernel)) ggX6_helped_X4_needsHelped
theorem dX6_helped_0 : decode cX6_helped 0 = .ok (.iload_n 1, 1) := by decide +kernel
theorem dX6_helped_1 : decode cX6_helped 1 = .ok (.iconst (-1), 1) := by decide +kernel
theorem dX6_helped_2 : decode cX6_helped 2 = .ok (.if_icmp .eq 21, 3) := by decide +kernel
theorem dX6_helped_5 : decode cX6_helped 5 = .ok (.aload_n 0, 1) := by decide +kernel
theorem dX6_helped_6 : decode cX6_helped 6 = .ok (.getfield 12, 3) := by decide +kernel
theorem dX6_helped_9 : decode cX6_helped 9 = .ok (.iload_n 1, 1) := by decide +kernel
theorem dX6_helped_10 : decode cX6_helped 10 = .ok (.invokevirtual 95, 3) := by decide +kernel
theorem dX6_helped_13 : decode cX6_helped 13 = .ok (.ifCond .ne 10, 3) := by decide +kernel
theorem dX6_helped_16 : decode cX6_helped 16 = .ok (.aload_n 0, 1) := by decide +kernel
theorem dX6_helped_17 : decode cX6_helped 17 = .ok (.bipush (-2), 2) := by decide +kernel
theorem dX6_helped_19 : decode cX6_helped 19 = .ok (.invokevirtual 66, 3) := by decide +kernel
theorem dX6_helped_22 : decode cX6_helped 22 = .ok (.ireturn, 1) := by decide +kernel
theorem dX6_helped_23 : decode cX6_helped 23 = .ok (.aload_n 0, 1) := by decide +kernel
theorem dX6_helped_24 : decode cX6_helped 24 = .ok (.getfield 33, 3) := by decide +kernel
theorem dX6_helped_27 : decode cX6_helped 27 = .ok (.aload_n 0, 1) := by decide +kernel
theorem dX6_helped_28 : decode cX6_helped 28 = .ok (.getfield 12, 3) := by decide +kernel
theorem dX6_helped_31 : decode cX6_helped 31 = .ok (.invokevirtual 125, 3) := by decide +kernel
theorem dX6_helped_34 : decode cX6_helped 34 = .ok (.aload_n 0, 1) := by decide +kernel
theorem dX6_helped_35 : decode cX6_helped 35 = .ok (.getfield 33, 3) := by decide +kernel
theorem dX6_helped_38 : decode cX6_helped 38 = .ok (.aload_n 0, 1) := by decide +kernel
theorem dX6_helped_39 : decode cX6_helped 39 = .ok (.getfield 12, 3) := by decide +kernel
theorem dX6_helped_42 : decode cX6_helped 42 = .ok (.iload_n 1, 1) := by decide +kernel
theorem dX6_helped_43 : decode cX6_helped 43 = .ok (.invokevirtual 135, 3) := by decide +kernel
theorem dX6_helped_46 : decode cX6_helped 46 = .ok (.ireturn, 1) := by decide +kernel
set_option maxRecDepth 20000 in
theorem ggX6_favours_X3_areTwo : GoodIn wsX6_favours wsX3_areTwo := goodIn_r _ [8, 9, 10, 11, 7, 12, 13, 94, 95, 96, 97, 98, 99, 100, 101, 102, 103, 104, 105, 106, 107, 108] (by decide +kernel) (by decide +kernel)
set_option maxRecDepth 20000 in
theorem gX6_favours_X3_areTwo : GoodIn wsX6_favours (wsV RX6 139 RX3 yX3_areTwo wsX3_areTwo) := goodIn_app (goodIn_of _ (by decide +kernel)) ggX6_favours_X3_areTwo
set_option maxRecDepth 20000 in
theorem ggX6_favours_X6_counted : GoodIn wsX6_favours wsX6_counted := goodIn_r _ [18, 19, 20, 21, 79, 80, 81, 82, 83, 84, 85, 86, 87, 88, 89] (by decide +kernel) (by decide +kernel)
set_option maxRecDepth 20000 in
theorem gX6_favours_X6_counted : GoodIn wsX6_favours (wsV RX6 66 RX6 yX6_counted wsX6_counted) := goodIn_app (goodIn_of _ (by decide +kernel)) ggX6_favours_X6_counted
set_option maxRecDepth 20000 in
theorem ggX6_favours_X4_go : GoodIn wsX6_favours wsX4_go := goodIn_r _ [26, 27, 28, 29, 30, 31, 32, 33, 34, 35, 36, 37, 38, 7, 39, 13, 40, 41, 42, 43, 44, 45, 46, 47, 48, 49, 50, 17, 51, 52, 53, 54, 25, 55, 56, 57, 58, 59, 60, 61, 62, 63, 64, 65, 66, 67, 68, 69, 70, 71, 72, 73, 74, 75, 76, 77, 90, 91, 92, 93, 94, 95, 96, 97, 98, 99, 100, 101, 102, 103, 104, 105, 106, 107, 108] (by decide +kernel) (by decide +kernel)
set_option maxRecDepth 20000 in
theorem gX6_favours_X4_go : GoodIn wsX6_favours (wsV RX6 125 RX4 yX4_go wsX4_go) := goodIn_app (goodIn_of _ (by decide +kernel)) ggX6_favours_X4_go
set_option maxRecDepth 20000 in
theorem ggX6_favours_X6_pair : GoodIn wsX6_favours wsX6_pair := goodIn_r _ [69] (by decide +kernel) (by decide +kernel)
set_option maxRecDepth 20000 in
theorem gX6_favours_X6_pair : GoodIn wsX6_favours (va_wsS RX6 146 yX6_pair wsX6_pair) := goodIn_app (goodIn_of _ (by decide +kernel)) ggX6_favours_X6_pair
theorem dX6_favours_0 : decode cX6_favours 0 = .ok (.aload_n 0, 1) := by decide +kernel
theorem dX6_favours_1 : decode cX6_favours 1 = .ok (.getfield 12, 3) := by decide +kernel
theorem dX6_favours_4 : decode cX6_favours 4 = .ok (.iload_n 1, 1) := by decide +kernel
theorem dX6_favours_5 : decode cX6_favours 5 = .ok (.iload_n 2, 1) := by decide +kernel
theorem dX6_favours_6 : decode cX6_favours 6 = .ok (.invokevirtual 139, 3) := by decide +kernel
theorem dX6_favours_9 : decode cX6_favours 9 = .ok (.ifCond .ne 10, 3) := by decide +kernel
theorem dX6_favours_12 : decode cX6_favours 12 = .ok (.aload_n 0, 1) := by decide +kernel
theorem dX6_favours_13 : decode cX6_favours 13 = .ok (.bipush (-2), 2) := by decide +kernel
theorem dX6_favours_15 : decode cX6_favours 15 = .ok (.invokevirtual 66, 3) := by decide +kernel
theorem dX6_favours_18 : decode cX6_favours 18 = .ok (.ireturn, 1) := by decide +kernel
theorem dX6_favours_19 : decode cX6_favours 19 = .ok (.aload_n 0, 1) := by decide +kernel
theorem dX6_favours_20 : decode cX6_favours 20 = .ok (.getfield 33, 3) := by decide +kernel
theorem dX6_favours_23 : decode cX6_favours 23 = .ok (.aload_n 0, 1) := by decide +kernel
theorem dX6_favours_24 : decode cX6_favours 24 = .ok (.getfield 12, 3) := by decide +kernel
theorem dX6_favours_27 : decode cX6_favours 27 = .ok (.invokevirtual 125, 3) := by decide +kernel
theorem dX6_favours_30 : decode cX6_favours 30 = .ok (.aload_n 0, 1) := by decide +kernel
theorem dX6_favours_31 : decode cX6_favours 31 = .ok (.getfield 33, 3) := by decide +kernel
theorem dX6_favours_34 : decode cX6_favours 34 = .ok (.getfield 143, 3) := by decide +kernel
theorem dX6_favours_37 : decode cX6_favours 37 = .ok (.iload_n 1, 1) := by decide +kernel
theorem dX6_favours_38 : decode cX6_favours 38 = .ok (.iload_n 2, 1) := by decide +kernel
theorem dX6_favours_39 : decode cX6_favours 39 = .ok (.invokestatic 146, 3) := by decide +kernel
theorem dX6_favours_42 : decode cX6_favours 42 = .ok (.iaload, 1) := by decide +kernel
theorem dX6_favours_43 : decode cX6_favours 43 = .ok (.ireturn, 1) := by decide +kernel
set_option maxRecDepth 20000 in
theorem ggX6_last_X3_areTwo : GoodIn wsX6_last wsX3_areTwo := goodIn_r _ [8, 9, 10, 11, 7, 12, 13, 94, 95, 96, 97, 98, 99, 100, 101, 102, 103, 104, 105, 106, 107, 108] (by decide +kernel) (by decide +kernel)
set_option maxRecDepth 20000 in
theorem gX6_last_X3_areTwo : GoodIn wsX6_last (wsV RX6 139 RX3 yX3_areTwo wsX3_areTwo) := goodIn_app (goodIn_of _ (by decide +kernel)) ggX6_last_X3_areTwo
set_option maxRecDepth 20000 in
theorem ggX6_last_X6_counted : GoodIn wsX6_last wsX6_counted := goodIn_r _ [18, 19, 20, 21, 79, 80, 81, 82, 83, 84, 85, 86, 87, 88, 89] (by decide +kernel) (by decide +kernel)
set_option maxRecDepth 20000 in
theorem gX6_last_X6_counted : GoodIn wsX6_last (wsV RX6 66 RX6 yX6_counted wsX6_counted) := goodIn_app (goodIn_of _ (by decide +kernel)) ggX6_last_X6_counted
set_option maxRecDepth 20000 in
theorem ggX6_last_X4_go : GoodIn wsX6_last wsX4_go := goodIn_r _ [26, 27, 28, 29, 30, 31, 32, 33, 34, 35, 36, 37, 38, 7, 39, 13, 40, 41, 42, 43, 44, 45, 46, 47, 48, 49, 50, 17, 51, 52, 53, 54, 25, 55, 56, 57, 58, 59, 60, 61, 62, 63, 64, 65, 66, 67, 68, 69, 70, 71, 72, 73, 74, 75, 76, 77, 90, 91, 92, 93, 94, 95, 96, 97, 98, 99, 100, 101, 102, 103, 104, 105, 106, 107, 108] (by decide +kernel) (by decide +kernel)
set_option maxRecDepth 20000 in
theorem gX6_last_X4_go : GoodIn wsX6_last (wsV RX6 125 RX4 yX4_go wsX4_go) := goodIn_app (goodIn_of _ (by decide +kernel)) ggX6_last_X4_go
set_option maxRecDepth 20000 in
theorem ggX6_last_X6_pair : GoodIn wsX6_last wsX6_pair := goodIn_r _ [69] (by decide +kernel) (by decide +kernel)
set_option maxRecDepth 20000 in
theorem gX6_last_X6_pair : GoodIn wsX6_last (va_wsS RX6 146 yX6_pair wsX6_pair) := goodIn_app (goodIn_of _ (by decide +kernel)) ggX6_last_X6_pair
theorem dX6_last_0 : decode cX6_last 0 = .ok (.aload_n 0, 1) := by decide +kernel
theorem dX6_last_1 : decode cX6_last 1 = .ok (.getfield 12, 3) := by decide +kernel
theorem dX6_last_4 : decode cX6_last 4 = .ok (.iload_n 1, 1) := by decide +kernel
theorem dX6_last_5 : decode cX6_last 5 = .ok (.iload_n 2, 1) := by decide +kernel
theorem dX6_last_6 : decode cX6_last 6 = .ok (.invokevirtual 139, 3) := by decide +kernel
theorem dX6_last_9 : decode cX6_last 9 = .ok (.ifCond .ne 10, 3) := by decide +kernel
theorem dX6_last_12 : decode cX6_last 12 = .ok (.aload_n 0, 1) := by decide +kernel
theorem dX6_last_13 : decode cX6_last 13 = .ok (.bipush (-2), 2) := by decide +kernel
theorem dX6_last_15 : decode cX6_last 15 = .ok (.invokevirtual 66, 3) := by decide +kernel
theorem dX6_last_18 : decode cX6_last 18 = .ok (.ireturn, 1) := by decide +kernel
theorem dX6_last_19 : decode cX6_last 19 = .ok (.aload_n 0, 1) := by decide +kernel
theorem dX6_last_20 : decode cX6_last 20 = .ok (.getfield 33, 3) := by decide +kernel
theorem dX6_last_23 : decode cX6_last 23 = .ok (.aload_n 0, 1) := by decide +kernel
theorem dX6_last_24 : decode cX6_last 24 = .ok (.getfield 12, 3) := by decide +kernel
theorem dX6_last_27 : decode cX6_last 27 = .ok (.invokevirtual 125, 3) := by decide +kernel
theorem dX6_last_30 : decode cX6_last 30 = .ok (.aload_n 0, 1) := by decide +kernel
theorem dX6_last_31 : decode cX6_last 31 = .ok (.getfield 33, 3) := by decide +kernel
theorem dX6_last_34 : decode cX6_last 34 = .ok (.getfield 149, 3) := by decide +kernel
theorem dX6_last_37 : decode cX6_last 37 = .ok (.iload_n 1, 1) := by decide +kernel
theorem dX6_last_38 : decode cX6_last 38 = .ok (.iload_n 2, 1) := by decide +kernel
theorem dX6_last_39 : decode cX6_last 39 = .ok (.invokestatic 146, 3) := by decide +kernel
theorem dX6_last_42 : decode cX6_last 42 = .ok (.iaload, 1) := by decide +kernel
theorem dX6_last_43 : decode cX6_last 43 = .ok (.ireturn, 1) := by decide +kernel
set_option maxRecDepth 20000 in
theorem ggX6_ropes_X3_isVillage : GoodIn wsX6_ropes wsX3_isVillage := goodIn_r _ [9, 10, 84, 85, 86, 87, 88, 89, 90, 91, 92, 93, 94, 95, 96, 97, 98] (by decide +kernel) (by decide +kernel)
set_option maxRecDepth 20000 in
theorem gX6_ropes_X3_isVillage : GoodIn wsX6_ropes (wsV RX6 95 RX3 yX3_isVillage wsX3_isVillage) := goodIn_app (goodIn_of _ (by decide +kernel)) ggX6_ropes_X3_isVillage
set_option maxRecDepth 20000 in
theorem ggX6_ropes_X6_badApart : GoodIn wsX6_ropes wsX6_badApart := goodIn_r _ [15, 16, 68, 69, 70, 71, 72, 73, 74, 75, 76, 77, 78] (by decide +kernel) (by decide +kernel)
set_option maxRecDepth 20000 in
theorem gX6_ropes_X6_badApart : GoodIn wsX6_ropes (wsV RX6 152 RX6 yX6_badApart wsX6_badApart) := goodIn_app (goodIn_of _ (by decide +kernel)) ggX6_ropes_X6_badApart
set_option maxRecDepth 20000 in
theorem ggX6_ropes_X1_go : GoodIn wsX6_ropes wsX1_go := goodIn_r _ [21, 22, 23, 24, 25, 26, 27, 28, 8, 29, 30, 31, 32, 33, 34, 35, 36, 14, 37, 38, 39, 40, 41, 20, 42, 43, 44, 45, 46, 47, 48, 49, 50, 51, 52, 53, 54, 55, 56, 57, 58, 59, 60, 61, 62, 63, 64, 65, 66, 67, 84, 85, 86, 87, 88, 89, 90, 91, 92, 93, 94, 95, 96, 97, 98, 79, 80, 81, 82, 83] (by decide +kernel) (by decide +kernel)
set_option maxRecDepth 20000 in
theorem gX6_ropes_X1_go : GoodIn wsX6_ropes (wsV RX6 155 RX1 yX1_go wsX1_go) := goodIn_app (goodIn_of _ (by decide +kernel)) ggX6_ropes_X1_go
theorem dX6_ropes_0 : decode cX6_ropes 0 = .ok (.iload_n 1, 1) := by decide +kernel
theorem dX6_ropes_1 : decode cX6_ropes 1 = .ok (.iconst (-1), 1) := by decide +kernel
theorem dX6_ropes_2 : decode cX6_ropes 2 = .ok (.if_icmp .eq 19, 3) := by decide +kernel
theorem dX6_ropes_5 : decode cX6_ropes 5 = .ok (.aload_n 0, 1) := by decide +kernel
theorem dX6_ropes_6 : decode cX6_ropes 6 = .ok (.getfield 12, 3) := by decide +kernel
theorem dX6_ropes_9 : decode cX6_ropes 9 = .ok (.iload_n 1, 1) := by decide +kernel
theorem dX6_ropes_10 : decode cX6_ropes 10 = .ok (.invokevirtual 95, 3) := by decide +kernel
theorem dX6_ropes_13 : decode cX6_ropes 13 = .ok (.ifCond .ne 8, 3) := by decide +kernel
theorem dX6_ropes_16 : decode cX6_ropes 16 = .ok (.aload_n 0, 1) := by decide +kernel
theorem dX6_ropes_17 : decode cX6_ropes 17 = .ok (.invokevirtual 152, 3) := by decide +kernel
theorem dX6_ropes_20 : decode cX6_ropes 20 = .ok (.ireturn, 1) := by decide +kernel
theorem dX6_ropes_21 : decode cX6_ropes 21 = .ok (.aload_n 0, 1) := by decide +kernel
theorem dX6_ropes_22 : decode cX6_ropes 22 = .ok (.getfield 40, 3) := by decide +kernel
theorem dX6_ropes_25 : decode cX6_ropes 25 = .ok (.aload_n 0, 1) := by decide +kernel
theorem dX6_ropes_26 : decode cX6_ropes 26 = .ok (.getfield 12, 3) := by decide +kernel
theorem dX6_ropes_29 : decode cX6_ropes 29 = .ok (.invokevirtual 155, 3) := by decide +kernel
theorem dX6_ropes_32 : decode cX6_ropes 32 = .ok (.iload_n 1, 1) := by decide +kernel
theorem dX6_ropes_33 : decode cX6_ropes 33 = .ok (.iconst (-1), 1) := by decide +kernel
theorem dX6_ropes_34 : decode cX6_ropes 34 = .ok (.if_icmp .eq 14, 3) := by decide +kernel
theorem dX6_ropes_37 : decode cX6_ropes 37 = .ok (.aload_n 0, 1) := by decide +kernel
theorem dX6_ropes_38 : decode cX6_ropes 38 = .ok (.getfield 40, 3) := by decide +kernel
theorem dX6_ropes_41 : decode cX6_ropes 41 = .ok (.getfield 156, 3) := by decide +kernel
theorem dX6_ropes_44 : decode cX6_ropes 44 = .ok (.iconst (-1), 1) := by decide +kernel
theorem dX6_ropes_45 : decode cX6_ropes 45 = .ok (.if_icmp .ne 11, 3) := by decide +kernel
theorem dX6_ropes_48 : decode cX6_ropes 48 = .ok (.aload_n 0, 1) := by decide +kernel
theorem dX6_ropes_49 : decode cX6_ropes 49 = .ok (.getfield 40, 3) := by decide +kernel
theorem dX6_ropes_52 : decode cX6_ropes 52 = .ok (.getfield 156, 3) := by decide +kernel
theorem dX6_ropes_55 : decode cX6_ropes 55 = .ok (.ireturn, 1) := by decide +kernel
theorem dX6_ropes_56 : decode cX6_ropes 56 = .ok (.aload_n 0, 1) := by decide +kernel
theorem dX6_ropes_57 : decode cX6_ropes 57 = .ok (.getfield 40, 3) := by decide +kernel
theorem dX6_ropes_60 : decode cX6_ropes 60 = .ok (.getfield 159, 3) := by decide +kernel
theorem dX6_ropes_63 : decode cX6_ropes 63 = .ok (.iload_n 1, 1) := by decide +kernel
theorem dX6_ropes_64 : decode cX6_ropes 64 = .ok (.iaload, 1) := by decide +kernel
theorem dX6_ropes_65 : decode cX6_ropes 65 = .ok (.ireturn, 1) := by decide +kernel
set_option maxRecDepth 20000 in
theorem ggX6_rope_X3_isVillage : GoodIn wsX6_rope wsX3_isVillage := goodIn_r _ [7, 8, 28, 29, 30, 31, 32, 33, 34, 35, 36, 37, 38, 39, 40, 41, 42] (by decide +kernel) (by decide +kernel)
set_option maxRecDepth 20000 in
theorem gX6_rope_X3_isVillage : GoodIn wsX6_rope (wsV RX6 95 RX3 yX3_isVillage wsX3_isVillage) := goodIn_app (goodIn_of _ (by decide +kernel)) ggX6_rope_X3_isVillage
set_option maxRecDepth 20000 in
theorem ggX6_rope_X6_counted : GoodIn wsX6_rope wsX6_counted := goodIn_r _ [13, 14, 15, 16, 17, 18, 19, 20, 21, 22, 23, 24, 25, 26, 27] (by decide +kernel) (by decide +kernel)
set_option maxRecDepth 20000 in
theorem gX6_rope_X6_counted : GoodIn wsX6_rope (wsV RX6 66 RX6 yX6_counted wsX6_counted) := goodIn_app (goodIn_of _ (by decide +kernel)) ggX6_rope_X6_counted
theorem dX6_rope_0 : decode cX6_rope 0 = .ok (.aload_n 0, 1) := by decide +kernel
theorem dX6_rope_1 : decode cX6_rope 1 = .ok (.aload_n 0, 1) := by decide +kernel
theorem dX6_rope_2 : decode cX6_rope 2 = .ok (.getfield 12, 3) := by decide +kernel
theorem dX6_rope_5 : decode cX6_rope 5 = .ok (.iload_n 1, 1) := by decide +kernel
theorem dX6_rope_6 : decode cX6_rope 6 = .ok (.invokevirtual 95, 3) := by decide +kernel
theorem dX6_rope_9 : decode cX6_rope 9 = .ok (.ifCond .eq 15, 3) := by decide +kernel
theorem dX6_rope_12 : decode cX6_rope 12 = .ok (.aload_n 0, 1) := by decide +kernel
theorem dX6_rope_13 : decode cX6_rope 13 = .ok (.getfield 12, 3) := by decide +kernel
theorem dX6_rope_16 : decode cX6_rope 16 = .ok (.getfield 162, 3) := by decide +kernel
theorem dX6_rope_19 : decode cX6_rope 19 = .ok (.iload_n 1, 1) := by decide +kernel
theorem dX6_rope_20 : decode cX6_rope 20 = .ok (.iaload, 1) := by decide +kernel
theorem dX6_rope_21 : decode cX6_rope 21 = .ok (.goto 5, 3) := by decide +kernel
theorem dX6_rope_24 : decode cX6_rope 24 = .ok (.bipush (-2), 2) := by decide +kernel
theorem dX6_rope_26 : decode cX6_rope 26 = .ok (.invokevirtual 66, 3) := by decide +kernel
theorem dX6_rope_29 : decode cX6_rope 29 = .ok (.ireturn, 1) := by decide +kernel
set_option maxRecDepth 20000 in
theorem ggX6_ring_X6_badApart : GoodIn wsX6_ring wsX6_badApart := goodIn_r _ [8, 9, 36, 37, 38, 39, 40, 41, 42, 43, 44, 45, 46] (by decide +kernel) (by decide +kernel)
set_option maxRecDepth 20000 in
theorem gX6_ring_X6_badApart : GoodIn wsX6_ring (wsV RX6 152 RX6 yX6_badApart wsX6_badApart) := goodIn_app (goodIn_of _ (by decide +kernel)) ggX6_ring_X6_badApart
set_option maxRecDepth 20000 in
theorem ggX6_ring_X0_go : GoodIn wsX6_ring wsX0_go := goodIn_r _ [14, 15, 16, 17, 18, 19, 20, 21, 22, 23, 24, 25, 26, 27, 28, 29, 30, 31, 32, 13, 33, 34, 7, 35, 50, 51, 52, 53, 54, 55, 56, 57, 58, 59, 60, 61, 62, 63, 64, 47, 48, 49] (by decide +kernel) (by decide +kernel)
set_option maxRecDepth 20000 in
theorem gX6_ring_X0_go : GoodIn wsX6_ring (wsV RX6 165 RX0 yX0_go wsX0_go) := goodIn_app (goodIn_of _ (by decide +kernel)) ggX6_ring_X0_go
theorem dX6_ring_0 : decode cX6_ring 0 = .ok (.iload_n 1, 1) := by decide +kernel
theorem dX6_ring_1 : decode cX6_ring 1 = .ok (.iconst (-1), 1) := by decide +kernel
theorem dX6_ring_2 : decode cX6_ring 2 = .ok (.if_icmp .ge 8, 3) := by decide +kernel
theorem dX6_ring_5 : decode cX6_ring 5 = .ok (.aload_n 0, 1) := by decide +kernel
theorem dX6_ring_6 : decode cX6_ring 6 = .ok (.invokevirtual 152, 3) := by decide +kernel
theorem dX6_ring_9 : decode cX6_ring 9 = .ok (.ireturn, 1) := by decide +kernel
theorem dX6_ring_10 : decode cX6_ring 10 = .ok (.aload_n 0, 1) := by decide +kernel
theorem dX6_ring_11 : decode cX6_ring 11 = .ok (.getfield 47, 3) := by decide +kernel
theorem dX6_ring_14 : decode cX6_ring 14 = .ok (.aload_n 0, 1) := by decide +kernel
theorem dX6_ring_15 : decode cX6_ring 15 = .ok (.getfield 12, 3) := by decide +kernel
theorem dX6_ring_18 : decode cX6_ring 18 = .ok (.invokevirtual 165, 3) := by decide +kernel
theorem dX6_ring_21 : decode cX6_ring 21 = .ok (.istore_n 2, 1) := by decide +kernel
theorem dX6_ring_22 : decode cX6_ring 22 = .ok (.iload_n 1, 1) := by decide +kernel
theorem dX6_ring_23 : decode cX6_ring 23 = .ok (.iconst (-1), 1) := by decide +kernel
theorem dX6_ring_24 : decode cX6_ring 24 = .ok (.if_icmp .ne 5, 3) := by decide +kernel
theorem dX6_ring_27 : decode cX6_ring 27 = .ok (.iload_n 2, 1) := by decide +kernel
theorem dX6_ring_28 : decode cX6_ring 28 = .ok (.ireturn, 1) := by decide +kernel
theorem dX6_ring_29 : decode cX6_ring 29 = .ok (.iload_n 1, 1) := by decide +kernel
theorem dX6_ring_30 : decode cX6_ring 30 = .ok (.iload_n 2, 1) := by decide +kernel
theorem dX6_ring_31 : decode cX6_ring 31 = .ok (.if_icmp .ge 15, 3) := by decide +kernel
theorem dX6_ring_34 : decode cX6_ring 34 = .ok (.aload_n 0, 1) := by decide +kernel
theorem dX6_ring_35 : decode cX6_ring 35 = .ok (.getfield 47, 3) := by decide +kernel
theorem dX6_ring_38 : decode cX6_ring 38 = .ok (.getfield 167, 3) := by decide +kernel
theorem dX6_ring_41 : decode cX6_ring 41 = .ok (.iload_n 1, 1) := by decide +kernel
theorem dX6_ring_42 : decode cX6_ring 42 = .ok (.iaload, 1) := by decide +kernel
theorem dX6_ring_43 : decode cX6_ring 43 = .ok (.goto 5, 3) := by decide +kernel
theorem dX6_ring_46 : decode cX6_ring 46 = .ok (.bipush (-5), 2) := by decide +kernel
theorem dX6_ring_48 : decode cX6_ring 48 = .ok (.ireturn, 1) := by decide +kernel
set_option maxRecDepth 20000 in
theorem ggX6_word_X3_isVillage : GoodIn wsX6_word wsX3_isVillage := goodIn_r _ [6, 7, 46, 47, 48, 49, 50, 51, 52, 53, 54, 55, 56, 57, 58, 59, 60] (by decide +kernel) (by decide +kernel)
set_option maxRecDepth 20000 in
theorem gX6_word_X3_isVillage : GoodIn wsX6_word (wsV RX6 95 RX3 yX3_isVillage wsX3_isVillage) := goodIn_app (goodIn_of _ (by decide +kernel)) ggX6_word_X3_isVillage
set_option maxRecDepth 20000 in
theorem ggX6_word_X6_isWind : GoodIn wsX6_word wsX6_isWind := goodIn_r _ [11] (by decide +kernel) (by decide +kernel)
set_option maxRecDepth 20000 in
theorem gX6_word_X6_isWind : GoodIn wsX6_word (va_wsS RX6 98 yX6_isWind wsX6_isWind) := goodIn_app (goodIn_of _ (by decide +kernel)) ggX6_word_X6_isWind
set_option maxRecDepth 20000 in
theorem ggX6_word_X6_isSide : GoodIn wsX6_word wsX6_isSide := goodIn_r _ [14] (by decide +kernel) (by decide +kernel)
set_option maxRecDepth 20000 in
theorem gX6_word_X6_isSide : GoodIn wsX6_word (va_wsS RX6 122 yX6_isSide wsX6_isSide) := goodIn_app (goodIn_of _ (by decide +kernel)) ggX6_word_X6_isSide
set_option maxRecDepth 20000 in
theorem ggX6_word_X6_counted : GoodIn wsX6_word wsX6_counted := goodIn_r _ [18, 19, 20, 21, 35, 36, 37, 38, 39, 40, 41, 42, 43, 44, 45] (by decide +kernel) (by decide +kernel)
set_option maxRecDepth 20000 in
theorem gX6_word_X6_counted : GoodIn wsX6_word (wsV RX6 66 RX6 yX6_counted wsX6_counted) := goodIn_app (goodIn_of _ (by decide +kernel)) ggX6_word_X6_counted
set_option maxRecDepth 20000 in
theorem ggX6_word_X3_knowAfterRound : GoodIn wsX6_word wsX3_knowAfterRound := goodIn_r _ [25, 7, 26, 27, 10, 28, 29, 30, 31, 5, 32, 33, 34, 46, 47, 48, 49, 50, 51, 52, 53, 54, 55, 56, 57, 58, 59, 60] (by decide +kernel) (by decide +kernel)
set_option maxRecDepth 20000 in
theorem gX6_word_X3_knowAfterRound : GoodIn wsX6_word (wsV RX6 170 RX3 yX3_knowAfterRound wsX3_knowAfterRound) := goodIn_app (goodIn_of _ (by decide +kernel)) ggX6_word_X3_knowAfterRound
theorem dX6_word_0 : decode cX6_word 0 = .ok (.aload_n 0, 1) := by decide +kernel
theorem dX6_word_1 : decode cX6_word 1 = .ok (.getfield 12, 3) := by decide +kernel
theorem dX6_word_4 : decode cX6_word 4 = .ok (.iload_n 1, 1) := by decide +kernel
theorem dX6_word_5 : decode cX6_word 5 = .ok (.invokevirtual 95, 3) := by decide +kernel
theorem dX6_word_8 : decode cX6_word 8 = .ok (.ifCond .eq 17, 3) := by decide +kernel
theorem dX6_word_11 : decode cX6_word 11 = .ok (.iload_n 2, 1) := by decide +kernel
theorem dX6_word_12 : decode cX6_word 12 = .ok (.invokestatic 98, 3) := by decide +kernel
theorem dX6_word_15 : decode cX6_word 15 = .ok (.ifCond .eq 10, 3) := by decide +kernel
theorem dX6_word_18 : decode cX6_word 18 = .ok (.iload_n 3, 1) := by decide +kernel
theorem dX6_word_19 : decode cX6_word 19 = .ok (.invokestatic 122, 3) := by decide +kernel
theorem dX6_word_22 : decode cX6_word 22 = .ok (.ifCond .ne 10, 3) := by decide +kernel
theorem dX6_word_25 : decode cX6_word 25 = .ok (.aload_n 0, 1) := by decide +kernel
theorem dX6_word_26 : decode cX6_word 26 = .ok (.bipush (-2), 2) := by decide +kernel
theorem dX6_word_28 : decode cX6_word 28 = .ok (.invokevirtual 66, 3) := by decide +kernel
theorem dX6_word_31 : decode cX6_word 31 = .ok (.ireturn, 1) := by decide +kernel
theorem dX6_word_32 : decode cX6_word 32 = .ok (.iconst 0, 1) := by decide +kernel
theorem dX6_word_33 : decode cX6_word 33 = .ok (.istore 4, 2) := by decide +kernel
theorem dX6_word_35 : decode cX6_word 35 = .ok (.iconst 1, 1) := by decide +kernel
theorem dX6_word_36 : decode cX6_word 36 = .ok (.iload_n 1, 1) := by decide +kernel
theorem dX6_word_37 : decode cX6_word 37 = .ok (.ishl, 1) := by decide +kernel
theorem dX6_word_38 : decode cX6_word 38 = .ok (.istore 5, 2) := by decide +kernel
theorem dX6_word_40 : decode cX6_word 40 = .ok (.aload_n 0, 1) := by decide +kernel
theorem dX6_word_41 : decode cX6_word 41 = .ok (.getfield 12, 3) := by decide +kernel
theorem dX6_word_44 : decode cX6_word 44 = .ok (.iload 5, 2) := by decide +kernel
theorem dX6_word_46 : decode cX6_word 46 = .ok (.iload_n 2, 1) := by decide +kernel
theorem dX6_word_47 : decode cX6_word 47 = .ok (.invokevirtual 170, 3) := by decide +kernel
theorem dX6_word_50 : decode cX6_word 50 = .ok (.istore 6, 2) := by decide +kernel
theorem dX6_word_52 : decode cX6_word 52 = .ok (.iload 6, 2) := by decide +kernel
theorem dX6_word_54 : decode cX6_word 54 = .ok (.iload 5, 2) := by decide +kernel
theorem dX6_word_56 : decode cX6_word 56 = .ok (.if_icmp .eq 32, 3) := by decide +kernel
theorem dX6_word_59 : decode cX6_word 59 = .ok (.iload 4, 2) := by decide +kernel
theorem dX6_word_61 : decode cX6_word 61 = .ok (.bipush 6, 2) := by decide +kernel
theorem dX6_word_63 : decode cX6_word 63 = .ok (.if_icmp .ge 25, 3) := by decide +kernel
theorem dX6_word_66 : decode cX6_word 66 = .ok (.iinc 4 1, 3) := by decide +kernel
theorem dX6_word_69 : decode cX6_word 69 = .ok (.iload 6, 2) := by decide +kernel
theorem dX6_word_71 : decode cX6_word 71 = .ok (.istore 5, 2) := by decide +kernel
theorem dX6_word_73 : decode cX6_word 73 = .ok (.aload_n 0, 1) := by decide +kernel
theorem dX6_word_74 : decode cX6_word 74 = .ok (.getfield 12, 3) := by decide +kernel
theorem dX6_word_77 : decode cX6_word 77 = .ok (.iload 5, 2) := by decide +kernel
theorem dX6_word_79 : decode cX6_word 79 = .ok (.iload_n 2, 1) := by decide +kernel
theorem dX6_word_80 : decode cX6_word 80 = .ok (.invokevirtual 170, 3) := by decide +kernel
theorem dX6_word_83 : decode cX6_word 83 = .ok (.istore 6, 2) := by decide +kernel
theorem dX6_word_85 : decode cX6_word 85 = .ok (.goto (-33), 3) := by decide +kernel
theorem dX6_word_88 : decode cX6_word 88 = .ok (.iload_n 3, 1) := by decide +kernel
theorem dX6_word_89 : decode cX6_word 89 = .ok (.ifCond .ne 8, 3) := by decide +kernel
theorem dX6_word_92 : decode cX6_word 92 = .ok (.iload 4, 2) := by decide +kernel
theorem dX6_word_94 : decode cX6_word 94 = .ok (.goto 5, 3) := by decide +kernel
theorem dX6_word_97 : decode cX6_word 97 = .ok (.iload 5, 2) := by decide +kernel
theorem dX6_word_99 : decode cX6_word 99 = .ok (.ireturn, 1) := by decide +kernel
set_option maxRecDepth 20000 in
theorem ggX6_fell_X5_go : GoodIn wsX6_fell wsX5_go := goodIn_r _ [7, 8, 9, 10, 11, 12, 13, 14, 15, 16, 17, 18, 19, 20, 21, 22, 23, 24, 25, 26, 27, 28, 6, 29, 30, 31, 32, 33, 34, 35, 36, 37, 38, 39, 40, 41, 42, 54, 55, 56, 57, 58, 59, 60, 61, 62, 63, 64, 65, 66, 67, 68, 69] (by decide +kernel) (by decide +kernel)
set_option maxRecDepth 20000 in
theorem gX6_fell_X5_go : GoodIn wsX6_fell (wsV RX6 173 RX5 yX5_go wsX5_go) := goodIn_app (goodIn_of _ (by decide +kernel)) ggX6_fell_X5_go
theorem dX6_fell_0 : decode cX6_fell 0 = .ok (.aload_n 0, 1) := by decide +kernel
theorem dX6_fell_1 : decode cX6_fell 1 = .ok (.getfield 54, 3) := by decide +kernel
theorem dX6_fell_4 : decode cX6_fell 4 = .ok (.aload_n 0, 1) := by decide +kernel
theorem dX6_fell_5 : decode cX6_fell 5 = .ok (.getfield 12, 3) := by decide +kernel
theorem dX6_fell_8 : decode cX6_fell 8 = .ok (.invokevirtual 173, 3) := by decide +kernel
theorem dX6_fell_11 : decode cX6_fell 11 = .ok (.ireturn, 1) := by decide +kernel
set_option maxRecDepth 20000 in
theorem ggX6_sign_X3_addSign : GoodIn wsX6_sign wsX3_addSign := goodIn_r _ [6, 7, 8, 9, 10, 11, 5, 12, 32, 33, 34, 35, 36, 37, 38, 39, 40, 41, 42, 43, 44, 45, 46] (by decide +kernel) (by decide +kernel)
set_option maxRecDepth 20000 in
theorem gX6_sign_X3_addSign : GoodIn wsX6_sign (wsV RX6 174 RX3 yX3_addSign wsX3_addSign) := goodIn_app (goodIn_of _ (by decide +kernel)) ggX6_sign_X3_addSign
set_option maxRecDepth 20000 in
theorem ggX6_sign_X6_counted : GoodIn wsX6_sign wsX6_counted := goodIn_r _ [17, 18, 19, 20, 21, 22, 23, 24, 25, 26, 27, 28, 29, 30, 31] (by decide +kernel) (by decide +kernel)
set_option maxRecDepth 20000 in
theorem gX6_sign_X6_counted : GoodIn wsX6_sign (wsV RX6 66 RX6 yX6_counted wsX6_counted) := goodIn_app (goodIn_of _ (by decide +kernel)) ggX6_sign_X6_counted
theorem dX6_sign_0 : decode cX6_sign 0 = .ok (.aload_n 0, 1) := by decide +kernel
theorem dX6_sign_1 : decode cX6_sign 1 = .ok (.aload_n 0, 1) := by decide +kernel
theorem dX6_sign_2 : decode cX6_sign 2 = .ok (.getfield 12, 3) := by decide +kernel
theorem dX6_sign_5 : decode cX6_sign 5 = .ok (.iload_n 1, 1) := by decide +kernel
theorem dX6_sign_6 : decode cX6_sign 6 = .ok (.invokevirtual 174, 3) := by decide +kernel
theorem dX6_sign_9 : decode cX6_sign 9 = .ok (.invokevirtual 66, 3) := by decide +kernel
theorem dX6_sign_12 : decode cX6_sign 12 = .ok (.ireturn, 1) := by decide +kernel
set_option maxRecDepth 20000 in
theorem ggX6_clearSigns_X3_firstTakenFor : GoodIn wsX6_clearSigns wsX3_firstTakenFor := goodIn_r _ [7, 8, 9, 10, 11, 6, 12, 13, 25, 26, 27, 28, 29, 30, 31, 32, 33, 34, 35, 36, 37, 38, 39] (by decide +kernel) (by decide +kernel)
set_option maxRecDepth 20000 in
theorem gX6_clearSigns_X3_firstTakenFor : GoodIn wsX6_clearSigns (wsV RX6 180 RX3 yX3_firstTakenFor wsX3_firstTakenFor) := goodIn_app (goodIn_of _ (by decide +kernel)) ggX6_clearSigns_X3_firstTakenFor
theorem dX6_clearSigns_0 : decode cX6_clearSigns 0 = .ok (.iconst 0, 1) := by decide +kernel
theorem dX6_clearSigns_1 : decode cX6_clearSigns 1 = .ok (.istore_n 1, 1) := by decide +kernel
theorem dX6_clearSigns_2 : decode cX6_clearSigns 2 = .ok (.iload_n 1, 1) := by decide +kernel
theorem dX6_clearSigns_3 : decode cX6_clearSigns 3 = .ok (.aload_n 0, 1) := by decide +kernel
theorem dX6_clearSigns_4 : decode cX6_clearSigns 4 = .ok (.getfield 12, 3) := by decide +kernel
theorem dX6_clearSigns_7 : decode cX6_clearSigns 7 = .ok (.getfield 177, 3) := by decide +kernel
theorem dX6_clearSigns_10 : decode cX6_clearSigns 10 = .ok (.if_icmp .ge 56, 3) := by decide +kernel
theorem dX6_clearSigns_13 : decode cX6_clearSigns 13 = .ok (.iconst 0, 1) := by decide +kernel
theorem dX6_clearSigns_14 : decode cX6_clearSigns 14 = .ok (.istore_n 2, 1) := by decide +kernel
theorem dX6_clearSigns_15 : decode cX6_clearSigns 15 = .ok (.iload_n 2, 1) := by decide +kernel
theorem dX6_clearSigns_16 : decode cX6_clearSigns 16 = .ok (.aload_n 0, 1) := by decide +kernel
theorem dX6_clearSigns_17 : decode cX6_clearSigns 17 = .ok (.getfield 12, 3) := by decide +kernel
theorem dX6_clearSigns_20 : decode cX6_clearSigns 20 = .ok (.getfield 177, 3) := by decide +kernel
theorem dX6_clearSigns_23 : decode cX6_clearSigns 23 = .ok (.if_icmp .ge 37, 3) := by decide +kernel
theorem dX6_clearSigns_26 : decode cX6_clearSigns 26 = .ok (.aload_n 0, 1) := by decide +kernel
theorem dX6_clearSigns_27 : decode cX6_clearSigns 27 = .ok (.getfield 12, 3) := by decide +kernel
theorem dX6_clearSigns_30 : decode cX6_clearSigns 30 = .ok (.iload_n 1, 1) := by decide +kernel
theorem dX6_clearSigns_31 : decode cX6_clearSigns 31 = .ok (.iload_n 2, 1) := by decide +kernel
theorem dX6_clearSigns_32 : decode cX6_clearSigns 32 = .ok (.invokevirtual 180, 3) := by decide +kernel
theorem dX6_clearSigns_35 : decode cX6_clearSigns 35 = .ok (.istore_n 3, 1) := by decide +kernel
theorem dX6_clearSigns_36 : decode cX6_clearSigns 36 = .ok (.iload_n 3, 1) := by decide +kernel
theorem dX6_clearSigns_37 : decode cX6_clearSigns 37 = .ok (.iconst (-1), 1) := by decide +kernel
theorem dX6_clearSigns_38 : decode cX6_clearSigns 38 = .ok (.if_icmp .eq 16, 3) := by decide +kernel
theorem dX6_clearSigns_41 : decode cX6_clearSigns 41 = .ok (.sipush 1000, 3) := by decide +kernel
theorem dX6_clearSigns_44 : decode cX6_clearSigns 44 = .ok (.iload_n 1, 1) := by decide +kernel
theorem dX6_clearSigns_45 : decode cX6_clearSigns 45 = .ok (.imul, 1) := by decide +kernel
theorem dX6_clearSigns_46 : decode cX6_clearSigns 46 = .ok (.bipush 100, 2) := by decide +kernel
theorem dX6_clearSigns_48 : decode cX6_clearSigns 48 = .ok (.iload_n 2, 1) := by decide +kernel
theorem dX6_clearSigns_49 : decode cX6_clearSigns 49 = .ok (.imul, 1) := by decide +kernel
theorem dX6_clearSigns_50 : decode cX6_clearSigns 50 = .ok (.iadd, 1) := by decide +kernel
theorem dX6_clearSigns_51 : decode cX6_clearSigns 51 = .ok (.iload_n 3, 1) := by decide +kernel
theorem dX6_clearSigns_52 : decode cX6_clearSigns 52 = .ok (.iadd, 1) := by decide +kernel
theorem dX6_clearSigns_53 : decode cX6_clearSigns 53 = .ok (.ireturn, 1) := by decide +kernel
theorem dX6_clearSigns_54 : decode cX6_clearSigns 54 = .ok (.iinc 2 1, 3) := by decide +kernel
theorem dX6_clearSigns_57 : decode cX6_clearSigns 57 = .ok (.goto (-42), 3) := by decide +kernel
theorem dX6_clearSigns_60 : decode cX6_clearSigns 60 = .ok (.iinc 1 1, 3) := by decide +kernel
theorem dX6_clearSigns_63 : decode cX6_clearSigns 63 = .ok (.goto (-61), 3) := by decide +kernel
theorem dX6_clearSigns_66 : decode cX6_clearSigns 66 = .ok (.iconst (-1), 1) := by decide +kernel
theorem dX6_clearSigns_67 : decode cX6_clearSigns 67 = .ok (.ireturn, 1) := by decide +kernel
set_option maxRecDepth 20000 in
theorem ggX6_came_X3_canCome : GoodIn wsX6_came wsX3_canCome := goodIn_r _ [6, 7, 8, 9, 10, 11, 12, 5, 13, 14, 43, 44, 45, 46, 47, 48, 49, 50, 51, 52, 53, 54, 55, 56, 57] (by decide +kernel) (by decide +kernel)
set_option maxRecDepth 20000 in
theorem gX6_came_X3_canCome : GoodIn wsX6_came (wsV RX6 183 RX3 yX3_canCome wsX3_canCome) := goodIn_app (goodIn_of _ (by decide +kernel)) ggX6_came_X3_canCome
set_option maxRecDepth 20000 in
theorem ggX6_came_X3_bellsFrom : GoodIn wsX6_came wsX3_bellsFrom := goodIn_r _ [18, 14, 19, 20, 21, 5, 22, 23, 24, 43, 44, 45, 46, 47, 48, 49, 50, 51, 52, 53, 54, 55, 56, 57] (by decide +kernel) (by decide +kernel)
set_option maxRecDepth 20000 in
theorem gX6_came_X3_bellsFrom : GoodIn wsX6_came (wsV RX6 187 RX3 yX3_bellsFrom wsX3_bellsFrom) := goodIn_app (goodIn_of _ (by decide +kernel)) ggX6_came_X3_bellsFrom
