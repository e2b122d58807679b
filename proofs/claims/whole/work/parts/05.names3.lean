set_option maxRecDepth 20000 in
theorem ggX6_came_X6_counted : GoodIn wsX6_came wsX6_counted := goodIn_r _ [28, 29, 30, 31, 32, 33, 34, 35, 36, 37, 38, 39, 40, 41, 42] (by decide +kernel) (by decide +kernel)
set_option maxRecDepth 20000 in
theorem gX6_came_X6_counted : GoodIn wsX6_came (wsV RX6 66 RX6 yX6_counted wsX6_counted) := goodIn_app (goodIn_of _ (by decide +kernel)) ggX6_came_X6_counted
theorem dX6_came_0 : decode cX6_came 0 = .ok (.aload_n 0, 1) := by decide +kernel
theorem dX6_came_1 : decode cX6_came 1 = .ok (.aload_n 0, 1) := by decide +kernel
theorem dX6_came_2 : decode cX6_came 2 = .ok (.getfield 12, 3) := by decide +kernel
theorem dX6_came_5 : decode cX6_came 5 = .ok (.iload_n 1, 1) := by decide +kernel
theorem dX6_came_6 : decode cX6_came 6 = .ok (.iload_n 2, 1) := by decide +kernel
theorem dX6_came_7 : decode cX6_came 7 = .ok (.iload_n 3, 1) := by decide +kernel
theorem dX6_came_8 : decode cX6_came 8 = .ok (.invokevirtual 183, 3) := by decide +kernel
theorem dX6_came_11 : decode cX6_came 11 = .ok (.ifCond .eq 16, 3) := by decide +kernel
theorem dX6_came_14 : decode cX6_came 14 = .ok (.aload_n 0, 1) := by decide +kernel
theorem dX6_came_15 : decode cX6_came 15 = .ok (.getfield 12, 3) := by decide +kernel
theorem dX6_came_18 : decode cX6_came 18 = .ok (.iload_n 1, 1) := by decide +kernel
theorem dX6_came_19 : decode cX6_came 19 = .ok (.iload_n 2, 1) := by decide +kernel
theorem dX6_came_20 : decode cX6_came 20 = .ok (.iload_n 3, 1) := by decide +kernel
theorem dX6_came_21 : decode cX6_came 21 = .ok (.invokevirtual 187, 3) := by decide +kernel
theorem dX6_came_24 : decode cX6_came 24 = .ok (.goto 5, 3) := by decide +kernel
theorem dX6_came_27 : decode cX6_came 27 = .ok (.bipush (-2), 2) := by decide +kernel
theorem dX6_came_29 : decode cX6_came 29 = .ok (.invokevirtual 66, 3) := by decide +kernel
theorem dX6_came_32 : decode cX6_came 32 = .ok (.ireturn, 1) := by decide +kernel
set_option maxRecDepth 20000 in
theorem ggX6_ask_X3_canCome : GoodIn wsX6_ask wsX3_canCome := goodIn_r _ [6, 7, 8, 9, 10, 11, 12, 5, 13, 14, 65, 66, 67, 68, 69, 70, 71, 72, 73, 74, 75, 76, 77, 78, 79] (by decide +kernel) (by decide +kernel)
set_option maxRecDepth 20000 in
theorem gX6_ask_X3_canCome : GoodIn wsX6_ask (wsV RX6 183 RX3 yX3_canCome wsX3_canCome) := goodIn_app (goodIn_of _ (by decide +kernel)) ggX6_ask_X3_canCome
set_option maxRecDepth 20000 in
theorem ggX6_ask_X6_counted : GoodIn wsX6_ask wsX6_counted := goodIn_r _ [18, 19, 20, 21, 54, 55, 56, 57, 58, 59, 60, 61, 62, 63, 64] (by decide +kernel) (by decide +kernel)
set_option maxRecDepth 20000 in
theorem gX6_ask_X6_counted : GoodIn wsX6_ask (wsV RX6 66 RX6 yX6_counted wsX6_counted) := goodIn_app (goodIn_of _ (by decide +kernel)) ggX6_ask_X6_counted
set_option maxRecDepth 20000 in
theorem ggX6_ask_X3_bellsFrom : GoodIn wsX6_ask wsX3_bellsFrom := goodIn_r _ [25, 14, 26, 27, 28, 5, 29, 30, 31, 65, 66, 67, 68, 69, 70, 71, 72, 73, 74, 75, 76, 77, 78, 79] (by decide +kernel) (by decide +kernel)
set_option maxRecDepth 20000 in
theorem gX6_ask_X3_bellsFrom : GoodIn wsX6_ask (wsV RX6 187 RX3 yX3_bellsFrom wsX3_bellsFrom) := goodIn_app (goodIn_of _ (by decide +kernel)) ggX6_ask_X3_bellsFrom
set_option maxRecDepth 20000 in
theorem ggX6_ask_X3_partsMostEvenly : GoodIn wsX6_ask wsX3_partsMostEvenly := goodIn_r _ [35, 14, 36, 37, 38, 39, 40, 8, 41, 42, 43, 44, 5, 45, 46, 23, 24, 25, 26, 27, 28, 29, 30, 31, 47, 48, 49, 50, 51, 52, 53, 65, 66, 67, 68, 69, 70, 71, 72, 73, 74, 75, 76, 77, 78, 79] (by decide +kernel) (by decide +kernel)
set_option maxRecDepth 20000 in
theorem gX6_ask_X3_partsMostEvenly : GoodIn wsX6_ask (wsV RX6 190 RX3 yX3_partsMostEvenly wsX3_partsMostEvenly) := goodIn_app (goodIn_of _ (by decide +kernel)) ggX6_ask_X3_partsMostEvenly
theorem dX6_ask_0 : decode cX6_ask 0 = .ok (.aload_n 0, 1) := by decide +kernel
theorem dX6_ask_1 : decode cX6_ask 1 = .ok (.getfield 12, 3) := by decide +kernel
theorem dX6_ask_4 : decode cX6_ask 4 = .ok (.iload_n 1, 1) := by decide +kernel
theorem dX6_ask_5 : decode cX6_ask 5 = .ok (.iload_n 2, 1) := by decide +kernel
theorem dX6_ask_6 : decode cX6_ask 6 = .ok (.iload_n 3, 1) := by decide +kernel
theorem dX6_ask_7 : decode cX6_ask 7 = .ok (.invokevirtual 183, 3) := by decide +kernel
theorem dX6_ask_10 : decode cX6_ask 10 = .ok (.ifCond .ne 10, 3) := by decide +kernel
theorem dX6_ask_13 : decode cX6_ask 13 = .ok (.aload_n 0, 1) := by decide +kernel
theorem dX6_ask_14 : decode cX6_ask 14 = .ok (.bipush (-2), 2) := by decide +kernel
theorem dX6_ask_16 : decode cX6_ask 16 = .ok (.invokevirtual 66, 3) := by decide +kernel
theorem dX6_ask_19 : decode cX6_ask 19 = .ok (.ireturn, 1) := by decide +kernel
theorem dX6_ask_20 : decode cX6_ask 20 = .ok (.aload_n 0, 1) := by decide +kernel
theorem dX6_ask_21 : decode cX6_ask 21 = .ok (.getfield 12, 3) := by decide +kernel
theorem dX6_ask_24 : decode cX6_ask 24 = .ok (.iload_n 1, 1) := by decide +kernel
theorem dX6_ask_25 : decode cX6_ask 25 = .ok (.iload_n 2, 1) := by decide +kernel
theorem dX6_ask_26 : decode cX6_ask 26 = .ok (.iload_n 3, 1) := by decide +kernel
theorem dX6_ask_27 : decode cX6_ask 27 = .ok (.invokevirtual 187, 3) := by decide +kernel
theorem dX6_ask_30 : decode cX6_ask 30 = .ok (.istore 4, 2) := by decide +kernel
theorem dX6_ask_32 : decode cX6_ask 32 = .ok (.aload_n 0, 1) := by decide +kernel
theorem dX6_ask_33 : decode cX6_ask 33 = .ok (.getfield 12, 3) := by decide +kernel
theorem dX6_ask_36 : decode cX6_ask 36 = .ok (.iload_n 1, 1) := by decide +kernel
theorem dX6_ask_37 : decode cX6_ask 37 = .ok (.iload 4, 2) := by decide +kernel
theorem dX6_ask_39 : decode cX6_ask 39 = .ok (.iload_n 2, 1) := by decide +kernel
theorem dX6_ask_40 : decode cX6_ask 40 = .ok (.iload_n 3, 1) := by decide +kernel
theorem dX6_ask_41 : decode cX6_ask 41 = .ok (.ior, 1) := by decide +kernel
theorem dX6_ask_42 : decode cX6_ask 42 = .ok (.invokevirtual 190, 3) := by decide +kernel
theorem dX6_ask_45 : decode cX6_ask 45 = .ok (.ireturn, 1) := by decide +kernel
set_option maxRecDepth 20000 in
theorem ggX6_image_X6_counted : GoodIn wsX6_image wsX6_counted := goodIn_r _ [10, 11, 12, 13, 52, 53, 54, 55, 56, 57, 58, 59, 60, 61, 62] (by decide +kernel) (by decide +kernel)
set_option maxRecDepth 20000 in
theorem gX6_image_X6_counted : GoodIn wsX6_image (wsV RX6 66 RX6 yX6_counted wsX6_counted) := goodIn_app (goodIn_of _ (by decide +kernel)) ggX6_image_X6_counted
set_option maxRecDepth 20000 in
theorem ggX6_image_X3_init : GoodIn wsX6_image wsX3_init := goodIn_r _ [16, 17, 18, 19, 20, 21, 22, 23, 24, 25, 26, 27, 28, 29, 30, 31, 32, 33, 34, 4, 35, 36, 37, 38, 39, 40, 41, 42, 43, 63, 64, 65, 66, 67, 68, 69, 70, 71, 72, 73, 74, 75, 76, 77] (by decide +kernel) (by decide +kernel)
set_option maxRecDepth 20000 in
theorem gX6_image_X3_init : GoodIn wsX6_image (wsX3_init) := ggX6_image_X3_init
set_option maxRecDepth 20000 in
theorem ggX6_image_X3_copy : GoodIn wsX6_image wsX3_copy := goodIn_r _ [47, 36, 37, 38, 39, 21, 48, 49, 50, 51, 22, 23, 24, 25, 26, 27, 28, 29, 30, 31, 63, 64, 65, 66, 67, 68, 69, 70, 71, 72, 73, 74, 75, 76, 77] (by decide +kernel) (by decide +kernel)
set_option maxRecDepth 20000 in
theorem gX6_image_X3_copy : GoodIn wsX6_image (wsV RX6 115 RX3 yX3_copy wsX3_copy) := goodIn_app (goodIn_of _ (by decide +kernel)) ggX6_image_X3_copy
theorem dX6_image_0 : decode cX6_image 0 = .ok (.iload_n 1, 1) := by decide +kernel
theorem dX6_image_1 : decode cX6_image 1 = .ok (.ifCond .lt 8, 3) := by decide +kernel
theorem dX6_image_4 : decode cX6_image 4 = .ok (.iload_n 1, 1) := by decide +kernel
theorem dX6_image_5 : decode cX6_image 5 = .ok (.iconst 2, 1) := by decide +kernel
theorem dX6_image_6 : decode cX6_image 6 = .ok (.if_icmp .lt 10, 3) := by decide +kernel
theorem dX6_image_9 : decode cX6_image 9 = .ok (.aload_n 0, 1) := by decide +kernel
theorem dX6_image_10 : decode cX6_image 10 = .ok (.bipush (-2), 2) := by decide +kernel
theorem dX6_image_12 : decode cX6_image 12 = .ok (.invokevirtual 66, 3) := by decide +kernel
theorem dX6_image_15 : decode cX6_image 15 = .ok (.ireturn, 1) := by decide +kernel
theorem dX6_image_16 : decode cX6_image 16 = .ok (.aload_n 0, 1) := by decide +kernel
theorem dX6_image_17 : decode cX6_image 17 = .ok (.getfield 19, 3) := by decide +kernel
theorem dX6_image_20 : decode cX6_image 20 = .ok (.iload_n 1, 1) := by decide +kernel
theorem dX6_image_21 : decode cX6_image 21 = .ok (.aaload, 1) := by decide +kernel
theorem dX6_image_22 : decode cX6_image 22 = .ok (.ifnonnull 16, 3) := by decide +kernel
theorem dX6_image_25 : decode cX6_image 25 = .ok (.aload_n 0, 1) := by decide +kernel
theorem dX6_image_26 : decode cX6_image 26 = .ok (.getfield 19, 3) := by decide +kernel
theorem dX6_image_29 : decode cX6_image 29 = .ok (.iload_n 1, 1) := by decide +kernel
theorem dX6_image_30 : decode cX6_image 30 = .ok (.new 9, 3) := by decide +kernel
theorem dX6_image_33 : decode cX6_image 33 = .ok (.dup, 1) := by decide +kernel
theorem dX6_image_34 : decode cX6_image 34 = .ok (.invokespecial 11, 3) := by decide +kernel
theorem dX6_image_37 : decode cX6_image 37 = .ok (.aastore, 1) := by decide +kernel
theorem dX6_image_38 : decode cX6_image 38 = .ok (.aload_n 0, 1) := by decide +kernel
theorem dX6_image_39 : decode cX6_image 39 = .ok (.getfield 19, 3) := by decide +kernel
theorem dX6_image_42 : decode cX6_image 42 = .ok (.iload_n 1, 1) := by decide +kernel
theorem dX6_image_43 : decode cX6_image 43 = .ok (.aaload, 1) := by decide +kernel
theorem dX6_image_44 : decode cX6_image 44 = .ok (.aload_n 0, 1) := by decide +kernel
theorem dX6_image_45 : decode cX6_image 45 = .ok (.getfield 12, 3) := by decide +kernel
theorem dX6_image_48 : decode cX6_image 48 = .ok (.invokevirtual 115, 3) := by decide +kernel
theorem dX6_image_51 : decode cX6_image 51 = .ok (.iconst 1, 1) := by decide +kernel
theorem dX6_image_52 : decode cX6_image 52 = .ok (.ireturn, 1) := by decide +kernel
set_option maxRecDepth 20000 in
theorem ggX6_from_X6_counted : GoodIn wsX6_from wsX6_counted := goodIn_r _ [7, 8, 9, 10, 35, 36, 37, 38, 39, 40, 41, 42, 43, 44, 45] (by decide +kernel) (by decide +kernel)
set_option maxRecDepth 20000 in
theorem gX6_from_X6_counted : GoodIn wsX6_from (wsV RX6 66 RX6 yX6_counted wsX6_counted) := goodIn_app (goodIn_of _ (by decide +kernel)) ggX6_from_X6_counted
set_option maxRecDepth 20000 in
theorem ggX6_from_X3_copy : GoodIn wsX6_from wsX3_copy := goodIn_r _ [15, 16, 17, 18, 19, 20, 21, 22, 23, 24, 25, 26, 27, 28, 29, 30, 31, 32, 33, 34, 46, 47, 48, 49, 50, 51, 52, 53, 54, 55, 56, 57, 58, 59, 60] (by decide +kernel) (by decide +kernel)
set_option maxRecDepth 20000 in
theorem gX6_from_X3_copy : GoodIn wsX6_from (wsV RX6 115 RX3 yX3_copy wsX3_copy) := goodIn_app (goodIn_of _ (by decide +kernel)) ggX6_from_X3_copy
theorem dX6_from_0 : decode cX6_from 0 = .ok (.iload_n 1, 1) := by decide +kernel
theorem dX6_from_1 : decode cX6_from 1 = .ok (.ifCond .lt 8, 3) := by decide +kernel
theorem dX6_from_4 : decode cX6_from 4 = .ok (.iload_n 1, 1) := by decide +kernel
theorem dX6_from_5 : decode cX6_from 5 = .ok (.iconst 2, 1) := by decide +kernel
theorem dX6_from_6 : decode cX6_from 6 = .ok (.if_icmp .lt 10, 3) := by decide +kernel
theorem dX6_from_9 : decode cX6_from 9 = .ok (.aload_n 0, 1) := by decide +kernel
theorem dX6_from_10 : decode cX6_from 10 = .ok (.bipush (-2), 2) := by decide +kernel
theorem dX6_from_12 : decode cX6_from 12 = .ok (.invokevirtual 66, 3) := by decide +kernel
theorem dX6_from_15 : decode cX6_from 15 = .ok (.ireturn, 1) := by decide +kernel
theorem dX6_from_16 : decode cX6_from 16 = .ok (.aload_n 0, 1) := by decide +kernel
theorem dX6_from_17 : decode cX6_from 17 = .ok (.getfield 19, 3) := by decide +kernel
theorem dX6_from_20 : decode cX6_from 20 = .ok (.iload_n 1, 1) := by decide +kernel
theorem dX6_from_21 : decode cX6_from 21 = .ok (.aaload, 1) := by decide +kernel
theorem dX6_from_22 : decode cX6_from 22 = .ok (.ifnonnull 10, 3) := by decide +kernel
theorem dX6_from_25 : decode cX6_from 25 = .ok (.aload_n 0, 1) := by decide +kernel
theorem dX6_from_26 : decode cX6_from 26 = .ok (.bipush (-3), 2) := by decide +kernel
theorem dX6_from_28 : decode cX6_from 28 = .ok (.invokevirtual 66, 3) := by decide +kernel
theorem dX6_from_31 : decode cX6_from 31 = .ok (.ireturn, 1) := by decide +kernel
theorem dX6_from_32 : decode cX6_from 32 = .ok (.aload_n 0, 1) := by decide +kernel
theorem dX6_from_33 : decode cX6_from 33 = .ok (.getfield 12, 3) := by decide +kernel
theorem dX6_from_36 : decode cX6_from 36 = .ok (.aload_n 0, 1) := by decide +kernel
theorem dX6_from_37 : decode cX6_from 37 = .ok (.getfield 19, 3) := by decide +kernel
theorem dX6_from_40 : decode cX6_from 40 = .ok (.iload_n 1, 1) := by decide +kernel
theorem dX6_from_41 : decode cX6_from 41 = .ok (.aaload, 1) := by decide +kernel
theorem dX6_from_42 : decode cX6_from 42 = .ok (.invokevirtual 115, 3) := by decide +kernel
theorem dX6_from_45 : decode cX6_from 45 = .ok (.iconst 1, 1) := by decide +kernel
theorem dX6_from_46 : decode cX6_from 46 = .ok (.ireturn, 1) := by decide +kernel
theorem dX6_status_0 : decode cX6_status 0 = .ok (.iload_n 1, 1) := by decide +kernel
theorem dX6_status_1 : decode cX6_status 1 = .ok (.tableswitch 42 0 2 #[27, 32, 37], 27) := by decide +kernel
theorem dX6_status_28 : decode cX6_status 28 = .ok (.aload_n 0, 1) := by decide +kernel
theorem dX6_status_29 : decode cX6_status 29 = .ok (.getfield 193, 3) := by decide +kernel
theorem dX6_status_32 : decode cX6_status 32 = .ok (.ireturn, 1) := by decide +kernel
theorem dX6_status_33 : decode cX6_status 33 = .ok (.aload_n 0, 1) := by decide +kernel
theorem dX6_status_34 : decode cX6_status 34 = .ok (.getfield 196, 3) := by decide +kernel
theorem dX6_status_37 : decode cX6_status 37 = .ok (.ireturn, 1) := by decide +kernel
theorem dX6_status_38 : decode cX6_status 38 = .ok (.aload_n 0, 1) := by decide +kernel
theorem dX6_status_39 : decode cX6_status 39 = .ok (.getfield 199, 3) := by decide +kernel
theorem dX6_status_42 : decode cX6_status 42 = .ok (.ireturn, 1) := by decide +kernel
theorem dX6_status_43 : decode cX6_status 43 = .ok (.aload_n 0, 1) := by decide +kernel
theorem dX6_status_44 : decode cX6_status 44 = .ok (.dup, 1) := by decide +kernel
theorem dX6_status_45 : decode cX6_status 45 = .ok (.getfield 193, 3) := by decide +kernel
theorem dX6_status_48 : decode cX6_status 48 = .ok (.iconst 1, 1) := by decide +kernel
theorem dX6_status_49 : decode cX6_status 49 = .ok (.iadd, 1) := by decide +kernel
theorem dX6_status_50 : decode cX6_status 50 = .ok (.putfield 193, 3) := by decide +kernel
theorem dX6_status_53 : decode cX6_status 53 = .ok (.iconst (-1), 1) := by decide +kernel
theorem dX6_status_54 : decode cX6_status 54 = .ok (.ireturn, 1) := by decide +kernel
set_option maxRecDepth 20000 in
theorem ggX6_count_X6_howMany : GoodIn wsX6_count wsX6_howMany := goodIn_r _ [5, 6, 7, 8, 9, 10, 11, 12, 20, 21, 22, 23, 24, 25, 26, 27, 28, 29, 30, 31, 32, 33, 34, 35, 36, 37, 38, 39, 40, 41, 42, 43, 44, 45, 46, 47, 48, 49, 50, 51, 52] (by decide +kernel) (by decide +kernel)
set_option maxRecDepth 20000 in
theorem gX6_count_X6_howMany : GoodIn wsX6_count (wsV RX6 202 RX6 yX6_howMany wsX6_howMany) := goodIn_app (goodIn_of _ (by decide +kernel)) ggX6_count_X6_howMany
set_option maxRecDepth 20000 in
theorem ggX6_count_X6_counted : GoodIn wsX6_count wsX6_counted := goodIn_r _ [16, 17, 18, 19, 20, 21, 22, 23, 24, 25, 26, 27, 28, 29, 30] (by decide +kernel) (by decide +kernel)
set_option maxRecDepth 20000 in
theorem gX6_count_X6_counted : GoodIn wsX6_count (wsV RX6 66 RX6 yX6_counted wsX6_counted) := goodIn_app (goodIn_of _ (by decide +kernel)) ggX6_count_X6_counted
theorem dX6_count_0 : decode cX6_count 0 = .ok (.aload_n 0, 1) := by decide +kernel
theorem dX6_count_1 : decode cX6_count 1 = .ok (.aload_n 0, 1) := by decide +kernel
theorem dX6_count_2 : decode cX6_count 2 = .ok (.iload_n 1, 1) := by decide +kernel
theorem dX6_count_3 : decode cX6_count 3 = .ok (.invokevirtual 202, 3) := by decide +kernel
theorem dX6_count_6 : decode cX6_count 6 = .ok (.invokevirtual 66, 3) := by decide +kernel
theorem dX6_count_9 : decode cX6_count 9 = .ok (.ireturn, 1) := by decide +kernel
set_option maxRecDepth 20000 in
theorem ggX6_digest_X6_howMany : GoodIn wsX6_digest wsX6_howMany := goodIn_r _ [8, 3, 9, 10, 11, 12, 13, 14, 35, 36, 37, 38, 39, 40, 41, 42, 43, 44, 45, 46, 47, 48, 49, 50, 51, 52, 53, 54, 55, 56, 57, 58, 59, 60, 61, 62, 63, 64, 65, 66, 67] (by decide +kernel) (by decide +kernel)
set_option maxRecDepth 20000 in
theorem gX6_digest_X6_howMany : GoodIn wsX6_digest (wsV RX6 202 RX6 yX6_howMany wsX6_howMany) := goodIn_app (goodIn_of _ (by decide +kernel)) ggX6_digest_X6_howMany
set_option maxRecDepth 20000 in
theorem ggX6_digest_X3_digestFrom : GoodIn wsX6_digest wsX3_digestFrom := goodIn_r _ [19, 20, 21, 22, 23, 24, 25, 26, 27, 28, 29, 30, 31, 32, 33, 34, 46, 47, 48, 49, 50, 51, 52, 53, 54, 55, 56, 57, 58, 59, 60] (by decide +kernel) (by decide +kernel)
set_option maxRecDepth 20000 in
theorem gX6_digest_X3_digestFrom : GoodIn wsX6_digest (wsV RX6 209 RX3 yX3_digestFrom wsX3_digestFrom) := goodIn_app (goodIn_of _ (by decide +kernel)) ggX6_digest_X3_digestFrom
theorem dX6_digest_0 : decode cX6_digest 0 = .ok (.ldc2_w 205, 3) := by decide +kernel
theorem dX6_digest_3 : decode cX6_digest 3 = .ok (.lstore_n 1, 1) := by decide +kernel
theorem dX6_digest_4 : decode cX6_digest 4 = .ok (.iconst 0, 1) := by decide +kernel
theorem dX6_digest_5 : decode cX6_digest 5 = .ok (.istore_n 3, 1) := by decide +kernel
theorem dX6_digest_6 : decode cX6_digest 6 = .ok (.iload_n 3, 1) := by decide +kernel
theorem dX6_digest_7 : decode cX6_digest 7 = .ok (.iconst 4, 1) := by decide +kernel
theorem dX6_digest_8 : decode cX6_digest 8 = .ok (.if_icmp .gt 22, 3) := by decide +kernel
theorem dX6_digest_11 : decode cX6_digest 11 = .ok (.ldc2_w 207, 3) := by decide +kernel
theorem dX6_digest_14 : decode cX6_digest 14 = .ok (.lload_n 1, 1) := by decide +kernel
theorem dX6_digest_15 : decode cX6_digest 15 = .ok (.lmul, 1) := by decide +kernel
theorem dX6_digest_16 : decode cX6_digest 16 = .ok (.aload_n 0, 1) := by decide +kernel
theorem dX6_digest_17 : decode cX6_digest 17 = .ok (.iload_n 3, 1) := by decide +kernel
theorem dX6_digest_18 : decode cX6_digest 18 = .ok (.invokevirtual 202, 3) := by decide +kernel
theorem dX6_digest_21 : decode cX6_digest 21 = .ok (.i2l, 1) := by decide +kernel
theorem dX6_digest_22 : decode cX6_digest 22 = .ok (.ladd, 1) := by decide +kernel
theorem dX6_digest_23 : decode cX6_digest 23 = .ok (.lstore_n 1, 1) := by decide +kernel
theorem dX6_digest_24 : decode cX6_digest 24 = .ok (.iinc 3 1, 3) := by decide +kernel
theorem dX6_digest_27 : decode cX6_digest 27 = .ok (.goto (-21), 3) := by decide +kernel
theorem dX6_digest_30 : decode cX6_digest 30 = .ok (.aload_n 0, 1) := by decide +kernel
theorem dX6_digest_31 : decode cX6_digest 31 = .ok (.getfield 12, 3) := by decide +kernel
theorem dX6_digest_34 : decode cX6_digest 34 = .ok (.lload_n 1, 1) := by decide +kernel
theorem dX6_digest_35 : decode cX6_digest 35 = .ok (.invokevirtual 209, 3) := by decide +kernel
theorem dX6_digest_38 : decode cX6_digest 38 = .ok (.lreturn, 1) := by decide +kernel
theorem dX6_counted_0 : decode cX6_counted 0 = .ok (.iload_n 1, 1) := by decide +kernel
theorem dX6_counted_1 : decode cX6_counted 1 = .ok (.bipush (-2), 2) := by decide +kernel
theorem dX6_counted_3 : decode cX6_counted 3 = .ok (.if_icmp .ne 16, 3) := by decide +kernel
theorem dX6_counted_6 : decode cX6_counted 6 = .ok (.aload_n 0, 1) := by decide +kernel
theorem dX6_counted_7 : decode cX6_counted 7 = .ok (.dup, 1) := by decide +kernel
theorem dX6_counted_8 : decode cX6_counted 8 = .ok (.getfield 193, 3) := by decide +kernel
theorem dX6_counted_11 : decode cX6_counted 11 = .ok (.iconst 1, 1) := by decide +kernel
theorem dX6_counted_12 : decode cX6_counted 12 = .ok (.iadd, 1) := by decide +kernel
theorem dX6_counted_13 : decode cX6_counted 13 = .ok (.putfield 193, 3) := by decide +kernel
theorem dX6_counted_16 : decode cX6_counted 16 = .ok (.goto 38, 3) := by decide +kernel
theorem dX6_counted_19 : decode cX6_counted 19 = .ok (.iload_n 1, 1) := by decide +kernel
theorem dX6_counted_20 : decode cX6_counted 20 = .ok (.bipush (-3), 2) := by decide +kernel
theorem dX6_counted_22 : decode cX6_counted 22 = .ok (.if_icmp .ne 16, 3) := by decide +kernel
theorem dX6_counted_25 : decode cX6_counted 25 = .ok (.aload_n 0, 1) := by decide +kernel
theorem dX6_counted_26 : decode cX6_counted 26 = .ok (.dup, 1) := by decide +kernel
theorem dX6_counted_27 : decode cX6_counted 27 = .ok (.getfield 196, 3) := by decide +kernel
theorem dX6_counted_30 : decode cX6_counted 30 = .ok (.iconst 1, 1) := by decide +kernel
theorem dX6_counted_31 : decode cX6_counted 31 = .ok (.iadd, 1) := by decide +kernel
theorem dX6_counted_32 : decode cX6_counted 32 = .ok (.putfield 196, 3) := by decide +kernel
theorem dX6_counted_35 : decode cX6_counted 35 = .ok (.goto 19, 3) := by decide +kernel
theorem dX6_counted_38 : decode cX6_counted 38 = .ok (.iload_n 1, 1) := by decide +kernel
theorem dX6_counted_39 : decode cX6_counted 39 = .ok (.bipush (-4), 2) := by decide +kernel
theorem dX6_counted_41 : decode cX6_counted 41 = .ok (.if_icmp .ne 13, 3) := by decide +kernel
theorem dX6_counted_44 : decode cX6_counted 44 = .ok (.aload_n 0, 1) := by decide +kernel
theorem dX6_counted_45 : decode cX6_counted 45 = .ok (.dup, 1) := by decide +kernel
theorem dX6_counted_46 : decode cX6_counted 46 = .ok (.getfield 199, 3) := by decide +kernel
theorem dX6_counted_49 : decode cX6_counted 49 = .ok (.iconst 1, 1) := by decide +kernel
theorem dX6_counted_50 : decode cX6_counted 50 = .ok (.iadd, 1) := by decide +kernel
theorem dX6_counted_51 : decode cX6_counted 51 = .ok (.putfield 199, 3) := by decide +kernel
theorem dX6_counted_54 : decode cX6_counted 54 = .ok (.iload_n 1, 1) := by decide +kernel
theorem dX6_counted_55 : decode cX6_counted 55 = .ok (.ireturn, 1) := by decide +kernel
theorem dX6_badApart_0 : decode cX6_badApart 0 = .ok (.aload_n 0, 1) := by decide +kernel
theorem dX6_badApart_1 : decode cX6_badApart 1 = .ok (.dup, 1) := by decide +kernel
theorem dX6_badApart_2 : decode cX6_badApart 2 = .ok (.getfield 193, 3) := by decide +kernel
theorem dX6_badApart_5 : decode cX6_badApart 5 = .ok (.iconst 1, 1) := by decide +kernel
theorem dX6_badApart_6 : decode cX6_badApart 6 = .ok (.iadd, 1) := by decide +kernel
theorem dX6_badApart_7 : decode cX6_badApart 7 = .ok (.putfield 193, 3) := by decide +kernel
theorem dX6_badApart_10 : decode cX6_badApart 10 = .ok (.bipush (-10), 2) := by decide +kernel
theorem dX6_badApart_12 : decode cX6_badApart 12 = .ok (.ireturn, 1) := by decide +kernel
theorem dX6_howMany_0 : decode cX6_howMany 0 = .ok (.iload_n 1, 1) := by decide +kernel
theorem dX6_howMany_1 : decode cX6_howMany 1 = .ok (.tableswitch 75 0 4 #[35, 43, 51, 59, 67], 35) := by decide +kernel
theorem dX6_howMany_36 : decode cX6_howMany 36 = .ok (.aload_n 0, 1) := by decide +kernel
theorem dX6_howMany_37 : decode cX6_howMany 37 = .ok (.getfield 12, 3) := by decide +kernel
theorem dX6_howMany_40 : decode cX6_howMany 40 = .ok (.getfield 58, 3) := by decide +kernel
theorem dX6_howMany_43 : decode cX6_howMany 43 = .ok (.ireturn, 1) := by decide +kernel
theorem dX6_howMany_44 : decode cX6_howMany 44 = .ok (.aload_n 0, 1) := by decide +kernel
theorem dX6_howMany_45 : decode cX6_howMany 45 = .ok (.getfield 12, 3) := by decide +kernel
theorem dX6_howMany_48 : decode cX6_howMany 48 = .ok (.getfield 213, 3) := by decide +kernel
theorem dX6_howMany_51 : decode cX6_howMany 51 = .ok (.ireturn, 1) := by decide +kernel
theorem dX6_howMany_52 : decode cX6_howMany 52 = .ok (.aload_n 0, 1) := by decide +kernel
theorem dX6_howMany_53 : decode cX6_howMany 53 = .ok (.getfield 12, 3) := by decide +kernel
theorem dX6_howMany_56 : decode cX6_howMany 56 = .ok (.getfield 119, 3) := by decide +kernel
theorem dX6_howMany_59 : decode cX6_howMany 59 = .ok (.ireturn, 1) := by decide +kernel
theorem dX6_howMany_60 : decode cX6_howMany 60 = .ok (.aload_n 0, 1) := by decide +kernel
theorem dX6_howMany_61 : decode cX6_howMany 61 = .ok (.getfield 12, 3) := by decide +kernel
theorem dX6_howMany_64 : decode cX6_howMany 64 = .ok (.getfield 177, 3) := by decide +kernel
theorem dX6_howMany_67 : decode cX6_howMany 67 = .ok (.ireturn, 1) := by decide +kernel
theorem dX6_howMany_68 : decode cX6_howMany 68 = .ok (.aload_n 0, 1) := by decide +kernel
theorem dX6_howMany_69 : decode cX6_howMany 69 = .ok (.getfield 26, 3) := by decide +kernel
theorem dX6_howMany_72 : decode cX6_howMany 72 = .ok (.getfield 216, 3) := by decide +kernel
theorem dX6_howMany_75 : decode cX6_howMany 75 = .ok (.ireturn, 1) := by decide +kernel
theorem dX6_howMany_76 : decode cX6_howMany 76 = .ok (.bipush (-2), 2) := by decide +kernel
theorem dX6_howMany_78 : decode cX6_howMany 78 = .ok (.ireturn, 1) := by decide +kernel
theorem dX6_isWind_0 : decode cX6_isWind 0 = .ok (.iload_n 0, 1) := by decide +kernel
theorem dX6_isWind_1 : decode cX6_isWind 1 = .ok (.ifCond .lt 12, 3) := by decide +kernel
theorem dX6_isWind_4 : decode cX6_isWind 4 = .ok (.iload_n 0, 1) := by decide +kernel
theorem dX6_isWind_5 : decode cX6_isWind 5 = .ok (.iconst 4, 1) := by decide +kernel
theorem dX6_isWind_6 : decode cX6_isWind 6 = .ok (.if_icmp .ge 7, 3) := by decide +kernel
theorem dX6_isWind_9 : decode cX6_isWind 9 = .ok (.iconst 1, 1) := by decide +kernel
theorem dX6_isWind_10 : decode cX6_isWind 10 = .ok (.goto 4, 3) := by decide +kernel
theorem dX6_isWind_13 : decode cX6_isWind 13 = .ok (.iconst 0, 1) := by decide +kernel
theorem dX6_isWind_14 : decode cX6_isWind 14 = .ok (.ireturn, 1) := by decide +kernel
theorem dX6_isSide_0 : decode cX6_isSide 0 = .ok (.iload_n 0, 1) := by decide +kernel
theorem dX6_isSide_1 : decode cX6_isSide 1 = .ok (.ifCond .eq 8, 3) := by decide +kernel
theorem dX6_isSide_4 : decode cX6_isSide 4 = .ok (.iload_n 0, 1) := by decide +kernel
theorem dX6_isSide_5 : decode cX6_isSide 5 = .ok (.iconst 1, 1) := by decide +kernel
theorem dX6_isSide_6 : decode cX6_isSide 6 = .ok (.if_icmp .ne 7, 3) := by decide +kernel
theorem dX6_isSide_9 : decode cX6_isSide 9 = .ok (.iconst 1, 1) := by decide +kernel
theorem dX6_isSide_10 : decode cX6_isSide 10 = .ok (.goto 4, 3) := by decide +kernel
theorem dX6_isSide_13 : decode cX6_isSide 13 = .ok (.iconst 0, 1) := by decide +kernel
theorem dX6_isSide_14 : decode cX6_isSide 14 = .ok (.ireturn, 1) := by decide +kernel
theorem dX6_has_0 : decode cX6_has 0 = .ok (.iload_n 0, 1) := by decide +kernel
theorem dX6_has_1 : decode cX6_has 1 = .ok (.iload_n 1, 1) := by decide +kernel
theorem dX6_has_2 : decode cX6_has 2 = .ok (.ishr, 1) := by decide +kernel
theorem dX6_has_3 : decode cX6_has 3 = .ok (.iconst 1, 1) := by decide +kernel
theorem dX6_has_4 : decode cX6_has 4 = .ok (.iand, 1) := by decide +kernel
theorem dX6_has_5 : decode cX6_has 5 = .ok (.ifCond .eq 7, 3) := by decide +kernel
theorem dX6_has_8 : decode cX6_has 8 = .ok (.iconst 1, 1) := by decide +kernel
theorem dX6_has_9 : decode cX6_has 9 = .ok (.goto 4, 3) := by decide +kernel
theorem dX6_has_12 : decode cX6_has 12 = .ok (.iconst 0, 1) := by decide +kernel
theorem dX6_has_13 : decode cX6_has 13 = .ok (.ireturn, 1) := by decide +kernel
theorem dX6_pair_0 : decode cX6_pair 0 = .ok (.iload_n 0, 1) := by decide +kernel
theorem dX6_pair_1 : decode cX6_pair 1 = .ok (.bipush 6, 2) := by decide +kernel
theorem dX6_pair_3 : decode cX6_pair 3 = .ok (.imul, 1) := by decide +kernel
theorem dX6_pair_4 : decode cX6_pair 4 = .ok (.iload_n 1, 1) := by decide +kernel
theorem dX6_pair_5 : decode cX6_pair 5 = .ok (.iadd, 1) := by decide +kernel
theorem dX6_pair_6 : decode cX6_pair 6 = .ok (.ireturn, 1) := by decide +kernel
set_option maxRecDepth 20000 in
theorem ggX7_init_X7_begins : GoodIn wsX7_init wsX7_begins := goodIn_r _ [20, 5, 21, 22, 23, 24, 25, 26, 27, 28, 29, 30, 31, 32, 33, 34, 35, 36] (by decide +kernel) (by decide +kernel)
set_option maxRecDepth 20000 in
theorem gX7_init_X7_begins : GoodIn wsX7_init (wsV RX7 41 RX7 yX7_begins wsX7_begins) := goodIn_app (goodIn_of _ (by decide +kernel)) ggX7_init_X7_begins
theorem dX7_init_0 : decode cX7_init 0 = .ok (.aload_n 0, 1) := by decide +kernel
theorem dX7_init_1 : decode cX7_init 1 = .ok (.invokespecial 1, 3) := by decide +kernel
theorem dX7_init_4 : decode cX7_init 4 = .ok (.aload_n 0, 1) := by decide +kernel
theorem dX7_init_5 : decode cX7_init 5 = .ok (.bipush 104, 2) := by decide +kernel
theorem dX7_init_7 : decode cX7_init 7 = .ok (.newarray .int, 2) := by decide +kernel
theorem dX7_init_9 : decode cX7_init 9 = .ok (.putfield 7, 3) := by decide +kernel
theorem dX7_init_12 : decode cX7_init 12 = .ok (.aload_n 0, 1) := by decide +kernel
theorem dX7_init_13 : decode cX7_init 13 = .ok (.bipush 104, 2) := by decide +kernel
theorem dX7_init_15 : decode cX7_init 15 = .ok (.newarray .int, 2) := by decide +kernel
theorem dX7_init_17 : decode cX7_init 17 = .ok (.putfield 13, 3) := by decide +kernel
theorem dX7_init_20 : decode cX7_init 20 = .ok (.aload_n 0, 1) := by decide +kernel
theorem dX7_init_21 : decode cX7_init 21 = .ok (.sipush 208, 3) := by decide +kernel
theorem dX7_init_24 : decode cX7_init 24 = .ok (.newarray .int, 2) := by decide +kernel
theorem dX7_init_26 : decode cX7_init 26 = .ok (.putfield 16, 3) := by decide +kernel
theorem dX7_init_29 : decode cX7_init 29 = .ok (.aload_n 0, 1) := by decide +kernel
theorem dX7_init_30 : decode cX7_init 30 = .ok (.iconst 2, 1) := by decide +kernel
theorem dX7_init_31 : decode cX7_init 31 = .ok (.newarray .boolean, 2) := by decide +kernel
theorem dX7_init_33 : decode cX7_init 33 = .ok (.putfield 19, 3) := by decide +kernel
theorem dX7_init_36 : decode cX7_init 36 = .ok (.aload_n 0, 1) := by decide +kernel
theorem dX7_init_37 : decode cX7_init 37 = .ok (.sipush 250, 3) := by decide +kernel
theorem dX7_init_40 : decode cX7_init 40 = .ok (.newarray .int, 2) := by decide +kernel
theorem dX7_init_42 : decode cX7_init 42 = .ok (.putfield 23, 3) := by decide +kernel
theorem dX7_init_45 : decode cX7_init 45 = .ok (.aload_n 0, 1) := by decide +kernel
theorem dX7_init_46 : decode cX7_init 46 = .ok (.iconst 3, 1) := by decide +kernel
theorem dX7_init_47 : decode cX7_init 47 = .ok (.newarray .int, 2) := by decide +kernel
theorem dX7_init_49 : decode cX7_init 49 = .ok (.putfield 26, 3) := by decide +kernel
theorem dX7_init_52 : decode cX7_init 52 = .ok (.aload_n 0, 1) := by decide +kernel
theorem dX7_init_53 : decode cX7_init 53 = .ok (.sipush 250, 3) := by decide +kernel
theorem dX7_init_56 : decode cX7_init 56 = .ok (.newarray .int, 2) := by decide +kernel
theorem dX7_init_58 : decode cX7_init 58 = .ok (.putfield 29, 3) := by decide +kernel
theorem dX7_init_61 : decode cX7_init 61 = .ok (.aload_n 0, 1) := by decide +kernel
theorem dX7_init_62 : decode cX7_init 62 = .ok (.bipush 12, 2) := by decide +kernel
theorem dX7_init_64 : decode cX7_init 64 = .ok (.newarray .int, 2) := by decide +kernel
theorem dX7_init_66 : decode cX7_init 66 = .ok (.putfield 32, 3) := by decide +kernel
theorem dX7_init_69 : decode cX7_init 69 = .ok (.aload_n 0, 1) := by decide +kernel
theorem dX7_init_70 : decode cX7_init 70 = .ok (.bipush 12, 2) := by decide +kernel
theorem dX7_init_72 : decode cX7_init 72 = .ok (.newarray .int, 2) := by decide +kernel
theorem dX7_init_74 : decode cX7_init 74 = .ok (.putfield 35, 3) := by decide +kernel
theorem dX7_init_77 : decode cX7_init 77 = .ok (.aload_n 0, 1) := by decide +kernel
theorem dX7_init_78 : decode cX7_init 78 = .ok (.bipush 6, 2) := by decide +kernel
theorem dX7_init_80 : decode cX7_init 80 = .ok (.newarray .int, 2) := by decide +kernel
theorem dX7_init_82 : decode cX7_init 82 = .ok (.putfield 38, 3) := by decide +kernel
theorem dX7_init_85 : decode cX7_init 85 = .ok (.aload_n 0, 1) := by decide +kernel
theorem dX7_init_86 : decode cX7_init 86 = .ok (.iconst 4, 1) := by decide +kernel
theorem dX7_init_87 : decode cX7_init 87 = .ok (.invokevirtual 41, 3) := by decide +kernel
theorem dX7_init_90 : decode cX7_init 90 = .ok (.return_, 1) := by decide +kernel
theorem dX7_in_0 : decode cX7_in 0 = .ok (.iload_n 0, 1) := by decide +kernel
theorem dX7_in_1 : decode cX7_in 1 = .ok (.iload_n 1, 1) := by decide +kernel
theorem dX7_in_2 : decode cX7_in 2 = .ok (.if_icmp .lt 12, 3) := by decide +kernel
theorem dX7_in_5 : decode cX7_in 5 = .ok (.iload_n 0, 1) := by decide +kernel
theorem dX7_in_6 : decode cX7_in 6 = .ok (.iload_n 2, 1) := by decide +kernel
theorem dX7_in_7 : decode cX7_in 7 = .ok (.if_icmp .gt 7, 3) := by decide +kernel
theorem dX7_in_10 : decode cX7_in 10 = .ok (.iconst 1, 1) := by decide +kernel
theorem dX7_in_11 : decode cX7_in 11 = .ok (.goto 4, 3) := by decide +kernel
theorem dX7_in_14 : decode cX7_in 14 = .ok (.iconst 0, 1) := by decide +kernel
theorem dX7_in_15 : decode cX7_in 15 = .ok (.ireturn, 1) := by decide +kernel
theorem dX7_refuses_0 : decode cX7_refuses 0 = .ok (.aload_n 0, 1) := by decide +kernel
theorem dX7_refuses_1 : decode cX7_refuses 1 = .ok (.getfield 26, 3) := by decide +kernel
theorem dX7_refuses_4 : decode cX7_refuses 4 = .ok (.iload_n 1, 1) := by decide +kernel
theorem dX7_refuses_5 : decode cX7_refuses 5 = .ok (.dup2, 1) := by decide +kernel
theorem dX7_refuses_6 : decode cX7_refuses 6 = .ok (.iaload, 1) := by decide +kernel
theorem dX7_refuses_7 : decode cX7_refuses 7 = .ok (.iconst 1, 1) := by decide +kernel
theorem dX7_refuses_8 : decode cX7_refuses 8 = .ok (.iadd, 1) := by decide +kernel
theorem dX7_refuses_9 : decode cX7_refuses 9 = .ok (.iastore, 1) := by decide +kernel
theorem dX7_refuses_10 : decode cX7_refuses 10 = .ok (.iload_n 2, 1) := by decide +kernel
theorem dX7_refuses_11 : decode cX7_refuses 11 = .ok (.ireturn, 1) := by decide +kernel
set_option maxRecDepth 20000 in
theorem ggX7_bad_X7_refuses : GoodIn wsX7_bad wsX7_refuses := goodIn_r _ [5, 6, 7, 8, 9, 10, 11, 12, 13, 14, 15, 16, 17, 18, 19, 20, 21, 22] (by decide +kernel) (by decide +kernel)
set_option maxRecDepth 20000 in
theorem gX7_bad_X7_refuses : GoodIn wsX7_bad (wsV RX7 45 RX7 yX7_refuses wsX7_refuses) := goodIn_app (goodIn_of _ (by decide +kernel)) ggX7_bad_X7_refuses
theorem dX7_bad_0 : decode cX7_bad 0 = .ok (.aload_n 0, 1) := by decide +kernel
theorem dX7_bad_1 : decode cX7_bad 1 = .ok (.iconst 0, 1) := by decide +kernel
theorem dX7_bad_2 : decode cX7_bad 2 = .ok (.bipush (-2), 2) := by decide +kernel
theorem dX7_bad_4 : decode cX7_bad 4 = .ok (.invokevirtual 45, 3) := by decide +kernel
theorem dX7_bad_7 : decode cX7_bad 7 = .ok (.ireturn, 1) := by decide +kernel
set_option maxRecDepth 20000 in
theorem ggX7_isOne_X7_in : GoodIn wsX7_isOne wsX7_in := goodIn_r _ [5] (by decide +kernel) (by decide +kernel)
set_option maxRecDepth 20000 in
theorem gX7_isOne_X7_in : GoodIn wsX7_isOne (va_wsS RX7 49 yX7_in wsX7_in) := goodIn_app (goodIn_of _ (by decide +kernel)) ggX7_isOne_X7_in
theorem dX7_isOne_0 : decode cX7_isOne 0 = .ok (.iload_n 1, 1) := by decide +kernel
theorem dX7_isOne_1 : decode cX7_isOne 1 = .ok (.iconst 0, 1) := by decide +kernel
theorem dX7_isOne_2 : decode cX7_isOne 2 = .ok (.aload_n 0, 1) := by decide +kernel
theorem dX7_isOne_3 : decode cX7_isOne 3 = .ok (.getfield 7, 3) := by decide +kernel
theorem dX7_isOne_6 : decode cX7_isOne 6 = .ok (.iconst 0, 1) := by decide +kernel
theorem dX7_isOne_7 : decode cX7_isOne 7 = .ok (.iaload, 1) := by decide +kernel
theorem dX7_isOne_8 : decode cX7_isOne 8 = .ok (.iconst 1, 1) := by decide +kernel
theorem dX7_isOne_9 : decode cX7_isOne 9 = .ok (.isub, 1) := by decide +kernel
theorem dX7_isOne_10 : decode cX7_isOne 10 = .ok (.invokestatic 49, 3) := by decide +kernel
theorem dX7_isOne_13 : decode cX7_isOne 13 = .ok (.ireturn, 1) := by decide +kernel
set_option maxRecDepth 20000 in
theorem ggX7_isSet_X7_in : GoodIn wsX7_isSet wsX7_in := goodIn_r _ [5] (by decide +kernel) (by decide +kernel)
set_option maxRecDepth 20000 in
theorem gX7_isSet_X7_in : GoodIn wsX7_isSet (va_wsS RX7 49 yX7_in wsX7_in) := goodIn_app (goodIn_of _ (by decide +kernel)) ggX7_isSet_X7_in
theorem dX7_isSet_0 : decode cX7_isSet 0 = .ok (.iload_n 1, 1) := by decide +kernel
theorem dX7_isSet_1 : decode cX7_isSet 1 = .ok (.iconst 0, 1) := by decide +kernel
theorem dX7_isSet_2 : decode cX7_isSet 2 = .ok (.iconst 1, 1) := by decide +kernel
theorem dX7_isSet_3 : decode cX7_isSet 3 = .ok (.aload_n 0, 1) := by decide +kernel
theorem dX7_isSet_4 : decode cX7_isSet 4 = .ok (.getfield 7, 3) := by decide +kernel
theorem dX7_isSet_7 : decode cX7_isSet 7 = .ok (.iconst 0, 1) := by decide +kernel
theorem dX7_isSet_8 : decode cX7_isSet 8 = .ok (.iaload, 1) := by decide +kernel
theorem dX7_isSet_9 : decode cX7_isSet 9 = .ok (.ishl, 1) := by decide +kernel
theorem dX7_isSet_10 : decode cX7_isSet 10 = .ok (.iconst 1, 1) := by decide +kernel
theorem dX7_isSet_11 : decode cX7_isSet 11 = .ok (.isub, 1) := by decide +kernel
theorem dX7_isSet_12 : decode cX7_isSet 12 = .ok (.invokestatic 49, 3) := by decide +kernel
theorem dX7_isSet_15 : decode cX7_isSet 15 = .ok (.ireturn, 1) := by decide +kernel
theorem dX7_begins_0 : decode cX7_begins 0 = .ok (.iconst 0, 1) := by decide +kernel
theorem dX7_begins_1 : decode cX7_begins 1 = .ok (.istore_n 2, 1) := by decide +kernel
theorem dX7_begins_2 : decode cX7_begins 2 = .ok (.iload_n 2, 1) := by decide +kernel
theorem dX7_begins_3 : decode cX7_begins 3 = .ok (.bipush 104, 2) := by decide +kernel
theorem dX7_begins_5 : decode cX7_begins 5 = .ok (.if_icmp .ge 16, 3) := by decide +kernel
theorem dX7_begins_8 : decode cX7_begins 8 = .ok (.aload_n 0, 1) := by decide +kernel
theorem dX7_begins_9 : decode cX7_begins 9 = .ok (.getfield 7, 3) := by decide +kernel
theorem dX7_begins_12 : decode cX7_begins 12 = .ok (.iload_n 2, 1) := by decide +kernel
theorem dX7_begins_13 : decode cX7_begins 13 = .ok (.iconst 0, 1) := by decide +kernel
theorem dX7_begins_14 : decode cX7_begins 14 = .ok (.iastore, 1) := by decide +kernel
theorem dX7_begins_15 : decode cX7_begins 15 = .ok (.iinc 2 1, 3) := by decide +kernel
theorem dX7_begins_18 : decode cX7_begins 18 = .ok (.goto (-16), 3) := by decide +kernel
theorem dX7_begins_21 : decode cX7_begins 21 = .ok (.aload_n 0, 1) := by decide +kernel
theorem dX7_begins_22 : decode cX7_begins 22 = .ok (.getfield 7, 3) := by decide +kernel
theorem dX7_begins_25 : decode cX7_begins 25 = .ok (.iconst 0, 1) := by decide +kernel
theorem dX7_begins_26 : decode cX7_begins 26 = .ok (.iload_n 1, 1) := by decide +kernel
theorem dX7_begins_27 : decode cX7_begins 27 = .ok (.iastore, 1) := by decide +kernel
theorem dX7_begins_28 : decode cX7_begins 28 = .ok (.iconst 0, 1) := by decide +kernel
theorem dX7_begins_29 : decode cX7_begins 29 = .ok (.istore_n 2, 1) := by decide +kernel
theorem dX7_begins_30 : decode cX7_begins 30 = .ok (.iload_n 2, 1) := by decide +kernel
theorem dX7_begins_31 : decode cX7_begins 31 = .ok (.iload_n 1, 1) := by decide +kernel
theorem dX7_begins_32 : decode cX7_begins 32 = .ok (.if_icmp .ge 29, 3) := by decide +kernel
theorem dX7_begins_35 : decode cX7_begins 35 = .ok (.aload_n 0, 1) := by decide +kernel
theorem dX7_begins_36 : decode cX7_begins 36 = .ok (.getfield 7, 3) := by decide +kernel
theorem dX7_begins_39 : decode cX7_begins 39 = .ok (.bipush 10, 2) := by decide +kernel
theorem dX7_begins_41 : decode cX7_begins 41 = .ok (.iload_n 2, 1) := by decide +kernel
theorem dX7_begins_42 : decode cX7_begins 42 = .ok (.iadd, 1) := by decide +kernel
theorem dX7_begins_43 : decode cX7_begins 43 = .ok (.iload_n 2, 1) := by decide +kernel
theorem dX7_begins_44 : decode cX7_begins 44 = .ok (.iastore, 1) := by decide +kernel
theorem dX7_begins_45 : decode cX7_begins 45 = .ok (.aload_n 0, 1) := by decide +kernel
theorem dX7_begins_46 : decode cX7_begins 46 = .ok (.getfield 7, 3) := by decide +kernel
theorem dX7_begins_49 : decode cX7_begins 49 = .ok (.bipush 16, 2) := by decide +kernel
theorem dX7_begins_51 : decode cX7_begins 51 = .ok (.iload_n 2, 1) := by decide +kernel
theorem dX7_begins_52 : decode cX7_begins 52 = .ok (.iadd, 1) := by decide +kernel
theorem dX7_begins_53 : decode cX7_begins 53 = .ok (.iload_n 2, 1) := by decide +kernel
theorem dX7_begins_54 : decode cX7_begins 54 = .ok (.iastore, 1) := by decide +kernel
theorem dX7_begins_55 : decode cX7_begins 55 = .ok (.iinc 2 1, 3) := by decide +kernel
theorem dX7_begins_58 : decode cX7_begins 58 = .ok (.goto (-28), 3) := by decide +kernel
theorem dX7_begins_61 : decode cX7_begins 61 = .ok (.return_, 1) := by decide +kernel
set_option maxRecDepth 20000 in
theorem ggX7_tellsHears_X7_isOne : GoodIn wsX7_tellsHears wsX7_isOne := goodIn_r _ [6, 1, 7, 8, 5, 9, 10, 11, 12, 13, 14, 15, 16, 17, 18, 19, 20, 21, 22, 23, 24, 25] (by decide +kernel) (by decide +kernel)
set_option maxRecDepth 20000 in
theorem gX7_tellsHears_X7_isOne : GoodIn wsX7_tellsHears (wsV RX7 53 RX7 yX7_isOne wsX7_isOne) := goodIn_app (goodIn_of _ (by decide +kernel)) ggX7_tellsHears_X7_isOne
set_option maxRecDepth 20000 in
theorem ggX7_tellsHears_X7_in : GoodIn wsX7_tellsHears wsX7_in := goodIn_r _ [9] (by decide +kernel) (by decide +kernel)
set_option maxRecDepth 20000 in
theorem gX7_tellsHears_X7_in : GoodIn wsX7_tellsHears (va_wsS RX7 49 yX7_in wsX7_in) := goodIn_app (goodIn_of _ (by decide +kernel)) ggX7_tellsHears_X7_in
theorem dX7_tellsHears_0 : decode cX7_tellsHears 0 = .ok (.aload_n 0, 1) := by decide +kernel
theorem dX7_tellsHears_1 : decode cX7_tellsHears 1 = .ok (.iload_n 1, 1) := by decide +kernel
theorem dX7_tellsHears_2 : decode cX7_tellsHears 2 = .ok (.invokevirtual 53, 3) := by decide +kernel
theorem dX7_tellsHears_5 : decode cX7_tellsHears 5 = .ok (.ifCond .eq 25, 3) := by decide +kernel
theorem dX7_tellsHears_8 : decode cX7_tellsHears 8 = .ok (.iload_n 2, 1) := by decide +kernel
theorem dX7_tellsHears_9 : decode cX7_tellsHears 9 = .ok (.iconst 0, 1) := by decide +kernel
theorem dX7_tellsHears_10 : decode cX7_tellsHears 10 = .ok (.iconst 3, 1) := by decide +kernel
theorem dX7_tellsHears_11 : decode cX7_tellsHears 11 = .ok (.invokestatic 49, 3) := by decide +kernel
theorem dX7_tellsHears_14 : decode cX7_tellsHears 14 = .ok (.ifCond .eq 16, 3) := by decide +kernel
theorem dX7_tellsHears_17 : decode cX7_tellsHears 17 = .ok (.aload_n 0, 1) := by decide +kernel
theorem dX7_tellsHears_18 : decode cX7_tellsHears 18 = .ok (.iload_n 3, 1) := by decide +kernel
theorem dX7_tellsHears_19 : decode cX7_tellsHears 19 = .ok (.invokevirtual 53, 3) := by decide +kernel
theorem dX7_tellsHears_22 : decode cX7_tellsHears 22 = .ok (.ifCond .eq 8, 3) := by decide +kernel
theorem dX7_tellsHears_25 : decode cX7_tellsHears 25 = .ok (.iload_n 1, 1) := by decide +kernel
theorem dX7_tellsHears_26 : decode cX7_tellsHears 26 = .ok (.iload_n 3, 1) := by decide +kernel
theorem dX7_tellsHears_27 : decode cX7_tellsHears 27 = .ok (.if_icmp .ne 6, 3) := by decide +kernel
theorem dX7_tellsHears_30 : decode cX7_tellsHears 30 = .ok (.bipush (-2), 2) := by decide +kernel
theorem dX7_tellsHears_32 : decode cX7_tellsHears 32 = .ok (.ireturn, 1) := by decide +kernel
theorem dX7_tellsHears_33 : decode cX7_tellsHears 33 = .ok (.bipush 22, 2) := by decide +kernel
theorem dX7_tellsHears_35 : decode cX7_tellsHears 35 = .ok (.iconst 4, 1) := by decide +kernel
theorem dX7_tellsHears_36 : decode cX7_tellsHears 36 = .ok (.iload_n 1, 1) := by decide +kernel
theorem dX7_tellsHears_37 : decode cX7_tellsHears 37 = .ok (.imul, 1) := by decide +kernel
theorem dX7_tellsHears_38 : decode cX7_tellsHears 38 = .ok (.iadd, 1) := by decide +kernel
theorem dX7_tellsHears_39 : decode cX7_tellsHears 39 = .ok (.iload_n 2, 1) := by decide +kernel
theorem dX7_tellsHears_40 : decode cX7_tellsHears 40 = .ok (.iadd, 1) := by decide +kernel
theorem dX7_tellsHears_41 : decode cX7_tellsHears 41 = .ok (.istore 5, 2) := by decide +kernel
theorem dX7_tellsHears_43 : decode cX7_tellsHears 43 = .ok (.aload_n 0, 1) := by decide +kernel
theorem dX7_tellsHears_44 : decode cX7_tellsHears 44 = .ok (.getfield 7, 3) := by decide +kernel
theorem dX7_tellsHears_47 : decode cX7_tellsHears 47 = .ok (.iload 5, 2) := by decide +kernel
theorem dX7_tellsHears_49 : decode cX7_tellsHears 49 = .ok (.iaload, 1) := by decide +kernel
theorem dX7_tellsHears_50 : decode cX7_tellsHears 50 = .ok (.iload_n 3, 1) := by decide +kernel
theorem dX7_tellsHears_51 : decode cX7_tellsHears 51 = .ok (.ishr, 1) := by decide +kernel
theorem dX7_tellsHears_52 : decode cX7_tellsHears 52 = .ok (.iconst 1, 1) := by decide +kernel
theorem dX7_tellsHears_53 : decode cX7_tellsHears 53 = .ok (.iand, 1) := by decide +kernel
theorem dX7_tellsHears_54 : decode cX7_tellsHears 54 = .ok (.iconst 1, 1) := by decide +kernel
theorem dX7_tellsHears_55 : decode cX7_tellsHears 55 = .ok (.if_icmp .ne 7, 3) := by decide +kernel
theorem dX7_tellsHears_58 : decode cX7_tellsHears 58 = .ok (.iconst 1, 1) := by decide +kernel
theorem dX7_tellsHears_59 : decode cX7_tellsHears 59 = .ok (.goto 4, 3) := by decide +kernel
theorem dX7_tellsHears_62 : decode cX7_tellsHears 62 = .ok (.iconst 0, 1) := by decide +kernel
theorem dX7_tellsHears_63 : decode cX7_tellsHears 63 = .ok (.iload 4, 2) := by decide +kernel
theorem dX7_tellsHears_65 : decode cX7_tellsHears 65 = .ok (.if_icmp .ne 6, 3) := by decide +kernel
theorem dX7_tellsHears_68 : decode cX7_tellsHears 68 = .ok (.bipush (-3), 2) := by decide +kernel
theorem dX7_tellsHears_70 : decode cX7_tellsHears 70 = .ok (.ireturn, 1) := by decide +kernel
theorem dX7_tellsHears_71 : decode cX7_tellsHears 71 = .ok (.aload_n 0, 1) := by decide +kernel
theorem dX7_tellsHears_72 : decode cX7_tellsHears 72 = .ok (.getfield 7, 3) := by decide +kernel
theorem dX7_tellsHears_75 : decode cX7_tellsHears 75 = .ok (.iload 5, 2) := by decide +kernel
theorem dX7_tellsHears_77 : decode cX7_tellsHears 77 = .ok (.dup2, 1) := by decide +kernel
theorem dX7_tellsHears_78 : decode cX7_tellsHears 78 = .ok (.iaload, 1) := by decide +kernel
theorem dX7_tellsHears_79 : decode cX7_tellsHears 79 = .ok (.iconst 1, 1) := by decide +kernel
theorem dX7_tellsHears_80 : decode cX7_tellsHears 80 = .ok (.iload_n 3, 1) := by decide +kernel
theorem dX7_tellsHears_81 : decode cX7_tellsHears 81 = .ok (.ishl, 1) := by decide +kernel
theorem dX7_tellsHears_82 : decode cX7_tellsHears 82 = .ok (.ixor, 1) := by decide +kernel
theorem dX7_tellsHears_83 : decode cX7_tellsHears 83 = .ok (.iastore, 1) := by decide +kernel
theorem dX7_tellsHears_84 : decode cX7_tellsHears 84 = .ok (.iconst 1, 1) := by decide +kernel
theorem dX7_tellsHears_85 : decode cX7_tellsHears 85 = .ok (.ireturn, 1) := by decide +kernel
set_option maxRecDepth 20000 in
theorem ggX7_tellsWood_X7_isOne : GoodIn wsX7_tellsWood wsX7_isOne := goodIn_r _ [6, 1, 7, 8, 5, 9, 10, 11, 12, 13, 14, 15, 16, 17, 18, 19, 20, 21, 22, 23, 24, 25] (by decide +kernel) (by decide +kernel)
set_option maxRecDepth 20000 in
theorem gX7_tellsWood_X7_isOne : GoodIn wsX7_tellsWood (wsV RX7 53 RX7 yX7_isOne wsX7_isOne) := goodIn_app (goodIn_of _ (by decide +kernel)) ggX7_tellsWood_X7_isOne
theorem dX7_tellsWood_0 : decode cX7_tellsWood 0 = .ok (.aload_n 0, 1) := by decide +kernel
theorem dX7_tellsWood_1 : decode cX7_tellsWood 1 = .ok (.iload_n 1, 1) := by decide +kernel
theorem dX7_tellsWood_2 : decode cX7_tellsWood 2 = .ok (.invokevirtual 53, 3) := by decide +kernel
theorem dX7_tellsWood_5 : decode cX7_tellsWood 5 = .ok (.ifCond .eq 16, 3) := by decide +kernel
theorem dX7_tellsWood_8 : decode cX7_tellsWood 8 = .ok (.aload_n 0, 1) := by decide +kernel
theorem dX7_tellsWood_9 : decode cX7_tellsWood 9 = .ok (.iload_n 2, 1) := by decide +kernel
theorem dX7_tellsWood_10 : decode cX7_tellsWood 10 = .ok (.invokevirtual 53, 3) := by decide +kernel
theorem dX7_tellsWood_13 : decode cX7_tellsWood 13 = .ok (.ifCond .eq 8, 3) := by decide +kernel
theorem dX7_tellsWood_16 : decode cX7_tellsWood 16 = .ok (.iload_n 1, 1) := by decide +kernel
theorem dX7_tellsWood_17 : decode cX7_tellsWood 17 = .ok (.iload_n 2, 1) := by decide +kernel
theorem dX7_tellsWood_18 : decode cX7_tellsWood 18 = .ok (.if_icmp .ne 6, 3) := by decide +kernel
theorem dX7_tellsWood_21 : decode cX7_tellsWood 21 = .ok (.bipush (-2), 2) := by decide +kernel
theorem dX7_tellsWood_23 : decode cX7_tellsWood 23 = .ok (.ireturn, 1) := by decide +kernel
theorem dX7_tellsWood_24 : decode cX7_tellsWood 24 = .ok (.aload_n 0, 1) := by decide +kernel
theorem dX7_tellsWood_25 : decode cX7_tellsWood 25 = .ok (.getfield 7, 3) := by decide +kernel
theorem dX7_tellsWood_28 : decode cX7_tellsWood 28 = .ok (.iconst 1, 1) := by decide +kernel
theorem dX7_tellsWood_29 : decode cX7_tellsWood 29 = .ok (.iaload, 1) := by decide +kernel
theorem dX7_tellsWood_30 : decode cX7_tellsWood 30 = .ok (.bipush 8, 2) := by decide +kernel
theorem dX7_tellsWood_32 : decode cX7_tellsWood 32 = .ok (.if_icmp .ne 6, 3) := by decide +kernel
theorem dX7_tellsWood_35 : decode cX7_tellsWood 35 = .ok (.bipush (-4), 2) := by decide +kernel
theorem dX7_tellsWood_37 : decode cX7_tellsWood 37 = .ok (.ireturn, 1) := by decide +kernel
theorem dX7_tellsWood_38 : decode cX7_tellsWood 38 = .ok (.aload_n 0, 1) := by decide +kernel
theorem dX7_tellsWood_39 : decode cX7_tellsWood 39 = .ok (.getfield 7, 3) := by decide +kernel
theorem dX7_tellsWood_42 : decode cX7_tellsWood 42 = .ok (.bipush 46, 2) := by decide +kernel
theorem dX7_tellsWood_44 : decode cX7_tellsWood 44 = .ok (.aload_n 0, 1) := by decide +kernel
theorem dX7_tellsWood_45 : decode cX7_tellsWood 45 = .ok (.getfield 7, 3) := by decide +kernel
theorem dX7_tellsWood_48 : decode cX7_tellsWood 48 = .ok (.iconst 1, 1) := by decide +kernel
theorem dX7_tellsWood_49 : decode cX7_tellsWood 49 = .ok (.iaload, 1) := by decide +kernel
theorem dX7_tellsWood_50 : decode cX7_tellsWood 50 = .ok (.iadd, 1) := by decide +kernel
theorem dX7_tellsWood_51 : decode cX7_tellsWood 51 = .ok (.iload_n 1, 1) := by decide +kernel
theorem dX7_tellsWood_52 : decode cX7_tellsWood 52 = .ok (.iastore, 1) := by decide +kernel
theorem dX7_tellsWood_53 : decode cX7_tellsWood 53 = .ok (.aload_n 0, 1) := by decide +kernel
theorem dX7_tellsWood_54 : decode cX7_tellsWood 54 = .ok (.getfield 7, 3) := by decide +kernel
theorem dX7_tellsWood_57 : decode cX7_tellsWood 57 = .ok (.bipush 54, 2) := by decide +kernel
theorem dX7_tellsWood_59 : decode cX7_tellsWood 59 = .ok (.aload_n 0, 1) := by decide +kernel
theorem dX7_tellsWood_60 : decode cX7_tellsWood 60 = .ok (.getfield 7, 3) := by decide +kernel
theorem dX7_tellsWood_63 : decode cX7_tellsWood 63 = .ok (.iconst 1, 1) := by decide +kernel
theorem dX7_tellsWood_64 : decode cX7_tellsWood 64 = .ok (.iaload, 1) := by decide +kernel
theorem dX7_tellsWood_65 : decode cX7_tellsWood 65 = .ok (.iadd, 1) := by decide +kernel
theorem dX7_tellsWood_66 : decode cX7_tellsWood 66 = .ok (.iload_n 2, 1) := by decide +kernel
theorem dX7_tellsWood_67 : decode cX7_tellsWood 67 = .ok (.iastore, 1) := by decide +kernel
theorem dX7_tellsWood_68 : decode cX7_tellsWood 68 = .ok (.aload_n 0, 1) := by decide +kernel
theorem dX7_tellsWood_69 : decode cX7_tellsWood 69 = .ok (.getfield 7, 3) := by decide +kernel
theorem dX7_tellsWood_72 : decode cX7_tellsWood 72 = .ok (.iconst 1, 1) := by decide +kernel
theorem dX7_tellsWood_73 : decode cX7_tellsWood 73 = .ok (.dup2, 1) := by decide +kernel
theorem dX7_tellsWood_74 : decode cX7_tellsWood 74 = .ok (.iaload, 1) := by decide +kernel
theorem dX7_tellsWood_75 : decode cX7_tellsWood 75 = .ok (.iconst 1, 1) := by decide +kernel
theorem dX7_tellsWood_76 : decode cX7_tellsWood 76 = .ok (.iadd, 1) := by decide +kernel
theorem dX7_tellsWood_77 : decode cX7_tellsWood 77 = .ok (.iastore, 1) := by decide +kernel
theorem dX7_tellsWood_78 : decode cX7_tellsWood 78 = .ok (.aload_n 0, 1) := by decide +kernel
theorem dX7_tellsWood_79 : decode cX7_tellsWood 79 = .ok (.getfield 7, 3) := by decide +kernel
theorem dX7_tellsWood_82 : decode cX7_tellsWood 82 = .ok (.iconst 1, 1) := by decide +kernel
theorem dX7_tellsWood_83 : decode cX7_tellsWood 83 = .ok (.iaload, 1) := by decide +kernel
theorem dX7_tellsWood_84 : decode cX7_tellsWood 84 = .ok (.iconst 1, 1) := by decide +kernel
theorem dX7_tellsWood_85 : decode cX7_tellsWood 85 = .ok (.isub, 1) := by decide +kernel
theorem dX7_tellsWood_86 : decode cX7_tellsWood 86 = .ok (.ireturn, 1) := by decide +kernel
theorem dX7_becomes_0 : decode cX7_becomes 0 = .ok (.aload_n 0, 1) := by decide +kernel
theorem dX7_becomes_1 : decode cX7_becomes 1 = .ok (.getfield 7, 3) := by decide +kernel
theorem dX7_becomes_4 : decode cX7_becomes 4 = .ok (.iload_n 1, 1) := by decide +kernel
theorem dX7_becomes_5 : decode cX7_becomes 5 = .ok (.iaload, 1) := by decide +kernel
theorem dX7_becomes_6 : decode cX7_becomes 6 = .ok (.istore_n 3, 1) := by decide +kernel
theorem dX7_becomes_7 : decode cX7_becomes 7 = .ok (.aload_n 0, 1) := by decide +kernel
theorem dX7_becomes_8 : decode cX7_becomes 8 = .ok (.getfield 7, 3) := by decide +kernel
theorem dX7_becomes_11 : decode cX7_becomes 11 = .ok (.iload_n 1, 1) := by decide +kernel
theorem dX7_becomes_12 : decode cX7_becomes 12 = .ok (.iload_n 2, 1) := by decide +kernel
theorem dX7_becomes_13 : decode cX7_becomes 13 = .ok (.iastore, 1) := by decide +kernel
theorem dX7_becomes_14 : decode cX7_becomes 14 = .ok (.iload_n 3, 1) := by decide +kernel
theorem dX7_becomes_15 : decode cX7_becomes 15 = .ok (.ireturn, 1) := by decide +kernel
set_option maxRecDepth 20000 in
theorem ggX7_tellsTemper_X7_isOne : GoodIn wsX7_tellsTemper wsX7_isOne := goodIn_r _ [5, 6, 7, 8, 4, 9, 14, 15, 16, 17, 18, 19, 20, 21, 22, 23, 24, 25, 26, 27, 28, 29] (by decide +kernel) (by decide +kernel)
set_option maxRecDepth 20000 in
theorem gX7_tellsTemper_X7_isOne : GoodIn wsX7_tellsTemper (wsV RX7 53 RX7 yX7_isOne wsX7_isOne) := goodIn_app (goodIn_of _ (by decide +kernel)) ggX7_tellsTemper_X7_isOne
set_option maxRecDepth 20000 in
theorem ggX7_tellsTemper_X7_in : GoodIn wsX7_tellsTemper wsX7_in := goodIn_r _ [9] (by decide +kernel) (by decide +kernel)
set_option maxRecDepth 20000 in
theorem gX7_tellsTemper_X7_in : GoodIn wsX7_tellsTemper (va_wsS RX7 49 yX7_in wsX7_in) := goodIn_app (goodIn_of _ (by decide +kernel)) ggX7_tellsTemper_X7_in
set_option maxRecDepth 20000 in
theorem ggX7_tellsTemper_X7_becomes : GoodIn wsX7_tellsTemper wsX7_becomes := goodIn_r _ [13, 6, 14, 15, 16, 17, 18, 19, 20, 21, 22, 23, 24, 25, 26, 27, 28, 29] (by decide +kernel) (by decide +kernel)
set_option maxRecDepth 20000 in
theorem gX7_tellsTemper_X7_becomes : GoodIn wsX7_tellsTemper (wsV RX7 57 RX7 yX7_becomes wsX7_becomes) := goodIn_app (goodIn_of _ (by decide +kernel)) ggX7_tellsTemper_X7_becomes
theorem dX7_tellsTemper_0 : decode cX7_tellsTemper 0 = .ok (.aload_n 0, 1) := by decide +kernel
theorem dX7_tellsTemper_1 : decode cX7_tellsTemper 1 = .ok (.iload_n 1, 1) := by decide +kernel
theorem dX7_tellsTemper_2 : decode cX7_tellsTemper 2 = .ok (.invokevirtual 53, 3) := by decide +kernel
theorem dX7_tellsTemper_5 : decode cX7_tellsTemper 5 = .ok (.ifCond .eq 23, 3) := by decide +kernel
theorem dX7_tellsTemper_8 : decode cX7_tellsTemper 8 = .ok (.iload_n 2, 1) := by decide +kernel
theorem dX7_tellsTemper_9 : decode cX7_tellsTemper 9 = .ok (.iconst 0, 1) := by decide +kernel
theorem dX7_tellsTemper_10 : decode cX7_tellsTemper 10 = .ok (.iconst 5, 1) := by decide +kernel
theorem dX7_tellsTemper_11 : decode cX7_tellsTemper 11 = .ok (.invokestatic 49, 3) := by decide +kernel
theorem dX7_tellsTemper_14 : decode cX7_tellsTemper 14 = .ok (.ifCond .eq 14, 3) := by decide +kernel
theorem dX7_tellsTemper_17 : decode cX7_tellsTemper 17 = .ok (.aload_n 0, 1) := by decide +kernel
theorem dX7_tellsTemper_18 : decode cX7_tellsTemper 18 = .ok (.iconst 4, 1) := by decide +kernel
theorem dX7_tellsTemper_19 : decode cX7_tellsTemper 19 = .ok (.iload_n 1, 1) := by decide +kernel
theorem dX7_tellsTemper_20 : decode cX7_tellsTemper 20 = .ok (.iadd, 1) := by decide +kernel
theorem dX7_tellsTemper_21 : decode cX7_tellsTemper 21 = .ok (.iload_n 2, 1) := by decide +kernel
theorem dX7_tellsTemper_22 : decode cX7_tellsTemper 22 = .ok (.invokevirtual 57, 3) := by decide +kernel
theorem dX7_tellsTemper_25 : decode cX7_tellsTemper 25 = .ok (.goto 5, 3) := by decide +kernel
theorem dX7_tellsTemper_28 : decode cX7_tellsTemper 28 = .ok (.bipush (-2), 2) := by decide +kernel
theorem dX7_tellsTemper_30 : decode cX7_tellsTemper 30 = .ok (.ireturn, 1) := by decide +kernel
set_option maxRecDepth 20000 in
theorem ggX7_tellsFriend_X7_isOne : GoodIn wsX7_tellsFriend wsX7_isOne := goodIn_r _ [5, 6, 7, 8, 4, 9, 14, 15, 16, 17, 18, 19, 20, 21, 22, 23, 24, 25, 26, 27, 28, 29] (by decide +kernel) (by decide +kernel)
set_option maxRecDepth 20000 in
theorem gX7_tellsFriend_X7_isOne : GoodIn wsX7_tellsFriend (wsV RX7 53 RX7 yX7_isOne wsX7_isOne) := goodIn_app (goodIn_of _ (by decide +kernel)) ggX7_tellsFriend_X7_isOne
set_option maxRecDepth 20000 in
theorem ggX7_tellsFriend_X7_becomes : GoodIn wsX7_tellsFriend wsX7_becomes := goodIn_r _ [13, 6, 14, 15, 16, 17, 18, 19, 20, 21, 22, 23, 24, 25, 26, 27, 28, 29] (by decide +kernel) (by decide +kernel)
set_option maxRecDepth 20000 in
theorem gX7_tellsFriend_X7_becomes : GoodIn wsX7_tellsFriend (wsV RX7 57 RX7 yX7_becomes wsX7_becomes) := goodIn_app (goodIn_of _ (by decide +kernel)) ggX7_tellsFriend_X7_becomes
theorem dX7_tellsFriend_0 : decode cX7_tellsFriend 0 = .ok (.aload_n 0, 1) := by decide +kernel
theorem dX7_tellsFriend_1 : decode cX7_tellsFriend 1 = .ok (.iload_n 1, 1) := by decide +kernel
theorem dX7_tellsFriend_2 : decode cX7_tellsFriend 2 = .ok (.invokevirtual 53, 3) := by decide +kernel
theorem dX7_tellsFriend_5 : decode cX7_tellsFriend 5 = .ok (.ifCond .eq 23, 3) := by decide +kernel
theorem dX7_tellsFriend_8 : decode cX7_tellsFriend 8 = .ok (.aload_n 0, 1) := by decide +kernel
theorem dX7_tellsFriend_9 : decode cX7_tellsFriend 9 = .ok (.iload_n 2, 1) := by decide +kernel
theorem dX7_tellsFriend_10 : decode cX7_tellsFriend 10 = .ok (.invokevirtual 53, 3) := by decide +kernel
theorem dX7_tellsFriend_13 : decode cX7_tellsFriend 13 = .ok (.ifCond .eq 15, 3) := by decide +kernel
theorem dX7_tellsFriend_16 : decode cX7_tellsFriend 16 = .ok (.aload_n 0, 1) := by decide +kernel
theorem dX7_tellsFriend_17 : decode cX7_tellsFriend 17 = .ok (.bipush 10, 2) := by decide +kernel
theorem dX7_tellsFriend_19 : decode cX7_tellsFriend 19 = .ok (.iload_n 1, 1) := by decide +kernel
theorem dX7_tellsFriend_20 : decode cX7_tellsFriend 20 = .ok (.iadd, 1) := by decide +kernel
theorem dX7_tellsFriend_21 : decode cX7_tellsFriend 21 = .ok (.iload_n 2, 1) := by decide +kernel
theorem dX7_tellsFriend_22 : decode cX7_tellsFriend 22 = .ok (.invokevirtual 57, 3) := by decide +kernel
theorem dX7_tellsFriend_25 : decode cX7_tellsFriend 25 = .ok (.goto 5, 3) := by decide +kernel
theorem dX7_tellsFriend_28 : decode cX7_tellsFriend 28 = .ok (.bipush (-2), 2) := by decide +kernel
theorem dX7_tellsFriend_30 : decode cX7_tellsFriend 30 = .ok (.ireturn, 1) := by decide +kernel
set_option maxRecDepth 20000 in
theorem ggX7_tellsNeed_X7_isOne : GoodIn wsX7_tellsNeed wsX7_isOne := goodIn_r _ [6, 1, 7, 8, 5, 9, 14, 15, 16, 17, 18, 19, 20, 21, 22, 23, 24, 25, 26, 27, 28, 29] (by decide +kernel) (by decide +kernel)
set_option maxRecDepth 20000 in
theorem gX7_tellsNeed_X7_isOne : GoodIn wsX7_tellsNeed (wsV RX7 53 RX7 yX7_isOne wsX7_isOne) := goodIn_app (goodIn_of _ (by decide +kernel)) ggX7_tellsNeed_X7_isOne
set_option maxRecDepth 20000 in
theorem ggX7_tellsNeed_X7_in : GoodIn wsX7_tellsNeed wsX7_in := goodIn_r _ [9] (by decide +kernel) (by decide +kernel)
set_option maxRecDepth 20000 in
theorem gX7_tellsNeed_X7_in : GoodIn wsX7_tellsNeed (va_wsS RX7 49 yX7_in wsX7_in) := goodIn_app (goodIn_of _ (by decide +kernel)) ggX7_tellsNeed_X7_in
set_option maxRecDepth 20000 in
theorem ggX7_tellsNeed_X7_isSet : GoodIn wsX7_tellsNeed wsX7_isSet := goodIn_r _ [13, 1, 7, 8, 5, 9, 14, 15, 16, 17, 18, 19, 20, 21, 22, 23, 24, 25, 26, 27, 28, 29] (by decide +kernel) (by decide +kernel)
set_option maxRecDepth 20000 in
theorem gX7_tellsNeed_X7_isSet : GoodIn wsX7_tellsNeed (wsV RX7 60 RX7 yX7_isSet wsX7_isSet) := goodIn_app (goodIn_of _ (by decide +kernel)) ggX7_tellsNeed_X7_isSet
theorem dX7_tellsNeed_0 : decode cX7_tellsNeed 0 = .ok (.aload_n 0, 1) := by decide +kernel
theorem dX7_tellsNeed_1 : decode cX7_tellsNeed 1 = .ok (.iload_n 1, 1) := by decide +kernel
theorem dX7_tellsNeed_2 : decode cX7_tellsNeed 2 = .ok (.invokevirtual 53, 3) := by decide +kernel
theorem dX7_tellsNeed_5 : decode cX7_tellsNeed 5 = .ok (.ifCond .eq 29, 3) := by decide +kernel
theorem dX7_tellsNeed_8 : decode cX7_tellsNeed 8 = .ok (.iload_n 2, 1) := by decide +kernel
theorem dX7_tellsNeed_9 : decode cX7_tellsNeed 9 = .ok (.iconst 0, 1) := by decide +kernel
theorem dX7_tellsNeed_10 : decode cX7_tellsNeed 10 = .ok (.iconst 3, 1) := by decide +kernel
theorem dX7_tellsNeed_11 : decode cX7_tellsNeed 11 = .ok (.invokestatic 49, 3) := by decide +kernel
theorem dX7_tellsNeed_14 : decode cX7_tellsNeed 14 = .ok (.ifCond .eq 20, 3) := by decide +kernel
theorem dX7_tellsNeed_17 : decode cX7_tellsNeed 17 = .ok (.aload_n 0, 1) := by decide +kernel
theorem dX7_tellsNeed_18 : decode cX7_tellsNeed 18 = .ok (.iload_n 3, 1) := by decide +kernel
theorem dX7_tellsNeed_19 : decode cX7_tellsNeed 19 = .ok (.invokevirtual 60, 3) := by decide +kernel
theorem dX7_tellsNeed_22 : decode cX7_tellsNeed 22 = .ok (.ifCond .eq 12, 3) := by decide +kernel
theorem dX7_tellsNeed_25 : decode cX7_tellsNeed 25 = .ok (.iload_n 3, 1) := by decide +kernel
theorem dX7_tellsNeed_26 : decode cX7_tellsNeed 26 = .ok (.iload_n 1, 1) := by decide +kernel
theorem dX7_tellsNeed_27 : decode cX7_tellsNeed 27 = .ok (.ishr, 1) := by decide +kernel
theorem dX7_tellsNeed_28 : decode cX7_tellsNeed 28 = .ok (.iconst 1, 1) := by decide +kernel
theorem dX7_tellsNeed_29 : decode cX7_tellsNeed 29 = .ok (.iand, 1) := by decide +kernel
theorem dX7_tellsNeed_30 : decode cX7_tellsNeed 30 = .ok (.iconst 1, 1) := by decide +kernel
theorem dX7_tellsNeed_31 : decode cX7_tellsNeed 31 = .ok (.if_icmp .ne 6, 3) := by decide +kernel
theorem dX7_tellsNeed_34 : decode cX7_tellsNeed 34 = .ok (.bipush (-2), 2) := by decide +kernel
theorem dX7_tellsNeed_36 : decode cX7_tellsNeed 36 = .ok (.ireturn, 1) := by decide +kernel
theorem dX7_tellsNeed_37 : decode cX7_tellsNeed 37 = .ok (.aload_n 0, 1) := by decide +kernel
theorem dX7_tellsNeed_38 : decode cX7_tellsNeed 38 = .ok (.getfield 7, 3) := by decide +kernel
theorem dX7_tellsNeed_41 : decode cX7_tellsNeed 41 = .ok (.iconst 2, 1) := by decide +kernel
theorem dX7_tellsNeed_42 : decode cX7_tellsNeed 42 = .ok (.iaload, 1) := by decide +kernel
theorem dX7_tellsNeed_43 : decode cX7_tellsNeed 43 = .ok (.bipush 12, 2) := by decide +kernel
theorem dX7_tellsNeed_45 : decode cX7_tellsNeed 45 = .ok (.if_icmp .ne 6, 3) := by decide +kernel
theorem dX7_tellsNeed_48 : decode cX7_tellsNeed 48 = .ok (.bipush (-4), 2) := by decide +kernel
theorem dX7_tellsNeed_50 : decode cX7_tellsNeed 50 = .ok (.ireturn, 1) := by decide +kernel
theorem dX7_tellsNeed_51 : decode cX7_tellsNeed 51 = .ok (.aload_n 0, 1) := by decide +kernel
theorem dX7_tellsNeed_52 : decode cX7_tellsNeed 52 = .ok (.getfield 7, 3) := by decide +kernel
theorem dX7_tellsNeed_55 : decode cX7_tellsNeed 55 = .ok (.iconst 2, 1) := by decide +kernel
theorem dX7_tellsNeed_56 : decode cX7_tellsNeed 56 = .ok (.iaload, 1) := by decide +kernel
theorem dX7_tellsNeed_57 : decode cX7_tellsNeed 57 = .ok (.istore 4, 2) := by decide +kernel
theorem dX7_tellsNeed_59 : decode cX7_tellsNeed 59 = .ok (.aload_n 0, 1) := by decide +kernel
theorem dX7_tellsNeed_60 : decode cX7_tellsNeed 60 = .ok (.getfield 7, 3) := by decide +kernel
theorem dX7_tellsNeed_63 : decode cX7_tellsNeed 63 = .ok (.bipush 62, 2) := by decide +kernel
theorem dX7_tellsNeed_65 : decode cX7_tellsNeed 65 = .ok (.iload 4, 2) := by decide +kernel
theorem dX7_tellsNeed_67 : decode cX7_tellsNeed 67 = .ok (.iadd, 1) := by decide +kernel
theorem dX7_tellsNeed_68 : decode cX7_tellsNeed 68 = .ok (.iload_n 1, 1) := by decide +kernel
theorem dX7_tellsNeed_69 : decode cX7_tellsNeed 69 = .ok (.iastore, 1) := by decide +kernel
theorem dX7_tellsNeed_70 : decode cX7_tellsNeed 70 = .ok (.aload_n 0, 1) := by decide +kernel
theorem dX7_tellsNeed_71 : decode cX7_tellsNeed 71 = .ok (.getfield 7, 3) := by decide +kernel
theorem dX7_tellsNeed_74 : decode cX7_tellsNeed 74 = .ok (.bipush 74, 2) := by decide +kernel
theorem dX7_tellsNeed_76 : decode cX7_tellsNeed 76 = .ok (.iload 4, 2) := by decide +kernel
theorem dX7_tellsNeed_78 : decode cX7_tellsNeed 78 = .ok (.iadd, 1) := by decide +kernel
theorem dX7_tellsNeed_79 : decode cX7_tellsNeed 79 = .ok (.iload_n 2, 1) := by decide +kernel
theorem dX7_tellsNeed_80 : decode cX7_tellsNeed 80 = .ok (.iastore, 1) := by decide +kernel
theorem dX7_tellsNeed_81 : decode cX7_tellsNeed 81 = .ok (.aload_n 0, 1) := by decide +kernel
theorem dX7_tellsNeed_82 : decode cX7_tellsNeed 82 = .ok (.getfield 7, 3) := by decide +kernel
theorem dX7_tellsNeed_85 : decode cX7_tellsNeed 85 = .ok (.bipush 86, 2) := by decide +kernel
theorem dX7_tellsNeed_87 : decode cX7_tellsNeed 87 = .ok (.iload 4, 2) := by decide +kernel
theorem dX7_tellsNeed_89 : decode cX7_tellsNeed 89 = .ok (.iadd, 1) := by decide +kernel
theorem dX7_tellsNeed_90 : decode cX7_tellsNeed 90 = .ok (.iload_n 3, 1) := by decide +kernel
theorem dX7_tellsNeed_91 : decode cX7_tellsNeed 91 = .ok (.iastore, 1) := by decide +kernel
theorem dX7_tellsNeed_92 : decode cX7_tellsNeed 92 = .ok (.aload_n 0, 1) := by decide +kernel
theorem dX7_tellsNeed_93 : decode cX7_tellsNeed 93 = .ok (.getfield 7, 3) := by decide +kernel
theorem dX7_tellsNeed_96 : decode cX7_tellsNeed 96 = .ok (.iconst 2, 1) := by decide +kernel
theorem dX7_tellsNeed_97 : decode cX7_tellsNeed 97 = .ok (.dup2, 1) := by decide +kernel
theorem dX7_tellsNeed_98 : decode cX7_tellsNeed 98 = .ok (.iaload, 1) := by decide +kernel
theorem dX7_tellsNeed_99 : decode cX7_tellsNeed 99 = .ok (.iconst 1, 1) := by decide +kernel
theorem dX7_tellsNeed_100 : decode cX7_tellsNeed 100 = .ok (.iadd, 1) := by decide +kernel
theorem dX7_tellsNeed_101 : decode cX7_tellsNeed 101 = .ok (.iastore, 1) := by decide +kernel
theorem dX7_tellsNeed_102 : decode cX7_tellsNeed 102 = .ok (.iload 4, 2) := by decide +kernel
theorem dX7_tellsNeed_104 : decode cX7_tellsNeed 104 = .ok (.ireturn, 1) := by decide +kernel
theorem dX7_told_0 : decode cX7_told 0 = .ok (.iload_n 1, 1) := by decide +kernel
theorem dX7_told_1 : decode cX7_told 1 = .ok (.iconst (-1), 1) := by decide +kernel
theorem dX7_told_2 : decode cX7_told 2 = .ok (.if_icmp .ge 16, 3) := by decide +kernel
theorem dX7_told_5 : decode cX7_told 5 = .ok (.aload_n 0, 1) := by decide +kernel
theorem dX7_told_6 : decode cX7_told 6 = .ok (.getfield 26, 3) := by decide +kernel
theorem dX7_told_9 : decode cX7_told 9 = .ok (.bipush (-2), 2) := by decide +kernel
theorem dX7_told_11 : decode cX7_told 11 = .ok (.iload_n 1, 1) := by decide +kernel
theorem dX7_told_12 : decode cX7_told 12 = .ok (.isub, 1) := by decide +kernel
theorem dX7_told_13 : decode cX7_told 13 = .ok (.dup2, 1) := by decide +kernel
theorem dX7_told_14 : decode cX7_told 14 = .ok (.iaload, 1) := by decide +kernel
theorem dX7_told_15 : decode cX7_told 15 = .ok (.iconst 1, 1) := by decide +kernel
theorem dX7_told_16 : decode cX7_told 16 = .ok (.iadd, 1) := by decide +kernel
theorem dX7_told_17 : decode cX7_told 17 = .ok (.iastore, 1) := by decide +kernel
theorem dX7_told_18 : decode cX7_told 18 = .ok (.iload_n 1, 1) := by decide +kernel
theorem dX7_told_19 : decode cX7_told 19 = .ok (.ireturn, 1) := by decide +kernel
set_option maxRecDepth 20000 in
theorem ggX7_villages_X7_in : GoodIn wsX7_villages wsX7_in := goodIn_r _ [5] (by decide +kernel) (by decide +kernel)
set_option maxRecDepth 20000 in
theorem gX7_villages_X7_in : GoodIn wsX7_villages (va_wsS RX7 49 yX7_in wsX7_in) := goodIn_app (goodIn_of _ (by decide +kernel)) ggX7_villages_X7_in
set_option maxRecDepth 20000 in
theorem ggX7_villages_X7_bad : GoodIn wsX7_villages wsX7_bad := goodIn_r _ [9, 10, 11, 12, 4, 13, 14, 19, 20, 21, 22, 23, 24, 25, 26, 27, 28, 29, 30, 31, 32, 33, 34] (by decide +kernel) (by decide +kernel)
set_option maxRecDepth 20000 in
theorem gX7_villages_X7_bad : GoodIn wsX7_villages (wsV RX7 63 RX7 yX7_bad wsX7_bad) := goodIn_app (goodIn_of _ (by decide +kernel)) ggX7_villages_X7_bad
set_option maxRecDepth 20000 in
theorem ggX7_villages_X7_begins : GoodIn wsX7_villages wsX7_begins := goodIn_r _ [18, 1, 19, 20, 21, 22, 23, 24, 25, 26, 27, 28, 29, 30, 31, 32, 33, 34] (by decide +kernel) (by decide +kernel)
set_option maxRecDepth 20000 in
theorem gX7_villages_X7_begins : GoodIn wsX7_villages (wsV RX7 41 RX7 yX7_begins wsX7_begins) := goodIn_app (goodIn_of _ (by decide +kernel)) ggX7_villages_X7_begins
theorem dX7_villages_0 : decode cX7_villages 0 = .ok (.iload_n 1, 1) := by decide +kernel
theorem dX7_villages_1 : decode cX7_villages 1 = .ok (.iconst 2, 1) := by decide +kernel
theorem dX7_villages_2 : decode cX7_villages 2 = .ok (.bipush 6, 2) := by decide +kernel
theorem dX7_villages_4 : decode cX7_villages 4 = .ok (.invokestatic 49, 3) := by decide +kernel
theorem dX7_villages_7 : decode cX7_villages 7 = .ok (.ifCond .ne 8, 3) := by decide +kernel
theorem dX7_villages_10 : decode cX7_villages 10 = .ok (.aload_n 0, 1) := by decide +kernel
theorem dX7_villages_11 : decode cX7_villages 11 = .ok (.invokevirtual 63, 3) := by decide +kernel
theorem dX7_villages_14 : decode cX7_villages 14 = .ok (.ireturn, 1) := by decide +kernel
theorem dX7_villages_15 : decode cX7_villages 15 = .ok (.aload_n 0, 1) := by decide +kernel
theorem dX7_villages_16 : decode cX7_villages 16 = .ok (.getfield 7, 3) := by decide +kernel
theorem dX7_villages_19 : decode cX7_villages 19 = .ok (.iconst 0, 1) := by decide +kernel
theorem dX7_villages_20 : decode cX7_villages 20 = .ok (.iaload, 1) := by decide +kernel
theorem dX7_villages_21 : decode cX7_villages 21 = .ok (.istore_n 2, 1) := by decide +kernel
theorem dX7_villages_22 : decode cX7_villages 22 = .ok (.aload_n 0, 1) := by decide +kernel
theorem dX7_villages_23 : decode cX7_villages 23 = .ok (.iload_n 1, 1) := by decide +kernel
theorem dX7_villages_24 : decode cX7_villages 24 = .ok (.invokevirtual 41, 3) := by decide +kernel
theorem dX7_villages_27 : decode cX7_villages 27 = .ok (.iload_n 2, 1) := by decide +kernel
theorem dX7_villages_28 : decode cX7_villages 28 = .ok (.ireturn, 1) := by decide +kernel
set_option maxRecDepth 20000 in
theorem ggX7_hears_X7_tellsHears : GoodIn wsX7_hears wsX7_tellsHears := goodIn_r _ [5, 6, 7, 8, 9, 4, 10, 11, 12, 13, 19, 20, 21, 22, 23, 24, 25, 26, 27, 28, 29, 30, 31, 32, 33, 34] (by decide +kernel) (by decide +kernel)
set_option maxRecDepth 20000 in
theorem gX7_hears_X7_tellsHears : GoodIn wsX7_hears (wsV RX7 67 RX7 yX7_tellsHears wsX7_tellsHears) := goodIn_app (goodIn_of _ (by decide +kernel)) ggX7_hears_X7_tellsHears
set_option maxRecDepth 20000 in
theorem ggX7_hears_X7_told : GoodIn wsX7_hears wsX7_told := goodIn_r _ [17, 18, 19, 20, 21, 22, 23, 24, 25, 26, 27, 28, 29, 30, 31, 32, 33, 34] (by decide +kernel) (by decide +kernel)
set_option maxRecDepth 20000 in
theorem gX7_hears_X7_told : GoodIn wsX7_hears (wsV RX7 71 RX7 yX7_told wsX7_told) := goodIn_app (goodIn_of _ (by decide +kernel)) ggX7_hears_X7_told
theorem dX7_hears_0 : decode cX7_hears 0 = .ok (.aload_n 0, 1) := by decide +kernel
theorem dX7_hears_1 : decode cX7_hears 1 = .ok (.aload_n 0, 1) := by decide +kernel
theorem dX7_hears_2 : decode cX7_hears 2 = .ok (.iload_n 1, 1) := by decide +kernel
theorem dX7_hears_3 : decode cX7_hears 3 = .ok (.iload_n 2, 1) := by decide +kernel
theorem dX7_hears_4 : decode cX7_hears 4 = .ok (.iload_n 3, 1) := by decide +kernel
theorem dX7_hears_5 : decode cX7_hears 5 = .ok (.iload 4, 2) := by decide +kernel
theorem dX7_hears_7 : decode cX7_hears 7 = .ok (.invokevirtual 67, 3) := by decide +kernel
theorem dX7_hears_10 : decode cX7_hears 10 = .ok (.invokevirtual 71, 3) := by decide +kernel
theorem dX7_hears_13 : decode cX7_hears 13 = .ok (.ireturn, 1) := by decide +kernel
set_option maxRecDepth 20000 in
theorem ggX7_wood_X7_tellsWood : GoodIn wsX7_wood wsX7_tellsWood := goodIn_r _ [5, 6, 7, 8, 9, 4, 10, 11, 12, 13, 19, 20, 21, 22, 23, 24, 25, 26, 27, 28, 29, 30, 31, 32, 33, 34] (by decide +kernel) (by decide +kernel)
set_option maxRecDepth 20000 in
theorem gX7_wood_X7_tellsWood : GoodIn wsX7_wood (wsV RX7 75 RX7 yX7_tellsWood wsX7_tellsWood) := goodIn_app (goodIn_of _ (by decide +kernel)) ggX7_wood_X7_tellsWood
set_option maxRecDepth 20000 in
theorem ggX7_wood_X7_told : GoodIn wsX7_wood wsX7_told := goodIn_r _ [17, 18, 19, 20, 21, 22, 23, 24, 25, 26, 27, 28, 29, 30, 31, 32, 33, 34] (by decide +kernel) (by decide +kernel)
set_option maxRecDepth 20000 in
theorem gX7_wood_X7_told : GoodIn wsX7_wood (wsV RX7 71 RX7 yX7_told wsX7_told) := goodIn_app (goodIn_of _ (by decide +kernel)) ggX7_wood_X7_told
theorem dX7_wood_0 : decode cX7_wood 0 = .ok (.aload_n 0, 1) := by decide +kernel
theorem dX7_wood_1 : decode cX7_wood 1 = .ok (.aload_n 0, 1) := by decide +kernel
theorem dX7_wood_2 : decode cX7_wood 2 = .ok (.iload_n 1, 1) := by decide +kernel
theorem dX7_wood_3 : decode cX7_wood 3 = .ok (.iload_n 2, 1) := by decide +kernel
theorem dX7_wood_4 : decode cX7_wood 4 = .ok (.invokevirtual 75, 3) := by decide +kernel
theorem dX7_wood_7 : decode cX7_wood 7 = .ok (.invokevirtual 71, 3) := by decide +kernel
theorem dX7_wood_10 : decode cX7_wood 10 = .ok (.ireturn, 1) := by decide +kernel
set_option maxRecDepth 20000 in
theorem ggX7_temper_X7_tellsTemper : GoodIn wsX7_temper wsX7_tellsTemper := goodIn_r _ [5, 6, 7, 8, 4, 9, 10, 11, 12, 13, 14, 15, 16, 17, 23, 24, 25, 26, 27, 28, 29, 30, 31, 32, 33, 34, 35, 36, 37, 38] (by decide +kernel) (by decide +kernel)
set_option maxRecDepth 20000 in
theorem gX7_temper_X7_tellsTemper : GoodIn wsX7_temper (wsV RX7 78 RX7 yX7_tellsTemper wsX7_tellsTemper) := goodIn_app (goodIn_of _ (by decide +kernel)) ggX7_temper_X7_tellsTemper
set_option maxRecDepth 20000 in
theorem ggX7_temper_X7_told : GoodIn wsX7_temper wsX7_told := goodIn_r _ [21, 22, 23, 24, 25, 26, 27, 28, 29, 30, 31, 32, 33, 34, 35, 36, 37, 38] (by decide +kernel) (by decide +kernel)
set_option maxRecDepth 20000 in
theorem gX7_temper_X7_told : GoodIn wsX7_temper (wsV RX7 71 RX7 yX7_told wsX7_told) := goodIn_app (goodIn_of _ (by decide +kernel)) ggX7_temper_X7_told
theorem dX7_temper_0 : decode cX7_temper 0 = .ok (.aload_n 0, 1) := by decide +kernel
theorem dX7_temper_1 : decode cX7_temper 1 = .ok (.aload_n 0, 1) := by decide +kernel
theorem dX7_temper_2 : decode cX7_temper 2 = .ok (.iload_n 1, 1) := by decide +kernel
theorem dX7_temper_3 : decode cX7_temper 3 = .ok (.iload_n 2, 1) := by decide +kernel
theorem dX7_temper_4 : decode cX7_temper 4 = .ok (.invokevirtual 78, 3) := by decide +kernel
theorem dX7_temper_7 : decode cX7_temper 7 = .ok (.invokevirtual 71, 3) := by decide +kernel
theorem dX7_temper_10 : decode cX7_temper 10 = .ok (.ireturn, 1) := by decide +kernel
set_option maxRecDepth 20000 in
theorem ggX7_friendOf_X7_tellsFriend : GoodIn wsX7_friendOf wsX7_tellsFriend := goodIn_r _ [5, 6, 7, 8, 4, 9, 10, 11, 12, 13, 14, 15, 16, 17, 23, 24, 25, 26, 27, 28, 29, 30, 31, 32, 33, 34, 35, 36, 37, 38] (by decide +kernel) (by decide +kernel)
set_option maxRecDepth 20000 in
theorem gX7_friendOf_X7_tellsFriend : GoodIn wsX7_friendOf (wsV RX7 81 RX7 yX7_tellsFriend wsX7_tellsFriend) := goodIn_app (goodIn_of _ (by decide +kernel)) ggX7_friendOf_X7_tellsFriend
set_option maxRecDepth 20000 in
theorem ggX7_friendOf_X7_told : GoodIn wsX7_friendOf wsX7_told := goodIn_r _ [21, 22, 23, 24, 25, 26, 27, 28, 29, 30, 31, 32, 33, 34, 35, 36, 37, 38] (by decide +kernel) (by decide +kernel)
set_option maxRecDepth 20000 in
theorem gX7_friendOf_X7_told : GoodIn wsX7_friendOf (wsV RX7 71 RX7 yX7_told wsX7_told) := goodIn_app (goodIn_of _ (by decide +kernel)) ggX7_friendOf_X7_told
theorem dX7_friendOf_0 : decode cX7_friendOf 0 = .ok (.aload_n 0, 1) := by decide +kernel
theorem dX7_friendOf_1 : decode cX7_friendOf 1 = .ok (.aload_n 0, 1) := by decide +kernel
theorem dX7_friendOf_2 : decode cX7_friendOf 2 = .ok (.iload_n 1, 1) := by decide +kernel
theorem dX7_friendOf_3 : decode cX7_friendOf 3 = .ok (.iload_n 2, 1) := by decide +kernel
theorem dX7_friendOf_4 : decode cX7_friendOf 4 = .ok (.invokevirtual 81, 3) := by decide +kernel
theorem dX7_friendOf_7 : decode cX7_friendOf 7 = .ok (.invokevirtual 71, 3) := by decide +kernel
theorem dX7_friendOf_10 : decode cX7_friendOf 10 = .ok (.ireturn, 1) := by decide +kernel
set_option maxRecDepth 20000 in
theorem ggX7_change_X7_isOne : GoodIn wsX7_change wsX7_isOne := goodIn_r _ [6, 1, 7, 8, 5, 9, 23, 24, 25, 26, 27, 28, 29, 30, 31, 32, 33, 34, 35, 36, 37, 38] (by decide +kernel) (by decide +kernel)
set_option maxRecDepth 20000 in
theorem gX7_change_X7_isOne : GoodIn wsX7_change (wsV RX7 53 RX7 yX7_isOne wsX7_isOne) := goodIn_app (goodIn_of _ (by decide +kernel)) ggX7_change_X7_isOne
set_option maxRecDepth 20000 in
theorem ggX7_change_X7_bad : GoodIn wsX7_change wsX7_bad := goodIn_r _ [13, 14, 15, 16, 5, 17, 18, 23, 24, 25, 26, 27, 28, 29, 30, 31, 32, 33, 34, 35, 36, 37, 38] (by decide +kernel) (by decide +kernel)
set_option maxRecDepth 20000 in
theorem gX7_change_X7_bad : GoodIn wsX7_change (wsV RX7 63 RX7 yX7_bad wsX7_bad) := goodIn_app (goodIn_of _ (by decide +kernel)) ggX7_change_X7_bad
set_option maxRecDepth 20000 in
theorem ggX7_change_X7_becomes : GoodIn wsX7_change wsX7_becomes := goodIn_r _ [22, 1, 23, 24, 25, 26, 27, 28, 29, 30, 31, 32, 33, 34, 35, 36, 37, 38] (by decide +kernel) (by decide +kernel)
set_option maxRecDepth 20000 in
theorem gX7_change_X7_becomes : GoodIn wsX7_change (wsV RX7 57 RX7 yX7_becomes wsX7_becomes) := goodIn_app (goodIn_of _ (by decide +kernel)) ggX7_change_X7_becomes
theorem dX7_change_0 : decode cX7_change 0 = .ok (.aload_n 0, 1) := by decide +kernel
theorem dX7_change_1 : decode cX7_change 1 = .ok (.iload_n 1, 1) := by decide +kernel
theorem dX7_change_2 : decode cX7_change 2 = .ok (.invokevirtual 53, 3) := by decide +kernel
theorem dX7_change_5 : decode cX7_change 5 = .ok (.ifCond .eq 16, 3) := by decide +kernel
theorem dX7_change_8 : decode cX7_change 8 = .ok (.aload_n 0, 1) := by decide +kernel
theorem dX7_change_9 : decode cX7_change 9 = .ok (.iload_n 2, 1) := by decide +kernel
theorem dX7_change_10 : decode cX7_change 10 = .ok (.invokevirtual 53, 3) := by decide +kernel
theorem dX7_change_13 : decode cX7_change 13 = .ok (.ifCond .eq 8, 3) := by decide +kernel
theorem dX7_change_16 : decode cX7_change 16 = .ok (.iload_n 1, 1) := by decide +kernel
theorem dX7_change_17 : decode cX7_change 17 = .ok (.iload_n 2, 1) := by decide +kernel
theorem dX7_change_18 : decode cX7_change 18 = .ok (.if_icmp .ne 8, 3) := by decide +kernel
theorem dX7_change_21 : decode cX7_change 21 = .ok (.aload_n 0, 1) := by decide +kernel
theorem dX7_change_22 : decode cX7_change 22 = .ok (.invokevirtual 63, 3) := by decide +kernel
theorem dX7_change_25 : decode cX7_change 25 = .ok (.ireturn, 1) := by decide +kernel
theorem dX7_change_26 : decode cX7_change 26 = .ok (.aload_n 0, 1) := by decide +kernel
theorem dX7_change_27 : decode cX7_change 27 = .ok (.bipush 16, 2) := by decide +kernel
theorem dX7_change_29 : decode cX7_change 29 = .ok (.iload_n 1, 1) := by decide +kernel
theorem dX7_change_30 : decode cX7_change 30 = .ok (.iadd, 1) := by decide +kernel
theorem dX7_change_31 : decode cX7_change 31 = .ok (.aload_n 0, 1) := by decide +kernel
theorem dX7_change_32 : decode cX7_change 32 = .ok (.getfield 7, 3) := by decide +kernel
theorem dX7_change_35 : decode cX7_change 35 = .ok (.bipush 16, 2) := by decide +kernel
theorem dX7_change_37 : decode cX7_change 37 = .ok (.iload_n 2, 1) := by decide +kernel
theorem dX7_change_38 : decode cX7_change 38 = .ok (.iadd, 1) := by decide +kernel
theorem dX7_change_39 : decode cX7_change 39 = .ok (.iaload, 1) := by decide +kernel
theorem dX7_change_40 : decode cX7_change 40 = .ok (.invokevirtual 57, 3) := by decide +kernel
theorem dX7_change_43 : decode cX7_change 43 = .ok (.istore_n 3, 1) := by decide +kernel
theorem dX7_change_44 : decode cX7_change 44 = .ok (.aload_n 0, 1) := by decide +kernel
theorem dX7_change_45 : decode cX7_change 45 = .ok (.getfield 7, 3) := by decide +kernel
theorem dX7_change_48 : decode cX7_change 48 = .ok (.bipush 16, 2) := by decide +kernel
theorem dX7_change_50 : decode cX7_change 50 = .ok (.iload_n 2, 1) := by decide +kernel
theorem dX7_change_51 : decode cX7_change 51 = .ok (.iadd, 1) := by decide +kernel
theorem dX7_change_52 : decode cX7_change 52 = .ok (.iload_n 3, 1) := by decide +kernel
theorem dX7_change_53 : decode cX7_change 53 = .ok (.iastore, 1) := by decide +kernel
theorem dX7_change_54 : decode cX7_change 54 = .ok (.iconst 1, 1) := by decide +kernel
theorem dX7_change_55 : decode cX7_change 55 = .ok (.ireturn, 1) := by decide +kernel
set_option maxRecDepth 20000 in
theorem ggX7_need_X7_tellsNeed : GoodIn wsX7_need wsX7_tellsNeed := goodIn_r _ [5, 6, 7, 8, 9, 4, 10, 11, 12, 13, 14, 15, 16, 17, 23, 24, 25, 26, 27, 28, 29, 30, 31, 32, 33, 34, 35, 36, 37, 38] (by decide +kernel) (by decide +kernel)
set_option maxRecDepth 20000 in
theorem gX7_need_X7_tellsNeed : GoodIn wsX7_need (wsV RX7 84 RX7 yX7_tellsNeed wsX7_tellsNeed) := goodIn_app (goodIn_of _ (by decide +kernel)) ggX7_need_X7_tellsNeed
set_option maxRecDepth 20000 in
theorem ggX7_need_X7_told : GoodIn wsX7_need wsX7_told := goodIn_r _ [21, 22, 23, 24, 25, 26, 27, 28, 29, 30, 31, 32, 33, 34, 35, 36, 37, 38] (by decide +kernel) (by decide +kernel)
set_option maxRecDepth 20000 in
theorem gX7_need_X7_told : GoodIn wsX7_need (wsV RX7 71 RX7 yX7_told wsX7_told) := goodIn_app (goodIn_of _ (by decide +kernel)) ggX7_need_X7_told
theorem dX7_need_0 : decode cX7_need 0 = .ok (.aload_n 0, 1) := by decide +kernel
theorem dX7_need_1 : decode cX7_need 1 = .ok (.aload_n 0, 1) := by decide +kernel
theorem dX7_need_2 : decode cX7_need 2 = .ok (.iload_n 1, 1) := by decide +kernel
theorem dX7_need_3 : decode cX7_need 3 = .ok (.iload_n 2, 1) := by decide +kernel
theorem dX7_need_4 : decode cX7_need 4 = .ok (.iload_n 3, 1) := by decide +kernel
theorem dX7_need_5 : decode cX7_need 5 = .ok (.invokevirtual 84, 3) := by decide +kernel
theorem dX7_need_8 : decode cX7_need 8 = .ok (.invokevirtual 71, 3) := by decide +kernel
theorem dX7_need_11 : decode cX7_need 11 = .ok (.ireturn, 1) := by decide +kernel
set_option maxRecDepth 20000 in
theorem ggX7_undo_X7_refuses : GoodIn wsX7_undo wsX7_refuses := goodIn_r _ [6, 7, 8, 9, 10, 11, 12, 13, 14, 15, 16, 17, 18, 19, 20, 21, 22, 23] (by decide +kernel) (by decide +kernel)
set_option maxRecDepth 20000 in
theorem gX7_undo_X7_refuses : GoodIn wsX7_undo (wsV RX7 45 RX7 yX7_refuses wsX7_refuses) := goodIn_app (goodIn_of _ (by decide +kernel)) ggX7_undo_X7_refuses
theorem dX7_undo_0 : decode cX7_undo 0 = .ok (.aload_n 0, 1) := by decide +kernel
theorem dX7_undo_1 : decode cX7_undo 1 = .ok (.getfield 7, 3) := by decide +kernel
theorem dX7_undo_4 : decode cX7_undo 4 = .ok (.iconst 2, 1) := by decide +kernel
theorem dX7_undo_5 : decode cX7_undo 5 = .ok (.iaload, 1) := by decide +kernel
theorem dX7_undo_6 : decode cX7_undo 6 = .ok (.ifCond .ne 11, 3) := by decide +kernel
theorem dX7_undo_9 : decode cX7_undo 9 = .ok (.aload_n 0, 1) := by decide +kernel
theorem dX7_undo_10 : decode cX7_undo 10 = .ok (.iconst 1, 1) := by decide +kernel
theorem dX7_undo_11 : decode cX7_undo 11 = .ok (.bipush (-3), 2) := by decide +kernel
theorem dX7_undo_13 : decode cX7_undo 13 = .ok (.invokevirtual 45, 3) := by decide +kernel
theorem dX7_undo_16 : decode cX7_undo 16 = .ok (.ireturn, 1) := by decide +kernel
theorem dX7_undo_17 : decode cX7_undo 17 = .ok (.aload_n 0, 1) := by decide +kernel
theorem dX7_undo_18 : decode cX7_undo 18 = .ok (.getfield 7, 3) := by decide +kernel
theorem dX7_undo_21 : decode cX7_undo 21 = .ok (.iconst 2, 1) := by decide +kernel
theorem dX7_undo_22 : decode cX7_undo 22 = .ok (.dup2, 1) := by decide +kernel
theorem dX7_undo_23 : decode cX7_undo 23 = .ok (.iaload, 1) := by decide +kernel
theorem dX7_undo_24 : decode cX7_undo 24 = .ok (.iconst 1, 1) := by decide +kernel
theorem dX7_undo_25 : decode cX7_undo 25 = .ok (.isub, 1) := by decide +kernel
theorem dX7_undo_26 : decode cX7_undo 26 = .ok (.iastore, 1) := by decide +kernel
theorem dX7_undo_27 : decode cX7_undo 27 = .ok (.aload_n 0, 1) := by decide +kernel
theorem dX7_undo_28 : decode cX7_undo 28 = .ok (.getfield 7, 3) := by decide +kernel
theorem dX7_undo_31 : decode cX7_undo 31 = .ok (.iconst 2, 1) := by decide +kernel
theorem dX7_undo_32 : decode cX7_undo 32 = .ok (.iaload, 1) := by decide +kernel
theorem dX7_undo_33 : decode cX7_undo 33 = .ok (.ireturn, 1) := by decide +kernel
theorem dX7_sounds_0 : decode cX7_sounds 0 = .ok (.aload_n 0, 1) := by decide +kernel
theorem dX7_sounds_1 : decode cX7_sounds 1 = .ok (.getfield 7, 3) := by decide +kernel
theorem dX7_sounds_4 : decode cX7_sounds 4 = .ok (.bipush 22, 2) := by decide +kernel
theorem dX7_sounds_6 : decode cX7_sounds 6 = .ok (.iconst 4, 1) := by decide +kernel
theorem dX7_sounds_7 : decode cX7_sounds 7 = .ok (.iload_n 1, 1) := by decide +kernel
theorem dX7_sounds_8 : decode cX7_sounds 8 = .ok (.imul, 1) := by decide +kernel
theorem dX7_sounds_9 : decode cX7_sounds 9 = .ok (.iadd, 1) := by decide +kernel
theorem dX7_sounds_10 : decode cX7_sounds 10 = .ok (.iload_n 2, 1) := by decide +kernel
theorem dX7_sounds_11 : decode cX7_sounds 11 = .ok (.iadd, 1) := by decide +kernel
theorem dX7_sounds_12 : decode cX7_sounds 12 = .ok (.iaload, 1) := by decide +kernel
theorem dX7_sounds_13 : decode cX7_sounds 13 = .ok (.istore 4, 2) := by decide +kernel
theorem dX7_sounds_15 : decode cX7_sounds 15 = .ok (.iconst 0, 1) := by decide +kernel
theorem dX7_sounds_16 : decode cX7_sounds 16 = .ok (.istore 5, 2) := by decide +kernel
theorem dX7_sounds_18 : decode cX7_sounds 18 = .ok (.iload 5, 2) := by decide +kernel
theorem dX7_sounds_20 : decode cX7_sounds 20 = .ok (.aload_n 0, 1) := by decide +kernel
theorem dX7_sounds_21 : decode cX7_sounds 21 = .ok (.getfield 7, 3) := by decide +kernel
theorem dX7_sounds_24 : decode cX7_sounds 24 = .ok (.iconst 1, 1) := by decide +kernel
theorem dX7_sounds_25 : decode cX7_sounds 25 = .ok (.iaload, 1) := by decide +kernel
theorem dX7_sounds_26 : decode cX7_sounds 26 = .ok (.if_icmp .ge 56, 3) := by decide +kernel
theorem dX7_sounds_29 : decode cX7_sounds 29 = .ok (.iload 4, 2) := by decide +kernel
theorem dX7_sounds_31 : decode cX7_sounds 31 = .ok (.iload_n 3, 1) := by decide +kernel
theorem dX7_sounds_32 : decode cX7_sounds 32 = .ok (.iload 5, 2) := by decide +kernel
theorem dX7_sounds_34 : decode cX7_sounds 34 = .ok (.ishr, 1) := by decide +kernel
theorem dX7_sounds_35 : decode cX7_sounds 35 = .ok (.iconst 1, 1) := by decide +kernel
theorem dX7_sounds_36 : decode cX7_sounds 36 = .ok (.iand, 1) := by decide +kernel
theorem dX7_sounds_37 : decode cX7_sounds 37 = .ok (.iconst 1, 1) := by decide +kernel
theorem dX7_sounds_38 : decode cX7_sounds 38 = .ok (.if_icmp .ne 34, 3) := by decide +kernel
theorem dX7_sounds_41 : decode cX7_sounds 41 = .ok (.aload_n 0, 1) := by decide +kernel
theorem dX7_sounds_42 : decode cX7_sounds 42 = .ok (.getfield 7, 3) := by decide +kernel
theorem dX7_sounds_45 : decode cX7_sounds 45 = .ok (.bipush 46, 2) := by decide +kernel
theorem dX7_sounds_47 : decode cX7_sounds 47 = .ok (.iload 5, 2) := by decide +kernel
theorem dX7_sounds_49 : decode cX7_sounds 49 = .ok (.iadd, 1) := by decide +kernel
theorem dX7_sounds_50 : decode cX7_sounds 50 = .ok (.iaload, 1) := by decide +kernel
theorem dX7_sounds_51 : decode cX7_sounds 51 = .ok (.iload_n 1, 1) := by decide +kernel
theorem dX7_sounds_52 : decode cX7_sounds 52 = .ok (.if_icmp .ne 20, 3) := by decide +kernel
theorem dX7_sounds_55 : decode cX7_sounds 55 = .ok (.iconst 1, 1) := by decide +kernel
theorem dX7_sounds_56 : decode cX7_sounds 56 = .ok (.aload_n 0, 1) := by decide +kernel
theorem dX7_sounds_57 : decode cX7_sounds 57 = .ok (.getfield 7, 3) := by decide +kernel
theorem dX7_sounds_60 : decode cX7_sounds 60 = .ok (.bipush 54, 2) := by decide +kernel
theorem dX7_sounds_62 : decode cX7_sounds 62 = .ok (.iload 5, 2) := by decide +kernel
theorem dX7_sounds_64 : decode cX7_sounds 64 = .ok (.iadd, 1) := by decide +kernel
theorem dX7_sounds_65 : decode cX7_sounds 65 = .ok (.iaload, 1) := by decide +kernel
theorem dX7_sounds_66 : decode cX7_sounds 66 = .ok (.ishl, 1) := by decide +kernel
theorem dX7_sounds_67 : decode cX7_sounds 67 = .ok (.iconst (-1), 1) := by decide +kernel
theorem dX7_sounds_68 : decode cX7_sounds 68 = .ok (.ixor, 1) := by decide +kernel
theorem dX7_sounds_69 : decode cX7_sounds 69 = .ok (.goto 4, 3) := by decide +kernel
theorem dX7_sounds_72 : decode cX7_sounds 72 = .ok (.iconst (-1), 1) := by decide +kernel
theorem dX7_sounds_73 : decode cX7_sounds 73 = .ok (.iand, 1) := by decide +kernel
theorem dX7_sounds_74 : decode cX7_sounds 74 = .ok (.istore 4, 2) := by decide +kernel
theorem dX7_sounds_76 : decode cX7_sounds 76 = .ok (.iinc 5 1, 3) := by decide +kernel
theorem dX7_sounds_79 : decode cX7_sounds 79 = .ok (.goto (-61), 3) := by decide +kernel
theorem dX7_sounds_82 : decode cX7_sounds 82 = .ok (.iload 4, 2) := by decide +kernel
theorem dX7_sounds_84 : decode cX7_sounds 84 = .ok (.ireturn, 1) := by decide +kernel
set_option maxRecDepth 20000 in
theorem ggX7_hall_X7_sounds : GoodIn wsX7_hall wsX7_sounds := goodIn_r _ [5, 6, 7, 8, 9, 10, 11, 12, 13, 14, 15, 16, 17, 18, 19, 20, 21, 22] (by decide +kernel) (by decide +kernel)
set_option maxRecDepth 20000 in
theorem gX7_hall_X7_sounds : GoodIn wsX7_hall (wsV RX7 88 RX7 yX7_sounds wsX7_sounds) := goodIn_app (goodIn_of _ (by decide +kernel)) ggX7_hall_X7_sounds
theorem dX7_hall_0 : decode cX7_hall 0 = .ok (.aload_n 0, 1) := by decide +kernel
theorem dX7_hall_1 : decode cX7_hall 1 = .ok (.iload_n 1, 1) := by decide +kernel
theorem dX7_hall_2 : decode cX7_hall 2 = .ok (.iload_n 2, 1) := by decide +kernel
theorem dX7_hall_3 : decode cX7_hall 3 = .ok (.sipush 255, 3) := by decide +kernel
theorem dX7_hall_6 : decode cX7_hall 6 = .ok (.invokevirtual 88, 3) := by decide +kernel
theorem dX7_hall_9 : decode cX7_hall 9 = .ok (.ireturn, 1) := by decide +kernel
set_option maxRecDepth 20000 in
theorem ggX7_heard_X7_isOne : GoodIn wsX7_heard wsX7_isOne := goodIn_r _ [5, 6, 7, 8, 4, 9, 27, 28, 29, 30, 31, 32, 33, 34, 35, 36, 37, 38, 39, 40, 41, 42] (by decide +kernel) (by decide +kernel)
set_option maxRecDepth 20000 in
theorem gX7_heard_X7_isOne : GoodIn wsX7_heard (wsV RX7 53 RX7 yX7_isOne wsX7_isOne) := goodIn_app (goodIn_of _ (by decide +kernel)) ggX7_heard_X7_isOne
set_option maxRecDepth 20000 in
theorem ggX7_heard_X7_in : GoodIn wsX7_heard wsX7_in := goodIn_r _ [9] (by decide +kernel) (by decide +kernel)
set_option maxRecDepth 20000 in
theorem gX7_heard_X7_in : GoodIn wsX7_heard (va_wsS RX7 49 yX7_in wsX7_in) := goodIn_app (goodIn_of _ (by decide +kernel)) ggX7_heard_X7_in
set_option maxRecDepth 20000 in
theorem ggX7_heard_X7_hall : GoodIn wsX7_heard wsX7_hall := goodIn_r _ [13, 14, 15, 16, 4, 17, 6, 27, 28, 29, 30, 31, 32, 33, 34, 35, 36, 37, 38, 39, 40, 41, 42] (by decide +kernel) (by decide +kernel)
set_option maxRecDepth 20000 in
theorem gX7_heard_X7_hall : GoodIn wsX7_heard (wsV RX7 91 RX7 yX7_hall wsX7_hall) := goodIn_app (goodIn_of _ (by decide +kernel)) ggX7_heard_X7_hall
set_option maxRecDepth 20000 in
theorem ggX7_heard_X7_bad : GoodIn wsX7_heard wsX7_bad := goodIn_r _ [21, 22, 23, 24, 4, 25, 26, 27, 28, 29, 30, 31, 32, 33, 34, 35, 36, 37, 38, 39, 40, 41, 42] (by decide +kernel) (by decide +kernel)
set_option maxRecDepth 20000 in
theorem gX7_heard_X7_bad : GoodIn wsX7_heard (wsV RX7 63 RX7 yX7_bad wsX7_bad) := goodIn_app (goodIn_of _ (by decide +kernel)) ggX7_heard_X7_bad
theorem dX7_heard_0 : decode cX7_heard 0 = .ok (.aload_n 0, 1) := by decide +kernel
theorem dX7_heard_1 : decode cX7_heard 1 = .ok (.iload_n 1, 1) := by decide +kernel
theorem dX7_heard_2 : decode cX7_heard 2 = .ok (.invokevirtual 53, 3) := by decide +kernel
theorem dX7_heard_5 : decode cX7_heard 5 = .ok (.ifCond .eq 21, 3) := by decide +kernel
theorem dX7_heard_8 : decode cX7_heard 8 = .ok (.iload_n 2, 1) := by decide +kernel
theorem dX7_heard_9 : decode cX7_heard 9 = .ok (.iconst 0, 1) := by decide +kernel
theorem dX7_heard_10 : decode cX7_heard 10 = .ok (.iconst 3, 1) := by decide +kernel
theorem dX7_heard_11 : decode cX7_heard 11 = .ok (.invokestatic 49, 3) := by decide +kernel
theorem dX7_heard_14 : decode cX7_heard 14 = .ok (.ifCond .eq 12, 3) := by decide +kernel
theorem dX7_heard_17 : decode cX7_heard 17 = .ok (.aload_n 0, 1) := by decide +kernel
theorem dX7_heard_18 : decode cX7_heard 18 = .ok (.iload_n 1, 1) := by decide +kernel
theorem dX7_heard_19 : decode cX7_heard 19 = .ok (.iload_n 2, 1) := by decide +kernel
theorem dX7_heard_20 : decode cX7_heard 20 = .ok (.invokevirtual 91, 3) := by decide +kernel
theorem dX7_heard_23 : decode cX7_heard 23 = .ok (.goto 7, 3) := by decide +kernel
theorem dX7_heard_26 : decode cX7_heard 26 = .ok (.aload_n 0, 1) := by decide +kernel
theorem dX7_heard_27 : decode cX7_heard 27 = .ok (.invokevirtual 63, 3) := by decide +kernel
theorem dX7_heard_30 : decode cX7_heard 30 = .ok (.ireturn, 1) := by decide +kernel
set_option maxRecDepth 20000 in
theorem ggX7_type_X7_in : GoodIn wsX7_type wsX7_in := goodIn_r _ [7] (by decide +kernel) (by decide +kernel)
set_option maxRecDepth 20000 in
theorem gX7_type_X7_in : GoodIn wsX7_type (va_wsS RX7 49 yX7_in wsX7_in) := goodIn_app (goodIn_of _ (by decide +kernel)) ggX7_type_X7_in
set_option maxRecDepth 20000 in
theorem ggX7_type_X7_bad : GoodIn wsX7_type wsX7_bad := goodIn_r _ [11, 12, 13, 14, 6, 15, 16, 17, 18, 19, 20, 21, 22, 23, 24, 25, 26, 27, 28, 29, 30, 31, 32] (by decide +kernel) (by decide +kernel)
set_option maxRecDepth 20000 in
theorem gX7_type_X7_bad : GoodIn wsX7_type (wsV RX7 63 RX7 yX7_bad wsX7_bad) := goodIn_app (goodIn_of _ (by decide +kernel)) ggX7_type_X7_bad
set_option maxRecDepth 20000 in
theorem ggX7_type_X7_refuses : GoodIn wsX7_type wsX7_refuses := goodIn_r _ [15, 16, 17, 18, 19, 20, 21, 22, 23, 24, 25, 26, 27, 28, 29, 30, 31, 32] (by decide +kernel) (by decide +kernel)
set_option maxRecDepth 20000 in
theorem gX7_type_X7_refuses : GoodIn wsX7_type (wsV RX7 45 RX7 yX7_refuses wsX7_refuses) := goodIn_app (goodIn_of _ (by decide +kernel)) ggX7_type_X7_refuses
theorem dX7_type_0 : decode cX7_type 0 = .ok (.iload_n 3, 1) := by decide +kernel
theorem dX7_type_1 : decode cX7_type 1 = .ok (.iconst 1, 1) := by decide +kernel
theorem dX7_type_2 : decode cX7_type 2 = .ok (.bipush 8, 2) := by decide +kernel
theorem dX7_type_4 : decode cX7_type 4 = .ok (.invokestatic 49, 3) := by decide +kernel
theorem dX7_type_7 : decode cX7_type 7 = .ok (.ifCond .ne 8, 3) := by decide +kernel
theorem dX7_type_10 : decode cX7_type 10 = .ok (.aload_n 0, 1) := by decide +kernel
theorem dX7_type_11 : decode cX7_type 11 = .ok (.invokevirtual 63, 3) := by decide +kernel
theorem dX7_type_14 : decode cX7_type 14 = .ok (.ireturn, 1) := by decide +kernel
theorem dX7_type_15 : decode cX7_type 15 = .ok (.aload_n 0, 1) := by decide +kernel
theorem dX7_type_16 : decode cX7_type 16 = .ok (.getfield 94, 3) := by decide +kernel
theorem dX7_type_19 : decode cX7_type 19 = .ok (.iload_n 3, 1) := by decide +kernel
theorem dX7_type_20 : decode cX7_type 20 = .ok (.iadd, 1) := by decide +kernel
theorem dX7_type_21 : decode cX7_type 21 = .ok (.sipush 250, 3) := by decide +kernel
theorem dX7_type_24 : decode cX7_type 24 = .ok (.if_icmp .le 11, 3) := by decide +kernel
theorem dX7_type_27 : decode cX7_type 27 = .ok (.aload_n 0, 1) := by decide +kernel
theorem dX7_type_28 : decode cX7_type 28 = .ok (.iconst 2, 1) := by decide +kernel
theorem dX7_type_29 : decode cX7_type 29 = .ok (.bipush (-4), 2) := by decide +kernel
theorem dX7_type_31 : decode cX7_type 31 = .ok (.invokevirtual 45, 3) := by decide +kernel
theorem dX7_type_34 : decode cX7_type 34 = .ok (.ireturn, 1) := by decide +kernel
theorem dX7_type_35 : decode cX7_type 35 = .ok (.iload_n 3, 1) := by decide +kernel
theorem dX7_type_36 : decode cX7_type 36 = .ok (.iconst 1, 1) := by decide +kernel
theorem dX7_type_37 : decode cX7_type 37 = .ok (.isub, 1) := by decide +kernel
theorem dX7_type_38 : decode cX7_type 38 = .ok (.istore 4, 2) := by decide +kernel
theorem dX7_type_40 : decode cX7_type 40 = .ok (.iload 4, 2) := by decide +kernel
theorem dX7_type_42 : decode cX7_type 42 = .ok (.ifCond .lt 40, 3) := by decide +kernel
theorem dX7_type_45 : decode cX7_type 45 = .ok (.aload_n 0, 1) := by decide +kernel
theorem dX7_type_46 : decode cX7_type 46 = .ok (.getfield 23, 3) := by decide +kernel
theorem dX7_type_49 : decode cX7_type 49 = .ok (.aload_n 0, 1) := by decide +kernel
theorem dX7_type_50 : decode cX7_type 50 = .ok (.getfield 94, 3) := by decide +kernel
theorem dX7_type_53 : decode cX7_type 53 = .ok (.lload_n 1, 1) := by decide +kernel
theorem dX7_type_54 : decode cX7_type 54 = .ok (.bipush 8, 2) := by decide +kernel
theorem dX7_type_56 : decode cX7_type 56 = .ok (.iload 4, 2) := by decide +kernel
theorem dX7_type_58 : decode cX7_type 58 = .ok (.imul, 1) := by decide +kernel
theorem dX7_type_59 : decode cX7_type 59 = .ok (.lshr, 1) := by decide +kernel
theorem dX7_type_60 : decode cX7_type 60 = .ok (.ldc2_w 98, 3) := by decide +kernel
theorem dX7_type_63 : decode cX7_type 63 = .ok (.land, 1) := by decide +kernel
theorem dX7_type_64 : decode cX7_type 64 = .ok (.l2i, 1) := by decide +kernel
theorem dX7_type_65 : decode cX7_type 65 = .ok (.iastore, 1) := by decide +kernel
theorem dX7_type_66 : decode cX7_type 66 = .ok (.aload_n 0, 1) := by decide +kernel
theorem dX7_type_67 : decode cX7_type 67 = .ok (.dup, 1) := by decide +kernel
theorem dX7_type_68 : decode cX7_type 68 = .ok (.getfield 94, 3) := by decide +kernel
theorem dX7_type_71 : decode cX7_type 71 = .ok (.iconst 1, 1) := by decide +kernel
theorem dX7_type_72 : decode cX7_type 72 = .ok (.iadd, 1) := by decide +kernel
theorem dX7_type_73 : decode cX7_type 73 = .ok (.putfield 94, 3) := by decide +kernel
theorem dX7_type_76 : decode cX7_type 76 = .ok (.iinc 4 (-1), 3) := by decide +kernel
theorem dX7_type_79 : decode cX7_type 79 = .ok (.goto (-39), 3) := by decide +kernel
theorem dX7_type_82 : decode cX7_type 82 = .ok (.aload_n 0, 1) := by decide +kernel
theorem dX7_type_83 : decode cX7_type 83 = .ok (.getfield 94, 3) := by decide +kernel
theorem dX7_type_86 : decode cX7_type 86 = .ok (.ireturn, 1) := by decide +kernel
theorem dX7_clear_0 : decode cX7_clear 0 = .ok (.aload_n 0, 1) := by decide +kernel
theorem dX7_clear_1 : decode cX7_clear 1 = .ok (.getfield 94, 3) := by decide +kernel
theorem dX7_clear_4 : decode cX7_clear 4 = .ok (.istore_n 1, 1) := by decide +kernel
theorem dX7_clear_5 : decode cX7_clear 5 = .ok (.aload_n 0, 1) := by decide +kernel
theorem dX7_clear_6 : decode cX7_clear 6 = .ok (.iconst 0, 1) := by decide +kernel
theorem dX7_clear_7 : decode cX7_clear 7 = .ok (.putfield 94, 3) := by decide +kernel
theorem dX7_clear_10 : decode cX7_clear 10 = .ok (.iload_n 1, 1) := by decide +kernel
theorem dX7_clear_11 : decode cX7_clear 11 = .ok (.ireturn, 1) := by decide +kernel
theorem dX7_byteAt_0 : decode cX7_byteAt 0 = .ok (.iload_n 1, 1) := by decide +kernel
theorem dX7_byteAt_1 : decode cX7_byteAt 1 = .ok (.aload_n 0, 1) := by decide +kernel
theorem dX7_byteAt_2 : decode cX7_byteAt 2 = .ok (.getfield 94, 3) := by decide +kernel
theorem dX7_byteAt_5 : decode cX7_byteAt 5 = .ok (.if_icmp .ge 12, 3) := by decide +kernel
theorem dX7_byteAt_8 : decode cX7_byteAt 8 = .ok (.aload_n 0, 1) := by decide +kernel
theorem dX7_byteAt_9 : decode cX7_byteAt 9 = .ok (.getfield 23, 3) := by decide +kernel
theorem dX7_byteAt_12 : decode cX7_byteAt 12 = .ok (.iload_n 1, 1) := by decide +kernel
theorem dX7_byteAt_13 : decode cX7_byteAt 13 = .ok (.iaload, 1) := by decide +kernel
theorem dX7_byteAt_14 : decode cX7_byteAt 14 = .ok (.goto 4, 3) := by decide +kernel
theorem dX7_byteAt_17 : decode cX7_byteAt 17 = .ok (.iconst (-1), 1) := by decide +kernel
theorem dX7_byteAt_18 : decode cX7_byteAt 18 = .ok (.ireturn, 1) := by decide +kernel
set_option maxRecDepth 20000 in
theorem ggX7_sortOf_X7_in : GoodIn wsX7_sortOf wsX7_in := goodIn_r _ [4] (by decide +kernel) (by decide +kernel)
set_option maxRecDepth 20000 in
theorem gX7_sortOf_X7_in : GoodIn wsX7_sortOf (va_wsS RX7 49 yX7_in wsX7_in) := goodIn_app (goodIn_of _ (by decide +kernel)) ggX7_sortOf_X7_in
theorem dX7_sortOf_0 : decode cX7_sortOf 0 = .ok (.iload_n 0, 1) := by decide +kernel
theorem dX7_sortOf_1 : decode cX7_sortOf 1 = .ok (.ifCond .ge 7, 3) := by decide +kernel
theorem dX7_sortOf_4 : decode cX7_sortOf 4 = .ok (.iconst 0, 1) := by decide +kernel
theorem dX7_sortOf_5 : decode cX7_sortOf 5 = .ok (.goto 44, 3) := by decide +kernel
theorem dX7_sortOf_8 : decode cX7_sortOf 8 = .ok (.iload_n 0, 1) := by decide +kernel
theorem dX7_sortOf_9 : decode cX7_sortOf 9 = .ok (.bipush 97, 2) := by decide +kernel
theorem dX7_sortOf_11 : decode cX7_sortOf 11 = .ok (.bipush 122, 2) := by decide +kernel
theorem dX7_sortOf_13 : decode cX7_sortOf 13 = .ok (.invokestatic 49, 3) := by decide +kernel
theorem dX7_sortOf_16 : decode cX7_sortOf 16 = .ok (.ifCond .eq 7, 3) := by decide +kernel
theorem dX7_sortOf_19 : decode cX7_sortOf 19 = .ok (.iconst 1, 1) := by decide +kernel
theorem dX7_sortOf_20 : decode cX7_sortOf 20 = .ok (.goto 29, 3) := by decide +kernel
theorem dX7_sortOf_23 : decode cX7_sortOf 23 = .ok (.iload_n 0, 1) := by decide +kernel
theorem dX7_sortOf_24 : decode cX7_sortOf 24 = .ok (.bipush 48, 2) := by decide +kernel
theorem dX7_sortOf_26 : decode cX7_sortOf 26 = .ok (.bipush 57, 2) := by decide +kernel
theorem dX7_sortOf_28 : decode cX7_sortOf 28 = .ok (.invokestatic 49, 3) := by decide +kernel
theorem dX7_sortOf_31 : decode cX7_sortOf 31 = .ok (.ifCond .eq 7, 3) := by decide +kernel
theorem dX7_sortOf_34 : decode cX7_sortOf 34 = .ok (.iconst 2, 1) := by decide +kernel
theorem dX7_sortOf_35 : decode cX7_sortOf 35 = .ok (.goto 14, 3) := by decide +kernel
theorem dX7_sortOf_38 : decode cX7_sortOf 38 = .ok (.iload_n 0, 1) := by decide +kernel
theorem dX7_sortOf_39 : decode cX7_sortOf 39 = .ok (.bipush 59, 2) := by decide +kernel
theorem dX7_sortOf_41 : decode cX7_sortOf 41 = .ok (.if_icmp .ne 7, 3) := by decide +kernel
theorem dX7_sortOf_44 : decode cX7_sortOf 44 = .ok (.iconst 3, 1) := by decide +kernel
theorem dX7_sortOf_45 : decode cX7_sortOf 45 = .ok (.goto 4, 3) := by decide +kernel
theorem dX7_sortOf_48 : decode cX7_sortOf 48 = .ok (.iconst 4, 1) := by decide +kernel
theorem dX7_sortOf_49 : decode cX7_sortOf 49 = .ok (.ireturn, 1) := by decide +kernel
set_option maxRecDepth 20000 in
theorem ggX7_token_X7_byteAt : GoodIn wsX7_token wsX7_byteAt := goodIn_r _ [9, 10, 11, 18, 19, 20, 21, 22, 23, 24, 25, 26, 27, 28, 29, 30, 31, 32, 33] (by decide +kernel) (by decide +kernel)
set_option maxRecDepth 20000 in
theorem gX7_token_X7_byteAt : GoodIn wsX7_token (wsV RX7 103 RX7 yX7_byteAt wsX7_byteAt) := goodIn_app (goodIn_of _ (by decide +kernel)) ggX7_token_X7_byteAt
set_option maxRecDepth 20000 in
theorem ggX7_token_X7_sortOf : GoodIn wsX7_token wsX7_sortOf := goodIn_r _ [14, 15, 16, 8, 17] (by decide +kernel) (by decide +kernel)
set_option maxRecDepth 20000 in
theorem gX7_token_X7_sortOf : GoodIn wsX7_token (va_wsS RX7 109 yX7_sortOf wsX7_sortOf) := goodIn_app (goodIn_of _ (by decide +kernel)) ggX7_token_X7_sortOf
theorem dX7_token_0 : decode cX7_token 0 = .ok (.aload_n 0, 1) := by decide +kernel
theorem dX7_token_1 : decode cX7_token 1 = .ok (.aload_n 0, 1) := by decide +kernel
theorem dX7_token_2 : decode cX7_token 2 = .ok (.getfield 100, 3) := by decide +kernel
theorem dX7_token_5 : decode cX7_token 5 = .ok (.invokevirtual 103, 3) := by decide +kernel
theorem dX7_token_8 : decode cX7_token 8 = .ok (.bipush 32, 2) := by decide +kernel
theorem dX7_token_10 : decode cX7_token 10 = .ok (.if_icmp .ne 16, 3) := by decide +kernel
theorem dX7_token_13 : decode cX7_token 13 = .ok (.aload_n 0, 1) := by decide +kernel
theorem dX7_token_14 : decode cX7_token 14 = .ok (.dup, 1) := by decide +kernel
theorem dX7_token_15 : decode cX7_token 15 = .ok (.getfield 100, 3) := by decide +kernel
theorem dX7_token_18 : decode cX7_token 18 = .ok (.iconst 1, 1) := by decide +kernel
theorem dX7_token_19 : decode cX7_token 19 = .ok (.iadd, 1) := by decide +kernel
theorem dX7_token_20 : decode cX7_token 20 = .ok (.putfield 100, 3) := by decide +kernel
theorem dX7_token_23 : decode cX7_token 23 = .ok (.goto (-23), 3) := by decide +kernel
theorem dX7_token_26 : decode cX7_token 26 = .ok (.aload_n 0, 1) := by decide +kernel
theorem dX7_token_27 : decode cX7_token 27 = .ok (.aload_n 0, 1) := by decide +kernel
theorem dX7_token_28 : decode cX7_token 28 = .ok (.getfield 100, 3) := by decide +kernel
theorem dX7_token_31 : decode cX7_token 31 = .ok (.putfield 106, 3) := by decide +kernel
theorem dX7_token_34 : decode cX7_token 34 = .ok (.aload_n 0, 1) := by decide +kernel
theorem dX7_token_35 : decode cX7_token 35 = .ok (.aload_n 0, 1) := by decide +kernel
theorem dX7_token_36 : decode cX7_token 36 = .ok (.aload_n 0, 1) := by decide +kernel
theorem dX7_token_37 : decode cX7_token 37 = .ok (.getfield 100, 3) := by decide +kernel
theorem dX7_token_40 : decode cX7_token 40 = .ok (.invokevirtual 103, 3) := by decide +kernel
theorem dX7_token_43 : decode cX7_token 43 = .ok (.invokestatic 109, 3) := by decide +kernel
theorem dX7_token_46 : decode cX7_token 46 = .ok (.putfield 112, 3) := by decide +kernel
theorem dX7_token_49 : decode cX7_token 49 = .ok (.aload_n 0, 1) := by decide +kernel
theorem dX7_token_50 : decode cX7_token 50 = .ok (.iconst 0, 1) := by decide +kernel
theorem dX7_token_51 : decode cX7_token 51 = .ok (.putfield 115, 3) := by decide +kernel
theorem dX7_token_54 : decode cX7_token 54 = .ok (.aload_n 0, 1) := by decide +kernel
theorem dX7_token_55 : decode cX7_token 55 = .ok (.getfield 115, 3) := by decide +kernel
theorem dX7_token_58 : decode cX7_token 58 = .ok (.ifCond .ne 10, 3) := by decide +kernel
theorem dX7_token_61 : decode cX7_token 61 = .ok (.aload_n 0, 1) := by decide +kernel
theorem dX7_token_62 : decode cX7_token 62 = .ok (.getfield 112, 3) := by decide +kernel
theorem dX7_token_65 : decode cX7_token 65 = .ok (.ifCond .ne 37, 3) := by decide +kernel
theorem dX7_token_68 : decode cX7_token 68 = .ok (.aload_n 0, 1) := by decide +kernel
theorem dX7_token_69 : decode cX7_token 69 = .ok (.getfield 112, 3) := by decide +kernel
theorem dX7_token_72 : decode cX7_token 72 = .ok (.iconst 1, 1) := by decide +kernel
theorem dX7_token_73 : decode cX7_token 73 = .ok (.if_icmp .eq 11, 3) := by decide +kernel
theorem dX7_token_76 : decode cX7_token 76 = .ok (.aload_n 0, 1) := by decide +kernel
theorem dX7_token_77 : decode cX7_token 77 = .ok (.getfield 112, 3) := by decide +kernel
theorem dX7_token_80 : decode cX7_token 80 = .ok (.iconst 2, 1) := by decide +kernel
theorem dX7_token_81 : decode cX7_token 81 = .ok (.if_icmp .ne 44, 3) := by decide +kernel
theorem dX7_token_84 : decode cX7_token 84 = .ok (.aload_n 0, 1) := by decide +kernel
theorem dX7_token_85 : decode cX7_token 85 = .ok (.aload_n 0, 1) := by decide +kernel
theorem dX7_token_86 : decode cX7_token 86 = .ok (.getfield 100, 3) := by decide +kernel
theorem dX7_token_89 : decode cX7_token 89 = .ok (.invokevirtual 103, 3) := by decide +kernel
theorem dX7_token_92 : decode cX7_token 92 = .ok (.invokestatic 109, 3) := by decide +kernel
theorem dX7_token_95 : decode cX7_token 95 = .ok (.aload_n 0, 1) := by decide +kernel
theorem dX7_token_96 : decode cX7_token 96 = .ok (.getfield 112, 3) := by decide +kernel
theorem dX7_token_99 : decode cX7_token 99 = .ok (.if_icmp .ne 26, 3) := by decide +kernel
theorem dX7_token_102 : decode cX7_token 102 = .ok (.aload_n 0, 1) := by decide +kernel
theorem dX7_token_103 : decode cX7_token 103 = .ok (.dup, 1) := by decide +kernel
theorem dX7_token_104 : decode cX7_token 104 = .ok (.getfield 100, 3) := by decide +kernel
theorem dX7_token_107 : decode cX7_token 107 = .ok (.iconst 1, 1) := by decide +kernel
theorem dX7_token_108 : decode cX7_token 108 = .ok (.iadd, 1) := by decide +kernel
theorem dX7_token_109 : decode cX7_token 109 = .ok (.putfield 100, 3) := by decide +kernel
theorem dX7_token_112 : decode cX7_token 112 = .ok (.aload_n 0, 1) := by decide +kernel
theorem dX7_token_113 : decode cX7_token 113 = .ok (.dup, 1) := by decide +kernel
theorem dX7_token_114 : decode cX7_token 114 = .ok (.getfield 115, 3) := by decide +kernel
theorem dX7_token_117 : decode cX7_token 117 = .ok (.iconst 1, 1) := by decide +kernel
theorem dX7_token_118 : decode cX7_token 118 = .ok (.iadd, 1) := by decide +kernel
theorem dX7_token_119 : decode cX7_token 119 = .ok (.putfield 115, 3) := by decide +kernel
theorem dX7_token_122 : decode cX7_token 122 = .ok (.goto (-68), 3) := by decide +kernel
theorem dX7_token_125 : decode cX7_token 125 = .ok (.return_, 1) := by decide +kernel
set_option maxRecDepth 20000 in
theorem ggX7_verb_X7_byteAt : GoodIn wsX7_verb wsX7_byteAt := goodIn_r _ [15, 16, 17, 18, 19, 20, 21, 22, 23, 24, 25, 26, 27, 28, 29, 30, 31, 32, 33] (by decide +kernel) (by decide +kernel)
set_option maxRecDepth 20000 in
theorem gX7_verb_X7_byteAt : GoodIn wsX7_verb (wsV RX7 103 RX7 yX7_byteAt wsX7_byteAt) := goodIn_app (goodIn_of _ (by decide +kernel)) ggX7_verb_X7_byteAt
theorem dX7_verb_0 : decode cX7_verb 0 = .ok (.lconst 0, 1) := by decide +kernel
theorem dX7_verb_1 : decode cX7_verb 1 = .ok (.lstore_n 1, 1) := by decide +kernel
theorem dX7_verb_2 : decode cX7_verb 2 = .ok (.iconst 0, 1) := by decide +kernel
theorem dX7_verb_3 : decode cX7_verb 3 = .ok (.istore_n 3, 1) := by decide +kernel
theorem dX7_verb_4 : decode cX7_verb 4 = .ok (.iload_n 3, 1) := by decide +kernel
theorem dX7_verb_5 : decode cX7_verb 5 = .ok (.aload_n 0, 1) := by decide +kernel
theorem dX7_verb_6 : decode cX7_verb 6 = .ok (.getfield 115, 3) := by decide +kernel
theorem dX7_verb_9 : decode cX7_verb 9 = .ok (.if_icmp .ge 44, 3) := by decide +kernel
theorem dX7_verb_12 : decode cX7_verb 12 = .ok (.aload_n 0, 1) := by decide +kernel
theorem dX7_verb_13 : decode cX7_verb 13 = .ok (.getfield 115, 3) := by decide +kernel
theorem dX7_verb_16 : decode cX7_verb 16 = .ok (.bipush 9, 2) := by decide +kernel
theorem dX7_verb_18 : decode cX7_verb 18 = .ok (.if_icmp .ge 35, 3) := by decide +kernel
theorem dX7_verb_21 : decode cX7_verb 21 = .ok (.aload_n 0, 1) := by decide +kernel
theorem dX7_verb_22 : decode cX7_verb 22 = .ok (.getfield 112, 3) := by decide +kernel
theorem dX7_verb_25 : decode cX7_verb 25 = .ok (.iconst 1, 1) := by decide +kernel
theorem dX7_verb_26 : decode cX7_verb 26 = .ok (.if_icmp .ne 27, 3) := by decide +kernel
theorem dX7_verb_29 : decode cX7_verb 29 = .ok (.ldc2_w 118, 3) := by decide +kernel
theorem dX7_verb_32 : decode cX7_verb 32 = .ok (.lload_n 1, 1) := by decide +kernel
theorem dX7_verb_33 : decode cX7_verb 33 = .ok (.lmul, 1) := by decide +kernel
theorem dX7_verb_34 : decode cX7_verb 34 = .ok (.aload_n 0, 1) := by decide +kernel
theorem dX7_verb_35 : decode cX7_verb 35 = .ok (.aload_n 0, 1) := by decide +kernel
theorem dX7_verb_36 : decode cX7_verb 36 = .ok (.getfield 106, 3) := by decide +kernel
theorem dX7_verb_39 : decode cX7_verb 39 = .ok (.iload_n 3, 1) := by decide +kernel
theorem dX7_verb_40 : decode cX7_verb 40 = .ok (.iadd, 1) := by decide +kernel
theorem dX7_verb_41 : decode cX7_verb 41 = .ok (.invokevirtual 103, 3) := by decide +kernel
theorem dX7_verb_44 : decode cX7_verb 44 = .ok (.i2l, 1) := by decide +kernel
theorem dX7_verb_45 : decode cX7_verb 45 = .ok (.ladd, 1) := by decide +kernel
theorem dX7_verb_46 : decode cX7_verb 46 = .ok (.lstore_n 1, 1) := by decide +kernel
theorem dX7_verb_47 : decode cX7_verb 47 = .ok (.iinc 3 1, 3) := by decide +kernel
theorem dX7_verb_50 : decode cX7_verb 50 = .ok (.goto (-46), 3) := by decide +kernel
theorem dX7_verb_53 : decode cX7_verb 53 = .ok (.lload_n 1, 1) := by decide +kernel
theorem dX7_verb_54 : decode cX7_verb 54 = .ok (.ldc2_w 120, 3) := by decide +kernel
theorem dX7_verb_57 : decode cX7_verb 57 = .ok (.lcmp, 1) := by decide +kernel
theorem dX7_verb_58 : decode cX7_verb 58 = .ok (.ifCond .ne 7, 3) := by decide +kernel
theorem dX7_verb_61 : decode cX7_verb 61 = .ok (.iconst 0, 1) := by decide +kernel
theorem dX7_verb_62 : decode cX7_verb 62 = .ok (.goto 28, 3) := by decide +kernel
theorem dX7_verb_65 : decode cX7_verb 65 = .ok (.lload_n 1, 1) := by decide +kernel
theorem dX7_verb_66 : decode cX7_verb 66 = .ok (.ldc2_w 122, 3) := by decide +kernel
theorem dX7_verb_69 : decode cX7_verb 69 = .ok (.lcmp, 1) := by decide +kernel
theorem dX7_verb_70 : decode cX7_verb 70 = .ok (.ifCond .ne 7, 3) := by decide +kernel
theorem dX7_verb_73 : decode cX7_verb 73 = .ok (.iconst 1, 1) := by decide +kernel
theorem dX7_verb_74 : decode cX7_verb 74 = .ok (.goto 16, 3) := by decide +kernel
theorem dX7_verb_77 : decode cX7_verb 77 = .ok (.lload_n 1, 1) := by decide +kernel
theorem dX7_verb_78 : decode cX7_verb 78 = .ok (.ldc2_w 124, 3) := by decide +kernel
theorem dX7_verb_81 : decode cX7_verb 81 = .ok (.lcmp, 1) := by decide +kernel
theorem dX7_verb_82 : decode cX7_verb 82 = .ok (.ifCond .ne 7, 3) := by decide +kernel
theorem dX7_verb_85 : decode cX7_verb 85 = .ok (.iconst 2, 1) := by decide +kernel
theorem dX7_verb_86 : decode cX7_verb 86 = .ok (.goto 4, 3) := by decide +kernel
theorem dX7_verb_89 : decode cX7_verb 89 = .ok (.iconst (-1), 1) := by decide +kernel
theorem dX7_verb_90 : decode cX7_verb 90 = .ok (.istore_n 3, 1) := by decide +kernel
theorem dX7_verb_91 : decode cX7_verb 91 = .ok (.iload_n 3, 1) := by decide +kernel
theorem dX7_verb_92 : decode cX7_verb 92 = .ok (.iconst (-1), 1) := by decide +kernel
theorem dX7_verb_93 : decode cX7_verb 93 = .ok (.if_icmp .eq 7, 3) := by decide +kernel
theorem dX7_verb_96 : decode cX7_verb 96 = .ok (.iload_n 3, 1) := by decide +kernel
theorem dX7_verb_97 : decode cX7_verb 97 = .ok (.goto 40, 3) := by decide +kernel
theorem dX7_verb_100 : decode cX7_verb 100 = .ok (.lload_n 1, 1) := by decide +kernel
theorem dX7_verb_101 : decode cX7_verb 101 = .ok (.ldc2_w 126, 3) := by decide +kernel
theorem dX7_verb_104 : decode cX7_verb 104 = .ok (.lcmp, 1) := by decide +kernel
theorem dX7_verb_105 : decode cX7_verb 105 = .ok (.ifCond .ne 7, 3) := by decide +kernel
theorem dX7_verb_108 : decode cX7_verb 108 = .ok (.iconst 3, 1) := by decide +kernel
theorem dX7_verb_109 : decode cX7_verb 109 = .ok (.goto 28, 3) := by decide +kernel
theorem dX7_verb_112 : decode cX7_verb 112 = .ok (.lload_n 1, 1) := by decide +kernel
theorem dX7_verb_113 : decode cX7_verb 113 = .ok (.ldc2_w 128, 3) := by decide +kernel
theorem dX7_verb_116 : decode cX7_verb 116 = .ok (.lcmp, 1) := by decide +kernel
theorem dX7_verb_117 : decode cX7_verb 117 = .ok (.ifCond .ne 7, 3) := by decide +kernel
theorem dX7_verb_120 : decode cX7_verb 120 = .ok (.iconst 4, 1) := by decide +kernel
theorem dX7_verb_121 : decode cX7_verb 121 = .ok (.goto 16, 3) := by decide +kernel
theorem dX7_verb_124 : decode cX7_verb 124 = .ok (.lload_n 1, 1) := by decide +kernel
theorem dX7_verb_125 : decode cX7_verb 125 = .ok (.ldc2_w 130, 3) := by decide +kernel
theorem dX7_verb_128 : decode cX7_verb 128 = .ok (.lcmp, 1) := by decide +kernel
theorem dX7_verb_129 : decode cX7_verb 129 = .ok (.ifCond .ne 7, 3) := by decide +kernel
theorem dX7_verb_132 : decode cX7_verb 132 = .ok (.iconst 5, 1) := by decide +kernel
theorem dX7_verb_133 : decode cX7_verb 133 = .ok (.goto 4, 3) := by decide +kernel
theorem dX7_verb_136 : decode cX7_verb 136 = .ok (.iconst (-1), 1) := by decide +kernel
theorem dX7_verb_137 : decode cX7_verb 137 = .ok (.ireturn, 1) := by decide +kernel
set_option maxRecDepth 20000 in
theorem ggX7_number_X7_token : GoodIn wsX7_number wsX7_token := goodIn_r _ [8, 9, 3, 1, 2, 10, 11, 12, 7, 13, 14, 15, 16, 17, 18, 19, 20, 21, 22, 23, 24, 25, 26, 27, 28, 29, 30, 31, 32, 33, 34, 35, 36, 37] (by decide +kernel) (by decide +kernel)
set_option maxRecDepth 20000 in
theorem gX7_number_X7_token : GoodIn wsX7_number (wsV RX7 132 RX7 yX7_token wsX7_token) := goodIn_app (goodIn_of _ (by decide +kernel)) ggX7_number_X7_token
set_option maxRecDepth 20000 in
theorem ggX7_number_X7_byteAt : GoodIn wsX7_number wsX7_byteAt := goodIn_r _ [13, 14, 15, 22, 23, 24, 25, 26, 27, 28, 29, 30, 31, 32, 33, 34, 35, 36, 37] (by decide +kernel) (by decide +kernel)
set_option maxRecDepth 20000 in
theorem gX7_number_X7_byteAt : GoodIn wsX7_number (wsV RX7 103 RX7 yX7_byteAt wsX7_byteAt) := goodIn_app (goodIn_of _ (by decide +kernel)) ggX7_number_X7_byteAt
theorem dX7_number_0 : decode cX7_number 0 = .ok (.aload_n 0, 1) := by decide +kernel
theorem dX7_number_1 : decode cX7_number 1 = .ok (.invokevirtual 132, 3) := by decide +kernel
theorem dX7_number_4 : decode cX7_number 4 = .ok (.aload_n 0, 1) := by decide +kernel
theorem dX7_number_5 : decode cX7_number 5 = .ok (.getfield 112, 3) := by decide +kernel
theorem dX7_number_8 : decode cX7_number 8 = .ok (.iconst 2, 1) := by decide +kernel
theorem dX7_number_9 : decode cX7_number 9 = .ok (.if_icmp .ne 11, 3) := by decide +kernel
theorem dX7_number_12 : decode cX7_number 12 = .ok (.aload_n 0, 1) := by decide +kernel
theorem dX7_number_13 : decode cX7_number 13 = .ok (.getfield 115, 3) := by decide +kernel
theorem dX7_number_16 : decode cX7_number 16 = .ok (.iconst 2, 1) := by decide +kernel
theorem dX7_number_17 : decode cX7_number 17 = .ok (.if_icmp .le 5, 3) := by decide +kernel
theorem dX7_number_20 : decode cX7_number 20 = .ok (.iconst (-1), 1) := by decide +kernel
theorem dX7_number_21 : decode cX7_number 21 = .ok (.ireturn, 1) := by decide +kernel
theorem dX7_number_22 : decode cX7_number 22 = .ok (.aload_n 0, 1) := by decide +kernel
theorem dX7_number_23 : decode cX7_number 23 = .ok (.aload_n 0, 1) := by decide +kernel
theorem dX7_number_24 : decode cX7_number 24 = .ok (.getfield 106, 3) := by decide +kernel
theorem dX7_number_27 : decode cX7_number 27 = .ok (.invokevirtual 103, 3) := by decide +kernel
theorem dX7_number_30 : decode cX7_number 30 = .ok (.bipush 48, 2) := by decide +kernel
theorem dX7_number_32 : decode cX7_number 32 = .ok (.isub, 1) := by decide +kernel
theorem dX7_number_33 : decode cX7_number 33 = .ok (.istore_n 1, 1) := by decide +kernel
theorem dX7_number_34 : decode cX7_number 34 = .ok (.aload_n 0, 1) := by decide +kernel
theorem dX7_number_35 : decode cX7_number 35 = .ok (.getfield 115, 3) := by decide +kernel
theorem dX7_number_38 : decode cX7_number 38 = .ok (.iconst 2, 1) := by decide +kernel
theorem dX7_number_39 : decode cX7_number 39 = .ok (.if_icmp .ne 24, 3) := by decide +kernel
theorem dX7_number_42 : decode cX7_number 42 = .ok (.bipush 10, 2) := by decide +kernel
theorem dX7_number_44 : decode cX7_number 44 = .ok (.iload_n 1, 1) := by decide +kernel
theorem dX7_number_45 : decode cX7_number 45 = .ok (.imul, 1) := by decide +kernel
theorem dX7_number_46 : decode cX7_number 46 = .ok (.aload_n 0, 1) := by decide +kernel
theorem dX7_number_47 : decode cX7_number 47 = .ok (.aload_n 0, 1) := by decide +kernel
theorem dX7_number_48 : decode cX7_number 48 = .ok (.getfield 106, 3) := by decide +kernel
theorem dX7_number_51 : decode cX7_number 51 = .ok (.iconst 1, 1) := by decide +kernel
theorem dX7_number_52 : decode cX7_number 52 = .ok (.iadd, 1) := by decide +kernel
theorem dX7_number_53 : decode cX7_number 53 = .ok (.invokevirtual 103, 3) := by decide +kernel
theorem dX7_number_56 : decode cX7_number 56 = .ok (.iadd, 1) := by decide +kernel
theorem dX7_number_57 : decode cX7_number 57 = .ok (.bipush 48, 2) := by decide +kernel
theorem dX7_number_59 : decode cX7_number 59 = .ok (.isub, 1) := by decide +kernel
theorem dX7_number_60 : decode cX7_number 60 = .ok (.goto 4, 3) := by decide +kernel
theorem dX7_number_63 : decode cX7_number 63 = .ok (.iload_n 1, 1) := by decide +kernel
theorem dX7_number_64 : decode cX7_number 64 = .ok (.ireturn, 1) := by decide +kernel
theorem dX7_numbers_0 : decode cX7_numbers 0 = .ok (.iload_n 0, 1) := by decide +kernel
theorem dX7_numbers_1 : decode cX7_numbers 1 = .ok (.ifCond .ne 7, 3) := by decide +kernel
theorem dX7_numbers_4 : decode cX7_numbers 4 = .ok (.iconst 1, 1) := by decide +kernel
theorem dX7_numbers_5 : decode cX7_numbers 5 = .ok (.goto 18, 3) := by decide +kernel
theorem dX7_numbers_8 : decode cX7_numbers 8 = .ok (.iload_n 0, 1) := by decide +kernel
theorem dX7_numbers_9 : decode cX7_numbers 9 = .ok (.iconst 1, 1) := by decide +kernel
theorem dX7_numbers_10 : decode cX7_numbers 10 = .ok (.if_icmp .eq 8, 3) := by decide +kernel
theorem dX7_numbers_13 : decode cX7_numbers 13 = .ok (.iload_n 0, 1) := by decide +kernel
theorem dX7_numbers_14 : decode cX7_numbers 14 = .ok (.iconst 5, 1) := by decide +kernel
theorem dX7_numbers_15 : decode cX7_numbers 15 = .ok (.if_icmp .ne 7, 3) := by decide +kernel
theorem dX7_numbers_18 : decode cX7_numbers 18 = .ok (.iconst 3, 1) := by decide +kernel
theorem dX7_numbers_19 : decode cX7_numbers 19 = .ok (.goto 4, 3) := by decide +kernel
theorem dX7_numbers_22 : decode cX7_numbers 22 = .ok (.iconst 2, 1) := by decide +kernel
theorem dX7_numbers_23 : decode cX7_numbers 23 = .ok (.ireturn, 1) := by decide +kernel
set_option maxRecDepth 20000 in
theorem ggX7_reads_X7_token : GoodIn wsX7_reads wsX7_token := goodIn_r _ [9, 1, 10, 3, 11, 12, 13, 14, 8, 15, 16, 17, 18, 19, 20, 21, 22, 23, 42, 43, 44, 45, 46, 47, 48, 49, 50, 51, 52, 53, 54, 55, 56, 57] (by decide +kernel) (by decide +kernel)
set_option maxRecDepth 20000 in
theorem gX7_reads_X7_token : GoodIn wsX7_reads (wsV RX7 132 RX7 yX7_token wsX7_token) := goodIn_app (goodIn_of _ (by decide +kernel)) ggX7_reads_X7_token
set_option maxRecDepth 20000 in
theorem ggX7_reads_X7_verb : GoodIn wsX7_reads wsX7_verb := goodIn_r _ [27, 11, 3, 28, 10, 29, 30, 31, 32, 33, 34, 12, 13, 14, 8, 15, 16, 17, 42, 43, 44, 45, 46, 47, 48, 49, 50, 51, 52, 53, 54, 55, 56, 57] (by decide +kernel) (by decide +kernel)
set_option maxRecDepth 20000 in
theorem gX7_reads_X7_verb : GoodIn wsX7_reads (wsV RX7 138 RX7 yX7_verb wsX7_verb) := goodIn_app (goodIn_of _ (by decide +kernel)) ggX7_reads_X7_verb
set_option maxRecDepth 20000 in
theorem ggX7_reads_X7_numbers : GoodIn wsX7_reads wsX7_numbers := goodIn_r _ [37] (by decide +kernel) (by decide +kernel)
set_option maxRecDepth 20000 in
theorem gX7_reads_X7_numbers : GoodIn wsX7_reads (va_wsS RX7 141 yX7_numbers wsX7_numbers) := goodIn_app (goodIn_of _ (by decide +kernel)) ggX7_reads_X7_numbers
set_option maxRecDepth 20000 in
theorem ggX7_reads_X7_number : GoodIn wsX7_reads wsX7_number := goodIn_r _ [41, 3, 11, 10, 5, 6, 7, 8, 9, 1, 12, 13, 14, 15, 16, 17, 18, 19, 20, 21, 22, 23, 42, 43, 44, 45, 46, 47, 48, 49, 50, 51, 52, 53, 54, 55, 56, 57] (by decide +kernel) (by decide +kernel)
set_option maxRecDepth 20000 in
theorem gX7_reads_X7_number : GoodIn wsX7_reads (wsV RX7 144 RX7 yX7_number wsX7_number) := goodIn_app (goodIn_of _ (by decide +kernel)) ggX7_reads_X7_number
theorem dX7_reads_0 : decode cX7_reads 0 = .ok (.aload_n 0, 1) := by decide +kernel
theorem dX7_reads_1 : decode cX7_reads 1 = .ok (.iconst 0, 1) := by decide +kernel
theorem dX7_reads_2 : decode cX7_reads 2 = .ok (.putfield 100, 3) := by decide +kernel
theorem dX7_reads_5 : decode cX7_reads 5 = .ok (.aload_n 0, 1) := by decide +kernel
theorem dX7_reads_6 : decode cX7_reads 6 = .ok (.iconst 0, 1) := by decide +kernel
theorem dX7_reads_7 : decode cX7_reads 7 = .ok (.putfield 135, 3) := by decide +kernel
theorem dX7_reads_10 : decode cX7_reads 10 = .ok (.aload_n 0, 1) := by decide +kernel
theorem dX7_reads_11 : decode cX7_reads 11 = .ok (.invokevirtual 132, 3) := by decide +kernel
theorem dX7_reads_14 : decode cX7_reads 14 = .ok (.aload_n 0, 1) := by decide +kernel
theorem dX7_reads_15 : decode cX7_reads 15 = .ok (.getfield 135, 3) := by decide +kernel
theorem dX7_reads_18 : decode cX7_reads 18 = .ok (.ifCond .eq 10, 3) := by decide +kernel
theorem dX7_reads_21 : decode cX7_reads 21 = .ok (.aload_n 0, 1) := by decide +kernel
theorem dX7_reads_22 : decode cX7_reads 22 = .ok (.getfield 112, 3) := by decide +kernel
theorem dX7_reads_25 : decode cX7_reads 25 = .ok (.ifCond .eq 141, 3) := by decide +kernel
theorem dX7_reads_28 : decode cX7_reads 28 = .ok (.aload_n 0, 1) := by decide +kernel
theorem dX7_reads_29 : decode cX7_reads 29 = .ok (.invokevirtual 138, 3) := by decide +kernel
theorem dX7_reads_32 : decode cX7_reads 32 = .ok (.istore_n 1, 1) := by decide +kernel
theorem dX7_reads_33 : decode cX7_reads 33 = .ok (.iload_n 1, 1) := by decide +kernel
theorem dX7_reads_34 : decode cX7_reads 34 = .ok (.iconst (-1), 1) := by decide +kernel
theorem dX7_reads_35 : decode cX7_reads 35 = .ok (.if_icmp .eq 27, 3) := by decide +kernel
theorem dX7_reads_38 : decode cX7_reads 38 = .ok (.iload_n 1, 1) := by decide +kernel
theorem dX7_reads_39 : decode cX7_reads 39 = .ok (.ifCond .ne 7, 3) := by decide +kernel
theorem dX7_reads_42 : decode cX7_reads 42 = .ok (.iconst 1, 1) := by decide +kernel
theorem dX7_reads_43 : decode cX7_reads 43 = .ok (.goto 4, 3) := by decide +kernel
theorem dX7_reads_46 : decode cX7_reads 46 = .ok (.iconst 0, 1) := by decide +kernel
theorem dX7_reads_47 : decode cX7_reads 47 = .ok (.aload_n 0, 1) := by decide +kernel
theorem dX7_reads_48 : decode cX7_reads 48 = .ok (.getfield 135, 3) := by decide +kernel
theorem dX7_reads_51 : decode cX7_reads 51 = .ok (.ifCond .ne 7, 3) := by decide +kernel
theorem dX7_reads_54 : decode cX7_reads 54 = .ok (.iconst 1, 1) := by decide +kernel
theorem dX7_reads_55 : decode cX7_reads 55 = .ok (.goto 4, 3) := by decide +kernel
theorem dX7_reads_58 : decode cX7_reads 58 = .ok (.iconst 0, 1) := by decide +kernel
theorem dX7_reads_59 : decode cX7_reads 59 = .ok (.if_icmp .eq 5, 3) := by decide +kernel
theorem dX7_reads_62 : decode cX7_reads 62 = .ok (.iconst 0, 1) := by decide +kernel
theorem dX7_reads_63 : decode cX7_reads 63 = .ok (.ireturn, 1) := by decide +kernel
theorem dX7_reads_64 : decode cX7_reads 64 = .ok (.aload_n 0, 1) := by decide +kernel
theorem dX7_reads_65 : decode cX7_reads 65 = .ok (.getfield 135, 3) := by decide +kernel
theorem dX7_reads_68 : decode cX7_reads 68 = .ok (.bipush 62, 2) := by decide +kernel
theorem dX7_reads_70 : decode cX7_reads 70 = .ok (.if_icmp .ge 12, 3) := by decide +kernel
theorem dX7_reads_73 : decode cX7_reads 73 = .ok (.iconst 4, 1) := by decide +kernel
theorem dX7_reads_74 : decode cX7_reads 74 = .ok (.aload_n 0, 1) := by decide +kernel
theorem dX7_reads_75 : decode cX7_reads 75 = .ok (.getfield 135, 3) := by decide +kernel
theorem dX7_reads_78 : decode cX7_reads 78 = .ok (.imul, 1) := by decide +kernel
theorem dX7_reads_79 : decode cX7_reads 79 = .ok (.goto 6, 3) := by decide +kernel
theorem dX7_reads_82 : decode cX7_reads 82 = .ok (.sipush 244, 3) := by decide +kernel
theorem dX7_reads_85 : decode cX7_reads 85 = .ok (.istore_n 2, 1) := by decide +kernel
theorem dX7_reads_86 : decode cX7_reads 86 = .ok (.aload_n 0, 1) := by decide +kernel
theorem dX7_reads_87 : decode cX7_reads 87 = .ok (.getfield 29, 3) := by decide +kernel
theorem dX7_reads_90 : decode cX7_reads 90 = .ok (.iload_n 2, 1) := by decide +kernel
theorem dX7_reads_91 : decode cX7_reads 91 = .ok (.iload_n 1, 1) := by decide +kernel
theorem dX7_reads_92 : decode cX7_reads 92 = .ok (.iastore, 1) := by decide +kernel
theorem dX7_reads_93 : decode cX7_reads 93 = .ok (.iconst 1, 1) := by decide +kernel
theorem dX7_reads_94 : decode cX7_reads 94 = .ok (.istore_n 3, 1) := by decide +kernel
theorem dX7_reads_95 : decode cX7_reads 95 = .ok (.iload_n 3, 1) := by decide +kernel
theorem dX7_reads_96 : decode cX7_reads 96 = .ok (.iload_n 1, 1) := by decide +kernel
theorem dX7_reads_97 : decode cX7_reads 97 = .ok (.invokestatic 141, 3) := by decide +kernel
theorem dX7_reads_100 : decode cX7_reads 100 = .ok (.if_icmp .gt 35, 3) := by decide +kernel
theorem dX7_reads_103 : decode cX7_reads 103 = .ok (.aload_n 0, 1) := by decide +kernel
theorem dX7_reads_104 : decode cX7_reads 104 = .ok (.getfield 29, 3) := by decide +kernel
theorem dX7_reads_107 : decode cX7_reads 107 = .ok (.iload_n 2, 1) := by decide +kernel
theorem dX7_reads_108 : decode cX7_reads 108 = .ok (.iload_n 3, 1) := by decide +kernel
theorem dX7_reads_109 : decode cX7_reads 109 = .ok (.iadd, 1) := by decide +kernel
theorem dX7_reads_110 : decode cX7_reads 110 = .ok (.aload_n 0, 1) := by decide +kernel
theorem dX7_reads_111 : decode cX7_reads 111 = .ok (.invokevirtual 144, 3) := by decide +kernel
theorem dX7_reads_114 : decode cX7_reads 114 = .ok (.iastore, 1) := by decide +kernel
theorem dX7_reads_115 : decode cX7_reads 115 = .ok (.aload_n 0, 1) := by decide +kernel
theorem dX7_reads_116 : decode cX7_reads 116 = .ok (.getfield 29, 3) := by decide +kernel
theorem dX7_reads_119 : decode cX7_reads 119 = .ok (.iload_n 2, 1) := by decide +kernel
theorem dX7_reads_120 : decode cX7_reads 120 = .ok (.iload_n 3, 1) := by decide +kernel
theorem dX7_reads_121 : decode cX7_reads 121 = .ok (.iadd, 1) := by decide +kernel
theorem dX7_reads_122 : decode cX7_reads 122 = .ok (.iaload, 1) := by decide +kernel
theorem dX7_reads_123 : decode cX7_reads 123 = .ok (.iconst (-1), 1) := by decide +kernel
theorem dX7_reads_124 : decode cX7_reads 124 = .ok (.if_icmp .ne 5, 3) := by decide +kernel
theorem dX7_reads_127 : decode cX7_reads 127 = .ok (.iconst 0, 1) := by decide +kernel
theorem dX7_reads_128 : decode cX7_reads 128 = .ok (.ireturn, 1) := by decide +kernel
theorem dX7_reads_129 : decode cX7_reads 129 = .ok (.iinc 3 1, 3) := by decide +kernel
theorem dX7_reads_132 : decode cX7_reads 132 = .ok (.goto (-37), 3) := by decide +kernel
theorem dX7_reads_135 : decode cX7_reads 135 = .ok (.aload_n 0, 1) := by decide +kernel
theorem dX7_reads_136 : decode cX7_reads 136 = .ok (.invokevirtual 132, 3) := by decide +kernel
theorem dX7_reads_139 : decode cX7_reads 139 = .ok (.aload_n 0, 1) := by decide +kernel
theorem dX7_reads_140 : decode cX7_reads 140 = .ok (.getfield 112, 3) := by decide +kernel
theorem dX7_reads_143 : decode cX7_reads 143 = .ok (.iconst 3, 1) := by decide +kernel
theorem dX7_reads_144 : decode cX7_reads 144 = .ok (.if_icmp .eq 5, 3) := by decide +kernel
theorem dX7_reads_147 : decode cX7_reads 147 = .ok (.iconst 0, 1) := by decide +kernel
theorem dX7_reads_148 : decode cX7_reads 148 = .ok (.ireturn, 1) := by decide +kernel
theorem dX7_reads_149 : decode cX7_reads 149 = .ok (.aload_n 0, 1) := by decide +kernel
theorem dX7_reads_150 : decode cX7_reads 150 = .ok (.dup, 1) := by decide +kernel
theorem dX7_reads_151 : decode cX7_reads 151 = .ok (.getfield 135, 3) := by decide +kernel
theorem dX7_reads_154 : decode cX7_reads 154 = .ok (.iconst 1, 1) := by decide +kernel
theorem dX7_reads_155 : decode cX7_reads 155 = .ok (.iadd, 1) := by decide +kernel
theorem dX7_reads_156 : decode cX7_reads 156 = .ok (.putfield 135, 3) := by decide +kernel
theorem dX7_reads_159 : decode cX7_reads 159 = .ok (.aload_n 0, 1) := by decide +kernel
theorem dX7_reads_160 : decode cX7_reads 160 = .ok (.invokevirtual 132, 3) := by decide +kernel
theorem dX7_reads_163 : decode cX7_reads 163 = .ok (.goto (-149), 3) := by decide +kernel
theorem dX7_reads_166 : decode cX7_reads 166 = .ok (.iconst 1, 1) := by decide +kernel
theorem dX7_reads_167 : decode cX7_reads 167 = .ok (.ireturn, 1) := by decide +kernel
set_option maxRecDepth 20000 in
theorem ggX7_tells_X7_in : GoodIn wsX7_tells wsX7_in := goodIn_r _ [5] (by decide +kernel) (by decide +kernel)
set_option maxRecDepth 20000 in
theorem gX7_tells_X7_in : GoodIn wsX7_tells (va_wsS RX7 49 yX7_in wsX7_in) := goodIn_app (goodIn_of _ (by decide +kernel)) ggX7_tells_X7_in
set_option maxRecDepth 20000 in
theorem ggX7_tells_X7_begins : GoodIn wsX7_tells wsX7_begins := goodIn_r _ [9, 10, 43, 44, 45, 46, 47, 48, 49, 50, 51, 52, 53, 54, 55, 56, 57, 58] (by decide +kernel) (by decide +kernel)
set_option maxRecDepth 20000 in
theorem gX7_tells_X7_begins : GoodIn wsX7_tells (wsV RX7 41 RX7 yX7_begins wsX7_begins) := goodIn_app (goodIn_of _ (by decide +kernel)) ggX7_tells_X7_begins
set_option maxRecDepth 20000 in
theorem ggX7_tells_X7_tellsHears : GoodIn wsX7_tells wsX7_tellsHears := goodIn_r _ [14, 10, 15, 16, 17, 4, 18, 2, 3, 5, 43, 44, 45, 46, 47, 48, 49, 50, 51, 52, 53, 54, 55, 56, 57, 58] (by decide +kernel) (by decide +kernel)
set_option maxRecDepth 20000 in
theorem gX7_tells_X7_tellsHears : GoodIn wsX7_tells (wsV RX7 67 RX7 yX7_tellsHears wsX7_tellsHears) := goodIn_app (goodIn_of _ (by decide +kernel)) ggX7_tells_X7_tellsHears
set_option maxRecDepth 20000 in
theorem ggX7_tells_X7_tellsWood : GoodIn wsX7_tells wsX7_tellsWood := goodIn_r _ [22, 10, 15, 16, 17, 4, 18, 2, 3, 5, 43, 44, 45, 46, 47, 48, 49, 50, 51, 52, 53, 54, 55, 56, 57, 58] (by decide +kernel) (by decide +kernel)
set_option maxRecDepth 20000 in
theorem gX7_tells_X7_tellsWood : GoodIn wsX7_tells (wsV RX7 75 RX7 yX7_tellsWood wsX7_tellsWood) := goodIn_app (goodIn_of _ (by decide +kernel)) ggX7_tells_X7_tellsWood
set_option maxRecDepth 20000 in
theorem ggX7_tells_X7_tellsTemper : GoodIn wsX7_tells wsX7_tellsTemper := goodIn_r _ [26, 15, 16, 17, 4, 18, 10, 2, 3, 5, 27, 28, 29, 30, 43, 44, 45, 46, 47, 48, 49, 50, 51, 52, 53, 54, 55, 56, 57, 58] (by decide +kernel) (by decide +kernel)
set_option maxRecDepth 20000 in
theorem gX7_tells_X7_tellsTemper : GoodIn wsX7_tells (wsV RX7 78 RX7 yX7_tellsTemper wsX7_tellsTemper) := goodIn_app (goodIn_of _ (by decide +kernel)) ggX7_tells_X7_tellsTemper
set_option maxRecDepth 20000 in
theorem ggX7_tells_X7_tellsFriend : GoodIn wsX7_tells wsX7_tellsFriend := goodIn_r _ [34, 15, 16, 17, 4, 18, 10, 2, 3, 5, 27, 28, 29, 30, 43, 44, 45, 46, 47, 48, 49, 50, 51, 52, 53, 54, 55, 56, 57, 58] (by decide +kernel) (by decide +kernel)
set_option maxRecDepth 20000 in
theorem gX7_tells_X7_tellsFriend : GoodIn wsX7_tells (wsV RX7 81 RX7 yX7_tellsFriend wsX7_tellsFriend) := goodIn_app (goodIn_of _ (by decide +kernel)) ggX7_tells_X7_tellsFriend
set_option maxRecDepth 20000 in
theorem ggX7_tells_X7_tellsNeed : GoodIn wsX7_tells wsX7_tellsNeed := goodIn_r _ [38, 10, 15, 16, 17, 4, 18, 2, 3, 5, 39, 40, 41, 42, 43, 44, 45, 46, 47, 48, 49, 50, 51, 52, 53, 54, 55, 56, 57, 58] (by decide +kernel) (by decide +kernel)
set_option maxRecDepth 20000 in
theorem gX7_tells_X7_tellsNeed : GoodIn wsX7_tells (wsV RX7 84 RX7 yX7_tellsNeed wsX7_tellsNeed) := goodIn_app (goodIn_of _ (by decide +kernel)) ggX7_tells_X7_tellsNeed
theorem dX7_tells_0 : decode cX7_tells 0 = .ok (.aload_n 0, 1) := by decide +kernel
theorem dX7_tells_1 : decode cX7_tells 1 = .ok (.getfield 29, 3) := by decide +kernel
theorem dX7_tells_4 : decode cX7_tells 4 = .ok (.iconst 4, 1) := by decide +kernel
theorem dX7_tells_5 : decode cX7_tells 5 = .ok (.iload_n 1, 1) := by decide +kernel
theorem dX7_tells_6 : decode cX7_tells 6 = .ok (.imul, 1) := by decide +kernel
theorem dX7_tells_7 : decode cX7_tells 7 = .ok (.iaload, 1) := by decide +kernel
theorem dX7_tells_8 : decode cX7_tells 8 = .ok (.istore_n 2, 1) := by decide +kernel
theorem dX7_tells_9 : decode cX7_tells 9 = .ok (.aload_n 0, 1) := by decide +kernel
theorem dX7_tells_10 : decode cX7_tells 10 = .ok (.getfield 29, 3) := by decide +kernel
theorem dX7_tells_13 : decode cX7_tells 13 = .ok (.iconst 4, 1) := by decide +kernel
theorem dX7_tells_14 : decode cX7_tells 14 = .ok (.iload_n 1, 1) := by decide +kernel
theorem dX7_tells_15 : decode cX7_tells 15 = .ok (.imul, 1) := by decide +kernel
theorem dX7_tells_16 : decode cX7_tells 16 = .ok (.iconst 1, 1) := by decide +kernel
theorem dX7_tells_17 : decode cX7_tells 17 = .ok (.iadd, 1) := by decide +kernel
theorem dX7_tells_18 : decode cX7_tells 18 = .ok (.iaload, 1) := by decide +kernel
theorem dX7_tells_19 : decode cX7_tells 19 = .ok (.istore_n 3, 1) := by decide +kernel
theorem dX7_tells_20 : decode cX7_tells 20 = .ok (.aload_n 0, 1) := by decide +kernel
theorem dX7_tells_21 : decode cX7_tells 21 = .ok (.getfield 29, 3) := by decide +kernel
theorem dX7_tells_24 : decode cX7_tells 24 = .ok (.iconst 4, 1) := by decide +kernel
theorem dX7_tells_25 : decode cX7_tells 25 = .ok (.iload_n 1, 1) := by decide +kernel
theorem dX7_tells_26 : decode cX7_tells 26 = .ok (.imul, 1) := by decide +kernel
theorem dX7_tells_27 : decode cX7_tells 27 = .ok (.iconst 2, 1) := by decide +kernel
theorem dX7_tells_28 : decode cX7_tells 28 = .ok (.iadd, 1) := by decide +kernel
theorem dX7_tells_29 : decode cX7_tells 29 = .ok (.iaload, 1) := by decide +kernel
theorem dX7_tells_30 : decode cX7_tells 30 = .ok (.istore 4, 2) := by decide +kernel
theorem dX7_tells_32 : decode cX7_tells 32 = .ok (.aload_n 0, 1) := by decide +kernel
theorem dX7_tells_33 : decode cX7_tells 33 = .ok (.getfield 29, 3) := by decide +kernel
theorem dX7_tells_36 : decode cX7_tells 36 = .ok (.iconst 4, 1) := by decide +kernel
theorem dX7_tells_37 : decode cX7_tells 37 = .ok (.iload_n 1, 1) := by decide +kernel
theorem dX7_tells_38 : decode cX7_tells 38 = .ok (.imul, 1) := by decide +kernel
theorem dX7_tells_39 : decode cX7_tells 39 = .ok (.iconst 3, 1) := by decide +kernel
theorem dX7_tells_40 : decode cX7_tells 40 = .ok (.iadd, 1) := by decide +kernel
theorem dX7_tells_41 : decode cX7_tells 41 = .ok (.iaload, 1) := by decide +kernel
theorem dX7_tells_42 : decode cX7_tells 42 = .ok (.istore 5, 2) := by decide +kernel
theorem dX7_tells_44 : decode cX7_tells 44 = .ok (.iload_n 2, 1) := by decide +kernel
theorem dX7_tells_45 : decode cX7_tells 45 = .ok (.ifCond .ne 23, 3) := by decide +kernel
theorem dX7_tells_48 : decode cX7_tells 48 = .ok (.iload_n 3, 1) := by decide +kernel
theorem dX7_tells_49 : decode cX7_tells 49 = .ok (.iconst 2, 1) := by decide +kernel
theorem dX7_tells_50 : decode cX7_tells 50 = .ok (.bipush 6, 2) := by decide +kernel
theorem dX7_tells_52 : decode cX7_tells 52 = .ok (.invokestatic 49, 3) := by decide +kernel
theorem dX7_tells_55 : decode cX7_tells 55 = .ok (.ifCond .ne 6, 3) := by decide +kernel
theorem dX7_tells_58 : decode cX7_tells 58 = .ok (.bipush (-2), 2) := by decide +kernel
theorem dX7_tells_60 : decode cX7_tells 60 = .ok (.ireturn, 1) := by decide +kernel
theorem dX7_tells_61 : decode cX7_tells 61 = .ok (.aload_n 0, 1) := by decide +kernel
theorem dX7_tells_62 : decode cX7_tells 62 = .ok (.iload_n 3, 1) := by decide +kernel
theorem dX7_tells_63 : decode cX7_tells 63 = .ok (.invokevirtual 41, 3) := by decide +kernel
theorem dX7_tells_66 : decode cX7_tells 66 = .ok (.iconst 1, 1) := by decide +kernel
theorem dX7_tells_67 : decode cX7_tells 67 = .ok (.ireturn, 1) := by decide +kernel
theorem dX7_tells_68 : decode cX7_tells 68 = .ok (.iload_n 2, 1) := by decide +kernel
theorem dX7_tells_69 : decode cX7_tells 69 = .ok (.iconst 1, 1) := by decide +kernel
theorem dX7_tells_70 : decode cX7_tells 70 = .ok (.if_icmp .ne 16, 3) := by decide +kernel
theorem dX7_tells_73 : decode cX7_tells 73 = .ok (.aload_n 0, 1) := by decide +kernel
theorem dX7_tells_74 : decode cX7_tells 74 = .ok (.iload_n 3, 1) := by decide +kernel
theorem dX7_tells_75 : decode cX7_tells 75 = .ok (.iload 4, 2) := by decide +kernel
theorem dX7_tells_77 : decode cX7_tells 77 = .ok (.iload 5, 2) := by decide +kernel
theorem dX7_tells_79 : decode cX7_tells 79 = .ok (.iconst 1, 1) := by decide +kernel
theorem dX7_tells_80 : decode cX7_tells 80 = .ok (.invokevirtual 67, 3) := by decide +kernel
theorem dX7_tells_83 : decode cX7_tells 83 = .ok (.goto 57, 3) := by decide +kernel
theorem dX7_tells_86 : decode cX7_tells 86 = .ok (.iload_n 2, 1) := by decide +kernel
theorem dX7_tells_87 : decode cX7_tells 87 = .ok (.iconst 2, 1) := by decide +kernel
theorem dX7_tells_88 : decode cX7_tells 88 = .ok (.if_icmp .ne 13, 3) := by decide +kernel
theorem dX7_tells_91 : decode cX7_tells 91 = .ok (.aload_n 0, 1) := by decide +kernel
theorem dX7_tells_92 : decode cX7_tells 92 = .ok (.iload_n 3, 1) := by decide +kernel
theorem dX7_tells_93 : decode cX7_tells 93 = .ok (.iload 4, 2) := by decide +kernel
theorem dX7_tells_95 : decode cX7_tells 95 = .ok (.invokevirtual 75, 3) := by decide +kernel
theorem dX7_tells_98 : decode cX7_tells 98 = .ok (.goto 42, 3) := by decide +kernel
theorem dX7_tells_101 : decode cX7_tells 101 = .ok (.iload_n 2, 1) := by decide +kernel
theorem dX7_tells_102 : decode cX7_tells 102 = .ok (.iconst 3, 1) := by decide +kernel
theorem dX7_tells_103 : decode cX7_tells 103 = .ok (.if_icmp .ne 13, 3) := by decide +kernel
theorem dX7_tells_106 : decode cX7_tells 106 = .ok (.aload_n 0, 1) := by decide +kernel
theorem dX7_tells_107 : decode cX7_tells 107 = .ok (.iload_n 3, 1) := by decide +kernel
theorem dX7_tells_108 : decode cX7_tells 108 = .ok (.iload 4, 2) := by decide +kernel
theorem dX7_tells_110 : decode cX7_tells 110 = .ok (.invokevirtual 78, 3) := by decide +kernel
theorem dX7_tells_113 : decode cX7_tells 113 = .ok (.goto 27, 3) := by decide +kernel
theorem dX7_tells_116 : decode cX7_tells 116 = .ok (.iload_n 2, 1) := by decide +kernel
theorem dX7_tells_117 : decode cX7_tells 117 = .ok (.iconst 4, 1) := by decide +kernel
theorem dX7_tells_118 : decode cX7_tells 118 = .ok (.if_icmp .ne 13, 3) := by decide +kernel
theorem dX7_tells_121 : decode cX7_tells 121 = .ok (.aload_n 0, 1) := by decide +kernel
theorem dX7_tells_122 : decode cX7_tells 122 = .ok (.iload_n 3, 1) := by decide +kernel
theorem dX7_tells_123 : decode cX7_tells 123 = .ok (.iload 4, 2) := by decide +kernel
theorem dX7_tells_125 : decode cX7_tells 125 = .ok (.invokevirtual 81, 3) := by decide +kernel
theorem dX7_tells_128 : decode cX7_tells 128 = .ok (.goto 12, 3) := by decide +kernel
theorem dX7_tells_131 : decode cX7_tells 131 = .ok (.aload_n 0, 1) := by decide +kernel
theorem dX7_tells_132 : decode cX7_tells 132 = .ok (.iload_n 3, 1) := by decide +kernel
theorem dX7_tells_133 : decode cX7_tells 133 = .ok (.iload 4, 2) := by decide +kernel
theorem dX7_tells_135 : decode cX7_tells 135 = .ok (.iload 5, 2) := by decide +kernel
theorem dX7_tells_137 : decode cX7_tells 137 = .ok (.invokevirtual 84, 3) := by decide +kernel
theorem dX7_tells_140 : decode cX7_tells 140 = .ok (.ireturn, 1) := by decide +kernel
