set_option maxRecDepth 20000 in
theorem ggX0_init_X3_init : GoodIn wsX0_init wsX3_init := goodIn_r _ [11, 12, 2, 3, 13, 14, 15] (by decide +kernel) (by decide +kernel)
set_option maxRecDepth 20000 in
theorem gX0_init_X3_init : GoodIn wsX0_init (wsX3_init) := ggX0_init_X3_init
theorem dX0_init_0 : decode cX0_init 0 = .ok (.aload_n 0, 1) := by decide +kernel
theorem dX0_init_1 : decode cX0_init 1 = .ok (.invokespecial 3, 3) := by decide +kernel
theorem dX0_init_4 : decode cX0_init 4 = .ok (.aload_n 0, 1) := by decide +kernel
theorem dX0_init_5 : decode cX0_init 5 = .ok (.new 9, 3) := by decide +kernel
theorem dX0_init_8 : decode cX0_init 8 = .ok (.dup, 1) := by decide +kernel
theorem dX0_init_9 : decode cX0_init 9 = .ok (.bipush 60, 2) := by decide +kernel
theorem dX0_init_11 : decode cX0_init 11 = .ok (.iconst 0, 1) := by decide +kernel
theorem dX0_init_12 : decode cX0_init 12 = .ok (.invokespecial 11, 3) := by decide +kernel
theorem dX0_init_15 : decode cX0_init 15 = .ok (.putfield 14, 3) := by decide +kernel
theorem dX0_init_18 : decode cX0_init 18 = .ok (.aload_n 0, 1) := by decide +kernel
theorem dX0_init_19 : decode cX0_init 19 = .ok (.iconst 0, 1) := by decide +kernel
theorem dX0_init_20 : decode cX0_init 20 = .ok (.putfield 20, 3) := by decide +kernel
theorem dX0_init_23 : decode cX0_init 23 = .ok (.return_, 1) := by decide +kernel
set_option maxRecDepth 20000 in
theorem ggX1_init_X6_init : GoodIn wsX1_init wsX6_init := goodIn_r _ [12, 13, 2, 3, 14, 15, 16, 17, 18, 19, 20, 21, 22, 23, 24, 25, 26, 27, 28, 29, 30, 31, 32, 33, 34, 35, 36, 37, 38, 39, 40, 41, 42, 43, 44, 45, 46, 47, 48, 49, 50, 51, 52, 53, 54, 55, 56, 57, 58, 59, 60, 61, 62, 63, 64, 65, 66, 67, 68, 69, 70, 71, 72, 73, 74, 75, 76, 77, 87, 88, 89, 90, 91, 81, 82, 83, 84, 85, 86, 92, 93, 94, 95, 96, 97, 98, 99, 100] (by decide +kernel) (by decide +kernel)
set_option maxRecDepth 20000 in
theorem gX1_init_X6_init : GoodIn wsX1_init (wsX6_init) := ggX1_init_X6_init
theorem dX1_init_0 : decode cX1_init 0 = .ok (.aload_n 0, 1) := by decide +kernel
theorem dX1_init_1 : decode cX1_init 1 = .ok (.invokespecial 3, 3) := by decide +kernel
theorem dX1_init_4 : decode cX1_init 4 = .ok (.aload_n 0, 1) := by decide +kernel
theorem dX1_init_5 : decode cX1_init 5 = .ok (.bipush 6, 2) := by decide +kernel
theorem dX1_init_7 : decode cX1_init 7 = .ok (.anewarray 9, 3) := by decide +kernel
theorem dX1_init_10 : decode cX1_init 10 = .ok (.putfield 11, 3) := by decide +kernel
theorem dX1_init_13 : decode cX1_init 13 = .ok (.aload_n 0, 1) := by decide +kernel
theorem dX1_init_14 : decode cX1_init 14 = .ok (.iconst 0, 1) := by decide +kernel
theorem dX1_init_15 : decode cX1_init 15 = .ok (.putfield 17, 3) := by decide +kernel
theorem dX1_init_18 : decode cX1_init 18 = .ok (.aload_n 0, 1) := by decide +kernel
theorem dX1_init_19 : decode cX1_init 19 = .ok (.iconst 0, 1) := by decide +kernel
theorem dX1_init_20 : decode cX1_init 20 = .ok (.putfield 21, 3) := by decide +kernel
theorem dX1_init_23 : decode cX1_init 23 = .ok (.iconst 0, 1) := by decide +kernel
theorem dX1_init_24 : decode cX1_init 24 = .ok (.istore_n 1, 1) := by decide +kernel
theorem dX1_init_25 : decode cX1_init 25 = .ok (.iload_n 1, 1) := by decide +kernel
theorem dX1_init_26 : decode cX1_init 26 = .ok (.aload_n 0, 1) := by decide +kernel
theorem dX1_init_27 : decode cX1_init 27 = .ok (.getfield 11, 3) := by decide +kernel
theorem dX1_init_30 : decode cX1_init 30 = .ok (.arraylength, 1) := by decide +kernel
theorem dX1_init_31 : decode cX1_init 31 = .ok (.if_icmp .ge 22, 3) := by decide +kernel
theorem dX1_init_34 : decode cX1_init 34 = .ok (.aload_n 0, 1) := by decide +kernel
theorem dX1_init_35 : decode cX1_init 35 = .ok (.getfield 11, 3) := by decide +kernel
theorem dX1_init_38 : decode cX1_init 38 = .ok (.iload_n 1, 1) := by decide +kernel
theorem dX1_init_39 : decode cX1_init 39 = .ok (.new 9, 3) := by decide +kernel
theorem dX1_init_42 : decode cX1_init 42 = .ok (.dup, 1) := by decide +kernel
theorem dX1_init_43 : decode cX1_init 43 = .ok (.invokespecial 24, 3) := by decide +kernel
theorem dX1_init_46 : decode cX1_init 46 = .ok (.aastore, 1) := by decide +kernel
theorem dX1_init_47 : decode cX1_init 47 = .ok (.iinc 1 1, 3) := by decide +kernel
theorem dX1_init_50 : decode cX1_init 50 = .ok (.goto (-25), 3) := by decide +kernel
theorem dX1_init_53 : decode cX1_init 53 = .ok (.return_, 1) := by decide +kernel
theorem dX1_slot_0 : decode cX1_slot 0 = .ok (.iload_n 1, 1) := by decide +kernel
theorem dX1_slot_1 : decode cX1_slot 1 = .ok (.ifCond .lt 21, 3) := by decide +kernel
theorem dX1_slot_4 : decode cX1_slot 4 = .ok (.iload_n 1, 1) := by decide +kernel
theorem dX1_slot_5 : decode cX1_slot 5 = .ok (.aload_n 0, 1) := by decide +kernel
theorem dX1_slot_6 : decode cX1_slot 6 = .ok (.getfield 11, 3) := by decide +kernel
theorem dX1_slot_9 : decode cX1_slot 9 = .ok (.arraylength, 1) := by decide +kernel
theorem dX1_slot_10 : decode cX1_slot 10 = .ok (.if_icmp .ge 12, 3) := by decide +kernel
theorem dX1_slot_13 : decode cX1_slot 13 = .ok (.aload_n 0, 1) := by decide +kernel
theorem dX1_slot_14 : decode cX1_slot 14 = .ok (.getfield 11, 3) := by decide +kernel
theorem dX1_slot_17 : decode cX1_slot 17 = .ok (.iload_n 1, 1) := by decide +kernel
theorem dX1_slot_18 : decode cX1_slot 18 = .ok (.aaload, 1) := by decide +kernel
theorem dX1_slot_19 : decode cX1_slot 19 = .ok (.goto 4, 3) := by decide +kernel
theorem dX1_slot_22 : decode cX1_slot 22 = .ok (.aconst_null, 1) := by decide +kernel
theorem dX1_slot_23 : decode cX1_slot 23 = .ok (.areturn, 1) := by decide +kernel
set_option maxRecDepth 20000 in
theorem ggX1_save_X1_slot : GoodIn wsX1_save wsX1_slot := goodIn_r _ [11, 12, 71, 72, 73] (by decide +kernel) (by decide +kernel)
set_option maxRecDepth 20000 in
theorem gX1_save_X1_slot : GoodIn wsX1_save (wsV RX1 25 RX1 yX1_slot wsX1_slot) := goodIn_app (goodIn_of _ (by decide +kernel)) ggX1_save_X1_slot
set_option maxRecDepth 20000 in
theorem ggX1_save_X6_copyFrom : GoodIn wsX1_save wsX6_copyFrom := goodIn_r _ [17, 18, 19, 20, 21, 22, 23, 24, 25, 26, 27, 28, 29, 30, 31, 32, 33, 34, 35, 36, 37, 38, 39, 40, 41, 42, 43, 44, 45, 46, 47, 48, 49, 50, 51, 52, 53, 54, 55, 56, 57, 58, 59, 60, 61, 62, 63, 64, 65, 66, 67, 68, 69, 70, 74, 75, 76, 77, 78, 79, 80, 81, 82, 83, 84, 85, 86, 87, 88, 89, 90, 91, 92, 93] (by decide +kernel) (by decide +kernel)
set_option maxRecDepth 20000 in
theorem gX1_save_X6_copyFrom : GoodIn wsX1_save (wsV RX1 29 RX6 yX6_copyFrom wsX6_copyFrom) := goodIn_app (goodIn_of _ (by decide +kernel)) ggX1_save_X6_copyFrom
theorem dX1_save_0 : decode cX1_save 0 = .ok (.aload_n 0, 1) := by decide +kernel
theorem dX1_save_1 : decode cX1_save 1 = .ok (.aload_n 0, 1) := by decide +kernel
theorem dX1_save_2 : decode cX1_save 2 = .ok (.getfield 17, 3) := by decide +kernel
theorem dX1_save_5 : decode cX1_save 5 = .ok (.invokevirtual 25, 3) := by decide +kernel
theorem dX1_save_8 : decode cX1_save 8 = .ok (.astore_n 2, 1) := by decide +kernel
theorem dX1_save_9 : decode cX1_save 9 = .ok (.aload_n 2, 1) := by decide +kernel
theorem dX1_save_10 : decode cX1_save 10 = .ok (.ifnull 48, 3) := by decide +kernel
theorem dX1_save_13 : decode cX1_save 13 = .ok (.aload_n 2, 1) := by decide +kernel
theorem dX1_save_14 : decode cX1_save 14 = .ok (.aload_n 1, 1) := by decide +kernel
theorem dX1_save_15 : decode cX1_save 15 = .ok (.invokevirtual 29, 3) := by decide +kernel
theorem dX1_save_18 : decode cX1_save 18 = .ok (.aload_n 0, 1) := by decide +kernel
theorem dX1_save_19 : decode cX1_save 19 = .ok (.aload_n 0, 1) := by decide +kernel
theorem dX1_save_20 : decode cX1_save 20 = .ok (.getfield 17, 3) := by decide +kernel
theorem dX1_save_23 : decode cX1_save 23 = .ok (.iconst 1, 1) := by decide +kernel
theorem dX1_save_24 : decode cX1_save 24 = .ok (.iadd, 1) := by decide +kernel
theorem dX1_save_25 : decode cX1_save 25 = .ok (.bipush 6, 2) := by decide +kernel
theorem dX1_save_27 : decode cX1_save 27 = .ok (.if_icmp .ge 12, 3) := by decide +kernel
theorem dX1_save_30 : decode cX1_save 30 = .ok (.aload_n 0, 1) := by decide +kernel
theorem dX1_save_31 : decode cX1_save 31 = .ok (.getfield 17, 3) := by decide +kernel
theorem dX1_save_34 : decode cX1_save 34 = .ok (.iconst 1, 1) := by decide +kernel
theorem dX1_save_35 : decode cX1_save 35 = .ok (.iadd, 1) := by decide +kernel
theorem dX1_save_36 : decode cX1_save 36 = .ok (.goto 4, 3) := by decide +kernel
theorem dX1_save_39 : decode cX1_save 39 = .ok (.iconst 0, 1) := by decide +kernel
theorem dX1_save_40 : decode cX1_save 40 = .ok (.putfield 17, 3) := by decide +kernel
theorem dX1_save_43 : decode cX1_save 43 = .ok (.aload_n 0, 1) := by decide +kernel
theorem dX1_save_44 : decode cX1_save 44 = .ok (.aload_n 0, 1) := by decide +kernel
theorem dX1_save_45 : decode cX1_save 45 = .ok (.getfield 21, 3) := by decide +kernel
theorem dX1_save_48 : decode cX1_save 48 = .ok (.iconst 1, 1) := by decide +kernel
theorem dX1_save_49 : decode cX1_save 49 = .ok (.iadd, 1) := by decide +kernel
theorem dX1_save_50 : decode cX1_save 50 = .ok (.bipush 6, 2) := by decide +kernel
theorem dX1_save_52 : decode cX1_save 52 = .ok (.invokestatic 33, 3) := by decide +kernel
theorem dX1_save_55 : decode cX1_save 55 = .ok (.putfield 21, 3) := by decide +kernel
theorem dX1_save_58 : decode cX1_save 58 = .ok (.return_, 1) := by decide +kernel
set_option maxRecDepth 20000 in
theorem ggX1_restore_X1_slot : GoodIn wsX1_restore wsX1_slot := goodIn_r _ [7, 8, 67, 68, 69] (by decide +kernel) (by decide +kernel)
set_option maxRecDepth 20000 in
theorem gX1_restore_X1_slot : GoodIn wsX1_restore (wsV RX1 25 RX1 yX1_slot wsX1_slot) := goodIn_app (goodIn_of _ (by decide +kernel)) ggX1_restore_X1_slot
set_option maxRecDepth 20000 in
theorem ggX1_restore_X6_copyFrom : GoodIn wsX1_restore wsX6_copyFrom := goodIn_r _ [13, 14, 15, 16, 17, 18, 19, 20, 21, 22, 23, 24, 25, 26, 27, 28, 29, 30, 31, 32, 33, 34, 35, 36, 37, 38, 39, 40, 41, 42, 43, 44, 45, 46, 47, 48, 49, 50, 51, 52, 53, 54, 55, 56, 57, 58, 59, 60, 61, 62, 63, 64, 65, 66, 70, 71, 72, 73, 74, 75, 76, 77, 78, 79, 80, 81, 82, 83, 84, 85, 86, 87, 88, 89] (by decide +kernel) (by decide +kernel)
set_option maxRecDepth 20000 in
theorem gX1_restore_X6_copyFrom : GoodIn wsX1_restore (wsV RX1 29 RX6 yX6_copyFrom wsX6_copyFrom) := goodIn_app (goodIn_of _ (by decide +kernel)) ggX1_restore_X6_copyFrom
theorem dX1_restore_0 : decode cX1_restore 0 = .ok (.aload_n 0, 1) := by decide +kernel
theorem dX1_restore_1 : decode cX1_restore 1 = .ok (.getfield 17, 3) := by decide +kernel
theorem dX1_restore_4 : decode cX1_restore 4 = .ok (.ifCond .le 12, 3) := by decide +kernel
theorem dX1_restore_7 : decode cX1_restore 7 = .ok (.aload_n 0, 1) := by decide +kernel
theorem dX1_restore_8 : decode cX1_restore 8 = .ok (.getfield 17, 3) := by decide +kernel
theorem dX1_restore_11 : decode cX1_restore 11 = .ok (.iconst 1, 1) := by decide +kernel
theorem dX1_restore_12 : decode cX1_restore 12 = .ok (.isub, 1) := by decide +kernel
theorem dX1_restore_13 : decode cX1_restore 13 = .ok (.goto 4, 3) := by decide +kernel
theorem dX1_restore_16 : decode cX1_restore 16 = .ok (.iconst 5, 1) := by decide +kernel
theorem dX1_restore_17 : decode cX1_restore 17 = .ok (.istore_n 2, 1) := by decide +kernel
theorem dX1_restore_18 : decode cX1_restore 18 = .ok (.aload_n 0, 1) := by decide +kernel
theorem dX1_restore_19 : decode cX1_restore 19 = .ok (.iload_n 2, 1) := by decide +kernel
theorem dX1_restore_20 : decode cX1_restore 20 = .ok (.invokevirtual 25, 3) := by decide +kernel
theorem dX1_restore_23 : decode cX1_restore 23 = .ok (.astore_n 3, 1) := by decide +kernel
theorem dX1_restore_24 : decode cX1_restore 24 = .ok (.aload_n 3, 1) := by decide +kernel
theorem dX1_restore_25 : decode cX1_restore 25 = .ok (.ifnull 30, 3) := by decide +kernel
theorem dX1_restore_28 : decode cX1_restore 28 = .ok (.aload_n 0, 1) := by decide +kernel
theorem dX1_restore_29 : decode cX1_restore 29 = .ok (.getfield 21, 3) := by decide +kernel
theorem dX1_restore_32 : decode cX1_restore 32 = .ok (.ifCond .le 23, 3) := by decide +kernel
theorem dX1_restore_35 : decode cX1_restore 35 = .ok (.aload_n 1, 1) := by decide +kernel
theorem dX1_restore_36 : decode cX1_restore 36 = .ok (.aload_n 3, 1) := by decide +kernel
theorem dX1_restore_37 : decode cX1_restore 37 = .ok (.invokevirtual 29, 3) := by decide +kernel
theorem dX1_restore_40 : decode cX1_restore 40 = .ok (.aload_n 0, 1) := by decide +kernel
theorem dX1_restore_41 : decode cX1_restore 41 = .ok (.iload_n 2, 1) := by decide +kernel
theorem dX1_restore_42 : decode cX1_restore 42 = .ok (.putfield 17, 3) := by decide +kernel
theorem dX1_restore_45 : decode cX1_restore 45 = .ok (.aload_n 0, 1) := by decide +kernel
theorem dX1_restore_46 : decode cX1_restore 46 = .ok (.dup, 1) := by decide +kernel
theorem dX1_restore_47 : decode cX1_restore 47 = .ok (.getfield 21, 3) := by decide +kernel
theorem dX1_restore_50 : decode cX1_restore 50 = .ok (.iconst 1, 1) := by decide +kernel
theorem dX1_restore_51 : decode cX1_restore 51 = .ok (.isub, 1) := by decide +kernel
theorem dX1_restore_52 : decode cX1_restore 52 = .ok (.putfield 21, 3) := by decide +kernel
theorem dX1_restore_55 : decode cX1_restore 55 = .ok (.return_, 1) := by decide +kernel
set_option maxRecDepth 20000 in
theorem ggX2_init_X3_init : GoodIn wsX2_init wsX3_init := goodIn_r _ [11, 12, 2, 3, 13, 14, 15] (by decide +kernel) (by decide +kernel)
set_option maxRecDepth 20000 in
theorem gX2_init_X3_init : GoodIn wsX2_init (wsX3_init) := ggX2_init_X3_init
theorem dX2_init_0 : decode cX2_init 0 = .ok (.aload_n 0, 1) := by decide +kernel
theorem dX2_init_1 : decode cX2_init 1 = .ok (.invokespecial 3, 3) := by decide +kernel
theorem dX2_init_4 : decode cX2_init 4 = .ok (.aload_n 0, 1) := by decide +kernel
theorem dX2_init_5 : decode cX2_init 5 = .ok (.new 9, 3) := by decide +kernel
theorem dX2_init_8 : decode cX2_init 8 = .ok (.dup, 1) := by decide +kernel
theorem dX2_init_9 : decode cX2_init 9 = .ok (.bipush 30, 2) := by decide +kernel
theorem dX2_init_11 : decode cX2_init 11 = .ok (.iconst 0, 1) := by decide +kernel
theorem dX2_init_12 : decode cX2_init 12 = .ok (.invokespecial 11, 3) := by decide +kernel
theorem dX2_init_15 : decode cX2_init 15 = .ok (.putfield 14, 3) := by decide +kernel
theorem dX2_init_18 : decode cX2_init 18 = .ok (.aload_n 0, 1) := by decide +kernel
theorem dX2_init_19 : decode cX2_init 19 = .ok (.new 9, 3) := by decide +kernel
theorem dX2_init_22 : decode cX2_init 22 = .ok (.dup, 1) := by decide +kernel
theorem dX2_init_23 : decode cX2_init 23 = .ok (.iconst 5, 1) := by decide +kernel
theorem dX2_init_24 : decode cX2_init 24 = .ok (.iconst 0, 1) := by decide +kernel
theorem dX2_init_25 : decode cX2_init 25 = .ok (.invokespecial 11, 3) := by decide +kernel
theorem dX2_init_28 : decode cX2_init 28 = .ok (.putfield 20, 3) := by decide +kernel
theorem dX2_init_31 : decode cX2_init 31 = .ok (.return_, 1) := by decide +kernel
set_option maxRecDepth 20000 in
theorem ggX2_keep_X3_get : GoodIn wsX2_keep wsX3_get := goodIn_r _ [7, 8, 21] (by decide +kernel) (by decide +kernel)
set_option maxRecDepth 20000 in
theorem gX2_keep_X3_get : GoodIn wsX2_keep (wsV RX2 23 RX3 yX3_get wsX3_get) := goodIn_app (goodIn_of _ (by decide +kernel)) ggX2_keep_X3_get
set_option maxRecDepth 20000 in
theorem ggX2_keep_X3_closeGap : GoodIn wsX2_keep wsX3_closeGap := goodIn_r _ [12, 13, 4, 5, 6, 7, 8, 14, 15, 16, 17, 21] (by decide +kernel) (by decide +kernel)
set_option maxRecDepth 20000 in
theorem gX2_keep_X3_closeGap : GoodIn wsX2_keep (wsV RX2 27 RX3 yX3_closeGap wsX3_closeGap) := goodIn_app (goodIn_of _ (by decide +kernel)) ggX2_keep_X3_closeGap
set_option maxRecDepth 20000 in
theorem ggX2_keep_X3_put : GoodIn wsX2_keep wsX3_put := goodIn_r _ [17, 8, 21] (by decide +kernel) (by decide +kernel)
set_option maxRecDepth 20000 in
theorem gX2_keep_X3_put : GoodIn wsX2_keep (wsV RX2 30 RX3 yX3_put wsX3_put) := goodIn_app (goodIn_of _ (by decide +kernel)) ggX2_keep_X3_put
theorem dX2_keep_0 : decode cX2_keep 0 = .ok (.iload_n 1, 1) := by decide +kernel
theorem dX2_keep_1 : decode cX2_keep 1 = .ok (.bipush 6, 2) := by decide +kernel
theorem dX2_keep_3 : decode cX2_keep 3 = .ok (.imul, 1) := by decide +kernel
theorem dX2_keep_4 : decode cX2_keep 4 = .ok (.istore_n 3, 1) := by decide +kernel
theorem dX2_keep_5 : decode cX2_keep 5 = .ok (.aload_n 0, 1) := by decide +kernel
theorem dX2_keep_6 : decode cX2_keep 6 = .ok (.getfield 20, 3) := by decide +kernel
theorem dX2_keep_9 : decode cX2_keep 9 = .ok (.iload_n 1, 1) := by decide +kernel
theorem dX2_keep_10 : decode cX2_keep 10 = .ok (.invokevirtual 23, 3) := by decide +kernel
theorem dX2_keep_13 : decode cX2_keep 13 = .ok (.istore 4, 2) := by decide +kernel
theorem dX2_keep_15 : decode cX2_keep 15 = .ok (.iload 4, 2) := by decide +kernel
theorem dX2_keep_17 : decode cX2_keep 17 = .ok (.bipush 6, 2) := by decide +kernel
theorem dX2_keep_19 : decode cX2_keep 19 = .ok (.if_icmp .lt 18, 3) := by decide +kernel
theorem dX2_keep_22 : decode cX2_keep 22 = .ok (.aload_n 0, 1) := by decide +kernel
theorem dX2_keep_23 : decode cX2_keep 23 = .ok (.getfield 14, 3) := by decide +kernel
theorem dX2_keep_26 : decode cX2_keep 26 = .ok (.iload_n 3, 1) := by decide +kernel
theorem dX2_keep_27 : decode cX2_keep 27 = .ok (.iload_n 3, 1) := by decide +kernel
theorem dX2_keep_28 : decode cX2_keep 28 = .ok (.bipush 6, 2) := by decide +kernel
theorem dX2_keep_30 : decode cX2_keep 30 = .ok (.iadd, 1) := by decide +kernel
theorem dX2_keep_31 : decode cX2_keep 31 = .ok (.invokevirtual 27, 3) := by decide +kernel
theorem dX2_keep_34 : decode cX2_keep 34 = .ok (.iconst 5, 1) := by decide +kernel
theorem dX2_keep_35 : decode cX2_keep 35 = .ok (.istore 4, 2) := by decide +kernel
theorem dX2_keep_37 : decode cX2_keep 37 = .ok (.aload_n 0, 1) := by decide +kernel
theorem dX2_keep_38 : decode cX2_keep 38 = .ok (.getfield 14, 3) := by decide +kernel
theorem dX2_keep_41 : decode cX2_keep 41 = .ok (.iload_n 3, 1) := by decide +kernel
theorem dX2_keep_42 : decode cX2_keep 42 = .ok (.iload 4, 2) := by decide +kernel
theorem dX2_keep_44 : decode cX2_keep 44 = .ok (.iadd, 1) := by decide +kernel
theorem dX2_keep_45 : decode cX2_keep 45 = .ok (.iload_n 2, 1) := by decide +kernel
theorem dX2_keep_46 : decode cX2_keep 46 = .ok (.invokevirtual 30, 3) := by decide +kernel
theorem dX2_keep_49 : decode cX2_keep 49 = .ok (.aload_n 0, 1) := by decide +kernel
theorem dX2_keep_50 : decode cX2_keep 50 = .ok (.getfield 20, 3) := by decide +kernel
theorem dX2_keep_53 : decode cX2_keep 53 = .ok (.iload_n 1, 1) := by decide +kernel
theorem dX2_keep_54 : decode cX2_keep 54 = .ok (.iload 4, 2) := by decide +kernel
theorem dX2_keep_56 : decode cX2_keep 56 = .ok (.iconst 1, 1) := by decide +kernel
theorem dX2_keep_57 : decode cX2_keep 57 = .ok (.iadd, 1) := by decide +kernel
theorem dX2_keep_58 : decode cX2_keep 58 = .ok (.invokevirtual 30, 3) := by decide +kernel
theorem dX2_keep_61 : decode cX2_keep 61 = .ok (.return_, 1) := by decide +kernel
set_option maxRecDepth 20000 in
theorem ggX2_maskAt_X3_get : GoodIn wsX2_maskAt wsX3_get := goodIn_r _ [7, 8, 11] (by decide +kernel) (by decide +kernel)
set_option maxRecDepth 20000 in
theorem gX2_maskAt_X3_get : GoodIn wsX2_maskAt (wsV RX2 23 RX3 yX3_get wsX3_get) := goodIn_app (goodIn_of _ (by decide +kernel)) ggX2_maskAt_X3_get
theorem dX2_maskAt_0 : decode cX2_maskAt 0 = .ok (.iload_n 2, 1) := by decide +kernel
theorem dX2_maskAt_1 : decode cX2_maskAt 1 = .ok (.ifCond .lt 31, 3) := by decide +kernel
theorem dX2_maskAt_4 : decode cX2_maskAt 4 = .ok (.iload_n 2, 1) := by decide +kernel
theorem dX2_maskAt_5 : decode cX2_maskAt 5 = .ok (.aload_n 0, 1) := by decide +kernel
theorem dX2_maskAt_6 : decode cX2_maskAt 6 = .ok (.getfield 20, 3) := by decide +kernel
theorem dX2_maskAt_9 : decode cX2_maskAt 9 = .ok (.iload_n 1, 1) := by decide +kernel
theorem dX2_maskAt_10 : decode cX2_maskAt 10 = .ok (.invokevirtual 23, 3) := by decide +kernel
theorem dX2_maskAt_13 : decode cX2_maskAt 13 = .ok (.if_icmp .ge 19, 3) := by decide +kernel
theorem dX2_maskAt_16 : decode cX2_maskAt 16 = .ok (.aload_n 0, 1) := by decide +kernel
theorem dX2_maskAt_17 : decode cX2_maskAt 17 = .ok (.getfield 14, 3) := by decide +kernel
theorem dX2_maskAt_20 : decode cX2_maskAt 20 = .ok (.iload_n 1, 1) := by decide +kernel
theorem dX2_maskAt_21 : decode cX2_maskAt 21 = .ok (.bipush 6, 2) := by decide +kernel
theorem dX2_maskAt_23 : decode cX2_maskAt 23 = .ok (.imul, 1) := by decide +kernel
theorem dX2_maskAt_24 : decode cX2_maskAt 24 = .ok (.iload_n 2, 1) := by decide +kernel
theorem dX2_maskAt_25 : decode cX2_maskAt 25 = .ok (.iadd, 1) := by decide +kernel
theorem dX2_maskAt_26 : decode cX2_maskAt 26 = .ok (.invokevirtual 23, 3) := by decide +kernel
theorem dX2_maskAt_29 : decode cX2_maskAt 29 = .ok (.goto 4, 3) := by decide +kernel
theorem dX2_maskAt_32 : decode cX2_maskAt 32 = .ok (.iconst (-1), 1) := by decide +kernel
theorem dX2_maskAt_33 : decode cX2_maskAt 33 = .ok (.ireturn, 1) := by decide +kernel
set_option maxRecDepth 20000 in
theorem ggX2_givesAway_X3_get : GoodIn wsX2_givesAway wsX3_get := goodIn_r _ [6, 7, 23] (by decide +kernel) (by decide +kernel)
set_option maxRecDepth 20000 in
theorem gX2_givesAway_X3_get : GoodIn wsX2_givesAway (wsV RX2 23 RX3 yX3_get wsX3_get) := goodIn_app (goodIn_of _ (by decide +kernel)) ggX2_givesAway_X3_get
set_option maxRecDepth 20000 in
theorem ggX2_givesAway_X2_maskAt : GoodIn wsX2_givesAway wsX2_maskAt := goodIn_r _ [12, 1, 13, 2, 3, 4, 5, 6, 7, 21, 22, 23] (by decide +kernel) (by decide +kernel)
set_option maxRecDepth 20000 in
theorem gX2_givesAway_X2_maskAt : GoodIn wsX2_givesAway (wsV RX2 33 RX2 yX2_maskAt wsX2_maskAt) := goodIn_app (goodIn_of _ (by decide +kernel)) ggX2_givesAway_X2_maskAt
set_option maxRecDepth 20000 in
theorem ggX2_givesAway_J6_bitCount_0f7a4 : GoodIn wsX2_givesAway wsJ6_bitCount_0f7a4 := goodIn_r _ [17, 18, 19, 20] (by decide +kernel) (by decide +kernel)
set_option maxRecDepth 20000 in
theorem gX2_givesAway_J6_bitCount_0f7a4 : GoodIn wsX2_givesAway (va_wsS RX2 37 yJ6_bitCount_0f7a4 wsJ6_bitCount_0f7a4) := goodIn_app (goodIn_of _ (by decide +kernel)) ggX2_givesAway_J6_bitCount_0f7a4
theorem dX2_givesAway_0 : decode cX2_givesAway 0 = .ok (.iconst 0, 1) := by decide +kernel
theorem dX2_givesAway_1 : decode cX2_givesAway 1 = .ok (.istore_n 3, 1) := by decide +kernel
theorem dX2_givesAway_2 : decode cX2_givesAway 2 = .ok (.iload_n 3, 1) := by decide +kernel
theorem dX2_givesAway_3 : decode cX2_givesAway 3 = .ok (.aload_n 0, 1) := by decide +kernel
theorem dX2_givesAway_4 : decode cX2_givesAway 4 = .ok (.getfield 20, 3) := by decide +kernel
theorem dX2_givesAway_7 : decode cX2_givesAway 7 = .ok (.iload_n 1, 1) := by decide +kernel
theorem dX2_givesAway_8 : decode cX2_givesAway 8 = .ok (.invokevirtual 23, 3) := by decide +kernel
theorem dX2_givesAway_11 : decode cX2_givesAway 11 = .ok (.if_icmp .ge 26, 3) := by decide +kernel
theorem dX2_givesAway_14 : decode cX2_givesAway 14 = .ok (.aload_n 0, 1) := by decide +kernel
theorem dX2_givesAway_15 : decode cX2_givesAway 15 = .ok (.iload_n 1, 1) := by decide +kernel
theorem dX2_givesAway_16 : decode cX2_givesAway 16 = .ok (.iload_n 3, 1) := by decide +kernel
theorem dX2_givesAway_17 : decode cX2_givesAway 17 = .ok (.invokevirtual 33, 3) := by decide +kernel
theorem dX2_givesAway_20 : decode cX2_givesAway 20 = .ok (.iload_n 2, 1) := by decide +kernel
theorem dX2_givesAway_21 : decode cX2_givesAway 21 = .ok (.ixor, 1) := by decide +kernel
theorem dX2_givesAway_22 : decode cX2_givesAway 22 = .ok (.invokestatic 37, 3) := by decide +kernel
theorem dX2_givesAway_25 : decode cX2_givesAway 25 = .ok (.iconst 1, 1) := by decide +kernel
theorem dX2_givesAway_26 : decode cX2_givesAway 26 = .ok (.if_icmp .ne 5, 3) := by decide +kernel
theorem dX2_givesAway_29 : decode cX2_givesAway 29 = .ok (.iconst 1, 1) := by decide +kernel
theorem dX2_givesAway_30 : decode cX2_givesAway 30 = .ok (.ireturn, 1) := by decide +kernel
theorem dX2_givesAway_31 : decode cX2_givesAway 31 = .ok (.iinc 3 1, 3) := by decide +kernel
theorem dX2_givesAway_34 : decode cX2_givesAway 34 = .ok (.goto (-32), 3) := by decide +kernel
theorem dX2_givesAway_37 : decode cX2_givesAway 37 = .ok (.iconst 0, 1) := by decide +kernel
theorem dX2_givesAway_38 : decode cX2_givesAway 38 = .ok (.ireturn, 1) := by decide +kernel
set_option maxRecDepth 20000 in
theorem ggX2_takeOut_X3_get : GoodIn wsX2_takeOut wsX3_get := goodIn_r _ [6, 7, 14] (by decide +kernel) (by decide +kernel)
set_option maxRecDepth 20000 in
theorem gX2_takeOut_X3_get : GoodIn wsX2_takeOut (wsV RX2 23 RX3 yX3_get wsX3_get) := goodIn_app (goodIn_of _ (by decide +kernel)) ggX2_takeOut_X3_get
set_option maxRecDepth 20000 in
theorem ggX2_takeOut_X3_put : GoodIn wsX2_takeOut wsX3_put := goodIn_r _ [11, 7, 14] (by decide +kernel) (by decide +kernel)
set_option maxRecDepth 20000 in
theorem gX2_takeOut_X3_put : GoodIn wsX2_takeOut (wsV RX2 30 RX3 yX3_put wsX3_put) := goodIn_app (goodIn_of _ (by decide +kernel)) ggX2_takeOut_X3_put
theorem dX2_takeOut_0 : decode cX2_takeOut 0 = .ok (.iconst 1, 1) := by decide +kernel
theorem dX2_takeOut_1 : decode cX2_takeOut 1 = .ok (.iload_n 1, 1) := by decide +kernel
theorem dX2_takeOut_2 : decode cX2_takeOut 2 = .ok (.ishl, 1) := by decide +kernel
theorem dX2_takeOut_3 : decode cX2_takeOut 3 = .ok (.iconst 1, 1) := by decide +kernel
theorem dX2_takeOut_4 : decode cX2_takeOut 4 = .ok (.isub, 1) := by decide +kernel
theorem dX2_takeOut_5 : decode cX2_takeOut 5 = .ok (.istore_n 2, 1) := by decide +kernel
theorem dX2_takeOut_6 : decode cX2_takeOut 6 = .ok (.iconst 0, 1) := by decide +kernel
theorem dX2_takeOut_7 : decode cX2_takeOut 7 = .ok (.istore_n 3, 1) := by decide +kernel
theorem dX2_takeOut_8 : decode cX2_takeOut 8 = .ok (.iload_n 3, 1) := by decide +kernel
theorem dX2_takeOut_9 : decode cX2_takeOut 9 = .ok (.bipush 30, 2) := by decide +kernel
theorem dX2_takeOut_11 : decode cX2_takeOut 11 = .ok (.if_icmp .ge 40, 3) := by decide +kernel
theorem dX2_takeOut_14 : decode cX2_takeOut 14 = .ok (.aload_n 0, 1) := by decide +kernel
theorem dX2_takeOut_15 : decode cX2_takeOut 15 = .ok (.getfield 14, 3) := by decide +kernel
theorem dX2_takeOut_18 : decode cX2_takeOut 18 = .ok (.iload_n 3, 1) := by decide +kernel
theorem dX2_takeOut_19 : decode cX2_takeOut 19 = .ok (.invokevirtual 23, 3) := by decide +kernel
theorem dX2_takeOut_22 : decode cX2_takeOut 22 = .ok (.istore 4, 2) := by decide +kernel
theorem dX2_takeOut_24 : decode cX2_takeOut 24 = .ok (.aload_n 0, 1) := by decide +kernel
theorem dX2_takeOut_25 : decode cX2_takeOut 25 = .ok (.getfield 14, 3) := by decide +kernel
theorem dX2_takeOut_28 : decode cX2_takeOut 28 = .ok (.iload_n 3, 1) := by decide +kernel
theorem dX2_takeOut_29 : decode cX2_takeOut 29 = .ok (.iload 4, 2) := by decide +kernel
theorem dX2_takeOut_31 : decode cX2_takeOut 31 = .ok (.iload_n 2, 1) := by decide +kernel
theorem dX2_takeOut_32 : decode cX2_takeOut 32 = .ok (.iand, 1) := by decide +kernel
theorem dX2_takeOut_33 : decode cX2_takeOut 33 = .ok (.iload 4, 2) := by decide +kernel
theorem dX2_takeOut_35 : decode cX2_takeOut 35 = .ok (.iconst 1, 1) := by decide +kernel
theorem dX2_takeOut_36 : decode cX2_takeOut 36 = .ok (.ishr, 1) := by decide +kernel
theorem dX2_takeOut_37 : decode cX2_takeOut 37 = .ok (.iload_n 2, 1) := by decide +kernel
theorem dX2_takeOut_38 : decode cX2_takeOut 38 = .ok (.iconst (-1), 1) := by decide +kernel
theorem dX2_takeOut_39 : decode cX2_takeOut 39 = .ok (.ixor, 1) := by decide +kernel
theorem dX2_takeOut_40 : decode cX2_takeOut 40 = .ok (.iand, 1) := by decide +kernel
theorem dX2_takeOut_41 : decode cX2_takeOut 41 = .ok (.ior, 1) := by decide +kernel
theorem dX2_takeOut_42 : decode cX2_takeOut 42 = .ok (.invokevirtual 30, 3) := by decide +kernel
theorem dX2_takeOut_45 : decode cX2_takeOut 45 = .ok (.iinc 3 1, 3) := by decide +kernel
theorem dX2_takeOut_48 : decode cX2_takeOut 48 = .ok (.goto (-40), 3) := by decide +kernel
theorem dX2_takeOut_51 : decode cX2_takeOut 51 = .ok (.return_, 1) := by decide +kernel
set_option maxRecDepth 20000 in
theorem ggX2_copyFrom_X3_copyFrom : GoodIn wsX2_copyFrom wsX3_copyFrom := goodIn_r _ [7, 8, 9, 10, 11, 6, 12, 15] (by decide +kernel) (by decide +kernel)
set_option maxRecDepth 20000 in
theorem gX2_copyFrom_X3_copyFrom : GoodIn wsX2_copyFrom (wsV RX2 42 RX3 yX3_copyFrom wsX3_copyFrom) := goodIn_app (goodIn_of _ (by decide +kernel)) ggX2_copyFrom_X3_copyFrom
theorem dX2_copyFrom_0 : decode cX2_copyFrom 0 = .ok (.aload_n 0, 1) := by decide +kernel
theorem dX2_copyFrom_1 : decode cX2_copyFrom 1 = .ok (.getfield 14, 3) := by decide +kernel
theorem dX2_copyFrom_4 : decode cX2_copyFrom 4 = .ok (.aload_n 1, 1) := by decide +kernel
theorem dX2_copyFrom_5 : decode cX2_copyFrom 5 = .ok (.getfield 14, 3) := by decide +kernel
theorem dX2_copyFrom_8 : decode cX2_copyFrom 8 = .ok (.invokevirtual 42, 3) := by decide +kernel
theorem dX2_copyFrom_11 : decode cX2_copyFrom 11 = .ok (.aload_n 0, 1) := by decide +kernel
theorem dX2_copyFrom_12 : decode cX2_copyFrom 12 = .ok (.getfield 20, 3) := by decide +kernel
theorem dX2_copyFrom_15 : decode cX2_copyFrom 15 = .ok (.aload_n 1, 1) := by decide +kernel
theorem dX2_copyFrom_16 : decode cX2_copyFrom 16 = .ok (.getfield 20, 3) := by decide +kernel
theorem dX2_copyFrom_19 : decode cX2_copyFrom 19 = .ok (.invokevirtual 42, 3) := by decide +kernel
theorem dX2_copyFrom_22 : decode cX2_copyFrom 22 = .ok (.return_, 1) := by decide +kernel
theorem dX3_init_0 : decode cX3_init 0 = .ok (.aload_n 0, 1) := by decide +kernel
theorem dX3_init_1 : decode cX3_init 1 = .ok (.invokespecial 1, 3) := by decide +kernel
theorem dX3_init_4 : decode cX3_init 4 = .ok (.aload_n 0, 1) := by decide +kernel
theorem dX3_init_5 : decode cX3_init 5 = .ok (.iload_n 1, 1) := by decide +kernel
theorem dX3_init_6 : decode cX3_init 6 = .ok (.ifCond .ge 7, 3) := by decide +kernel
theorem dX3_init_9 : decode cX3_init 9 = .ok (.iconst 0, 1) := by decide +kernel
theorem dX3_init_10 : decode cX3_init 10 = .ok (.goto 4, 3) := by decide +kernel
theorem dX3_init_13 : decode cX3_init 13 = .ok (.iload_n 1, 1) := by decide +kernel
theorem dX3_init_14 : decode cX3_init 14 = .ok (.newarray .int, 2) := by decide +kernel
theorem dX3_init_16 : decode cX3_init 16 = .ok (.putfield 7, 3) := by decide +kernel
theorem dX3_init_19 : decode cX3_init 19 = .ok (.iconst 0, 1) := by decide +kernel
theorem dX3_init_20 : decode cX3_init 20 = .ok (.istore_n 3, 1) := by decide +kernel
theorem dX3_init_21 : decode cX3_init 21 = .ok (.iload_n 3, 1) := by decide +kernel
theorem dX3_init_22 : decode cX3_init 22 = .ok (.aload_n 0, 1) := by decide +kernel
theorem dX3_init_23 : decode cX3_init 23 = .ok (.getfield 7, 3) := by decide +kernel
theorem dX3_init_26 : decode cX3_init 26 = .ok (.arraylength, 1) := by decide +kernel
theorem dX3_init_27 : decode cX3_init 27 = .ok (.if_icmp .ge 16, 3) := by decide +kernel
theorem dX3_init_30 : decode cX3_init 30 = .ok (.aload_n 0, 1) := by decide +kernel
theorem dX3_init_31 : decode cX3_init 31 = .ok (.getfield 7, 3) := by decide +kernel
theorem dX3_init_34 : decode cX3_init 34 = .ok (.iload_n 3, 1) := by decide +kernel
theorem dX3_init_35 : decode cX3_init 35 = .ok (.iload_n 2, 1) := by decide +kernel
theorem dX3_init_36 : decode cX3_init 36 = .ok (.iastore, 1) := by decide +kernel
theorem dX3_init_37 : decode cX3_init 37 = .ok (.iinc 3 1, 3) := by decide +kernel
theorem dX3_init_40 : decode cX3_init 40 = .ok (.goto (-19), 3) := by decide +kernel
theorem dX3_init_43 : decode cX3_init 43 = .ok (.return_, 1) := by decide +kernel
theorem dX3_get_0 : decode cX3_get 0 = .ok (.iload_n 1, 1) := by decide +kernel
theorem dX3_get_1 : decode cX3_get 1 = .ok (.ifCond .lt 21, 3) := by decide +kernel
theorem dX3_get_4 : decode cX3_get 4 = .ok (.iload_n 1, 1) := by decide +kernel
theorem dX3_get_5 : decode cX3_get 5 = .ok (.aload_n 0, 1) := by decide +kernel
theorem dX3_get_6 : decode cX3_get 6 = .ok (.getfield 7, 3) := by decide +kernel
theorem dX3_get_9 : decode cX3_get 9 = .ok (.arraylength, 1) := by decide +kernel
theorem dX3_get_10 : decode cX3_get 10 = .ok (.if_icmp .ge 12, 3) := by decide +kernel
theorem dX3_get_13 : decode cX3_get 13 = .ok (.aload_n 0, 1) := by decide +kernel
theorem dX3_get_14 : decode cX3_get 14 = .ok (.getfield 7, 3) := by decide +kernel
theorem dX3_get_17 : decode cX3_get 17 = .ok (.iload_n 1, 1) := by decide +kernel
theorem dX3_get_18 : decode cX3_get 18 = .ok (.iaload, 1) := by decide +kernel
theorem dX3_get_19 : decode cX3_get 19 = .ok (.goto 4, 3) := by decide +kernel
theorem dX3_get_22 : decode cX3_get 22 = .ok (.iconst 0, 1) := by decide +kernel
theorem dX3_get_23 : decode cX3_get 23 = .ok (.ireturn, 1) := by decide +kernel
theorem dX3_put_0 : decode cX3_put 0 = .ok (.iload_n 1, 1) := by decide +kernel
theorem dX3_put_1 : decode cX3_put 1 = .ok (.ifCond .lt 19, 3) := by decide +kernel
theorem dX3_put_4 : decode cX3_put 4 = .ok (.iload_n 1, 1) := by decide +kernel
theorem dX3_put_5 : decode cX3_put 5 = .ok (.aload_n 0, 1) := by decide +kernel
theorem dX3_put_6 : decode cX3_put 6 = .ok (.getfield 7, 3) := by decide +kernel
theorem dX3_put_9 : decode cX3_put 9 = .ok (.arraylength, 1) := by decide +kernel
theorem dX3_put_10 : decode cX3_put 10 = .ok (.if_icmp .ge 10, 3) := by decide +kernel
theorem dX3_put_13 : decode cX3_put 13 = .ok (.aload_n 0, 1) := by decide +kernel
theorem dX3_put_14 : decode cX3_put 14 = .ok (.getfield 7, 3) := by decide +kernel
theorem dX3_put_17 : decode cX3_put 17 = .ok (.iload_n 1, 1) := by decide +kernel
theorem dX3_put_18 : decode cX3_put 18 = .ok (.iload_n 2, 1) := by decide +kernel
theorem dX3_put_19 : decode cX3_put 19 = .ok (.iastore, 1) := by decide +kernel
theorem dX3_put_20 : decode cX3_put 20 = .ok (.return_, 1) := by decide +kernel
set_option maxRecDepth 20000 in
theorem ggX3_swap_X3_get : GoodIn wsX3_swap wsX3_get := goodIn_r _ [5, 6, 11] (by decide +kernel) (by decide +kernel)
set_option maxRecDepth 20000 in
theorem gX3_swap_X3_get : GoodIn wsX3_swap (wsV RX3 13 RX3 yX3_get wsX3_get) := goodIn_app (goodIn_of _ (by decide +kernel)) ggX3_swap_X3_get
set_option maxRecDepth 20000 in
theorem ggX3_swap_X3_put : GoodIn wsX3_swap wsX3_put := goodIn_r _ [10, 6, 11] (by decide +kernel) (by decide +kernel)
set_option maxRecDepth 20000 in
theorem gX3_swap_X3_put : GoodIn wsX3_swap (wsV RX3 17 RX3 yX3_put wsX3_put) := goodIn_app (goodIn_of _ (by decide +kernel)) ggX3_swap_X3_put
theorem dX3_swap_0 : decode cX3_swap 0 = .ok (.aload_n 0, 1) := by decide +kernel
theorem dX3_swap_1 : decode cX3_swap 1 = .ok (.iload_n 1, 1) := by decide +kernel
theorem dX3_swap_2 : decode cX3_swap 2 = .ok (.invokevirtual 13, 3) := by decide +kernel
theorem dX3_swap_5 : decode cX3_swap 5 = .ok (.istore_n 3, 1) := by decide +kernel
theorem dX3_swap_6 : decode cX3_swap 6 = .ok (.aload_n 0, 1) := by decide +kernel
theorem dX3_swap_7 : decode cX3_swap 7 = .ok (.iload_n 1, 1) := by decide +kernel
theorem dX3_swap_8 : decode cX3_swap 8 = .ok (.iload_n 2, 1) := by decide +kernel
theorem dX3_swap_9 : decode cX3_swap 9 = .ok (.invokevirtual 17, 3) := by decide +kernel
theorem dX3_swap_12 : decode cX3_swap 12 = .ok (.iload_n 3, 1) := by decide +kernel
theorem dX3_swap_13 : decode cX3_swap 13 = .ok (.ireturn, 1) := by decide +kernel
set_option maxRecDepth 20000 in
theorem ggX3_closeGap_X3_get : GoodIn wsX3_closeGap wsX3_get := goodIn_r _ [5, 6, 11] (by decide +kernel) (by decide +kernel)
set_option maxRecDepth 20000 in
theorem gX3_closeGap_X3_get : GoodIn wsX3_closeGap (wsV RX3 13 RX3 yX3_get wsX3_get) := goodIn_app (goodIn_of _ (by decide +kernel)) ggX3_closeGap_X3_get
set_option maxRecDepth 20000 in
theorem ggX3_closeGap_X3_put : GoodIn wsX3_closeGap wsX3_put := goodIn_r _ [10, 6, 11] (by decide +kernel) (by decide +kernel)
set_option maxRecDepth 20000 in
theorem gX3_closeGap_X3_put : GoodIn wsX3_closeGap (wsV RX3 17 RX3 yX3_put wsX3_put) := goodIn_app (goodIn_of _ (by decide +kernel)) ggX3_closeGap_X3_put
theorem dX3_closeGap_0 : decode cX3_closeGap 0 = .ok (.iload_n 1, 1) := by decide +kernel
theorem dX3_closeGap_1 : decode cX3_closeGap 1 = .ok (.istore_n 3, 1) := by decide +kernel
theorem dX3_closeGap_2 : decode cX3_closeGap 2 = .ok (.iload_n 3, 1) := by decide +kernel
theorem dX3_closeGap_3 : decode cX3_closeGap 3 = .ok (.iload_n 2, 1) := by decide +kernel
theorem dX3_closeGap_4 : decode cX3_closeGap 4 = .ok (.iconst 1, 1) := by decide +kernel
theorem dX3_closeGap_5 : decode cX3_closeGap 5 = .ok (.isub, 1) := by decide +kernel
theorem dX3_closeGap_6 : decode cX3_closeGap 6 = .ok (.if_icmp .ge 21, 3) := by decide +kernel
theorem dX3_closeGap_9 : decode cX3_closeGap 9 = .ok (.aload_n 0, 1) := by decide +kernel
theorem dX3_closeGap_10 : decode cX3_closeGap 10 = .ok (.iload_n 3, 1) := by decide +kernel
theorem dX3_closeGap_11 : decode cX3_closeGap 11 = .ok (.aload_n 0, 1) := by decide +kernel
theorem dX3_closeGap_12 : decode cX3_closeGap 12 = .ok (.iload_n 3, 1) := by decide +kernel
theorem dX3_closeGap_13 : decode cX3_closeGap 13 = .ok (.iconst 1, 1) := by decide +kernel
theorem dX3_closeGap_14 : decode cX3_closeGap 14 = .ok (.iadd, 1) := by decide +kernel
theorem dX3_closeGap_15 : decode cX3_closeGap 15 = .ok (.invokevirtual 13, 3) := by decide +kernel
theorem dX3_closeGap_18 : decode cX3_closeGap 18 = .ok (.invokevirtual 17, 3) := by decide +kernel
theorem dX3_closeGap_21 : decode cX3_closeGap 21 = .ok (.iinc 3 1, 3) := by decide +kernel
theorem dX3_closeGap_24 : decode cX3_closeGap 24 = .ok (.goto (-22), 3) := by decide +kernel
theorem dX3_closeGap_27 : decode cX3_closeGap 27 = .ok (.return_, 1) := by decide +kernel
theorem dX3_sum_0 : decode cX3_sum 0 = .ok (.iconst 0, 1) := by decide +kernel
theorem dX3_sum_1 : decode cX3_sum 1 = .ok (.istore_n 1, 1) := by decide +kernel
theorem dX3_sum_2 : decode cX3_sum 2 = .ok (.iconst 0, 1) := by decide +kernel
theorem dX3_sum_3 : decode cX3_sum 3 = .ok (.istore_n 2, 1) := by decide +kernel
theorem dX3_sum_4 : decode cX3_sum 4 = .ok (.iload_n 2, 1) := by decide +kernel
theorem dX3_sum_5 : decode cX3_sum 5 = .ok (.aload_n 0, 1) := by decide +kernel
theorem dX3_sum_6 : decode cX3_sum 6 = .ok (.getfield 7, 3) := by decide +kernel
theorem dX3_sum_9 : decode cX3_sum 9 = .ok (.arraylength, 1) := by decide +kernel
theorem dX3_sum_10 : decode cX3_sum 10 = .ok (.if_icmp .ge 18, 3) := by decide +kernel
theorem dX3_sum_13 : decode cX3_sum 13 = .ok (.iload_n 1, 1) := by decide +kernel
theorem dX3_sum_14 : decode cX3_sum 14 = .ok (.aload_n 0, 1) := by decide +kernel
theorem dX3_sum_15 : decode cX3_sum 15 = .ok (.getfield 7, 3) := by decide +kernel
theorem dX3_sum_18 : decode cX3_sum 18 = .ok (.iload_n 2, 1) := by decide +kernel
theorem dX3_sum_19 : decode cX3_sum 19 = .ok (.iaload, 1) := by decide +kernel
theorem dX3_sum_20 : decode cX3_sum 20 = .ok (.iadd, 1) := by decide +kernel
theorem dX3_sum_21 : decode cX3_sum 21 = .ok (.istore_n 1, 1) := by decide +kernel
theorem dX3_sum_22 : decode cX3_sum 22 = .ok (.iinc 2 1, 3) := by decide +kernel
theorem dX3_sum_25 : decode cX3_sum 25 = .ok (.goto (-21), 3) := by decide +kernel
theorem dX3_sum_28 : decode cX3_sum 28 = .ok (.iload_n 1, 1) := by decide +kernel
theorem dX3_sum_29 : decode cX3_sum 29 = .ok (.ireturn, 1) := by decide +kernel
set_option maxRecDepth 20000 in
theorem ggX3_copyFrom_X3_get : GoodIn wsX3_copyFrom wsX3_get := goodIn_r _ [6, 1, 7] (by decide +kernel) (by decide +kernel)
set_option maxRecDepth 20000 in
theorem gX3_copyFrom_X3_get : GoodIn wsX3_copyFrom (wsV RX3 13 RX3 yX3_get wsX3_get) := goodIn_app (goodIn_of _ (by decide +kernel)) ggX3_copyFrom_X3_get
theorem dX3_copyFrom_0 : decode cX3_copyFrom 0 = .ok (.iconst 0, 1) := by decide +kernel
theorem dX3_copyFrom_1 : decode cX3_copyFrom 1 = .ok (.istore_n 2, 1) := by decide +kernel
theorem dX3_copyFrom_2 : decode cX3_copyFrom 2 = .ok (.iload_n 2, 1) := by decide +kernel
theorem dX3_copyFrom_3 : decode cX3_copyFrom 3 = .ok (.aload_n 0, 1) := by decide +kernel
theorem dX3_copyFrom_4 : decode cX3_copyFrom 4 = .ok (.getfield 7, 3) := by decide +kernel
theorem dX3_copyFrom_7 : decode cX3_copyFrom 7 = .ok (.arraylength, 1) := by decide +kernel
theorem dX3_copyFrom_8 : decode cX3_copyFrom 8 = .ok (.if_icmp .ge 20, 3) := by decide +kernel
theorem dX3_copyFrom_11 : decode cX3_copyFrom 11 = .ok (.aload_n 0, 1) := by decide +kernel
theorem dX3_copyFrom_12 : decode cX3_copyFrom 12 = .ok (.getfield 7, 3) := by decide +kernel
theorem dX3_copyFrom_15 : decode cX3_copyFrom 15 = .ok (.iload_n 2, 1) := by decide +kernel
theorem dX3_copyFrom_16 : decode cX3_copyFrom 16 = .ok (.aload_n 1, 1) := by decide +kernel
theorem dX3_copyFrom_17 : decode cX3_copyFrom 17 = .ok (.iload_n 2, 1) := by decide +kernel
theorem dX3_copyFrom_18 : decode cX3_copyFrom 18 = .ok (.invokevirtual 13, 3) := by decide +kernel
theorem dX3_copyFrom_21 : decode cX3_copyFrom 21 = .ok (.iastore, 1) := by decide +kernel
theorem dX3_copyFrom_22 : decode cX3_copyFrom 22 = .ok (.iinc 2 1, 3) := by decide +kernel
theorem dX3_copyFrom_25 : decode cX3_copyFrom 25 = .ok (.goto (-23), 3) := by decide +kernel
theorem dX3_copyFrom_28 : decode cX3_copyFrom 28 = .ok (.return_, 1) := by decide +kernel
set_option maxRecDepth 20000 in
theorem ggX4_init_X3_init : GoodIn wsX4_init wsX3_init := goodIn_r _ [12, 13, 2, 3, 14, 15, 16] (by decide +kernel) (by decide +kernel)
set_option maxRecDepth 20000 in
theorem gX4_init_X3_init : GoodIn wsX4_init (wsX3_init) := ggX4_init_X3_init
theorem dX4_init_0 : decode cX4_init 0 = .ok (.aload_n 0, 1) := by decide +kernel
theorem dX4_init_1 : decode cX4_init 1 = .ok (.invokespecial 3, 3) := by decide +kernel
theorem dX4_init_4 : decode cX4_init 4 = .ok (.aload_n 0, 1) := by decide +kernel
theorem dX4_init_5 : decode cX4_init 5 = .ok (.new 9, 3) := by decide +kernel
theorem dX4_init_8 : decode cX4_init 8 = .ok (.dup, 1) := by decide +kernel
theorem dX4_init_9 : decode cX4_init 9 = .ok (.iconst 5, 1) := by decide +kernel
theorem dX4_init_10 : decode cX4_init 10 = .ok (.iconst 0, 1) := by decide +kernel
theorem dX4_init_11 : decode cX4_init 11 = .ok (.invokespecial 11, 3) := by decide +kernel
theorem dX4_init_14 : decode cX4_init 14 = .ok (.putfield 14, 3) := by decide +kernel
theorem dX4_init_17 : decode cX4_init 17 = .ok (.aload_n 0, 1) := by decide +kernel
theorem dX4_init_18 : decode cX4_init 18 = .ok (.new 9, 3) := by decide +kernel
theorem dX4_init_21 : decode cX4_init 21 = .ok (.dup, 1) := by decide +kernel
theorem dX4_init_22 : decode cX4_init 22 = .ok (.iconst 5, 1) := by decide +kernel
theorem dX4_init_23 : decode cX4_init 23 = .ok (.iconst 0, 1) := by decide +kernel
theorem dX4_init_24 : decode cX4_init 24 = .ok (.invokespecial 11, 3) := by decide +kernel
theorem dX4_init_27 : decode cX4_init 27 = .ok (.putfield 20, 3) := by decide +kernel
theorem dX4_init_30 : decode cX4_init 30 = .ok (.aload_n 0, 1) := by decide +kernel
theorem dX4_init_31 : decode cX4_init 31 = .ok (.new 9, 3) := by decide +kernel
theorem dX4_init_34 : decode cX4_init 34 = .ok (.dup, 1) := by decide +kernel
theorem dX4_init_35 : decode cX4_init 35 = .ok (.iconst 5, 1) := by decide +kernel
theorem dX4_init_36 : decode cX4_init 36 = .ok (.iconst (-1), 1) := by decide +kernel
theorem dX4_init_37 : decode cX4_init 37 = .ok (.invokespecial 11, 3) := by decide +kernel
theorem dX4_init_40 : decode cX4_init 40 = .ok (.putfield 23, 3) := by decide +kernel
theorem dX4_init_43 : decode cX4_init 43 = .ok (.return_, 1) := by decide +kernel
set_option maxRecDepth 20000 in
theorem ggX4_copyFrom_X3_copyFrom : GoodIn wsX4_copyFrom wsX3_copyFrom := goodIn_r _ [8, 9, 10, 11, 12, 7, 13, 17] (by decide +kernel) (by decide +kernel)
set_option maxRecDepth 20000 in
theorem gX4_copyFrom_X3_copyFrom : GoodIn wsX4_copyFrom (wsV RX4 26 RX3 yX3_copyFrom wsX3_copyFrom) := goodIn_app (goodIn_of _ (by decide +kernel)) ggX4_copyFrom_X3_copyFrom
theorem dX4_copyFrom_0 : decode cX4_copyFrom 0 = .ok (.aload_n 0, 1) := by decide +kernel
theorem dX4_copyFrom_1 : decode cX4_copyFrom 1 = .ok (.getfield 14, 3) := by decide +kernel
theorem dX4_copyFrom_4 : decode cX4_copyFrom 4 = .ok (.aload_n 1, 1) := by decide +kernel
theorem dX4_copyFrom_5 : decode cX4_copyFrom 5 = .ok (.getfield 14, 3) := by decide +kernel
theorem dX4_copyFrom_8 : decode cX4_copyFrom 8 = .ok (.invokevirtual 26, 3) := by decide +kernel
theorem dX4_copyFrom_11 : decode cX4_copyFrom 11 = .ok (.aload_n 0, 1) := by decide +kernel
theorem dX4_copyFrom_12 : decode cX4_copyFrom 12 = .ok (.getfield 20, 3) := by decide +kernel
theorem dX4_copyFrom_15 : decode cX4_copyFrom 15 = .ok (.aload_n 1, 1) := by decide +kernel
theorem dX4_copyFrom_16 : decode cX4_copyFrom 16 = .ok (.getfield 20, 3) := by decide +kernel
theorem dX4_copyFrom_19 : decode cX4_copyFrom 19 = .ok (.invokevirtual 26, 3) := by decide +kernel
theorem dX4_copyFrom_22 : decode cX4_copyFrom 22 = .ok (.aload_n 0, 1) := by decide +kernel
theorem dX4_copyFrom_23 : decode cX4_copyFrom 23 = .ok (.getfield 23, 3) := by decide +kernel
theorem dX4_copyFrom_26 : decode cX4_copyFrom 26 = .ok (.aload_n 1, 1) := by decide +kernel
theorem dX4_copyFrom_27 : decode cX4_copyFrom 27 = .ok (.getfield 23, 3) := by decide +kernel
theorem dX4_copyFrom_30 : decode cX4_copyFrom 30 = .ok (.invokevirtual 26, 3) := by decide +kernel
theorem dX4_copyFrom_33 : decode cX4_copyFrom 33 = .ok (.return_, 1) := by decide +kernel
set_option maxRecDepth 20000 in
theorem ggX5_init_X3_init : GoodIn wsX5_init wsX3_init := goodIn_r _ [14, 15, 2, 3, 16, 17, 18] (by decide +kernel) (by decide +kernel)
set_option maxRecDepth 20000 in
theorem gX5_init_X3_init : GoodIn wsX5_init (wsX3_init) := ggX5_init_X3_init
theorem dX5_init_0 : decode cX5_init 0 = .ok (.aload_n 0, 1) := by decide +kernel
theorem dX5_init_1 : decode cX5_init 1 = .ok (.invokespecial 3, 3) := by decide +kernel
theorem dX5_init_4 : decode cX5_init 4 = .ok (.aload_n 0, 1) := by decide +kernel
theorem dX5_init_5 : decode cX5_init 5 = .ok (.new 9, 3) := by decide +kernel
theorem dX5_init_8 : decode cX5_init 8 = .ok (.dup, 1) := by decide +kernel
theorem dX5_init_9 : decode cX5_init 9 = .ok (.bipush 16, 2) := by decide +kernel
theorem dX5_init_11 : decode cX5_init 11 = .ok (.iconst 0, 1) := by decide +kernel
theorem dX5_init_12 : decode cX5_init 12 = .ok (.invokespecial 11, 3) := by decide +kernel
theorem dX5_init_15 : decode cX5_init 15 = .ok (.putfield 14, 3) := by decide +kernel
theorem dX5_init_18 : decode cX5_init 18 = .ok (.aload_n 0, 1) := by decide +kernel
theorem dX5_init_19 : decode cX5_init 19 = .ok (.new 9, 3) := by decide +kernel
theorem dX5_init_22 : decode cX5_init 22 = .ok (.dup, 1) := by decide +kernel
theorem dX5_init_23 : decode cX5_init 23 = .ok (.bipush 16, 2) := by decide +kernel
theorem dX5_init_25 : decode cX5_init 25 = .ok (.iconst 0, 1) := by decide +kernel
theorem dX5_init_26 : decode cX5_init 26 = .ok (.invokespecial 11, 3) := by decide +kernel
theorem dX5_init_29 : decode cX5_init 29 = .ok (.putfield 20, 3) := by decide +kernel
theorem dX5_init_32 : decode cX5_init 32 = .ok (.aload_n 0, 1) := by decide +kernel
theorem dX5_init_33 : decode cX5_init 33 = .ok (.new 9, 3) := by decide +kernel
theorem dX5_init_36 : decode cX5_init 36 = .ok (.dup, 1) := by decide +kernel
theorem dX5_init_37 : decode cX5_init 37 = .ok (.bipush 16, 2) := by decide +kernel
theorem dX5_init_39 : decode cX5_init 39 = .ok (.iconst 0, 1) := by decide +kernel
theorem dX5_init_40 : decode cX5_init 40 = .ok (.invokespecial 11, 3) := by decide +kernel
theorem dX5_init_43 : decode cX5_init 43 = .ok (.putfield 23, 3) := by decide +kernel
theorem dX5_init_46 : decode cX5_init 46 = .ok (.aload_n 0, 1) := by decide +kernel
theorem dX5_init_47 : decode cX5_init 47 = .ok (.new 9, 3) := by decide +kernel
theorem dX5_init_50 : decode cX5_init 50 = .ok (.dup, 1) := by decide +kernel
theorem dX5_init_51 : decode cX5_init 51 = .ok (.bipush 16, 2) := by decide +kernel
theorem dX5_init_53 : decode cX5_init 53 = .ok (.iconst 0, 1) := by decide +kernel
theorem dX5_init_54 : decode cX5_init 54 = .ok (.invokespecial 11, 3) := by decide +kernel
theorem dX5_init_57 : decode cX5_init 57 = .ok (.putfield 26, 3) := by decide +kernel
theorem dX5_init_60 : decode cX5_init 60 = .ok (.aload_n 0, 1) := by decide +kernel
theorem dX5_init_61 : decode cX5_init 61 = .ok (.iconst 0, 1) := by decide +kernel
theorem dX5_init_62 : decode cX5_init 62 = .ok (.putfield 29, 3) := by decide +kernel
theorem dX5_init_65 : decode cX5_init 65 = .ok (.return_, 1) := by decide +kernel
theorem dX5_isFull_0 : decode cX5_isFull 0 = .ok (.aload_n 0, 1) := by decide +kernel
theorem dX5_isFull_1 : decode cX5_isFull 1 = .ok (.getfield 29, 3) := by decide +kernel
theorem dX5_isFull_4 : decode cX5_isFull 4 = .ok (.bipush 16, 2) := by decide +kernel
theorem dX5_isFull_6 : decode cX5_isFull 6 = .ok (.if_icmp .lt 7, 3) := by decide +kernel
theorem dX5_isFull_9 : decode cX5_isFull 9 = .ok (.iconst 1, 1) := by decide +kernel
theorem dX5_isFull_10 : decode cX5_isFull 10 = .ok (.goto 4, 3) := by decide +kernel
theorem dX5_isFull_13 : decode cX5_isFull 13 = .ok (.iconst 0, 1) := by decide +kernel
theorem dX5_isFull_14 : decode cX5_isFull 14 = .ok (.ireturn, 1) := by decide +kernel
set_option maxRecDepth 20000 in
theorem ggX5_place_X3_put : GoodIn wsX5_place wsX3_put := goodIn_r _ [10, 11, 17] (by decide +kernel) (by decide +kernel)
set_option maxRecDepth 20000 in
theorem gX5_place_X3_put : GoodIn wsX5_place (wsV RX5 33 RX3 yX3_put wsX3_put) := goodIn_app (goodIn_of _ (by decide +kernel)) ggX5_place_X3_put
theorem dX5_place_0 : decode cX5_place 0 = .ok (.aload_n 0, 1) := by decide +kernel
theorem dX5_place_1 : decode cX5_place 1 = .ok (.getfield 14, 3) := by decide +kernel
theorem dX5_place_4 : decode cX5_place 4 = .ok (.aload_n 0, 1) := by decide +kernel
theorem dX5_place_5 : decode cX5_place 5 = .ok (.getfield 29, 3) := by decide +kernel
theorem dX5_place_8 : decode cX5_place 8 = .ok (.iload_n 1, 1) := by decide +kernel
theorem dX5_place_9 : decode cX5_place 9 = .ok (.invokevirtual 33, 3) := by decide +kernel
theorem dX5_place_12 : decode cX5_place 12 = .ok (.aload_n 0, 1) := by decide +kernel
theorem dX5_place_13 : decode cX5_place 13 = .ok (.getfield 20, 3) := by decide +kernel
theorem dX5_place_16 : decode cX5_place 16 = .ok (.aload_n 0, 1) := by decide +kernel
theorem dX5_place_17 : decode cX5_place 17 = .ok (.getfield 29, 3) := by decide +kernel
theorem dX5_place_20 : decode cX5_place 20 = .ok (.iload_n 2, 1) := by decide +kernel
theorem dX5_place_21 : decode cX5_place 21 = .ok (.invokevirtual 33, 3) := by decide +kernel
theorem dX5_place_24 : decode cX5_place 24 = .ok (.aload_n 0, 1) := by decide +kernel
theorem dX5_place_25 : decode cX5_place 25 = .ok (.getfield 23, 3) := by decide +kernel
theorem dX5_place_28 : decode cX5_place 28 = .ok (.aload_n 0, 1) := by decide +kernel
theorem dX5_place_29 : decode cX5_place 29 = .ok (.getfield 29, 3) := by decide +kernel
theorem dX5_place_32 : decode cX5_place 32 = .ok (.iload_n 3, 1) := by decide +kernel
theorem dX5_place_33 : decode cX5_place 33 = .ok (.invokevirtual 33, 3) := by decide +kernel
theorem dX5_place_36 : decode cX5_place 36 = .ok (.aload_n 0, 1) := by decide +kernel
theorem dX5_place_37 : decode cX5_place 37 = .ok (.getfield 26, 3) := by decide +kernel
theorem dX5_place_40 : decode cX5_place 40 = .ok (.aload_n 0, 1) := by decide +kernel
theorem dX5_place_41 : decode cX5_place 41 = .ok (.getfield 29, 3) := by decide +kernel
theorem dX5_place_44 : decode cX5_place 44 = .ok (.iload 4, 2) := by decide +kernel
theorem dX5_place_46 : decode cX5_place 46 = .ok (.invokevirtual 33, 3) := by decide +kernel
theorem dX5_place_49 : decode cX5_place 49 = .ok (.aload_n 0, 1) := by decide +kernel
theorem dX5_place_50 : decode cX5_place 50 = .ok (.dup, 1) := by decide +kernel
theorem dX5_place_51 : decode cX5_place 51 = .ok (.getfield 29, 3) := by decide +kernel
theorem dX5_place_54 : decode cX5_place 54 = .ok (.iconst 1, 1) := by decide +kernel
theorem dX5_place_55 : decode cX5_place 55 = .ok (.iadd, 1) := by decide +kernel
theorem dX5_place_56 : decode cX5_place 56 = .ok (.putfield 29, 3) := by decide +kernel
theorem dX5_place_59 : decode cX5_place 59 = .ok (.return_, 1) := by decide +kernel
set_option maxRecDepth 20000 in
theorem ggX5_takeOut_X3_closeGap : GoodIn wsX5_takeOut wsX3_closeGap := goodIn_r _ [10, 11, 12, 13, 9, 14, 15, 16, 17, 18, 19, 25] (by decide +kernel) (by decide +kernel)
set_option maxRecDepth 20000 in
theorem gX5_takeOut_X3_closeGap : GoodIn wsX5_takeOut (wsV RX5 36 RX3 yX3_closeGap wsX3_closeGap) := goodIn_app (goodIn_of _ (by decide +kernel)) ggX5_takeOut_X3_closeGap
theorem dX5_takeOut_0 : decode cX5_takeOut 0 = .ok (.aload_n 0, 1) := by decide +kernel
theorem dX5_takeOut_1 : decode cX5_takeOut 1 = .ok (.getfield 14, 3) := by decide +kernel
theorem dX5_takeOut_4 : decode cX5_takeOut 4 = .ok (.iload_n 1, 1) := by decide +kernel
theorem dX5_takeOut_5 : decode cX5_takeOut 5 = .ok (.aload_n 0, 1) := by decide +kernel
theorem dX5_takeOut_6 : decode cX5_takeOut 6 = .ok (.getfield 29, 3) := by decide +kernel
theorem dX5_takeOut_9 : decode cX5_takeOut 9 = .ok (.invokevirtual 36, 3) := by decide +kernel
theorem dX5_takeOut_12 : decode cX5_takeOut 12 = .ok (.aload_n 0, 1) := by decide +kernel
theorem dX5_takeOut_13 : decode cX5_takeOut 13 = .ok (.getfield 20, 3) := by decide +kernel
theorem dX5_takeOut_16 : decode cX5_takeOut 16 = .ok (.iload_n 1, 1) := by decide +kernel
theorem dX5_takeOut_17 : decode cX5_takeOut 17 = .ok (.aload_n 0, 1) := by decide +kernel
theorem dX5_takeOut_18 : decode cX5_takeOut 18 = .ok (.getfield 29, 3) := by decide +kernel
theorem dX5_takeOut_21 : decode cX5_takeOut 21 = .ok (.invokevirtual 36, 3) := by decide +kernel
theorem dX5_takeOut_24 : decode cX5_takeOut 24 = .ok (.aload_n 0, 1) := by decide +kernel
theorem dX5_takeOut_25 : decode cX5_takeOut 25 = .ok (.getfield 23, 3) := by decide +kernel
theorem dX5_takeOut_28 : decode cX5_takeOut 28 = .ok (.iload_n 1, 1) := by decide +kernel
theorem dX5_takeOut_29 : decode cX5_takeOut 29 = .ok (.aload_n 0, 1) := by decide +kernel
theorem dX5_takeOut_30 : decode cX5_takeOut 30 = .ok (.getfield 29, 3) := by decide +kernel
theorem dX5_takeOut_33 : decode cX5_takeOut 33 = .ok (.invokevirtual 36, 3) := by decide +kernel
theorem dX5_takeOut_36 : decode cX5_takeOut 36 = .ok (.aload_n 0, 1) := by decide +kernel
theorem dX5_takeOut_37 : decode cX5_takeOut 37 = .ok (.getfield 26, 3) := by decide +kernel
theorem dX5_takeOut_40 : decode cX5_takeOut 40 = .ok (.iload_n 1, 1) := by decide +kernel
theorem dX5_takeOut_41 : decode cX5_takeOut 41 = .ok (.aload_n 0, 1) := by decide +kernel
theorem dX5_takeOut_42 : decode cX5_takeOut 42 = .ok (.getfield 29, 3) := by decide +kernel
theorem dX5_takeOut_45 : decode cX5_takeOut 45 = .ok (.invokevirtual 36, 3) := by decide +kernel
theorem dX5_takeOut_48 : decode cX5_takeOut 48 = .ok (.aload_n 0, 1) := by decide +kernel
theorem dX5_takeOut_49 : decode cX5_takeOut 49 = .ok (.dup, 1) := by decide +kernel
theorem dX5_takeOut_50 : decode cX5_takeOut 50 = .ok (.getfield 29, 3) := by decide +kernel
theorem dX5_takeOut_53 : decode cX5_takeOut 53 = .ok (.iconst 1, 1) := by decide +kernel
theorem dX5_takeOut_54 : decode cX5_takeOut 54 = .ok (.isub, 1) := by decide +kernel
theorem dX5_takeOut_55 : decode cX5_takeOut 55 = .ok (.putfield 29, 3) := by decide +kernel
theorem dX5_takeOut_58 : decode cX5_takeOut 58 = .ok (.return_, 1) := by decide +kernel
set_option maxRecDepth 20000 in
theorem ggX5_isMatching_X3_get : GoodIn wsX5_isMatching wsX3_get := goodIn_r _ [7, 8, 14] (by decide +kernel) (by decide +kernel)
set_option maxRecDepth 20000 in
theorem gX5_isMatching_X3_get : GoodIn wsX5_isMatching (wsV RX5 39 RX3 yX3_get wsX3_get) := goodIn_app (goodIn_of _ (by decide +kernel)) ggX5_isMatching_X3_get
theorem dX5_isMatching_0 : decode cX5_isMatching 0 = .ok (.aload_n 0, 1) := by decide +kernel
theorem dX5_isMatching_1 : decode cX5_isMatching 1 = .ok (.getfield 23, 3) := by decide +kernel
theorem dX5_isMatching_4 : decode cX5_isMatching 4 = .ok (.iload_n 1, 1) := by decide +kernel
theorem dX5_isMatching_5 : decode cX5_isMatching 5 = .ok (.invokevirtual 39, 3) := by decide +kernel
theorem dX5_isMatching_8 : decode cX5_isMatching 8 = .ok (.istore 5, 2) := by decide +kernel
theorem dX5_isMatching_10 : decode cX5_isMatching 10 = .ok (.iload_n 2, 1) := by decide +kernel
theorem dX5_isMatching_11 : decode cX5_isMatching 11 = .ok (.iconst (-1), 1) := by decide +kernel
theorem dX5_isMatching_12 : decode cX5_isMatching 12 = .ok (.if_icmp .eq 15, 3) := by decide +kernel
theorem dX5_isMatching_15 : decode cX5_isMatching 15 = .ok (.aload_n 0, 1) := by decide +kernel
theorem dX5_isMatching_16 : decode cX5_isMatching 16 = .ok (.getfield 20, 3) := by decide +kernel
theorem dX5_isMatching_19 : decode cX5_isMatching 19 = .ok (.iload_n 1, 1) := by decide +kernel
theorem dX5_isMatching_20 : decode cX5_isMatching 20 = .ok (.invokevirtual 39, 3) := by decide +kernel
theorem dX5_isMatching_23 : decode cX5_isMatching 23 = .ok (.iload_n 2, 1) := by decide +kernel
theorem dX5_isMatching_24 : decode cX5_isMatching 24 = .ok (.if_icmp .ne 20, 3) := by decide +kernel
theorem dX5_isMatching_27 : decode cX5_isMatching 27 = .ok (.iload 5, 2) := by decide +kernel
theorem dX5_isMatching_29 : decode cX5_isMatching 29 = .ok (.iload_n 3, 1) := by decide +kernel
theorem dX5_isMatching_30 : decode cX5_isMatching 30 = .ok (.if_icmp .lt 14, 3) := by decide +kernel
theorem dX5_isMatching_33 : decode cX5_isMatching 33 = .ok (.iload 5, 2) := by decide +kernel
theorem dX5_isMatching_35 : decode cX5_isMatching 35 = .ok (.iload 4, 2) := by decide +kernel
theorem dX5_isMatching_37 : decode cX5_isMatching 37 = .ok (.if_icmp .gt 7, 3) := by decide +kernel
theorem dX5_isMatching_40 : decode cX5_isMatching 40 = .ok (.iconst 1, 1) := by decide +kernel
theorem dX5_isMatching_41 : decode cX5_isMatching 41 = .ok (.goto 4, 3) := by decide +kernel
theorem dX5_isMatching_44 : decode cX5_isMatching 44 = .ok (.iconst 0, 1) := by decide +kernel
theorem dX5_isMatching_45 : decode cX5_isMatching 45 = .ok (.ireturn, 1) := by decide +kernel
set_option maxRecDepth 20000 in
theorem ggX5_howManyMatch_X5_isMatching : GoodIn wsX5_howManyMatch wsX5_isMatching := goodIn_r _ [6, 7, 8, 9, 10, 11, 12, 13, 14, 15, 16, 17, 18, 19, 20] (by decide +kernel) (by decide +kernel)
set_option maxRecDepth 20000 in
theorem gX5_howManyMatch_X5_isMatching : GoodIn wsX5_howManyMatch (wsV RX5 43 RX5 yX5_isMatching wsX5_isMatching) := goodIn_app (goodIn_of _ (by decide +kernel)) ggX5_howManyMatch_X5_isMatching
theorem dX5_howManyMatch_0 : decode cX5_howManyMatch 0 = .ok (.iconst 0, 1) := by decide +kernel
theorem dX5_howManyMatch_1 : decode cX5_howManyMatch 1 = .ok (.istore 4, 2) := by decide +kernel
theorem dX5_howManyMatch_3 : decode cX5_howManyMatch 3 = .ok (.iconst 0, 1) := by decide +kernel
theorem dX5_howManyMatch_4 : decode cX5_howManyMatch 4 = .ok (.istore 5, 2) := by decide +kernel
theorem dX5_howManyMatch_6 : decode cX5_howManyMatch 6 = .ok (.iload 5, 2) := by decide +kernel
theorem dX5_howManyMatch_8 : decode cX5_howManyMatch 8 = .ok (.aload_n 0, 1) := by decide +kernel
theorem dX5_howManyMatch_9 : decode cX5_howManyMatch 9 = .ok (.getfield 29, 3) := by decide +kernel
theorem dX5_howManyMatch_12 : decode cX5_howManyMatch 12 = .ok (.if_icmp .ge 24, 3) := by decide +kernel
theorem dX5_howManyMatch_15 : decode cX5_howManyMatch 15 = .ok (.aload_n 0, 1) := by decide +kernel
theorem dX5_howManyMatch_16 : decode cX5_howManyMatch 16 = .ok (.iload 5, 2) := by decide +kernel
theorem dX5_howManyMatch_18 : decode cX5_howManyMatch 18 = .ok (.iload_n 1, 1) := by decide +kernel
theorem dX5_howManyMatch_19 : decode cX5_howManyMatch 19 = .ok (.iload_n 2, 1) := by decide +kernel
theorem dX5_howManyMatch_20 : decode cX5_howManyMatch 20 = .ok (.iload_n 3, 1) := by decide +kernel
theorem dX5_howManyMatch_21 : decode cX5_howManyMatch 21 = .ok (.invokevirtual 43, 3) := by decide +kernel
theorem dX5_howManyMatch_24 : decode cX5_howManyMatch 24 = .ok (.ifCond .eq 6, 3) := by decide +kernel
theorem dX5_howManyMatch_27 : decode cX5_howManyMatch 27 = .ok (.iinc 4 1, 3) := by decide +kernel
theorem dX5_howManyMatch_30 : decode cX5_howManyMatch 30 = .ok (.iinc 5 1, 3) := by decide +kernel
theorem dX5_howManyMatch_33 : decode cX5_howManyMatch 33 = .ok (.goto (-27), 3) := by decide +kernel
theorem dX5_howManyMatch_36 : decode cX5_howManyMatch 36 = .ok (.iload 4, 2) := by decide +kernel
theorem dX5_howManyMatch_38 : decode cX5_howManyMatch 38 = .ok (.ireturn, 1) := by decide +kernel
set_option maxRecDepth 20000 in
theorem ggX5_copyFrom_X3_copyFrom : GoodIn wsX5_copyFrom wsX3_copyFrom := goodIn_r _ [10, 11, 12, 13, 14, 9, 15, 21] (by decide +kernel) (by decide +kernel)
set_option maxRecDepth 20000 in
theorem gX5_copyFrom_X3_copyFrom : GoodIn wsX5_copyFrom (wsV RX5 47 RX3 yX3_copyFrom wsX3_copyFrom) := goodIn_app (goodIn_of _ (by decide +kernel)) ggX5_copyFrom_X3_copyFrom
theorem dX5_copyFrom_0 : decode cX5_copyFrom 0 = .ok (.aload_n 0, 1) := by decide +kernel
theorem dX5_copyFrom_1 : decode cX5_copyFrom 1 = .ok (.getfield 14, 3) := by decide +kernel
theorem dX5_copyFrom_4 : decode cX5_copyFrom 4 = .ok (.aload_n 1, 1) := by decide +kernel
theorem dX5_copyFrom_5 : decode cX5_copyFrom 5 = .ok (.getfield 14, 3) := by decide +kernel
theorem dX5_copyFrom_8 : decode cX5_copyFrom 8 = .ok (.invokevirtual 47, 3) := by decide +kernel
theorem dX5_copyFrom_11 : decode cX5_copyFrom 11 = .ok (.aload_n 0, 1) := by decide +kernel
theorem dX5_copyFrom_12 : decode cX5_copyFrom 12 = .ok (.getfield 20, 3) := by decide +kernel
theorem dX5_copyFrom_15 : decode cX5_copyFrom 15 = .ok (.aload_n 1, 1) := by decide +kernel
theorem dX5_copyFrom_16 : decode cX5_copyFrom 16 = .ok (.getfield 20, 3) := by decide +kernel
theorem dX5_copyFrom_19 : decode cX5_copyFrom 19 = .ok (.invokevirtual 47, 3) := by decide +kernel
theorem dX5_copyFrom_22 : decode cX5_copyFrom 22 = .ok (.aload_n 0, 1) := by decide +kernel
theorem dX5_copyFrom_23 : decode cX5_copyFrom 23 = .ok (.getfield 23, 3) := by decide +kernel
theorem dX5_copyFrom_26 : decode cX5_copyFrom 26 = .ok (.aload_n 1, 1) := by decide +kernel
theorem dX5_copyFrom_27 : decode cX5_copyFrom 27 = .ok (.getfield 23, 3) := by decide +kernel
theorem dX5_copyFrom_30 : decode cX5_copyFrom 30 = .ok (.invokevirtual 47, 3) := by decide +kernel
theorem dX5_copyFrom_33 : decode cX5_copyFrom 33 = .ok (.aload_n 0, 1) := by decide +kernel
theorem dX5_copyFrom_34 : decode cX5_copyFrom 34 = .ok (.getfield 26, 3) := by decide +kernel
theorem dX5_copyFrom_37 : decode cX5_copyFrom 37 = .ok (.aload_n 1, 1) := by decide +kernel
theorem dX5_copyFrom_38 : decode cX5_copyFrom 38 = .ok (.getfield 26, 3) := by decide +kernel
theorem dX5_copyFrom_41 : decode cX5_copyFrom 41 = .ok (.invokevirtual 47, 3) := by decide +kernel
theorem dX5_copyFrom_44 : decode cX5_copyFrom 44 = .ok (.aload_n 0, 1) := by decide +kernel
theorem dX5_copyFrom_45 : decode cX5_copyFrom 45 = .ok (.aload_n 1, 1) := by decide +kernel
theorem dX5_copyFrom_46 : decode cX5_copyFrom 46 = .ok (.getfield 29, 3) := by decide +kernel
theorem dX5_copyFrom_49 : decode cX5_copyFrom 49 = .ok (.putfield 29, 3) := by decide +kernel
theorem dX5_copyFrom_52 : decode cX5_copyFrom 52 = .ok (.return_, 1) := by decide +kernel
set_option maxRecDepth 20000 in
theorem ggX6_init_X5_init : GoodIn wsX6_init wsX5_init := goodIn_r _ [26, 27, 2, 3, 28, 21, 22, 29, 30, 31, 32, 33, 34, 35, 36, 37, 38, 39, 87, 68, 69, 70, 71, 72] (by decide +kernel) (by decide +kernel)
set_option maxRecDepth 20000 in
theorem gX6_init_X5_init_n11 : GoodIn wsX6_init (wsX5_init) := ggX6_init_X5_init
set_option maxRecDepth 20000 in
theorem ggX6_init_X4_init : GoodIn wsX6_init wsX4_init := goodIn_r _ [41, 42, 2, 3, 43, 21, 22, 44, 45, 46, 47, 35, 36, 37, 38, 39, 87, 79, 80, 81] (by decide +kernel) (by decide +kernel)
set_option maxRecDepth 20000 in
theorem gX6_init_X4_init_n20 : GoodIn wsX6_init (wsX4_init) := ggX6_init_X4_init
set_option maxRecDepth 20000 in
theorem ggX6_init_X2_init : GoodIn wsX6_init wsX2_init := goodIn_r _ [49, 50, 2, 3, 51, 21, 22, 52, 53, 54, 35, 36, 37, 38, 39, 87, 82, 83] (by decide +kernel) (by decide +kernel)
set_option maxRecDepth 20000 in
theorem gX6_init_X2_init_n27 : GoodIn wsX6_init (wsX2_init) := ggX6_init_X2_init
set_option maxRecDepth 20000 in
theorem ggX6_init_X7_init : GoodIn wsX6_init wsX7_init := goodIn_r _ [56, 57, 2, 3, 58, 21, 22, 59, 60, 61, 62, 35, 36, 37, 38, 39, 87, 84, 85, 86] (by decide +kernel) (by decide +kernel)
set_option maxRecDepth 20000 in
theorem gX6_init_X7_init_n34 : GoodIn wsX6_init (wsX7_init) := ggX6_init_X7_init
set_option maxRecDepth 20000 in
theorem ggX6_init_X3_init : GoodIn wsX6_init wsX3_init := goodIn_r _ [36, 37, 2, 3, 38, 39, 87] (by decide +kernel) (by decide +kernel)
set_option maxRecDepth 20000 in
theorem gX6_init_X3_init : GoodIn wsX6_init (wsX3_init) := ggX6_init_X3_init
set_option maxRecDepth 20000 in
theorem ggX6_init_X3_put : GoodIn wsX6_init wsX3_put := goodIn_r _ [67, 39, 87] (by decide +kernel) (by decide +kernel)
set_option maxRecDepth 20000 in
theorem gX6_init_X3_put : GoodIn wsX6_init (wsV RX6 52 RX3 yX3_put wsX3_put) := goodIn_app (goodIn_of _ (by decide +kernel)) ggX6_init_X3_put
theorem dX6_init_0 : decode cX6_init 0 = .ok (.aload_n 0, 1) := by decide +kernel
theorem dX6_init_1 : decode cX6_init 1 = .ok (.invokespecial 3, 3) := by decide +kernel
theorem dX6_init_4 : decode cX6_init 4 = .ok (.aload_n 0, 1) := by decide +kernel
theorem dX6_init_5 : decode cX6_init 5 = .ok (.new 9, 3) := by decide +kernel
theorem dX6_init_8 : decode cX6_init 8 = .ok (.dup, 1) := by decide +kernel
theorem dX6_init_9 : decode cX6_init 9 = .ok (.invokespecial 11, 3) := by decide +kernel
theorem dX6_init_12 : decode cX6_init 12 = .ok (.putfield 12, 3) := by decide +kernel
theorem dX6_init_15 : decode cX6_init 15 = .ok (.aload_n 0, 1) := by decide +kernel
theorem dX6_init_16 : decode cX6_init 16 = .ok (.new 18, 3) := by decide +kernel
theorem dX6_init_19 : decode cX6_init 19 = .ok (.dup, 1) := by decide +kernel
theorem dX6_init_20 : decode cX6_init 20 = .ok (.invokespecial 20, 3) := by decide +kernel
theorem dX6_init_23 : decode cX6_init 23 = .ok (.putfield 21, 3) := by decide +kernel
theorem dX6_init_26 : decode cX6_init 26 = .ok (.aload_n 0, 1) := by decide +kernel
theorem dX6_init_27 : decode cX6_init 27 = .ok (.new 25, 3) := by decide +kernel
theorem dX6_init_30 : decode cX6_init 30 = .ok (.dup, 1) := by decide +kernel
theorem dX6_init_31 : decode cX6_init 31 = .ok (.invokespecial 27, 3) := by decide +kernel
theorem dX6_init_34 : decode cX6_init 34 = .ok (.putfield 28, 3) := by decide +kernel
theorem dX6_init_37 : decode cX6_init 37 = .ok (.aload_n 0, 1) := by decide +kernel
theorem dX6_init_38 : decode cX6_init 38 = .ok (.new 32, 3) := by decide +kernel
theorem dX6_init_41 : decode cX6_init 41 = .ok (.dup, 1) := by decide +kernel
theorem dX6_init_42 : decode cX6_init 42 = .ok (.invokespecial 34, 3) := by decide +kernel
theorem dX6_init_45 : decode cX6_init 45 = .ok (.putfield 35, 3) := by decide +kernel
theorem dX6_init_48 : decode cX6_init 48 = .ok (.aload_n 0, 1) := by decide +kernel
theorem dX6_init_49 : decode cX6_init 49 = .ok (.new 39, 3) := by decide +kernel
theorem dX6_init_52 : decode cX6_init 52 = .ok (.dup, 1) := by decide +kernel
theorem dX6_init_53 : decode cX6_init 53 = .ok (.iconst 3, 1) := by decide +kernel
theorem dX6_init_54 : decode cX6_init 54 = .ok (.iconst 0, 1) := by decide +kernel
theorem dX6_init_55 : decode cX6_init 55 = .ok (.invokespecial 41, 3) := by decide +kernel
theorem dX6_init_58 : decode cX6_init 58 = .ok (.putfield 44, 3) := by decide +kernel
theorem dX6_init_61 : decode cX6_init 61 = .ok (.aload_n 0, 1) := by decide +kernel
theorem dX6_init_62 : decode cX6_init 62 = .ok (.bipush 15, 2) := by decide +kernel
theorem dX6_init_64 : decode cX6_init 64 = .ok (.putfield 48, 3) := by decide +kernel
theorem dX6_init_67 : decode cX6_init 67 = .ok (.aload_n 0, 1) := by decide +kernel
theorem dX6_init_68 : decode cX6_init 68 = .ok (.getfield 44, 3) := by decide +kernel
theorem dX6_init_71 : decode cX6_init 71 = .ok (.iconst 0, 1) := by decide +kernel
theorem dX6_init_72 : decode cX6_init 72 = .ok (.iconst 1, 1) := by decide +kernel
theorem dX6_init_73 : decode cX6_init 73 = .ok (.invokevirtual 52, 3) := by decide +kernel
theorem dX6_init_76 : decode cX6_init 76 = .ok (.aload_n 0, 1) := by decide +kernel
theorem dX6_init_77 : decode cX6_init 77 = .ok (.getfield 44, 3) := by decide +kernel
theorem dX6_init_80 : decode cX6_init 80 = .ok (.iconst 1, 1) := by decide +kernel
theorem dX6_init_81 : decode cX6_init 81 = .ok (.iconst 1, 1) := by decide +kernel
theorem dX6_init_82 : decode cX6_init 82 = .ok (.invokevirtual 52, 3) := by decide +kernel
theorem dX6_init_85 : decode cX6_init 85 = .ok (.return_, 1) := by decide +kernel
set_option maxRecDepth 20000 in
theorem ggX6_copyFrom_X5_copyFrom : GoodIn wsX6_copyFrom wsX5_copyFrom := goodIn_r _ [11, 12, 13, 14, 15, 16, 17, 18, 19, 20, 21, 22, 23, 24, 25, 26, 60, 61, 62, 63, 64, 65] (by decide +kernel) (by decide +kernel)
set_option maxRecDepth 20000 in
theorem gX6_copyFrom_X5_copyFrom : GoodIn wsX6_copyFrom (wsV RX6 55 RX5 yX5_copyFrom wsX5_copyFrom) := goodIn_app (goodIn_of _ (by decide +kernel)) ggX6_copyFrom_X5_copyFrom
set_option maxRecDepth 20000 in
theorem ggX6_copyFrom_X4_copyFrom : GoodIn wsX6_copyFrom wsX4_copyFrom := goodIn_r _ [31, 32, 33, 34, 35, 18, 19, 20, 21, 22, 23, 24, 25, 26, 66, 67, 68, 65] (by decide +kernel) (by decide +kernel)
set_option maxRecDepth 20000 in
theorem gX6_copyFrom_X4_copyFrom : GoodIn wsX6_copyFrom (wsV RX6 59 RX4 yX4_copyFrom wsX4_copyFrom) := goodIn_app (goodIn_of _ (by decide +kernel)) ggX6_copyFrom_X4_copyFrom
set_option maxRecDepth 20000 in
theorem ggX6_copyFrom_X2_copyFrom : GoodIn wsX6_copyFrom wsX2_copyFrom := goodIn_r _ [40, 41, 42, 43, 18, 19, 20, 21, 22, 23, 24, 25, 26, 69, 70, 65] (by decide +kernel) (by decide +kernel)
set_option maxRecDepth 20000 in
theorem gX6_copyFrom_X2_copyFrom : GoodIn wsX6_copyFrom (wsV RX6 62 RX2 yX2_copyFrom wsX2_copyFrom) := goodIn_app (goodIn_of _ (by decide +kernel)) ggX6_copyFrom_X2_copyFrom
set_option maxRecDepth 20000 in
theorem ggX6_copyFrom_X7_copyFrom : GoodIn wsX6_copyFrom wsX7_copyFrom := goodIn_r _ [48, 49, 50, 51, 52, 18, 19, 20, 21, 22, 23, 24, 25, 26, 71, 72, 73, 65] (by decide +kernel) (by decide +kernel)
set_option maxRecDepth 20000 in
theorem gX6_copyFrom_X7_copyFrom : GoodIn wsX6_copyFrom (wsV RX6 65 RX7 yX7_copyFrom wsX7_copyFrom) := goodIn_app (goodIn_of _ (by decide +kernel)) ggX6_copyFrom_X7_copyFrom
set_option maxRecDepth 20000 in
theorem ggX6_copyFrom_X3_copyFrom : GoodIn wsX6_copyFrom wsX3_copyFrom := goodIn_r _ [21, 22, 23, 24, 25, 20, 26, 65] (by decide +kernel) (by decide +kernel)
set_option maxRecDepth 20000 in
theorem gX6_copyFrom_X3_copyFrom : GoodIn wsX6_copyFrom (wsV RX6 68 RX3 yX3_copyFrom wsX3_copyFrom) := goodIn_app (goodIn_of _ (by decide +kernel)) ggX6_copyFrom_X3_copyFrom
theorem dX6_copyFrom_0 : decode cX6_copyFrom 0 = .ok (.aload_n 0, 1) := by decide +kernel
theorem dX6_copyFrom_1 : decode cX6_copyFrom 1 = .ok (.getfield 12, 3) := by decide +kernel
theorem dX6_copyFrom_4 : decode cX6_copyFrom 4 = .ok (.aload_n 1, 1) := by decide +kernel
theorem dX6_copyFrom_5 : decode cX6_copyFrom 5 = .ok (.getfield 12, 3) := by decide +kernel
theorem dX6_copyFrom_8 : decode cX6_copyFrom 8 = .ok (.invokevirtual 55, 3) := by decide +kernel
theorem dX6_copyFrom_11 : decode cX6_copyFrom 11 = .ok (.aload_n 0, 1) := by decide +kernel
theorem dX6_copyFrom_12 : decode cX6_copyFrom 12 = .ok (.getfield 21, 3) := by decide +kernel
theorem dX6_copyFrom_15 : decode cX6_copyFrom 15 = .ok (.aload_n 1, 1) := by decide +kernel
theorem dX6_copyFrom_16 : decode cX6_copyFrom 16 = .ok (.getfield 21, 3) := by decide +kernel
theorem dX6_copyFrom_19 : decode cX6_copyFrom 19 = .ok (.invokevirtual 59, 3) := by decide +kernel
theorem dX6_copyFrom_22 : decode cX6_copyFrom 22 = .ok (.aload_n 0, 1) := by decide +kernel
theorem dX6_copyFrom_23 : decode cX6_copyFrom 23 = .ok (.getfield 28, 3) := by decide +kernel
theorem dX6_copyFrom_26 : decode cX6_copyFrom 26 = .ok (.aload_n 1, 1) := by decide +kernel
theorem dX6_copyFrom_27 : decode cX6_copyFrom 27 = .ok (.getfield 28, 3) := by decide +kernel
theorem dX6_copyFrom_30 : decode cX6_copyFrom 30 = .ok (.invokevirtual 62, 3) := by decide +kernel
theorem dX6_copyFrom_33 : decode cX6_copyFrom 33 = .ok (.aload_n 0, 1) := by decide +kernel
theorem dX6_copyFrom_34 : decode cX6_copyFrom 34 = .ok (.getfield 35, 3) := by decide +kernel
theorem dX6_copyFrom_37 : decode cX6_copyFrom 37 = .ok (.aload_n 1, 1) := by decide +kernel
theorem dX6_copyFrom_38 : decode cX6_copyFrom 38 = .ok (.getfield 35, 3) := by decide +kernel
theorem dX6_copyFrom_41 : decode cX6_copyFrom 41 = .ok (.invokevirtual 65, 3) := by decide +kernel
theorem dX6_copyFrom_44 : decode cX6_copyFrom 44 = .ok (.aload_n 0, 1) := by decide +kernel
theorem dX6_copyFrom_45 : decode cX6_copyFrom 45 = .ok (.getfield 44, 3) := by decide +kernel
theorem dX6_copyFrom_48 : decode cX6_copyFrom 48 = .ok (.aload_n 1, 1) := by decide +kernel
theorem dX6_copyFrom_49 : decode cX6_copyFrom 49 = .ok (.getfield 44, 3) := by decide +kernel
theorem dX6_copyFrom_52 : decode cX6_copyFrom 52 = .ok (.invokevirtual 68, 3) := by decide +kernel
theorem dX6_copyFrom_55 : decode cX6_copyFrom 55 = .ok (.aload_n 0, 1) := by decide +kernel
theorem dX6_copyFrom_56 : decode cX6_copyFrom 56 = .ok (.aload_n 1, 1) := by decide +kernel
theorem dX6_copyFrom_57 : decode cX6_copyFrom 57 = .ok (.getfield 48, 3) := by decide +kernel
theorem dX6_copyFrom_60 : decode cX6_copyFrom 60 = .ok (.putfield 48, 3) := by decide +kernel
theorem dX6_copyFrom_63 : decode cX6_copyFrom 63 = .ok (.return_, 1) := by decide +kernel
set_option maxRecDepth 20000 in
theorem ggX6_veilMask_X3_get : GoodIn wsX6_veilMask wsX3_get := goodIn_r _ [15, 16, 31] (by decide +kernel) (by decide +kernel)
set_option maxRecDepth 20000 in
theorem gX6_veilMask_X3_get : GoodIn wsX6_veilMask (wsV RX6 74 RX3 yX3_get wsX3_get) := goodIn_app (goodIn_of _ (by decide +kernel)) ggX6_veilMask_X3_get
theorem dX6_veilMask_0 : decode cX6_veilMask 0 = .ok (.aload_n 0, 1) := by decide +kernel
theorem dX6_veilMask_1 : decode cX6_veilMask 1 = .ok (.getfield 12, 3) := by decide +kernel
theorem dX6_veilMask_4 : decode cX6_veilMask 4 = .ok (.getfield 71, 3) := by decide +kernel
theorem dX6_veilMask_7 : decode cX6_veilMask 7 = .ok (.iload_n 2, 1) := by decide +kernel
theorem dX6_veilMask_8 : decode cX6_veilMask 8 = .ok (.invokevirtual 74, 3) := by decide +kernel
theorem dX6_veilMask_11 : decode cX6_veilMask 11 = .ok (.istore_n 3, 1) := by decide +kernel
theorem dX6_veilMask_12 : decode cX6_veilMask 12 = .ok (.iload_n 3, 1) := by decide +kernel
theorem dX6_veilMask_13 : decode cX6_veilMask 13 = .ok (.iload_n 1, 1) := by decide +kernel
theorem dX6_veilMask_14 : decode cX6_veilMask 14 = .ok (.if_icmp .ne 5, 3) := by decide +kernel
theorem dX6_veilMask_17 : decode cX6_veilMask 17 = .ok (.iconst 0, 1) := by decide +kernel
theorem dX6_veilMask_18 : decode cX6_veilMask 18 = .ok (.ireturn, 1) := by decide +kernel
theorem dX6_veilMask_19 : decode cX6_veilMask 19 = .ok (.aload_n 0, 1) := by decide +kernel
theorem dX6_veilMask_20 : decode cX6_veilMask 20 = .ok (.getfield 12, 3) := by decide +kernel
theorem dX6_veilMask_23 : decode cX6_veilMask 23 = .ok (.getfield 78, 3) := by decide +kernel
theorem dX6_veilMask_26 : decode cX6_veilMask 26 = .ok (.iload_n 2, 1) := by decide +kernel
theorem dX6_veilMask_27 : decode cX6_veilMask 27 = .ok (.invokevirtual 74, 3) := by decide +kernel
theorem dX6_veilMask_30 : decode cX6_veilMask 30 = .ok (.istore 4, 2) := by decide +kernel
theorem dX6_veilMask_32 : decode cX6_veilMask 32 = .ok (.iconst 0, 1) := by decide +kernel
theorem dX6_veilMask_33 : decode cX6_veilMask 33 = .ok (.istore 5, 2) := by decide +kernel
theorem dX6_veilMask_35 : decode cX6_veilMask 35 = .ok (.iload 4, 2) := by decide +kernel
theorem dX6_veilMask_37 : decode cX6_veilMask 37 = .ok (.aload_n 0, 1) := by decide +kernel
theorem dX6_veilMask_38 : decode cX6_veilMask 38 = .ok (.getfield 21, 3) := by decide +kernel
theorem dX6_veilMask_41 : decode cX6_veilMask 41 = .ok (.getfield 81, 3) := by decide +kernel
theorem dX6_veilMask_44 : decode cX6_veilMask 44 = .ok (.iload_n 1, 1) := by decide +kernel
theorem dX6_veilMask_45 : decode cX6_veilMask 45 = .ok (.invokevirtual 74, 3) := by decide +kernel
theorem dX6_veilMask_48 : decode cX6_veilMask 48 = .ok (.if_icmp .le 9, 3) := by decide +kernel
theorem dX6_veilMask_51 : decode cX6_veilMask 51 = .ok (.iload 5, 2) := by decide +kernel
theorem dX6_veilMask_53 : decode cX6_veilMask 53 = .ok (.iconst 1, 1) := by decide +kernel
theorem dX6_veilMask_54 : decode cX6_veilMask 54 = .ok (.ior, 1) := by decide +kernel
theorem dX6_veilMask_55 : decode cX6_veilMask 55 = .ok (.istore 5, 2) := by decide +kernel
theorem dX6_veilMask_57 : decode cX6_veilMask 57 = .ok (.iload 4, 2) := by decide +kernel
theorem dX6_veilMask_59 : decode cX6_veilMask 59 = .ok (.iconst 2, 1) := by decide +kernel
theorem dX6_veilMask_60 : decode cX6_veilMask 60 = .ok (.if_icmp .lt 34, 3) := by decide +kernel
theorem dX6_veilMask_63 : decode cX6_veilMask 63 = .ok (.aload_n 0, 1) := by decide +kernel
theorem dX6_veilMask_64 : decode cX6_veilMask 64 = .ok (.getfield 12, 3) := by decide +kernel
theorem dX6_veilMask_67 : decode cX6_veilMask 67 = .ok (.getfield 84, 3) := by decide +kernel
theorem dX6_veilMask_70 : decode cX6_veilMask 70 = .ok (.iload_n 2, 1) := by decide +kernel
theorem dX6_veilMask_71 : decode cX6_veilMask 71 = .ok (.invokevirtual 74, 3) := by decide +kernel
theorem dX6_veilMask_74 : decode cX6_veilMask 74 = .ok (.aload_n 0, 1) := by decide +kernel
theorem dX6_veilMask_75 : decode cX6_veilMask 75 = .ok (.getfield 21, 3) := by decide +kernel
theorem dX6_veilMask_78 : decode cX6_veilMask 78 = .ok (.getfield 87, 3) := by decide +kernel
theorem dX6_veilMask_81 : decode cX6_veilMask 81 = .ok (.iload_n 1, 1) := by decide +kernel
theorem dX6_veilMask_82 : decode cX6_veilMask 82 = .ok (.invokevirtual 74, 3) := by decide +kernel
theorem dX6_veilMask_85 : decode cX6_veilMask 85 = .ok (.if_icmp .eq 9, 3) := by decide +kernel
theorem dX6_veilMask_88 : decode cX6_veilMask 88 = .ok (.iload 5, 2) := by decide +kernel
theorem dX6_veilMask_90 : decode cX6_veilMask 90 = .ok (.iconst 2, 1) := by decide +kernel
theorem dX6_veilMask_91 : decode cX6_veilMask 91 = .ok (.ior, 1) := by decide +kernel
theorem dX6_veilMask_92 : decode cX6_veilMask 92 = .ok (.istore 5, 2) := by decide +kernel
theorem dX6_veilMask_94 : decode cX6_veilMask 94 = .ok (.aload_n 0, 1) := by decide +kernel
theorem dX6_veilMask_95 : decode cX6_veilMask 95 = .ok (.getfield 12, 3) := by decide +kernel
theorem dX6_veilMask_98 : decode cX6_veilMask 98 = .ok (.getfield 90, 3) := by decide +kernel
theorem dX6_veilMask_101 : decode cX6_veilMask 101 = .ok (.iload_n 2, 1) := by decide +kernel
theorem dX6_veilMask_102 : decode cX6_veilMask 102 = .ok (.invokevirtual 74, 3) := by decide +kernel
theorem dX6_veilMask_105 : decode cX6_veilMask 105 = .ok (.bipush 90, 2) := by decide +kernel
theorem dX6_veilMask_107 : decode cX6_veilMask 107 = .ok (.if_icmp .lt 9, 3) := by decide +kernel
theorem dX6_veilMask_110 : decode cX6_veilMask 110 = .ok (.iload 5, 2) := by decide +kernel
theorem dX6_veilMask_112 : decode cX6_veilMask 112 = .ok (.iconst 4, 1) := by decide +kernel
theorem dX6_veilMask_113 : decode cX6_veilMask 113 = .ok (.ior, 1) := by decide +kernel
theorem dX6_veilMask_114 : decode cX6_veilMask 114 = .ok (.istore 5, 2) := by decide +kernel
theorem dX6_veilMask_116 : decode cX6_veilMask 116 = .ok (.aload_n 0, 1) := by decide +kernel
theorem dX6_veilMask_117 : decode cX6_veilMask 117 = .ok (.getfield 21, 3) := by decide +kernel
theorem dX6_veilMask_120 : decode cX6_veilMask 120 = .ok (.getfield 93, 3) := by decide +kernel
theorem dX6_veilMask_123 : decode cX6_veilMask 123 = .ok (.iload_n 3, 1) := by decide +kernel
theorem dX6_veilMask_124 : decode cX6_veilMask 124 = .ok (.invokevirtual 74, 3) := by decide +kernel
theorem dX6_veilMask_127 : decode cX6_veilMask 127 = .ok (.istore 6, 2) := by decide +kernel
theorem dX6_veilMask_129 : decode cX6_veilMask 129 = .ok (.iload 6, 2) := by decide +kernel
theorem dX6_veilMask_131 : decode cX6_veilMask 131 = .ok (.iconst (-1), 1) := by decide +kernel
theorem dX6_veilMask_132 : decode cX6_veilMask 132 = .ok (.if_icmp .ne 7, 3) := by decide +kernel
theorem dX6_veilMask_135 : decode cX6_veilMask 135 = .ok (.iconst (-1), 1) := by decide +kernel
theorem dX6_veilMask_136 : decode cX6_veilMask 136 = .ok (.goto 15, 3) := by decide +kernel
theorem dX6_veilMask_139 : decode cX6_veilMask 139 = .ok (.aload_n 0, 1) := by decide +kernel
theorem dX6_veilMask_140 : decode cX6_veilMask 140 = .ok (.getfield 21, 3) := by decide +kernel
theorem dX6_veilMask_143 : decode cX6_veilMask 143 = .ok (.getfield 93, 3) := by decide +kernel
theorem dX6_veilMask_146 : decode cX6_veilMask 146 = .ok (.iload 6, 2) := by decide +kernel
theorem dX6_veilMask_148 : decode cX6_veilMask 148 = .ok (.invokevirtual 74, 3) := by decide +kernel
theorem dX6_veilMask_151 : decode cX6_veilMask 151 = .ok (.istore 7, 2) := by decide +kernel
theorem dX6_veilMask_153 : decode cX6_veilMask 153 = .ok (.iload 4, 2) := by decide +kernel
theorem dX6_veilMask_155 : decode cX6_veilMask 155 = .ok (.iconst 3, 1) := by decide +kernel
theorem dX6_veilMask_156 : decode cX6_veilMask 156 = .ok (.if_icmp .ne 22, 3) := by decide +kernel
theorem dX6_veilMask_159 : decode cX6_veilMask 159 = .ok (.iload_n 1, 1) := by decide +kernel
theorem dX6_veilMask_160 : decode cX6_veilMask 160 = .ok (.iload 6, 2) := by decide +kernel
theorem dX6_veilMask_162 : decode cX6_veilMask 162 = .ok (.if_icmp .eq 9, 3) := by decide +kernel
theorem dX6_veilMask_165 : decode cX6_veilMask 165 = .ok (.iload_n 1, 1) := by decide +kernel
theorem dX6_veilMask_166 : decode cX6_veilMask 166 = .ok (.iload 7, 2) := by decide +kernel
theorem dX6_veilMask_168 : decode cX6_veilMask 168 = .ok (.if_icmp .ne 10, 3) := by decide +kernel
theorem dX6_veilMask_171 : decode cX6_veilMask 171 = .ok (.iload 5, 2) := by decide +kernel
theorem dX6_veilMask_173 : decode cX6_veilMask 173 = .ok (.bipush 8, 2) := by decide +kernel
theorem dX6_veilMask_175 : decode cX6_veilMask 175 = .ok (.ior, 1) := by decide +kernel
theorem dX6_veilMask_176 : decode cX6_veilMask 176 = .ok (.istore 5, 2) := by decide +kernel
theorem dX6_veilMask_178 : decode cX6_veilMask 178 = .ok (.iload 5, 2) := by decide +kernel
theorem dX6_veilMask_180 : decode cX6_veilMask 180 = .ok (.aload_n 0, 1) := by decide +kernel
theorem dX6_veilMask_181 : decode cX6_veilMask 181 = .ok (.getfield 48, 3) := by decide +kernel
theorem dX6_veilMask_184 : decode cX6_veilMask 184 = .ok (.iand, 1) := by decide +kernel
theorem dX6_veilMask_185 : decode cX6_veilMask 185 = .ok (.ireturn, 1) := by decide +kernel
set_option maxRecDepth 20000 in
theorem ggX6_seenRows_X5_isMatching : GoodIn wsX6_seenRows wsX5_isMatching := goodIn_r _ [7, 8, 9, 10, 11, 12, 13, 14, 15, 37, 38, 39, 40, 41, 42] (by decide +kernel) (by decide +kernel)
set_option maxRecDepth 20000 in
theorem gX6_seenRows_X5_isMatching : GoodIn wsX6_seenRows (wsV RX6 99 RX5 yX5_isMatching wsX5_isMatching) := goodIn_app (goodIn_of _ (by decide +kernel)) ggX6_seenRows_X5_isMatching
set_option maxRecDepth 20000 in
theorem ggX6_seenRows_X6_veilMask : GoodIn wsX6_seenRows wsX6_veilMask := goodIn_r _ [20, 1, 21, 22, 23, 24, 25, 26, 27, 28, 29, 30, 11, 12, 13, 14, 15, 31, 32, 33, 34, 35, 36, 37, 38, 39, 40, 41, 43, 44, 45, 42] (by decide +kernel) (by decide +kernel)
set_option maxRecDepth 20000 in
theorem gX6_seenRows_X6_veilMask : GoodIn wsX6_seenRows (wsV RX6 103 RX6 yX6_veilMask wsX6_veilMask) := goodIn_app (goodIn_of _ (by decide +kernel)) ggX6_seenRows_X6_veilMask
theorem dX6_seenRows_0 : decode cX6_seenRows 0 = .ok (.iconst 0, 1) := by decide +kernel
theorem dX6_seenRows_1 : decode cX6_seenRows 1 = .ok (.istore 5, 2) := by decide +kernel
theorem dX6_seenRows_3 : decode cX6_seenRows 3 = .ok (.iconst 0, 1) := by decide +kernel
theorem dX6_seenRows_4 : decode cX6_seenRows 4 = .ok (.istore 6, 2) := by decide +kernel
theorem dX6_seenRows_6 : decode cX6_seenRows 6 = .ok (.iload 6, 2) := by decide +kernel
theorem dX6_seenRows_8 : decode cX6_seenRows 8 = .ok (.aload_n 0, 1) := by decide +kernel
theorem dX6_seenRows_9 : decode cX6_seenRows 9 = .ok (.getfield 12, 3) := by decide +kernel
theorem dX6_seenRows_12 : decode cX6_seenRows 12 = .ok (.getfield 96, 3) := by decide +kernel
theorem dX6_seenRows_15 : decode cX6_seenRows 15 = .ok (.if_icmp .ge 44, 3) := by decide +kernel
theorem dX6_seenRows_18 : decode cX6_seenRows 18 = .ok (.aload_n 0, 1) := by decide +kernel
theorem dX6_seenRows_19 : decode cX6_seenRows 19 = .ok (.getfield 12, 3) := by decide +kernel
theorem dX6_seenRows_22 : decode cX6_seenRows 22 = .ok (.iload 6, 2) := by decide +kernel
theorem dX6_seenRows_24 : decode cX6_seenRows 24 = .ok (.iload_n 2, 1) := by decide +kernel
theorem dX6_seenRows_25 : decode cX6_seenRows 25 = .ok (.iload_n 3, 1) := by decide +kernel
theorem dX6_seenRows_26 : decode cX6_seenRows 26 = .ok (.iload 4, 2) := by decide +kernel
theorem dX6_seenRows_28 : decode cX6_seenRows 28 = .ok (.invokevirtual 99, 3) := by decide +kernel
theorem dX6_seenRows_31 : decode cX6_seenRows 31 = .ok (.ifCond .eq 22, 3) := by decide +kernel
theorem dX6_seenRows_34 : decode cX6_seenRows 34 = .ok (.aload_n 0, 1) := by decide +kernel
theorem dX6_seenRows_35 : decode cX6_seenRows 35 = .ok (.iload_n 1, 1) := by decide +kernel
theorem dX6_seenRows_36 : decode cX6_seenRows 36 = .ok (.iload 6, 2) := by decide +kernel
theorem dX6_seenRows_38 : decode cX6_seenRows 38 = .ok (.invokevirtual 103, 3) := by decide +kernel
theorem dX6_seenRows_41 : decode cX6_seenRows 41 = .ok (.ifCond .ne 12, 3) := by decide +kernel
theorem dX6_seenRows_44 : decode cX6_seenRows 44 = .ok (.iload 5, 2) := by decide +kernel
theorem dX6_seenRows_46 : decode cX6_seenRows 46 = .ok (.iconst 1, 1) := by decide +kernel
theorem dX6_seenRows_47 : decode cX6_seenRows 47 = .ok (.iload 6, 2) := by decide +kernel
theorem dX6_seenRows_49 : decode cX6_seenRows 49 = .ok (.ishl, 1) := by decide +kernel
theorem dX6_seenRows_50 : decode cX6_seenRows 50 = .ok (.ior, 1) := by decide +kernel
theorem dX6_seenRows_51 : decode cX6_seenRows 51 = .ok (.istore 5, 2) := by decide +kernel
theorem dX6_seenRows_53 : decode cX6_seenRows 53 = .ok (.iinc 6 1, 3) := by decide +kernel
theorem dX6_seenRows_56 : decode cX6_seenRows 56 = .ok (.goto (-50), 3) := by decide +kernel
theorem dX6_seenRows_59 : decode cX6_seenRows 59 = .ok (.iload 5, 2) := by decide +kernel
theorem dX6_seenRows_61 : decode cX6_seenRows 61 = .ok (.ireturn, 1) := by decide +kernel
set_option maxRecDepth 20000 in
theorem ggX6_allSeen_X6_seenRows : GoodIn wsX6_allSeen wsX6_seenRows := goodIn_r _ [5, 6, 7, 8, 9, 10, 11, 12, 13, 14, 15, 16, 17, 18, 19, 20, 21, 22, 23, 4, 24, 25, 26, 27, 28, 29, 30, 31, 32, 33, 34, 35, 36, 37, 38, 39, 40, 41, 42, 43, 44, 45, 46, 47, 48, 49] (by decide +kernel) (by decide +kernel)
set_option maxRecDepth 20000 in
theorem gX6_allSeen_X6_seenRows : GoodIn wsX6_allSeen (wsV RX6 107 RX6 yX6_seenRows wsX6_seenRows) := goodIn_app (goodIn_of _ (by decide +kernel)) ggX6_allSeen_X6_seenRows
theorem dX6_allSeen_0 : decode cX6_allSeen 0 = .ok (.aload_n 0, 1) := by decide +kernel
theorem dX6_allSeen_1 : decode cX6_allSeen 1 = .ok (.iload_n 1, 1) := by decide +kernel
theorem dX6_allSeen_2 : decode cX6_allSeen 2 = .ok (.iconst (-1), 1) := by decide +kernel
theorem dX6_allSeen_3 : decode cX6_allSeen 3 = .ok (.iconst 0, 1) := by decide +kernel
theorem dX6_allSeen_4 : decode cX6_allSeen 4 = .ok (.bipush 99, 2) := by decide +kernel
theorem dX6_allSeen_6 : decode cX6_allSeen 6 = .ok (.invokevirtual 107, 3) := by decide +kernel
theorem dX6_allSeen_9 : decode cX6_allSeen 9 = .ok (.ireturn, 1) := by decide +kernel
set_option maxRecDepth 20000 in
theorem ggX6_countAnswer_X6_isTooSmall : GoodIn wsX6_countAnswer wsX6_isTooSmall := goodIn_r _ [7, 1, 8, 9, 10, 11, 12, 13, 14, 15, 16, 17, 18, 19, 20, 37, 38, 39, 40, 41, 42, 43] (by decide +kernel) (by decide +kernel)
set_option maxRecDepth 20000 in
theorem gX6_countAnswer_X6_isTooSmall : GoodIn wsX6_countAnswer (wsV RX6 111 RX6 yX6_isTooSmall wsX6_isTooSmall) := goodIn_app (goodIn_of _ (by decide +kernel)) ggX6_countAnswer_X6_isTooSmall
set_option maxRecDepth 20000 in
theorem ggX6_countAnswer_X3_get : GoodIn wsX6_countAnswer wsX3_get := goodIn_r _ [19, 20, 43] (by decide +kernel) (by decide +kernel)
set_option maxRecDepth 20000 in
theorem gX6_countAnswer_X3_get : GoodIn wsX6_countAnswer (wsV RX6 74 RX3 yX3_get wsX3_get) := goodIn_app (goodIn_of _ (by decide +kernel)) ggX6_countAnswer_X3_get
set_option maxRecDepth 20000 in
theorem ggX6_countAnswer_X2_givesAway : GoodIn wsX6_countAnswer wsX2_givesAway := goodIn_r _ [25, 26, 27, 16, 17, 18, 19, 20, 28, 29, 30, 24, 31, 32, 33, 9, 10, 11, 12, 13, 14, 44, 45, 43] (by decide +kernel) (by decide +kernel)
set_option maxRecDepth 20000 in
theorem gX6_countAnswer_X2_givesAway : GoodIn wsX6_countAnswer (wsV RX6 115 RX2 yX2_givesAway wsX2_givesAway) := goodIn_app (goodIn_of _ (by decide +kernel)) ggX6_countAnswer_X2_givesAway
set_option maxRecDepth 20000 in
theorem ggX6_countAnswer_J6_bitCount_0f7a4 : GoodIn wsX6_countAnswer wsJ6_bitCount_0f7a4 := goodIn_r _ [11, 12, 13, 14] (by decide +kernel) (by decide +kernel)
set_option maxRecDepth 20000 in
theorem gX6_countAnswer_J6_bitCount_0f7a4 : GoodIn wsX6_countAnswer (va_wsS RX6 119 yJ6_bitCount_0f7a4 wsJ6_bitCount_0f7a4) := goodIn_app (goodIn_of _ (by decide +kernel)) ggX6_countAnswer_J6_bitCount_0f7a4
set_option maxRecDepth 20000 in
theorem ggX6_countAnswer_X6_roundedDown : GoodIn wsX6_countAnswer wsX6_roundedDown := goodIn_r _ [36] (by decide +kernel) (by decide +kernel)
set_option maxRecDepth 20000 in
theorem gX6_countAnswer_X6_roundedDown : GoodIn wsX6_countAnswer (va_wsS RX6 124 yX6_roundedDown wsX6_roundedDown) := goodIn_app (goodIn_of _ (by decide +kernel)) ggX6_countAnswer_X6_roundedDown
theorem dX6_countAnswer_0 : decode cX6_countAnswer 0 = .ok (.aload_n 0, 1) := by decide +kernel
theorem dX6_countAnswer_1 : decode cX6_countAnswer 1 = .ok (.iload_n 2, 1) := by decide +kernel
theorem dX6_countAnswer_2 : decode cX6_countAnswer 2 = .ok (.invokevirtual 111, 3) := by decide +kernel
theorem dX6_countAnswer_5 : decode cX6_countAnswer 5 = .ok (.ifCond .ne 27, 3) := by decide +kernel
theorem dX6_countAnswer_8 : decode cX6_countAnswer 8 = .ok (.aload_n 0, 1) := by decide +kernel
theorem dX6_countAnswer_9 : decode cX6_countAnswer 9 = .ok (.getfield 44, 3) := by decide +kernel
theorem dX6_countAnswer_12 : decode cX6_countAnswer 12 = .ok (.iconst 2, 1) := by decide +kernel
theorem dX6_countAnswer_13 : decode cX6_countAnswer 13 = .ok (.invokevirtual 74, 3) := by decide +kernel
theorem dX6_countAnswer_16 : decode cX6_countAnswer 16 = .ok (.iconst 1, 1) := by decide +kernel
theorem dX6_countAnswer_17 : decode cX6_countAnswer 17 = .ok (.if_icmp .ne 19, 3) := by decide +kernel
theorem dX6_countAnswer_20 : decode cX6_countAnswer 20 = .ok (.aload_n 0, 1) := by decide +kernel
theorem dX6_countAnswer_21 : decode cX6_countAnswer 21 = .ok (.getfield 28, 3) := by decide +kernel
theorem dX6_countAnswer_24 : decode cX6_countAnswer 24 = .ok (.iload_n 1, 1) := by decide +kernel
theorem dX6_countAnswer_25 : decode cX6_countAnswer 25 = .ok (.iload_n 2, 1) := by decide +kernel
theorem dX6_countAnswer_26 : decode cX6_countAnswer 26 = .ok (.invokevirtual 115, 3) := by decide +kernel
theorem dX6_countAnswer_29 : decode cX6_countAnswer 29 = .ok (.ifCond .eq 7, 3) := by decide +kernel
theorem dX6_countAnswer_32 : decode cX6_countAnswer 32 = .ok (.iconst 1, 1) := by decide +kernel
theorem dX6_countAnswer_33 : decode cX6_countAnswer 33 = .ok (.goto 4, 3) := by decide +kernel
theorem dX6_countAnswer_36 : decode cX6_countAnswer 36 = .ok (.iconst 0, 1) := by decide +kernel
theorem dX6_countAnswer_37 : decode cX6_countAnswer 37 = .ok (.istore_n 3, 1) := by decide +kernel
theorem dX6_countAnswer_38 : decode cX6_countAnswer 38 = .ok (.iload_n 3, 1) := by decide +kernel
theorem dX6_countAnswer_39 : decode cX6_countAnswer 39 = .ok (.ifCond .eq 7, 3) := by decide +kernel
theorem dX6_countAnswer_42 : decode cX6_countAnswer 42 = .ok (.iconst (-1), 1) := by decide +kernel
theorem dX6_countAnswer_43 : decode cX6_countAnswer 43 = .ok (.goto 18, 3) := by decide +kernel
theorem dX6_countAnswer_46 : decode cX6_countAnswer 46 = .ok (.iload_n 2, 1) := by decide +kernel
theorem dX6_countAnswer_47 : decode cX6_countAnswer 47 = .ok (.invokestatic 119, 3) := by decide +kernel
theorem dX6_countAnswer_50 : decode cX6_countAnswer 50 = .ok (.aload_n 0, 1) := by decide +kernel
theorem dX6_countAnswer_51 : decode cX6_countAnswer 51 = .ok (.getfield 44, 3) := by decide +kernel
theorem dX6_countAnswer_54 : decode cX6_countAnswer 54 = .ok (.iconst 1, 1) := by decide +kernel
theorem dX6_countAnswer_55 : decode cX6_countAnswer 55 = .ok (.invokevirtual 74, 3) := by decide +kernel
theorem dX6_countAnswer_58 : decode cX6_countAnswer 58 = .ok (.invokestatic 124, 3) := by decide +kernel
theorem dX6_countAnswer_61 : decode cX6_countAnswer 61 = .ok (.ireturn, 1) := by decide +kernel
set_option maxRecDepth 20000 in
theorem ggX6_sumAnswer_X3_get : GoodIn wsX6_sumAnswer wsX3_get := goodIn_r _ [12, 13, 38] (by decide +kernel) (by decide +kernel)
set_option maxRecDepth 20000 in
theorem gX6_sumAnswer_X3_get : GoodIn wsX6_sumAnswer (wsV RX6 74 RX3 yX3_get wsX3_get) := goodIn_app (goodIn_of _ (by decide +kernel)) ggX6_sumAnswer_X3_get
set_option maxRecDepth 20000 in
theorem ggX6_sumAnswer_X6_isTooSmall : GoodIn wsX6_sumAnswer wsX6_isTooSmall := goodIn_r _ [18, 19, 20, 21, 22, 23, 24, 25, 26, 8, 9, 10, 11, 12, 13, 27, 28, 29, 30, 31, 32, 38] (by decide +kernel) (by decide +kernel)
set_option maxRecDepth 20000 in
theorem gX6_sumAnswer_X6_isTooSmall : GoodIn wsX6_sumAnswer (wsV RX6 111 RX6 yX6_isTooSmall wsX6_isTooSmall) := goodIn_app (goodIn_of _ (by decide +kernel)) ggX6_sumAnswer_X6_isTooSmall
theorem dX6_sumAnswer_0 : decode cX6_sumAnswer 0 = .ok (.iconst 0, 1) := by decide +kernel
theorem dX6_sumAnswer_1 : decode cX6_sumAnswer 1 = .ok (.istore_n 2, 1) := by decide +kernel
theorem dX6_sumAnswer_2 : decode cX6_sumAnswer 2 = .ok (.iconst 0, 1) := by decide +kernel
theorem dX6_sumAnswer_3 : decode cX6_sumAnswer 3 = .ok (.istore_n 3, 1) := by decide +kernel
theorem dX6_sumAnswer_4 : decode cX6_sumAnswer 4 = .ok (.iconst 0, 1) := by decide +kernel
theorem dX6_sumAnswer_5 : decode cX6_sumAnswer 5 = .ok (.istore 4, 2) := by decide +kernel
theorem dX6_sumAnswer_7 : decode cX6_sumAnswer 7 = .ok (.iload 4, 2) := by decide +kernel
theorem dX6_sumAnswer_9 : decode cX6_sumAnswer 9 = .ok (.aload_n 0, 1) := by decide +kernel
theorem dX6_sumAnswer_10 : decode cX6_sumAnswer 10 = .ok (.getfield 12, 3) := by decide +kernel
theorem dX6_sumAnswer_13 : decode cX6_sumAnswer 13 = .ok (.getfield 96, 3) := by decide +kernel
theorem dX6_sumAnswer_16 : decode cX6_sumAnswer 16 = .ok (.if_icmp .ge 45, 3) := by decide +kernel
theorem dX6_sumAnswer_19 : decode cX6_sumAnswer 19 = .ok (.iload_n 1, 1) := by decide +kernel
theorem dX6_sumAnswer_20 : decode cX6_sumAnswer 20 = .ok (.iload 4, 2) := by decide +kernel
theorem dX6_sumAnswer_22 : decode cX6_sumAnswer 22 = .ok (.ishr, 1) := by decide +kernel
theorem dX6_sumAnswer_23 : decode cX6_sumAnswer 23 = .ok (.iconst 1, 1) := by decide +kernel
theorem dX6_sumAnswer_24 : decode cX6_sumAnswer 24 = .ok (.iand, 1) := by decide +kernel
theorem dX6_sumAnswer_25 : decode cX6_sumAnswer 25 = .ok (.iconst 1, 1) := by decide +kernel
theorem dX6_sumAnswer_26 : decode cX6_sumAnswer 26 = .ok (.if_icmp .ne 29, 3) := by decide +kernel
theorem dX6_sumAnswer_29 : decode cX6_sumAnswer 29 = .ok (.aload_n 0, 1) := by decide +kernel
theorem dX6_sumAnswer_30 : decode cX6_sumAnswer 30 = .ok (.getfield 12, 3) := by decide +kernel
theorem dX6_sumAnswer_33 : decode cX6_sumAnswer 33 = .ok (.getfield 90, 3) := by decide +kernel
theorem dX6_sumAnswer_36 : decode cX6_sumAnswer 36 = .ok (.iload 4, 2) := by decide +kernel
theorem dX6_sumAnswer_38 : decode cX6_sumAnswer 38 = .ok (.invokevirtual 74, 3) := by decide +kernel
theorem dX6_sumAnswer_41 : decode cX6_sumAnswer 41 = .ok (.istore 5, 2) := by decide +kernel
theorem dX6_sumAnswer_43 : decode cX6_sumAnswer 43 = .ok (.iload_n 2, 1) := by decide +kernel
theorem dX6_sumAnswer_44 : decode cX6_sumAnswer 44 = .ok (.iload 5, 2) := by decide +kernel
theorem dX6_sumAnswer_46 : decode cX6_sumAnswer 46 = .ok (.iadd, 1) := by decide +kernel
theorem dX6_sumAnswer_47 : decode cX6_sumAnswer 47 = .ok (.istore_n 2, 1) := by decide +kernel
theorem dX6_sumAnswer_48 : decode cX6_sumAnswer 48 = .ok (.iload_n 3, 1) := by decide +kernel
theorem dX6_sumAnswer_49 : decode cX6_sumAnswer 49 = .ok (.iload 5, 2) := by decide +kernel
theorem dX6_sumAnswer_51 : decode cX6_sumAnswer 51 = .ok (.invokestatic 127, 3) := by decide +kernel
theorem dX6_sumAnswer_54 : decode cX6_sumAnswer 54 = .ok (.istore_n 3, 1) := by decide +kernel
theorem dX6_sumAnswer_55 : decode cX6_sumAnswer 55 = .ok (.iinc 4 1, 3) := by decide +kernel
theorem dX6_sumAnswer_58 : decode cX6_sumAnswer 58 = .ok (.goto (-51), 3) := by decide +kernel
theorem dX6_sumAnswer_61 : decode cX6_sumAnswer 61 = .ok (.aload_n 0, 1) := by decide +kernel
theorem dX6_sumAnswer_62 : decode cX6_sumAnswer 62 = .ok (.iload_n 1, 1) := by decide +kernel
theorem dX6_sumAnswer_63 : decode cX6_sumAnswer 63 = .ok (.invokevirtual 111, 3) := by decide +kernel
theorem dX6_sumAnswer_66 : decode cX6_sumAnswer 66 = .ok (.ifCond .ne 10, 3) := by decide +kernel
theorem dX6_sumAnswer_69 : decode cX6_sumAnswer 69 = .ok (.iconst 2, 1) := by decide +kernel
theorem dX6_sumAnswer_70 : decode cX6_sumAnswer 70 = .ok (.iload_n 3, 1) := by decide +kernel
theorem dX6_sumAnswer_71 : decode cX6_sumAnswer 71 = .ok (.imul, 1) := by decide +kernel
theorem dX6_sumAnswer_72 : decode cX6_sumAnswer 72 = .ok (.iload_n 2, 1) := by decide +kernel
theorem dX6_sumAnswer_73 : decode cX6_sumAnswer 73 = .ok (.if_icmp .le 7, 3) := by decide +kernel
theorem dX6_sumAnswer_76 : decode cX6_sumAnswer 76 = .ok (.iconst (-1), 1) := by decide +kernel
theorem dX6_sumAnswer_77 : decode cX6_sumAnswer 77 = .ok (.goto 4, 3) := by decide +kernel
theorem dX6_sumAnswer_80 : decode cX6_sumAnswer 80 = .ok (.iload_n 2, 1) := by decide +kernel
theorem dX6_sumAnswer_81 : decode cX6_sumAnswer 81 = .ok (.ireturn, 1) := by decide +kernel
set_option maxRecDepth 20000 in
theorem ggX6_isTooSmall_J6_bitCount_0f7a4 : GoodIn wsX6_isTooSmall wsJ6_bitCount_0f7a4 := goodIn_r _ [5, 6, 7, 8] (by decide +kernel) (by decide +kernel)
set_option maxRecDepth 20000 in
theorem gX6_isTooSmall_J6_bitCount_0f7a4 : GoodIn wsX6_isTooSmall (va_wsS RX6 119 yJ6_bitCount_0f7a4 wsJ6_bitCount_0f7a4) := goodIn_app (goodIn_of _ (by decide +kernel)) ggX6_isTooSmall_J6_bitCount_0f7a4
set_option maxRecDepth 20000 in
theorem ggX6_isTooSmall_X3_get : GoodIn wsX6_isTooSmall wsX3_get := goodIn_r _ [13, 14, 21] (by decide +kernel) (by decide +kernel)
set_option maxRecDepth 20000 in
theorem gX6_isTooSmall_X3_get : GoodIn wsX6_isTooSmall (wsV RX6 74 RX3 yX3_get wsX3_get) := goodIn_app (goodIn_of _ (by decide +kernel)) ggX6_isTooSmall_X3_get
theorem dX6_isTooSmall_0 : decode cX6_isTooSmall 0 = .ok (.iload_n 1, 1) := by decide +kernel
theorem dX6_isTooSmall_1 : decode cX6_isTooSmall 1 = .ok (.ifCond .eq 22, 3) := by decide +kernel
theorem dX6_isTooSmall_4 : decode cX6_isTooSmall 4 = .ok (.iload_n 1, 1) := by decide +kernel
theorem dX6_isTooSmall_5 : decode cX6_isTooSmall 5 = .ok (.invokestatic 119, 3) := by decide +kernel
theorem dX6_isTooSmall_8 : decode cX6_isTooSmall 8 = .ok (.aload_n 0, 1) := by decide +kernel
theorem dX6_isTooSmall_9 : decode cX6_isTooSmall 9 = .ok (.getfield 44, 3) := by decide +kernel
theorem dX6_isTooSmall_12 : decode cX6_isTooSmall 12 = .ok (.iconst 0, 1) := by decide +kernel
theorem dX6_isTooSmall_13 : decode cX6_isTooSmall 13 = .ok (.invokevirtual 74, 3) := by decide +kernel
theorem dX6_isTooSmall_16 : decode cX6_isTooSmall 16 = .ok (.if_icmp .ge 7, 3) := by decide +kernel
theorem dX6_isTooSmall_19 : decode cX6_isTooSmall 19 = .ok (.iconst 1, 1) := by decide +kernel
theorem dX6_isTooSmall_20 : decode cX6_isTooSmall 20 = .ok (.goto 4, 3) := by decide +kernel
theorem dX6_isTooSmall_23 : decode cX6_isTooSmall 23 = .ok (.iconst 0, 1) := by decide +kernel
theorem dX6_isTooSmall_24 : decode cX6_isTooSmall 24 = .ok (.ireturn, 1) := by decide +kernel
theorem dX6_roundedDown_0 : decode cX6_roundedDown 0 = .ok (.iload_n 1, 1) := by decide +kernel
theorem dX6_roundedDown_1 : decode cX6_roundedDown 1 = .ok (.ifCond .le 11, 3) := by decide +kernel
theorem dX6_roundedDown_4 : decode cX6_roundedDown 4 = .ok (.iload_n 0, 1) := by decide +kernel
theorem dX6_roundedDown_5 : decode cX6_roundedDown 5 = .ok (.iload_n 0, 1) := by decide +kernel
theorem dX6_roundedDown_6 : decode cX6_roundedDown 6 = .ok (.iload_n 1, 1) := by decide +kernel
theorem dX6_roundedDown_7 : decode cX6_roundedDown 7 = .ok (.irem, 1) := by decide +kernel
theorem dX6_roundedDown_8 : decode cX6_roundedDown 8 = .ok (.isub, 1) := by decide +kernel
theorem dX6_roundedDown_9 : decode cX6_roundedDown 9 = .ok (.goto 4, 3) := by decide +kernel
theorem dX6_roundedDown_12 : decode cX6_roundedDown 12 = .ok (.iload_n 0, 1) := by decide +kernel
theorem dX6_roundedDown_13 : decode cX6_roundedDown 13 = .ok (.ireturn, 1) := by decide +kernel
set_option maxRecDepth 20000 in
theorem ggX6_rowNumber_X3_get : GoodIn wsX6_rowNumber wsX3_get := goodIn_r _ [10, 11, 37] (by decide +kernel) (by decide +kernel)
set_option maxRecDepth 20000 in
theorem gX6_rowNumber_X3_get : GoodIn wsX6_rowNumber (wsV RX6 74 RX3 yX3_get wsX3_get) := goodIn_app (goodIn_of _ (by decide +kernel)) ggX6_rowNumber_X3_get
set_option maxRecDepth 20000 in
theorem ggX6_rowNumber_X6_whoSees : GoodIn wsX6_rowNumber wsX6_whoSees := goodIn_r _ [16, 17, 18, 19, 15, 20, 1, 2, 5, 21, 22, 3, 23, 4, 24, 25, 6, 7, 8, 9, 10, 11, 26, 27, 28, 29, 30, 31, 32, 33, 34, 35, 36, 38, 39, 40, 37] (by decide +kernel) (by decide +kernel)
set_option maxRecDepth 20000 in
theorem gX6_rowNumber_X6_whoSees : GoodIn wsX6_rowNumber (wsV RX6 136 RX6 yX6_whoSees wsX6_whoSees) := goodIn_app (goodIn_of _ (by decide +kernel)) ggX6_rowNumber_X6_whoSees
theorem dX6_rowNumber_0 : decode cX6_rowNumber 0 = .ok (.iload_n 2, 1) := by decide +kernel
theorem dX6_rowNumber_1 : decode cX6_rowNumber 1 = .ok (.tableswitch 79 0 3 #[31, 43, 55, 67], 31) := by decide +kernel
theorem dX6_rowNumber_32 : decode cX6_rowNumber 32 = .ok (.aload_n 0, 1) := by decide +kernel
theorem dX6_rowNumber_33 : decode cX6_rowNumber 33 = .ok (.getfield 12, 3) := by decide +kernel
theorem dX6_rowNumber_36 : decode cX6_rowNumber 36 = .ok (.getfield 71, 3) := by decide +kernel
theorem dX6_rowNumber_39 : decode cX6_rowNumber 39 = .ok (.iload_n 1, 1) := by decide +kernel
theorem dX6_rowNumber_40 : decode cX6_rowNumber 40 = .ok (.invokevirtual 74, 3) := by decide +kernel
theorem dX6_rowNumber_43 : decode cX6_rowNumber 43 = .ok (.ireturn, 1) := by decide +kernel
theorem dX6_rowNumber_44 : decode cX6_rowNumber 44 = .ok (.aload_n 0, 1) := by decide +kernel
theorem dX6_rowNumber_45 : decode cX6_rowNumber 45 = .ok (.getfield 12, 3) := by decide +kernel
theorem dX6_rowNumber_48 : decode cX6_rowNumber 48 = .ok (.getfield 84, 3) := by decide +kernel
theorem dX6_rowNumber_51 : decode cX6_rowNumber 51 = .ok (.iload_n 1, 1) := by decide +kernel
theorem dX6_rowNumber_52 : decode cX6_rowNumber 52 = .ok (.invokevirtual 74, 3) := by decide +kernel
theorem dX6_rowNumber_55 : decode cX6_rowNumber 55 = .ok (.ireturn, 1) := by decide +kernel
theorem dX6_rowNumber_56 : decode cX6_rowNumber 56 = .ok (.aload_n 0, 1) := by decide +kernel
theorem dX6_rowNumber_57 : decode cX6_rowNumber 57 = .ok (.getfield 12, 3) := by decide +kernel
theorem dX6_rowNumber_60 : decode cX6_rowNumber 60 = .ok (.getfield 90, 3) := by decide +kernel
theorem dX6_rowNumber_63 : decode cX6_rowNumber 63 = .ok (.iload_n 1, 1) := by decide +kernel
theorem dX6_rowNumber_64 : decode cX6_rowNumber 64 = .ok (.invokevirtual 74, 3) := by decide +kernel
theorem dX6_rowNumber_67 : decode cX6_rowNumber 67 = .ok (.ireturn, 1) := by decide +kernel
theorem dX6_rowNumber_68 : decode cX6_rowNumber 68 = .ok (.aload_n 0, 1) := by decide +kernel
theorem dX6_rowNumber_69 : decode cX6_rowNumber 69 = .ok (.getfield 12, 3) := by decide +kernel
theorem dX6_rowNumber_72 : decode cX6_rowNumber 72 = .ok (.getfield 78, 3) := by decide +kernel
theorem dX6_rowNumber_75 : decode cX6_rowNumber 75 = .ok (.iload_n 1, 1) := by decide +kernel
theorem dX6_rowNumber_76 : decode cX6_rowNumber 76 = .ok (.invokevirtual 74, 3) := by decide +kernel
theorem dX6_rowNumber_79 : decode cX6_rowNumber 79 = .ok (.ireturn, 1) := by decide +kernel
theorem dX6_rowNumber_80 : decode cX6_rowNumber 80 = .ok (.aload_n 0, 1) := by decide +kernel
theorem dX6_rowNumber_81 : decode cX6_rowNumber 81 = .ok (.iload_n 1, 1) := by decide +kernel
theorem dX6_rowNumber_82 : decode cX6_rowNumber 82 = .ok (.invokevirtual 136, 3) := by decide +kernel
theorem dX6_rowNumber_85 : decode cX6_rowNumber 85 = .ok (.ireturn, 1) := by decide +kernel
set_option maxRecDepth 20000 in
theorem ggX6_whoSees_X6_veilMask : GoodIn wsX6_whoSees wsX6_veilMask := goodIn_r _ [5, 6, 7, 8, 9, 10, 11, 12, 13, 14, 15, 16, 17, 18, 19, 20, 21, 22, 23, 24, 25, 26, 27, 28, 29, 30, 31, 32, 33, 34, 35, 36] (by decide +kernel) (by decide +kernel)
set_option maxRecDepth 20000 in
theorem gX6_whoSees_X6_veilMask : GoodIn wsX6_whoSees (wsV RX6 103 RX6 yX6_veilMask wsX6_veilMask) := goodIn_app (goodIn_of _ (by decide +kernel)) ggX6_whoSees_X6_veilMask
theorem dX6_whoSees_0 : decode cX6_whoSees 0 = .ok (.iconst 0, 1) := by decide +kernel
theorem dX6_whoSees_1 : decode cX6_whoSees 1 = .ok (.istore_n 2, 1) := by decide +kernel
theorem dX6_whoSees_2 : decode cX6_whoSees 2 = .ok (.iconst 0, 1) := by decide +kernel
theorem dX6_whoSees_3 : decode cX6_whoSees 3 = .ok (.istore_n 3, 1) := by decide +kernel
theorem dX6_whoSees_4 : decode cX6_whoSees 4 = .ok (.iload_n 3, 1) := by decide +kernel
theorem dX6_whoSees_5 : decode cX6_whoSees 5 = .ok (.iconst 5, 1) := by decide +kernel
theorem dX6_whoSees_6 : decode cX6_whoSees 6 = .ok (.if_icmp .ge 24, 3) := by decide +kernel
theorem dX6_whoSees_9 : decode cX6_whoSees 9 = .ok (.aload_n 0, 1) := by decide +kernel
theorem dX6_whoSees_10 : decode cX6_whoSees 10 = .ok (.iload_n 3, 1) := by decide +kernel
theorem dX6_whoSees_11 : decode cX6_whoSees 11 = .ok (.iload_n 1, 1) := by decide +kernel
theorem dX6_whoSees_12 : decode cX6_whoSees 12 = .ok (.invokevirtual 103, 3) := by decide +kernel
theorem dX6_whoSees_15 : decode cX6_whoSees 15 = .ok (.ifCond .ne 9, 3) := by decide +kernel
theorem dX6_whoSees_18 : decode cX6_whoSees 18 = .ok (.iload_n 2, 1) := by decide +kernel
theorem dX6_whoSees_19 : decode cX6_whoSees 19 = .ok (.iconst 1, 1) := by decide +kernel
theorem dX6_whoSees_20 : decode cX6_whoSees 20 = .ok (.iload_n 3, 1) := by decide +kernel
theorem dX6_whoSees_21 : decode cX6_whoSees 21 = .ok (.ishl, 1) := by decide +kernel
theorem dX6_whoSees_22 : decode cX6_whoSees 22 = .ok (.ior, 1) := by decide +kernel
theorem dX6_whoSees_23 : decode cX6_whoSees 23 = .ok (.istore_n 2, 1) := by decide +kernel
theorem dX6_whoSees_24 : decode cX6_whoSees 24 = .ok (.iinc 3 1, 3) := by decide +kernel
theorem dX6_whoSees_27 : decode cX6_whoSees 27 = .ok (.goto (-23), 3) := by decide +kernel
theorem dX6_whoSees_30 : decode cX6_whoSees 30 = .ok (.iload_n 2, 1) := by decide +kernel
theorem dX6_whoSees_31 : decode cX6_whoSees 31 = .ok (.ireturn, 1) := by decide +kernel
set_option maxRecDepth 20000 in
theorem ggX6_personNumber_X3_get : GoodIn wsX6_personNumber wsX3_get := goodIn_r _ [14, 15, 65] (by decide +kernel) (by decide +kernel)
set_option maxRecDepth 20000 in
theorem gX6_personNumber_X3_get : GoodIn wsX6_personNumber (wsV RX6 74 RX3 yX3_get wsX3_get) := goodIn_app (goodIn_of _ (by decide +kernel)) ggX6_personNumber_X3_get
set_option maxRecDepth 20000 in
theorem ggX6_personNumber_X6_allSeen : GoodIn wsX6_personNumber wsX6_allSeen := goodIn_r _ [20, 21, 22, 23, 19, 24, 25, 26, 27, 28, 29, 30, 31, 32, 33, 34, 11, 12, 13, 14, 15, 35, 36, 37, 38, 39, 40, 1, 2, 41, 3, 42, 4, 43, 10, 51, 52, 53, 54, 55, 56, 66, 67, 68, 69, 70, 65, 57, 58, 59] (by decide +kernel) (by decide +kernel)
set_option maxRecDepth 20000 in
theorem gX6_personNumber_X6_allSeen : GoodIn wsX6_personNumber (wsV RX6 139 RX6 yX6_allSeen wsX6_allSeen) := goodIn_app (goodIn_of _ (by decide +kernel)) ggX6_personNumber_X6_allSeen
set_option maxRecDepth 20000 in
theorem ggX6_personNumber_J6_bitCount_0f7a4 : GoodIn wsX6_personNumber wsJ6_bitCount_0f7a4 := goodIn_r _ [47, 48, 49, 50] (by decide +kernel) (by decide +kernel)
set_option maxRecDepth 20000 in
theorem gX6_personNumber_J6_bitCount_0f7a4 : GoodIn wsX6_personNumber (va_wsS RX6 119 yJ6_bitCount_0f7a4 wsJ6_bitCount_0f7a4) := goodIn_app (goodIn_of _ (by decide +kernel)) ggX6_personNumber_J6_bitCount_0f7a4
theorem dX6_personNumber_0 : decode cX6_personNumber 0 = .ok (.iload_n 2, 1) := by decide +kernel
theorem dX6_personNumber_1 : decode cX6_personNumber 1 = .ok (.tableswitch 118 0 6 #[43, 55, 67, 79, 88, 94, 106], 43) := by decide +kernel
theorem dX6_personNumber_44 : decode cX6_personNumber 44 = .ok (.aload_n 0, 1) := by decide +kernel
theorem dX6_personNumber_45 : decode cX6_personNumber 45 = .ok (.getfield 21, 3) := by decide +kernel
theorem dX6_personNumber_48 : decode cX6_personNumber 48 = .ok (.getfield 81, 3) := by decide +kernel
theorem dX6_personNumber_51 : decode cX6_personNumber 51 = .ok (.iload_n 1, 1) := by decide +kernel
theorem dX6_personNumber_52 : decode cX6_personNumber 52 = .ok (.invokevirtual 74, 3) := by decide +kernel
theorem dX6_personNumber_55 : decode cX6_personNumber 55 = .ok (.ireturn, 1) := by decide +kernel
theorem dX6_personNumber_56 : decode cX6_personNumber 56 = .ok (.aload_n 0, 1) := by decide +kernel
theorem dX6_personNumber_57 : decode cX6_personNumber 57 = .ok (.getfield 21, 3) := by decide +kernel
theorem dX6_personNumber_60 : decode cX6_personNumber 60 = .ok (.getfield 87, 3) := by decide +kernel
theorem dX6_personNumber_63 : decode cX6_personNumber 63 = .ok (.iload_n 1, 1) := by decide +kernel
theorem dX6_personNumber_64 : decode cX6_personNumber 64 = .ok (.invokevirtual 74, 3) := by decide +kernel
theorem dX6_personNumber_67 : decode cX6_personNumber 67 = .ok (.ireturn, 1) := by decide +kernel
theorem dX6_personNumber_68 : decode cX6_personNumber 68 = .ok (.aload_n 0, 1) := by decide +kernel
theorem dX6_personNumber_69 : decode cX6_personNumber 69 = .ok (.getfield 21, 3) := by decide +kernel
theorem dX6_personNumber_72 : decode cX6_personNumber 72 = .ok (.getfield 93, 3) := by decide +kernel
theorem dX6_personNumber_75 : decode cX6_personNumber 75 = .ok (.iload_n 1, 1) := by decide +kernel
theorem dX6_personNumber_76 : decode cX6_personNumber 76 = .ok (.invokevirtual 74, 3) := by decide +kernel
theorem dX6_personNumber_79 : decode cX6_personNumber 79 = .ok (.ireturn, 1) := by decide +kernel
theorem dX6_personNumber_80 : decode cX6_personNumber 80 = .ok (.aload_n 0, 1) := by decide +kernel
theorem dX6_personNumber_81 : decode cX6_personNumber 81 = .ok (.iload_n 1, 1) := by decide +kernel
theorem dX6_personNumber_82 : decode cX6_personNumber 82 = .ok (.invokevirtual 139, 3) := by decide +kernel
theorem dX6_personNumber_85 : decode cX6_personNumber 85 = .ok (.invokestatic 119, 3) := by decide +kernel
theorem dX6_personNumber_88 : decode cX6_personNumber 88 = .ok (.ireturn, 1) := by decide +kernel
theorem dX6_personNumber_89 : decode cX6_personNumber 89 = .ok (.aload_n 0, 1) := by decide +kernel
theorem dX6_personNumber_90 : decode cX6_personNumber 90 = .ok (.iload_n 1, 1) := by decide +kernel
theorem dX6_personNumber_91 : decode cX6_personNumber 91 = .ok (.invokevirtual 139, 3) := by decide +kernel
theorem dX6_personNumber_94 : decode cX6_personNumber 94 = .ok (.ireturn, 1) := by decide +kernel
theorem dX6_personNumber_95 : decode cX6_personNumber 95 = .ok (.aload_n 0, 1) := by decide +kernel
theorem dX6_personNumber_96 : decode cX6_personNumber 96 = .ok (.getfield 28, 3) := by decide +kernel
theorem dX6_personNumber_99 : decode cX6_personNumber 99 = .ok (.getfield 142, 3) := by decide +kernel
theorem dX6_personNumber_102 : decode cX6_personNumber 102 = .ok (.iload_n 1, 1) := by decide +kernel
theorem dX6_personNumber_103 : decode cX6_personNumber 103 = .ok (.invokevirtual 74, 3) := by decide +kernel
theorem dX6_personNumber_106 : decode cX6_personNumber 106 = .ok (.ireturn, 1) := by decide +kernel
theorem dX6_personNumber_107 : decode cX6_personNumber 107 = .ok (.aload_n 0, 1) := by decide +kernel
theorem dX6_personNumber_108 : decode cX6_personNumber 108 = .ok (.getfield 35, 3) := by decide +kernel
theorem dX6_personNumber_111 : decode cX6_personNumber 111 = .ok (.getfield 145, 3) := by decide +kernel
theorem dX6_personNumber_114 : decode cX6_personNumber 114 = .ok (.iload_n 1, 1) := by decide +kernel
theorem dX6_personNumber_115 : decode cX6_personNumber 115 = .ok (.invokevirtual 74, 3) := by decide +kernel
theorem dX6_personNumber_118 : decode cX6_personNumber 118 = .ok (.ireturn, 1) := by decide +kernel
theorem dX6_personNumber_119 : decode cX6_personNumber 119 = .ok (.aload_n 0, 1) := by decide +kernel
theorem dX6_personNumber_120 : decode cX6_personNumber 120 = .ok (.getfield 35, 3) := by decide +kernel
theorem dX6_personNumber_123 : decode cX6_personNumber 123 = .ok (.getfield 148, 3) := by decide +kernel
theorem dX6_personNumber_126 : decode cX6_personNumber 126 = .ok (.iload_n 1, 1) := by decide +kernel
theorem dX6_personNumber_127 : decode cX6_personNumber 127 = .ok (.invokevirtual 74, 3) := by decide +kernel
theorem dX6_personNumber_130 : decode cX6_personNumber 130 = .ok (.ireturn, 1) := by decide +kernel
set_option maxRecDepth 20000 in
theorem ggX6_hiddenByAlone_X6_veilMask : GoodIn wsX6_hiddenByAlone wsX6_veilMask := goodIn_r _ [7, 1, 8, 9, 10, 11, 12, 13, 14, 15, 16, 17, 18, 19, 20, 21, 22, 23, 24, 25, 26, 27, 28, 29, 30, 31, 32, 33, 34, 35, 36, 37] (by decide +kernel) (by decide +kernel)
set_option maxRecDepth 20000 in
theorem gX6_hiddenByAlone_X6_veilMask : GoodIn wsX6_hiddenByAlone (wsV RX6 103 RX6 yX6_veilMask wsX6_veilMask) := goodIn_app (goodIn_of _ (by decide +kernel)) ggX6_hiddenByAlone_X6_veilMask
theorem dX6_hiddenByAlone_0 : decode cX6_hiddenByAlone 0 = .ok (.iconst 0, 1) := by decide +kernel
theorem dX6_hiddenByAlone_1 : decode cX6_hiddenByAlone 1 = .ok (.istore_n 2, 1) := by decide +kernel
theorem dX6_hiddenByAlone_2 : decode cX6_hiddenByAlone 2 = .ok (.iconst 0, 1) := by decide +kernel
theorem dX6_hiddenByAlone_3 : decode cX6_hiddenByAlone 3 = .ok (.istore_n 3, 1) := by decide +kernel
theorem dX6_hiddenByAlone_4 : decode cX6_hiddenByAlone 4 = .ok (.iload_n 3, 1) := by decide +kernel
theorem dX6_hiddenByAlone_5 : decode cX6_hiddenByAlone 5 = .ok (.iconst 5, 1) := by decide +kernel
theorem dX6_hiddenByAlone_6 : decode cX6_hiddenByAlone 6 = .ok (.if_icmp .ge 46, 3) := by decide +kernel
theorem dX6_hiddenByAlone_9 : decode cX6_hiddenByAlone 9 = .ok (.iconst 0, 1) := by decide +kernel
theorem dX6_hiddenByAlone_10 : decode cX6_hiddenByAlone 10 = .ok (.istore 4, 2) := by decide +kernel
theorem dX6_hiddenByAlone_12 : decode cX6_hiddenByAlone 12 = .ok (.iload 4, 2) := by decide +kernel
theorem dX6_hiddenByAlone_14 : decode cX6_hiddenByAlone 14 = .ok (.aload_n 0, 1) := by decide +kernel
theorem dX6_hiddenByAlone_15 : decode cX6_hiddenByAlone 15 = .ok (.getfield 12, 3) := by decide +kernel
theorem dX6_hiddenByAlone_18 : decode cX6_hiddenByAlone 18 = .ok (.getfield 96, 3) := by decide +kernel
theorem dX6_hiddenByAlone_21 : decode cX6_hiddenByAlone 21 = .ok (.if_icmp .ge 25, 3) := by decide +kernel
theorem dX6_hiddenByAlone_24 : decode cX6_hiddenByAlone 24 = .ok (.aload_n 0, 1) := by decide +kernel
theorem dX6_hiddenByAlone_25 : decode cX6_hiddenByAlone 25 = .ok (.iload_n 3, 1) := by decide +kernel
theorem dX6_hiddenByAlone_26 : decode cX6_hiddenByAlone 26 = .ok (.iload 4, 2) := by decide +kernel
theorem dX6_hiddenByAlone_28 : decode cX6_hiddenByAlone 28 = .ok (.invokevirtual 103, 3) := by decide +kernel
theorem dX6_hiddenByAlone_31 : decode cX6_hiddenByAlone 31 = .ok (.iconst 1, 1) := by decide +kernel
theorem dX6_hiddenByAlone_32 : decode cX6_hiddenByAlone 32 = .ok (.iload_n 1, 1) := by decide +kernel
theorem dX6_hiddenByAlone_33 : decode cX6_hiddenByAlone 33 = .ok (.ishl, 1) := by decide +kernel
theorem dX6_hiddenByAlone_34 : decode cX6_hiddenByAlone 34 = .ok (.if_icmp .ne 6, 3) := by decide +kernel
theorem dX6_hiddenByAlone_37 : decode cX6_hiddenByAlone 37 = .ok (.iinc 2 1, 3) := by decide +kernel
theorem dX6_hiddenByAlone_40 : decode cX6_hiddenByAlone 40 = .ok (.iinc 4 1, 3) := by decide +kernel
theorem dX6_hiddenByAlone_43 : decode cX6_hiddenByAlone 43 = .ok (.goto (-31), 3) := by decide +kernel
theorem dX6_hiddenByAlone_46 : decode cX6_hiddenByAlone 46 = .ok (.iinc 3 1, 3) := by decide +kernel
theorem dX6_hiddenByAlone_49 : decode cX6_hiddenByAlone 49 = .ok (.goto (-45), 3) := by decide +kernel
theorem dX6_hiddenByAlone_52 : decode cX6_hiddenByAlone 52 = .ok (.iload_n 2, 1) := by decide +kernel
theorem dX6_hiddenByAlone_53 : decode cX6_hiddenByAlone 53 = .ok (.ireturn, 1) := by decide +kernel
set_option maxRecDepth 20000 in
theorem ggX6_pairsSeen_X6_allSeen : GoodIn wsX6_pairsSeen wsX6_allSeen := goodIn_r _ [5, 6, 7, 8, 4, 9, 10, 11, 12, 13, 14, 15, 16, 17, 18, 19, 20, 21, 22, 23, 24, 25, 26, 27, 28, 29, 30, 31, 32, 33, 34, 35, 36, 37, 38, 46, 47, 48, 49, 50, 51, 52, 53, 54, 55, 56, 57, 58, 59, 60] (by decide +kernel) (by decide +kernel)
set_option maxRecDepth 20000 in
theorem gX6_pairsSeen_X6_allSeen : GoodIn wsX6_pairsSeen (wsV RX6 139 RX6 yX6_allSeen wsX6_allSeen) := goodIn_app (goodIn_of _ (by decide +kernel)) ggX6_pairsSeen_X6_allSeen
set_option maxRecDepth 20000 in
theorem ggX6_pairsSeen_J6_bitCount_0f7a4 : GoodIn wsX6_pairsSeen wsJ6_bitCount_0f7a4 := goodIn_r _ [42, 43, 44, 45] (by decide +kernel) (by decide +kernel)
set_option maxRecDepth 20000 in
theorem gX6_pairsSeen_J6_bitCount_0f7a4 : GoodIn wsX6_pairsSeen (va_wsS RX6 119 yJ6_bitCount_0f7a4 wsJ6_bitCount_0f7a4) := goodIn_app (goodIn_of _ (by decide +kernel)) ggX6_pairsSeen_J6_bitCount_0f7a4
theorem dX6_pairsSeen_0 : decode cX6_pairsSeen 0 = .ok (.iconst 0, 1) := by decide +kernel
theorem dX6_pairsSeen_1 : decode cX6_pairsSeen 1 = .ok (.istore_n 1, 1) := by decide +kernel
theorem dX6_pairsSeen_2 : decode cX6_pairsSeen 2 = .ok (.iconst 0, 1) := by decide +kernel
theorem dX6_pairsSeen_3 : decode cX6_pairsSeen 3 = .ok (.istore_n 2, 1) := by decide +kernel
theorem dX6_pairsSeen_4 : decode cX6_pairsSeen 4 = .ok (.iload_n 2, 1) := by decide +kernel
theorem dX6_pairsSeen_5 : decode cX6_pairsSeen 5 = .ok (.iconst 5, 1) := by decide +kernel
theorem dX6_pairsSeen_6 : decode cX6_pairsSeen 6 = .ok (.if_icmp .ge 20, 3) := by decide +kernel
theorem dX6_pairsSeen_9 : decode cX6_pairsSeen 9 = .ok (.iload_n 1, 1) := by decide +kernel
theorem dX6_pairsSeen_10 : decode cX6_pairsSeen 10 = .ok (.aload_n 0, 1) := by decide +kernel
theorem dX6_pairsSeen_11 : decode cX6_pairsSeen 11 = .ok (.iload_n 2, 1) := by decide +kernel
theorem dX6_pairsSeen_12 : decode cX6_pairsSeen 12 = .ok (.invokevirtual 139, 3) := by decide +kernel
theorem dX6_pairsSeen_15 : decode cX6_pairsSeen 15 = .ok (.invokestatic 119, 3) := by decide +kernel
theorem dX6_pairsSeen_18 : decode cX6_pairsSeen 18 = .ok (.iadd, 1) := by decide +kernel
theorem dX6_pairsSeen_19 : decode cX6_pairsSeen 19 = .ok (.istore_n 1, 1) := by decide +kernel
theorem dX6_pairsSeen_20 : decode cX6_pairsSeen 20 = .ok (.iinc 2 1, 3) := by decide +kernel
theorem dX6_pairsSeen_23 : decode cX6_pairsSeen 23 = .ok (.goto (-19), 3) := by decide +kernel
theorem dX6_pairsSeen_26 : decode cX6_pairsSeen 26 = .ok (.iload_n 1, 1) := by decide +kernel
theorem dX6_pairsSeen_27 : decode cX6_pairsSeen 27 = .ok (.ireturn, 1) := by decide +kernel
set_option maxRecDepth 20000 in
theorem ggX6_shareSeen_X6_pairsSeen : GoodIn wsX6_shareSeen wsX6_pairsSeen := goodIn_r _ [7, 8, 9, 10, 6, 11, 12, 13, 14, 15, 1, 2, 16, 17, 18, 19, 20, 21, 22, 23, 24, 25, 26, 27, 28, 29, 30, 31, 32, 33, 34, 35, 36, 37, 38, 39, 40, 41, 42, 43, 44, 45, 46, 47, 48, 49, 50, 51, 52, 53, 54, 55, 56, 57, 58, 59, 60, 61, 62, 63, 64] (by decide +kernel) (by decide +kernel)
set_option maxRecDepth 20000 in
theorem gX6_shareSeen_X6_pairsSeen : GoodIn wsX6_shareSeen (wsV RX6 151 RX6 yX6_pairsSeen wsX6_pairsSeen) := goodIn_app (goodIn_of _ (by decide +kernel)) ggX6_shareSeen_X6_pairsSeen
theorem dX6_shareSeen_0 : decode cX6_shareSeen 0 = .ok (.aload_n 0, 1) := by decide +kernel
theorem dX6_shareSeen_1 : decode cX6_shareSeen 1 = .ok (.getfield 12, 3) := by decide +kernel
theorem dX6_shareSeen_4 : decode cX6_shareSeen 4 = .ok (.getfield 96, 3) := by decide +kernel
theorem dX6_shareSeen_7 : decode cX6_shareSeen 7 = .ok (.iconst 5, 1) := by decide +kernel
theorem dX6_shareSeen_8 : decode cX6_shareSeen 8 = .ok (.imul, 1) := by decide +kernel
theorem dX6_shareSeen_9 : decode cX6_shareSeen 9 = .ok (.istore_n 1, 1) := by decide +kernel
theorem dX6_shareSeen_10 : decode cX6_shareSeen 10 = .ok (.iload_n 1, 1) := by decide +kernel
theorem dX6_shareSeen_11 : decode cX6_shareSeen 11 = .ok (.ifCond .le 14, 3) := by decide +kernel
theorem dX6_shareSeen_14 : decode cX6_shareSeen 14 = .ok (.aload_n 0, 1) := by decide +kernel
theorem dX6_shareSeen_15 : decode cX6_shareSeen 15 = .ok (.invokevirtual 151, 3) := by decide +kernel
theorem dX6_shareSeen_18 : decode cX6_shareSeen 18 = .ok (.i2d, 1) := by decide +kernel
theorem dX6_shareSeen_19 : decode cX6_shareSeen 19 = .ok (.iload_n 1, 1) := by decide +kernel
theorem dX6_shareSeen_20 : decode cX6_shareSeen 20 = .ok (.i2d, 1) := by decide +kernel
theorem dX6_shareSeen_21 : decode cX6_shareSeen 21 = .ok (.ddiv, 1) := by decide +kernel
theorem dX6_shareSeen_22 : decode cX6_shareSeen 22 = .ok (.goto 4, 3) := by decide +kernel
theorem dX6_shareSeen_25 : decode cX6_shareSeen 25 = .ok (.dconst 1, 1) := by decide +kernel
theorem dX6_shareSeen_26 : decode cX6_shareSeen 26 = .ok (.dreturn, 1) := by decide +kernel
set_option maxRecDepth 20000 in
theorem ggX7_init_X3_init : GoodIn wsX7_init wsX3_init := goodIn_r _ [12, 13, 2, 3, 14, 15, 16] (by decide +kernel) (by decide +kernel)
set_option maxRecDepth 20000 in
theorem gX7_init_X3_init : GoodIn wsX7_init (wsX3_init) := ggX7_init_X3_init
theorem dX7_init_0 : decode cX7_init 0 = .ok (.aload_n 0, 1) := by decide +kernel
theorem dX7_init_1 : decode cX7_init 1 = .ok (.invokespecial 3, 3) := by decide +kernel
theorem dX7_init_4 : decode cX7_init 4 = .ok (.aload_n 0, 1) := by decide +kernel
theorem dX7_init_5 : decode cX7_init 5 = .ok (.new 9, 3) := by decide +kernel
theorem dX7_init_8 : decode cX7_init 8 = .ok (.dup, 1) := by decide +kernel
theorem dX7_init_9 : decode cX7_init 9 = .ok (.iconst 5, 1) := by decide +kernel
theorem dX7_init_10 : decode cX7_init 10 = .ok (.iconst 0, 1) := by decide +kernel
theorem dX7_init_11 : decode cX7_init 11 = .ok (.invokespecial 11, 3) := by decide +kernel
theorem dX7_init_14 : decode cX7_init 14 = .ok (.putfield 14, 3) := by decide +kernel
theorem dX7_init_17 : decode cX7_init 17 = .ok (.aload_n 0, 1) := by decide +kernel
theorem dX7_init_18 : decode cX7_init 18 = .ok (.new 9, 3) := by decide +kernel
theorem dX7_init_21 : decode cX7_init 21 = .ok (.dup, 1) := by decide +kernel
theorem dX7_init_22 : decode cX7_init 22 = .ok (.iconst 5, 1) := by decide +kernel
theorem dX7_init_23 : decode cX7_init 23 = .ok (.iconst 0, 1) := by decide +kernel
theorem dX7_init_24 : decode cX7_init 24 = .ok (.invokespecial 11, 3) := by decide +kernel
theorem dX7_init_27 : decode cX7_init 27 = .ok (.putfield 20, 3) := by decide +kernel
theorem dX7_init_30 : decode cX7_init 30 = .ok (.aload_n 0, 1) := by decide +kernel
theorem dX7_init_31 : decode cX7_init 31 = .ok (.iconst 0, 1) := by decide +kernel
theorem dX7_init_32 : decode cX7_init 32 = .ok (.putfield 23, 3) := by decide +kernel
theorem dX7_init_35 : decode cX7_init 35 = .ok (.return_, 1) := by decide +kernel
set_option maxRecDepth 20000 in
theorem ggX7_note_X3_get : GoodIn wsX7_note wsX3_get := goodIn_r _ [7, 8, 16] (by decide +kernel) (by decide +kernel)
set_option maxRecDepth 20000 in
theorem gX7_note_X3_get : GoodIn wsX7_note (wsV RX7 27 RX3 yX3_get wsX3_get) := goodIn_app (goodIn_of _ (by decide +kernel)) ggX7_note_X3_get
set_option maxRecDepth 20000 in
theorem ggX7_note_X3_put : GoodIn wsX7_note wsX3_put := goodIn_r _ [12, 8, 16] (by decide +kernel) (by decide +kernel)
set_option maxRecDepth 20000 in
theorem gX7_note_X3_put : GoodIn wsX7_note (wsV RX7 31 RX3 yX3_put wsX3_put) := goodIn_app (goodIn_of _ (by decide +kernel)) ggX7_note_X3_put
theorem dX7_note_0 : decode cX7_note 0 = .ok (.aload_n 0, 1) := by decide +kernel
theorem dX7_note_1 : decode cX7_note 1 = .ok (.getfield 14, 3) := by decide +kernel
theorem dX7_note_4 : decode cX7_note 4 = .ok (.iload_n 1, 1) := by decide +kernel
theorem dX7_note_5 : decode cX7_note 5 = .ok (.aload_n 0, 1) := by decide +kernel
theorem dX7_note_6 : decode cX7_note 6 = .ok (.getfield 14, 3) := by decide +kernel
theorem dX7_note_9 : decode cX7_note 9 = .ok (.iload_n 1, 1) := by decide +kernel
theorem dX7_note_10 : decode cX7_note 10 = .ok (.invokevirtual 27, 3) := by decide +kernel
theorem dX7_note_13 : decode cX7_note 13 = .ok (.iconst 1, 1) := by decide +kernel
theorem dX7_note_14 : decode cX7_note 14 = .ok (.iadd, 1) := by decide +kernel
theorem dX7_note_15 : decode cX7_note 15 = .ok (.invokevirtual 31, 3) := by decide +kernel
theorem dX7_note_18 : decode cX7_note 18 = .ok (.iload_n 2, 1) := by decide +kernel
theorem dX7_note_19 : decode cX7_note 19 = .ok (.ifCond .eq 21, 3) := by decide +kernel
theorem dX7_note_22 : decode cX7_note 22 = .ok (.aload_n 0, 1) := by decide +kernel
theorem dX7_note_23 : decode cX7_note 23 = .ok (.getfield 20, 3) := by decide +kernel
theorem dX7_note_26 : decode cX7_note 26 = .ok (.iload_n 1, 1) := by decide +kernel
theorem dX7_note_27 : decode cX7_note 27 = .ok (.aload_n 0, 1) := by decide +kernel
theorem dX7_note_28 : decode cX7_note 28 = .ok (.getfield 20, 3) := by decide +kernel
theorem dX7_note_31 : decode cX7_note 31 = .ok (.iload_n 1, 1) := by decide +kernel
theorem dX7_note_32 : decode cX7_note 32 = .ok (.invokevirtual 27, 3) := by decide +kernel
theorem dX7_note_35 : decode cX7_note 35 = .ok (.iconst 1, 1) := by decide +kernel
theorem dX7_note_36 : decode cX7_note 36 = .ok (.iadd, 1) := by decide +kernel
theorem dX7_note_37 : decode cX7_note 37 = .ok (.invokevirtual 31, 3) := by decide +kernel
theorem dX7_note_40 : decode cX7_note 40 = .ok (.return_, 1) := by decide +kernel
set_option maxRecDepth 20000 in
theorem ggX7_copyFrom_X3_copyFrom : GoodIn wsX7_copyFrom wsX3_copyFrom := goodIn_r _ [8, 9, 10, 11, 12, 7, 13, 17] (by decide +kernel) (by decide +kernel)
set_option maxRecDepth 20000 in
theorem gX7_copyFrom_X3_copyFrom : GoodIn wsX7_copyFrom (wsV RX7 34 RX3 yX3_copyFrom wsX3_copyFrom) := goodIn_app (goodIn_of _ (by decide +kernel)) ggX7_copyFrom_X3_copyFrom
theorem dX7_copyFrom_0 : decode cX7_copyFrom 0 = .ok (.aload_n 0, 1) := by decide +kernel
theorem dX7_copyFrom_1 : decode cX7_copyFrom 1 = .ok (.getfield 14, 3) := by decide +kernel
theorem dX7_copyFrom_4 : decode cX7_copyFrom 4 = .ok (.aload_n 1, 1) := by decide +kernel
theorem dX7_copyFrom_5 : decode cX7_copyFrom 5 = .ok (.getfield 14, 3) := by decide +kernel
theorem dX7_copyFrom_8 : decode cX7_copyFrom 8 = .ok (.invokevirtual 34, 3) := by decide +kernel
theorem dX7_copyFrom_11 : decode cX7_copyFrom 11 = .ok (.aload_n 0, 1) := by decide +kernel
theorem dX7_copyFrom_12 : decode cX7_copyFrom 12 = .ok (.getfield 20, 3) := by decide +kernel
theorem dX7_copyFrom_15 : decode cX7_copyFrom 15 = .ok (.aload_n 1, 1) := by decide +kernel
theorem dX7_copyFrom_16 : decode cX7_copyFrom 16 = .ok (.getfield 20, 3) := by decide +kernel
theorem dX7_copyFrom_19 : decode cX7_copyFrom 19 = .ok (.invokevirtual 34, 3) := by decide +kernel
theorem dX7_copyFrom_22 : decode cX7_copyFrom 22 = .ok (.aload_n 0, 1) := by decide +kernel
theorem dX7_copyFrom_23 : decode cX7_copyFrom 23 = .ok (.aload_n 1, 1) := by decide +kernel
theorem dX7_copyFrom_24 : decode cX7_copyFrom 24 = .ok (.getfield 23, 3) := by decide +kernel
theorem dX7_copyFrom_27 : decode cX7_copyFrom 27 = .ok (.putfield 23, 3) := by decide +kernel
theorem dX7_copyFrom_30 : decode cX7_copyFrom 30 = .ok (.return_, 1) := by decide +kernel
set_option maxRecDepth 20000 in
theorem ggX8_init_X6_init : GoodIn wsX8_init wsX6_init := goodIn_r _ [18, 19, 2, 3, 20, 21, 22, 23, 24, 25, 26, 27, 28, 29, 30, 31, 32, 33, 34, 35, 36, 37, 38, 39, 40, 41, 42, 43, 44, 45, 46, 47, 48, 49, 50, 51, 52, 53, 54, 55, 56, 57, 58, 59, 60, 61, 62, 63, 64, 65, 66, 67, 68, 69, 70, 71, 72, 73, 74, 75, 76, 77, 78, 79, 80, 81, 82, 83, 114, 115, 116, 117, 118, 100, 101, 102, 103, 104, 105, 119, 120, 121, 122, 123, 124, 125, 126, 127] (by decide +kernel) (by decide +kernel)
set_option maxRecDepth 20000 in
theorem gX8_init_X6_init : GoodIn wsX8_init (wsX6_init) := ggX8_init_X6_init
set_option maxRecDepth 20000 in
theorem ggX8_init_X1_init : GoodIn wsX8_init wsX1_init := goodIn_r _ [86, 87, 2, 3, 88, 89, 90, 91, 5, 6, 92, 17, 18, 19, 20, 21, 22, 23, 24, 25, 26, 27, 28, 29, 30, 31, 32, 33, 34, 35, 36, 37, 38, 39, 40, 41, 42, 43, 44, 45, 46, 47, 48, 49, 50, 51, 52, 53, 54, 55, 56, 57, 58, 59, 60, 61, 62, 63, 64, 65, 66, 67, 68, 69, 70, 71, 72, 73, 74, 75, 76, 77, 78, 79, 80, 81, 82, 83, 109, 110, 111, 100, 101, 102, 103, 104, 105, 114, 115, 116, 117, 118, 119, 120, 121, 122, 123, 124, 125, 126, 127] (by decide +kernel) (by decide +kernel)
set_option maxRecDepth 20000 in
theorem gX8_init_X1_init : GoodIn wsX8_init (wsX1_init) := ggX8_init_X1_init
set_option maxRecDepth 20000 in
theorem ggX8_init_X0_init : GoodIn wsX8_init wsX0_init := goodIn_r _ [94, 95, 2, 3, 96, 37, 38, 97, 98, 99, 51, 52, 53, 54, 55, 127, 112, 113] (by decide +kernel) (by decide +kernel)
set_option maxRecDepth 20000 in
theorem gX8_init_X0_init_n25 : GoodIn wsX8_init (wsX0_init) := ggX8_init_X0_init
theorem dX8_init_0 : decode cX8_init 0 = .ok (.aload_n 0, 1) := by decide +kernel
theorem dX8_init_1 : decode cX8_init 1 = .ok (.invokespecial 1, 3) := by decide +kernel
theorem dX8_init_4 : decode cX8_init 4 = .ok (.aload_n 0, 1) := by decide +kernel
theorem dX8_init_5 : decode cX8_init 5 = .ok (.new 7, 3) := by decide +kernel
theorem dX8_init_8 : decode cX8_init 8 = .ok (.dup, 1) := by decide +kernel
theorem dX8_init_9 : decode cX8_init 9 = .ok (.invokespecial 9, 3) := by decide +kernel
theorem dX8_init_12 : decode cX8_init 12 = .ok (.putfield 10, 3) := by decide +kernel
theorem dX8_init_15 : decode cX8_init 15 = .ok (.aload_n 0, 1) := by decide +kernel
theorem dX8_init_16 : decode cX8_init 16 = .ok (.new 16, 3) := by decide +kernel
theorem dX8_init_19 : decode cX8_init 19 = .ok (.dup, 1) := by decide +kernel
theorem dX8_init_20 : decode cX8_init 20 = .ok (.invokespecial 18, 3) := by decide +kernel
theorem dX8_init_23 : decode cX8_init 23 = .ok (.putfield 19, 3) := by decide +kernel
theorem dX8_init_26 : decode cX8_init 26 = .ok (.aload_n 0, 1) := by decide +kernel
theorem dX8_init_27 : decode cX8_init 27 = .ok (.new 23, 3) := by decide +kernel
theorem dX8_init_30 : decode cX8_init 30 = .ok (.dup, 1) := by decide +kernel
theorem dX8_init_31 : decode cX8_init 31 = .ok (.invokespecial 25, 3) := by decide +kernel
theorem dX8_init_34 : decode cX8_init 34 = .ok (.putfield 26, 3) := by decide +kernel
theorem dX8_init_37 : decode cX8_init 37 = .ok (.return_, 1) := by decide +kernel
set_option maxRecDepth 20000 in
theorem ggX8_row_X8_isPerson : GoodIn wsX8_row wsX8_isPerson := goodIn_r _ [14, 15, 16, 13, 17] (by decide +kernel) (by decide +kernel)
set_option maxRecDepth 20000 in
theorem gX8_row_X8_isPerson : GoodIn wsX8_row (va_wsS RX8 30 yX8_isPerson wsX8_isPerson) := goodIn_app (goodIn_of _ (by decide +kernel)) ggX8_row_X8_isPerson
set_option maxRecDepth 20000 in
theorem ggX8_row_X8_isPlace : GoodIn wsX8_row wsX8_isPlace := goodIn_r _ [20, 15, 16, 13, 17] (by decide +kernel) (by decide +kernel)
set_option maxRecDepth 20000 in
theorem gX8_row_X8_isPlace : GoodIn wsX8_row (va_wsS RX8 34 yX8_isPlace wsX8_isPlace) := goodIn_app (goodIn_of _ (by decide +kernel)) ggX8_row_X8_isPlace
set_option maxRecDepth 20000 in
theorem ggX8_row_X8_isValue : GoodIn wsX8_row wsX8_isValue := goodIn_r _ [23, 15, 16, 13, 17] (by decide +kernel) (by decide +kernel)
set_option maxRecDepth 20000 in
theorem gX8_row_X8_isValue : GoodIn wsX8_row (va_wsS RX8 44 yX8_isValue wsX8_isValue) := goodIn_app (goodIn_of _ (by decide +kernel)) ggX8_row_X8_isValue
set_option maxRecDepth 20000 in
theorem ggX8_row_X8_isWithin : GoodIn wsX8_row wsX8_isWithin := goodIn_r _ [17] (by decide +kernel) (by decide +kernel)
set_option maxRecDepth 20000 in
theorem gX8_row_X8_isWithin : GoodIn wsX8_row (va_wsS RX8 47 yX8_isWithin wsX8_isWithin) := goodIn_app (goodIn_of _ (by decide +kernel)) ggX8_row_X8_isWithin
set_option maxRecDepth 20000 in
theorem ggX8_row_X5_isFull : GoodIn wsX8_row wsX5_isFull := goodIn_r _ [28, 29, 119, 120, 121, 122, 123] (by decide +kernel) (by decide +kernel)
set_option maxRecDepth 20000 in
theorem gX8_row_X5_isFull : GoodIn wsX8_row (wsV RX8 60 RX5 yX5_isFull wsX5_isFull) := goodIn_app (goodIn_of _ (by decide +kernel)) ggX8_row_X5_isFull
set_option maxRecDepth 20000 in
theorem ggX8_row_X1_save : GoodIn wsX8_row wsX1_save := goodIn_r _ [34, 35, 36, 37, 38, 39, 40, 41, 42, 43, 33, 44, 45, 46, 47, 48, 49, 50, 51, 52, 53, 54, 55, 56, 57, 58, 59, 27, 60, 61, 62, 63, 64, 29, 65, 66, 67, 68, 69, 70, 71, 72, 73, 74, 75, 76, 77, 78, 79, 80, 81, 82, 83, 84, 85, 86, 87, 88, 89, 90, 91, 92, 93, 94, 95, 96, 97, 98, 99, 100, 101, 124, 125, 126, 113, 114, 115, 116, 117, 118, 119, 120, 121, 122, 123, 127, 128, 129, 130, 131, 132, 133, 134, 135] (by decide +kernel) (by decide +kernel)
set_option maxRecDepth 20000 in
theorem gX8_row_X1_save : GoodIn wsX8_row (wsV RX8 71 RX1 yX1_save wsX1_save) := goodIn_app (goodIn_of _ (by decide +kernel)) ggX8_row_X1_save
set_option maxRecDepth 20000 in
theorem ggX8_row_X5_place : GoodIn wsX8_row wsX5_place := goodIn_r _ [105, 61, 29, 62, 63, 64, 106, 107, 108, 68, 109, 70, 119, 120, 121, 122, 123, 127] (by decide +kernel) (by decide +kernel)
set_option maxRecDepth 20000 in
theorem gX8_row_X5_place : GoodIn wsX8_row (wsV RX8 79 RX5 yX5_place wsX5_place) := goodIn_app (goodIn_of _ (by decide +kernel)) ggX8_row_X5_place
theorem dX8_row_0 : decode cX8_row 0 = .ok (.iload_n 1, 1) := by decide +kernel
theorem dX8_row_1 : decode cX8_row 1 = .ok (.invokestatic 30, 3) := by decide +kernel
theorem dX8_row_4 : decode cX8_row 4 = .ok (.ifCond .eq 10, 3) := by decide +kernel
theorem dX8_row_7 : decode cX8_row 7 = .ok (.iload_n 2, 1) := by decide +kernel
theorem dX8_row_8 : decode cX8_row 8 = .ok (.invokestatic 34, 3) := by decide +kernel
theorem dX8_row_11 : decode cX8_row 11 = .ok (.ifCond .ne 13, 3) := by decide +kernel
theorem dX8_row_14 : decode cX8_row 14 = .ok (.new 37, 3) := by decide +kernel
theorem dX8_row_17 : decode cX8_row 17 = .ok (.dup, 1) := by decide +kernel
theorem dX8_row_18 : decode cX8_row 18 = .ok (.ldc 39, 2) := by decide +kernel
theorem dX8_row_20 : decode cX8_row 20 = .ok (.invokespecial 41, 3) := by decide +kernel
theorem dX8_row_23 : decode cX8_row 23 = .ok (.athrow, 1) := by decide +kernel
theorem dX8_row_24 : decode cX8_row 24 = .ok (.iload_n 3, 1) := by decide +kernel
theorem dX8_row_25 : decode cX8_row 25 = .ok (.invokestatic 44, 3) := by decide +kernel
theorem dX8_row_28 : decode cX8_row 28 = .ok (.ifCond .eq 13, 3) := by decide +kernel
theorem dX8_row_31 : decode cX8_row 31 = .ok (.iload 4, 2) := by decide +kernel
theorem dX8_row_33 : decode cX8_row 33 = .ok (.iconst 0, 1) := by decide +kernel
theorem dX8_row_34 : decode cX8_row 34 = .ok (.iconst 3, 1) := by decide +kernel
theorem dX8_row_35 : decode cX8_row 35 = .ok (.invokestatic 47, 3) := by decide +kernel
theorem dX8_row_38 : decode cX8_row 38 = .ok (.ifCond .ne 13, 3) := by decide +kernel
theorem dX8_row_41 : decode cX8_row 41 = .ok (.new 51, 3) := by decide +kernel
theorem dX8_row_44 : decode cX8_row 44 = .ok (.dup, 1) := by decide +kernel
theorem dX8_row_45 : decode cX8_row 45 = .ok (.ldc 53, 2) := by decide +kernel
theorem dX8_row_47 : decode cX8_row 47 = .ok (.invokespecial 55, 3) := by decide +kernel
theorem dX8_row_50 : decode cX8_row 50 = .ok (.athrow, 1) := by decide +kernel
theorem dX8_row_51 : decode cX8_row 51 = .ok (.aload_n 0, 1) := by decide +kernel
theorem dX8_row_52 : decode cX8_row 52 = .ok (.getfield 10, 3) := by decide +kernel
theorem dX8_row_55 : decode cX8_row 55 = .ok (.getfield 56, 3) := by decide +kernel
theorem dX8_row_58 : decode cX8_row 58 = .ok (.invokevirtual 60, 3) := by decide +kernel
theorem dX8_row_61 : decode cX8_row 61 = .ok (.ifCond .eq 13, 3) := by decide +kernel
theorem dX8_row_64 : decode cX8_row 64 = .ok (.new 66, 3) := by decide +kernel
theorem dX8_row_67 : decode cX8_row 67 = .ok (.dup, 1) := by decide +kernel
theorem dX8_row_68 : decode cX8_row 68 = .ok (.ldc 68, 2) := by decide +kernel
theorem dX8_row_70 : decode cX8_row 70 = .ok (.invokespecial 70, 3) := by decide +kernel
theorem dX8_row_73 : decode cX8_row 73 = .ok (.athrow, 1) := by decide +kernel
theorem dX8_row_74 : decode cX8_row 74 = .ok (.aload_n 0, 1) := by decide +kernel
theorem dX8_row_75 : decode cX8_row 75 = .ok (.getfield 19, 3) := by decide +kernel
theorem dX8_row_78 : decode cX8_row 78 = .ok (.aload_n 0, 1) := by decide +kernel
theorem dX8_row_79 : decode cX8_row 79 = .ok (.getfield 10, 3) := by decide +kernel
theorem dX8_row_82 : decode cX8_row 82 = .ok (.invokevirtual 71, 3) := by decide +kernel
theorem dX8_row_85 : decode cX8_row 85 = .ok (.aload_n 0, 1) := by decide +kernel
theorem dX8_row_86 : decode cX8_row 86 = .ok (.getfield 10, 3) := by decide +kernel
theorem dX8_row_89 : decode cX8_row 89 = .ok (.getfield 56, 3) := by decide +kernel
theorem dX8_row_92 : decode cX8_row 92 = .ok (.getfield 75, 3) := by decide +kernel
theorem dX8_row_95 : decode cX8_row 95 = .ok (.istore 5, 2) := by decide +kernel
theorem dX8_row_97 : decode cX8_row 97 = .ok (.aload_n 0, 1) := by decide +kernel
theorem dX8_row_98 : decode cX8_row 98 = .ok (.getfield 10, 3) := by decide +kernel
theorem dX8_row_101 : decode cX8_row 101 = .ok (.getfield 56, 3) := by decide +kernel
theorem dX8_row_104 : decode cX8_row 104 = .ok (.iload_n 1, 1) := by decide +kernel
theorem dX8_row_105 : decode cX8_row 105 = .ok (.iload_n 2, 1) := by decide +kernel
theorem dX8_row_106 : decode cX8_row 106 = .ok (.iload_n 3, 1) := by decide +kernel
theorem dX8_row_107 : decode cX8_row 107 = .ok (.iload 4, 2) := by decide +kernel
theorem dX8_row_109 : decode cX8_row 109 = .ok (.invokevirtual 79, 3) := by decide +kernel
theorem dX8_row_112 : decode cX8_row 112 = .ok (.iload 5, 2) := by decide +kernel
theorem dX8_row_114 : decode cX8_row 114 = .ok (.ireturn, 1) := by decide +kernel
set_option maxRecDepth 20000 in
theorem ggX8_drop_X8_requireRow : GoodIn wsX8_drop wsX8_requireRow := goodIn_ca (goodIn_r _ [10, 11, 12, 2, 3, 5, 13, 14, 9, 15, 108, 109, 110, 111, 112, 113, 114, 115, 116, 117, 118, 119, 120, 121] (by decide +kernel) (by decide +kernel)) (goodIn_sub (fun _ h => List.mem_cons_of_mem _ (List.mem_append_right _ h)) (by decide +kernel))
set_option maxRecDepth 20000 in
theorem gX8_drop_X8_requireRow : GoodIn wsX8_drop (wsV RX8 83 RX8 yX8_requireRow wsX8_requireRow) := goodIn_app (goodIn_of _ (by decide +kernel)) ggX8_drop_X8_requireRow
set_option maxRecDepth 20000 in
theorem ggX8_drop_X1_save : GoodIn wsX8_drop wsX1_save := goodIn_r _ [20, 21, 22, 23, 24, 25, 26, 27, 28, 29, 19, 30, 31, 32, 33, 34, 35, 36, 37, 38, 39, 40, 41, 42, 43, 44, 45, 46, 47, 48, 49, 50, 51, 52, 53, 54, 55, 56, 57, 58, 59, 60, 61, 62, 63, 64, 65, 66, 67, 68, 69, 70, 71, 72, 73, 74, 75, 76, 77, 78, 79, 80, 81, 82, 83, 84, 85, 86, 87, 88, 89, 122, 123, 124, 111, 112, 113, 114, 115, 116, 117, 118, 119, 120, 121, 125, 126, 127, 128, 129, 130, 131, 132, 133] (by decide +kernel) (by decide +kernel)
set_option maxRecDepth 20000 in
theorem gX8_drop_X1_save : GoodIn wsX8_drop (wsV RX8 71 RX1 yX1_save wsX1_save) := goodIn_app (goodIn_of _ (by decide +kernel)) ggX8_drop_X1_save
set_option maxRecDepth 20000 in
theorem ggX8_drop_X5_takeOut : GoodIn wsX8_drop wsX5_takeOut := goodIn_r _ [93, 48, 52, 49, 50, 51, 94, 95, 96, 56, 97, 59, 60, 61, 62, 58, 98, 99, 100, 101, 117, 118, 119, 120, 121, 125] (by decide +kernel) (by decide +kernel)
set_option maxRecDepth 20000 in
theorem gX8_drop_X5_takeOut : GoodIn wsX8_drop (wsV RX8 87 RX5 yX5_takeOut wsX5_takeOut) := goodIn_app (goodIn_of _ (by decide +kernel)) ggX8_drop_X5_takeOut
set_option maxRecDepth 20000 in
theorem ggX8_drop_X2_takeOut : GoodIn wsX8_drop wsX2_takeOut := goodIn_r _ [105, 77, 106, 60, 61, 56, 62, 58, 107, 99, 100, 101, 129, 130, 125] (by decide +kernel) (by decide +kernel)
set_option maxRecDepth 20000 in
theorem gX8_drop_X2_takeOut : GoodIn wsX8_drop (wsV RX8 94 RX2 yX2_takeOut wsX2_takeOut) := goodIn_app (goodIn_of _ (by decide +kernel)) ggX8_drop_X2_takeOut
theorem dX8_drop_0 : decode cX8_drop 0 = .ok (.aload_n 0, 1) := by decide +kernel
theorem dX8_drop_1 : decode cX8_drop 1 = .ok (.iload_n 1, 1) := by decide +kernel
theorem dX8_drop_2 : decode cX8_drop 2 = .ok (.invokevirtual 83, 3) := by decide +kernel
theorem dX8_drop_5 : decode cX8_drop 5 = .ok (.aload_n 0, 1) := by decide +kernel
theorem dX8_drop_6 : decode cX8_drop 6 = .ok (.getfield 19, 3) := by decide +kernel
theorem dX8_drop_9 : decode cX8_drop 9 = .ok (.aload_n 0, 1) := by decide +kernel
theorem dX8_drop_10 : decode cX8_drop 10 = .ok (.getfield 10, 3) := by decide +kernel
theorem dX8_drop_13 : decode cX8_drop 13 = .ok (.invokevirtual 71, 3) := by decide +kernel
theorem dX8_drop_16 : decode cX8_drop 16 = .ok (.aload_n 0, 1) := by decide +kernel
theorem dX8_drop_17 : decode cX8_drop 17 = .ok (.getfield 10, 3) := by decide +kernel
theorem dX8_drop_20 : decode cX8_drop 20 = .ok (.getfield 56, 3) := by decide +kernel
theorem dX8_drop_23 : decode cX8_drop 23 = .ok (.iload_n 1, 1) := by decide +kernel
theorem dX8_drop_24 : decode cX8_drop 24 = .ok (.invokevirtual 87, 3) := by decide +kernel
theorem dX8_drop_27 : decode cX8_drop 27 = .ok (.aload_n 0, 1) := by decide +kernel
theorem dX8_drop_28 : decode cX8_drop 28 = .ok (.getfield 10, 3) := by decide +kernel
theorem dX8_drop_31 : decode cX8_drop 31 = .ok (.getfield 90, 3) := by decide +kernel
theorem dX8_drop_34 : decode cX8_drop 34 = .ok (.iload_n 1, 1) := by decide +kernel
theorem dX8_drop_35 : decode cX8_drop 35 = .ok (.invokevirtual 94, 3) := by decide +kernel
theorem dX8_drop_38 : decode cX8_drop 38 = .ok (.aload_n 0, 1) := by decide +kernel
theorem dX8_drop_39 : decode cX8_drop 39 = .ok (.getfield 10, 3) := by decide +kernel
theorem dX8_drop_42 : decode cX8_drop 42 = .ok (.getfield 56, 3) := by decide +kernel
theorem dX8_drop_45 : decode cX8_drop 45 = .ok (.getfield 75, 3) := by decide +kernel
theorem dX8_drop_48 : decode cX8_drop 48 = .ok (.ireturn, 1) := by decide +kernel
set_option maxRecDepth 20000 in
theorem ggX8_change_X8_requireRow : GoodIn wsX8_change wsX8_requireRow := goodIn_ca (goodIn_r _ [11, 12, 13, 4, 5, 14, 15, 16, 10, 17, 103, 104, 105, 106, 107, 108, 109, 110, 111, 112, 113, 114, 115, 116] (by decide +kernel) (by decide +kernel)) (goodIn_sub (fun _ h => List.mem_cons_of_mem _ (List.mem_append_right _ h)) (by decide +kernel))
set_option maxRecDepth 20000 in
theorem gX8_change_X8_requireRow : GoodIn wsX8_change (wsV RX8 83 RX8 yX8_requireRow wsX8_requireRow) := goodIn_app (goodIn_of _ (by decide +kernel)) ggX8_change_X8_requireRow
set_option maxRecDepth 20000 in
theorem ggX8_change_X8_isValue : GoodIn wsX8_change wsX8_isValue := goodIn_r _ [20, 15, 16, 10, 17] (by decide +kernel) (by decide +kernel)
set_option maxRecDepth 20000 in
theorem gX8_change_X8_isValue : GoodIn wsX8_change (va_wsS RX8 44 yX8_isValue wsX8_isValue) := goodIn_app (goodIn_of _ (by decide +kernel)) ggX8_change_X8_isValue
set_option maxRecDepth 20000 in
theorem ggX8_change_X1_save : GoodIn wsX8_change wsX1_save := goodIn_r _ [25, 26, 27, 28, 29, 30, 31, 32, 33, 34, 24, 35, 36, 37, 38, 39, 40, 41, 42, 43, 44, 45, 46, 47, 48, 49, 50, 51, 52, 53, 54, 55, 56, 57, 58, 59, 60, 61, 62, 63, 64, 65, 66, 67, 68, 69, 70, 71, 72, 73, 74, 75, 76, 77, 78, 79, 80, 81, 82, 83, 84, 85, 86, 87, 88, 89, 90, 91, 92, 93, 94, 117, 118, 119, 106, 107, 108, 109, 110, 111, 112, 113, 114, 115, 116, 120, 121, 122, 123, 124, 125, 126, 127, 128] (by decide +kernel) (by decide +kernel)
set_option maxRecDepth 20000 in
theorem gX8_change_X1_save : GoodIn wsX8_change (wsV RX8 71 RX1 yX1_save wsX1_save) := goodIn_app (goodIn_of _ (by decide +kernel)) ggX8_change_X1_save
set_option maxRecDepth 20000 in
theorem ggX8_change_X3_swap : GoodIn wsX8_change wsX3_swap := goodIn_r _ [98, 64, 65, 66, 61, 67, 63, 99, 100, 101, 102, 120] (by decide +kernel) (by decide +kernel)
set_option maxRecDepth 20000 in
theorem gX8_change_X3_swap : GoodIn wsX8_change (wsV RX8 103 RX3 yX3_swap wsX3_swap) := goodIn_app (goodIn_of _ (by decide +kernel)) ggX8_change_X3_swap
theorem dX8_change_0 : decode cX8_change 0 = .ok (.aload_n 0, 1) := by decide +kernel
theorem dX8_change_1 : decode cX8_change 1 = .ok (.iload_n 1, 1) := by decide +kernel
theorem dX8_change_2 : decode cX8_change 2 = .ok (.invokevirtual 83, 3) := by decide +kernel
theorem dX8_change_5 : decode cX8_change 5 = .ok (.iload_n 2, 1) := by decide +kernel
theorem dX8_change_6 : decode cX8_change 6 = .ok (.invokestatic 44, 3) := by decide +kernel
theorem dX8_change_9 : decode cX8_change 9 = .ok (.ifCond .ne 13, 3) := by decide +kernel
theorem dX8_change_12 : decode cX8_change 12 = .ok (.new 51, 3) := by decide +kernel
theorem dX8_change_15 : decode cX8_change 15 = .ok (.dup, 1) := by decide +kernel
theorem dX8_change_16 : decode cX8_change 16 = .ok (.ldc 97, 2) := by decide +kernel
theorem dX8_change_18 : decode cX8_change 18 = .ok (.invokespecial 55, 3) := by decide +kernel
theorem dX8_change_21 : decode cX8_change 21 = .ok (.athrow, 1) := by decide +kernel
theorem dX8_change_22 : decode cX8_change 22 = .ok (.aload_n 0, 1) := by decide +kernel
theorem dX8_change_23 : decode cX8_change 23 = .ok (.getfield 19, 3) := by decide +kernel
theorem dX8_change_26 : decode cX8_change 26 = .ok (.aload_n 0, 1) := by decide +kernel
theorem dX8_change_27 : decode cX8_change 27 = .ok (.getfield 10, 3) := by decide +kernel
theorem dX8_change_30 : decode cX8_change 30 = .ok (.invokevirtual 71, 3) := by decide +kernel
theorem dX8_change_33 : decode cX8_change 33 = .ok (.aload_n 0, 1) := by decide +kernel
theorem dX8_change_34 : decode cX8_change 34 = .ok (.getfield 10, 3) := by decide +kernel
theorem dX8_change_37 : decode cX8_change 37 = .ok (.getfield 56, 3) := by decide +kernel
theorem dX8_change_40 : decode cX8_change 40 = .ok (.getfield 99, 3) := by decide +kernel
theorem dX8_change_43 : decode cX8_change 43 = .ok (.iload_n 1, 1) := by decide +kernel
theorem dX8_change_44 : decode cX8_change 44 = .ok (.iload_n 2, 1) := by decide +kernel
theorem dX8_change_45 : decode cX8_change 45 = .ok (.invokevirtual 103, 3) := by decide +kernel
theorem dX8_change_48 : decode cX8_change 48 = .ok (.ireturn, 1) := by decide +kernel
set_option maxRecDepth 20000 in
theorem ggX8_person_X8_isPerson : GoodIn wsX8_person wsX8_isPerson := goodIn_r _ [13, 14, 15, 12, 16] (by decide +kernel) (by decide +kernel)
set_option maxRecDepth 20000 in
theorem gX8_person_X8_isPerson : GoodIn wsX8_person (va_wsS RX8 30 yX8_isPerson wsX8_isPerson) := goodIn_app (goodIn_of _ (by decide +kernel)) ggX8_person_X8_isPerson
set_option maxRecDepth 20000 in
theorem ggX8_person_X8_isPlace : GoodIn wsX8_person wsX8_isPlace := goodIn_r _ [19, 14, 15, 12, 16] (by decide +kernel) (by decide +kernel)
set_option maxRecDepth 20000 in
theorem gX8_person_X8_isPlace : GoodIn wsX8_person (va_wsS RX8 34 yX8_isPlace wsX8_isPlace) := goodIn_app (goodIn_of _ (by decide +kernel)) ggX8_person_X8_isPlace
set_option maxRecDepth 20000 in
theorem ggX8_person_X8_isWithin : GoodIn wsX8_person wsX8_isWithin := goodIn_r _ [16] (by decide +kernel) (by decide +kernel)
set_option maxRecDepth 20000 in
theorem gX8_person_X8_isWithin : GoodIn wsX8_person (va_wsS RX8 47 yX8_isWithin wsX8_isWithin) := goodIn_app (goodIn_of _ (by decide +kernel)) ggX8_person_X8_isWithin
set_option maxRecDepth 20000 in
theorem ggX8_person_X1_save : GoodIn wsX8_person wsX1_save := goodIn_r _ [24, 25, 26, 27, 28, 29, 30, 31, 32, 33, 23, 34, 35, 36, 37, 38, 39, 40, 41, 42, 43, 44, 45, 46, 47, 48, 49, 50, 51, 52, 53, 54, 55, 56, 57, 58, 59, 60, 61, 62, 63, 64, 65, 66, 67, 68, 69, 70, 71, 72, 73, 74, 75, 76, 77, 78, 79, 80, 81, 82, 83, 84, 85, 86, 87, 88, 89, 90, 91, 92, 93, 115, 116, 117, 106, 107, 108, 109, 110, 111, 118, 119, 120, 121, 122, 123, 112, 113, 114, 124, 125, 126, 127, 128] (by decide +kernel) (by decide +kernel)
set_option maxRecDepth 20000 in
theorem gX8_person_X1_save : GoodIn wsX8_person (wsV RX8 71 RX1 yX1_save wsX1_save) := goodIn_app (goodIn_of _ (by decide +kernel)) ggX8_person_X1_save
set_option maxRecDepth 20000 in
theorem ggX8_person_X3_put : GoodIn wsX8_person wsX3_put := goodIn_r _ [97, 62, 123] (by decide +kernel) (by decide +kernel)
set_option maxRecDepth 20000 in
theorem gX8_person_X3_put : GoodIn wsX8_person (wsV RX8 122 RX3 yX3_put wsX3_put) := goodIn_app (goodIn_of _ (by decide +kernel)) ggX8_person_X3_put
set_option maxRecDepth 20000 in
theorem ggX8_person_X3_swap : GoodIn wsX8_person wsX3_swap := goodIn_r _ [101, 63, 64, 65, 60, 66, 62, 102, 95, 96, 97, 123] (by decide +kernel) (by decide +kernel)
set_option maxRecDepth 20000 in
theorem gX8_person_X3_swap : GoodIn wsX8_person (wsV RX8 103 RX3 yX3_swap wsX3_swap) := goodIn_app (goodIn_of _ (by decide +kernel)) ggX8_person_X3_swap
theorem dX8_person_0 : decode cX8_person 0 = .ok (.iload_n 1, 1) := by decide +kernel
