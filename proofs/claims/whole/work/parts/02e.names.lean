theorem dX6_hiddenByAlone_1 : decode cX6_hiddenByAlone 1 = .ok (.istore_n 2, 1) := by decide +kernel
theorem dX6_hiddenByAlone_2 : decode cX6_hiddenByAlone 2 = .ok (.iconst 0, 1) := by decide +kernel
theorem dX6_hiddenByAlone_3 : decode cX6_hiddenByAlone 3 = .ok (.istore_n 3, 1) := by decide +kernel
theorem dX6_hiddenByAlone_4 : decode cX6_hiddenByAlone 4 = .ok (.iload_n 3, 1) := by decide +kernel
theorem dX6_hiddenByAlone_5 : decode cX6_hiddenByAlone 5 = .ok (.iconst 5, 1) := by decide +kernel
theorem dX6_hiddenByAlone_6 : decode cX6_hiddenByAlone 6 = .ok (.if_icmp .ge 46, 3) := by decide +kernel
theorem dX6_hiddenByAlone_9 : decode cX6_hiddenByAlone 9 = .ok (.iconst 0, 1) := by decide +kernel
theorem dX6_hiddenByAlone_10 : decode cX6_hiddenByAlone 10 = .ok (.istore 4, 2) := by decide +kernel
theorem dX6_hiddenByAlone_12 : decode cX6_hiddenByAlone 12 = .ok (.iload 4, 2) := by decide +kernel
theorem dX6_hiddenByAlone_14 : decode cX6_hiddenByAlone 14 = .ok (.aload_n 0, 1) := by decide +kernel
theorem dX6_hiddenByAlone_15 : decode cX6_hiddenByAlone 15 = .ok (.getfield 12, 3) := by decide +kernel
theorem dX6_hiddenByAlone_18 : decode cX6_hiddenByAlone 18 = .ok (.getfield 96, 3) := by decide +kernel
theorem dX6_hiddenByAlone_21 : decode cX6_hiddenByAlone 21 = .ok (.if_icmp .ge 25, 3) := by decide +kernel
theorem dX6_hiddenByAlone_24 : decode cX6_hiddenByAlone 24 = .ok (.aload_n 0, 1) := by decide +kernel
theorem dX6_hiddenByAlone_25 : decode cX6_hiddenByAlone 25 = .ok (.iload_n 3, 1) := by decide +kernel
theorem dX6_hiddenByAlone_26 : decode cX6_hiddenByAlone 26 = .ok (.iload 4, 2) := by decide +kernel
theorem dX6_hiddenByAlone_28 : decode cX6_hiddenByAlone 28 = .ok (.invokevirtual 103, 3) := by decide +kernel
theorem dX6_hiddenByAlone_31 : decode cX6_hiddenByAlone 31 = .ok (.iconst 1, 1) := by decide +kernel
theorem dX6_hiddenByAlone_32 : decode cX6_hiddenByAlone 32 = .ok (.iload_n 1, 1) := by decide +kernel
theorem dX6_hiddenByAlone_33 : decode cX6_hiddenByAlone 33 = .ok (.ishl, 1) := by decide +kernel
theorem dX6_hiddenByAlone_34 : decode cX6_hiddenByAlone 34 = .ok (.if_icmp .ne 6, 3) := by decide +kernel
theorem dX6_hiddenByAlone_37 : decode cX6_hiddenByAlone 37 = .ok (.iinc 2 1, 3) := by decide +kernel
theorem dX6_hiddenByAlone_40 : decode cX6_hiddenByAlone 40 = .ok (.iinc 4 1, 3) := by decide +kernel
theorem dX6_hiddenByAlone_43 : decode cX6_hiddenByAlone 43 = .ok (.goto (-31), 3) := by decide +kernel
theorem dX6_hiddenByAlone_46 : decode cX6_hiddenByAlone 46 = .ok (.iinc 3 1, 3) := by decide +kernel
theorem dX6_hiddenByAlone_49 : decode cX6_hiddenByAlone 49 = .ok (.goto (-45), 3) := by decide +kernel
theorem dX6_hiddenByAlone_52 : decode cX6_hiddenByAlone 52 = .ok (.iload_n 2, 1) := by decide +kernel
theorem dX6_hiddenByAlone_53 : decode cX6_hiddenByAlone 53 = .ok (.ireturn, 1) := by decide +kernel
set_option maxRecDepth 20000 in
theorem ggX6_whoSeesFewest_X6_allSeen : GoodIn wsX6_whoSeesFewest wsX6_allSeen := goodIn_r _ [5, 6, 7, 8, 4, 9, 10, 11, 12, 13, 14, 15, 16, 17, 18, 19, 20, 21, 22, 23, 24, 25, 26, 27, 28, 29, 30, 31, 32, 33, 34, 35, 36, 37, 38, 46, 47, 48, 49, 50, 51, 52, 53, 54, 55, 56, 57, 58, 59, 60] (by decide +kernel) (by decide +kernel)
set_option maxRecDepth 20000 in
theorem gX6_whoSeesFewest_X6_allSeen : GoodIn wsX6_whoSeesFewest (wsV RX6 139 RX6 yX6_allSeen wsX6_allSeen) := goodIn_app (goodIn_of _ (by decide +kernel)) ggX6_whoSeesFewest_X6_allSeen
set_option maxRecDepth 20000 in
theorem ggX6_whoSeesFewest_J6_bitCount_0f7a4 : GoodIn wsX6_whoSeesFewest wsJ6_bitCount_0f7a4 := goodIn_r _ [42, 43, 44, 45] (by decide +kernel) (by decide +kernel)
set_option maxRecDepth 20000 in
theorem gX6_whoSeesFewest_J6_bitCount_0f7a4 : GoodIn wsX6_whoSeesFewest (va_wsS RX6 119 yJ6_bitCount_0f7a4 wsJ6_bitCount_0f7a4) := goodIn_app (goodIn_of _ (by decide +kernel)) ggX6_whoSeesFewest_J6_bitCount_0f7a4
theorem dX6_whoSeesFewest_0 : decode cX6_whoSeesFewest 0 = .ok (.iconst 0, 1) := by decide +kernel
theorem dX6_whoSeesFewest_1 : decode cX6_whoSeesFewest 1 = .ok (.istore_n 1, 1) := by decide +kernel
theorem dX6_whoSeesFewest_2 : decode cX6_whoSeesFewest 2 = .ok (.bipush 17, 2) := by decide +kernel
theorem dX6_whoSeesFewest_4 : decode cX6_whoSeesFewest 4 = .ok (.istore_n 2, 1) := by decide +kernel
theorem dX6_whoSeesFewest_5 : decode cX6_whoSeesFewest 5 = .ok (.iconst 0, 1) := by decide +kernel
theorem dX6_whoSeesFewest_6 : decode cX6_whoSeesFewest 6 = .ok (.istore_n 3, 1) := by decide +kernel
theorem dX6_whoSeesFewest_7 : decode cX6_whoSeesFewest 7 = .ok (.iload_n 3, 1) := by decide +kernel
theorem dX6_whoSeesFewest_8 : decode cX6_whoSeesFewest 8 = .ok (.iconst 5, 1) := by decide +kernel
theorem dX6_whoSeesFewest_9 : decode cX6_whoSeesFewest 9 = .ok (.if_icmp .ge 30, 3) := by decide +kernel
theorem dX6_whoSeesFewest_12 : decode cX6_whoSeesFewest 12 = .ok (.aload_n 0, 1) := by decide +kernel
theorem dX6_whoSeesFewest_13 : decode cX6_whoSeesFewest 13 = .ok (.iload_n 3, 1) := by decide +kernel
theorem dX6_whoSeesFewest_14 : decode cX6_whoSeesFewest 14 = .ok (.invokevirtual 139, 3) := by decide +kernel
theorem dX6_whoSeesFewest_17 : decode cX6_whoSeesFewest 17 = .ok (.invokestatic 119, 3) := by decide +kernel
theorem dX6_whoSeesFewest_20 : decode cX6_whoSeesFewest 20 = .ok (.istore 4, 2) := by decide +kernel
theorem dX6_whoSeesFewest_22 : decode cX6_whoSeesFewest 22 = .ok (.iload 4, 2) := by decide +kernel
theorem dX6_whoSeesFewest_24 : decode cX6_whoSeesFewest 24 = .ok (.iload_n 2, 1) := by decide +kernel
theorem dX6_whoSeesFewest_25 : decode cX6_whoSeesFewest 25 = .ok (.if_icmp .ge 8, 3) := by decide +kernel
theorem dX6_whoSeesFewest_28 : decode cX6_whoSeesFewest 28 = .ok (.iload_n 3, 1) := by decide +kernel
theorem dX6_whoSeesFewest_29 : decode cX6_whoSeesFewest 29 = .ok (.istore_n 1, 1) := by decide +kernel
theorem dX6_whoSeesFewest_30 : decode cX6_whoSeesFewest 30 = .ok (.iload 4, 2) := by decide +kernel
theorem dX6_whoSeesFewest_32 : decode cX6_whoSeesFewest 32 = .ok (.istore_n 2, 1) := by decide +kernel
theorem dX6_whoSeesFewest_33 : decode cX6_whoSeesFewest 33 = .ok (.iinc 3 1, 3) := by decide +kernel
theorem dX6_whoSeesFewest_36 : decode cX6_whoSeesFewest 36 = .ok (.goto (-29), 3) := by decide +kernel
theorem dX6_whoSeesFewest_39 : decode cX6_whoSeesFewest 39 = .ok (.iload_n 1, 1) := by decide +kernel
theorem dX6_whoSeesFewest_40 : decode cX6_whoSeesFewest 40 = .ok (.ireturn, 1) := by decide +kernel
set_option maxRecDepth 20000 in
theorem ggX6_pairsSeen_X6_allSeen : GoodIn wsX6_pairsSeen wsX6_allSeen := goodIn_r _ [5, 6, 7, 8, 4, 9, 10, 11, 12, 13, 14, 15, 16, 17, 18, 19, 20, 21, 22, 23, 24, 25, 26, 27, 28, 29, 30, 31, 32, 33, 34, 35, 36, 37, 38, 46, 47, 48, 49, 50, 51, 52, 53, 54, 55, 56, 57, 58, 59, 60] (by decide +kernel) (by decide +kernel)
set_option maxRecDepth 20000 in
theorem gX6_pairsSeen_X6_allSeen : GoodIn wsX6_pairsSeen (wsV RX6 139 RX6 yX6_allSeen wsX6_allSeen) := goodIn_app (goodIn_of _ (by decide +kernel)) ggX6_pairsSeen_X6_allSeen
set_option maxRecDepth 20000 in
theorem ggX6_pairsSeen_J6_bitCount_0f7a4 : GoodIn wsX6_pairsSeen wsJ6_bitCount_0f7a4 := goodIn_r _ [42, 43, 44, 45] (by decide +kernel) (by decide +kernel)
set_option maxRecDepth 20000 in
theorem gX6_pairsSeen_J6_bitCount_0f7a4 : GoodIn wsX6_pairsSeen (va_wsS RX6 119 yJ6_bitCount_0f7a4 wsJ6_bitCount_0f7a4) := goodIn_app (goodIn_of _ (by decide +kernel)) ggX6_pairsSeen_J6_bitCount_0f7a4
theorem dX6_pairsSeen_0 : decode cX6_pairsSeen 0 = .ok (.iconst 0, 1) := by decide +kernel
theorem dX6_pairsSeen_1 : decode cX6_pairsSeen 1 = .ok (.istore_n 1, 1) := by decide +kernel
theorem dX6_pairsSeen_2 : decode cX6_pairsSeen 2 = .ok (.iconst 0, 1) := by decide +kernel
theorem dX6_pairsSeen_3 : decode cX6_pairsSeen 3 = .ok (.istore_n 2, 1) := by decide +kernel
theorem dX6_pairsSeen_4 : decode cX6_pairsSeen 4 = .ok (.iload_n 2, 1) := by decide +kernel
theorem dX6_pairsSeen_5 : decode cX6_pairsSeen 5 = .ok (.iconst 5, 1) := by decide +kernel
theorem dX6_pairsSeen_6 : decode cX6_pairsSeen 6 = .ok (.if_icmp .ge 20, 3) := by decide +kernel
theorem dX6_pairsSeen_9 : decode cX6_pairsSeen 9 = .ok (.iload_n 1, 1) := by decide +kernel
theorem dX6_pairsSeen_10 : decode cX6_pairsSeen 10 = .ok (.aload_n 0, 1) := by decide +kernel
theorem dX6_pairsSeen_11 : decode cX6_pairsSeen 11 = .ok (.iload_n 2, 1) := by decide +kernel
theorem dX6_pairsSeen_12 : decode cX6_pairsSeen 12 = .ok (.invokevirtual 139, 3) := by decide +kernel
theorem dX6_pairsSeen_15 : decode cX6_pairsSeen 15 = .ok (.invokestatic 119, 3) := by decide +kernel
theorem dX6_pairsSeen_18 : decode cX6_pairsSeen 18 = .ok (.iadd, 1) := by decide +kernel
theorem dX6_pairsSeen_19 : decode cX6_pairsSeen 19 = .ok (.istore_n 1, 1) := by decide +kernel
theorem dX6_pairsSeen_20 : decode cX6_pairsSeen 20 = .ok (.iinc 2 1, 3) := by decide +kernel
theorem dX6_pairsSeen_23 : decode cX6_pairsSeen 23 = .ok (.goto (-19), 3) := by decide +kernel
theorem dX6_pairsSeen_26 : decode cX6_pairsSeen 26 = .ok (.iload_n 1, 1) := by decide +kernel
theorem dX6_pairsSeen_27 : decode cX6_pairsSeen 27 = .ok (.ireturn, 1) := by decide +kernel
set_option maxRecDepth 20000 in
theorem ggX6_shareSeen_X6_pairsSeen : GoodIn wsX6_shareSeen wsX6_pairsSeen := goodIn_r _ [7, 8, 9, 10, 6, 11, 12, 13, 14, 15, 1, 2, 16, 17, 18, 19, 20, 21, 22, 23, 24, 25, 26, 27, 28, 29, 30, 31, 32, 33, 34, 35, 36, 37, 38, 39, 40, 41, 42, 43, 44, 45, 46, 47, 48, 49, 50, 51, 52, 53, 54, 55, 56, 57, 58, 59, 60, 61, 62, 63, 64] (by decide +kernel) (by decide +kernel)
set_option maxRecDepth 20000 in
theorem gX6_shareSeen_X6_pairsSeen : GoodIn wsX6_shareSeen (wsV RX6 151 RX6 yX6_pairsSeen wsX6_pairsSeen) := goodIn_app (goodIn_of _ (by decide +kernel)) ggX6_shareSeen_X6_pairsSeen
theorem dX6_shareSeen_0 : decode cX6_shareSeen 0 = .ok (.aload_n 0, 1) := by decide +kernel
theorem dX6_shareSeen_1 : decode cX6_shareSeen 1 = .ok (.getfield 12, 3) := by decide +kernel
theorem dX6_shareSeen_4 : decode cX6_shareSeen 4 = .ok (.getfield 96, 3) := by decide +kernel
theorem dX6_shareSeen_7 : decode cX6_shareSeen 7 = .ok (.iconst 5, 1) := by decide +kernel
theorem dX6_shareSeen_8 : decode cX6_shareSeen 8 = .ok (.imul, 1) := by decide +kernel
theorem dX6_shareSeen_9 : decode cX6_shareSeen 9 = .ok (.istore_n 1, 1) := by decide +kernel
theorem dX6_shareSeen_10 : decode cX6_shareSeen 10 = .ok (.iload_n 1, 1) := by decide +kernel
theorem dX6_shareSeen_11 : decode cX6_shareSeen 11 = .ok (.ifCond .le 14, 3) := by decide +kernel
theorem dX6_shareSeen_14 : decode cX6_shareSeen 14 = .ok (.aload_n 0, 1) := by decide +kernel
theorem dX6_shareSeen_15 : decode cX6_shareSeen 15 = .ok (.invokevirtual 151, 3) := by decide +kernel
theorem dX6_shareSeen_18 : decode cX6_shareSeen 18 = .ok (.i2d, 1) := by decide +kernel
theorem dX6_shareSeen_19 : decode cX6_shareSeen 19 = .ok (.iload_n 1, 1) := by decide +kernel
theorem dX6_shareSeen_20 : decode cX6_shareSeen 20 = .ok (.i2d, 1) := by decide +kernel
theorem dX6_shareSeen_21 : decode cX6_shareSeen 21 = .ok (.ddiv, 1) := by decide +kernel
theorem dX6_shareSeen_22 : decode cX6_shareSeen 22 = .ok (.goto 4, 3) := by decide +kernel
theorem dX6_shareSeen_25 : decode cX6_shareSeen 25 = .ok (.dconst 1, 1) := by decide +kernel
theorem dX6_shareSeen_26 : decode cX6_shareSeen 26 = .ok (.dreturn, 1) := by decide +kernel
set_option maxRecDepth 20000 in
theorem ggX7_init_X3_init : GoodIn wsX7_init wsX3_init := goodIn_r _ [12, 13, 2, 3, 14, 15, 16] (by decide +kernel) (by decide +kernel)
set_option maxRecDepth 20000 in
theorem gX7_init_X3_init : GoodIn wsX7_init (wsX3_init) := ggX7_init_X3_init
theorem dX7_init_0 : decode cX7_init 0 = .ok (.aload_n 0, 1) := by decide +kernel
theorem dX7_init_1 : decode cX7_init 1 = .ok (.invokespecial 3, 3) := by decide +kernel
theorem dX7_init_4 : decode cX7_init 4 = .ok (.aload_n 0, 1) := by decide +kernel
theorem dX7_init_5 : decode cX7_init 5 = .ok (.new 9, 3) := by decide +kernel
theorem dX7_init_8 : decode cX7_init 8 = .ok (.dup, 1) := by decide +kernel
theorem dX7_init_9 : decode cX7_init 9 = .ok (.iconst 5, 1) := by decide +kernel
theorem dX7_init_10 : decode cX7_init 10 = .ok (.iconst 0, 1) := by decide +kernel
theorem dX7_init_11 : decode cX7_init 11 = .ok (.invokespecial 11, 3) := by decide +kernel
theorem dX7_init_14 : decode cX7_init 14 = .ok (.putfield 14, 3) := by decide +kernel
theorem dX7_init_17 : decode cX7_init 17 = .ok (.aload_n 0, 1) := by decide +kernel
theorem dX7_init_18 : decode cX7_init 18 = .ok (.new 9, 3) := by decide +kernel
theorem dX7_init_21 : decode cX7_init 21 = .ok (.dup, 1) := by decide +kernel
theorem dX7_init_22 : decode cX7_init 22 = .ok (.iconst 5, 1) := by decide +kernel
theorem dX7_init_23 : decode cX7_init 23 = .ok (.iconst 0, 1) := by decide +kernel
theorem dX7_init_24 : decode cX7_init 24 = .ok (.invokespecial 11, 3) := by decide +kernel
theorem dX7_init_27 : decode cX7_init 27 = .ok (.putfield 20, 3) := by decide +kernel
theorem dX7_init_30 : decode cX7_init 30 = .ok (.aload_n 0, 1) := by decide +kernel
theorem dX7_init_31 : decode cX7_init 31 = .ok (.iconst 0, 1) := by decide +kernel
theorem dX7_init_32 : decode cX7_init 32 = .ok (.putfield 23, 3) := by decide +kernel
theorem dX7_init_35 : decode cX7_init 35 = .ok (.return_, 1) := by decide +kernel
set_option maxRecDepth 20000 in
theorem ggX7_note_X3_get : GoodIn wsX7_note wsX3_get := goodIn_r _ [7, 8, 16] (by decide +kernel) (by decide +kernel)
set_option maxRecDepth 20000 in
theorem gX7_note_X3_get : GoodIn wsX7_note (wsV RX7 27 RX3 yX3_get wsX3_get) := goodIn_app (goodIn_of _ (by decide +kernel)) ggX7_note_X3_get
set_option maxRecDepth 20000 in
theorem ggX7_note_X3_put : GoodIn wsX7_note wsX3_put := goodIn_r _ [12, 8, 16] (by decide +kernel) (by decide +kernel)
set_option maxRecDepth 20000 in
theorem gX7_note_X3_put : GoodIn wsX7_note (wsV RX7 31 RX3 yX3_put wsX3_put) := goodIn_app (goodIn_of _ (by decide +kernel)) ggX7_note_X3_put
theorem dX7_note_0 : decode cX7_note 0 = .ok (.aload_n 0, 1) := by decide +kernel
theorem dX7_note_1 : decode cX7_note 1 = .ok (.getfield 14, 3) := by decide +kernel
theorem dX7_note_4 : decode cX7_note 4 = .ok (.iload_n 1, 1) := by decide +kernel
theorem dX7_note_5 : decode cX7_note 5 = .ok (.aload_n 0, 1) := by decide +kernel
theorem dX7_note_6 : decode cX7_note 6 = .ok (.getfield 14, 3) := by decide +kernel
theorem dX7_note_9 : decode cX7_note 9 = .ok (.iload_n 1, 1) := by decide +kernel
theorem dX7_note_10 : decode cX7_note 10 = .ok (.invokevirtual 27, 3) := by decide +kernel
theorem dX7_note_13 : decode cX7_note 13 = .ok (.iconst 1, 1) := by decide +kernel
theorem dX7_note_14 : decode cX7_note 14 = .ok (.iadd, 1) := by decide +kernel
theorem dX7_note_15 : decode cX7_note 15 = .ok (.invokevirtual 31, 3) := by decide +kernel
theorem dX7_note_18 : decode cX7_note 18 = .ok (.iload_n 2, 1) := by decide +kernel
theorem dX7_note_19 : decode cX7_note 19 = .ok (.ifCond .eq 21, 3) := by decide +kernel
theorem dX7_note_22 : decode cX7_note 22 = .ok (.aload_n 0, 1) := by decide +kernel
theorem dX7_note_23 : decode cX7_note 23 = .ok (.getfield 20, 3) := by decide +kernel
theorem dX7_note_26 : decode cX7_note 26 = .ok (.iload_n 1, 1) := by decide +kernel
theorem dX7_note_27 : decode cX7_note 27 = .ok (.aload_n 0, 1) := by decide +kernel
theorem dX7_note_28 : decode cX7_note 28 = .ok (.getfield 20, 3) := by decide +kernel
theorem dX7_note_31 : decode cX7_note 31 = .ok (.iload_n 1, 1) := by decide +kernel
theorem dX7_note_32 : decode cX7_note 32 = .ok (.invokevirtual 27, 3) := by decide +kernel
theorem dX7_note_35 : decode cX7_note 35 = .ok (.iconst 1, 1) := by decide +kernel
theorem dX7_note_36 : decode cX7_note 36 = .ok (.iadd, 1) := by decide +kernel
theorem dX7_note_37 : decode cX7_note 37 = .ok (.invokevirtual 31, 3) := by decide +kernel
theorem dX7_note_40 : decode cX7_note 40 = .ok (.return_, 1) := by decide +kernel
set_option maxRecDepth 20000 in
theorem ggX7_copyFrom_X3_copyFrom : GoodIn wsX7_copyFrom wsX3_copyFrom := goodIn_r _ [8, 9, 10, 11, 12, 7, 13, 17] (by decide +kernel) (by decide +kernel)
set_option maxRecDepth 20000 in
theorem gX7_copyFrom_X3_copyFrom : GoodIn wsX7_copyFrom (wsV RX7 34 RX3 yX3_copyFrom wsX3_copyFrom) := goodIn_app (goodIn_of _ (by decide +kernel)) ggX7_copyFrom_X3_copyFrom
theorem dX7_copyFrom_0 : decode cX7_copyFrom 0 = .ok (.aload_n 0, 1) := by decide +kernel
theorem dX7_copyFrom_1 : decode cX7_copyFrom 1 = .ok (.getfield 14, 3) := by decide +kernel
theorem dX7_copyFrom_4 : decode cX7_copyFrom 4 = .ok (.aload_n 1, 1) := by decide +kernel
theorem dX7_copyFrom_5 : decode cX7_copyFrom 5 = .ok (.getfield 14, 3) := by decide +kernel
theorem dX7_copyFrom_8 : decode cX7_copyFrom 8 = .ok (.invokevirtual 34, 3) := by decide +kernel
theorem dX7_copyFrom_11 : decode cX7_copyFrom 11 = .ok (.aload_n 0, 1) := by decide +kernel
theorem dX7_copyFrom_12 : decode cX7_copyFrom 12 = .ok (.getfield 20, 3) := by decide +kernel
theorem dX7_copyFrom_15 : decode cX7_copyFrom 15 = .ok (.aload_n 1, 1) := by decide +kernel
theorem dX7_copyFrom_16 : decode cX7_copyFrom 16 = .ok (.getfield 20, 3) := by decide +kernel
theorem dX7_copyFrom_19 : decode cX7_copyFrom 19 = .ok (.invokevirtual 34, 3) := by decide +kernel
theorem dX7_copyFrom_22 : decode cX7_copyFrom 22 = .ok (.aload_n 0, 1) := by decide +kernel
theorem dX7_copyFrom_23 : decode cX7_copyFrom 23 = .ok (.aload_n 1, 1) := by decide +kernel
theorem dX7_copyFrom_24 : decode cX7_copyFrom 24 = .ok (.getfield 23, 3) := by decide +kernel
theorem dX7_copyFrom_27 : decode cX7_copyFrom 27 = .ok (.putfield 23, 3) := by decide +kernel
theorem dX7_copyFrom_30 : decode cX7_copyFrom 30 = .ok (.return_, 1) := by decide +kernel
set_option maxRecDepth 20000 in
theorem ggX8_init_X6_init : GoodIn wsX8_init wsX6_init := goodIn_r _ [18, 19, 2, 3, 20, 21, 22, 23, 24, 25, 26, 27, 28, 29, 30, 31, 32, 33, 34, 35, 36, 37, 38, 39, 40, 41, 42, 43, 44, 45, 46, 47, 48, 49, 50, 51, 52, 53, 54, 55, 56, 57, 58, 59, 60, 61, 62, 63, 64, 65, 66, 67, 68, 69, 70, 71, 72, 73, 74, 75, 76, 77, 78, 79, 80, 81, 82, 83, 114, 115, 116, 117, 118, 100, 101, 102, 103, 104, 105, 119, 120, 121, 122, 123, 124, 125, 126, 127] (by decide +kernel) (by decide +kernel)
set_option maxRecDepth 20000 in
theorem gX8_init_X6_init : GoodIn wsX8_init (wsX6_init) := ggX8_init_X6_init
set_option maxRecDepth 20000 in
theorem ggX8_init_X1_init : GoodIn wsX8_init wsX1_init := goodIn_r _ [86, 87, 2, 3, 88, 89, 90, 91, 5, 6, 92, 17, 18, 19, 20, 21, 22, 23, 24, 25, 26, 27, 28, 29, 30, 31, 32, 33, 34, 35, 36, 37, 38, 39, 40, 41, 42, 43, 44, 45, 46, 47, 48, 49, 50, 51, 52, 53, 54, 55, 56, 57, 58, 59, 60, 61, 62, 63, 64, 65, 66, 67, 68, 69, 70, 71, 72, 73, 74, 75, 76, 77, 78, 79, 80, 81, 82, 83, 109, 110, 111, 100, 101, 102, 103, 104, 105, 114, 115, 116, 117, 118, 119, 120, 121, 122, 123, 124, 125, 126, 127] (by decide +kernel) (by decide +kernel)
set_option maxRecDepth 20000 in
theorem gX8_init_X1_init : GoodIn wsX8_init (wsX1_init) := ggX8_init_X1_init
set_option maxRecDepth 20000 in
theorem ggX8_init_X0_init : GoodIn wsX8_init wsX0_init := goodIn_r _ [94, 95, 2, 3, 96, 37, 38, 97, 98, 99, 51, 52, 53, 54, 55, 127, 112, 113] (by decide +kernel) (by decide +kernel)
set_option maxRecDepth 20000 in
theorem gX8_init_X0_init_n25 : GoodIn wsX8_init (wsX0_init) := ggX8_init_X0_init
theorem dX8_init_0 : decode cX8_init 0 = .ok (.aload_n 0, 1) := by decide +kernel
theorem dX8_init_1 : decode cX8_init 1 = .ok (.invokespecial 1, 3) := by decide +kernel
theorem dX8_init_4 : decode cX8_init 4 = .ok (.aload_n 0, 1) := by decide +kernel
theorem dX8_init_5 : decode cX8_init 5 = .ok (.new 7, 3) := by decide +kernel
theorem dX8_init_8 : decode cX8_init 8 = .ok (.dup, 1) := by decide +kernel
theorem dX8_init_9 : decode cX8_init 9 = .ok (.invokespecial 9, 3) := by decide +kernel
theorem dX8_init_12 : decode cX8_init 12 = .ok (.putfield 10, 3) := by decide +kernel
theorem dX8_init_15 : decode cX8_init 15 = .ok (.aload_n 0, 1) := by decide +kernel
theorem dX8_init_16 : decode cX8_init 16 = .ok (.new 16, 3) := by decide +kernel
theorem dX8_init_19 : decode cX8_init 19 = .ok (.dup, 1) := by decide +kernel
theorem dX8_init_20 : decode cX8_init 20 = .ok (.invokespecial 18, 3) := by decide +kernel
theorem dX8_init_23 : decode cX8_init 23 = .ok (.putfield 19, 3) := by decide +kernel
theorem dX8_init_26 : decode cX8_init 26 = .ok (.aload_n 0, 1) := by decide +kernel
theorem dX8_init_27 : decode cX8_init 27 = .ok (.new 23, 3) := by decide +kernel
theorem dX8_init_30 : decode cX8_init 30 = .ok (.dup, 1) := by decide +kernel
theorem dX8_init_31 : decode cX8_init 31 = .ok (.invokespecial 25, 3) := by decide +kernel
theorem dX8_init_34 : decode cX8_init 34 = .ok (.putfield 26, 3) := by decide +kernel
theorem dX8_init_37 : decode cX8_init 37 = .ok (.return_, 1) := by decide +kernel
set_option maxRecDepth 20000 in
theorem ggX8_row_X8_isPerson : GoodIn wsX8_row wsX8_isPerson := goodIn_r _ [14, 15, 16, 13, 17] (by decide +kernel) (by decide +kernel)
set_option maxRecDepth 20000 in
theorem gX8_row_X8_isPerson : GoodIn wsX8_row (va_wsS RX8 30 yX8_isPerson wsX8_isPerson) := goodIn_app (goodIn_of _ (by decide +kernel)) ggX8_row_X8_isPerson
set_option maxRecDepth 20000 in
theorem ggX8_row_X8_isPlace : GoodIn wsX8_row wsX8_isPlace := goodIn_r _ [20, 15, 16, 13, 17] (by decide +kernel) (by decide +kernel)
set_option maxRecDepth 20000 in
theorem gX8_row_X8_isPlace : GoodIn wsX8_row (va_wsS RX8 34 yX8_isPlace wsX8_isPlace) := goodIn_app (goodIn_of _ (by decide +kernel)) ggX8_row_X8_isPlace
set_option maxRecDepth 20000 in
theorem ggX8_row_X8_isValue : GoodIn wsX8_row wsX8_isValue := goodIn_r _ [23, 15, 16, 13, 17] (by decide +kernel) (by decide +kernel)
set_option maxRecDepth 20000 in
theorem gX8_row_X8_isValue : GoodIn wsX8_row (va_wsS RX8 44 yX8_isValue wsX8_isValue) := goodIn_app (goodIn_of _ (by decide +kernel)) ggX8_row_X8_isValue
set_option maxRecDepth 20000 in
theorem ggX8_row_X8_isWithin : GoodIn wsX8_row wsX8_isWithin := goodIn_r _ [17] (by decide +kernel) (by decide +kernel)
set_option maxRecDepth 20000 in
theorem gX8_row_X8_isWithin : GoodIn wsX8_row (va_wsS RX8 47 yX8_isWithin wsX8_isWithin) := goodIn_app (goodIn_of _ (by decide +kernel)) ggX8_row_X8_isWithin
set_option maxRecDepth 20000 in
theorem ggX8_row_X5_isFull : GoodIn wsX8_row wsX5_isFull := goodIn_r _ [28, 29, 119, 120, 121, 122, 123] (by decide +kernel) (by decide +kernel)
set_option maxRecDepth 20000 in
theorem gX8_row_X5_isFull : GoodIn wsX8_row (wsV RX8 60 RX5 yX5_isFull wsX5_isFull) := goodIn_app (goodIn_of _ (by decide +kernel)) ggX8_row_X5_isFull
set_option maxRecDepth 20000 in
theorem ggX8_row_X1_save : GoodIn wsX8_row wsX1_save := goodIn_r _ [34, 35, 36, 37, 38, 39, 40, 41, 42, 43, 33, 44, 45, 46, 47, 48, 49, 50, 51, 52, 53, 54, 55, 56, 57, 58, 59, 27, 60, 61, 62, 63, 64, 29, 65, 66, 67, 68, 69, 70, 71, 72, 73, 74, 75, 76, 77, 78, 79, 80, 81, 82, 83, 84, 85, 86, 87, 88, 89, 90, 91, 92, 93, 94, 95, 96, 97, 98, 99, 100, 101, 124, 125, 126, 113, 114, 115, 116, 117, 118, 119, 120, 121, 122, 123, 127, 128, 129, 130, 131, 132, 133, 134, 135] (by decide +kernel) (by decide +kernel)
set_option maxRecDepth 20000 in
theorem gX8_row_X1_save : GoodIn wsX8_row (wsV RX8 71 RX1 yX1_save wsX1_save) := goodIn_app (goodIn_of _ (by decide +kernel)) ggX8_row_X1_save
set_option maxRecDepth 20000 in
theorem ggX8_row_X5_place : GoodIn wsX8_row wsX5_place := goodIn_r _ [105, 61, 29, 62, 63, 64, 106, 107, 108, 68, 109, 70, 119, 120, 121, 122, 123, 127] (by decide +kernel) (by decide +kernel)
set_option maxRecDepth 20000 in
theorem gX8_row_X5_place : GoodIn wsX8_row (wsV RX8 79 RX5 yX5_place wsX5_place) := goodIn_app (goodIn_of _ (by decide +kernel)) ggX8_row_X5_place
theorem dX8_row_0 : decode cX8_row 0 = .ok (.iload_n 1, 1) := by decide +kernel
theorem dX8_row_1 : decode cX8_row 1 = .ok (.invokestatic 30, 3) := by decide +kernel
theorem dX8_row_4 : decode cX8_row 4 = .ok (.ifCond .eq 10, 3) := by decide +kernel
theorem dX8_row_7 : decode cX8_row 7 = .ok (.iload_n 2, 1) := by decide +kernel
theorem dX8_row_8 : decode cX8_row 8 = .ok (.invokestatic 34, 3) := by decide +kernel
theorem dX8_row_11 : decode cX8_row 11 = .ok (.ifCond .ne 13, 3) := by decide +kernel
theorem dX8_row_14 : decode cX8_row 14 = .ok (.new 37, 3) := by decide +kernel
theorem dX8_row_17 : decode cX8_row 17 = .ok (.dup, 1) := by decide +kernel
theorem dX8_row_18 : decode cX8_row 18 = .ok (.ldc 39, 2) := by decide +kernel
theorem dX8_row_20 : decode cX8_row 20 = .ok (.invokespecial 41, 3) := by decide +kernel
theorem dX8_row_23 : decode cX8_row 23 = .ok (.athrow, 1) := by decide +kernel
theorem dX8_row_24 : decode cX8_row 24 = .ok (.iload_n 3, 1) := by decide +kernel
theorem dX8_row_25 : decode cX8_row 25 = .ok (.invokestatic 44, 3) := by decide +kernel
theorem dX8_row_28 : decode cX8_row 28 = .ok (.ifCond .eq 13, 3) := by decide +kernel
theorem dX8_row_31 : decode cX8_row 31 = .ok (.iload 4, 2) := by decide +kernel
theorem dX8_row_33 : decode cX8_row 33 = .ok (.iconst 0, 1) := by decide +kernel
theorem dX8_row_34 : decode cX8_row 34 = .ok (.iconst 3, 1) := by decide +kernel
theorem dX8_row_35 : decode cX8_row 35 = .ok (.invokestatic 47, 3) := by decide +kernel
theorem dX8_row_38 : decode cX8_row 38 = .ok (.ifCond .ne 13, 3) := by decide +kernel
theorem dX8_row_41 : decode cX8_row 41 = .ok (.new 51, 3) := by decide +kernel
theorem dX8_row_44 : decode cX8_row 44 = .ok (.dup, 1) := by decide +kernel
theorem dX8_row_45 : decode cX8_row 45 = .ok (.ldc 53, 2) := by decide +kernel
theorem dX8_row_47 : decode cX8_row 47 = .ok (.invokespecial 55, 3) := by decide +kernel
theorem dX8_row_50 : decode cX8_row 50 = .ok (.athrow, 1) := by decide +kernel
theorem dX8_row_51 : decode cX8_row 51 = .ok (.aload_n 0, 1) := by decide +kernel
theorem dX8_row_52 : decode cX8_row 52 = .ok (.getfield 10, 3) := by decide +kernel
theorem dX8_row_55 : decode cX8_row 55 = .ok (.getfield 56, 3) := by decide +kernel
theorem dX8_row_58 : decode cX8_row 58 = .ok (.invokevirtual 60, 3) := by decide +kernel
theorem dX8_row_61 : decode cX8_row 61 = .ok (.ifCond .eq 13, 3) := by decide +kernel
theorem dX8_row_64 : decode cX8_row 64 = .ok (.new 66, 3) := by decide +kernel
theorem dX8_row_67 : decode cX8_row 67 = .ok (.dup, 1) := by decide +kernel
theorem dX8_row_68 : decode cX8_row 68 = .ok (.ldc 68, 2) := by decide +kernel
theorem dX8_row_70 : decode cX8_row 70 = .ok (.invokespecial 70, 3) := by decide +kernel
theorem dX8_row_73 : decode cX8_row 73 = .ok (.athrow, 1) := by decide +kernel
theorem dX8_row_74 : decode cX8_row 74 = .ok (.aload_n 0, 1) := by decide +kernel
theorem dX8_row_75 : decode cX8_row 75 = .ok (.getfield 19, 3) := by decide +kernel
theorem dX8_row_78 : decode cX8_row 78 = .ok (.aload_n 0, 1) := by decide +kernel
theorem dX8_row_79 : decode cX8_row 79 = .ok (.getfield 10, 3) := by decide +kernel
theorem dX8_row_82 : decode cX8_row 82 = .ok (.invokevirtual 71, 3) := by decide +kernel
theorem dX8_row_85 : decode cX8_row 85 = .ok (.aload_n 0, 1) := by decide +kernel
theorem dX8_row_86 : decode cX8_row 86 = .ok (.getfield 10, 3) := by decide +kernel
theorem dX8_row_89 : decode cX8_row 89 = .ok (.getfield 56, 3) := by decide +kernel
theorem dX8_row_92 : decode cX8_row 92 = .ok (.getfield 75, 3) := by decide +kernel
theorem dX8_row_95 : decode cX8_row 95 = .ok (.istore 5, 2) := by decide +kernel
theorem dX8_row_97 : decode cX8_row 97 = .ok (.aload_n 0, 1) := by decide +kernel
theorem dX8_row_98 : decode cX8_row 98 = .ok (.getfield 10, 3) := by decide +kernel
theorem dX8_row_101 : decode cX8_row 101 = .ok (.getfield 56, 3) := by decide +kernel
theorem dX8_row_104 : decode cX8_row 104 = .ok (.iload_n 1, 1) := by decide +kernel
theorem dX8_row_105 : decode cX8_row 105 = .ok (.iload_n 2, 1) := by decide +kernel
theorem dX8_row_106 : decode cX8_row 106 = .ok (.iload_n 3, 1) := by decide +kernel
theorem dX8_row_107 : decode cX8_row 107 = .ok (.iload 4, 2) := by decide +kernel
theorem dX8_row_109 : decode cX8_row 109 = .ok (.invokevirtual 79, 3) := by decide +kernel
theorem dX8_row_112 : decode cX8_row 112 = .ok (.iload 5, 2) := by decide +kernel
theorem dX8_row_114 : decode cX8_row 114 = .ok (.ireturn, 1) := by decide +kernel
set_option maxRecDepth 20000 in
theorem ggX8_drop_X8_requireRow : GoodIn wsX8_drop wsX8_requireRow := goodIn_ca (goodIn_r _ [10, 11, 12, 2, 3, 5, 13, 14, 9, 15, 108, 109, 110, 111, 112, 113, 114, 115, 116, 117, 118, 119, 120, 121] (by decide +kernel) (by decide +kernel)) (goodIn_sub (fun _ h => List.mem_cons_of_mem _ (List.mem_append_right _ h)) (by decide +kernel))
set_option maxRecDepth 20000 in
theorem gX8_drop_X8_requireRow : GoodIn wsX8_drop (wsV RX8 83 RX8 yX8_requireRow wsX8_requireRow) := goodIn_app (goodIn_of _ (by decide +kernel)) ggX8_drop_X8_requireRow
set_option maxRecDepth 20000 in
theorem ggX8_drop_X1_save : GoodIn wsX8_drop wsX1_save := goodIn_r _ [20, 21, 22, 23, 24, 25, 26, 27, 28, 29, 19, 30, 31, 32, 33, 34, 35, 36, 37, 38, 39, 40, 41, 42, 43, 44, 45, 46, 47, 48, 49, 50, 51, 52, 53, 54, 55, 56, 57, 58, 59, 60, 61, 62, 63, 64, 65, 66, 67, 68, 69, 70, 71, 72, 73, 74, 75, 76, 77, 78, 79, 80, 81, 82, 83, 84, 85, 86, 87, 88, 89, 122, 123, 124, 111, 112, 113, 114, 115, 116, 117, 118, 119, 120, 121, 125, 126, 127, 128, 129, 130, 131, 132, 133] (by decide +kernel) (by decide +kernel)
set_option maxRecDepth 20000 in
theorem gX8_drop_X1_save : GoodIn wsX8_drop (wsV RX8 71 RX1 yX1_save wsX1_save) := goodIn_app (goodIn_of _ (by decide +kernel)) ggX8_drop_X1_save
set_option maxRecDepth 20000 in
theorem ggX8_drop_X5_takeOut : GoodIn wsX8_drop wsX5_takeOut := goodIn_r _ [93, 48, 52, 49, 50, 51, 94, 95, 96, 56, 97, 59, 60, 61, 62, 58, 98, 99, 100, 101, 117, 118, 119, 120, 121, 125] (by decide +kernel) (by decide +kernel)
set_option maxRecDepth 20000 in
theorem gX8_drop_X5_takeOut : GoodIn wsX8_drop (wsV RX8 87 RX5 yX5_takeOut wsX5_takeOut) := goodIn_app (goodIn_of _ (by decide +kernel)) ggX8_drop_X5_takeOut
set_option maxRecDepth 20000 in
theorem ggX8_drop_X2_takeOut : GoodIn wsX8_drop wsX2_takeOut := goodIn_r _ [105, 77, 106, 60, 61, 56, 62, 58, 107, 99, 100, 101, 129, 130, 125] (by decide +kernel) (by decide +kernel)
set_option maxRecDepth 20000 in
theorem gX8_drop_X2_takeOut : GoodIn wsX8_drop (wsV RX8 94 RX2 yX2_takeOut wsX2_takeOut) := goodIn_app (goodIn_of _ (by decide +kernel)) ggX8_drop_X2_takeOut
theorem dX8_drop_0 : decode cX8_drop 0 = .ok (.aload_n 0, 1) := by decide +kernel
theorem dX8_drop_1 : decode cX8_drop 1 = .ok (.iload_n 1, 1) := by decide +kernel
theorem dX8_drop_2 : decode cX8_drop 2 = .ok (.invokevirtual 83, 3) := by decide +kernel
theorem dX8_drop_5 : decode cX8_drop 5 = .ok (.aload_n 0, 1) := by decide +kernel
theorem dX8_drop_6 : decode cX8_drop 6 = .ok (.getfield 19, 3) := by decide +kernel
theorem dX8_drop_9 : decode cX8_drop 9 = .ok (.aload_n 0, 1) := by decide +kernel
theorem dX8_drop_10 : decode cX8_drop 10 = .ok (.getfield 10, 3) := by decide +kernel
theorem dX8_drop_13 : decode cX8_drop 13 = .ok (.invokevirtual 71, 3) := by decide +kernel
theorem dX8_drop_16 : decode cX8_drop 16 = .ok (.aload_n 0, 1) := by decide +kernel
theorem dX8_drop_17 : decode cX8_drop 17 = .ok (.getfield 10, 3) := by decide +kernel
theorem dX8_drop_20 : decode cX8_drop 20 = .ok (.getfield 56, 3) := by decide +kernel
theorem dX8_drop_23 : decode cX8_drop 23 = .ok (.iload_n 1, 1) := by decide +kernel
theorem dX8_drop_24 : decode cX8_drop 24 = .ok (.invokevirtual 87, 3) := by decide +kernel
theorem dX8_drop_27 : decode cX8_drop 27 = .ok (.aload_n 0, 1) := by decide +kernel
theorem dX8_drop_28 : decode cX8_drop 28 = .ok (.getfield 10, 3) := by decide +kernel
theorem dX8_drop_31 : decode cX8_drop 31 = .ok (.getfield 90, 3) := by decide +kernel
theorem dX8_drop_34 : decode cX8_drop 34 = .ok (.iload_n 1, 1) := by decide +kernel
theorem dX8_drop_35 : decode cX8_drop 35 = .ok (.invokevirtual 94, 3) := by decide +kernel
theorem dX8_drop_38 : decode cX8_drop 38 = .ok (.aload_n 0, 1) := by decide +kernel
theorem dX8_drop_39 : decode cX8_drop 39 = .ok (.getfield 10, 3) := by decide +kernel
theorem dX8_drop_42 : decode cX8_drop 42 = .ok (.getfield 56, 3) := by decide +kernel
theorem dX8_drop_45 : decode cX8_drop 45 = .ok (.getfield 75, 3) := by decide +kernel
theorem dX8_drop_48 : decode cX8_drop 48 = .ok (.ireturn, 1) := by decide +kernel
set_option maxRecDepth 20000 in
theorem ggX8_change_X8_requireRow : GoodIn wsX8_change wsX8_requireRow := goodIn_ca (goodIn_r _ [11, 12, 13, 4, 5, 14, 15, 16, 10, 17, 103, 104, 105, 106, 107, 108, 109, 110, 111, 112, 113, 114, 115, 116] (by decide +kernel) (by decide +kernel)) (goodIn_sub (fun _ h => List.mem_cons_of_mem _ (List.mem_append_right _ h)) (by decide +kernel))
set_option maxRecDepth 20000 in
theorem gX8_change_X8_requireRow : GoodIn wsX8_change (wsV RX8 83 RX8 yX8_requireRow wsX8_requireRow) := goodIn_app (goodIn_of _ (by decide +kernel)) ggX8_change_X8_requireRow
set_option maxRecDepth 20000 in
theorem ggX8_change_X8_isValue : GoodIn wsX8_change wsX8_isValue := goodIn_r _ [20, 15, 16, 10, 17] (by decide +kernel) (by decide +kernel)
set_option maxRecDepth 20000 in
theorem gX8_change_X8_isValue : GoodIn wsX8_change (va_wsS RX8 44 yX8_isValue wsX8_isValue) := goodIn_app (goodIn_of _ (by decide +kernel)) ggX8_change_X8_isValue
set_option maxRecDepth 20000 in
theorem ggX8_change_X1_save : GoodIn wsX8_change wsX1_save := goodIn_r _ [25, 26, 27, 28, 29, 30, 31, 32, 33, 34, 24, 35, 36, 37, 38, 39, 40, 41, 42, 43, 44, 45, 46, 47, 48, 49, 50, 51, 52, 53, 54, 55, 56, 57, 58, 59, 60, 61, 62, 63, 64, 65, 66, 67, 68, 69, 70, 71, 72, 73, 74, 75, 76, 77, 78, 79, 80, 81, 82, 83, 84, 85, 86, 87, 88, 89, 90, 91, 92, 93, 94, 117, 118, 119, 106, 107, 108, 109, 110, 111, 112, 113, 114, 115, 116, 120, 121, 122, 123, 124, 125, 126, 127, 128] (by decide +kernel) (by decide +kernel)
set_option maxRecDepth 20000 in
theorem gX8_change_X1_save : GoodIn wsX8_change (wsV RX8 71 RX1 yX1_save wsX1_save) := goodIn_app (goodIn_of _ (by decide +kernel)) ggX8_change_X1_save
set_option maxRecDepth 20000 in
theorem ggX8_change_X3_swap : GoodIn wsX8_change wsX3_swap := goodIn_r _ [98, 64, 65, 66, 61, 67, 63, 99, 100, 101, 102, 120] (by decide +kernel) (by decide +kernel)
set_option maxRecDepth 20000 in
theorem gX8_change_X3_swap : GoodIn wsX8_change (wsV RX8 103 RX3 yX3_swap wsX3_swap) := goodIn_app (goodIn_of _ (by decide +kernel)) ggX8_change_X3_swap
theorem dX8_change_0 : decode cX8_change 0 = .ok (.aload_n 0, 1) := by decide +kernel
theorem dX8_change_1 : decode cX8_change 1 = .ok (.iload_n 1, 1) := by decide +kernel
theorem dX8_change_2 : decode cX8_change 2 = .ok (.invokevirtual 83, 3) := by decide +kernel
theorem dX8_change_5 : decode cX8_change 5 = .ok (.iload_n 2, 1) := by decide +kernel
theorem dX8_change_6 : decode cX8_change 6 = .ok (.invokestatic 44, 3) := by decide +kernel
theorem dX8_change_9 : decode cX8_change 9 = .ok (.ifCond .ne 13, 3) := by decide +kernel
theorem dX8_change_12 : decode cX8_change 12 = .ok (.new 51, 3) := by decide +kernel
theorem dX8_change_15 : decode cX8_change 15 = .ok (.dup, 1) := by decide +kernel
theorem dX8_change_16 : decode cX8_change 16 = .ok (.ldc 97, 2) := by decide +kernel
theorem dX8_change_18 : decode cX8_change 18 = .ok (.invokespecial 55, 3) := by decide +kernel
theorem dX8_change_21 : decode cX8_change 21 = .ok (.athrow, 1) := by decide +kernel
theorem dX8_change_22 : decode cX8_change 22 = .ok (.aload_n 0, 1) := by decide +kernel
theorem dX8_change_23 : decode cX8_change 23 = .ok (.getfield 19, 3) := by decide +kernel
theorem dX8_change_26 : decode cX8_change 26 = .ok (.aload_n 0, 1) := by decide +kernel
theorem dX8_change_27 : decode cX8_change 27 = .ok (.getfield 10, 3) := by decide +kernel
theorem dX8_change_30 : decode cX8_change 30 = .ok (.invokevirtual 71, 3) := by decide +kernel
theorem dX8_change_33 : decode cX8_change 33 = .ok (.aload_n 0, 1) := by decide +kernel
theorem dX8_change_34 : decode cX8_change 34 = .ok (.getfield 10, 3) := by decide +kernel
theorem dX8_change_37 : decode cX8_change 37 = .ok (.getfield 56, 3) := by decide +kernel
theorem dX8_change_40 : decode cX8_change 40 = .ok (.getfield 99, 3) := by decide +kernel
theorem dX8_change_43 : decode cX8_change 43 = .ok (.iload_n 1, 1) := by decide +kernel
theorem dX8_change_44 : decode cX8_change 44 = .ok (.iload_n 2, 1) := by decide +kernel
theorem dX8_change_45 : decode cX8_change 45 = .ok (.invokevirtual 103, 3) := by decide +kernel
theorem dX8_change_48 : decode cX8_change 48 = .ok (.ireturn, 1) := by decide +kernel
set_option maxRecDepth 20000 in
theorem ggX8_person_X8_isPerson : GoodIn wsX8_person wsX8_isPerson := goodIn_r _ [13, 14, 15, 12, 16] (by decide +kernel) (by decide +kernel)
set_option maxRecDepth 20000 in
theorem gX8_person_X8_isPerson : GoodIn wsX8_person (va_wsS RX8 30 yX8_isPerson wsX8_isPerson) := goodIn_app (goodIn_of _ (by decide +kernel)) ggX8_person_X8_isPerson
set_option maxRecDepth 20000 in
theorem ggX8_person_X8_isPlace : GoodIn wsX8_person wsX8_isPlace := goodIn_r _ [19, 14, 15, 12, 16] (by decide +kernel) (by decide +kernel)
set_option maxRecDepth 20000 in
theorem gX8_person_X8_isPlace : GoodIn wsX8_person (va_wsS RX8 34 yX8_isPlace wsX8_isPlace) := goodIn_app (goodIn_of _ (by decide +kernel)) ggX8_person_X8_isPlace
set_option maxRecDepth 20000 in
theorem ggX8_person_X8_isWithin : GoodIn wsX8_person wsX8_isWithin := goodIn_r _ [16] (by decide +kernel) (by decide +kernel)
set_option maxRecDepth 20000 in
theorem gX8_person_X8_isWithin : GoodIn wsX8_person (va_wsS RX8 47 yX8_isWithin wsX8_isWithin) := goodIn_app (goodIn_of _ (by decide +kernel)) ggX8_person_X8_isWithin
set_option maxRecDepth 20000 in
theorem ggX8_person_X1_save : GoodIn wsX8_person wsX1_save := goodIn_r _ [24, 25, 26, 27, 28, 29, 30, 31, 32, 33, 23, 34, 35, 36, 37, 38, 39, 40, 41, 42, 43, 44, 45, 46, 47, 48, 49, 50, 51, 52, 53, 54, 55, 56, 57, 58, 59, 60, 61, 62, 63, 64, 65, 66, 67, 68, 69, 70, 71, 72, 73, 74, 75, 76, 77, 78, 79, 80, 81, 82, 83, 84, 85, 86, 87, 88, 89, 90, 91, 92, 93, 115, 116, 117, 106, 107, 108, 109, 110, 111, 118, 119, 120, 121, 122, 123, 112, 113, 114, 124, 125, 126, 127, 128] (by decide +kernel) (by decide +kernel)
set_option maxRecDepth 20000 in
theorem gX8_person_X1_save : GoodIn wsX8_person (wsV RX8 71 RX1 yX1_save wsX1_save) := goodIn_app (goodIn_of _ (by decide +kernel)) ggX8_person_X1_save
set_option maxRecDepth 20000 in
theorem ggX8_person_X3_put : GoodIn wsX8_person wsX3_put := goodIn_r _ [97, 62, 123] (by decide +kernel) (by decide +kernel)
set_option maxRecDepth 20000 in
theorem gX8_person_X3_put : GoodIn wsX8_person (wsV RX8 122 RX3 yX3_put wsX3_put) := goodIn_app (goodIn_of _ (by decide +kernel)) ggX8_person_X3_put
set_option maxRecDepth 20000 in
theorem ggX8_person_X3_swap : GoodIn wsX8_person wsX3_swap := goodIn_r _ [101, 63, 64, 65, 60, 66, 62, 102, 95, 96, 97, 123] (by decide +kernel) (by decide +kernel)
set_option maxRecDepth 20000 in
theorem gX8_person_X3_swap : GoodIn wsX8_person (wsV RX8 103 RX3 yX3_swap wsX3_swap) := goodIn_app (goodIn_of _ (by decide +kernel)) ggX8_person_X3_swap
theorem dX8_person_0 : decode cX8_person 0 = .ok (.iload_n 1, 1) := by decide +kernel
theorem dX8_person_1 : decode cX8_person 1 = .ok (.invokestatic 30, 3) := by decide +kernel
theorem dX8_person_4 : decode cX8_person 4 = .ok (.ifCond .eq 10, 3) := by decide +kernel
theorem dX8_person_7 : decode cX8_person 7 = .ok (.iload_n 3, 1) := by decide +kernel
theorem dX8_person_8 : decode cX8_person 8 = .ok (.invokestatic 34, 3) := by decide +kernel
theorem dX8_person_11 : decode cX8_person 11 = .ok (.ifCond .ne 13, 3) := by decide +kernel
theorem dX8_person_14 : decode cX8_person 14 = .ok (.new 37, 3) := by decide +kernel
theorem dX8_person_17 : decode cX8_person 17 = .ok (.dup, 1) := by decide +kernel
theorem dX8_person_18 : decode cX8_person 18 = .ok (.ldc 109, 2) := by decide +kernel
theorem dX8_person_20 : decode cX8_person 20 = .ok (.invokespecial 41, 3) := by decide +kernel
theorem dX8_person_23 : decode cX8_person 23 = .ok (.athrow, 1) := by decide +kernel
theorem dX8_person_24 : decode cX8_person 24 = .ok (.iload_n 2, 1) := by decide +kernel
theorem dX8_person_25 : decode cX8_person 25 = .ok (.iconst 0, 1) := by decide +kernel
theorem dX8_person_26 : decode cX8_person 26 = .ok (.iconst 3, 1) := by decide +kernel
theorem dX8_person_27 : decode cX8_person 27 = .ok (.invokestatic 47, 3) := by decide +kernel
theorem dX8_person_30 : decode cX8_person 30 = .ok (.ifCond .ne 13, 3) := by decide +kernel
theorem dX8_person_33 : decode cX8_person 33 = .ok (.new 51, 3) := by decide +kernel
theorem dX8_person_36 : decode cX8_person 36 = .ok (.dup, 1) := by decide +kernel
theorem dX8_person_37 : decode cX8_person 37 = .ok (.ldc 111, 2) := by decide +kernel
theorem dX8_person_39 : decode cX8_person 39 = .ok (.invokespecial 55, 3) := by decide +kernel
theorem dX8_person_42 : decode cX8_person 42 = .ok (.athrow, 1) := by decide +kernel
theorem dX8_person_43 : decode cX8_person 43 = .ok (.aload_n 0, 1) := by decide +kernel
theorem dX8_person_44 : decode cX8_person 44 = .ok (.getfield 19, 3) := by decide +kernel
theorem dX8_person_47 : decode cX8_person 47 = .ok (.aload_n 0, 1) := by decide +kernel
theorem dX8_person_48 : decode cX8_person 48 = .ok (.getfield 10, 3) := by decide +kernel
theorem dX8_person_51 : decode cX8_person 51 = .ok (.invokevirtual 71, 3) := by decide +kernel
theorem dX8_person_54 : decode cX8_person 54 = .ok (.aload_n 0, 1) := by decide +kernel
theorem dX8_person_55 : decode cX8_person 55 = .ok (.getfield 10, 3) := by decide +kernel
theorem dX8_person_58 : decode cX8_person 58 = .ok (.getfield 113, 3) := by decide +kernel
theorem dX8_person_61 : decode cX8_person 61 = .ok (.getfield 117, 3) := by decide +kernel
theorem dX8_person_64 : decode cX8_person 64 = .ok (.iload_n 1, 1) := by decide +kernel
theorem dX8_person_65 : decode cX8_person 65 = .ok (.iload_n 3, 1) := by decide +kernel
theorem dX8_person_66 : decode cX8_person 66 = .ok (.invokevirtual 122, 3) := by decide +kernel
theorem dX8_person_69 : decode cX8_person 69 = .ok (.aload_n 0, 1) := by decide +kernel
theorem dX8_person_70 : decode cX8_person 70 = .ok (.getfield 10, 3) := by decide +kernel
theorem dX8_person_73 : decode cX8_person 73 = .ok (.getfield 113, 3) := by decide +kernel
theorem dX8_person_76 : decode cX8_person 76 = .ok (.getfield 126, 3) := by decide +kernel
theorem dX8_person_79 : decode cX8_person 79 = .ok (.iload_n 1, 1) := by decide +kernel
theorem dX8_person_80 : decode cX8_person 80 = .ok (.iload_n 2, 1) := by decide +kernel
theorem dX8_person_81 : decode cX8_person 81 = .ok (.invokevirtual 103, 3) := by decide +kernel
theorem dX8_person_84 : decode cX8_person 84 = .ok (.ireturn, 1) := by decide +kernel
set_option maxRecDepth 20000 in
theorem ggX8_master_X8_isPerson : GoodIn wsX8_master wsX8_isPerson := goodIn_r _ [12, 13, 14, 11, 15] (by decide +kernel) (by decide +kernel)
set_option maxRecDepth 20000 in
theorem gX8_master_X8_isPerson : GoodIn wsX8_master (va_wsS RX8 30 yX8_isPerson wsX8_isPerson) := goodIn_app (goodIn_of _ (by decide +kernel)) ggX8_master_X8_isPerson
set_option maxRecDepth 20000 in
theorem ggX8_master_X1_save : GoodIn wsX8_master wsX1_save := goodIn_r _ [20, 21, 22, 23, 24, 25, 26, 27, 28, 29, 19, 30, 31, 32, 33, 34, 35, 36, 37, 38, 39, 40, 41, 42, 43, 44, 45, 46, 47, 48, 49, 50, 51, 52, 53, 54, 55, 56, 57, 58, 59, 60, 61, 62, 63, 64, 65, 66, 67, 68, 69, 70, 71, 72, 73, 74, 75, 76, 77, 78, 79, 80, 81, 82, 83, 84, 85, 86, 87, 88, 89, 110, 111, 112, 101, 102, 103, 104, 105, 106, 113, 114, 115, 116, 117, 118, 107, 108, 109, 119, 120, 121, 122, 123] (by decide +kernel) (by decide +kernel)
set_option maxRecDepth 20000 in
theorem gX8_master_X1_save : GoodIn wsX8_master (wsV RX8 71 RX1 yX1_save wsX1_save) := goodIn_app (goodIn_of _ (by decide +kernel)) ggX8_master_X1_save
set_option maxRecDepth 20000 in
theorem ggX8_master_X3_swap : GoodIn wsX8_master wsX3_swap := goodIn_r _ [93, 59, 60, 61, 56, 62, 58, 94, 95, 96, 97, 118] (by decide +kernel) (by decide +kernel)
set_option maxRecDepth 20000 in
theorem gX8_master_X3_swap : GoodIn wsX8_master (wsV RX8 103 RX3 yX3_swap wsX3_swap) := goodIn_app (goodIn_of _ (by decide +kernel)) ggX8_master_X3_swap
theorem dX8_master_0 : decode cX8_master 0 = .ok (.iload_n 1, 1) := by decide +kernel
theorem dX8_master_1 : decode cX8_master 1 = .ok (.invokestatic 30, 3) := by decide +kernel
theorem dX8_master_4 : decode cX8_master 4 = .ok (.ifCond .eq 15, 3) := by decide +kernel
theorem dX8_master_7 : decode cX8_master 7 = .ok (.iload_n 2, 1) := by decide +kernel
theorem dX8_master_8 : decode cX8_master 8 = .ok (.iconst (-1), 1) := by decide +kernel
theorem dX8_master_9 : decode cX8_master 9 = .ok (.if_icmp .eq 20, 3) := by decide +kernel
theorem dX8_master_12 : decode cX8_master 12 = .ok (.iload_n 2, 1) := by decide +kernel
theorem dX8_master_13 : decode cX8_master 13 = .ok (.invokestatic 30, 3) := by decide +kernel
theorem dX8_master_16 : decode cX8_master 16 = .ok (.ifCond .ne 13, 3) := by decide +kernel
theorem dX8_master_19 : decode cX8_master 19 = .ok (.new 37, 3) := by decide +kernel
theorem dX8_master_22 : decode cX8_master 22 = .ok (.dup, 1) := by decide +kernel
theorem dX8_master_23 : decode cX8_master 23 = .ok (.ldc 129, 2) := by decide +kernel
theorem dX8_master_25 : decode cX8_master 25 = .ok (.invokespecial 41, 3) := by decide +kernel
theorem dX8_master_28 : decode cX8_master 28 = .ok (.athrow, 1) := by decide +kernel
theorem dX8_master_29 : decode cX8_master 29 = .ok (.iload_n 1, 1) := by decide +kernel
theorem dX8_master_30 : decode cX8_master 30 = .ok (.iload_n 2, 1) := by decide +kernel
theorem dX8_master_31 : decode cX8_master 31 = .ok (.if_icmp .ne 13, 3) := by decide +kernel
theorem dX8_master_34 : decode cX8_master 34 = .ok (.new 51, 3) := by decide +kernel
theorem dX8_master_37 : decode cX8_master 37 = .ok (.dup, 1) := by decide +kernel
theorem dX8_master_38 : decode cX8_master 38 = .ok (.ldc 131, 2) := by decide +kernel
theorem dX8_master_40 : decode cX8_master 40 = .ok (.invokespecial 55, 3) := by decide +kernel
theorem dX8_master_43 : decode cX8_master 43 = .ok (.athrow, 1) := by decide +kernel
theorem dX8_master_44 : decode cX8_master 44 = .ok (.aload_n 0, 1) := by decide +kernel
theorem dX8_master_45 : decode cX8_master 45 = .ok (.getfield 19, 3) := by decide +kernel
theorem dX8_master_48 : decode cX8_master 48 = .ok (.aload_n 0, 1) := by decide +kernel
theorem dX8_master_49 : decode cX8_master 49 = .ok (.getfield 10, 3) := by decide +kernel
theorem dX8_master_52 : decode cX8_master 52 = .ok (.invokevirtual 71, 3) := by decide +kernel
theorem dX8_master_55 : decode cX8_master 55 = .ok (.aload_n 0, 1) := by decide +kernel
theorem dX8_master_56 : decode cX8_master 56 = .ok (.getfield 10, 3) := by decide +kernel
theorem dX8_master_59 : decode cX8_master 59 = .ok (.getfield 113, 3) := by decide +kernel
theorem dX8_master_62 : decode cX8_master 62 = .ok (.getfield 133, 3) := by decide +kernel
theorem dX8_master_65 : decode cX8_master 65 = .ok (.iload_n 1, 1) := by decide +kernel
theorem dX8_master_66 : decode cX8_master 66 = .ok (.iload_n 2, 1) := by decide +kernel
theorem dX8_master_67 : decode cX8_master 67 = .ok (.invokevirtual 103, 3) := by decide +kernel
theorem dX8_master_70 : decode cX8_master 70 = .ok (.ireturn, 1) := by decide +kernel
set_option maxRecDepth 20000 in
theorem ggX8_force_X8_requireRule : GoodIn wsX8_force wsX8_requireRule := goodIn_ca (goodIn_r _ [7, 8, 9, 10, 11, 6, 12] (by decide +kernel) (by decide +kernel)) (goodIn_sub (fun _ h => List.mem_cons_of_mem _ (List.mem_append_right _ h)) (by decide +kernel))
set_option maxRecDepth 20000 in
theorem gX8_force_X8_requireRule : GoodIn wsX8_force (va_wsS RX8 136 yX8_requireRule wsX8_requireRule) := goodIn_app (goodIn_of _ (by decide +kernel)) ggX8_force_X8_requireRule
set_option maxRecDepth 20000 in
theorem ggX8_force_X1_save : GoodIn wsX8_force wsX1_save := goodIn_r _ [17, 18, 19, 20, 21, 22, 23, 24, 25, 26, 16, 27, 28, 29, 30, 31, 32, 33, 34, 35, 36, 37, 38, 39, 40, 41, 42, 43, 44, 45, 46, 47, 48, 49, 50, 51, 52, 53, 54, 55, 56, 57, 58, 59, 60, 61, 62, 63, 64, 65, 66, 67, 68, 69, 70, 71, 72, 73, 74, 75, 76, 77, 78, 79, 80, 81, 82, 83, 84, 85, 86, 96, 97, 98, 90, 91, 92, 93, 94, 95, 99, 100, 101, 102, 103, 104, 105, 106, 107, 108, 109, 110, 111, 112] (by decide +kernel) (by decide +kernel)
set_option maxRecDepth 20000 in
theorem gX8_force_X1_save : GoodIn wsX8_force (wsV RX8 71 RX1 yX1_save wsX1_save) := goodIn_app (goodIn_of _ (by decide +kernel)) ggX8_force_X1_save
theorem dX8_force_0 : decode cX8_force 0 = .ok (.iload_n 1, 1) := by decide +kernel
theorem dX8_force_1 : decode cX8_force 1 = .ok (.invokestatic 136, 3) := by decide +kernel
theorem dX8_force_4 : decode cX8_force 4 = .ok (.aload_n 0, 1) := by decide +kernel
theorem dX8_force_5 : decode cX8_force 5 = .ok (.getfield 19, 3) := by decide +kernel
theorem dX8_force_8 : decode cX8_force 8 = .ok (.aload_n 0, 1) := by decide +kernel
theorem dX8_force_9 : decode cX8_force 9 = .ok (.getfield 10, 3) := by decide +kernel
theorem dX8_force_12 : decode cX8_force 12 = .ok (.invokevirtual 71, 3) := by decide +kernel
theorem dX8_force_15 : decode cX8_force 15 = .ok (.aload_n 0, 1) := by decide +kernel
theorem dX8_force_16 : decode cX8_force 16 = .ok (.getfield 10, 3) := by decide +kernel
theorem dX8_force_19 : decode cX8_force 19 = .ok (.getfield 139, 3) := by decide +kernel
theorem dX8_force_22 : decode cX8_force 22 = .ok (.iload_n 1, 1) := by decide +kernel
theorem dX8_force_23 : decode cX8_force 23 = .ok (.ishr, 1) := by decide +kernel
theorem dX8_force_24 : decode cX8_force 24 = .ok (.iconst 1, 1) := by decide +kernel
theorem dX8_force_25 : decode cX8_force 25 = .ok (.iand, 1) := by decide +kernel
theorem dX8_force_26 : decode cX8_force 26 = .ok (.istore_n 3, 1) := by decide +kernel
theorem dX8_force_27 : decode cX8_force 27 = .ok (.iconst 1, 1) := by decide +kernel
theorem dX8_force_28 : decode cX8_force 28 = .ok (.iload_n 1, 1) := by decide +kernel
theorem dX8_force_29 : decode cX8_force 29 = .ok (.ishl, 1) := by decide +kernel
theorem dX8_force_30 : decode cX8_force 30 = .ok (.istore 4, 2) := by decide +kernel
theorem dX8_force_32 : decode cX8_force 32 = .ok (.aload_n 0, 1) := by decide +kernel
theorem dX8_force_33 : decode cX8_force 33 = .ok (.getfield 10, 3) := by decide +kernel
theorem dX8_force_36 : decode cX8_force 36 = .ok (.iload_n 2, 1) := by decide +kernel
theorem dX8_force_37 : decode cX8_force 37 = .ok (.ifCond .eq 16, 3) := by decide +kernel
theorem dX8_force_40 : decode cX8_force 40 = .ok (.aload_n 0, 1) := by decide +kernel
theorem dX8_force_41 : decode cX8_force 41 = .ok (.getfield 10, 3) := by decide +kernel
theorem dX8_force_44 : decode cX8_force 44 = .ok (.getfield 139, 3) := by decide +kernel
theorem dX8_force_47 : decode cX8_force 47 = .ok (.iload 4, 2) := by decide +kernel
theorem dX8_force_49 : decode cX8_force 49 = .ok (.ior, 1) := by decide +kernel
theorem dX8_force_50 : decode cX8_force 50 = .ok (.goto 15, 3) := by decide +kernel
theorem dX8_force_53 : decode cX8_force 53 = .ok (.aload_n 0, 1) := by decide +kernel
theorem dX8_force_54 : decode cX8_force 54 = .ok (.getfield 10, 3) := by decide +kernel
theorem dX8_force_57 : decode cX8_force 57 = .ok (.getfield 139, 3) := by decide +kernel
theorem dX8_force_60 : decode cX8_force 60 = .ok (.iload 4, 2) := by decide +kernel
theorem dX8_force_62 : decode cX8_force 62 = .ok (.iconst (-1), 1) := by decide +kernel
theorem dX8_force_63 : decode cX8_force 63 = .ok (.ixor, 1) := by decide +kernel
theorem dX8_force_64 : decode cX8_force 64 = .ok (.iand, 1) := by decide +kernel
theorem dX8_force_65 : decode cX8_force 65 = .ok (.putfield 139, 3) := by decide +kernel
theorem dX8_force_68 : decode cX8_force 68 = .ok (.iload_n 3, 1) := by decide +kernel
theorem dX8_force_69 : decode cX8_force 69 = .ok (.ireturn, 1) := by decide +kernel
set_option maxRecDepth 20000 in
theorem ggX8_set_X8_isWithin : GoodIn wsX8_set wsX8_isWithin := goodIn_r _ [11] (by decide +kernel) (by decide +kernel)
set_option maxRecDepth 20000 in
theorem gX8_set_X8_isWithin : GoodIn wsX8_set (va_wsS RX8 47 yX8_isWithin wsX8_isWithin) := goodIn_app (goodIn_of _ (by decide +kernel)) ggX8_set_X8_isWithin
set_option maxRecDepth 20000 in
theorem ggX8_set_X1_save : GoodIn wsX8_set wsX1_save := goodIn_r _ [16, 17, 18, 19, 20, 21, 22, 23, 24, 25, 15, 26, 27, 28, 29, 30, 31, 32, 33, 34, 35, 36, 37, 38, 39, 40, 41, 42, 43, 44, 45, 46, 47, 48, 49, 50, 51, 52, 53, 54, 55, 56, 57, 58, 59, 60, 61, 62, 63, 64, 65, 66, 67, 68, 69, 70, 71, 72, 73, 74, 75, 76, 77, 78, 79, 80, 81, 82, 83, 84, 85, 103, 104, 105, 97, 98, 99, 100, 101, 102, 106, 107, 108, 109, 110, 111, 112, 113, 114, 115, 116, 117, 118, 119] (by decide +kernel) (by decide +kernel)
set_option maxRecDepth 20000 in
theorem gX8_set_X1_save : GoodIn wsX8_set (wsV RX8 71 RX1 yX1_save wsX1_save) := goodIn_app (goodIn_of _ (by decide +kernel)) ggX8_set_X1_save
set_option maxRecDepth 20000 in
theorem ggX8_set_X3_swap : GoodIn wsX8_set wsX3_swap := goodIn_r _ [89, 55, 56, 57, 52, 58, 54, 90, 91, 92, 93, 111] (by decide +kernel) (by decide +kernel)
set_option maxRecDepth 20000 in
theorem gX8_set_X3_swap : GoodIn wsX8_set (wsV RX8 103 RX3 yX3_swap wsX3_swap) := goodIn_app (goodIn_of _ (by decide +kernel)) ggX8_set_X3_swap
theorem dX8_set_0 : decode cX8_set 0 = .ok (.iload_n 1, 1) := by decide +kernel
theorem dX8_set_1 : decode cX8_set 1 = .ok (.iconst 0, 1) := by decide +kernel
theorem dX8_set_2 : decode cX8_set 2 = .ok (.iconst 2, 1) := by decide +kernel
theorem dX8_set_3 : decode cX8_set 3 = .ok (.invokestatic 47, 3) := by decide +kernel
theorem dX8_set_6 : decode cX8_set 6 = .ok (.ifCond .ne 13, 3) := by decide +kernel
theorem dX8_set_9 : decode cX8_set 9 = .ok (.new 37, 3) := by decide +kernel
theorem dX8_set_12 : decode cX8_set 12 = .ok (.dup, 1) := by decide +kernel
theorem dX8_set_13 : decode cX8_set 13 = .ok (.ldc 142, 2) := by decide +kernel
theorem dX8_set_15 : decode cX8_set 15 = .ok (.invokespecial 41, 3) := by decide +kernel
theorem dX8_set_18 : decode cX8_set 18 = .ok (.athrow, 1) := by decide +kernel
theorem dX8_set_19 : decode cX8_set 19 = .ok (.iload_n 1, 1) := by decide +kernel
theorem dX8_set_20 : decode cX8_set 20 = .ok (.iconst 2, 1) := by decide +kernel
theorem dX8_set_21 : decode cX8_set 21 = .ok (.if_icmp .ne 12, 3) := by decide +kernel
theorem dX8_set_24 : decode cX8_set 24 = .ok (.iload_n 2, 1) := by decide +kernel
theorem dX8_set_25 : decode cX8_set 25 = .ok (.iconst 0, 1) := by decide +kernel
theorem dX8_set_26 : decode cX8_set 26 = .ok (.iconst 1, 1) := by decide +kernel
theorem dX8_set_27 : decode cX8_set 27 = .ok (.invokestatic 47, 3) := by decide +kernel
theorem dX8_set_30 : decode cX8_set 30 = .ok (.goto 10, 3) := by decide +kernel
theorem dX8_set_33 : decode cX8_set 33 = .ok (.iload_n 2, 1) := by decide +kernel
theorem dX8_set_34 : decode cX8_set 34 = .ok (.iconst 1, 1) := by decide +kernel
theorem dX8_set_35 : decode cX8_set 35 = .ok (.bipush 9, 2) := by decide +kernel
theorem dX8_set_37 : decode cX8_set 37 = .ok (.invokestatic 47, 3) := by decide +kernel
theorem dX8_set_40 : decode cX8_set 40 = .ok (.istore_n 3, 1) := by decide +kernel
theorem dX8_set_41 : decode cX8_set 41 = .ok (.iload_n 3, 1) := by decide +kernel
theorem dX8_set_42 : decode cX8_set 42 = .ok (.ifCond .ne 13, 3) := by decide +kernel
theorem dX8_set_45 : decode cX8_set 45 = .ok (.new 51, 3) := by decide +kernel
theorem dX8_set_48 : decode cX8_set 48 = .ok (.dup, 1) := by decide +kernel
theorem dX8_set_49 : decode cX8_set 49 = .ok (.ldc 97, 2) := by decide +kernel
theorem dX8_set_51 : decode cX8_set 51 = .ok (.invokespecial 55, 3) := by decide +kernel
theorem dX8_set_54 : decode cX8_set 54 = .ok (.athrow, 1) := by decide +kernel
theorem dX8_set_55 : decode cX8_set 55 = .ok (.aload_n 0, 1) := by decide +kernel
theorem dX8_set_56 : decode cX8_set 56 = .ok (.getfield 19, 3) := by decide +kernel
theorem dX8_set_59 : decode cX8_set 59 = .ok (.aload_n 0, 1) := by decide +kernel
theorem dX8_set_60 : decode cX8_set 60 = .ok (.getfield 10, 3) := by decide +kernel
theorem dX8_set_63 : decode cX8_set 63 = .ok (.invokevirtual 71, 3) := by decide +kernel
theorem dX8_set_66 : decode cX8_set 66 = .ok (.aload_n 0, 1) := by decide +kernel
theorem dX8_set_67 : decode cX8_set 67 = .ok (.getfield 10, 3) := by decide +kernel
theorem dX8_set_70 : decode cX8_set 70 = .ok (.getfield 144, 3) := by decide +kernel
theorem dX8_set_73 : decode cX8_set 73 = .ok (.iload_n 1, 1) := by decide +kernel
theorem dX8_set_74 : decode cX8_set 74 = .ok (.iload_n 2, 1) := by decide +kernel
theorem dX8_set_75 : decode cX8_set 75 = .ok (.invokevirtual 103, 3) := by decide +kernel
theorem dX8_set_78 : decode cX8_set 78 = .ok (.ireturn, 1) := by decide +kernel
set_option maxRecDepth 20000 in
theorem ggX8_ask_X8_requireQuestion : GoodIn wsX8_ask wsX8_requireQuestion := goodIn_ca (goodIn_ca (goodIn_r _ [9, 10, 11, 12, 13, 14, 15, 8, 16, 17, 18, 19, 20, 21, 22, 23, 24, 25, 26, 27, 28] (by decide +kernel) (by decide +kernel)) (goodIn_sub (fun _ h => List.mem_cons_of_mem _ (List.mem_append_left _ (List.mem_append_right _ h))) (by decide +kernel))) (goodIn_sub (fun _ h => List.mem_cons_of_mem _ (List.mem_append_right _ h)) (by decide +kernel))
set_option maxRecDepth 20000 in
theorem gX8_ask_X8_requireQuestion : GoodIn wsX8_ask (va_wsS RX8 147 yX8_requireQuestion wsX8_requireQuestion) := goodIn_app (goodIn_of _ (by decide +kernel)) ggX8_ask_X8_requireQuestion
set_option maxRecDepth 20000 in
theorem ggX8_ask_X1_save : GoodIn wsX8_ask wsX1_save := goodIn_r _ [33, 34, 35, 36, 37, 38, 39, 40, 41, 42, 32, 43, 44, 45, 46, 47, 48, 49, 50, 51, 52, 53, 54, 55, 56, 57, 58, 59, 60, 61, 62, 63, 64, 65, 66, 67, 68, 69, 70, 71, 72, 73, 74, 75, 76, 77, 78, 79, 80, 81, 82, 83, 84, 85, 86, 87, 88, 89, 90, 91, 92, 93, 94, 95, 96, 97, 98, 99, 100, 101, 102, 185, 186, 187, 176, 177, 178, 179, 180, 181, 188, 189, 190, 191, 192, 193, 194, 195, 196, 197, 198, 182, 183, 184] (by decide +kernel) (by decide +kernel)
set_option maxRecDepth 20000 in
theorem gX8_ask_X1_save : GoodIn wsX8_ask (wsV RX8 71 RX1 yX1_save wsX1_save) := goodIn_app (goodIn_of _ (by decide +kernel)) ggX8_ask_X1_save
set_option maxRecDepth 20000 in
theorem ggX8_ask_X6_seenRows : GoodIn wsX8_ask wsX6_seenRows := goodIn_r _ [106, 50, 107, 108, 109, 110, 59, 111, 63, 62, 112, 73, 74, 69, 75, 71, 113, 114, 115, 48, 116, 117, 118, 51, 119, 120, 121, 122, 123, 55, 124, 176, 177, 178, 179, 180, 181, 188, 189, 190, 191, 192, 193, 194, 195, 196] (by decide +kernel) (by decide +kernel)
set_option maxRecDepth 20000 in
theorem gX8_ask_X6_seenRows : GoodIn wsX8_ask (wsV RX8 150 RX6 yX6_seenRows wsX6_seenRows) := goodIn_app (goodIn_of _ (by decide +kernel)) ggX8_ask_X6_seenRows
set_option maxRecDepth 20000 in
theorem ggX8_ask_X6_countAnswer : GoodIn wsX8_ask wsX6_countAnswer := goodIn_r _ [128, 54, 52, 129, 130, 131, 48, 132, 133, 134, 135, 136, 137, 138, 139, 124, 73, 74, 69, 75, 71, 140, 141, 142, 88, 143, 91, 144, 145, 146, 147, 148, 90, 149, 150, 151, 152, 176, 177, 178, 179, 180, 181, 193, 197, 198] (by decide +kernel) (by decide +kernel)
set_option maxRecDepth 20000 in
theorem gX8_ask_X6_countAnswer : GoodIn wsX8_ask (wsV RX8 154 RX6 yX6_countAnswer wsX6_countAnswer) := goodIn_app (goodIn_of _ (by decide +kernel)) ggX8_ask_X6_countAnswer
set_option maxRecDepth 20000 in
theorem ggX8_ask_X7_note : GoodIn wsX8_ask wsX7_note := goodIn_r _ [156, 98, 99, 157, 73, 74, 69, 75, 71, 158, 159, 160, 161, 182, 183, 184, 193] (by decide +kernel) (by decide +kernel)
set_option maxRecDepth 20000 in
theorem gX8_ask_X7_note : GoodIn wsX8_ask (wsV RX8 161 RX7 yX7_note wsX7_note) := goodIn_app (goodIn_of _ (by decide +kernel)) ggX8_ask_X7_note
set_option maxRecDepth 20000 in
theorem ggX8_ask_X2_givesAway : GoodIn wsX8_ask wsX2_givesAway := goodIn_r _ [143, 91, 144, 73, 74, 69, 75, 71, 145, 146, 147, 88, 148, 90, 149, 134, 135, 136, 137, 138, 139, 197, 198, 193] (by decide +kernel) (by decide +kernel)
set_option maxRecDepth 20000 in
theorem gX8_ask_X2_givesAway : GoodIn wsX8_ask (wsV RX8 167 RX2 yX2_givesAway wsX2_givesAway) := goodIn_app (goodIn_of _ (by decide +kernel)) ggX8_ask_X2_givesAway
set_option maxRecDepth 20000 in
theorem ggX8_ask_X2_keep : GoodIn wsX8_ask wsX2_keep := goodIn_r _ [166, 91, 90, 144, 73, 74, 69, 75, 71, 167, 168, 169, 170, 72, 171, 159, 160, 161, 172, 197, 198, 193] (by decide +kernel) (by decide +kernel)
set_option maxRecDepth 20000 in
theorem gX8_ask_X2_keep : GoodIn wsX8_ask (wsV RX8 174 RX2 yX2_keep wsX2_keep) := goodIn_app (goodIn_of _ (by decide +kernel)) ggX8_ask_X2_keep
theorem dX8_ask_0 : decode cX8_ask 0 = .ok (.iload_n 1, 1) := by decide +kernel
theorem dX8_ask_1 : decode cX8_ask 1 = .ok (.iload_n 2, 1) := by decide +kernel
theorem dX8_ask_2 : decode cX8_ask 2 = .ok (.iload_n 3, 1) := by decide +kernel
theorem dX8_ask_3 : decode cX8_ask 3 = .ok (.iload 4, 2) := by decide +kernel
theorem dX8_ask_5 : decode cX8_ask 5 = .ok (.invokestatic 147, 3) := by decide +kernel
theorem dX8_ask_8 : decode cX8_ask 8 = .ok (.aload_n 0, 1) := by decide +kernel
theorem dX8_ask_9 : decode cX8_ask 9 = .ok (.getfield 19, 3) := by decide +kernel
theorem dX8_ask_12 : decode cX8_ask 12 = .ok (.aload_n 0, 1) := by decide +kernel
theorem dX8_ask_13 : decode cX8_ask 13 = .ok (.getfield 10, 3) := by decide +kernel
theorem dX8_ask_16 : decode cX8_ask 16 = .ok (.invokevirtual 71, 3) := by decide +kernel
theorem dX8_ask_19 : decode cX8_ask 19 = .ok (.aload_n 0, 1) := by decide +kernel
theorem dX8_ask_20 : decode cX8_ask 20 = .ok (.getfield 10, 3) := by decide +kernel
theorem dX8_ask_23 : decode cX8_ask 23 = .ok (.iload_n 1, 1) := by decide +kernel
theorem dX8_ask_24 : decode cX8_ask 24 = .ok (.iload_n 2, 1) := by decide +kernel
theorem dX8_ask_25 : decode cX8_ask 25 = .ok (.iload_n 3, 1) := by decide +kernel
theorem dX8_ask_26 : decode cX8_ask 26 = .ok (.iload 4, 2) := by decide +kernel
theorem dX8_ask_28 : decode cX8_ask 28 = .ok (.invokevirtual 150, 3) := by decide +kernel
theorem dX8_ask_31 : decode cX8_ask 31 = .ok (.istore 5, 2) := by decide +kernel
theorem dX8_ask_33 : decode cX8_ask 33 = .ok (.aload_n 0, 1) := by decide +kernel
theorem dX8_ask_34 : decode cX8_ask 34 = .ok (.getfield 10, 3) := by decide +kernel
theorem dX8_ask_37 : decode cX8_ask 37 = .ok (.iload_n 1, 1) := by decide +kernel
theorem dX8_ask_38 : decode cX8_ask 38 = .ok (.iload 5, 2) := by decide +kernel
theorem dX8_ask_40 : decode cX8_ask 40 = .ok (.invokevirtual 154, 3) := by decide +kernel
theorem dX8_ask_43 : decode cX8_ask 43 = .ok (.istore 6, 2) := by decide +kernel
theorem dX8_ask_45 : decode cX8_ask 45 = .ok (.aload_n 0, 1) := by decide +kernel
theorem dX8_ask_46 : decode cX8_ask 46 = .ok (.getfield 10, 3) := by decide +kernel
theorem dX8_ask_49 : decode cX8_ask 49 = .ok (.getfield 157, 3) := by decide +kernel
theorem dX8_ask_52 : decode cX8_ask 52 = .ok (.iload_n 1, 1) := by decide +kernel
theorem dX8_ask_53 : decode cX8_ask 53 = .ok (.iload 6, 2) := by decide +kernel
theorem dX8_ask_55 : decode cX8_ask 55 = .ok (.iconst (-1), 1) := by decide +kernel
theorem dX8_ask_56 : decode cX8_ask 56 = .ok (.if_icmp .ne 7, 3) := by decide +kernel
theorem dX8_ask_59 : decode cX8_ask 59 = .ok (.iconst 1, 1) := by decide +kernel
theorem dX8_ask_60 : decode cX8_ask 60 = .ok (.goto 4, 3) := by decide +kernel
theorem dX8_ask_63 : decode cX8_ask 63 = .ok (.iconst 0, 1) := by decide +kernel
theorem dX8_ask_64 : decode cX8_ask 64 = .ok (.invokevirtual 161, 3) := by decide +kernel
theorem dX8_ask_67 : decode cX8_ask 67 = .ok (.iload 6, 2) := by decide +kernel
theorem dX8_ask_69 : decode cX8_ask 69 = .ok (.iconst (-1), 1) := by decide +kernel
theorem dX8_ask_70 : decode cX8_ask 70 = .ok (.if_icmp .eq 48, 3) := by decide +kernel
theorem dX8_ask_73 : decode cX8_ask 73 = .ok (.aload_n 0, 1) := by decide +kernel
theorem dX8_ask_74 : decode cX8_ask 74 = .ok (.getfield 10, 3) := by decide +kernel
theorem dX8_ask_77 : decode cX8_ask 77 = .ok (.getfield 90, 3) := by decide +kernel
theorem dX8_ask_80 : decode cX8_ask 80 = .ok (.iload_n 1, 1) := by decide +kernel
theorem dX8_ask_81 : decode cX8_ask 81 = .ok (.iload 5, 2) := by decide +kernel
theorem dX8_ask_83 : decode cX8_ask 83 = .ok (.invokevirtual 167, 3) := by decide +kernel
theorem dX8_ask_86 : decode cX8_ask 86 = .ok (.ifCond .eq 19, 3) := by decide +kernel
theorem dX8_ask_89 : decode cX8_ask 89 = .ok (.aload_n 0, 1) := by decide +kernel
theorem dX8_ask_90 : decode cX8_ask 90 = .ok (.getfield 10, 3) := by decide +kernel
theorem dX8_ask_93 : decode cX8_ask 93 = .ok (.getfield 157, 3) := by decide +kernel
theorem dX8_ask_96 : decode cX8_ask 96 = .ok (.dup, 1) := by decide +kernel
theorem dX8_ask_97 : decode cX8_ask 97 = .ok (.getfield 171, 3) := by decide +kernel
theorem dX8_ask_100 : decode cX8_ask 100 = .ok (.iconst 1, 1) := by decide +kernel
theorem dX8_ask_101 : decode cX8_ask 101 = .ok (.iadd, 1) := by decide +kernel
theorem dX8_ask_102 : decode cX8_ask 102 = .ok (.putfield 171, 3) := by decide +kernel
theorem dX8_ask_105 : decode cX8_ask 105 = .ok (.aload_n 0, 1) := by decide +kernel
theorem dX8_ask_106 : decode cX8_ask 106 = .ok (.getfield 10, 3) := by decide +kernel
theorem dX8_ask_109 : decode cX8_ask 109 = .ok (.getfield 90, 3) := by decide +kernel
theorem dX8_ask_112 : decode cX8_ask 112 = .ok (.iload_n 1, 1) := by decide +kernel
theorem dX8_ask_113 : decode cX8_ask 113 = .ok (.iload 5, 2) := by decide +kernel
theorem dX8_ask_115 : decode cX8_ask 115 = .ok (.invokevirtual 174, 3) := by decide +kernel
theorem dX8_ask_118 : decode cX8_ask 118 = .ok (.iload 6, 2) := by decide +kernel
theorem dX8_ask_120 : decode cX8_ask 120 = .ok (.ireturn, 1) := by decide +kernel
set_option maxRecDepth 20000 in
theorem ggX8_askSum_X8_requireQuestion : GoodIn wsX8_askSum wsX8_requireQuestion := goodIn_ca (goodIn_ca (goodIn_r _ [7, 8, 9, 10, 11, 12, 13, 6, 14, 15, 16, 17, 18, 19, 20, 21, 22, 23, 24, 25, 26] (by decide +kernel) (by decide +kernel)) (goodIn_sub (fun _ h => List.mem_cons_of_mem _ (List.mem_append_left _ (List.mem_append_right _ h))) (by decide +kernel))) (goodIn_sub (fun _ h => List.mem_cons_of_mem _ (List.mem_append_right _ h)) (by decide +kernel))
set_option maxRecDepth 20000 in
theorem gX8_askSum_X8_requireQuestion : GoodIn wsX8_askSum (va_wsS RX8 147 yX8_requireQuestion wsX8_requireQuestion) := goodIn_app (goodIn_of _ (by decide +kernel)) ggX8_askSum_X8_requireQuestion
set_option maxRecDepth 20000 in
theorem ggX8_askSum_X1_save : GoodIn wsX8_askSum wsX1_save := goodIn_r _ [31, 32, 33, 34, 35, 36, 37, 38, 39, 40, 30, 41, 42, 43, 44, 45, 46, 47, 48, 49, 50, 51, 52, 53, 54, 55, 56, 57, 58, 59, 60, 61, 62, 63, 64, 65, 66, 67, 68, 69, 70, 71, 72, 73, 74, 75, 76, 77, 78, 79, 80, 81, 82, 83, 84, 85, 86, 87, 88, 89, 90, 91, 92, 93, 94, 95, 96, 97, 98, 99, 100, 159, 160, 161, 153, 154, 155, 156, 157, 158, 162, 163, 164, 165, 166, 167, 168, 169, 170, 171, 172, 173, 174, 175] (by decide +kernel) (by decide +kernel)
set_option maxRecDepth 20000 in
theorem gX8_askSum_X1_save : GoodIn wsX8_askSum (wsV RX8 71 RX1 yX1_save wsX1_save) := goodIn_app (goodIn_of _ (by decide +kernel)) ggX8_askSum_X1_save
set_option maxRecDepth 20000 in
theorem ggX8_askSum_X6_seenRows : GoodIn wsX8_askSum wsX6_seenRows := goodIn_r _ [104, 48, 105, 106, 107, 108, 57, 109, 61, 60, 110, 71, 72, 67, 73, 69, 111, 112, 113, 46, 114, 115, 116, 49, 117, 118, 119, 120, 121, 53, 122, 153, 154, 155, 156, 157, 158, 162, 163, 164, 165, 166, 167, 168, 169, 170] (by decide +kernel) (by decide +kernel)
set_option maxRecDepth 20000 in
theorem gX8_askSum_X6_seenRows : GoodIn wsX8_askSum (wsV RX8 150 RX6 yX6_seenRows wsX6_seenRows) := goodIn_app (goodIn_of _ (by decide +kernel)) ggX8_askSum_X6_seenRows
set_option maxRecDepth 20000 in
theorem ggX8_askSum_X6_sumAnswer : GoodIn wsX8_askSum wsX6_sumAnswer := goodIn_r _ [126, 48, 105, 120, 127, 128, 36, 129, 122, 71, 72, 67, 73, 69, 130, 131, 132, 46, 133, 52, 134, 135, 136, 137, 138, 139, 140, 153, 154, 155, 156, 157, 158, 162, 163, 164, 165, 166, 167] (by decide +kernel) (by decide +kernel)
set_option maxRecDepth 20000 in
theorem gX8_askSum_X6_sumAnswer : GoodIn wsX8_askSum (wsV RX8 177 RX6 yX6_sumAnswer wsX6_sumAnswer) := goodIn_app (goodIn_of _ (by decide +kernel)) ggX8_askSum_X6_sumAnswer
set_option maxRecDepth 20000 in
theorem ggX8_askSum_X7_note : GoodIn wsX8_askSum wsX7_note := goodIn_r _ [144, 96, 97, 145, 71, 72, 67, 73, 69, 146, 147, 148, 149, 173, 174, 175, 167] (by decide +kernel) (by decide +kernel)
set_option maxRecDepth 20000 in
theorem gX8_askSum_X7_note : GoodIn wsX8_askSum (wsV RX8 161 RX7 yX7_note wsX7_note) := goodIn_app (goodIn_of _ (by decide +kernel)) ggX8_askSum_X7_note
theorem dX8_askSum_0 : decode cX8_askSum 0 = .ok (.iload_n 1, 1) := by decide +kernel
theorem dX8_askSum_1 : decode cX8_askSum 1 = .ok (.iload_n 2, 1) := by decide +kernel
theorem dX8_askSum_2 : decode cX8_askSum 2 = .ok (.iload_n 3, 1) := by decide +kernel
theorem dX8_askSum_3 : decode cX8_askSum 3 = .ok (.iload 4, 2) := by decide +kernel
theorem dX8_askSum_5 : decode cX8_askSum 5 = .ok (.invokestatic 147, 3) := by decide +kernel
theorem dX8_askSum_8 : decode cX8_askSum 8 = .ok (.aload_n 0, 1) := by decide +kernel
theorem dX8_askSum_9 : decode cX8_askSum 9 = .ok (.getfield 19, 3) := by decide +kernel
theorem dX8_askSum_12 : decode cX8_askSum 12 = .ok (.aload_n 0, 1) := by decide +kernel
theorem dX8_askSum_13 : decode cX8_askSum 13 = .ok (.getfield 10, 3) := by decide +kernel
theorem dX8_askSum_16 : decode cX8_askSum 16 = .ok (.invokevirtual 71, 3) := by decide +kernel
theorem dX8_askSum_19 : decode cX8_askSum 19 = .ok (.aload_n 0, 1) := by decide +kernel
theorem dX8_askSum_20 : decode cX8_askSum 20 = .ok (.getfield 10, 3) := by decide +kernel
theorem dX8_askSum_23 : decode cX8_askSum 23 = .ok (.aload_n 0, 1) := by decide +kernel
theorem dX8_askSum_24 : decode cX8_askSum 24 = .ok (.getfield 10, 3) := by decide +kernel
theorem dX8_askSum_27 : decode cX8_askSum 27 = .ok (.iload_n 1, 1) := by decide +kernel
theorem dX8_askSum_28 : decode cX8_askSum 28 = .ok (.iload_n 2, 1) := by decide +kernel
theorem dX8_askSum_29 : decode cX8_askSum 29 = .ok (.iload_n 3, 1) := by decide +kernel
theorem dX8_askSum_30 : decode cX8_askSum 30 = .ok (.iload 4, 2) := by decide +kernel
theorem dX8_askSum_32 : decode cX8_askSum 32 = .ok (.invokevirtual 150, 3) := by decide +kernel
theorem dX8_askSum_35 : decode cX8_askSum 35 = .ok (.invokevirtual 177, 3) := by decide +kernel
theorem dX8_askSum_38 : decode cX8_askSum 38 = .ok (.istore 5, 2) := by decide +kernel
theorem dX8_askSum_40 : decode cX8_askSum 40 = .ok (.aload_n 0, 1) := by decide +kernel
theorem dX8_askSum_41 : decode cX8_askSum 41 = .ok (.getfield 10, 3) := by decide +kernel
theorem dX8_askSum_44 : decode cX8_askSum 44 = .ok (.getfield 157, 3) := by decide +kernel
theorem dX8_askSum_47 : decode cX8_askSum 47 = .ok (.iload_n 1, 1) := by decide +kernel
theorem dX8_askSum_48 : decode cX8_askSum 48 = .ok (.iload 5, 2) := by decide +kernel
theorem dX8_askSum_50 : decode cX8_askSum 50 = .ok (.iconst (-1), 1) := by decide +kernel
theorem dX8_askSum_51 : decode cX8_askSum 51 = .ok (.if_icmp .ne 7, 3) := by decide +kernel
theorem dX8_askSum_54 : decode cX8_askSum 54 = .ok (.iconst 1, 1) := by decide +kernel
theorem dX8_askSum_55 : decode cX8_askSum 55 = .ok (.goto 4, 3) := by decide +kernel
theorem dX8_askSum_58 : decode cX8_askSum 58 = .ok (.iconst 0, 1) := by decide +kernel
theorem dX8_askSum_59 : decode cX8_askSum 59 = .ok (.invokevirtual 161, 3) := by decide +kernel
theorem dX8_askSum_62 : decode cX8_askSum 62 = .ok (.iload 5, 2) := by decide +kernel
theorem dX8_askSum_64 : decode cX8_askSum 64 = .ok (.ireturn, 1) := by decide +kernel
set_option maxRecDepth 20000 in
theorem ggX8_forget_X8_requireAsker : GoodIn wsX8_forget wsX8_requireAsker := goodIn_ca (goodIn_r _ [8, 9, 10, 11, 12, 7, 13, 14, 15, 16] (by decide +kernel) (by decide +kernel)) (goodIn_sub (fun _ h => List.mem_cons_of_mem _ (List.mem_append_right _ h)) (by decide +kernel))
set_option maxRecDepth 20000 in
theorem gX8_forget_X8_requireAsker : GoodIn wsX8_forget (va_wsS RX8 181 yX8_requireAsker wsX8_requireAsker) := goodIn_app (goodIn_of _ (by decide +kernel)) ggX8_forget_X8_requireAsker
set_option maxRecDepth 20000 in
theorem ggX8_forget_X1_save : GoodIn wsX8_forget wsX1_save := goodIn_r _ [21, 22, 23, 24, 25, 26, 27, 28, 29, 30, 20, 31, 32, 33, 34, 35, 36, 37, 38, 39, 40, 41, 42, 43, 44, 45, 46, 47, 48, 49, 50, 51, 52, 53, 54, 55, 56, 57, 58, 59, 60, 61, 62, 63, 64, 65, 66, 67, 68, 69, 70, 71, 72, 73, 74, 75, 76, 77, 78, 79, 80, 81, 82, 83, 84, 85, 86, 87, 88, 89, 90, 110, 111, 112, 102, 103, 104, 105, 106, 107, 113, 114, 115, 116, 117, 118, 119, 120, 121, 108, 109, 122, 123, 124] (by decide +kernel) (by decide +kernel)
set_option maxRecDepth 20000 in
theorem gX8_forget_X1_save : GoodIn wsX8_forget (wsV RX8 71 RX1 yX1_save wsX1_save) := goodIn_app (goodIn_of _ (by decide +kernel)) ggX8_forget_X1_save
set_option maxRecDepth 20000 in
theorem ggX8_forget_X3_swap : GoodIn wsX8_forget wsX3_swap := goodIn_r _ [94, 60, 61, 62, 57, 63, 59, 95, 96, 97, 98, 118] (by decide +kernel) (by decide +kernel)
set_option maxRecDepth 20000 in
theorem gX8_forget_X3_swap : GoodIn wsX8_forget (wsV RX8 103 RX3 yX3_swap wsX3_swap) := goodIn_app (goodIn_of _ (by decide +kernel)) ggX8_forget_X3_swap
theorem dX8_forget_0 : decode cX8_forget 0 = .ok (.iload_n 1, 1) := by decide +kernel
theorem dX8_forget_1 : decode cX8_forget 1 = .ok (.invokestatic 181, 3) := by decide +kernel
theorem dX8_forget_4 : decode cX8_forget 4 = .ok (.aload_n 0, 1) := by decide +kernel
theorem dX8_forget_5 : decode cX8_forget 5 = .ok (.getfield 19, 3) := by decide +kernel
theorem dX8_forget_8 : decode cX8_forget 8 = .ok (.aload_n 0, 1) := by decide +kernel
theorem dX8_forget_9 : decode cX8_forget 9 = .ok (.getfield 10, 3) := by decide +kernel
theorem dX8_forget_12 : decode cX8_forget 12 = .ok (.invokevirtual 71, 3) := by decide +kernel
theorem dX8_forget_15 : decode cX8_forget 15 = .ok (.aload_n 0, 1) := by decide +kernel
theorem dX8_forget_16 : decode cX8_forget 16 = .ok (.getfield 10, 3) := by decide +kernel
theorem dX8_forget_19 : decode cX8_forget 19 = .ok (.getfield 90, 3) := by decide +kernel
theorem dX8_forget_22 : decode cX8_forget 22 = .ok (.getfield 184, 3) := by decide +kernel
theorem dX8_forget_25 : decode cX8_forget 25 = .ok (.iload_n 1, 1) := by decide +kernel
theorem dX8_forget_26 : decode cX8_forget 26 = .ok (.iconst 0, 1) := by decide +kernel
theorem dX8_forget_27 : decode cX8_forget 27 = .ok (.invokevirtual 103, 3) := by decide +kernel
theorem dX8_forget_30 : decode cX8_forget 30 = .ok (.ireturn, 1) := by decide +kernel
set_option maxRecDepth 20000 in
theorem ggX8_append_X8_isWithin : GoodIn wsX8_append wsX8_isWithin := goodIn_r _ [10] (by decide +kernel) (by decide +kernel)
set_option maxRecDepth 20000 in
theorem gX8_append_X8_isWithin : GoodIn wsX8_append (va_wsS RX8 47 yX8_isWithin wsX8_isWithin) := goodIn_app (goodIn_of _ (by decide +kernel)) ggX8_append_X8_isWithin
set_option maxRecDepth 20000 in
theorem ggX8_append_X0_isFull : GoodIn wsX8_append wsX0_isFull := goodIn_r _ [15, 16, 31, 32] (by decide +kernel) (by decide +kernel)
set_option maxRecDepth 20000 in
theorem gX8_append_X0_isFull : GoodIn wsX8_append (wsV RX8 189 RX0 yX0_isFull wsX0_isFull) := goodIn_app (goodIn_of _ (by decide +kernel)) ggX8_append_X0_isFull
set_option maxRecDepth 20000 in
theorem ggX8_append_X0_put : GoodIn wsX8_append wsX0_put := goodIn_r _ [20, 21, 16, 22, 23, 24, 25, 26, 27, 31, 32, 33] (by decide +kernel) (by decide +kernel)
set_option maxRecDepth 20000 in
theorem gX8_append_X0_put : GoodIn wsX8_append (wsV RX8 192 RX0 yX0_put wsX0_put) := goodIn_app (goodIn_of _ (by decide +kernel)) ggX8_append_X0_put
theorem dX8_append_0 : decode cX8_append 0 = .ok (.iload_n 1, 1) := by decide +kernel
theorem dX8_append_1 : decode cX8_append 1 = .ok (.bipush 33, 2) := by decide +kernel
theorem dX8_append_3 : decode cX8_append 3 = .ok (.bipush 126, 2) := by decide +kernel
theorem dX8_append_5 : decode cX8_append 5 = .ok (.invokestatic 47, 3) := by decide +kernel
theorem dX8_append_8 : decode cX8_append 8 = .ok (.ifCond .ne 13, 3) := by decide +kernel
theorem dX8_append_11 : decode cX8_append 11 = .ok (.new 51, 3) := by decide +kernel
theorem dX8_append_14 : decode cX8_append 14 = .ok (.dup, 1) := by decide +kernel
theorem dX8_append_15 : decode cX8_append 15 = .ok (.ldc 187, 2) := by decide +kernel
theorem dX8_append_17 : decode cX8_append 17 = .ok (.invokespecial 55, 3) := by decide +kernel
theorem dX8_append_20 : decode cX8_append 20 = .ok (.athrow, 1) := by decide +kernel
theorem dX8_append_21 : decode cX8_append 21 = .ok (.aload_n 0, 1) := by decide +kernel
theorem dX8_append_22 : decode cX8_append 22 = .ok (.getfield 26, 3) := by decide +kernel
theorem dX8_append_25 : decode cX8_append 25 = .ok (.invokevirtual 189, 3) := by decide +kernel
theorem dX8_append_28 : decode cX8_append 28 = .ok (.ifCond .eq 13, 3) := by decide +kernel
theorem dX8_append_31 : decode cX8_append 31 = .ok (.new 66, 3) := by decide +kernel
theorem dX8_append_34 : decode cX8_append 34 = .ok (.dup, 1) := by decide +kernel
theorem dX8_append_35 : decode cX8_append 35 = .ok (.ldc 190, 2) := by decide +kernel
theorem dX8_append_37 : decode cX8_append 37 = .ok (.invokespecial 70, 3) := by decide +kernel
theorem dX8_append_40 : decode cX8_append 40 = .ok (.athrow, 1) := by decide +kernel
theorem dX8_append_41 : decode cX8_append 41 = .ok (.aload_n 0, 1) := by decide +kernel
theorem dX8_append_42 : decode cX8_append 42 = .ok (.getfield 26, 3) := by decide +kernel
theorem dX8_append_45 : decode cX8_append 45 = .ok (.iload_n 1, 1) := by decide +kernel
theorem dX8_append_46 : decode cX8_append 46 = .ok (.invokevirtual 192, 3) := by decide +kernel
theorem dX8_append_49 : decode cX8_append 49 = .ok (.aload_n 0, 1) := by decide +kernel
theorem dX8_append_50 : decode cX8_append 50 = .ok (.getfield 26, 3) := by decide +kernel
theorem dX8_append_53 : decode cX8_append 53 = .ok (.getfield 194, 3) := by decide +kernel
theorem dX8_append_56 : decode cX8_append 56 = .ok (.ireturn, 1) := by decide +kernel
set_option maxRecDepth 20000 in
theorem ggX8_clearBuffer_X0_empty : GoodIn wsX8_clearBuffer wsX0_empty := goodIn_r _ [6, 7, 11, 12] (by decide +kernel) (by decide +kernel)
set_option maxRecDepth 20000 in
theorem gX8_clearBuffer_X0_empty : GoodIn wsX8_clearBuffer (wsV RX8 197 RX0 yX0_empty wsX0_empty) := goodIn_app (goodIn_of _ (by decide +kernel)) ggX8_clearBuffer_X0_empty
theorem dX8_clearBuffer_0 : decode cX8_clearBuffer 0 = .ok (.aload_n 0, 1) := by decide +kernel
theorem dX8_clearBuffer_1 : decode cX8_clearBuffer 1 = .ok (.getfield 26, 3) := by decide +kernel
theorem dX8_clearBuffer_4 : decode cX8_clearBuffer 4 = .ok (.invokevirtual 197, 3) := by decide +kernel
theorem dX8_clearBuffer_7 : decode cX8_clearBuffer 7 = .ok (.ireturn, 1) := by decide +kernel
set_option maxRecDepth 20000 in
theorem ggX8_firstError_X0_errorIndex : GoodIn wsX8_firstError wsX0_errorIndex := goodIn_r _ [6, 7, 8, 9, 10, 11, 12, 13, 14, 15, 16, 5, 17, 18, 19, 20, 21, 22, 23, 24, 25, 26, 30, 31, 32] (by decide +kernel) (by decide +kernel)
set_option maxRecDepth 20000 in
theorem gX8_firstError_X0_errorIndex : GoodIn wsX8_firstError (wsV RX8 201 RX0 yX0_errorIndex wsX0_errorIndex) := goodIn_app (goodIn_of _ (by decide +kernel)) ggX8_firstError_X0_errorIndex
theorem dX8_firstError_0 : decode cX8_firstError 0 = .ok (.aload_n 0, 1) := by decide +kernel
theorem dX8_firstError_1 : decode cX8_firstError 1 = .ok (.getfield 26, 3) := by decide +kernel
theorem dX8_firstError_4 : decode cX8_firstError 4 = .ok (.invokevirtual 201, 3) := by decide +kernel
theorem dX8_firstError_7 : decode cX8_firstError 7 = .ok (.ireturn, 1) := by decide +kernel
set_option maxRecDepth 20000 in
theorem ggX8_rows_X0_isComplete : GoodIn wsX8_rows wsX0_isComplete := goodIn_r _ [11, 12, 13, 14, 15, 16, 17, 18, 19, 20, 21, 10, 22, 23, 24, 25, 26, 27, 28, 29, 30, 31, 134, 135, 136] (by decide +kernel) (by decide +kernel)
set_option maxRecDepth 20000 in
theorem gX8_rows_X0_isComplete : GoodIn wsX8_rows (wsV RX8 204 RX0 yX0_isComplete wsX0_isComplete) := goodIn_app (goodIn_of _ (by decide +kernel)) ggX8_rows_X0_isComplete
set_option maxRecDepth 20000 in
theorem ggX8_rows_X1_save : GoodIn wsX8_rows wsX1_save := goodIn_r _ [36, 37, 38, 39, 40, 41, 42, 43, 44, 45, 35, 46, 47, 48, 49, 50, 51, 52, 53, 54, 55, 56, 57, 58, 59, 60, 61, 62, 63, 64, 65, 66, 67, 68, 69, 70, 71, 17, 72, 19, 73, 15, 16, 18, 74, 75, 76, 77, 78, 79, 80, 81, 82, 83, 84, 85, 86, 87, 88, 89, 90, 91, 92, 93, 94, 95, 96, 97, 98, 99, 100, 137, 138, 139, 128, 129, 130, 131, 132, 133, 140, 141, 142, 143, 144, 136, 145, 146, 147, 148, 149, 150, 151, 152] (by decide +kernel) (by decide +kernel)
set_option maxRecDepth 20000 in
theorem gX8_rows_X1_save : GoodIn wsX8_rows (wsV RX8 71 RX1 yX1_save wsX1_save) := goodIn_app (goodIn_of _ (by decide +kernel)) ggX8_rows_X1_save
set_option maxRecDepth 20000 in
theorem ggX8_rows_X0_readInto : GoodIn wsX8_rows wsX0_readInto := goodIn_r _ [104, 12, 13, 14, 15, 16, 17, 18, 19, 105, 106, 107, 62, 108, 68, 109, 110, 111, 10, 112, 23, 24, 25, 113, 114, 115, 116, 64, 65, 66, 67, 117, 118, 119, 120, 134, 135, 136, 140, 141, 142, 143, 144] (by decide +kernel) (by decide +kernel)
set_option maxRecDepth 20000 in
theorem gX8_rows_X0_readInto : GoodIn wsX8_rows (wsV RX8 209 RX0 yX0_readInto wsX0_readInto) := goodIn_app (goodIn_of _ (by decide +kernel)) ggX8_rows_X0_readInto
set_option maxRecDepth 20000 in
theorem ggX8_rows_X0_empty : GoodIn wsX8_rows wsX0_empty := goodIn_r _ [124, 12, 134, 135] (by decide +kernel) (by decide +kernel)
set_option maxRecDepth 20000 in
theorem gX8_rows_X0_empty : GoodIn wsX8_rows (wsV RX8 197 RX0 yX0_empty wsX0_empty) := goodIn_app (goodIn_of _ (by decide +kernel)) ggX8_rows_X0_empty
theorem dX8_rows_0 : decode cX8_rows 0 = .ok (.aload_n 0, 1) := by decide +kernel
theorem dX8_rows_1 : decode cX8_rows 1 = .ok (.getfield 26, 3) := by decide +kernel
theorem dX8_rows_4 : decode cX8_rows 4 = .ok (.invokevirtual 204, 3) := by decide +kernel
theorem dX8_rows_7 : decode cX8_rows 7 = .ok (.ifCond .ne 13, 3) := by decide +kernel
theorem dX8_rows_10 : decode cX8_rows 10 = .ok (.new 51, 3) := by decide +kernel
theorem dX8_rows_13 : decode cX8_rows 13 = .ok (.dup, 1) := by decide +kernel
theorem dX8_rows_14 : decode cX8_rows 14 = .ok (.ldc 207, 2) := by decide +kernel
theorem dX8_rows_16 : decode cX8_rows 16 = .ok (.invokespecial 55, 3) := by decide +kernel
theorem dX8_rows_19 : decode cX8_rows 19 = .ok (.athrow, 1) := by decide +kernel
theorem dX8_rows_20 : decode cX8_rows 20 = .ok (.aload_n 0, 1) := by decide +kernel
theorem dX8_rows_21 : decode cX8_rows 21 = .ok (.getfield 19, 3) := by decide +kernel
theorem dX8_rows_24 : decode cX8_rows 24 = .ok (.aload_n 0, 1) := by decide +kernel
theorem dX8_rows_25 : decode cX8_rows 25 = .ok (.getfield 10, 3) := by decide +kernel
theorem dX8_rows_28 : decode cX8_rows 28 = .ok (.invokevirtual 71, 3) := by decide +kernel
theorem dX8_rows_31 : decode cX8_rows 31 = .ok (.aload_n 0, 1) := by decide +kernel
theorem dX8_rows_32 : decode cX8_rows 32 = .ok (.getfield 26, 3) := by decide +kernel
theorem dX8_rows_35 : decode cX8_rows 35 = .ok (.aload_n 0, 1) := by decide +kernel
theorem dX8_rows_36 : decode cX8_rows 36 = .ok (.getfield 10, 3) := by decide +kernel
theorem dX8_rows_39 : decode cX8_rows 39 = .ok (.getfield 56, 3) := by decide +kernel
theorem dX8_rows_42 : decode cX8_rows 42 = .ok (.invokevirtual 209, 3) := by decide +kernel
theorem dX8_rows_45 : decode cX8_rows 45 = .ok (.istore_n 1, 1) := by decide +kernel
theorem dX8_rows_46 : decode cX8_rows 46 = .ok (.aload_n 0, 1) := by decide +kernel
theorem dX8_rows_47 : decode cX8_rows 47 = .ok (.getfield 26, 3) := by decide +kernel
theorem dX8_rows_50 : decode cX8_rows 50 = .ok (.invokevirtual 197, 3) := by decide +kernel
theorem dX8_rows_53 : decode cX8_rows 53 = .ok (.pop, 1) := by decide +kernel
theorem dX8_rows_54 : decode cX8_rows 54 = .ok (.iload_n 1, 1) := by decide +kernel
theorem dX8_rows_55 : decode cX8_rows 55 = .ok (.ireturn, 1) := by decide +kernel
set_option maxRecDepth 20000 in
theorem ggX8_undo_X1_restore : GoodIn wsX8_undo wsX1_restore := goodIn_r _ [10, 11, 12, 13, 14, 15, 9, 16, 17, 18, 19, 20, 21, 22, 23, 24, 25, 26, 27, 28, 29, 30, 31, 32, 33, 34, 35, 36, 37, 38, 39, 40, 41, 42, 43, 44, 45, 46, 47, 48, 49, 50, 51, 52, 53, 54, 55, 56, 57, 58, 59, 60, 61, 62, 63, 64, 65, 66, 67, 68, 69, 70, 71, 72, 73, 74, 75, 79, 80, 81, 82, 83, 84, 85, 86, 87, 88, 89, 90, 91, 92, 93, 94, 95, 96, 97, 98, 99, 100, 101] (by decide +kernel) (by decide +kernel)
set_option maxRecDepth 20000 in
theorem gX8_undo_X1_restore : GoodIn wsX8_undo (wsV RX8 218 RX1 yX1_restore wsX1_restore) := goodIn_app (goodIn_of _ (by decide +kernel)) ggX8_undo_X1_restore
theorem dX8_undo_0 : decode cX8_undo 0 = .ok (.aload_n 0, 1) := by decide +kernel
theorem dX8_undo_1 : decode cX8_undo 1 = .ok (.getfield 19, 3) := by decide +kernel
theorem dX8_undo_4 : decode cX8_undo 4 = .ok (.getfield 213, 3) := by decide +kernel
theorem dX8_undo_7 : decode cX8_undo 7 = .ok (.ifCond .ne 13, 3) := by decide +kernel
theorem dX8_undo_10 : decode cX8_undo 10 = .ok (.new 66, 3) := by decide +kernel
theorem dX8_undo_13 : decode cX8_undo 13 = .ok (.dup, 1) := by decide +kernel
theorem dX8_undo_14 : decode cX8_undo 14 = .ok (.ldc 216, 2) := by decide +kernel
theorem dX8_undo_16 : decode cX8_undo 16 = .ok (.invokespecial 70, 3) := by decide +kernel
theorem dX8_undo_19 : decode cX8_undo 19 = .ok (.athrow, 1) := by decide +kernel
theorem dX8_undo_20 : decode cX8_undo 20 = .ok (.aload_n 0, 1) := by decide +kernel
theorem dX8_undo_21 : decode cX8_undo 21 = .ok (.getfield 19, 3) := by decide +kernel
theorem dX8_undo_24 : decode cX8_undo 24 = .ok (.aload_n 0, 1) := by decide +kernel
theorem dX8_undo_25 : decode cX8_undo 25 = .ok (.getfield 10, 3) := by decide +kernel
theorem dX8_undo_28 : decode cX8_undo 28 = .ok (.invokevirtual 218, 3) := by decide +kernel
theorem dX8_undo_31 : decode cX8_undo 31 = .ok (.aload_n 0, 1) := by decide +kernel
theorem dX8_undo_32 : decode cX8_undo 32 = .ok (.getfield 19, 3) := by decide +kernel
theorem dX8_undo_35 : decode cX8_undo 35 = .ok (.getfield 213, 3) := by decide +kernel
theorem dX8_undo_38 : decode cX8_undo 38 = .ok (.ireturn, 1) := by decide +kernel
set_option maxRecDepth 20000 in
theorem ggX8_rowOf_X8_requireRow : GoodIn wsX8_rowOf wsX8_requireRow := goodIn_ca (goodIn_r _ [8, 9, 10, 3, 11, 12, 13, 14, 7, 15, 45, 46, 47, 48, 49, 50, 51, 52, 53, 54, 55, 56, 57, 58] (by decide +kernel) (by decide +kernel)) (goodIn_sub (fun _ h => List.mem_cons_of_mem _ (List.mem_append_right _ h)) (by decide +kernel))
set_option maxRecDepth 20000 in
theorem gX8_rowOf_X8_requireRow : GoodIn wsX8_rowOf (wsV RX8 83 RX8 yX8_requireRow wsX8_requireRow) := goodIn_app (goodIn_of _ (by decide +kernel)) ggX8_rowOf_X8_requireRow
set_option maxRecDepth 20000 in
theorem ggX8_rowOf_X8_isWithin : GoodIn wsX8_rowOf wsX8_isWithin := goodIn_r _ [15] (by decide +kernel) (by decide +kernel)
set_option maxRecDepth 20000 in
theorem gX8_rowOf_X8_isWithin : GoodIn wsX8_rowOf (va_wsS RX8 47 yX8_isWithin wsX8_isWithin) := goodIn_app (goodIn_of _ (by decide +kernel)) ggX8_rowOf_X8_isWithin
set_option maxRecDepth 20000 in
theorem ggX8_rowOf_X6_rowNumber : GoodIn wsX8_rowOf wsX6_rowNumber := goodIn_r _ [20, 21, 22, 23, 24, 25, 26, 27, 28, 29, 30, 31, 32, 33, 34, 19, 35, 36, 37, 38, 39, 40, 41, 42, 43, 44, 48, 49, 50, 51, 52, 53, 54, 55, 56, 57, 58, 59, 60, 61, 62] (by decide +kernel) (by decide +kernel)
set_option maxRecDepth 20000 in
theorem gX8_rowOf_X6_rowNumber : GoodIn wsX8_rowOf (wsV RX8 223 RX6 yX6_rowNumber wsX6_rowNumber) := goodIn_app (goodIn_of _ (by decide +kernel)) ggX8_rowOf_X6_rowNumber
theorem dX8_rowOf_0 : decode cX8_rowOf 0 = .ok (.aload_n 0, 1) := by decide +kernel
theorem dX8_rowOf_1 : decode cX8_rowOf 1 = .ok (.iload_n 1, 1) := by decide +kernel
theorem dX8_rowOf_2 : decode cX8_rowOf 2 = .ok (.invokevirtual 83, 3) := by decide +kernel
theorem dX8_rowOf_5 : decode cX8_rowOf 5 = .ok (.iload_n 2, 1) := by decide +kernel
theorem dX8_rowOf_6 : decode cX8_rowOf 6 = .ok (.iconst 0, 1) := by decide +kernel
theorem dX8_rowOf_7 : decode cX8_rowOf 7 = .ok (.iconst 4, 1) := by decide +kernel
theorem dX8_rowOf_8 : decode cX8_rowOf 8 = .ok (.invokestatic 47, 3) := by decide +kernel
theorem dX8_rowOf_11 : decode cX8_rowOf 11 = .ok (.ifCond .ne 13, 3) := by decide +kernel
theorem dX8_rowOf_14 : decode cX8_rowOf 14 = .ok (.new 51, 3) := by decide +kernel
theorem dX8_rowOf_17 : decode cX8_rowOf 17 = .ok (.dup, 1) := by decide +kernel
theorem dX8_rowOf_18 : decode cX8_rowOf 18 = .ok (.ldc 221, 2) := by decide +kernel
theorem dX8_rowOf_20 : decode cX8_rowOf 20 = .ok (.invokespecial 55, 3) := by decide +kernel
theorem dX8_rowOf_23 : decode cX8_rowOf 23 = .ok (.athrow, 1) := by decide +kernel
theorem dX8_rowOf_24 : decode cX8_rowOf 24 = .ok (.aload_n 0, 1) := by decide +kernel
theorem dX8_rowOf_25 : decode cX8_rowOf 25 = .ok (.getfield 10, 3) := by decide +kernel
theorem dX8_rowOf_28 : decode cX8_rowOf 28 = .ok (.iload_n 1, 1) := by decide +kernel
theorem dX8_rowOf_29 : decode cX8_rowOf 29 = .ok (.iload_n 2, 1) := by decide +kernel
theorem dX8_rowOf_30 : decode cX8_rowOf 30 = .ok (.invokevirtual 223, 3) := by decide +kernel
theorem dX8_rowOf_33 : decode cX8_rowOf 33 = .ok (.ireturn, 1) := by decide +kernel
set_option maxRecDepth 20000 in
theorem ggX8_personOf_X8_requireAsker : GoodIn wsX8_personOf wsX8_requireAsker := goodIn_ca (goodIn_r _ [7, 8, 9, 10, 11, 6, 12, 13, 14, 15] (by decide +kernel) (by decide +kernel)) (goodIn_sub (fun _ h => List.mem_cons_of_mem _ (List.mem_append_right _ h)) (by decide +kernel))
set_option maxRecDepth 20000 in
theorem gX8_personOf_X8_requireAsker : GoodIn wsX8_personOf (va_wsS RX8 181 yX8_requireAsker wsX8_requireAsker) := goodIn_app (goodIn_of _ (by decide +kernel)) ggX8_personOf_X8_requireAsker
set_option maxRecDepth 20000 in
theorem ggX8_personOf_X8_isWithin : GoodIn wsX8_personOf wsX8_isWithin := goodIn_r _ [15] (by decide +kernel) (by decide +kernel)
set_option maxRecDepth 20000 in
theorem gX8_personOf_X8_isWithin : GoodIn wsX8_personOf (va_wsS RX8 47 yX8_isWithin wsX8_isWithin) := goodIn_app (goodIn_of _ (by decide +kernel)) ggX8_personOf_X8_isWithin
set_option maxRecDepth 20000 in
theorem ggX8_personOf_X6_personNumber : GoodIn wsX8_personOf wsX6_personNumber := goodIn_r _ [20, 21, 22, 23, 24, 25, 26, 27, 28, 29, 30, 31, 32, 33, 34, 35, 36, 37, 38, 19, 39, 40, 41, 42, 43, 44, 45, 46, 47, 48, 49, 50, 51, 52, 53, 54, 55, 56, 57, 58, 59, 60, 61, 62, 63, 64, 65, 66, 67, 68, 69, 73, 74, 75, 76, 77, 78, 79, 80, 81, 82, 83, 84, 85, 86, 87, 88, 89, 90, 91, 92] (by decide +kernel) (by decide +kernel)
set_option maxRecDepth 20000 in
theorem gX8_personOf_X6_personNumber : GoodIn wsX8_personOf (wsV RX8 228 RX6 yX6_personNumber wsX6_personNumber) := goodIn_app (goodIn_of _ (by decide +kernel)) ggX8_personOf_X6_personNumber
theorem dX8_personOf_0 : decode cX8_personOf 0 = .ok (.iload_n 1, 1) := by decide +kernel
theorem dX8_personOf_1 : decode cX8_personOf 1 = .ok (.invokestatic 181, 3) := by decide +kernel
theorem dX8_personOf_4 : decode cX8_personOf 4 = .ok (.iload_n 2, 1) := by decide +kernel
theorem dX8_personOf_5 : decode cX8_personOf 5 = .ok (.iconst 0, 1) := by decide +kernel
theorem dX8_personOf_6 : decode cX8_personOf 6 = .ok (.bipush 7, 2) := by decide +kernel
theorem dX8_personOf_8 : decode cX8_personOf 8 = .ok (.invokestatic 47, 3) := by decide +kernel
theorem dX8_personOf_11 : decode cX8_personOf 11 = .ok (.ifCond .ne 13, 3) := by decide +kernel
theorem dX8_personOf_14 : decode cX8_personOf 14 = .ok (.new 51, 3) := by decide +kernel
theorem dX8_personOf_17 : decode cX8_personOf 17 = .ok (.dup, 1) := by decide +kernel
theorem dX8_personOf_18 : decode cX8_personOf 18 = .ok (.ldc 226, 2) := by decide +kernel
theorem dX8_personOf_20 : decode cX8_personOf 20 = .ok (.invokespecial 55, 3) := by decide +kernel
theorem dX8_personOf_23 : decode cX8_personOf 23 = .ok (.athrow, 1) := by decide +kernel
theorem dX8_personOf_24 : decode cX8_personOf 24 = .ok (.aload_n 0, 1) := by decide +kernel
theorem dX8_personOf_25 : decode cX8_personOf 25 = .ok (.getfield 10, 3) := by decide +kernel
theorem dX8_personOf_28 : decode cX8_personOf 28 = .ok (.iload_n 1, 1) := by decide +kernel
theorem dX8_personOf_29 : decode cX8_personOf 29 = .ok (.iload_n 2, 1) := by decide +kernel
theorem dX8_personOf_30 : decode cX8_personOf 30 = .ok (.invokevirtual 228, 3) := by decide +kernel
theorem dX8_personOf_33 : decode cX8_personOf 33 = .ok (.ireturn, 1) := by decide +kernel
set_option maxRecDepth 20000 in
theorem ggX8_veils_X8_requireAsker : GoodIn wsX8_veils wsX8_requireAsker := goodIn_ca (goodIn_r _ [5, 6, 7, 8, 9, 4, 10, 11, 12, 13] (by decide +kernel) (by decide +kernel)) (goodIn_sub (fun _ h => List.mem_cons_of_mem _ (List.mem_append_right _ h)) (by decide +kernel))
set_option maxRecDepth 20000 in
theorem gX8_veils_X8_requireAsker : GoodIn wsX8_veils (va_wsS RX8 181 yX8_requireAsker wsX8_requireAsker) := goodIn_app (goodIn_of _ (by decide +kernel)) ggX8_veils_X8_requireAsker
set_option maxRecDepth 20000 in
theorem ggX8_veils_X8_requireRow : GoodIn wsX8_veils wsX8_requireRow := goodIn_ca (goodIn_r _ [17, 6, 7, 1, 18, 19, 11, 12, 4, 13, 41, 42, 43, 44, 45, 46, 47, 48, 49, 50, 51, 52, 53, 54] (by decide +kernel) (by decide +kernel)) (goodIn_sub (fun _ h => List.mem_cons_of_mem _ (List.mem_append_right _ h)) (by decide +kernel))
set_option maxRecDepth 20000 in
theorem gX8_veils_X8_requireRow : GoodIn wsX8_veils (wsV RX8 83 RX8 yX8_requireRow wsX8_requireRow) := goodIn_app (goodIn_of _ (by decide +kernel)) ggX8_veils_X8_requireRow
set_option maxRecDepth 20000 in
theorem ggX8_veils_X6_veilMask : GoodIn wsX8_veils wsX6_veilMask := goodIn_r _ [24, 25, 26, 27, 28, 29, 30, 31, 32, 33, 34, 35, 36, 37, 38, 39, 40, 44, 45, 46, 47, 48, 49, 50, 51, 52, 53, 54, 55, 56, 57, 58] (by decide +kernel) (by decide +kernel)
set_option maxRecDepth 20000 in
theorem gX8_veils_X6_veilMask : GoodIn wsX8_veils (wsV RX8 231 RX6 yX6_veilMask wsX6_veilMask) := goodIn_app (goodIn_of _ (by decide +kernel)) ggX8_veils_X6_veilMask
theorem dX8_veils_0 : decode cX8_veils 0 = .ok (.iload_n 1, 1) := by decide +kernel
theorem dX8_veils_1 : decode cX8_veils 1 = .ok (.invokestatic 181, 3) := by decide +kernel
theorem dX8_veils_4 : decode cX8_veils 4 = .ok (.aload_n 0, 1) := by decide +kernel
theorem dX8_veils_5 : decode cX8_veils 5 = .ok (.iload_n 2, 1) := by decide +kernel
theorem dX8_veils_6 : decode cX8_veils 6 = .ok (.invokevirtual 83, 3) := by decide +kernel
theorem dX8_veils_9 : decode cX8_veils 9 = .ok (.aload_n 0, 1) := by decide +kernel
theorem dX8_veils_10 : decode cX8_veils 10 = .ok (.getfield 10, 3) := by decide +kernel
theorem dX8_veils_13 : decode cX8_veils 13 = .ok (.iload_n 1, 1) := by decide +kernel
theorem dX8_veils_14 : decode cX8_veils 14 = .ok (.iload_n 2, 1) := by decide +kernel
theorem dX8_veils_15 : decode cX8_veils 15 = .ok (.invokevirtual 231, 3) := by decide +kernel
theorem dX8_veils_18 : decode cX8_veils 18 = .ok (.ireturn, 1) := by decide +kernel
set_option maxRecDepth 20000 in
theorem ggX8_remembered_X8_requireAsker : GoodIn wsX8_remembered wsX8_requireAsker := goodIn_ca (goodIn_r _ [8, 9, 10, 11, 12, 7, 13, 14, 15, 16] (by decide +kernel) (by decide +kernel)) (goodIn_sub (fun _ h => List.mem_cons_of_mem _ (List.mem_append_right _ h)) (by decide +kernel))
set_option maxRecDepth 20000 in
theorem gX8_remembered_X8_requireAsker : GoodIn wsX8_remembered (va_wsS RX8 181 yX8_requireAsker wsX8_requireAsker) := goodIn_app (goodIn_of _ (by decide +kernel)) ggX8_remembered_X8_requireAsker
set_option maxRecDepth 20000 in
theorem ggX8_remembered_X2_maskAt : GoodIn wsX8_remembered wsX2_maskAt := goodIn_r _ [21, 22, 23, 24, 25, 26, 27, 28, 29, 39, 40, 41] (by decide +kernel) (by decide +kernel)
set_option maxRecDepth 20000 in
theorem gX8_remembered_X2_maskAt : GoodIn wsX8_remembered (wsV RX8 236 RX2 yX2_maskAt wsX2_maskAt) := goodIn_app (goodIn_of _ (by decide +kernel)) ggX8_remembered_X2_maskAt
theorem dX8_remembered_0 : decode cX8_remembered 0 = .ok (.iload_n 1, 1) := by decide +kernel
theorem dX8_remembered_1 : decode cX8_remembered 1 = .ok (.invokestatic 181, 3) := by decide +kernel
theorem dX8_remembered_4 : decode cX8_remembered 4 = .ok (.iload_n 2, 1) := by decide +kernel
theorem dX8_remembered_5 : decode cX8_remembered 5 = .ok (.ifCond .ge 13, 3) := by decide +kernel
theorem dX8_remembered_8 : decode cX8_remembered 8 = .ok (.new 51, 3) := by decide +kernel
theorem dX8_remembered_11 : decode cX8_remembered 11 = .ok (.dup, 1) := by decide +kernel
theorem dX8_remembered_12 : decode cX8_remembered 12 = .ok (.ldc 234, 2) := by decide +kernel
theorem dX8_remembered_14 : decode cX8_remembered 14 = .ok (.invokespecial 55, 3) := by decide +kernel
theorem dX8_remembered_17 : decode cX8_remembered 17 = .ok (.athrow, 1) := by decide +kernel
theorem dX8_remembered_18 : decode cX8_remembered 18 = .ok (.aload_n 0, 1) := by decide +kernel
theorem dX8_remembered_19 : decode cX8_remembered 19 = .ok (.getfield 10, 3) := by decide +kernel
theorem dX8_remembered_22 : decode cX8_remembered 22 = .ok (.getfield 90, 3) := by decide +kernel
theorem dX8_remembered_25 : decode cX8_remembered 25 = .ok (.iload_n 1, 1) := by decide +kernel
theorem dX8_remembered_26 : decode cX8_remembered 26 = .ok (.iload_n 2, 1) := by decide +kernel
theorem dX8_remembered_27 : decode cX8_remembered 27 = .ok (.invokevirtual 236, 3) := by decide +kernel
theorem dX8_remembered_30 : decode cX8_remembered 30 = .ok (.ireturn, 1) := by decide +kernel
set_option maxRecDepth 20000 in
theorem ggX8_count_X8_isWithin : GoodIn wsX8_count wsX8_isWithin := goodIn_r _ [6] (by decide +kernel) (by decide +kernel)
set_option maxRecDepth 20000 in
theorem gX8_count_X8_isWithin : GoodIn wsX8_count (va_wsS RX8 47 yX8_isWithin wsX8_isWithin) := goodIn_app (goodIn_of _ (by decide +kernel)) ggX8_count_X8_isWithin
set_option maxRecDepth 20000 in
theorem ggX8_count_X8_total : GoodIn wsX8_count wsX8_total := goodIn_r _ [10, 11, 12, 13, 14, 15, 16, 17, 18, 19, 20, 21, 22, 23, 24, 25, 26, 27, 28, 29, 30, 31, 32, 33, 34, 35, 36, 37, 38, 39, 40, 41, 42, 43, 44, 45, 46, 47, 48, 49, 50, 51, 52, 53, 54, 55, 56, 57, 58, 59, 60, 61, 62, 63, 64, 65, 66, 67, 68, 69, 70, 71, 72, 73, 74, 75, 76, 77, 78, 79, 80, 81, 82, 83, 84, 85, 86, 87, 88, 89, 90, 91, 92, 93, 94, 95, 96, 97, 98, 99] (by decide +kernel) (by decide +kernel)
set_option maxRecDepth 20000 in
theorem gX8_count_X8_total : GoodIn wsX8_count (wsV RX8 241 RX8 yX8_total wsX8_total) := goodIn_app (goodIn_of _ (by decide +kernel)) ggX8_count_X8_total
theorem dX8_count_0 : decode cX8_count 0 = .ok (.iload_n 1, 1) := by decide +kernel
theorem dX8_count_1 : decode cX8_count 1 = .ok (.iconst 0, 1) := by decide +kernel
theorem dX8_count_2 : decode cX8_count 2 = .ok (.bipush 9, 2) := by decide +kernel
theorem dX8_count_4 : decode cX8_count 4 = .ok (.invokestatic 47, 3) := by decide +kernel
theorem dX8_count_7 : decode cX8_count 7 = .ok (.ifCond .ne 13, 3) := by decide +kernel
theorem dX8_count_10 : decode cX8_count 10 = .ok (.new 51, 3) := by decide +kernel
theorem dX8_count_13 : decode cX8_count 13 = .ok (.dup, 1) := by decide +kernel
theorem dX8_count_14 : decode cX8_count 14 = .ok (.ldc 239, 2) := by decide +kernel
theorem dX8_count_16 : decode cX8_count 16 = .ok (.invokespecial 55, 3) := by decide +kernel
theorem dX8_count_19 : decode cX8_count 19 = .ok (.athrow, 1) := by decide +kernel
theorem dX8_count_20 : decode cX8_count 20 = .ok (.aload_n 0, 1) := by decide +kernel
theorem dX8_count_21 : decode cX8_count 21 = .ok (.iload_n 1, 1) := by decide +kernel
theorem dX8_count_22 : decode cX8_count 22 = .ok (.invokevirtual 241, 3) := by decide +kernel
theorem dX8_count_25 : decode cX8_count 25 = .ok (.ireturn, 1) := by decide +kernel
set_option maxRecDepth 20000 in
theorem ggX8_ifAsked_X8_requireQuestion : GoodIn wsX8_ifAsked wsX8_requireQuestion := goodIn_ca (goodIn_ca (goodIn_r _ [6, 7, 8, 1, 2, 9, 10, 5, 11, 12, 13, 14, 15, 16, 17, 18, 19, 20, 21, 22, 23] (by decide +kernel) (by decide +kernel)) (goodIn_sub (fun _ h => List.mem_cons_of_mem _ (List.mem_append_right _ h)) (by decide +kernel))) (goodIn_sub (fun _ h => List.mem_cons_of_mem _ (List.mem_append_left _ (List.mem_append_right _ h))) (by decide +kernel))
set_option maxRecDepth 20000 in
theorem gX8_ifAsked_X8_requireQuestion : GoodIn wsX8_ifAsked (va_wsS RX8 147 yX8_requireQuestion wsX8_requireQuestion) := goodIn_app (goodIn_of _ (by decide +kernel)) ggX8_ifAsked_X8_requireQuestion
set_option maxRecDepth 20000 in
theorem ggX8_ifAsked_X8_isWithin : GoodIn wsX8_ifAsked wsX8_isWithin := goodIn_r _ [14] (by decide +kernel) (by decide +kernel)
set_option maxRecDepth 20000 in
theorem gX8_ifAsked_X8_isWithin : GoodIn wsX8_ifAsked (va_wsS RX8 47 yX8_isWithin wsX8_isWithin) := goodIn_app (goodIn_of _ (by decide +kernel)) ggX8_ifAsked_X8_isWithin
set_option maxRecDepth 20000 in
theorem ggX8_ifAsked_X8_answerIf : GoodIn wsX8_ifAsked wsX8_answerIf := goodIn_r _ [27, 28, 29, 30, 31, 32, 33, 34, 35, 36, 37, 38, 39, 40, 41, 42, 43, 44, 45, 46, 47, 48, 49, 50, 51, 52, 53, 54, 55, 56, 57, 58, 59, 60, 61, 62, 63, 64, 65, 66, 67, 68, 69, 70, 71, 72, 73, 74, 75, 76, 77, 78, 79, 80, 81, 82, 83, 84, 85, 86, 87, 88, 89, 90, 91, 92, 93, 94, 95, 96, 97, 98, 99, 100, 101, 102, 103, 104, 105, 106, 107, 108, 109, 110, 111, 112, 113, 114, 115, 116, 117, 118, 119, 120, 121, 122, 123, 124, 125, 126, 127, 128, 129, 130, 131, 132] (by decide +kernel) (by decide +kernel)
set_option maxRecDepth 20000 in
theorem gX8_ifAsked_X8_answerIf : GoodIn wsX8_ifAsked (wsV RX8 246 RX8 yX8_answerIf wsX8_answerIf) := goodIn_app (goodIn_of _ (by decide +kernel)) ggX8_ifAsked_X8_answerIf
theorem dX8_ifAsked_0 : decode cX8_ifAsked 0 = .ok (.iload_n 1, 1) := by decide +kernel
theorem dX8_ifAsked_1 : decode cX8_ifAsked 1 = .ok (.iload_n 2, 1) := by decide +kernel
theorem dX8_ifAsked_2 : decode cX8_ifAsked 2 = .ok (.iload_n 3, 1) := by decide +kernel
theorem dX8_ifAsked_3 : decode cX8_ifAsked 3 = .ok (.iload 4, 2) := by decide +kernel
theorem dX8_ifAsked_5 : decode cX8_ifAsked 5 = .ok (.invokestatic 147, 3) := by decide +kernel
theorem dX8_ifAsked_8 : decode cX8_ifAsked 8 = .ok (.iload 5, 2) := by decide +kernel
theorem dX8_ifAsked_10 : decode cX8_ifAsked 10 = .ok (.iconst 0, 1) := by decide +kernel
theorem dX8_ifAsked_11 : decode cX8_ifAsked 11 = .ok (.iconst 3, 1) := by decide +kernel
theorem dX8_ifAsked_12 : decode cX8_ifAsked 12 = .ok (.invokestatic 47, 3) := by decide +kernel
theorem dX8_ifAsked_15 : decode cX8_ifAsked 15 = .ok (.ifCond .ne 13, 3) := by decide +kernel
theorem dX8_ifAsked_18 : decode cX8_ifAsked 18 = .ok (.new 51, 3) := by decide +kernel
theorem dX8_ifAsked_21 : decode cX8_ifAsked 21 = .ok (.dup, 1) := by decide +kernel
theorem dX8_ifAsked_22 : decode cX8_ifAsked 22 = .ok (.ldc 244, 2) := by decide +kernel
theorem dX8_ifAsked_24 : decode cX8_ifAsked 24 = .ok (.invokespecial 55, 3) := by decide +kernel
theorem dX8_ifAsked_27 : decode cX8_ifAsked 27 = .ok (.athrow, 1) := by decide +kernel
theorem dX8_ifAsked_28 : decode cX8_ifAsked 28 = .ok (.aload_n 0, 1) := by decide +kernel
theorem dX8_ifAsked_29 : decode cX8_ifAsked 29 = .ok (.iload_n 1, 1) := by decide +kernel
theorem dX8_ifAsked_30 : decode cX8_ifAsked 30 = .ok (.iload_n 2, 1) := by decide +kernel
theorem dX8_ifAsked_31 : decode cX8_ifAsked 31 = .ok (.iload_n 3, 1) := by decide +kernel
theorem dX8_ifAsked_32 : decode cX8_ifAsked 32 = .ok (.iload 4, 2) := by decide +kernel
theorem dX8_ifAsked_34 : decode cX8_ifAsked 34 = .ok (.iload 5, 2) := by decide +kernel
theorem dX8_ifAsked_36 : decode cX8_ifAsked 36 = .ok (.invokevirtual 246, 3) := by decide +kernel
theorem dX8_ifAsked_39 : decode cX8_ifAsked 39 = .ok (.ireturn, 1) := by decide +kernel
set_option maxRecDepth 20000 in
theorem ggX8_hides_X8_requireRule : GoodIn wsX8_hides wsX8_requireRule := goodIn_ca (goodIn_r _ [5, 6, 7, 8, 9, 4, 10] (by decide +kernel) (by decide +kernel)) (goodIn_sub (fun _ h => List.mem_cons_of_mem _ (List.mem_append_right _ h)) (by decide +kernel))
set_option maxRecDepth 20000 in
theorem gX8_hides_X8_requireRule : GoodIn wsX8_hides (va_wsS RX8 136 yX8_requireRule wsX8_requireRule) := goodIn_app (goodIn_of _ (by decide +kernel)) ggX8_hides_X8_requireRule
set_option maxRecDepth 20000 in
theorem ggX8_hides_X6_hiddenByAlone : GoodIn wsX8_hides wsX6_hiddenByAlone := goodIn_r _ [15, 16, 17, 18, 19, 20, 14, 21, 22, 23, 24, 25, 26, 27, 28, 29, 30, 31, 32, 33, 34, 35, 36, 40, 41, 42, 43, 44, 45, 46, 47, 48, 49, 50, 51, 52, 53, 54] (by decide +kernel) (by decide +kernel)
set_option maxRecDepth 20000 in
theorem gX8_hides_X6_hiddenByAlone : GoodIn wsX8_hides (wsV RX8 250 RX6 yX6_hiddenByAlone wsX6_hiddenByAlone) := goodIn_app (goodIn_of _ (by decide +kernel)) ggX8_hides_X6_hiddenByAlone
theorem dX8_hides_0 : decode cX8_hides 0 = .ok (.iload_n 1, 1) := by decide +kernel
theorem dX8_hides_1 : decode cX8_hides 1 = .ok (.invokestatic 136, 3) := by decide +kernel
theorem dX8_hides_4 : decode cX8_hides 4 = .ok (.aload_n 0, 1) := by decide +kernel
theorem dX8_hides_5 : decode cX8_hides 5 = .ok (.getfield 10, 3) := by decide +kernel
theorem dX8_hides_8 : decode cX8_hides 8 = .ok (.iload_n 1, 1) := by decide +kernel
theorem dX8_hides_9 : decode cX8_hides 9 = .ok (.invokevirtual 250, 3) := by decide +kernel
theorem dX8_hides_12 : decode cX8_hides 12 = .ok (.ireturn, 1) := by decide +kernel
set_option maxRecDepth 20000 in
theorem ggX8_blindest_X6_whoSeesFewest : GoodIn wsX8_blindest wsX6_whoSeesFewest := goodIn_r _ [6, 7, 8, 9, 5, 10, 11, 12, 13, 14, 15, 16, 17, 18, 19, 20, 21, 22, 23, 24, 25, 26, 27, 28, 29, 30, 31, 32, 33, 34, 35, 36, 37, 38, 39, 40, 41, 42, 43, 44, 45, 46, 47, 48, 49, 50, 54, 55, 56, 57, 58, 59, 60, 61, 62, 63, 64, 65, 66, 67, 68] (by decide +kernel) (by decide +kernel)
set_option maxRecDepth 20000 in
theorem gX8_blindest_X6_whoSeesFewest : GoodIn wsX8_blindest (wsV RX8 253 RX6 yX6_whoSeesFewest wsX6_whoSeesFewest) := goodIn_app (goodIn_of _ (by decide +kernel)) ggX8_blindest_X6_whoSeesFewest
theorem dX8_blindest_0 : decode cX8_blindest 0 = .ok (.aload_n 0, 1) := by decide +kernel
theorem dX8_blindest_1 : decode cX8_blindest 1 = .ok (.getfield 10, 3) := by decide +kernel
theorem dX8_blindest_4 : decode cX8_blindest 4 = .ok (.invokevirtual 253, 3) := by decide +kernel
theorem dX8_blindest_7 : decode cX8_blindest 7 = .ok (.ireturn, 1) := by decide +kernel
set_option maxRecDepth 20000 in
theorem ggX8_needed_X8_isPerson : GoodIn wsX8_needed wsX8_isPerson := goodIn_r _ [7, 8, 9, 6, 10] (by decide +kernel) (by decide +kernel)
set_option maxRecDepth 20000 in
theorem gX8_needed_X8_isPerson : GoodIn wsX8_needed (va_wsS RX8 30 yX8_isPerson wsX8_isPerson) := goodIn_app (goodIn_of _ (by decide +kernel)) ggX8_needed_X8_isPerson
set_option maxRecDepth 20000 in
theorem ggX8_needed_X8_isPlaceOrAll : GoodIn wsX8_needed wsX8_isPlaceOrAll := goodIn_r _ [13, 14, 15, 6, 16, 8, 9, 10] (by decide +kernel) (by decide +kernel)
set_option maxRecDepth 20000 in
theorem gX8_needed_X8_isPlaceOrAll : GoodIn wsX8_needed (va_wsS RX8 256 yX8_isPlaceOrAll wsX8_isPlaceOrAll) := goodIn_app (goodIn_of _ (by decide +kernel)) ggX8_needed_X8_isPlaceOrAll
set_option maxRecDepth 20000 in
theorem ggX8_needed_X6_leastCoarseness : GoodIn wsX8_needed wsX6_leastCoarseness := goodIn_r _ [21, 22, 23, 24, 25, 20, 26, 27, 28, 29, 30, 31, 32, 33, 34, 35, 36, 37, 38, 39, 40, 41, 42, 43, 44, 45, 46, 47, 48, 49, 50, 51, 52, 53, 54, 55, 56, 57, 58, 59, 60, 61, 62, 63, 64, 65, 66, 67, 68, 69, 70, 74, 75, 76, 77, 78, 79, 80, 81, 82, 83, 84, 85, 86, 87, 88] (by decide +kernel) (by decide +kernel)
set_option maxRecDepth 20000 in
theorem gX8_needed_X6_leastCoarseness : GoodIn wsX8_needed (wsV RX8 261 RX6 yX6_leastCoarseness wsX6_leastCoarseness) := goodIn_app (goodIn_of _ (by decide +kernel)) ggX8_needed_X6_leastCoarseness
theorem dX8_needed_0 : decode cX8_needed 0 = .ok (.iload_n 1, 1) := by decide +kernel
theorem dX8_needed_1 : decode cX8_needed 1 = .ok (.invokestatic 30, 3) := by decide +kernel
theorem dX8_needed_4 : decode cX8_needed 4 = .ok (.ifCond .eq 10, 3) := by decide +kernel
theorem dX8_needed_7 : decode cX8_needed 7 = .ok (.iload_n 2, 1) := by decide +kernel
theorem dX8_needed_8 : decode cX8_needed 8 = .ok (.invokestatic 256, 3) := by decide +kernel
theorem dX8_needed_11 : decode cX8_needed 11 = .ok (.ifCond .ne 14, 3) := by decide +kernel
theorem dX8_needed_14 : decode cX8_needed 14 = .ok (.new 37, 3) := by decide +kernel
theorem dX8_needed_17 : decode cX8_needed 17 = .ok (.dup, 1) := by decide +kernel
theorem dX8_needed_18 : decode cX8_needed 18 = .ok (.ldc_w 259, 3) := by decide +kernel
theorem dX8_needed_21 : decode cX8_needed 21 = .ok (.invokespecial 41, 3) := by decide +kernel
theorem dX8_needed_24 : decode cX8_needed 24 = .ok (.athrow, 1) := by decide +kernel
theorem dX8_needed_25 : decode cX8_needed 25 = .ok (.aload_n 0, 1) := by decide +kernel
theorem dX8_needed_26 : decode cX8_needed 26 = .ok (.getfield 10, 3) := by decide +kernel
theorem dX8_needed_29 : decode cX8_needed 29 = .ok (.iload_n 1, 1) := by decide +kernel
theorem dX8_needed_30 : decode cX8_needed 30 = .ok (.iload_n 2, 1) := by decide +kernel
theorem dX8_needed_31 : decode cX8_needed 31 = .ok (.invokevirtual 261, 3) := by decide +kernel
theorem dX8_needed_34 : decode cX8_needed 34 = .ok (.ireturn, 1) := by decide +kernel
set_option maxRecDepth 20000 in
theorem ggX8_openness_X6_shareSeen : GoodIn wsX8_openness wsX6_shareSeen := goodIn_r _ [6, 7, 8, 9, 10, 11, 5, 12, 13, 14, 15, 16, 17, 18, 19, 20, 21, 22, 23, 24, 25, 26, 27, 28, 29, 30, 31, 32, 33, 34, 35, 36, 37, 38, 39, 40, 41, 42, 43, 44, 45, 46, 47, 48, 49, 50, 51, 52, 53, 54, 58, 59, 60, 61, 62, 63, 64, 65, 66, 67, 68, 69, 70, 71, 72] (by decide +kernel) (by decide +kernel)
set_option maxRecDepth 20000 in
theorem gX8_openness_X6_shareSeen : GoodIn wsX8_openness (wsV RX8 264 RX6 yX6_shareSeen wsX6_shareSeen) := goodIn_app (goodIn_of _ (by decide +kernel)) ggX8_openness_X6_shareSeen
theorem dX8_openness_0 : decode cX8_openness 0 = .ok (.aload_n 0, 1) := by decide +kernel
theorem dX8_openness_1 : decode cX8_openness 1 = .ok (.getfield 10, 3) := by decide +kernel
theorem dX8_openness_4 : decode cX8_openness 4 = .ok (.invokevirtual 264, 3) := by decide +kernel
theorem dX8_openness_7 : decode cX8_openness 7 = .ok (.dreturn, 1) := by decide +kernel
set_option maxRecDepth 20000 in
theorem ggX8_digest_X8_total : GoodIn wsX8_digest wsX8_total := goodIn_r _ [9, 2, 3, 4, 10, 11, 12, 13, 14, 15, 16, 17, 18, 19, 20, 21, 22, 23, 24, 25, 26, 27, 28, 29, 30, 31, 32, 33, 34, 35, 36, 37, 38, 39, 40, 41, 42, 43, 44, 45, 46, 47, 48, 49, 50, 51, 52, 53, 54, 55, 56, 57, 58, 59, 60, 61, 62, 63, 64, 65, 66, 67, 68, 69, 70, 71, 180, 181, 182, 183, 184, 185, 186, 187, 188, 189, 190, 191, 192, 193, 194, 195, 196, 197, 198, 199, 200, 201, 202, 203] (by decide +kernel) (by decide +kernel)
set_option maxRecDepth 20000 in
theorem gX8_digest_X8_total : GoodIn wsX8_digest (wsV RX8 241 RX8 yX8_total wsX8_total) := goodIn_app (goodIn_of _ (by decide +kernel)) ggX8_digest_X8_total
set_option maxRecDepth 20000 in
theorem ggX8_digest_X8_mixed : GoodIn wsX8_digest wsX8_mixed := goodIn_r _ [74, 75] (by decide +kernel) (by decide +kernel)
set_option maxRecDepth 20000 in
theorem gX8_digest_X8_mixed : GoodIn wsX8_digest (va_wsS RX8 270 yX8_mixed wsX8_mixed) := goodIn_app (goodIn_of _ (by decide +kernel)) ggX8_digest_X8_mixed
set_option maxRecDepth 20000 in
theorem ggX8_digest_X8_mixedRow : GoodIn wsX8_digest wsX8_mixedRow := goodIn_r _ [79, 2, 80, 81, 82, 31, 83, 41, 55, 59, 61, 56, 64, 19, 20, 21, 22, 23, 84, 85, 86, 87, 51, 52, 53, 54, 57, 58, 60, 62, 63, 72, 73, 8, 74, 75, 180, 181, 182, 183, 184, 185, 186, 187, 188, 189, 190, 191, 192, 193, 200, 201, 202, 203] (by decide +kernel) (by decide +kernel)
set_option maxRecDepth 20000 in
theorem gX8_digest_X8_mixedRow : GoodIn wsX8_digest (wsV RX8 274 RX8 yX8_mixedRow wsX8_mixedRow) := goodIn_app (goodIn_of _ (by decide +kernel)) ggX8_digest_X8_mixedRow
set_option maxRecDepth 20000 in
theorem ggX8_digest_X8_mixedPerson : GoodIn wsX8_digest wsX8_mixedPerson := goodIn_r _ [91, 2, 92, 93, 94, 95, 96, 31, 97, 57, 58, 60, 62, 98, 99, 100, 101, 102, 64, 19, 20, 21, 22, 23, 33, 34, 35, 36, 37, 38, 39, 40, 41, 42, 43, 44, 45, 46, 47, 48, 49, 50, 51, 52, 53, 54, 55, 56, 59, 61, 63, 65, 66, 67, 68, 69, 70, 71, 72, 73, 8, 74, 75, 18, 103, 104, 105, 106, 107, 108, 109, 110, 111, 112, 113, 114, 3, 115, 116, 117, 118, 119, 120, 121, 122, 123, 124, 125, 126, 127, 128, 129, 130, 131, 132, 133, 134, 135, 136, 137, 138, 139, 140, 141, 142, 143, 144, 145, 146, 147, 148, 149, 150, 151, 152, 153, 180, 181, 182, 183, 184, 185, 186, 187, 188, 204, 205, 201, 202, 203, 194, 195, 196, 200, 189, 190, 191, 192, 193] (by decide +kernel) (by decide +kernel)
set_option maxRecDepth 20000 in
theorem gX8_digest_X8_mixedPerson : GoodIn wsX8_digest (wsV RX8 278 RX8 yX8_mixedPerson wsX8_mixedPerson) := goodIn_app (goodIn_of _ (by decide +kernel)) ggX8_digest_X8_mixedPerson
set_option maxRecDepth 20000 in
theorem ggX8_digest_X6_hiddenByAlone : GoodIn wsX8_digest wsX6_hiddenByAlone := goodIn_r _ [157, 41, 42, 51, 52, 53, 31, 54, 55, 56, 57, 58, 59, 60, 61, 62, 63, 64, 19, 20, 21, 22, 23, 183, 184, 185, 186, 187, 188, 189, 190, 191, 192, 193, 201, 202, 203, 200] (by decide +kernel) (by decide +kernel)
set_option maxRecDepth 20000 in
theorem gX8_digest_X6_hiddenByAlone : GoodIn wsX8_digest (wsV RX8 250 RX6 yX6_hiddenByAlone wsX6_hiddenByAlone) := goodIn_app (goodIn_of _ (by decide +kernel)) ggX8_digest_X6_hiddenByAlone
set_option maxRecDepth 20000 in
theorem ggX8_digest_X6_whoSeesFewest : GoodIn wsX8_digest wsX6_whoSeesFewest := goodIn_r _ [161, 33, 34, 35, 31, 36, 37, 38, 39, 40, 41, 42, 43, 44, 45, 46, 47, 48, 49, 50, 19, 20, 21, 22, 23, 51, 52, 53, 54, 55, 56, 57, 58, 59, 60, 61, 62, 63, 64, 65, 66, 67, 68, 69, 70, 71, 183, 184, 185, 186, 187, 188, 189, 190, 191, 192, 193, 200, 201, 202, 203] (by decide +kernel) (by decide +kernel)
set_option maxRecDepth 20000 in
theorem gX8_digest_X6_whoSeesFewest : GoodIn wsX8_digest (wsV RX8 253 RX6 yX6_whoSeesFewest wsX6_whoSeesFewest) := goodIn_app (goodIn_of _ (by decide +kernel)) ggX8_digest_X6_whoSeesFewest
set_option maxRecDepth 20000 in
theorem ggX8_digest_X6_shareSeen : GoodIn wsX8_digest wsX6_shareSeen := goodIn_r _ [165, 41, 42, 166, 29, 30, 31, 32, 33, 34, 35, 36, 37, 38, 39, 40, 43, 44, 45, 46, 47, 48, 49, 50, 19, 20, 21, 22, 23, 51, 52, 53, 54, 55, 56, 57, 58, 59, 60, 61, 62, 63, 64, 65, 66, 67, 68, 69, 70, 71, 183, 184, 185, 186, 187, 188, 189, 190, 191, 192, 193, 200, 201, 202, 203] (by decide +kernel) (by decide +kernel)
set_option maxRecDepth 20000 in
theorem gX8_digest_X6_shareSeen : GoodIn wsX8_digest (wsV RX8 264 RX6 yX6_shareSeen wsX6_shareSeen) := goodIn_app (goodIn_of _ (by decide +kernel)) ggX8_digest_X6_shareSeen
set_option maxRecDepth 20000 in
theorem ggX8_digest_X8_bitsOfShare : GoodIn wsX8_digest wsX8_bitsOfShare := goodIn_r _ [169, 170, 171, 172] (by decide +kernel) (by decide +kernel)
set_option maxRecDepth 20000 in
theorem gX8_digest_X8_bitsOfShare : GoodIn wsX8_digest (va_wsS RX8 281 yX8_bitsOfShare wsX8_bitsOfShare) := goodIn_app (goodIn_of _ (by decide +kernel)) ggX8_digest_X8_bitsOfShare
set_option maxRecDepth 20000 in
theorem ggX8_digest_X8_mixedBuffer : GoodIn wsX8_digest wsX8_mixedBuffer := goodIn_r _ [176, 177, 178, 179, 72, 73, 8, 74, 75, 18, 19, 20, 21, 22, 23, 180, 181, 182, 206, 207, 200] (by decide +kernel) (by decide +kernel)
set_option maxRecDepth 20000 in
theorem gX8_digest_X8_mixedBuffer : GoodIn wsX8_digest (wsV RX8 285 RX8 yX8_mixedBuffer wsX8_mixedBuffer) := goodIn_app (goodIn_of _ (by decide +kernel)) ggX8_digest_X8_mixedBuffer
theorem dX8_digest_0 : decode cX8_digest 0 = .ok (.ldc2_w 268, 3) := by decide +kernel
theorem dX8_digest_3 : decode cX8_digest 3 = .ok (.lstore_n 1, 1) := by decide +kernel
theorem dX8_digest_4 : decode cX8_digest 4 = .ok (.iconst 0, 1) := by decide +kernel
theorem dX8_digest_5 : decode cX8_digest 5 = .ok (.istore_n 3, 1) := by decide +kernel
theorem dX8_digest_6 : decode cX8_digest 6 = .ok (.iload_n 3, 1) := by decide +kernel
theorem dX8_digest_7 : decode cX8_digest 7 = .ok (.bipush 9, 2) := by decide +kernel
theorem dX8_digest_9 : decode cX8_digest 9 = .ok (.if_icmp .gt 20, 3) := by decide +kernel
theorem dX8_digest_12 : decode cX8_digest 12 = .ok (.lload_n 1, 1) := by decide +kernel
theorem dX8_digest_13 : decode cX8_digest 13 = .ok (.aload_n 0, 1) := by decide +kernel
theorem dX8_digest_14 : decode cX8_digest 14 = .ok (.iload_n 3, 1) := by decide +kernel
theorem dX8_digest_15 : decode cX8_digest 15 = .ok (.invokevirtual 241, 3) := by decide +kernel
theorem dX8_digest_18 : decode cX8_digest 18 = .ok (.i2l, 1) := by decide +kernel
theorem dX8_digest_19 : decode cX8_digest 19 = .ok (.invokestatic 270, 3) := by decide +kernel
theorem dX8_digest_22 : decode cX8_digest 22 = .ok (.lstore_n 1, 1) := by decide +kernel
theorem dX8_digest_23 : decode cX8_digest 23 = .ok (.iinc 3 1, 3) := by decide +kernel
theorem dX8_digest_26 : decode cX8_digest 26 = .ok (.goto (-20), 3) := by decide +kernel
theorem dX8_digest_29 : decode cX8_digest 29 = .ok (.iconst 0, 1) := by decide +kernel
theorem dX8_digest_30 : decode cX8_digest 30 = .ok (.istore_n 3, 1) := by decide +kernel
theorem dX8_digest_31 : decode cX8_digest 31 = .ok (.iload_n 3, 1) := by decide +kernel
theorem dX8_digest_32 : decode cX8_digest 32 = .ok (.aload_n 0, 1) := by decide +kernel
theorem dX8_digest_33 : decode cX8_digest 33 = .ok (.getfield 10, 3) := by decide +kernel
theorem dX8_digest_36 : decode cX8_digest 36 = .ok (.getfield 56, 3) := by decide +kernel
theorem dX8_digest_39 : decode cX8_digest 39 = .ok (.getfield 75, 3) := by decide +kernel
theorem dX8_digest_42 : decode cX8_digest 42 = .ok (.if_icmp .ge 16, 3) := by decide +kernel
theorem dX8_digest_45 : decode cX8_digest 45 = .ok (.aload_n 0, 1) := by decide +kernel
theorem dX8_digest_46 : decode cX8_digest 46 = .ok (.lload_n 1, 1) := by decide +kernel
theorem dX8_digest_47 : decode cX8_digest 47 = .ok (.iload_n 3, 1) := by decide +kernel
theorem dX8_digest_48 : decode cX8_digest 48 = .ok (.invokevirtual 274, 3) := by decide +kernel
theorem dX8_digest_51 : decode cX8_digest 51 = .ok (.lstore_n 1, 1) := by decide +kernel
theorem dX8_digest_52 : decode cX8_digest 52 = .ok (.iinc 3 1, 3) := by decide +kernel
theorem dX8_digest_55 : decode cX8_digest 55 = .ok (.goto (-24), 3) := by decide +kernel
theorem dX8_digest_58 : decode cX8_digest 58 = .ok (.iconst 0, 1) := by decide +kernel
theorem dX8_digest_59 : decode cX8_digest 59 = .ok (.istore_n 3, 1) := by decide +kernel
theorem dX8_digest_60 : decode cX8_digest 60 = .ok (.iload_n 3, 1) := by decide +kernel
theorem dX8_digest_61 : decode cX8_digest 61 = .ok (.iconst 5, 1) := by decide +kernel
theorem dX8_digest_62 : decode cX8_digest 62 = .ok (.if_icmp .ge 16, 3) := by decide +kernel
theorem dX8_digest_65 : decode cX8_digest 65 = .ok (.aload_n 0, 1) := by decide +kernel
theorem dX8_digest_66 : decode cX8_digest 66 = .ok (.lload_n 1, 1) := by decide +kernel
theorem dX8_digest_67 : decode cX8_digest 67 = .ok (.iload_n 3, 1) := by decide +kernel
theorem dX8_digest_68 : decode cX8_digest 68 = .ok (.invokevirtual 278, 3) := by decide +kernel
theorem dX8_digest_71 : decode cX8_digest 71 = .ok (.lstore_n 1, 1) := by decide +kernel
theorem dX8_digest_72 : decode cX8_digest 72 = .ok (.iinc 3 1, 3) := by decide +kernel
theorem dX8_digest_75 : decode cX8_digest 75 = .ok (.goto (-15), 3) := by decide +kernel
theorem dX8_digest_78 : decode cX8_digest 78 = .ok (.iconst 0, 1) := by decide +kernel
theorem dX8_digest_79 : decode cX8_digest 79 = .ok (.istore_n 3, 1) := by decide +kernel
theorem dX8_digest_80 : decode cX8_digest 80 = .ok (.iload_n 3, 1) := by decide +kernel
theorem dX8_digest_81 : decode cX8_digest 81 = .ok (.iconst 4, 1) := by decide +kernel
theorem dX8_digest_82 : decode cX8_digest 82 = .ok (.if_icmp .ge 23, 3) := by decide +kernel
theorem dX8_digest_85 : decode cX8_digest 85 = .ok (.lload_n 1, 1) := by decide +kernel
theorem dX8_digest_86 : decode cX8_digest 86 = .ok (.aload_n 0, 1) := by decide +kernel
theorem dX8_digest_87 : decode cX8_digest 87 = .ok (.getfield 10, 3) := by decide +kernel
theorem dX8_digest_90 : decode cX8_digest 90 = .ok (.iload_n 3, 1) := by decide +kernel
theorem dX8_digest_91 : decode cX8_digest 91 = .ok (.invokevirtual 250, 3) := by decide +kernel
theorem dX8_digest_94 : decode cX8_digest 94 = .ok (.i2l, 1) := by decide +kernel
theorem dX8_digest_95 : decode cX8_digest 95 = .ok (.invokestatic 270, 3) := by decide +kernel
theorem dX8_digest_98 : decode cX8_digest 98 = .ok (.lstore_n 1, 1) := by decide +kernel
theorem dX8_digest_99 : decode cX8_digest 99 = .ok (.iinc 3 1, 3) := by decide +kernel
theorem dX8_digest_102 : decode cX8_digest 102 = .ok (.goto (-22), 3) := by decide +kernel
theorem dX8_digest_105 : decode cX8_digest 105 = .ok (.lload_n 1, 1) := by decide +kernel
theorem dX8_digest_106 : decode cX8_digest 106 = .ok (.aload_n 0, 1) := by decide +kernel
theorem dX8_digest_107 : decode cX8_digest 107 = .ok (.getfield 10, 3) := by decide +kernel
theorem dX8_digest_110 : decode cX8_digest 110 = .ok (.invokevirtual 253, 3) := by decide +kernel
theorem dX8_digest_113 : decode cX8_digest 113 = .ok (.i2l, 1) := by decide +kernel
theorem dX8_digest_114 : decode cX8_digest 114 = .ok (.invokestatic 270, 3) := by decide +kernel
theorem dX8_digest_117 : decode cX8_digest 117 = .ok (.lstore_n 1, 1) := by decide +kernel
theorem dX8_digest_118 : decode cX8_digest 118 = .ok (.lload_n 1, 1) := by decide +kernel
theorem dX8_digest_119 : decode cX8_digest 119 = .ok (.aload_n 0, 1) := by decide +kernel
theorem dX8_digest_120 : decode cX8_digest 120 = .ok (.getfield 10, 3) := by decide +kernel
theorem dX8_digest_123 : decode cX8_digest 123 = .ok (.invokevirtual 264, 3) := by decide +kernel
theorem dX8_digest_126 : decode cX8_digest 126 = .ok (.invokestatic 281, 3) := by decide +kernel
theorem dX8_digest_129 : decode cX8_digest 129 = .ok (.invokestatic 270, 3) := by decide +kernel
theorem dX8_digest_132 : decode cX8_digest 132 = .ok (.lstore_n 1, 1) := by decide +kernel
theorem dX8_digest_133 : decode cX8_digest 133 = .ok (.aload_n 0, 1) := by decide +kernel
theorem dX8_digest_134 : decode cX8_digest 134 = .ok (.lload_n 1, 1) := by decide +kernel
theorem dX8_digest_135 : decode cX8_digest 135 = .ok (.invokevirtual 285, 3) := by decide +kernel
theorem dX8_digest_138 : decode cX8_digest 138 = .ok (.lreturn, 1) := by decide +kernel
theorem dX8_mixed_0 : decode cX8_mixed 0 = .ok (.ldc2_w 289, 3) := by decide +kernel
theorem dX8_mixed_3 : decode cX8_mixed 3 = .ok (.lload_n 0, 1) := by decide +kernel
theorem dX8_mixed_4 : decode cX8_mixed 4 = .ok (.lmul, 1) := by decide +kernel
theorem dX8_mixed_5 : decode cX8_mixed 5 = .ok (.lload_n 2, 1) := by decide +kernel
theorem dX8_mixed_6 : decode cX8_mixed 6 = .ok (.ladd, 1) := by decide +kernel
theorem dX8_mixed_7 : decode cX8_mixed 7 = .ok (.lreturn, 1) := by decide +kernel
set_option maxRecDepth 20000 in
theorem ggX8_mixedRow_X6_rowNumber : GoodIn wsX8_mixedRow wsX6_rowNumber := goodIn_r _ [6, 7, 8, 9, 10, 11, 12, 13, 14, 15, 16, 17, 18, 19, 20, 5, 21, 22, 23, 24, 25, 26, 27, 28, 29, 30, 39, 40, 41, 42, 43, 44, 45, 46, 47, 48, 49, 50, 51, 52, 53] (by decide +kernel) (by decide +kernel)
set_option maxRecDepth 20000 in
theorem gX8_mixedRow_X6_rowNumber : GoodIn wsX8_mixedRow (wsV RX8 223 RX6 yX6_rowNumber wsX6_rowNumber) := goodIn_app (goodIn_of _ (by decide +kernel)) ggX8_mixedRow_X6_rowNumber
set_option maxRecDepth 20000 in
theorem ggX8_mixedRow_X8_mixed : GoodIn wsX8_mixedRow wsX8_mixed := goodIn_r _ [34, 35] (by decide +kernel) (by decide +kernel)
set_option maxRecDepth 20000 in
theorem gX8_mixedRow_X8_mixed : GoodIn wsX8_mixedRow (va_wsS RX8 270 yX8_mixed wsX8_mixed) := goodIn_app (goodIn_of _ (by decide +kernel)) ggX8_mixedRow_X8_mixed
theorem dX8_mixedRow_0 : decode cX8_mixedRow 0 = .ok (.lload_n 1, 1) := by decide +kernel
theorem dX8_mixedRow_1 : decode cX8_mixedRow 1 = .ok (.lstore 4, 2) := by decide +kernel
theorem dX8_mixedRow_3 : decode cX8_mixedRow 3 = .ok (.iconst 0, 1) := by decide +kernel
theorem dX8_mixedRow_4 : decode cX8_mixedRow 4 = .ok (.istore 6, 2) := by decide +kernel
theorem dX8_mixedRow_6 : decode cX8_mixedRow 6 = .ok (.iload 6, 2) := by decide +kernel
theorem dX8_mixedRow_8 : decode cX8_mixedRow 8 = .ok (.iconst 4, 1) := by decide +kernel
theorem dX8_mixedRow_9 : decode cX8_mixedRow 9 = .ok (.if_icmp .gt 27, 3) := by decide +kernel
theorem dX8_mixedRow_12 : decode cX8_mixedRow 12 = .ok (.lload 4, 2) := by decide +kernel
theorem dX8_mixedRow_14 : decode cX8_mixedRow 14 = .ok (.aload_n 0, 1) := by decide +kernel
theorem dX8_mixedRow_15 : decode cX8_mixedRow 15 = .ok (.getfield 10, 3) := by decide +kernel
theorem dX8_mixedRow_18 : decode cX8_mixedRow 18 = .ok (.iload_n 3, 1) := by decide +kernel
theorem dX8_mixedRow_19 : decode cX8_mixedRow 19 = .ok (.iload 6, 2) := by decide +kernel
theorem dX8_mixedRow_21 : decode cX8_mixedRow 21 = .ok (.invokevirtual 223, 3) := by decide +kernel
theorem dX8_mixedRow_24 : decode cX8_mixedRow 24 = .ok (.i2l, 1) := by decide +kernel
theorem dX8_mixedRow_25 : decode cX8_mixedRow 25 = .ok (.invokestatic 270, 3) := by decide +kernel
theorem dX8_mixedRow_28 : decode cX8_mixedRow 28 = .ok (.lstore 4, 2) := by decide +kernel
theorem dX8_mixedRow_30 : decode cX8_mixedRow 30 = .ok (.iinc 6 1, 3) := by decide +kernel
theorem dX8_mixedRow_33 : decode cX8_mixedRow 33 = .ok (.goto (-27), 3) := by decide +kernel
theorem dX8_mixedRow_36 : decode cX8_mixedRow 36 = .ok (.lload 4, 2) := by decide +kernel
theorem dX8_mixedRow_38 : decode cX8_mixedRow 38 = .ok (.lreturn, 1) := by decide +kernel
set_option maxRecDepth 20000 in
theorem ggX8_mixedPerson_X6_personNumber : GoodIn wsX8_mixedPerson wsX6_personNumber := goodIn_r _ [8, 9, 10, 11, 12, 13, 14, 15, 16, 17, 18, 19, 20, 21, 22, 23, 24, 25, 26, 7, 27, 28, 29, 30, 31, 32, 33, 34, 35, 36, 37, 38, 39, 40, 41, 42, 43, 44, 45, 46, 47, 48, 49, 50, 51, 52, 53, 54, 55, 56, 57, 119, 120, 121, 122, 123, 124, 127, 128, 129, 125, 126, 130, 131, 132, 133, 134, 135, 136, 137, 138] (by decide +kernel) (by decide +kernel)
set_option maxRecDepth 20000 in
theorem gX8_mixedPerson_X6_personNumber : GoodIn wsX8_mixedPerson (wsV RX8 228 RX6 yX6_personNumber wsX6_personNumber) := goodIn_app (goodIn_of _ (by decide +kernel)) ggX8_mixedPerson_X6_personNumber
set_option maxRecDepth 20000 in
theorem ggX8_mixedPerson_X8_mixed : GoodIn wsX8_mixedPerson wsX8_mixed := goodIn_r _ [61, 62] (by decide +kernel) (by decide +kernel)
set_option maxRecDepth 20000 in
theorem gX8_mixedPerson_X8_mixed : GoodIn wsX8_mixedPerson (va_wsS RX8 270 yX8_mixed wsX8_mixed) := goodIn_app (goodIn_of _ (by decide +kernel)) ggX8_mixedPerson_X8_mixed
set_option maxRecDepth 20000 in
theorem ggX8_mixedPerson_X3_get : GoodIn wsX8_mixedPerson wsX3_get := goodIn_r _ [22, 23, 133] (by decide +kernel) (by decide +kernel)
set_option maxRecDepth 20000 in
theorem gX8_mixedPerson_X3_get : GoodIn wsX8_mixedPerson (wsV RX8 291 RX3 yX3_get wsX3_get) := goodIn_app (goodIn_of _ (by decide +kernel)) ggX8_mixedPerson_X3_get
set_option maxRecDepth 20000 in
theorem ggX8_mixedPerson_X2_maskAt : GoodIn wsX8_mixedPerson wsX2_maskAt := goodIn_r _ [68, 69, 70, 71, 19, 20, 21, 22, 23, 125, 126, 133] (by decide +kernel) (by decide +kernel)
set_option maxRecDepth 20000 in
theorem gX8_mixedPerson_X2_maskAt : GoodIn wsX8_mixedPerson (wsV RX8 236 RX2 yX2_maskAt wsX2_maskAt) := goodIn_app (goodIn_of _ (by decide +kernel)) ggX8_mixedPerson_X2_maskAt
set_option maxRecDepth 20000 in
theorem ggX8_mixedPerson_X8_answerIf : GoodIn wsX8_mixedPerson wsX8_answerIf := goodIn_r _ [75, 1, 76, 2, 77, 78, 79, 37, 80, 81, 82, 35, 36, 38, 39, 40, 41, 19, 20, 21, 22, 23, 83, 29, 30, 7, 31, 32, 33, 34, 42, 43, 44, 45, 46, 47, 9, 10, 48, 11, 49, 12, 50, 18, 84, 85, 86, 87, 88, 13, 89, 90, 91, 92, 51, 52, 53, 54, 55, 56, 57, 93, 94, 95, 67, 96, 69, 71, 97, 65, 66, 68, 70, 98, 99, 100, 101, 102, 103, 104, 105, 106, 107, 108, 109, 110, 116, 117, 118, 119, 120, 121, 122, 123, 124, 134, 135, 136, 137, 138, 133, 127, 128, 129, 125, 126] (by decide +kernel) (by decide +kernel)
set_option maxRecDepth 20000 in
theorem gX8_mixedPerson_X8_answerIf : GoodIn wsX8_mixedPerson (wsV RX8 246 RX8 yX8_answerIf wsX8_answerIf) := goodIn_app (goodIn_of _ (by decide +kernel)) ggX8_mixedPerson_X8_answerIf
set_option maxRecDepth 20000 in
theorem ggX8_mixedPerson_X6_leastCoarseness : GoodIn wsX8_mixedPerson wsX6_leastCoarseness := goodIn_r _ [114, 32, 28, 29, 30, 7, 31, 33, 34, 35, 36, 37, 38, 39, 40, 41, 19, 20, 21, 22, 23, 42, 43, 44, 45, 46, 47, 9, 10, 48, 11, 49, 12, 50, 18, 51, 52, 53, 54, 55, 56, 57, 115, 78, 79, 80, 81, 82, 99, 100, 101, 119, 120, 121, 122, 123, 124, 134, 135, 136, 137, 138, 133, 127, 128, 129] (by decide +kernel) (by decide +kernel)
set_option maxRecDepth 20000 in
theorem gX8_mixedPerson_X6_leastCoarseness : GoodIn wsX8_mixedPerson (wsV RX8 261 RX6 yX6_leastCoarseness wsX6_leastCoarseness) := goodIn_app (goodIn_of _ (by decide +kernel)) ggX8_mixedPerson_X6_leastCoarseness
theorem dX8_mixedPerson_0 : decode cX8_mixedPerson 0 = .ok (.lload_n 1, 1) := by decide +kernel
theorem dX8_mixedPerson_1 : decode cX8_mixedPerson 1 = .ok (.lstore 4, 2) := by decide +kernel
theorem dX8_mixedPerson_3 : decode cX8_mixedPerson 3 = .ok (.iconst 0, 1) := by decide +kernel
theorem dX8_mixedPerson_4 : decode cX8_mixedPerson 4 = .ok (.istore 6, 2) := by decide +kernel
theorem dX8_mixedPerson_6 : decode cX8_mixedPerson 6 = .ok (.iload 6, 2) := by decide +kernel
theorem dX8_mixedPerson_8 : decode cX8_mixedPerson 8 = .ok (.bipush 7, 2) := by decide +kernel
theorem dX8_mixedPerson_10 : decode cX8_mixedPerson 10 = .ok (.if_icmp .gt 27, 3) := by decide +kernel
theorem dX8_mixedPerson_13 : decode cX8_mixedPerson 13 = .ok (.lload 4, 2) := by decide +kernel
theorem dX8_mixedPerson_15 : decode cX8_mixedPerson 15 = .ok (.aload_n 0, 1) := by decide +kernel
theorem dX8_mixedPerson_16 : decode cX8_mixedPerson 16 = .ok (.getfield 10, 3) := by decide +kernel
theorem dX8_mixedPerson_19 : decode cX8_mixedPerson 19 = .ok (.iload_n 3, 1) := by decide +kernel
theorem dX8_mixedPerson_20 : decode cX8_mixedPerson 20 = .ok (.iload 6, 2) := by decide +kernel
theorem dX8_mixedPerson_22 : decode cX8_mixedPerson 22 = .ok (.invokevirtual 228, 3) := by decide +kernel
theorem dX8_mixedPerson_25 : decode cX8_mixedPerson 25 = .ok (.i2l, 1) := by decide +kernel
theorem dX8_mixedPerson_26 : decode cX8_mixedPerson 26 = .ok (.invokestatic 270, 3) := by decide +kernel
theorem dX8_mixedPerson_29 : decode cX8_mixedPerson 29 = .ok (.lstore 4, 2) := by decide +kernel
theorem dX8_mixedPerson_31 : decode cX8_mixedPerson 31 = .ok (.iinc 6 1, 3) := by decide +kernel
theorem dX8_mixedPerson_34 : decode cX8_mixedPerson 34 = .ok (.goto (-28), 3) := by decide +kernel
theorem dX8_mixedPerson_37 : decode cX8_mixedPerson 37 = .ok (.iconst 0, 1) := by decide +kernel
theorem dX8_mixedPerson_38 : decode cX8_mixedPerson 38 = .ok (.istore 6, 2) := by decide +kernel
theorem dX8_mixedPerson_40 : decode cX8_mixedPerson 40 = .ok (.iload 6, 2) := by decide +kernel
theorem dX8_mixedPerson_42 : decode cX8_mixedPerson 42 = .ok (.aload_n 0, 1) := by decide +kernel
theorem dX8_mixedPerson_43 : decode cX8_mixedPerson 43 = .ok (.getfield 10, 3) := by decide +kernel
theorem dX8_mixedPerson_46 : decode cX8_mixedPerson 46 = .ok (.getfield 90, 3) := by decide +kernel
theorem dX8_mixedPerson_49 : decode cX8_mixedPerson 49 = .ok (.getfield 184, 3) := by decide +kernel
theorem dX8_mixedPerson_52 : decode cX8_mixedPerson 52 = .ok (.iload_n 3, 1) := by decide +kernel
theorem dX8_mixedPerson_53 : decode cX8_mixedPerson 53 = .ok (.invokevirtual 291, 3) := by decide +kernel
theorem dX8_mixedPerson_56 : decode cX8_mixedPerson 56 = .ok (.if_icmp .ge 30, 3) := by decide +kernel
theorem dX8_mixedPerson_59 : decode cX8_mixedPerson 59 = .ok (.lload 4, 2) := by decide +kernel
theorem dX8_mixedPerson_61 : decode cX8_mixedPerson 61 = .ok (.aload_n 0, 1) := by decide +kernel
theorem dX8_mixedPerson_62 : decode cX8_mixedPerson 62 = .ok (.getfield 10, 3) := by decide +kernel
theorem dX8_mixedPerson_65 : decode cX8_mixedPerson 65 = .ok (.getfield 90, 3) := by decide +kernel
theorem dX8_mixedPerson_68 : decode cX8_mixedPerson 68 = .ok (.iload_n 3, 1) := by decide +kernel
theorem dX8_mixedPerson_69 : decode cX8_mixedPerson 69 = .ok (.iload 6, 2) := by decide +kernel
theorem dX8_mixedPerson_71 : decode cX8_mixedPerson 71 = .ok (.invokevirtual 236, 3) := by decide +kernel
theorem dX8_mixedPerson_74 : decode cX8_mixedPerson 74 = .ok (.i2l, 1) := by decide +kernel
theorem dX8_mixedPerson_75 : decode cX8_mixedPerson 75 = .ok (.invokestatic 270, 3) := by decide +kernel
theorem dX8_mixedPerson_78 : decode cX8_mixedPerson 78 = .ok (.lstore 4, 2) := by decide +kernel
theorem dX8_mixedPerson_80 : decode cX8_mixedPerson 80 = .ok (.iinc 6 1, 3) := by decide +kernel
theorem dX8_mixedPerson_83 : decode cX8_mixedPerson 83 = .ok (.goto (-43), 3) := by decide +kernel
theorem dX8_mixedPerson_86 : decode cX8_mixedPerson 86 = .ok (.iconst 0, 1) := by decide +kernel
theorem dX8_mixedPerson_87 : decode cX8_mixedPerson 87 = .ok (.istore 6, 2) := by decide +kernel
theorem dX8_mixedPerson_89 : decode cX8_mixedPerson 89 = .ok (.iload 6, 2) := by decide +kernel
theorem dX8_mixedPerson_91 : decode cX8_mixedPerson 91 = .ok (.iconst 3, 1) := by decide +kernel
theorem dX8_mixedPerson_92 : decode cX8_mixedPerson 92 = .ok (.if_icmp .gt 28, 3) := by decide +kernel
theorem dX8_mixedPerson_95 : decode cX8_mixedPerson 95 = .ok (.lload 4, 2) := by decide +kernel
theorem dX8_mixedPerson_97 : decode cX8_mixedPerson 97 = .ok (.aload_n 0, 1) := by decide +kernel
theorem dX8_mixedPerson_98 : decode cX8_mixedPerson 98 = .ok (.iload_n 3, 1) := by decide +kernel
theorem dX8_mixedPerson_99 : decode cX8_mixedPerson 99 = .ok (.iconst (-1), 1) := by decide +kernel
theorem dX8_mixedPerson_100 : decode cX8_mixedPerson 100 = .ok (.iconst 0, 1) := by decide +kernel
theorem dX8_mixedPerson_101 : decode cX8_mixedPerson 101 = .ok (.bipush 99, 2) := by decide +kernel
theorem dX8_mixedPerson_103 : decode cX8_mixedPerson 103 = .ok (.iload 6, 2) := by decide +kernel
theorem dX8_mixedPerson_105 : decode cX8_mixedPerson 105 = .ok (.invokevirtual 246, 3) := by decide +kernel
theorem dX8_mixedPerson_108 : decode cX8_mixedPerson 108 = .ok (.i2l, 1) := by decide +kernel
theorem dX8_mixedPerson_109 : decode cX8_mixedPerson 109 = .ok (.invokestatic 270, 3) := by decide +kernel
theorem dX8_mixedPerson_112 : decode cX8_mixedPerson 112 = .ok (.lstore 4, 2) := by decide +kernel
theorem dX8_mixedPerson_114 : decode cX8_mixedPerson 114 = .ok (.iinc 6 1, 3) := by decide +kernel
theorem dX8_mixedPerson_117 : decode cX8_mixedPerson 117 = .ok (.goto (-28), 3) := by decide +kernel
theorem dX8_mixedPerson_120 : decode cX8_mixedPerson 120 = .ok (.lload 4, 2) := by decide +kernel
theorem dX8_mixedPerson_122 : decode cX8_mixedPerson 122 = .ok (.aload_n 0, 1) := by decide +kernel
theorem dX8_mixedPerson_123 : decode cX8_mixedPerson 123 = .ok (.getfield 10, 3) := by decide +kernel
theorem dX8_mixedPerson_126 : decode cX8_mixedPerson 126 = .ok (.iload_n 3, 1) := by decide +kernel
theorem dX8_mixedPerson_127 : decode cX8_mixedPerson 127 = .ok (.iconst (-1), 1) := by decide +kernel
theorem dX8_mixedPerson_128 : decode cX8_mixedPerson 128 = .ok (.invokevirtual 261, 3) := by decide +kernel
theorem dX8_mixedPerson_131 : decode cX8_mixedPerson 131 = .ok (.i2l, 1) := by decide +kernel
theorem dX8_mixedPerson_132 : decode cX8_mixedPerson 132 = .ok (.invokestatic 270, 3) := by decide +kernel
theorem dX8_mixedPerson_135 : decode cX8_mixedPerson 135 = .ok (.lreturn, 1) := by decide +kernel
set_option maxRecDepth 20000 in
theorem ggX8_mixedBuffer_X8_mixed : GoodIn wsX8_mixedBuffer wsX8_mixed := goodIn_r _ [7, 8] (by decide +kernel) (by decide +kernel)
set_option maxRecDepth 20000 in
theorem gX8_mixedBuffer_X8_mixed : GoodIn wsX8_mixedBuffer (va_wsS RX8 270 yX8_mixed wsX8_mixed) := goodIn_app (goodIn_of _ (by decide +kernel)) ggX8_mixedBuffer_X8_mixed
set_option maxRecDepth 20000 in
theorem ggX8_mixedBuffer_X3_get : GoodIn wsX8_mixedBuffer wsX3_get := goodIn_r _ [13, 14, 20] (by decide +kernel) (by decide +kernel)
set_option maxRecDepth 20000 in
theorem gX8_mixedBuffer_X3_get : GoodIn wsX8_mixedBuffer (wsV RX8 291 RX3 yX3_get wsX3_get) := goodIn_app (goodIn_of _ (by decide +kernel)) ggX8_mixedBuffer_X3_get
theorem dX8_mixedBuffer_0 : decode cX8_mixedBuffer 0 = .ok (.lload_n 1, 1) := by decide +kernel
theorem dX8_mixedBuffer_1 : decode cX8_mixedBuffer 1 = .ok (.aload_n 0, 1) := by decide +kernel
theorem dX8_mixedBuffer_2 : decode cX8_mixedBuffer 2 = .ok (.getfield 26, 3) := by decide +kernel
theorem dX8_mixedBuffer_5 : decode cX8_mixedBuffer 5 = .ok (.getfield 194, 3) := by decide +kernel
theorem dX8_mixedBuffer_8 : decode cX8_mixedBuffer 8 = .ok (.i2l, 1) := by decide +kernel
theorem dX8_mixedBuffer_9 : decode cX8_mixedBuffer 9 = .ok (.invokestatic 270, 3) := by decide +kernel
theorem dX8_mixedBuffer_12 : decode cX8_mixedBuffer 12 = .ok (.lstore_n 3, 1) := by decide +kernel
theorem dX8_mixedBuffer_13 : decode cX8_mixedBuffer 13 = .ok (.iconst 0, 1) := by decide +kernel
theorem dX8_mixedBuffer_14 : decode cX8_mixedBuffer 14 = .ok (.istore 5, 2) := by decide +kernel
theorem dX8_mixedBuffer_16 : decode cX8_mixedBuffer 16 = .ok (.iload 5, 2) := by decide +kernel
theorem dX8_mixedBuffer_18 : decode cX8_mixedBuffer 18 = .ok (.aload_n 0, 1) := by decide +kernel
theorem dX8_mixedBuffer_19 : decode cX8_mixedBuffer 19 = .ok (.getfield 26, 3) := by decide +kernel
theorem dX8_mixedBuffer_22 : decode cX8_mixedBuffer 22 = .ok (.getfield 194, 3) := by decide +kernel
theorem dX8_mixedBuffer_25 : decode cX8_mixedBuffer 25 = .ok (.if_icmp .ge 27, 3) := by decide +kernel
theorem dX8_mixedBuffer_28 : decode cX8_mixedBuffer 28 = .ok (.lload_n 3, 1) := by decide +kernel
theorem dX8_mixedBuffer_29 : decode cX8_mixedBuffer 29 = .ok (.aload_n 0, 1) := by decide +kernel
theorem dX8_mixedBuffer_30 : decode cX8_mixedBuffer 30 = .ok (.getfield 26, 3) := by decide +kernel
theorem dX8_mixedBuffer_33 : decode cX8_mixedBuffer 33 = .ok (.getfield 294, 3) := by decide +kernel
theorem dX8_mixedBuffer_36 : decode cX8_mixedBuffer 36 = .ok (.iload 5, 2) := by decide +kernel
theorem dX8_mixedBuffer_38 : decode cX8_mixedBuffer 38 = .ok (.invokevirtual 291, 3) := by decide +kernel
theorem dX8_mixedBuffer_41 : decode cX8_mixedBuffer 41 = .ok (.i2l, 1) := by decide +kernel
theorem dX8_mixedBuffer_42 : decode cX8_mixedBuffer 42 = .ok (.invokestatic 270, 3) := by decide +kernel
theorem dX8_mixedBuffer_45 : decode cX8_mixedBuffer 45 = .ok (.lstore_n 3, 1) := by decide +kernel
theorem dX8_mixedBuffer_46 : decode cX8_mixedBuffer 46 = .ok (.iinc 5 1, 3) := by decide +kernel
theorem dX8_mixedBuffer_49 : decode cX8_mixedBuffer 49 = .ok (.goto (-33), 3) := by decide +kernel
theorem dX8_mixedBuffer_52 : decode cX8_mixedBuffer 52 = .ok (.lload_n 3, 1) := by decide +kernel
theorem dX8_mixedBuffer_53 : decode cX8_mixedBuffer 53 = .ok (.lreturn, 1) := by decide +kernel
theorem dX8_bitsOfShare_0 : decode cX8_bitsOfShare 0 = .ok (.dload_n 0, 1) := by decide +kernel
theorem dX8_bitsOfShare_1 : decode cX8_bitsOfShare 1 = .ok (.dstore_n 2, 1) := by decide +kernel
theorem dX8_bitsOfShare_2 : decode cX8_bitsOfShare 2 = .ok (.ldc2_w 297, 3) := by decide +kernel
theorem dX8_bitsOfShare_5 : decode cX8_bitsOfShare 5 = .ok (.lstore 4, 2) := by decide +kernel
theorem dX8_bitsOfShare_7 : decode cX8_bitsOfShare 7 = .ok (.iconst 0, 1) := by decide +kernel
theorem dX8_bitsOfShare_8 : decode cX8_bitsOfShare 8 = .ok (.istore 6, 2) := by decide +kernel
theorem dX8_bitsOfShare_10 : decode cX8_bitsOfShare 10 = .ok (.iload 6, 2) := by decide +kernel
theorem dX8_bitsOfShare_12 : decode cX8_bitsOfShare 12 = .ok (.iconst 3, 1) := by decide +kernel
theorem dX8_bitsOfShare_13 : decode cX8_bitsOfShare 13 = .ok (.if_icmp .ge 27, 3) := by decide +kernel
theorem dX8_bitsOfShare_16 : decode cX8_bitsOfShare 16 = .ok (.dload_n 2, 1) := by decide +kernel
theorem dX8_bitsOfShare_17 : decode cX8_bitsOfShare 17 = .ok (.dconst 1, 1) := by decide +kernel
theorem dX8_bitsOfShare_18 : decode cX8_bitsOfShare 18 = .ok (.dcmp .g, 1) := by decide +kernel
theorem dX8_bitsOfShare_19 : decode cX8_bitsOfShare 19 = .ok (.ifCond .ge 21, 3) := by decide +kernel
theorem dX8_bitsOfShare_22 : decode cX8_bitsOfShare 22 = .ok (.dload_n 2, 1) := by decide +kernel
theorem dX8_bitsOfShare_23 : decode cX8_bitsOfShare 23 = .ok (.ldc2_w 299, 3) := by decide +kernel
theorem dX8_bitsOfShare_26 : decode cX8_bitsOfShare 26 = .ok (.dmul, 1) := by decide +kernel
theorem dX8_bitsOfShare_27 : decode cX8_bitsOfShare 27 = .ok (.dstore_n 2, 1) := by decide +kernel
theorem dX8_bitsOfShare_28 : decode cX8_bitsOfShare 28 = .ok (.lload 4, 2) := by decide +kernel
theorem dX8_bitsOfShare_30 : decode cX8_bitsOfShare 30 = .ok (.lconst 1, 1) := by decide +kernel
theorem dX8_bitsOfShare_31 : decode cX8_bitsOfShare 31 = .ok (.lsub, 1) := by decide +kernel
theorem dX8_bitsOfShare_32 : decode cX8_bitsOfShare 32 = .ok (.lstore 4, 2) := by decide +kernel
theorem dX8_bitsOfShare_34 : decode cX8_bitsOfShare 34 = .ok (.iinc 6 1, 3) := by decide +kernel
theorem dX8_bitsOfShare_37 : decode cX8_bitsOfShare 37 = .ok (.goto (-27), 3) := by decide +kernel
theorem dX8_bitsOfShare_40 : decode cX8_bitsOfShare 40 = .ok (.lload 4, 2) := by decide +kernel
theorem dX8_bitsOfShare_42 : decode cX8_bitsOfShare 42 = .ok (.bipush 52, 2) := by decide +kernel
theorem dX8_bitsOfShare_44 : decode cX8_bitsOfShare 44 = .ok (.lshl, 1) := by decide +kernel
theorem dX8_bitsOfShare_45 : decode cX8_bitsOfShare 45 = .ok (.dload_n 2, 1) := by decide +kernel
theorem dX8_bitsOfShare_46 : decode cX8_bitsOfShare 46 = .ok (.dconst 1, 1) := by decide +kernel
theorem dX8_bitsOfShare_47 : decode cX8_bitsOfShare 47 = .ok (.dsub, 1) := by decide +kernel
theorem dX8_bitsOfShare_48 : decode cX8_bitsOfShare 48 = .ok (.ldc2_w 301, 3) := by decide +kernel
theorem dX8_bitsOfShare_51 : decode cX8_bitsOfShare 51 = .ok (.dmul, 1) := by decide +kernel
theorem dX8_bitsOfShare_52 : decode cX8_bitsOfShare 52 = .ok (.d2l, 1) := by decide +kernel
theorem dX8_bitsOfShare_53 : decode cX8_bitsOfShare 53 = .ok (.lor, 1) := by decide +kernel
theorem dX8_bitsOfShare_54 : decode cX8_bitsOfShare 54 = .ok (.lreturn, 1) := by decide +kernel
set_option maxRecDepth 20000 in
theorem ggX8_total_X3_get : GoodIn wsX8_total wsX3_get := goodIn_r _ [16, 17, 86] (by decide +kernel) (by decide +kernel)
set_option maxRecDepth 20000 in
theorem gX8_total_X3_get : GoodIn wsX8_total (wsV RX8 291 RX3 yX3_get wsX3_get) := goodIn_app (goodIn_of _ (by decide +kernel)) ggX8_total_X3_get
set_option maxRecDepth 20000 in
theorem ggX8_total_X3_sum : GoodIn wsX8_total wsX3_sum := goodIn_r _ [21, 17, 86] (by decide +kernel) (by decide +kernel)
set_option maxRecDepth 20000 in
theorem gX8_total_X3_sum : GoodIn wsX8_total (wsV RX8 306 RX3 yX3_sum wsX3_sum) := goodIn_app (goodIn_of _ (by decide +kernel)) ggX8_total_X3_sum
set_option maxRecDepth 20000 in
theorem ggX8_total_X6_pairsSeen : GoodIn wsX8_total wsX6_pairsSeen := goodIn_r _ [26, 27, 28, 29, 25, 30, 31, 32, 33, 34, 35, 36, 37, 38, 39, 40, 41, 42, 43, 44, 13, 14, 15, 16, 17, 45, 46, 47, 48, 49, 50, 51, 52, 53, 54, 55, 56, 57, 58, 59, 60, 61, 62, 63, 64, 65, 69, 70, 71, 72, 73, 74, 75, 76, 77, 78, 79, 86, 87, 88, 89] (by decide +kernel) (by decide +kernel)
set_option maxRecDepth 20000 in
theorem gX8_total_X6_pairsSeen : GoodIn wsX8_total (wsV RX8 312 RX6 yX6_pairsSeen wsX6_pairsSeen) := goodIn_app (goodIn_of _ (by decide +kernel)) ggX8_total_X6_pairsSeen
theorem dX8_total_0 : decode cX8_total 0 = .ok (.iload_n 1, 1) := by decide +kernel
theorem dX8_total_1 : decode cX8_total 1 = .ok (.tableswitch 166 0 8 #[51, 62, 70, 82, 94, 106, 120, 134, 145], 51) := by decide +kernel
theorem dX8_total_52 : decode cX8_total 52 = .ok (.aload_n 0, 1) := by decide +kernel
theorem dX8_total_53 : decode cX8_total 53 = .ok (.getfield 10, 3) := by decide +kernel
theorem dX8_total_56 : decode cX8_total 56 = .ok (.getfield 56, 3) := by decide +kernel
theorem dX8_total_59 : decode cX8_total 59 = .ok (.getfield 75, 3) := by decide +kernel
theorem dX8_total_62 : decode cX8_total 62 = .ok (.ireturn, 1) := by decide +kernel
theorem dX8_total_63 : decode cX8_total 63 = .ok (.aload_n 0, 1) := by decide +kernel
theorem dX8_total_64 : decode cX8_total 64 = .ok (.getfield 10, 3) := by decide +kernel
theorem dX8_total_67 : decode cX8_total 67 = .ok (.getfield 139, 3) := by decide +kernel
theorem dX8_total_70 : decode cX8_total 70 = .ok (.ireturn, 1) := by decide +kernel
theorem dX8_total_71 : decode cX8_total 71 = .ok (.aload_n 0, 1) := by decide +kernel
theorem dX8_total_72 : decode cX8_total 72 = .ok (.getfield 10, 3) := by decide +kernel
theorem dX8_total_75 : decode cX8_total 75 = .ok (.getfield 144, 3) := by decide +kernel
theorem dX8_total_78 : decode cX8_total 78 = .ok (.iconst 0, 1) := by decide +kernel
theorem dX8_total_79 : decode cX8_total 79 = .ok (.invokevirtual 291, 3) := by decide +kernel
theorem dX8_total_82 : decode cX8_total 82 = .ok (.ireturn, 1) := by decide +kernel
theorem dX8_total_83 : decode cX8_total 83 = .ok (.aload_n 0, 1) := by decide +kernel
theorem dX8_total_84 : decode cX8_total 84 = .ok (.getfield 10, 3) := by decide +kernel
theorem dX8_total_87 : decode cX8_total 87 = .ok (.getfield 144, 3) := by decide +kernel
theorem dX8_total_90 : decode cX8_total 90 = .ok (.iconst 1, 1) := by decide +kernel
theorem dX8_total_91 : decode cX8_total 91 = .ok (.invokevirtual 291, 3) := by decide +kernel
theorem dX8_total_94 : decode cX8_total 94 = .ok (.ireturn, 1) := by decide +kernel
theorem dX8_total_95 : decode cX8_total 95 = .ok (.aload_n 0, 1) := by decide +kernel
theorem dX8_total_96 : decode cX8_total 96 = .ok (.getfield 10, 3) := by decide +kernel
theorem dX8_total_99 : decode cX8_total 99 = .ok (.getfield 144, 3) := by decide +kernel
theorem dX8_total_102 : decode cX8_total 102 = .ok (.iconst 2, 1) := by decide +kernel
theorem dX8_total_103 : decode cX8_total 103 = .ok (.invokevirtual 291, 3) := by decide +kernel
theorem dX8_total_106 : decode cX8_total 106 = .ok (.ireturn, 1) := by decide +kernel
theorem dX8_total_107 : decode cX8_total 107 = .ok (.aload_n 0, 1) := by decide +kernel
theorem dX8_total_108 : decode cX8_total 108 = .ok (.getfield 10, 3) := by decide +kernel
theorem dX8_total_111 : decode cX8_total 111 = .ok (.getfield 157, 3) := by decide +kernel
theorem dX8_total_114 : decode cX8_total 114 = .ok (.getfield 303, 3) := by decide +kernel
theorem dX8_total_117 : decode cX8_total 117 = .ok (.invokevirtual 306, 3) := by decide +kernel
theorem dX8_total_120 : decode cX8_total 120 = .ok (.ireturn, 1) := by decide +kernel
theorem dX8_total_121 : decode cX8_total 121 = .ok (.aload_n 0, 1) := by decide +kernel
theorem dX8_total_122 : decode cX8_total 122 = .ok (.getfield 10, 3) := by decide +kernel
theorem dX8_total_125 : decode cX8_total 125 = .ok (.getfield 157, 3) := by decide +kernel
theorem dX8_total_128 : decode cX8_total 128 = .ok (.getfield 309, 3) := by decide +kernel
theorem dX8_total_131 : decode cX8_total 131 = .ok (.invokevirtual 306, 3) := by decide +kernel
theorem dX8_total_134 : decode cX8_total 134 = .ok (.ireturn, 1) := by decide +kernel
theorem dX8_total_135 : decode cX8_total 135 = .ok (.aload_n 0, 1) := by decide +kernel
theorem dX8_total_136 : decode cX8_total 136 = .ok (.getfield 10, 3) := by decide +kernel
theorem dX8_total_139 : decode cX8_total 139 = .ok (.getfield 157, 3) := by decide +kernel
theorem dX8_total_142 : decode cX8_total 142 = .ok (.getfield 171, 3) := by decide +kernel
theorem dX8_total_145 : decode cX8_total 145 = .ok (.ireturn, 1) := by decide +kernel
theorem dX8_total_146 : decode cX8_total 146 = .ok (.aload_n 0, 1) := by decide +kernel
theorem dX8_total_147 : decode cX8_total 147 = .ok (.getfield 10, 3) := by decide +kernel
theorem dX8_total_150 : decode cX8_total 150 = .ok (.getfield 56, 3) := by decide +kernel
theorem dX8_total_153 : decode cX8_total 153 = .ok (.getfield 75, 3) := by decide +kernel
theorem dX8_total_156 : decode cX8_total 156 = .ok (.iconst 5, 1) := by decide +kernel
theorem dX8_total_157 : decode cX8_total 157 = .ok (.imul, 1) := by decide +kernel
theorem dX8_total_158 : decode cX8_total 158 = .ok (.aload_n 0, 1) := by decide +kernel
theorem dX8_total_159 : decode cX8_total 159 = .ok (.getfield 10, 3) := by decide +kernel
theorem dX8_total_162 : decode cX8_total 162 = .ok (.invokevirtual 312, 3) := by decide +kernel
theorem dX8_total_165 : decode cX8_total 165 = .ok (.isub, 1) := by decide +kernel
theorem dX8_total_166 : decode cX8_total 166 = .ok (.ireturn, 1) := by decide +kernel
theorem dX8_total_167 : decode cX8_total 167 = .ok (.aload_n 0, 1) := by decide +kernel
theorem dX8_total_168 : decode cX8_total 168 = .ok (.getfield 19, 3) := by decide +kernel
theorem dX8_total_171 : decode cX8_total 171 = .ok (.getfield 213, 3) := by decide +kernel
theorem dX8_total_174 : decode cX8_total 174 = .ok (.ireturn, 1) := by decide +kernel
set_option maxRecDepth 20000 in
theorem ggX8_answerIf_X5_howManyMatch : GoodIn wsX8_answerIf wsX5_howManyMatch := goodIn_r _ [8, 9, 10, 11, 12, 7, 13, 14, 15, 16, 17, 18, 19, 20, 21, 95, 96, 97, 98, 99, 100] (by decide +kernel) (by decide +kernel)
set_option maxRecDepth 20000 in
theorem gX8_answerIf_X5_howManyMatch : GoodIn wsX8_answerIf (wsV RX8 315 RX5 yX5_howManyMatch wsX5_howManyMatch) := goodIn_app (goodIn_of _ (by decide +kernel)) ggX8_answerIf_X5_howManyMatch
set_option maxRecDepth 20000 in
theorem ggX8_answerIf_X6_seenRows : GoodIn wsX8_answerIf wsX6_seenRows := goodIn_r _ [26, 27, 28, 29, 11, 12, 7, 13, 14, 15, 16, 17, 18, 19, 20, 21, 30, 31, 32, 25, 33, 34, 35, 36, 37, 38, 39, 40, 41, 42, 43, 89, 90, 91, 92, 93, 94, 95, 96, 97, 98, 99, 100, 101, 102, 103] (by decide +kernel) (by decide +kernel)
set_option maxRecDepth 20000 in
theorem gX8_answerIf_X6_seenRows : GoodIn wsX8_answerIf (wsV RX8 150 RX6 yX6_seenRows wsX6_seenRows) := goodIn_app (goodIn_of _ (by decide +kernel)) ggX8_answerIf_X6_seenRows
set_option maxRecDepth 20000 in
theorem ggX8_answerIf_X6_countAnswer : GoodIn wsX8_answerIf wsX6_countAnswer := goodIn_r _ [47, 48, 49, 50, 51, 52, 25, 53, 54, 55, 56, 57, 58, 59, 60, 43, 17, 18, 19, 20, 21, 61, 62, 63, 64, 65, 66, 67, 68, 69, 70, 71, 72, 73, 74, 75, 76, 89, 90, 91, 92, 93, 94, 100, 104, 105] (by decide +kernel) (by decide +kernel)
set_option maxRecDepth 20000 in
theorem gX8_answerIf_X6_countAnswer : GoodIn wsX8_answerIf (wsV RX8 154 RX6 yX6_countAnswer wsX6_countAnswer) := goodIn_app (goodIn_of _ (by decide +kernel)) ggX8_answerIf_X6_countAnswer
set_option maxRecDepth 20000 in
theorem ggX8_answerIf_X6_sumAnswer : GoodIn wsX8_answerIf wsX6_sumAnswer := goodIn_r _ [80, 27, 28, 40, 81, 82, 83, 84, 43, 17, 18, 19, 20, 21, 50, 51, 52, 25, 53, 48, 54, 55, 56, 57, 58, 59, 60, 89, 90, 91, 92, 93, 94, 95, 96, 97, 98, 99, 100] (by decide +kernel) (by decide +kernel)
set_option maxRecDepth 20000 in
theorem gX8_answerIf_X6_sumAnswer : GoodIn wsX8_answerIf (wsV RX8 177 RX6 yX6_sumAnswer wsX6_sumAnswer) := goodIn_app (goodIn_of _ (by decide +kernel)) ggX8_answerIf_X6_sumAnswer
set_option maxRecDepth 20000 in
theorem ggX8_answerIf_X2_givesAway : GoodIn wsX8_answerIf wsX2_givesAway := goodIn_r _ [65, 66, 67, 17, 18, 19, 20, 21, 68, 69, 70, 64, 71, 72, 73, 55, 56, 57, 58, 59, 60, 104, 105, 100] (by decide +kernel) (by decide +kernel)
set_option maxRecDepth 20000 in
theorem gX8_answerIf_X2_givesAway : GoodIn wsX8_answerIf (wsV RX8 167 RX2 yX2_givesAway wsX2_givesAway) := goodIn_app (goodIn_of _ (by decide +kernel)) ggX8_answerIf_X2_givesAway
theorem dX8_answerIf_0 : decode cX8_answerIf 0 = .ok (.iload 5, 2) := by decide +kernel
theorem dX8_answerIf_2 : decode cX8_answerIf 2 = .ok (.iconst 3, 1) := by decide +kernel
theorem dX8_answerIf_3 : decode cX8_answerIf 3 = .ok (.if_icmp .ne 18, 3) := by decide +kernel
theorem dX8_answerIf_6 : decode cX8_answerIf 6 = .ok (.aload_n 0, 1) := by decide +kernel
theorem dX8_answerIf_7 : decode cX8_answerIf 7 = .ok (.getfield 10, 3) := by decide +kernel
theorem dX8_answerIf_10 : decode cX8_answerIf 10 = .ok (.getfield 56, 3) := by decide +kernel
theorem dX8_answerIf_13 : decode cX8_answerIf 13 = .ok (.iload_n 2, 1) := by decide +kernel
theorem dX8_answerIf_14 : decode cX8_answerIf 14 = .ok (.iload_n 3, 1) := by decide +kernel
theorem dX8_answerIf_15 : decode cX8_answerIf 15 = .ok (.iload 4, 2) := by decide +kernel
theorem dX8_answerIf_17 : decode cX8_answerIf 17 = .ok (.invokevirtual 315, 3) := by decide +kernel
theorem dX8_answerIf_20 : decode cX8_answerIf 20 = .ok (.ireturn, 1) := by decide +kernel
theorem dX8_answerIf_21 : decode cX8_answerIf 21 = .ok (.aload_n 0, 1) := by decide +kernel
theorem dX8_answerIf_22 : decode cX8_answerIf 22 = .ok (.getfield 10, 3) := by decide +kernel
theorem dX8_answerIf_25 : decode cX8_answerIf 25 = .ok (.iload_n 1, 1) := by decide +kernel
theorem dX8_answerIf_26 : decode cX8_answerIf 26 = .ok (.iload_n 2, 1) := by decide +kernel
theorem dX8_answerIf_27 : decode cX8_answerIf 27 = .ok (.iload_n 3, 1) := by decide +kernel
theorem dX8_answerIf_28 : decode cX8_answerIf 28 = .ok (.iload 4, 2) := by decide +kernel
theorem dX8_answerIf_30 : decode cX8_answerIf 30 = .ok (.invokevirtual 150, 3) := by decide +kernel
theorem dX8_answerIf_33 : decode cX8_answerIf 33 = .ok (.istore 6, 2) := by decide +kernel
theorem dX8_answerIf_35 : decode cX8_answerIf 35 = .ok (.iload 5, 2) := by decide +kernel
theorem dX8_answerIf_37 : decode cX8_answerIf 37 = .ok (.lookupswitch 48 #[(0, 27), (1, 38)], 27) := by decide +kernel
theorem dX8_answerIf_64 : decode cX8_answerIf 64 = .ok (.aload_n 0, 1) := by decide +kernel
theorem dX8_answerIf_65 : decode cX8_answerIf 65 = .ok (.getfield 10, 3) := by decide +kernel
theorem dX8_answerIf_68 : decode cX8_answerIf 68 = .ok (.iload_n 1, 1) := by decide +kernel
theorem dX8_answerIf_69 : decode cX8_answerIf 69 = .ok (.iload 6, 2) := by decide +kernel
theorem dX8_answerIf_71 : decode cX8_answerIf 71 = .ok (.invokevirtual 154, 3) := by decide +kernel
theorem dX8_answerIf_74 : decode cX8_answerIf 74 = .ok (.ireturn, 1) := by decide +kernel
theorem dX8_answerIf_75 : decode cX8_answerIf 75 = .ok (.aload_n 0, 1) := by decide +kernel
theorem dX8_answerIf_76 : decode cX8_answerIf 76 = .ok (.getfield 10, 3) := by decide +kernel
theorem dX8_answerIf_79 : decode cX8_answerIf 79 = .ok (.iload 6, 2) := by decide +kernel
theorem dX8_answerIf_81 : decode cX8_answerIf 81 = .ok (.invokevirtual 177, 3) := by decide +kernel
theorem dX8_answerIf_84 : decode cX8_answerIf 84 = .ok (.ireturn, 1) := by decide +kernel
theorem dX8_answerIf_85 : decode cX8_answerIf 85 = .ok (.aload_n 0, 1) := by decide +kernel
theorem dX8_answerIf_86 : decode cX8_answerIf 86 = .ok (.getfield 10, 3) := by decide +kernel
theorem dX8_answerIf_89 : decode cX8_answerIf 89 = .ok (.getfield 90, 3) := by decide +kernel
theorem dX8_answerIf_92 : decode cX8_answerIf 92 = .ok (.iload_n 1, 1) := by decide +kernel
theorem dX8_answerIf_93 : decode cX8_answerIf 93 = .ok (.iload 6, 2) := by decide +kernel
theorem dX8_answerIf_95 : decode cX8_answerIf 95 = .ok (.invokevirtual 167, 3) := by decide +kernel
theorem dX8_answerIf_98 : decode cX8_answerIf 98 = .ok (.ifCond .eq 7, 3) := by decide +kernel
theorem dX8_answerIf_101 : decode cX8_answerIf 101 = .ok (.iconst 1, 1) := by decide +kernel
theorem dX8_answerIf_102 : decode cX8_answerIf 102 = .ok (.goto 4, 3) := by decide +kernel
theorem dX8_answerIf_105 : decode cX8_answerIf 105 = .ok (.iconst 0, 1) := by decide +kernel
theorem dX8_answerIf_106 : decode cX8_answerIf 106 = .ok (.ireturn, 1) := by decide +kernel
theorem dX8_isWithin_0 : decode cX8_isWithin 0 = .ok (.iload_n 0, 1) := by decide +kernel
theorem dX8_isWithin_1 : decode cX8_isWithin 1 = .ok (.iload_n 1, 1) := by decide +kernel
theorem dX8_isWithin_2 : decode cX8_isWithin 2 = .ok (.if_icmp .lt 12, 3) := by decide +kernel
theorem dX8_isWithin_5 : decode cX8_isWithin 5 = .ok (.iload_n 0, 1) := by decide +kernel
theorem dX8_isWithin_6 : decode cX8_isWithin 6 = .ok (.iload_n 2, 1) := by decide +kernel
theorem dX8_isWithin_7 : decode cX8_isWithin 7 = .ok (.if_icmp .gt 7, 3) := by decide +kernel
theorem dX8_isWithin_10 : decode cX8_isWithin 10 = .ok (.iconst 1, 1) := by decide +kernel
theorem dX8_isWithin_11 : decode cX8_isWithin 11 = .ok (.goto 4, 3) := by decide +kernel
theorem dX8_isWithin_14 : decode cX8_isWithin 14 = .ok (.iconst 0, 1) := by decide +kernel
theorem dX8_isWithin_15 : decode cX8_isWithin 15 = .ok (.ireturn, 1) := by decide +kernel
set_option maxRecDepth 20000 in
theorem ggX8_isPerson_X8_isWithin : GoodIn wsX8_isPerson wsX8_isWithin := goodIn_r _ [4] (by decide +kernel) (by decide +kernel)
set_option maxRecDepth 20000 in
theorem gX8_isPerson_X8_isWithin : GoodIn wsX8_isPerson (va_wsS RX8 47 yX8_isWithin wsX8_isWithin) := goodIn_app (goodIn_of _ (by decide +kernel)) ggX8_isPerson_X8_isWithin
theorem dX8_isPerson_0 : decode cX8_isPerson 0 = .ok (.iload_n 0, 1) := by decide +kernel
theorem dX8_isPerson_1 : decode cX8_isPerson 1 = .ok (.iconst 0, 1) := by decide +kernel
theorem dX8_isPerson_2 : decode cX8_isPerson 2 = .ok (.iconst 4, 1) := by decide +kernel
theorem dX8_isPerson_3 : decode cX8_isPerson 3 = .ok (.invokestatic 47, 3) := by decide +kernel
theorem dX8_isPerson_6 : decode cX8_isPerson 6 = .ok (.ireturn, 1) := by decide +kernel
set_option maxRecDepth 20000 in
theorem ggX8_isPlace_X8_isWithin : GoodIn wsX8_isPlace wsX8_isWithin := goodIn_r _ [4] (by decide +kernel) (by decide +kernel)
set_option maxRecDepth 20000 in
theorem gX8_isPlace_X8_isWithin : GoodIn wsX8_isPlace (va_wsS RX8 47 yX8_isWithin wsX8_isWithin) := goodIn_app (goodIn_of _ (by decide +kernel)) ggX8_isPlace_X8_isWithin
theorem dX8_isPlace_0 : decode cX8_isPlace 0 = .ok (.iload_n 0, 1) := by decide +kernel
theorem dX8_isPlace_1 : decode cX8_isPlace 1 = .ok (.iconst 0, 1) := by decide +kernel
theorem dX8_isPlace_2 : decode cX8_isPlace 2 = .ok (.iconst 3, 1) := by decide +kernel
theorem dX8_isPlace_3 : decode cX8_isPlace 3 = .ok (.invokestatic 47, 3) := by decide +kernel
theorem dX8_isPlace_6 : decode cX8_isPlace 6 = .ok (.ireturn, 1) := by decide +kernel
set_option maxRecDepth 20000 in
theorem ggX8_isPlaceOrAll_X8_isPlace : GoodIn wsX8_isPlaceOrAll wsX8_isPlace := goodIn_r _ [4, 5, 6, 3, 7] (by decide +kernel) (by decide +kernel)
set_option maxRecDepth 20000 in
theorem gX8_isPlaceOrAll_X8_isPlace : GoodIn wsX8_isPlaceOrAll (va_wsS RX8 34 yX8_isPlace wsX8_isPlace) := goodIn_app (goodIn_of _ (by decide +kernel)) ggX8_isPlaceOrAll_X8_isPlace
theorem dX8_isPlaceOrAll_0 : decode cX8_isPlaceOrAll 0 = .ok (.iload_n 0, 1) := by decide +kernel
theorem dX8_isPlaceOrAll_1 : decode cX8_isPlaceOrAll 1 = .ok (.iconst (-1), 1) := by decide +kernel
theorem dX8_isPlaceOrAll_2 : decode cX8_isPlaceOrAll 2 = .ok (.if_icmp .eq 10, 3) := by decide +kernel
theorem dX8_isPlaceOrAll_5 : decode cX8_isPlaceOrAll 5 = .ok (.iload_n 0, 1) := by decide +kernel
theorem dX8_isPlaceOrAll_6 : decode cX8_isPlaceOrAll 6 = .ok (.invokestatic 34, 3) := by decide +kernel
theorem dX8_isPlaceOrAll_9 : decode cX8_isPlaceOrAll 9 = .ok (.ifCond .eq 7, 3) := by decide +kernel
theorem dX8_isPlaceOrAll_12 : decode cX8_isPlaceOrAll 12 = .ok (.iconst 1, 1) := by decide +kernel
theorem dX8_isPlaceOrAll_13 : decode cX8_isPlaceOrAll 13 = .ok (.goto 4, 3) := by decide +kernel
theorem dX8_isPlaceOrAll_16 : decode cX8_isPlaceOrAll 16 = .ok (.iconst 0, 1) := by decide +kernel
theorem dX8_isPlaceOrAll_17 : decode cX8_isPlaceOrAll 17 = .ok (.ireturn, 1) := by decide +kernel
set_option maxRecDepth 20000 in
theorem ggX8_isValue_X8_isWithin : GoodIn wsX8_isValue wsX8_isWithin := goodIn_r _ [4] (by decide +kernel) (by decide +kernel)
set_option maxRecDepth 20000 in
theorem gX8_isValue_X8_isWithin : GoodIn wsX8_isValue (va_wsS RX8 47 yX8_isWithin wsX8_isWithin) := goodIn_app (goodIn_of _ (by decide +kernel)) ggX8_isValue_X8_isWithin
theorem dX8_isValue_0 : decode cX8_isValue 0 = .ok (.iload_n 0, 1) := by decide +kernel
theorem dX8_isValue_1 : decode cX8_isValue 1 = .ok (.iconst 0, 1) := by decide +kernel
theorem dX8_isValue_2 : decode cX8_isValue 2 = .ok (.bipush 99, 2) := by decide +kernel
theorem dX8_isValue_4 : decode cX8_isValue 4 = .ok (.invokestatic 47, 3) := by decide +kernel
theorem dX8_isValue_7 : decode cX8_isValue 7 = .ok (.ireturn, 1) := by decide +kernel
set_option maxRecDepth 20000 in
theorem ggX8_requireRow_X8_isWithin : GoodIn wsX8_requireRow wsX8_isWithin := goodIn_r _ [9] (by decide +kernel) (by decide +kernel)
set_option maxRecDepth 20000 in
theorem gX8_requireRow_X8_isWithin : GoodIn wsX8_requireRow (va_wsS RX8 47 yX8_isWithin wsX8_isWithin) := goodIn_app (goodIn_of _ (by decide +kernel)) ggX8_requireRow_X8_isWithin
theorem dX8_requireRow_0 : decode cX8_requireRow 0 = .ok (.iload_n 1, 1) := by decide +kernel
theorem dX8_requireRow_1 : decode cX8_requireRow 1 = .ok (.iconst 0, 1) := by decide +kernel
