theorem dX9_forget_50 : decode cX9_forget 50 = .ok (.iastore, 1) := by decide +kernel
theorem dX9_forget_51 : decode cX9_forget 51 = .ok (.iinc 3 1, 3) := by decide +kernel
theorem dX9_forget_54 : decode cX9_forget 54 = .ok (.goto (-24), 3) := by decide +kernel
theorem dX9_forget_57 : decode cX9_forget 57 = .ok (.iload_n 2, 1) := by decide +kernel
theorem dX9_forget_58 : decode cX9_forget 58 = .ok (.ireturn, 1) := by decide +kernel
set_option maxRecDepth 20000 in
theorem ggX9_append_X9_in : GoodIn wsX9_append wsX9_in := goodIn_r _ [7] (by decide +kernel) (by decide +kernel)
set_option maxRecDepth 20000 in
theorem gX9_append_X9_in : GoodIn wsX9_append (va_wsS RX9 30 yX9_in wsX9_in) := goodIn_app (goodIn_of _ (by decide +kernel)) ggX9_append_X9_in
set_option maxRecDepth 20000 in
theorem ggX9_append_X9_fails : GoodIn wsX9_append wsX9_fails := goodIn_r _ [11, 1, 12, 13, 14, 15, 16, 17, 18, 19, 20, 21, 22] (by decide +kernel) (by decide +kernel)
set_option maxRecDepth 20000 in
theorem gX9_append_X9_fails : GoodIn wsX9_append (wsV RX9 80 RX9 yX9_fails wsX9_fails) := goodIn_app (goodIn_of _ (by decide +kernel)) ggX9_append_X9_fails
theorem dX9_append_0 : decode cX9_append 0 = .ok (.aload_n 0, 1) := by decide +kernel
theorem dX9_append_1 : decode cX9_append 1 = .ok (.iconst 0, 1) := by decide +kernel
theorem dX9_append_2 : decode cX9_append 2 = .ok (.putfield 22, 3) := by decide +kernel
theorem dX9_append_5 : decode cX9_append 5 = .ok (.iload_n 1, 1) := by decide +kernel
theorem dX9_append_6 : decode cX9_append 6 = .ok (.bipush 33, 2) := by decide +kernel
theorem dX9_append_8 : decode cX9_append 8 = .ok (.bipush 126, 2) := by decide +kernel
theorem dX9_append_10 : decode cX9_append 10 = .ok (.invokestatic 30, 3) := by decide +kernel
theorem dX9_append_13 : decode cX9_append 13 = .ok (.ifCond .ne 9, 3) := by decide +kernel
theorem dX9_append_16 : decode cX9_append 16 = .ok (.aload_n 0, 1) := by decide +kernel
theorem dX9_append_17 : decode cX9_append 17 = .ok (.iconst 1, 1) := by decide +kernel
theorem dX9_append_18 : decode cX9_append 18 = .ok (.invokevirtual 80, 3) := by decide +kernel
theorem dX9_append_21 : decode cX9_append 21 = .ok (.ireturn, 1) := by decide +kernel
theorem dX9_append_22 : decode cX9_append 22 = .ok (.aload_n 0, 1) := by decide +kernel
theorem dX9_append_23 : decode cX9_append 23 = .ok (.getfield 117, 3) := by decide +kernel
theorem dX9_append_26 : decode cX9_append 26 = .ok (.bipush 60, 2) := by decide +kernel
theorem dX9_append_28 : decode cX9_append 28 = .ok (.if_icmp .ne 9, 3) := by decide +kernel
theorem dX9_append_31 : decode cX9_append 31 = .ok (.aload_n 0, 1) := by decide +kernel
theorem dX9_append_32 : decode cX9_append 32 = .ok (.iconst 2, 1) := by decide +kernel
theorem dX9_append_33 : decode cX9_append 33 = .ok (.invokevirtual 80, 3) := by decide +kernel
theorem dX9_append_36 : decode cX9_append 36 = .ok (.ireturn, 1) := by decide +kernel
theorem dX9_append_37 : decode cX9_append 37 = .ok (.aload_n 0, 1) := by decide +kernel
theorem dX9_append_38 : decode cX9_append 38 = .ok (.getfield 16, 3) := by decide +kernel
theorem dX9_append_41 : decode cX9_append 41 = .ok (.aload_n 0, 1) := by decide +kernel
theorem dX9_append_42 : decode cX9_append 42 = .ok (.getfield 117, 3) := by decide +kernel
theorem dX9_append_45 : decode cX9_append 45 = .ok (.iload_n 1, 1) := by decide +kernel
theorem dX9_append_46 : decode cX9_append 46 = .ok (.iastore, 1) := by decide +kernel
theorem dX9_append_47 : decode cX9_append 47 = .ok (.aload_n 0, 1) := by decide +kernel
theorem dX9_append_48 : decode cX9_append 48 = .ok (.dup, 1) := by decide +kernel
theorem dX9_append_49 : decode cX9_append 49 = .ok (.getfield 117, 3) := by decide +kernel
theorem dX9_append_52 : decode cX9_append 52 = .ok (.iconst 1, 1) := by decide +kernel
theorem dX9_append_53 : decode cX9_append 53 = .ok (.iadd, 1) := by decide +kernel
theorem dX9_append_54 : decode cX9_append 54 = .ok (.putfield 117, 3) := by decide +kernel
theorem dX9_append_57 : decode cX9_append 57 = .ok (.aload_n 0, 1) := by decide +kernel
theorem dX9_append_58 : decode cX9_append 58 = .ok (.getfield 117, 3) := by decide +kernel
theorem dX9_append_61 : decode cX9_append 61 = .ok (.ireturn, 1) := by decide +kernel
theorem dX9_clearBuffer_0 : decode cX9_clearBuffer 0 = .ok (.aload_n 0, 1) := by decide +kernel
theorem dX9_clearBuffer_1 : decode cX9_clearBuffer 1 = .ok (.iconst 0, 1) := by decide +kernel
theorem dX9_clearBuffer_2 : decode cX9_clearBuffer 2 = .ok (.putfield 22, 3) := by decide +kernel
theorem dX9_clearBuffer_5 : decode cX9_clearBuffer 5 = .ok (.aload_n 0, 1) := by decide +kernel
theorem dX9_clearBuffer_6 : decode cX9_clearBuffer 6 = .ok (.getfield 117, 3) := by decide +kernel
theorem dX9_clearBuffer_9 : decode cX9_clearBuffer 9 = .ok (.istore_n 1, 1) := by decide +kernel
theorem dX9_clearBuffer_10 : decode cX9_clearBuffer 10 = .ok (.aload_n 0, 1) := by decide +kernel
theorem dX9_clearBuffer_11 : decode cX9_clearBuffer 11 = .ok (.iconst 0, 1) := by decide +kernel
theorem dX9_clearBuffer_12 : decode cX9_clearBuffer 12 = .ok (.putfield 117, 3) := by decide +kernel
theorem dX9_clearBuffer_15 : decode cX9_clearBuffer 15 = .ok (.iload_n 1, 1) := by decide +kernel
theorem dX9_clearBuffer_16 : decode cX9_clearBuffer 16 = .ok (.ireturn, 1) := by decide +kernel
theorem dX9_sign_0 : decode cX9_sign 0 = .ok (.aload_n 0, 1) := by decide +kernel
theorem dX9_sign_1 : decode cX9_sign 1 = .ok (.getfield 120, 3) := by decide +kernel
theorem dX9_sign_4 : decode cX9_sign 4 = .ok (.aload_n 0, 1) := by decide +kernel
theorem dX9_sign_5 : decode cX9_sign 5 = .ok (.getfield 117, 3) := by decide +kernel
theorem dX9_sign_8 : decode cX9_sign 8 = .ok (.if_icmp .ge 15, 3) := by decide +kernel
theorem dX9_sign_11 : decode cX9_sign 11 = .ok (.aload_n 0, 1) := by decide +kernel
theorem dX9_sign_12 : decode cX9_sign 12 = .ok (.getfield 16, 3) := by decide +kernel
theorem dX9_sign_15 : decode cX9_sign 15 = .ok (.aload_n 0, 1) := by decide +kernel
theorem dX9_sign_16 : decode cX9_sign 16 = .ok (.getfield 120, 3) := by decide +kernel
theorem dX9_sign_19 : decode cX9_sign 19 = .ok (.iaload, 1) := by decide +kernel
theorem dX9_sign_20 : decode cX9_sign 20 = .ok (.goto 4, 3) := by decide +kernel
theorem dX9_sign_23 : decode cX9_sign 23 = .ok (.iconst 0, 1) := by decide +kernel
theorem dX9_sign_24 : decode cX9_sign 24 = .ok (.ireturn, 1) := by decide +kernel
set_option maxRecDepth 20000 in
theorem ggX9_digit_X9_sign : GoodIn wsX9_digit wsX9_sign := goodIn_r _ [7, 2, 8, 9, 13, 14, 15, 16, 17, 18, 19, 20, 21, 22, 23] (by decide +kernel) (by decide +kernel)
set_option maxRecDepth 20000 in
theorem gX9_digit_X9_sign : GoodIn wsX9_digit (wsV RX9 127 RX9 yX9_sign wsX9_sign) := goodIn_app (goodIn_of _ (by decide +kernel)) ggX9_digit_X9_sign
set_option maxRecDepth 20000 in
theorem ggX9_digit_X9_in : GoodIn wsX9_digit wsX9_in := goodIn_r _ [12] (by decide +kernel) (by decide +kernel)
set_option maxRecDepth 20000 in
theorem gX9_digit_X9_in : GoodIn wsX9_digit (va_wsS RX9 30 yX9_in wsX9_in) := goodIn_app (goodIn_of _ (by decide +kernel)) ggX9_digit_X9_in
theorem dX9_digit_0 : decode cX9_digit 0 = .ok (.aload_n 0, 1) := by decide +kernel
theorem dX9_digit_1 : decode cX9_digit 1 = .ok (.aload_n 0, 1) := by decide +kernel
theorem dX9_digit_2 : decode cX9_digit 2 = .ok (.getfield 123, 3) := by decide +kernel
theorem dX9_digit_5 : decode cX9_digit 5 = .ok (.ifCond .eq 20, 3) := by decide +kernel
theorem dX9_digit_8 : decode cX9_digit 8 = .ok (.aload_n 0, 1) := by decide +kernel
theorem dX9_digit_9 : decode cX9_digit 9 = .ok (.invokevirtual 127, 3) := by decide +kernel
theorem dX9_digit_12 : decode cX9_digit 12 = .ok (.bipush 48, 2) := by decide +kernel
theorem dX9_digit_14 : decode cX9_digit 14 = .ok (.iload_n 1, 1) := by decide +kernel
theorem dX9_digit_15 : decode cX9_digit 15 = .ok (.invokestatic 30, 3) := by decide +kernel
theorem dX9_digit_18 : decode cX9_digit 18 = .ok (.ifCond .eq 7, 3) := by decide +kernel
theorem dX9_digit_21 : decode cX9_digit 21 = .ok (.iconst 1, 1) := by decide +kernel
theorem dX9_digit_22 : decode cX9_digit 22 = .ok (.goto 4, 3) := by decide +kernel
theorem dX9_digit_25 : decode cX9_digit 25 = .ok (.iconst 0, 1) := by decide +kernel
theorem dX9_digit_26 : decode cX9_digit 26 = .ok (.putfield 123, 3) := by decide +kernel
theorem dX9_digit_29 : decode cX9_digit 29 = .ok (.aload_n 0, 1) := by decide +kernel
theorem dX9_digit_30 : decode cX9_digit 30 = .ok (.invokevirtual 127, 3) := by decide +kernel
theorem dX9_digit_33 : decode cX9_digit 33 = .ok (.bipush 48, 2) := by decide +kernel
theorem dX9_digit_35 : decode cX9_digit 35 = .ok (.isub, 1) := by decide +kernel
theorem dX9_digit_36 : decode cX9_digit 36 = .ok (.istore_n 2, 1) := by decide +kernel
theorem dX9_digit_37 : decode cX9_digit 37 = .ok (.aload_n 0, 1) := by decide +kernel
theorem dX9_digit_38 : decode cX9_digit 38 = .ok (.dup, 1) := by decide +kernel
theorem dX9_digit_39 : decode cX9_digit 39 = .ok (.getfield 120, 3) := by decide +kernel
theorem dX9_digit_42 : decode cX9_digit 42 = .ok (.aload_n 0, 1) := by decide +kernel
theorem dX9_digit_43 : decode cX9_digit 43 = .ok (.getfield 123, 3) := by decide +kernel
theorem dX9_digit_46 : decode cX9_digit 46 = .ok (.ifCond .eq 7, 3) := by decide +kernel
theorem dX9_digit_49 : decode cX9_digit 49 = .ok (.iconst 1, 1) := by decide +kernel
theorem dX9_digit_50 : decode cX9_digit 50 = .ok (.goto 4, 3) := by decide +kernel
theorem dX9_digit_53 : decode cX9_digit 53 = .ok (.iconst 0, 1) := by decide +kernel
theorem dX9_digit_54 : decode cX9_digit 54 = .ok (.iadd, 1) := by decide +kernel
theorem dX9_digit_55 : decode cX9_digit 55 = .ok (.putfield 120, 3) := by decide +kernel
theorem dX9_digit_58 : decode cX9_digit 58 = .ok (.iload_n 2, 1) := by decide +kernel
theorem dX9_digit_59 : decode cX9_digit 59 = .ok (.ireturn, 1) := by decide +kernel
set_option maxRecDepth 20000 in
theorem ggX9_placeRead_X9_sign : GoodIn wsX9_placeRead wsX9_sign := goodIn_r _ [7, 2, 8, 9, 10, 11, 12, 13, 14, 15, 16, 17, 18, 19, 20] (by decide +kernel) (by decide +kernel)
set_option maxRecDepth 20000 in
theorem gX9_placeRead_X9_sign : GoodIn wsX9_placeRead (wsV RX9 127 RX9 yX9_sign wsX9_sign) := goodIn_app (goodIn_of _ (by decide +kernel)) ggX9_placeRead_X9_sign
theorem dX9_placeRead_0 : decode cX9_placeRead 0 = .ok (.aload_n 0, 1) := by decide +kernel
theorem dX9_placeRead_1 : decode cX9_placeRead 1 = .ok (.invokevirtual 127, 3) := by decide +kernel
theorem dX9_placeRead_4 : decode cX9_placeRead 4 = .ok (.bipush 110, 2) := by decide +kernel
theorem dX9_placeRead_6 : decode cX9_placeRead 6 = .ok (.if_icmp .ne 7, 3) := by decide +kernel
theorem dX9_placeRead_9 : decode cX9_placeRead 9 = .ok (.iconst 0, 1) := by decide +kernel
theorem dX9_placeRead_10 : decode cX9_placeRead 10 = .ok (.goto 30, 3) := by decide +kernel
theorem dX9_placeRead_13 : decode cX9_placeRead 13 = .ok (.aload_n 0, 1) := by decide +kernel
theorem dX9_placeRead_14 : decode cX9_placeRead 14 = .ok (.invokevirtual 127, 3) := by decide +kernel
theorem dX9_placeRead_17 : decode cX9_placeRead 17 = .ok (.bipush 101, 2) := by decide +kernel
theorem dX9_placeRead_19 : decode cX9_placeRead 19 = .ok (.if_icmp .ne 7, 3) := by decide +kernel
theorem dX9_placeRead_22 : decode cX9_placeRead 22 = .ok (.iconst 1, 1) := by decide +kernel
theorem dX9_placeRead_23 : decode cX9_placeRead 23 = .ok (.goto 17, 3) := by decide +kernel
theorem dX9_placeRead_26 : decode cX9_placeRead 26 = .ok (.aload_n 0, 1) := by decide +kernel
theorem dX9_placeRead_27 : decode cX9_placeRead 27 = .ok (.invokevirtual 127, 3) := by decide +kernel
theorem dX9_placeRead_30 : decode cX9_placeRead 30 = .ok (.bipush 115, 2) := by decide +kernel
theorem dX9_placeRead_32 : decode cX9_placeRead 32 = .ok (.if_icmp .ne 7, 3) := by decide +kernel
theorem dX9_placeRead_35 : decode cX9_placeRead 35 = .ok (.iconst 2, 1) := by decide +kernel
theorem dX9_placeRead_36 : decode cX9_placeRead 36 = .ok (.goto 4, 3) := by decide +kernel
theorem dX9_placeRead_39 : decode cX9_placeRead 39 = .ok (.iconst 3, 1) := by decide +kernel
theorem dX9_placeRead_40 : decode cX9_placeRead 40 = .ok (.istore_n 1, 1) := by decide +kernel
theorem dX9_placeRead_41 : decode cX9_placeRead 41 = .ok (.aload_n 0, 1) := by decide +kernel
theorem dX9_placeRead_42 : decode cX9_placeRead 42 = .ok (.aload_n 0, 1) := by decide +kernel
theorem dX9_placeRead_43 : decode cX9_placeRead 43 = .ok (.getfield 123, 3) := by decide +kernel
theorem dX9_placeRead_46 : decode cX9_placeRead 46 = .ok (.ifCond .eq 21, 3) := by decide +kernel
theorem dX9_placeRead_49 : decode cX9_placeRead 49 = .ok (.iload_n 1, 1) := by decide +kernel
theorem dX9_placeRead_50 : decode cX9_placeRead 50 = .ok (.iconst 3, 1) := by decide +kernel
theorem dX9_placeRead_51 : decode cX9_placeRead 51 = .ok (.if_icmp .lt 12, 3) := by decide +kernel
theorem dX9_placeRead_54 : decode cX9_placeRead 54 = .ok (.aload_n 0, 1) := by decide +kernel
theorem dX9_placeRead_55 : decode cX9_placeRead 55 = .ok (.invokevirtual 127, 3) := by decide +kernel
theorem dX9_placeRead_58 : decode cX9_placeRead 58 = .ok (.bipush 119, 2) := by decide +kernel
theorem dX9_placeRead_60 : decode cX9_placeRead 60 = .ok (.if_icmp .ne 7, 3) := by decide +kernel
theorem dX9_placeRead_63 : decode cX9_placeRead 63 = .ok (.iconst 1, 1) := by decide +kernel
theorem dX9_placeRead_64 : decode cX9_placeRead 64 = .ok (.goto 4, 3) := by decide +kernel
theorem dX9_placeRead_67 : decode cX9_placeRead 67 = .ok (.iconst 0, 1) := by decide +kernel
theorem dX9_placeRead_68 : decode cX9_placeRead 68 = .ok (.putfield 123, 3) := by decide +kernel
theorem dX9_placeRead_71 : decode cX9_placeRead 71 = .ok (.aload_n 0, 1) := by decide +kernel
theorem dX9_placeRead_72 : decode cX9_placeRead 72 = .ok (.dup, 1) := by decide +kernel
theorem dX9_placeRead_73 : decode cX9_placeRead 73 = .ok (.getfield 120, 3) := by decide +kernel
theorem dX9_placeRead_76 : decode cX9_placeRead 76 = .ok (.aload_n 0, 1) := by decide +kernel
theorem dX9_placeRead_77 : decode cX9_placeRead 77 = .ok (.getfield 123, 3) := by decide +kernel
theorem dX9_placeRead_80 : decode cX9_placeRead 80 = .ok (.ifCond .eq 7, 3) := by decide +kernel
theorem dX9_placeRead_83 : decode cX9_placeRead 83 = .ok (.iconst 1, 1) := by decide +kernel
theorem dX9_placeRead_84 : decode cX9_placeRead 84 = .ok (.goto 4, 3) := by decide +kernel
theorem dX9_placeRead_87 : decode cX9_placeRead 87 = .ok (.iconst 0, 1) := by decide +kernel
theorem dX9_placeRead_88 : decode cX9_placeRead 88 = .ok (.iadd, 1) := by decide +kernel
theorem dX9_placeRead_89 : decode cX9_placeRead 89 = .ok (.putfield 120, 3) := by decide +kernel
theorem dX9_placeRead_92 : decode cX9_placeRead 92 = .ok (.iload_n 1, 1) := by decide +kernel
theorem dX9_placeRead_93 : decode cX9_placeRead 93 = .ok (.ireturn, 1) := by decide +kernel
set_option maxRecDepth 20000 in
theorem ggX9_readsRow_X9_digit : GoodIn wsX9_readsRow wsX9_digit := goodIn_r _ [9, 3, 4, 10, 11, 12, 8, 13, 14, 15, 16, 17, 18, 23, 24, 25, 26, 27, 28, 29, 30, 31, 32, 33] (by decide +kernel) (by decide +kernel)
set_option maxRecDepth 20000 in
theorem gX9_readsRow_X9_digit : GoodIn wsX9_readsRow (wsV RX9 134 RX9 yX9_digit wsX9_digit) := goodIn_app (goodIn_of _ (by decide +kernel)) ggX9_readsRow_X9_digit
set_option maxRecDepth 20000 in
theorem ggX9_readsRow_X9_placeRead : GoodIn wsX9_readsRow wsX9_placeRead := goodIn_r _ [22, 3, 4, 10, 11, 12, 8, 13, 14, 15, 23, 24, 25, 26, 27, 28, 29, 30, 31, 32, 33] (by decide +kernel) (by decide +kernel)
set_option maxRecDepth 20000 in
theorem gX9_readsRow_X9_placeRead : GoodIn wsX9_readsRow (wsV RX9 137 RX9 yX9_placeRead wsX9_placeRead) := goodIn_app (goodIn_of _ (by decide +kernel)) ggX9_readsRow_X9_placeRead
set_option maxRecDepth 20000 in
theorem ggX9_readsRow_X9_sign : GoodIn wsX9_readsRow wsX9_sign := goodIn_r _ [13, 4, 14, 15, 23, 24, 25, 26, 27, 28, 29, 30, 31, 32, 33] (by decide +kernel) (by decide +kernel)
set_option maxRecDepth 20000 in
theorem gX9_readsRow_X9_sign : GoodIn wsX9_readsRow (wsV RX9 127 RX9 yX9_sign wsX9_sign) := goodIn_app (goodIn_of _ (by decide +kernel)) ggX9_readsRow_X9_sign
set_option maxRecDepth 20000 in
theorem ggX9_readsRow_X9_in : GoodIn wsX9_readsRow wsX9_in := goodIn_r _ [18] (by decide +kernel) (by decide +kernel)
set_option maxRecDepth 20000 in
theorem gX9_readsRow_X9_in : GoodIn wsX9_readsRow (va_wsS RX9 30 yX9_in wsX9_in) := goodIn_app (goodIn_of _ (by decide +kernel)) ggX9_readsRow_X9_in
theorem dX9_readsRow_0 : decode cX9_readsRow 0 = .ok (.iconst 4, 1) := by decide +kernel
theorem dX9_readsRow_1 : decode cX9_readsRow 1 = .ok (.aload_n 0, 1) := by decide +kernel
theorem dX9_readsRow_2 : decode cX9_readsRow 2 = .ok (.getfield 131, 3) := by decide +kernel
theorem dX9_readsRow_5 : decode cX9_readsRow 5 = .ok (.imul, 1) := by decide +kernel
theorem dX9_readsRow_6 : decode cX9_readsRow 6 = .ok (.istore_n 1, 1) := by decide +kernel
theorem dX9_readsRow_7 : decode cX9_readsRow 7 = .ok (.aload_n 0, 1) := by decide +kernel
theorem dX9_readsRow_8 : decode cX9_readsRow 8 = .ok (.getfield 19, 3) := by decide +kernel
theorem dX9_readsRow_11 : decode cX9_readsRow 11 = .ok (.iload_n 1, 1) := by decide +kernel
theorem dX9_readsRow_12 : decode cX9_readsRow 12 = .ok (.aload_n 0, 1) := by decide +kernel
theorem dX9_readsRow_13 : decode cX9_readsRow 13 = .ok (.bipush 52, 2) := by decide +kernel
theorem dX9_readsRow_15 : decode cX9_readsRow 15 = .ok (.invokevirtual 134, 3) := by decide +kernel
theorem dX9_readsRow_18 : decode cX9_readsRow 18 = .ok (.iastore, 1) := by decide +kernel
theorem dX9_readsRow_19 : decode cX9_readsRow 19 = .ok (.aload_n 0, 1) := by decide +kernel
theorem dX9_readsRow_20 : decode cX9_readsRow 20 = .ok (.getfield 19, 3) := by decide +kernel
theorem dX9_readsRow_23 : decode cX9_readsRow 23 = .ok (.iload_n 1, 1) := by decide +kernel
theorem dX9_readsRow_24 : decode cX9_readsRow 24 = .ok (.iconst 1, 1) := by decide +kernel
theorem dX9_readsRow_25 : decode cX9_readsRow 25 = .ok (.iadd, 1) := by decide +kernel
theorem dX9_readsRow_26 : decode cX9_readsRow 26 = .ok (.aload_n 0, 1) := by decide +kernel
theorem dX9_readsRow_27 : decode cX9_readsRow 27 = .ok (.invokevirtual 137, 3) := by decide +kernel
theorem dX9_readsRow_30 : decode cX9_readsRow 30 = .ok (.iastore, 1) := by decide +kernel
theorem dX9_readsRow_31 : decode cX9_readsRow 31 = .ok (.aload_n 0, 1) := by decide +kernel
theorem dX9_readsRow_32 : decode cX9_readsRow 32 = .ok (.bipush 57, 2) := by decide +kernel
theorem dX9_readsRow_34 : decode cX9_readsRow 34 = .ok (.invokevirtual 134, 3) := by decide +kernel
theorem dX9_readsRow_37 : decode cX9_readsRow 37 = .ok (.istore_n 2, 1) := by decide +kernel
theorem dX9_readsRow_38 : decode cX9_readsRow 38 = .ok (.aload_n 0, 1) := by decide +kernel
theorem dX9_readsRow_39 : decode cX9_readsRow 39 = .ok (.getfield 123, 3) := by decide +kernel
theorem dX9_readsRow_42 : decode cX9_readsRow 42 = .ok (.ifCond .eq 33, 3) := by decide +kernel
theorem dX9_readsRow_45 : decode cX9_readsRow 45 = .ok (.iload_n 2, 1) := by decide +kernel
theorem dX9_readsRow_46 : decode cX9_readsRow 46 = .ok (.ifCond .le 29, 3) := by decide +kernel
theorem dX9_readsRow_49 : decode cX9_readsRow 49 = .ok (.aload_n 0, 1) := by decide +kernel
theorem dX9_readsRow_50 : decode cX9_readsRow 50 = .ok (.invokevirtual 127, 3) := by decide +kernel
theorem dX9_readsRow_53 : decode cX9_readsRow 53 = .ok (.bipush 48, 2) := by decide +kernel
theorem dX9_readsRow_55 : decode cX9_readsRow 55 = .ok (.bipush 57, 2) := by decide +kernel
theorem dX9_readsRow_57 : decode cX9_readsRow 57 = .ok (.invokestatic 30, 3) := by decide +kernel
theorem dX9_readsRow_60 : decode cX9_readsRow 60 = .ok (.ifCond .eq 15, 3) := by decide +kernel
theorem dX9_readsRow_63 : decode cX9_readsRow 63 = .ok (.bipush 10, 2) := by decide +kernel
theorem dX9_readsRow_65 : decode cX9_readsRow 65 = .ok (.iload_n 2, 1) := by decide +kernel
theorem dX9_readsRow_66 : decode cX9_readsRow 66 = .ok (.imul, 1) := by decide +kernel
theorem dX9_readsRow_67 : decode cX9_readsRow 67 = .ok (.aload_n 0, 1) := by decide +kernel
theorem dX9_readsRow_68 : decode cX9_readsRow 68 = .ok (.bipush 57, 2) := by decide +kernel
theorem dX9_readsRow_70 : decode cX9_readsRow 70 = .ok (.invokevirtual 134, 3) := by decide +kernel
theorem dX9_readsRow_73 : decode cX9_readsRow 73 = .ok (.iadd, 1) := by decide +kernel
theorem dX9_readsRow_74 : decode cX9_readsRow 74 = .ok (.istore_n 2, 1) := by decide +kernel
theorem dX9_readsRow_75 : decode cX9_readsRow 75 = .ok (.iconst 0, 1) := by decide +kernel
theorem dX9_readsRow_76 : decode cX9_readsRow 76 = .ok (.istore_n 3, 1) := by decide +kernel
theorem dX9_readsRow_77 : decode cX9_readsRow 77 = .ok (.aload_n 0, 1) := by decide +kernel
theorem dX9_readsRow_78 : decode cX9_readsRow 78 = .ok (.getfield 123, 3) := by decide +kernel
theorem dX9_readsRow_81 : decode cX9_readsRow 81 = .ok (.ifCond .eq 33, 3) := by decide +kernel
theorem dX9_readsRow_84 : decode cX9_readsRow 84 = .ok (.iload_n 3, 1) := by decide +kernel
theorem dX9_readsRow_85 : decode cX9_readsRow 85 = .ok (.iconst 3, 1) := by decide +kernel
theorem dX9_readsRow_86 : decode cX9_readsRow 86 = .ok (.if_icmp .ge 28, 3) := by decide +kernel
theorem dX9_readsRow_89 : decode cX9_readsRow 89 = .ok (.aload_n 0, 1) := by decide +kernel
theorem dX9_readsRow_90 : decode cX9_readsRow 90 = .ok (.invokevirtual 127, 3) := by decide +kernel
theorem dX9_readsRow_93 : decode cX9_readsRow 93 = .ok (.bipush 33, 2) := by decide +kernel
theorem dX9_readsRow_95 : decode cX9_readsRow 95 = .ok (.if_icmp .ne 19, 3) := by decide +kernel
theorem dX9_readsRow_98 : decode cX9_readsRow 98 = .ok (.iinc 3 1, 3) := by decide +kernel
theorem dX9_readsRow_101 : decode cX9_readsRow 101 = .ok (.aload_n 0, 1) := by decide +kernel
theorem dX9_readsRow_102 : decode cX9_readsRow 102 = .ok (.dup, 1) := by decide +kernel
theorem dX9_readsRow_103 : decode cX9_readsRow 103 = .ok (.getfield 120, 3) := by decide +kernel
theorem dX9_readsRow_106 : decode cX9_readsRow 106 = .ok (.iconst 1, 1) := by decide +kernel
theorem dX9_readsRow_107 : decode cX9_readsRow 107 = .ok (.iadd, 1) := by decide +kernel
theorem dX9_readsRow_108 : decode cX9_readsRow 108 = .ok (.putfield 120, 3) := by decide +kernel
theorem dX9_readsRow_111 : decode cX9_readsRow 111 = .ok (.goto (-34), 3) := by decide +kernel
theorem dX9_readsRow_114 : decode cX9_readsRow 114 = .ok (.aload_n 0, 1) := by decide +kernel
theorem dX9_readsRow_115 : decode cX9_readsRow 115 = .ok (.getfield 19, 3) := by decide +kernel
theorem dX9_readsRow_118 : decode cX9_readsRow 118 = .ok (.iload_n 1, 1) := by decide +kernel
theorem dX9_readsRow_119 : decode cX9_readsRow 119 = .ok (.iconst 2, 1) := by decide +kernel
theorem dX9_readsRow_120 : decode cX9_readsRow 120 = .ok (.iadd, 1) := by decide +kernel
theorem dX9_readsRow_121 : decode cX9_readsRow 121 = .ok (.iload_n 2, 1) := by decide +kernel
theorem dX9_readsRow_122 : decode cX9_readsRow 122 = .ok (.iastore, 1) := by decide +kernel
theorem dX9_readsRow_123 : decode cX9_readsRow 123 = .ok (.aload_n 0, 1) := by decide +kernel
theorem dX9_readsRow_124 : decode cX9_readsRow 124 = .ok (.getfield 19, 3) := by decide +kernel
theorem dX9_readsRow_127 : decode cX9_readsRow 127 = .ok (.iload_n 1, 1) := by decide +kernel
theorem dX9_readsRow_128 : decode cX9_readsRow 128 = .ok (.iconst 3, 1) := by decide +kernel
theorem dX9_readsRow_129 : decode cX9_readsRow 129 = .ok (.iadd, 1) := by decide +kernel
theorem dX9_readsRow_130 : decode cX9_readsRow 130 = .ok (.iload_n 3, 1) := by decide +kernel
theorem dX9_readsRow_131 : decode cX9_readsRow 131 = .ok (.iastore, 1) := by decide +kernel
theorem dX9_readsRow_132 : decode cX9_readsRow 132 = .ok (.aload_n 0, 1) := by decide +kernel
theorem dX9_readsRow_133 : decode cX9_readsRow 133 = .ok (.dup, 1) := by decide +kernel
theorem dX9_readsRow_134 : decode cX9_readsRow 134 = .ok (.getfield 131, 3) := by decide +kernel
theorem dX9_readsRow_137 : decode cX9_readsRow 137 = .ok (.aload_n 0, 1) := by decide +kernel
theorem dX9_readsRow_138 : decode cX9_readsRow 138 = .ok (.getfield 123, 3) := by decide +kernel
theorem dX9_readsRow_141 : decode cX9_readsRow 141 = .ok (.ifCond .eq 7, 3) := by decide +kernel
theorem dX9_readsRow_144 : decode cX9_readsRow 144 = .ok (.iconst 1, 1) := by decide +kernel
theorem dX9_readsRow_145 : decode cX9_readsRow 145 = .ok (.goto 4, 3) := by decide +kernel
theorem dX9_readsRow_148 : decode cX9_readsRow 148 = .ok (.iconst 0, 1) := by decide +kernel
theorem dX9_readsRow_149 : decode cX9_readsRow 149 = .ok (.iadd, 1) := by decide +kernel
theorem dX9_readsRow_150 : decode cX9_readsRow 150 = .ok (.putfield 131, 3) := by decide +kernel
theorem dX9_readsRow_153 : decode cX9_readsRow 153 = .ok (.return_, 1) := by decide +kernel
set_option maxRecDepth 20000 in
theorem ggX9_readsAll_X9_readsRow : GoodIn wsX9_readsAll wsX9_readsRow := goodIn_r _ [9, 3, 10, 2, 1, 11, 12, 13, 8, 14, 15, 16, 17, 18, 4, 19, 20, 21, 22, 23, 24, 25, 26, 27, 28, 29, 30, 31, 32, 33, 34, 35, 36, 37] (by decide +kernel) (by decide +kernel)
set_option maxRecDepth 20000 in
theorem gX9_readsAll_X9_readsRow : GoodIn wsX9_readsAll (wsV RX9 140 RX9 yX9_readsRow wsX9_readsRow) := goodIn_app (goodIn_of _ (by decide +kernel)) ggX9_readsAll_X9_readsRow
set_option maxRecDepth 20000 in
theorem ggX9_readsAll_X9_sign : GoodIn wsX9_readsAll wsX9_sign := goodIn_r _ [18, 1, 4, 19, 27, 28, 29, 30, 31, 32, 33, 34, 35, 36, 37] (by decide +kernel) (by decide +kernel)
set_option maxRecDepth 20000 in
theorem gX9_readsAll_X9_sign : GoodIn wsX9_readsAll (wsV RX9 127 RX9 yX9_sign wsX9_sign) := goodIn_app (goodIn_of _ (by decide +kernel)) ggX9_readsAll_X9_sign
theorem dX9_readsAll_0 : decode cX9_readsAll 0 = .ok (.aload_n 0, 1) := by decide +kernel
theorem dX9_readsAll_1 : decode cX9_readsAll 1 = .ok (.iconst 0, 1) := by decide +kernel
theorem dX9_readsAll_2 : decode cX9_readsAll 2 = .ok (.putfield 120, 3) := by decide +kernel
theorem dX9_readsAll_5 : decode cX9_readsAll 5 = .ok (.aload_n 0, 1) := by decide +kernel
theorem dX9_readsAll_6 : decode cX9_readsAll 6 = .ok (.iconst 1, 1) := by decide +kernel
theorem dX9_readsAll_7 : decode cX9_readsAll 7 = .ok (.putfield 123, 3) := by decide +kernel
theorem dX9_readsAll_10 : decode cX9_readsAll 10 = .ok (.aload_n 0, 1) := by decide +kernel
theorem dX9_readsAll_11 : decode cX9_readsAll 11 = .ok (.iconst 0, 1) := by decide +kernel
theorem dX9_readsAll_12 : decode cX9_readsAll 12 = .ok (.putfield 131, 3) := by decide +kernel
theorem dX9_readsAll_15 : decode cX9_readsAll 15 = .ok (.aload_n 0, 1) := by decide +kernel
theorem dX9_readsAll_16 : decode cX9_readsAll 16 = .ok (.invokevirtual 140, 3) := by decide +kernel
theorem dX9_readsAll_19 : decode cX9_readsAll 19 = .ok (.aload_n 0, 1) := by decide +kernel
theorem dX9_readsAll_20 : decode cX9_readsAll 20 = .ok (.getfield 123, 3) := by decide +kernel
theorem dX9_readsAll_23 : decode cX9_readsAll 23 = .ok (.ifCond .eq 67, 3) := by decide +kernel
theorem dX9_readsAll_26 : decode cX9_readsAll 26 = .ok (.aload_n 0, 1) := by decide +kernel
theorem dX9_readsAll_27 : decode cX9_readsAll 27 = .ok (.getfield 120, 3) := by decide +kernel
theorem dX9_readsAll_30 : decode cX9_readsAll 30 = .ok (.aload_n 0, 1) := by decide +kernel
theorem dX9_readsAll_31 : decode cX9_readsAll 31 = .ok (.getfield 117, 3) := by decide +kernel
theorem dX9_readsAll_34 : decode cX9_readsAll 34 = .ok (.if_icmp .ge 56, 3) := by decide +kernel
theorem dX9_readsAll_37 : decode cX9_readsAll 37 = .ok (.aload_n 0, 1) := by decide +kernel
theorem dX9_readsAll_38 : decode cX9_readsAll 38 = .ok (.aload_n 0, 1) := by decide +kernel
theorem dX9_readsAll_39 : decode cX9_readsAll 39 = .ok (.invokevirtual 127, 3) := by decide +kernel
theorem dX9_readsAll_42 : decode cX9_readsAll 42 = .ok (.bipush 44, 2) := by decide +kernel
theorem dX9_readsAll_44 : decode cX9_readsAll 44 = .ok (.if_icmp .ne 7, 3) := by decide +kernel
theorem dX9_readsAll_47 : decode cX9_readsAll 47 = .ok (.iconst 1, 1) := by decide +kernel
theorem dX9_readsAll_48 : decode cX9_readsAll 48 = .ok (.goto 4, 3) := by decide +kernel
theorem dX9_readsAll_51 : decode cX9_readsAll 51 = .ok (.iconst 0, 1) := by decide +kernel
theorem dX9_readsAll_52 : decode cX9_readsAll 52 = .ok (.putfield 123, 3) := by decide +kernel
theorem dX9_readsAll_55 : decode cX9_readsAll 55 = .ok (.aload_n 0, 1) := by decide +kernel
theorem dX9_readsAll_56 : decode cX9_readsAll 56 = .ok (.dup, 1) := by decide +kernel
theorem dX9_readsAll_57 : decode cX9_readsAll 57 = .ok (.getfield 120, 3) := by decide +kernel
theorem dX9_readsAll_60 : decode cX9_readsAll 60 = .ok (.aload_n 0, 1) := by decide +kernel
theorem dX9_readsAll_61 : decode cX9_readsAll 61 = .ok (.getfield 123, 3) := by decide +kernel
theorem dX9_readsAll_64 : decode cX9_readsAll 64 = .ok (.ifCond .eq 7, 3) := by decide +kernel
theorem dX9_readsAll_67 : decode cX9_readsAll 67 = .ok (.iconst 1, 1) := by decide +kernel
theorem dX9_readsAll_68 : decode cX9_readsAll 68 = .ok (.goto 4, 3) := by decide +kernel
theorem dX9_readsAll_71 : decode cX9_readsAll 71 = .ok (.iconst 0, 1) := by decide +kernel
theorem dX9_readsAll_72 : decode cX9_readsAll 72 = .ok (.iadd, 1) := by decide +kernel
theorem dX9_readsAll_73 : decode cX9_readsAll 73 = .ok (.putfield 120, 3) := by decide +kernel
theorem dX9_readsAll_76 : decode cX9_readsAll 76 = .ok (.aload_n 0, 1) := by decide +kernel
theorem dX9_readsAll_77 : decode cX9_readsAll 77 = .ok (.getfield 123, 3) := by decide +kernel
theorem dX9_readsAll_80 : decode cX9_readsAll 80 = .ok (.ifCond .eq (-61), 3) := by decide +kernel
theorem dX9_readsAll_83 : decode cX9_readsAll 83 = .ok (.aload_n 0, 1) := by decide +kernel
theorem dX9_readsAll_84 : decode cX9_readsAll 84 = .ok (.invokevirtual 140, 3) := by decide +kernel
theorem dX9_readsAll_87 : decode cX9_readsAll 87 = .ok (.goto (-68), 3) := by decide +kernel
theorem dX9_readsAll_90 : decode cX9_readsAll 90 = .ok (.return_, 1) := by decide +kernel
set_option maxRecDepth 20000 in
theorem ggX9_firstError_X9_readsAll : GoodIn wsX9_firstError wsX9_readsAll := goodIn_r _ [7, 2, 8, 9, 10, 11, 12, 13, 6, 14, 15, 16, 17, 18, 19, 20, 21, 22, 23, 24, 25, 26, 27, 28, 29, 30, 31, 32, 33, 34, 35, 36, 37, 38, 39, 40, 41, 42] (by decide +kernel) (by decide +kernel)
set_option maxRecDepth 20000 in
theorem gX9_firstError_X9_readsAll : GoodIn wsX9_firstError (wsV RX9 143 RX9 yX9_readsAll wsX9_readsAll) := goodIn_app (goodIn_of _ (by decide +kernel)) ggX9_firstError_X9_readsAll
theorem dX9_firstError_0 : decode cX9_firstError 0 = .ok (.aload_n 0, 1) := by decide +kernel
theorem dX9_firstError_1 : decode cX9_firstError 1 = .ok (.iconst 0, 1) := by decide +kernel
theorem dX9_firstError_2 : decode cX9_firstError 2 = .ok (.putfield 22, 3) := by decide +kernel
theorem dX9_firstError_5 : decode cX9_firstError 5 = .ok (.aload_n 0, 1) := by decide +kernel
theorem dX9_firstError_6 : decode cX9_firstError 6 = .ok (.invokevirtual 143, 3) := by decide +kernel
theorem dX9_firstError_9 : decode cX9_firstError 9 = .ok (.aload_n 0, 1) := by decide +kernel
theorem dX9_firstError_10 : decode cX9_firstError 10 = .ok (.getfield 120, 3) := by decide +kernel
theorem dX9_firstError_13 : decode cX9_firstError 13 = .ok (.ireturn, 1) := by decide +kernel
set_option maxRecDepth 20000 in
theorem ggX9_rows_X9_readsAll : GoodIn wsX9_rows wsX9_readsAll := goodIn_r _ [11, 12, 2, 4, 3, 13, 14, 15, 10, 16, 6, 17, 18, 19, 20, 21, 22, 23, 24, 25, 26, 27, 28, 29, 30, 31, 32, 47, 48, 49, 50, 51, 52, 53, 54, 55, 56, 57] (by decide +kernel) (by decide +kernel)
set_option maxRecDepth 20000 in
theorem gX9_rows_X9_readsAll : GoodIn wsX9_rows (wsV RX9 143 RX9 yX9_readsAll wsX9_readsAll) := goodIn_app (goodIn_of _ (by decide +kernel)) ggX9_rows_X9_readsAll
set_option maxRecDepth 20000 in
theorem ggX9_rows_X9_fails : GoodIn wsX9_rows wsX9_fails := goodIn_r _ [36, 1, 47, 48, 49, 50, 51, 52, 53, 54, 55, 56, 57] (by decide +kernel) (by decide +kernel)
set_option maxRecDepth 20000 in
theorem gX9_rows_X9_fails : GoodIn wsX9_rows (wsV RX9 80 RX9 yX9_fails wsX9_fails) := goodIn_app (goodIn_of _ (by decide +kernel)) ggX9_rows_X9_fails
set_option maxRecDepth 20000 in
theorem ggX9_rows_X9_saves : GoodIn wsX9_rows wsX9_saves := goodIn_r _ [40, 41, 42, 5, 47, 48, 49, 50, 51, 52, 53, 54, 55, 56, 57] (by decide +kernel) (by decide +kernel)
set_option maxRecDepth 20000 in
theorem gX9_rows_X9_saves : GoodIn wsX9_rows (wsV RX9 83 RX9 yX9_saves wsX9_saves) := goodIn_app (goodIn_of _ (by decide +kernel)) ggX9_rows_X9_saves
set_option maxRecDepth 20000 in
theorem ggX9_rows_X9_adds : GoodIn wsX9_rows wsX9_adds := goodIn_r _ [46, 5, 47, 48, 49, 50, 51, 52, 53, 54, 55, 56, 57] (by decide +kernel) (by decide +kernel)
set_option maxRecDepth 20000 in
theorem gX9_rows_X9_adds : GoodIn wsX9_rows (wsV RX9 86 RX9 yX9_adds wsX9_adds) := goodIn_app (goodIn_of _ (by decide +kernel)) ggX9_rows_X9_adds
theorem dX9_rows_0 : decode cX9_rows 0 = .ok (.aload_n 0, 1) := by decide +kernel
theorem dX9_rows_1 : decode cX9_rows 1 = .ok (.iconst 0, 1) := by decide +kernel
theorem dX9_rows_2 : decode cX9_rows 2 = .ok (.putfield 22, 3) := by decide +kernel
theorem dX9_rows_5 : decode cX9_rows 5 = .ok (.aload_n 0, 1) := by decide +kernel
theorem dX9_rows_6 : decode cX9_rows 6 = .ok (.invokevirtual 143, 3) := by decide +kernel
theorem dX9_rows_9 : decode cX9_rows 9 = .ok (.aload_n 0, 1) := by decide +kernel
theorem dX9_rows_10 : decode cX9_rows 10 = .ok (.getfield 123, 3) := by decide +kernel
theorem dX9_rows_13 : decode cX9_rows 13 = .ok (.ifCond .ne 9, 3) := by decide +kernel
theorem dX9_rows_16 : decode cX9_rows 16 = .ok (.aload_n 0, 1) := by decide +kernel
theorem dX9_rows_17 : decode cX9_rows 17 = .ok (.iconst 1, 1) := by decide +kernel
theorem dX9_rows_18 : decode cX9_rows 18 = .ok (.invokevirtual 80, 3) := by decide +kernel
theorem dX9_rows_21 : decode cX9_rows 21 = .ok (.ireturn, 1) := by decide +kernel
theorem dX9_rows_22 : decode cX9_rows 22 = .ok (.aload_n 0, 1) := by decide +kernel
theorem dX9_rows_23 : decode cX9_rows 23 = .ok (.invokevirtual 83, 3) := by decide +kernel
theorem dX9_rows_26 : decode cX9_rows 26 = .ok (.aload_n 0, 1) := by decide +kernel
theorem dX9_rows_27 : decode cX9_rows 27 = .ok (.iconst 0, 1) := by decide +kernel
theorem dX9_rows_28 : decode cX9_rows 28 = .ok (.putfield 117, 3) := by decide +kernel
theorem dX9_rows_31 : decode cX9_rows 31 = .ok (.iconst 0, 1) := by decide +kernel
theorem dX9_rows_32 : decode cX9_rows 32 = .ok (.istore_n 1, 1) := by decide +kernel
theorem dX9_rows_33 : decode cX9_rows 33 = .ok (.iload_n 1, 1) := by decide +kernel
theorem dX9_rows_34 : decode cX9_rows 34 = .ok (.aload_n 0, 1) := by decide +kernel
theorem dX9_rows_35 : decode cX9_rows 35 = .ok (.getfield 131, 3) := by decide +kernel
theorem dX9_rows_38 : decode cX9_rows 38 = .ok (.if_icmp .ge 62, 3) := by decide +kernel
theorem dX9_rows_41 : decode cX9_rows 41 = .ok (.aload_n 0, 1) := by decide +kernel
theorem dX9_rows_42 : decode cX9_rows 42 = .ok (.getfield 7, 3) := by decide +kernel
theorem dX9_rows_45 : decode cX9_rows 45 = .ok (.iconst 0, 1) := by decide +kernel
theorem dX9_rows_46 : decode cX9_rows 46 = .ok (.iaload, 1) := by decide +kernel
theorem dX9_rows_47 : decode cX9_rows 47 = .ok (.bipush 16, 2) := by decide +kernel
theorem dX9_rows_49 : decode cX9_rows 49 = .ok (.if_icmp .ge 51, 3) := by decide +kernel
theorem dX9_rows_52 : decode cX9_rows 52 = .ok (.aload_n 0, 1) := by decide +kernel
theorem dX9_rows_53 : decode cX9_rows 53 = .ok (.aload_n 0, 1) := by decide +kernel
theorem dX9_rows_54 : decode cX9_rows 54 = .ok (.getfield 19, 3) := by decide +kernel
theorem dX9_rows_57 : decode cX9_rows 57 = .ok (.iconst 4, 1) := by decide +kernel
theorem dX9_rows_58 : decode cX9_rows 58 = .ok (.iload_n 1, 1) := by decide +kernel
theorem dX9_rows_59 : decode cX9_rows 59 = .ok (.imul, 1) := by decide +kernel
theorem dX9_rows_60 : decode cX9_rows 60 = .ok (.iaload, 1) := by decide +kernel
theorem dX9_rows_61 : decode cX9_rows 61 = .ok (.aload_n 0, 1) := by decide +kernel
theorem dX9_rows_62 : decode cX9_rows 62 = .ok (.getfield 19, 3) := by decide +kernel
theorem dX9_rows_65 : decode cX9_rows 65 = .ok (.iconst 4, 1) := by decide +kernel
theorem dX9_rows_66 : decode cX9_rows 66 = .ok (.iload_n 1, 1) := by decide +kernel
theorem dX9_rows_67 : decode cX9_rows 67 = .ok (.imul, 1) := by decide +kernel
theorem dX9_rows_68 : decode cX9_rows 68 = .ok (.iconst 1, 1) := by decide +kernel
theorem dX9_rows_69 : decode cX9_rows 69 = .ok (.iadd, 1) := by decide +kernel
theorem dX9_rows_70 : decode cX9_rows 70 = .ok (.iaload, 1) := by decide +kernel
theorem dX9_rows_71 : decode cX9_rows 71 = .ok (.aload_n 0, 1) := by decide +kernel
theorem dX9_rows_72 : decode cX9_rows 72 = .ok (.getfield 19, 3) := by decide +kernel
theorem dX9_rows_75 : decode cX9_rows 75 = .ok (.iconst 4, 1) := by decide +kernel
theorem dX9_rows_76 : decode cX9_rows 76 = .ok (.iload_n 1, 1) := by decide +kernel
theorem dX9_rows_77 : decode cX9_rows 77 = .ok (.imul, 1) := by decide +kernel
theorem dX9_rows_78 : decode cX9_rows 78 = .ok (.iconst 2, 1) := by decide +kernel
theorem dX9_rows_79 : decode cX9_rows 79 = .ok (.iadd, 1) := by decide +kernel
theorem dX9_rows_80 : decode cX9_rows 80 = .ok (.iaload, 1) := by decide +kernel
theorem dX9_rows_81 : decode cX9_rows 81 = .ok (.aload_n 0, 1) := by decide +kernel
theorem dX9_rows_82 : decode cX9_rows 82 = .ok (.getfield 19, 3) := by decide +kernel
theorem dX9_rows_85 : decode cX9_rows 85 = .ok (.iconst 4, 1) := by decide +kernel
theorem dX9_rows_86 : decode cX9_rows 86 = .ok (.iload_n 1, 1) := by decide +kernel
theorem dX9_rows_87 : decode cX9_rows 87 = .ok (.imul, 1) := by decide +kernel
theorem dX9_rows_88 : decode cX9_rows 88 = .ok (.iconst 3, 1) := by decide +kernel
theorem dX9_rows_89 : decode cX9_rows 89 = .ok (.iadd, 1) := by decide +kernel
theorem dX9_rows_90 : decode cX9_rows 90 = .ok (.iaload, 1) := by decide +kernel
theorem dX9_rows_91 : decode cX9_rows 91 = .ok (.invokevirtual 86, 3) := by decide +kernel
theorem dX9_rows_94 : decode cX9_rows 94 = .ok (.iinc 1 1, 3) := by decide +kernel
theorem dX9_rows_97 : decode cX9_rows 97 = .ok (.goto (-64), 3) := by decide +kernel
theorem dX9_rows_100 : decode cX9_rows 100 = .ok (.iload_n 1, 1) := by decide +kernel
theorem dX9_rows_101 : decode cX9_rows 101 = .ok (.ireturn, 1) := by decide +kernel
set_option maxRecDepth 20000 in
theorem ggX9_undo_X9_fails : GoodIn wsX9_undo wsX9_fails := goodIn_r _ [9, 1, 10, 11, 12, 13, 14, 15, 16, 17, 18, 19, 20] (by decide +kernel) (by decide +kernel)
set_option maxRecDepth 20000 in
theorem gX9_undo_X9_fails : GoodIn wsX9_undo (wsV RX9 80 RX9 yX9_fails wsX9_fails) := goodIn_app (goodIn_of _ (by decide +kernel)) ggX9_undo_X9_fails
theorem dX9_undo_0 : decode cX9_undo 0 = .ok (.aload_n 0, 1) := by decide +kernel
theorem dX9_undo_1 : decode cX9_undo 1 = .ok (.iconst 0, 1) := by decide +kernel
theorem dX9_undo_2 : decode cX9_undo 2 = .ok (.putfield 22, 3) := by decide +kernel
theorem dX9_undo_5 : decode cX9_undo 5 = .ok (.aload_n 0, 1) := by decide +kernel
theorem dX9_undo_6 : decode cX9_undo 6 = .ok (.getfield 34, 3) := by decide +kernel
theorem dX9_undo_9 : decode cX9_undo 9 = .ok (.ifCond .ne 9, 3) := by decide +kernel
theorem dX9_undo_12 : decode cX9_undo 12 = .ok (.aload_n 0, 1) := by decide +kernel
theorem dX9_undo_13 : decode cX9_undo 13 = .ok (.iconst 1, 1) := by decide +kernel
theorem dX9_undo_14 : decode cX9_undo 14 = .ok (.invokevirtual 80, 3) := by decide +kernel
theorem dX9_undo_17 : decode cX9_undo 17 = .ok (.ireturn, 1) := by decide +kernel
theorem dX9_undo_18 : decode cX9_undo 18 = .ok (.aload_n 0, 1) := by decide +kernel
theorem dX9_undo_19 : decode cX9_undo 19 = .ok (.dup, 1) := by decide +kernel
theorem dX9_undo_20 : decode cX9_undo 20 = .ok (.getfield 34, 3) := by decide +kernel
theorem dX9_undo_23 : decode cX9_undo 23 = .ok (.iconst 1, 1) := by decide +kernel
theorem dX9_undo_24 : decode cX9_undo 24 = .ok (.isub, 1) := by decide +kernel
theorem dX9_undo_25 : decode cX9_undo 25 = .ok (.putfield 34, 3) := by decide +kernel
theorem dX9_undo_28 : decode cX9_undo 28 = .ok (.iconst 0, 1) := by decide +kernel
theorem dX9_undo_29 : decode cX9_undo 29 = .ok (.istore_n 1, 1) := by decide +kernel
theorem dX9_undo_30 : decode cX9_undo 30 = .ok (.iload_n 1, 1) := by decide +kernel
theorem dX9_undo_31 : decode cX9_undo 31 = .ok (.sipush 130, 3) := by decide +kernel
theorem dX9_undo_34 : decode cX9_undo 34 = .ok (.if_icmp .ge 30, 3) := by decide +kernel
theorem dX9_undo_37 : decode cX9_undo 37 = .ok (.aload_n 0, 1) := by decide +kernel
theorem dX9_undo_38 : decode cX9_undo 38 = .ok (.getfield 7, 3) := by decide +kernel
theorem dX9_undo_41 : decode cX9_undo 41 = .ok (.iload_n 1, 1) := by decide +kernel
theorem dX9_undo_42 : decode cX9_undo 42 = .ok (.aload_n 0, 1) := by decide +kernel
theorem dX9_undo_43 : decode cX9_undo 43 = .ok (.getfield 13, 3) := by decide +kernel
theorem dX9_undo_46 : decode cX9_undo 46 = .ok (.sipush 130, 3) := by decide +kernel
theorem dX9_undo_49 : decode cX9_undo 49 = .ok (.aload_n 0, 1) := by decide +kernel
theorem dX9_undo_50 : decode cX9_undo 50 = .ok (.getfield 34, 3) := by decide +kernel
theorem dX9_undo_53 : decode cX9_undo 53 = .ok (.imul, 1) := by decide +kernel
theorem dX9_undo_54 : decode cX9_undo 54 = .ok (.iload_n 1, 1) := by decide +kernel
theorem dX9_undo_55 : decode cX9_undo 55 = .ok (.iadd, 1) := by decide +kernel
theorem dX9_undo_56 : decode cX9_undo 56 = .ok (.iaload, 1) := by decide +kernel
theorem dX9_undo_57 : decode cX9_undo 57 = .ok (.iastore, 1) := by decide +kernel
theorem dX9_undo_58 : decode cX9_undo 58 = .ok (.iinc 1 1, 3) := by decide +kernel
theorem dX9_undo_61 : decode cX9_undo 61 = .ok (.goto (-31), 3) := by decide +kernel
theorem dX9_undo_64 : decode cX9_undo 64 = .ok (.aload_n 0, 1) := by decide +kernel
theorem dX9_undo_65 : decode cX9_undo 65 = .ok (.getfield 34, 3) := by decide +kernel
theorem dX9_undo_68 : decode cX9_undo 68 = .ok (.ireturn, 1) := by decide +kernel
set_option maxRecDepth 20000 in
theorem ggX9_seers_X9_veilsOf : GoodIn wsX9_seers wsX9_veilsOf := goodIn_r _ [5, 6, 7, 8, 9, 4, 10, 11, 12, 13, 14, 15, 16, 17, 18, 19, 20, 21, 22, 23, 24, 25, 26, 27, 28, 29, 30, 31, 32, 33, 34, 35, 36, 37] (by decide +kernel) (by decide +kernel)
set_option maxRecDepth 20000 in
theorem gX9_seers_X9_veilsOf : GoodIn wsX9_seers (wsV RX9 51 RX9 yX9_veilsOf wsX9_veilsOf) := goodIn_app (goodIn_of _ (by decide +kernel)) ggX9_seers_X9_veilsOf
theorem dX9_seers_0 : decode cX9_seers 0 = .ok (.iconst 0, 1) := by decide +kernel
theorem dX9_seers_1 : decode cX9_seers 1 = .ok (.istore_n 2, 1) := by decide +kernel
theorem dX9_seers_2 : decode cX9_seers 2 = .ok (.iconst 0, 1) := by decide +kernel
theorem dX9_seers_3 : decode cX9_seers 3 = .ok (.istore_n 3, 1) := by decide +kernel
theorem dX9_seers_4 : decode cX9_seers 4 = .ok (.iload_n 3, 1) := by decide +kernel
theorem dX9_seers_5 : decode cX9_seers 5 = .ok (.iconst 5, 1) := by decide +kernel
theorem dX9_seers_6 : decode cX9_seers 6 = .ok (.if_icmp .ge 28, 3) := by decide +kernel
theorem dX9_seers_9 : decode cX9_seers 9 = .ok (.iload_n 2, 1) := by decide +kernel
theorem dX9_seers_10 : decode cX9_seers 10 = .ok (.aload_n 0, 1) := by decide +kernel
theorem dX9_seers_11 : decode cX9_seers 11 = .ok (.iload_n 3, 1) := by decide +kernel
theorem dX9_seers_12 : decode cX9_seers 12 = .ok (.iload_n 1, 1) := by decide +kernel
theorem dX9_seers_13 : decode cX9_seers 13 = .ok (.invokevirtual 51, 3) := by decide +kernel
theorem dX9_seers_16 : decode cX9_seers 16 = .ok (.ifCond .ne 9, 3) := by decide +kernel
theorem dX9_seers_19 : decode cX9_seers 19 = .ok (.iconst 1, 1) := by decide +kernel
theorem dX9_seers_20 : decode cX9_seers 20 = .ok (.iload_n 3, 1) := by decide +kernel
theorem dX9_seers_21 : decode cX9_seers 21 = .ok (.ishl, 1) := by decide +kernel
theorem dX9_seers_22 : decode cX9_seers 22 = .ok (.goto 4, 3) := by decide +kernel
theorem dX9_seers_25 : decode cX9_seers 25 = .ok (.iconst 0, 1) := by decide +kernel
theorem dX9_seers_26 : decode cX9_seers 26 = .ok (.ior, 1) := by decide +kernel
theorem dX9_seers_27 : decode cX9_seers 27 = .ok (.istore_n 2, 1) := by decide +kernel
theorem dX9_seers_28 : decode cX9_seers 28 = .ok (.iinc 3 1, 3) := by decide +kernel
theorem dX9_seers_31 : decode cX9_seers 31 = .ok (.goto (-27), 3) := by decide +kernel
theorem dX9_seers_34 : decode cX9_seers 34 = .ok (.iload_n 2, 1) := by decide +kernel
theorem dX9_seers_35 : decode cX9_seers 35 = .ok (.ireturn, 1) := by decide +kernel
set_option maxRecDepth 20000 in
theorem ggX9_tellsRow_X9_seers : GoodIn wsX9_tellsRow wsX9_seers := goodIn_r _ [5, 6, 7, 8, 4, 9, 10, 11, 12, 13, 14, 15, 16, 17, 18, 19, 20, 21, 22, 23, 24, 25, 26, 27, 28, 29, 30, 31, 32, 33, 34, 35, 36, 37, 38, 39, 40, 41] (by decide +kernel) (by decide +kernel)
set_option maxRecDepth 20000 in
theorem gX9_tellsRow_X9_seers : GoodIn wsX9_tellsRow (wsV RX9 146 RX9 yX9_seers wsX9_seers) := goodIn_app (goodIn_of _ (by decide +kernel)) ggX9_tellsRow_X9_seers
set_option maxRecDepth 20000 in
theorem ggX9_tellsRow_X9_of : GoodIn wsX9_tellsRow wsX9_of := goodIn_r _ [14, 10, 31, 32, 33, 34, 35, 36, 37, 38, 39, 40, 41] (by decide +kernel) (by decide +kernel)
set_option maxRecDepth 20000 in
theorem gX9_tellsRow_X9_of : GoodIn wsX9_tellsRow (wsV RX9 41 RX9 yX9_of wsX9_of) := goodIn_app (goodIn_of _ (by decide +kernel)) ggX9_tellsRow_X9_of
theorem dX9_tellsRow_0 : decode cX9_tellsRow 0 = .ok (.iload_n 2, 1) := by decide +kernel
theorem dX9_tellsRow_1 : decode cX9_tellsRow 1 = .ok (.iconst 4, 1) := by decide +kernel
theorem dX9_tellsRow_2 : decode cX9_tellsRow 2 = .ok (.if_icmp .ne 11, 3) := by decide +kernel
theorem dX9_tellsRow_5 : decode cX9_tellsRow 5 = .ok (.aload_n 0, 1) := by decide +kernel
theorem dX9_tellsRow_6 : decode cX9_tellsRow 6 = .ok (.iload_n 1, 1) := by decide +kernel
theorem dX9_tellsRow_7 : decode cX9_tellsRow 7 = .ok (.invokevirtual 146, 3) := by decide +kernel
theorem dX9_tellsRow_10 : decode cX9_tellsRow 10 = .ok (.goto 9, 3) := by decide +kernel
theorem dX9_tellsRow_13 : decode cX9_tellsRow 13 = .ok (.aload_n 0, 1) := by decide +kernel
theorem dX9_tellsRow_14 : decode cX9_tellsRow 14 = .ok (.iload_n 1, 1) := by decide +kernel
theorem dX9_tellsRow_15 : decode cX9_tellsRow 15 = .ok (.iload_n 2, 1) := by decide +kernel
theorem dX9_tellsRow_16 : decode cX9_tellsRow 16 = .ok (.invokevirtual 41, 3) := by decide +kernel
theorem dX9_tellsRow_19 : decode cX9_tellsRow 19 = .ok (.ireturn, 1) := by decide +kernel
set_option maxRecDepth 20000 in
theorem ggX9_rowOf_X9_isRow : GoodIn wsX9_rowOf wsX9_isRow := goodIn_r _ [6, 7, 8, 9, 5, 10, 47, 48, 49, 50, 51, 52, 53, 54, 55, 56, 57] (by decide +kernel) (by decide +kernel)
set_option maxRecDepth 20000 in
theorem gX9_rowOf_X9_isRow : GoodIn wsX9_rowOf (wsV RX9 90 RX9 yX9_isRow wsX9_isRow) := goodIn_app (goodIn_of _ (by decide +kernel)) ggX9_rowOf_X9_isRow
set_option maxRecDepth 20000 in
theorem ggX9_rowOf_X9_fails : GoodIn wsX9_rowOf wsX9_fails := goodIn_r _ [14, 1, 47, 48, 49, 50, 51, 52, 53, 54, 55, 56, 57] (by decide +kernel) (by decide +kernel)
set_option maxRecDepth 20000 in
theorem gX9_rowOf_X9_fails : GoodIn wsX9_rowOf (wsV RX9 80 RX9 yX9_fails wsX9_fails) := goodIn_app (goodIn_of _ (by decide +kernel)) ggX9_rowOf_X9_fails
set_option maxRecDepth 20000 in
theorem ggX9_rowOf_X9_in : GoodIn wsX9_rowOf wsX9_in := goodIn_r _ [10] (by decide +kernel) (by decide +kernel)
set_option maxRecDepth 20000 in
theorem gX9_rowOf_X9_in : GoodIn wsX9_rowOf (va_wsS RX9 30 yX9_in wsX9_in) := goodIn_app (goodIn_of _ (by decide +kernel)) ggX9_rowOf_X9_in
set_option maxRecDepth 20000 in
theorem ggX9_rowOf_X9_tellsRow : GoodIn wsX9_rowOf wsX9_tellsRow := goodIn_r _ [18, 19, 20, 21, 5, 22, 23, 24, 25, 26, 7, 27, 28, 29, 30, 31, 32, 33, 34, 35, 36, 37, 38, 39, 40, 41, 42, 43, 44, 45, 46, 47, 48, 49, 50, 51, 52, 53, 54, 55, 56, 57] (by decide +kernel) (by decide +kernel)
set_option maxRecDepth 20000 in
theorem gX9_rowOf_X9_tellsRow : GoodIn wsX9_rowOf (wsV RX9 149 RX9 yX9_tellsRow wsX9_tellsRow) := goodIn_app (goodIn_of _ (by decide +kernel)) ggX9_rowOf_X9_tellsRow
theorem dX9_rowOf_0 : decode cX9_rowOf 0 = .ok (.aload_n 0, 1) := by decide +kernel
theorem dX9_rowOf_1 : decode cX9_rowOf 1 = .ok (.iconst 0, 1) := by decide +kernel
theorem dX9_rowOf_2 : decode cX9_rowOf 2 = .ok (.putfield 22, 3) := by decide +kernel
theorem dX9_rowOf_5 : decode cX9_rowOf 5 = .ok (.aload_n 0, 1) := by decide +kernel
theorem dX9_rowOf_6 : decode cX9_rowOf 6 = .ok (.iload_n 1, 1) := by decide +kernel
theorem dX9_rowOf_7 : decode cX9_rowOf 7 = .ok (.invokevirtual 90, 3) := by decide +kernel
theorem dX9_rowOf_10 : decode cX9_rowOf 10 = .ok (.ifCond .ne 9, 3) := by decide +kernel
theorem dX9_rowOf_13 : decode cX9_rowOf 13 = .ok (.aload_n 0, 1) := by decide +kernel
theorem dX9_rowOf_14 : decode cX9_rowOf 14 = .ok (.iconst 1, 1) := by decide +kernel
theorem dX9_rowOf_15 : decode cX9_rowOf 15 = .ok (.invokevirtual 80, 3) := by decide +kernel
theorem dX9_rowOf_18 : decode cX9_rowOf 18 = .ok (.ireturn, 1) := by decide +kernel
theorem dX9_rowOf_19 : decode cX9_rowOf 19 = .ok (.iload_n 2, 1) := by decide +kernel
theorem dX9_rowOf_20 : decode cX9_rowOf 20 = .ok (.iconst 0, 1) := by decide +kernel
theorem dX9_rowOf_21 : decode cX9_rowOf 21 = .ok (.iconst 4, 1) := by decide +kernel
theorem dX9_rowOf_22 : decode cX9_rowOf 22 = .ok (.invokestatic 30, 3) := by decide +kernel
theorem dX9_rowOf_25 : decode cX9_rowOf 25 = .ok (.ifCond .eq 12, 3) := by decide +kernel
theorem dX9_rowOf_28 : decode cX9_rowOf 28 = .ok (.aload_n 0, 1) := by decide +kernel
theorem dX9_rowOf_29 : decode cX9_rowOf 29 = .ok (.iload_n 1, 1) := by decide +kernel
theorem dX9_rowOf_30 : decode cX9_rowOf 30 = .ok (.iload_n 2, 1) := by decide +kernel
theorem dX9_rowOf_31 : decode cX9_rowOf 31 = .ok (.invokevirtual 149, 3) := by decide +kernel
theorem dX9_rowOf_34 : decode cX9_rowOf 34 = .ok (.goto 8, 3) := by decide +kernel
theorem dX9_rowOf_37 : decode cX9_rowOf 37 = .ok (.aload_n 0, 1) := by decide +kernel
theorem dX9_rowOf_38 : decode cX9_rowOf 38 = .ok (.iconst 2, 1) := by decide +kernel
theorem dX9_rowOf_39 : decode cX9_rowOf 39 = .ok (.invokevirtual 80, 3) := by decide +kernel
theorem dX9_rowOf_42 : decode cX9_rowOf 42 = .ok (.ireturn, 1) := by decide +kernel
set_option maxRecDepth 20000 in
theorem ggX9_tellsPerson_X9_ofPerson : GoodIn wsX9_tellsPerson wsX9_ofPerson := goodIn_r _ [5, 6, 38, 39, 40, 41, 42, 43, 44, 45, 46, 47, 48] (by decide +kernel) (by decide +kernel)
set_option maxRecDepth 20000 in
theorem gX9_tellsPerson_X9_ofPerson : GoodIn wsX9_tellsPerson (wsV RX9 26 RX9 yX9_ofPerson wsX9_ofPerson) := goodIn_app (goodIn_of _ (by decide +kernel)) ggX9_tellsPerson_X9_ofPerson
set_option maxRecDepth 20000 in
theorem ggX9_tellsPerson_X9_masterOf : GoodIn wsX9_tellsPerson wsX9_masterOf := goodIn_r _ [10, 1, 2, 3, 4, 5, 6, 38, 39, 40, 41, 42, 43, 44, 45, 46, 47, 48] (by decide +kernel) (by decide +kernel)
set_option maxRecDepth 20000 in
theorem gX9_tellsPerson_X9_masterOf : GoodIn wsX9_tellsPerson (wsV RX9 37 RX9 yX9_masterOf wsX9_masterOf) := goodIn_app (goodIn_of _ (by decide +kernel)) ggX9_tellsPerson_X9_masterOf
set_option maxRecDepth 20000 in
theorem ggX9_tellsPerson_X9_seenBy : GoodIn wsX9_tellsPerson wsX9_seenBy := goodIn_r _ [14, 6, 15, 16, 17, 4, 18, 19, 20, 21, 22, 23, 24, 25, 26, 1, 2, 3, 5, 27, 28, 29, 30, 7, 8, 9, 10, 38, 39, 40, 41, 42, 43, 44, 45, 46, 47, 48] (by decide +kernel) (by decide +kernel)
set_option maxRecDepth 20000 in
theorem gX9_tellsPerson_X9_seenBy : GoodIn wsX9_tellsPerson (wsV RX9 58 RX9 yX9_seenBy wsX9_seenBy) := goodIn_app (goodIn_of _ (by decide +kernel)) ggX9_tellsPerson_X9_seenBy
set_option maxRecDepth 20000 in
theorem ggX9_tellsPerson_X9_ones : GoodIn wsX9_tellsPerson wsX9_ones := goodIn_r _ [33] (by decide +kernel) (by decide +kernel)
set_option maxRecDepth 20000 in
theorem gX9_tellsPerson_X9_ones : GoodIn wsX9_tellsPerson (va_wsS RX9 67 yX9_ones wsX9_ones) := goodIn_app (goodIn_of _ (by decide +kernel)) ggX9_tellsPerson_X9_ones
set_option maxRecDepth 20000 in
theorem ggX9_tellsPerson_X9_kept : GoodIn wsX9_tellsPerson wsX9_kept := goodIn_r _ [37, 6, 38, 39, 40, 41, 42, 43, 44, 45, 46, 47, 48] (by decide +kernel) (by decide +kernel)
set_option maxRecDepth 20000 in
theorem gX9_tellsPerson_X9_kept : GoodIn wsX9_tellsPerson (wsV RX9 61 RX9 yX9_kept wsX9_kept) := goodIn_app (goodIn_of _ (by decide +kernel)) ggX9_tellsPerson_X9_kept
theorem dX9_tellsPerson_0 : decode cX9_tellsPerson 0 = .ok (.iload_n 2, 1) := by decide +kernel
theorem dX9_tellsPerson_1 : decode cX9_tellsPerson 1 = .ok (.tableswitch 73 0 5 #[39, 39, 46, 52, 61, 67], 39) := by decide +kernel
theorem dX9_tellsPerson_40 : decode cX9_tellsPerson 40 = .ok (.aload_n 0, 1) := by decide +kernel
theorem dX9_tellsPerson_41 : decode cX9_tellsPerson 41 = .ok (.iload_n 1, 1) := by decide +kernel
theorem dX9_tellsPerson_42 : decode cX9_tellsPerson 42 = .ok (.iload_n 2, 1) := by decide +kernel
theorem dX9_tellsPerson_43 : decode cX9_tellsPerson 43 = .ok (.invokevirtual 26, 3) := by decide +kernel
theorem dX9_tellsPerson_46 : decode cX9_tellsPerson 46 = .ok (.ireturn, 1) := by decide +kernel
theorem dX9_tellsPerson_47 : decode cX9_tellsPerson 47 = .ok (.aload_n 0, 1) := by decide +kernel
theorem dX9_tellsPerson_48 : decode cX9_tellsPerson 48 = .ok (.iload_n 1, 1) := by decide +kernel
theorem dX9_tellsPerson_49 : decode cX9_tellsPerson 49 = .ok (.invokevirtual 37, 3) := by decide +kernel
theorem dX9_tellsPerson_52 : decode cX9_tellsPerson 52 = .ok (.ireturn, 1) := by decide +kernel
theorem dX9_tellsPerson_53 : decode cX9_tellsPerson 53 = .ok (.aload_n 0, 1) := by decide +kernel
theorem dX9_tellsPerson_54 : decode cX9_tellsPerson 54 = .ok (.iload_n 1, 1) := by decide +kernel
theorem dX9_tellsPerson_55 : decode cX9_tellsPerson 55 = .ok (.invokevirtual 58, 3) := by decide +kernel
theorem dX9_tellsPerson_58 : decode cX9_tellsPerson 58 = .ok (.invokestatic 67, 3) := by decide +kernel
theorem dX9_tellsPerson_61 : decode cX9_tellsPerson 61 = .ok (.ireturn, 1) := by decide +kernel
theorem dX9_tellsPerson_62 : decode cX9_tellsPerson 62 = .ok (.aload_n 0, 1) := by decide +kernel
theorem dX9_tellsPerson_63 : decode cX9_tellsPerson 63 = .ok (.iload_n 1, 1) := by decide +kernel
theorem dX9_tellsPerson_64 : decode cX9_tellsPerson 64 = .ok (.invokevirtual 58, 3) := by decide +kernel
theorem dX9_tellsPerson_67 : decode cX9_tellsPerson 67 = .ok (.ireturn, 1) := by decide +kernel
theorem dX9_tellsPerson_68 : decode cX9_tellsPerson 68 = .ok (.aload_n 0, 1) := by decide +kernel
theorem dX9_tellsPerson_69 : decode cX9_tellsPerson 69 = .ok (.iload_n 1, 1) := by decide +kernel
theorem dX9_tellsPerson_70 : decode cX9_tellsPerson 70 = .ok (.invokevirtual 61, 3) := by decide +kernel
theorem dX9_tellsPerson_73 : decode cX9_tellsPerson 73 = .ok (.ireturn, 1) := by decide +kernel
theorem dX9_tellsPerson_74 : decode cX9_tellsPerson 74 = .ok (.aload_n 0, 1) := by decide +kernel
theorem dX9_tellsPerson_75 : decode cX9_tellsPerson 75 = .ok (.iload_n 1, 1) := by decide +kernel
theorem dX9_tellsPerson_76 : decode cX9_tellsPerson 76 = .ok (.iconst 3, 1) := by decide +kernel
theorem dX9_tellsPerson_77 : decode cX9_tellsPerson 77 = .ok (.iload_n 2, 1) := by decide +kernel
theorem dX9_tellsPerson_78 : decode cX9_tellsPerson 78 = .ok (.iadd, 1) := by decide +kernel
theorem dX9_tellsPerson_79 : decode cX9_tellsPerson 79 = .ok (.bipush 6, 2) := by decide +kernel
theorem dX9_tellsPerson_81 : decode cX9_tellsPerson 81 = .ok (.isub, 1) := by decide +kernel
theorem dX9_tellsPerson_82 : decode cX9_tellsPerson 82 = .ok (.invokevirtual 26, 3) := by decide +kernel
theorem dX9_tellsPerson_85 : decode cX9_tellsPerson 85 = .ok (.ireturn, 1) := by decide +kernel
set_option maxRecDepth 20000 in
theorem ggX9_personOf_X9_isPerson : GoodIn wsX9_personOf wsX9_isPerson := goodIn_r _ [5, 6, 7, 4, 8] (by decide +kernel) (by decide +kernel)
set_option maxRecDepth 20000 in
theorem gX9_personOf_X9_isPerson : GoodIn wsX9_personOf (va_wsS RX9 77 yX9_isPerson wsX9_isPerson) := goodIn_app (goodIn_of _ (by decide +kernel)) ggX9_personOf_X9_isPerson
set_option maxRecDepth 20000 in
theorem ggX9_personOf_X9_fails : GoodIn wsX9_personOf wsX9_fails := goodIn_r _ [12, 1, 53, 54, 55, 56, 57, 58, 59, 60, 61, 62, 63] (by decide +kernel) (by decide +kernel)
set_option maxRecDepth 20000 in
theorem gX9_personOf_X9_fails : GoodIn wsX9_personOf (wsV RX9 80 RX9 yX9_fails wsX9_fails) := goodIn_app (goodIn_of _ (by decide +kernel)) ggX9_personOf_X9_fails
set_option maxRecDepth 20000 in
theorem ggX9_personOf_X9_in : GoodIn wsX9_personOf wsX9_in := goodIn_r _ [8] (by decide +kernel) (by decide +kernel)
set_option maxRecDepth 20000 in
theorem gX9_personOf_X9_in : GoodIn wsX9_personOf (va_wsS RX9 30 yX9_in wsX9_in) := goodIn_app (goodIn_of _ (by decide +kernel)) ggX9_personOf_X9_in
set_option maxRecDepth 20000 in
theorem ggX9_personOf_X9_tellsPerson : GoodIn wsX9_personOf wsX9_tellsPerson := goodIn_r _ [16, 17, 18, 19, 4, 20, 21, 22, 23, 24, 25, 26, 27, 28, 29, 30, 31, 32, 33, 34, 35, 36, 37, 38, 39, 40, 41, 42, 43, 44, 45, 46, 47, 48, 49, 50, 51, 52, 53, 54, 55, 56, 57, 58, 59, 60, 61, 62, 63] (by decide +kernel) (by decide +kernel)
set_option maxRecDepth 20000 in
theorem gX9_personOf_X9_tellsPerson : GoodIn wsX9_personOf (wsV RX9 152 RX9 yX9_tellsPerson wsX9_tellsPerson) := goodIn_app (goodIn_of _ (by decide +kernel)) ggX9_personOf_X9_tellsPerson
theorem dX9_personOf_0 : decode cX9_personOf 0 = .ok (.aload_n 0, 1) := by decide +kernel
theorem dX9_personOf_1 : decode cX9_personOf 1 = .ok (.iconst 0, 1) := by decide +kernel
theorem dX9_personOf_2 : decode cX9_personOf 2 = .ok (.putfield 22, 3) := by decide +kernel
theorem dX9_personOf_5 : decode cX9_personOf 5 = .ok (.iload_n 1, 1) := by decide +kernel
theorem dX9_personOf_6 : decode cX9_personOf 6 = .ok (.invokestatic 77, 3) := by decide +kernel
theorem dX9_personOf_9 : decode cX9_personOf 9 = .ok (.ifCond .ne 9, 3) := by decide +kernel
theorem dX9_personOf_12 : decode cX9_personOf 12 = .ok (.aload_n 0, 1) := by decide +kernel
theorem dX9_personOf_13 : decode cX9_personOf 13 = .ok (.iconst 1, 1) := by decide +kernel
theorem dX9_personOf_14 : decode cX9_personOf 14 = .ok (.invokevirtual 80, 3) := by decide +kernel
theorem dX9_personOf_17 : decode cX9_personOf 17 = .ok (.ireturn, 1) := by decide +kernel
theorem dX9_personOf_18 : decode cX9_personOf 18 = .ok (.iload_n 2, 1) := by decide +kernel
theorem dX9_personOf_19 : decode cX9_personOf 19 = .ok (.iconst 0, 1) := by decide +kernel
theorem dX9_personOf_20 : decode cX9_personOf 20 = .ok (.bipush 7, 2) := by decide +kernel
theorem dX9_personOf_22 : decode cX9_personOf 22 = .ok (.invokestatic 30, 3) := by decide +kernel
theorem dX9_personOf_25 : decode cX9_personOf 25 = .ok (.ifCond .eq 12, 3) := by decide +kernel
theorem dX9_personOf_28 : decode cX9_personOf 28 = .ok (.aload_n 0, 1) := by decide +kernel
theorem dX9_personOf_29 : decode cX9_personOf 29 = .ok (.iload_n 1, 1) := by decide +kernel
theorem dX9_personOf_30 : decode cX9_personOf 30 = .ok (.iload_n 2, 1) := by decide +kernel
theorem dX9_personOf_31 : decode cX9_personOf 31 = .ok (.invokevirtual 152, 3) := by decide +kernel
theorem dX9_personOf_34 : decode cX9_personOf 34 = .ok (.goto 8, 3) := by decide +kernel
theorem dX9_personOf_37 : decode cX9_personOf 37 = .ok (.aload_n 0, 1) := by decide +kernel
theorem dX9_personOf_38 : decode cX9_personOf 38 = .ok (.iconst 2, 1) := by decide +kernel
theorem dX9_personOf_39 : decode cX9_personOf 39 = .ok (.invokevirtual 80, 3) := by decide +kernel
theorem dX9_personOf_42 : decode cX9_personOf 42 = .ok (.ireturn, 1) := by decide +kernel
set_option maxRecDepth 20000 in
theorem ggX9_veils_X9_isPerson : GoodIn wsX9_veils wsX9_isPerson := goodIn_r _ [5, 6, 7, 4, 8] (by decide +kernel) (by decide +kernel)
set_option maxRecDepth 20000 in
theorem gX9_veils_X9_isPerson : GoodIn wsX9_veils (va_wsS RX9 77 yX9_isPerson wsX9_isPerson) := goodIn_app (goodIn_of _ (by decide +kernel)) ggX9_veils_X9_isPerson
set_option maxRecDepth 20000 in
theorem ggX9_veils_X9_isRow : GoodIn wsX9_veils wsX9_isRow := goodIn_r _ [12, 13, 6, 7, 4, 8, 42, 43, 44, 45, 46, 47, 48, 49, 50, 51, 52] (by decide +kernel) (by decide +kernel)
set_option maxRecDepth 20000 in
theorem gX9_veils_X9_isRow : GoodIn wsX9_veils (wsV RX9 90 RX9 yX9_isRow wsX9_isRow) := goodIn_app (goodIn_of _ (by decide +kernel)) ggX9_veils_X9_isRow
set_option maxRecDepth 20000 in
theorem ggX9_veils_X9_veilsOf : GoodIn wsX9_veils wsX9_veilsOf := goodIn_r _ [17, 13, 18, 19, 20, 4, 21, 22, 23, 24, 25, 26, 27, 28, 29, 30, 31, 32, 33, 34, 35, 36, 37, 42, 43, 44, 45, 46, 47, 48, 49, 50, 51, 52] (by decide +kernel) (by decide +kernel)
set_option maxRecDepth 20000 in
theorem gX9_veils_X9_veilsOf : GoodIn wsX9_veils (wsV RX9 51 RX9 yX9_veilsOf wsX9_veilsOf) := goodIn_app (goodIn_of _ (by decide +kernel)) ggX9_veils_X9_veilsOf
set_option maxRecDepth 20000 in
theorem ggX9_veils_X9_fails : GoodIn wsX9_veils wsX9_fails := goodIn_r _ [41, 1, 42, 43, 44, 45, 46, 47, 48, 49, 50, 51, 52] (by decide +kernel) (by decide +kernel)
set_option maxRecDepth 20000 in
theorem gX9_veils_X9_fails : GoodIn wsX9_veils (wsV RX9 80 RX9 yX9_fails wsX9_fails) := goodIn_app (goodIn_of _ (by decide +kernel)) ggX9_veils_X9_fails
theorem dX9_veils_0 : decode cX9_veils 0 = .ok (.aload_n 0, 1) := by decide +kernel
theorem dX9_veils_1 : decode cX9_veils 1 = .ok (.iconst 0, 1) := by decide +kernel
theorem dX9_veils_2 : decode cX9_veils 2 = .ok (.putfield 22, 3) := by decide +kernel
theorem dX9_veils_5 : decode cX9_veils 5 = .ok (.iload_n 1, 1) := by decide +kernel
theorem dX9_veils_6 : decode cX9_veils 6 = .ok (.invokestatic 77, 3) := by decide +kernel
theorem dX9_veils_9 : decode cX9_veils 9 = .ok (.ifCond .eq 20, 3) := by decide +kernel
theorem dX9_veils_12 : decode cX9_veils 12 = .ok (.aload_n 0, 1) := by decide +kernel
theorem dX9_veils_13 : decode cX9_veils 13 = .ok (.iload_n 2, 1) := by decide +kernel
theorem dX9_veils_14 : decode cX9_veils 14 = .ok (.invokevirtual 90, 3) := by decide +kernel
theorem dX9_veils_17 : decode cX9_veils 17 = .ok (.ifCond .eq 12, 3) := by decide +kernel
theorem dX9_veils_20 : decode cX9_veils 20 = .ok (.aload_n 0, 1) := by decide +kernel
theorem dX9_veils_21 : decode cX9_veils 21 = .ok (.iload_n 1, 1) := by decide +kernel
theorem dX9_veils_22 : decode cX9_veils 22 = .ok (.iload_n 2, 1) := by decide +kernel
theorem dX9_veils_23 : decode cX9_veils 23 = .ok (.invokevirtual 51, 3) := by decide +kernel
theorem dX9_veils_26 : decode cX9_veils 26 = .ok (.goto 8, 3) := by decide +kernel
theorem dX9_veils_29 : decode cX9_veils 29 = .ok (.aload_n 0, 1) := by decide +kernel
theorem dX9_veils_30 : decode cX9_veils 30 = .ok (.iconst 1, 1) := by decide +kernel
theorem dX9_veils_31 : decode cX9_veils 31 = .ok (.invokevirtual 80, 3) := by decide +kernel
theorem dX9_veils_34 : decode cX9_veils 34 = .ok (.ireturn, 1) := by decide +kernel
set_option maxRecDepth 20000 in
theorem ggX9_remembered_X9_isPerson : GoodIn wsX9_remembered wsX9_isPerson := goodIn_r _ [5, 6, 7, 4, 8] (by decide +kernel) (by decide +kernel)
set_option maxRecDepth 20000 in
theorem gX9_remembered_X9_isPerson : GoodIn wsX9_remembered (va_wsS RX9 77 yX9_isPerson wsX9_isPerson) := goodIn_app (goodIn_of _ (by decide +kernel)) ggX9_remembered_X9_isPerson
set_option maxRecDepth 20000 in
theorem ggX9_remembered_X9_fails : GoodIn wsX9_remembered wsX9_fails := goodIn_r _ [12, 1, 22, 23, 24, 25, 26, 27, 28, 29, 30, 31, 32] (by decide +kernel) (by decide +kernel)
set_option maxRecDepth 20000 in
theorem gX9_remembered_X9_fails : GoodIn wsX9_remembered (wsV RX9 80 RX9 yX9_fails wsX9_fails) := goodIn_app (goodIn_of _ (by decide +kernel)) ggX9_remembered_X9_fails
set_option maxRecDepth 20000 in
theorem ggX9_remembered_X9_kept : GoodIn wsX9_remembered wsX9_kept := goodIn_r _ [16, 17, 22, 23, 24, 25, 26, 27, 28, 29, 30, 31, 32] (by decide +kernel) (by decide +kernel)
set_option maxRecDepth 20000 in
theorem gX9_remembered_X9_kept : GoodIn wsX9_remembered (wsV RX9 61 RX9 yX9_kept wsX9_kept) := goodIn_app (goodIn_of _ (by decide +kernel)) ggX9_remembered_X9_kept
set_option maxRecDepth 20000 in
theorem ggX9_remembered_X9_keptAt : GoodIn wsX9_remembered wsX9_keptAt := goodIn_r _ [21, 17, 22, 23, 24, 25, 26, 27, 28, 29, 30, 31, 32] (by decide +kernel) (by decide +kernel)
set_option maxRecDepth 20000 in
theorem gX9_remembered_X9_keptAt : GoodIn wsX9_remembered (wsV RX9 64 RX9 yX9_keptAt wsX9_keptAt) := goodIn_app (goodIn_of _ (by decide +kernel)) ggX9_remembered_X9_keptAt
theorem dX9_remembered_0 : decode cX9_remembered 0 = .ok (.aload_n 0, 1) := by decide +kernel
theorem dX9_remembered_1 : decode cX9_remembered 1 = .ok (.iconst 0, 1) := by decide +kernel
theorem dX9_remembered_2 : decode cX9_remembered 2 = .ok (.putfield 22, 3) := by decide +kernel
theorem dX9_remembered_5 : decode cX9_remembered 5 = .ok (.iload_n 1, 1) := by decide +kernel
theorem dX9_remembered_6 : decode cX9_remembered 6 = .ok (.invokestatic 77, 3) := by decide +kernel
theorem dX9_remembered_9 : decode cX9_remembered 9 = .ok (.ifCond .ne 9, 3) := by decide +kernel
theorem dX9_remembered_12 : decode cX9_remembered 12 = .ok (.aload_n 0, 1) := by decide +kernel
theorem dX9_remembered_13 : decode cX9_remembered 13 = .ok (.iconst 1, 1) := by decide +kernel
theorem dX9_remembered_14 : decode cX9_remembered 14 = .ok (.invokevirtual 80, 3) := by decide +kernel
theorem dX9_remembered_17 : decode cX9_remembered 17 = .ok (.ireturn, 1) := by decide +kernel
theorem dX9_remembered_18 : decode cX9_remembered 18 = .ok (.iload_n 2, 1) := by decide +kernel
theorem dX9_remembered_19 : decode cX9_remembered 19 = .ok (.ifCond .ge 9, 3) := by decide +kernel
theorem dX9_remembered_22 : decode cX9_remembered 22 = .ok (.aload_n 0, 1) := by decide +kernel
theorem dX9_remembered_23 : decode cX9_remembered 23 = .ok (.iconst 2, 1) := by decide +kernel
theorem dX9_remembered_24 : decode cX9_remembered 24 = .ok (.invokevirtual 80, 3) := by decide +kernel
theorem dX9_remembered_27 : decode cX9_remembered 27 = .ok (.ireturn, 1) := by decide +kernel
theorem dX9_remembered_28 : decode cX9_remembered 28 = .ok (.iload_n 2, 1) := by decide +kernel
theorem dX9_remembered_29 : decode cX9_remembered 29 = .ok (.aload_n 0, 1) := by decide +kernel
theorem dX9_remembered_30 : decode cX9_remembered 30 = .ok (.iload_n 1, 1) := by decide +kernel
theorem dX9_remembered_31 : decode cX9_remembered 31 = .ok (.invokevirtual 61, 3) := by decide +kernel
theorem dX9_remembered_34 : decode cX9_remembered 34 = .ok (.if_icmp .ge 12, 3) := by decide +kernel
theorem dX9_remembered_37 : decode cX9_remembered 37 = .ok (.aload_n 0, 1) := by decide +kernel
theorem dX9_remembered_38 : decode cX9_remembered 38 = .ok (.iload_n 1, 1) := by decide +kernel
theorem dX9_remembered_39 : decode cX9_remembered 39 = .ok (.iload_n 2, 1) := by decide +kernel
theorem dX9_remembered_40 : decode cX9_remembered 40 = .ok (.invokevirtual 64, 3) := by decide +kernel
theorem dX9_remembered_43 : decode cX9_remembered 43 = .ok (.goto 4, 3) := by decide +kernel
theorem dX9_remembered_46 : decode cX9_remembered 46 = .ok (.iconst (-1), 1) := by decide +kernel
theorem dX9_remembered_47 : decode cX9_remembered 47 = .ok (.ireturn, 1) := by decide +kernel
set_option maxRecDepth 20000 in
theorem ggX9_sumOf_X9_ofPerson : GoodIn wsX9_sumOf wsX9_ofPerson := goodIn_r _ [5, 6, 7, 8, 9, 10, 11, 12, 13, 14, 15, 16, 17] (by decide +kernel) (by decide +kernel)
set_option maxRecDepth 20000 in
theorem gX9_sumOf_X9_ofPerson : GoodIn wsX9_sumOf (wsV RX9 26 RX9 yX9_ofPerson wsX9_ofPerson) := goodIn_app (goodIn_of _ (by decide +kernel)) ggX9_sumOf_X9_ofPerson
theorem dX9_sumOf_0 : decode cX9_sumOf 0 = .ok (.iconst 0, 1) := by decide +kernel
theorem dX9_sumOf_1 : decode cX9_sumOf 1 = .ok (.istore_n 2, 1) := by decide +kernel
theorem dX9_sumOf_2 : decode cX9_sumOf 2 = .ok (.iconst 0, 1) := by decide +kernel
theorem dX9_sumOf_3 : decode cX9_sumOf 3 = .ok (.istore_n 3, 1) := by decide +kernel
theorem dX9_sumOf_4 : decode cX9_sumOf 4 = .ok (.iload_n 3, 1) := by decide +kernel
theorem dX9_sumOf_5 : decode cX9_sumOf 5 = .ok (.iconst 5, 1) := by decide +kernel
theorem dX9_sumOf_6 : decode cX9_sumOf 6 = .ok (.if_icmp .ge 18, 3) := by decide +kernel
theorem dX9_sumOf_9 : decode cX9_sumOf 9 = .ok (.iload_n 2, 1) := by decide +kernel
theorem dX9_sumOf_10 : decode cX9_sumOf 10 = .ok (.aload_n 0, 1) := by decide +kernel
theorem dX9_sumOf_11 : decode cX9_sumOf 11 = .ok (.iload_n 3, 1) := by decide +kernel
theorem dX9_sumOf_12 : decode cX9_sumOf 12 = .ok (.iload_n 1, 1) := by decide +kernel
theorem dX9_sumOf_13 : decode cX9_sumOf 13 = .ok (.invokevirtual 26, 3) := by decide +kernel
theorem dX9_sumOf_16 : decode cX9_sumOf 16 = .ok (.iadd, 1) := by decide +kernel
theorem dX9_sumOf_17 : decode cX9_sumOf 17 = .ok (.istore_n 2, 1) := by decide +kernel
theorem dX9_sumOf_18 : decode cX9_sumOf 18 = .ok (.iinc 3 1, 3) := by decide +kernel
theorem dX9_sumOf_21 : decode cX9_sumOf 21 = .ok (.goto (-17), 3) := by decide +kernel
theorem dX9_sumOf_24 : decode cX9_sumOf 24 = .ok (.iload_n 2, 1) := by decide +kernel
theorem dX9_sumOf_25 : decode cX9_sumOf 25 = .ok (.ireturn, 1) := by decide +kernel
set_option maxRecDepth 20000 in
theorem ggX9_veiledPairs_X9_veilsOf : GoodIn wsX9_veiledPairs wsX9_veilsOf := goodIn_r _ [6, 1, 7, 8, 9, 5, 10, 11, 12, 13, 14, 15, 16, 17, 18, 19, 20, 21, 22, 23, 24, 25, 26, 27, 28, 29, 30, 31, 32, 33, 34, 35, 36, 37] (by decide +kernel) (by decide +kernel)
set_option maxRecDepth 20000 in
theorem gX9_veiledPairs_X9_veilsOf : GoodIn wsX9_veiledPairs (wsV RX9 51 RX9 yX9_veilsOf wsX9_veilsOf) := goodIn_app (goodIn_of _ (by decide +kernel)) ggX9_veiledPairs_X9_veilsOf
theorem dX9_veiledPairs_0 : decode cX9_veiledPairs 0 = .ok (.iconst 0, 1) := by decide +kernel
theorem dX9_veiledPairs_1 : decode cX9_veiledPairs 1 = .ok (.istore_n 2, 1) := by decide +kernel
theorem dX9_veiledPairs_2 : decode cX9_veiledPairs 2 = .ok (.iconst 0, 1) := by decide +kernel
theorem dX9_veiledPairs_3 : decode cX9_veiledPairs 3 = .ok (.istore_n 3, 1) := by decide +kernel
theorem dX9_veiledPairs_4 : decode cX9_veiledPairs 4 = .ok (.iload_n 3, 1) := by decide +kernel
theorem dX9_veiledPairs_5 : decode cX9_veiledPairs 5 = .ok (.aload_n 0, 1) := by decide +kernel
theorem dX9_veiledPairs_6 : decode cX9_veiledPairs 6 = .ok (.getfield 7, 3) := by decide +kernel
theorem dX9_veiledPairs_9 : decode cX9_veiledPairs 9 = .ok (.iconst 0, 1) := by decide +kernel
theorem dX9_veiledPairs_10 : decode cX9_veiledPairs 10 = .ok (.iaload, 1) := by decide +kernel
theorem dX9_veiledPairs_11 : decode cX9_veiledPairs 11 = .ok (.if_icmp .ge 67, 3) := by decide +kernel
theorem dX9_veiledPairs_14 : decode cX9_veiledPairs 14 = .ok (.iconst 0, 1) := by decide +kernel
theorem dX9_veiledPairs_15 : decode cX9_veiledPairs 15 = .ok (.istore 4, 2) := by decide +kernel
theorem dX9_veiledPairs_17 : decode cX9_veiledPairs 17 = .ok (.iload 4, 2) := by decide +kernel
theorem dX9_veiledPairs_19 : decode cX9_veiledPairs 19 = .ok (.iconst 5, 1) := by decide +kernel
theorem dX9_veiledPairs_20 : decode cX9_veiledPairs 20 = .ok (.if_icmp .ge 52, 3) := by decide +kernel
theorem dX9_veiledPairs_23 : decode cX9_veiledPairs 23 = .ok (.aload_n 0, 1) := by decide +kernel
theorem dX9_veiledPairs_24 : decode cX9_veiledPairs 24 = .ok (.iload 4, 2) := by decide +kernel
theorem dX9_veiledPairs_26 : decode cX9_veiledPairs 26 = .ok (.iload_n 3, 1) := by decide +kernel
theorem dX9_veiledPairs_27 : decode cX9_veiledPairs 27 = .ok (.invokevirtual 51, 3) := by decide +kernel
theorem dX9_veiledPairs_30 : decode cX9_veiledPairs 30 = .ok (.istore 5, 2) := by decide +kernel
theorem dX9_veiledPairs_32 : decode cX9_veiledPairs 32 = .ok (.iload_n 2, 1) := by decide +kernel
theorem dX9_veiledPairs_33 : decode cX9_veiledPairs 33 = .ok (.iload_n 1, 1) := by decide +kernel
theorem dX9_veiledPairs_34 : decode cX9_veiledPairs 34 = .ok (.iconst (-1), 1) := by decide +kernel
theorem dX9_veiledPairs_35 : decode cX9_veiledPairs 35 = .ok (.if_icmp .ne 16, 3) := by decide +kernel
theorem dX9_veiledPairs_38 : decode cX9_veiledPairs 38 = .ok (.iload 5, 2) := by decide +kernel
theorem dX9_veiledPairs_40 : decode cX9_veiledPairs 40 = .ok (.ifCond .eq 7, 3) := by decide +kernel
theorem dX9_veiledPairs_43 : decode cX9_veiledPairs 43 = .ok (.iconst 1, 1) := by decide +kernel
theorem dX9_veiledPairs_44 : decode cX9_veiledPairs 44 = .ok (.goto 20, 3) := by decide +kernel
theorem dX9_veiledPairs_47 : decode cX9_veiledPairs 47 = .ok (.iconst 0, 1) := by decide +kernel
theorem dX9_veiledPairs_48 : decode cX9_veiledPairs 48 = .ok (.goto 16, 3) := by decide +kernel
theorem dX9_veiledPairs_51 : decode cX9_veiledPairs 51 = .ok (.iload 5, 2) := by decide +kernel
theorem dX9_veiledPairs_53 : decode cX9_veiledPairs 53 = .ok (.iconst 1, 1) := by decide +kernel
theorem dX9_veiledPairs_54 : decode cX9_veiledPairs 54 = .ok (.iload_n 1, 1) := by decide +kernel
theorem dX9_veiledPairs_55 : decode cX9_veiledPairs 55 = .ok (.ishl, 1) := by decide +kernel
theorem dX9_veiledPairs_56 : decode cX9_veiledPairs 56 = .ok (.if_icmp .ne 7, 3) := by decide +kernel
theorem dX9_veiledPairs_59 : decode cX9_veiledPairs 59 = .ok (.iconst 1, 1) := by decide +kernel
theorem dX9_veiledPairs_60 : decode cX9_veiledPairs 60 = .ok (.goto 4, 3) := by decide +kernel
theorem dX9_veiledPairs_63 : decode cX9_veiledPairs 63 = .ok (.iconst 0, 1) := by decide +kernel
theorem dX9_veiledPairs_64 : decode cX9_veiledPairs 64 = .ok (.iadd, 1) := by decide +kernel
theorem dX9_veiledPairs_65 : decode cX9_veiledPairs 65 = .ok (.istore_n 2, 1) := by decide +kernel
theorem dX9_veiledPairs_66 : decode cX9_veiledPairs 66 = .ok (.iinc 4 1, 3) := by decide +kernel
theorem dX9_veiledPairs_69 : decode cX9_veiledPairs 69 = .ok (.goto (-52), 3) := by decide +kernel
theorem dX9_veiledPairs_72 : decode cX9_veiledPairs 72 = .ok (.iinc 3 1, 3) := by decide +kernel
theorem dX9_veiledPairs_75 : decode cX9_veiledPairs 75 = .ok (.goto (-71), 3) := by decide +kernel
theorem dX9_veiledPairs_78 : decode cX9_veiledPairs 78 = .ok (.iload_n 2, 1) := by decide +kernel
theorem dX9_veiledPairs_79 : decode cX9_veiledPairs 79 = .ok (.ireturn, 1) := by decide +kernel
set_option maxRecDepth 20000 in
theorem ggX9_tellsCount_X9_sumOf : GoodIn wsX9_tellsCount wsX9_sumOf := goodIn_r _ [7, 8, 9, 10, 6, 11, 1, 36, 37, 38, 39, 40, 41, 42, 43, 44, 45, 46] (by decide +kernel) (by decide +kernel)
set_option maxRecDepth 20000 in
theorem gX9_tellsCount_X9_sumOf : GoodIn wsX9_tellsCount (wsV RX9 155 RX9 yX9_sumOf wsX9_sumOf) := goodIn_app (goodIn_of _ (by decide +kernel)) ggX9_tellsCount_X9_sumOf
set_option maxRecDepth 20000 in
theorem ggX9_tellsCount_X9_veiledPairs : GoodIn wsX9_tellsCount wsX9_veiledPairs := goodIn_r _ [15, 1, 16, 17, 18, 6, 19, 20, 21, 22, 23, 24, 25, 26, 27, 8, 9, 10, 11, 28, 29, 30, 31, 32, 33, 34, 35, 36, 37, 38, 39, 40, 41, 42, 43, 44, 45, 46] (by decide +kernel) (by decide +kernel)
set_option maxRecDepth 20000 in
theorem gX9_tellsCount_X9_veiledPairs : GoodIn wsX9_tellsCount (wsV RX9 158 RX9 yX9_veiledPairs wsX9_veiledPairs) := goodIn_app (goodIn_of _ (by decide +kernel)) ggX9_tellsCount_X9_veiledPairs
theorem dX9_tellsCount_0 : decode cX9_tellsCount 0 = .ok (.iload_n 1, 1) := by decide +kernel
theorem dX9_tellsCount_1 : decode cX9_tellsCount 1 = .ok (.tableswitch 81 0 8 #[51, 51, 51, 51, 51, 58, 58, 68, 75], 51) := by decide +kernel
theorem dX9_tellsCount_52 : decode cX9_tellsCount 52 = .ok (.aload_n 0, 1) := by decide +kernel
theorem dX9_tellsCount_53 : decode cX9_tellsCount 53 = .ok (.getfield 7, 3) := by decide +kernel
theorem dX9_tellsCount_56 : decode cX9_tellsCount 56 = .ok (.iload_n 1, 1) := by decide +kernel
theorem dX9_tellsCount_57 : decode cX9_tellsCount 57 = .ok (.iaload, 1) := by decide +kernel
theorem dX9_tellsCount_58 : decode cX9_tellsCount 58 = .ok (.ireturn, 1) := by decide +kernel
theorem dX9_tellsCount_59 : decode cX9_tellsCount 59 = .ok (.aload_n 0, 1) := by decide +kernel
theorem dX9_tellsCount_60 : decode cX9_tellsCount 60 = .ok (.iconst 3, 1) := by decide +kernel
theorem dX9_tellsCount_61 : decode cX9_tellsCount 61 = .ok (.iload_n 1, 1) := by decide +kernel
theorem dX9_tellsCount_62 : decode cX9_tellsCount 62 = .ok (.iadd, 1) := by decide +kernel
theorem dX9_tellsCount_63 : decode cX9_tellsCount 63 = .ok (.iconst 5, 1) := by decide +kernel
theorem dX9_tellsCount_64 : decode cX9_tellsCount 64 = .ok (.isub, 1) := by decide +kernel
theorem dX9_tellsCount_65 : decode cX9_tellsCount 65 = .ok (.invokevirtual 155, 3) := by decide +kernel
theorem dX9_tellsCount_68 : decode cX9_tellsCount 68 = .ok (.ireturn, 1) := by decide +kernel
theorem dX9_tellsCount_69 : decode cX9_tellsCount 69 = .ok (.aload_n 0, 1) := by decide +kernel
theorem dX9_tellsCount_70 : decode cX9_tellsCount 70 = .ok (.getfield 7, 3) := by decide +kernel
theorem dX9_tellsCount_73 : decode cX9_tellsCount 73 = .ok (.iconst 5, 1) := by decide +kernel
theorem dX9_tellsCount_74 : decode cX9_tellsCount 74 = .ok (.iaload, 1) := by decide +kernel
theorem dX9_tellsCount_75 : decode cX9_tellsCount 75 = .ok (.ireturn, 1) := by decide +kernel
theorem dX9_tellsCount_76 : decode cX9_tellsCount 76 = .ok (.aload_n 0, 1) := by decide +kernel
theorem dX9_tellsCount_77 : decode cX9_tellsCount 77 = .ok (.iconst (-1), 1) := by decide +kernel
theorem dX9_tellsCount_78 : decode cX9_tellsCount 78 = .ok (.invokevirtual 158, 3) := by decide +kernel
theorem dX9_tellsCount_81 : decode cX9_tellsCount 81 = .ok (.ireturn, 1) := by decide +kernel
theorem dX9_tellsCount_82 : decode cX9_tellsCount 82 = .ok (.aload_n 0, 1) := by decide +kernel
theorem dX9_tellsCount_83 : decode cX9_tellsCount 83 = .ok (.getfield 34, 3) := by decide +kernel
theorem dX9_tellsCount_86 : decode cX9_tellsCount 86 = .ok (.ireturn, 1) := by decide +kernel
set_option maxRecDepth 20000 in
theorem ggX9_count_X9_in : GoodIn wsX9_count wsX9_in := goodIn_r _ [5] (by decide +kernel) (by decide +kernel)
set_option maxRecDepth 20000 in
theorem gX9_count_X9_in : GoodIn wsX9_count (va_wsS RX9 30 yX9_in wsX9_in) := goodIn_app (goodIn_of _ (by decide +kernel)) ggX9_count_X9_in
set_option maxRecDepth 20000 in
theorem ggX9_count_X9_tellsCount : GoodIn wsX9_count wsX9_tellsCount := goodIn_r _ [9, 10, 11, 12, 13, 14, 4, 15, 16, 17, 18, 19, 20, 21, 22, 23, 24, 25, 26, 27, 28, 29, 30, 31, 32, 33, 34, 35, 36, 37, 38, 39, 40, 41, 42, 43, 48, 49, 50, 51, 52, 53, 54, 55, 56, 57, 58] (by decide +kernel) (by decide +kernel)
set_option maxRecDepth 20000 in
theorem gX9_count_X9_tellsCount : GoodIn wsX9_count (wsV RX9 161 RX9 yX9_tellsCount wsX9_tellsCount) := goodIn_app (goodIn_of _ (by decide +kernel)) ggX9_count_X9_tellsCount
set_option maxRecDepth 20000 in
theorem ggX9_count_X9_fails : GoodIn wsX9_count wsX9_fails := goodIn_r _ [47, 1, 48, 49, 50, 51, 52, 53, 54, 55, 56, 57, 58] (by decide +kernel) (by decide +kernel)
set_option maxRecDepth 20000 in
theorem gX9_count_X9_fails : GoodIn wsX9_count (wsV RX9 80 RX9 yX9_fails wsX9_fails) := goodIn_app (goodIn_of _ (by decide +kernel)) ggX9_count_X9_fails
theorem dX9_count_0 : decode cX9_count 0 = .ok (.aload_n 0, 1) := by decide +kernel
theorem dX9_count_1 : decode cX9_count 1 = .ok (.iconst 0, 1) := by decide +kernel
theorem dX9_count_2 : decode cX9_count 2 = .ok (.putfield 22, 3) := by decide +kernel
theorem dX9_count_5 : decode cX9_count 5 = .ok (.iload_n 1, 1) := by decide +kernel
theorem dX9_count_6 : decode cX9_count 6 = .ok (.iconst 0, 1) := by decide +kernel
theorem dX9_count_7 : decode cX9_count 7 = .ok (.bipush 9, 2) := by decide +kernel
theorem dX9_count_9 : decode cX9_count 9 = .ok (.invokestatic 30, 3) := by decide +kernel
theorem dX9_count_12 : decode cX9_count 12 = .ok (.ifCond .eq 11, 3) := by decide +kernel
theorem dX9_count_15 : decode cX9_count 15 = .ok (.aload_n 0, 1) := by decide +kernel
theorem dX9_count_16 : decode cX9_count 16 = .ok (.iload_n 1, 1) := by decide +kernel
theorem dX9_count_17 : decode cX9_count 17 = .ok (.invokevirtual 161, 3) := by decide +kernel
theorem dX9_count_20 : decode cX9_count 20 = .ok (.goto 8, 3) := by decide +kernel
theorem dX9_count_23 : decode cX9_count 23 = .ok (.aload_n 0, 1) := by decide +kernel
theorem dX9_count_24 : decode cX9_count 24 = .ok (.iconst 1, 1) := by decide +kernel
theorem dX9_count_25 : decode cX9_count 25 = .ok (.invokevirtual 80, 3) := by decide +kernel
theorem dX9_count_28 : decode cX9_count 28 = .ok (.ireturn, 1) := by decide +kernel
set_option maxRecDepth 20000 in
theorem ggX9_would_X9_asked : GoodIn wsX9_would wsX9_asked := goodIn_r _ [5, 6, 7, 8, 4, 9, 10, 11, 12, 13, 14, 15, 16, 17, 18, 19, 20, 21, 22, 23, 24, 25, 26, 27, 28, 29, 30, 31, 32, 33, 34, 35, 36, 37, 38, 39, 40, 41, 69, 70, 71, 72, 73, 74, 75, 76, 77, 78, 79] (by decide +kernel) (by decide +kernel)
set_option maxRecDepth 20000 in
theorem gX9_would_X9_asked : GoodIn wsX9_would (wsV RX9 101 RX9 yX9_asked wsX9_asked) := goodIn_app (goodIn_of _ (by decide +kernel)) ggX9_would_X9_asked
set_option maxRecDepth 20000 in
theorem ggX9_would_X9_countTold : GoodIn wsX9_would wsX9_countTold := goodIn_r _ [45, 10, 46, 47, 48, 4, 49, 50, 51, 52, 53, 54, 55, 56, 57, 58, 59, 60, 61, 62, 63, 64, 69, 70, 71, 72, 73, 74, 75, 76, 77, 78, 79] (by decide +kernel) (by decide +kernel)
set_option maxRecDepth 20000 in
theorem gX9_would_X9_countTold : GoodIn wsX9_would (wsV RX9 104 RX9 yX9_countTold wsX9_countTold) := goodIn_app (goodIn_of _ (by decide +kernel)) ggX9_would_X9_countTold
set_option maxRecDepth 20000 in
theorem ggX9_would_X9_sumTold : GoodIn wsX9_would wsX9_sumTold := goodIn_r _ [68, 10, 11, 12, 13, 4, 14, 46, 47, 48, 49, 50, 51, 52, 69, 70, 71, 72, 73, 74, 75, 76, 77, 78, 79] (by decide +kernel) (by decide +kernel)
set_option maxRecDepth 20000 in
theorem gX9_would_X9_sumTold : GoodIn wsX9_would (wsV RX9 114 RX9 yX9_sumTold wsX9_sumTold) := goodIn_app (goodIn_of _ (by decide +kernel)) ggX9_would_X9_sumTold
set_option maxRecDepth 20000 in
theorem ggX9_would_X9_givesAway : GoodIn wsX9_would wsX9_givesAway := goodIn_r _ [56, 57, 58, 59, 4, 60, 10, 61, 62, 63, 64, 50, 51, 52, 69, 70, 71, 72, 73, 74, 75, 76, 77, 78, 79] (by decide +kernel) (by decide +kernel)
set_option maxRecDepth 20000 in
theorem gX9_would_X9_givesAway : GoodIn wsX9_would (wsV RX9 74 RX9 yX9_givesAway wsX9_givesAway) := goodIn_app (goodIn_of _ (by decide +kernel)) ggX9_would_X9_givesAway
set_option maxRecDepth 20000 in
theorem ggX9_would_X9_rowsOf : GoodIn wsX9_would wsX9_rowsOf := goodIn_r _ [9, 10, 11, 12, 13, 4, 14, 15, 16, 17, 69, 70, 71, 72, 73, 74, 75, 76, 77, 78, 79] (by decide +kernel) (by decide +kernel)
set_option maxRecDepth 20000 in
theorem gX9_would_X9_rowsOf : GoodIn wsX9_would (wsV RX9 54 RX9 yX9_rowsOf wsX9_rowsOf) := goodIn_app (goodIn_of _ (by decide +kernel)) ggX9_would_X9_rowsOf
set_option maxRecDepth 20000 in
theorem ggX9_would_X9_ones : GoodIn wsX9_would wsX9_ones := goodIn_r _ [52] (by decide +kernel) (by decide +kernel)
set_option maxRecDepth 20000 in
theorem gX9_would_X9_ones : GoodIn wsX9_would (va_wsS RX9 67 yX9_ones wsX9_ones) := goodIn_app (goodIn_of _ (by decide +kernel)) ggX9_would_X9_ones
theorem dX9_would_0 : decode cX9_would 0 = .ok (.aload_n 0, 1) := by decide +kernel
theorem dX9_would_1 : decode cX9_would 1 = .ok (.iload_n 1, 1) := by decide +kernel
theorem dX9_would_2 : decode cX9_would 2 = .ok (.iload_n 2, 1) := by decide +kernel
theorem dX9_would_3 : decode cX9_would 3 = .ok (.iload_n 3, 1) := by decide +kernel
theorem dX9_would_4 : decode cX9_would 4 = .ok (.iload 4, 2) := by decide +kernel
theorem dX9_would_6 : decode cX9_would 6 = .ok (.invokevirtual 101, 3) := by decide +kernel
theorem dX9_would_9 : decode cX9_would 9 = .ok (.istore 6, 2) := by decide +kernel
theorem dX9_would_11 : decode cX9_would 11 = .ok (.iload 5, 2) := by decide +kernel
theorem dX9_would_13 : decode cX9_would 13 = .ok (.tableswitch 58 0 2 #[27, 35, 42], 27) := by decide +kernel
theorem dX9_would_40 : decode cX9_would 40 = .ok (.aload_n 0, 1) := by decide +kernel
theorem dX9_would_41 : decode cX9_would 41 = .ok (.iload_n 1, 1) := by decide +kernel
theorem dX9_would_42 : decode cX9_would 42 = .ok (.iload 6, 2) := by decide +kernel
theorem dX9_would_44 : decode cX9_would 44 = .ok (.invokevirtual 104, 3) := by decide +kernel
theorem dX9_would_47 : decode cX9_would 47 = .ok (.ireturn, 1) := by decide +kernel
theorem dX9_would_48 : decode cX9_would 48 = .ok (.aload_n 0, 1) := by decide +kernel
theorem dX9_would_49 : decode cX9_would 49 = .ok (.iload 6, 2) := by decide +kernel
theorem dX9_would_51 : decode cX9_would 51 = .ok (.invokevirtual 114, 3) := by decide +kernel
theorem dX9_would_54 : decode cX9_would 54 = .ok (.ireturn, 1) := by decide +kernel
theorem dX9_would_55 : decode cX9_would 55 = .ok (.aload_n 0, 1) := by decide +kernel
theorem dX9_would_56 : decode cX9_would 56 = .ok (.iload_n 1, 1) := by decide +kernel
theorem dX9_would_57 : decode cX9_would 57 = .ok (.iload 6, 2) := by decide +kernel
theorem dX9_would_59 : decode cX9_would 59 = .ok (.invokevirtual 74, 3) := by decide +kernel
theorem dX9_would_62 : decode cX9_would 62 = .ok (.ifCond .eq 7, 3) := by decide +kernel
theorem dX9_would_65 : decode cX9_would 65 = .ok (.iconst 1, 1) := by decide +kernel
theorem dX9_would_66 : decode cX9_would 66 = .ok (.goto 4, 3) := by decide +kernel
theorem dX9_would_69 : decode cX9_would 69 = .ok (.iconst 0, 1) := by decide +kernel
theorem dX9_would_70 : decode cX9_would 70 = .ok (.ireturn, 1) := by decide +kernel
theorem dX9_would_71 : decode cX9_would 71 = .ok (.aload_n 0, 1) := by decide +kernel
theorem dX9_would_72 : decode cX9_would 72 = .ok (.iload_n 2, 1) := by decide +kernel
theorem dX9_would_73 : decode cX9_would 73 = .ok (.iload_n 3, 1) := by decide +kernel
theorem dX9_would_74 : decode cX9_would 74 = .ok (.iload 4, 2) := by decide +kernel
theorem dX9_would_76 : decode cX9_would 76 = .ok (.invokevirtual 54, 3) := by decide +kernel
theorem dX9_would_79 : decode cX9_would 79 = .ok (.invokestatic 67, 3) := by decide +kernel
theorem dX9_would_82 : decode cX9_would 82 = .ok (.ireturn, 1) := by decide +kernel
set_option maxRecDepth 20000 in
theorem ggX9_ifAsked_X9_refuses : GoodIn wsX9_ifAsked wsX9_refuses := goodIn_r _ [6, 7, 8, 5, 9, 10, 11, 12] (by decide +kernel) (by decide +kernel)
set_option maxRecDepth 20000 in
theorem gX9_ifAsked_X9_refuses : GoodIn wsX9_ifAsked (wsV RX9 97 RX9 yX9_refuses wsX9_refuses) := goodIn_app (goodIn_of _ (by decide +kernel)) ggX9_ifAsked_X9_refuses
set_option maxRecDepth 20000 in
theorem ggX9_ifAsked_X9_in : GoodIn wsX9_ifAsked wsX9_in := goodIn_r _ [12] (by decide +kernel) (by decide +kernel)
set_option maxRecDepth 20000 in
theorem gX9_ifAsked_X9_in : GoodIn wsX9_ifAsked (va_wsS RX9 30 yX9_in wsX9_in) := goodIn_app (goodIn_of _ (by decide +kernel)) ggX9_ifAsked_X9_in
set_option maxRecDepth 20000 in
theorem ggX9_ifAsked_X9_would : GoodIn wsX9_ifAsked wsX9_would := goodIn_r _ [16, 17, 18, 19, 5, 20, 21, 22, 23, 24, 25, 26, 27, 28, 29, 10, 11, 12, 30, 31, 32, 33, 34, 35, 36, 37, 38, 39, 40, 41, 42, 43, 44, 45, 46, 47, 48, 49, 50, 51, 52, 53, 54, 55, 56, 57, 58, 59, 60, 61, 62, 63, 64, 65, 66, 67, 68, 69, 70, 71, 72, 73, 74, 75, 76, 77, 78, 79, 80, 85, 86, 87, 88, 89, 90, 91, 92, 93, 94, 95] (by decide +kernel) (by decide +kernel)
set_option maxRecDepth 20000 in
theorem gX9_ifAsked_X9_would : GoodIn wsX9_ifAsked (wsV RX9 164 RX9 yX9_would wsX9_would) := goodIn_app (goodIn_of _ (by decide +kernel)) ggX9_ifAsked_X9_would
set_option maxRecDepth 20000 in
theorem ggX9_ifAsked_X9_fails : GoodIn wsX9_ifAsked wsX9_fails := goodIn_r _ [84, 1, 85, 86, 87, 88, 89, 90, 91, 92, 93, 94, 95] (by decide +kernel) (by decide +kernel)
set_option maxRecDepth 20000 in
theorem gX9_ifAsked_X9_fails : GoodIn wsX9_ifAsked (wsV RX9 80 RX9 yX9_fails wsX9_fails) := goodIn_app (goodIn_of _ (by decide +kernel)) ggX9_ifAsked_X9_fails
theorem dX9_ifAsked_0 : decode cX9_ifAsked 0 = .ok (.aload_n 0, 1) := by decide +kernel
theorem dX9_ifAsked_1 : decode cX9_ifAsked 1 = .ok (.aload_n 0, 1) := by decide +kernel
theorem dX9_ifAsked_2 : decode cX9_ifAsked 2 = .ok (.iload_n 1, 1) := by decide +kernel
theorem dX9_ifAsked_3 : decode cX9_ifAsked 3 = .ok (.iload_n 2, 1) := by decide +kernel
theorem dX9_ifAsked_4 : decode cX9_ifAsked 4 = .ok (.iload_n 3, 1) := by decide +kernel
theorem dX9_ifAsked_5 : decode cX9_ifAsked 5 = .ok (.iload 4, 2) := by decide +kernel
theorem dX9_ifAsked_7 : decode cX9_ifAsked 7 = .ok (.invokevirtual 97, 3) := by decide +kernel
theorem dX9_ifAsked_10 : decode cX9_ifAsked 10 = .ok (.putfield 22, 3) := by decide +kernel
theorem dX9_ifAsked_13 : decode cX9_ifAsked 13 = .ok (.aload_n 0, 1) := by decide +kernel
theorem dX9_ifAsked_14 : decode cX9_ifAsked 14 = .ok (.getfield 22, 3) := by decide +kernel
theorem dX9_ifAsked_17 : decode cX9_ifAsked 17 = .ok (.ifCond .eq 5, 3) := by decide +kernel
theorem dX9_ifAsked_20 : decode cX9_ifAsked 20 = .ok (.iconst 0, 1) := by decide +kernel
theorem dX9_ifAsked_21 : decode cX9_ifAsked 21 = .ok (.ireturn, 1) := by decide +kernel
theorem dX9_ifAsked_22 : decode cX9_ifAsked 22 = .ok (.iload 5, 2) := by decide +kernel
theorem dX9_ifAsked_24 : decode cX9_ifAsked 24 = .ok (.iconst 0, 1) := by decide +kernel
theorem dX9_ifAsked_25 : decode cX9_ifAsked 25 = .ok (.iconst 3, 1) := by decide +kernel
theorem dX9_ifAsked_26 : decode cX9_ifAsked 26 = .ok (.invokestatic 30, 3) := by decide +kernel
theorem dX9_ifAsked_29 : decode cX9_ifAsked 29 = .ok (.ifCond .eq 17, 3) := by decide +kernel
theorem dX9_ifAsked_32 : decode cX9_ifAsked 32 = .ok (.aload_n 0, 1) := by decide +kernel
theorem dX9_ifAsked_33 : decode cX9_ifAsked 33 = .ok (.iload_n 1, 1) := by decide +kernel
theorem dX9_ifAsked_34 : decode cX9_ifAsked 34 = .ok (.iload_n 2, 1) := by decide +kernel
theorem dX9_ifAsked_35 : decode cX9_ifAsked 35 = .ok (.iload_n 3, 1) := by decide +kernel
theorem dX9_ifAsked_36 : decode cX9_ifAsked 36 = .ok (.iload 4, 2) := by decide +kernel
theorem dX9_ifAsked_38 : decode cX9_ifAsked 38 = .ok (.iload 5, 2) := by decide +kernel
theorem dX9_ifAsked_40 : decode cX9_ifAsked 40 = .ok (.invokevirtual 164, 3) := by decide +kernel
theorem dX9_ifAsked_43 : decode cX9_ifAsked 43 = .ok (.goto 8, 3) := by decide +kernel
theorem dX9_ifAsked_46 : decode cX9_ifAsked 46 = .ok (.aload_n 0, 1) := by decide +kernel
theorem dX9_ifAsked_47 : decode cX9_ifAsked 47 = .ok (.iconst 2, 1) := by decide +kernel
theorem dX9_ifAsked_48 : decode cX9_ifAsked 48 = .ok (.invokevirtual 80, 3) := by decide +kernel
theorem dX9_ifAsked_51 : decode cX9_ifAsked 51 = .ok (.ireturn, 1) := by decide +kernel
set_option maxRecDepth 20000 in
theorem ggX9_hidden_X9_veiledPairs : GoodIn wsX9_hidden wsX9_veiledPairs := goodIn_r _ [6, 1, 7, 8, 9, 5, 10, 11, 12, 13, 14, 15, 16, 17, 18, 19, 20, 21, 22, 23, 24, 25, 26, 27, 28, 29, 30, 31, 32, 33, 34, 35, 36, 37, 38, 39, 40, 41] (by decide +kernel) (by decide +kernel)
set_option maxRecDepth 20000 in
theorem gX9_hidden_X9_veiledPairs : GoodIn wsX9_hidden (wsV RX9 158 RX9 yX9_veiledPairs wsX9_veiledPairs) := goodIn_app (goodIn_of _ (by decide +kernel)) ggX9_hidden_X9_veiledPairs
theorem dX9_hidden_0 : decode cX9_hidden 0 = .ok (.aload_n 0, 1) := by decide +kernel
theorem dX9_hidden_1 : decode cX9_hidden 1 = .ok (.getfield 7, 3) := by decide +kernel
theorem dX9_hidden_4 : decode cX9_hidden 4 = .ok (.iconst 1, 1) := by decide +kernel
theorem dX9_hidden_5 : decode cX9_hidden 5 = .ok (.iaload, 1) := by decide +kernel
theorem dX9_hidden_6 : decode cX9_hidden 6 = .ok (.iload_n 1, 1) := by decide +kernel
theorem dX9_hidden_7 : decode cX9_hidden 7 = .ok (.ishr, 1) := by decide +kernel
theorem dX9_hidden_8 : decode cX9_hidden 8 = .ok (.iconst 1, 1) := by decide +kernel
theorem dX9_hidden_9 : decode cX9_hidden 9 = .ok (.iand, 1) := by decide +kernel
theorem dX9_hidden_10 : decode cX9_hidden 10 = .ok (.iconst 1, 1) := by decide +kernel
theorem dX9_hidden_11 : decode cX9_hidden 11 = .ok (.if_icmp .ne 11, 3) := by decide +kernel
theorem dX9_hidden_14 : decode cX9_hidden 14 = .ok (.aload_n 0, 1) := by decide +kernel
theorem dX9_hidden_15 : decode cX9_hidden 15 = .ok (.iload_n 1, 1) := by decide +kernel
theorem dX9_hidden_16 : decode cX9_hidden 16 = .ok (.invokevirtual 158, 3) := by decide +kernel
theorem dX9_hidden_19 : decode cX9_hidden 19 = .ok (.goto 4, 3) := by decide +kernel
theorem dX9_hidden_22 : decode cX9_hidden 22 = .ok (.iconst 0, 1) := by decide +kernel
theorem dX9_hidden_23 : decode cX9_hidden 23 = .ok (.ireturn, 1) := by decide +kernel
set_option maxRecDepth 20000 in
theorem ggX9_hides_X9_in : GoodIn wsX9_hides wsX9_in := goodIn_r _ [5] (by decide +kernel) (by decide +kernel)
set_option maxRecDepth 20000 in
theorem gX9_hides_X9_in : GoodIn wsX9_hides (va_wsS RX9 30 yX9_in wsX9_in) := goodIn_app (goodIn_of _ (by decide +kernel)) ggX9_hides_X9_in
set_option maxRecDepth 20000 in
theorem ggX9_hides_X9_hidden : GoodIn wsX9_hides wsX9_hidden := goodIn_r _ [9, 10, 11, 12, 13, 4, 14, 15, 16, 17, 18, 19, 20, 21, 22, 23, 24, 25, 26, 27, 28, 29, 30, 31, 32, 33, 34, 35, 36, 37, 38, 43, 44, 45, 46, 47, 48, 49, 50, 51, 52, 53] (by decide +kernel) (by decide +kernel)
set_option maxRecDepth 20000 in
theorem gX9_hides_X9_hidden : GoodIn wsX9_hides (wsV RX9 168 RX9 yX9_hidden wsX9_hidden) := goodIn_app (goodIn_of _ (by decide +kernel)) ggX9_hides_X9_hidden
set_option maxRecDepth 20000 in
theorem ggX9_hides_X9_fails : GoodIn wsX9_hides wsX9_fails := goodIn_r _ [42, 1, 43, 44, 45, 46, 47, 48, 49, 50, 51, 52, 53] (by decide +kernel) (by decide +kernel)
set_option maxRecDepth 20000 in
theorem gX9_hides_X9_fails : GoodIn wsX9_hides (wsV RX9 80 RX9 yX9_fails wsX9_fails) := goodIn_app (goodIn_of _ (by decide +kernel)) ggX9_hides_X9_fails
theorem dX9_hides_0 : decode cX9_hides 0 = .ok (.aload_n 0, 1) := by decide +kernel
theorem dX9_hides_1 : decode cX9_hides 1 = .ok (.iconst 0, 1) := by decide +kernel
theorem dX9_hides_2 : decode cX9_hides 2 = .ok (.putfield 22, 3) := by decide +kernel
theorem dX9_hides_5 : decode cX9_hides 5 = .ok (.iload_n 1, 1) := by decide +kernel
theorem dX9_hides_6 : decode cX9_hides 6 = .ok (.iconst 0, 1) := by decide +kernel
theorem dX9_hides_7 : decode cX9_hides 7 = .ok (.iconst 3, 1) := by decide +kernel
theorem dX9_hides_8 : decode cX9_hides 8 = .ok (.invokestatic 30, 3) := by decide +kernel
theorem dX9_hides_11 : decode cX9_hides 11 = .ok (.ifCond .eq 11, 3) := by decide +kernel
theorem dX9_hides_14 : decode cX9_hides 14 = .ok (.aload_n 0, 1) := by decide +kernel
theorem dX9_hides_15 : decode cX9_hides 15 = .ok (.iload_n 1, 1) := by decide +kernel
theorem dX9_hides_16 : decode cX9_hides 16 = .ok (.invokevirtual 168, 3) := by decide +kernel
theorem dX9_hides_19 : decode cX9_hides 19 = .ok (.goto 8, 3) := by decide +kernel
theorem dX9_hides_22 : decode cX9_hides 22 = .ok (.aload_n 0, 1) := by decide +kernel
theorem dX9_hides_23 : decode cX9_hides 23 = .ok (.iconst 1, 1) := by decide +kernel
theorem dX9_hides_24 : decode cX9_hides 24 = .ok (.invokevirtual 80, 3) := by decide +kernel
theorem dX9_hides_27 : decode cX9_hides 27 = .ok (.ireturn, 1) := by decide +kernel
set_option maxRecDepth 20000 in
theorem ggX9_blindestOne_X9_seenBy : GoodIn wsX9_blindestOne wsX9_seenBy := goodIn_r _ [5, 6, 7, 8, 9, 4, 10, 11, 12, 13, 14, 15, 16, 17, 18, 19, 20, 21, 22, 23, 24, 25, 26, 27, 28, 29, 30, 34, 35, 36, 37, 38, 39, 40, 41, 42, 43, 44] (by decide +kernel) (by decide +kernel)
set_option maxRecDepth 20000 in
theorem gX9_blindestOne_X9_seenBy : GoodIn wsX9_blindestOne (wsV RX9 58 RX9 yX9_seenBy wsX9_seenBy) := goodIn_app (goodIn_of _ (by decide +kernel)) ggX9_blindestOne_X9_seenBy
set_option maxRecDepth 20000 in
theorem ggX9_blindestOne_X9_ones : GoodIn wsX9_blindestOne wsX9_ones := goodIn_r _ [33] (by decide +kernel) (by decide +kernel)
set_option maxRecDepth 20000 in
theorem gX9_blindestOne_X9_ones : GoodIn wsX9_blindestOne (va_wsS RX9 67 yX9_ones wsX9_ones) := goodIn_app (goodIn_of _ (by decide +kernel)) ggX9_blindestOne_X9_ones
theorem dX9_blindestOne_0 : decode cX9_blindestOne 0 = .ok (.iconst 0, 1) := by decide +kernel
theorem dX9_blindestOne_1 : decode cX9_blindestOne 1 = .ok (.istore_n 1, 1) := by decide +kernel
theorem dX9_blindestOne_2 : decode cX9_blindestOne 2 = .ok (.iconst 1, 1) := by decide +kernel
theorem dX9_blindestOne_3 : decode cX9_blindestOne 3 = .ok (.istore_n 2, 1) := by decide +kernel
theorem dX9_blindestOne_4 : decode cX9_blindestOne 4 = .ok (.iload_n 2, 1) := by decide +kernel
theorem dX9_blindestOne_5 : decode cX9_blindestOne 5 = .ok (.iconst 5, 1) := by decide +kernel
theorem dX9_blindestOne_6 : decode cX9_blindestOne 6 = .ok (.if_icmp .ge 34, 3) := by decide +kernel
theorem dX9_blindestOne_9 : decode cX9_blindestOne 9 = .ok (.aload_n 0, 1) := by decide +kernel
theorem dX9_blindestOne_10 : decode cX9_blindestOne 10 = .ok (.iload_n 2, 1) := by decide +kernel
theorem dX9_blindestOne_11 : decode cX9_blindestOne 11 = .ok (.invokevirtual 58, 3) := by decide +kernel
theorem dX9_blindestOne_14 : decode cX9_blindestOne 14 = .ok (.invokestatic 67, 3) := by decide +kernel
theorem dX9_blindestOne_17 : decode cX9_blindestOne 17 = .ok (.aload_n 0, 1) := by decide +kernel
theorem dX9_blindestOne_18 : decode cX9_blindestOne 18 = .ok (.iload_n 1, 1) := by decide +kernel
theorem dX9_blindestOne_19 : decode cX9_blindestOne 19 = .ok (.invokevirtual 58, 3) := by decide +kernel
theorem dX9_blindestOne_22 : decode cX9_blindestOne 22 = .ok (.invokestatic 67, 3) := by decide +kernel
theorem dX9_blindestOne_25 : decode cX9_blindestOne 25 = .ok (.if_icmp .ge 7, 3) := by decide +kernel
theorem dX9_blindestOne_28 : decode cX9_blindestOne 28 = .ok (.iload_n 2, 1) := by decide +kernel
theorem dX9_blindestOne_29 : decode cX9_blindestOne 29 = .ok (.goto 4, 3) := by decide +kernel
theorem dX9_blindestOne_32 : decode cX9_blindestOne 32 = .ok (.iload_n 1, 1) := by decide +kernel
theorem dX9_blindestOne_33 : decode cX9_blindestOne 33 = .ok (.istore_n 1, 1) := by decide +kernel
theorem dX9_blindestOne_34 : decode cX9_blindestOne 34 = .ok (.iinc 2 1, 3) := by decide +kernel
theorem dX9_blindestOne_37 : decode cX9_blindestOne 37 = .ok (.goto (-33), 3) := by decide +kernel
theorem dX9_blindestOne_40 : decode cX9_blindestOne 40 = .ok (.iload_n 1, 1) := by decide +kernel
theorem dX9_blindestOne_41 : decode cX9_blindestOne 41 = .ok (.ireturn, 1) := by decide +kernel
set_option maxRecDepth 20000 in
theorem ggX9_blindest_X9_blindestOne : GoodIn wsX9_blindest wsX9_blindestOne := goodIn_r _ [6, 7, 8, 9, 5, 10, 11, 12, 13, 14, 15, 16, 17, 18, 19, 20, 21, 22, 23, 24, 25, 26, 27, 28, 29, 30, 31, 32, 33, 34, 35, 36, 37, 38, 39, 40, 41, 42, 43, 44, 45, 46, 47, 48, 49] (by decide +kernel) (by decide +kernel)
set_option maxRecDepth 20000 in
theorem gX9_blindest_X9_blindestOne : GoodIn wsX9_blindest (wsV RX9 171 RX9 yX9_blindestOne wsX9_blindestOne) := goodIn_app (goodIn_of _ (by decide +kernel)) ggX9_blindest_X9_blindestOne
theorem dX9_blindest_0 : decode cX9_blindest 0 = .ok (.aload_n 0, 1) := by decide +kernel
theorem dX9_blindest_1 : decode cX9_blindest 1 = .ok (.iconst 0, 1) := by decide +kernel
theorem dX9_blindest_2 : decode cX9_blindest 2 = .ok (.putfield 22, 3) := by decide +kernel
theorem dX9_blindest_5 : decode cX9_blindest 5 = .ok (.aload_n 0, 1) := by decide +kernel
theorem dX9_blindest_6 : decode cX9_blindest 6 = .ok (.invokevirtual 171, 3) := by decide +kernel
theorem dX9_blindest_9 : decode cX9_blindest 9 = .ok (.ireturn, 1) := by decide +kernel
set_option maxRecDepth 20000 in
theorem ggX9_neededBy_X9_rowsOf : GoodIn wsX9_neededBy wsX9_rowsOf := goodIn_r _ [5, 6, 7, 8, 9, 4, 10, 11, 12, 13, 45, 46, 47, 48, 49, 50, 51, 52, 53, 54, 55] (by decide +kernel) (by decide +kernel)
set_option maxRecDepth 20000 in
theorem gX9_neededBy_X9_rowsOf : GoodIn wsX9_neededBy (wsV RX9 54 RX9 yX9_rowsOf wsX9_rowsOf) := goodIn_app (goodIn_of _ (by decide +kernel)) ggX9_neededBy_X9_rowsOf
set_option maxRecDepth 20000 in
theorem ggX9_neededBy_X9_ones : GoodIn wsX9_neededBy wsX9_ones := goodIn_r _ [16] (by decide +kernel) (by decide +kernel)
set_option maxRecDepth 20000 in
theorem gX9_neededBy_X9_ones : GoodIn wsX9_neededBy (va_wsS RX9 67 yX9_ones wsX9_ones) := goodIn_app (goodIn_of _ (by decide +kernel)) ggX9_neededBy_X9_ones
set_option maxRecDepth 20000 in
theorem ggX9_neededBy_X9_asked : GoodIn wsX9_neededBy wsX9_asked := goodIn_r _ [20, 1, 2, 3, 4, 5, 6, 7, 8, 9, 10, 11, 12, 13, 21, 22, 23, 24, 25, 26, 27, 28, 29, 30, 31, 32, 33, 34, 35, 36, 37, 38, 39, 40, 41, 42, 43, 44, 45, 46, 47, 48, 49, 50, 51, 52, 53, 54, 55] (by decide +kernel) (by decide +kernel)
set_option maxRecDepth 20000 in
theorem gX9_neededBy_X9_asked : GoodIn wsX9_neededBy (wsV RX9 101 RX9 yX9_asked wsX9_asked) := goodIn_app (goodIn_of _ (by decide +kernel)) ggX9_neededBy_X9_asked
theorem dX9_neededBy_0 : decode cX9_neededBy 0 = .ok (.aload_n 0, 1) := by decide +kernel
theorem dX9_neededBy_1 : decode cX9_neededBy 1 = .ok (.iload_n 2, 1) := by decide +kernel
theorem dX9_neededBy_2 : decode cX9_neededBy 2 = .ok (.iconst 0, 1) := by decide +kernel
theorem dX9_neededBy_3 : decode cX9_neededBy 3 = .ok (.bipush 99, 2) := by decide +kernel
theorem dX9_neededBy_5 : decode cX9_neededBy 5 = .ok (.invokevirtual 54, 3) := by decide +kernel
theorem dX9_neededBy_8 : decode cX9_neededBy 8 = .ok (.invokestatic 67, 3) := by decide +kernel
theorem dX9_neededBy_11 : decode cX9_neededBy 11 = .ok (.istore_n 3, 1) := by decide +kernel
theorem dX9_neededBy_12 : decode cX9_neededBy 12 = .ok (.aload_n 0, 1) := by decide +kernel
theorem dX9_neededBy_13 : decode cX9_neededBy 13 = .ok (.iload_n 1, 1) := by decide +kernel
theorem dX9_neededBy_14 : decode cX9_neededBy 14 = .ok (.iload_n 2, 1) := by decide +kernel
theorem dX9_neededBy_15 : decode cX9_neededBy 15 = .ok (.iconst 0, 1) := by decide +kernel
theorem dX9_neededBy_16 : decode cX9_neededBy 16 = .ok (.bipush 99, 2) := by decide +kernel
theorem dX9_neededBy_18 : decode cX9_neededBy 18 = .ok (.invokevirtual 101, 3) := by decide +kernel
theorem dX9_neededBy_21 : decode cX9_neededBy 21 = .ok (.invokestatic 67, 3) := by decide +kernel
theorem dX9_neededBy_24 : decode cX9_neededBy 24 = .ok (.istore 4, 2) := by decide +kernel
theorem dX9_neededBy_26 : decode cX9_neededBy 26 = .ok (.iconst 1, 1) := by decide +kernel
theorem dX9_neededBy_27 : decode cX9_neededBy 27 = .ok (.istore 5, 2) := by decide +kernel
theorem dX9_neededBy_29 : decode cX9_neededBy 29 = .ok (.iload 5, 2) := by decide +kernel
theorem dX9_neededBy_31 : decode cX9_neededBy 31 = .ok (.bipush 10, 2) := by decide +kernel
theorem dX9_neededBy_33 : decode cX9_neededBy 33 = .ok (.if_icmp .ge 24, 3) := by decide +kernel
theorem dX9_neededBy_36 : decode cX9_neededBy 36 = .ok (.iload_n 3, 1) := by decide +kernel
theorem dX9_neededBy_37 : decode cX9_neededBy 37 = .ok (.iload 5, 2) := by decide +kernel
theorem dX9_neededBy_39 : decode cX9_neededBy 39 = .ok (.idiv, 1) := by decide +kernel
theorem dX9_neededBy_40 : decode cX9_neededBy 40 = .ok (.iload 4, 2) := by decide +kernel
theorem dX9_neededBy_42 : decode cX9_neededBy 42 = .ok (.iload 5, 2) := by decide +kernel
theorem dX9_neededBy_44 : decode cX9_neededBy 44 = .ok (.idiv, 1) := by decide +kernel
theorem dX9_neededBy_45 : decode cX9_neededBy 45 = .ok (.if_icmp .ne 6, 3) := by decide +kernel
theorem dX9_neededBy_48 : decode cX9_neededBy 48 = .ok (.iload 5, 2) := by decide +kernel
theorem dX9_neededBy_50 : decode cX9_neededBy 50 = .ok (.ireturn, 1) := by decide +kernel
theorem dX9_neededBy_51 : decode cX9_neededBy 51 = .ok (.iinc 5 1, 3) := by decide +kernel
theorem dX9_neededBy_54 : decode cX9_neededBy 54 = .ok (.goto (-25), 3) := by decide +kernel
theorem dX9_neededBy_57 : decode cX9_neededBy 57 = .ok (.iconst (-1), 1) := by decide +kernel
theorem dX9_neededBy_58 : decode cX9_neededBy 58 = .ok (.ireturn, 1) := by decide +kernel
set_option maxRecDepth 20000 in
theorem ggX9_needed_X9_isPerson : GoodIn wsX9_needed wsX9_isPerson := goodIn_r _ [5, 6, 7, 4, 8] (by decide +kernel) (by decide +kernel)
set_option maxRecDepth 20000 in
theorem gX9_needed_X9_isPerson : GoodIn wsX9_needed (va_wsS RX9 77 yX9_isPerson wsX9_isPerson) := goodIn_app (goodIn_of _ (by decide +kernel)) ggX9_needed_X9_isPerson
set_option maxRecDepth 20000 in
theorem ggX9_needed_X9_in : GoodIn wsX9_needed wsX9_in := goodIn_r _ [8] (by decide +kernel) (by decide +kernel)
set_option maxRecDepth 20000 in
theorem gX9_needed_X9_in : GoodIn wsX9_needed (va_wsS RX9 30 yX9_in wsX9_in) := goodIn_app (goodIn_of _ (by decide +kernel)) ggX9_needed_X9_in
set_option maxRecDepth 20000 in
theorem ggX9_needed_X9_neededBy : GoodIn wsX9_needed wsX9_neededBy := goodIn_r _ [12, 13, 14, 15, 4, 16, 17, 18, 19, 20, 21, 6, 7, 8, 22, 23, 24, 25, 26, 27, 28, 29, 30, 31, 32, 33, 34, 35, 36, 37, 38, 39, 40, 41, 42, 43, 44, 45, 46, 47, 48, 49, 50, 51, 52, 57, 58, 59, 60, 61, 62, 63, 64, 65, 66, 67] (by decide +kernel) (by decide +kernel)
set_option maxRecDepth 20000 in
theorem gX9_needed_X9_neededBy : GoodIn wsX9_needed (wsV RX9 174 RX9 yX9_neededBy wsX9_neededBy) := goodIn_app (goodIn_of _ (by decide +kernel)) ggX9_needed_X9_neededBy
set_option maxRecDepth 20000 in
theorem ggX9_needed_X9_fails : GoodIn wsX9_needed wsX9_fails := goodIn_r _ [56, 1, 57, 58, 59, 60, 61, 62, 63, 64, 65, 66, 67] (by decide +kernel) (by decide +kernel)
set_option maxRecDepth 20000 in
theorem gX9_needed_X9_fails : GoodIn wsX9_needed (wsV RX9 80 RX9 yX9_fails wsX9_fails) := goodIn_app (goodIn_of _ (by decide +kernel)) ggX9_needed_X9_fails
theorem dX9_needed_0 : decode cX9_needed 0 = .ok (.aload_n 0, 1) := by decide +kernel
theorem dX9_needed_1 : decode cX9_needed 1 = .ok (.iconst 0, 1) := by decide +kernel
theorem dX9_needed_2 : decode cX9_needed 2 = .ok (.putfield 22, 3) := by decide +kernel
theorem dX9_needed_5 : decode cX9_needed 5 = .ok (.iload_n 1, 1) := by decide +kernel
theorem dX9_needed_6 : decode cX9_needed 6 = .ok (.invokestatic 77, 3) := by decide +kernel
theorem dX9_needed_9 : decode cX9_needed 9 = .ok (.ifCond .eq 21, 3) := by decide +kernel
theorem dX9_needed_12 : decode cX9_needed 12 = .ok (.iload_n 2, 1) := by decide +kernel
theorem dX9_needed_13 : decode cX9_needed 13 = .ok (.iconst (-1), 1) := by decide +kernel
theorem dX9_needed_14 : decode cX9_needed 14 = .ok (.iconst 3, 1) := by decide +kernel
theorem dX9_needed_15 : decode cX9_needed 15 = .ok (.invokestatic 30, 3) := by decide +kernel
theorem dX9_needed_18 : decode cX9_needed 18 = .ok (.ifCond .eq 12, 3) := by decide +kernel
theorem dX9_needed_21 : decode cX9_needed 21 = .ok (.aload_n 0, 1) := by decide +kernel
theorem dX9_needed_22 : decode cX9_needed 22 = .ok (.iload_n 1, 1) := by decide +kernel
theorem dX9_needed_23 : decode cX9_needed 23 = .ok (.iload_n 2, 1) := by decide +kernel
theorem dX9_needed_24 : decode cX9_needed 24 = .ok (.invokevirtual 174, 3) := by decide +kernel
theorem dX9_needed_27 : decode cX9_needed 27 = .ok (.goto 8, 3) := by decide +kernel
theorem dX9_needed_30 : decode cX9_needed 30 = .ok (.aload_n 0, 1) := by decide +kernel
theorem dX9_needed_31 : decode cX9_needed 31 = .ok (.iconst 1, 1) := by decide +kernel
theorem dX9_needed_32 : decode cX9_needed 32 = .ok (.invokevirtual 80, 3) := by decide +kernel
theorem dX9_needed_35 : decode cX9_needed 35 = .ok (.ireturn, 1) := by decide +kernel
set_option maxRecDepth 20000 in
theorem ggX9_share_X9_veiledPairs : GoodIn wsX9_share wsX9_veiledPairs := goodIn_r _ [6, 1, 7, 8, 9, 5, 10, 11, 12, 13, 14, 15, 16, 17, 18, 19, 20, 21, 22, 23, 24, 25, 26, 27, 28, 29, 30, 31, 32, 33, 34, 35, 36, 37, 38, 39, 40, 41] (by decide +kernel) (by decide +kernel)
set_option maxRecDepth 20000 in
theorem gX9_share_X9_veiledPairs : GoodIn wsX9_share (wsV RX9 158 RX9 yX9_veiledPairs wsX9_veiledPairs) := goodIn_app (goodIn_of _ (by decide +kernel)) ggX9_share_X9_veiledPairs
theorem dX9_share_0 : decode cX9_share 0 = .ok (.iconst 5, 1) := by decide +kernel
theorem dX9_share_1 : decode cX9_share 1 = .ok (.aload_n 0, 1) := by decide +kernel
theorem dX9_share_2 : decode cX9_share 2 = .ok (.getfield 7, 3) := by decide +kernel
theorem dX9_share_5 : decode cX9_share 5 = .ok (.iconst 0, 1) := by decide +kernel
theorem dX9_share_6 : decode cX9_share 6 = .ok (.iaload, 1) := by decide +kernel
theorem dX9_share_7 : decode cX9_share 7 = .ok (.imul, 1) := by decide +kernel
theorem dX9_share_8 : decode cX9_share 8 = .ok (.istore_n 1, 1) := by decide +kernel
theorem dX9_share_9 : decode cX9_share 9 = .ok (.iload_n 1, 1) := by decide +kernel
theorem dX9_share_10 : decode cX9_share 10 = .ok (.ifCond .ne 7, 3) := by decide +kernel
theorem dX9_share_13 : decode cX9_share 13 = .ok (.dconst 1, 1) := by decide +kernel
theorem dX9_share_14 : decode cX9_share 14 = .ok (.goto 14, 3) := by decide +kernel
theorem dX9_share_17 : decode cX9_share 17 = .ok (.iload_n 1, 1) := by decide +kernel
theorem dX9_share_18 : decode cX9_share 18 = .ok (.aload_n 0, 1) := by decide +kernel
theorem dX9_share_19 : decode cX9_share 19 = .ok (.iconst (-1), 1) := by decide +kernel
theorem dX9_share_20 : decode cX9_share 20 = .ok (.invokevirtual 158, 3) := by decide +kernel
theorem dX9_share_23 : decode cX9_share 23 = .ok (.isub, 1) := by decide +kernel
theorem dX9_share_24 : decode cX9_share 24 = .ok (.i2d, 1) := by decide +kernel
theorem dX9_share_25 : decode cX9_share 25 = .ok (.iload_n 1, 1) := by decide +kernel
theorem dX9_share_26 : decode cX9_share 26 = .ok (.i2d, 1) := by decide +kernel
theorem dX9_share_27 : decode cX9_share 27 = .ok (.ddiv, 1) := by decide +kernel
theorem dX9_share_28 : decode cX9_share 28 = .ok (.dreturn, 1) := by decide +kernel
set_option maxRecDepth 20000 in
theorem ggX9_openness_X9_share : GoodIn wsX9_openness wsX9_share := goodIn_r _ [6, 7, 8, 9, 10, 5, 11, 12, 13, 14, 15, 16, 17, 18, 19, 20, 21, 22, 23, 24, 25, 26, 27, 28, 29, 30, 31, 32, 33, 34, 35, 36, 37, 38, 39, 40, 41, 42, 43, 44, 45, 46] (by decide +kernel) (by decide +kernel)
set_option maxRecDepth 20000 in
theorem gX9_openness_X9_share : GoodIn wsX9_openness (wsV RX9 177 RX9 yX9_share wsX9_share) := goodIn_app (goodIn_of _ (by decide +kernel)) ggX9_openness_X9_share
theorem dX9_openness_0 : decode cX9_openness 0 = .ok (.aload_n 0, 1) := by decide +kernel
theorem dX9_openness_1 : decode cX9_openness 1 = .ok (.iconst 0, 1) := by decide +kernel
theorem dX9_openness_2 : decode cX9_openness 2 = .ok (.putfield 22, 3) := by decide +kernel
theorem dX9_openness_5 : decode cX9_openness 5 = .ok (.aload_n 0, 1) := by decide +kernel
theorem dX9_openness_6 : decode cX9_openness 6 = .ok (.invokevirtual 177, 3) := by decide +kernel
theorem dX9_openness_9 : decode cX9_openness 9 = .ok (.dreturn, 1) := by decide +kernel
theorem dX9_hashes_0 : decode cX9_hashes 0 = .ok (.aload_n 0, 1) := by decide +kernel
theorem dX9_hashes_1 : decode cX9_hashes 1 = .ok (.ldc2_w 181, 3) := by decide +kernel
theorem dX9_hashes_4 : decode cX9_hashes 4 = .ok (.aload_n 0, 1) := by decide +kernel
theorem dX9_hashes_5 : decode cX9_hashes 5 = .ok (.getfield 183, 3) := by decide +kernel
theorem dX9_hashes_8 : decode cX9_hashes 8 = .ok (.lmul, 1) := by decide +kernel
theorem dX9_hashes_9 : decode cX9_hashes 9 = .ok (.lload_n 1, 1) := by decide +kernel
theorem dX9_hashes_10 : decode cX9_hashes 10 = .ok (.ladd, 1) := by decide +kernel
theorem dX9_hashes_11 : decode cX9_hashes 11 = .ok (.putfield 183, 3) := by decide +kernel
theorem dX9_hashes_14 : decode cX9_hashes 14 = .ok (.return_, 1) := by decide +kernel
set_option maxRecDepth 20000 in
theorem ggX9_hashesPerson_X9_tellsPerson : GoodIn wsX9_hashesPerson wsX9_tellsPerson := goodIn_r _ [5, 6, 7, 8, 4, 9, 10, 11, 12, 13, 14, 15, 16, 17, 18, 19, 20, 21, 22, 23, 24, 25, 26, 27, 28, 29, 30, 31, 32, 33, 34, 35, 36, 37, 38, 39, 40, 41, 87, 88, 89, 90, 91, 92, 93, 94, 95, 96, 97] (by decide +kernel) (by decide +kernel)
set_option maxRecDepth 20000 in
theorem gX9_hashesPerson_X9_tellsPerson : GoodIn wsX9_hashesPerson (wsV RX9 152 RX9 yX9_tellsPerson wsX9_tellsPerson) := goodIn_app (goodIn_of _ (by decide +kernel)) ggX9_hashesPerson_X9_tellsPerson
set_option maxRecDepth 20000 in
theorem ggX9_hashesPerson_X9_hashes : GoodIn wsX9_hashesPerson wsX9_hashes := goodIn_r _ [45, 46, 47, 87, 88, 89, 90, 91, 92, 93, 94, 95, 96, 97] (by decide +kernel) (by decide +kernel)
set_option maxRecDepth 20000 in
theorem gX9_hashesPerson_X9_hashes : GoodIn wsX9_hashesPerson (wsV RX9 187 RX9 yX9_hashes wsX9_hashes) := goodIn_app (goodIn_of _ (by decide +kernel)) ggX9_hashesPerson_X9_hashes
set_option maxRecDepth 20000 in
theorem ggX9_hashesPerson_X9_kept : GoodIn wsX9_hashesPerson wsX9_kept := goodIn_r _ [41, 10, 87, 88, 89, 90, 91, 92, 93, 94, 95, 96, 97] (by decide +kernel) (by decide +kernel)
set_option maxRecDepth 20000 in
theorem gX9_hashesPerson_X9_kept : GoodIn wsX9_hashesPerson (wsV RX9 61 RX9 yX9_kept wsX9_kept) := goodIn_app (goodIn_of _ (by decide +kernel)) ggX9_hashesPerson_X9_kept
set_option maxRecDepth 20000 in
theorem ggX9_hashesPerson_X9_keptAt : GoodIn wsX9_hashesPerson wsX9_keptAt := goodIn_r _ [51, 10, 87, 88, 89, 90, 91, 92, 93, 94, 95, 96, 97] (by decide +kernel) (by decide +kernel)
set_option maxRecDepth 20000 in
theorem gX9_hashesPerson_X9_keptAt : GoodIn wsX9_hashesPerson (wsV RX9 64 RX9 yX9_keptAt wsX9_keptAt) := goodIn_app (goodIn_of _ (by decide +kernel)) ggX9_hashesPerson_X9_keptAt
set_option maxRecDepth 20000 in
theorem ggX9_hashesPerson_X9_would : GoodIn wsX9_hashesPerson wsX9_would := goodIn_r _ [55, 56, 57, 58, 4, 59, 60, 61, 62, 63, 10, 23, 24, 25, 26, 64, 65, 66, 15, 16, 17, 18, 19, 20, 21, 22, 27, 28, 29, 30, 6, 7, 8, 9, 31, 32, 33, 34, 11, 12, 13, 14, 67, 68, 69, 70, 71, 72, 73, 74, 35, 36, 37, 75, 76, 77, 78, 38, 39, 40, 41, 48, 49, 50, 51, 79, 80, 81, 82, 87, 88, 89, 90, 91, 92, 93, 94, 95, 96, 97] (by decide +kernel) (by decide +kernel)
set_option maxRecDepth 20000 in
theorem gX9_hashesPerson_X9_would : GoodIn wsX9_hashesPerson (wsV RX9 164 RX9 yX9_would wsX9_would) := goodIn_app (goodIn_of _ (by decide +kernel)) ggX9_hashesPerson_X9_would
set_option maxRecDepth 20000 in
theorem ggX9_hashesPerson_X9_neededBy : GoodIn wsX9_hashesPerson wsX9_neededBy := goodIn_r _ [86, 60, 61, 62, 4, 63, 10, 23, 24, 25, 26, 64, 65, 66, 35, 36, 37, 56, 57, 58, 59, 15, 16, 17, 18, 19, 20, 21, 22, 27, 28, 29, 30, 6, 7, 8, 9, 31, 32, 33, 34, 11, 12, 13, 14, 87, 88, 89, 90, 91, 92, 93, 94, 95, 96, 97] (by decide +kernel) (by decide +kernel)
set_option maxRecDepth 20000 in
theorem gX9_hashesPerson_X9_neededBy : GoodIn wsX9_hashesPerson (wsV RX9 174 RX9 yX9_neededBy wsX9_neededBy) := goodIn_app (goodIn_of _ (by decide +kernel)) ggX9_hashesPerson_X9_neededBy
theorem dX9_hashesPerson_0 : decode cX9_hashesPerson 0 = .ok (.iconst 0, 1) := by decide +kernel
theorem dX9_hashesPerson_1 : decode cX9_hashesPerson 1 = .ok (.istore_n 2, 1) := by decide +kernel
theorem dX9_hashesPerson_2 : decode cX9_hashesPerson 2 = .ok (.iload_n 2, 1) := by decide +kernel
theorem dX9_hashesPerson_3 : decode cX9_hashesPerson 3 = .ok (.bipush 8, 2) := by decide +kernel
theorem dX9_hashesPerson_5 : decode cX9_hashesPerson 5 = .ok (.if_icmp .ge 20, 3) := by decide +kernel
theorem dX9_hashesPerson_8 : decode cX9_hashesPerson 8 = .ok (.aload_n 0, 1) := by decide +kernel
theorem dX9_hashesPerson_9 : decode cX9_hashesPerson 9 = .ok (.aload_n 0, 1) := by decide +kernel
theorem dX9_hashesPerson_10 : decode cX9_hashesPerson 10 = .ok (.iload_n 1, 1) := by decide +kernel
theorem dX9_hashesPerson_11 : decode cX9_hashesPerson 11 = .ok (.iload_n 2, 1) := by decide +kernel
theorem dX9_hashesPerson_12 : decode cX9_hashesPerson 12 = .ok (.invokevirtual 152, 3) := by decide +kernel
theorem dX9_hashesPerson_15 : decode cX9_hashesPerson 15 = .ok (.i2l, 1) := by decide +kernel
theorem dX9_hashesPerson_16 : decode cX9_hashesPerson 16 = .ok (.invokevirtual 187, 3) := by decide +kernel
theorem dX9_hashesPerson_19 : decode cX9_hashesPerson 19 = .ok (.iinc 2 1, 3) := by decide +kernel
theorem dX9_hashesPerson_22 : decode cX9_hashesPerson 22 = .ok (.goto (-20), 3) := by decide +kernel
theorem dX9_hashesPerson_25 : decode cX9_hashesPerson 25 = .ok (.iconst 0, 1) := by decide +kernel
theorem dX9_hashesPerson_26 : decode cX9_hashesPerson 26 = .ok (.istore_n 2, 1) := by decide +kernel
theorem dX9_hashesPerson_27 : decode cX9_hashesPerson 27 = .ok (.iload_n 2, 1) := by decide +kernel
theorem dX9_hashesPerson_28 : decode cX9_hashesPerson 28 = .ok (.aload_n 0, 1) := by decide +kernel
theorem dX9_hashesPerson_29 : decode cX9_hashesPerson 29 = .ok (.iload_n 1, 1) := by decide +kernel
theorem dX9_hashesPerson_30 : decode cX9_hashesPerson 30 = .ok (.invokevirtual 61, 3) := by decide +kernel
theorem dX9_hashesPerson_33 : decode cX9_hashesPerson 33 = .ok (.if_icmp .ge 20, 3) := by decide +kernel
theorem dX9_hashesPerson_36 : decode cX9_hashesPerson 36 = .ok (.aload_n 0, 1) := by decide +kernel
theorem dX9_hashesPerson_37 : decode cX9_hashesPerson 37 = .ok (.aload_n 0, 1) := by decide +kernel
theorem dX9_hashesPerson_38 : decode cX9_hashesPerson 38 = .ok (.iload_n 1, 1) := by decide +kernel
theorem dX9_hashesPerson_39 : decode cX9_hashesPerson 39 = .ok (.iload_n 2, 1) := by decide +kernel
theorem dX9_hashesPerson_40 : decode cX9_hashesPerson 40 = .ok (.invokevirtual 64, 3) := by decide +kernel
theorem dX9_hashesPerson_43 : decode cX9_hashesPerson 43 = .ok (.i2l, 1) := by decide +kernel
theorem dX9_hashesPerson_44 : decode cX9_hashesPerson 44 = .ok (.invokevirtual 187, 3) := by decide +kernel
theorem dX9_hashesPerson_47 : decode cX9_hashesPerson 47 = .ok (.iinc 2 1, 3) := by decide +kernel
theorem dX9_hashesPerson_50 : decode cX9_hashesPerson 50 = .ok (.goto (-23), 3) := by decide +kernel
theorem dX9_hashesPerson_53 : decode cX9_hashesPerson 53 = .ok (.iconst 0, 1) := by decide +kernel
theorem dX9_hashesPerson_54 : decode cX9_hashesPerson 54 = .ok (.istore_n 2, 1) := by decide +kernel
theorem dX9_hashesPerson_55 : decode cX9_hashesPerson 55 = .ok (.iload_n 2, 1) := by decide +kernel
theorem dX9_hashesPerson_56 : decode cX9_hashesPerson 56 = .ok (.iconst 4, 1) := by decide +kernel
theorem dX9_hashesPerson_57 : decode cX9_hashesPerson 57 = .ok (.if_icmp .ge 24, 3) := by decide +kernel
theorem dX9_hashesPerson_60 : decode cX9_hashesPerson 60 = .ok (.aload_n 0, 1) := by decide +kernel
theorem dX9_hashesPerson_61 : decode cX9_hashesPerson 61 = .ok (.aload_n 0, 1) := by decide +kernel
theorem dX9_hashesPerson_62 : decode cX9_hashesPerson 62 = .ok (.iload_n 1, 1) := by decide +kernel
theorem dX9_hashesPerson_63 : decode cX9_hashesPerson 63 = .ok (.iconst (-1), 1) := by decide +kernel
theorem dX9_hashesPerson_64 : decode cX9_hashesPerson 64 = .ok (.iconst 0, 1) := by decide +kernel
theorem dX9_hashesPerson_65 : decode cX9_hashesPerson 65 = .ok (.bipush 99, 2) := by decide +kernel
theorem dX9_hashesPerson_67 : decode cX9_hashesPerson 67 = .ok (.iload_n 2, 1) := by decide +kernel
theorem dX9_hashesPerson_68 : decode cX9_hashesPerson 68 = .ok (.invokevirtual 164, 3) := by decide +kernel
theorem dX9_hashesPerson_71 : decode cX9_hashesPerson 71 = .ok (.i2l, 1) := by decide +kernel
theorem dX9_hashesPerson_72 : decode cX9_hashesPerson 72 = .ok (.invokevirtual 187, 3) := by decide +kernel
theorem dX9_hashesPerson_75 : decode cX9_hashesPerson 75 = .ok (.iinc 2 1, 3) := by decide +kernel
theorem dX9_hashesPerson_78 : decode cX9_hashesPerson 78 = .ok (.goto (-23), 3) := by decide +kernel
theorem dX9_hashesPerson_81 : decode cX9_hashesPerson 81 = .ok (.aload_n 0, 1) := by decide +kernel
theorem dX9_hashesPerson_82 : decode cX9_hashesPerson 82 = .ok (.aload_n 0, 1) := by decide +kernel
theorem dX9_hashesPerson_83 : decode cX9_hashesPerson 83 = .ok (.iload_n 1, 1) := by decide +kernel
theorem dX9_hashesPerson_84 : decode cX9_hashesPerson 84 = .ok (.iconst (-1), 1) := by decide +kernel
theorem dX9_hashesPerson_85 : decode cX9_hashesPerson 85 = .ok (.invokevirtual 174, 3) := by decide +kernel
theorem dX9_hashesPerson_88 : decode cX9_hashesPerson 88 = .ok (.i2l, 1) := by decide +kernel
theorem dX9_hashesPerson_89 : decode cX9_hashesPerson 89 = .ok (.invokevirtual 187, 3) := by decide +kernel
theorem dX9_hashesPerson_92 : decode cX9_hashesPerson 92 = .ok (.return_, 1) := by decide +kernel
set_option maxRecDepth 20000 in
theorem ggX9_digest_X9_tellsCount : GoodIn wsX9_digest wsX9_tellsCount := goodIn_r _ [11, 4, 12, 13, 14, 15, 10, 16, 17, 18, 19, 20, 21, 22, 23, 24, 25, 26, 27, 28, 29, 30, 31, 32, 33, 34, 35, 36, 37, 38, 39, 40, 41, 42, 43, 44, 140, 141, 142, 143, 144, 145, 146, 147, 148, 149, 150] (by decide +kernel) (by decide +kernel)
set_option maxRecDepth 20000 in
theorem gX9_digest_X9_tellsCount : GoodIn wsX9_digest (wsV RX9 161 RX9 yX9_tellsCount wsX9_tellsCount) := goodIn_app (goodIn_of _ (by decide +kernel)) ggX9_digest_X9_tellsCount
set_option maxRecDepth 20000 in
theorem ggX9_digest_X9_hashes : GoodIn wsX9_digest wsX9_hashes := goodIn_r _ [48, 49, 3, 140, 141, 142, 143, 144, 145, 146, 147, 148, 149, 150] (by decide +kernel) (by decide +kernel)
set_option maxRecDepth 20000 in
theorem gX9_digest_X9_hashes : GoodIn wsX9_digest (wsV RX9 187 RX9 yX9_hashes wsX9_hashes) := goodIn_app (goodIn_of _ (by decide +kernel)) ggX9_digest_X9_hashes
set_option maxRecDepth 20000 in
theorem ggX9_digest_X9_tellsRow : GoodIn wsX9_digest wsX9_tellsRow := goodIn_r _ [53, 54, 55, 56, 10, 57, 25, 26, 27, 28, 4, 29, 30, 31, 32, 33, 34, 35, 36, 17, 18, 19, 20, 37, 38, 39, 40, 41, 42, 43, 44, 140, 141, 142, 143, 144, 145, 146, 147, 148, 149, 150] (by decide +kernel) (by decide +kernel)
set_option maxRecDepth 20000 in
theorem gX9_digest_X9_tellsRow : GoodIn wsX9_digest (wsV RX9 149 RX9 yX9_tellsRow wsX9_tellsRow) := goodIn_app (goodIn_of _ (by decide +kernel)) ggX9_digest_X9_tellsRow
set_option maxRecDepth 20000 in
theorem ggX9_digest_X9_hashesPerson : GoodIn wsX9_digest wsX9_hashesPerson := goodIn_r _ [61, 62, 63, 64, 10, 65, 17, 18, 19, 20, 4, 41, 42, 43, 44, 66, 67, 68, 69, 25, 26, 27, 28, 29, 30, 31, 32, 33, 34, 35, 36, 37, 38, 39, 40, 70, 71, 72, 73, 74, 75, 76, 45, 46, 47, 48, 49, 3, 77, 78, 79, 80, 81, 82, 83, 84, 85, 86, 87, 88, 89, 90, 91, 92, 93, 94, 95, 96, 97, 98, 99, 100, 101, 102, 103, 104, 105, 106, 107, 108, 109, 110, 111, 112, 113, 114, 115, 140, 141, 142, 143, 144, 145, 146, 147, 148, 149, 150] (by decide +kernel) (by decide +kernel)
set_option maxRecDepth 20000 in
theorem gX9_digest_X9_hashesPerson : GoodIn wsX9_digest (wsV RX9 193 RX9 yX9_hashesPerson wsX9_hashesPerson) := goodIn_app (goodIn_of _ (by decide +kernel)) ggX9_digest_X9_hashesPerson
set_option maxRecDepth 20000 in
theorem ggX9_digest_X9_hidden : GoodIn wsX9_digest wsX9_hidden := goodIn_r _ [119, 4, 21, 22, 23, 10, 24, 25, 26, 27, 28, 29, 30, 31, 32, 33, 34, 35, 36, 17, 18, 19, 20, 37, 38, 39, 40, 41, 42, 43, 44, 140, 141, 142, 143, 144, 145, 146, 147, 148, 149, 150] (by decide +kernel) (by decide +kernel)
set_option maxRecDepth 20000 in
theorem gX9_digest_X9_hidden : GoodIn wsX9_digest (wsV RX9 168 RX9 yX9_hidden wsX9_hidden) := goodIn_app (goodIn_of _ (by decide +kernel)) ggX9_digest_X9_hidden
set_option maxRecDepth 20000 in
theorem ggX9_digest_X9_blindestOne : GoodIn wsX9_digest wsX9_blindestOne := goodIn_r _ [123, 66, 67, 68, 10, 69, 4, 25, 26, 27, 28, 29, 30, 31, 32, 33, 34, 35, 36, 17, 18, 19, 20, 37, 38, 39, 40, 41, 42, 43, 44, 70, 71, 72, 140, 141, 142, 143, 144, 145, 146, 147, 148, 149, 150] (by decide +kernel) (by decide +kernel)
set_option maxRecDepth 20000 in
theorem gX9_digest_X9_blindestOne : GoodIn wsX9_digest (wsV RX9 171 RX9 yX9_blindestOne wsX9_blindestOne) := goodIn_app (goodIn_of _ (by decide +kernel)) ggX9_digest_X9_blindestOne
set_option maxRecDepth 20000 in
theorem ggX9_digest_X9_share : GoodIn wsX9_digest wsX9_share := goodIn_r _ [127, 4, 21, 22, 23, 10, 24, 25, 26, 27, 28, 29, 30, 31, 32, 33, 34, 35, 36, 17, 18, 19, 20, 37, 38, 39, 40, 41, 42, 43, 44, 140, 141, 142, 143, 144, 145, 146, 147, 148, 149, 150] (by decide +kernel) (by decide +kernel)
set_option maxRecDepth 20000 in
theorem gX9_digest_X9_share : GoodIn wsX9_digest (wsV RX9 177 RX9 yX9_share wsX9_share) := goodIn_app (goodIn_of _ (by decide +kernel)) ggX9_digest_X9_share
set_option maxRecDepth 20000 in
theorem ggX9_digest_Jxe99ae_doubleToLongBits_ccdee : GoodIn wsX9_digest wsJxe99ae_doubleToLongBits_ccdee := goodIn_r _ [131, 132, 133, 134, 135, 136, 137, 138, 130, 139] (by decide +kernel) (by decide +kernel)
set_option maxRecDepth 20000 in
theorem gX9_digest_Jxe99ae_doubleToLongBits_ccdee : GoodIn wsX9_digest (va_wsS RX9 197 yJxe99ae_doubleToLongBits_ccdee wsJxe99ae_doubleToLongBits_ccdee) := goodIn_app (goodIn_of _ (by decide +kernel)) ggX9_digest_Jxe99ae_doubleToLongBits_ccdee
theorem dX9_digest_0 : decode cX9_digest 0 = .ok (.aload_n 0, 1) := by decide +kernel
theorem dX9_digest_1 : decode cX9_digest 1 = .ok (.iconst 0, 1) := by decide +kernel
theorem dX9_digest_2 : decode cX9_digest 2 = .ok (.putfield 22, 3) := by decide +kernel
theorem dX9_digest_5 : decode cX9_digest 5 = .ok (.aload_n 0, 1) := by decide +kernel
theorem dX9_digest_6 : decode cX9_digest 6 = .ok (.ldc2_w 191, 3) := by decide +kernel
theorem dX9_digest_9 : decode cX9_digest 9 = .ok (.putfield 183, 3) := by decide +kernel
theorem dX9_digest_12 : decode cX9_digest 12 = .ok (.iconst 0, 1) := by decide +kernel
theorem dX9_digest_13 : decode cX9_digest 13 = .ok (.istore_n 1, 1) := by decide +kernel
theorem dX9_digest_14 : decode cX9_digest 14 = .ok (.iload_n 1, 1) := by decide +kernel
theorem dX9_digest_15 : decode cX9_digest 15 = .ok (.bipush 10, 2) := by decide +kernel
theorem dX9_digest_17 : decode cX9_digest 17 = .ok (.if_icmp .ge 19, 3) := by decide +kernel
theorem dX9_digest_20 : decode cX9_digest 20 = .ok (.aload_n 0, 1) := by decide +kernel
theorem dX9_digest_21 : decode cX9_digest 21 = .ok (.aload_n 0, 1) := by decide +kernel
theorem dX9_digest_22 : decode cX9_digest 22 = .ok (.iload_n 1, 1) := by decide +kernel
theorem dX9_digest_23 : decode cX9_digest 23 = .ok (.invokevirtual 161, 3) := by decide +kernel
theorem dX9_digest_26 : decode cX9_digest 26 = .ok (.i2l, 1) := by decide +kernel
theorem dX9_digest_27 : decode cX9_digest 27 = .ok (.invokevirtual 187, 3) := by decide +kernel
theorem dX9_digest_30 : decode cX9_digest 30 = .ok (.iinc 1 1, 3) := by decide +kernel
theorem dX9_digest_33 : decode cX9_digest 33 = .ok (.goto (-19), 3) := by decide +kernel
theorem dX9_digest_36 : decode cX9_digest 36 = .ok (.iconst 0, 1) := by decide +kernel
theorem dX9_digest_37 : decode cX9_digest 37 = .ok (.istore_n 1, 1) := by decide +kernel
theorem dX9_digest_38 : decode cX9_digest 38 = .ok (.iload_n 1, 1) := by decide +kernel
theorem dX9_digest_39 : decode cX9_digest 39 = .ok (.iconst 5, 1) := by decide +kernel
theorem dX9_digest_40 : decode cX9_digest 40 = .ok (.aload_n 0, 1) := by decide +kernel
theorem dX9_digest_41 : decode cX9_digest 41 = .ok (.getfield 7, 3) := by decide +kernel
theorem dX9_digest_44 : decode cX9_digest 44 = .ok (.iconst 0, 1) := by decide +kernel
theorem dX9_digest_45 : decode cX9_digest 45 = .ok (.iaload, 1) := by decide +kernel
theorem dX9_digest_46 : decode cX9_digest 46 = .ok (.imul, 1) := by decide +kernel
theorem dX9_digest_47 : decode cX9_digest 47 = .ok (.if_icmp .ge 24, 3) := by decide +kernel
theorem dX9_digest_50 : decode cX9_digest 50 = .ok (.aload_n 0, 1) := by decide +kernel
theorem dX9_digest_51 : decode cX9_digest 51 = .ok (.aload_n 0, 1) := by decide +kernel
theorem dX9_digest_52 : decode cX9_digest 52 = .ok (.iload_n 1, 1) := by decide +kernel
theorem dX9_digest_53 : decode cX9_digest 53 = .ok (.iconst 5, 1) := by decide +kernel
theorem dX9_digest_54 : decode cX9_digest 54 = .ok (.idiv, 1) := by decide +kernel
theorem dX9_digest_55 : decode cX9_digest 55 = .ok (.iload_n 1, 1) := by decide +kernel
theorem dX9_digest_56 : decode cX9_digest 56 = .ok (.iconst 5, 1) := by decide +kernel
theorem dX9_digest_57 : decode cX9_digest 57 = .ok (.irem, 1) := by decide +kernel
theorem dX9_digest_58 : decode cX9_digest 58 = .ok (.invokevirtual 149, 3) := by decide +kernel
theorem dX9_digest_61 : decode cX9_digest 61 = .ok (.i2l, 1) := by decide +kernel
theorem dX9_digest_62 : decode cX9_digest 62 = .ok (.invokevirtual 187, 3) := by decide +kernel
theorem dX9_digest_65 : decode cX9_digest 65 = .ok (.iinc 1 1, 3) := by decide +kernel
theorem dX9_digest_68 : decode cX9_digest 68 = .ok (.goto (-30), 3) := by decide +kernel
theorem dX9_digest_71 : decode cX9_digest 71 = .ok (.iconst 0, 1) := by decide +kernel
theorem dX9_digest_72 : decode cX9_digest 72 = .ok (.istore_n 1, 1) := by decide +kernel
theorem dX9_digest_73 : decode cX9_digest 73 = .ok (.iload_n 1, 1) := by decide +kernel
theorem dX9_digest_74 : decode cX9_digest 74 = .ok (.iconst 5, 1) := by decide +kernel
theorem dX9_digest_75 : decode cX9_digest 75 = .ok (.if_icmp .ge 14, 3) := by decide +kernel
theorem dX9_digest_78 : decode cX9_digest 78 = .ok (.aload_n 0, 1) := by decide +kernel
theorem dX9_digest_79 : decode cX9_digest 79 = .ok (.iload_n 1, 1) := by decide +kernel
theorem dX9_digest_80 : decode cX9_digest 80 = .ok (.invokevirtual 193, 3) := by decide +kernel
theorem dX9_digest_83 : decode cX9_digest 83 = .ok (.iinc 1 1, 3) := by decide +kernel
theorem dX9_digest_86 : decode cX9_digest 86 = .ok (.goto (-13), 3) := by decide +kernel
theorem dX9_digest_89 : decode cX9_digest 89 = .ok (.iconst 0, 1) := by decide +kernel
theorem dX9_digest_90 : decode cX9_digest 90 = .ok (.istore_n 1, 1) := by decide +kernel
theorem dX9_digest_91 : decode cX9_digest 91 = .ok (.iload_n 1, 1) := by decide +kernel
theorem dX9_digest_92 : decode cX9_digest 92 = .ok (.iconst 4, 1) := by decide +kernel
theorem dX9_digest_93 : decode cX9_digest 93 = .ok (.if_icmp .ge 19, 3) := by decide +kernel
theorem dX9_digest_96 : decode cX9_digest 96 = .ok (.aload_n 0, 1) := by decide +kernel
theorem dX9_digest_97 : decode cX9_digest 97 = .ok (.aload_n 0, 1) := by decide +kernel
theorem dX9_digest_98 : decode cX9_digest 98 = .ok (.iload_n 1, 1) := by decide +kernel
theorem dX9_digest_99 : decode cX9_digest 99 = .ok (.invokevirtual 168, 3) := by decide +kernel
theorem dX9_digest_102 : decode cX9_digest 102 = .ok (.i2l, 1) := by decide +kernel
theorem dX9_digest_103 : decode cX9_digest 103 = .ok (.invokevirtual 187, 3) := by decide +kernel
theorem dX9_digest_106 : decode cX9_digest 106 = .ok (.iinc 1 1, 3) := by decide +kernel
theorem dX9_digest_109 : decode cX9_digest 109 = .ok (.goto (-18), 3) := by decide +kernel
theorem dX9_digest_112 : decode cX9_digest 112 = .ok (.aload_n 0, 1) := by decide +kernel
theorem dX9_digest_113 : decode cX9_digest 113 = .ok (.aload_n 0, 1) := by decide +kernel
theorem dX9_digest_114 : decode cX9_digest 114 = .ok (.invokevirtual 171, 3) := by decide +kernel
theorem dX9_digest_117 : decode cX9_digest 117 = .ok (.i2l, 1) := by decide +kernel
theorem dX9_digest_118 : decode cX9_digest 118 = .ok (.invokevirtual 187, 3) := by decide +kernel
theorem dX9_digest_121 : decode cX9_digest 121 = .ok (.aload_n 0, 1) := by decide +kernel
theorem dX9_digest_122 : decode cX9_digest 122 = .ok (.aload_n 0, 1) := by decide +kernel
theorem dX9_digest_123 : decode cX9_digest 123 = .ok (.invokevirtual 177, 3) := by decide +kernel
theorem dX9_digest_126 : decode cX9_digest 126 = .ok (.invokestatic 197, 3) := by decide +kernel
theorem dX9_digest_129 : decode cX9_digest 129 = .ok (.invokevirtual 187, 3) := by decide +kernel
theorem dX9_digest_132 : decode cX9_digest 132 = .ok (.aload_n 0, 1) := by decide +kernel
theorem dX9_digest_133 : decode cX9_digest 133 = .ok (.aload_n 0, 1) := by decide +kernel
theorem dX9_digest_134 : decode cX9_digest 134 = .ok (.getfield 117, 3) := by decide +kernel
theorem dX9_digest_137 : decode cX9_digest 137 = .ok (.i2l, 1) := by decide +kernel
theorem dX9_digest_138 : decode cX9_digest 138 = .ok (.invokevirtual 187, 3) := by decide +kernel
theorem dX9_digest_141 : decode cX9_digest 141 = .ok (.iconst 0, 1) := by decide +kernel
theorem dX9_digest_142 : decode cX9_digest 142 = .ok (.istore_n 1, 1) := by decide +kernel
theorem dX9_digest_143 : decode cX9_digest 143 = .ok (.iload_n 1, 1) := by decide +kernel
theorem dX9_digest_144 : decode cX9_digest 144 = .ok (.aload_n 0, 1) := by decide +kernel
theorem dX9_digest_145 : decode cX9_digest 145 = .ok (.getfield 117, 3) := by decide +kernel
theorem dX9_digest_148 : decode cX9_digest 148 = .ok (.if_icmp .ge 20, 3) := by decide +kernel
theorem dX9_digest_151 : decode cX9_digest 151 = .ok (.aload_n 0, 1) := by decide +kernel
theorem dX9_digest_152 : decode cX9_digest 152 = .ok (.aload_n 0, 1) := by decide +kernel
theorem dX9_digest_153 : decode cX9_digest 153 = .ok (.getfield 16, 3) := by decide +kernel
theorem dX9_digest_156 : decode cX9_digest 156 = .ok (.iload_n 1, 1) := by decide +kernel
theorem dX9_digest_157 : decode cX9_digest 157 = .ok (.iaload, 1) := by decide +kernel
theorem dX9_digest_158 : decode cX9_digest 158 = .ok (.i2l, 1) := by decide +kernel
theorem dX9_digest_159 : decode cX9_digest 159 = .ok (.invokevirtual 187, 3) := by decide +kernel
theorem dX9_digest_162 : decode cX9_digest 162 = .ok (.iinc 1 1, 3) := by decide +kernel
theorem dX9_digest_165 : decode cX9_digest 165 = .ok (.goto (-22), 3) := by decide +kernel
theorem dX9_digest_168 : decode cX9_digest 168 = .ok (.aload_n 0, 1) := by decide +kernel
theorem dX9_digest_169 : decode cX9_digest 169 = .ok (.getfield 183, 3) := by decide +kernel
theorem dX9_digest_172 : decode cX9_digest 172 = .ok (.lreturn, 1) := by decide +kernel
theorem dJxe99ae_isNaN_b9ae7_0 : decode cJxe99ae_isNaN_b9ae7 0 = .ok (.dload_n 0, 1) := by decide +kernel
theorem dJxe99ae_isNaN_b9ae7_1 : decode cJxe99ae_isNaN_b9ae7 1 = .ok (.dload_n 0, 1) := by decide +kernel
theorem dJxe99ae_isNaN_b9ae7_2 : decode cJxe99ae_isNaN_b9ae7 2 = .ok (.dcmp .l, 1) := by decide +kernel
theorem dJxe99ae_isNaN_b9ae7_3 : decode cJxe99ae_isNaN_b9ae7 3 = .ok (.ifCond .eq 7, 3) := by decide +kernel
theorem dJxe99ae_isNaN_b9ae7_6 : decode cJxe99ae_isNaN_b9ae7 6 = .ok (.iconst 1, 1) := by decide +kernel
theorem dJxe99ae_isNaN_b9ae7_7 : decode cJxe99ae_isNaN_b9ae7 7 = .ok (.goto 4, 3) := by decide +kernel
theorem dJxe99ae_isNaN_b9ae7_10 : decode cJxe99ae_isNaN_b9ae7 10 = .ok (.iconst 0, 1) := by decide +kernel
theorem dJxe99ae_isNaN_b9ae7_11 : decode cJxe99ae_isNaN_b9ae7 11 = .ok (.ireturn, 1) := by decide +kernel
set_option maxRecDepth 20000 in
theorem ggJxe99ae_doubleToLongBits_ccdee_Jxe99ae_isNaN_b9ae7 : GoodIn wsJxe99ae_doubleToLongBits_ccdee wsJxe99ae_isNaN_b9ae7 := goodIn_r _ [9] (by decide +kernel) (by decide +kernel)
set_option maxRecDepth 20000 in
theorem gJxe99ae_doubleToLongBits_ccdee_Jxe99ae_isNaN_b9ae7 : GoodIn wsJxe99ae_doubleToLongBits_ccdee (va_wsS RJxe99ae 122 yJxe99ae_isNaN_b9ae7 wsJxe99ae_isNaN_b9ae7) := goodIn_app (goodIn_of _ (by decide +kernel)) ggJxe99ae_doubleToLongBits_ccdee_Jxe99ae_isNaN_b9ae7
theorem dJxe99ae_doubleToLongBits_ccdee_0 : decode cJxe99ae_doubleToLongBits_ccdee 0 = .ok (.dload_n 0, 1) := by decide +kernel
theorem dJxe99ae_doubleToLongBits_ccdee_1 : decode cJxe99ae_doubleToLongBits_ccdee 1 = .ok (.invokestatic 122, 3) := by decide +kernel
theorem dJxe99ae_doubleToLongBits_ccdee_4 : decode cJxe99ae_doubleToLongBits_ccdee 4 = .ok (.ifCond .ne 8, 3) := by decide +kernel
theorem dJxe99ae_doubleToLongBits_ccdee_7 : decode cJxe99ae_doubleToLongBits_ccdee 7 = .ok (.dload_n 0, 1) := by decide +kernel
theorem dJxe99ae_doubleToLongBits_ccdee_8 : decode cJxe99ae_doubleToLongBits_ccdee 8 = .ok (.invokestatic 134, 3) := by decide +kernel
theorem dJxe99ae_doubleToLongBits_ccdee_11 : decode cJxe99ae_doubleToLongBits_ccdee 11 = .ok (.lreturn, 1) := by decide +kernel
theorem dJxe99ae_doubleToLongBits_ccdee_12 : decode cJxe99ae_doubleToLongBits_ccdee 12 = .ok (.ldc2_w 137, 3) := by decide +kernel
theorem dJxe99ae_doubleToLongBits_ccdee_15 : decode cJxe99ae_doubleToLongBits_ccdee 15 = .ok (.lreturn, 1) := by decide +kernel
theorem dJ6_bitCount_0f7a4_0 : decode cJ6_bitCount_0f7a4 0 = .ok (.iload_n 0, 1) := by decide +kernel
theorem dJ6_bitCount_0f7a4_1 : decode cJ6_bitCount_0f7a4 1 = .ok (.iload_n 0, 1) := by decide +kernel
theorem dJ6_bitCount_0f7a4_2 : decode cJ6_bitCount_0f7a4 2 = .ok (.iconst 1, 1) := by decide +kernel
theorem dJ6_bitCount_0f7a4_3 : decode cJ6_bitCount_0f7a4 3 = .ok (.iushr, 1) := by decide +kernel
theorem dJ6_bitCount_0f7a4_4 : decode cJ6_bitCount_0f7a4 4 = .ok (.ldc_w 265, 3) := by decide +kernel
theorem dJ6_bitCount_0f7a4_7 : decode cJ6_bitCount_0f7a4 7 = .ok (.iand, 1) := by decide +kernel
theorem dJ6_bitCount_0f7a4_8 : decode cJ6_bitCount_0f7a4 8 = .ok (.isub, 1) := by decide +kernel
theorem dJ6_bitCount_0f7a4_9 : decode cJ6_bitCount_0f7a4 9 = .ok (.istore_n 0, 1) := by decide +kernel
theorem dJ6_bitCount_0f7a4_10 : decode cJ6_bitCount_0f7a4 10 = .ok (.iload_n 0, 1) := by decide +kernel
theorem dJ6_bitCount_0f7a4_11 : decode cJ6_bitCount_0f7a4 11 = .ok (.ldc_w 266, 3) := by decide +kernel
theorem dJ6_bitCount_0f7a4_14 : decode cJ6_bitCount_0f7a4 14 = .ok (.iand, 1) := by decide +kernel
theorem dJ6_bitCount_0f7a4_15 : decode cJ6_bitCount_0f7a4 15 = .ok (.iload_n 0, 1) := by decide +kernel
theorem dJ6_bitCount_0f7a4_16 : decode cJ6_bitCount_0f7a4 16 = .ok (.iconst 2, 1) := by decide +kernel
theorem dJ6_bitCount_0f7a4_17 : decode cJ6_bitCount_0f7a4 17 = .ok (.iushr, 1) := by decide +kernel
theorem dJ6_bitCount_0f7a4_18 : decode cJ6_bitCount_0f7a4 18 = .ok (.ldc_w 266, 3) := by decide +kernel
theorem dJ6_bitCount_0f7a4_21 : decode cJ6_bitCount_0f7a4 21 = .ok (.iand, 1) := by decide +kernel
theorem dJ6_bitCount_0f7a4_22 : decode cJ6_bitCount_0f7a4 22 = .ok (.iadd, 1) := by decide +kernel
theorem dJ6_bitCount_0f7a4_23 : decode cJ6_bitCount_0f7a4 23 = .ok (.istore_n 0, 1) := by decide +kernel
theorem dJ6_bitCount_0f7a4_24 : decode cJ6_bitCount_0f7a4 24 = .ok (.iload_n 0, 1) := by decide +kernel
theorem dJ6_bitCount_0f7a4_25 : decode cJ6_bitCount_0f7a4 25 = .ok (.iload_n 0, 1) := by decide +kernel
theorem dJ6_bitCount_0f7a4_26 : decode cJ6_bitCount_0f7a4 26 = .ok (.iconst 4, 1) := by decide +kernel
theorem dJ6_bitCount_0f7a4_27 : decode cJ6_bitCount_0f7a4 27 = .ok (.iushr, 1) := by decide +kernel
theorem dJ6_bitCount_0f7a4_28 : decode cJ6_bitCount_0f7a4 28 = .ok (.iadd, 1) := by decide +kernel
theorem dJ6_bitCount_0f7a4_29 : decode cJ6_bitCount_0f7a4 29 = .ok (.ldc_w 267, 3) := by decide +kernel
theorem dJ6_bitCount_0f7a4_32 : decode cJ6_bitCount_0f7a4 32 = .ok (.iand, 1) := by decide +kernel
theorem dJ6_bitCount_0f7a4_33 : decode cJ6_bitCount_0f7a4 33 = .ok (.istore_n 0, 1) := by decide +kernel
theorem dJ6_bitCount_0f7a4_34 : decode cJ6_bitCount_0f7a4 34 = .ok (.iload_n 0, 1) := by decide +kernel
theorem dJ6_bitCount_0f7a4_35 : decode cJ6_bitCount_0f7a4 35 = .ok (.iload_n 0, 1) := by decide +kernel
theorem dJ6_bitCount_0f7a4_36 : decode cJ6_bitCount_0f7a4 36 = .ok (.bipush 8, 2) := by decide +kernel
theorem dJ6_bitCount_0f7a4_38 : decode cJ6_bitCount_0f7a4 38 = .ok (.iushr, 1) := by decide +kernel
theorem dJ6_bitCount_0f7a4_39 : decode cJ6_bitCount_0f7a4 39 = .ok (.iadd, 1) := by decide +kernel
theorem dJ6_bitCount_0f7a4_40 : decode cJ6_bitCount_0f7a4 40 = .ok (.istore_n 0, 1) := by decide +kernel
theorem dJ6_bitCount_0f7a4_41 : decode cJ6_bitCount_0f7a4 41 = .ok (.iload_n 0, 1) := by decide +kernel
theorem dJ6_bitCount_0f7a4_42 : decode cJ6_bitCount_0f7a4 42 = .ok (.iload_n 0, 1) := by decide +kernel
theorem dJ6_bitCount_0f7a4_43 : decode cJ6_bitCount_0f7a4 43 = .ok (.bipush 16, 2) := by decide +kernel
theorem dJ6_bitCount_0f7a4_45 : decode cJ6_bitCount_0f7a4 45 = .ok (.iushr, 1) := by decide +kernel
theorem dJ6_bitCount_0f7a4_46 : decode cJ6_bitCount_0f7a4 46 = .ok (.iadd, 1) := by decide +kernel
theorem dJ6_bitCount_0f7a4_47 : decode cJ6_bitCount_0f7a4 47 = .ok (.istore_n 0, 1) := by decide +kernel
theorem dJ6_bitCount_0f7a4_48 : decode cJ6_bitCount_0f7a4 48 = .ok (.iload_n 0, 1) := by decide +kernel
theorem dJ6_bitCount_0f7a4_49 : decode cJ6_bitCount_0f7a4 49 = .ok (.bipush 63, 2) := by decide +kernel
theorem dJ6_bitCount_0f7a4_51 : decode cJ6_bitCount_0f7a4 51 = .ok (.iand, 1) := by decide +kernel
theorem dJ6_bitCount_0f7a4_52 : decode cJ6_bitCount_0f7a4 52 = .ok (.ireturn, 1) := by decide +kernel
theorem dJ9_max_7cf53_0 : decode cJ9_max_7cf53 0 = .ok (.iload_n 0, 1) := by decide +kernel
theorem dJ9_max_7cf53_1 : decode cJ9_max_7cf53 1 = .ok (.iload_n 1, 1) := by decide +kernel
theorem dJ9_max_7cf53_2 : decode cJ9_max_7cf53 2 = .ok (.if_icmp .lt 7, 3) := by decide +kernel
theorem dJ9_max_7cf53_5 : decode cJ9_max_7cf53 5 = .ok (.iload_n 0, 1) := by decide +kernel
theorem dJ9_max_7cf53_6 : decode cJ9_max_7cf53 6 = .ok (.goto 4, 3) := by decide +kernel
theorem dJ9_max_7cf53_9 : decode cJ9_max_7cf53 9 = .ok (.iload_n 1, 1) := by decide +kernel
theorem dJ9_max_7cf53_10 : decode cJ9_max_7cf53 10 = .ok (.ireturn, 1) := by decide +kernel
theorem dJ9_min_7cf53_0 : decode cJ9_min_7cf53 0 = .ok (.iload_n 0, 1) := by decide +kernel
theorem dJ9_min_7cf53_1 : decode cJ9_min_7cf53 1 = .ok (.iload_n 1, 1) := by decide +kernel
theorem dJ9_min_7cf53_2 : decode cJ9_min_7cf53 2 = .ok (.if_icmp .gt 7, 3) := by decide +kernel
theorem dJ9_min_7cf53_5 : decode cJ9_min_7cf53 5 = .ok (.iload_n 0, 1) := by decide +kernel
theorem dJ9_min_7cf53_6 : decode cJ9_min_7cf53 6 = .ok (.goto 4, 3) := by decide +kernel
theorem dJ9_min_7cf53_9 : decode cJ9_min_7cf53 9 = .ok (.iload_n 1, 1) := by decide +kernel
theorem dJ9_min_7cf53_10 : decode cJ9_min_7cf53 10 = .ok (.ireturn, 1) := by decide +kernel
set_option maxRecDepth 20000 in
theorem ggL_row_X8_row : GoodIn wsL_row wsX8_row := goodIn_ca (goodIn_ca (goodIn_ca (goodIn_r _ [8, 9, 10, 11, 12, 13, 14, 15, 16, 17, 18, 19, 20, 7, 21, 22, 23, 24, 25, 26, 27, 28, 29, 30, 31, 32, 33, 34, 35, 36, 37, 38, 39, 40, 41, 42, 43, 44, 45, 46, 47, 48, 49, 50, 51, 52, 53, 54, 55, 56, 57, 58, 59, 60, 61, 62, 63, 64, 65, 66, 67, 68, 69, 70, 71, 72, 73, 74, 75, 76, 77, 78, 79, 80, 81, 82, 83, 84, 85, 86, 87, 88, 89, 90, 91, 92, 93, 94, 95, 96, 97, 98, 99, 100, 101, 102, 103, 104, 105, 106, 107, 108, 109, 110, 111, 112, 113, 114, 115, 116, 117, 118, 119, 120, 121, 122, 123, 124, 125, 126, 127, 128, 129, 130, 131, 132, 133, 134, 135, 136, 137, 138, 139, 140, 141, 142] (by decide +kernel) (by decide +kernel)) (goodIn_sub (fun _ h => List.mem_cons_of_mem _ (List.mem_append_left _ (List.mem_append_left _ (List.mem_append_right _ h)))) (by decide +kernel))) (goodIn_sub (fun _ h => List.mem_cons_of_mem _ (List.mem_append_left _ (List.mem_append_right _ h))) (by decide +kernel))) (goodIn_sub (fun _ h => List.mem_cons_of_mem _ (List.mem_append_right _ h)) (by decide +kernel))
set_option maxRecDepth 20000 in
theorem gL_row_X8_row : GoodIn wsL_row (wsV RL 7 RX8 yX8_row wsX8_row) := goodIn_app (goodIn_of _ (by decide +kernel)) ggL_row_X8_row
theorem dL_row_0 : decode cL_row 0 = .ok (.aload 5, 2) := by decide +kernel
theorem dL_row_2 : decode cL_row 2 = .ok (.iconst 0, 1) := by decide +kernel
theorem dL_row_3 : decode cL_row 3 = .ok (.aload_n 0, 1) := by decide +kernel
theorem dL_row_4 : decode cL_row 4 = .ok (.iload_n 1, 1) := by decide +kernel
theorem dL_row_5 : decode cL_row 5 = .ok (.iload_n 2, 1) := by decide +kernel
theorem dL_row_6 : decode cL_row 6 = .ok (.iload_n 3, 1) := by decide +kernel
theorem dL_row_7 : decode cL_row 7 = .ok (.iload 4, 2) := by decide +kernel
theorem dL_row_9 : decode cL_row 9 = .ok (.invokevirtual 7, 3) := by decide +kernel
theorem dL_row_12 : decode cL_row 12 = .ok (.i2l, 1) := by decide +kernel
theorem dL_row_13 : decode cL_row 13 = .ok (.lastore, 1) := by decide +kernel
theorem dL_row_14 : decode cL_row 14 = .ok (.goto 15, 3) := by decide +kernel
theorem dL_row_17 : decode cL_row 17 = .ok (.astore 6, 2) := by decide +kernel
theorem dL_row_19 : decode cL_row 19 = .ok (.iconst 1, 1) := by decide +kernel
theorem dL_row_20 : decode cL_row 20 = .ok (.ireturn, 1) := by decide +kernel
theorem dL_row_21 : decode cL_row 21 = .ok (.astore 6, 2) := by decide +kernel
theorem dL_row_23 : decode cL_row 23 = .ok (.iconst 2, 1) := by decide +kernel
theorem dL_row_24 : decode cL_row 24 = .ok (.ireturn, 1) := by decide +kernel
theorem dL_row_25 : decode cL_row 25 = .ok (.astore 6, 2) := by decide +kernel
theorem dL_row_27 : decode cL_row 27 = .ok (.iconst 3, 1) := by decide +kernel
theorem dL_row_28 : decode cL_row 28 = .ok (.ireturn, 1) := by decide +kernel
theorem dL_row_29 : decode cL_row 29 = .ok (.iconst 0, 1) := by decide +kernel
theorem dL_row_30 : decode cL_row 30 = .ok (.ireturn, 1) := by decide +kernel
set_option maxRecDepth 20000 in
theorem ggL_drop_X8_drop : GoodIn wsL_drop wsX8_drop := goodIn_ca (goodIn_r _ [6, 7, 8, 9, 10, 11, 12, 13, 14, 5, 15, 16, 17, 18, 19, 20, 21, 22, 23, 24, 25, 26, 27, 28, 29, 30, 31, 32, 33, 34, 35, 36, 37, 38, 39, 40, 41, 42, 43, 44, 45, 46, 47, 48, 49, 50, 51, 52, 53, 54, 55, 56, 57, 58, 59, 60, 61, 62, 63, 64, 65, 66, 67, 68, 69, 70, 71, 72, 73, 74, 75, 76, 77, 78, 79, 80, 81, 82, 83, 84, 85, 86, 87, 88, 89, 90, 91, 92, 93, 94, 95, 96, 97, 98, 99, 100, 101, 102, 103, 104, 105, 106, 107, 108, 109, 110, 111, 112, 113, 114, 115, 116, 117, 118, 119, 120, 121, 122, 123, 124, 125, 126, 127, 128, 129, 130, 131, 132, 133, 134, 135, 136, 137, 138] (by decide +kernel) (by decide +kernel)) (goodIn_sub (fun _ h => List.mem_cons_of_mem _ (List.mem_append_right _ h)) (by decide +kernel))
set_option maxRecDepth 20000 in
theorem gL_drop_X8_drop : GoodIn wsL_drop (wsV RL 19 RX8 yX8_drop wsX8_drop) := goodIn_app (goodIn_of _ (by decide +kernel)) ggL_drop_X8_drop
theorem dL_drop_0 : decode cL_drop 0 = .ok (.aload_n 2, 1) := by decide +kernel
theorem dL_drop_1 : decode cL_drop 1 = .ok (.iconst 0, 1) := by decide +kernel
theorem dL_drop_2 : decode cL_drop 2 = .ok (.aload_n 0, 1) := by decide +kernel
theorem dL_drop_3 : decode cL_drop 3 = .ok (.iload_n 1, 1) := by decide +kernel
theorem dL_drop_4 : decode cL_drop 4 = .ok (.invokevirtual 19, 3) := by decide +kernel
theorem dL_drop_7 : decode cL_drop 7 = .ok (.i2l, 1) := by decide +kernel
theorem dL_drop_8 : decode cL_drop 8 = .ok (.lastore, 1) := by decide +kernel
theorem dL_drop_9 : decode cL_drop 9 = .ok (.goto 6, 3) := by decide +kernel
theorem dL_drop_12 : decode cL_drop 12 = .ok (.astore_n 3, 1) := by decide +kernel
theorem dL_drop_13 : decode cL_drop 13 = .ok (.iconst 1, 1) := by decide +kernel
theorem dL_drop_14 : decode cL_drop 14 = .ok (.ireturn, 1) := by decide +kernel
theorem dL_drop_15 : decode cL_drop 15 = .ok (.iconst 0, 1) := by decide +kernel
theorem dL_drop_16 : decode cL_drop 16 = .ok (.ireturn, 1) := by decide +kernel
set_option maxRecDepth 20000 in
theorem ggL_change_X8_change : GoodIn wsL_change wsX8_change := goodIn_ca (goodIn_ca (goodIn_r _ [7, 8, 9, 10, 11, 12, 13, 14, 15, 16, 6, 17, 18, 19, 20, 21, 22, 23, 24, 25, 26, 27, 28, 29, 30, 31, 32, 33, 34, 35, 36, 37, 38, 39, 40, 41, 42, 43, 44, 45, 46, 47, 48, 49, 50, 51, 52, 53, 54, 55, 56, 57, 58, 59, 60, 61, 62, 63, 64, 65, 66, 67, 68, 69, 70, 71, 72, 73, 74, 75, 76, 77, 78, 79, 80, 81, 82, 83, 84, 85, 86, 87, 88, 89, 90, 91, 92, 93, 94, 95, 96, 97, 98, 99, 100, 101, 102, 103, 104, 105, 106, 107, 108, 109, 110, 111, 112, 113, 114, 115, 116, 117, 118, 119, 120, 121, 122, 123, 124, 125, 126, 127, 128, 129, 130, 131, 132, 133, 134] (by decide +kernel) (by decide +kernel)) (goodIn_sub (fun _ h => List.mem_cons_of_mem _ (List.mem_append_left _ (List.mem_append_right _ h))) (by decide +kernel))) (goodIn_sub (fun _ h => List.mem_cons_of_mem _ (List.mem_append_right _ h)) (by decide +kernel))
set_option maxRecDepth 20000 in
theorem gL_change_X8_change : GoodIn wsL_change (wsV RL 23 RX8 yX8_change wsX8_change) := goodIn_app (goodIn_of _ (by decide +kernel)) ggL_change_X8_change
theorem dL_change_0 : decode cL_change 0 = .ok (.aload_n 3, 1) := by decide +kernel
theorem dL_change_1 : decode cL_change 1 = .ok (.iconst 0, 1) := by decide +kernel
theorem dL_change_2 : decode cL_change 2 = .ok (.aload_n 0, 1) := by decide +kernel
theorem dL_change_3 : decode cL_change 3 = .ok (.iload_n 1, 1) := by decide +kernel
theorem dL_change_4 : decode cL_change 4 = .ok (.iload_n 2, 1) := by decide +kernel
theorem dL_change_5 : decode cL_change 5 = .ok (.invokevirtual 23, 3) := by decide +kernel
theorem dL_change_8 : decode cL_change 8 = .ok (.i2l, 1) := by decide +kernel
theorem dL_change_9 : decode cL_change 9 = .ok (.lastore, 1) := by decide +kernel
theorem dL_change_10 : decode cL_change 10 = .ok (.goto 11, 3) := by decide +kernel
theorem dL_change_13 : decode cL_change 13 = .ok (.astore 4, 2) := by decide +kernel
theorem dL_change_15 : decode cL_change 15 = .ok (.iconst 1, 1) := by decide +kernel
theorem dL_change_16 : decode cL_change 16 = .ok (.ireturn, 1) := by decide +kernel
theorem dL_change_17 : decode cL_change 17 = .ok (.astore 4, 2) := by decide +kernel
theorem dL_change_19 : decode cL_change 19 = .ok (.iconst 2, 1) := by decide +kernel
theorem dL_change_20 : decode cL_change 20 = .ok (.ireturn, 1) := by decide +kernel
theorem dL_change_21 : decode cL_change 21 = .ok (.iconst 0, 1) := by decide +kernel
theorem dL_change_22 : decode cL_change 22 = .ok (.ireturn, 1) := by decide +kernel
set_option maxRecDepth 20000 in
theorem ggL_person_X8_person : GoodIn wsL_person wsX8_person := goodIn_ca (goodIn_ca (goodIn_r _ [7, 8, 9, 10, 11, 12, 13, 14, 15, 16, 17, 18, 6, 19, 20, 21, 22, 23, 24, 25, 26, 27, 28, 29, 30, 31, 32, 33, 34, 35, 36, 37, 38, 39, 40, 41, 42, 43, 44, 45, 46, 47, 48, 49, 50, 51, 52, 53, 54, 55, 56, 57, 58, 59, 60, 61, 62, 63, 64, 65, 66, 67, 68, 69, 70, 71, 72, 73, 74, 75, 76, 77, 78, 79, 80, 81, 82, 83, 84, 85, 86, 87, 88, 89, 90, 91, 92, 93, 94, 95, 96, 97, 98, 99, 100, 101, 102, 103, 104, 105, 106, 107, 108, 109, 110, 111, 112, 113, 114, 115, 116, 117, 118, 119, 120, 121, 122, 123, 124, 125, 126, 127, 128, 129, 130, 131, 132, 133, 134] (by decide +kernel) (by decide +kernel)) (goodIn_sub (fun _ h => List.mem_cons_of_mem _ (List.mem_append_left _ (List.mem_append_right _ h))) (by decide +kernel))) (goodIn_sub (fun _ h => List.mem_cons_of_mem _ (List.mem_append_right _ h)) (by decide +kernel))
set_option maxRecDepth 20000 in
theorem gL_person_X8_person : GoodIn wsL_person (wsV RL 27 RX8 yX8_person wsX8_person) := goodIn_app (goodIn_of _ (by decide +kernel)) ggL_person_X8_person
theorem dL_person_0 : decode cL_person 0 = .ok (.aload 4, 2) := by decide +kernel
theorem dL_person_2 : decode cL_person 2 = .ok (.iconst 0, 1) := by decide +kernel
theorem dL_person_3 : decode cL_person 3 = .ok (.aload_n 0, 1) := by decide +kernel
theorem dL_person_4 : decode cL_person 4 = .ok (.iload_n 1, 1) := by decide +kernel
theorem dL_person_5 : decode cL_person 5 = .ok (.iload_n 2, 1) := by decide +kernel
theorem dL_person_6 : decode cL_person 6 = .ok (.iload_n 3, 1) := by decide +kernel
theorem dL_person_7 : decode cL_person 7 = .ok (.invokevirtual 27, 3) := by decide +kernel
theorem dL_person_10 : decode cL_person 10 = .ok (.i2l, 1) := by decide +kernel
theorem dL_person_11 : decode cL_person 11 = .ok (.lastore, 1) := by decide +kernel
theorem dL_person_12 : decode cL_person 12 = .ok (.goto 11, 3) := by decide +kernel
theorem dL_person_15 : decode cL_person 15 = .ok (.astore 5, 2) := by decide +kernel
theorem dL_person_17 : decode cL_person 17 = .ok (.iconst 1, 1) := by decide +kernel
theorem dL_person_18 : decode cL_person 18 = .ok (.ireturn, 1) := by decide +kernel
theorem dL_person_19 : decode cL_person 19 = .ok (.astore 5, 2) := by decide +kernel
theorem dL_person_21 : decode cL_person 21 = .ok (.iconst 2, 1) := by decide +kernel
theorem dL_person_22 : decode cL_person 22 = .ok (.ireturn, 1) := by decide +kernel
theorem dL_person_23 : decode cL_person 23 = .ok (.iconst 0, 1) := by decide +kernel
theorem dL_person_24 : decode cL_person 24 = .ok (.ireturn, 1) := by decide +kernel
set_option maxRecDepth 20000 in
theorem ggL_master_X8_master : GoodIn wsL_master wsX8_master := goodIn_ca (goodIn_ca (goodIn_r _ [7, 8, 9, 10, 11, 12, 13, 14, 15, 16, 17, 6, 18, 19, 20, 21, 22, 23, 24, 25, 26, 27, 28, 29, 30, 31, 32, 33, 34, 35, 36, 37, 38, 39, 40, 41, 42, 43, 44, 45, 46, 47, 48, 49, 50, 51, 52, 53, 54, 55, 56, 57, 58, 59, 60, 61, 62, 63, 64, 65, 66, 67, 68, 69, 70, 71, 72, 73, 74, 75, 76, 77, 78, 79, 80, 81, 82, 83, 84, 85, 86, 87, 88, 89, 90, 91, 92, 93, 94, 95, 96, 97, 98, 99, 100, 101, 102, 103, 104, 105, 106, 107, 108, 109, 110, 111, 112, 113, 114, 115, 116, 117, 118, 119, 120, 121, 122, 123, 124, 125, 126, 127, 128, 129] (by decide +kernel) (by decide +kernel)) (goodIn_sub (fun _ h => List.mem_cons_of_mem _ (List.mem_append_left _ (List.mem_append_right _ h))) (by decide +kernel))) (goodIn_sub (fun _ h => List.mem_cons_of_mem _ (List.mem_append_right _ h)) (by decide +kernel))
set_option maxRecDepth 20000 in
theorem gL_master_X8_master : GoodIn wsL_master (wsV RL 31 RX8 yX8_master wsX8_master) := goodIn_app (goodIn_of _ (by decide +kernel)) ggL_master_X8_master
theorem dL_master_0 : decode cL_master 0 = .ok (.aload_n 3, 1) := by decide +kernel
theorem dL_master_1 : decode cL_master 1 = .ok (.iconst 0, 1) := by decide +kernel
theorem dL_master_2 : decode cL_master 2 = .ok (.aload_n 0, 1) := by decide +kernel
theorem dL_master_3 : decode cL_master 3 = .ok (.iload_n 1, 1) := by decide +kernel
theorem dL_master_4 : decode cL_master 4 = .ok (.iload_n 2, 1) := by decide +kernel
theorem dL_master_5 : decode cL_master 5 = .ok (.invokevirtual 31, 3) := by decide +kernel
theorem dL_master_8 : decode cL_master 8 = .ok (.i2l, 1) := by decide +kernel
theorem dL_master_9 : decode cL_master 9 = .ok (.lastore, 1) := by decide +kernel
theorem dL_master_10 : decode cL_master 10 = .ok (.goto 11, 3) := by decide +kernel
theorem dL_master_13 : decode cL_master 13 = .ok (.astore 4, 2) := by decide +kernel
theorem dL_master_15 : decode cL_master 15 = .ok (.iconst 1, 1) := by decide +kernel
theorem dL_master_16 : decode cL_master 16 = .ok (.ireturn, 1) := by decide +kernel
theorem dL_master_17 : decode cL_master 17 = .ok (.astore 4, 2) := by decide +kernel
theorem dL_master_19 : decode cL_master 19 = .ok (.iconst 2, 1) := by decide +kernel
theorem dL_master_20 : decode cL_master 20 = .ok (.ireturn, 1) := by decide +kernel
theorem dL_master_21 : decode cL_master 21 = .ok (.iconst 0, 1) := by decide +kernel
theorem dL_master_22 : decode cL_master 22 = .ok (.ireturn, 1) := by decide +kernel
set_option maxRecDepth 20000 in
theorem ggL_force_X8_force : GoodIn wsL_force wsX8_force := goodIn_ca (goodIn_r _ [6, 7, 8, 9, 10, 11, 5, 12, 13, 14, 15, 16, 17, 18, 19, 20, 21, 22, 23, 24, 25, 26, 27, 28, 29, 30, 31, 32, 33, 34, 35, 36, 37, 38, 39, 40, 41, 42, 43, 44, 45, 46, 47, 48, 49, 50, 51, 52, 53, 54, 55, 56, 57, 58, 59, 60, 61, 62, 63, 64, 65, 66, 67, 68, 69, 70, 71, 72, 73, 74, 75, 76, 77, 78, 79, 80, 81, 82, 83, 84, 85, 86, 87, 88, 89, 90, 91, 92, 93, 94, 95, 96, 97, 98, 99, 100, 101, 102, 103, 104, 105, 106, 107, 108, 109, 110, 111, 112, 113, 114, 115, 116, 117] (by decide +kernel) (by decide +kernel)) (goodIn_sub (fun _ h => List.mem_cons_of_mem _ (List.mem_append_right _ h)) (by decide +kernel))
set_option maxRecDepth 20000 in
theorem gL_force_X8_force : GoodIn wsL_force (wsV RL 34 RX8 yX8_force wsX8_force) := goodIn_app (goodIn_of _ (by decide +kernel)) ggL_force_X8_force
theorem dL_force_0 : decode cL_force 0 = .ok (.aload_n 3, 1) := by decide +kernel
theorem dL_force_1 : decode cL_force 1 = .ok (.iconst 0, 1) := by decide +kernel
theorem dL_force_2 : decode cL_force 2 = .ok (.aload_n 0, 1) := by decide +kernel
theorem dL_force_3 : decode cL_force 3 = .ok (.iload_n 1, 1) := by decide +kernel
theorem dL_force_4 : decode cL_force 4 = .ok (.iload_n 2, 1) := by decide +kernel
theorem dL_force_5 : decode cL_force 5 = .ok (.invokevirtual 34, 3) := by decide +kernel
theorem dL_force_8 : decode cL_force 8 = .ok (.i2l, 1) := by decide +kernel
theorem dL_force_9 : decode cL_force 9 = .ok (.lastore, 1) := by decide +kernel
theorem dL_force_10 : decode cL_force 10 = .ok (.goto 7, 3) := by decide +kernel
theorem dL_force_13 : decode cL_force 13 = .ok (.astore 4, 2) := by decide +kernel
theorem dL_force_15 : decode cL_force 15 = .ok (.iconst 1, 1) := by decide +kernel
theorem dL_force_16 : decode cL_force 16 = .ok (.ireturn, 1) := by decide +kernel
theorem dL_force_17 : decode cL_force 17 = .ok (.iconst 0, 1) := by decide +kernel
theorem dL_force_18 : decode cL_force 18 = .ok (.ireturn, 1) := by decide +kernel
set_option maxRecDepth 20000 in
theorem ggL_set_X8_set : GoodIn wsL_set wsX8_set := goodIn_ca (goodIn_ca (goodIn_r _ [7, 8, 9, 10, 11, 12, 13, 14, 15, 16, 6, 17, 18, 19, 20, 21, 22, 23, 24, 25, 26, 27, 28, 29, 30, 31, 32, 33, 34, 35, 36, 37, 38, 39, 40, 41, 42, 43, 44, 45, 46, 47, 48, 49, 50, 51, 52, 53, 54, 55, 56, 57, 58, 59, 60, 61, 62, 63, 64, 65, 66, 67, 68, 69, 70, 71, 72, 73, 74, 75, 76, 77, 78, 79, 80, 81, 82, 83, 84, 85, 86, 87, 88, 89, 90, 91, 92, 93, 94, 95, 96, 97, 98, 99, 100, 101, 102, 103, 104, 105, 106, 107, 108, 109, 110, 111, 112, 113, 114, 115, 116, 117, 118, 119, 120, 121, 122, 123, 124, 125] (by decide +kernel) (by decide +kernel)) (goodIn_sub (fun _ h => List.mem_cons_of_mem _ (List.mem_append_left _ (List.mem_append_right _ h))) (by decide +kernel))) (goodIn_sub (fun _ h => List.mem_cons_of_mem _ (List.mem_append_right _ h)) (by decide +kernel))
set_option maxRecDepth 20000 in
theorem gL_set_X8_set : GoodIn wsL_set (wsV RL 38 RX8 yX8_set wsX8_set) := goodIn_app (goodIn_of _ (by decide +kernel)) ggL_set_X8_set
theorem dL_set_0 : decode cL_set 0 = .ok (.aload_n 3, 1) := by decide +kernel
theorem dL_set_1 : decode cL_set 1 = .ok (.iconst 0, 1) := by decide +kernel
theorem dL_set_2 : decode cL_set 2 = .ok (.aload_n 0, 1) := by decide +kernel
theorem dL_set_3 : decode cL_set 3 = .ok (.iload_n 1, 1) := by decide +kernel
theorem dL_set_4 : decode cL_set 4 = .ok (.iload_n 2, 1) := by decide +kernel
theorem dL_set_5 : decode cL_set 5 = .ok (.invokevirtual 38, 3) := by decide +kernel
theorem dL_set_8 : decode cL_set 8 = .ok (.i2l, 1) := by decide +kernel
theorem dL_set_9 : decode cL_set 9 = .ok (.lastore, 1) := by decide +kernel
theorem dL_set_10 : decode cL_set 10 = .ok (.goto 11, 3) := by decide +kernel
theorem dL_set_13 : decode cL_set 13 = .ok (.astore 4, 2) := by decide +kernel
theorem dL_set_15 : decode cL_set 15 = .ok (.iconst 1, 1) := by decide +kernel
theorem dL_set_16 : decode cL_set 16 = .ok (.ireturn, 1) := by decide +kernel
