theorem dX8_requireRow_2 : decode cX8_requireRow 2 = .ok (.aload_n 0, 1) := by decide +kernel
theorem dX8_requireRow_3 : decode cX8_requireRow 3 = .ok (.getfield 10, 3) := by decide +kernel
theorem dX8_requireRow_6 : decode cX8_requireRow 6 = .ok (.getfield 56, 3) := by decide +kernel
theorem dX8_requireRow_9 : decode cX8_requireRow 9 = .ok (.getfield 75, 3) := by decide +kernel
theorem dX8_requireRow_12 : decode cX8_requireRow 12 = .ok (.iconst 1, 1) := by decide +kernel
theorem dX8_requireRow_13 : decode cX8_requireRow 13 = .ok (.isub, 1) := by decide +kernel
theorem dX8_requireRow_14 : decode cX8_requireRow 14 = .ok (.invokestatic 47, 3) := by decide +kernel
theorem dX8_requireRow_17 : decode cX8_requireRow 17 = .ok (.ifCond .ne 14, 3) := by decide +kernel
theorem dX8_requireRow_20 : decode cX8_requireRow 20 = .ok (.new 37, 3) := by decide +kernel
theorem dX8_requireRow_23 : decode cX8_requireRow 23 = .ok (.dup, 1) := by decide +kernel
theorem dX8_requireRow_24 : decode cX8_requireRow 24 = .ok (.ldc_w 319, 3) := by decide +kernel
theorem dX8_requireRow_27 : decode cX8_requireRow 27 = .ok (.invokespecial 41, 3) := by decide +kernel
theorem dX8_requireRow_30 : decode cX8_requireRow 30 = .ok (.athrow, 1) := by decide +kernel
theorem dX8_requireRow_31 : decode cX8_requireRow 31 = .ok (.return_, 1) := by decide +kernel
set_option maxRecDepth 20000 in
theorem ggX8_requireAsker_X8_isPerson : GoodIn wsX8_requireAsker wsX8_isPerson := goodIn_r _ [6, 7, 8, 5, 9] (by decide +kernel) (by decide +kernel)
set_option maxRecDepth 20000 in
theorem gX8_requireAsker_X8_isPerson : GoodIn wsX8_requireAsker (va_wsS RX8 30 yX8_isPerson wsX8_isPerson) := goodIn_app (goodIn_of _ (by decide +kernel)) ggX8_requireAsker_X8_isPerson
theorem dX8_requireAsker_0 : decode cX8_requireAsker 0 = .ok (.iload_n 0, 1) := by decide +kernel
theorem dX8_requireAsker_1 : decode cX8_requireAsker 1 = .ok (.invokestatic 30, 3) := by decide +kernel
theorem dX8_requireAsker_4 : decode cX8_requireAsker 4 = .ok (.ifCond .ne 13, 3) := by decide +kernel
theorem dX8_requireAsker_7 : decode cX8_requireAsker 7 = .ok (.new 37, 3) := by decide +kernel
theorem dX8_requireAsker_10 : decode cX8_requireAsker 10 = .ok (.dup, 1) := by decide +kernel
theorem dX8_requireAsker_11 : decode cX8_requireAsker 11 = .ok (.ldc 129, 2) := by decide +kernel
theorem dX8_requireAsker_13 : decode cX8_requireAsker 13 = .ok (.invokespecial 41, 3) := by decide +kernel
theorem dX8_requireAsker_16 : decode cX8_requireAsker 16 = .ok (.athrow, 1) := by decide +kernel
theorem dX8_requireAsker_17 : decode cX8_requireAsker 17 = .ok (.return_, 1) := by decide +kernel
set_option maxRecDepth 20000 in
theorem ggX8_requireRule_X8_isWithin : GoodIn wsX8_requireRule wsX8_isWithin := goodIn_r _ [6] (by decide +kernel) (by decide +kernel)
set_option maxRecDepth 20000 in
theorem gX8_requireRule_X8_isWithin : GoodIn wsX8_requireRule (va_wsS RX8 47 yX8_isWithin wsX8_isWithin) := goodIn_app (goodIn_of _ (by decide +kernel)) ggX8_requireRule_X8_isWithin
theorem dX8_requireRule_0 : decode cX8_requireRule 0 = .ok (.iload_n 0, 1) := by decide +kernel
theorem dX8_requireRule_1 : decode cX8_requireRule 1 = .ok (.iconst 0, 1) := by decide +kernel
theorem dX8_requireRule_2 : decode cX8_requireRule 2 = .ok (.iconst 3, 1) := by decide +kernel
theorem dX8_requireRule_3 : decode cX8_requireRule 3 = .ok (.invokestatic 47, 3) := by decide +kernel
theorem dX8_requireRule_6 : decode cX8_requireRule 6 = .ok (.ifCond .ne 14, 3) := by decide +kernel
theorem dX8_requireRule_9 : decode cX8_requireRule 9 = .ok (.new 37, 3) := by decide +kernel
theorem dX8_requireRule_12 : decode cX8_requireRule 12 = .ok (.dup, 1) := by decide +kernel
theorem dX8_requireRule_13 : decode cX8_requireRule 13 = .ok (.ldc_w 321, 3) := by decide +kernel
theorem dX8_requireRule_16 : decode cX8_requireRule 16 = .ok (.invokespecial 41, 3) := by decide +kernel
theorem dX8_requireRule_19 : decode cX8_requireRule 19 = .ok (.athrow, 1) := by decide +kernel
theorem dX8_requireRule_20 : decode cX8_requireRule 20 = .ok (.return_, 1) := by decide +kernel
set_option maxRecDepth 20000 in
theorem ggX8_requireQuestion_X8_isPerson : GoodIn wsX8_requireQuestion wsX8_isPerson := goodIn_r _ [8, 9, 10, 7, 11] (by decide +kernel) (by decide +kernel)
set_option maxRecDepth 20000 in
theorem gX8_requireQuestion_X8_isPerson : GoodIn wsX8_requireQuestion (va_wsS RX8 30 yX8_isPerson wsX8_isPerson) := goodIn_app (goodIn_of _ (by decide +kernel)) ggX8_requireQuestion_X8_isPerson
set_option maxRecDepth 20000 in
theorem ggX8_requireQuestion_X8_isPlaceOrAll : GoodIn wsX8_requireQuestion wsX8_isPlaceOrAll := goodIn_r _ [14, 15, 16, 7, 17, 9, 10, 11] (by decide +kernel) (by decide +kernel)
set_option maxRecDepth 20000 in
theorem gX8_requireQuestion_X8_isPlaceOrAll : GoodIn wsX8_requireQuestion (va_wsS RX8 256 yX8_isPlaceOrAll wsX8_isPlaceOrAll) := goodIn_app (goodIn_of _ (by decide +kernel)) ggX8_requireQuestion_X8_isPlaceOrAll
set_option maxRecDepth 20000 in
theorem ggX8_requireQuestion_X8_isValue : GoodIn wsX8_requireQuestion wsX8_isValue := goodIn_r _ [20, 9, 10, 7, 11] (by decide +kernel) (by decide +kernel)
set_option maxRecDepth 20000 in
theorem gX8_requireQuestion_X8_isValue : GoodIn wsX8_requireQuestion (va_wsS RX8 44 yX8_isValue wsX8_isValue) := goodIn_app (goodIn_of _ (by decide +kernel)) ggX8_requireQuestion_X8_isValue
set_option maxRecDepth 20000 in
theorem ggX8_requireQuestion_X8_isWithin : GoodIn wsX8_requireQuestion wsX8_isWithin := goodIn_r _ [11] (by decide +kernel) (by decide +kernel)
set_option maxRecDepth 20000 in
theorem gX8_requireQuestion_X8_isWithin : GoodIn wsX8_requireQuestion (va_wsS RX8 47 yX8_isWithin wsX8_isWithin) := goodIn_app (goodIn_of _ (by decide +kernel)) ggX8_requireQuestion_X8_isWithin
theorem dX8_requireQuestion_0 : decode cX8_requireQuestion 0 = .ok (.iload_n 0, 1) := by decide +kernel
theorem dX8_requireQuestion_1 : decode cX8_requireQuestion 1 = .ok (.invokestatic 30, 3) := by decide +kernel
theorem dX8_requireQuestion_4 : decode cX8_requireQuestion 4 = .ok (.ifCond .eq 10, 3) := by decide +kernel
theorem dX8_requireQuestion_7 : decode cX8_requireQuestion 7 = .ok (.iload_n 1, 1) := by decide +kernel
theorem dX8_requireQuestion_8 : decode cX8_requireQuestion 8 = .ok (.invokestatic 256, 3) := by decide +kernel
theorem dX8_requireQuestion_11 : decode cX8_requireQuestion 11 = .ok (.ifCond .ne 14, 3) := by decide +kernel
theorem dX8_requireQuestion_14 : decode cX8_requireQuestion 14 = .ok (.new 37, 3) := by decide +kernel
theorem dX8_requireQuestion_17 : decode cX8_requireQuestion 17 = .ok (.dup, 1) := by decide +kernel
theorem dX8_requireQuestion_18 : decode cX8_requireQuestion 18 = .ok (.ldc_w 259, 3) := by decide +kernel
theorem dX8_requireQuestion_21 : decode cX8_requireQuestion 21 = .ok (.invokespecial 41, 3) := by decide +kernel
theorem dX8_requireQuestion_24 : decode cX8_requireQuestion 24 = .ok (.athrow, 1) := by decide +kernel
theorem dX8_requireQuestion_25 : decode cX8_requireQuestion 25 = .ok (.iload_n 2, 1) := by decide +kernel
theorem dX8_requireQuestion_26 : decode cX8_requireQuestion 26 = .ok (.invokestatic 44, 3) := by decide +kernel
theorem dX8_requireQuestion_29 : decode cX8_requireQuestion 29 = .ok (.ifCond .eq 13, 3) := by decide +kernel
theorem dX8_requireQuestion_32 : decode cX8_requireQuestion 32 = .ok (.iload_n 3, 1) := by decide +kernel
theorem dX8_requireQuestion_33 : decode cX8_requireQuestion 33 = .ok (.iload_n 2, 1) := by decide +kernel
theorem dX8_requireQuestion_34 : decode cX8_requireQuestion 34 = .ok (.bipush 99, 2) := by decide +kernel
theorem dX8_requireQuestion_36 : decode cX8_requireQuestion 36 = .ok (.invokestatic 47, 3) := by decide +kernel
theorem dX8_requireQuestion_39 : decode cX8_requireQuestion 39 = .ok (.ifCond .ne 14, 3) := by decide +kernel
theorem dX8_requireQuestion_42 : decode cX8_requireQuestion 42 = .ok (.new 51, 3) := by decide +kernel
theorem dX8_requireQuestion_45 : decode cX8_requireQuestion 45 = .ok (.dup, 1) := by decide +kernel
theorem dX8_requireQuestion_46 : decode cX8_requireQuestion 46 = .ok (.ldc_w 323, 3) := by decide +kernel
theorem dX8_requireQuestion_49 : decode cX8_requireQuestion 49 = .ok (.invokespecial 55, 3) := by decide +kernel
theorem dX8_requireQuestion_52 : decode cX8_requireQuestion 52 = .ok (.athrow, 1) := by decide +kernel
theorem dX8_requireQuestion_53 : decode cX8_requireQuestion 53 = .ok (.return_, 1) := by decide +kernel
theorem dX9_init_0 : decode cX9_init 0 = .ok (.aload_n 0, 1) := by decide +kernel
theorem dX9_init_1 : decode cX9_init 1 = .ok (.invokespecial 1, 3) := by decide +kernel
theorem dX9_init_4 : decode cX9_init 4 = .ok (.aload_n 0, 1) := by decide +kernel
theorem dX9_init_5 : decode cX9_init 5 = .ok (.sipush 130, 3) := by decide +kernel
theorem dX9_init_8 : decode cX9_init 8 = .ok (.newarray .int, 2) := by decide +kernel
theorem dX9_init_10 : decode cX9_init 10 = .ok (.putfield 7, 3) := by decide +kernel
theorem dX9_init_13 : decode cX9_init 13 = .ok (.aload_n 0, 1) := by decide +kernel
theorem dX9_init_14 : decode cX9_init 14 = .ok (.sipush 780, 3) := by decide +kernel
theorem dX9_init_17 : decode cX9_init 17 = .ok (.newarray .int, 2) := by decide +kernel
theorem dX9_init_19 : decode cX9_init 19 = .ok (.putfield 13, 3) := by decide +kernel
theorem dX9_init_22 : decode cX9_init 22 = .ok (.aload_n 0, 1) := by decide +kernel
theorem dX9_init_23 : decode cX9_init 23 = .ok (.bipush 60, 2) := by decide +kernel
theorem dX9_init_25 : decode cX9_init 25 = .ok (.newarray .int, 2) := by decide +kernel
theorem dX9_init_27 : decode cX9_init 27 = .ok (.putfield 16, 3) := by decide +kernel
theorem dX9_init_30 : decode cX9_init 30 = .ok (.aload_n 0, 1) := by decide +kernel
theorem dX9_init_31 : decode cX9_init 31 = .ok (.bipush 88, 2) := by decide +kernel
theorem dX9_init_33 : decode cX9_init 33 = .ok (.newarray .int, 2) := by decide +kernel
theorem dX9_init_35 : decode cX9_init 35 = .ok (.putfield 19, 3) := by decide +kernel
theorem dX9_init_38 : decode cX9_init 38 = .ok (.aload_n 0, 1) := by decide +kernel
theorem dX9_init_39 : decode cX9_init 39 = .ok (.iconst 0, 1) := by decide +kernel
theorem dX9_init_40 : decode cX9_init 40 = .ok (.putfield 22, 3) := by decide +kernel
theorem dX9_init_43 : decode cX9_init 43 = .ok (.aload_n 0, 1) := by decide +kernel
theorem dX9_init_44 : decode cX9_init 44 = .ok (.getfield 7, 3) := by decide +kernel
theorem dX9_init_47 : decode cX9_init 47 = .ok (.iconst 1, 1) := by decide +kernel
theorem dX9_init_48 : decode cX9_init 48 = .ok (.bipush 15, 2) := by decide +kernel
theorem dX9_init_50 : decode cX9_init 50 = .ok (.iastore, 1) := by decide +kernel
theorem dX9_init_51 : decode cX9_init 51 = .ok (.aload_n 0, 1) := by decide +kernel
theorem dX9_init_52 : decode cX9_init 52 = .ok (.getfield 7, 3) := by decide +kernel
theorem dX9_init_55 : decode cX9_init 55 = .ok (.iconst 2, 1) := by decide +kernel
theorem dX9_init_56 : decode cX9_init 56 = .ok (.iconst 1, 1) := by decide +kernel
theorem dX9_init_57 : decode cX9_init 57 = .ok (.iastore, 1) := by decide +kernel
theorem dX9_init_58 : decode cX9_init 58 = .ok (.aload_n 0, 1) := by decide +kernel
theorem dX9_init_59 : decode cX9_init 59 = .ok (.getfield 7, 3) := by decide +kernel
theorem dX9_init_62 : decode cX9_init 62 = .ok (.iconst 3, 1) := by decide +kernel
theorem dX9_init_63 : decode cX9_init 63 = .ok (.iconst 1, 1) := by decide +kernel
theorem dX9_init_64 : decode cX9_init 64 = .ok (.iastore, 1) := by decide +kernel
theorem dX9_init_65 : decode cX9_init 65 = .ok (.return_, 1) := by decide +kernel
theorem dX9_thrown_0 : decode cX9_thrown 0 = .ok (.aload_n 0, 1) := by decide +kernel
theorem dX9_thrown_1 : decode cX9_thrown 1 = .ok (.getfield 22, 3) := by decide +kernel
theorem dX9_thrown_4 : decode cX9_thrown 4 = .ok (.ireturn, 1) := by decide +kernel
theorem dX9_in_0 : decode cX9_in 0 = .ok (.iload_n 0, 1) := by decide +kernel
theorem dX9_in_1 : decode cX9_in 1 = .ok (.iload_n 1, 1) := by decide +kernel
theorem dX9_in_2 : decode cX9_in 2 = .ok (.if_icmp .lt 12, 3) := by decide +kernel
theorem dX9_in_5 : decode cX9_in 5 = .ok (.iload_n 0, 1) := by decide +kernel
theorem dX9_in_6 : decode cX9_in 6 = .ok (.iload_n 2, 1) := by decide +kernel
theorem dX9_in_7 : decode cX9_in 7 = .ok (.if_icmp .gt 7, 3) := by decide +kernel
theorem dX9_in_10 : decode cX9_in 10 = .ok (.iconst 1, 1) := by decide +kernel
theorem dX9_in_11 : decode cX9_in 11 = .ok (.goto 4, 3) := by decide +kernel
theorem dX9_in_14 : decode cX9_in 14 = .ok (.iconst 0, 1) := by decide +kernel
theorem dX9_in_15 : decode cX9_in 15 = .ok (.ireturn, 1) := by decide +kernel
theorem dX9_fails_0 : decode cX9_fails 0 = .ok (.aload_n 0, 1) := by decide +kernel
theorem dX9_fails_1 : decode cX9_fails 1 = .ok (.iload_n 1, 1) := by decide +kernel
theorem dX9_fails_2 : decode cX9_fails 2 = .ok (.putfield 22, 3) := by decide +kernel
theorem dX9_fails_5 : decode cX9_fails 5 = .ok (.iconst 0, 1) := by decide +kernel
theorem dX9_fails_6 : decode cX9_fails 6 = .ok (.ireturn, 1) := by decide +kernel
theorem dX9_ones_0 : decode cX9_ones 0 = .ok (.iconst 0, 1) := by decide +kernel
theorem dX9_ones_1 : decode cX9_ones 1 = .ok (.istore_n 1, 1) := by decide +kernel
theorem dX9_ones_2 : decode cX9_ones 2 = .ok (.iconst 0, 1) := by decide +kernel
theorem dX9_ones_3 : decode cX9_ones 3 = .ok (.istore_n 2, 1) := by decide +kernel
theorem dX9_ones_4 : decode cX9_ones 4 = .ok (.iload_n 2, 1) := by decide +kernel
theorem dX9_ones_5 : decode cX9_ones 5 = .ok (.bipush 16, 2) := by decide +kernel
theorem dX9_ones_7 : decode cX9_ones 7 = .ok (.if_icmp .ge 17, 3) := by decide +kernel
theorem dX9_ones_10 : decode cX9_ones 10 = .ok (.iload_n 1, 1) := by decide +kernel
theorem dX9_ones_11 : decode cX9_ones 11 = .ok (.iload_n 0, 1) := by decide +kernel
theorem dX9_ones_12 : decode cX9_ones 12 = .ok (.iload_n 2, 1) := by decide +kernel
theorem dX9_ones_13 : decode cX9_ones 13 = .ok (.ishr, 1) := by decide +kernel
theorem dX9_ones_14 : decode cX9_ones 14 = .ok (.iconst 1, 1) := by decide +kernel
theorem dX9_ones_15 : decode cX9_ones 15 = .ok (.iand, 1) := by decide +kernel
theorem dX9_ones_16 : decode cX9_ones 16 = .ok (.iadd, 1) := by decide +kernel
theorem dX9_ones_17 : decode cX9_ones 17 = .ok (.istore_n 1, 1) := by decide +kernel
theorem dX9_ones_18 : decode cX9_ones 18 = .ok (.iinc 2 1, 3) := by decide +kernel
theorem dX9_ones_21 : decode cX9_ones 21 = .ok (.goto (-17), 3) := by decide +kernel
theorem dX9_ones_24 : decode cX9_ones 24 = .ok (.iload_n 1, 1) := by decide +kernel
theorem dX9_ones_25 : decode cX9_ones 25 = .ok (.ireturn, 1) := by decide +kernel
theorem dX9_of_0 : decode cX9_of 0 = .ok (.aload_n 0, 1) := by decide +kernel
theorem dX9_of_1 : decode cX9_of 1 = .ok (.getfield 7, 3) := by decide +kernel
theorem dX9_of_4 : decode cX9_of 4 = .ok (.bipush 6, 2) := by decide +kernel
theorem dX9_of_6 : decode cX9_of 6 = .ok (.iconst 4, 1) := by decide +kernel
theorem dX9_of_7 : decode cX9_of 7 = .ok (.iload_n 1, 1) := by decide +kernel
theorem dX9_of_8 : decode cX9_of 8 = .ok (.imul, 1) := by decide +kernel
theorem dX9_of_9 : decode cX9_of 9 = .ok (.iadd, 1) := by decide +kernel
theorem dX9_of_10 : decode cX9_of 10 = .ok (.iload_n 2, 1) := by decide +kernel
theorem dX9_of_11 : decode cX9_of 11 = .ok (.iadd, 1) := by decide +kernel
theorem dX9_of_12 : decode cX9_of 12 = .ok (.iaload, 1) := by decide +kernel
theorem dX9_of_13 : decode cX9_of 13 = .ok (.ireturn, 1) := by decide +kernel
theorem dX9_ofPerson_0 : decode cX9_ofPerson 0 = .ok (.aload_n 0, 1) := by decide +kernel
theorem dX9_ofPerson_1 : decode cX9_ofPerson 1 = .ok (.getfield 7, 3) := by decide +kernel
theorem dX9_ofPerson_4 : decode cX9_ofPerson 4 = .ok (.bipush 70, 2) := by decide +kernel
theorem dX9_ofPerson_6 : decode cX9_ofPerson 6 = .ok (.iconst 5, 1) := by decide +kernel
theorem dX9_ofPerson_7 : decode cX9_ofPerson 7 = .ok (.iload_n 1, 1) := by decide +kernel
theorem dX9_ofPerson_8 : decode cX9_ofPerson 8 = .ok (.imul, 1) := by decide +kernel
theorem dX9_ofPerson_9 : decode cX9_ofPerson 9 = .ok (.iadd, 1) := by decide +kernel
theorem dX9_ofPerson_10 : decode cX9_ofPerson 10 = .ok (.iload_n 2, 1) := by decide +kernel
theorem dX9_ofPerson_11 : decode cX9_ofPerson 11 = .ok (.iadd, 1) := by decide +kernel
theorem dX9_ofPerson_12 : decode cX9_ofPerson 12 = .ok (.iaload, 1) := by decide +kernel
theorem dX9_ofPerson_13 : decode cX9_ofPerson 13 = .ok (.ireturn, 1) := by decide +kernel
theorem dX9_layPerson_0 : decode cX9_layPerson 0 = .ok (.aload_n 0, 1) := by decide +kernel
theorem dX9_layPerson_1 : decode cX9_layPerson 1 = .ok (.getfield 7, 3) := by decide +kernel
theorem dX9_layPerson_4 : decode cX9_layPerson 4 = .ok (.bipush 70, 2) := by decide +kernel
theorem dX9_layPerson_6 : decode cX9_layPerson 6 = .ok (.iconst 5, 1) := by decide +kernel
theorem dX9_layPerson_7 : decode cX9_layPerson 7 = .ok (.iload_n 1, 1) := by decide +kernel
theorem dX9_layPerson_8 : decode cX9_layPerson 8 = .ok (.imul, 1) := by decide +kernel
theorem dX9_layPerson_9 : decode cX9_layPerson 9 = .ok (.iadd, 1) := by decide +kernel
theorem dX9_layPerson_10 : decode cX9_layPerson 10 = .ok (.iload_n 2, 1) := by decide +kernel
theorem dX9_layPerson_11 : decode cX9_layPerson 11 = .ok (.iadd, 1) := by decide +kernel
theorem dX9_layPerson_12 : decode cX9_layPerson 12 = .ok (.iload_n 3, 1) := by decide +kernel
theorem dX9_layPerson_13 : decode cX9_layPerson 13 = .ok (.iastore, 1) := by decide +kernel
theorem dX9_layPerson_14 : decode cX9_layPerson 14 = .ok (.return_, 1) := by decide +kernel
set_option maxRecDepth 20000 in
theorem ggX9_masterOf_X9_ofPerson : GoodIn wsX9_masterOf wsX9_ofPerson := goodIn_r _ [5, 6, 7, 8, 9, 10, 11, 12, 13, 14, 15, 16, 17] (by decide +kernel) (by decide +kernel)
set_option maxRecDepth 20000 in
theorem gX9_masterOf_X9_ofPerson : GoodIn wsX9_masterOf (wsV RX9 26 RX9 yX9_ofPerson wsX9_ofPerson) := goodIn_app (goodIn_of _ (by decide +kernel)) ggX9_masterOf_X9_ofPerson
theorem dX9_masterOf_0 : decode cX9_masterOf 0 = .ok (.aload_n 0, 1) := by decide +kernel
theorem dX9_masterOf_1 : decode cX9_masterOf 1 = .ok (.iload_n 1, 1) := by decide +kernel
theorem dX9_masterOf_2 : decode cX9_masterOf 2 = .ok (.iconst 2, 1) := by decide +kernel
theorem dX9_masterOf_3 : decode cX9_masterOf 3 = .ok (.invokevirtual 26, 3) := by decide +kernel
theorem dX9_masterOf_6 : decode cX9_masterOf 6 = .ok (.iconst 1, 1) := by decide +kernel
theorem dX9_masterOf_7 : decode cX9_masterOf 7 = .ok (.isub, 1) := by decide +kernel
theorem dX9_masterOf_8 : decode cX9_masterOf 8 = .ok (.ireturn, 1) := by decide +kernel
set_option maxRecDepth 20000 in
theorem ggX9_isPerson_X9_in : GoodIn wsX9_isPerson wsX9_in := goodIn_r _ [4] (by decide +kernel) (by decide +kernel)
set_option maxRecDepth 20000 in
theorem gX9_isPerson_X9_in : GoodIn wsX9_isPerson (va_wsS RX9 30 yX9_in wsX9_in) := goodIn_app (goodIn_of _ (by decide +kernel)) ggX9_isPerson_X9_in
theorem dX9_isPerson_0 : decode cX9_isPerson 0 = .ok (.iload_n 0, 1) := by decide +kernel
theorem dX9_isPerson_1 : decode cX9_isPerson 1 = .ok (.iconst 0, 1) := by decide +kernel
theorem dX9_isPerson_2 : decode cX9_isPerson 2 = .ok (.iconst 4, 1) := by decide +kernel
theorem dX9_isPerson_3 : decode cX9_isPerson 3 = .ok (.invokestatic 30, 3) := by decide +kernel
theorem dX9_isPerson_6 : decode cX9_isPerson 6 = .ok (.ireturn, 1) := by decide +kernel
set_option maxRecDepth 20000 in
theorem ggX9_isRow_X9_in : GoodIn wsX9_isRow wsX9_in := goodIn_r _ [5] (by decide +kernel) (by decide +kernel)
set_option maxRecDepth 20000 in
theorem gX9_isRow_X9_in : GoodIn wsX9_isRow (va_wsS RX9 30 yX9_in wsX9_in) := goodIn_app (goodIn_of _ (by decide +kernel)) ggX9_isRow_X9_in
theorem dX9_isRow_0 : decode cX9_isRow 0 = .ok (.iload_n 1, 1) := by decide +kernel
theorem dX9_isRow_1 : decode cX9_isRow 1 = .ok (.iconst 0, 1) := by decide +kernel
theorem dX9_isRow_2 : decode cX9_isRow 2 = .ok (.aload_n 0, 1) := by decide +kernel
theorem dX9_isRow_3 : decode cX9_isRow 3 = .ok (.getfield 7, 3) := by decide +kernel
theorem dX9_isRow_6 : decode cX9_isRow 6 = .ok (.iconst 0, 1) := by decide +kernel
theorem dX9_isRow_7 : decode cX9_isRow 7 = .ok (.iaload, 1) := by decide +kernel
theorem dX9_isRow_8 : decode cX9_isRow 8 = .ok (.iconst 1, 1) := by decide +kernel
theorem dX9_isRow_9 : decode cX9_isRow 9 = .ok (.isub, 1) := by decide +kernel
theorem dX9_isRow_10 : decode cX9_isRow 10 = .ok (.invokestatic 30, 3) := by decide +kernel
theorem dX9_isRow_13 : decode cX9_isRow 13 = .ok (.ireturn, 1) := by decide +kernel
theorem dX9_saves_0 : decode cX9_saves 0 = .ok (.aload_n 0, 1) := by decide +kernel
theorem dX9_saves_1 : decode cX9_saves 1 = .ok (.getfield 34, 3) := by decide +kernel
theorem dX9_saves_4 : decode cX9_saves 4 = .ok (.bipush 6, 2) := by decide +kernel
theorem dX9_saves_6 : decode cX9_saves 6 = .ok (.if_icmp .ne 44, 3) := by decide +kernel
theorem dX9_saves_9 : decode cX9_saves 9 = .ok (.iconst 0, 1) := by decide +kernel
theorem dX9_saves_10 : decode cX9_saves 10 = .ok (.istore_n 1, 1) := by decide +kernel
theorem dX9_saves_11 : decode cX9_saves 11 = .ok (.iload_n 1, 1) := by decide +kernel
theorem dX9_saves_12 : decode cX9_saves 12 = .ok (.sipush 650, 3) := by decide +kernel
theorem dX9_saves_15 : decode cX9_saves 15 = .ok (.if_icmp .ge 25, 3) := by decide +kernel
theorem dX9_saves_18 : decode cX9_saves 18 = .ok (.aload_n 0, 1) := by decide +kernel
theorem dX9_saves_19 : decode cX9_saves 19 = .ok (.getfield 13, 3) := by decide +kernel
theorem dX9_saves_22 : decode cX9_saves 22 = .ok (.iload_n 1, 1) := by decide +kernel
theorem dX9_saves_23 : decode cX9_saves 23 = .ok (.aload_n 0, 1) := by decide +kernel
theorem dX9_saves_24 : decode cX9_saves 24 = .ok (.getfield 13, 3) := by decide +kernel
theorem dX9_saves_27 : decode cX9_saves 27 = .ok (.iload_n 1, 1) := by decide +kernel
theorem dX9_saves_28 : decode cX9_saves 28 = .ok (.sipush 130, 3) := by decide +kernel
theorem dX9_saves_31 : decode cX9_saves 31 = .ok (.iadd, 1) := by decide +kernel
theorem dX9_saves_32 : decode cX9_saves 32 = .ok (.iaload, 1) := by decide +kernel
theorem dX9_saves_33 : decode cX9_saves 33 = .ok (.iastore, 1) := by decide +kernel
theorem dX9_saves_34 : decode cX9_saves 34 = .ok (.iinc 1 1, 3) := by decide +kernel
theorem dX9_saves_37 : decode cX9_saves 37 = .ok (.goto (-26), 3) := by decide +kernel
theorem dX9_saves_40 : decode cX9_saves 40 = .ok (.aload_n 0, 1) := by decide +kernel
theorem dX9_saves_41 : decode cX9_saves 41 = .ok (.dup, 1) := by decide +kernel
theorem dX9_saves_42 : decode cX9_saves 42 = .ok (.getfield 34, 3) := by decide +kernel
theorem dX9_saves_45 : decode cX9_saves 45 = .ok (.iconst 1, 1) := by decide +kernel
theorem dX9_saves_46 : decode cX9_saves 46 = .ok (.isub, 1) := by decide +kernel
theorem dX9_saves_47 : decode cX9_saves 47 = .ok (.putfield 34, 3) := by decide +kernel
theorem dX9_saves_50 : decode cX9_saves 50 = .ok (.iconst 0, 1) := by decide +kernel
theorem dX9_saves_51 : decode cX9_saves 51 = .ok (.istore_n 1, 1) := by decide +kernel
theorem dX9_saves_52 : decode cX9_saves 52 = .ok (.iload_n 1, 1) := by decide +kernel
theorem dX9_saves_53 : decode cX9_saves 53 = .ok (.sipush 130, 3) := by decide +kernel
theorem dX9_saves_56 : decode cX9_saves 56 = .ok (.if_icmp .ge 30, 3) := by decide +kernel
theorem dX9_saves_59 : decode cX9_saves 59 = .ok (.aload_n 0, 1) := by decide +kernel
theorem dX9_saves_60 : decode cX9_saves 60 = .ok (.getfield 13, 3) := by decide +kernel
theorem dX9_saves_63 : decode cX9_saves 63 = .ok (.sipush 130, 3) := by decide +kernel
theorem dX9_saves_66 : decode cX9_saves 66 = .ok (.aload_n 0, 1) := by decide +kernel
theorem dX9_saves_67 : decode cX9_saves 67 = .ok (.getfield 34, 3) := by decide +kernel
theorem dX9_saves_70 : decode cX9_saves 70 = .ok (.imul, 1) := by decide +kernel
theorem dX9_saves_71 : decode cX9_saves 71 = .ok (.iload_n 1, 1) := by decide +kernel
theorem dX9_saves_72 : decode cX9_saves 72 = .ok (.iadd, 1) := by decide +kernel
theorem dX9_saves_73 : decode cX9_saves 73 = .ok (.aload_n 0, 1) := by decide +kernel
theorem dX9_saves_74 : decode cX9_saves 74 = .ok (.getfield 7, 3) := by decide +kernel
theorem dX9_saves_77 : decode cX9_saves 77 = .ok (.iload_n 1, 1) := by decide +kernel
theorem dX9_saves_78 : decode cX9_saves 78 = .ok (.iaload, 1) := by decide +kernel
theorem dX9_saves_79 : decode cX9_saves 79 = .ok (.iastore, 1) := by decide +kernel
theorem dX9_saves_80 : decode cX9_saves 80 = .ok (.iinc 1 1, 3) := by decide +kernel
theorem dX9_saves_83 : decode cX9_saves 83 = .ok (.goto (-31), 3) := by decide +kernel
theorem dX9_saves_86 : decode cX9_saves 86 = .ok (.aload_n 0, 1) := by decide +kernel
theorem dX9_saves_87 : decode cX9_saves 87 = .ok (.dup, 1) := by decide +kernel
theorem dX9_saves_88 : decode cX9_saves 88 = .ok (.getfield 34, 3) := by decide +kernel
theorem dX9_saves_91 : decode cX9_saves 91 = .ok (.iconst 1, 1) := by decide +kernel
theorem dX9_saves_92 : decode cX9_saves 92 = .ok (.iadd, 1) := by decide +kernel
theorem dX9_saves_93 : decode cX9_saves 93 = .ok (.putfield 34, 3) := by decide +kernel
theorem dX9_saves_96 : decode cX9_saves 96 = .ok (.return_, 1) := by decide +kernel
set_option maxRecDepth 20000 in
theorem ggX9_isMasterOver_X9_masterOf : GoodIn wsX9_isMasterOver wsX9_masterOf := goodIn_r _ [5, 6, 7, 8, 4, 9, 10, 11, 12, 13, 14, 15, 16, 17, 18, 19, 20, 21] (by decide +kernel) (by decide +kernel)
set_option maxRecDepth 20000 in
theorem gX9_isMasterOver_X9_masterOf : GoodIn wsX9_isMasterOver (wsV RX9 37 RX9 yX9_masterOf wsX9_masterOf) := goodIn_app (goodIn_of _ (by decide +kernel)) ggX9_isMasterOver_X9_masterOf
theorem dX9_isMasterOver_0 : decode cX9_isMasterOver 0 = .ok (.aload_n 0, 1) := by decide +kernel
theorem dX9_isMasterOver_1 : decode cX9_isMasterOver 1 = .ok (.iload_n 2, 1) := by decide +kernel
theorem dX9_isMasterOver_2 : decode cX9_isMasterOver 2 = .ok (.invokevirtual 37, 3) := by decide +kernel
theorem dX9_isMasterOver_5 : decode cX9_isMasterOver 5 = .ok (.istore_n 3, 1) := by decide +kernel
theorem dX9_isMasterOver_6 : decode cX9_isMasterOver 6 = .ok (.iload_n 3, 1) := by decide +kernel
theorem dX9_isMasterOver_7 : decode cX9_isMasterOver 7 = .ok (.iload_n 1, 1) := by decide +kernel
theorem dX9_isMasterOver_8 : decode cX9_isMasterOver 8 = .ok (.if_icmp .eq 17, 3) := by decide +kernel
theorem dX9_isMasterOver_11 : decode cX9_isMasterOver 11 = .ok (.iload_n 3, 1) := by decide +kernel
theorem dX9_isMasterOver_12 : decode cX9_isMasterOver 12 = .ok (.iconst (-1), 1) := by decide +kernel
theorem dX9_isMasterOver_13 : decode cX9_isMasterOver 13 = .ok (.if_icmp .eq 16, 3) := by decide +kernel
theorem dX9_isMasterOver_16 : decode cX9_isMasterOver 16 = .ok (.aload_n 0, 1) := by decide +kernel
theorem dX9_isMasterOver_17 : decode cX9_isMasterOver 17 = .ok (.iload_n 3, 1) := by decide +kernel
theorem dX9_isMasterOver_18 : decode cX9_isMasterOver 18 = .ok (.invokevirtual 37, 3) := by decide +kernel
theorem dX9_isMasterOver_21 : decode cX9_isMasterOver 21 = .ok (.iload_n 1, 1) := by decide +kernel
theorem dX9_isMasterOver_22 : decode cX9_isMasterOver 22 = .ok (.if_icmp .ne 7, 3) := by decide +kernel
theorem dX9_isMasterOver_25 : decode cX9_isMasterOver 25 = .ok (.iconst 1, 1) := by decide +kernel
theorem dX9_isMasterOver_26 : decode cX9_isMasterOver 26 = .ok (.goto 4, 3) := by decide +kernel
theorem dX9_isMasterOver_29 : decode cX9_isMasterOver 29 = .ok (.iconst 0, 1) := by decide +kernel
theorem dX9_isMasterOver_30 : decode cX9_isMasterOver 30 = .ok (.ireturn, 1) := by decide +kernel
set_option maxRecDepth 20000 in
theorem ggX9_isVeiledBy_X9_of : GoodIn wsX9_isVeiledBy wsX9_of := goodIn_r _ [5, 6, 19, 20, 21, 22, 23, 24, 25, 26, 27, 28, 29] (by decide +kernel) (by decide +kernel)
set_option maxRecDepth 20000 in
theorem gX9_isVeiledBy_X9_of : GoodIn wsX9_isVeiledBy (wsV RX9 41 RX9 yX9_of wsX9_of) := goodIn_app (goodIn_of _ (by decide +kernel)) ggX9_isVeiledBy_X9_of
set_option maxRecDepth 20000 in
theorem ggX9_isVeiledBy_X9_ofPerson : GoodIn wsX9_isVeiledBy wsX9_ofPerson := goodIn_r _ [10, 6, 19, 20, 21, 22, 23, 24, 25, 26, 27, 28, 29] (by decide +kernel) (by decide +kernel)
set_option maxRecDepth 20000 in
theorem gX9_isVeiledBy_X9_ofPerson : GoodIn wsX9_isVeiledBy (wsV RX9 26 RX9 yX9_ofPerson wsX9_ofPerson) := goodIn_app (goodIn_of _ (by decide +kernel)) ggX9_isVeiledBy_X9_ofPerson
set_option maxRecDepth 20000 in
theorem ggX9_isVeiledBy_X9_isMasterOver : GoodIn wsX9_isVeiledBy wsX9_isMasterOver := goodIn_r _ [14, 15, 16, 17, 4, 18, 7, 8, 9, 10, 6, 19, 20, 21, 22, 23, 24, 25, 26, 27, 28, 29] (by decide +kernel) (by decide +kernel)
set_option maxRecDepth 20000 in
theorem gX9_isVeiledBy_X9_isMasterOver : GoodIn wsX9_isVeiledBy (wsV RX9 44 RX9 yX9_isMasterOver wsX9_isMasterOver) := goodIn_app (goodIn_of _ (by decide +kernel)) ggX9_isVeiledBy_X9_isMasterOver
theorem dX9_isVeiledBy_0 : decode cX9_isVeiledBy 0 = .ok (.aload_n 0, 1) := by decide +kernel
theorem dX9_isVeiledBy_1 : decode cX9_isVeiledBy 1 = .ok (.iload_n 3, 1) := by decide +kernel
theorem dX9_isVeiledBy_2 : decode cX9_isVeiledBy 2 = .ok (.iconst 3, 1) := by decide +kernel
theorem dX9_isVeiledBy_3 : decode cX9_isVeiledBy 3 = .ok (.invokevirtual 41, 3) := by decide +kernel
theorem dX9_isVeiledBy_6 : decode cX9_isVeiledBy 6 = .ok (.istore 4, 2) := by decide +kernel
theorem dX9_isVeiledBy_8 : decode cX9_isVeiledBy 8 = .ok (.iload_n 1, 1) := by decide +kernel
theorem dX9_isVeiledBy_9 : decode cX9_isVeiledBy 9 = .ok (.tableswitch 98 0 2 #[27, 44, 71], 27) := by decide +kernel
theorem dX9_isVeiledBy_36 : decode cX9_isVeiledBy 36 = .ok (.iload 4, 2) := by decide +kernel
theorem dX9_isVeiledBy_38 : decode cX9_isVeiledBy 38 = .ok (.aload_n 0, 1) := by decide +kernel
theorem dX9_isVeiledBy_39 : decode cX9_isVeiledBy 39 = .ok (.iload_n 2, 1) := by decide +kernel
theorem dX9_isVeiledBy_40 : decode cX9_isVeiledBy 40 = .ok (.iconst 0, 1) := by decide +kernel
theorem dX9_isVeiledBy_41 : decode cX9_isVeiledBy 41 = .ok (.invokevirtual 26, 3) := by decide +kernel
theorem dX9_isVeiledBy_44 : decode cX9_isVeiledBy 44 = .ok (.if_icmp .le 7, 3) := by decide +kernel
theorem dX9_isVeiledBy_47 : decode cX9_isVeiledBy 47 = .ok (.iconst 1, 1) := by decide +kernel
theorem dX9_isVeiledBy_48 : decode cX9_isVeiledBy 48 = .ok (.goto 4, 3) := by decide +kernel
theorem dX9_isVeiledBy_51 : decode cX9_isVeiledBy 51 = .ok (.iconst 0, 1) := by decide +kernel
theorem dX9_isVeiledBy_52 : decode cX9_isVeiledBy 52 = .ok (.ireturn, 1) := by decide +kernel
theorem dX9_isVeiledBy_53 : decode cX9_isVeiledBy 53 = .ok (.aload_n 0, 1) := by decide +kernel
theorem dX9_isVeiledBy_54 : decode cX9_isVeiledBy 54 = .ok (.iload_n 3, 1) := by decide +kernel
theorem dX9_isVeiledBy_55 : decode cX9_isVeiledBy 55 = .ok (.iconst 1, 1) := by decide +kernel
theorem dX9_isVeiledBy_56 : decode cX9_isVeiledBy 56 = .ok (.invokevirtual 41, 3) := by decide +kernel
theorem dX9_isVeiledBy_59 : decode cX9_isVeiledBy 59 = .ok (.aload_n 0, 1) := by decide +kernel
theorem dX9_isVeiledBy_60 : decode cX9_isVeiledBy 60 = .ok (.iload_n 2, 1) := by decide +kernel
theorem dX9_isVeiledBy_61 : decode cX9_isVeiledBy 61 = .ok (.iconst 1, 1) := by decide +kernel
theorem dX9_isVeiledBy_62 : decode cX9_isVeiledBy 62 = .ok (.invokevirtual 26, 3) := by decide +kernel
theorem dX9_isVeiledBy_65 : decode cX9_isVeiledBy 65 = .ok (.if_icmp .eq 13, 3) := by decide +kernel
theorem dX9_isVeiledBy_68 : decode cX9_isVeiledBy 68 = .ok (.iload 4, 2) := by decide +kernel
theorem dX9_isVeiledBy_70 : decode cX9_isVeiledBy 70 = .ok (.iconst 2, 1) := by decide +kernel
theorem dX9_isVeiledBy_71 : decode cX9_isVeiledBy 71 = .ok (.if_icmp .lt 7, 3) := by decide +kernel
theorem dX9_isVeiledBy_74 : decode cX9_isVeiledBy 74 = .ok (.iconst 1, 1) := by decide +kernel
theorem dX9_isVeiledBy_75 : decode cX9_isVeiledBy 75 = .ok (.goto 4, 3) := by decide +kernel
theorem dX9_isVeiledBy_78 : decode cX9_isVeiledBy 78 = .ok (.iconst 0, 1) := by decide +kernel
theorem dX9_isVeiledBy_79 : decode cX9_isVeiledBy 79 = .ok (.ireturn, 1) := by decide +kernel
theorem dX9_isVeiledBy_80 : decode cX9_isVeiledBy 80 = .ok (.aload_n 0, 1) := by decide +kernel
theorem dX9_isVeiledBy_81 : decode cX9_isVeiledBy 81 = .ok (.iload_n 3, 1) := by decide +kernel
theorem dX9_isVeiledBy_82 : decode cX9_isVeiledBy 82 = .ok (.iconst 0, 1) := by decide +kernel
theorem dX9_isVeiledBy_83 : decode cX9_isVeiledBy 83 = .ok (.invokevirtual 41, 3) := by decide +kernel
theorem dX9_isVeiledBy_86 : decode cX9_isVeiledBy 86 = .ok (.iload_n 2, 1) := by decide +kernel
theorem dX9_isVeiledBy_87 : decode cX9_isVeiledBy 87 = .ok (.if_icmp .eq 18, 3) := by decide +kernel
theorem dX9_isVeiledBy_90 : decode cX9_isVeiledBy 90 = .ok (.aload_n 0, 1) := by decide +kernel
theorem dX9_isVeiledBy_91 : decode cX9_isVeiledBy 91 = .ok (.iload_n 3, 1) := by decide +kernel
theorem dX9_isVeiledBy_92 : decode cX9_isVeiledBy 92 = .ok (.iconst 2, 1) := by decide +kernel
theorem dX9_isVeiledBy_93 : decode cX9_isVeiledBy 93 = .ok (.invokevirtual 41, 3) := by decide +kernel
theorem dX9_isVeiledBy_96 : decode cX9_isVeiledBy 96 = .ok (.bipush 90, 2) := by decide +kernel
theorem dX9_isVeiledBy_98 : decode cX9_isVeiledBy 98 = .ok (.if_icmp .lt 7, 3) := by decide +kernel
theorem dX9_isVeiledBy_101 : decode cX9_isVeiledBy 101 = .ok (.iconst 1, 1) := by decide +kernel
theorem dX9_isVeiledBy_102 : decode cX9_isVeiledBy 102 = .ok (.goto 4, 3) := by decide +kernel
theorem dX9_isVeiledBy_105 : decode cX9_isVeiledBy 105 = .ok (.iconst 0, 1) := by decide +kernel
theorem dX9_isVeiledBy_106 : decode cX9_isVeiledBy 106 = .ok (.ireturn, 1) := by decide +kernel
theorem dX9_isVeiledBy_107 : decode cX9_isVeiledBy 107 = .ok (.iload 4, 2) := by decide +kernel
theorem dX9_isVeiledBy_109 : decode cX9_isVeiledBy 109 = .ok (.iconst 3, 1) := by decide +kernel
theorem dX9_isVeiledBy_110 : decode cX9_isVeiledBy 110 = .ok (.if_icmp .ne 21, 3) := by decide +kernel
theorem dX9_isVeiledBy_113 : decode cX9_isVeiledBy 113 = .ok (.aload_n 0, 1) := by decide +kernel
theorem dX9_isVeiledBy_114 : decode cX9_isVeiledBy 114 = .ok (.iload_n 2, 1) := by decide +kernel
theorem dX9_isVeiledBy_115 : decode cX9_isVeiledBy 115 = .ok (.aload_n 0, 1) := by decide +kernel
theorem dX9_isVeiledBy_116 : decode cX9_isVeiledBy 116 = .ok (.iload_n 3, 1) := by decide +kernel
theorem dX9_isVeiledBy_117 : decode cX9_isVeiledBy 117 = .ok (.iconst 0, 1) := by decide +kernel
theorem dX9_isVeiledBy_118 : decode cX9_isVeiledBy 118 = .ok (.invokevirtual 41, 3) := by decide +kernel
theorem dX9_isVeiledBy_121 : decode cX9_isVeiledBy 121 = .ok (.invokevirtual 44, 3) := by decide +kernel
theorem dX9_isVeiledBy_124 : decode cX9_isVeiledBy 124 = .ok (.ifCond .eq 7, 3) := by decide +kernel
theorem dX9_isVeiledBy_127 : decode cX9_isVeiledBy 127 = .ok (.iconst 1, 1) := by decide +kernel
theorem dX9_isVeiledBy_128 : decode cX9_isVeiledBy 128 = .ok (.goto 4, 3) := by decide +kernel
theorem dX9_isVeiledBy_131 : decode cX9_isVeiledBy 131 = .ok (.iconst 0, 1) := by decide +kernel
theorem dX9_isVeiledBy_132 : decode cX9_isVeiledBy 132 = .ok (.ireturn, 1) := by decide +kernel
set_option maxRecDepth 20000 in
theorem ggX9_veilsOf_X9_of : GoodIn wsX9_veilsOf wsX9_of := goodIn_r _ [6, 1, 23, 24, 25, 26, 27, 28, 29, 30, 31, 32, 33] (by decide +kernel) (by decide +kernel)
set_option maxRecDepth 20000 in
theorem gX9_veilsOf_X9_of : GoodIn wsX9_veilsOf (wsV RX9 41 RX9 yX9_of wsX9_of) := goodIn_app (goodIn_of _ (by decide +kernel)) ggX9_veilsOf_X9_of
set_option maxRecDepth 20000 in
theorem ggX9_veilsOf_X9_isVeiledBy : GoodIn wsX9_veilsOf wsX9_isVeiledBy := goodIn_r _ [10, 2, 3, 4, 5, 6, 1, 11, 12, 13, 14, 15, 16, 17, 18, 19, 20, 21, 22, 23, 24, 25, 26, 27, 28, 29, 30, 31, 32, 33] (by decide +kernel) (by decide +kernel)
set_option maxRecDepth 20000 in
theorem gX9_veilsOf_X9_isVeiledBy : GoodIn wsX9_veilsOf (wsV RX9 48 RX9 yX9_isVeiledBy wsX9_isVeiledBy) := goodIn_app (goodIn_of _ (by decide +kernel)) ggX9_veilsOf_X9_isVeiledBy
theorem dX9_veilsOf_0 : decode cX9_veilsOf 0 = .ok (.iconst 0, 1) := by decide +kernel
theorem dX9_veilsOf_1 : decode cX9_veilsOf 1 = .ok (.istore_n 3, 1) := by decide +kernel
theorem dX9_veilsOf_2 : decode cX9_veilsOf 2 = .ok (.iconst 0, 1) := by decide +kernel
theorem dX9_veilsOf_3 : decode cX9_veilsOf 3 = .ok (.istore 4, 2) := by decide +kernel
theorem dX9_veilsOf_5 : decode cX9_veilsOf 5 = .ok (.iload 4, 2) := by decide +kernel
theorem dX9_veilsOf_7 : decode cX9_veilsOf 7 = .ok (.iconst 4, 1) := by decide +kernel
theorem dX9_veilsOf_8 : decode cX9_veilsOf 8 = .ok (.if_icmp .ge 68, 3) := by decide +kernel
theorem dX9_veilsOf_11 : decode cX9_veilsOf 11 = .ok (.aload_n 0, 1) := by decide +kernel
theorem dX9_veilsOf_12 : decode cX9_veilsOf 12 = .ok (.iload_n 2, 1) := by decide +kernel
theorem dX9_veilsOf_13 : decode cX9_veilsOf 13 = .ok (.iconst 0, 1) := by decide +kernel
theorem dX9_veilsOf_14 : decode cX9_veilsOf 14 = .ok (.invokevirtual 41, 3) := by decide +kernel
theorem dX9_veilsOf_17 : decode cX9_veilsOf 17 = .ok (.iload_n 1, 1) := by decide +kernel
theorem dX9_veilsOf_18 : decode cX9_veilsOf 18 = .ok (.if_icmp .eq 58, 3) := by decide +kernel
theorem dX9_veilsOf_21 : decode cX9_veilsOf 21 = .ok (.aload_n 0, 1) := by decide +kernel
theorem dX9_veilsOf_22 : decode cX9_veilsOf 22 = .ok (.getfield 7, 3) := by decide +kernel
theorem dX9_veilsOf_25 : decode cX9_veilsOf 25 = .ok (.iconst 1, 1) := by decide +kernel
theorem dX9_veilsOf_26 : decode cX9_veilsOf 26 = .ok (.iaload, 1) := by decide +kernel
theorem dX9_veilsOf_27 : decode cX9_veilsOf 27 = .ok (.iload 4, 2) := by decide +kernel
theorem dX9_veilsOf_29 : decode cX9_veilsOf 29 = .ok (.ishr, 1) := by decide +kernel
theorem dX9_veilsOf_30 : decode cX9_veilsOf 30 = .ok (.iconst 1, 1) := by decide +kernel
theorem dX9_veilsOf_31 : decode cX9_veilsOf 31 = .ok (.iand, 1) := by decide +kernel
theorem dX9_veilsOf_32 : decode cX9_veilsOf 32 = .ok (.iconst 1, 1) := by decide +kernel
theorem dX9_veilsOf_33 : decode cX9_veilsOf 33 = .ok (.if_icmp .ne 18, 3) := by decide +kernel
theorem dX9_veilsOf_36 : decode cX9_veilsOf 36 = .ok (.aload_n 0, 1) := by decide +kernel
theorem dX9_veilsOf_37 : decode cX9_veilsOf 37 = .ok (.iload 4, 2) := by decide +kernel
theorem dX9_veilsOf_39 : decode cX9_veilsOf 39 = .ok (.iload_n 1, 1) := by decide +kernel
theorem dX9_veilsOf_40 : decode cX9_veilsOf 40 = .ok (.iload_n 2, 1) := by decide +kernel
theorem dX9_veilsOf_41 : decode cX9_veilsOf 41 = .ok (.invokevirtual 48, 3) := by decide +kernel
theorem dX9_veilsOf_44 : decode cX9_veilsOf 44 = .ok (.ifCond .eq 7, 3) := by decide +kernel
theorem dX9_veilsOf_47 : decode cX9_veilsOf 47 = .ok (.iconst 1, 1) := by decide +kernel
theorem dX9_veilsOf_48 : decode cX9_veilsOf 48 = .ok (.goto 4, 3) := by decide +kernel
theorem dX9_veilsOf_51 : decode cX9_veilsOf 51 = .ok (.iconst 0, 1) := by decide +kernel
theorem dX9_veilsOf_52 : decode cX9_veilsOf 52 = .ok (.istore 5, 2) := by decide +kernel
theorem dX9_veilsOf_54 : decode cX9_veilsOf 54 = .ok (.iload_n 3, 1) := by decide +kernel
theorem dX9_veilsOf_55 : decode cX9_veilsOf 55 = .ok (.iload 5, 2) := by decide +kernel
theorem dX9_veilsOf_57 : decode cX9_veilsOf 57 = .ok (.ifCond .eq 10, 3) := by decide +kernel
theorem dX9_veilsOf_60 : decode cX9_veilsOf 60 = .ok (.iconst 1, 1) := by decide +kernel
theorem dX9_veilsOf_61 : decode cX9_veilsOf 61 = .ok (.iload 4, 2) := by decide +kernel
theorem dX9_veilsOf_63 : decode cX9_veilsOf 63 = .ok (.ishl, 1) := by decide +kernel
theorem dX9_veilsOf_64 : decode cX9_veilsOf 64 = .ok (.goto 4, 3) := by decide +kernel
theorem dX9_veilsOf_67 : decode cX9_veilsOf 67 = .ok (.iconst 0, 1) := by decide +kernel
theorem dX9_veilsOf_68 : decode cX9_veilsOf 68 = .ok (.ior, 1) := by decide +kernel
theorem dX9_veilsOf_69 : decode cX9_veilsOf 69 = .ok (.istore_n 3, 1) := by decide +kernel
theorem dX9_veilsOf_70 : decode cX9_veilsOf 70 = .ok (.iinc 4 1, 3) := by decide +kernel
theorem dX9_veilsOf_73 : decode cX9_veilsOf 73 = .ok (.goto (-68), 3) := by decide +kernel
theorem dX9_veilsOf_76 : decode cX9_veilsOf 76 = .ok (.iload_n 3, 1) := by decide +kernel
theorem dX9_veilsOf_77 : decode cX9_veilsOf 77 = .ok (.ireturn, 1) := by decide +kernel
set_option maxRecDepth 20000 in
theorem ggX9_seenBy_X9_veilsOf : GoodIn wsX9_seenBy wsX9_veilsOf := goodIn_r _ [6, 1, 7, 8, 9, 5, 10, 11, 12, 13, 14, 15, 16, 17, 18, 19, 20, 21, 22, 23, 24, 25, 26, 27, 28, 29, 30, 31, 32, 33, 34, 35, 36, 37] (by decide +kernel) (by decide +kernel)
set_option maxRecDepth 20000 in
theorem gX9_seenBy_X9_veilsOf : GoodIn wsX9_seenBy (wsV RX9 51 RX9 yX9_veilsOf wsX9_veilsOf) := goodIn_app (goodIn_of _ (by decide +kernel)) ggX9_seenBy_X9_veilsOf
theorem dX9_seenBy_0 : decode cX9_seenBy 0 = .ok (.iconst 0, 1) := by decide +kernel
theorem dX9_seenBy_1 : decode cX9_seenBy 1 = .ok (.istore_n 2, 1) := by decide +kernel
theorem dX9_seenBy_2 : decode cX9_seenBy 2 = .ok (.iconst 0, 1) := by decide +kernel
theorem dX9_seenBy_3 : decode cX9_seenBy 3 = .ok (.istore_n 3, 1) := by decide +kernel
theorem dX9_seenBy_4 : decode cX9_seenBy 4 = .ok (.iload_n 3, 1) := by decide +kernel
theorem dX9_seenBy_5 : decode cX9_seenBy 5 = .ok (.aload_n 0, 1) := by decide +kernel
theorem dX9_seenBy_6 : decode cX9_seenBy 6 = .ok (.getfield 7, 3) := by decide +kernel
theorem dX9_seenBy_9 : decode cX9_seenBy 9 = .ok (.iconst 0, 1) := by decide +kernel
theorem dX9_seenBy_10 : decode cX9_seenBy 10 = .ok (.iaload, 1) := by decide +kernel
theorem dX9_seenBy_11 : decode cX9_seenBy 11 = .ok (.if_icmp .ge 28, 3) := by decide +kernel
theorem dX9_seenBy_14 : decode cX9_seenBy 14 = .ok (.iload_n 2, 1) := by decide +kernel
theorem dX9_seenBy_15 : decode cX9_seenBy 15 = .ok (.aload_n 0, 1) := by decide +kernel
theorem dX9_seenBy_16 : decode cX9_seenBy 16 = .ok (.iload_n 1, 1) := by decide +kernel
theorem dX9_seenBy_17 : decode cX9_seenBy 17 = .ok (.iload_n 3, 1) := by decide +kernel
theorem dX9_seenBy_18 : decode cX9_seenBy 18 = .ok (.invokevirtual 51, 3) := by decide +kernel
theorem dX9_seenBy_21 : decode cX9_seenBy 21 = .ok (.ifCond .ne 9, 3) := by decide +kernel
theorem dX9_seenBy_24 : decode cX9_seenBy 24 = .ok (.iconst 1, 1) := by decide +kernel
theorem dX9_seenBy_25 : decode cX9_seenBy 25 = .ok (.iload_n 3, 1) := by decide +kernel
theorem dX9_seenBy_26 : decode cX9_seenBy 26 = .ok (.ishl, 1) := by decide +kernel
theorem dX9_seenBy_27 : decode cX9_seenBy 27 = .ok (.goto 4, 3) := by decide +kernel
theorem dX9_seenBy_30 : decode cX9_seenBy 30 = .ok (.iconst 0, 1) := by decide +kernel
theorem dX9_seenBy_31 : decode cX9_seenBy 31 = .ok (.ior, 1) := by decide +kernel
theorem dX9_seenBy_32 : decode cX9_seenBy 32 = .ok (.istore_n 2, 1) := by decide +kernel
theorem dX9_seenBy_33 : decode cX9_seenBy 33 = .ok (.iinc 3 1, 3) := by decide +kernel
theorem dX9_seenBy_36 : decode cX9_seenBy 36 = .ok (.goto (-32), 3) := by decide +kernel
theorem dX9_seenBy_39 : decode cX9_seenBy 39 = .ok (.iload_n 2, 1) := by decide +kernel
theorem dX9_seenBy_40 : decode cX9_seenBy 40 = .ok (.ireturn, 1) := by decide +kernel
set_option maxRecDepth 20000 in
theorem ggX9_rowsOf_X9_of : GoodIn wsX9_rowsOf wsX9_of := goodIn_r _ [6, 1, 10, 11, 12, 13, 14, 15, 16, 17, 18, 19, 20] (by decide +kernel) (by decide +kernel)
set_option maxRecDepth 20000 in
theorem gX9_rowsOf_X9_of : GoodIn wsX9_rowsOf (wsV RX9 41 RX9 yX9_of wsX9_of) := goodIn_app (goodIn_of _ (by decide +kernel)) ggX9_rowsOf_X9_of
set_option maxRecDepth 20000 in
theorem ggX9_rowsOf_X9_in : GoodIn wsX9_rowsOf wsX9_in := goodIn_r _ [9] (by decide +kernel) (by decide +kernel)
set_option maxRecDepth 20000 in
theorem gX9_rowsOf_X9_in : GoodIn wsX9_rowsOf (va_wsS RX9 30 yX9_in wsX9_in) := goodIn_app (goodIn_of _ (by decide +kernel)) ggX9_rowsOf_X9_in
theorem dX9_rowsOf_0 : decode cX9_rowsOf 0 = .ok (.iconst 0, 1) := by decide +kernel
theorem dX9_rowsOf_1 : decode cX9_rowsOf 1 = .ok (.istore 4, 2) := by decide +kernel
theorem dX9_rowsOf_3 : decode cX9_rowsOf 3 = .ok (.iconst 0, 1) := by decide +kernel
theorem dX9_rowsOf_4 : decode cX9_rowsOf 4 = .ok (.istore 5, 2) := by decide +kernel
theorem dX9_rowsOf_6 : decode cX9_rowsOf 6 = .ok (.iload 5, 2) := by decide +kernel
theorem dX9_rowsOf_8 : decode cX9_rowsOf 8 = .ok (.aload_n 0, 1) := by decide +kernel
theorem dX9_rowsOf_9 : decode cX9_rowsOf 9 = .ok (.getfield 7, 3) := by decide +kernel
theorem dX9_rowsOf_12 : decode cX9_rowsOf 12 = .ok (.iconst 0, 1) := by decide +kernel
theorem dX9_rowsOf_13 : decode cX9_rowsOf 13 = .ok (.iaload, 1) := by decide +kernel
theorem dX9_rowsOf_14 : decode cX9_rowsOf 14 = .ok (.if_icmp .ge 65, 3) := by decide +kernel
theorem dX9_rowsOf_17 : decode cX9_rowsOf 17 = .ok (.iload_n 1, 1) := by decide +kernel
theorem dX9_rowsOf_18 : decode cX9_rowsOf 18 = .ok (.iconst (-1), 1) := by decide +kernel
theorem dX9_rowsOf_19 : decode cX9_rowsOf 19 = .ok (.if_icmp .eq 14, 3) := by decide +kernel
theorem dX9_rowsOf_22 : decode cX9_rowsOf 22 = .ok (.aload_n 0, 1) := by decide +kernel
theorem dX9_rowsOf_23 : decode cX9_rowsOf 23 = .ok (.iload 5, 2) := by decide +kernel
theorem dX9_rowsOf_25 : decode cX9_rowsOf 25 = .ok (.iconst 1, 1) := by decide +kernel
theorem dX9_rowsOf_26 : decode cX9_rowsOf 26 = .ok (.invokevirtual 41, 3) := by decide +kernel
theorem dX9_rowsOf_29 : decode cX9_rowsOf 29 = .ok (.iload_n 1, 1) := by decide +kernel
theorem dX9_rowsOf_30 : decode cX9_rowsOf 30 = .ok (.if_icmp .ne 22, 3) := by decide +kernel
theorem dX9_rowsOf_33 : decode cX9_rowsOf 33 = .ok (.aload_n 0, 1) := by decide +kernel
theorem dX9_rowsOf_34 : decode cX9_rowsOf 34 = .ok (.iload 5, 2) := by decide +kernel
theorem dX9_rowsOf_36 : decode cX9_rowsOf 36 = .ok (.iconst 2, 1) := by decide +kernel
theorem dX9_rowsOf_37 : decode cX9_rowsOf 37 = .ok (.invokevirtual 41, 3) := by decide +kernel
theorem dX9_rowsOf_40 : decode cX9_rowsOf 40 = .ok (.iload_n 2, 1) := by decide +kernel
theorem dX9_rowsOf_41 : decode cX9_rowsOf 41 = .ok (.iload_n 3, 1) := by decide +kernel
theorem dX9_rowsOf_42 : decode cX9_rowsOf 42 = .ok (.invokestatic 30, 3) := by decide +kernel
theorem dX9_rowsOf_45 : decode cX9_rowsOf 45 = .ok (.ifCond .eq 7, 3) := by decide +kernel
theorem dX9_rowsOf_48 : decode cX9_rowsOf 48 = .ok (.iconst 1, 1) := by decide +kernel
theorem dX9_rowsOf_49 : decode cX9_rowsOf 49 = .ok (.goto 4, 3) := by decide +kernel
theorem dX9_rowsOf_52 : decode cX9_rowsOf 52 = .ok (.iconst 0, 1) := by decide +kernel
theorem dX9_rowsOf_53 : decode cX9_rowsOf 53 = .ok (.istore 6, 2) := by decide +kernel
theorem dX9_rowsOf_55 : decode cX9_rowsOf 55 = .ok (.iload 4, 2) := by decide +kernel
theorem dX9_rowsOf_57 : decode cX9_rowsOf 57 = .ok (.iload 6, 2) := by decide +kernel
theorem dX9_rowsOf_59 : decode cX9_rowsOf 59 = .ok (.ifCond .eq 10, 3) := by decide +kernel
theorem dX9_rowsOf_62 : decode cX9_rowsOf 62 = .ok (.iconst 1, 1) := by decide +kernel
theorem dX9_rowsOf_63 : decode cX9_rowsOf 63 = .ok (.iload 5, 2) := by decide +kernel
theorem dX9_rowsOf_65 : decode cX9_rowsOf 65 = .ok (.ishl, 1) := by decide +kernel
theorem dX9_rowsOf_66 : decode cX9_rowsOf 66 = .ok (.goto 4, 3) := by decide +kernel
theorem dX9_rowsOf_69 : decode cX9_rowsOf 69 = .ok (.iconst 0, 1) := by decide +kernel
theorem dX9_rowsOf_70 : decode cX9_rowsOf 70 = .ok (.ior, 1) := by decide +kernel
theorem dX9_rowsOf_71 : decode cX9_rowsOf 71 = .ok (.istore 4, 2) := by decide +kernel
theorem dX9_rowsOf_73 : decode cX9_rowsOf 73 = .ok (.iinc 5 1, 3) := by decide +kernel
theorem dX9_rowsOf_76 : decode cX9_rowsOf 76 = .ok (.goto (-70), 3) := by decide +kernel
theorem dX9_rowsOf_79 : decode cX9_rowsOf 79 = .ok (.iload 4, 2) := by decide +kernel
theorem dX9_rowsOf_81 : decode cX9_rowsOf 81 = .ok (.ireturn, 1) := by decide +kernel
set_option maxRecDepth 20000 in
theorem ggX9_asked_X9_rowsOf : GoodIn wsX9_asked wsX9_rowsOf := goodIn_r _ [5, 6, 7, 8, 9, 4, 10, 11, 12, 13, 38, 39, 40, 41, 42, 43, 44, 45, 46, 47, 48] (by decide +kernel) (by decide +kernel)
set_option maxRecDepth 20000 in
theorem gX9_asked_X9_rowsOf : GoodIn wsX9_asked (wsV RX9 54 RX9 yX9_rowsOf wsX9_rowsOf) := goodIn_app (goodIn_of _ (by decide +kernel)) ggX9_asked_X9_rowsOf
set_option maxRecDepth 20000 in
theorem ggX9_asked_X9_seenBy : GoodIn wsX9_asked wsX9_seenBy := goodIn_r _ [17, 6, 18, 19, 20, 4, 21, 7, 8, 9, 10, 22, 23, 24, 25, 26, 27, 28, 29, 30, 31, 32, 33, 34, 35, 36, 37, 38, 39, 40, 41, 42, 43, 44, 45, 46, 47, 48] (by decide +kernel) (by decide +kernel)
set_option maxRecDepth 20000 in
theorem gX9_asked_X9_seenBy : GoodIn wsX9_asked (wsV RX9 58 RX9 yX9_seenBy wsX9_seenBy) := goodIn_app (goodIn_of _ (by decide +kernel)) ggX9_asked_X9_seenBy
theorem dX9_asked_0 : decode cX9_asked 0 = .ok (.aload_n 0, 1) := by decide +kernel
theorem dX9_asked_1 : decode cX9_asked 1 = .ok (.iload_n 2, 1) := by decide +kernel
theorem dX9_asked_2 : decode cX9_asked 2 = .ok (.iload_n 3, 1) := by decide +kernel
theorem dX9_asked_3 : decode cX9_asked 3 = .ok (.iload 4, 2) := by decide +kernel
theorem dX9_asked_5 : decode cX9_asked 5 = .ok (.invokevirtual 54, 3) := by decide +kernel
theorem dX9_asked_8 : decode cX9_asked 8 = .ok (.aload_n 0, 1) := by decide +kernel
theorem dX9_asked_9 : decode cX9_asked 9 = .ok (.iload_n 1, 1) := by decide +kernel
theorem dX9_asked_10 : decode cX9_asked 10 = .ok (.invokevirtual 58, 3) := by decide +kernel
theorem dX9_asked_13 : decode cX9_asked 13 = .ok (.iand, 1) := by decide +kernel
theorem dX9_asked_14 : decode cX9_asked 14 = .ok (.ireturn, 1) := by decide +kernel
theorem dX9_kept_0 : decode cX9_kept 0 = .ok (.aload_n 0, 1) := by decide +kernel
theorem dX9_kept_1 : decode cX9_kept 1 = .ok (.getfield 7, 3) := by decide +kernel
theorem dX9_kept_4 : decode cX9_kept 4 = .ok (.bipush 95, 2) := by decide +kernel
theorem dX9_kept_6 : decode cX9_kept 6 = .ok (.bipush 7, 2) := by decide +kernel
theorem dX9_kept_8 : decode cX9_kept 8 = .ok (.iload_n 1, 1) := by decide +kernel
theorem dX9_kept_9 : decode cX9_kept 9 = .ok (.imul, 1) := by decide +kernel
theorem dX9_kept_10 : decode cX9_kept 10 = .ok (.iadd, 1) := by decide +kernel
theorem dX9_kept_11 : decode cX9_kept 11 = .ok (.iaload, 1) := by decide +kernel
theorem dX9_kept_12 : decode cX9_kept 12 = .ok (.ireturn, 1) := by decide +kernel
theorem dX9_keptAt_0 : decode cX9_keptAt 0 = .ok (.aload_n 0, 1) := by decide +kernel
theorem dX9_keptAt_1 : decode cX9_keptAt 1 = .ok (.getfield 7, 3) := by decide +kernel
theorem dX9_keptAt_4 : decode cX9_keptAt 4 = .ok (.bipush 95, 2) := by decide +kernel
theorem dX9_keptAt_6 : decode cX9_keptAt 6 = .ok (.bipush 7, 2) := by decide +kernel
theorem dX9_keptAt_8 : decode cX9_keptAt 8 = .ok (.iload_n 1, 1) := by decide +kernel
theorem dX9_keptAt_9 : decode cX9_keptAt 9 = .ok (.imul, 1) := by decide +kernel
theorem dX9_keptAt_10 : decode cX9_keptAt 10 = .ok (.iadd, 1) := by decide +kernel
theorem dX9_keptAt_11 : decode cX9_keptAt 11 = .ok (.iconst 1, 1) := by decide +kernel
theorem dX9_keptAt_12 : decode cX9_keptAt 12 = .ok (.iadd, 1) := by decide +kernel
theorem dX9_keptAt_13 : decode cX9_keptAt 13 = .ok (.iload_n 2, 1) := by decide +kernel
theorem dX9_keptAt_14 : decode cX9_keptAt 14 = .ok (.iadd, 1) := by decide +kernel
theorem dX9_keptAt_15 : decode cX9_keptAt 15 = .ok (.iaload, 1) := by decide +kernel
theorem dX9_keptAt_16 : decode cX9_keptAt 16 = .ok (.ireturn, 1) := by decide +kernel
set_option maxRecDepth 20000 in
theorem ggX9_givesAway_X9_kept : GoodIn wsX9_givesAway wsX9_kept := goodIn_r _ [5, 6, 14, 15, 16, 17, 18, 19, 20, 21, 22, 23, 24] (by decide +kernel) (by decide +kernel)
set_option maxRecDepth 20000 in
theorem gX9_givesAway_X9_kept : GoodIn wsX9_givesAway (wsV RX9 61 RX9 yX9_kept wsX9_kept) := goodIn_app (goodIn_of _ (by decide +kernel)) ggX9_givesAway_X9_kept
set_option maxRecDepth 20000 in
theorem ggX9_givesAway_X9_keptAt : GoodIn wsX9_givesAway wsX9_keptAt := goodIn_r _ [10, 6, 14, 15, 16, 17, 18, 19, 20, 21, 22, 23, 24] (by decide +kernel) (by decide +kernel)
set_option maxRecDepth 20000 in
theorem gX9_givesAway_X9_keptAt : GoodIn wsX9_givesAway (wsV RX9 64 RX9 yX9_keptAt wsX9_keptAt) := goodIn_app (goodIn_of _ (by decide +kernel)) ggX9_givesAway_X9_keptAt
set_option maxRecDepth 20000 in
theorem ggX9_givesAway_X9_ones : GoodIn wsX9_givesAway wsX9_ones := goodIn_r _ [13] (by decide +kernel) (by decide +kernel)
set_option maxRecDepth 20000 in
theorem gX9_givesAway_X9_ones : GoodIn wsX9_givesAway (va_wsS RX9 67 yX9_ones wsX9_ones) := goodIn_app (goodIn_of _ (by decide +kernel)) ggX9_givesAway_X9_ones
theorem dX9_givesAway_0 : decode cX9_givesAway 0 = .ok (.iconst 0, 1) := by decide +kernel
theorem dX9_givesAway_1 : decode cX9_givesAway 1 = .ok (.istore_n 3, 1) := by decide +kernel
theorem dX9_givesAway_2 : decode cX9_givesAway 2 = .ok (.iconst 0, 1) := by decide +kernel
theorem dX9_givesAway_3 : decode cX9_givesAway 3 = .ok (.istore 4, 2) := by decide +kernel
theorem dX9_givesAway_5 : decode cX9_givesAway 5 = .ok (.iload 4, 2) := by decide +kernel
theorem dX9_givesAway_7 : decode cX9_givesAway 7 = .ok (.aload_n 0, 1) := by decide +kernel
theorem dX9_givesAway_8 : decode cX9_givesAway 8 = .ok (.iload_n 1, 1) := by decide +kernel
theorem dX9_givesAway_9 : decode cX9_givesAway 9 = .ok (.invokevirtual 61, 3) := by decide +kernel
theorem dX9_givesAway_12 : decode cX9_givesAway 12 = .ok (.if_icmp .ge 35, 3) := by decide +kernel
theorem dX9_givesAway_15 : decode cX9_givesAway 15 = .ok (.iload_n 3, 1) := by decide +kernel
theorem dX9_givesAway_16 : decode cX9_givesAway 16 = .ok (.ifCond .ne 19, 3) := by decide +kernel
theorem dX9_givesAway_19 : decode cX9_givesAway 19 = .ok (.aload_n 0, 1) := by decide +kernel
theorem dX9_givesAway_20 : decode cX9_givesAway 20 = .ok (.iload_n 1, 1) := by decide +kernel
theorem dX9_givesAway_21 : decode cX9_givesAway 21 = .ok (.iload 4, 2) := by decide +kernel
theorem dX9_givesAway_23 : decode cX9_givesAway 23 = .ok (.invokevirtual 64, 3) := by decide +kernel
theorem dX9_givesAway_26 : decode cX9_givesAway 26 = .ok (.iload_n 2, 1) := by decide +kernel
theorem dX9_givesAway_27 : decode cX9_givesAway 27 = .ok (.ixor, 1) := by decide +kernel
theorem dX9_givesAway_28 : decode cX9_givesAway 28 = .ok (.invokestatic 67, 3) := by decide +kernel
theorem dX9_givesAway_31 : decode cX9_givesAway 31 = .ok (.iconst 1, 1) := by decide +kernel
theorem dX9_givesAway_32 : decode cX9_givesAway 32 = .ok (.if_icmp .ne 7, 3) := by decide +kernel
theorem dX9_givesAway_35 : decode cX9_givesAway 35 = .ok (.iconst 1, 1) := by decide +kernel
theorem dX9_givesAway_36 : decode cX9_givesAway 36 = .ok (.goto 4, 3) := by decide +kernel
theorem dX9_givesAway_39 : decode cX9_givesAway 39 = .ok (.iconst 0, 1) := by decide +kernel
theorem dX9_givesAway_40 : decode cX9_givesAway 40 = .ok (.istore_n 3, 1) := by decide +kernel
theorem dX9_givesAway_41 : decode cX9_givesAway 41 = .ok (.iinc 4 1, 3) := by decide +kernel
theorem dX9_givesAway_44 : decode cX9_givesAway 44 = .ok (.goto (-39), 3) := by decide +kernel
theorem dX9_givesAway_47 : decode cX9_givesAway 47 = .ok (.iload_n 3, 1) := by decide +kernel
theorem dX9_givesAway_48 : decode cX9_givesAway 48 = .ok (.ireturn, 1) := by decide +kernel
set_option maxRecDepth 20000 in
theorem ggX9_remembers_X9_kept : GoodIn wsX9_remembers wsX9_kept := goodIn_r _ [6, 1, 7, 8, 9, 10, 11, 12, 13, 14, 15, 16, 17] (by decide +kernel) (by decide +kernel)
set_option maxRecDepth 20000 in
theorem gX9_remembers_X9_kept : GoodIn wsX9_remembers (wsV RX9 61 RX9 yX9_kept wsX9_kept) := goodIn_app (goodIn_of _ (by decide +kernel)) ggX9_remembers_X9_kept
theorem dX9_remembers_0 : decode cX9_remembers 0 = .ok (.aload_n 0, 1) := by decide +kernel
theorem dX9_remembers_1 : decode cX9_remembers 1 = .ok (.iload_n 1, 1) := by decide +kernel
theorem dX9_remembers_2 : decode cX9_remembers 2 = .ok (.invokevirtual 61, 3) := by decide +kernel
theorem dX9_remembers_5 : decode cX9_remembers 5 = .ok (.istore_n 3, 1) := by decide +kernel
theorem dX9_remembers_6 : decode cX9_remembers 6 = .ok (.bipush 95, 2) := by decide +kernel
theorem dX9_remembers_8 : decode cX9_remembers 8 = .ok (.bipush 7, 2) := by decide +kernel
theorem dX9_remembers_10 : decode cX9_remembers 10 = .ok (.iload_n 1, 1) := by decide +kernel
theorem dX9_remembers_11 : decode cX9_remembers 11 = .ok (.imul, 1) := by decide +kernel
theorem dX9_remembers_12 : decode cX9_remembers 12 = .ok (.iadd, 1) := by decide +kernel
theorem dX9_remembers_13 : decode cX9_remembers 13 = .ok (.iconst 1, 1) := by decide +kernel
theorem dX9_remembers_14 : decode cX9_remembers 14 = .ok (.iadd, 1) := by decide +kernel
theorem dX9_remembers_15 : decode cX9_remembers 15 = .ok (.istore 4, 2) := by decide +kernel
theorem dX9_remembers_17 : decode cX9_remembers 17 = .ok (.iload_n 3, 1) := by decide +kernel
theorem dX9_remembers_18 : decode cX9_remembers 18 = .ok (.bipush 6, 2) := by decide +kernel
theorem dX9_remembers_20 : decode cX9_remembers 20 = .ok (.if_icmp .ne 43, 3) := by decide +kernel
theorem dX9_remembers_23 : decode cX9_remembers 23 = .ok (.iconst 0, 1) := by decide +kernel
theorem dX9_remembers_24 : decode cX9_remembers 24 = .ok (.istore 5, 2) := by decide +kernel
theorem dX9_remembers_26 : decode cX9_remembers 26 = .ok (.iload 5, 2) := by decide +kernel
theorem dX9_remembers_28 : decode cX9_remembers 28 = .ok (.iconst 5, 1) := by decide +kernel
theorem dX9_remembers_29 : decode cX9_remembers 29 = .ok (.if_icmp .ge 31, 3) := by decide +kernel
theorem dX9_remembers_32 : decode cX9_remembers 32 = .ok (.aload_n 0, 1) := by decide +kernel
theorem dX9_remembers_33 : decode cX9_remembers 33 = .ok (.getfield 7, 3) := by decide +kernel
theorem dX9_remembers_36 : decode cX9_remembers 36 = .ok (.iload 4, 2) := by decide +kernel
theorem dX9_remembers_38 : decode cX9_remembers 38 = .ok (.iload 5, 2) := by decide +kernel
theorem dX9_remembers_40 : decode cX9_remembers 40 = .ok (.iadd, 1) := by decide +kernel
theorem dX9_remembers_41 : decode cX9_remembers 41 = .ok (.aload_n 0, 1) := by decide +kernel
theorem dX9_remembers_42 : decode cX9_remembers 42 = .ok (.getfield 7, 3) := by decide +kernel
theorem dX9_remembers_45 : decode cX9_remembers 45 = .ok (.iload 4, 2) := by decide +kernel
theorem dX9_remembers_47 : decode cX9_remembers 47 = .ok (.iload 5, 2) := by decide +kernel
theorem dX9_remembers_49 : decode cX9_remembers 49 = .ok (.iadd, 1) := by decide +kernel
theorem dX9_remembers_50 : decode cX9_remembers 50 = .ok (.iconst 1, 1) := by decide +kernel
theorem dX9_remembers_51 : decode cX9_remembers 51 = .ok (.iadd, 1) := by decide +kernel
theorem dX9_remembers_52 : decode cX9_remembers 52 = .ok (.iaload, 1) := by decide +kernel
theorem dX9_remembers_53 : decode cX9_remembers 53 = .ok (.iastore, 1) := by decide +kernel
theorem dX9_remembers_54 : decode cX9_remembers 54 = .ok (.iinc 5 1, 3) := by decide +kernel
theorem dX9_remembers_57 : decode cX9_remembers 57 = .ok (.goto (-31), 3) := by decide +kernel
theorem dX9_remembers_60 : decode cX9_remembers 60 = .ok (.iinc 3 (-1), 3) := by decide +kernel
theorem dX9_remembers_63 : decode cX9_remembers 63 = .ok (.aload_n 0, 1) := by decide +kernel
theorem dX9_remembers_64 : decode cX9_remembers 64 = .ok (.getfield 7, 3) := by decide +kernel
theorem dX9_remembers_67 : decode cX9_remembers 67 = .ok (.iload 4, 2) := by decide +kernel
theorem dX9_remembers_69 : decode cX9_remembers 69 = .ok (.iload_n 3, 1) := by decide +kernel
theorem dX9_remembers_70 : decode cX9_remembers 70 = .ok (.iadd, 1) := by decide +kernel
theorem dX9_remembers_71 : decode cX9_remembers 71 = .ok (.iload_n 2, 1) := by decide +kernel
theorem dX9_remembers_72 : decode cX9_remembers 72 = .ok (.iastore, 1) := by decide +kernel
theorem dX9_remembers_73 : decode cX9_remembers 73 = .ok (.aload_n 0, 1) := by decide +kernel
theorem dX9_remembers_74 : decode cX9_remembers 74 = .ok (.getfield 7, 3) := by decide +kernel
theorem dX9_remembers_77 : decode cX9_remembers 77 = .ok (.bipush 95, 2) := by decide +kernel
theorem dX9_remembers_79 : decode cX9_remembers 79 = .ok (.bipush 7, 2) := by decide +kernel
theorem dX9_remembers_81 : decode cX9_remembers 81 = .ok (.iload_n 1, 1) := by decide +kernel
theorem dX9_remembers_82 : decode cX9_remembers 82 = .ok (.imul, 1) := by decide +kernel
theorem dX9_remembers_83 : decode cX9_remembers 83 = .ok (.iadd, 1) := by decide +kernel
theorem dX9_remembers_84 : decode cX9_remembers 84 = .ok (.iload_n 3, 1) := by decide +kernel
theorem dX9_remembers_85 : decode cX9_remembers 85 = .ok (.iconst 1, 1) := by decide +kernel
theorem dX9_remembers_86 : decode cX9_remembers 86 = .ok (.iadd, 1) := by decide +kernel
theorem dX9_remembers_87 : decode cX9_remembers 87 = .ok (.iastore, 1) := by decide +kernel
theorem dX9_remembers_88 : decode cX9_remembers 88 = .ok (.return_, 1) := by decide +kernel
set_option maxRecDepth 20000 in
theorem ggX9_isTooSmall_X9_ones : GoodIn wsX9_isTooSmall wsX9_ones := goodIn_r _ [5] (by decide +kernel) (by decide +kernel)
set_option maxRecDepth 20000 in
theorem gX9_isTooSmall_X9_ones : GoodIn wsX9_isTooSmall (va_wsS RX9 67 yX9_ones wsX9_ones) := goodIn_app (goodIn_of _ (by decide +kernel)) ggX9_isTooSmall_X9_ones
theorem dX9_isTooSmall_0 : decode cX9_isTooSmall 0 = .ok (.iload_n 1, 1) := by decide +kernel
theorem dX9_isTooSmall_1 : decode cX9_isTooSmall 1 = .ok (.invokestatic 67, 3) := by decide +kernel
theorem dX9_isTooSmall_4 : decode cX9_isTooSmall 4 = .ok (.istore_n 2, 1) := by decide +kernel
theorem dX9_isTooSmall_5 : decode cX9_isTooSmall 5 = .ok (.iload_n 2, 1) := by decide +kernel
theorem dX9_isTooSmall_6 : decode cX9_isTooSmall 6 = .ok (.ifCond .le 17, 3) := by decide +kernel
theorem dX9_isTooSmall_9 : decode cX9_isTooSmall 9 = .ok (.iload_n 2, 1) := by decide +kernel
theorem dX9_isTooSmall_10 : decode cX9_isTooSmall 10 = .ok (.aload_n 0, 1) := by decide +kernel
theorem dX9_isTooSmall_11 : decode cX9_isTooSmall 11 = .ok (.getfield 7, 3) := by decide +kernel
theorem dX9_isTooSmall_14 : decode cX9_isTooSmall 14 = .ok (.iconst 2, 1) := by decide +kernel
theorem dX9_isTooSmall_15 : decode cX9_isTooSmall 15 = .ok (.iaload, 1) := by decide +kernel
theorem dX9_isTooSmall_16 : decode cX9_isTooSmall 16 = .ok (.if_icmp .ge 7, 3) := by decide +kernel
theorem dX9_isTooSmall_19 : decode cX9_isTooSmall 19 = .ok (.iconst 1, 1) := by decide +kernel
theorem dX9_isTooSmall_20 : decode cX9_isTooSmall 20 = .ok (.goto 4, 3) := by decide +kernel
theorem dX9_isTooSmall_23 : decode cX9_isTooSmall 23 = .ok (.iconst 0, 1) := by decide +kernel
theorem dX9_isTooSmall_24 : decode cX9_isTooSmall 24 = .ok (.ireturn, 1) := by decide +kernel
set_option maxRecDepth 20000 in
theorem ggX9_countTold_X9_isTooSmall : GoodIn wsX9_countTold wsX9_isTooSmall := goodIn_r _ [6, 1, 7, 8, 5, 9, 22, 23, 24, 25, 26, 27, 28, 29, 30, 31, 32] (by decide +kernel) (by decide +kernel)
set_option maxRecDepth 20000 in
theorem gX9_countTold_X9_isTooSmall : GoodIn wsX9_countTold (wsV RX9 70 RX9 yX9_isTooSmall wsX9_isTooSmall) := goodIn_app (goodIn_of _ (by decide +kernel)) ggX9_countTold_X9_isTooSmall
set_option maxRecDepth 20000 in
theorem ggX9_countTold_X9_givesAway : GoodIn wsX9_countTold wsX9_givesAway := goodIn_r _ [13, 14, 15, 16, 5, 17, 1, 18, 19, 20, 21, 7, 8, 9, 22, 23, 24, 25, 26, 27, 28, 29, 30, 31, 32] (by decide +kernel) (by decide +kernel)
set_option maxRecDepth 20000 in
theorem gX9_countTold_X9_givesAway : GoodIn wsX9_countTold (wsV RX9 74 RX9 yX9_givesAway wsX9_givesAway) := goodIn_app (goodIn_of _ (by decide +kernel)) ggX9_countTold_X9_givesAway
set_option maxRecDepth 20000 in
theorem ggX9_countTold_X9_ones : GoodIn wsX9_countTold wsX9_ones := goodIn_r _ [9] (by decide +kernel) (by decide +kernel)
set_option maxRecDepth 20000 in
theorem gX9_countTold_X9_ones : GoodIn wsX9_countTold (va_wsS RX9 67 yX9_ones wsX9_ones) := goodIn_app (goodIn_of _ (by decide +kernel)) ggX9_countTold_X9_ones
theorem dX9_countTold_0 : decode cX9_countTold 0 = .ok (.aload_n 0, 1) := by decide +kernel
theorem dX9_countTold_1 : decode cX9_countTold 1 = .ok (.iload_n 2, 1) := by decide +kernel
theorem dX9_countTold_2 : decode cX9_countTold 2 = .ok (.invokevirtual 70, 3) := by decide +kernel
theorem dX9_countTold_5 : decode cX9_countTold 5 = .ok (.ifCond .ne 22, 3) := by decide +kernel
theorem dX9_countTold_8 : decode cX9_countTold 8 = .ok (.aload_n 0, 1) := by decide +kernel
theorem dX9_countTold_9 : decode cX9_countTold 9 = .ok (.getfield 7, 3) := by decide +kernel
theorem dX9_countTold_12 : decode cX9_countTold 12 = .ok (.iconst 4, 1) := by decide +kernel
theorem dX9_countTold_13 : decode cX9_countTold 13 = .ok (.iaload, 1) := by decide +kernel
theorem dX9_countTold_14 : decode cX9_countTold 14 = .ok (.iconst 1, 1) := by decide +kernel
theorem dX9_countTold_15 : decode cX9_countTold 15 = .ok (.if_icmp .ne 16, 3) := by decide +kernel
theorem dX9_countTold_18 : decode cX9_countTold 18 = .ok (.aload_n 0, 1) := by decide +kernel
theorem dX9_countTold_19 : decode cX9_countTold 19 = .ok (.iload_n 1, 1) := by decide +kernel
theorem dX9_countTold_20 : decode cX9_countTold 20 = .ok (.iload_n 2, 1) := by decide +kernel
theorem dX9_countTold_21 : decode cX9_countTold 21 = .ok (.invokevirtual 74, 3) := by decide +kernel
theorem dX9_countTold_24 : decode cX9_countTold 24 = .ok (.ifCond .eq 7, 3) := by decide +kernel
theorem dX9_countTold_27 : decode cX9_countTold 27 = .ok (.iconst 1, 1) := by decide +kernel
theorem dX9_countTold_28 : decode cX9_countTold 28 = .ok (.goto 4, 3) := by decide +kernel
theorem dX9_countTold_31 : decode cX9_countTold 31 = .ok (.iconst 0, 1) := by decide +kernel
theorem dX9_countTold_32 : decode cX9_countTold 32 = .ok (.istore_n 3, 1) := by decide +kernel
theorem dX9_countTold_33 : decode cX9_countTold 33 = .ok (.iload_n 3, 1) := by decide +kernel
theorem dX9_countTold_34 : decode cX9_countTold 34 = .ok (.ifCond .eq 7, 3) := by decide +kernel
theorem dX9_countTold_37 : decode cX9_countTold 37 = .ok (.iconst (-1), 1) := by decide +kernel
theorem dX9_countTold_38 : decode cX9_countTold 38 = .ok (.goto 19, 3) := by decide +kernel
theorem dX9_countTold_41 : decode cX9_countTold 41 = .ok (.iload_n 2, 1) := by decide +kernel
theorem dX9_countTold_42 : decode cX9_countTold 42 = .ok (.invokestatic 67, 3) := by decide +kernel
theorem dX9_countTold_45 : decode cX9_countTold 45 = .ok (.iload_n 2, 1) := by decide +kernel
theorem dX9_countTold_46 : decode cX9_countTold 46 = .ok (.invokestatic 67, 3) := by decide +kernel
theorem dX9_countTold_49 : decode cX9_countTold 49 = .ok (.aload_n 0, 1) := by decide +kernel
theorem dX9_countTold_50 : decode cX9_countTold 50 = .ok (.getfield 7, 3) := by decide +kernel
theorem dX9_countTold_53 : decode cX9_countTold 53 = .ok (.iconst 3, 1) := by decide +kernel
theorem dX9_countTold_54 : decode cX9_countTold 54 = .ok (.iaload, 1) := by decide +kernel
theorem dX9_countTold_55 : decode cX9_countTold 55 = .ok (.irem, 1) := by decide +kernel
theorem dX9_countTold_56 : decode cX9_countTold 56 = .ok (.isub, 1) := by decide +kernel
theorem dX9_countTold_57 : decode cX9_countTold 57 = .ok (.ireturn, 1) := by decide +kernel
set_option maxRecDepth 20000 in
theorem ggX9_sumTold_X9_of : GoodIn wsX9_sumTold wsX9_of := goodIn_r _ [6, 1, 14, 15, 16, 17, 18, 19, 20, 21, 22, 23, 24] (by decide +kernel) (by decide +kernel)
set_option maxRecDepth 20000 in
theorem gX9_sumTold_X9_of : GoodIn wsX9_sumTold (wsV RX9 41 RX9 yX9_of wsX9_of) := goodIn_app (goodIn_of _ (by decide +kernel)) ggX9_sumTold_X9_of
set_option maxRecDepth 20000 in
theorem ggX9_sumTold_X9_isTooSmall : GoodIn wsX9_sumTold wsX9_isTooSmall := goodIn_r _ [10, 1, 11, 12, 5, 13, 14, 15, 16, 17, 18, 19, 20, 21, 22, 23, 24] (by decide +kernel) (by decide +kernel)
set_option maxRecDepth 20000 in
theorem gX9_sumTold_X9_isTooSmall : GoodIn wsX9_sumTold (wsV RX9 70 RX9 yX9_isTooSmall wsX9_isTooSmall) := goodIn_app (goodIn_of _ (by decide +kernel)) ggX9_sumTold_X9_isTooSmall
theorem dX9_sumTold_0 : decode cX9_sumTold 0 = .ok (.iconst 0, 1) := by decide +kernel
theorem dX9_sumTold_1 : decode cX9_sumTold 1 = .ok (.istore_n 2, 1) := by decide +kernel
theorem dX9_sumTold_2 : decode cX9_sumTold 2 = .ok (.iconst 0, 1) := by decide +kernel
theorem dX9_sumTold_3 : decode cX9_sumTold 3 = .ok (.istore_n 3, 1) := by decide +kernel
theorem dX9_sumTold_4 : decode cX9_sumTold 4 = .ok (.iconst 0, 1) := by decide +kernel
theorem dX9_sumTold_5 : decode cX9_sumTold 5 = .ok (.istore 4, 2) := by decide +kernel
theorem dX9_sumTold_7 : decode cX9_sumTold 7 = .ok (.iload 4, 2) := by decide +kernel
theorem dX9_sumTold_9 : decode cX9_sumTold 9 = .ok (.aload_n 0, 1) := by decide +kernel
theorem dX9_sumTold_10 : decode cX9_sumTold 10 = .ok (.getfield 7, 3) := by decide +kernel
theorem dX9_sumTold_13 : decode cX9_sumTold 13 = .ok (.iconst 0, 1) := by decide +kernel
theorem dX9_sumTold_14 : decode cX9_sumTold 14 = .ok (.iaload, 1) := by decide +kernel
theorem dX9_sumTold_15 : decode cX9_sumTold 15 = .ok (.if_icmp .ge 50, 3) := by decide +kernel
theorem dX9_sumTold_18 : decode cX9_sumTold 18 = .ok (.iload_n 1, 1) := by decide +kernel
theorem dX9_sumTold_19 : decode cX9_sumTold 19 = .ok (.iload 4, 2) := by decide +kernel
theorem dX9_sumTold_21 : decode cX9_sumTold 21 = .ok (.ishr, 1) := by decide +kernel
theorem dX9_sumTold_22 : decode cX9_sumTold 22 = .ok (.iconst 1, 1) := by decide +kernel
theorem dX9_sumTold_23 : decode cX9_sumTold 23 = .ok (.iand, 1) := by decide +kernel
theorem dX9_sumTold_24 : decode cX9_sumTold 24 = .ok (.iconst 1, 1) := by decide +kernel
theorem dX9_sumTold_25 : decode cX9_sumTold 25 = .ok (.if_icmp .ne 13, 3) := by decide +kernel
theorem dX9_sumTold_28 : decode cX9_sumTold 28 = .ok (.aload_n 0, 1) := by decide +kernel
theorem dX9_sumTold_29 : decode cX9_sumTold 29 = .ok (.iload 4, 2) := by decide +kernel
theorem dX9_sumTold_31 : decode cX9_sumTold 31 = .ok (.iconst 2, 1) := by decide +kernel
theorem dX9_sumTold_32 : decode cX9_sumTold 32 = .ok (.invokevirtual 41, 3) := by decide +kernel
theorem dX9_sumTold_35 : decode cX9_sumTold 35 = .ok (.goto 4, 3) := by decide +kernel
theorem dX9_sumTold_38 : decode cX9_sumTold 38 = .ok (.iconst 0, 1) := by decide +kernel
theorem dX9_sumTold_39 : decode cX9_sumTold 39 = .ok (.istore 5, 2) := by decide +kernel
theorem dX9_sumTold_41 : decode cX9_sumTold 41 = .ok (.iload_n 2, 1) := by decide +kernel
theorem dX9_sumTold_42 : decode cX9_sumTold 42 = .ok (.iload 5, 2) := by decide +kernel
theorem dX9_sumTold_44 : decode cX9_sumTold 44 = .ok (.iadd, 1) := by decide +kernel
theorem dX9_sumTold_45 : decode cX9_sumTold 45 = .ok (.istore_n 2, 1) := by decide +kernel
theorem dX9_sumTold_46 : decode cX9_sumTold 46 = .ok (.iload 5, 2) := by decide +kernel
theorem dX9_sumTold_48 : decode cX9_sumTold 48 = .ok (.iload_n 3, 1) := by decide +kernel
theorem dX9_sumTold_49 : decode cX9_sumTold 49 = .ok (.if_icmp .le 8, 3) := by decide +kernel
theorem dX9_sumTold_52 : decode cX9_sumTold 52 = .ok (.iload 5, 2) := by decide +kernel
theorem dX9_sumTold_54 : decode cX9_sumTold 54 = .ok (.goto 4, 3) := by decide +kernel
theorem dX9_sumTold_57 : decode cX9_sumTold 57 = .ok (.iload_n 3, 1) := by decide +kernel
theorem dX9_sumTold_58 : decode cX9_sumTold 58 = .ok (.istore_n 3, 1) := by decide +kernel
theorem dX9_sumTold_59 : decode cX9_sumTold 59 = .ok (.iinc 4 1, 3) := by decide +kernel
theorem dX9_sumTold_62 : decode cX9_sumTold 62 = .ok (.goto (-55), 3) := by decide +kernel
theorem dX9_sumTold_65 : decode cX9_sumTold 65 = .ok (.aload_n 0, 1) := by decide +kernel
theorem dX9_sumTold_66 : decode cX9_sumTold 66 = .ok (.iload_n 1, 1) := by decide +kernel
theorem dX9_sumTold_67 : decode cX9_sumTold 67 = .ok (.invokevirtual 70, 3) := by decide +kernel
theorem dX9_sumTold_70 : decode cX9_sumTold 70 = .ok (.ifCond .ne 10, 3) := by decide +kernel
theorem dX9_sumTold_73 : decode cX9_sumTold 73 = .ok (.iconst 2, 1) := by decide +kernel
theorem dX9_sumTold_74 : decode cX9_sumTold 74 = .ok (.iload_n 3, 1) := by decide +kernel
theorem dX9_sumTold_75 : decode cX9_sumTold 75 = .ok (.imul, 1) := by decide +kernel
theorem dX9_sumTold_76 : decode cX9_sumTold 76 = .ok (.iload_n 2, 1) := by decide +kernel
theorem dX9_sumTold_77 : decode cX9_sumTold 77 = .ok (.if_icmp .le 7, 3) := by decide +kernel
theorem dX9_sumTold_80 : decode cX9_sumTold 80 = .ok (.iconst (-1), 1) := by decide +kernel
theorem dX9_sumTold_81 : decode cX9_sumTold 81 = .ok (.goto 4, 3) := by decide +kernel
theorem dX9_sumTold_84 : decode cX9_sumTold 84 = .ok (.iload_n 2, 1) := by decide +kernel
theorem dX9_sumTold_85 : decode cX9_sumTold 85 = .ok (.ireturn, 1) := by decide +kernel
theorem dX9_adds_0 : decode cX9_adds 0 = .ok (.bipush 6, 2) := by decide +kernel
theorem dX9_adds_2 : decode cX9_adds 2 = .ok (.iconst 4, 1) := by decide +kernel
theorem dX9_adds_3 : decode cX9_adds 3 = .ok (.aload_n 0, 1) := by decide +kernel
theorem dX9_adds_4 : decode cX9_adds 4 = .ok (.getfield 7, 3) := by decide +kernel
theorem dX9_adds_7 : decode cX9_adds 7 = .ok (.iconst 0, 1) := by decide +kernel
theorem dX9_adds_8 : decode cX9_adds 8 = .ok (.iaload, 1) := by decide +kernel
theorem dX9_adds_9 : decode cX9_adds 9 = .ok (.imul, 1) := by decide +kernel
theorem dX9_adds_10 : decode cX9_adds 10 = .ok (.iadd, 1) := by decide +kernel
theorem dX9_adds_11 : decode cX9_adds 11 = .ok (.istore 5, 2) := by decide +kernel
theorem dX9_adds_13 : decode cX9_adds 13 = .ok (.aload_n 0, 1) := by decide +kernel
theorem dX9_adds_14 : decode cX9_adds 14 = .ok (.getfield 7, 3) := by decide +kernel
theorem dX9_adds_17 : decode cX9_adds 17 = .ok (.iload 5, 2) := by decide +kernel
theorem dX9_adds_19 : decode cX9_adds 19 = .ok (.iconst 0, 1) := by decide +kernel
theorem dX9_adds_20 : decode cX9_adds 20 = .ok (.iadd, 1) := by decide +kernel
theorem dX9_adds_21 : decode cX9_adds 21 = .ok (.iload_n 1, 1) := by decide +kernel
theorem dX9_adds_22 : decode cX9_adds 22 = .ok (.iastore, 1) := by decide +kernel
theorem dX9_adds_23 : decode cX9_adds 23 = .ok (.aload_n 0, 1) := by decide +kernel
theorem dX9_adds_24 : decode cX9_adds 24 = .ok (.getfield 7, 3) := by decide +kernel
theorem dX9_adds_27 : decode cX9_adds 27 = .ok (.iload 5, 2) := by decide +kernel
theorem dX9_adds_29 : decode cX9_adds 29 = .ok (.iconst 1, 1) := by decide +kernel
theorem dX9_adds_30 : decode cX9_adds 30 = .ok (.iadd, 1) := by decide +kernel
theorem dX9_adds_31 : decode cX9_adds 31 = .ok (.iload_n 2, 1) := by decide +kernel
theorem dX9_adds_32 : decode cX9_adds 32 = .ok (.iastore, 1) := by decide +kernel
theorem dX9_adds_33 : decode cX9_adds 33 = .ok (.aload_n 0, 1) := by decide +kernel
theorem dX9_adds_34 : decode cX9_adds 34 = .ok (.getfield 7, 3) := by decide +kernel
theorem dX9_adds_37 : decode cX9_adds 37 = .ok (.iload 5, 2) := by decide +kernel
theorem dX9_adds_39 : decode cX9_adds 39 = .ok (.iconst 2, 1) := by decide +kernel
theorem dX9_adds_40 : decode cX9_adds 40 = .ok (.iadd, 1) := by decide +kernel
theorem dX9_adds_41 : decode cX9_adds 41 = .ok (.iload_n 3, 1) := by decide +kernel
theorem dX9_adds_42 : decode cX9_adds 42 = .ok (.iastore, 1) := by decide +kernel
theorem dX9_adds_43 : decode cX9_adds 43 = .ok (.aload_n 0, 1) := by decide +kernel
theorem dX9_adds_44 : decode cX9_adds 44 = .ok (.getfield 7, 3) := by decide +kernel
theorem dX9_adds_47 : decode cX9_adds 47 = .ok (.iload 5, 2) := by decide +kernel
theorem dX9_adds_49 : decode cX9_adds 49 = .ok (.iconst 3, 1) := by decide +kernel
theorem dX9_adds_50 : decode cX9_adds 50 = .ok (.iadd, 1) := by decide +kernel
theorem dX9_adds_51 : decode cX9_adds 51 = .ok (.iload 4, 2) := by decide +kernel
theorem dX9_adds_53 : decode cX9_adds 53 = .ok (.iastore, 1) := by decide +kernel
theorem dX9_adds_54 : decode cX9_adds 54 = .ok (.aload_n 0, 1) := by decide +kernel
theorem dX9_adds_55 : decode cX9_adds 55 = .ok (.getfield 7, 3) := by decide +kernel
theorem dX9_adds_58 : decode cX9_adds 58 = .ok (.iconst 0, 1) := by decide +kernel
theorem dX9_adds_59 : decode cX9_adds 59 = .ok (.dup2, 1) := by decide +kernel
theorem dX9_adds_60 : decode cX9_adds 60 = .ok (.iaload, 1) := by decide +kernel
theorem dX9_adds_61 : decode cX9_adds 61 = .ok (.iconst 1, 1) := by decide +kernel
theorem dX9_adds_62 : decode cX9_adds 62 = .ok (.iadd, 1) := by decide +kernel
theorem dX9_adds_63 : decode cX9_adds 63 = .ok (.iastore, 1) := by decide +kernel
theorem dX9_adds_64 : decode cX9_adds 64 = .ok (.return_, 1) := by decide +kernel
set_option maxRecDepth 20000 in
theorem ggX9_row_X9_isPerson : GoodIn wsX9_row wsX9_isPerson := goodIn_r _ [6, 7, 8, 5, 9] (by decide +kernel) (by decide +kernel)
set_option maxRecDepth 20000 in
theorem gX9_row_X9_isPerson : GoodIn wsX9_row (va_wsS RX9 77 yX9_isPerson wsX9_isPerson) := goodIn_app (goodIn_of _ (by decide +kernel)) ggX9_row_X9_isPerson
set_option maxRecDepth 20000 in
theorem ggX9_row_X9_in : GoodIn wsX9_row wsX9_in := goodIn_r _ [9] (by decide +kernel) (by decide +kernel)
set_option maxRecDepth 20000 in
theorem gX9_row_X9_in : GoodIn wsX9_row (va_wsS RX9 30 yX9_in wsX9_in) := goodIn_app (goodIn_of _ (by decide +kernel)) ggX9_row_X9_in
set_option maxRecDepth 20000 in
theorem ggX9_row_X9_fails : GoodIn wsX9_row wsX9_fails := goodIn_r _ [13, 1, 24, 25, 26, 27, 28, 29, 30, 31, 32, 33, 34] (by decide +kernel) (by decide +kernel)
set_option maxRecDepth 20000 in
theorem gX9_row_X9_fails : GoodIn wsX9_row (wsV RX9 80 RX9 yX9_fails wsX9_fails) := goodIn_app (goodIn_of _ (by decide +kernel)) ggX9_row_X9_fails
set_option maxRecDepth 20000 in
theorem ggX9_row_X9_saves : GoodIn wsX9_row wsX9_saves := goodIn_r _ [17, 18, 19, 2, 24, 25, 26, 27, 28, 29, 30, 31, 32, 33, 34] (by decide +kernel) (by decide +kernel)
set_option maxRecDepth 20000 in
theorem gX9_row_X9_saves : GoodIn wsX9_row (wsV RX9 83 RX9 yX9_saves wsX9_saves) := goodIn_app (goodIn_of _ (by decide +kernel)) ggX9_row_X9_saves
set_option maxRecDepth 20000 in
theorem ggX9_row_X9_adds : GoodIn wsX9_row wsX9_adds := goodIn_r _ [23, 2, 24, 25, 26, 27, 28, 29, 30, 31, 32, 33, 34] (by decide +kernel) (by decide +kernel)
set_option maxRecDepth 20000 in
theorem gX9_row_X9_adds : GoodIn wsX9_row (wsV RX9 86 RX9 yX9_adds wsX9_adds) := goodIn_app (goodIn_of _ (by decide +kernel)) ggX9_row_X9_adds
theorem dX9_row_0 : decode cX9_row 0 = .ok (.aload_n 0, 1) := by decide +kernel
theorem dX9_row_1 : decode cX9_row 1 = .ok (.iconst 0, 1) := by decide +kernel
theorem dX9_row_2 : decode cX9_row 2 = .ok (.putfield 22, 3) := by decide +kernel
theorem dX9_row_5 : decode cX9_row 5 = .ok (.iload_n 1, 1) := by decide +kernel
theorem dX9_row_6 : decode cX9_row 6 = .ok (.invokestatic 77, 3) := by decide +kernel
theorem dX9_row_9 : decode cX9_row 9 = .ok (.ifCond .eq 12, 3) := by decide +kernel
theorem dX9_row_12 : decode cX9_row 12 = .ok (.iload_n 2, 1) := by decide +kernel
theorem dX9_row_13 : decode cX9_row 13 = .ok (.iconst 0, 1) := by decide +kernel
theorem dX9_row_14 : decode cX9_row 14 = .ok (.iconst 3, 1) := by decide +kernel
theorem dX9_row_15 : decode cX9_row 15 = .ok (.invokestatic 30, 3) := by decide +kernel
theorem dX9_row_18 : decode cX9_row 18 = .ok (.ifCond .ne 9, 3) := by decide +kernel
theorem dX9_row_21 : decode cX9_row 21 = .ok (.aload_n 0, 1) := by decide +kernel
theorem dX9_row_22 : decode cX9_row 22 = .ok (.iconst 1, 1) := by decide +kernel
theorem dX9_row_23 : decode cX9_row 23 = .ok (.invokevirtual 80, 3) := by decide +kernel
theorem dX9_row_26 : decode cX9_row 26 = .ok (.ireturn, 1) := by decide +kernel
theorem dX9_row_27 : decode cX9_row 27 = .ok (.iload_n 3, 1) := by decide +kernel
theorem dX9_row_28 : decode cX9_row 28 = .ok (.iconst 0, 1) := by decide +kernel
theorem dX9_row_29 : decode cX9_row 29 = .ok (.bipush 99, 2) := by decide +kernel
theorem dX9_row_31 : decode cX9_row 31 = .ok (.invokestatic 30, 3) := by decide +kernel
theorem dX9_row_34 : decode cX9_row 34 = .ok (.ifCond .eq 13, 3) := by decide +kernel
theorem dX9_row_37 : decode cX9_row 37 = .ok (.iload 4, 2) := by decide +kernel
theorem dX9_row_39 : decode cX9_row 39 = .ok (.iconst 0, 1) := by decide +kernel
theorem dX9_row_40 : decode cX9_row 40 = .ok (.iconst 3, 1) := by decide +kernel
theorem dX9_row_41 : decode cX9_row 41 = .ok (.invokestatic 30, 3) := by decide +kernel
theorem dX9_row_44 : decode cX9_row 44 = .ok (.ifCond .ne 9, 3) := by decide +kernel
theorem dX9_row_47 : decode cX9_row 47 = .ok (.aload_n 0, 1) := by decide +kernel
theorem dX9_row_48 : decode cX9_row 48 = .ok (.iconst 2, 1) := by decide +kernel
theorem dX9_row_49 : decode cX9_row 49 = .ok (.invokevirtual 80, 3) := by decide +kernel
theorem dX9_row_52 : decode cX9_row 52 = .ok (.ireturn, 1) := by decide +kernel
theorem dX9_row_53 : decode cX9_row 53 = .ok (.aload_n 0, 1) := by decide +kernel
theorem dX9_row_54 : decode cX9_row 54 = .ok (.getfield 7, 3) := by decide +kernel
theorem dX9_row_57 : decode cX9_row 57 = .ok (.iconst 0, 1) := by decide +kernel
theorem dX9_row_58 : decode cX9_row 58 = .ok (.iaload, 1) := by decide +kernel
theorem dX9_row_59 : decode cX9_row 59 = .ok (.bipush 16, 2) := by decide +kernel
theorem dX9_row_61 : decode cX9_row 61 = .ok (.if_icmp .ne 9, 3) := by decide +kernel
theorem dX9_row_64 : decode cX9_row 64 = .ok (.aload_n 0, 1) := by decide +kernel
theorem dX9_row_65 : decode cX9_row 65 = .ok (.iconst 3, 1) := by decide +kernel
theorem dX9_row_66 : decode cX9_row 66 = .ok (.invokevirtual 80, 3) := by decide +kernel
theorem dX9_row_69 : decode cX9_row 69 = .ok (.ireturn, 1) := by decide +kernel
theorem dX9_row_70 : decode cX9_row 70 = .ok (.aload_n 0, 1) := by decide +kernel
theorem dX9_row_71 : decode cX9_row 71 = .ok (.invokevirtual 83, 3) := by decide +kernel
theorem dX9_row_74 : decode cX9_row 74 = .ok (.aload_n 0, 1) := by decide +kernel
theorem dX9_row_75 : decode cX9_row 75 = .ok (.iload_n 1, 1) := by decide +kernel
theorem dX9_row_76 : decode cX9_row 76 = .ok (.iload_n 2, 1) := by decide +kernel
theorem dX9_row_77 : decode cX9_row 77 = .ok (.iload_n 3, 1) := by decide +kernel
theorem dX9_row_78 : decode cX9_row 78 = .ok (.iload 4, 2) := by decide +kernel
theorem dX9_row_80 : decode cX9_row 80 = .ok (.invokevirtual 86, 3) := by decide +kernel
theorem dX9_row_83 : decode cX9_row 83 = .ok (.aload_n 0, 1) := by decide +kernel
theorem dX9_row_84 : decode cX9_row 84 = .ok (.getfield 7, 3) := by decide +kernel
theorem dX9_row_87 : decode cX9_row 87 = .ok (.iconst 0, 1) := by decide +kernel
theorem dX9_row_88 : decode cX9_row 88 = .ok (.iaload, 1) := by decide +kernel
theorem dX9_row_89 : decode cX9_row 89 = .ok (.iconst 1, 1) := by decide +kernel
theorem dX9_row_90 : decode cX9_row 90 = .ok (.isub, 1) := by decide +kernel
theorem dX9_row_91 : decode cX9_row 91 = .ok (.ireturn, 1) := by decide +kernel
set_option maxRecDepth 20000 in
theorem ggX9_drop_X9_isRow : GoodIn wsX9_drop wsX9_isRow := goodIn_r _ [7, 2, 8, 9, 6, 10, 29, 30, 31, 32, 33, 34, 35, 36, 37, 38, 39] (by decide +kernel) (by decide +kernel)
set_option maxRecDepth 20000 in
theorem gX9_drop_X9_isRow : GoodIn wsX9_drop (wsV RX9 90 RX9 yX9_isRow wsX9_isRow) := goodIn_app (goodIn_of _ (by decide +kernel)) ggX9_drop_X9_isRow
set_option maxRecDepth 20000 in
theorem ggX9_drop_X9_fails : GoodIn wsX9_drop wsX9_fails := goodIn_r _ [14, 1, 29, 30, 31, 32, 33, 34, 35, 36, 37, 38, 39] (by decide +kernel) (by decide +kernel)
set_option maxRecDepth 20000 in
theorem gX9_drop_X9_fails : GoodIn wsX9_drop (wsV RX9 80 RX9 yX9_fails wsX9_fails) := goodIn_app (goodIn_of _ (by decide +kernel)) ggX9_drop_X9_fails
set_option maxRecDepth 20000 in
theorem ggX9_drop_X9_saves : GoodIn wsX9_drop wsX9_saves := goodIn_r _ [18, 19, 20, 2, 29, 30, 31, 32, 33, 34, 35, 36, 37, 38, 39] (by decide +kernel) (by decide +kernel)
set_option maxRecDepth 20000 in
theorem gX9_drop_X9_saves : GoodIn wsX9_drop (wsV RX9 83 RX9 yX9_saves wsX9_saves) := goodIn_app (goodIn_of _ (by decide +kernel)) ggX9_drop_X9_saves
set_option maxRecDepth 20000 in
theorem ggX9_drop_X9_kept : GoodIn wsX9_drop wsX9_kept := goodIn_r _ [24, 2, 29, 30, 31, 32, 33, 34, 35, 36, 37, 38, 39] (by decide +kernel) (by decide +kernel)
set_option maxRecDepth 20000 in
theorem gX9_drop_X9_kept : GoodIn wsX9_drop (wsV RX9 61 RX9 yX9_kept wsX9_kept) := goodIn_app (goodIn_of _ (by decide +kernel)) ggX9_drop_X9_kept
set_option maxRecDepth 20000 in
theorem ggX9_drop_X9_keptAt : GoodIn wsX9_drop wsX9_keptAt := goodIn_r _ [28, 2, 29, 30, 31, 32, 33, 34, 35, 36, 37, 38, 39] (by decide +kernel) (by decide +kernel)
set_option maxRecDepth 20000 in
theorem gX9_drop_X9_keptAt : GoodIn wsX9_drop (wsV RX9 64 RX9 yX9_keptAt wsX9_keptAt) := goodIn_app (goodIn_of _ (by decide +kernel)) ggX9_drop_X9_keptAt
theorem dX9_drop_0 : decode cX9_drop 0 = .ok (.aload_n 0, 1) := by decide +kernel
theorem dX9_drop_1 : decode cX9_drop 1 = .ok (.iconst 0, 1) := by decide +kernel
theorem dX9_drop_2 : decode cX9_drop 2 = .ok (.putfield 22, 3) := by decide +kernel
theorem dX9_drop_5 : decode cX9_drop 5 = .ok (.aload_n 0, 1) := by decide +kernel
theorem dX9_drop_6 : decode cX9_drop 6 = .ok (.iload_n 1, 1) := by decide +kernel
theorem dX9_drop_7 : decode cX9_drop 7 = .ok (.invokevirtual 90, 3) := by decide +kernel
theorem dX9_drop_10 : decode cX9_drop 10 = .ok (.ifCond .ne 9, 3) := by decide +kernel
theorem dX9_drop_13 : decode cX9_drop 13 = .ok (.aload_n 0, 1) := by decide +kernel
theorem dX9_drop_14 : decode cX9_drop 14 = .ok (.iconst 1, 1) := by decide +kernel
theorem dX9_drop_15 : decode cX9_drop 15 = .ok (.invokevirtual 80, 3) := by decide +kernel
theorem dX9_drop_18 : decode cX9_drop 18 = .ok (.ireturn, 1) := by decide +kernel
theorem dX9_drop_19 : decode cX9_drop 19 = .ok (.aload_n 0, 1) := by decide +kernel
theorem dX9_drop_20 : decode cX9_drop 20 = .ok (.invokevirtual 83, 3) := by decide +kernel
theorem dX9_drop_23 : decode cX9_drop 23 = .ok (.aload_n 0, 1) := by decide +kernel
theorem dX9_drop_24 : decode cX9_drop 24 = .ok (.getfield 7, 3) := by decide +kernel
theorem dX9_drop_27 : decode cX9_drop 27 = .ok (.iconst 0, 1) := by decide +kernel
theorem dX9_drop_28 : decode cX9_drop 28 = .ok (.dup2, 1) := by decide +kernel
theorem dX9_drop_29 : decode cX9_drop 29 = .ok (.iaload, 1) := by decide +kernel
theorem dX9_drop_30 : decode cX9_drop 30 = .ok (.iconst 1, 1) := by decide +kernel
theorem dX9_drop_31 : decode cX9_drop 31 = .ok (.isub, 1) := by decide +kernel
theorem dX9_drop_32 : decode cX9_drop 32 = .ok (.iastore, 1) := by decide +kernel
theorem dX9_drop_33 : decode cX9_drop 33 = .ok (.iconst 4, 1) := by decide +kernel
theorem dX9_drop_34 : decode cX9_drop 34 = .ok (.iload_n 1, 1) := by decide +kernel
theorem dX9_drop_35 : decode cX9_drop 35 = .ok (.imul, 1) := by decide +kernel
theorem dX9_drop_36 : decode cX9_drop 36 = .ok (.istore_n 2, 1) := by decide +kernel
theorem dX9_drop_37 : decode cX9_drop 37 = .ok (.iload_n 2, 1) := by decide +kernel
theorem dX9_drop_38 : decode cX9_drop 38 = .ok (.iconst 4, 1) := by decide +kernel
theorem dX9_drop_39 : decode cX9_drop 39 = .ok (.aload_n 0, 1) := by decide +kernel
theorem dX9_drop_40 : decode cX9_drop 40 = .ok (.getfield 7, 3) := by decide +kernel
theorem dX9_drop_43 : decode cX9_drop 43 = .ok (.iconst 0, 1) := by decide +kernel
theorem dX9_drop_44 : decode cX9_drop 44 = .ok (.iaload, 1) := by decide +kernel
theorem dX9_drop_45 : decode cX9_drop 45 = .ok (.imul, 1) := by decide +kernel
theorem dX9_drop_46 : decode cX9_drop 46 = .ok (.if_icmp .ge 29, 3) := by decide +kernel
theorem dX9_drop_49 : decode cX9_drop 49 = .ok (.aload_n 0, 1) := by decide +kernel
theorem dX9_drop_50 : decode cX9_drop 50 = .ok (.getfield 7, 3) := by decide +kernel
theorem dX9_drop_53 : decode cX9_drop 53 = .ok (.bipush 6, 2) := by decide +kernel
theorem dX9_drop_55 : decode cX9_drop 55 = .ok (.iload_n 2, 1) := by decide +kernel
theorem dX9_drop_56 : decode cX9_drop 56 = .ok (.iadd, 1) := by decide +kernel
theorem dX9_drop_57 : decode cX9_drop 57 = .ok (.aload_n 0, 1) := by decide +kernel
theorem dX9_drop_58 : decode cX9_drop 58 = .ok (.getfield 7, 3) := by decide +kernel
theorem dX9_drop_61 : decode cX9_drop 61 = .ok (.bipush 6, 2) := by decide +kernel
theorem dX9_drop_63 : decode cX9_drop 63 = .ok (.iload_n 2, 1) := by decide +kernel
theorem dX9_drop_64 : decode cX9_drop 64 = .ok (.iadd, 1) := by decide +kernel
theorem dX9_drop_65 : decode cX9_drop 65 = .ok (.iconst 4, 1) := by decide +kernel
theorem dX9_drop_66 : decode cX9_drop 66 = .ok (.iadd, 1) := by decide +kernel
theorem dX9_drop_67 : decode cX9_drop 67 = .ok (.iaload, 1) := by decide +kernel
theorem dX9_drop_68 : decode cX9_drop 68 = .ok (.iastore, 1) := by decide +kernel
theorem dX9_drop_69 : decode cX9_drop 69 = .ok (.iinc 2 1, 3) := by decide +kernel
theorem dX9_drop_72 : decode cX9_drop 72 = .ok (.goto (-35), 3) := by decide +kernel
theorem dX9_drop_75 : decode cX9_drop 75 = .ok (.iconst 0, 1) := by decide +kernel
theorem dX9_drop_76 : decode cX9_drop 76 = .ok (.istore_n 2, 1) := by decide +kernel
theorem dX9_drop_77 : decode cX9_drop 77 = .ok (.iload_n 2, 1) := by decide +kernel
theorem dX9_drop_78 : decode cX9_drop 78 = .ok (.iconst 4, 1) := by decide +kernel
theorem dX9_drop_79 : decode cX9_drop 79 = .ok (.if_icmp .ge 28, 3) := by decide +kernel
theorem dX9_drop_82 : decode cX9_drop 82 = .ok (.aload_n 0, 1) := by decide +kernel
theorem dX9_drop_83 : decode cX9_drop 83 = .ok (.getfield 7, 3) := by decide +kernel
theorem dX9_drop_86 : decode cX9_drop 86 = .ok (.bipush 6, 2) := by decide +kernel
theorem dX9_drop_88 : decode cX9_drop 88 = .ok (.iconst 4, 1) := by decide +kernel
theorem dX9_drop_89 : decode cX9_drop 89 = .ok (.aload_n 0, 1) := by decide +kernel
theorem dX9_drop_90 : decode cX9_drop 90 = .ok (.getfield 7, 3) := by decide +kernel
theorem dX9_drop_93 : decode cX9_drop 93 = .ok (.iconst 0, 1) := by decide +kernel
theorem dX9_drop_94 : decode cX9_drop 94 = .ok (.iaload, 1) := by decide +kernel
theorem dX9_drop_95 : decode cX9_drop 95 = .ok (.imul, 1) := by decide +kernel
theorem dX9_drop_96 : decode cX9_drop 96 = .ok (.iadd, 1) := by decide +kernel
theorem dX9_drop_97 : decode cX9_drop 97 = .ok (.iload_n 2, 1) := by decide +kernel
theorem dX9_drop_98 : decode cX9_drop 98 = .ok (.iadd, 1) := by decide +kernel
theorem dX9_drop_99 : decode cX9_drop 99 = .ok (.iconst 0, 1) := by decide +kernel
theorem dX9_drop_100 : decode cX9_drop 100 = .ok (.iastore, 1) := by decide +kernel
theorem dX9_drop_101 : decode cX9_drop 101 = .ok (.iinc 2 1, 3) := by decide +kernel
theorem dX9_drop_104 : decode cX9_drop 104 = .ok (.goto (-27), 3) := by decide +kernel
theorem dX9_drop_107 : decode cX9_drop 107 = .ok (.iconst 0, 1) := by decide +kernel
theorem dX9_drop_108 : decode cX9_drop 108 = .ok (.istore_n 2, 1) := by decide +kernel
theorem dX9_drop_109 : decode cX9_drop 109 = .ok (.iload_n 2, 1) := by decide +kernel
theorem dX9_drop_110 : decode cX9_drop 110 = .ok (.iconst 5, 1) := by decide +kernel
theorem dX9_drop_111 : decode cX9_drop 111 = .ok (.if_icmp .ge 67, 3) := by decide +kernel
theorem dX9_drop_114 : decode cX9_drop 114 = .ok (.iconst 0, 1) := by decide +kernel
theorem dX9_drop_115 : decode cX9_drop 115 = .ok (.istore_n 3, 1) := by decide +kernel
theorem dX9_drop_116 : decode cX9_drop 116 = .ok (.iload_n 3, 1) := by decide +kernel
theorem dX9_drop_117 : decode cX9_drop 117 = .ok (.aload_n 0, 1) := by decide +kernel
theorem dX9_drop_118 : decode cX9_drop 118 = .ok (.iload_n 2, 1) := by decide +kernel
theorem dX9_drop_119 : decode cX9_drop 119 = .ok (.invokevirtual 61, 3) := by decide +kernel
theorem dX9_drop_122 : decode cX9_drop 122 = .ok (.if_icmp .ge 50, 3) := by decide +kernel
theorem dX9_drop_125 : decode cX9_drop 125 = .ok (.aload_n 0, 1) := by decide +kernel
theorem dX9_drop_126 : decode cX9_drop 126 = .ok (.iload_n 2, 1) := by decide +kernel
theorem dX9_drop_127 : decode cX9_drop 127 = .ok (.iload_n 3, 1) := by decide +kernel
theorem dX9_drop_128 : decode cX9_drop 128 = .ok (.invokevirtual 64, 3) := by decide +kernel
theorem dX9_drop_131 : decode cX9_drop 131 = .ok (.istore 4, 2) := by decide +kernel
theorem dX9_drop_133 : decode cX9_drop 133 = .ok (.aload_n 0, 1) := by decide +kernel
theorem dX9_drop_134 : decode cX9_drop 134 = .ok (.getfield 7, 3) := by decide +kernel
theorem dX9_drop_137 : decode cX9_drop 137 = .ok (.bipush 95, 2) := by decide +kernel
theorem dX9_drop_139 : decode cX9_drop 139 = .ok (.bipush 7, 2) := by decide +kernel
theorem dX9_drop_141 : decode cX9_drop 141 = .ok (.iload_n 2, 1) := by decide +kernel
theorem dX9_drop_142 : decode cX9_drop 142 = .ok (.imul, 1) := by decide +kernel
theorem dX9_drop_143 : decode cX9_drop 143 = .ok (.iadd, 1) := by decide +kernel
theorem dX9_drop_144 : decode cX9_drop 144 = .ok (.iconst 1, 1) := by decide +kernel
theorem dX9_drop_145 : decode cX9_drop 145 = .ok (.iadd, 1) := by decide +kernel
theorem dX9_drop_146 : decode cX9_drop 146 = .ok (.iload_n 3, 1) := by decide +kernel
theorem dX9_drop_147 : decode cX9_drop 147 = .ok (.iadd, 1) := by decide +kernel
theorem dX9_drop_148 : decode cX9_drop 148 = .ok (.iload 4, 2) := by decide +kernel
theorem dX9_drop_150 : decode cX9_drop 150 = .ok (.iconst 1, 1) := by decide +kernel
theorem dX9_drop_151 : decode cX9_drop 151 = .ok (.iload_n 1, 1) := by decide +kernel
theorem dX9_drop_152 : decode cX9_drop 152 = .ok (.ishl, 1) := by decide +kernel
theorem dX9_drop_153 : decode cX9_drop 153 = .ok (.iconst 1, 1) := by decide +kernel
theorem dX9_drop_154 : decode cX9_drop 154 = .ok (.isub, 1) := by decide +kernel
theorem dX9_drop_155 : decode cX9_drop 155 = .ok (.iand, 1) := by decide +kernel
theorem dX9_drop_156 : decode cX9_drop 156 = .ok (.iload 4, 2) := by decide +kernel
theorem dX9_drop_158 : decode cX9_drop 158 = .ok (.iload_n 1, 1) := by decide +kernel
theorem dX9_drop_159 : decode cX9_drop 159 = .ok (.iconst 1, 1) := by decide +kernel
theorem dX9_drop_160 : decode cX9_drop 160 = .ok (.iadd, 1) := by decide +kernel
theorem dX9_drop_161 : decode cX9_drop 161 = .ok (.ishr, 1) := by decide +kernel
theorem dX9_drop_162 : decode cX9_drop 162 = .ok (.iload_n 1, 1) := by decide +kernel
theorem dX9_drop_163 : decode cX9_drop 163 = .ok (.ishl, 1) := by decide +kernel
theorem dX9_drop_164 : decode cX9_drop 164 = .ok (.ior, 1) := by decide +kernel
theorem dX9_drop_165 : decode cX9_drop 165 = .ok (.iastore, 1) := by decide +kernel
theorem dX9_drop_166 : decode cX9_drop 166 = .ok (.iinc 3 1, 3) := by decide +kernel
theorem dX9_drop_169 : decode cX9_drop 169 = .ok (.goto (-53), 3) := by decide +kernel
theorem dX9_drop_172 : decode cX9_drop 172 = .ok (.iinc 2 1, 3) := by decide +kernel
theorem dX9_drop_175 : decode cX9_drop 175 = .ok (.goto (-66), 3) := by decide +kernel
theorem dX9_drop_178 : decode cX9_drop 178 = .ok (.aload_n 0, 1) := by decide +kernel
theorem dX9_drop_179 : decode cX9_drop 179 = .ok (.getfield 7, 3) := by decide +kernel
theorem dX9_drop_182 : decode cX9_drop 182 = .ok (.iconst 0, 1) := by decide +kernel
theorem dX9_drop_183 : decode cX9_drop 183 = .ok (.iaload, 1) := by decide +kernel
theorem dX9_drop_184 : decode cX9_drop 184 = .ok (.ireturn, 1) := by decide +kernel
set_option maxRecDepth 20000 in
theorem ggX9_change_X9_isRow : GoodIn wsX9_change wsX9_isRow := goodIn_r _ [7, 2, 8, 9, 6, 10, 25, 26, 27, 28, 29, 30, 31, 32, 33, 34, 35] (by decide +kernel) (by decide +kernel)
set_option maxRecDepth 20000 in
theorem gX9_change_X9_isRow : GoodIn wsX9_change (wsV RX9 90 RX9 yX9_isRow wsX9_isRow) := goodIn_app (goodIn_of _ (by decide +kernel)) ggX9_change_X9_isRow
set_option maxRecDepth 20000 in
theorem ggX9_change_X9_fails : GoodIn wsX9_change wsX9_fails := goodIn_r _ [14, 1, 25, 26, 27, 28, 29, 30, 31, 32, 33, 34, 35] (by decide +kernel) (by decide +kernel)
set_option maxRecDepth 20000 in
theorem gX9_change_X9_fails : GoodIn wsX9_change (wsV RX9 80 RX9 yX9_fails wsX9_fails) := goodIn_app (goodIn_of _ (by decide +kernel)) ggX9_change_X9_fails
set_option maxRecDepth 20000 in
theorem ggX9_change_X9_in : GoodIn wsX9_change wsX9_in := goodIn_r _ [10] (by decide +kernel) (by decide +kernel)
set_option maxRecDepth 20000 in
theorem gX9_change_X9_in : GoodIn wsX9_change (va_wsS RX9 30 yX9_in wsX9_in) := goodIn_app (goodIn_of _ (by decide +kernel)) ggX9_change_X9_in
set_option maxRecDepth 20000 in
theorem ggX9_change_X9_saves : GoodIn wsX9_change wsX9_saves := goodIn_r _ [18, 19, 20, 2, 25, 26, 27, 28, 29, 30, 31, 32, 33, 34, 35] (by decide +kernel) (by decide +kernel)
set_option maxRecDepth 20000 in
theorem gX9_change_X9_saves : GoodIn wsX9_change (wsV RX9 83 RX9 yX9_saves wsX9_saves) := goodIn_app (goodIn_of _ (by decide +kernel)) ggX9_change_X9_saves
set_option maxRecDepth 20000 in
theorem ggX9_change_X9_of : GoodIn wsX9_change wsX9_of := goodIn_r _ [24, 2, 25, 26, 27, 28, 29, 30, 31, 32, 33, 34, 35] (by decide +kernel) (by decide +kernel)
set_option maxRecDepth 20000 in
theorem gX9_change_X9_of : GoodIn wsX9_change (wsV RX9 41 RX9 yX9_of wsX9_of) := goodIn_app (goodIn_of _ (by decide +kernel)) ggX9_change_X9_of
theorem dX9_change_0 : decode cX9_change 0 = .ok (.aload_n 0, 1) := by decide +kernel
theorem dX9_change_1 : decode cX9_change 1 = .ok (.iconst 0, 1) := by decide +kernel
theorem dX9_change_2 : decode cX9_change 2 = .ok (.putfield 22, 3) := by decide +kernel
theorem dX9_change_5 : decode cX9_change 5 = .ok (.aload_n 0, 1) := by decide +kernel
theorem dX9_change_6 : decode cX9_change 6 = .ok (.iload_n 1, 1) := by decide +kernel
theorem dX9_change_7 : decode cX9_change 7 = .ok (.invokevirtual 90, 3) := by decide +kernel
theorem dX9_change_10 : decode cX9_change 10 = .ok (.ifCond .ne 9, 3) := by decide +kernel
theorem dX9_change_13 : decode cX9_change 13 = .ok (.aload_n 0, 1) := by decide +kernel
theorem dX9_change_14 : decode cX9_change 14 = .ok (.iconst 1, 1) := by decide +kernel
theorem dX9_change_15 : decode cX9_change 15 = .ok (.invokevirtual 80, 3) := by decide +kernel
theorem dX9_change_18 : decode cX9_change 18 = .ok (.ireturn, 1) := by decide +kernel
theorem dX9_change_19 : decode cX9_change 19 = .ok (.iload_n 2, 1) := by decide +kernel
theorem dX9_change_20 : decode cX9_change 20 = .ok (.iconst 0, 1) := by decide +kernel
theorem dX9_change_21 : decode cX9_change 21 = .ok (.bipush 99, 2) := by decide +kernel
theorem dX9_change_23 : decode cX9_change 23 = .ok (.invokestatic 30, 3) := by decide +kernel
theorem dX9_change_26 : decode cX9_change 26 = .ok (.ifCond .ne 9, 3) := by decide +kernel
theorem dX9_change_29 : decode cX9_change 29 = .ok (.aload_n 0, 1) := by decide +kernel
theorem dX9_change_30 : decode cX9_change 30 = .ok (.iconst 2, 1) := by decide +kernel
theorem dX9_change_31 : decode cX9_change 31 = .ok (.invokevirtual 80, 3) := by decide +kernel
theorem dX9_change_34 : decode cX9_change 34 = .ok (.ireturn, 1) := by decide +kernel
theorem dX9_change_35 : decode cX9_change 35 = .ok (.aload_n 0, 1) := by decide +kernel
theorem dX9_change_36 : decode cX9_change 36 = .ok (.invokevirtual 83, 3) := by decide +kernel
theorem dX9_change_39 : decode cX9_change 39 = .ok (.aload_n 0, 1) := by decide +kernel
theorem dX9_change_40 : decode cX9_change 40 = .ok (.iload_n 1, 1) := by decide +kernel
theorem dX9_change_41 : decode cX9_change 41 = .ok (.iconst 2, 1) := by decide +kernel
theorem dX9_change_42 : decode cX9_change 42 = .ok (.invokevirtual 41, 3) := by decide +kernel
theorem dX9_change_45 : decode cX9_change 45 = .ok (.istore_n 3, 1) := by decide +kernel
theorem dX9_change_46 : decode cX9_change 46 = .ok (.aload_n 0, 1) := by decide +kernel
theorem dX9_change_47 : decode cX9_change 47 = .ok (.getfield 7, 3) := by decide +kernel
theorem dX9_change_50 : decode cX9_change 50 = .ok (.bipush 6, 2) := by decide +kernel
theorem dX9_change_52 : decode cX9_change 52 = .ok (.iconst 4, 1) := by decide +kernel
theorem dX9_change_53 : decode cX9_change 53 = .ok (.iload_n 1, 1) := by decide +kernel
theorem dX9_change_54 : decode cX9_change 54 = .ok (.imul, 1) := by decide +kernel
theorem dX9_change_55 : decode cX9_change 55 = .ok (.iadd, 1) := by decide +kernel
theorem dX9_change_56 : decode cX9_change 56 = .ok (.iconst 2, 1) := by decide +kernel
theorem dX9_change_57 : decode cX9_change 57 = .ok (.iadd, 1) := by decide +kernel
theorem dX9_change_58 : decode cX9_change 58 = .ok (.iload_n 2, 1) := by decide +kernel
theorem dX9_change_59 : decode cX9_change 59 = .ok (.iastore, 1) := by decide +kernel
theorem dX9_change_60 : decode cX9_change 60 = .ok (.iload_n 3, 1) := by decide +kernel
theorem dX9_change_61 : decode cX9_change 61 = .ok (.ireturn, 1) := by decide +kernel
set_option maxRecDepth 20000 in
theorem ggX9_person_X9_isPerson : GoodIn wsX9_person wsX9_isPerson := goodIn_r _ [5, 6, 7, 4, 8] (by decide +kernel) (by decide +kernel)
set_option maxRecDepth 20000 in
theorem gX9_person_X9_isPerson : GoodIn wsX9_person (va_wsS RX9 77 yX9_isPerson wsX9_isPerson) := goodIn_app (goodIn_of _ (by decide +kernel)) ggX9_person_X9_isPerson
set_option maxRecDepth 20000 in
theorem ggX9_person_X9_in : GoodIn wsX9_person wsX9_in := goodIn_r _ [8] (by decide +kernel) (by decide +kernel)
set_option maxRecDepth 20000 in
theorem gX9_person_X9_in : GoodIn wsX9_person (va_wsS RX9 30 yX9_in wsX9_in) := goodIn_app (goodIn_of _ (by decide +kernel)) ggX9_person_X9_in
set_option maxRecDepth 20000 in
theorem ggX9_person_X9_fails : GoodIn wsX9_person wsX9_fails := goodIn_r _ [12, 1, 28, 29, 30, 31, 32, 33, 34, 35, 36, 37, 38] (by decide +kernel) (by decide +kernel)
set_option maxRecDepth 20000 in
theorem gX9_person_X9_fails : GoodIn wsX9_person (wsV RX9 80 RX9 yX9_fails wsX9_fails) := goodIn_app (goodIn_of _ (by decide +kernel)) ggX9_person_X9_fails
set_option maxRecDepth 20000 in
theorem ggX9_person_X9_saves : GoodIn wsX9_person wsX9_saves := goodIn_r _ [16, 17, 18, 19, 28, 29, 30, 31, 32, 33, 34, 35, 36, 37, 38] (by decide +kernel) (by decide +kernel)
set_option maxRecDepth 20000 in
theorem gX9_person_X9_saves : GoodIn wsX9_person (wsV RX9 83 RX9 yX9_saves wsX9_saves) := goodIn_app (goodIn_of _ (by decide +kernel)) ggX9_person_X9_saves
set_option maxRecDepth 20000 in
theorem ggX9_person_X9_ofPerson : GoodIn wsX9_person wsX9_ofPerson := goodIn_r _ [23, 19, 28, 29, 30, 31, 32, 33, 34, 35, 36, 37, 38] (by decide +kernel) (by decide +kernel)
set_option maxRecDepth 20000 in
theorem gX9_person_X9_ofPerson : GoodIn wsX9_person (wsV RX9 26 RX9 yX9_ofPerson wsX9_ofPerson) := goodIn_app (goodIn_of _ (by decide +kernel)) ggX9_person_X9_ofPerson
set_option maxRecDepth 20000 in
theorem ggX9_person_X9_layPerson : GoodIn wsX9_person wsX9_layPerson := goodIn_r _ [27, 19, 28, 29, 30, 31, 32, 33, 34, 35, 36, 37, 38] (by decide +kernel) (by decide +kernel)
set_option maxRecDepth 20000 in
theorem gX9_person_X9_layPerson : GoodIn wsX9_person (wsV RX9 93 RX9 yX9_layPerson wsX9_layPerson) := goodIn_app (goodIn_of _ (by decide +kernel)) ggX9_person_X9_layPerson
theorem dX9_person_0 : decode cX9_person 0 = .ok (.aload_n 0, 1) := by decide +kernel
theorem dX9_person_1 : decode cX9_person 1 = .ok (.iconst 0, 1) := by decide +kernel
theorem dX9_person_2 : decode cX9_person 2 = .ok (.putfield 22, 3) := by decide +kernel
theorem dX9_person_5 : decode cX9_person 5 = .ok (.iload_n 1, 1) := by decide +kernel
theorem dX9_person_6 : decode cX9_person 6 = .ok (.invokestatic 77, 3) := by decide +kernel
theorem dX9_person_9 : decode cX9_person 9 = .ok (.ifCond .eq 12, 3) := by decide +kernel
theorem dX9_person_12 : decode cX9_person 12 = .ok (.iload_n 3, 1) := by decide +kernel
theorem dX9_person_13 : decode cX9_person 13 = .ok (.iconst 0, 1) := by decide +kernel
theorem dX9_person_14 : decode cX9_person 14 = .ok (.iconst 3, 1) := by decide +kernel
theorem dX9_person_15 : decode cX9_person 15 = .ok (.invokestatic 30, 3) := by decide +kernel
theorem dX9_person_18 : decode cX9_person 18 = .ok (.ifCond .ne 9, 3) := by decide +kernel
theorem dX9_person_21 : decode cX9_person 21 = .ok (.aload_n 0, 1) := by decide +kernel
theorem dX9_person_22 : decode cX9_person 22 = .ok (.iconst 1, 1) := by decide +kernel
theorem dX9_person_23 : decode cX9_person 23 = .ok (.invokevirtual 80, 3) := by decide +kernel
theorem dX9_person_26 : decode cX9_person 26 = .ok (.ireturn, 1) := by decide +kernel
theorem dX9_person_27 : decode cX9_person 27 = .ok (.iload_n 2, 1) := by decide +kernel
theorem dX9_person_28 : decode cX9_person 28 = .ok (.iconst 0, 1) := by decide +kernel
theorem dX9_person_29 : decode cX9_person 29 = .ok (.iconst 3, 1) := by decide +kernel
theorem dX9_person_30 : decode cX9_person 30 = .ok (.invokestatic 30, 3) := by decide +kernel
theorem dX9_person_33 : decode cX9_person 33 = .ok (.ifCond .ne 9, 3) := by decide +kernel
theorem dX9_person_36 : decode cX9_person 36 = .ok (.aload_n 0, 1) := by decide +kernel
theorem dX9_person_37 : decode cX9_person 37 = .ok (.iconst 2, 1) := by decide +kernel
theorem dX9_person_38 : decode cX9_person 38 = .ok (.invokevirtual 80, 3) := by decide +kernel
theorem dX9_person_41 : decode cX9_person 41 = .ok (.ireturn, 1) := by decide +kernel
theorem dX9_person_42 : decode cX9_person 42 = .ok (.aload_n 0, 1) := by decide +kernel
theorem dX9_person_43 : decode cX9_person 43 = .ok (.invokevirtual 83, 3) := by decide +kernel
theorem dX9_person_46 : decode cX9_person 46 = .ok (.aload_n 0, 1) := by decide +kernel
theorem dX9_person_47 : decode cX9_person 47 = .ok (.iload_n 1, 1) := by decide +kernel
theorem dX9_person_48 : decode cX9_person 48 = .ok (.iconst 0, 1) := by decide +kernel
theorem dX9_person_49 : decode cX9_person 49 = .ok (.invokevirtual 26, 3) := by decide +kernel
theorem dX9_person_52 : decode cX9_person 52 = .ok (.istore 4, 2) := by decide +kernel
theorem dX9_person_54 : decode cX9_person 54 = .ok (.aload_n 0, 1) := by decide +kernel
theorem dX9_person_55 : decode cX9_person 55 = .ok (.iload_n 1, 1) := by decide +kernel
theorem dX9_person_56 : decode cX9_person 56 = .ok (.iconst 0, 1) := by decide +kernel
theorem dX9_person_57 : decode cX9_person 57 = .ok (.iload_n 2, 1) := by decide +kernel
theorem dX9_person_58 : decode cX9_person 58 = .ok (.invokevirtual 93, 3) := by decide +kernel
theorem dX9_person_61 : decode cX9_person 61 = .ok (.aload_n 0, 1) := by decide +kernel
theorem dX9_person_62 : decode cX9_person 62 = .ok (.iload_n 1, 1) := by decide +kernel
theorem dX9_person_63 : decode cX9_person 63 = .ok (.iconst 1, 1) := by decide +kernel
theorem dX9_person_64 : decode cX9_person 64 = .ok (.iload_n 3, 1) := by decide +kernel
theorem dX9_person_65 : decode cX9_person 65 = .ok (.invokevirtual 93, 3) := by decide +kernel
theorem dX9_person_68 : decode cX9_person 68 = .ok (.iload 4, 2) := by decide +kernel
theorem dX9_person_70 : decode cX9_person 70 = .ok (.ireturn, 1) := by decide +kernel
set_option maxRecDepth 20000 in
theorem ggX9_master_X9_isPerson : GoodIn wsX9_master wsX9_isPerson := goodIn_r _ [5, 6, 7, 4, 8] (by decide +kernel) (by decide +kernel)
set_option maxRecDepth 20000 in
theorem gX9_master_X9_isPerson : GoodIn wsX9_master (va_wsS RX9 77 yX9_isPerson wsX9_isPerson) := goodIn_app (goodIn_of _ (by decide +kernel)) ggX9_master_X9_isPerson
set_option maxRecDepth 20000 in
theorem ggX9_master_X9_in : GoodIn wsX9_master wsX9_in := goodIn_r _ [8] (by decide +kernel) (by decide +kernel)
set_option maxRecDepth 20000 in
theorem gX9_master_X9_in : GoodIn wsX9_master (va_wsS RX9 30 yX9_in wsX9_in) := goodIn_app (goodIn_of _ (by decide +kernel)) ggX9_master_X9_in
set_option maxRecDepth 20000 in
theorem ggX9_master_X9_fails : GoodIn wsX9_master wsX9_fails := goodIn_r _ [12, 1, 32, 33, 34, 35, 36, 37, 38, 39, 40, 41, 42] (by decide +kernel) (by decide +kernel)
set_option maxRecDepth 20000 in
theorem gX9_master_X9_fails : GoodIn wsX9_master (wsV RX9 80 RX9 yX9_fails wsX9_fails) := goodIn_app (goodIn_of _ (by decide +kernel)) ggX9_master_X9_fails
set_option maxRecDepth 20000 in
theorem ggX9_master_X9_saves : GoodIn wsX9_master wsX9_saves := goodIn_r _ [16, 17, 18, 19, 32, 33, 34, 35, 36, 37, 38, 39, 40, 41, 42] (by decide +kernel) (by decide +kernel)
set_option maxRecDepth 20000 in
theorem gX9_master_X9_saves : GoodIn wsX9_master (wsV RX9 83 RX9 yX9_saves wsX9_saves) := goodIn_app (goodIn_of _ (by decide +kernel)) ggX9_master_X9_saves
set_option maxRecDepth 20000 in
theorem ggX9_master_X9_masterOf : GoodIn wsX9_master wsX9_masterOf := goodIn_r _ [23, 24, 25, 26, 4, 27, 19, 32, 33, 34, 35, 36, 37, 38, 39, 40, 41, 42] (by decide +kernel) (by decide +kernel)
set_option maxRecDepth 20000 in
theorem gX9_master_X9_masterOf : GoodIn wsX9_master (wsV RX9 37 RX9 yX9_masterOf wsX9_masterOf) := goodIn_app (goodIn_of _ (by decide +kernel)) ggX9_master_X9_masterOf
set_option maxRecDepth 20000 in
theorem ggX9_master_X9_layPerson : GoodIn wsX9_master wsX9_layPerson := goodIn_r _ [31, 19, 32, 33, 34, 35, 36, 37, 38, 39, 40, 41, 42] (by decide +kernel) (by decide +kernel)
set_option maxRecDepth 20000 in
theorem gX9_master_X9_layPerson : GoodIn wsX9_master (wsV RX9 93 RX9 yX9_layPerson wsX9_layPerson) := goodIn_app (goodIn_of _ (by decide +kernel)) ggX9_master_X9_layPerson
theorem dX9_master_0 : decode cX9_master 0 = .ok (.aload_n 0, 1) := by decide +kernel
theorem dX9_master_1 : decode cX9_master 1 = .ok (.iconst 0, 1) := by decide +kernel
theorem dX9_master_2 : decode cX9_master 2 = .ok (.putfield 22, 3) := by decide +kernel
theorem dX9_master_5 : decode cX9_master 5 = .ok (.iload_n 1, 1) := by decide +kernel
theorem dX9_master_6 : decode cX9_master 6 = .ok (.invokestatic 77, 3) := by decide +kernel
theorem dX9_master_9 : decode cX9_master 9 = .ok (.ifCond .eq 12, 3) := by decide +kernel
theorem dX9_master_12 : decode cX9_master 12 = .ok (.iload_n 2, 1) := by decide +kernel
theorem dX9_master_13 : decode cX9_master 13 = .ok (.iconst (-1), 1) := by decide +kernel
theorem dX9_master_14 : decode cX9_master 14 = .ok (.iconst 4, 1) := by decide +kernel
theorem dX9_master_15 : decode cX9_master 15 = .ok (.invokestatic 30, 3) := by decide +kernel
theorem dX9_master_18 : decode cX9_master 18 = .ok (.ifCond .ne 9, 3) := by decide +kernel
theorem dX9_master_21 : decode cX9_master 21 = .ok (.aload_n 0, 1) := by decide +kernel
theorem dX9_master_22 : decode cX9_master 22 = .ok (.iconst 1, 1) := by decide +kernel
theorem dX9_master_23 : decode cX9_master 23 = .ok (.invokevirtual 80, 3) := by decide +kernel
theorem dX9_master_26 : decode cX9_master 26 = .ok (.ireturn, 1) := by decide +kernel
theorem dX9_master_27 : decode cX9_master 27 = .ok (.iload_n 1, 1) := by decide +kernel
theorem dX9_master_28 : decode cX9_master 28 = .ok (.iload_n 2, 1) := by decide +kernel
theorem dX9_master_29 : decode cX9_master 29 = .ok (.if_icmp .ne 9, 3) := by decide +kernel
theorem dX9_master_32 : decode cX9_master 32 = .ok (.aload_n 0, 1) := by decide +kernel
theorem dX9_master_33 : decode cX9_master 33 = .ok (.iconst 2, 1) := by decide +kernel
theorem dX9_master_34 : decode cX9_master 34 = .ok (.invokevirtual 80, 3) := by decide +kernel
theorem dX9_master_37 : decode cX9_master 37 = .ok (.ireturn, 1) := by decide +kernel
theorem dX9_master_38 : decode cX9_master 38 = .ok (.aload_n 0, 1) := by decide +kernel
theorem dX9_master_39 : decode cX9_master 39 = .ok (.invokevirtual 83, 3) := by decide +kernel
theorem dX9_master_42 : decode cX9_master 42 = .ok (.aload_n 0, 1) := by decide +kernel
theorem dX9_master_43 : decode cX9_master 43 = .ok (.iload_n 1, 1) := by decide +kernel
theorem dX9_master_44 : decode cX9_master 44 = .ok (.invokevirtual 37, 3) := by decide +kernel
theorem dX9_master_47 : decode cX9_master 47 = .ok (.istore_n 3, 1) := by decide +kernel
theorem dX9_master_48 : decode cX9_master 48 = .ok (.aload_n 0, 1) := by decide +kernel
theorem dX9_master_49 : decode cX9_master 49 = .ok (.iload_n 1, 1) := by decide +kernel
theorem dX9_master_50 : decode cX9_master 50 = .ok (.iconst 2, 1) := by decide +kernel
theorem dX9_master_51 : decode cX9_master 51 = .ok (.iload_n 2, 1) := by decide +kernel
theorem dX9_master_52 : decode cX9_master 52 = .ok (.iconst 1, 1) := by decide +kernel
theorem dX9_master_53 : decode cX9_master 53 = .ok (.iadd, 1) := by decide +kernel
theorem dX9_master_54 : decode cX9_master 54 = .ok (.invokevirtual 93, 3) := by decide +kernel
theorem dX9_master_57 : decode cX9_master 57 = .ok (.iload_n 3, 1) := by decide +kernel
theorem dX9_master_58 : decode cX9_master 58 = .ok (.ireturn, 1) := by decide +kernel
set_option maxRecDepth 20000 in
theorem ggX9_force_X9_in : GoodIn wsX9_force wsX9_in := goodIn_r _ [6] (by decide +kernel) (by decide +kernel)
set_option maxRecDepth 20000 in
theorem gX9_force_X9_in : GoodIn wsX9_force (va_wsS RX9 30 yX9_in wsX9_in) := goodIn_app (goodIn_of _ (by decide +kernel)) ggX9_force_X9_in
set_option maxRecDepth 20000 in
theorem ggX9_force_X9_fails : GoodIn wsX9_force wsX9_fails := goodIn_r _ [10, 1, 17, 18, 19, 20, 21, 22, 23, 24, 25, 26, 27] (by decide +kernel) (by decide +kernel)
set_option maxRecDepth 20000 in
theorem gX9_force_X9_fails : GoodIn wsX9_force (wsV RX9 80 RX9 yX9_fails wsX9_fails) := goodIn_app (goodIn_of _ (by decide +kernel)) ggX9_force_X9_fails
set_option maxRecDepth 20000 in
theorem ggX9_force_X9_saves : GoodIn wsX9_force wsX9_saves := goodIn_r _ [14, 15, 16, 2, 17, 18, 19, 20, 21, 22, 23, 24, 25, 26, 27] (by decide +kernel) (by decide +kernel)
set_option maxRecDepth 20000 in
theorem gX9_force_X9_saves : GoodIn wsX9_force (wsV RX9 83 RX9 yX9_saves wsX9_saves) := goodIn_app (goodIn_of _ (by decide +kernel)) ggX9_force_X9_saves
theorem dX9_force_0 : decode cX9_force 0 = .ok (.aload_n 0, 1) := by decide +kernel
theorem dX9_force_1 : decode cX9_force 1 = .ok (.iconst 0, 1) := by decide +kernel
theorem dX9_force_2 : decode cX9_force 2 = .ok (.putfield 22, 3) := by decide +kernel
theorem dX9_force_5 : decode cX9_force 5 = .ok (.iload_n 1, 1) := by decide +kernel
theorem dX9_force_6 : decode cX9_force 6 = .ok (.iconst 0, 1) := by decide +kernel
theorem dX9_force_7 : decode cX9_force 7 = .ok (.iconst 3, 1) := by decide +kernel
theorem dX9_force_8 : decode cX9_force 8 = .ok (.invokestatic 30, 3) := by decide +kernel
theorem dX9_force_11 : decode cX9_force 11 = .ok (.ifCond .ne 9, 3) := by decide +kernel
theorem dX9_force_14 : decode cX9_force 14 = .ok (.aload_n 0, 1) := by decide +kernel
theorem dX9_force_15 : decode cX9_force 15 = .ok (.iconst 1, 1) := by decide +kernel
theorem dX9_force_16 : decode cX9_force 16 = .ok (.invokevirtual 80, 3) := by decide +kernel
theorem dX9_force_19 : decode cX9_force 19 = .ok (.ireturn, 1) := by decide +kernel
theorem dX9_force_20 : decode cX9_force 20 = .ok (.aload_n 0, 1) := by decide +kernel
theorem dX9_force_21 : decode cX9_force 21 = .ok (.invokevirtual 83, 3) := by decide +kernel
theorem dX9_force_24 : decode cX9_force 24 = .ok (.aload_n 0, 1) := by decide +kernel
theorem dX9_force_25 : decode cX9_force 25 = .ok (.getfield 7, 3) := by decide +kernel
theorem dX9_force_28 : decode cX9_force 28 = .ok (.iconst 1, 1) := by decide +kernel
theorem dX9_force_29 : decode cX9_force 29 = .ok (.iaload, 1) := by decide +kernel
theorem dX9_force_30 : decode cX9_force 30 = .ok (.iload_n 1, 1) := by decide +kernel
theorem dX9_force_31 : decode cX9_force 31 = .ok (.ishr, 1) := by decide +kernel
theorem dX9_force_32 : decode cX9_force 32 = .ok (.iconst 1, 1) := by decide +kernel
theorem dX9_force_33 : decode cX9_force 33 = .ok (.iand, 1) := by decide +kernel
theorem dX9_force_34 : decode cX9_force 34 = .ok (.istore_n 3, 1) := by decide +kernel
theorem dX9_force_35 : decode cX9_force 35 = .ok (.aload_n 0, 1) := by decide +kernel
theorem dX9_force_36 : decode cX9_force 36 = .ok (.getfield 7, 3) := by decide +kernel
theorem dX9_force_39 : decode cX9_force 39 = .ok (.iconst 1, 1) := by decide +kernel
theorem dX9_force_40 : decode cX9_force 40 = .ok (.aload_n 0, 1) := by decide +kernel
theorem dX9_force_41 : decode cX9_force 41 = .ok (.getfield 7, 3) := by decide +kernel
theorem dX9_force_44 : decode cX9_force 44 = .ok (.iconst 1, 1) := by decide +kernel
theorem dX9_force_45 : decode cX9_force 45 = .ok (.iaload, 1) := by decide +kernel
theorem dX9_force_46 : decode cX9_force 46 = .ok (.iconst 1, 1) := by decide +kernel
theorem dX9_force_47 : decode cX9_force 47 = .ok (.iload_n 1, 1) := by decide +kernel
theorem dX9_force_48 : decode cX9_force 48 = .ok (.ishl, 1) := by decide +kernel
theorem dX9_force_49 : decode cX9_force 49 = .ok (.iconst (-1), 1) := by decide +kernel
theorem dX9_force_50 : decode cX9_force 50 = .ok (.ixor, 1) := by decide +kernel
theorem dX9_force_51 : decode cX9_force 51 = .ok (.iand, 1) := by decide +kernel
theorem dX9_force_52 : decode cX9_force 52 = .ok (.iload_n 2, 1) := by decide +kernel
theorem dX9_force_53 : decode cX9_force 53 = .ok (.ifCond .eq 9, 3) := by decide +kernel
theorem dX9_force_56 : decode cX9_force 56 = .ok (.iconst 1, 1) := by decide +kernel
theorem dX9_force_57 : decode cX9_force 57 = .ok (.iload_n 1, 1) := by decide +kernel
theorem dX9_force_58 : decode cX9_force 58 = .ok (.ishl, 1) := by decide +kernel
theorem dX9_force_59 : decode cX9_force 59 = .ok (.goto 4, 3) := by decide +kernel
theorem dX9_force_62 : decode cX9_force 62 = .ok (.iconst 0, 1) := by decide +kernel
theorem dX9_force_63 : decode cX9_force 63 = .ok (.ior, 1) := by decide +kernel
theorem dX9_force_64 : decode cX9_force 64 = .ok (.iastore, 1) := by decide +kernel
theorem dX9_force_65 : decode cX9_force 65 = .ok (.iload_n 3, 1) := by decide +kernel
theorem dX9_force_66 : decode cX9_force 66 = .ok (.ireturn, 1) := by decide +kernel
set_option maxRecDepth 20000 in
theorem ggX9_set_X9_in : GoodIn wsX9_set wsX9_in := goodIn_r _ [6] (by decide +kernel) (by decide +kernel)
set_option maxRecDepth 20000 in
theorem gX9_set_X9_in : GoodIn wsX9_set (va_wsS RX9 30 yX9_in wsX9_in) := goodIn_app (goodIn_of _ (by decide +kernel)) ggX9_set_X9_in
set_option maxRecDepth 20000 in
theorem ggX9_set_X9_fails : GoodIn wsX9_set wsX9_fails := goodIn_r _ [10, 1, 17, 18, 19, 20, 21, 22, 23, 24, 25, 26, 27] (by decide +kernel) (by decide +kernel)
set_option maxRecDepth 20000 in
theorem gX9_set_X9_fails : GoodIn wsX9_set (wsV RX9 80 RX9 yX9_fails wsX9_fails) := goodIn_app (goodIn_of _ (by decide +kernel)) ggX9_set_X9_fails
set_option maxRecDepth 20000 in
theorem ggX9_set_X9_saves : GoodIn wsX9_set wsX9_saves := goodIn_r _ [14, 15, 16, 2, 17, 18, 19, 20, 21, 22, 23, 24, 25, 26, 27] (by decide +kernel) (by decide +kernel)
set_option maxRecDepth 20000 in
theorem gX9_set_X9_saves : GoodIn wsX9_set (wsV RX9 83 RX9 yX9_saves wsX9_saves) := goodIn_app (goodIn_of _ (by decide +kernel)) ggX9_set_X9_saves
theorem dX9_set_0 : decode cX9_set 0 = .ok (.aload_n 0, 1) := by decide +kernel
theorem dX9_set_1 : decode cX9_set 1 = .ok (.iconst 0, 1) := by decide +kernel
theorem dX9_set_2 : decode cX9_set 2 = .ok (.putfield 22, 3) := by decide +kernel
theorem dX9_set_5 : decode cX9_set 5 = .ok (.iload_n 1, 1) := by decide +kernel
theorem dX9_set_6 : decode cX9_set 6 = .ok (.iconst 0, 1) := by decide +kernel
theorem dX9_set_7 : decode cX9_set 7 = .ok (.iconst 2, 1) := by decide +kernel
theorem dX9_set_8 : decode cX9_set 8 = .ok (.invokestatic 30, 3) := by decide +kernel
theorem dX9_set_11 : decode cX9_set 11 = .ok (.ifCond .ne 9, 3) := by decide +kernel
theorem dX9_set_14 : decode cX9_set 14 = .ok (.aload_n 0, 1) := by decide +kernel
theorem dX9_set_15 : decode cX9_set 15 = .ok (.iconst 1, 1) := by decide +kernel
theorem dX9_set_16 : decode cX9_set 16 = .ok (.invokevirtual 80, 3) := by decide +kernel
theorem dX9_set_19 : decode cX9_set 19 = .ok (.ireturn, 1) := by decide +kernel
theorem dX9_set_20 : decode cX9_set 20 = .ok (.iload_n 1, 1) := by decide +kernel
theorem dX9_set_21 : decode cX9_set 21 = .ok (.iconst 2, 1) := by decide +kernel
theorem dX9_set_22 : decode cX9_set 22 = .ok (.if_icmp .ge 13, 3) := by decide +kernel
theorem dX9_set_25 : decode cX9_set 25 = .ok (.iload_n 2, 1) := by decide +kernel
theorem dX9_set_26 : decode cX9_set 26 = .ok (.iconst 1, 1) := by decide +kernel
theorem dX9_set_27 : decode cX9_set 27 = .ok (.bipush 9, 2) := by decide +kernel
theorem dX9_set_29 : decode cX9_set 29 = .ok (.invokestatic 30, 3) := by decide +kernel
theorem dX9_set_32 : decode cX9_set 32 = .ok (.ifCond .eq 17, 3) := by decide +kernel
theorem dX9_set_35 : decode cX9_set 35 = .ok (.iload_n 1, 1) := by decide +kernel
theorem dX9_set_36 : decode cX9_set 36 = .ok (.iconst 2, 1) := by decide +kernel
theorem dX9_set_37 : decode cX9_set 37 = .ok (.if_icmp .ne 18, 3) := by decide +kernel
theorem dX9_set_40 : decode cX9_set 40 = .ok (.iload_n 2, 1) := by decide +kernel
theorem dX9_set_41 : decode cX9_set 41 = .ok (.iconst 0, 1) := by decide +kernel
theorem dX9_set_42 : decode cX9_set 42 = .ok (.iconst 1, 1) := by decide +kernel
theorem dX9_set_43 : decode cX9_set 43 = .ok (.invokestatic 30, 3) := by decide +kernel
theorem dX9_set_46 : decode cX9_set 46 = .ok (.ifCond .ne 9, 3) := by decide +kernel
theorem dX9_set_49 : decode cX9_set 49 = .ok (.aload_n 0, 1) := by decide +kernel
theorem dX9_set_50 : decode cX9_set 50 = .ok (.iconst 2, 1) := by decide +kernel
theorem dX9_set_51 : decode cX9_set 51 = .ok (.invokevirtual 80, 3) := by decide +kernel
theorem dX9_set_54 : decode cX9_set 54 = .ok (.ireturn, 1) := by decide +kernel
theorem dX9_set_55 : decode cX9_set 55 = .ok (.aload_n 0, 1) := by decide +kernel
theorem dX9_set_56 : decode cX9_set 56 = .ok (.invokevirtual 83, 3) := by decide +kernel
theorem dX9_set_59 : decode cX9_set 59 = .ok (.aload_n 0, 1) := by decide +kernel
theorem dX9_set_60 : decode cX9_set 60 = .ok (.getfield 7, 3) := by decide +kernel
theorem dX9_set_63 : decode cX9_set 63 = .ok (.iconst 2, 1) := by decide +kernel
theorem dX9_set_64 : decode cX9_set 64 = .ok (.iload_n 1, 1) := by decide +kernel
theorem dX9_set_65 : decode cX9_set 65 = .ok (.iadd, 1) := by decide +kernel
theorem dX9_set_66 : decode cX9_set 66 = .ok (.iaload, 1) := by decide +kernel
theorem dX9_set_67 : decode cX9_set 67 = .ok (.istore_n 3, 1) := by decide +kernel
theorem dX9_set_68 : decode cX9_set 68 = .ok (.aload_n 0, 1) := by decide +kernel
theorem dX9_set_69 : decode cX9_set 69 = .ok (.getfield 7, 3) := by decide +kernel
theorem dX9_set_72 : decode cX9_set 72 = .ok (.iconst 2, 1) := by decide +kernel
theorem dX9_set_73 : decode cX9_set 73 = .ok (.iload_n 1, 1) := by decide +kernel
theorem dX9_set_74 : decode cX9_set 74 = .ok (.iadd, 1) := by decide +kernel
theorem dX9_set_75 : decode cX9_set 75 = .ok (.iload_n 2, 1) := by decide +kernel
theorem dX9_set_76 : decode cX9_set 76 = .ok (.iastore, 1) := by decide +kernel
theorem dX9_set_77 : decode cX9_set 77 = .ok (.iload_n 3, 1) := by decide +kernel
theorem dX9_set_78 : decode cX9_set 78 = .ok (.ireturn, 1) := by decide +kernel
set_option maxRecDepth 20000 in
theorem ggX9_refuses_X9_isPerson : GoodIn wsX9_refuses wsX9_isPerson := goodIn_r _ [4, 5, 6, 3, 7] (by decide +kernel) (by decide +kernel)
set_option maxRecDepth 20000 in
theorem gX9_refuses_X9_isPerson : GoodIn wsX9_refuses (va_wsS RX9 77 yX9_isPerson wsX9_isPerson) := goodIn_app (goodIn_of _ (by decide +kernel)) ggX9_refuses_X9_isPerson
set_option maxRecDepth 20000 in
theorem ggX9_refuses_X9_in : GoodIn wsX9_refuses wsX9_in := goodIn_r _ [7] (by decide +kernel) (by decide +kernel)
set_option maxRecDepth 20000 in
theorem gX9_refuses_X9_in : GoodIn wsX9_refuses (va_wsS RX9 30 yX9_in wsX9_in) := goodIn_app (goodIn_of _ (by decide +kernel)) ggX9_refuses_X9_in
theorem dX9_refuses_0 : decode cX9_refuses 0 = .ok (.iload_n 1, 1) := by decide +kernel
theorem dX9_refuses_1 : decode cX9_refuses 1 = .ok (.invokestatic 77, 3) := by decide +kernel
theorem dX9_refuses_4 : decode cX9_refuses 4 = .ok (.ifCond .eq 12, 3) := by decide +kernel
theorem dX9_refuses_7 : decode cX9_refuses 7 = .ok (.iload_n 2, 1) := by decide +kernel
theorem dX9_refuses_8 : decode cX9_refuses 8 = .ok (.iconst (-1), 1) := by decide +kernel
theorem dX9_refuses_9 : decode cX9_refuses 9 = .ok (.iconst 3, 1) := by decide +kernel
theorem dX9_refuses_10 : decode cX9_refuses 10 = .ok (.invokestatic 30, 3) := by decide +kernel
theorem dX9_refuses_13 : decode cX9_refuses 13 = .ok (.ifCond .ne 5, 3) := by decide +kernel
theorem dX9_refuses_16 : decode cX9_refuses 16 = .ok (.iconst 1, 1) := by decide +kernel
theorem dX9_refuses_17 : decode cX9_refuses 17 = .ok (.ireturn, 1) := by decide +kernel
theorem dX9_refuses_18 : decode cX9_refuses 18 = .ok (.iload_n 3, 1) := by decide +kernel
theorem dX9_refuses_19 : decode cX9_refuses 19 = .ok (.iconst 0, 1) := by decide +kernel
theorem dX9_refuses_20 : decode cX9_refuses 20 = .ok (.bipush 99, 2) := by decide +kernel
theorem dX9_refuses_22 : decode cX9_refuses 22 = .ok (.invokestatic 30, 3) := by decide +kernel
theorem dX9_refuses_25 : decode cX9_refuses 25 = .ok (.ifCond .eq 18, 3) := by decide +kernel
theorem dX9_refuses_28 : decode cX9_refuses 28 = .ok (.iload 4, 2) := by decide +kernel
theorem dX9_refuses_30 : decode cX9_refuses 30 = .ok (.iload_n 3, 1) := by decide +kernel
theorem dX9_refuses_31 : decode cX9_refuses 31 = .ok (.bipush 99, 2) := by decide +kernel
theorem dX9_refuses_33 : decode cX9_refuses 33 = .ok (.invokestatic 30, 3) := by decide +kernel
theorem dX9_refuses_36 : decode cX9_refuses 36 = .ok (.ifCond .eq 7, 3) := by decide +kernel
theorem dX9_refuses_39 : decode cX9_refuses 39 = .ok (.iconst 0, 1) := by decide +kernel
theorem dX9_refuses_40 : decode cX9_refuses 40 = .ok (.goto 4, 3) := by decide +kernel
theorem dX9_refuses_43 : decode cX9_refuses 43 = .ok (.iconst 2, 1) := by decide +kernel
theorem dX9_refuses_44 : decode cX9_refuses 44 = .ok (.ireturn, 1) := by decide +kernel
set_option maxRecDepth 20000 in
theorem ggX9_counts_X9_ofPerson : GoodIn wsX9_counts wsX9_ofPerson := goodIn_r _ [5, 6, 11, 12, 13, 14, 15, 16, 17, 18, 19, 20, 21] (by decide +kernel) (by decide +kernel)
set_option maxRecDepth 20000 in
theorem gX9_counts_X9_ofPerson : GoodIn wsX9_counts (wsV RX9 26 RX9 yX9_ofPerson wsX9_ofPerson) := goodIn_app (goodIn_of _ (by decide +kernel)) ggX9_counts_X9_ofPerson
set_option maxRecDepth 20000 in
theorem ggX9_counts_X9_layPerson : GoodIn wsX9_counts wsX9_layPerson := goodIn_r _ [10, 6, 11, 12, 13, 14, 15, 16, 17, 18, 19, 20, 21] (by decide +kernel) (by decide +kernel)
set_option maxRecDepth 20000 in
theorem gX9_counts_X9_layPerson : GoodIn wsX9_counts (wsV RX9 93 RX9 yX9_layPerson wsX9_layPerson) := goodIn_app (goodIn_of _ (by decide +kernel)) ggX9_counts_X9_layPerson
theorem dX9_counts_0 : decode cX9_counts 0 = .ok (.aload_n 0, 1) := by decide +kernel
theorem dX9_counts_1 : decode cX9_counts 1 = .ok (.iload_n 1, 1) := by decide +kernel
theorem dX9_counts_2 : decode cX9_counts 2 = .ok (.iconst 3, 1) := by decide +kernel
theorem dX9_counts_3 : decode cX9_counts 3 = .ok (.aload_n 0, 1) := by decide +kernel
theorem dX9_counts_4 : decode cX9_counts 4 = .ok (.iload_n 1, 1) := by decide +kernel
theorem dX9_counts_5 : decode cX9_counts 5 = .ok (.iconst 3, 1) := by decide +kernel
theorem dX9_counts_6 : decode cX9_counts 6 = .ok (.invokevirtual 26, 3) := by decide +kernel
theorem dX9_counts_9 : decode cX9_counts 9 = .ok (.iconst 1, 1) := by decide +kernel
theorem dX9_counts_10 : decode cX9_counts 10 = .ok (.iadd, 1) := by decide +kernel
theorem dX9_counts_11 : decode cX9_counts 11 = .ok (.invokevirtual 93, 3) := by decide +kernel
theorem dX9_counts_14 : decode cX9_counts 14 = .ok (.aload_n 0, 1) := by decide +kernel
theorem dX9_counts_15 : decode cX9_counts 15 = .ok (.iload_n 1, 1) := by decide +kernel
theorem dX9_counts_16 : decode cX9_counts 16 = .ok (.iconst 4, 1) := by decide +kernel
theorem dX9_counts_17 : decode cX9_counts 17 = .ok (.aload_n 0, 1) := by decide +kernel
theorem dX9_counts_18 : decode cX9_counts 18 = .ok (.iload_n 1, 1) := by decide +kernel
theorem dX9_counts_19 : decode cX9_counts 19 = .ok (.iconst 4, 1) := by decide +kernel
theorem dX9_counts_20 : decode cX9_counts 20 = .ok (.invokevirtual 26, 3) := by decide +kernel
theorem dX9_counts_23 : decode cX9_counts 23 = .ok (.iload_n 2, 1) := by decide +kernel
theorem dX9_counts_24 : decode cX9_counts 24 = .ok (.iconst (-1), 1) := by decide +kernel
theorem dX9_counts_25 : decode cX9_counts 25 = .ok (.if_icmp .ne 7, 3) := by decide +kernel
theorem dX9_counts_28 : decode cX9_counts 28 = .ok (.iconst 1, 1) := by decide +kernel
theorem dX9_counts_29 : decode cX9_counts 29 = .ok (.goto 4, 3) := by decide +kernel
theorem dX9_counts_32 : decode cX9_counts 32 = .ok (.iconst 0, 1) := by decide +kernel
theorem dX9_counts_33 : decode cX9_counts 33 = .ok (.iadd, 1) := by decide +kernel
theorem dX9_counts_34 : decode cX9_counts 34 = .ok (.invokevirtual 93, 3) := by decide +kernel
theorem dX9_counts_37 : decode cX9_counts 37 = .ok (.return_, 1) := by decide +kernel
set_option maxRecDepth 20000 in
theorem ggX9_ask_X9_refuses : GoodIn wsX9_ask wsX9_refuses := goodIn_r _ [7, 8, 9, 6, 10, 11, 12, 13] (by decide +kernel) (by decide +kernel)
set_option maxRecDepth 20000 in
theorem gX9_ask_X9_refuses : GoodIn wsX9_ask (wsV RX9 97 RX9 yX9_refuses wsX9_refuses) := goodIn_app (goodIn_of _ (by decide +kernel)) ggX9_ask_X9_refuses
set_option maxRecDepth 20000 in
theorem ggX9_ask_X9_saves : GoodIn wsX9_ask wsX9_saves := goodIn_r _ [17, 18, 19, 2, 91, 92, 93, 94, 95, 96, 97, 98, 99, 100, 101] (by decide +kernel) (by decide +kernel)
set_option maxRecDepth 20000 in
theorem gX9_ask_X9_saves : GoodIn wsX9_ask (wsV RX9 83 RX9 yX9_saves wsX9_saves) := goodIn_app (goodIn_of _ (by decide +kernel)) ggX9_ask_X9_saves
set_option maxRecDepth 20000 in
theorem ggX9_ask_X9_asked : GoodIn wsX9_ask wsX9_asked := goodIn_r _ [23, 24, 25, 26, 6, 27, 2, 28, 29, 30, 31, 11, 12, 13, 32, 33, 34, 35, 36, 37, 38, 39, 40, 41, 42, 43, 44, 45, 46, 47, 48, 49, 50, 51, 52, 53, 54, 55, 91, 92, 93, 94, 95, 96, 97, 98, 99, 100, 101] (by decide +kernel) (by decide +kernel)
set_option maxRecDepth 20000 in
theorem gX9_ask_X9_asked : GoodIn wsX9_ask (wsV RX9 101 RX9 yX9_asked wsX9_asked) := goodIn_app (goodIn_of _ (by decide +kernel)) ggX9_ask_X9_asked
set_option maxRecDepth 20000 in
theorem ggX9_ask_X9_countTold : GoodIn wsX9_ask wsX9_countTold := goodIn_r _ [59, 2, 60, 61, 62, 6, 63, 64, 65, 66, 67, 68, 69, 70, 71, 72, 73, 74, 75, 76, 77, 78, 91, 92, 93, 94, 95, 96, 97, 98, 99, 100, 101] (by decide +kernel) (by decide +kernel)
set_option maxRecDepth 20000 in
theorem gX9_ask_X9_countTold : GoodIn wsX9_ask (wsV RX9 104 RX9 yX9_countTold wsX9_countTold) := goodIn_app (goodIn_of _ (by decide +kernel)) ggX9_ask_X9_countTold
set_option maxRecDepth 20000 in
theorem ggX9_ask_X9_counts : GoodIn wsX9_ask wsX9_counts := goodIn_r _ [82, 44, 45, 46, 6, 47, 2, 83, 84, 85, 86, 91, 92, 93, 94, 95, 96, 97, 98, 99, 100, 101] (by decide +kernel) (by decide +kernel)
set_option maxRecDepth 20000 in
theorem gX9_ask_X9_counts : GoodIn wsX9_ask (wsV RX9 107 RX9 yX9_counts wsX9_counts) := goodIn_app (goodIn_of _ (by decide +kernel)) ggX9_ask_X9_counts
set_option maxRecDepth 20000 in
theorem ggX9_ask_X9_givesAway : GoodIn wsX9_ask wsX9_givesAway := goodIn_r _ [70, 71, 72, 73, 6, 74, 2, 75, 76, 77, 78, 64, 65, 66, 91, 92, 93, 94, 95, 96, 97, 98, 99, 100, 101] (by decide +kernel) (by decide +kernel)
set_option maxRecDepth 20000 in
theorem gX9_ask_X9_givesAway : GoodIn wsX9_ask (wsV RX9 74 RX9 yX9_givesAway wsX9_givesAway) := goodIn_app (goodIn_of _ (by decide +kernel)) ggX9_ask_X9_givesAway
set_option maxRecDepth 20000 in
theorem ggX9_ask_X9_remembers : GoodIn wsX9_ask wsX9_remembers := goodIn_r _ [90, 2, 71, 72, 73, 6, 74, 91, 92, 93, 94, 95, 96, 97, 98, 99, 100, 101] (by decide +kernel) (by decide +kernel)
set_option maxRecDepth 20000 in
theorem gX9_ask_X9_remembers : GoodIn wsX9_ask (wsV RX9 111 RX9 yX9_remembers wsX9_remembers) := goodIn_app (goodIn_of _ (by decide +kernel)) ggX9_ask_X9_remembers
theorem dX9_ask_0 : decode cX9_ask 0 = .ok (.aload_n 0, 1) := by decide +kernel
theorem dX9_ask_1 : decode cX9_ask 1 = .ok (.aload_n 0, 1) := by decide +kernel
theorem dX9_ask_2 : decode cX9_ask 2 = .ok (.iload_n 1, 1) := by decide +kernel
theorem dX9_ask_3 : decode cX9_ask 3 = .ok (.iload_n 2, 1) := by decide +kernel
theorem dX9_ask_4 : decode cX9_ask 4 = .ok (.iload_n 3, 1) := by decide +kernel
theorem dX9_ask_5 : decode cX9_ask 5 = .ok (.iload 4, 2) := by decide +kernel
theorem dX9_ask_7 : decode cX9_ask 7 = .ok (.invokevirtual 97, 3) := by decide +kernel
theorem dX9_ask_10 : decode cX9_ask 10 = .ok (.putfield 22, 3) := by decide +kernel
theorem dX9_ask_13 : decode cX9_ask 13 = .ok (.aload_n 0, 1) := by decide +kernel
theorem dX9_ask_14 : decode cX9_ask 14 = .ok (.getfield 22, 3) := by decide +kernel
theorem dX9_ask_17 : decode cX9_ask 17 = .ok (.ifCond .eq 5, 3) := by decide +kernel
theorem dX9_ask_20 : decode cX9_ask 20 = .ok (.iconst 0, 1) := by decide +kernel
theorem dX9_ask_21 : decode cX9_ask 21 = .ok (.ireturn, 1) := by decide +kernel
theorem dX9_ask_22 : decode cX9_ask 22 = .ok (.aload_n 0, 1) := by decide +kernel
theorem dX9_ask_23 : decode cX9_ask 23 = .ok (.invokevirtual 83, 3) := by decide +kernel
theorem dX9_ask_26 : decode cX9_ask 26 = .ok (.aload_n 0, 1) := by decide +kernel
theorem dX9_ask_27 : decode cX9_ask 27 = .ok (.iload_n 1, 1) := by decide +kernel
theorem dX9_ask_28 : decode cX9_ask 28 = .ok (.iload_n 2, 1) := by decide +kernel
theorem dX9_ask_29 : decode cX9_ask 29 = .ok (.iload_n 3, 1) := by decide +kernel
theorem dX9_ask_30 : decode cX9_ask 30 = .ok (.iload 4, 2) := by decide +kernel
theorem dX9_ask_32 : decode cX9_ask 32 = .ok (.invokevirtual 101, 3) := by decide +kernel
theorem dX9_ask_35 : decode cX9_ask 35 = .ok (.istore 5, 2) := by decide +kernel
theorem dX9_ask_37 : decode cX9_ask 37 = .ok (.aload_n 0, 1) := by decide +kernel
theorem dX9_ask_38 : decode cX9_ask 38 = .ok (.iload_n 1, 1) := by decide +kernel
theorem dX9_ask_39 : decode cX9_ask 39 = .ok (.iload 5, 2) := by decide +kernel
theorem dX9_ask_41 : decode cX9_ask 41 = .ok (.invokevirtual 104, 3) := by decide +kernel
theorem dX9_ask_44 : decode cX9_ask 44 = .ok (.istore 6, 2) := by decide +kernel
theorem dX9_ask_46 : decode cX9_ask 46 = .ok (.aload_n 0, 1) := by decide +kernel
theorem dX9_ask_47 : decode cX9_ask 47 = .ok (.iload_n 1, 1) := by decide +kernel
theorem dX9_ask_48 : decode cX9_ask 48 = .ok (.iload 6, 2) := by decide +kernel
theorem dX9_ask_50 : decode cX9_ask 50 = .ok (.invokevirtual 107, 3) := by decide +kernel
theorem dX9_ask_53 : decode cX9_ask 53 = .ok (.iload 6, 2) := by decide +kernel
theorem dX9_ask_55 : decode cX9_ask 55 = .ok (.iconst (-1), 1) := by decide +kernel
theorem dX9_ask_56 : decode cX9_ask 56 = .ok (.if_icmp .eq 34, 3) := by decide +kernel
theorem dX9_ask_59 : decode cX9_ask 59 = .ok (.aload_n 0, 1) := by decide +kernel
theorem dX9_ask_60 : decode cX9_ask 60 = .ok (.getfield 7, 3) := by decide +kernel
theorem dX9_ask_63 : decode cX9_ask 63 = .ok (.iconst 5, 1) := by decide +kernel
theorem dX9_ask_64 : decode cX9_ask 64 = .ok (.dup2, 1) := by decide +kernel
theorem dX9_ask_65 : decode cX9_ask 65 = .ok (.iaload, 1) := by decide +kernel
theorem dX9_ask_66 : decode cX9_ask 66 = .ok (.aload_n 0, 1) := by decide +kernel
theorem dX9_ask_67 : decode cX9_ask 67 = .ok (.iload_n 1, 1) := by decide +kernel
theorem dX9_ask_68 : decode cX9_ask 68 = .ok (.iload 5, 2) := by decide +kernel
theorem dX9_ask_70 : decode cX9_ask 70 = .ok (.invokevirtual 74, 3) := by decide +kernel
theorem dX9_ask_73 : decode cX9_ask 73 = .ok (.ifCond .eq 7, 3) := by decide +kernel
theorem dX9_ask_76 : decode cX9_ask 76 = .ok (.iconst 1, 1) := by decide +kernel
theorem dX9_ask_77 : decode cX9_ask 77 = .ok (.goto 4, 3) := by decide +kernel
theorem dX9_ask_80 : decode cX9_ask 80 = .ok (.iconst 0, 1) := by decide +kernel
theorem dX9_ask_81 : decode cX9_ask 81 = .ok (.iadd, 1) := by decide +kernel
theorem dX9_ask_82 : decode cX9_ask 82 = .ok (.iastore, 1) := by decide +kernel
theorem dX9_ask_83 : decode cX9_ask 83 = .ok (.aload_n 0, 1) := by decide +kernel
theorem dX9_ask_84 : decode cX9_ask 84 = .ok (.iload_n 1, 1) := by decide +kernel
theorem dX9_ask_85 : decode cX9_ask 85 = .ok (.iload 5, 2) := by decide +kernel
theorem dX9_ask_87 : decode cX9_ask 87 = .ok (.invokevirtual 111, 3) := by decide +kernel
theorem dX9_ask_90 : decode cX9_ask 90 = .ok (.iload 6, 2) := by decide +kernel
theorem dX9_ask_92 : decode cX9_ask 92 = .ok (.ireturn, 1) := by decide +kernel
set_option maxRecDepth 20000 in
theorem ggX9_askSum_X9_refuses : GoodIn wsX9_askSum wsX9_refuses := goodIn_r _ [6, 7, 8, 5, 9, 10, 11, 12] (by decide +kernel) (by decide +kernel)
set_option maxRecDepth 20000 in
theorem gX9_askSum_X9_refuses : GoodIn wsX9_askSum (wsV RX9 97 RX9 yX9_refuses wsX9_refuses) := goodIn_app (goodIn_of _ (by decide +kernel)) ggX9_askSum_X9_refuses
set_option maxRecDepth 20000 in
theorem ggX9_askSum_X9_saves : GoodIn wsX9_askSum wsX9_saves := goodIn_r _ [16, 17, 18, 19, 75, 76, 77, 78, 79, 80, 81, 82, 83, 84, 85] (by decide +kernel) (by decide +kernel)
set_option maxRecDepth 20000 in
theorem gX9_askSum_X9_saves : GoodIn wsX9_askSum (wsV RX9 83 RX9 yX9_saves wsX9_saves) := goodIn_app (goodIn_of _ (by decide +kernel)) ggX9_askSum_X9_saves
set_option maxRecDepth 20000 in
theorem ggX9_askSum_X9_asked : GoodIn wsX9_askSum wsX9_asked := goodIn_r _ [23, 24, 25, 26, 5, 27, 19, 28, 29, 30, 31, 10, 11, 12, 32, 33, 34, 35, 36, 37, 38, 39, 40, 41, 42, 43, 44, 45, 46, 47, 48, 49, 50, 51, 52, 53, 54, 55, 75, 76, 77, 78, 79, 80, 81, 82, 83, 84, 85] (by decide +kernel) (by decide +kernel)
set_option maxRecDepth 20000 in
theorem gX9_askSum_X9_asked : GoodIn wsX9_askSum (wsV RX9 101 RX9 yX9_asked wsX9_asked) := goodIn_app (goodIn_of _ (by decide +kernel)) ggX9_askSum_X9_asked
set_option maxRecDepth 20000 in
theorem ggX9_askSum_X9_sumTold : GoodIn wsX9_askSum wsX9_sumTold := goodIn_r _ [59, 19, 28, 29, 30, 5, 31, 60, 61, 62, 63, 64, 65, 66, 75, 76, 77, 78, 79, 80, 81, 82, 83, 84, 85] (by decide +kernel) (by decide +kernel)
set_option maxRecDepth 20000 in
theorem gX9_askSum_X9_sumTold : GoodIn wsX9_askSum (wsV RX9 114 RX9 yX9_sumTold wsX9_sumTold) := goodIn_app (goodIn_of _ (by decide +kernel)) ggX9_askSum_X9_sumTold
set_option maxRecDepth 20000 in
theorem ggX9_askSum_X9_counts : GoodIn wsX9_askSum wsX9_counts := goodIn_r _ [70, 44, 45, 46, 5, 47, 19, 71, 72, 73, 74, 75, 76, 77, 78, 79, 80, 81, 82, 83, 84, 85] (by decide +kernel) (by decide +kernel)
set_option maxRecDepth 20000 in
theorem gX9_askSum_X9_counts : GoodIn wsX9_askSum (wsV RX9 107 RX9 yX9_counts wsX9_counts) := goodIn_app (goodIn_of _ (by decide +kernel)) ggX9_askSum_X9_counts
theorem dX9_askSum_0 : decode cX9_askSum 0 = .ok (.aload_n 0, 1) := by decide +kernel
theorem dX9_askSum_1 : decode cX9_askSum 1 = .ok (.aload_n 0, 1) := by decide +kernel
theorem dX9_askSum_2 : decode cX9_askSum 2 = .ok (.iload_n 1, 1) := by decide +kernel
theorem dX9_askSum_3 : decode cX9_askSum 3 = .ok (.iload_n 2, 1) := by decide +kernel
theorem dX9_askSum_4 : decode cX9_askSum 4 = .ok (.iload_n 3, 1) := by decide +kernel
theorem dX9_askSum_5 : decode cX9_askSum 5 = .ok (.iload 4, 2) := by decide +kernel
theorem dX9_askSum_7 : decode cX9_askSum 7 = .ok (.invokevirtual 97, 3) := by decide +kernel
theorem dX9_askSum_10 : decode cX9_askSum 10 = .ok (.putfield 22, 3) := by decide +kernel
theorem dX9_askSum_13 : decode cX9_askSum 13 = .ok (.aload_n 0, 1) := by decide +kernel
theorem dX9_askSum_14 : decode cX9_askSum 14 = .ok (.getfield 22, 3) := by decide +kernel
theorem dX9_askSum_17 : decode cX9_askSum 17 = .ok (.ifCond .eq 5, 3) := by decide +kernel
theorem dX9_askSum_20 : decode cX9_askSum 20 = .ok (.iconst 0, 1) := by decide +kernel
theorem dX9_askSum_21 : decode cX9_askSum 21 = .ok (.ireturn, 1) := by decide +kernel
theorem dX9_askSum_22 : decode cX9_askSum 22 = .ok (.aload_n 0, 1) := by decide +kernel
theorem dX9_askSum_23 : decode cX9_askSum 23 = .ok (.invokevirtual 83, 3) := by decide +kernel
theorem dX9_askSum_26 : decode cX9_askSum 26 = .ok (.aload_n 0, 1) := by decide +kernel
theorem dX9_askSum_27 : decode cX9_askSum 27 = .ok (.aload_n 0, 1) := by decide +kernel
theorem dX9_askSum_28 : decode cX9_askSum 28 = .ok (.iload_n 1, 1) := by decide +kernel
theorem dX9_askSum_29 : decode cX9_askSum 29 = .ok (.iload_n 2, 1) := by decide +kernel
theorem dX9_askSum_30 : decode cX9_askSum 30 = .ok (.iload_n 3, 1) := by decide +kernel
theorem dX9_askSum_31 : decode cX9_askSum 31 = .ok (.iload 4, 2) := by decide +kernel
theorem dX9_askSum_33 : decode cX9_askSum 33 = .ok (.invokevirtual 101, 3) := by decide +kernel
theorem dX9_askSum_36 : decode cX9_askSum 36 = .ok (.invokevirtual 114, 3) := by decide +kernel
theorem dX9_askSum_39 : decode cX9_askSum 39 = .ok (.istore 5, 2) := by decide +kernel
theorem dX9_askSum_41 : decode cX9_askSum 41 = .ok (.aload_n 0, 1) := by decide +kernel
theorem dX9_askSum_42 : decode cX9_askSum 42 = .ok (.iload_n 1, 1) := by decide +kernel
theorem dX9_askSum_43 : decode cX9_askSum 43 = .ok (.iload 5, 2) := by decide +kernel
theorem dX9_askSum_45 : decode cX9_askSum 45 = .ok (.invokevirtual 107, 3) := by decide +kernel
theorem dX9_askSum_48 : decode cX9_askSum 48 = .ok (.iload 5, 2) := by decide +kernel
theorem dX9_askSum_50 : decode cX9_askSum 50 = .ok (.ireturn, 1) := by decide +kernel
set_option maxRecDepth 20000 in
theorem ggX9_forget_X9_isPerson : GoodIn wsX9_forget wsX9_isPerson := goodIn_r _ [6, 7, 8, 5, 9] (by decide +kernel) (by decide +kernel)
set_option maxRecDepth 20000 in
theorem gX9_forget_X9_isPerson : GoodIn wsX9_forget (va_wsS RX9 77 yX9_isPerson wsX9_isPerson) := goodIn_app (goodIn_of _ (by decide +kernel)) ggX9_forget_X9_isPerson
set_option maxRecDepth 20000 in
theorem ggX9_forget_X9_fails : GoodIn wsX9_forget wsX9_fails := goodIn_r _ [13, 1, 24, 25, 26, 27, 28, 29, 30, 31, 32, 33, 34] (by decide +kernel) (by decide +kernel)
set_option maxRecDepth 20000 in
theorem gX9_forget_X9_fails : GoodIn wsX9_forget (wsV RX9 80 RX9 yX9_fails wsX9_fails) := goodIn_app (goodIn_of _ (by decide +kernel)) ggX9_forget_X9_fails
set_option maxRecDepth 20000 in
theorem ggX9_forget_X9_saves : GoodIn wsX9_forget wsX9_saves := goodIn_r _ [17, 18, 19, 2, 24, 25, 26, 27, 28, 29, 30, 31, 32, 33, 34] (by decide +kernel) (by decide +kernel)
set_option maxRecDepth 20000 in
theorem gX9_forget_X9_saves : GoodIn wsX9_forget (wsV RX9 83 RX9 yX9_saves wsX9_saves) := goodIn_app (goodIn_of _ (by decide +kernel)) ggX9_forget_X9_saves
set_option maxRecDepth 20000 in
theorem ggX9_forget_X9_kept : GoodIn wsX9_forget wsX9_kept := goodIn_r _ [23, 2, 24, 25, 26, 27, 28, 29, 30, 31, 32, 33, 34] (by decide +kernel) (by decide +kernel)
set_option maxRecDepth 20000 in
theorem gX9_forget_X9_kept : GoodIn wsX9_forget (wsV RX9 61 RX9 yX9_kept wsX9_kept) := goodIn_app (goodIn_of _ (by decide +kernel)) ggX9_forget_X9_kept
theorem dX9_forget_0 : decode cX9_forget 0 = .ok (.aload_n 0, 1) := by decide +kernel
theorem dX9_forget_1 : decode cX9_forget 1 = .ok (.iconst 0, 1) := by decide +kernel
theorem dX9_forget_2 : decode cX9_forget 2 = .ok (.putfield 22, 3) := by decide +kernel
theorem dX9_forget_5 : decode cX9_forget 5 = .ok (.iload_n 1, 1) := by decide +kernel
theorem dX9_forget_6 : decode cX9_forget 6 = .ok (.invokestatic 77, 3) := by decide +kernel
theorem dX9_forget_9 : decode cX9_forget 9 = .ok (.ifCond .ne 9, 3) := by decide +kernel
theorem dX9_forget_12 : decode cX9_forget 12 = .ok (.aload_n 0, 1) := by decide +kernel
theorem dX9_forget_13 : decode cX9_forget 13 = .ok (.iconst 1, 1) := by decide +kernel
theorem dX9_forget_14 : decode cX9_forget 14 = .ok (.invokevirtual 80, 3) := by decide +kernel
theorem dX9_forget_17 : decode cX9_forget 17 = .ok (.ireturn, 1) := by decide +kernel
theorem dX9_forget_18 : decode cX9_forget 18 = .ok (.aload_n 0, 1) := by decide +kernel
theorem dX9_forget_19 : decode cX9_forget 19 = .ok (.invokevirtual 83, 3) := by decide +kernel
theorem dX9_forget_22 : decode cX9_forget 22 = .ok (.aload_n 0, 1) := by decide +kernel
theorem dX9_forget_23 : decode cX9_forget 23 = .ok (.iload_n 1, 1) := by decide +kernel
theorem dX9_forget_24 : decode cX9_forget 24 = .ok (.invokevirtual 61, 3) := by decide +kernel
theorem dX9_forget_27 : decode cX9_forget 27 = .ok (.istore_n 2, 1) := by decide +kernel
theorem dX9_forget_28 : decode cX9_forget 28 = .ok (.iconst 0, 1) := by decide +kernel
theorem dX9_forget_29 : decode cX9_forget 29 = .ok (.istore_n 3, 1) := by decide +kernel
theorem dX9_forget_30 : decode cX9_forget 30 = .ok (.iload_n 3, 1) := by decide +kernel
theorem dX9_forget_31 : decode cX9_forget 31 = .ok (.bipush 7, 2) := by decide +kernel
theorem dX9_forget_33 : decode cX9_forget 33 = .ok (.if_icmp .ge 24, 3) := by decide +kernel
theorem dX9_forget_36 : decode cX9_forget 36 = .ok (.aload_n 0, 1) := by decide +kernel
theorem dX9_forget_37 : decode cX9_forget 37 = .ok (.getfield 7, 3) := by decide +kernel
theorem dX9_forget_40 : decode cX9_forget 40 = .ok (.bipush 95, 2) := by decide +kernel
theorem dX9_forget_42 : decode cX9_forget 42 = .ok (.bipush 7, 2) := by decide +kernel
theorem dX9_forget_44 : decode cX9_forget 44 = .ok (.iload_n 1, 1) := by decide +kernel
theorem dX9_forget_45 : decode cX9_forget 45 = .ok (.imul, 1) := by decide +kernel
theorem dX9_forget_46 : decode cX9_forget 46 = .ok (.iadd, 1) := by decide +kernel
theorem dX9_forget_47 : decode cX9_forget 47 = .ok (.iload_n 3, 1) := by decide +kernel
theorem dX9_forget_48 : decode cX9_forget 48 = .ok (.iadd, 1) := by decide +kernel
theorem dX9_forget_49 : decode cX9_forget 49 = .ok (.iconst 0, 1) := by decide +kernel
