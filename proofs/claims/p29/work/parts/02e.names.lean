theorem dX8_person_1 : decode cX8_person 1 = .ok (.invokestatic 30, 3) := by decide +kernel
theorem dX8_person_4 : decode cX8_person 4 = .ok (.ifCond .eq 10, 3) := by decide +kernel
theorem dX8_person_7 : decode cX8_person 7 = .ok (.iload_n 3, 1) := by decide +kernel
theorem dX8_person_8 : decode cX8_person 8 = .ok (.invokestatic 34, 3) := by decide +kernel
theorem dX8_person_11 : decode cX8_person 11 = .ok (.ifCond .ne 13, 3) := by decide +kernel
theorem dX8_person_14 : decode cX8_person 14 = .ok (.new 37, 3) := by decide +kernel
theorem dX8_person_17 : decode cX8_person 17 = .ok (.dup, 1) := by decide +kernel
theorem dX8_person_18 : decode cX8_person 18 = .ok (.ldc 109, 2) := by decide +kernel
theorem dX8_person_20 : decode cX8_person 20 = .ok (.invokespecial 41, 3) := by decide +kernel
theorem dX8_person_23 : decode cX8_person 23 = .ok (.athrow, 1) := by decide +kernel
theorem dX8_person_24 : decode cX8_person 24 = .ok (.iload_n 2, 1) := by decide +kernel
theorem dX8_person_25 : decode cX8_person 25 = .ok (.iconst 0, 1) := by decide +kernel
theorem dX8_person_26 : decode cX8_person 26 = .ok (.iconst 3, 1) := by decide +kernel
theorem dX8_person_27 : decode cX8_person 27 = .ok (.invokestatic 47, 3) := by decide +kernel
theorem dX8_person_30 : decode cX8_person 30 = .ok (.ifCond .ne 13, 3) := by decide +kernel
theorem dX8_person_33 : decode cX8_person 33 = .ok (.new 51, 3) := by decide +kernel
theorem dX8_person_36 : decode cX8_person 36 = .ok (.dup, 1) := by decide +kernel
theorem dX8_person_37 : decode cX8_person 37 = .ok (.ldc 111, 2) := by decide +kernel
theorem dX8_person_39 : decode cX8_person 39 = .ok (.invokespecial 55, 3) := by decide +kernel
theorem dX8_person_42 : decode cX8_person 42 = .ok (.athrow, 1) := by decide +kernel
theorem dX8_person_43 : decode cX8_person 43 = .ok (.aload_n 0, 1) := by decide +kernel
theorem dX8_person_44 : decode cX8_person 44 = .ok (.getfield 19, 3) := by decide +kernel
theorem dX8_person_47 : decode cX8_person 47 = .ok (.aload_n 0, 1) := by decide +kernel
theorem dX8_person_48 : decode cX8_person 48 = .ok (.getfield 10, 3) := by decide +kernel
theorem dX8_person_51 : decode cX8_person 51 = .ok (.invokevirtual 71, 3) := by decide +kernel
theorem dX8_person_54 : decode cX8_person 54 = .ok (.aload_n 0, 1) := by decide +kernel
theorem dX8_person_55 : decode cX8_person 55 = .ok (.getfield 10, 3) := by decide +kernel
theorem dX8_person_58 : decode cX8_person 58 = .ok (.getfield 113, 3) := by decide +kernel
theorem dX8_person_61 : decode cX8_person 61 = .ok (.getfield 117, 3) := by decide +kernel
theorem dX8_person_64 : decode cX8_person 64 = .ok (.iload_n 1, 1) := by decide +kernel
theorem dX8_person_65 : decode cX8_person 65 = .ok (.iload_n 3, 1) := by decide +kernel
theorem dX8_person_66 : decode cX8_person 66 = .ok (.invokevirtual 122, 3) := by decide +kernel
theorem dX8_person_69 : decode cX8_person 69 = .ok (.aload_n 0, 1) := by decide +kernel
theorem dX8_person_70 : decode cX8_person 70 = .ok (.getfield 10, 3) := by decide +kernel
theorem dX8_person_73 : decode cX8_person 73 = .ok (.getfield 113, 3) := by decide +kernel
theorem dX8_person_76 : decode cX8_person 76 = .ok (.getfield 126, 3) := by decide +kernel
theorem dX8_person_79 : decode cX8_person 79 = .ok (.iload_n 1, 1) := by decide +kernel
theorem dX8_person_80 : decode cX8_person 80 = .ok (.iload_n 2, 1) := by decide +kernel
theorem dX8_person_81 : decode cX8_person 81 = .ok (.invokevirtual 103, 3) := by decide +kernel
theorem dX8_person_84 : decode cX8_person 84 = .ok (.ireturn, 1) := by decide +kernel
set_option maxRecDepth 20000 in
theorem ggX8_master_X8_isPerson : GoodIn wsX8_master wsX8_isPerson := goodIn_r _ [12, 13, 14, 11, 15] (by decide +kernel) (by decide +kernel)
set_option maxRecDepth 20000 in
theorem gX8_master_X8_isPerson : GoodIn wsX8_master (va_wsS RX8 30 yX8_isPerson wsX8_isPerson) := goodIn_app (goodIn_of _ (by decide +kernel)) ggX8_master_X8_isPerson
set_option maxRecDepth 20000 in
theorem ggX8_master_X1_save : GoodIn wsX8_master wsX1_save := goodIn_r _ [20, 21, 22, 23, 24, 25, 26, 27, 28, 29, 19, 30, 31, 32, 33, 34, 35, 36, 37, 38, 39, 40, 41, 42, 43, 44, 45, 46, 47, 48, 49, 50, 51, 52, 53, 54, 55, 56, 57, 58, 59, 60, 61, 62, 63, 64, 65, 66, 67, 68, 69, 70, 71, 72, 73, 74, 75, 76, 77, 78, 79, 80, 81, 82, 83, 84, 85, 86, 87, 88, 89, 110, 111, 112, 101, 102, 103, 104, 105, 106, 113, 114, 115, 116, 117, 118, 107, 108, 109, 119, 120, 121, 122, 123] (by decide +kernel) (by decide +kernel)
set_option maxRecDepth 20000 in
theorem gX8_master_X1_save : GoodIn wsX8_master (wsV RX8 71 RX1 yX1_save wsX1_save) := goodIn_app (goodIn_of _ (by decide +kernel)) ggX8_master_X1_save
set_option maxRecDepth 20000 in
theorem ggX8_master_X3_swap : GoodIn wsX8_master wsX3_swap := goodIn_r _ [93, 59, 60, 61, 56, 62, 58, 94, 95, 96, 97, 118] (by decide +kernel) (by decide +kernel)
set_option maxRecDepth 20000 in
theorem gX8_master_X3_swap : GoodIn wsX8_master (wsV RX8 103 RX3 yX3_swap wsX3_swap) := goodIn_app (goodIn_of _ (by decide +kernel)) ggX8_master_X3_swap
theorem dX8_master_0 : decode cX8_master 0 = .ok (.iload_n 1, 1) := by decide +kernel
theorem dX8_master_1 : decode cX8_master 1 = .ok (.invokestatic 30, 3) := by decide +kernel
theorem dX8_master_4 : decode cX8_master 4 = .ok (.ifCond .eq 15, 3) := by decide +kernel
theorem dX8_master_7 : decode cX8_master 7 = .ok (.iload_n 2, 1) := by decide +kernel
theorem dX8_master_8 : decode cX8_master 8 = .ok (.iconst (-1), 1) := by decide +kernel
theorem dX8_master_9 : decode cX8_master 9 = .ok (.if_icmp .eq 20, 3) := by decide +kernel
theorem dX8_master_12 : decode cX8_master 12 = .ok (.iload_n 2, 1) := by decide +kernel
theorem dX8_master_13 : decode cX8_master 13 = .ok (.invokestatic 30, 3) := by decide +kernel
theorem dX8_master_16 : decode cX8_master 16 = .ok (.ifCond .ne 13, 3) := by decide +kernel
theorem dX8_master_19 : decode cX8_master 19 = .ok (.new 37, 3) := by decide +kernel
theorem dX8_master_22 : decode cX8_master 22 = .ok (.dup, 1) := by decide +kernel
theorem dX8_master_23 : decode cX8_master 23 = .ok (.ldc 129, 2) := by decide +kernel
theorem dX8_master_25 : decode cX8_master 25 = .ok (.invokespecial 41, 3) := by decide +kernel
theorem dX8_master_28 : decode cX8_master 28 = .ok (.athrow, 1) := by decide +kernel
theorem dX8_master_29 : decode cX8_master 29 = .ok (.iload_n 1, 1) := by decide +kernel
theorem dX8_master_30 : decode cX8_master 30 = .ok (.iload_n 2, 1) := by decide +kernel
theorem dX8_master_31 : decode cX8_master 31 = .ok (.if_icmp .ne 13, 3) := by decide +kernel
theorem dX8_master_34 : decode cX8_master 34 = .ok (.new 51, 3) := by decide +kernel
theorem dX8_master_37 : decode cX8_master 37 = .ok (.dup, 1) := by decide +kernel
theorem dX8_master_38 : decode cX8_master 38 = .ok (.ldc 131, 2) := by decide +kernel
theorem dX8_master_40 : decode cX8_master 40 = .ok (.invokespecial 55, 3) := by decide +kernel
theorem dX8_master_43 : decode cX8_master 43 = .ok (.athrow, 1) := by decide +kernel
theorem dX8_master_44 : decode cX8_master 44 = .ok (.aload_n 0, 1) := by decide +kernel
theorem dX8_master_45 : decode cX8_master 45 = .ok (.getfield 19, 3) := by decide +kernel
theorem dX8_master_48 : decode cX8_master 48 = .ok (.aload_n 0, 1) := by decide +kernel
theorem dX8_master_49 : decode cX8_master 49 = .ok (.getfield 10, 3) := by decide +kernel
theorem dX8_master_52 : decode cX8_master 52 = .ok (.invokevirtual 71, 3) := by decide +kernel
theorem dX8_master_55 : decode cX8_master 55 = .ok (.aload_n 0, 1) := by decide +kernel
theorem dX8_master_56 : decode cX8_master 56 = .ok (.getfield 10, 3) := by decide +kernel
theorem dX8_master_59 : decode cX8_master 59 = .ok (.getfield 113, 3) := by decide +kernel
theorem dX8_master_62 : decode cX8_master 62 = .ok (.getfield 133, 3) := by decide +kernel
theorem dX8_master_65 : decode cX8_master 65 = .ok (.iload_n 1, 1) := by decide +kernel
theorem dX8_master_66 : decode cX8_master 66 = .ok (.iload_n 2, 1) := by decide +kernel
theorem dX8_master_67 : decode cX8_master 67 = .ok (.invokevirtual 103, 3) := by decide +kernel
theorem dX8_master_70 : decode cX8_master 70 = .ok (.ireturn, 1) := by decide +kernel
set_option maxRecDepth 20000 in
theorem ggX8_force_X8_requireRule : GoodIn wsX8_force wsX8_requireRule := goodIn_ca (goodIn_r _ [7, 8, 9, 10, 11, 6, 12] (by decide +kernel) (by decide +kernel)) (goodIn_sub (fun _ h => List.mem_cons_of_mem _ (List.mem_append_right _ h)) (by decide +kernel))
set_option maxRecDepth 20000 in
theorem gX8_force_X8_requireRule : GoodIn wsX8_force (va_wsS RX8 136 yX8_requireRule wsX8_requireRule) := goodIn_app (goodIn_of _ (by decide +kernel)) ggX8_force_X8_requireRule
set_option maxRecDepth 20000 in
theorem ggX8_force_X1_save : GoodIn wsX8_force wsX1_save := goodIn_r _ [17, 18, 19, 20, 21, 22, 23, 24, 25, 26, 16, 27, 28, 29, 30, 31, 32, 33, 34, 35, 36, 37, 38, 39, 40, 41, 42, 43, 44, 45, 46, 47, 48, 49, 50, 51, 52, 53, 54, 55, 56, 57, 58, 59, 60, 61, 62, 63, 64, 65, 66, 67, 68, 69, 70, 71, 72, 73, 74, 75, 76, 77, 78, 79, 80, 81, 82, 83, 84, 85, 86, 96, 97, 98, 90, 91, 92, 93, 94, 95, 99, 100, 101, 102, 103, 104, 105, 106, 107, 108, 109, 110, 111, 112] (by decide +kernel) (by decide +kernel)
set_option maxRecDepth 20000 in
theorem gX8_force_X1_save : GoodIn wsX8_force (wsV RX8 71 RX1 yX1_save wsX1_save) := goodIn_app (goodIn_of _ (by decide +kernel)) ggX8_force_X1_save
theorem dX8_force_0 : decode cX8_force 0 = .ok (.iload_n 1, 1) := by decide +kernel
theorem dX8_force_1 : decode cX8_force 1 = .ok (.invokestatic 136, 3) := by decide +kernel
theorem dX8_force_4 : decode cX8_force 4 = .ok (.aload_n 0, 1) := by decide +kernel
theorem dX8_force_5 : decode cX8_force 5 = .ok (.getfield 19, 3) := by decide +kernel
theorem dX8_force_8 : decode cX8_force 8 = .ok (.aload_n 0, 1) := by decide +kernel
theorem dX8_force_9 : decode cX8_force 9 = .ok (.getfield 10, 3) := by decide +kernel
theorem dX8_force_12 : decode cX8_force 12 = .ok (.invokevirtual 71, 3) := by decide +kernel
theorem dX8_force_15 : decode cX8_force 15 = .ok (.aload_n 0, 1) := by decide +kernel
theorem dX8_force_16 : decode cX8_force 16 = .ok (.getfield 10, 3) := by decide +kernel
theorem dX8_force_19 : decode cX8_force 19 = .ok (.getfield 139, 3) := by decide +kernel
theorem dX8_force_22 : decode cX8_force 22 = .ok (.iload_n 1, 1) := by decide +kernel
theorem dX8_force_23 : decode cX8_force 23 = .ok (.ishr, 1) := by decide +kernel
theorem dX8_force_24 : decode cX8_force 24 = .ok (.iconst 1, 1) := by decide +kernel
theorem dX8_force_25 : decode cX8_force 25 = .ok (.iand, 1) := by decide +kernel
theorem dX8_force_26 : decode cX8_force 26 = .ok (.istore_n 3, 1) := by decide +kernel
theorem dX8_force_27 : decode cX8_force 27 = .ok (.iconst 1, 1) := by decide +kernel
theorem dX8_force_28 : decode cX8_force 28 = .ok (.iload_n 1, 1) := by decide +kernel
theorem dX8_force_29 : decode cX8_force 29 = .ok (.ishl, 1) := by decide +kernel
theorem dX8_force_30 : decode cX8_force 30 = .ok (.istore 4, 2) := by decide +kernel
theorem dX8_force_32 : decode cX8_force 32 = .ok (.aload_n 0, 1) := by decide +kernel
theorem dX8_force_33 : decode cX8_force 33 = .ok (.getfield 10, 3) := by decide +kernel
theorem dX8_force_36 : decode cX8_force 36 = .ok (.iload_n 2, 1) := by decide +kernel
theorem dX8_force_37 : decode cX8_force 37 = .ok (.ifCond .eq 16, 3) := by decide +kernel
theorem dX8_force_40 : decode cX8_force 40 = .ok (.aload_n 0, 1) := by decide +kernel
theorem dX8_force_41 : decode cX8_force 41 = .ok (.getfield 10, 3) := by decide +kernel
theorem dX8_force_44 : decode cX8_force 44 = .ok (.getfield 139, 3) := by decide +kernel
theorem dX8_force_47 : decode cX8_force 47 = .ok (.iload 4, 2) := by decide +kernel
theorem dX8_force_49 : decode cX8_force 49 = .ok (.ior, 1) := by decide +kernel
theorem dX8_force_50 : decode cX8_force 50 = .ok (.goto 15, 3) := by decide +kernel
theorem dX8_force_53 : decode cX8_force 53 = .ok (.aload_n 0, 1) := by decide +kernel
theorem dX8_force_54 : decode cX8_force 54 = .ok (.getfield 10, 3) := by decide +kernel
theorem dX8_force_57 : decode cX8_force 57 = .ok (.getfield 139, 3) := by decide +kernel
theorem dX8_force_60 : decode cX8_force 60 = .ok (.iload 4, 2) := by decide +kernel
theorem dX8_force_62 : decode cX8_force 62 = .ok (.iconst (-1), 1) := by decide +kernel
theorem dX8_force_63 : decode cX8_force 63 = .ok (.ixor, 1) := by decide +kernel
theorem dX8_force_64 : decode cX8_force 64 = .ok (.iand, 1) := by decide +kernel
theorem dX8_force_65 : decode cX8_force 65 = .ok (.putfield 139, 3) := by decide +kernel
theorem dX8_force_68 : decode cX8_force 68 = .ok (.iload_n 3, 1) := by decide +kernel
theorem dX8_force_69 : decode cX8_force 69 = .ok (.ireturn, 1) := by decide +kernel
set_option maxRecDepth 20000 in
theorem ggX8_set_X8_isWithin : GoodIn wsX8_set wsX8_isWithin := goodIn_r _ [11] (by decide +kernel) (by decide +kernel)
set_option maxRecDepth 20000 in
theorem gX8_set_X8_isWithin : GoodIn wsX8_set (va_wsS RX8 47 yX8_isWithin wsX8_isWithin) := goodIn_app (goodIn_of _ (by decide +kernel)) ggX8_set_X8_isWithin
set_option maxRecDepth 20000 in
theorem ggX8_set_X1_save : GoodIn wsX8_set wsX1_save := goodIn_r _ [16, 17, 18, 19, 20, 21, 22, 23, 24, 25, 15, 26, 27, 28, 29, 30, 31, 32, 33, 34, 35, 36, 37, 38, 39, 40, 41, 42, 43, 44, 45, 46, 47, 48, 49, 50, 51, 52, 53, 54, 55, 56, 57, 58, 59, 60, 61, 62, 63, 64, 65, 66, 67, 68, 69, 70, 71, 72, 73, 74, 75, 76, 77, 78, 79, 80, 81, 82, 83, 84, 85, 103, 104, 105, 97, 98, 99, 100, 101, 102, 106, 107, 108, 109, 110, 111, 112, 113, 114, 115, 116, 117, 118, 119] (by decide +kernel) (by decide +kernel)
set_option maxRecDepth 20000 in
theorem gX8_set_X1_save : GoodIn wsX8_set (wsV RX8 71 RX1 yX1_save wsX1_save) := goodIn_app (goodIn_of _ (by decide +kernel)) ggX8_set_X1_save
set_option maxRecDepth 20000 in
theorem ggX8_set_X3_swap : GoodIn wsX8_set wsX3_swap := goodIn_r _ [89, 55, 56, 57, 52, 58, 54, 90, 91, 92, 93, 111] (by decide +kernel) (by decide +kernel)
set_option maxRecDepth 20000 in
theorem gX8_set_X3_swap : GoodIn wsX8_set (wsV RX8 103 RX3 yX3_swap wsX3_swap) := goodIn_app (goodIn_of _ (by decide +kernel)) ggX8_set_X3_swap
theorem dX8_set_0 : decode cX8_set 0 = .ok (.iload_n 1, 1) := by decide +kernel
theorem dX8_set_1 : decode cX8_set 1 = .ok (.iconst 0, 1) := by decide +kernel
theorem dX8_set_2 : decode cX8_set 2 = .ok (.iconst 2, 1) := by decide +kernel
theorem dX8_set_3 : decode cX8_set 3 = .ok (.invokestatic 47, 3) := by decide +kernel
theorem dX8_set_6 : decode cX8_set 6 = .ok (.ifCond .ne 13, 3) := by decide +kernel
theorem dX8_set_9 : decode cX8_set 9 = .ok (.new 37, 3) := by decide +kernel
theorem dX8_set_12 : decode cX8_set 12 = .ok (.dup, 1) := by decide +kernel
theorem dX8_set_13 : decode cX8_set 13 = .ok (.ldc 142, 2) := by decide +kernel
theorem dX8_set_15 : decode cX8_set 15 = .ok (.invokespecial 41, 3) := by decide +kernel
theorem dX8_set_18 : decode cX8_set 18 = .ok (.athrow, 1) := by decide +kernel
theorem dX8_set_19 : decode cX8_set 19 = .ok (.iload_n 1, 1) := by decide +kernel
theorem dX8_set_20 : decode cX8_set 20 = .ok (.iconst 2, 1) := by decide +kernel
theorem dX8_set_21 : decode cX8_set 21 = .ok (.if_icmp .ne 12, 3) := by decide +kernel
theorem dX8_set_24 : decode cX8_set 24 = .ok (.iload_n 2, 1) := by decide +kernel
theorem dX8_set_25 : decode cX8_set 25 = .ok (.iconst 0, 1) := by decide +kernel
theorem dX8_set_26 : decode cX8_set 26 = .ok (.iconst 1, 1) := by decide +kernel
theorem dX8_set_27 : decode cX8_set 27 = .ok (.invokestatic 47, 3) := by decide +kernel
theorem dX8_set_30 : decode cX8_set 30 = .ok (.goto 10, 3) := by decide +kernel
theorem dX8_set_33 : decode cX8_set 33 = .ok (.iload_n 2, 1) := by decide +kernel
theorem dX8_set_34 : decode cX8_set 34 = .ok (.iconst 1, 1) := by decide +kernel
theorem dX8_set_35 : decode cX8_set 35 = .ok (.bipush 9, 2) := by decide +kernel
theorem dX8_set_37 : decode cX8_set 37 = .ok (.invokestatic 47, 3) := by decide +kernel
theorem dX8_set_40 : decode cX8_set 40 = .ok (.istore_n 3, 1) := by decide +kernel
theorem dX8_set_41 : decode cX8_set 41 = .ok (.iload_n 3, 1) := by decide +kernel
theorem dX8_set_42 : decode cX8_set 42 = .ok (.ifCond .ne 13, 3) := by decide +kernel
theorem dX8_set_45 : decode cX8_set 45 = .ok (.new 51, 3) := by decide +kernel
theorem dX8_set_48 : decode cX8_set 48 = .ok (.dup, 1) := by decide +kernel
theorem dX8_set_49 : decode cX8_set 49 = .ok (.ldc 97, 2) := by decide +kernel
theorem dX8_set_51 : decode cX8_set 51 = .ok (.invokespecial 55, 3) := by decide +kernel
theorem dX8_set_54 : decode cX8_set 54 = .ok (.athrow, 1) := by decide +kernel
theorem dX8_set_55 : decode cX8_set 55 = .ok (.aload_n 0, 1) := by decide +kernel
theorem dX8_set_56 : decode cX8_set 56 = .ok (.getfield 19, 3) := by decide +kernel
theorem dX8_set_59 : decode cX8_set 59 = .ok (.aload_n 0, 1) := by decide +kernel
theorem dX8_set_60 : decode cX8_set 60 = .ok (.getfield 10, 3) := by decide +kernel
theorem dX8_set_63 : decode cX8_set 63 = .ok (.invokevirtual 71, 3) := by decide +kernel
theorem dX8_set_66 : decode cX8_set 66 = .ok (.aload_n 0, 1) := by decide +kernel
theorem dX8_set_67 : decode cX8_set 67 = .ok (.getfield 10, 3) := by decide +kernel
theorem dX8_set_70 : decode cX8_set 70 = .ok (.getfield 144, 3) := by decide +kernel
theorem dX8_set_73 : decode cX8_set 73 = .ok (.iload_n 1, 1) := by decide +kernel
theorem dX8_set_74 : decode cX8_set 74 = .ok (.iload_n 2, 1) := by decide +kernel
theorem dX8_set_75 : decode cX8_set 75 = .ok (.invokevirtual 103, 3) := by decide +kernel
theorem dX8_set_78 : decode cX8_set 78 = .ok (.ireturn, 1) := by decide +kernel
set_option maxRecDepth 20000 in
theorem ggX8_ask_X8_requireQuestion : GoodIn wsX8_ask wsX8_requireQuestion := goodIn_ca (goodIn_ca (goodIn_r _ [9, 10, 11, 12, 13, 14, 15, 8, 16, 17, 18, 19, 20, 21, 22, 23, 24, 25, 26, 27, 28] (by decide +kernel) (by decide +kernel)) (goodIn_sub (fun _ h => List.mem_cons_of_mem _ (List.mem_append_left _ (List.mem_append_right _ h))) (by decide +kernel))) (goodIn_sub (fun _ h => List.mem_cons_of_mem _ (List.mem_append_right _ h)) (by decide +kernel))
set_option maxRecDepth 20000 in
theorem gX8_ask_X8_requireQuestion : GoodIn wsX8_ask (va_wsS RX8 147 yX8_requireQuestion wsX8_requireQuestion) := goodIn_app (goodIn_of _ (by decide +kernel)) ggX8_ask_X8_requireQuestion
set_option maxRecDepth 20000 in
theorem ggX8_ask_X1_save : GoodIn wsX8_ask wsX1_save := goodIn_r _ [33, 34, 35, 36, 37, 38, 39, 40, 41, 42, 32, 43, 44, 45, 46, 47, 48, 49, 50, 51, 52, 53, 54, 55, 56, 57, 58, 59, 60, 61, 62, 63, 64, 65, 66, 67, 68, 69, 70, 71, 72, 73, 74, 75, 76, 77, 78, 79, 80, 81, 82, 83, 84, 85, 86, 87, 88, 89, 90, 91, 92, 93, 94, 95, 96, 97, 98, 99, 100, 101, 102, 185, 186, 187, 176, 177, 178, 179, 180, 181, 188, 189, 190, 191, 192, 193, 194, 195, 196, 197, 198, 182, 183, 184] (by decide +kernel) (by decide +kernel)
set_option maxRecDepth 20000 in
theorem gX8_ask_X1_save : GoodIn wsX8_ask (wsV RX8 71 RX1 yX1_save wsX1_save) := goodIn_app (goodIn_of _ (by decide +kernel)) ggX8_ask_X1_save
set_option maxRecDepth 20000 in
theorem ggX8_ask_X6_seenRows : GoodIn wsX8_ask wsX6_seenRows := goodIn_r _ [106, 50, 107, 108, 109, 110, 59, 111, 63, 62, 112, 73, 74, 69, 75, 71, 113, 114, 115, 48, 116, 117, 118, 51, 119, 120, 121, 122, 123, 55, 124, 176, 177, 178, 179, 180, 181, 188, 189, 190, 191, 192, 193, 194, 195, 196] (by decide +kernel) (by decide +kernel)
set_option maxRecDepth 20000 in
theorem gX8_ask_X6_seenRows : GoodIn wsX8_ask (wsV RX8 150 RX6 yX6_seenRows wsX6_seenRows) := goodIn_app (goodIn_of _ (by decide +kernel)) ggX8_ask_X6_seenRows
set_option maxRecDepth 20000 in
theorem ggX8_ask_X6_countAnswer : GoodIn wsX8_ask wsX6_countAnswer := goodIn_r _ [128, 54, 52, 129, 130, 131, 48, 132, 133, 134, 135, 136, 137, 138, 139, 124, 73, 74, 69, 75, 71, 140, 141, 142, 88, 143, 91, 144, 145, 146, 147, 148, 90, 149, 150, 151, 152, 176, 177, 178, 179, 180, 181, 193, 197, 198] (by decide +kernel) (by decide +kernel)
set_option maxRecDepth 20000 in
theorem gX8_ask_X6_countAnswer : GoodIn wsX8_ask (wsV RX8 154 RX6 yX6_countAnswer wsX6_countAnswer) := goodIn_app (goodIn_of _ (by decide +kernel)) ggX8_ask_X6_countAnswer
set_option maxRecDepth 20000 in
theorem ggX8_ask_X7_note : GoodIn wsX8_ask wsX7_note := goodIn_r _ [156, 98, 99, 157, 73, 74, 69, 75, 71, 158, 159, 160, 161, 182, 183, 184, 193] (by decide +kernel) (by decide +kernel)
set_option maxRecDepth 20000 in
theorem gX8_ask_X7_note : GoodIn wsX8_ask (wsV RX8 161 RX7 yX7_note wsX7_note) := goodIn_app (goodIn_of _ (by decide +kernel)) ggX8_ask_X7_note
set_option maxRecDepth 20000 in
theorem ggX8_ask_X2_givesAway : GoodIn wsX8_ask wsX2_givesAway := goodIn_r _ [143, 91, 144, 73, 74, 69, 75, 71, 145, 146, 147, 88, 148, 90, 149, 134, 135, 136, 137, 138, 139, 197, 198, 193] (by decide +kernel) (by decide +kernel)
set_option maxRecDepth 20000 in
theorem gX8_ask_X2_givesAway : GoodIn wsX8_ask (wsV RX8 167 RX2 yX2_givesAway wsX2_givesAway) := goodIn_app (goodIn_of _ (by decide +kernel)) ggX8_ask_X2_givesAway
set_option maxRecDepth 20000 in
theorem ggX8_ask_X2_keep : GoodIn wsX8_ask wsX2_keep := goodIn_r _ [166, 91, 90, 144, 73, 74, 69, 75, 71, 167, 168, 169, 170, 72, 171, 159, 160, 161, 172, 197, 198, 193] (by decide +kernel) (by decide +kernel)
set_option maxRecDepth 20000 in
theorem gX8_ask_X2_keep : GoodIn wsX8_ask (wsV RX8 174 RX2 yX2_keep wsX2_keep) := goodIn_app (goodIn_of _ (by decide +kernel)) ggX8_ask_X2_keep
theorem dX8_ask_0 : decode cX8_ask 0 = .ok (.iload_n 1, 1) := by decide +kernel
theorem dX8_ask_1 : decode cX8_ask 1 = .ok (.iload_n 2, 1) := by decide +kernel
theorem dX8_ask_2 : decode cX8_ask 2 = .ok (.iload_n 3, 1) := by decide +kernel
theorem dX8_ask_3 : decode cX8_ask 3 = .ok (.iload 4, 2) := by decide +kernel
theorem dX8_ask_5 : decode cX8_ask 5 = .ok (.invokestatic 147, 3) := by decide +kernel
theorem dX8_ask_8 : decode cX8_ask 8 = .ok (.aload_n 0, 1) := by decide +kernel
theorem dX8_ask_9 : decode cX8_ask 9 = .ok (.getfield 19, 3) := by decide +kernel
theorem dX8_ask_12 : decode cX8_ask 12 = .ok (.aload_n 0, 1) := by decide +kernel
theorem dX8_ask_13 : decode cX8_ask 13 = .ok (.getfield 10, 3) := by decide +kernel
theorem dX8_ask_16 : decode cX8_ask 16 = .ok (.invokevirtual 71, 3) := by decide +kernel
theorem dX8_ask_19 : decode cX8_ask 19 = .ok (.aload_n 0, 1) := by decide +kernel
theorem dX8_ask_20 : decode cX8_ask 20 = .ok (.getfield 10, 3) := by decide +kernel
theorem dX8_ask_23 : decode cX8_ask 23 = .ok (.iload_n 1, 1) := by decide +kernel
theorem dX8_ask_24 : decode cX8_ask 24 = .ok (.iload_n 2, 1) := by decide +kernel
theorem dX8_ask_25 : decode cX8_ask 25 = .ok (.iload_n 3, 1) := by decide +kernel
theorem dX8_ask_26 : decode cX8_ask 26 = .ok (.iload 4, 2) := by decide +kernel
theorem dX8_ask_28 : decode cX8_ask 28 = .ok (.invokevirtual 150, 3) := by decide +kernel
theorem dX8_ask_31 : decode cX8_ask 31 = .ok (.istore 5, 2) := by decide +kernel
theorem dX8_ask_33 : decode cX8_ask 33 = .ok (.aload_n 0, 1) := by decide +kernel
theorem dX8_ask_34 : decode cX8_ask 34 = .ok (.getfield 10, 3) := by decide +kernel
theorem dX8_ask_37 : decode cX8_ask 37 = .ok (.iload_n 1, 1) := by decide +kernel
theorem dX8_ask_38 : decode cX8_ask 38 = .ok (.iload 5, 2) := by decide +kernel
theorem dX8_ask_40 : decode cX8_ask 40 = .ok (.invokevirtual 154, 3) := by decide +kernel
theorem dX8_ask_43 : decode cX8_ask 43 = .ok (.istore 6, 2) := by decide +kernel
theorem dX8_ask_45 : decode cX8_ask 45 = .ok (.aload_n 0, 1) := by decide +kernel
theorem dX8_ask_46 : decode cX8_ask 46 = .ok (.getfield 10, 3) := by decide +kernel
theorem dX8_ask_49 : decode cX8_ask 49 = .ok (.getfield 157, 3) := by decide +kernel
theorem dX8_ask_52 : decode cX8_ask 52 = .ok (.iload_n 1, 1) := by decide +kernel
theorem dX8_ask_53 : decode cX8_ask 53 = .ok (.iload 6, 2) := by decide +kernel
theorem dX8_ask_55 : decode cX8_ask 55 = .ok (.iconst (-1), 1) := by decide +kernel
theorem dX8_ask_56 : decode cX8_ask 56 = .ok (.if_icmp .ne 7, 3) := by decide +kernel
theorem dX8_ask_59 : decode cX8_ask 59 = .ok (.iconst 1, 1) := by decide +kernel
theorem dX8_ask_60 : decode cX8_ask 60 = .ok (.goto 4, 3) := by decide +kernel
theorem dX8_ask_63 : decode cX8_ask 63 = .ok (.iconst 0, 1) := by decide +kernel
theorem dX8_ask_64 : decode cX8_ask 64 = .ok (.invokevirtual 161, 3) := by decide +kernel
theorem dX8_ask_67 : decode cX8_ask 67 = .ok (.iload 6, 2) := by decide +kernel
theorem dX8_ask_69 : decode cX8_ask 69 = .ok (.iconst (-1), 1) := by decide +kernel
theorem dX8_ask_70 : decode cX8_ask 70 = .ok (.if_icmp .eq 48, 3) := by decide +kernel
theorem dX8_ask_73 : decode cX8_ask 73 = .ok (.aload_n 0, 1) := by decide +kernel
theorem dX8_ask_74 : decode cX8_ask 74 = .ok (.getfield 10, 3) := by decide +kernel
theorem dX8_ask_77 : decode cX8_ask 77 = .ok (.getfield 90, 3) := by decide +kernel
theorem dX8_ask_80 : decode cX8_ask 80 = .ok (.iload_n 1, 1) := by decide +kernel
theorem dX8_ask_81 : decode cX8_ask 81 = .ok (.iload 5, 2) := by decide +kernel
theorem dX8_ask_83 : decode cX8_ask 83 = .ok (.invokevirtual 167, 3) := by decide +kernel
theorem dX8_ask_86 : decode cX8_ask 86 = .ok (.ifCond .eq 19, 3) := by decide +kernel
theorem dX8_ask_89 : decode cX8_ask 89 = .ok (.aload_n 0, 1) := by decide +kernel
theorem dX8_ask_90 : decode cX8_ask 90 = .ok (.getfield 10, 3) := by decide +kernel
theorem dX8_ask_93 : decode cX8_ask 93 = .ok (.getfield 157, 3) := by decide +kernel
theorem dX8_ask_96 : decode cX8_ask 96 = .ok (.dup, 1) := by decide +kernel
theorem dX8_ask_97 : decode cX8_ask 97 = .ok (.getfield 171, 3) := by decide +kernel
theorem dX8_ask_100 : decode cX8_ask 100 = .ok (.iconst 1, 1) := by decide +kernel
theorem dX8_ask_101 : decode cX8_ask 101 = .ok (.iadd, 1) := by decide +kernel
theorem dX8_ask_102 : decode cX8_ask 102 = .ok (.putfield 171, 3) := by decide +kernel
theorem dX8_ask_105 : decode cX8_ask 105 = .ok (.aload_n 0, 1) := by decide +kernel
theorem dX8_ask_106 : decode cX8_ask 106 = .ok (.getfield 10, 3) := by decide +kernel
theorem dX8_ask_109 : decode cX8_ask 109 = .ok (.getfield 90, 3) := by decide +kernel
theorem dX8_ask_112 : decode cX8_ask 112 = .ok (.iload_n 1, 1) := by decide +kernel
theorem dX8_ask_113 : decode cX8_ask 113 = .ok (.iload 5, 2) := by decide +kernel
theorem dX8_ask_115 : decode cX8_ask 115 = .ok (.invokevirtual 174, 3) := by decide +kernel
theorem dX8_ask_118 : decode cX8_ask 118 = .ok (.iload 6, 2) := by decide +kernel
theorem dX8_ask_120 : decode cX8_ask 120 = .ok (.ireturn, 1) := by decide +kernel
set_option maxRecDepth 20000 in
theorem ggX8_askSum_X8_requireQuestion : GoodIn wsX8_askSum wsX8_requireQuestion := goodIn_ca (goodIn_ca (goodIn_r _ [7, 8, 9, 10, 11, 12, 13, 6, 14, 15, 16, 17, 18, 19, 20, 21, 22, 23, 24, 25, 26] (by decide +kernel) (by decide +kernel)) (goodIn_sub (fun _ h => List.mem_cons_of_mem _ (List.mem_append_left _ (List.mem_append_right _ h))) (by decide +kernel))) (goodIn_sub (fun _ h => List.mem_cons_of_mem _ (List.mem_append_right _ h)) (by decide +kernel))
set_option maxRecDepth 20000 in
theorem gX8_askSum_X8_requireQuestion : GoodIn wsX8_askSum (va_wsS RX8 147 yX8_requireQuestion wsX8_requireQuestion) := goodIn_app (goodIn_of _ (by decide +kernel)) ggX8_askSum_X8_requireQuestion
set_option maxRecDepth 20000 in
theorem ggX8_askSum_X1_save : GoodIn wsX8_askSum wsX1_save := goodIn_r _ [31, 32, 33, 34, 35, 36, 37, 38, 39, 40, 30, 41, 42, 43, 44, 45, 46, 47, 48, 49, 50, 51, 52, 53, 54, 55, 56, 57, 58, 59, 60, 61, 62, 63, 64, 65, 66, 67, 68, 69, 70, 71, 72, 73, 74, 75, 76, 77, 78, 79, 80, 81, 82, 83, 84, 85, 86, 87, 88, 89, 90, 91, 92, 93, 94, 95, 96, 97, 98, 99, 100, 159, 160, 161, 153, 154, 155, 156, 157, 158, 162, 163, 164, 165, 166, 167, 168, 169, 170, 171, 172, 173, 174, 175] (by decide +kernel) (by decide +kernel)
set_option maxRecDepth 20000 in
theorem gX8_askSum_X1_save : GoodIn wsX8_askSum (wsV RX8 71 RX1 yX1_save wsX1_save) := goodIn_app (goodIn_of _ (by decide +kernel)) ggX8_askSum_X1_save
set_option maxRecDepth 20000 in
theorem ggX8_askSum_X6_seenRows : GoodIn wsX8_askSum wsX6_seenRows := goodIn_r _ [104, 48, 105, 106, 107, 108, 57, 109, 61, 60, 110, 71, 72, 67, 73, 69, 111, 112, 113, 46, 114, 115, 116, 49, 117, 118, 119, 120, 121, 53, 122, 153, 154, 155, 156, 157, 158, 162, 163, 164, 165, 166, 167, 168, 169, 170] (by decide +kernel) (by decide +kernel)
set_option maxRecDepth 20000 in
theorem gX8_askSum_X6_seenRows : GoodIn wsX8_askSum (wsV RX8 150 RX6 yX6_seenRows wsX6_seenRows) := goodIn_app (goodIn_of _ (by decide +kernel)) ggX8_askSum_X6_seenRows
set_option maxRecDepth 20000 in
theorem ggX8_askSum_X6_sumAnswer : GoodIn wsX8_askSum wsX6_sumAnswer := goodIn_r _ [126, 48, 105, 120, 127, 128, 36, 129, 122, 71, 72, 67, 73, 69, 130, 131, 132, 46, 133, 52, 134, 135, 136, 137, 138, 139, 140, 153, 154, 155, 156, 157, 158, 162, 163, 164, 165, 166, 167] (by decide +kernel) (by decide +kernel)
set_option maxRecDepth 20000 in
theorem gX8_askSum_X6_sumAnswer : GoodIn wsX8_askSum (wsV RX8 177 RX6 yX6_sumAnswer wsX6_sumAnswer) := goodIn_app (goodIn_of _ (by decide +kernel)) ggX8_askSum_X6_sumAnswer
set_option maxRecDepth 20000 in
theorem ggX8_askSum_X7_note : GoodIn wsX8_askSum wsX7_note := goodIn_r _ [144, 96, 97, 145, 71, 72, 67, 73, 69, 146, 147, 148, 149, 173, 174, 175, 167] (by decide +kernel) (by decide +kernel)
set_option maxRecDepth 20000 in
theorem gX8_askSum_X7_note : GoodIn wsX8_askSum (wsV RX8 161 RX7 yX7_note wsX7_note) := goodIn_app (goodIn_of _ (by decide +kernel)) ggX8_askSum_X7_note
theorem dX8_askSum_0 : decode cX8_askSum 0 = .ok (.iload_n 1, 1) := by decide +kernel
theorem dX8_askSum_1 : decode cX8_askSum 1 = .ok (.iload_n 2, 1) := by decide +kernel
theorem dX8_askSum_2 : decode cX8_askSum 2 = .ok (.iload_n 3, 1) := by decide +kernel
theorem dX8_askSum_3 : decode cX8_askSum 3 = .ok (.iload 4, 2) := by decide +kernel
theorem dX8_askSum_5 : decode cX8_askSum 5 = .ok (.invokestatic 147, 3) := by decide +kernel
theorem dX8_askSum_8 : decode cX8_askSum 8 = .ok (.aload_n 0, 1) := by decide +kernel
theorem dX8_askSum_9 : decode cX8_askSum 9 = .ok (.getfield 19, 3) := by decide +kernel
theorem dX8_askSum_12 : decode cX8_askSum 12 = .ok (.aload_n 0, 1) := by decide +kernel
theorem dX8_askSum_13 : decode cX8_askSum 13 = .ok (.getfield 10, 3) := by decide +kernel
theorem dX8_askSum_16 : decode cX8_askSum 16 = .ok (.invokevirtual 71, 3) := by decide +kernel
theorem dX8_askSum_19 : decode cX8_askSum 19 = .ok (.aload_n 0, 1) := by decide +kernel
theorem dX8_askSum_20 : decode cX8_askSum 20 = .ok (.getfield 10, 3) := by decide +kernel
theorem dX8_askSum_23 : decode cX8_askSum 23 = .ok (.aload_n 0, 1) := by decide +kernel
theorem dX8_askSum_24 : decode cX8_askSum 24 = .ok (.getfield 10, 3) := by decide +kernel
theorem dX8_askSum_27 : decode cX8_askSum 27 = .ok (.iload_n 1, 1) := by decide +kernel
theorem dX8_askSum_28 : decode cX8_askSum 28 = .ok (.iload_n 2, 1) := by decide +kernel
theorem dX8_askSum_29 : decode cX8_askSum 29 = .ok (.iload_n 3, 1) := by decide +kernel
theorem dX8_askSum_30 : decode cX8_askSum 30 = .ok (.iload 4, 2) := by decide +kernel
theorem dX8_askSum_32 : decode cX8_askSum 32 = .ok (.invokevirtual 150, 3) := by decide +kernel
theorem dX8_askSum_35 : decode cX8_askSum 35 = .ok (.invokevirtual 177, 3) := by decide +kernel
theorem dX8_askSum_38 : decode cX8_askSum 38 = .ok (.istore 5, 2) := by decide +kernel
theorem dX8_askSum_40 : decode cX8_askSum 40 = .ok (.aload_n 0, 1) := by decide +kernel
theorem dX8_askSum_41 : decode cX8_askSum 41 = .ok (.getfield 10, 3) := by decide +kernel
theorem dX8_askSum_44 : decode cX8_askSum 44 = .ok (.getfield 157, 3) := by decide +kernel
theorem dX8_askSum_47 : decode cX8_askSum 47 = .ok (.iload_n 1, 1) := by decide +kernel
theorem dX8_askSum_48 : decode cX8_askSum 48 = .ok (.iload 5, 2) := by decide +kernel
theorem dX8_askSum_50 : decode cX8_askSum 50 = .ok (.iconst (-1), 1) := by decide +kernel
theorem dX8_askSum_51 : decode cX8_askSum 51 = .ok (.if_icmp .ne 7, 3) := by decide +kernel
theorem dX8_askSum_54 : decode cX8_askSum 54 = .ok (.iconst 1, 1) := by decide +kernel
theorem dX8_askSum_55 : decode cX8_askSum 55 = .ok (.goto 4, 3) := by decide +kernel
theorem dX8_askSum_58 : decode cX8_askSum 58 = .ok (.iconst 0, 1) := by decide +kernel
theorem dX8_askSum_59 : decode cX8_askSum 59 = .ok (.invokevirtual 161, 3) := by decide +kernel
theorem dX8_askSum_62 : decode cX8_askSum 62 = .ok (.iload 5, 2) := by decide +kernel
theorem dX8_askSum_64 : decode cX8_askSum 64 = .ok (.ireturn, 1) := by decide +kernel
set_option maxRecDepth 20000 in
theorem ggX8_forget_X8_requireAsker : GoodIn wsX8_forget wsX8_requireAsker := goodIn_ca (goodIn_r _ [8, 9, 10, 11, 12, 7, 13, 14, 15, 16] (by decide +kernel) (by decide +kernel)) (goodIn_sub (fun _ h => List.mem_cons_of_mem _ (List.mem_append_right _ h)) (by decide +kernel))
set_option maxRecDepth 20000 in
theorem gX8_forget_X8_requireAsker : GoodIn wsX8_forget (va_wsS RX8 181 yX8_requireAsker wsX8_requireAsker) := goodIn_app (goodIn_of _ (by decide +kernel)) ggX8_forget_X8_requireAsker
set_option maxRecDepth 20000 in
theorem ggX8_forget_X1_save : GoodIn wsX8_forget wsX1_save := goodIn_r _ [21, 22, 23, 24, 25, 26, 27, 28, 29, 30, 20, 31, 32, 33, 34, 35, 36, 37, 38, 39, 40, 41, 42, 43, 44, 45, 46, 47, 48, 49, 50, 51, 52, 53, 54, 55, 56, 57, 58, 59, 60, 61, 62, 63, 64, 65, 66, 67, 68, 69, 70, 71, 72, 73, 74, 75, 76, 77, 78, 79, 80, 81, 82, 83, 84, 85, 86, 87, 88, 89, 90, 110, 111, 112, 102, 103, 104, 105, 106, 107, 113, 114, 115, 116, 117, 118, 119, 120, 121, 108, 109, 122, 123, 124] (by decide +kernel) (by decide +kernel)
set_option maxRecDepth 20000 in
theorem gX8_forget_X1_save : GoodIn wsX8_forget (wsV RX8 71 RX1 yX1_save wsX1_save) := goodIn_app (goodIn_of _ (by decide +kernel)) ggX8_forget_X1_save
set_option maxRecDepth 20000 in
theorem ggX8_forget_X3_swap : GoodIn wsX8_forget wsX3_swap := goodIn_r _ [94, 60, 61, 62, 57, 63, 59, 95, 96, 97, 98, 118] (by decide +kernel) (by decide +kernel)
set_option maxRecDepth 20000 in
theorem gX8_forget_X3_swap : GoodIn wsX8_forget (wsV RX8 103 RX3 yX3_swap wsX3_swap) := goodIn_app (goodIn_of _ (by decide +kernel)) ggX8_forget_X3_swap
theorem dX8_forget_0 : decode cX8_forget 0 = .ok (.iload_n 1, 1) := by decide +kernel
theorem dX8_forget_1 : decode cX8_forget 1 = .ok (.invokestatic 181, 3) := by decide +kernel
theorem dX8_forget_4 : decode cX8_forget 4 = .ok (.aload_n 0, 1) := by decide +kernel
theorem dX8_forget_5 : decode cX8_forget 5 = .ok (.getfield 19, 3) := by decide +kernel
theorem dX8_forget_8 : decode cX8_forget 8 = .ok (.aload_n 0, 1) := by decide +kernel
theorem dX8_forget_9 : decode cX8_forget 9 = .ok (.getfield 10, 3) := by decide +kernel
theorem dX8_forget_12 : decode cX8_forget 12 = .ok (.invokevirtual 71, 3) := by decide +kernel
theorem dX8_forget_15 : decode cX8_forget 15 = .ok (.aload_n 0, 1) := by decide +kernel
theorem dX8_forget_16 : decode cX8_forget 16 = .ok (.getfield 10, 3) := by decide +kernel
theorem dX8_forget_19 : decode cX8_forget 19 = .ok (.getfield 90, 3) := by decide +kernel
theorem dX8_forget_22 : decode cX8_forget 22 = .ok (.getfield 184, 3) := by decide +kernel
theorem dX8_forget_25 : decode cX8_forget 25 = .ok (.iload_n 1, 1) := by decide +kernel
theorem dX8_forget_26 : decode cX8_forget 26 = .ok (.iconst 0, 1) := by decide +kernel
theorem dX8_forget_27 : decode cX8_forget 27 = .ok (.invokevirtual 103, 3) := by decide +kernel
theorem dX8_forget_30 : decode cX8_forget 30 = .ok (.ireturn, 1) := by decide +kernel
set_option maxRecDepth 20000 in
theorem ggX8_undo_X1_restore : GoodIn wsX8_undo wsX1_restore := goodIn_r _ [10, 11, 12, 13, 14, 15, 9, 16, 17, 18, 19, 20, 21, 22, 23, 24, 25, 26, 27, 28, 29, 30, 31, 32, 33, 34, 35, 36, 37, 38, 39, 40, 41, 42, 43, 44, 45, 46, 47, 48, 49, 50, 51, 52, 53, 54, 55, 56, 57, 58, 59, 60, 61, 62, 63, 64, 65, 66, 67, 68, 69, 70, 71, 72, 73, 74, 75, 79, 80, 81, 82, 83, 84, 85, 86, 87, 88, 89, 90, 91, 92, 93, 94, 95, 96, 97, 98, 99, 100, 101] (by decide +kernel) (by decide +kernel)
set_option maxRecDepth 20000 in
theorem gX8_undo_X1_restore : GoodIn wsX8_undo (wsV RX8 218 RX1 yX1_restore wsX1_restore) := goodIn_app (goodIn_of _ (by decide +kernel)) ggX8_undo_X1_restore
theorem dX8_undo_0 : decode cX8_undo 0 = .ok (.aload_n 0, 1) := by decide +kernel
theorem dX8_undo_1 : decode cX8_undo 1 = .ok (.getfield 19, 3) := by decide +kernel
theorem dX8_undo_4 : decode cX8_undo 4 = .ok (.getfield 213, 3) := by decide +kernel
theorem dX8_undo_7 : decode cX8_undo 7 = .ok (.ifCond .ne 13, 3) := by decide +kernel
theorem dX8_undo_10 : decode cX8_undo 10 = .ok (.new 66, 3) := by decide +kernel
theorem dX8_undo_13 : decode cX8_undo 13 = .ok (.dup, 1) := by decide +kernel
theorem dX8_undo_14 : decode cX8_undo 14 = .ok (.ldc 216, 2) := by decide +kernel
theorem dX8_undo_16 : decode cX8_undo 16 = .ok (.invokespecial 70, 3) := by decide +kernel
theorem dX8_undo_19 : decode cX8_undo 19 = .ok (.athrow, 1) := by decide +kernel
theorem dX8_undo_20 : decode cX8_undo 20 = .ok (.aload_n 0, 1) := by decide +kernel
theorem dX8_undo_21 : decode cX8_undo 21 = .ok (.getfield 19, 3) := by decide +kernel
theorem dX8_undo_24 : decode cX8_undo 24 = .ok (.aload_n 0, 1) := by decide +kernel
theorem dX8_undo_25 : decode cX8_undo 25 = .ok (.getfield 10, 3) := by decide +kernel
theorem dX8_undo_28 : decode cX8_undo 28 = .ok (.invokevirtual 218, 3) := by decide +kernel
theorem dX8_undo_31 : decode cX8_undo 31 = .ok (.aload_n 0, 1) := by decide +kernel
theorem dX8_undo_32 : decode cX8_undo 32 = .ok (.getfield 19, 3) := by decide +kernel
theorem dX8_undo_35 : decode cX8_undo 35 = .ok (.getfield 213, 3) := by decide +kernel
theorem dX8_undo_38 : decode cX8_undo 38 = .ok (.ireturn, 1) := by decide +kernel
set_option maxRecDepth 20000 in
theorem ggX8_rowOf_X8_requireRow : GoodIn wsX8_rowOf wsX8_requireRow := goodIn_ca (goodIn_r _ [8, 9, 10, 3, 11, 12, 13, 14, 7, 15, 45, 46, 47, 48, 49, 50, 51, 52, 53, 54, 55, 56, 57, 58] (by decide +kernel) (by decide +kernel)) (goodIn_sub (fun _ h => List.mem_cons_of_mem _ (List.mem_append_right _ h)) (by decide +kernel))
set_option maxRecDepth 20000 in
theorem gX8_rowOf_X8_requireRow : GoodIn wsX8_rowOf (wsV RX8 83 RX8 yX8_requireRow wsX8_requireRow) := goodIn_app (goodIn_of _ (by decide +kernel)) ggX8_rowOf_X8_requireRow
set_option maxRecDepth 20000 in
theorem ggX8_rowOf_X8_isWithin : GoodIn wsX8_rowOf wsX8_isWithin := goodIn_r _ [15] (by decide +kernel) (by decide +kernel)
set_option maxRecDepth 20000 in
theorem gX8_rowOf_X8_isWithin : GoodIn wsX8_rowOf (va_wsS RX8 47 yX8_isWithin wsX8_isWithin) := goodIn_app (goodIn_of _ (by decide +kernel)) ggX8_rowOf_X8_isWithin
set_option maxRecDepth 20000 in
theorem ggX8_rowOf_X6_rowNumber : GoodIn wsX8_rowOf wsX6_rowNumber := goodIn_r _ [20, 21, 22, 23, 24, 25, 26, 27, 28, 29, 30, 31, 32, 33, 34, 19, 35, 36, 37, 38, 39, 40, 41, 42, 43, 44, 48, 49, 50, 51, 52, 53, 54, 55, 56, 57, 58, 59, 60, 61, 62] (by decide +kernel) (by decide +kernel)
set_option maxRecDepth 20000 in
theorem gX8_rowOf_X6_rowNumber : GoodIn wsX8_rowOf (wsV RX8 223 RX6 yX6_rowNumber wsX6_rowNumber) := goodIn_app (goodIn_of _ (by decide +kernel)) ggX8_rowOf_X6_rowNumber
theorem dX8_rowOf_0 : decode cX8_rowOf 0 = .ok (.aload_n 0, 1) := by decide +kernel
theorem dX8_rowOf_1 : decode cX8_rowOf 1 = .ok (.iload_n 1, 1) := by decide +kernel
theorem dX8_rowOf_2 : decode cX8_rowOf 2 = .ok (.invokevirtual 83, 3) := by decide +kernel
theorem dX8_rowOf_5 : decode cX8_rowOf 5 = .ok (.iload_n 2, 1) := by decide +kernel
theorem dX8_rowOf_6 : decode cX8_rowOf 6 = .ok (.iconst 0, 1) := by decide +kernel
theorem dX8_rowOf_7 : decode cX8_rowOf 7 = .ok (.iconst 4, 1) := by decide +kernel
theorem dX8_rowOf_8 : decode cX8_rowOf 8 = .ok (.invokestatic 47, 3) := by decide +kernel
theorem dX8_rowOf_11 : decode cX8_rowOf 11 = .ok (.ifCond .ne 13, 3) := by decide +kernel
theorem dX8_rowOf_14 : decode cX8_rowOf 14 = .ok (.new 51, 3) := by decide +kernel
theorem dX8_rowOf_17 : decode cX8_rowOf 17 = .ok (.dup, 1) := by decide +kernel
theorem dX8_rowOf_18 : decode cX8_rowOf 18 = .ok (.ldc 221, 2) := by decide +kernel
theorem dX8_rowOf_20 : decode cX8_rowOf 20 = .ok (.invokespecial 55, 3) := by decide +kernel
theorem dX8_rowOf_23 : decode cX8_rowOf 23 = .ok (.athrow, 1) := by decide +kernel
theorem dX8_rowOf_24 : decode cX8_rowOf 24 = .ok (.aload_n 0, 1) := by decide +kernel
theorem dX8_rowOf_25 : decode cX8_rowOf 25 = .ok (.getfield 10, 3) := by decide +kernel
theorem dX8_rowOf_28 : decode cX8_rowOf 28 = .ok (.iload_n 1, 1) := by decide +kernel
theorem dX8_rowOf_29 : decode cX8_rowOf 29 = .ok (.iload_n 2, 1) := by decide +kernel
theorem dX8_rowOf_30 : decode cX8_rowOf 30 = .ok (.invokevirtual 223, 3) := by decide +kernel
theorem dX8_rowOf_33 : decode cX8_rowOf 33 = .ok (.ireturn, 1) := by decide +kernel
set_option maxRecDepth 20000 in
theorem ggX8_personOf_X8_requireAsker : GoodIn wsX8_personOf wsX8_requireAsker := goodIn_ca (goodIn_r _ [7, 8, 9, 10, 11, 6, 12, 13, 14, 15] (by decide +kernel) (by decide +kernel)) (goodIn_sub (fun _ h => List.mem_cons_of_mem _ (List.mem_append_right _ h)) (by decide +kernel))
set_option maxRecDepth 20000 in
theorem gX8_personOf_X8_requireAsker : GoodIn wsX8_personOf (va_wsS RX8 181 yX8_requireAsker wsX8_requireAsker) := goodIn_app (goodIn_of _ (by decide +kernel)) ggX8_personOf_X8_requireAsker
set_option maxRecDepth 20000 in
theorem ggX8_personOf_X8_isWithin : GoodIn wsX8_personOf wsX8_isWithin := goodIn_r _ [15] (by decide +kernel) (by decide +kernel)
set_option maxRecDepth 20000 in
theorem gX8_personOf_X8_isWithin : GoodIn wsX8_personOf (va_wsS RX8 47 yX8_isWithin wsX8_isWithin) := goodIn_app (goodIn_of _ (by decide +kernel)) ggX8_personOf_X8_isWithin
set_option maxRecDepth 20000 in
theorem ggX8_personOf_X6_personNumber : GoodIn wsX8_personOf wsX6_personNumber := goodIn_r _ [20, 21, 22, 23, 24, 25, 26, 27, 28, 29, 30, 31, 32, 33, 34, 35, 36, 37, 38, 19, 39, 40, 41, 42, 43, 44, 45, 46, 47, 48, 49, 50, 51, 52, 53, 54, 55, 56, 57, 58, 59, 60, 61, 62, 63, 64, 65, 66, 67, 68, 69, 73, 74, 75, 76, 77, 78, 79, 80, 81, 82, 83, 84, 85, 86, 87, 88, 89, 90, 91, 92] (by decide +kernel) (by decide +kernel)
set_option maxRecDepth 20000 in
theorem gX8_personOf_X6_personNumber : GoodIn wsX8_personOf (wsV RX8 228 RX6 yX6_personNumber wsX6_personNumber) := goodIn_app (goodIn_of _ (by decide +kernel)) ggX8_personOf_X6_personNumber
theorem dX8_personOf_0 : decode cX8_personOf 0 = .ok (.iload_n 1, 1) := by decide +kernel
theorem dX8_personOf_1 : decode cX8_personOf 1 = .ok (.invokestatic 181, 3) := by decide +kernel
theorem dX8_personOf_4 : decode cX8_personOf 4 = .ok (.iload_n 2, 1) := by decide +kernel
theorem dX8_personOf_5 : decode cX8_personOf 5 = .ok (.iconst 0, 1) := by decide +kernel
theorem dX8_personOf_6 : decode cX8_personOf 6 = .ok (.bipush 7, 2) := by decide +kernel
theorem dX8_personOf_8 : decode cX8_personOf 8 = .ok (.invokestatic 47, 3) := by decide +kernel
theorem dX8_personOf_11 : decode cX8_personOf 11 = .ok (.ifCond .ne 13, 3) := by decide +kernel
theorem dX8_personOf_14 : decode cX8_personOf 14 = .ok (.new 51, 3) := by decide +kernel
theorem dX8_personOf_17 : decode cX8_personOf 17 = .ok (.dup, 1) := by decide +kernel
theorem dX8_personOf_18 : decode cX8_personOf 18 = .ok (.ldc 226, 2) := by decide +kernel
theorem dX8_personOf_20 : decode cX8_personOf 20 = .ok (.invokespecial 55, 3) := by decide +kernel
theorem dX8_personOf_23 : decode cX8_personOf 23 = .ok (.athrow, 1) := by decide +kernel
theorem dX8_personOf_24 : decode cX8_personOf 24 = .ok (.aload_n 0, 1) := by decide +kernel
theorem dX8_personOf_25 : decode cX8_personOf 25 = .ok (.getfield 10, 3) := by decide +kernel
theorem dX8_personOf_28 : decode cX8_personOf 28 = .ok (.iload_n 1, 1) := by decide +kernel
theorem dX8_personOf_29 : decode cX8_personOf 29 = .ok (.iload_n 2, 1) := by decide +kernel
theorem dX8_personOf_30 : decode cX8_personOf 30 = .ok (.invokevirtual 228, 3) := by decide +kernel
theorem dX8_personOf_33 : decode cX8_personOf 33 = .ok (.ireturn, 1) := by decide +kernel
set_option maxRecDepth 20000 in
theorem ggX8_veils_X8_requireAsker : GoodIn wsX8_veils wsX8_requireAsker := goodIn_ca (goodIn_r _ [5, 6, 7, 8, 9, 4, 10, 11, 12, 13] (by decide +kernel) (by decide +kernel)) (goodIn_sub (fun _ h => List.mem_cons_of_mem _ (List.mem_append_right _ h)) (by decide +kernel))
set_option maxRecDepth 20000 in
theorem gX8_veils_X8_requireAsker : GoodIn wsX8_veils (va_wsS RX8 181 yX8_requireAsker wsX8_requireAsker) := goodIn_app (goodIn_of _ (by decide +kernel)) ggX8_veils_X8_requireAsker
set_option maxRecDepth 20000 in
theorem ggX8_veils_X8_requireRow : GoodIn wsX8_veils wsX8_requireRow := goodIn_ca (goodIn_r _ [17, 6, 7, 1, 18, 19, 11, 12, 4, 13, 41, 42, 43, 44, 45, 46, 47, 48, 49, 50, 51, 52, 53, 54] (by decide +kernel) (by decide +kernel)) (goodIn_sub (fun _ h => List.mem_cons_of_mem _ (List.mem_append_right _ h)) (by decide +kernel))
set_option maxRecDepth 20000 in
theorem gX8_veils_X8_requireRow : GoodIn wsX8_veils (wsV RX8 83 RX8 yX8_requireRow wsX8_requireRow) := goodIn_app (goodIn_of _ (by decide +kernel)) ggX8_veils_X8_requireRow
set_option maxRecDepth 20000 in
theorem ggX8_veils_X6_veilMask : GoodIn wsX8_veils wsX6_veilMask := goodIn_r _ [24, 25, 26, 27, 28, 29, 30, 31, 32, 33, 34, 35, 36, 37, 38, 39, 40, 44, 45, 46, 47, 48, 49, 50, 51, 52, 53, 54, 55, 56, 57, 58] (by decide +kernel) (by decide +kernel)
set_option maxRecDepth 20000 in
theorem gX8_veils_X6_veilMask : GoodIn wsX8_veils (wsV RX8 231 RX6 yX6_veilMask wsX6_veilMask) := goodIn_app (goodIn_of _ (by decide +kernel)) ggX8_veils_X6_veilMask
theorem dX8_veils_0 : decode cX8_veils 0 = .ok (.iload_n 1, 1) := by decide +kernel
theorem dX8_veils_1 : decode cX8_veils 1 = .ok (.invokestatic 181, 3) := by decide +kernel
theorem dX8_veils_4 : decode cX8_veils 4 = .ok (.aload_n 0, 1) := by decide +kernel
theorem dX8_veils_5 : decode cX8_veils 5 = .ok (.iload_n 2, 1) := by decide +kernel
theorem dX8_veils_6 : decode cX8_veils 6 = .ok (.invokevirtual 83, 3) := by decide +kernel
theorem dX8_veils_9 : decode cX8_veils 9 = .ok (.aload_n 0, 1) := by decide +kernel
theorem dX8_veils_10 : decode cX8_veils 10 = .ok (.getfield 10, 3) := by decide +kernel
theorem dX8_veils_13 : decode cX8_veils 13 = .ok (.iload_n 1, 1) := by decide +kernel
theorem dX8_veils_14 : decode cX8_veils 14 = .ok (.iload_n 2, 1) := by decide +kernel
theorem dX8_veils_15 : decode cX8_veils 15 = .ok (.invokevirtual 231, 3) := by decide +kernel
theorem dX8_veils_18 : decode cX8_veils 18 = .ok (.ireturn, 1) := by decide +kernel
set_option maxRecDepth 20000 in
theorem ggX8_remembered_X8_requireAsker : GoodIn wsX8_remembered wsX8_requireAsker := goodIn_ca (goodIn_r _ [8, 9, 10, 11, 12, 7, 13, 14, 15, 16] (by decide +kernel) (by decide +kernel)) (goodIn_sub (fun _ h => List.mem_cons_of_mem _ (List.mem_append_right _ h)) (by decide +kernel))
set_option maxRecDepth 20000 in
theorem gX8_remembered_X8_requireAsker : GoodIn wsX8_remembered (va_wsS RX8 181 yX8_requireAsker wsX8_requireAsker) := goodIn_app (goodIn_of _ (by decide +kernel)) ggX8_remembered_X8_requireAsker
set_option maxRecDepth 20000 in
theorem ggX8_remembered_X2_maskAt : GoodIn wsX8_remembered wsX2_maskAt := goodIn_r _ [21, 22, 23, 24, 25, 26, 27, 28, 29, 39, 40, 41] (by decide +kernel) (by decide +kernel)
set_option maxRecDepth 20000 in
theorem gX8_remembered_X2_maskAt : GoodIn wsX8_remembered (wsV RX8 236 RX2 yX2_maskAt wsX2_maskAt) := goodIn_app (goodIn_of _ (by decide +kernel)) ggX8_remembered_X2_maskAt
theorem dX8_remembered_0 : decode cX8_remembered 0 = .ok (.iload_n 1, 1) := by decide +kernel
theorem dX8_remembered_1 : decode cX8_remembered 1 = .ok (.invokestatic 181, 3) := by decide +kernel
theorem dX8_remembered_4 : decode cX8_remembered 4 = .ok (.iload_n 2, 1) := by decide +kernel
theorem dX8_remembered_5 : decode cX8_remembered 5 = .ok (.ifCond .ge 13, 3) := by decide +kernel
theorem dX8_remembered_8 : decode cX8_remembered 8 = .ok (.new 51, 3) := by decide +kernel
theorem dX8_remembered_11 : decode cX8_remembered 11 = .ok (.dup, 1) := by decide +kernel
theorem dX8_remembered_12 : decode cX8_remembered 12 = .ok (.ldc 234, 2) := by decide +kernel
theorem dX8_remembered_14 : decode cX8_remembered 14 = .ok (.invokespecial 55, 3) := by decide +kernel
theorem dX8_remembered_17 : decode cX8_remembered 17 = .ok (.athrow, 1) := by decide +kernel
theorem dX8_remembered_18 : decode cX8_remembered 18 = .ok (.aload_n 0, 1) := by decide +kernel
theorem dX8_remembered_19 : decode cX8_remembered 19 = .ok (.getfield 10, 3) := by decide +kernel
theorem dX8_remembered_22 : decode cX8_remembered 22 = .ok (.getfield 90, 3) := by decide +kernel
theorem dX8_remembered_25 : decode cX8_remembered 25 = .ok (.iload_n 1, 1) := by decide +kernel
theorem dX8_remembered_26 : decode cX8_remembered 26 = .ok (.iload_n 2, 1) := by decide +kernel
theorem dX8_remembered_27 : decode cX8_remembered 27 = .ok (.invokevirtual 236, 3) := by decide +kernel
theorem dX8_remembered_30 : decode cX8_remembered 30 = .ok (.ireturn, 1) := by decide +kernel
set_option maxRecDepth 20000 in
theorem ggX8_count_X8_isWithin : GoodIn wsX8_count wsX8_isWithin := goodIn_r _ [6] (by decide +kernel) (by decide +kernel)
set_option maxRecDepth 20000 in
theorem gX8_count_X8_isWithin : GoodIn wsX8_count (va_wsS RX8 47 yX8_isWithin wsX8_isWithin) := goodIn_app (goodIn_of _ (by decide +kernel)) ggX8_count_X8_isWithin
set_option maxRecDepth 20000 in
theorem ggX8_count_X8_total : GoodIn wsX8_count wsX8_total := goodIn_r _ [10, 11, 12, 13, 14, 15, 16, 17, 18, 19, 20, 21, 22, 23, 24, 25, 26, 27, 28, 29, 30, 31, 32, 33, 34, 35, 36, 37, 38, 39, 40, 41, 42, 43, 44, 45, 46, 47, 48, 49, 50, 51, 52, 53, 54, 55, 56, 57, 58, 59, 60, 61, 62, 63, 64, 65, 66, 67, 68, 69, 70, 71, 72, 73, 74, 75, 76, 77, 78, 79, 80, 81, 82, 83, 84, 85, 86, 87, 88, 89, 90, 91, 92, 93, 94, 95, 96, 97, 98, 99] (by decide +kernel) (by decide +kernel)
set_option maxRecDepth 20000 in
theorem gX8_count_X8_total : GoodIn wsX8_count (wsV RX8 241 RX8 yX8_total wsX8_total) := goodIn_app (goodIn_of _ (by decide +kernel)) ggX8_count_X8_total
theorem dX8_count_0 : decode cX8_count 0 = .ok (.iload_n 1, 1) := by decide +kernel
theorem dX8_count_1 : decode cX8_count 1 = .ok (.iconst 0, 1) := by decide +kernel
theorem dX8_count_2 : decode cX8_count 2 = .ok (.bipush 9, 2) := by decide +kernel
theorem dX8_count_4 : decode cX8_count 4 = .ok (.invokestatic 47, 3) := by decide +kernel
theorem dX8_count_7 : decode cX8_count 7 = .ok (.ifCond .ne 13, 3) := by decide +kernel
theorem dX8_count_10 : decode cX8_count 10 = .ok (.new 51, 3) := by decide +kernel
theorem dX8_count_13 : decode cX8_count 13 = .ok (.dup, 1) := by decide +kernel
theorem dX8_count_14 : decode cX8_count 14 = .ok (.ldc 239, 2) := by decide +kernel
theorem dX8_count_16 : decode cX8_count 16 = .ok (.invokespecial 55, 3) := by decide +kernel
theorem dX8_count_19 : decode cX8_count 19 = .ok (.athrow, 1) := by decide +kernel
theorem dX8_count_20 : decode cX8_count 20 = .ok (.aload_n 0, 1) := by decide +kernel
theorem dX8_count_21 : decode cX8_count 21 = .ok (.iload_n 1, 1) := by decide +kernel
theorem dX8_count_22 : decode cX8_count 22 = .ok (.invokevirtual 241, 3) := by decide +kernel
theorem dX8_count_25 : decode cX8_count 25 = .ok (.ireturn, 1) := by decide +kernel
set_option maxRecDepth 20000 in
theorem ggX8_ifAsked_X8_requireQuestion : GoodIn wsX8_ifAsked wsX8_requireQuestion := goodIn_ca (goodIn_ca (goodIn_r _ [6, 7, 8, 1, 2, 9, 10, 5, 11, 12, 13, 14, 15, 16, 17, 18, 19, 20, 21, 22, 23] (by decide +kernel) (by decide +kernel)) (goodIn_sub (fun _ h => List.mem_cons_of_mem _ (List.mem_append_right _ h)) (by decide +kernel))) (goodIn_sub (fun _ h => List.mem_cons_of_mem _ (List.mem_append_left _ (List.mem_append_right _ h))) (by decide +kernel))
set_option maxRecDepth 20000 in
theorem gX8_ifAsked_X8_requireQuestion : GoodIn wsX8_ifAsked (va_wsS RX8 147 yX8_requireQuestion wsX8_requireQuestion) := goodIn_app (goodIn_of _ (by decide +kernel)) ggX8_ifAsked_X8_requireQuestion
set_option maxRecDepth 20000 in
theorem ggX8_ifAsked_X8_isWithin : GoodIn wsX8_ifAsked wsX8_isWithin := goodIn_r _ [14] (by decide +kernel) (by decide +kernel)
set_option maxRecDepth 20000 in
theorem gX8_ifAsked_X8_isWithin : GoodIn wsX8_ifAsked (va_wsS RX8 47 yX8_isWithin wsX8_isWithin) := goodIn_app (goodIn_of _ (by decide +kernel)) ggX8_ifAsked_X8_isWithin
set_option maxRecDepth 20000 in
theorem ggX8_ifAsked_X8_answerIf : GoodIn wsX8_ifAsked wsX8_answerIf := goodIn_r _ [27, 28, 29, 30, 31, 32, 33, 34, 35, 36, 37, 38, 39, 40, 41, 42, 43, 44, 45, 46, 47, 48, 49, 50, 51, 52, 53, 54, 55, 56, 57, 58, 59, 60, 61, 62, 63, 64, 65, 66, 67, 68, 69, 70, 71, 72, 73, 74, 75, 76, 77, 78, 79, 80, 81, 82, 83, 84, 85, 86, 87, 88, 89, 90, 91, 92, 93, 94, 95, 96, 97, 98, 99, 100, 101, 102, 103, 104, 105, 106, 107, 108, 109, 110, 111, 112, 113, 114, 115, 116, 117, 118, 119, 120, 121, 122, 123, 124, 125, 126, 127, 128, 129, 130, 131, 132] (by decide +kernel) (by decide +kernel)
set_option maxRecDepth 20000 in
theorem gX8_ifAsked_X8_answerIf : GoodIn wsX8_ifAsked (wsV RX8 246 RX8 yX8_answerIf wsX8_answerIf) := goodIn_app (goodIn_of _ (by decide +kernel)) ggX8_ifAsked_X8_answerIf
theorem dX8_ifAsked_0 : decode cX8_ifAsked 0 = .ok (.iload_n 1, 1) := by decide +kernel
theorem dX8_ifAsked_1 : decode cX8_ifAsked 1 = .ok (.iload_n 2, 1) := by decide +kernel
theorem dX8_ifAsked_2 : decode cX8_ifAsked 2 = .ok (.iload_n 3, 1) := by decide +kernel
theorem dX8_ifAsked_3 : decode cX8_ifAsked 3 = .ok (.iload 4, 2) := by decide +kernel
theorem dX8_ifAsked_5 : decode cX8_ifAsked 5 = .ok (.invokestatic 147, 3) := by decide +kernel
theorem dX8_ifAsked_8 : decode cX8_ifAsked 8 = .ok (.iload 5, 2) := by decide +kernel
theorem dX8_ifAsked_10 : decode cX8_ifAsked 10 = .ok (.iconst 0, 1) := by decide +kernel
theorem dX8_ifAsked_11 : decode cX8_ifAsked 11 = .ok (.iconst 3, 1) := by decide +kernel
theorem dX8_ifAsked_12 : decode cX8_ifAsked 12 = .ok (.invokestatic 47, 3) := by decide +kernel
theorem dX8_ifAsked_15 : decode cX8_ifAsked 15 = .ok (.ifCond .ne 13, 3) := by decide +kernel
theorem dX8_ifAsked_18 : decode cX8_ifAsked 18 = .ok (.new 51, 3) := by decide +kernel
theorem dX8_ifAsked_21 : decode cX8_ifAsked 21 = .ok (.dup, 1) := by decide +kernel
theorem dX8_ifAsked_22 : decode cX8_ifAsked 22 = .ok (.ldc 244, 2) := by decide +kernel
theorem dX8_ifAsked_24 : decode cX8_ifAsked 24 = .ok (.invokespecial 55, 3) := by decide +kernel
theorem dX8_ifAsked_27 : decode cX8_ifAsked 27 = .ok (.athrow, 1) := by decide +kernel
theorem dX8_ifAsked_28 : decode cX8_ifAsked 28 = .ok (.aload_n 0, 1) := by decide +kernel
theorem dX8_ifAsked_29 : decode cX8_ifAsked 29 = .ok (.iload_n 1, 1) := by decide +kernel
theorem dX8_ifAsked_30 : decode cX8_ifAsked 30 = .ok (.iload_n 2, 1) := by decide +kernel
theorem dX8_ifAsked_31 : decode cX8_ifAsked 31 = .ok (.iload_n 3, 1) := by decide +kernel
theorem dX8_ifAsked_32 : decode cX8_ifAsked 32 = .ok (.iload 4, 2) := by decide +kernel
theorem dX8_ifAsked_34 : decode cX8_ifAsked 34 = .ok (.iload 5, 2) := by decide +kernel
theorem dX8_ifAsked_36 : decode cX8_ifAsked 36 = .ok (.invokevirtual 246, 3) := by decide +kernel
theorem dX8_ifAsked_39 : decode cX8_ifAsked 39 = .ok (.ireturn, 1) := by decide +kernel
set_option maxRecDepth 20000 in
theorem ggX8_hides_X8_requireRule : GoodIn wsX8_hides wsX8_requireRule := goodIn_ca (goodIn_r _ [5, 6, 7, 8, 9, 4, 10] (by decide +kernel) (by decide +kernel)) (goodIn_sub (fun _ h => List.mem_cons_of_mem _ (List.mem_append_right _ h)) (by decide +kernel))
set_option maxRecDepth 20000 in
theorem gX8_hides_X8_requireRule : GoodIn wsX8_hides (va_wsS RX8 136 yX8_requireRule wsX8_requireRule) := goodIn_app (goodIn_of _ (by decide +kernel)) ggX8_hides_X8_requireRule
set_option maxRecDepth 20000 in
theorem ggX8_hides_X6_hiddenByAlone : GoodIn wsX8_hides wsX6_hiddenByAlone := goodIn_r _ [15, 16, 17, 18, 19, 20, 14, 21, 22, 23, 24, 25, 26, 27, 28, 29, 30, 31, 32, 33, 34, 35, 36, 40, 41, 42, 43, 44, 45, 46, 47, 48, 49, 50, 51, 52, 53, 54] (by decide +kernel) (by decide +kernel)
set_option maxRecDepth 20000 in
theorem gX8_hides_X6_hiddenByAlone : GoodIn wsX8_hides (wsV RX8 250 RX6 yX6_hiddenByAlone wsX6_hiddenByAlone) := goodIn_app (goodIn_of _ (by decide +kernel)) ggX8_hides_X6_hiddenByAlone
theorem dX8_hides_0 : decode cX8_hides 0 = .ok (.iload_n 1, 1) := by decide +kernel
theorem dX8_hides_1 : decode cX8_hides 1 = .ok (.invokestatic 136, 3) := by decide +kernel
theorem dX8_hides_4 : decode cX8_hides 4 = .ok (.aload_n 0, 1) := by decide +kernel
theorem dX8_hides_5 : decode cX8_hides 5 = .ok (.getfield 10, 3) := by decide +kernel
theorem dX8_hides_8 : decode cX8_hides 8 = .ok (.iload_n 1, 1) := by decide +kernel
theorem dX8_hides_9 : decode cX8_hides 9 = .ok (.invokevirtual 250, 3) := by decide +kernel
theorem dX8_hides_12 : decode cX8_hides 12 = .ok (.ireturn, 1) := by decide +kernel
set_option maxRecDepth 20000 in
theorem ggX8_openness_X6_shareSeen : GoodIn wsX8_openness wsX6_shareSeen := goodIn_r _ [6, 7, 8, 9, 10, 11, 5, 12, 13, 14, 15, 16, 17, 18, 19, 20, 21, 22, 23, 24, 25, 26, 27, 28, 29, 30, 31, 32, 33, 34, 35, 36, 37, 38, 39, 40, 41, 42, 43, 44, 45, 46, 47, 48, 49, 50, 51, 52, 53, 54, 58, 59, 60, 61, 62, 63, 64, 65, 66, 67, 68, 69, 70, 71, 72] (by decide +kernel) (by decide +kernel)
set_option maxRecDepth 20000 in
theorem gX8_openness_X6_shareSeen : GoodIn wsX8_openness (wsV RX8 264 RX6 yX6_shareSeen wsX6_shareSeen) := goodIn_app (goodIn_of _ (by decide +kernel)) ggX8_openness_X6_shareSeen
theorem dX8_openness_0 : decode cX8_openness 0 = .ok (.aload_n 0, 1) := by decide +kernel
theorem dX8_openness_1 : decode cX8_openness 1 = .ok (.getfield 10, 3) := by decide +kernel
theorem dX8_openness_4 : decode cX8_openness 4 = .ok (.invokevirtual 264, 3) := by decide +kernel
theorem dX8_openness_7 : decode cX8_openness 7 = .ok (.dreturn, 1) := by decide +kernel
set_option maxRecDepth 20000 in
theorem ggX8_total_X3_get : GoodIn wsX8_total wsX3_get := goodIn_r _ [16, 17, 86] (by decide +kernel) (by decide +kernel)
set_option maxRecDepth 20000 in
theorem gX8_total_X3_get : GoodIn wsX8_total (wsV RX8 291 RX3 yX3_get wsX3_get) := goodIn_app (goodIn_of _ (by decide +kernel)) ggX8_total_X3_get
set_option maxRecDepth 20000 in
theorem ggX8_total_X3_sum : GoodIn wsX8_total wsX3_sum := goodIn_r _ [21, 17, 86] (by decide +kernel) (by decide +kernel)
set_option maxRecDepth 20000 in
theorem gX8_total_X3_sum : GoodIn wsX8_total (wsV RX8 306 RX3 yX3_sum wsX3_sum) := goodIn_app (goodIn_of _ (by decide +kernel)) ggX8_total_X3_sum
set_option maxRecDepth 20000 in
theorem ggX8_total_X6_pairsSeen : GoodIn wsX8_total wsX6_pairsSeen := goodIn_r _ [26, 27, 28, 29, 25, 30, 31, 32, 33, 34, 35, 36, 37, 38, 39, 40, 41, 42, 43, 44, 13, 14, 15, 16, 17, 45, 46, 47, 48, 49, 50, 51, 52, 53, 54, 55, 56, 57, 58, 59, 60, 61, 62, 63, 64, 65, 69, 70, 71, 72, 73, 74, 75, 76, 77, 78, 79, 86, 87, 88, 89] (by decide +kernel) (by decide +kernel)
set_option maxRecDepth 20000 in
theorem gX8_total_X6_pairsSeen : GoodIn wsX8_total (wsV RX8 312 RX6 yX6_pairsSeen wsX6_pairsSeen) := goodIn_app (goodIn_of _ (by decide +kernel)) ggX8_total_X6_pairsSeen
theorem dX8_total_0 : decode cX8_total 0 = .ok (.iload_n 1, 1) := by decide +kernel
theorem dX8_total_1 : decode cX8_total 1 = .ok (.tableswitch 166 0 8 #[51, 62, 70, 82, 94, 106, 120, 134, 145], 51) := by decide +kernel
theorem dX8_total_52 : decode cX8_total 52 = .ok (.aload_n 0, 1) := by decide +kernel
theorem dX8_total_53 : decode cX8_total 53 = .ok (.getfield 10, 3) := by decide +kernel
theorem dX8_total_56 : decode cX8_total 56 = .ok (.getfield 56, 3) := by decide +kernel
theorem dX8_total_59 : decode cX8_total 59 = .ok (.getfield 75, 3) := by decide +kernel
theorem dX8_total_62 : decode cX8_total 62 = .ok (.ireturn, 1) := by decide +kernel
theorem dX8_total_63 : decode cX8_total 63 = .ok (.aload_n 0, 1) := by decide +kernel
theorem dX8_total_64 : decode cX8_total 64 = .ok (.getfield 10, 3) := by decide +kernel
theorem dX8_total_67 : decode cX8_total 67 = .ok (.getfield 139, 3) := by decide +kernel
theorem dX8_total_70 : decode cX8_total 70 = .ok (.ireturn, 1) := by decide +kernel
theorem dX8_total_71 : decode cX8_total 71 = .ok (.aload_n 0, 1) := by decide +kernel
theorem dX8_total_72 : decode cX8_total 72 = .ok (.getfield 10, 3) := by decide +kernel
theorem dX8_total_75 : decode cX8_total 75 = .ok (.getfield 144, 3) := by decide +kernel
theorem dX8_total_78 : decode cX8_total 78 = .ok (.iconst 0, 1) := by decide +kernel
theorem dX8_total_79 : decode cX8_total 79 = .ok (.invokevirtual 291, 3) := by decide +kernel
theorem dX8_total_82 : decode cX8_total 82 = .ok (.ireturn, 1) := by decide +kernel
theorem dX8_total_83 : decode cX8_total 83 = .ok (.aload_n 0, 1) := by decide +kernel
theorem dX8_total_84 : decode cX8_total 84 = .ok (.getfield 10, 3) := by decide +kernel
theorem dX8_total_87 : decode cX8_total 87 = .ok (.getfield 144, 3) := by decide +kernel
theorem dX8_total_90 : decode cX8_total 90 = .ok (.iconst 1, 1) := by decide +kernel
theorem dX8_total_91 : decode cX8_total 91 = .ok (.invokevirtual 291, 3) := by decide +kernel
theorem dX8_total_94 : decode cX8_total 94 = .ok (.ireturn, 1) := by decide +kernel
theorem dX8_total_95 : decode cX8_total 95 = .ok (.aload_n 0, 1) := by decide +kernel
theorem dX8_total_96 : decode cX8_total 96 = .ok (.getfield 10, 3) := by decide +kernel
theorem dX8_total_99 : decode cX8_total 99 = .ok (.getfield 144, 3) := by decide +kernel
theorem dX8_total_102 : decode cX8_total 102 = .ok (.iconst 2, 1) := by decide +kernel
theorem dX8_total_103 : decode cX8_total 103 = .ok (.invokevirtual 291, 3) := by decide +kernel
theorem dX8_total_106 : decode cX8_total 106 = .ok (.ireturn, 1) := by decide +kernel
theorem dX8_total_107 : decode cX8_total 107 = .ok (.aload_n 0, 1) := by decide +kernel
theorem dX8_total_108 : decode cX8_total 108 = .ok (.getfield 10, 3) := by decide +kernel
theorem dX8_total_111 : decode cX8_total 111 = .ok (.getfield 157, 3) := by decide +kernel
theorem dX8_total_114 : decode cX8_total 114 = .ok (.getfield 303, 3) := by decide +kernel
theorem dX8_total_117 : decode cX8_total 117 = .ok (.invokevirtual 306, 3) := by decide +kernel
theorem dX8_total_120 : decode cX8_total 120 = .ok (.ireturn, 1) := by decide +kernel
theorem dX8_total_121 : decode cX8_total 121 = .ok (.aload_n 0, 1) := by decide +kernel
theorem dX8_total_122 : decode cX8_total 122 = .ok (.getfield 10, 3) := by decide +kernel
theorem dX8_total_125 : decode cX8_total 125 = .ok (.getfield 157, 3) := by decide +kernel
theorem dX8_total_128 : decode cX8_total 128 = .ok (.getfield 309, 3) := by decide +kernel
theorem dX8_total_131 : decode cX8_total 131 = .ok (.invokevirtual 306, 3) := by decide +kernel
theorem dX8_total_134 : decode cX8_total 134 = .ok (.ireturn, 1) := by decide +kernel
theorem dX8_total_135 : decode cX8_total 135 = .ok (.aload_n 0, 1) := by decide +kernel
theorem dX8_total_136 : decode cX8_total 136 = .ok (.getfield 10, 3) := by decide +kernel
theorem dX8_total_139 : decode cX8_total 139 = .ok (.getfield 157, 3) := by decide +kernel
theorem dX8_total_142 : decode cX8_total 142 = .ok (.getfield 171, 3) := by decide +kernel
theorem dX8_total_145 : decode cX8_total 145 = .ok (.ireturn, 1) := by decide +kernel
theorem dX8_total_146 : decode cX8_total 146 = .ok (.aload_n 0, 1) := by decide +kernel
theorem dX8_total_147 : decode cX8_total 147 = .ok (.getfield 10, 3) := by decide +kernel
theorem dX8_total_150 : decode cX8_total 150 = .ok (.getfield 56, 3) := by decide +kernel
theorem dX8_total_153 : decode cX8_total 153 = .ok (.getfield 75, 3) := by decide +kernel
theorem dX8_total_156 : decode cX8_total 156 = .ok (.iconst 5, 1) := by decide +kernel
theorem dX8_total_157 : decode cX8_total 157 = .ok (.imul, 1) := by decide +kernel
theorem dX8_total_158 : decode cX8_total 158 = .ok (.aload_n 0, 1) := by decide +kernel
theorem dX8_total_159 : decode cX8_total 159 = .ok (.getfield 10, 3) := by decide +kernel
theorem dX8_total_162 : decode cX8_total 162 = .ok (.invokevirtual 312, 3) := by decide +kernel
theorem dX8_total_165 : decode cX8_total 165 = .ok (.isub, 1) := by decide +kernel
theorem dX8_total_166 : decode cX8_total 166 = .ok (.ireturn, 1) := by decide +kernel
theorem dX8_total_167 : decode cX8_total 167 = .ok (.aload_n 0, 1) := by decide +kernel
theorem dX8_total_168 : decode cX8_total 168 = .ok (.getfield 19, 3) := by decide +kernel
theorem dX8_total_171 : decode cX8_total 171 = .ok (.getfield 213, 3) := by decide +kernel
theorem dX8_total_174 : decode cX8_total 174 = .ok (.ireturn, 1) := by decide +kernel
set_option maxRecDepth 20000 in
theorem ggX8_answerIf_X5_howManyMatch : GoodIn wsX8_answerIf wsX5_howManyMatch := goodIn_r _ [8, 9, 10, 11, 12, 7, 13, 14, 15, 16, 17, 18, 19, 20, 21, 95, 96, 97, 98, 99, 100] (by decide +kernel) (by decide +kernel)
set_option maxRecDepth 20000 in
theorem gX8_answerIf_X5_howManyMatch : GoodIn wsX8_answerIf (wsV RX8 315 RX5 yX5_howManyMatch wsX5_howManyMatch) := goodIn_app (goodIn_of _ (by decide +kernel)) ggX8_answerIf_X5_howManyMatch
set_option maxRecDepth 20000 in
theorem ggX8_answerIf_X6_seenRows : GoodIn wsX8_answerIf wsX6_seenRows := goodIn_r _ [26, 27, 28, 29, 11, 12, 7, 13, 14, 15, 16, 17, 18, 19, 20, 21, 30, 31, 32, 25, 33, 34, 35, 36, 37, 38, 39, 40, 41, 42, 43, 89, 90, 91, 92, 93, 94, 95, 96, 97, 98, 99, 100, 101, 102, 103] (by decide +kernel) (by decide +kernel)
set_option maxRecDepth 20000 in
theorem gX8_answerIf_X6_seenRows : GoodIn wsX8_answerIf (wsV RX8 150 RX6 yX6_seenRows wsX6_seenRows) := goodIn_app (goodIn_of _ (by decide +kernel)) ggX8_answerIf_X6_seenRows
set_option maxRecDepth 20000 in
theorem ggX8_answerIf_X6_countAnswer : GoodIn wsX8_answerIf wsX6_countAnswer := goodIn_r _ [47, 48, 49, 50, 51, 52, 25, 53, 54, 55, 56, 57, 58, 59, 60, 43, 17, 18, 19, 20, 21, 61, 62, 63, 64, 65, 66, 67, 68, 69, 70, 71, 72, 73, 74, 75, 76, 89, 90, 91, 92, 93, 94, 100, 104, 105] (by decide +kernel) (by decide +kernel)
set_option maxRecDepth 20000 in
theorem gX8_answerIf_X6_countAnswer : GoodIn wsX8_answerIf (wsV RX8 154 RX6 yX6_countAnswer wsX6_countAnswer) := goodIn_app (goodIn_of _ (by decide +kernel)) ggX8_answerIf_X6_countAnswer
set_option maxRecDepth 20000 in
theorem ggX8_answerIf_X6_sumAnswer : GoodIn wsX8_answerIf wsX6_sumAnswer := goodIn_r _ [80, 27, 28, 40, 81, 82, 83, 84, 43, 17, 18, 19, 20, 21, 50, 51, 52, 25, 53, 48, 54, 55, 56, 57, 58, 59, 60, 89, 90, 91, 92, 93, 94, 95, 96, 97, 98, 99, 100] (by decide +kernel) (by decide +kernel)
set_option maxRecDepth 20000 in
theorem gX8_answerIf_X6_sumAnswer : GoodIn wsX8_answerIf (wsV RX8 177 RX6 yX6_sumAnswer wsX6_sumAnswer) := goodIn_app (goodIn_of _ (by decide +kernel)) ggX8_answerIf_X6_sumAnswer
set_option maxRecDepth 20000 in
theorem ggX8_answerIf_X2_givesAway : GoodIn wsX8_answerIf wsX2_givesAway := goodIn_r _ [65, 66, 67, 17, 18, 19, 20, 21, 68, 69, 70, 64, 71, 72, 73, 55, 56, 57, 58, 59, 60, 104, 105, 100] (by decide +kernel) (by decide +kernel)
set_option maxRecDepth 20000 in
theorem gX8_answerIf_X2_givesAway : GoodIn wsX8_answerIf (wsV RX8 167 RX2 yX2_givesAway wsX2_givesAway) := goodIn_app (goodIn_of _ (by decide +kernel)) ggX8_answerIf_X2_givesAway
theorem dX8_answerIf_0 : decode cX8_answerIf 0 = .ok (.iload 5, 2) := by decide +kernel
theorem dX8_answerIf_2 : decode cX8_answerIf 2 = .ok (.iconst 3, 1) := by decide +kernel
theorem dX8_answerIf_3 : decode cX8_answerIf 3 = .ok (.if_icmp .ne 18, 3) := by decide +kernel
theorem dX8_answerIf_6 : decode cX8_answerIf 6 = .ok (.aload_n 0, 1) := by decide +kernel
theorem dX8_answerIf_7 : decode cX8_answerIf 7 = .ok (.getfield 10, 3) := by decide +kernel
theorem dX8_answerIf_10 : decode cX8_answerIf 10 = .ok (.getfield 56, 3) := by decide +kernel
theorem dX8_answerIf_13 : decode cX8_answerIf 13 = .ok (.iload_n 2, 1) := by decide +kernel
theorem dX8_answerIf_14 : decode cX8_answerIf 14 = .ok (.iload_n 3, 1) := by decide +kernel
theorem dX8_answerIf_15 : decode cX8_answerIf 15 = .ok (.iload 4, 2) := by decide +kernel
theorem dX8_answerIf_17 : decode cX8_answerIf 17 = .ok (.invokevirtual 315, 3) := by decide +kernel
theorem dX8_answerIf_20 : decode cX8_answerIf 20 = .ok (.ireturn, 1) := by decide +kernel
theorem dX8_answerIf_21 : decode cX8_answerIf 21 = .ok (.aload_n 0, 1) := by decide +kernel
theorem dX8_answerIf_22 : decode cX8_answerIf 22 = .ok (.getfield 10, 3) := by decide +kernel
theorem dX8_answerIf_25 : decode cX8_answerIf 25 = .ok (.iload_n 1, 1) := by decide +kernel
theorem dX8_answerIf_26 : decode cX8_answerIf 26 = .ok (.iload_n 2, 1) := by decide +kernel
theorem dX8_answerIf_27 : decode cX8_answerIf 27 = .ok (.iload_n 3, 1) := by decide +kernel
theorem dX8_answerIf_28 : decode cX8_answerIf 28 = .ok (.iload 4, 2) := by decide +kernel
theorem dX8_answerIf_30 : decode cX8_answerIf 30 = .ok (.invokevirtual 150, 3) := by decide +kernel
theorem dX8_answerIf_33 : decode cX8_answerIf 33 = .ok (.istore 6, 2) := by decide +kernel
theorem dX8_answerIf_35 : decode cX8_answerIf 35 = .ok (.iload 5, 2) := by decide +kernel
theorem dX8_answerIf_37 : decode cX8_answerIf 37 = .ok (.lookupswitch 48 #[(0, 27), (1, 38)], 27) := by decide +kernel
theorem dX8_answerIf_64 : decode cX8_answerIf 64 = .ok (.aload_n 0, 1) := by decide +kernel
theorem dX8_answerIf_65 : decode cX8_answerIf 65 = .ok (.getfield 10, 3) := by decide +kernel
theorem dX8_answerIf_68 : decode cX8_answerIf 68 = .ok (.iload_n 1, 1) := by decide +kernel
theorem dX8_answerIf_69 : decode cX8_answerIf 69 = .ok (.iload 6, 2) := by decide +kernel
theorem dX8_answerIf_71 : decode cX8_answerIf 71 = .ok (.invokevirtual 154, 3) := by decide +kernel
theorem dX8_answerIf_74 : decode cX8_answerIf 74 = .ok (.ireturn, 1) := by decide +kernel
theorem dX8_answerIf_75 : decode cX8_answerIf 75 = .ok (.aload_n 0, 1) := by decide +kernel
theorem dX8_answerIf_76 : decode cX8_answerIf 76 = .ok (.getfield 10, 3) := by decide +kernel
theorem dX8_answerIf_79 : decode cX8_answerIf 79 = .ok (.iload 6, 2) := by decide +kernel
theorem dX8_answerIf_81 : decode cX8_answerIf 81 = .ok (.invokevirtual 177, 3) := by decide +kernel
theorem dX8_answerIf_84 : decode cX8_answerIf 84 = .ok (.ireturn, 1) := by decide +kernel
theorem dX8_answerIf_85 : decode cX8_answerIf 85 = .ok (.aload_n 0, 1) := by decide +kernel
theorem dX8_answerIf_86 : decode cX8_answerIf 86 = .ok (.getfield 10, 3) := by decide +kernel
theorem dX8_answerIf_89 : decode cX8_answerIf 89 = .ok (.getfield 90, 3) := by decide +kernel
theorem dX8_answerIf_92 : decode cX8_answerIf 92 = .ok (.iload_n 1, 1) := by decide +kernel
theorem dX8_answerIf_93 : decode cX8_answerIf 93 = .ok (.iload 6, 2) := by decide +kernel
theorem dX8_answerIf_95 : decode cX8_answerIf 95 = .ok (.invokevirtual 167, 3) := by decide +kernel
theorem dX8_answerIf_98 : decode cX8_answerIf 98 = .ok (.ifCond .eq 7, 3) := by decide +kernel
theorem dX8_answerIf_101 : decode cX8_answerIf 101 = .ok (.iconst 1, 1) := by decide +kernel
theorem dX8_answerIf_102 : decode cX8_answerIf 102 = .ok (.goto 4, 3) := by decide +kernel
theorem dX8_answerIf_105 : decode cX8_answerIf 105 = .ok (.iconst 0, 1) := by decide +kernel
theorem dX8_answerIf_106 : decode cX8_answerIf 106 = .ok (.ireturn, 1) := by decide +kernel
theorem dX8_isWithin_0 : decode cX8_isWithin 0 = .ok (.iload_n 0, 1) := by decide +kernel
theorem dX8_isWithin_1 : decode cX8_isWithin 1 = .ok (.iload_n 1, 1) := by decide +kernel
theorem dX8_isWithin_2 : decode cX8_isWithin 2 = .ok (.if_icmp .lt 12, 3) := by decide +kernel
theorem dX8_isWithin_5 : decode cX8_isWithin 5 = .ok (.iload_n 0, 1) := by decide +kernel
theorem dX8_isWithin_6 : decode cX8_isWithin 6 = .ok (.iload_n 2, 1) := by decide +kernel
theorem dX8_isWithin_7 : decode cX8_isWithin 7 = .ok (.if_icmp .gt 7, 3) := by decide +kernel
theorem dX8_isWithin_10 : decode cX8_isWithin 10 = .ok (.iconst 1, 1) := by decide +kernel
theorem dX8_isWithin_11 : decode cX8_isWithin 11 = .ok (.goto 4, 3) := by decide +kernel
theorem dX8_isWithin_14 : decode cX8_isWithin 14 = .ok (.iconst 0, 1) := by decide +kernel
theorem dX8_isWithin_15 : decode cX8_isWithin 15 = .ok (.ireturn, 1) := by decide +kernel
set_option maxRecDepth 20000 in
theorem ggX8_isPerson_X8_isWithin : GoodIn wsX8_isPerson wsX8_isWithin := goodIn_r _ [4] (by decide +kernel) (by decide +kernel)
set_option maxRecDepth 20000 in
theorem gX8_isPerson_X8_isWithin : GoodIn wsX8_isPerson (va_wsS RX8 47 yX8_isWithin wsX8_isWithin) := goodIn_app (goodIn_of _ (by decide +kernel)) ggX8_isPerson_X8_isWithin
theorem dX8_isPerson_0 : decode cX8_isPerson 0 = .ok (.iload_n 0, 1) := by decide +kernel
theorem dX8_isPerson_1 : decode cX8_isPerson 1 = .ok (.iconst 0, 1) := by decide +kernel
theorem dX8_isPerson_2 : decode cX8_isPerson 2 = .ok (.iconst 4, 1) := by decide +kernel
theorem dX8_isPerson_3 : decode cX8_isPerson 3 = .ok (.invokestatic 47, 3) := by decide +kernel
theorem dX8_isPerson_6 : decode cX8_isPerson 6 = .ok (.ireturn, 1) := by decide +kernel
set_option maxRecDepth 20000 in
theorem ggX8_isPlace_X8_isWithin : GoodIn wsX8_isPlace wsX8_isWithin := goodIn_r _ [4] (by decide +kernel) (by decide +kernel)
set_option maxRecDepth 20000 in
theorem gX8_isPlace_X8_isWithin : GoodIn wsX8_isPlace (va_wsS RX8 47 yX8_isWithin wsX8_isWithin) := goodIn_app (goodIn_of _ (by decide +kernel)) ggX8_isPlace_X8_isWithin
theorem dX8_isPlace_0 : decode cX8_isPlace 0 = .ok (.iload_n 0, 1) := by decide +kernel
theorem dX8_isPlace_1 : decode cX8_isPlace 1 = .ok (.iconst 0, 1) := by decide +kernel
theorem dX8_isPlace_2 : decode cX8_isPlace 2 = .ok (.iconst 3, 1) := by decide +kernel
theorem dX8_isPlace_3 : decode cX8_isPlace 3 = .ok (.invokestatic 47, 3) := by decide +kernel
theorem dX8_isPlace_6 : decode cX8_isPlace 6 = .ok (.ireturn, 1) := by decide +kernel
set_option maxRecDepth 20000 in
theorem ggX8_isPlaceOrAll_X8_isPlace : GoodIn wsX8_isPlaceOrAll wsX8_isPlace := goodIn_r _ [4, 5, 6, 3, 7] (by decide +kernel) (by decide +kernel)
set_option maxRecDepth 20000 in
theorem gX8_isPlaceOrAll_X8_isPlace : GoodIn wsX8_isPlaceOrAll (va_wsS RX8 34 yX8_isPlace wsX8_isPlace) := goodIn_app (goodIn_of _ (by decide +kernel)) ggX8_isPlaceOrAll_X8_isPlace
theorem dX8_isPlaceOrAll_0 : decode cX8_isPlaceOrAll 0 = .ok (.iload_n 0, 1) := by decide +kernel
theorem dX8_isPlaceOrAll_1 : decode cX8_isPlaceOrAll 1 = .ok (.iconst (-1), 1) := by decide +kernel
theorem dX8_isPlaceOrAll_2 : decode cX8_isPlaceOrAll 2 = .ok (.if_icmp .eq 10, 3) := by decide +kernel
theorem dX8_isPlaceOrAll_5 : decode cX8_isPlaceOrAll 5 = .ok (.iload_n 0, 1) := by decide +kernel
theorem dX8_isPlaceOrAll_6 : decode cX8_isPlaceOrAll 6 = .ok (.invokestatic 34, 3) := by decide +kernel
theorem dX8_isPlaceOrAll_9 : decode cX8_isPlaceOrAll 9 = .ok (.ifCond .eq 7, 3) := by decide +kernel
theorem dX8_isPlaceOrAll_12 : decode cX8_isPlaceOrAll 12 = .ok (.iconst 1, 1) := by decide +kernel
theorem dX8_isPlaceOrAll_13 : decode cX8_isPlaceOrAll 13 = .ok (.goto 4, 3) := by decide +kernel
theorem dX8_isPlaceOrAll_16 : decode cX8_isPlaceOrAll 16 = .ok (.iconst 0, 1) := by decide +kernel
theorem dX8_isPlaceOrAll_17 : decode cX8_isPlaceOrAll 17 = .ok (.ireturn, 1) := by decide +kernel
set_option maxRecDepth 20000 in
theorem ggX8_isValue_X8_isWithin : GoodIn wsX8_isValue wsX8_isWithin := goodIn_r _ [4] (by decide +kernel) (by decide +kernel)
set_option maxRecDepth 20000 in
theorem gX8_isValue_X8_isWithin : GoodIn wsX8_isValue (va_wsS RX8 47 yX8_isWithin wsX8_isWithin) := goodIn_app (goodIn_of _ (by decide +kernel)) ggX8_isValue_X8_isWithin
theorem dX8_isValue_0 : decode cX8_isValue 0 = .ok (.iload_n 0, 1) := by decide +kernel
theorem dX8_isValue_1 : decode cX8_isValue 1 = .ok (.iconst 0, 1) := by decide +kernel
theorem dX8_isValue_2 : decode cX8_isValue 2 = .ok (.bipush 99, 2) := by decide +kernel
theorem dX8_isValue_4 : decode cX8_isValue 4 = .ok (.invokestatic 47, 3) := by decide +kernel
theorem dX8_isValue_7 : decode cX8_isValue 7 = .ok (.ireturn, 1) := by decide +kernel
set_option maxRecDepth 20000 in
theorem ggX8_requireRow_X8_isWithin : GoodIn wsX8_requireRow wsX8_isWithin := goodIn_r _ [9] (by decide +kernel) (by decide +kernel)
set_option maxRecDepth 20000 in
theorem gX8_requireRow_X8_isWithin : GoodIn wsX8_requireRow (va_wsS RX8 47 yX8_isWithin wsX8_isWithin) := goodIn_app (goodIn_of _ (by decide +kernel)) ggX8_requireRow_X8_isWithin
theorem dX8_requireRow_0 : decode cX8_requireRow 0 = .ok (.iload_n 1, 1) := by decide +kernel
theorem dX8_requireRow_1 : decode cX8_requireRow 1 = .ok (.iconst 0, 1) := by decide +kernel
theorem dX8_requireRow_2 : decode cX8_requireRow 2 = .ok (.aload_n 0, 1) := by decide +kernel
theorem dX8_requireRow_3 : decode cX8_requireRow 3 = .ok (.getfield 10, 3) := by decide +kernel
theorem dX8_requireRow_6 : decode cX8_requireRow 6 = .ok (.getfield 56, 3) := by decide +kernel
theorem dX8_requireRow_9 : decode cX8_requireRow 9 = .ok (.getfield 75, 3) := by decide +kernel
theorem dX8_requireRow_12 : decode cX8_requireRow 12 = .ok (.iconst 1, 1) := by decide +kernel
theorem dX8_requireRow_13 : decode cX8_requireRow 13 = .ok (.isub, 1) := by decide +kernel
theorem dX8_requireRow_14 : decode cX8_requireRow 14 = .ok (.invokestatic 47, 3) := by decide +kernel
theorem dX8_requireRow_17 : decode cX8_requireRow 17 = .ok (.ifCond .ne 14, 3) := by decide +kernel
theorem dX8_requireRow_20 : decode cX8_requireRow 20 = .ok (.new 37, 3) := by decide +kernel
theorem dX8_requireRow_23 : decode cX8_requireRow 23 = .ok (.dup, 1) := by decide +kernel
theorem dX8_requireRow_24 : decode cX8_requireRow 24 = .ok (.ldc_w 319, 3) := by decide +kernel
theorem dX8_requireRow_27 : decode cX8_requireRow 27 = .ok (.invokespecial 41, 3) := by decide +kernel
theorem dX8_requireRow_30 : decode cX8_requireRow 30 = .ok (.athrow, 1) := by decide +kernel
theorem dX8_requireRow_31 : decode cX8_requireRow 31 = .ok (.return_, 1) := by decide +kernel
set_option maxRecDepth 20000 in
theorem ggX8_requireAsker_X8_isPerson : GoodIn wsX8_requireAsker wsX8_isPerson := goodIn_r _ [6, 7, 8, 5, 9] (by decide +kernel) (by decide +kernel)
set_option maxRecDepth 20000 in
theorem gX8_requireAsker_X8_isPerson : GoodIn wsX8_requireAsker (va_wsS RX8 30 yX8_isPerson wsX8_isPerson) := goodIn_app (goodIn_of _ (by decide +kernel)) ggX8_requireAsker_X8_isPerson
theorem dX8_requireAsker_0 : decode cX8_requireAsker 0 = .ok (.iload_n 0, 1) := by decide +kernel
theorem dX8_requireAsker_1 : decode cX8_requireAsker 1 = .ok (.invokestatic 30, 3) := by decide +kernel
theorem dX8_requireAsker_4 : decode cX8_requireAsker 4 = .ok (.ifCond .ne 13, 3) := by decide +kernel
theorem dX8_requireAsker_7 : decode cX8_requireAsker 7 = .ok (.new 37, 3) := by decide +kernel
theorem dX8_requireAsker_10 : decode cX8_requireAsker 10 = .ok (.dup, 1) := by decide +kernel
theorem dX8_requireAsker_11 : decode cX8_requireAsker 11 = .ok (.ldc 129, 2) := by decide +kernel
theorem dX8_requireAsker_13 : decode cX8_requireAsker 13 = .ok (.invokespecial 41, 3) := by decide +kernel
theorem dX8_requireAsker_16 : decode cX8_requireAsker 16 = .ok (.athrow, 1) := by decide +kernel
theorem dX8_requireAsker_17 : decode cX8_requireAsker 17 = .ok (.return_, 1) := by decide +kernel
set_option maxRecDepth 20000 in
theorem ggX8_requireRule_X8_isWithin : GoodIn wsX8_requireRule wsX8_isWithin := goodIn_r _ [6] (by decide +kernel) (by decide +kernel)
set_option maxRecDepth 20000 in
theorem gX8_requireRule_X8_isWithin : GoodIn wsX8_requireRule (va_wsS RX8 47 yX8_isWithin wsX8_isWithin) := goodIn_app (goodIn_of _ (by decide +kernel)) ggX8_requireRule_X8_isWithin
theorem dX8_requireRule_0 : decode cX8_requireRule 0 = .ok (.iload_n 0, 1) := by decide +kernel
theorem dX8_requireRule_1 : decode cX8_requireRule 1 = .ok (.iconst 0, 1) := by decide +kernel
theorem dX8_requireRule_2 : decode cX8_requireRule 2 = .ok (.iconst 3, 1) := by decide +kernel
theorem dX8_requireRule_3 : decode cX8_requireRule 3 = .ok (.invokestatic 47, 3) := by decide +kernel
theorem dX8_requireRule_6 : decode cX8_requireRule 6 = .ok (.ifCond .ne 14, 3) := by decide +kernel
theorem dX8_requireRule_9 : decode cX8_requireRule 9 = .ok (.new 37, 3) := by decide +kernel
theorem dX8_requireRule_12 : decode cX8_requireRule 12 = .ok (.dup, 1) := by decide +kernel
theorem dX8_requireRule_13 : decode cX8_requireRule 13 = .ok (.ldc_w 321, 3) := by decide +kernel
theorem dX8_requireRule_16 : decode cX8_requireRule 16 = .ok (.invokespecial 41, 3) := by decide +kernel
theorem dX8_requireRule_19 : decode cX8_requireRule 19 = .ok (.athrow, 1) := by decide +kernel
theorem dX8_requireRule_20 : decode cX8_requireRule 20 = .ok (.return_, 1) := by decide +kernel
set_option maxRecDepth 20000 in
theorem ggX8_requireQuestion_X8_isPerson : GoodIn wsX8_requireQuestion wsX8_isPerson := goodIn_r _ [8, 9, 10, 7, 11] (by decide +kernel) (by decide +kernel)
set_option maxRecDepth 20000 in
theorem gX8_requireQuestion_X8_isPerson : GoodIn wsX8_requireQuestion (va_wsS RX8 30 yX8_isPerson wsX8_isPerson) := goodIn_app (goodIn_of _ (by decide +kernel)) ggX8_requireQuestion_X8_isPerson
set_option maxRecDepth 20000 in
theorem ggX8_requireQuestion_X8_isPlaceOrAll : GoodIn wsX8_requireQuestion wsX8_isPlaceOrAll := goodIn_r _ [14, 15, 16, 7, 17, 9, 10, 11] (by decide +kernel) (by decide +kernel)
set_option maxRecDepth 20000 in
theorem gX8_requireQuestion_X8_isPlaceOrAll : GoodIn wsX8_requireQuestion (va_wsS RX8 256 yX8_isPlaceOrAll wsX8_isPlaceOrAll) := goodIn_app (goodIn_of _ (by decide +kernel)) ggX8_requireQuestion_X8_isPlaceOrAll
set_option maxRecDepth 20000 in
theorem ggX8_requireQuestion_X8_isValue : GoodIn wsX8_requireQuestion wsX8_isValue := goodIn_r _ [20, 9, 10, 7, 11] (by decide +kernel) (by decide +kernel)
set_option maxRecDepth 20000 in
theorem gX8_requireQuestion_X8_isValue : GoodIn wsX8_requireQuestion (va_wsS RX8 44 yX8_isValue wsX8_isValue) := goodIn_app (goodIn_of _ (by decide +kernel)) ggX8_requireQuestion_X8_isValue
set_option maxRecDepth 20000 in
theorem ggX8_requireQuestion_X8_isWithin : GoodIn wsX8_requireQuestion wsX8_isWithin := goodIn_r _ [11] (by decide +kernel) (by decide +kernel)
set_option maxRecDepth 20000 in
theorem gX8_requireQuestion_X8_isWithin : GoodIn wsX8_requireQuestion (va_wsS RX8 47 yX8_isWithin wsX8_isWithin) := goodIn_app (goodIn_of _ (by decide +kernel)) ggX8_requireQuestion_X8_isWithin
theorem dX8_requireQuestion_0 : decode cX8_requireQuestion 0 = .ok (.iload_n 0, 1) := by decide +kernel
theorem dX8_requireQuestion_1 : decode cX8_requireQuestion 1 = .ok (.invokestatic 30, 3) := by decide +kernel
theorem dX8_requireQuestion_4 : decode cX8_requireQuestion 4 = .ok (.ifCond .eq 10, 3) := by decide +kernel
theorem dX8_requireQuestion_7 : decode cX8_requireQuestion 7 = .ok (.iload_n 1, 1) := by decide +kernel
theorem dX8_requireQuestion_8 : decode cX8_requireQuestion 8 = .ok (.invokestatic 256, 3) := by decide +kernel
theorem dX8_requireQuestion_11 : decode cX8_requireQuestion 11 = .ok (.ifCond .ne 14, 3) := by decide +kernel
theorem dX8_requireQuestion_14 : decode cX8_requireQuestion 14 = .ok (.new 37, 3) := by decide +kernel
theorem dX8_requireQuestion_17 : decode cX8_requireQuestion 17 = .ok (.dup, 1) := by decide +kernel
theorem dX8_requireQuestion_18 : decode cX8_requireQuestion 18 = .ok (.ldc_w 259, 3) := by decide +kernel
theorem dX8_requireQuestion_21 : decode cX8_requireQuestion 21 = .ok (.invokespecial 41, 3) := by decide +kernel
theorem dX8_requireQuestion_24 : decode cX8_requireQuestion 24 = .ok (.athrow, 1) := by decide +kernel
theorem dX8_requireQuestion_25 : decode cX8_requireQuestion 25 = .ok (.iload_n 2, 1) := by decide +kernel
theorem dX8_requireQuestion_26 : decode cX8_requireQuestion 26 = .ok (.invokestatic 44, 3) := by decide +kernel
theorem dX8_requireQuestion_29 : decode cX8_requireQuestion 29 = .ok (.ifCond .eq 13, 3) := by decide +kernel
theorem dX8_requireQuestion_32 : decode cX8_requireQuestion 32 = .ok (.iload_n 3, 1) := by decide +kernel
theorem dX8_requireQuestion_33 : decode cX8_requireQuestion 33 = .ok (.iload_n 2, 1) := by decide +kernel
theorem dX8_requireQuestion_34 : decode cX8_requireQuestion 34 = .ok (.bipush 99, 2) := by decide +kernel
theorem dX8_requireQuestion_36 : decode cX8_requireQuestion 36 = .ok (.invokestatic 47, 3) := by decide +kernel
theorem dX8_requireQuestion_39 : decode cX8_requireQuestion 39 = .ok (.ifCond .ne 14, 3) := by decide +kernel
theorem dX8_requireQuestion_42 : decode cX8_requireQuestion 42 = .ok (.new 51, 3) := by decide +kernel
theorem dX8_requireQuestion_45 : decode cX8_requireQuestion 45 = .ok (.dup, 1) := by decide +kernel
theorem dX8_requireQuestion_46 : decode cX8_requireQuestion 46 = .ok (.ldc_w 323, 3) := by decide +kernel
theorem dX8_requireQuestion_49 : decode cX8_requireQuestion 49 = .ok (.invokespecial 55, 3) := by decide +kernel
theorem dX8_requireQuestion_52 : decode cX8_requireQuestion 52 = .ok (.athrow, 1) := by decide +kernel
theorem dX8_requireQuestion_53 : decode cX8_requireQuestion 53 = .ok (.return_, 1) := by decide +kernel
theorem dJ6_bitCount_0f7a4_0 : decode cJ6_bitCount_0f7a4 0 = .ok (.iload_n 0, 1) := by decide +kernel
theorem dJ6_bitCount_0f7a4_1 : decode cJ6_bitCount_0f7a4 1 = .ok (.iload_n 0, 1) := by decide +kernel
theorem dJ6_bitCount_0f7a4_2 : decode cJ6_bitCount_0f7a4 2 = .ok (.iconst 1, 1) := by decide +kernel
theorem dJ6_bitCount_0f7a4_3 : decode cJ6_bitCount_0f7a4 3 = .ok (.iushr, 1) := by decide +kernel
theorem dJ6_bitCount_0f7a4_4 : decode cJ6_bitCount_0f7a4 4 = .ok (.ldc_w 265, 3) := by decide +kernel
theorem dJ6_bitCount_0f7a4_7 : decode cJ6_bitCount_0f7a4 7 = .ok (.iand, 1) := by decide +kernel
theorem dJ6_bitCount_0f7a4_8 : decode cJ6_bitCount_0f7a4 8 = .ok (.isub, 1) := by decide +kernel
theorem dJ6_bitCount_0f7a4_9 : decode cJ6_bitCount_0f7a4 9 = .ok (.istore_n 0, 1) := by decide +kernel
theorem dJ6_bitCount_0f7a4_10 : decode cJ6_bitCount_0f7a4 10 = .ok (.iload_n 0, 1) := by decide +kernel
theorem dJ6_bitCount_0f7a4_11 : decode cJ6_bitCount_0f7a4 11 = .ok (.ldc_w 266, 3) := by decide +kernel
theorem dJ6_bitCount_0f7a4_14 : decode cJ6_bitCount_0f7a4 14 = .ok (.iand, 1) := by decide +kernel
theorem dJ6_bitCount_0f7a4_15 : decode cJ6_bitCount_0f7a4 15 = .ok (.iload_n 0, 1) := by decide +kernel
theorem dJ6_bitCount_0f7a4_16 : decode cJ6_bitCount_0f7a4 16 = .ok (.iconst 2, 1) := by decide +kernel
theorem dJ6_bitCount_0f7a4_17 : decode cJ6_bitCount_0f7a4 17 = .ok (.iushr, 1) := by decide +kernel
theorem dJ6_bitCount_0f7a4_18 : decode cJ6_bitCount_0f7a4 18 = .ok (.ldc_w 266, 3) := by decide +kernel
theorem dJ6_bitCount_0f7a4_21 : decode cJ6_bitCount_0f7a4 21 = .ok (.iand, 1) := by decide +kernel
theorem dJ6_bitCount_0f7a4_22 : decode cJ6_bitCount_0f7a4 22 = .ok (.iadd, 1) := by decide +kernel
theorem dJ6_bitCount_0f7a4_23 : decode cJ6_bitCount_0f7a4 23 = .ok (.istore_n 0, 1) := by decide +kernel
theorem dJ6_bitCount_0f7a4_24 : decode cJ6_bitCount_0f7a4 24 = .ok (.iload_n 0, 1) := by decide +kernel
theorem dJ6_bitCount_0f7a4_25 : decode cJ6_bitCount_0f7a4 25 = .ok (.iload_n 0, 1) := by decide +kernel
theorem dJ6_bitCount_0f7a4_26 : decode cJ6_bitCount_0f7a4 26 = .ok (.iconst 4, 1) := by decide +kernel
theorem dJ6_bitCount_0f7a4_27 : decode cJ6_bitCount_0f7a4 27 = .ok (.iushr, 1) := by decide +kernel
theorem dJ6_bitCount_0f7a4_28 : decode cJ6_bitCount_0f7a4 28 = .ok (.iadd, 1) := by decide +kernel
theorem dJ6_bitCount_0f7a4_29 : decode cJ6_bitCount_0f7a4 29 = .ok (.ldc_w 267, 3) := by decide +kernel
theorem dJ6_bitCount_0f7a4_32 : decode cJ6_bitCount_0f7a4 32 = .ok (.iand, 1) := by decide +kernel
theorem dJ6_bitCount_0f7a4_33 : decode cJ6_bitCount_0f7a4 33 = .ok (.istore_n 0, 1) := by decide +kernel
theorem dJ6_bitCount_0f7a4_34 : decode cJ6_bitCount_0f7a4 34 = .ok (.iload_n 0, 1) := by decide +kernel
theorem dJ6_bitCount_0f7a4_35 : decode cJ6_bitCount_0f7a4 35 = .ok (.iload_n 0, 1) := by decide +kernel
theorem dJ6_bitCount_0f7a4_36 : decode cJ6_bitCount_0f7a4 36 = .ok (.bipush 8, 2) := by decide +kernel
theorem dJ6_bitCount_0f7a4_38 : decode cJ6_bitCount_0f7a4 38 = .ok (.iushr, 1) := by decide +kernel
theorem dJ6_bitCount_0f7a4_39 : decode cJ6_bitCount_0f7a4 39 = .ok (.iadd, 1) := by decide +kernel
theorem dJ6_bitCount_0f7a4_40 : decode cJ6_bitCount_0f7a4 40 = .ok (.istore_n 0, 1) := by decide +kernel
theorem dJ6_bitCount_0f7a4_41 : decode cJ6_bitCount_0f7a4 41 = .ok (.iload_n 0, 1) := by decide +kernel
theorem dJ6_bitCount_0f7a4_42 : decode cJ6_bitCount_0f7a4 42 = .ok (.iload_n 0, 1) := by decide +kernel
theorem dJ6_bitCount_0f7a4_43 : decode cJ6_bitCount_0f7a4 43 = .ok (.bipush 16, 2) := by decide +kernel
theorem dJ6_bitCount_0f7a4_45 : decode cJ6_bitCount_0f7a4 45 = .ok (.iushr, 1) := by decide +kernel
theorem dJ6_bitCount_0f7a4_46 : decode cJ6_bitCount_0f7a4 46 = .ok (.iadd, 1) := by decide +kernel
theorem dJ6_bitCount_0f7a4_47 : decode cJ6_bitCount_0f7a4 47 = .ok (.istore_n 0, 1) := by decide +kernel
theorem dJ6_bitCount_0f7a4_48 : decode cJ6_bitCount_0f7a4 48 = .ok (.iload_n 0, 1) := by decide +kernel
theorem dJ6_bitCount_0f7a4_49 : decode cJ6_bitCount_0f7a4 49 = .ok (.bipush 63, 2) := by decide +kernel
theorem dJ6_bitCount_0f7a4_51 : decode cJ6_bitCount_0f7a4 51 = .ok (.iand, 1) := by decide +kernel
theorem dJ6_bitCount_0f7a4_52 : decode cJ6_bitCount_0f7a4 52 = .ok (.ireturn, 1) := by decide +kernel
theorem dJ9_max_7cf53_0 : decode cJ9_max_7cf53 0 = .ok (.iload_n 0, 1) := by decide +kernel
theorem dJ9_max_7cf53_1 : decode cJ9_max_7cf53 1 = .ok (.iload_n 1, 1) := by decide +kernel
theorem dJ9_max_7cf53_2 : decode cJ9_max_7cf53 2 = .ok (.if_icmp .lt 7, 3) := by decide +kernel
theorem dJ9_max_7cf53_5 : decode cJ9_max_7cf53 5 = .ok (.iload_n 0, 1) := by decide +kernel
theorem dJ9_max_7cf53_6 : decode cJ9_max_7cf53 6 = .ok (.goto 4, 3) := by decide +kernel
theorem dJ9_max_7cf53_9 : decode cJ9_max_7cf53 9 = .ok (.iload_n 1, 1) := by decide +kernel
theorem dJ9_max_7cf53_10 : decode cJ9_max_7cf53 10 = .ok (.ireturn, 1) := by decide +kernel
theorem dJ9_min_7cf53_0 : decode cJ9_min_7cf53 0 = .ok (.iload_n 0, 1) := by decide +kernel
theorem dJ9_min_7cf53_1 : decode cJ9_min_7cf53 1 = .ok (.iload_n 1, 1) := by decide +kernel
theorem dJ9_min_7cf53_2 : decode cJ9_min_7cf53 2 = .ok (.if_icmp .gt 7, 3) := by decide +kernel
theorem dJ9_min_7cf53_5 : decode cJ9_min_7cf53 5 = .ok (.iload_n 0, 1) := by decide +kernel
theorem dJ9_min_7cf53_6 : decode cJ9_min_7cf53 6 = .ok (.goto 4, 3) := by decide +kernel
theorem dJ9_min_7cf53_9 : decode cJ9_min_7cf53 9 = .ok (.iload_n 1, 1) := by decide +kernel
theorem dJ9_min_7cf53_10 : decode cJ9_min_7cf53 10 = .ok (.ireturn, 1) := by decide +kernel
theorem dL_cell_0 : decode cL_cell 0 = .ok (.iload_n 1, 1) := by decide +kernel
theorem dL_cell_1 : decode cL_cell 1 = .ok (.aload_n 0, 1) := by decide +kernel
theorem dL_cell_2 : decode cL_cell 2 = .ok (.arraylength, 1) := by decide +kernel
theorem dL_cell_3 : decode cL_cell 3 = .ok (.if_icmp .ge 9, 3) := by decide +kernel
theorem dL_cell_6 : decode cL_cell 6 = .ok (.aload_n 0, 1) := by decide +kernel
theorem dL_cell_7 : decode cL_cell 7 = .ok (.iload_n 1, 1) := by decide +kernel
theorem dL_cell_8 : decode cL_cell 8 = .ok (.iaload, 1) := by decide +kernel
theorem dL_cell_9 : decode cL_cell 9 = .ok (.goto 15, 3) := by decide +kernel
theorem dL_cell_12 : decode cL_cell 12 = .ok (.sipush 7919, 3) := by decide +kernel
theorem dL_cell_15 : decode cL_cell 15 = .ok (.iload_n 1, 1) := by decide +kernel
theorem dL_cell_16 : decode cL_cell 16 = .ok (.iconst 3, 1) := by decide +kernel
theorem dL_cell_17 : decode cL_cell 17 = .ok (.iadd, 1) := by decide +kernel
theorem dL_cell_18 : decode cL_cell 18 = .ok (.imul, 1) := by decide +kernel
theorem dL_cell_19 : decode cL_cell 19 = .ok (.iload_n 1, 1) := by decide +kernel
theorem dL_cell_20 : decode cL_cell 20 = .ok (.bipush 11, 2) := by decide +kernel
theorem dL_cell_22 : decode cL_cell 22 = .ok (.iadd, 1) := by decide +kernel
theorem dL_cell_23 : decode cL_cell 23 = .ok (.imul, 1) := by decide +kernel
theorem dL_cell_24 : decode cL_cell 24 = .ok (.ireturn, 1) := by decide +kernel
theorem dL_low_0 : decode cL_low 0 = .ok (.iload_n 0, 1) := by decide +kernel
theorem dL_low_1 : decode cL_low 1 = .ok (.ldc 7, 2) := by decide +kernel
theorem dL_low_3 : decode cL_low 3 = .ok (.iand, 1) := by decide +kernel
theorem dL_low_4 : decode cL_low 4 = .ok (.iload_n 1, 1) := by decide +kernel
theorem dL_low_5 : decode cL_low 5 = .ok (.irem, 1) := by decide +kernel
theorem dL_low_6 : decode cL_low 6 = .ok (.ireturn, 1) := by decide +kernel
