theorem dX8_person_1 : decode cX8_person 1 = .ok (.invokestatic 30, 3) := by decide +kernel
theorem dX8_person_4 : decode cX8_person 4 = .ok (.ifCond .eq 10, 3) := by decide +kernel
theorem dX8_person_7 : decode cX8_person 7 = .ok (.iload_n 3, 1) := by decide +kernel
theorem dX8_person_8 : decode cX8_person 8 = .ok (.invokestatic 34, 3) := by decide +kernel
theorem dX8_person_11 : decode cX8_person 11 = .ok (.ifCond .ne 13, 3) := by decide +kernel
theorem dX8_person_14 : decode cX8_person 14 = .ok (.new 37, 3) := by decide +kernel
theorem dX8_person_17 : decode cX8_person 17 = .ok (.dup, 1) := by decide +kernel
theorem dX8_person_18 : decode cX8_person 18 = .ok (.ldc 109, 2) := by decide +kernel
theorem dX8_person_20 : decode cX8_person 20 = .ok (.invokespecial 41, 3) := by decide +kernel
theorem dX8_person_23 : decode cX8_person 23 = .ok (.athrow, 1) := by decide +kernel
theorem dX8_person_24 : decode cX8_person 24 = .ok (.iload_n 2, 1) := by decide +kernel
theorem dX8_person_25 : decode cX8_person 25 = .ok (.iconst 0, 1) := by decide +kernel
theorem dX8_person_26 : decode cX8_person 26 = .ok (.iconst 3, 1) := by decide +kernel
theorem dX8_person_27 : decode cX8_person 27 = .ok (.invokestatic 47, 3) := by decide +kernel
theorem dX8_person_30 : decode cX8_person 30 = .ok (.ifCond .ne 13, 3) := by decide +kernel
theorem dX8_person_33 : decode cX8_person 33 = .ok (.new 51, 3) := by decide +kernel
theorem dX8_person_36 : decode cX8_person 36 = .ok (.dup, 1) := by decide +kernel
theorem dX8_person_37 : decode cX8_person 37 = .ok (.ldc 111, 2) := by decide +kernel
theorem dX8_person_39 : decode cX8_person 39 = .ok (.invokespecial 55, 3) := by decide +kernel
theorem dX8_person_42 : decode cX8_person 42 = .ok (.athrow, 1) := by decide +kernel
theorem dX8_person_43 : decode cX8_person 43 = .ok (.aload_n 0, 1) := by decide +kernel
theorem dX8_person_44 : decode cX8_person 44 = .ok (.getfield 19, 3) := by decide +kernel
theorem dX8_person_47 : decode cX8_person 47 = .ok (.aload_n 0, 1) := by decide +kernel
theorem dX8_person_48 : decode cX8_person 48 = .ok (.getfield 10, 3) := by decide +kernel
theorem dX8_person_51 : decode cX8_person 51 = .ok (.invokevirtual 71, 3) := by decide +kernel
theorem dX8_person_54 : decode cX8_person 54 = .ok (.aload_n 0, 1) := by decide +kernel
theorem dX8_person_55 : decode cX8_person 55 = .ok (.getfield 10, 3) := by decide +kernel
theorem dX8_person_58 : decode cX8_person 58 = .ok (.getfield 113, 3) := by decide +kernel
theorem dX8_person_61 : decode cX8_person 61 = .ok (.getfield 117, 3) := by decide +kernel
theorem dX8_person_64 : decode cX8_person 64 = .ok (.iload_n 1, 1) := by decide +kernel
theorem dX8_person_65 : decode cX8_person 65 = .ok (.iload_n 3, 1) := by decide +kernel
theorem dX8_person_66 : decode cX8_person 66 = .ok (.invokevirtual 122, 3) := by decide +kernel
theorem dX8_person_69 : decode cX8_person 69 = .ok (.aload_n 0, 1) := by decide +kernel
theorem dX8_person_70 : decode cX8_person 70 = .ok (.getfield 10, 3) := by decide +kernel
theorem dX8_person_73 : decode cX8_person 73 = .ok (.getfield 113, 3) := by decide +kernel
theorem dX8_person_76 : decode cX8_person 76 = .ok (.getfield 126, 3) := by decide +kernel
theorem dX8_person_79 : decode cX8_person 79 = .ok (.iload_n 1, 1) := by decide +kernel
theorem dX8_person_80 : decode cX8_person 80 = .ok (.iload_n 2, 1) := by decide +kernel
theorem dX8_person_81 : decode cX8_person 81 = .ok (.invokevirtual 103, 3) := by decide +kernel
theorem dX8_person_84 : decode cX8_person 84 = .ok (.ireturn, 1) := by decide +kernel
set_option maxRecDepth 20000 in
theorem ggX8_master_X8_isPerson : GoodIn wsX8_master wsX8_isPerson := goodIn_r _ [12, 13, 14, 11, 15] (by decide +kernel) (by decide +kernel)
set_option maxRecDepth 20000 in
theorem gX8_master_X8_isPerson : GoodIn wsX8_master (va_wsS RX8 30 yX8_isPerson wsX8_isPerson) := goodIn_app (goodIn_of _ (by decide +kernel)) ggX8_master_X8_isPerson
set_option maxRecDepth 20000 in
theorem ggX8_master_X1_save : GoodIn wsX8_master wsX1_save := goodIn_r _ [20, 21, 22, 23, 24, 25, 26, 27, 28, 29, 19, 30, 31, 32, 33, 34, 35, 36, 37, 38, 39, 40, 41, 42, 43, 44, 45, 46, 47, 48, 49, 50, 51, 52, 53, 54, 55, 56, 57, 58, 59, 60, 61, 62, 63, 64, 65, 66, 67, 68, 69, 70, 71, 72, 73, 74, 75, 76, 77, 78, 79, 80, 81, 82, 83, 84, 85, 86, 87, 88, 89, 110, 111, 112, 101, 102, 103, 104, 105, 106, 113, 114, 115, 116, 117, 118, 107, 108, 109, 119, 120, 121, 122, 123] (by decide +kernel) (by decide +kernel)
set_option maxRecDepth 20000 in
theorem gX8_master_X1_save : GoodIn wsX8_master (wsV RX8 71 RX1 yX1_save wsX1_save) := goodIn_app (goodIn_of _ (by decide +kernel)) ggX8_master_X1_save
set_option maxRecDepth 20000 in
theorem ggX8_master_X3_swap : GoodIn wsX8_master wsX3_swap := goodIn_r _ [93, 59, 60, 61, 56, 62, 58, 94, 95, 96, 97, 118] (by decide +kernel) (by decide +kernel)
set_option maxRecDepth 20000 in
theorem gX8_master_X3_swap : GoodIn wsX8_master (wsV RX8 103 RX3 yX3_swap wsX3_swap) := goodIn_app (goodIn_of _ (by decide +kernel)) ggX8_master_X3_swap
theorem dX8_master_0 : decode cX8_master 0 = .ok (.iload_n 1, 1) := by decide +kernel
theorem dX8_master_1 : decode cX8_master 1 = .ok (.invokestatic 30, 3) := by decide +kernel
theorem dX8_master_4 : decode cX8_master 4 = .ok (.ifCond .eq 15, 3) := by decide +kernel
theorem dX8_master_7 : decode cX8_master 7 = .ok (.iload_n 2, 1) := by decide +kernel
theorem dX8_master_8 : decode cX8_master 8 = .ok (.iconst (-1), 1) := by decide +kernel
theorem dX8_master_9 : decode cX8_master 9 = .ok (.if_icmp .eq 20, 3) := by decide +kernel
theorem dX8_master_12 : decode cX8_master 12 = .ok (.iload_n 2, 1) := by decide +kernel
theorem dX8_master_13 : decode cX8_master 13 = .ok (.invokestatic 30, 3) := by decide +kernel
theorem dX8_master_16 : decode cX8_master 16 = .ok (.ifCond .ne 13, 3) := by decide +kernel
theorem dX8_master_19 : decode cX8_master 19 = .ok (.new 37, 3) := by decide +kernel
theorem dX8_master_22 : decode cX8_master 22 = .ok (.dup, 1) := by decide +kernel
theorem dX8_master_23 : decode cX8_master 23 = .ok (.ldc 129, 2) := by decide +kernel
theorem dX8_master_25 : decode cX8_master 25 = .ok (.invokespecial 41, 3) := by decide +kernel
theorem dX8_master_28 : decode cX8_master 28 = .ok (.athrow, 1) := by decide +kernel
theorem dX8_master_29 : decode cX8_master 29 = .ok (.iload_n 1, 1) := by decide +kernel
theorem dX8_master_30 : decode cX8_master 30 = .ok (.iload_n 2, 1) := by decide +kernel
theorem dX8_master_31 : decode cX8_master 31 = .ok (.if_icmp .ne 13, 3) := by decide +kernel
theorem dX8_master_34 : decode cX8_master 34 = .ok (.new 51, 3) := by decide +kernel
theorem dX8_master_37 : decode cX8_master 37 = .ok (.dup, 1) := by decide +kernel
theorem dX8_master_38 : decode cX8_master 38 = .ok (.ldc 131, 2) := by decide +kernel
theorem dX8_master_40 : decode cX8_master 40 = .ok (.invokespecial 55, 3) := by decide +kernel
theorem dX8_master_43 : decode cX8_master 43 = .ok (.athrow, 1) := by decide +kernel
theorem dX8_master_44 : decode cX8_master 44 = .ok (.aload_n 0, 1) := by decide +kernel
theorem dX8_master_45 : decode cX8_master 45 = .ok (.getfield 19, 3) := by decide +kernel
theorem dX8_master_48 : decode cX8_master 48 = .ok (.aload_n 0, 1) := by decide +kernel
theorem dX8_master_49 : decode cX8_master 49 = .ok (.getfield 10, 3) := by decide +kernel
theorem dX8_master_52 : decode cX8_master 52 = .ok (.invokevirtual 71, 3) := by decide +kernel
theorem dX8_master_55 : decode cX8_master 55 = .ok (.aload_n 0, 1) := by decide +kernel
theorem dX8_master_56 : decode cX8_master 56 = .ok (.getfield 10, 3) := by decide +kernel
theorem dX8_master_59 : decode cX8_master 59 = .ok (.getfield 113, 3) := by decide +kernel
theorem dX8_master_62 : decode cX8_master 62 = .ok (.getfield 133, 3) := by decide +kernel
theorem dX8_master_65 : decode cX8_master 65 = .ok (.iload_n 1, 1) := by decide +kernel
theorem dX8_master_66 : decode cX8_master 66 = .ok (.iload_n 2, 1) := by decide +kernel
theorem dX8_master_67 : decode cX8_master 67 = .ok (.invokevirtual 103, 3) := by decide +kernel
theorem dX8_master_70 : decode cX8_master 70 = .ok (.ireturn, 1) := by decide +kernel
set_option maxRecDepth 20000 in
theorem ggX8_force_X8_requireRule : GoodIn wsX8_force wsX8_requireRule := goodIn_ca (goodIn_r _ [7, 8, 9, 10, 11, 6, 12] (by decide +kernel) (by decide +kernel)) (goodIn_sub (fun _ h => List.mem_cons_of_mem _ (List.mem_append_right _ h)) (by decide +kernel))
set_option maxRecDepth 20000 in
theorem gX8_force_X8_requireRule : GoodIn wsX8_force (va_wsS RX8 136 yX8_requireRule wsX8_requireRule) := goodIn_app (goodIn_of _ (by decide +kernel)) ggX8_force_X8_requireRule
set_option maxRecDepth 20000 in
theorem ggX8_force_X1_save : GoodIn wsX8_force wsX1_save := goodIn_r _ [17, 18, 19, 20, 21, 22, 23, 24, 25, 26, 16, 27, 28, 29, 30, 31, 32, 33, 34, 35, 36, 37, 38, 39, 40, 41, 42, 43, 44, 45, 46, 47, 48, 49, 50, 51, 52, 53, 54, 55, 56, 57, 58, 59, 60, 61, 62, 63, 64, 65, 66, 67, 68, 69, 70, 71, 72, 73, 74, 75, 76, 77, 78, 79, 80, 81, 82, 83, 84, 85, 86, 96, 97, 98, 90, 91, 92, 93, 94, 95, 99, 100, 101, 102, 103, 104, 105, 106, 107, 108, 109, 110, 111, 112] (by decide +kernel) (by decide +kernel)
set_option maxRecDepth 20000 in
theorem gX8_force_X1_save : GoodIn wsX8_force (wsV RX8 71 RX1 yX1_save wsX1_save) := goodIn_app (goodIn_of _ (by decide +kernel)) ggX8_force_X1_save
theorem dX8_force_0 : decode cX8_force 0 = .ok (.iload_n 1, 1) := by decide +kernel
theorem dX8_force_1 : decode cX8_force 1 = .ok (.invokestatic 136, 3) := by decide +kernel
theorem dX8_force_4 : decode cX8_force 4 = .ok (.aload_n 0, 1) := by decide +kernel
theorem dX8_force_5 : decode cX8_force 5 = .ok (.getfield 19, 3) := by decide +kernel
theorem dX8_force_8 : decode cX8_force 8 = .ok (.aload_n 0, 1) := by decide +kernel
theorem dX8_force_9 : decode cX8_force 9 = .ok (.getfield 10, 3) := by decide +kernel
theorem dX8_force_12 : decode cX8_force 12 = .ok (.invokevirtual 71, 3) := by decide +kernel
theorem dX8_force_15 : decode cX8_force 15 = .ok (.aload_n 0, 1) := by decide +kernel
theorem dX8_force_16 : decode cX8_force 16 = .ok (.getfield 10, 3) := by decide +kernel
theorem dX8_force_19 : decode cX8_force 19 = .ok (.getfield 139, 3) := by decide +kernel
theorem dX8_force_22 : decode cX8_force 22 = .ok (.iload_n 1, 1) := by decide +kernel
theorem dX8_force_23 : decode cX8_force 23 = .ok (.ishr, 1) := by decide +kernel
theorem dX8_force_24 : decode cX8_force 24 = .ok (.iconst 1, 1) := by decide +kernel
theorem dX8_force_25 : decode cX8_force 25 = .ok (.iand, 1) := by decide +kernel
theorem dX8_force_26 : decode cX8_force 26 = .ok (.istore_n 3, 1) := by decide +kernel
theorem dX8_force_27 : decode cX8_force 27 = .ok (.iconst 1, 1) := by decide +kernel
theorem dX8_force_28 : decode cX8_force 28 = .ok (.iload_n 1, 1) := by decide +kernel
theorem dX8_force_29 : decode cX8_force 29 = .ok (.ishl, 1) := by decide +kernel
theorem dX8_force_30 : decode cX8_force 30 = .ok (.istore 4, 2) := by decide +kernel
theorem dX8_force_32 : decode cX8_force 32 = .ok (.aload_n 0, 1) := by decide +kernel
theorem dX8_force_33 : decode cX8_force 33 = .ok (.getfield 10, 3) := by decide +kernel
theorem dX8_force_36 : decode cX8_force 36 = .ok (.iload_n 2, 1) := by decide +kernel
theorem dX8_force_37 : decode cX8_force 37 = .ok (.ifCond .eq 16, 3) := by decide +kernel
theorem dX8_force_40 : decode cX8_force 40 = .ok (.aload_n 0, 1) := by decide +kernel
theorem dX8_force_41 : decode cX8_force 41 = .ok (.getfield 10, 3) := by decide +kernel
theorem dX8_force_44 : decode cX8_force 44 = .ok (.getfield 139, 3) := by decide +kernel
theorem dX8_force_47 : decode cX8_force 47 = .ok (.iload 4, 2) := by decide +kernel
theorem dX8_force_49 : decode cX8_force 49 = .ok (.ior, 1) := by decide +kernel
theorem dX8_force_50 : decode cX8_force 50 = .ok (.goto 15, 3) := by decide +kernel
theorem dX8_force_53 : decode cX8_force 53 = .ok (.aload_n 0, 1) := by decide +kernel
theorem dX8_force_54 : decode cX8_force 54 = .ok (.getfield 10, 3) := by decide +kernel
theorem dX8_force_57 : decode cX8_force 57 = .ok (.getfield 139, 3) := by decide +kernel
theorem dX8_force_60 : decode cX8_force 60 = .ok (.iload 4, 2) := by decide +kernel
theorem dX8_force_62 : decode cX8_force 62 = .ok (.iconst (-1), 1) := by decide +kernel
theorem dX8_force_63 : decode cX8_force 63 = .ok (.ixor, 1) := by decide +kernel
theorem dX8_force_64 : decode cX8_force 64 = .ok (.iand, 1) := by decide +kernel
theorem dX8_force_65 : decode cX8_force 65 = .ok (.putfield 139, 3) := by decide +kernel
theorem dX8_force_68 : decode cX8_force 68 = .ok (.iload_n 3, 1) := by decide +kernel
theorem dX8_force_69 : decode cX8_force 69 = .ok (.ireturn, 1) := by decide +kernel
set_option maxRecDepth 20000 in
theorem ggX8_set_X8_isWithin : GoodIn wsX8_set wsX8_isWithin := goodIn_r _ [11] (by decide +kernel) (by decide +kernel)
set_option maxRecDepth 20000 in
theorem gX8_set_X8_isWithin : GoodIn wsX8_set (va_wsS RX8 47 yX8_isWithin wsX8_isWithin) := goodIn_app (goodIn_of _ (by decide +kernel)) ggX8_set_X8_isWithin
set_option maxRecDepth 20000 in
theorem ggX8_set_X1_save : GoodIn wsX8_set wsX1_save := goodIn_r _ [16, 17, 18, 19, 20, 21, 22, 23, 24, 25, 15, 26, 27, 28, 29, 30, 31, 32, 33, 34, 35, 36, 37, 38, 39, 40, 41, 42, 43, 44, 45, 46, 47, 48, 49, 50, 51, 52, 53, 54, 55, 56, 57, 58, 59, 60, 61, 62, 63, 64, 65, 66, 67, 68, 69, 70, 71, 72, 73, 74, 75, 76, 77, 78, 79, 80, 81, 82, 83, 84, 85, 103, 104, 105, 97, 98, 99, 100, 101, 102, 106, 107, 108, 109, 110, 111, 112, 113, 114, 115, 116, 117, 118, 119] (by decide +kernel) (by decide +kernel)
set_option maxRecDepth 20000 in
theorem gX8_set_X1_save : GoodIn wsX8_set (wsV RX8 71 RX1 yX1_save wsX1_save) := goodIn_app (goodIn_of _ (by decide +kernel)) ggX8_set_X1_save
set_option maxRecDepth 20000 in
theorem ggX8_set_X3_swap : GoodIn wsX8_set wsX3_swap := goodIn_r _ [89, 55, 56, 57, 52, 58, 54, 90, 91, 92, 93, 111] (by decide +kernel) (by decide +kernel)
set_option maxRecDepth 20000 in
theorem gX8_set_X3_swap : GoodIn wsX8_set (wsV RX8 103 RX3 yX3_swap wsX3_swap) := goodIn_app (goodIn_of _ (by decide +kernel)) ggX8_set_X3_swap
theorem dX8_set_0 : decode cX8_set 0 = .ok (.iload_n 1, 1) := by decide +kernel
theorem dX8_set_1 : decode cX8_set 1 = .ok (.iconst 0, 1) := by decide +kernel
theorem dX8_set_2 : decode cX8_set 2 = .ok (.iconst 2, 1) := by decide +kernel
theorem dX8_set_3 : decode cX8_set 3 = .ok (.invokestatic 47, 3) := by decide +kernel
theorem dX8_set_6 : decode cX8_set 6 = .ok (.ifCond .ne 13, 3) := by decide +kernel
theorem dX8_set_9 : decode cX8_set 9 = .ok (.new 37, 3) := by decide +kernel
theorem dX8_set_12 : decode cX8_set 12 = .ok (.dup, 1) := by decide +kernel
theorem dX8_set_13 : decode cX8_set 13 = .ok (.ldc 142, 2) := by decide +kernel
theorem dX8_set_15 : decode cX8_set 15 = .ok (.invokespecial 41, 3) := by decide +kernel
theorem dX8_set_18 : decode cX8_set 18 = .ok (.athrow, 1) := by decide +kernel
theorem dX8_set_19 : decode cX8_set 19 = .ok (.iload_n 1, 1) := by decide +kernel
theorem dX8_set_20 : decode cX8_set 20 = .ok (.iconst 2, 1) := by decide +kernel
theorem dX8_set_21 : decode cX8_set 21 = .ok (.if_icmp .ne 12, 3) := by decide +kernel
theorem dX8_set_24 : decode cX8_set 24 = .ok (.iload_n 2, 1) := by decide +kernel
theorem dX8_set_25 : decode cX8_set 25 = .ok (.iconst 0, 1) := by decide +kernel
theorem dX8_set_26 : decode cX8_set 26 = .ok (.iconst 1, 1) := by decide +kernel
theorem dX8_set_27 : decode cX8_set 27 = .ok (.invokestatic 47, 3) := by decide +kernel
theorem dX8_set_30 : decode cX8_set 30 = .ok (.goto 10, 3) := by decide +kernel
theorem dX8_set_33 : decode cX8_set 33 = .ok (.iload_n 2, 1) := by decide +kernel
theorem dX8_set_34 : decode cX8_set 34 = .ok (.iconst 1, 1) := by decide +kernel
theorem dX8_set_35 : decode cX8_set 35 = .ok (.bipush 9, 2) := by decide +kernel
theorem dX8_set_37 : decode cX8_set 37 = .ok (.invokestatic 47, 3) := by decide +kernel
theorem dX8_set_40 : decode cX8_set 40 = .ok (.istore_n 3, 1) := by decide +kernel
theorem dX8_set_41 : decode cX8_set 41 = .ok (.iload_n 3, 1) := by decide +kernel
theorem dX8_set_42 : decode cX8_set 42 = .ok (.ifCond .ne 13, 3) := by decide +kernel
theorem dX8_set_45 : decode cX8_set 45 = .ok (.new 51, 3) := by decide +kernel
theorem dX8_set_48 : decode cX8_set 48 = .ok (.dup, 1) := by decide +kernel
theorem dX8_set_49 : decode cX8_set 49 = .ok (.ldc 97, 2) := by decide +kernel
theorem dX8_set_51 : decode cX8_set 51 = .ok (.invokespecial 55, 3) := by decide +kernel
theorem dX8_set_54 : decode cX8_set 54 = .ok (.athrow, 1) := by decide +kernel
theorem dX8_set_55 : decode cX8_set 55 = .ok (.aload_n 0, 1) := by decide +kernel
theorem dX8_set_56 : decode cX8_set 56 = .ok (.getfield 19, 3) := by decide +kernel
theorem dX8_set_59 : decode cX8_set 59 = .ok (.aload_n 0, 1) := by decide +kernel
theorem dX8_set_60 : decode cX8_set 60 = .ok (.getfield 10, 3) := by decide +kernel
theorem dX8_set_63 : decode cX8_set 63 = .ok (.invokevirtual 71, 3) := by decide +kernel
theorem dX8_set_66 : decode cX8_set 66 = .ok (.aload_n 0, 1) := by decide +kernel
theorem dX8_set_67 : decode cX8_set 67 = .ok (.getfield 10, 3) := by decide +kernel
theorem dX8_set_70 : decode cX8_set 70 = .ok (.getfield 144, 3) := by decide +kernel
theorem dX8_set_73 : decode cX8_set 73 = .ok (.iload_n 1, 1) := by decide +kernel
theorem dX8_set_74 : decode cX8_set 74 = .ok (.iload_n 2, 1) := by decide +kernel
theorem dX8_set_75 : decode cX8_set 75 = .ok (.invokevirtual 103, 3) := by decide +kernel
theorem dX8_set_78 : decode cX8_set 78 = .ok (.ireturn, 1) := by decide +kernel
set_option maxRecDepth 20000 in
theorem ggX8_ask_X8_requireQuestion : GoodIn wsX8_ask wsX8_requireQuestion := goodIn_ca (goodIn_ca (goodIn_r _ [9, 10, 11, 12, 13, 14, 15, 8, 16, 17, 18, 19, 20, 21, 22, 23, 24, 25, 26, 27, 28] (by decide +kernel) (by decide +kernel)) (goodIn_sub (fun _ h => List.mem_cons_of_mem _ (List.mem_append_left _ (List.mem_append_right _ h))) (by decide +kernel))) (goodIn_sub (fun _ h => List.mem_cons_of_mem _ (List.mem_append_right _ h)) (by decide +kernel))
set_option maxRecDepth 20000 in
theorem gX8_ask_X8_requireQuestion : GoodIn wsX8_ask (va_wsS RX8 147 yX8_requireQuestion wsX8_requireQuestion) := goodIn_app (goodIn_of _ (by decide +kernel)) ggX8_ask_X8_requireQuestion
set_option maxRecDepth 20000 in
theorem ggX8_ask_X1_save : GoodIn wsX8_ask wsX1_save := goodIn_r _ [33, 34, 35, 36, 37, 38, 39, 40, 41, 42, 32, 43, 44, 45, 46, 47, 48, 49, 50, 51, 52, 53, 54, 55, 56, 57, 58, 59, 60, 61, 62, 63, 64, 65, 66, 67, 68, 69, 70, 71, 72, 73, 74, 75, 76, 77, 78, 79, 80, 81, 82, 83, 84, 85, 86, 87, 88, 89, 90, 91, 92, 93, 94, 95, 96, 97, 98, 99, 100, 101, 102, 185, 186, 187, 176, 177, 178, 179, 180, 181, 188, 189, 190, 191, 192, 193, 194, 195, 196, 197, 198, 182, 183, 184] (by decide +kernel) (by decide +kernel)
set_option maxRecDepth 20000 in
theorem gX8_ask_X1_save : GoodIn wsX8_ask (wsV RX8 71 RX1 yX1_save wsX1_save) := goodIn_app (goodIn_of _ (by decide +kernel)) ggX8_ask_X1_save
set_option maxRecDepth 20000 in
theorem ggX8_ask_X6_seenRows : GoodIn wsX8_ask wsX6_seenRows := goodIn_r _ [106, 50, 107, 108, 109, 110, 59, 111, 63, 62, 112, 73, 74, 69, 75, 71, 113, 114, 115, 48, 116, 117, 118, 51, 119, 120, 121, 122, 123, 55, 124, 176, 177, 178, 179, 180, 181, 188, 189, 190, 191, 192, 193, 194, 195, 196] (by decide +kernel) (by decide +kernel)
set_option maxRecDepth 20000 in
theorem gX8_ask_X6_seenRows : GoodIn wsX8_ask (wsV RX8 150 RX6 yX6_seenRows wsX6_seenRows) := goodIn_app (goodIn_of _ (by decide +kernel)) ggX8_ask_X6_seenRows
set_option maxRecDepth 20000 in
theorem ggX8_ask_X6_countAnswer : GoodIn wsX8_ask wsX6_countAnswer := goodIn_r _ [128, 54, 52, 129, 130, 131, 48, 132, 133, 134, 135, 136, 137, 138, 139, 124, 73, 74, 69, 75, 71, 140, 141, 142, 88, 143, 91, 144, 145, 146, 147, 148, 90, 149, 150, 151, 152, 176, 177, 178, 179, 180, 181, 193, 197, 198] (by decide +kernel) (by decide +kernel)
set_option maxRecDepth 20000 in
theorem gX8_ask_X6_countAnswer : GoodIn wsX8_ask (wsV RX8 154 RX6 yX6_countAnswer wsX6_countAnswer) := goodIn_app (goodIn_of _ (by decide +kernel)) ggX8_ask_X6_countAnswer
set_option maxRecDepth 20000 in
theorem ggX8_ask_X7_note : GoodIn wsX8_ask wsX7_note := goodIn_r _ [156, 98, 99, 157, 73, 74, 69, 75, 71, 158, 159, 160, 161, 182, 183, 184, 193] (by decide +kernel) (by decide +kernel)
set_option maxRecDepth 20000 in
theorem gX8_ask_X7_note : GoodIn wsX8_ask (wsV RX8 161 RX7 yX7_note wsX7_note) := goodIn_app (goodIn_of _ (by decide +kernel)) ggX8_ask_X7_note
set_option maxRecDepth 20000 in
theorem ggX8_ask_X2_givesAway : GoodIn wsX8_ask wsX2_givesAway := goodIn_r _ [143, 91, 144, 73, 74, 69, 75, 71, 145, 146, 147, 88, 148, 90, 149, 134, 135, 136, 137, 138, 139, 197, 198, 193] (by decide +kernel) (by decide +kernel)
set_option maxRecDepth 20000 in
theorem gX8_ask_X2_givesAway : GoodIn wsX8_ask (wsV RX8 167 RX2 yX2_givesAway wsX2_givesAway) := goodIn_app (goodIn_of _ (by decide +kernel)) ggX8_ask_X2_givesAway
set_option maxRecDepth 20000 in
theorem ggX8_ask_X2_keep : GoodIn wsX8_ask wsX2_keep := goodIn_r _ [166, 91, 90, 144, 73, 74, 69, 75, 71, 167, 168, 169, 170, 72, 171, 159, 160, 161, 172, 197, 198, 193] (by decide +kernel) (by decide +kernel)
set_option maxRecDepth 20000 in
theorem gX8_ask_X2_keep : GoodIn wsX8_ask (wsV RX8 174 RX2 yX2_keep wsX2_keep) := goodIn_app (goodIn_of _ (by decide +kernel)) ggX8_ask_X2_keep
theorem dX8_ask_0 : decode cX8_ask 0 = .ok (.iload_n 1, 1) := by decide +kernel
theorem dX8_ask_1 : decode cX8_ask 1 = .ok (.iload_n 2, 1) := by decide +kernel
theorem dX8_ask_2 : decode cX8_ask 2 = .ok (.iload_n 3, 1) := by decide +kernel
theorem dX8_ask_3 : decode cX8_ask 3 = .ok (.iload 4, 2) := by decide +kernel
theorem dX8_ask_5 : decode cX8_ask 5 = .ok (.invokestatic 147, 3) := by decide +kernel
theorem dX8_ask_8 : decode cX8_ask 8 = .ok (.aload_n 0, 1) := by decide +kernel
theorem dX8_ask_9 : decode cX8_ask 9 = .ok (.getfield 19, 3) := by decide +kernel
theorem dX8_ask_12 : decode cX8_ask 12 = .ok (.aload_n 0, 1) := by decide +kernel
theorem dX8_ask_13 : decode cX8_ask 13 = .ok (.getfield 10, 3) := by decide +kernel
theorem dX8_ask_16 : decode cX8_ask 16 = .ok (.invokevirtual 71, 3) := by decide +kernel
theorem dX8_ask_19 : decode cX8_ask 19 = .ok (.aload_n 0, 1) := by decide +kernel
theorem dX8_ask_20 : decode cX8_ask 20 = .ok (.getfield 10, 3) := by decide +kernel
theorem dX8_ask_23 : decode cX8_ask 23 = .ok (.iload_n 1, 1) := by decide +kernel
theorem dX8_ask_24 : decode cX8_ask 24 = .ok (.iload_n 2, 1) := by decide +kernel
theorem dX8_ask_25 : decode cX8_ask 25 = .ok (.iload_n 3, 1) := by decide +kernel
theorem dX8_ask_26 : decode cX8_ask 26 = .ok (.iload 4, 2) := by decide +kernel
theorem dX8_ask_28 : decode cX8_ask 28 = .ok (.invokevirtual 150, 3) := by decide +kernel
theorem dX8_ask_31 : decode cX8_ask 31 = .ok (.istore 5, 2) := by decide +kernel
theorem dX8_ask_33 : decode cX8_ask 33 = .ok (.aload_n 0, 1) := by decide +kernel
theorem dX8_ask_34 : decode cX8_ask 34 = .ok (.getfield 10, 3) := by decide +kernel
theorem dX8_ask_37 : decode cX8_ask 37 = .ok (.iload_n 1, 1) := by decide +kernel
theorem dX8_ask_38 : decode cX8_ask 38 = .ok (.iload 5, 2) := by decide +kernel
theorem dX8_ask_40 : decode cX8_ask 40 = .ok (.invokevirtual 154, 3) := by decide +kernel
theorem dX8_ask_43 : decode cX8_ask 43 = .ok (.istore 6, 2) := by decide +kernel
theorem dX8_ask_45 : decode cX8_ask 45 = .ok (.aload_n 0, 1) := by decide +kernel
theorem dX8_ask_46 : decode cX8_ask 46 = .ok (.getfield 10, 3) := by decide +kernel
theorem dX8_ask_49 : decode cX8_ask 49 = .ok (.getfield 157, 3) := by decide +kernel
theorem dX8_ask_52 : decode cX8_ask 52 = .ok (.iload_n 1, 1) := by decide +kernel
theorem dX8_ask_53 : decode cX8_ask 53 = .ok (.iload 6, 2) := by decide +kernel
theorem dX8_ask_55 : decode cX8_ask 55 = .ok (.iconst (-1), 1) := by decide +kernel
theorem dX8_ask_56 : decode cX8_ask 56 = .ok (.if_icmp .ne 7, 3) := by decide +kernel
theorem dX8_ask_59 : decode cX8_ask 59 = .ok (.iconst 1, 1) := by decide +kernel
theorem dX8_ask_60 : decode cX8_ask 60 = .ok (.goto 4, 3) := by decide +kernel
theorem dX8_ask_63 : decode cX8_ask 63 = .ok (.iconst 0, 1) := by decide +kernel
theorem dX8_ask_64 : decode cX8_ask 64 = .ok (.invokevirtual 161, 3) := by decide +kernel
theorem dX8_ask_67 : decode cX8_ask 67 = .ok (.iload 6, 2) := by decide +kernel
theorem dX8_ask_69 : decode cX8_ask 69 = .ok (.iconst (-1), 1) := by decide +kernel
theorem dX8_ask_70 : decode cX8_ask 70 = .ok (.if_icmp .eq 48, 3) := by decide +kernel
theorem dX8_ask_73 : decode cX8_ask 73 = .ok (.aload_n 0, 1) := by decide +kernel
theorem dX8_ask_74 : decode cX8_ask 74 = .ok (.getfield 10, 3) := by decide +kernel
theorem dX8_ask_77 : decode cX8_ask 77 = .ok (.getfield 90, 3) := by decide +kernel
theorem dX8_ask_80 : decode cX8_ask 80 = .ok (.iload_n 1, 1) := by decide +kernel
theorem dX8_ask_81 : decode cX8_ask 81 = .ok (.iload 5, 2) := by decide +kernel
theorem dX8_ask_83 : decode cX8_ask 83 = .ok (.invokevirtual 167, 3) := by decide +kernel
theorem dX8_ask_86 : decode cX8_ask 86 = .ok (.ifCond .eq 19, 3) := by decide +kernel
theorem dX8_ask_89 : decode cX8_ask 89 = .ok (.aload_n 0, 1) := by decide +kernel
theorem dX8_ask_90 : decode cX8_ask 90 = .ok (.getfield 10, 3) := by decide +kernel
theorem dX8_ask_93 : decode cX8_ask 93 = .ok (.getfield 157, 3) := by decide +kernel
theorem dX8_ask_96 : decode cX8_ask 96 = .ok (.dup, 1) := by decide +kernel
theorem dX8_ask_97 : decode cX8_ask 97 = .ok (.getfield 171, 3) := by decide +kernel
theorem dX8_ask_100 : decode cX8_ask 100 = .ok (.iconst 1, 1) := by decide +kernel
theorem dX8_ask_101 : decode cX8_ask 101 = .ok (.iadd, 1) := by decide +kernel
theorem dX8_ask_102 : decode cX8_ask 102 = .ok (.putfield 171, 3) := by decide +kernel
theorem dX8_ask_105 : decode cX8_ask 105 = .ok (.aload_n 0, 1) := by decide +kernel
theorem dX8_ask_106 : decode cX8_ask 106 = .ok (.getfield 10, 3) := by decide +kernel
theorem dX8_ask_109 : decode cX8_ask 109 = .ok (.getfield 90, 3) := by decide +kernel
theorem dX8_ask_112 : decode cX8_ask 112 = .ok (.iload_n 1, 1) := by decide +kernel
theorem dX8_ask_113 : decode cX8_ask 113 = .ok (.iload 5, 2) := by decide +kernel
theorem dX8_ask_115 : decode cX8_ask 115 = .ok (.invokevirtual 174, 3) := by decide +kernel
theorem dX8_ask_118 : decode cX8_ask 118 = .ok (.iload 6, 2) := by decide +kernel
theorem dX8_ask_120 : decode cX8_ask 120 = .ok (.ireturn, 1) := by decide +kernel
set_option maxRecDepth 20000 in
theorem ggX8_askSum_X8_requireQuestion : GoodIn wsX8_askSum wsX8_requireQuestion := goodIn_ca (goodIn_ca (goodIn_r _ [7, 8, 9, 10, 11, 12, 13, 6, 14, 15, 16, 17, 18, 19, 20, 21, 22, 23, 24, 25, 26] (by decide +kernel) (by decide +kernel)) (goodIn_sub (fun _ h => List.mem_cons_of_mem _ (List.mem_append_left _ (List.mem_append_right _ h))) (by decide +kernel))) (goodIn_sub (fun _ h => List.mem_cons_of_mem _ (List.mem_append_right _ h)) (by decide +kernel))
set_option maxRecDepth 20000 in
theorem gX8_askSum_X8_requireQuestion : GoodIn wsX8_askSum (va_wsS RX8 147 yX8_requireQuestion wsX8_requireQuestion) := goodIn_app (goodIn_of _ (by decide +kernel)) ggX8_askSum_X8_requireQuestion
set_option maxRecDepth 20000 in
theorem ggX8_askSum_X1_save : GoodIn wsX8_askSum wsX1_save := goodIn_r _ [31, 32, 33, 34, 35, 36, 37, 38, 39, 40, 30, 41, 42, 43, 44, 45, 46, 47, 48, 49, 50, 51, 52, 53, 54, 55, 56, 57, 58, 59, 60, 61, 62, 63, 64, 65, 66, 67, 68, 69, 70, 71, 72, 73, 74, 75, 76, 77, 78, 79, 80, 81, 82, 83, 84, 85, 86, 87, 88, 89, 90, 91, 92, 93, 94, 95, 96, 97, 98, 99, 100, 159, 160, 161, 153, 154, 155, 156, 157, 158, 162, 163, 164, 165, 166, 167, 168, 169, 170, 171, 172, 173, 174, 175] (by decide +kernel) (by decide +kernel)
set_option maxRecDepth 20000 in
theorem gX8_askSum_X1_save : GoodIn wsX8_askSum (wsV RX8 71 RX1 yX1_save wsX1_save) := goodIn_app (goodIn_of _ (by decide +kernel)) ggX8_askSum_X1_save
set_option maxRecDepth 20000 in
theorem ggX8_askSum_X6_seenRows : GoodIn wsX8_askSum wsX6_seenRows := goodIn_r _ [104, 48, 105, 106, 107, 108, 57, 109, 61, 60, 110, 71, 72, 67, 73, 69, 111, 112, 113, 46, 114, 115, 116, 49, 117, 118, 119, 120, 121, 53, 122, 153, 154, 155, 156, 157, 158, 162, 163, 164, 165, 166, 167, 168, 169, 170] (by decide +kernel) (by decide +kernel)
set_option maxRecDepth 20000 in
theorem gX8_askSum_X6_seenRows : GoodIn wsX8_askSum (wsV RX8 150 RX6 yX6_seenRows wsX6_seenRows) := goodIn_app (goodIn_of _ (by decide +kernel)) ggX8_askSum_X6_seenRows
set_option maxRecDepth 20000 in
theorem ggX8_askSum_X6_sumAnswer : GoodIn wsX8_askSum wsX6_sumAnswer := goodIn_r _ [126, 48, 105, 120, 127, 128, 36, 129, 122, 71, 72, 67, 73, 69, 130, 131, 132, 46, 133, 52, 134, 135, 136, 137, 138, 139, 140, 153, 154, 155, 156, 157, 158, 162, 163, 164, 165, 166, 167] (by decide +kernel) (by decide +kernel)
set_option maxRecDepth 20000 in
theorem gX8_askSum_X6_sumAnswer : GoodIn wsX8_askSum (wsV RX8 177 RX6 yX6_sumAnswer wsX6_sumAnswer) := goodIn_app (goodIn_of _ (by decide +kernel)) ggX8_askSum_X6_sumAnswer
set_option maxRecDepth 20000 in
theorem ggX8_askSum_X7_note : GoodIn wsX8_askSum wsX7_note := goodIn_r _ [144, 96, 97, 145, 71, 72, 67, 73, 69, 146, 147, 148, 149, 173, 174, 175, 167] (by decide +kernel) (by decide +kernel)
set_option maxRecDepth 20000 in
theorem gX8_askSum_X7_note : GoodIn wsX8_askSum (wsV RX8 161 RX7 yX7_note wsX7_note) := goodIn_app (goodIn_of _ (by decide +kernel)) ggX8_askSum_X7_note
theorem dX8_askSum_0 : decode cX8_askSum 0 = .ok (.iload_n 1, 1) := by decide +kernel
theorem dX8_askSum_1 : decode cX8_askSum 1 = .ok (.iload_n 2, 1) := by decide +kernel
theorem dX8_askSum_2 : decode cX8_askSum 2 = .ok (.iload_n 3, 1) := by decide +kernel
theorem dX8_askSum_3 : decode cX8_askSum 3 = .ok (.iload 4, 2) := by decide +kernel
theorem dX8_askSum_5 : decode cX8_askSum 5 = .ok (.invokestatic 147, 3) := by decide +kernel
theorem dX8_askSum_8 : decode cX8_askSum 8 = .ok (.aload_n 0, 1) := by decide +kernel
theorem dX8_askSum_9 : decode cX8_askSum 9 = .ok (.getfield 19, 3) := by decide +kernel
theorem dX8_askSum_12 : decode cX8_askSum 12 = .ok (.aload_n 0, 1) := by decide +kernel
theorem dX8_askSum_13 : decode cX8_askSum 13 = .ok (.getfield 10, 3) := by decide +kernel
theorem dX8_askSum_16 : decode cX8_askSum 16 = .ok (.invokevirtual 71, 3) := by decide +kernel
theorem dX8_askSum_19 : decode cX8_askSum 19 = .ok (.aload_n 0, 1) := by decide +kernel
theorem dX8_askSum_20 : decode cX8_askSum 20 = .ok (.getfield 10, 3) := by decide +kernel
theorem dX8_askSum_23 : decode cX8_askSum 23 = .ok (.aload_n 0, 1) := by decide +kernel
theorem dX8_askSum_24 : decode cX8_askSum 24 = .ok (.getfield 10, 3) := by decide +kernel
theorem dX8_askSum_27 : decode cX8_askSum 27 = .ok (.iload_n 1, 1) := by decide +kernel
theorem dX8_askSum_28 : decode cX8_askSum 28 = .ok (.iload_n 2, 1) := by decide +kernel
theorem dX8_askSum_29 : decode cX8_askSum 29 = .ok (.iload_n 3, 1) := by decide +kernel
theorem dX8_askSum_30 : decode cX8_askSum 30 = .ok (.iload 4, 2) := by decide +kernel
theorem dX8_askSum_32 : decode cX8_askSum 32 = .ok (.invokevirtual 150, 3) := by decide +kernel
theorem dX8_askSum_35 : decode cX8_askSum 35 = .ok (.invokevirtual 177, 3) := by decide +kernel
theorem dX8_askSum_38 : decode cX8_askSum 38 = .ok (.istore 5, 2) := by decide +kernel
theorem dX8_askSum_40 : decode cX8_askSum 40 = .ok (.aload_n 0, 1) := by decide +kernel
theorem dX8_askSum_41 : decode cX8_askSum 41 = .ok (.getfield 10, 3) := by decide +kernel
theorem dX8_askSum_44 : decode cX8_askSum 44 = .ok (.getfield 157, 3) := by decide +kernel
theorem dX8_askSum_47 : decode cX8_askSum 47 = .ok (.iload_n 1, 1) := by decide +kernel
theorem dX8_askSum_48 : decode cX8_askSum 48 = .ok (.iload 5, 2) := by decide +kernel
theorem dX8_askSum_50 : decode cX8_askSum 50 = .ok (.iconst (-1), 1) := by decide +kernel
theorem dX8_askSum_51 : decode cX8_askSum 51 = .ok (.if_icmp .ne 7, 3) := by decide +kernel
theorem dX8_askSum_54 : decode cX8_askSum 54 = .ok (.iconst 1, 1) := by decide +kernel
theorem dX8_askSum_55 : decode cX8_askSum 55 = .ok (.goto 4, 3) := by decide +kernel
theorem dX8_askSum_58 : decode cX8_askSum 58 = .ok (.iconst 0, 1) := by decide +kernel
theorem dX8_askSum_59 : decode cX8_askSum 59 = .ok (.invokevirtual 161, 3) := by decide +kernel
theorem dX8_askSum_62 : decode cX8_askSum 62 = .ok (.iload 5, 2) := by decide +kernel
theorem dX8_askSum_64 : decode cX8_askSum 64 = .ok (.ireturn, 1) := by decide +kernel
set_option maxRecDepth 20000 in
theorem ggX8_forget_X8_requireAsker : GoodIn wsX8_forget wsX8_requireAsker := goodIn_ca (goodIn_r _ [8, 9, 10, 11, 12, 7, 13, 14, 15, 16] (by decide +kernel) (by decide +kernel)) (goodIn_sub (fun _ h => List.mem_cons_of_mem _ (List.mem_append_right _ h)) (by decide +kernel))
set_option maxRecDepth 20000 in
theorem gX8_forget_X8_requireAsker : GoodIn wsX8_forget (va_wsS RX8 181 yX8_requireAsker wsX8_requireAsker) := goodIn_app (goodIn_of _ (by decide +kernel)) ggX8_forget_X8_requireAsker
set_option maxRecDepth 20000 in
theorem ggX8_forget_X1_save : GoodIn wsX8_forget wsX1_save := goodIn_r _ [21, 22, 23, 24, 25, 26, 27, 28, 29, 30, 20, 31, 32, 33, 34, 35, 36, 37, 38, 39, 40, 41, 42, 43, 44, 45, 46, 47, 48, 49, 50, 51, 52, 53, 54, 55, 56, 57, 58, 59, 60, 61, 62, 63, 64, 65, 66, 67, 68, 69, 70, 71, 72, 73, 74, 75, 76, 77, 78, 79, 80, 81, 82, 83, 84, 85, 86, 87, 88, 89, 90, 110, 111, 112, 102, 103, 104, 105, 106, 107, 113, 114, 115, 116, 117, 118, 119, 120, 121, 108, 109, 122, 123, 124] (by decide +kernel) (by decide +kernel)
set_option maxRecDepth 20000 in
theorem gX8_forget_X1_save : GoodIn wsX8_forget (wsV RX8 71 RX1 yX1_save wsX1_save) := goodIn_app (goodIn_of _ (by decide +kernel)) ggX8_forget_X1_save
set_option maxRecDepth 20000 in
theorem ggX8_forget_X3_swap : GoodIn wsX8_forget wsX3_swap := goodIn_r _ [94, 60, 61, 62, 57, 63, 59, 95, 96, 97, 98, 118] (by decide +kernel) (by decide +kernel)
set_option maxRecDepth 20000 in
theorem gX8_forget_X3_swap : GoodIn wsX8_forget (wsV RX8 103 RX3 yX3_swap wsX3_swap) := goodIn_app (goodIn_of _ (by decide +kernel)) ggX8_forget_X3_swap
theorem dX8_forget_0 : decode cX8_forget 0 = .ok (.iload_n 1, 1) := by decide +kernel
theorem dX8_forget_1 : decode cX8_forget 1 = .ok (.invokestatic 181, 3) := by decide +kernel
theorem dX8_forget_4 : decode cX8_forget 4 = .ok (.aload_n 0, 1) := by decide +kernel
theorem dX8_forget_5 : decode cX8_forget 5 = .ok (.getfield 19, 3) := by decide +kernel
theorem dX8_forget_8 : decode cX8_forget 8 = .ok (.aload_n 0, 1) := by decide +kernel
theorem dX8_forget_9 : decode cX8_forget 9 = .ok (.getfield 10, 3) := by decide +kernel
theorem dX8_forget_12 : decode cX8_forget 12 = .ok (.invokevirtual 71, 3) := by decide +kernel
theorem dX8_forget_15 : decode cX8_forget 15 = .ok (.aload_n 0, 1) := by decide +kernel
theorem dX8_forget_16 : decode cX8_forget 16 = .ok (.getfield 10, 3) := by decide +kernel
theorem dX8_forget_19 : decode cX8_forget 19 = .ok (.getfield 90, 3) := by decide +kernel
theorem dX8_forget_22 : decode cX8_forget 22 = .ok (.getfield 184, 3) := by decide +kernel
theorem dX8_forget_25 : decode cX8_forget 25 = .ok (.iload_n 1, 1) := by decide +kernel
theorem dX8_forget_26 : decode cX8_forget 26 = .ok (.iconst 0, 1) := by decide +kernel
theorem dX8_forget_27 : decode cX8_forget 27 = .ok (.invokevirtual 103, 3) := by decide +kernel
theorem dX8_forget_30 : decode cX8_forget 30 = .ok (.ireturn, 1) := by decide +kernel
set_option maxRecDepth 20000 in
theorem ggX8_undo_X1_restore : GoodIn wsX8_undo wsX1_restore := goodIn_r _ [10, 11, 12, 13, 14, 15, 9, 16, 17, 18, 19, 20, 21, 22, 23, 24, 25, 26, 27, 28, 29, 30, 31, 32, 33, 34, 35, 36, 37, 38, 39, 40, 41, 42, 43, 44, 45, 46, 47, 48, 49, 50, 51, 52, 53, 54, 55, 56, 57, 58, 59, 60, 61, 62, 63, 64, 65, 66, 67, 68, 69, 70, 71, 72, 73, 74, 75, 79, 80, 81, 82, 83, 84, 85, 86, 87, 88, 89, 90, 91, 92, 93, 94, 95, 96, 97, 98, 99, 100, 101] (by decide +kernel) (by decide +kernel)
set_option maxRecDepth 20000 in
theorem gX8_undo_X1_restore : GoodIn wsX8_undo (wsV RX8 218 RX1 yX1_restore wsX1_restore) := goodIn_app (goodIn_of _ (by decide +kernel)) ggX8_undo_X1_restore
theorem dX8_undo_0 : decode cX8_undo 0 = .ok (.aload_n 0, 1) := by decide +kernel
theorem dX8_undo_1 : decode cX8_undo 1 = .ok (.getfield 19, 3) := by decide +kernel
theorem dX8_undo_4 : decode cX8_undo 4 = .ok (.getfield 213, 3) := by decide +kernel
theorem dX8_undo_7 : decode cX8_undo 7 = .ok (.ifCond .ne 13, 3) := by decide +kernel
theorem dX8_undo_10 : decode cX8_undo 10 = .ok (.new 66, 3) := by decide +kernel
theorem dX8_undo_13 : decode cX8_undo 13 = .ok (.dup, 1) := by decide +kernel
theorem dX8_undo_14 : decode cX8_undo 14 = .ok (.ldc 216, 2) := by decide +kernel
theorem dX8_undo_16 : decode cX8_undo 16 = .ok (.invokespecial 70, 3) := by decide +kernel
theorem dX8_undo_19 : decode cX8_undo 19 = .ok (.athrow, 1) := by decide +kernel
theorem dX8_undo_20 : decode cX8_undo 20 = .ok (.aload_n 0, 1) := by decide +kernel
theorem dX8_undo_21 : decode cX8_undo 21 = .ok (.getfield 19, 3) := by decide +kernel
theorem dX8_undo_24 : decode cX8_undo 24 = .ok (.aload_n 0, 1) := by decide +kernel
theorem dX8_undo_25 : decode cX8_undo 25 = .ok (.getfield 10, 3) := by decide +kernel
theorem dX8_undo_28 : decode cX8_undo 28 = .ok (.invokevirtual 218, 3) := by decide +kernel
theorem dX8_undo_31 : decode cX8_undo 31 = .ok (.aload_n 0, 1) := by decide +kernel
theorem dX8_undo_32 : decode cX8_undo 32 = .ok (.getfield 19, 3) := by decide +kernel
theorem dX8_undo_35 : decode cX8_undo 35 = .ok (.getfield 213, 3) := by decide +kernel
theorem dX8_undo_38 : decode cX8_undo 38 = .ok (.ireturn, 1) := by decide +kernel
set_option maxRecDepth 20000 in
theorem ggX8_rowOf_X8_requireRow : GoodIn wsX8_rowOf wsX8_requireRow := goodIn_ca (goodIn_r _ [8, 9, 10, 3, 11, 12, 13, 14, 7, 15, 45, 46, 47, 48, 49, 50, 51, 52, 53, 54, 55, 56, 57, 58] (by decide +kernel) (by decide +kernel)) (goodIn_sub (fun _ h => List.mem_cons_of_mem _ (List.mem_append_right _ h)) (by decide +kernel))
set_option maxRecDepth 20000 in
theorem gX8_rowOf_X8_requireRow : GoodIn wsX8_rowOf (wsV RX8 83 RX8 yX8_requireRow wsX8_requireRow) := goodIn_app (goodIn_of _ (by decide +kernel)) ggX8_rowOf_X8_requireRow
set_option maxRecDepth 20000 in
theorem ggX8_rowOf_X8_isWithin : GoodIn wsX8_rowOf wsX8_isWithin := goodIn_r _ [15] (by decide +kernel) (by decide +kernel)
set_option maxRecDepth 20000 in
theorem gX8_rowOf_X8_isWithin : GoodIn wsX8_rowOf (va_wsS RX8 47 yX8_isWithin wsX8_isWithin) := goodIn_app (goodIn_of _ (by decide +kernel)) ggX8_rowOf_X8_isWithin
set_option maxRecDepth 20000 in
theorem ggX8_rowOf_X6_rowNumber : GoodIn wsX8_rowOf wsX6_rowNumber := goodIn_r _ [20, 21, 22, 23, 24, 25, 26, 27, 28, 29, 30, 31, 32, 33, 34, 19, 35, 36, 37, 38, 39, 40, 41, 42, 43, 44, 48, 49, 50, 51, 52, 53, 54, 55, 56, 57, 58, 59, 60, 61, 62] (by decide +kernel) (by decide +kernel)
set_option maxRecDepth 20000 in
theorem gX8_rowOf_X6_rowNumber : GoodIn wsX8_rowOf (wsV RX8 223 RX6 yX6_rowNumber wsX6_rowNumber) := goodIn_app (goodIn_of _ (by decide +kernel)) ggX8_rowOf_X6_rowNumber
theorem dX8_rowOf_0 : decode cX8_rowOf 0 = .ok (.aload_n 0, 1) := by decide +kernel
theorem dX8_rowOf_1 : decode cX8_rowOf 1 = .ok (.iload_n 1, 1) := by decide +kernel
theorem dX8_rowOf_2 : decode cX8_rowOf 2 = .ok (.invokevirtual 83, 3) := by decide +kernel
theorem dX8_rowOf_5 : decode cX8_rowOf 5 = .ok (.iload_n 2, 1) := by decide +kernel
theorem dX8_rowOf_6 : decode cX8_rowOf 6 = .ok (.iconst 0, 1) := by decide +kernel
theorem dX8_rowOf_7 : decode cX8_rowOf 7 = .ok (.iconst 4, 1) := by decide +kernel
theorem dX8_rowOf_8 : decode cX8_rowOf 8 = .ok (.invokestatic 47, 3) := by decide +kernel
theorem dX8_rowOf_11 : decode cX8_rowOf 11 = .ok (.ifCond .ne 13, 3) := by decide +kernel
theorem dX8_rowOf_14 : decode cX8_rowOf 14 = .ok (.new 51, 3) := by decide +kernel
theorem dX8_rowOf_17 : decode cX8_rowOf 17 = .ok (.dup, 1) := by decide +kernel
theorem dX8_rowOf_18 : decode cX8_rowOf 18 = .ok (.ldc 221, 2) := by decide +kernel
theorem dX8_rowOf_20 : decode cX8_rowOf 20 = .ok (.invokespecial 55, 3) := by decide +kernel
theorem dX8_rowOf_23 : decode cX8_rowOf 23 = .ok (.athrow, 1) := by decide +kernel
theorem dX8_rowOf_24 : decode cX8_rowOf 24 = .ok (.aload_n 0, 1) := by decide +kernel
theorem dX8_rowOf_25 : decode cX8_rowOf 25 = .ok (.getfield 10, 3) := by decide +kernel
theorem dX8_rowOf_28 : decode cX8_rowOf 28 = .ok (.iload_n 1, 1) := by decide +kernel
theorem dX8_rowOf_29 : decode cX8_rowOf 29 = .ok (.iload_n 2, 1) := by decide +kernel
theorem dX8_rowOf_30 : decode cX8_rowOf 30 = .ok (.invokevirtual 223, 3) := by decide +kernel
theorem dX8_rowOf_33 : decode cX8_rowOf 33 = .ok (.ireturn, 1) := by decide +kernel
set_option maxRecDepth 20000 in
theorem ggX8_personOf_X8_requireAsker : GoodIn wsX8_personOf wsX8_requireAsker := goodIn_ca (goodIn_r _ [7, 8, 9, 10, 11, 6, 12, 13, 14, 15] (by decide +kernel) (by decide +kernel)) (goodIn_sub (fun _ h => List.mem_cons_of_mem _ (List.mem_append_right _ h)) (by decide +kernel))
set_option maxRecDepth 20000 in
theorem gX8_personOf_X8_requireAsker : GoodIn wsX8_personOf (va_wsS RX8 181 yX8_requireAsker wsX8_requireAsker) := goodIn_app (goodIn_of _ (by decide +kernel)) ggX8_personOf_X8_requireAsker
set_option maxRecDepth 20000 in
theorem ggX8_personOf_X8_isWithin : GoodIn wsX8_personOf wsX8_isWithin := goodIn_r _ [15] (by decide +kernel) (by decide +kernel)
set_option maxRecDepth 20000 in
theorem gX8_personOf_X8_isWithin : GoodIn wsX8_personOf (va_wsS RX8 47 yX8_isWithin wsX8_isWithin) := goodIn_app (goodIn_of _ (by decide +kernel)) ggX8_personOf_X8_isWithin
set_option maxRecDepth 20000 in
theorem ggX8_personOf_X6_personNumber : GoodIn wsX8_personOf wsX6_personNumber := goodIn_r _ [20, 21, 22, 23, 24, 25, 26, 27, 28, 29, 30, 31, 32, 33, 34, 35, 36, 37, 38, 19, 39, 40, 41, 42, 43, 44, 45, 46, 47, 48, 49, 50, 51, 52, 53, 54, 55, 56, 57, 58, 59, 60, 61, 62, 63, 64, 65, 66, 67, 68, 69, 73, 74, 75, 76, 77, 78, 79, 80, 81, 82, 83, 84, 85, 86, 87, 88, 89, 90, 91, 92] (by decide +kernel) (by decide +kernel)
set_option maxRecDepth 20000 in
theorem gX8_personOf_X6_personNumber : GoodIn wsX8_personOf (wsV RX8 228 RX6 yX6_personNumber wsX6_personNumber) := goodIn_app (goodIn_of _ (by decide +kernel)) ggX8_personOf_X6_personNumber
theorem dX8_personOf_0 : decode cX8_personOf 0 = .ok (.iload_n 1, 1) := by decide +kernel
theorem dX8_personOf_1 : decode cX8_personOf 1 = .ok (.invokestatic 181, 3) := by decide +kernel
theorem dX8_personOf_4 : decode cX8_personOf 4 = .ok (.iload_n 2, 1) := by decide +kernel
theorem dX8_personOf_5 : decode cX8_personOf 5 = .ok (.iconst 0, 1) := by decide +kernel
theorem dX8_personOf_6 : decode cX8_personOf 6 = .ok (.bipush 7, 2) := by decide +kernel
theorem dX8_personOf_8 : decode cX8_personOf 8 = .ok (.invokestatic 47, 3) := by decide +kernel
theorem dX8_personOf_11 : decode cX8_personOf 11 = .ok (.ifCond .ne 13, 3) := by decide +kernel
theorem dX8_personOf_14 : decode cX8_personOf 14 = .ok (.new 51, 3) := by decide +kernel
theorem dX8_personOf_17 : decode cX8_personOf 17 = .ok (.dup, 1) := by decide +kernel
theorem dX8_personOf_18 : decode cX8_personOf 18 = .ok (.ldc 226, 2) := by decide +kernel
theorem dX8_personOf_20 : decode cX8_personOf 20 = .ok (.invokespecial 55, 3) := by decide +kernel
theorem dX8_personOf_23 : decode cX8_personOf 23 = .ok (.athrow, 1) := by decide +kernel
theorem dX8_personOf_24 : decode cX8_personOf 24 = .ok (.aload_n 0, 1) := by decide +kernel
theorem dX8_personOf_25 : decode cX8_personOf 25 = .ok (.getfield 10, 3) := by decide +kernel
theorem dX8_personOf_28 : decode cX8_personOf 28 = .ok (.iload_n 1, 1) := by decide +kernel
theorem dX8_personOf_29 : decode cX8_personOf 29 = .ok (.iload_n 2, 1) := by decide +kernel
theorem dX8_personOf_30 : decode cX8_personOf 30 = .ok (.invokevirtual 228, 3) := by decide +kernel
theorem dX8_personOf_33 : decode cX8_personOf 33 = .ok (.ireturn, 1) := by decide +kernel
set_option maxRecDepth 20000 in
theorem ggX8_veils_X8_requireAsker : GoodIn wsX8_veils wsX8_requireAsker := goodIn_ca (goodIn_r _ [5, 6, 7, 8, 9, 4, 10, 11, 12, 13] (by decide +kernel) (by decide +kernel)) (goodIn_sub (fun _ h => List.mem_cons_of_mem _ (List.mem_append_right _ h)) (by decide +kernel))
set_option maxRecDepth 20000 in
theorem gX8_veils_X8_requireAsker : GoodIn wsX8_veils (va_wsS RX8 181 yX8_requireAsker wsX8_requireAsker) := goodIn_app (goodIn_of _ (by decide +kernel)) ggX8_veils_X8_requireAsker
set_option maxRecDepth 20000 in
theorem ggX8_veils_X8_requireRow : GoodIn wsX8_veils wsX8_requireRow := goodIn_ca (goodIn_r _ [17, 6, 7, 1, 18, 19, 11, 12, 4, 13, 41, 42, 43, 44, 45, 46, 47, 48, 49, 50, 51, 52, 53, 54] (by decide +kernel) (by decide +kernel)) (goodIn_sub (fun _ h => List.mem_cons_of_mem _ (List.mem_append_right _ h)) (by decide +kernel))
set_option maxRecDepth 20000 in
theorem gX8_veils_X8_requireRow : GoodIn wsX8_veils (wsV RX8 83 RX8 yX8_requireRow wsX8_requireRow) := goodIn_app (goodIn_of _ (by decide +kernel)) ggX8_veils_X8_requireRow
set_option maxRecDepth 20000 in
theorem ggX8_veils_X6_veilMask : GoodIn wsX8_veils wsX6_veilMask := goodIn_r _ [24, 25, 26, 27, 28, 29, 30, 31, 32, 33, 34, 35, 36, 37, 38, 39, 40, 44, 45, 46, 47, 48, 49, 50, 51, 52, 53, 54, 55, 56, 57, 58] (by decide +kernel) (by decide +kernel)
set_option maxRecDepth 20000 in
theorem gX8_veils_X6_veilMask : GoodIn wsX8_veils (wsV RX8 231 RX6 yX6_veilMask wsX6_veilMask) := goodIn_app (goodIn_of _ (by decide +kernel)) ggX8_veils_X6_veilMask
theorem dX8_veils_0 : decode cX8_veils 0 = .ok (.iload_n 1, 1) := by decide +kernel
theorem dX8_veils_1 : decode cX8_veils 1 = .ok (.invokestatic 181, 3) := by decide +kernel
theorem dX8_veils_4 : decode cX8_veils 4 = .ok (.aload_n 0, 1) := by decide +kernel
theorem dX8_veils_5 : decode cX8_veils 5 = .ok (.iload_n 2, 1) := by decide +kernel
theorem dX8_veils_6 : decode cX8_veils 6 = .ok (.invokevirtual 83, 3) := by decide +kernel
theorem dX8_veils_9 : decode cX8_veils 9 = .ok (.aload_n 0, 1) := by decide +kernel
theorem dX8_veils_10 : decode cX8_veils 10 = .ok (.getfield 10, 3) := by decide +kernel
theorem dX8_veils_13 : decode cX8_veils 13 = .ok (.iload_n 1, 1) := by decide +kernel
theorem dX8_veils_14 : decode cX8_veils 14 = .ok (.iload_n 2, 1) := by decide +kernel
theorem dX8_veils_15 : decode cX8_veils 15 = .ok (.invokevirtual 231, 3) := by decide +kernel
theorem dX8_veils_18 : decode cX8_veils 18 = .ok (.ireturn, 1) := by decide +kernel
set_option maxRecDepth 20000 in
theorem ggX8_remembered_X8_requireAsker : GoodIn wsX8_remembered wsX8_requireAsker := goodIn_ca (goodIn_r _ [8, 9, 10, 11, 12, 7, 13, 14, 15, 16] (by decide +kernel) (by decide +kernel)) (goodIn_sub (fun _ h => List.mem_cons_of_mem _ (List.mem_append_right _ h)) (by decide +kernel))
set_option maxRecDepth 20000 in
theorem gX8_remembered_X8_requireAsker : GoodIn wsX8_remembered (va_wsS RX8 181 yX8_requireAsker wsX8_requireAsker) := goodIn_app (goodIn_of _ (by decide +kernel)) ggX8_remembered_X8_requireAsker
set_option maxRecDepth 20000 in
theorem ggX8_remembered_X2_maskAt : GoodIn wsX8_remembered wsX2_maskAt := goodIn_r _ [21, 22, 23, 24, 25, 26, 27, 28, 29, 39, 40, 41] (by decide +kernel) (by decide +kernel)
set_option maxRecDepth 20000 in
theorem gX8_remembered_X2_maskAt : GoodIn wsX8_remembered (wsV RX8 236 RX2 yX2_maskAt wsX2_maskAt) := goodIn_app (goodIn_of _ (by decide +kernel)) ggX8_remembered_X2_maskAt
theorem dX8_remembered_0 : decode cX8_remembered 0 = .ok (.iload_n 1, 1) := by decide +kernel
theorem dX8_remembered_1 : decode cX8_remembered 1 = .ok (.invokestatic 181, 3) := by decide +kernel
theorem dX8_remembered_4 : decode cX8_remembered 4 = .ok (.iload_n 2, 1) := by decide +kernel
theorem dX8_remembered_5 : decode cX8_remembered 5 = .ok (.ifCond .ge 13, 3) := by decide +kernel
theorem dX8_remembered_8 : decode cX8_remembered 8 = .ok (.new 51, 3) := by decide +kernel
theorem dX8_remembered_11 : decode cX8_remembered 11 = .ok (.dup, 1) := by decide +kernel
theorem dX8_remembered_12 : decode cX8_remembered 12 = .ok (.ldc 234, 2) := by decide +kernel
theorem dX8_remembered_14 : decode cX8_remembered 14 = .ok (.invokespecial 55, 3) := by decide +kernel
theorem dX8_remembered_17 : decode cX8_remembered 17 = .ok (.athrow, 1) := by decide +kernel
theorem dX8_remembered_18 : decode cX8_remembered 18 = .ok (.aload_n 0, 1) := by decide +kernel
theorem dX8_remembered_19 : decode cX8_remembered 19 = .ok (.getfield 10, 3) := by decide +kernel
theorem dX8_remembered_22 : decode cX8_remembered 22 = .ok (.getfield 90, 3) := by decide +kernel
theorem dX8_remembered_25 : decode cX8_remembered 25 = .ok (.iload_n 1, 1) := by decide +kernel
theorem dX8_remembered_26 : decode cX8_remembered 26 = .ok (.iload_n 2, 1) := by decide +kernel
theorem dX8_remembered_27 : decode cX8_remembered 27 = .ok (.invokevirtual 236, 3) := by decide +kernel
theorem dX8_remembered_30 : decode cX8_remembered 30 = .ok (.ireturn, 1) := by decide +kernel
set_option maxRecDepth 20000 in
theorem ggX8_count_X8_isWithin : GoodIn wsX8_count wsX8_isWithin := goodIn_r _ [6] (by decide +kernel) (by decide +kernel)
set_option maxRecDepth 20000 in
theorem gX8_count_X8_isWithin : GoodIn wsX8_count (va_wsS RX8 47 yX8_isWithin wsX8_isWithin) := goodIn_app (goodIn_of _ (by decide +kernel)) ggX8_count_X8_isWithin
set_option maxRecDepth 20000 in
theorem ggX8_count_X8_total : GoodIn wsX8_count wsX8_total := goodIn_r _ [10, 11, 12, 13, 14, 15, 16, 17, 18, 19, 20, 21, 22, 23, 24, 25, 26, 27, 28, 29, 30, 31, 32, 33, 34, 35, 36, 37, 38, 39, 40, 41, 42, 43, 44, 45, 46, 47, 48, 49, 50, 51, 52, 53, 54, 55, 56, 57, 58, 59, 60, 61, 62, 63, 64, 65, 66, 67, 68, 69, 70, 71, 72, 73, 74, 75, 76, 77, 78, 79, 80, 81, 82, 83, 84, 85, 86, 87, 88, 89, 90, 91, 92, 93, 94, 95, 96, 97, 98, 99] (by decide +kernel) (by decide +kernel)
set_option maxRecDepth 20000 in
theorem gX8_count_X8_total : GoodIn wsX8_count (wsV RX8 241 RX8 yX8_total wsX8_total) := goodIn_app (goodIn_of _ (by decide +kernel)) ggX8_count_X8_total
theorem dX8_count_0 : decode cX8_count 0 = .ok (.iload_n 1, 1) := by decide +kernel
theorem dX8_count_1 : decode cX8_count 1 = .ok (.iconst 0, 1) := by decide +kernel
theorem dX8_count_2 : decode cX8_count 2 = .ok (.bipush 9, 2) := by decide +kernel
theorem dX8_count_4 : decode cX8_count 4 = .ok (.invokestatic 47, 3) := by decide +kernel
theorem dX8_count_7 : decode cX8_count 7 = .ok (.ifCond .ne 13, 3) := by decide +kernel
theorem dX8_count_10 : decode cX8_count 10 = .ok (.new 51, 3) := by decide +kernel
theorem dX8_count_13 : decode cX8_count 13 = .ok (.dup, 1) := by decide +kernel
theorem dX8_count_14 : decode cX8_count 14 = .ok (.ldc 239, 2) := by decide +kernel
theorem dX8_count_16 : decode cX8_count 16 = .ok (.invokespecial 55, 3) := by decide +kernel
theorem dX8_count_19 : decode cX8_count 19 = .ok (.athrow, 1) := by decide +kernel
theorem dX8_count_20 : decode cX8_count 20 = .ok (.aload_n 0, 1) := by decide +kernel
theorem dX8_count_21 : decode cX8_count 21 = .ok (.iload_n 1, 1) := by decide +kernel
theorem dX8_count_22 : decode cX8_count 22 = .ok (.invokevirtual 241, 3) := by decide +kernel
theorem dX8_count_25 : decode cX8_count 25 = .ok (.ireturn, 1) := by decide +kernel
set_option maxRecDepth 20000 in
theorem ggX8_ifAsked_X8_requireQuestion : GoodIn wsX8_ifAsked wsX8_requireQuestion := goodIn_ca (goodIn_ca (goodIn_r _ [6, 7, 8, 1, 2, 9, 10, 5, 11, 12, 13, 14, 15, 16, 17, 18, 19, 20, 21, 22, 23] (by decide +kernel) (by decide +kernel)) (goodIn_sub (fun _ h => List.mem_cons_of_mem _ (List.mem_append_right _ h)) (by decide +kernel))) (goodIn_sub (fun _ h => List.mem_cons_of_mem _ (List.mem_append_left _ (List.mem_append_right _ h))) (by decide +kernel))
set_option maxRecDepth 20000 in
theorem gX8_ifAsked_X8_requireQuestion : GoodIn wsX8_ifAsked (va_wsS RX8 147 yX8_requireQuestion wsX8_requireQuestion) := goodIn_app (goodIn_of _ (by decide +kernel)) ggX8_ifAsked_X8_requireQuestion
set_option maxRecDepth 20000 in
theorem ggX8_ifAsked_X8_isWithin : GoodIn wsX8_ifAsked wsX8_isWithin := goodIn_r _ [14] (by decide +kernel) (by decide +kernel)
set_option maxRecDepth 20000 in
theorem gX8_ifAsked_X8_isWithin : GoodIn wsX8_ifAsked (va_wsS RX8 47 yX8_isWithin wsX8_isWithin) := goodIn_app (goodIn_of _ (by decide +kernel)) ggX8_ifAsked_X8_isWithin
set_option maxRecDepth 20000 in
theorem ggX8_ifAsked_X8_answerIf : GoodIn wsX8_ifAsked wsX8_answerIf := goodIn_r _ [27, 28, 29, 30, 31, 32, 33, 34, 35, 36, 37, 38, 39, 40, 41, 42, 43, 44, 45, 46, 47, 48, 49, 50, 51, 52, 53, 54, 55, 56, 57, 58, 59, 60, 61, 62, 63, 64, 65, 66, 67, 68, 69, 70, 71, 72, 73, 74, 75, 76, 77, 78, 79, 80, 81, 82, 83, 84, 85, 86, 87, 88, 89, 90, 91, 92, 93, 94, 95, 96, 97, 98, 99, 100, 101, 102, 103, 104, 105, 106, 107, 108, 109, 110, 111, 112, 113, 114, 115, 116, 117, 118, 119, 120, 121, 122, 123, 124, 125, 126, 127, 128, 129, 130, 131, 132] (by decide +kernel) (by decide +kernel)
set_option maxRecDepth 20000 in
theorem gX8_ifAsked_X8_answerIf : GoodIn wsX8_ifAsked (wsV RX8 246 RX8 yX8_answerIf wsX8_answerIf) := goodIn_app (goodIn_of _ (by decide +kernel)) ggX8_ifAsked_X8_answerIf
theorem dX8_ifAsked_0 : decode cX8_ifAsked 0 = .ok (.iload_n 1, 1) := by decide +kernel
theorem dX8_ifAsked_1 : decode cX8_ifAsked 1 = .ok (.iload_n 2, 1) := by decide +kernel
theorem dX8_ifAsked_2 : decode cX8_ifAsked 2 = .ok (.iload_n 3, 1) := by decide +kernel
theorem dX8_ifAsked_3 : decode cX8_ifAsked 3 = .ok (.iload 4, 2) := by decide +kernel
theorem dX8_ifAsked_5 : decode cX8_ifAsked 5 = .ok (.invokestatic 147, 3) := by decide +kernel
theorem dX8_ifAsked_8 : decode cX8_ifAsked 8 = .ok (.iload 5, 2) := by decide +kernel
theorem dX8_ifAsked_10 : decode cX8_ifAsked 10 = .ok (.iconst 0, 1) := by decide +kernel
theorem dX8_ifAsked_11 : decode cX8_ifAsked 11 = .ok (.iconst 3, 1) := by decide +kernel
theorem dX8_ifAsked_12 : decode cX8_ifAsked 12 = .ok (.invokestatic 47, 3) := by decide +kernel
theorem dX8_ifAsked_15 : decode cX8_ifAsked 15 = .ok (.ifCond .ne 13, 3) := by decide +kernel
theorem dX8_ifAsked_18 : decode cX8_ifAsked 18 = .ok (.new 51, 3) := by decide +kernel
theorem dX8_ifAsked_21 : decode cX8_ifAsked 21 = .ok (.dup, 1) := by decide +kernel
theorem dX8_ifAsked_22 : decode cX8_ifAsked 22 = .ok (.ldc 244, 2) := by decide +kernel
theorem dX8_ifAsked_24 : decode cX8_ifAsked 24 = .ok (.invokespecial 55, 3) := by decide +kernel
theorem dX8_ifAsked_27 : decode cX8_ifAsked 27 = .ok (.athrow, 1) := by decide +kernel
theorem dX8_ifAsked_28 : decode cX8_ifAsked 28 = .ok (.aload_n 0, 1) := by decide +kernel
theorem dX8_ifAsked_29 : decode cX8_ifAsked 29 = .ok (.iload_n 1, 1) := by decide +kernel
theorem dX8_ifAsked_30 : decode cX8_ifAsked 30 = .ok (.iload_n 2, 1) := by decide +kernel
theorem dX8_ifAsked_31 : decode cX8_ifAsked 31 = .ok (.iload_n 3, 1) := by decide +kernel
theorem dX8_ifAsked_32 : decode cX8_ifAsked 32 = .ok (.iload 4, 2) := by decide +kernel
theorem dX8_ifAsked_34 : decode cX8_ifAsked 34 = .ok (.iload 5, 2) := by decide +kernel
theorem dX8_ifAsked_36 : decode cX8_ifAsked 36 = .ok (.invokevirtual 246, 3) := by decide +kernel
theorem dX8_ifAsked_39 : decode cX8_ifAsked 39 = .ok (.ireturn, 1) := by decide +kernel
set_option maxRecDepth 20000 in
theorem ggX8_hides_X8_requireRule : GoodIn wsX8_hides wsX8_requireRule := goodIn_ca (goodIn_r _ [5, 6, 7, 8, 9, 4, 10] (by decide +kernel) (by decide +kernel)) (goodIn_sub (fun _ h => List.mem_cons_of_mem _ (List.mem_append_right _ h)) (by decide +kernel))
set_option maxRecDepth 20000 in
theorem gX8_hides_X8_requireRule : GoodIn wsX8_hides (va_wsS RX8 136 yX8_requireRule wsX8_requireRule) := goodIn_app (goodIn_of _ (by decide +kernel)) ggX8_hides_X8_requireRule
set_option maxRecDepth 20000 in
theorem ggX8_hides_X6_hiddenByAlone : GoodIn wsX8_hides wsX6_hiddenByAlone := goodIn_r _ [15, 16, 17, 18, 19, 20, 14, 21, 22, 23, 24, 25, 26, 27, 28, 29, 30, 31, 32, 33, 34, 35, 36, 40, 41, 42, 43, 44, 45, 46, 47, 48, 49, 50, 51, 52, 53, 54] (by decide +kernel) (by decide +kernel)
set_option maxRecDepth 20000 in
theorem gX8_hides_X6_hiddenByAlone : GoodIn wsX8_hides (wsV RX8 250 RX6 yX6_hiddenByAlone wsX6_hiddenByAlone) := goodIn_app (goodIn_of _ (by decide +kernel)) ggX8_hides_X6_hiddenByAlone
theorem dX8_hides_0 : decode cX8_hides 0 = .ok (.iload_n 1, 1) := by decide +kernel
theorem dX8_hides_1 : decode cX8_hides 1 = .ok (.invokestatic 136, 3) := by decide +kernel
theorem dX8_hides_4 : decode cX8_hides 4 = .ok (.aload_n 0, 1) := by decide +kernel
theorem dX8_hides_5 : decode cX8_hides 5 = .ok (.getfield 10, 3) := by decide +kernel
theorem dX8_hides_8 : decode cX8_hides 8 = .ok (.iload_n 1, 1) := by decide +kernel
theorem dX8_hides_9 : decode cX8_hides 9 = .ok (.invokevirtual 250, 3) := by decide +kernel
theorem dX8_hides_12 : decode cX8_hides 12 = .ok (.ireturn, 1) := by decide +kernel
set_option maxRecDepth 20000 in
theorem ggX8_openness_X6_shareSeen : GoodIn wsX8_openness wsX6_shareSeen := goodIn_r _ [6, 7, 8, 9, 10, 11, 5, 12, 13, 14, 15, 16, 17, 18, 19, 20, 21, 22, 23, 24, 25, 26, 27, 28, 29, 30, 31, 32, 33, 34, 35, 36, 37, 38, 39, 40, 41, 42, 43, 44, 45, 46, 47, 48, 49, 50, 51, 52, 53, 54, 58, 59, 60, 61, 62, 63, 64, 65, 66, 67, 68, 69, 70, 71, 72] (by decide +kernel) (by decide +kernel)
set_option maxRecDepth 20000 in
theorem gX8_openness_X6_shareSeen : GoodIn wsX8_openness (wsV RX8 264 RX6 yX6_shareSeen wsX6_shareSeen) := goodIn_app (goodIn_of _ (by decide +kernel)) ggX8_openness_X6_shareSeen
theorem dX8_openness_0 : decode cX8_openness 0 = .ok (.aload_n 0, 1) := by decide +kernel
theorem dX8_openness_1 : decode cX8_openness 1 = .ok (.getfield 10, 3) := by decide +kernel
theorem dX8_openness_4 : decode cX8_openness 4 = .ok (.invokevirtual 264, 3) := by decide +kernel
theorem dX8_openness_7 : decode cX8_openness 7 = .ok (.dreturn, 1) := by decide +kernel
set_option maxRecDepth 20000 in
theorem ggX8_total_X3_get : GoodIn wsX8_total wsX3_get := goodIn_r _ [16, 17, 86] (by decide +kernel) (by decide +kernel)
set_option maxRecDepth 20000 in
theorem gX8_total_X3_get : GoodIn wsX8_total (wsV RX8 291 RX3 yX3_get wsX3_get) := goodIn_app (goodIn_of _ (by decide +kernel)) ggX8_total_X3_get
set_option maxRecDepth 20000 in
theorem ggX8_total_X3_sum : GoodIn wsX8_total wsX3_sum := goodIn_r _ [21, 17, 86] (by decide +kernel) (by decide +kernel)
set_option maxRecDepth 20000 in
theorem gX8_total_X3_sum : GoodIn wsX8_total (wsV RX8 306 RX3 yX3_sum wsX3_sum) := goodIn_app (goodIn_of _ (by decide +kernel)) ggX8_total_X3_sum
set_option maxRecDepth 20000 in
theorem ggX8_total_X6_pairsSeen : GoodIn wsX8_total wsX6_pairsSeen := goodIn_r _ [26, 27, 28, 29, 25, 30, 31, 32, 33, 34, 35, 36, 37, 38, 39, 40, 41, 42, 43, 44, 13, 14, 15, 16, 17, 45, 46, 47, 48, 49, 50, 51, 52, 53, 54, 55, 56, 57, 58, 59, 60, 61, 62, 63, 64, 65, 69, 70, 71, 72, 73, 74, 75, 76, 77, 78, 79, 86, 87, 88, 89] (by decide +kernel) (by decide +kernel)
set_option maxRecDepth 20000 in
theorem gX8_total_X6_pairsSeen : GoodIn wsX8_total (wsV RX8 312 RX6 yX6_pairsSeen wsX6_pairsSeen) := goodIn_app (goodIn_of _ (by decide +kernel)) ggX8_total_X6_pairsSeen
theorem dX8_total_0 : decode cX8_total 0 = .ok (.iload_n 1, 1) := by decide +kernel
theorem dX8_total_1 : decode cX8_total 1 = .ok (.tableswitch 166 0 8 #[51, 62, 70, 82, 94, 106, 120, 134, 145], 51) := by decide +kernel
theorem dX8_total_52 : decode cX8_total 52 = .ok (.aload_n 0, 1) := by decide +kernel
theorem dX8_total_53 : decode cX8_total 53 = .ok (.getfield 10, 3) := by decide +kernel
theorem dX8_total_56 : decode cX8_total 56 = .ok (.getfield 56, 3) := by decide +kernel
theorem dX8_total_59 : decode cX8_total 59 = .ok (.getfield 75, 3) := by decide +kernel
theorem dX8_total_62 : decode cX8_total 62 = .ok (.ireturn, 1) := by decide +kernel
theorem dX8_total_63 : decode cX8_total 63 = .ok (.aload_n 0, 1) := by decide +kernel
theorem dX8_total_64 : decode cX8_total 64 = .ok (.getfield 10, 3) := by decide +kernel
theorem dX8_total_67 : decode cX8_total 67 = .ok (.getfield 139, 3) := by decide +kernel
theorem dX8_total_70 : decode cX8_total 70 = .ok (.ireturn, 1) := by decide +kernel
theorem dX8_total_71 : decode cX8_total 71 = .ok (.aload_n 0, 1) := by decide +kernel
theorem dX8_total_72 : decode cX8_total 72 = .ok (.getfield 10, 3) := by decide +kernel
theorem dX8_total_75 : decode cX8_total 75 = .ok (.getfield 144, 3) := by decide +kernel
theorem dX8_total_78 : decode cX8_total 78 = .ok (.iconst 0, 1) := by decide +kernel
theorem dX8_total_79 : decode cX8_total 79 = .ok (.invokevirtual 291, 3) := by decide +kernel
theorem dX8_total_82 : decode cX8_total 82 = .ok (.ireturn, 1) := by decide +kernel
theorem dX8_total_83 : decode cX8_total 83 = .ok (.aload_n 0, 1) := by decide +kernel
theorem dX8_total_84 : decode cX8_total 84 = .ok (.getfield 10, 3) := by decide +kernel
theorem dX8_total_87 : decode cX8_total 87 = .ok (.getfield 144, 3) := by decide +kernel
theorem dX8_total_90 : decode cX8_total 90 = .ok (.iconst 1, 1) := by decide +kernel
theorem dX8_total_91 : decode cX8_total 91 = .ok (.invokevirtual 291, 3) := by decide +kernel
theorem dX8_total_94 : decode cX8_total 94 = .ok (.ireturn, 1) := by decide +kernel
theorem dX8_total_95 : decode cX8_total 95 = .ok (.aload_n 0, 1) := by decide +kernel
theorem dX8_total_96 : decode cX8_total 96 = .ok (.getfield 10, 3) := by decide +kernel
theorem dX8_total_99 : decode cX8_total 99 = .ok (.getfield 144, 3) := by decide +kernel
theorem dX8_total_102 : decode cX8_total 102 = .ok (.iconst 2, 1) := by decide +kernel
theorem dX8_total_103 : decode cX8_total 103 = .ok (.invokevirtual 291, 3) := by decide +kernel
theorem dX8_total_106 : decode cX8_total 106 = .ok (.ireturn, 1) := by decide +kernel
theorem dX8_total_107 : decode cX8_total 107 = .ok (.aload_n 0, 1) := by decide +kernel
theorem dX8_total_108 : decode cX8_total 108 = .ok (.getfield 10, 3) := by decide +kernel
theorem dX8_total_111 : decode cX8_total 111 = .ok (.getfield 157, 3) := by decide +kernel
theorem dX8_total_114 : decode cX8_total 114 = .ok (.getfield 303, 3) := by decide +kernel
theorem dX8_total_117 : decode cX8_total 117 = .ok (.invokevirtual 306, 3) := by decide +kernel
theorem dX8_total_120 : decode cX8_total 120 = .ok (.ireturn, 1) := by decide +kernel
theorem dX8_total_121 : decode cX8_total 121 = .ok (.aload_n 0, 1) := by decide +kernel
theorem dX8_total_122 : decode cX8_total 122 = .ok (.getfield 10, 3) := by decide +kernel
theorem dX8_total_125 : decode cX8_total 125 = .ok (.getfield 157, 3) := by decide +kernel
theorem dX8_total_128 : decode cX8_total 128 = .ok (.getfield 309, 3) := by decide +kernel
theorem dX8_total_131 : decode cX8_total 131 = .ok (.invokevirtual 306, 3) := by decide +kernel
theorem dX8_total_134 : decode cX8_total 134 = .ok (.ireturn, 1) := by decide +kernel
theorem dX8_total_135 : decode cX8_total 135 = .ok (.aload_n 0, 1) := by decide +kernel
theorem dX8_total_136 : decode cX8_total 136 = .ok (.getfield 10, 3) := by decide +kernel
theorem dX8_total_139 : decode cX8_total 139 = .ok (.getfield 157, 3) := by decide +kernel
theorem dX8_total_142 : decode cX8_total 142 = .ok (.getfield 171, 3) := by decide +kernel
theorem dX8_total_145 : decode cX8_total 145 = .ok (.ireturn, 1) := by decide +kernel
theorem dX8_total_146 : decode cX8_total 146 = .ok (.aload_n 0, 1) := by decide +kernel
theorem dX8_total_147 : decode cX8_total 147 = .ok (.getfield 10, 3) := by decide +kernel
theorem dX8_total_150 : decode cX8_total 150 = .ok (.getfield 56, 3) := by decide +kernel
theorem dX8_total_153 : decode cX8_total 153 = .ok (.getfield 75, 3) := by decide +kernel
theorem dX8_total_156 : decode cX8_total 156 = .ok (.iconst 5, 1) := by decide +kernel
theorem dX8_total_157 : decode cX8_total 157 = .ok (.imul, 1) := by decide +kernel
theorem dX8_total_158 : decode cX8_total 158 = .ok (.aload_n 0, 1) := by decide +kernel
theorem dX8_total_159 : decode cX8_total 159 = .ok (.getfield 10, 3) := by decide +kernel
theorem dX8_total_162 : decode cX8_total 162 = .ok (.invokevirtual 312, 3) := by decide +kernel
theorem dX8_total_165 : decode cX8_total 165 = .ok (.isub, 1) := by decide +kernel
theorem dX8_total_166 : decode cX8_total 166 = .ok (.ireturn, 1) := by decide +kernel
theorem dX8_total_167 : decode cX8_total 167 = .ok (.aload_n 0, 1) := by decide +kernel
theorem dX8_total_168 : decode cX8_total 168 = .ok (.getfield 19, 3) := by decide +kernel
theorem dX8_total_171 : decode cX8_total 171 = .ok (.getfield 213, 3) := by decide +kernel
theorem dX8_total_174 : decode cX8_total 174 = .ok (.ireturn, 1) := by decide +kernel
set_option maxRecDepth 20000 in
theorem ggX8_answerIf_X5_howManyMatch : GoodIn wsX8_answerIf wsX5_howManyMatch := goodIn_r _ [8, 9, 10, 11, 12, 7, 13, 14, 15, 16, 17, 18, 19, 20, 21, 95, 96, 97, 98, 99, 100] (by decide +kernel) (by decide +kernel)
set_option maxRecDepth 20000 in
theorem gX8_answerIf_X5_howManyMatch : GoodIn wsX8_answerIf (wsV RX8 315 RX5 yX5_howManyMatch wsX5_howManyMatch) := goodIn_app (goodIn_of _ (by decide +kernel)) ggX8_answerIf_X5_howManyMatch
set_option maxRecDepth 20000 in
theorem ggX8_answerIf_X6_seenRows : GoodIn wsX8_answerIf wsX6_seenRows := goodIn_r _ [26, 27, 28, 29, 11, 12, 7, 13, 14, 15, 16, 17, 18, 19, 20, 21, 30, 31, 32, 25, 33, 34, 35, 36, 37, 38, 39, 40, 41, 42, 43, 89, 90, 91, 92, 93, 94, 95, 96, 97, 98, 99, 100, 101, 102, 103] (by decide +kernel) (by decide +kernel)
set_option maxRecDepth 20000 in
theorem gX8_answerIf_X6_seenRows : GoodIn wsX8_answerIf (wsV RX8 150 RX6 yX6_seenRows wsX6_seenRows) := goodIn_app (goodIn_of _ (by decide +kernel)) ggX8_answerIf_X6_seenRows
set_option maxRecDepth 20000 in
theorem ggX8_answerIf_X6_countAnswer : GoodIn wsX8_answerIf wsX6_countAnswer := goodIn_r _ [47, 48, 49, 50, 51, 52, 25, 53, 54, 55, 56, 57, 58, 59, 60, 43, 17, 18, 19, 20, 21, 61, 62, 63, 64, 65, 66, 67, 68, 69, 70, 71, 72, 73, 74, 75, 76, 89, 90, 91, 92, 93, 94, 100, 104, 105] (by decide +kernel) (by decide +kernel)
set_option maxRecDepth 20000 in
theorem gX8_answerIf_X6_countAnswer : GoodIn wsX8_answerIf (wsV RX8 154 RX6 yX6_countAnswer wsX6_countAnswer) := goodIn_app (goodIn_of _ (by decide +kernel)) ggX8_answerIf_X6_countAnswer
set_option maxRecDepth 20000 in
theorem ggX8_answerIf_X6_sumAnswer : GoodIn wsX8_answerIf wsX6_sumAnswer := goodIn_r _ [80, 27, 28, 40, 81, 82, 83, 84, 43, 17, 18, 19, 20, 21, 50, 51, 52, 25, 53, 48, 54, 55, 56, 57, 58, 59, 60, 89, 90, 91, 92, 93, 94, 95, 96, 97, 98, 99, 100] (by decide +kernel) (by decide +kernel)
set_option maxRecDepth 20000 in
theorem gX8_answerIf_X6_sumAnswer : GoodIn wsX8_answerIf (wsV RX8 177 RX6 yX6_sumAnswer wsX6_sumAnswer) := goodIn_app (goodIn_of _ (by decide +kernel)) ggX8_answerIf_X6_sumAnswer
set_option maxRecDepth 20000 in
theorem ggX8_answerIf_X2_givesAway : GoodIn wsX8_answerIf wsX2_givesAway := goodIn_r _ [65, 66, 67, 17, 18, 19, 20, 21, 68, 69, 70, 64, 71, 72, 73, 55, 56, 57, 58, 59, 60, 104, 105, 100] (by decide +kernel) (by decide +kernel)
set_option maxRecDepth 20000 in
theorem gX8_answerIf_X2_givesAway : GoodIn wsX8_answerIf (wsV RX8 167 RX2 yX2_givesAway wsX2_givesAway) := goodIn_app (goodIn_of _ (by decide +kernel)) ggX8_answerIf_X2_givesAway
theorem dX8_answerIf_0 : decode cX8_answerIf 0 = .ok (.iload 5, 2) := by decide +kernel
theorem dX8_answerIf_2 : decode cX8_answerIf 2 = .ok (.iconst 3, 1) := by decide +kernel
theorem dX8_answerIf_3 : decode cX8_answerIf 3 = .ok (.if_icmp .ne 18, 3) := by decide +kernel
theorem dX8_answerIf_6 : decode cX8_answerIf 6 = .ok (.aload_n 0, 1) := by decide +kernel
theorem dX8_answerIf_7 : decode cX8_answerIf 7 = .ok (.getfield 10, 3) := by decide +kernel
theorem dX8_answerIf_10 : decode cX8_answerIf 10 = .ok (.getfield 56, 3) := by decide +kernel
theorem dX8_answerIf_13 : decode cX8_answerIf 13 = .ok (.iload_n 2, 1) := by decide +kernel
theorem dX8_answerIf_14 : decode cX8_answerIf 14 = .ok (.iload_n 3, 1) := by decide +kernel
theorem dX8_answerIf_15 : decode cX8_answerIf 15 = .ok (.iload 4, 2) := by decide +kernel
theorem dX8_answerIf_17 : decode cX8_answerIf 17 = .ok (.invokevirtual 315, 3) := by decide +kernel
theorem dX8_answerIf_20 : decode cX8_answerIf 20 = .ok (.ireturn, 1) := by decide +kernel
theorem dX8_answerIf_21 : decode cX8_answerIf 21 = .ok (.aload_n 0, 1) := by decide +kernel
theorem dX8_answerIf_22 : decode cX8_answerIf 22 = .ok (.getfield 10, 3) := by decide +kernel
theorem dX8_answerIf_25 : decode cX8_answerIf 25 = .ok (.iload_n 1, 1) := by decide +kernel
theorem dX8_answerIf_26 : decode cX8_answerIf 26 = .ok (.iload_n 2, 1) := by decide +kernel
theorem dX8_answerIf_27 : decode cX8_answerIf 27 = .ok (.iload_n 3, 1) := by decide +kernel
theorem dX8_answerIf_28 : decode cX8_answerIf 28 = .ok (.iload 4, 2) := by decide +kernel
theorem dX8_answerIf_30 : decode cX8_answerIf 30 = .ok (.invokevirtual 150, 3) := by decide +kernel
theorem dX8_answerIf_33 : decode cX8_answerIf 33 = .ok (.istore 6, 2) := by decide +kernel
theorem dX8_answerIf_35 : decode cX8_answerIf 35 = .ok (.iload 5, 2) := by decide +kernel
theorem dX8_answerIf_37 : decode cX8_answerIf 37 = .ok (.lookupswitch 48 #[(0, 27), (1, 38)], 27) := by decide +kernel
theorem dX8_answerIf_64 : decode cX8_answerIf 64 = .ok (.aload_n 0, 1) := by decide +kernel
theorem dX8_answerIf_65 : decode cX8_answerIf 65 = .ok (.getfield 10, 3) := by decide +kernel
theorem dX8_answerIf_68 : decode cX8_answerIf 68 = .ok (.iload_n 1, 1) := by decide +kernel
theorem dX8_answerIf_69 : decode cX8_answerIf 69 = .ok (.iload 6, 2) := by decide +kernel
theorem dX8_answerIf_71 : decode cX8_answerIf 71 = .ok (.invokevirtual 154, 3) := by decide +kernel
theorem dX8_answerIf_74 : decode cX8_answerIf 74 = .ok (.ireturn, 1) := by decide +kernel
theorem dX8_answerIf_75 : decode cX8_answerIf 75 = .ok (.aload_n 0, 1) := by decide +kernel
theorem dX8_answerIf_76 : decode cX8_answerIf 76 = .ok (.getfield 10, 3) := by decide +kernel
theorem dX8_answerIf_79 : decode cX8_answerIf 79 = .ok (.iload 6, 2) := by decide +kernel
theorem dX8_answerIf_81 : decode cX8_answerIf 81 = .ok (.invokevirtual 177, 3) := by decide +kernel
theorem dX8_answerIf_84 : decode cX8_answerIf 84 = .ok (.ireturn, 1) := by decide +kernel
theorem dX8_answerIf_85 : decode cX8_answerIf 85 = .ok (.aload_n 0, 1) := by decide +kernel
theorem dX8_answerIf_86 : decode cX8_answerIf 86 = .ok (.getfield 10, 3) := by decide +kernel
theorem dX8_answerIf_89 : decode cX8_answerIf 89 = .ok (.getfield 90, 3) := by decide +kernel
theorem dX8_answerIf_92 : decode cX8_answerIf 92 = .ok (.iload_n 1, 1) := by decide +kernel
theorem dX8_answerIf_93 : decode cX8_answerIf 93 = .ok (.iload 6, 2) := by decide +kernel
theorem dX8_answerIf_95 : decode cX8_answerIf 95 = .ok (.invokevirtual 167, 3) := by decide +kernel
theorem dX8_answerIf_98 : decode cX8_answerIf 98 = .ok (.ifCond .eq 7, 3) := by decide +kernel
theorem dX8_answerIf_101 : decode cX8_answerIf 101 = .ok (.iconst 1, 1) := by decide +kernel
theorem dX8_answerIf_102 : decode cX8_answerIf 102 = .ok (.goto 4, 3) := by decide +kernel
theorem dX8_answerIf_105 : decode cX8_answerIf 105 = .ok (.iconst 0, 1) := by decide +kernel
theorem dX8_answerIf_106 : decode cX8_answerIf 106 = .ok (.ireturn, 1) := by decide +kernel
theorem dX8_isWithin_0 : decode cX8_isWithin 0 = .ok (.iload_n 0, 1) := by decide +kernel
theorem dX8_isWithin_1 : decode cX8_isWithin 1 = .ok (.iload_n 1, 1) := by decide +kernel
theorem dX8_isWithin_2 : decode cX8_isWithin 2 = .ok (.if_icmp .lt 12, 3) := by decide +kernel
theorem dX8_isWithin_5 : decode cX8_isWithin 5 = .ok (.iload_n 0, 1) := by decide +kernel
theorem dX8_isWithin_6 : decode cX8_isWithin 6 = .ok (.iload_n 2, 1) := by decide +kernel
theorem dX8_isWithin_7 : decode cX8_isWithin 7 = .ok (.if_icmp .gt 7, 3) := by decide +kernel
theorem dX8_isWithin_10 : decode cX8_isWithin 10 = .ok (.iconst 1, 1) := by decide +kernel
theorem dX8_isWithin_11 : decode cX8_isWithin 11 = .ok (.goto 4, 3) := by decide +kernel
theorem dX8_isWithin_14 : decode cX8_isWithin 14 = .ok (.iconst 0, 1) := by decide +kernel
theorem dX8_isWithin_15 : decode cX8_isWithin 15 = .ok (.ireturn, 1) := by decide +kernel
set_option maxRecDepth 20000 in
theorem ggX8_isPerson_X8_isWithin : GoodIn wsX8_isPerson wsX8_isWithin := goodIn_r _ [4] (by decide +kernel) (by decide +kernel)
set_option maxRecDepth 20000 in
theorem gX8_isPerson_X8_isWithin : GoodIn wsX8_isPerson (va_wsS RX8 47 yX8_isWithin wsX8_isWithin) := goodIn_app (goodIn_of _ (by decide +kernel)) ggX8_isPerson_X8_isWithin
theorem dX8_isPerson_0 : decode cX8_isPerson 0 = .ok (.iload_n 0, 1) := by decide +kernel
theorem dX8_isPerson_1 : decode cX8_isPerson 1 = .ok (.iconst 0, 1) := by decide +kernel
theorem dX8_isPerson_2 : decode cX8_isPerson 2 = .ok (.iconst 4, 1) := by decide +kernel
theorem dX8_isPerson_3 : decode cX8_isPerson 3 = .ok (.invokestatic 47, 3) := by decide +kernel
theorem dX8_isPerson_6 : decode cX8_isPerson 6 = .ok (.ireturn, 1) := by decide +kernel
set_option maxRecDepth 20000 in
theorem ggX8_isPlace_X8_isWithin : GoodIn wsX8_isPlace wsX8_isWithin := goodIn_r _ [4] (by decide +kernel) (by decide +kernel)
set_option maxRecDepth 20000 in
theorem gX8_isPlace_X8_isWithin : GoodIn wsX8_isPlace (va_wsS RX8 47 yX8_isWithin wsX8_isWithin) := goodIn_app (goodIn_of _ (by decide +kernel)) ggX8_isPlace_X8_isWithin
theorem dX8_isPlace_0 : decode cX8_isPlace 0 = .ok (.iload_n 0, 1) := by decide +kernel
theorem dX8_isPlace_1 : decode cX8_isPlace 1 = .ok (.iconst 0, 1) := by decide +kernel
theorem dX8_isPlace_2 : decode cX8_isPlace 2 = .ok (.iconst 3, 1) := by decide +kernel
theorem dX8_isPlace_3 : decode cX8_isPlace 3 = .ok (.invokestatic 47, 3) := by decide +kernel
theorem dX8_isPlace_6 : decode cX8_isPlace 6 = .ok (.ireturn, 1) := by decide +kernel
set_option maxRecDepth 20000 in
theorem ggX8_isPlaceOrAll_X8_isPlace : GoodIn wsX8_isPlaceOrAll wsX8_isPlace := goodIn_r _ [4, 5, 6, 3, 7] (by decide +kernel) (by decide +kernel)
set_option maxRecDepth 20000 in
theorem gX8_isPlaceOrAll_X8_isPlace : GoodIn wsX8_isPlaceOrAll (va_wsS RX8 34 yX8_isPlace wsX8_isPlace) := goodIn_app (goodIn_of _ (by decide +kernel)) ggX8_isPlaceOrAll_X8_isPlace
theorem dX8_isPlaceOrAll_0 : decode cX8_isPlaceOrAll 0 = .ok (.iload_n 0, 1) := by decide +kernel
theorem dX8_isPlaceOrAll_1 : decode cX8_isPlaceOrAll 1 = .ok (.iconst (-1), 1) := by decide +kernel
theorem dX8_isPlaceOrAll_2 : decode cX8_isPlaceOrAll 2 = .ok (.if_icmp .eq 10, 3) := by decide +kernel
theorem dX8_isPlaceOrAll_5 : decode cX8_isPlaceOrAll 5 = .ok (.iload_n 0, 1) := by decide +kernel
theorem dX8_isPlaceOrAll_6 : decode cX8_isPlaceOrAll 6 = .ok (.invokestatic 34, 3) := by decide +kernel
theorem dX8_isPlaceOrAll_9 : decode cX8_isPlaceOrAll 9 = .ok (.ifCond .eq 7, 3) := by decide +kernel
theorem dX8_isPlaceOrAll_12 : decode cX8_isPlaceOrAll 12 = .ok (.iconst 1, 1) := by decide +kernel
theorem dX8_isPlaceOrAll_13 : decode cX8_isPlaceOrAll 13 = .ok (.goto 4, 3) := by decide +kernel
theorem dX8_isPlaceOrAll_16 : decode cX8_isPlaceOrAll 16 = .ok (.iconst 0, 1) := by decide +kernel
theorem dX8_isPlaceOrAll_17 : decode cX8_isPlaceOrAll 17 = .ok (.ireturn, 1) := by decide +kernel
set_option maxRecDepth 20000 in
theorem ggX8_isValue_X8_isWithin : GoodIn wsX8_isValue wsX8_isWithin := goodIn_r _ [4] (by decide +kernel) (by decide +kernel)
set_option maxRecDepth 20000 in
theorem gX8_isValue_X8_isWithin : GoodIn wsX8_isValue (va_wsS RX8 47 yX8_isWithin wsX8_isWithin) := goodIn_app (goodIn_of _ (by decide +kernel)) ggX8_isValue_X8_isWithin
theorem dX8_isValue_0 : decode cX8_isValue 0 = .ok (.iload_n 0, 1) := by decide +kernel
theorem dX8_isValue_1 : decode cX8_isValue 1 = .ok (.iconst 0, 1) := by decide +kernel
theorem dX8_isValue_2 : decode cX8_isValue 2 = .ok (.bipush 99, 2) := by decide +kernel
theorem dX8_isValue_4 : decode cX8_isValue 4 = .ok (.invokestatic 47, 3) := by decide +kernel
theorem dX8_isValue_7 : decode cX8_isValue 7 = .ok (.ireturn, 1) := by decide +kernel
set_option maxRecDepth 20000 in
theorem ggX8_requireRow_X8_isWithin : GoodIn wsX8_requireRow wsX8_isWithin := goodIn_r _ [9] (by decide +kernel) (by decide +kernel)
set_option maxRecDepth 20000 in
theorem gX8_requireRow_X8_isWithin : GoodIn wsX8_requireRow (va_wsS RX8 47 yX8_isWithin wsX8_isWithin) := goodIn_app (goodIn_of _ (by decide +kernel)) ggX8_requireRow_X8_isWithin
theorem dX8_requireRow_0 : decode cX8_requireRow 0 = .ok (.iload_n 1, 1) := by decide +kernel
theorem dX8_requireRow_1 : decode cX8_requireRow 1 = .ok (.iconst 0, 1) := by decide +kernel
theorem dX8_requireRow_2 : decode cX8_requireRow 2 = .ok (.aload_n 0, 1) := by decide +kernel
theorem dX8_requireRow_3 : decode cX8_requireRow 3 = .ok (.getfield 10, 3) := by decide +kernel
theorem dX8_requireRow_6 : decode cX8_requireRow 6 = .ok (.getfield 56, 3) := by decide +kernel
theorem dX8_requireRow_9 : decode cX8_requireRow 9 = .ok (.getfield 75, 3) := by decide +kernel
theorem dX8_requireRow_12 : decode cX8_requireRow 12 = .ok (.iconst 1, 1) := by decide +kernel
theorem dX8_requireRow_13 : decode cX8_requireRow 13 = .ok (.isub, 1) := by decide +kernel
theorem dX8_requireRow_14 : decode cX8_requireRow 14 = .ok (.invokestatic 47, 3) := by decide +kernel
theorem dX8_requireRow_17 : decode cX8_requireRow 17 = .ok (.ifCond .ne 14, 3) := by decide +kernel
theorem dX8_requireRow_20 : decode cX8_requireRow 20 = .ok (.new 37, 3) := by decide +kernel
theorem dX8_requireRow_23 : decode cX8_requireRow 23 = .ok (.dup, 1) := by decide +kernel
theorem dX8_requireRow_24 : decode cX8_requireRow 24 = .ok (.ldc_w 319, 3) := by decide +kernel
theorem dX8_requireRow_27 : decode cX8_requireRow 27 = .ok (.invokespecial 41, 3) := by decide +kernel
theorem dX8_requireRow_30 : decode cX8_requireRow 30 = .ok (.athrow, 1) := by decide +kernel
theorem dX8_requireRow_31 : decode cX8_requireRow 31 = .ok (.return_, 1) := by decide +kernel
set_option maxRecDepth 20000 in
theorem ggX8_requireAsker_X8_isPerson : GoodIn wsX8_requireAsker wsX8_isPerson := goodIn_r _ [6, 7, 8, 5, 9] (by decide +kernel) (by decide +kernel)
set_option maxRecDepth 20000 in
theorem gX8_requireAsker_X8_isPerson : GoodIn wsX8_requireAsker (va_wsS RX8 30 yX8_isPerson wsX8_isPerson) := goodIn_app (goodIn_of _ (by decide +kernel)) ggX8_requireAsker_X8_isPerson
theorem dX8_requireAsker_0 : decode cX8_requireAsker 0 = .ok (.iload_n 0, 1) := by decide +kernel
theorem dX8_requireAsker_1 : decode cX8_requireAsker 1 = .ok (.invokestatic 30, 3) := by decide +kernel
theorem dX8_requireAsker_4 : decode cX8_requireAsker 4 = .ok (.ifCond .ne 13, 3) := by decide +kernel
theorem dX8_requireAsker_7 : decode cX8_requireAsker 7 = .ok (.new 37, 3) := by decide +kernel
theorem dX8_requireAsker_10 : decode cX8_requireAsker 10 = .ok (.dup, 1) := by decide +kernel
theorem dX8_requireAsker_11 : decode cX8_requireAsker 11 = .ok (.ldc 129, 2) := by decide +kernel
theorem dX8_requireAsker_13 : decode cX8_requireAsker 13 = .ok (.invokespecial 41, 3) := by decide +kernel
theorem dX8_requireAsker_16 : decode cX8_requireAsker 16 = .ok (.athrow, 1) := by decide +kernel
theorem dX8_requireAsker_17 : decode cX8_requireAsker 17 = .ok (.return_, 1) := by decide +kernel
set_option maxRecDepth 20000 in
theorem ggX8_requireRule_X8_isWithin : GoodIn wsX8_requireRule wsX8_isWithin := goodIn_r _ [6] (by decide +kernel) (by decide +kernel)
set_option maxRecDepth 20000 in
theorem gX8_requireRule_X8_isWithin : GoodIn wsX8_requireRule (va_wsS RX8 47 yX8_isWithin wsX8_isWithin) := goodIn_app (goodIn_of _ (by decide +kernel)) ggX8_requireRule_X8_isWithin
theorem dX8_requireRule_0 : decode cX8_requireRule 0 = .ok (.iload_n 0, 1) := by decide +kernel
theorem dX8_requireRule_1 : decode cX8_requireRule 1 = .ok (.iconst 0, 1) := by decide +kernel
theorem dX8_requireRule_2 : decode cX8_requireRule 2 = .ok (.iconst 3, 1) := by decide +kernel
theorem dX8_requireRule_3 : decode cX8_requireRule 3 = .ok (.invokestatic 47, 3) := by decide +kernel
theorem dX8_requireRule_6 : decode cX8_requireRule 6 = .ok (.ifCond .ne 14, 3) := by decide +kernel
theorem dX8_requireRule_9 : decode cX8_requireRule 9 = .ok (.new 37, 3) := by decide +kernel
theorem dX8_requireRule_12 : decode cX8_requireRule 12 = .ok (.dup, 1) := by decide +kernel
theorem dX8_requireRule_13 : decode cX8_requireRule 13 = .ok (.ldc_w 321, 3) := by decide +kernel
theorem dX8_requireRule_16 : decode cX8_requireRule 16 = .ok (.invokespecial 41, 3) := by decide +kernel
theorem dX8_requireRule_19 : decode cX8_requireRule 19 = .ok (.athrow, 1) := by decide +kernel
theorem dX8_requireRule_20 : decode cX8_requireRule 20 = .ok (.return_, 1) := by decide +kernel
set_option maxRecDepth 20000 in
theorem ggX8_requireQuestion_X8_isPerson : GoodIn wsX8_requireQuestion wsX8_isPerson := goodIn_r _ [8, 9, 10, 7, 11] (by decide +kernel) (by decide +kernel)
set_option maxRecDepth 20000 in
theorem gX8_requireQuestion_X8_isPerson : GoodIn wsX8_requireQuestion (va_wsS RX8 30 yX8_isPerson wsX8_isPerson) := goodIn_app (goodIn_of _ (by decide +kernel)) ggX8_requireQuestion_X8_isPerson
set_option maxRecDepth 20000 in
theorem ggX8_requireQuestion_X8_isPlaceOrAll : GoodIn wsX8_requireQuestion wsX8_isPlaceOrAll := goodIn_r _ [14, 15, 16, 7, 17, 9, 10, 11] (by decide +kernel) (by decide +kernel)
set_option maxRecDepth 20000 in
theorem gX8_requireQuestion_X8_isPlaceOrAll : GoodIn wsX8_requireQuestion (va_wsS RX8 256 yX8_isPlaceOrAll wsX8_isPlaceOrAll) := goodIn_app (goodIn_of _ (by decide +kernel)) ggX8_requireQuestion_X8_isPlaceOrAll
set_option maxRecDepth 20000 in
theorem ggX8_requireQuestion_X8_isValue : GoodIn wsX8_requireQuestion wsX8_isValue := goodIn_r _ [20, 9, 10, 7, 11] (by decide +kernel) (by decide +kernel)
set_option maxRecDepth 20000 in
theorem gX8_requireQuestion_X8_isValue : GoodIn wsX8_requireQuestion (va_wsS RX8 44 yX8_isValue wsX8_isValue) := goodIn_app (goodIn_of _ (by decide +kernel)) ggX8_requireQuestion_X8_isValue
set_option maxRecDepth 20000 in
theorem ggX8_requireQuestion_X8_isWithin : GoodIn wsX8_requireQuestion wsX8_isWithin := goodIn_r _ [11] (by decide +kernel) (by decide +kernel)
set_option maxRecDepth 20000 in
theorem gX8_requireQuestion_X8_isWithin : GoodIn wsX8_requireQuestion (va_wsS RX8 47 yX8_isWithin wsX8_isWithin) := goodIn_app (goodIn_of _ (by decide +kernel)) ggX8_requireQuestion_X8_isWithin
theorem dX8_requireQuestion_0 : decode cX8_requireQuestion 0 = .ok (.iload_n 0, 1) := by decide +kernel
theorem dX8_requireQuestion_1 : decode cX8_requireQuestion 1 = .ok (.invokestatic 30, 3) := by decide +kernel
theorem dX8_requireQuestion_4 : decode cX8_requireQuestion 4 = .ok (.ifCond .eq 10, 3) := by decide +kernel
theorem dX8_requireQuestion_7 : decode cX8_requireQuestion 7 = .ok (.iload_n 1, 1) := by decide +kernel
theorem dX8_requireQuestion_8 : decode cX8_requireQuestion 8 = .ok (.invokestatic 256, 3) := by decide +kernel
theorem dX8_requireQuestion_11 : decode cX8_requireQuestion 11 = .ok (.ifCond .ne 14, 3) := by decide +kernel
theorem dX8_requireQuestion_14 : decode cX8_requireQuestion 14 = .ok (.new 37, 3) := by decide +kernel
theorem dX8_requireQuestion_17 : decode cX8_requireQuestion 17 = .ok (.dup, 1) := by decide +kernel
theorem dX8_requireQuestion_18 : decode cX8_requireQuestion 18 = .ok (.ldc_w 259, 3) := by decide +kernel
theorem dX8_requireQuestion_21 : decode cX8_requireQuestion 21 = .ok (.invokespecial 41, 3) := by decide +kernel
theorem dX8_requireQuestion_24 : decode cX8_requireQuestion 24 = .ok (.athrow, 1) := by decide +kernel
theorem dX8_requireQuestion_25 : decode cX8_requireQuestion 25 = .ok (.iload_n 2, 1) := by decide +kernel
theorem dX8_requireQuestion_26 : decode cX8_requireQuestion 26 = .ok (.invokestatic 44, 3) := by decide +kernel
theorem dX8_requireQuestion_29 : decode cX8_requireQuestion 29 = .ok (.ifCond .eq 13, 3) := by decide +kernel
theorem dX8_requireQuestion_32 : decode cX8_requireQuestion 32 = .ok (.iload_n 3, 1) := by decide +kernel
theorem dX8_requireQuestion_33 : decode cX8_requireQuestion 33 = .ok (.iload_n 2, 1) := by decide +kernel
theorem dX8_requireQuestion_34 : decode cX8_requireQuestion 34 = .ok (.bipush 99, 2) := by decide +kernel
theorem dX8_requireQuestion_36 : decode cX8_requireQuestion 36 = .ok (.invokestatic 47, 3) := by decide +kernel
theorem dX8_requireQuestion_39 : decode cX8_requireQuestion 39 = .ok (.ifCond .ne 14, 3) := by decide +kernel
theorem dX8_requireQuestion_42 : decode cX8_requireQuestion 42 = .ok (.new 51, 3) := by decide +kernel
theorem dX8_requireQuestion_45 : decode cX8_requireQuestion 45 = .ok (.dup, 1) := by decide +kernel
theorem dX8_requireQuestion_46 : decode cX8_requireQuestion 46 = .ok (.ldc_w 323, 3) := by decide +kernel
theorem dX8_requireQuestion_49 : decode cX8_requireQuestion 49 = .ok (.invokespecial 55, 3) := by decide +kernel
theorem dX8_requireQuestion_52 : decode cX8_requireQuestion 52 = .ok (.athrow, 1) := by decide +kernel
theorem dX8_requireQuestion_53 : decode cX8_requireQuestion 53 = .ok (.return_, 1) := by decide +kernel
theorem dJ6_bitCount_0f7a4_0 : decode cJ6_bitCount_0f7a4 0 = .ok (.iload_n 0, 1) := by decide +kernel
theorem dJ6_bitCount_0f7a4_1 : decode cJ6_bitCount_0f7a4 1 = .ok (.iload_n 0, 1) := by decide +kernel
theorem dJ6_bitCount_0f7a4_2 : decode cJ6_bitCount_0f7a4 2 = .ok (.iconst 1, 1) := by decide +kernel
theorem dJ6_bitCount_0f7a4_3 : decode cJ6_bitCount_0f7a4 3 = .ok (.iushr, 1) := by decide +kernel
theorem dJ6_bitCount_0f7a4_4 : decode cJ6_bitCount_0f7a4 4 = .ok (.ldc_w 265, 3) := by decide +kernel
theorem dJ6_bitCount_0f7a4_7 : decode cJ6_bitCount_0f7a4 7 = .ok (.iand, 1) := by decide +kernel
theorem dJ6_bitCount_0f7a4_8 : decode cJ6_bitCount_0f7a4 8 = .ok (.isub, 1) := by decide +kernel
theorem dJ6_bitCount_0f7a4_9 : decode cJ6_bitCount_0f7a4 9 = .ok (.istore_n 0, 1) := by decide +kernel
theorem dJ6_bitCount_0f7a4_10 : decode cJ6_bitCount_0f7a4 10 = .ok (.iload_n 0, 1) := by decide +kernel
theorem dJ6_bitCount_0f7a4_11 : decode cJ6_bitCount_0f7a4 11 = .ok (.ldc_w 266, 3) := by decide +kernel
theorem dJ6_bitCount_0f7a4_14 : decode cJ6_bitCount_0f7a4 14 = .ok (.iand, 1) := by decide +kernel
theorem dJ6_bitCount_0f7a4_15 : decode cJ6_bitCount_0f7a4 15 = .ok (.iload_n 0, 1) := by decide +kernel
theorem dJ6_bitCount_0f7a4_16 : decode cJ6_bitCount_0f7a4 16 = .ok (.iconst 2, 1) := by decide +kernel
theorem dJ6_bitCount_0f7a4_17 : decode cJ6_bitCount_0f7a4 17 = .ok (.iushr, 1) := by decide +kernel
theorem dJ6_bitCount_0f7a4_18 : decode cJ6_bitCount_0f7a4 18 = .ok (.ldc_w 266, 3) := by decide +kernel
theorem dJ6_bitCount_0f7a4_21 : decode cJ6_bitCount_0f7a4 21 = .ok (.iand, 1) := by decide +kernel
theorem dJ6_bitCount_0f7a4_22 : decode cJ6_bitCount_0f7a4 22 = .ok (.iadd, 1) := by decide +kernel
theorem dJ6_bitCount_0f7a4_23 : decode cJ6_bitCount_0f7a4 23 = .ok (.istore_n 0, 1) := by decide +kernel
theorem dJ6_bitCount_0f7a4_24 : decode cJ6_bitCount_0f7a4 24 = .ok (.iload_n 0, 1) := by decide +kernel
theorem dJ6_bitCount_0f7a4_25 : decode cJ6_bitCount_0f7a4 25 = .ok (.iload_n 0, 1) := by decide +kernel
theorem dJ6_bitCount_0f7a4_26 : decode cJ6_bitCount_0f7a4 26 = .ok (.iconst 4, 1) := by decide +kernel
theorem dJ6_bitCount_0f7a4_27 : decode cJ6_bitCount_0f7a4 27 = .ok (.iushr, 1) := by decide +kernel
theorem dJ6_bitCount_0f7a4_28 : decode cJ6_bitCount_0f7a4 28 = .ok (.iadd, 1) := by decide +kernel
theorem dJ6_bitCount_0f7a4_29 : decode cJ6_bitCount_0f7a4 29 = .ok (.ldc_w 267, 3) := by decide +kernel
theorem dJ6_bitCount_0f7a4_32 : decode cJ6_bitCount_0f7a4 32 = .ok (.iand, 1) := by decide +kernel
theorem dJ6_bitCount_0f7a4_33 : decode cJ6_bitCount_0f7a4 33 = .ok (.istore_n 0, 1) := by decide +kernel
theorem dJ6_bitCount_0f7a4_34 : decode cJ6_bitCount_0f7a4 34 = .ok (.iload_n 0, 1) := by decide +kernel
theorem dJ6_bitCount_0f7a4_35 : decode cJ6_bitCount_0f7a4 35 = .ok (.iload_n 0, 1) := by decide +kernel
theorem dJ6_bitCount_0f7a4_36 : decode cJ6_bitCount_0f7a4 36 = .ok (.bipush 8, 2) := by decide +kernel
theorem dJ6_bitCount_0f7a4_38 : decode cJ6_bitCount_0f7a4 38 = .ok (.iushr, 1) := by decide +kernel
theorem dJ6_bitCount_0f7a4_39 : decode cJ6_bitCount_0f7a4 39 = .ok (.iadd, 1) := by decide +kernel
theorem dJ6_bitCount_0f7a4_40 : decode cJ6_bitCount_0f7a4 40 = .ok (.istore_n 0, 1) := by decide +kernel
theorem dJ6_bitCount_0f7a4_41 : decode cJ6_bitCount_0f7a4 41 = .ok (.iload_n 0, 1) := by decide +kernel
theorem dJ6_bitCount_0f7a4_42 : decode cJ6_bitCount_0f7a4 42 = .ok (.iload_n 0, 1) := by decide +kernel
theorem dJ6_bitCount_0f7a4_43 : decode cJ6_bitCount_0f7a4 43 = .ok (.bipush 16, 2) := by decide +kernel
theorem dJ6_bitCount_0f7a4_45 : decode cJ6_bitCount_0f7a4 45 = .ok (.iushr, 1) := by decide +kernel
theorem dJ6_bitCount_0f7a4_46 : decode cJ6_bitCount_0f7a4 46 = .ok (.iadd, 1) := by decide +kernel
theorem dJ6_bitCount_0f7a4_47 : decode cJ6_bitCount_0f7a4 47 = .ok (.istore_n 0, 1) := by decide +kernel
theorem dJ6_bitCount_0f7a4_48 : decode cJ6_bitCount_0f7a4 48 = .ok (.iload_n 0, 1) := by decide +kernel
theorem dJ6_bitCount_0f7a4_49 : decode cJ6_bitCount_0f7a4 49 = .ok (.bipush 63, 2) := by decide +kernel
theorem dJ6_bitCount_0f7a4_51 : decode cJ6_bitCount_0f7a4 51 = .ok (.iand, 1) := by decide +kernel
theorem dJ6_bitCount_0f7a4_52 : decode cJ6_bitCount_0f7a4 52 = .ok (.ireturn, 1) := by decide +kernel
theorem dJ9_max_7cf53_0 : decode cJ9_max_7cf53 0 = .ok (.iload_n 0, 1) := by decide +kernel
theorem dJ9_max_7cf53_1 : decode cJ9_max_7cf53 1 = .ok (.iload_n 1, 1) := by decide +kernel
theorem dJ9_max_7cf53_2 : decode cJ9_max_7cf53 2 = .ok (.if_icmp .lt 7, 3) := by decide +kernel
theorem dJ9_max_7cf53_5 : decode cJ9_max_7cf53 5 = .ok (.iload_n 0, 1) := by decide +kernel
theorem dJ9_max_7cf53_6 : decode cJ9_max_7cf53 6 = .ok (.goto 4, 3) := by decide +kernel
theorem dJ9_max_7cf53_9 : decode cJ9_max_7cf53 9 = .ok (.iload_n 1, 1) := by decide +kernel
theorem dJ9_max_7cf53_10 : decode cJ9_max_7cf53 10 = .ok (.ireturn, 1) := by decide +kernel
theorem dJ9_min_7cf53_0 : decode cJ9_min_7cf53 0 = .ok (.iload_n 0, 1) := by decide +kernel
theorem dJ9_min_7cf53_1 : decode cJ9_min_7cf53 1 = .ok (.iload_n 1, 1) := by decide +kernel
theorem dJ9_min_7cf53_2 : decode cJ9_min_7cf53 2 = .ok (.if_icmp .gt 7, 3) := by decide +kernel
theorem dJ9_min_7cf53_5 : decode cJ9_min_7cf53 5 = .ok (.iload_n 0, 1) := by decide +kernel
theorem dJ9_min_7cf53_6 : decode cJ9_min_7cf53 6 = .ok (.goto 4, 3) := by decide +kernel
theorem dJ9_min_7cf53_9 : decode cJ9_min_7cf53 9 = .ok (.iload_n 1, 1) := by decide +kernel
theorem dJ9_min_7cf53_10 : decode cJ9_min_7cf53 10 = .ok (.ireturn, 1) := by decide +kernel
theorem dL_cell_0 : decode cL_cell 0 = .ok (.iload_n 1, 1) := by decide +kernel
theorem dL_cell_1 : decode cL_cell 1 = .ok (.aload_n 0, 1) := by decide +kernel
theorem dL_cell_2 : decode cL_cell 2 = .ok (.arraylength, 1) := by decide +kernel
theorem dL_cell_3 : decode cL_cell 3 = .ok (.if_icmp .ge 9, 3) := by decide +kernel
theorem dL_cell_6 : decode cL_cell 6 = .ok (.aload_n 0, 1) := by decide +kernel
theorem dL_cell_7 : decode cL_cell 7 = .ok (.iload_n 1, 1) := by decide +kernel
theorem dL_cell_8 : decode cL_cell 8 = .ok (.iaload, 1) := by decide +kernel
theorem dL_cell_9 : decode cL_cell 9 = .ok (.goto 15, 3) := by decide +kernel
theorem dL_cell_12 : decode cL_cell 12 = .ok (.sipush 7919, 3) := by decide +kernel
theorem dL_cell_15 : decode cL_cell 15 = .ok (.iload_n 1, 1) := by decide +kernel
theorem dL_cell_16 : decode cL_cell 16 = .ok (.iconst 3, 1) := by decide +kernel
theorem dL_cell_17 : decode cL_cell 17 = .ok (.iadd, 1) := by decide +kernel
theorem dL_cell_18 : decode cL_cell 18 = .ok (.imul, 1) := by decide +kernel
theorem dL_cell_19 : decode cL_cell 19 = .ok (.iload_n 1, 1) := by decide +kernel
theorem dL_cell_20 : decode cL_cell 20 = .ok (.bipush 11, 2) := by decide +kernel
theorem dL_cell_22 : decode cL_cell 22 = .ok (.iadd, 1) := by decide +kernel
theorem dL_cell_23 : decode cL_cell 23 = .ok (.imul, 1) := by decide +kernel
theorem dL_cell_24 : decode cL_cell 24 = .ok (.ireturn, 1) := by decide +kernel
theorem dL_low_0 : decode cL_low 0 = .ok (.iload_n 0, 1) := by decide +kernel
theorem dL_low_1 : decode cL_low 1 = .ok (.ldc 7, 2) := by decide +kernel
theorem dL_low_3 : decode cL_low 3 = .ok (.iand, 1) := by decide +kernel
theorem dL_low_4 : decode cL_low 4 = .ok (.iload_n 1, 1) := by decide +kernel
theorem dL_low_5 : decode cL_low 5 = .ok (.irem, 1) := by decide +kernel
theorem dL_low_6 : decode cL_low 6 = .ok (.ireturn, 1) := by decide +kernel
set_option maxRecDepth 20000 in
theorem ggL_told_X8_count : GoodIn wsL_told wsX8_count := goodIn_ca (goodIn_r _ [7, 8, 9, 10, 11, 6, 12, 13, 14, 15, 16, 17, 18, 19, 20, 21, 22, 23, 24, 25, 26, 27, 28, 29, 30, 31, 32, 33, 34, 35, 36, 37, 38, 39, 40, 41, 42, 43, 44, 45, 46, 47, 48, 49, 50, 51, 52, 53, 54, 55, 56, 57, 58, 59, 60, 61, 62, 63, 64, 65, 66, 67, 68, 69, 70, 71, 72, 73, 74, 75, 76, 77, 78, 79, 80, 81, 132, 133, 134, 135, 136, 137, 138, 139, 140, 141, 142, 143, 144, 145, 146, 147, 148, 149, 150, 151, 152, 153, 154, 155] (by decide +kernel) (by decide +kernel)) (goodIn_sub (fun _ h => List.mem_cons_of_mem _ (List.mem_append_left _ (List.mem_append_right _ h))) (by decide +kernel))
set_option maxRecDepth 20000 in
theorem gL_told_X8_count : GoodIn wsL_told (wsV RL 12 RX8 yX8_count wsX8_count) := goodIn_app (goodIn_of _ (by decide +kernel)) ggL_told_X8_count
set_option maxRecDepth 20000 in
theorem ggL_told_X8_rowOf : GoodIn wsL_told wsX8_rowOf := goodIn_ca (goodIn_ca (goodIn_r _ [85, 8, 9, 17, 86, 87, 88, 6, 89, 90, 91, 18, 19, 10, 11, 12, 92, 93, 94, 41, 95, 51, 65, 69, 71, 66, 74, 29, 30, 31, 32, 33, 96, 97, 98, 99, 61, 62, 63, 64, 67, 68, 70, 72, 73, 132, 133, 134, 135, 136, 137, 138, 139, 140, 141, 142, 143, 144, 145, 152, 153, 154, 155] (by decide +kernel) (by decide +kernel)) (goodIn_sub (fun _ h => List.mem_cons_of_mem _ (List.mem_append_left _ (List.mem_append_right _ h))) (by decide +kernel))) (goodIn_sub (fun _ h => List.mem_cons_of_mem _ (List.mem_append_right _ h)) (by decide +kernel))
set_option maxRecDepth 20000 in
theorem gL_told_X8_rowOf : GoodIn wsL_told (wsV RL 18 RX8 yX8_rowOf wsX8_rowOf) := goodIn_app (goodIn_of _ (by decide +kernel)) ggL_told_X8_rowOf
set_option maxRecDepth 20000 in
theorem ggL_told_X8_personOf : GoodIn wsL_told wsX8_personOf := goodIn_ca (goodIn_ca (goodIn_r _ [103, 8, 9, 17, 104, 105, 6, 106, 90, 91, 107, 108, 109, 10, 11, 12, 110, 111, 112, 41, 113, 67, 68, 70, 72, 114, 115, 116, 117, 118, 74, 29, 30, 31, 32, 33, 43, 44, 45, 46, 47, 48, 49, 50, 51, 52, 53, 54, 55, 56, 57, 58, 59, 60, 61, 62, 63, 64, 65, 66, 69, 71, 73, 75, 76, 77, 78, 79, 80, 81, 132, 133, 134, 135, 136, 137, 138, 139, 140, 153, 154, 155, 156, 157, 146, 147, 148, 152, 141, 142, 143, 144, 145] (by decide +kernel) (by decide +kernel)) (goodIn_sub (fun _ h => List.mem_cons_of_mem _ (List.mem_append_left _ (List.mem_append_right _ h))) (by decide +kernel))) (goodIn_sub (fun _ h => List.mem_cons_of_mem _ (List.mem_append_right _ h)) (by decide +kernel))
set_option maxRecDepth 20000 in
theorem gL_told_X8_personOf : GoodIn wsL_told (wsV RL 22 RX8 yX8_personOf wsX8_personOf) := goodIn_app (goodIn_of _ (by decide +kernel)) ggL_told_X8_personOf
set_option maxRecDepth 20000 in
theorem ggL_told_X8_remembered : GoodIn wsL_told wsX8_remembered := goodIn_ca (goodIn_ca (goodIn_r _ [122, 8, 9, 17, 123, 104, 105, 6, 106, 90, 91, 107, 108, 109, 10, 11, 12, 124, 125, 126, 127, 128, 129, 130, 131, 29, 30, 31, 32, 33, 132, 133, 134, 135, 136, 137, 138, 139, 140, 156, 157, 152] (by decide +kernel) (by decide +kernel)) (goodIn_sub (fun _ h => List.mem_cons_of_mem _ (List.mem_append_left _ (List.mem_append_right _ h))) (by decide +kernel))) (goodIn_sub (fun _ h => List.mem_cons_of_mem _ (List.mem_append_right _ h)) (by decide +kernel))
set_option maxRecDepth 20000 in
theorem gL_told_X8_remembered : GoodIn wsL_told (wsV RL 25 RX8 yX8_remembered wsX8_remembered) := goodIn_app (goodIn_of _ (by decide +kernel)) ggL_told_X8_remembered
theorem dL_told_0 : decode cL_told 0 = .ok (.ldc2_w 8, 3) := by decide +kernel
theorem dL_told_3 : decode cL_told 3 = .ok (.lstore_n 1, 1) := by decide +kernel
theorem dL_told_4 : decode cL_told 4 = .ok (.iconst 0, 1) := by decide +kernel
theorem dL_told_5 : decode cL_told 5 = .ok (.istore_n 3, 1) := by decide +kernel
theorem dL_told_6 : decode cL_told 6 = .ok (.iload_n 3, 1) := by decide +kernel
theorem dL_told_7 : decode cL_told 7 = .ok (.bipush 9, 2) := by decide +kernel
theorem dL_told_9 : decode cL_told 9 = .ok (.if_icmp .ge 22, 3) := by decide +kernel
theorem dL_told_12 : decode cL_told 12 = .ok (.ldc2_w 10, 3) := by decide +kernel
theorem dL_told_15 : decode cL_told 15 = .ok (.lload_n 1, 1) := by decide +kernel
theorem dL_told_16 : decode cL_told 16 = .ok (.lmul, 1) := by decide +kernel
theorem dL_told_17 : decode cL_told 17 = .ok (.aload_n 0, 1) := by decide +kernel
theorem dL_told_18 : decode cL_told 18 = .ok (.iload_n 3, 1) := by decide +kernel
theorem dL_told_19 : decode cL_told 19 = .ok (.invokevirtual 12, 3) := by decide +kernel
theorem dL_told_22 : decode cL_told 22 = .ok (.i2l, 1) := by decide +kernel
theorem dL_told_23 : decode cL_told 23 = .ok (.ladd, 1) := by decide +kernel
theorem dL_told_24 : decode cL_told 24 = .ok (.lstore_n 1, 1) := by decide +kernel
theorem dL_told_25 : decode cL_told 25 = .ok (.iinc 3 1, 3) := by decide +kernel
theorem dL_told_28 : decode cL_told 28 = .ok (.goto (-22), 3) := by decide +kernel
theorem dL_told_31 : decode cL_told 31 = .ok (.iconst 0, 1) := by decide +kernel
theorem dL_told_32 : decode cL_told 32 = .ok (.istore_n 3, 1) := by decide +kernel
theorem dL_told_33 : decode cL_told 33 = .ok (.iload_n 3, 1) := by decide +kernel
theorem dL_told_34 : decode cL_told 34 = .ok (.aload_n 0, 1) := by decide +kernel
theorem dL_told_35 : decode cL_told 35 = .ok (.iconst 0, 1) := by decide +kernel
theorem dL_told_36 : decode cL_told 36 = .ok (.invokevirtual 12, 3) := by decide +kernel
theorem dL_told_39 : decode cL_told 39 = .ok (.if_icmp .ge 39, 3) := by decide +kernel
theorem dL_told_42 : decode cL_told 42 = .ok (.iconst 0, 1) := by decide +kernel
theorem dL_told_43 : decode cL_told 43 = .ok (.istore 4, 2) := by decide +kernel
theorem dL_told_45 : decode cL_told 45 = .ok (.iload 4, 2) := by decide +kernel
theorem dL_told_47 : decode cL_told 47 = .ok (.iconst 5, 1) := by decide +kernel
theorem dL_told_48 : decode cL_told 48 = .ok (.if_icmp .ge 24, 3) := by decide +kernel
theorem dL_told_51 : decode cL_told 51 = .ok (.ldc2_w 10, 3) := by decide +kernel
theorem dL_told_54 : decode cL_told 54 = .ok (.lload_n 1, 1) := by decide +kernel
theorem dL_told_55 : decode cL_told 55 = .ok (.lmul, 1) := by decide +kernel
theorem dL_told_56 : decode cL_told 56 = .ok (.aload_n 0, 1) := by decide +kernel
theorem dL_told_57 : decode cL_told 57 = .ok (.iload_n 3, 1) := by decide +kernel
theorem dL_told_58 : decode cL_told 58 = .ok (.iload 4, 2) := by decide +kernel
theorem dL_told_60 : decode cL_told 60 = .ok (.invokevirtual 18, 3) := by decide +kernel
theorem dL_told_63 : decode cL_told 63 = .ok (.i2l, 1) := by decide +kernel
theorem dL_told_64 : decode cL_told 64 = .ok (.ladd, 1) := by decide +kernel
theorem dL_told_65 : decode cL_told 65 = .ok (.lstore_n 1, 1) := by decide +kernel
theorem dL_told_66 : decode cL_told 66 = .ok (.iinc 4 1, 3) := by decide +kernel
theorem dL_told_69 : decode cL_told 69 = .ok (.goto (-24), 3) := by decide +kernel
theorem dL_told_72 : decode cL_told 72 = .ok (.iinc 3 1, 3) := by decide +kernel
theorem dL_told_75 : decode cL_told 75 = .ok (.goto (-42), 3) := by decide +kernel
theorem dL_told_78 : decode cL_told 78 = .ok (.iconst 0, 1) := by decide +kernel
theorem dL_told_79 : decode cL_told 79 = .ok (.istore_n 3, 1) := by decide +kernel
theorem dL_told_80 : decode cL_told 80 = .ok (.iload_n 3, 1) := by decide +kernel
theorem dL_told_81 : decode cL_told 81 = .ok (.iconst 5, 1) := by decide +kernel
theorem dL_told_82 : decode cL_told 82 = .ok (.if_icmp .ge 71, 3) := by decide +kernel
theorem dL_told_85 : decode cL_told 85 = .ok (.iconst 0, 1) := by decide +kernel
theorem dL_told_86 : decode cL_told 86 = .ok (.istore 4, 2) := by decide +kernel
theorem dL_told_88 : decode cL_told 88 = .ok (.iload 4, 2) := by decide +kernel
theorem dL_told_90 : decode cL_told 90 = .ok (.bipush 8, 2) := by decide +kernel
theorem dL_told_92 : decode cL_told 92 = .ok (.if_icmp .ge 24, 3) := by decide +kernel
theorem dL_told_95 : decode cL_told 95 = .ok (.ldc2_w 10, 3) := by decide +kernel
theorem dL_told_98 : decode cL_told 98 = .ok (.lload_n 1, 1) := by decide +kernel
theorem dL_told_99 : decode cL_told 99 = .ok (.lmul, 1) := by decide +kernel
theorem dL_told_100 : decode cL_told 100 = .ok (.aload_n 0, 1) := by decide +kernel
theorem dL_told_101 : decode cL_told 101 = .ok (.iload_n 3, 1) := by decide +kernel
theorem dL_told_102 : decode cL_told 102 = .ok (.iload 4, 2) := by decide +kernel
theorem dL_told_104 : decode cL_told 104 = .ok (.invokevirtual 22, 3) := by decide +kernel
theorem dL_told_107 : decode cL_told 107 = .ok (.i2l, 1) := by decide +kernel
theorem dL_told_108 : decode cL_told 108 = .ok (.ladd, 1) := by decide +kernel
theorem dL_told_109 : decode cL_told 109 = .ok (.lstore_n 1, 1) := by decide +kernel
theorem dL_told_110 : decode cL_told 110 = .ok (.iinc 4 1, 3) := by decide +kernel
theorem dL_told_113 : decode cL_told 113 = .ok (.goto (-25), 3) := by decide +kernel
theorem dL_told_116 : decode cL_told 116 = .ok (.iconst 0, 1) := by decide +kernel
theorem dL_told_117 : decode cL_told 117 = .ok (.istore 4, 2) := by decide +kernel
theorem dL_told_119 : decode cL_told 119 = .ok (.iload 4, 2) := by decide +kernel
theorem dL_told_121 : decode cL_told 121 = .ok (.bipush 6, 2) := by decide +kernel
theorem dL_told_123 : decode cL_told 123 = .ok (.if_icmp .ge 24, 3) := by decide +kernel
theorem dL_told_126 : decode cL_told 126 = .ok (.ldc2_w 10, 3) := by decide +kernel
theorem dL_told_129 : decode cL_told 129 = .ok (.lload_n 1, 1) := by decide +kernel
theorem dL_told_130 : decode cL_told 130 = .ok (.lmul, 1) := by decide +kernel
theorem dL_told_131 : decode cL_told 131 = .ok (.aload_n 0, 1) := by decide +kernel
theorem dL_told_132 : decode cL_told 132 = .ok (.iload_n 3, 1) := by decide +kernel
theorem dL_told_133 : decode cL_told 133 = .ok (.iload 4, 2) := by decide +kernel
theorem dL_told_135 : decode cL_told 135 = .ok (.invokevirtual 25, 3) := by decide +kernel
theorem dL_told_138 : decode cL_told 138 = .ok (.i2l, 1) := by decide +kernel
theorem dL_told_139 : decode cL_told 139 = .ok (.ladd, 1) := by decide +kernel
theorem dL_told_140 : decode cL_told 140 = .ok (.lstore_n 1, 1) := by decide +kernel
theorem dL_told_141 : decode cL_told 141 = .ok (.iinc 4 1, 3) := by decide +kernel
theorem dL_told_144 : decode cL_told 144 = .ok (.goto (-25), 3) := by decide +kernel
theorem dL_told_147 : decode cL_told 147 = .ok (.iinc 3 1, 3) := by decide +kernel
theorem dL_told_150 : decode cL_told 150 = .ok (.goto (-70), 3) := by decide +kernel
theorem dL_told_153 : decode cL_told 153 = .ok (.lload_n 1, 1) := by decide +kernel
theorem dL_told_154 : decode cL_told 154 = .ok (.lreturn, 1) := by decide +kernel
set_option maxRecDepth 20000 in
theorem ggL_act_L_low : GoodIn wsL_act wsL_low := goodIn_r _ [4, 5] (by decide +kernel) (by decide +kernel)
set_option maxRecDepth 20000 in
theorem gL_act_L_low : GoodIn wsL_act (va_wsS RL 28 yL_low wsL_low) := goodIn_app (goodIn_of _ (by decide +kernel)) ggL_act_L_low
set_option maxRecDepth 20000 in
theorem ggL_act_X8_count : GoodIn wsL_act wsX8_count := goodIn_ca (goodIn_r _ [10, 11, 12, 13, 14, 9, 15, 16, 17, 18, 19, 20, 21, 22, 23, 24, 25, 26, 27, 28, 29, 30, 31, 32, 33, 34, 35, 36, 37, 38, 39, 40, 41, 42, 43, 44, 45, 46, 47, 48, 49, 50, 51, 52, 53, 54, 55, 56, 57, 58, 59, 60, 61, 62, 63, 64, 65, 66, 67, 68, 69, 70, 71, 72, 73, 74, 75, 76, 77, 78, 79, 80, 81, 82, 83, 84, 295, 296, 297, 298, 299, 300, 301, 302, 303, 304, 305, 306, 307, 308, 309, 310, 311, 312, 313, 314, 315, 316, 317, 318] (by decide +kernel) (by decide +kernel)) (goodIn_sub (fun _ h => List.mem_cons_of_mem _ (List.mem_append_left _ (List.mem_append_left _ (List.mem_append_right _ h)))) (by decide +kernel))
set_option maxRecDepth 20000 in
theorem gL_act_X8_count : GoodIn wsL_act (wsV RL 12 RX8 yX8_count wsX8_count) := goodIn_app (goodIn_of _ (by decide +kernel)) ggL_act_X8_count
set_option maxRecDepth 20000 in
theorem ggL_act_X8_drop : GoodIn wsL_act wsX8_drop := goodIn_ca (goodIn_r _ [88, 29, 20, 21, 89, 22, 90, 91, 92, 9, 93, 94, 95, 13, 14, 15, 96, 97, 98, 99, 100, 101, 102, 103, 104, 105, 106, 107, 108, 109, 110, 111, 112, 113, 114, 44, 115, 54, 70, 116, 117, 118, 76, 119, 120, 121, 59, 122, 123, 62, 61, 124, 125, 126, 127, 128, 34, 129, 36, 130, 32, 33, 35, 131, 132, 133, 134, 135, 136, 137, 138, 139, 140, 141, 142, 143, 144, 145, 146, 147, 148, 149, 150, 151, 152, 153, 154, 155, 156, 157, 158, 159, 160, 161, 162, 163, 164, 165, 166, 167, 168, 169, 170, 171, 172, 173, 174, 175, 295, 296, 297, 298, 299, 300, 301, 302, 303, 304, 305, 306, 307, 308, 312, 313, 314, 315, 316, 317, 318, 319, 320, 309, 310, 311] (by decide +kernel) (by decide +kernel)) (goodIn_sub (fun _ h => List.mem_cons_of_mem _ (List.mem_append_left _ (List.mem_append_right _ h))) (by decide +kernel))
set_option maxRecDepth 20000 in
theorem gL_act_X8_drop : GoodIn wsL_act (wsV RL 33 RX8 yX8_drop wsX8_drop) := goodIn_app (goodIn_of _ (by decide +kernel)) ggL_act_X8_drop
set_option maxRecDepth 20000 in
theorem ggL_act_X8_change : GoodIn wsL_act wsX8_change := goodIn_ca (goodIn_ca (goodIn_r _ [179, 11, 12, 29, 20, 21, 180, 90, 91, 92, 9, 93, 94, 95, 22, 13, 14, 15, 181, 182, 183, 96, 97, 98, 99, 100, 101, 102, 103, 104, 105, 106, 107, 108, 109, 110, 111, 112, 113, 114, 44, 115, 54, 70, 116, 117, 118, 76, 119, 120, 121, 59, 122, 123, 62, 61, 124, 125, 126, 127, 128, 34, 129, 36, 130, 32, 33, 35, 131, 132, 133, 134, 135, 136, 137, 138, 139, 140, 141, 142, 143, 144, 145, 146, 147, 148, 149, 150, 151, 152, 153, 154, 155, 156, 157, 184, 185, 186, 187, 166, 167, 168, 169, 295, 296, 297, 298, 299, 300, 301, 302, 303, 304, 305, 306, 307, 308, 312, 313, 314, 315, 316, 317, 318, 319, 320, 309, 310, 311] (by decide +kernel) (by decide +kernel)) (goodIn_sub (fun _ h => List.mem_cons_of_mem _ (List.mem_append_left _ (List.mem_append_left _ (List.mem_append_right _ h)))) (by decide +kernel))) (goodIn_sub (fun _ h => List.mem_cons_of_mem _ (List.mem_append_left _ (List.mem_append_right _ h))) (by decide +kernel))
set_option maxRecDepth 20000 in
theorem gL_act_X8_change : GoodIn wsL_act (wsV RL 36 RX8 yX8_change wsX8_change) := goodIn_app (goodIn_of _ (by decide +kernel)) ggL_act_X8_change
set_option maxRecDepth 20000 in
theorem ggL_act_X8_person : GoodIn wsL_act wsX8_person := goodIn_ca (goodIn_ca (goodIn_r _ [191, 94, 95, 11, 12, 29, 20, 192, 193, 194, 195, 196, 9, 197, 13, 14, 15, 198, 199, 200, 96, 97, 98, 99, 100, 101, 102, 103, 104, 105, 106, 107, 108, 109, 110, 111, 112, 113, 114, 44, 115, 54, 70, 116, 117, 118, 76, 119, 120, 121, 59, 122, 123, 62, 61, 124, 125, 126, 127, 128, 34, 129, 36, 130, 32, 33, 35, 131, 132, 133, 134, 135, 136, 137, 138, 139, 140, 141, 142, 143, 144, 145, 146, 147, 148, 149, 150, 151, 152, 153, 154, 155, 156, 157, 201, 167, 168, 169, 184, 185, 186, 187, 166, 295, 296, 297, 298, 299, 300, 301, 302, 303, 316, 317, 318, 312, 313, 314, 304, 305, 306, 307, 308, 315, 319, 320, 309, 310, 311] (by decide +kernel) (by decide +kernel)) (goodIn_sub (fun _ h => List.mem_cons_of_mem _ (List.mem_append_left _ (List.mem_append_right _ h))) (by decide +kernel))) (goodIn_sub (fun _ h => List.mem_cons_of_mem _ (List.mem_append_left _ (List.mem_append_left _ (List.mem_append_right _ h)))) (by decide +kernel))
set_option maxRecDepth 20000 in
theorem gL_act_X8_person : GoodIn wsL_act (wsV RL 39 RX8 yX8_person wsX8_person) := goodIn_app (goodIn_of _ (by decide +kernel)) ggL_act_X8_person
set_option maxRecDepth 20000 in
theorem ggL_act_X8_master : GoodIn wsL_act wsX8_master := goodIn_ca (goodIn_ca (goodIn_r _ [205, 94, 95, 11, 12, 29, 20, 192, 206, 195, 196, 9, 197, 13, 14, 15, 96, 97, 98, 99, 100, 101, 102, 103, 104, 105, 106, 107, 108, 109, 110, 111, 112, 113, 114, 44, 115, 54, 70, 116, 117, 118, 76, 119, 120, 121, 59, 122, 123, 62, 61, 124, 125, 126, 127, 128, 34, 129, 36, 130, 32, 33, 35, 131, 132, 133, 134, 135, 136, 137, 138, 139, 140, 141, 142, 143, 144, 145, 146, 147, 148, 149, 150, 151, 152, 153, 154, 155, 156, 157, 184, 185, 186, 187, 166, 167, 168, 169, 295, 296, 297, 298, 299, 300, 301, 302, 303, 316, 317, 318, 312, 313, 314, 304, 305, 306, 307, 308, 315, 319, 320, 309, 310, 311] (by decide +kernel) (by decide +kernel)) (goodIn_sub (fun _ h => List.mem_cons_of_mem _ (List.mem_append_left _ (List.mem_append_right _ h))) (by decide +kernel))) (goodIn_sub (fun _ h => List.mem_cons_of_mem _ (List.mem_append_left _ (List.mem_append_left _ (List.mem_append_right _ h)))) (by decide +kernel))
set_option maxRecDepth 20000 in
theorem gL_act_X8_master : GoodIn wsL_act (wsV RL 43 RX8 yX8_master wsX8_master) := goodIn_app (goodIn_of _ (by decide +kernel)) ggL_act_X8_master
set_option maxRecDepth 20000 in
theorem ggL_act_X8_force : GoodIn wsL_act wsX8_force := goodIn_ca (goodIn_r _ [210, 29, 20, 23, 211, 212, 9, 213, 94, 95, 13, 14, 15, 96, 97, 98, 99, 100, 101, 102, 103, 104, 105, 106, 107, 108, 109, 110, 111, 112, 113, 114, 44, 115, 54, 70, 116, 117, 118, 76, 119, 120, 121, 59, 122, 123, 62, 61, 124, 125, 126, 127, 128, 34, 129, 36, 130, 32, 33, 35, 131, 132, 133, 134, 135, 136, 137, 138, 139, 140, 141, 142, 143, 144, 145, 146, 147, 148, 149, 150, 151, 152, 153, 154, 155, 156, 157, 295, 296, 297, 298, 299, 300, 301, 302, 303, 312, 313, 314, 304, 305, 306, 307, 308, 315, 316, 317, 318, 319, 320, 309, 310, 311] (by decide +kernel) (by decide +kernel)) (goodIn_sub (fun _ h => List.mem_cons_of_mem _ (List.mem_append_left _ (List.mem_append_right _ h))) (by decide +kernel))
set_option maxRecDepth 20000 in
theorem gL_act_X8_force : GoodIn wsL_act (wsV RL 46 RX8 yX8_force wsX8_force) := goodIn_app (goodIn_of _ (by decide +kernel)) ggL_act_X8_force
set_option maxRecDepth 20000 in
theorem ggL_act_X8_set : GoodIn wsL_act wsX8_set := goodIn_ca (goodIn_ca (goodIn_r _ [217, 94, 95, 11, 12, 29, 20, 24, 13, 14, 9, 15, 96, 97, 98, 99, 100, 101, 102, 103, 104, 105, 106, 107, 108, 109, 110, 111, 112, 113, 114, 44, 115, 54, 70, 116, 117, 118, 76, 119, 120, 121, 59, 122, 123, 62, 61, 124, 125, 126, 127, 128, 34, 129, 36, 130, 32, 33, 35, 131, 132, 133, 134, 135, 136, 137, 138, 139, 140, 141, 142, 143, 144, 145, 146, 147, 148, 149, 150, 151, 152, 153, 154, 155, 156, 157, 184, 185, 186, 187, 166, 167, 168, 169, 295, 296, 297, 298, 299, 300, 301, 302, 303, 312, 313, 314, 304, 305, 306, 307, 308, 315, 316, 317, 318, 319, 320, 309, 310, 311] (by decide +kernel) (by decide +kernel)) (goodIn_sub (fun _ h => List.mem_cons_of_mem _ (List.mem_append_left _ (List.mem_append_right _ h))) (by decide +kernel))) (goodIn_sub (fun _ h => List.mem_cons_of_mem _ (List.mem_append_left _ (List.mem_append_left _ (List.mem_append_right _ h)))) (by decide +kernel))
set_option maxRecDepth 20000 in
theorem gL_act_X8_set : GoodIn wsL_act (wsV RL 50 RX8 yX8_set wsX8_set) := goodIn_app (goodIn_of _ (by decide +kernel)) ggL_act_X8_set
set_option maxRecDepth 20000 in
theorem ggL_act_X8_forget : GoodIn wsL_act wsX8_forget := goodIn_ca (goodIn_r _ [221, 29, 20, 89, 222, 223, 224, 9, 225, 94, 95, 195, 196, 197, 13, 14, 15, 96, 97, 98, 99, 100, 101, 102, 103, 104, 105, 106, 107, 108, 109, 110, 111, 112, 113, 114, 44, 115, 54, 70, 116, 117, 118, 76, 119, 120, 121, 59, 122, 123, 62, 61, 124, 125, 126, 127, 128, 34, 129, 36, 130, 32, 33, 35, 131, 132, 133, 134, 135, 136, 137, 138, 139, 140, 141, 142, 143, 144, 145, 146, 147, 148, 149, 150, 151, 152, 153, 154, 155, 156, 157, 184, 185, 186, 187, 166, 167, 168, 169, 295, 296, 297, 298, 299, 300, 301, 302, 303, 319, 320, 312, 313, 314, 304, 305, 306, 307, 308, 315, 316, 317, 318, 309, 310, 311] (by decide +kernel) (by decide +kernel)) (goodIn_sub (fun _ h => List.mem_cons_of_mem _ (List.mem_append_left _ (List.mem_append_right _ h))) (by decide +kernel))
set_option maxRecDepth 20000 in
theorem gL_act_X8_forget : GoodIn wsL_act (wsV RL 53 RX8 yX8_forget wsX8_forget) := goodIn_app (goodIn_of _ (by decide +kernel)) ggL_act_X8_forget
set_option maxRecDepth 20000 in
theorem ggL_act_X8_askSum : GoodIn wsL_act wsX8_askSum := goodIn_ca (goodIn_ca (goodIn_r _ [229, 29, 20, 25, 230, 231, 9, 232, 94, 95, 11, 12, 195, 196, 197, 13, 14, 15, 233, 234, 235, 198, 199, 200, 181, 182, 183, 96, 97, 98, 99, 100, 101, 102, 103, 104, 105, 106, 107, 108, 109, 110, 111, 112, 113, 114, 44, 115, 54, 70, 116, 117, 118, 76, 119, 120, 121, 59, 122, 123, 62, 61, 124, 125, 126, 127, 128, 34, 129, 36, 130, 32, 33, 35, 131, 132, 133, 134, 135, 136, 137, 138, 139, 140, 141, 142, 143, 144, 145, 146, 147, 148, 149, 150, 151, 152, 153, 154, 155, 156, 157, 236, 51, 52, 53, 55, 56, 57, 58, 60, 63, 64, 65, 66, 67, 68, 69, 71, 72, 73, 74, 75, 77, 237, 238, 239, 240, 241, 242, 243, 244, 245, 246, 247, 78, 79, 80, 81, 82, 83, 84, 248, 249, 250, 251, 252, 253, 167, 168, 169, 295, 296, 297, 298, 299, 300, 301, 302, 303, 312, 313, 314, 304, 305, 306, 307, 308, 315, 316, 317, 318, 319, 320, 309, 310, 311] (by decide +kernel) (by decide +kernel)) (goodIn_sub (fun _ h => List.mem_cons_of_mem _ (List.mem_append_left _ (List.mem_append_right _ h))) (by decide +kernel))) (goodIn_sub (fun _ h => List.mem_cons_of_mem _ (List.mem_append_left _ (List.mem_append_left _ (List.mem_append_right _ h)))) (by decide +kernel))
set_option maxRecDepth 20000 in
theorem gL_act_X8_askSum : GoodIn wsL_act (wsV RL 56 RX8 yX8_askSum wsX8_askSum) := goodIn_app (goodIn_of _ (by decide +kernel)) ggL_act_X8_askSum
set_option maxRecDepth 20000 in
theorem ggL_act_X8_ask : GoodIn wsL_act wsX8_ask := goodIn_ca (goodIn_ca (goodIn_r _ [257, 29, 20, 25, 89, 28, 230, 231, 9, 232, 94, 95, 11, 12, 195, 196, 197, 13, 14, 15, 233, 234, 235, 198, 199, 200, 181, 182, 183, 96, 97, 98, 99, 100, 101, 102, 103, 104, 105, 106, 107, 108, 109, 110, 111, 112, 113, 114, 44, 115, 54, 70, 116, 117, 118, 76, 119, 120, 121, 59, 122, 123, 62, 61, 124, 125, 126, 127, 128, 34, 129, 36, 130, 32, 33, 35, 131, 132, 133, 134, 135, 136, 137, 138, 139, 140, 141, 142, 143, 144, 145, 146, 147, 148, 149, 150, 151, 152, 153, 154, 155, 156, 157, 236, 51, 52, 53, 55, 56, 57, 58, 60, 63, 64, 65, 66, 67, 68, 69, 71, 72, 73, 74, 75, 77, 258, 259, 260, 261, 244, 245, 246, 247, 78, 79, 80, 81, 82, 83, 84, 262, 263, 264, 265, 174, 266, 267, 268, 269, 270, 271, 272, 273, 248, 249, 250, 251, 252, 253, 167, 168, 169, 274, 275, 276, 277, 278, 279, 163, 164, 165, 166, 175, 295, 296, 297, 298, 299, 300, 301, 302, 303, 309, 310, 311, 312, 313, 314, 304, 305, 306, 307, 308, 315, 316, 317, 318, 319, 320] (by decide +kernel) (by decide +kernel)) (goodIn_sub (fun _ h => List.mem_cons_of_mem _ (List.mem_append_left _ (List.mem_append_right _ h))) (by decide +kernel))) (goodIn_sub (fun _ h => List.mem_cons_of_mem _ (List.mem_append_left _ (List.mem_append_left _ (List.mem_append_right _ h)))) (by decide +kernel))
set_option maxRecDepth 20000 in
theorem gL_act_X8_ask : GoodIn wsL_act (wsV RL 60 RX8 yX8_ask wsX8_ask) := goodIn_app (goodIn_of _ (by decide +kernel)) ggL_act_X8_ask
set_option maxRecDepth 20000 in
theorem ggL_act_X8_row : GoodIn wsL_act wsX8_row := goodIn_ca (goodIn_ca (goodIn_ca (goodIn_r _ [283, 94, 95, 11, 12, 284, 285, 20, 21, 29, 22, 195, 196, 9, 197, 13, 14, 15, 198, 199, 200, 181, 182, 183, 286, 287, 288, 59, 289, 125, 96, 97, 98, 99, 100, 101, 102, 103, 104, 105, 106, 107, 108, 109, 110, 111, 112, 113, 114, 44, 115, 54, 70, 116, 117, 118, 76, 119, 120, 121, 122, 123, 62, 61, 124, 126, 127, 128, 34, 129, 36, 130, 32, 33, 35, 131, 132, 133, 134, 135, 136, 137, 138, 139, 140, 141, 142, 143, 144, 145, 146, 147, 148, 149, 150, 151, 152, 153, 154, 155, 156, 157, 290, 291, 292, 293, 294, 167, 168, 169, 295, 296, 297, 298, 299, 300, 301, 302, 303, 304, 305, 306, 307, 308, 312, 313, 314, 315, 316, 317, 318, 319, 320, 309, 310, 311] (by decide +kernel) (by decide +kernel)) (goodIn_sub (fun _ h => List.mem_cons_of_mem _ (List.mem_append_left _ (List.mem_append_right _ h))) (by decide +kernel))) (goodIn_sub (fun _ h => List.mem_cons_of_mem _ (List.mem_append_left _ (List.mem_append_left _ (List.mem_append_right _ h)))) (by decide +kernel))) (goodIn_sub (fun _ h => List.mem_cons_of_mem _ (List.mem_append_right _ h)) (by decide +kernel))
set_option maxRecDepth 20000 in
theorem gL_act_X8_row : GoodIn wsL_act (wsV RL 63 RX8 yX8_row wsX8_row) := goodIn_app (goodIn_of _ (by decide +kernel)) ggL_act_X8_row
theorem dL_act_0 : decode cL_act 0 = .ok (.iload_n 1, 1) := by decide +kernel
theorem dL_act_1 : decode cL_act 1 = .ok (.iconst 4, 1) := by decide +kernel
theorem dL_act_2 : decode cL_act 2 = .ok (.ishr, 1) := by decide +kernel
theorem dL_act_3 : decode cL_act 3 = .ok (.iconst 5, 1) := by decide +kernel
theorem dL_act_4 : decode cL_act 4 = .ok (.invokestatic 28, 3) := by decide +kernel
theorem dL_act_7 : decode cL_act 7 = .ok (.istore_n 3, 1) := by decide +kernel
theorem dL_act_8 : decode cL_act 8 = .ok (.iload_n 2, 1) := by decide +kernel
theorem dL_act_9 : decode cL_act 9 = .ok (.iconst 3, 1) := by decide +kernel
theorem dL_act_10 : decode cL_act 10 = .ok (.ishr, 1) := by decide +kernel
theorem dL_act_11 : decode cL_act 11 = .ok (.iload_n 2, 1) := by decide +kernel
theorem dL_act_12 : decode cL_act 12 = .ok (.bipush 20, 2) := by decide +kernel
theorem dL_act_14 : decode cL_act 14 = .ok (.ishr, 1) := by decide +kernel
theorem dL_act_15 : decode cL_act 15 = .ok (.iconst 1, 1) := by decide +kernel
theorem dL_act_16 : decode cL_act 16 = .ok (.iand, 1) := by decide +kernel
theorem dL_act_17 : decode cL_act 17 = .ok (.ifCond .ne 7, 3) := by decide +kernel
theorem dL_act_20 : decode cL_act 20 = .ok (.iconst 1, 1) := by decide +kernel
theorem dL_act_21 : decode cL_act 21 = .ok (.goto 5, 3) := by decide +kernel
theorem dL_act_24 : decode cL_act 24 = .ok (.bipush 60, 2) := by decide +kernel
theorem dL_act_26 : decode cL_act 26 = .ok (.invokestatic 28, 3) := by decide +kernel
theorem dL_act_29 : decode cL_act 29 = .ok (.istore 4, 2) := by decide +kernel
theorem dL_act_31 : decode cL_act 31 = .ok (.iload_n 1, 1) := by decide +kernel
theorem dL_act_32 : decode cL_act 32 = .ok (.bipush 15, 2) := by decide +kernel
theorem dL_act_34 : decode cL_act 34 = .ok (.iand, 1) := by decide +kernel
theorem dL_act_35 : decode cL_act 35 = .ok (.tableswitch 282 0 11 #[61, 88, 123, 141, 170, 193, 213, 238, 255, 255, 255, 255], 61) := by decide +kernel
theorem dL_act_96 : decode cL_act 96 = .ok (.aload_n 0, 1) := by decide +kernel
theorem dL_act_97 : decode cL_act 97 = .ok (.iconst 0, 1) := by decide +kernel
theorem dL_act_98 : decode cL_act 98 = .ok (.invokevirtual 12, 3) := by decide +kernel
theorem dL_act_101 : decode cL_act 101 = .ok (.ifCond .ne 8, 3) := by decide +kernel
theorem dL_act_104 : decode cL_act 104 = .ok (.bipush (-9), 2) := by decide +kernel
theorem dL_act_106 : decode cL_act 106 = .ok (.goto 16, 3) := by decide +kernel
theorem dL_act_109 : decode cL_act 109 = .ok (.aload_n 0, 1) := by decide +kernel
theorem dL_act_110 : decode cL_act 110 = .ok (.iload_n 2, 1) := by decide +kernel
theorem dL_act_111 : decode cL_act 111 = .ok (.aload_n 0, 1) := by decide +kernel
theorem dL_act_112 : decode cL_act 112 = .ok (.iconst 0, 1) := by decide +kernel
theorem dL_act_113 : decode cL_act 113 = .ok (.invokevirtual 12, 3) := by decide +kernel
theorem dL_act_116 : decode cL_act 116 = .ok (.invokestatic 28, 3) := by decide +kernel
theorem dL_act_119 : decode cL_act 119 = .ok (.invokevirtual 33, 3) := by decide +kernel
theorem dL_act_122 : decode cL_act 122 = .ok (.ireturn, 1) := by decide +kernel
theorem dL_act_123 : decode cL_act 123 = .ok (.aload_n 0, 1) := by decide +kernel
theorem dL_act_124 : decode cL_act 124 = .ok (.iconst 0, 1) := by decide +kernel
theorem dL_act_125 : decode cL_act 125 = .ok (.invokevirtual 12, 3) := by decide +kernel
theorem dL_act_128 : decode cL_act 128 = .ok (.ifCond .ne 8, 3) := by decide +kernel
theorem dL_act_131 : decode cL_act 131 = .ok (.bipush (-9), 2) := by decide +kernel
theorem dL_act_133 : decode cL_act 133 = .ok (.goto 24, 3) := by decide +kernel
theorem dL_act_136 : decode cL_act 136 = .ok (.aload_n 0, 1) := by decide +kernel
theorem dL_act_137 : decode cL_act 137 = .ok (.iload_n 2, 1) := by decide +kernel
theorem dL_act_138 : decode cL_act 138 = .ok (.aload_n 0, 1) := by decide +kernel
theorem dL_act_139 : decode cL_act 139 = .ok (.iconst 0, 1) := by decide +kernel
theorem dL_act_140 : decode cL_act 140 = .ok (.invokevirtual 12, 3) := by decide +kernel
theorem dL_act_143 : decode cL_act 143 = .ok (.invokestatic 28, 3) := by decide +kernel
theorem dL_act_146 : decode cL_act 146 = .ok (.iload_n 2, 1) := by decide +kernel
theorem dL_act_147 : decode cL_act 147 = .ok (.iconst 4, 1) := by decide +kernel
theorem dL_act_148 : decode cL_act 148 = .ok (.ishr, 1) := by decide +kernel
theorem dL_act_149 : decode cL_act 149 = .ok (.bipush 100, 2) := by decide +kernel
theorem dL_act_151 : decode cL_act 151 = .ok (.invokestatic 28, 3) := by decide +kernel
theorem dL_act_154 : decode cL_act 154 = .ok (.invokevirtual 36, 3) := by decide +kernel
theorem dL_act_157 : decode cL_act 157 = .ok (.ireturn, 1) := by decide +kernel
theorem dL_act_158 : decode cL_act 158 = .ok (.aload_n 0, 1) := by decide +kernel
theorem dL_act_159 : decode cL_act 159 = .ok (.iload_n 3, 1) := by decide +kernel
theorem dL_act_160 : decode cL_act 160 = .ok (.iload_n 2, 1) := by decide +kernel
theorem dL_act_161 : decode cL_act 161 = .ok (.iconst 4, 1) := by decide +kernel
theorem dL_act_162 : decode cL_act 162 = .ok (.invokestatic 28, 3) := by decide +kernel
theorem dL_act_165 : decode cL_act 165 = .ok (.iload_n 2, 1) := by decide +kernel
theorem dL_act_166 : decode cL_act 166 = .ok (.iconst 2, 1) := by decide +kernel
theorem dL_act_167 : decode cL_act 167 = .ok (.ishr, 1) := by decide +kernel
theorem dL_act_168 : decode cL_act 168 = .ok (.iconst 4, 1) := by decide +kernel
theorem dL_act_169 : decode cL_act 169 = .ok (.invokestatic 28, 3) := by decide +kernel
theorem dL_act_172 : decode cL_act 172 = .ok (.invokevirtual 39, 3) := by decide +kernel
theorem dL_act_175 : decode cL_act 175 = .ok (.ireturn, 1) := by decide +kernel
theorem dL_act_176 : decode cL_act 176 = .ok (.aload_n 0, 1) := by decide +kernel
theorem dL_act_177 : decode cL_act 177 = .ok (.iload_n 3, 1) := by decide +kernel
theorem dL_act_178 : decode cL_act 178 = .ok (.iload_n 2, 1) := by decide +kernel
theorem dL_act_179 : decode cL_act 179 = .ok (.iconst 3, 1) := by decide +kernel
theorem dL_act_180 : decode cL_act 180 = .ok (.iand, 1) := by decide +kernel
theorem dL_act_181 : decode cL_act 181 = .ok (.ifCond .ne 7, 3) := by decide +kernel
theorem dL_act_184 : decode cL_act 184 = .ok (.iconst (-1), 1) := by decide +kernel
theorem dL_act_185 : decode cL_act 185 = .ok (.goto 16, 3) := by decide +kernel
theorem dL_act_188 : decode cL_act 188 = .ok (.iload_n 3, 1) := by decide +kernel
theorem dL_act_189 : decode cL_act 189 = .ok (.iconst 1, 1) := by decide +kernel
theorem dL_act_190 : decode cL_act 190 = .ok (.iadd, 1) := by decide +kernel
theorem dL_act_191 : decode cL_act 191 = .ok (.iload_n 2, 1) := by decide +kernel
theorem dL_act_192 : decode cL_act 192 = .ok (.iconst 2, 1) := by decide +kernel
theorem dL_act_193 : decode cL_act 193 = .ok (.ishr, 1) := by decide +kernel
theorem dL_act_194 : decode cL_act 194 = .ok (.iconst 4, 1) := by decide +kernel
theorem dL_act_195 : decode cL_act 195 = .ok (.invokestatic 28, 3) := by decide +kernel
theorem dL_act_198 : decode cL_act 198 = .ok (.iadd, 1) := by decide +kernel
theorem dL_act_199 : decode cL_act 199 = .ok (.iconst 5, 1) := by decide +kernel
theorem dL_act_200 : decode cL_act 200 = .ok (.irem, 1) := by decide +kernel
theorem dL_act_201 : decode cL_act 201 = .ok (.invokevirtual 43, 3) := by decide +kernel
theorem dL_act_204 : decode cL_act 204 = .ok (.ireturn, 1) := by decide +kernel
theorem dL_act_205 : decode cL_act 205 = .ok (.aload_n 0, 1) := by decide +kernel
theorem dL_act_206 : decode cL_act 206 = .ok (.iload_n 2, 1) := by decide +kernel
theorem dL_act_207 : decode cL_act 207 = .ok (.iconst 4, 1) := by decide +kernel
theorem dL_act_208 : decode cL_act 208 = .ok (.invokestatic 28, 3) := by decide +kernel
theorem dL_act_211 : decode cL_act 211 = .ok (.iload_n 2, 1) := by decide +kernel
theorem dL_act_212 : decode cL_act 212 = .ok (.iconst 2, 1) := by decide +kernel
theorem dL_act_213 : decode cL_act 213 = .ok (.ishr, 1) := by decide +kernel
theorem dL_act_214 : decode cL_act 214 = .ok (.iconst 1, 1) := by decide +kernel
theorem dL_act_215 : decode cL_act 215 = .ok (.iand, 1) := by decide +kernel
theorem dL_act_216 : decode cL_act 216 = .ok (.ifCond .ne 7, 3) := by decide +kernel
theorem dL_act_219 : decode cL_act 219 = .ok (.iconst 1, 1) := by decide +kernel
theorem dL_act_220 : decode cL_act 220 = .ok (.goto 4, 3) := by decide +kernel
theorem dL_act_223 : decode cL_act 223 = .ok (.iconst 0, 1) := by decide +kernel
theorem dL_act_224 : decode cL_act 224 = .ok (.invokevirtual 46, 3) := by decide +kernel
theorem dL_act_227 : decode cL_act 227 = .ok (.ireturn, 1) := by decide +kernel
theorem dL_act_228 : decode cL_act 228 = .ok (.aload_n 0, 1) := by decide +kernel
theorem dL_act_229 : decode cL_act 229 = .ok (.iload_n 2, 1) := by decide +kernel
theorem dL_act_230 : decode cL_act 230 = .ok (.iconst 2, 1) := by decide +kernel
theorem dL_act_231 : decode cL_act 231 = .ok (.invokestatic 28, 3) := by decide +kernel
theorem dL_act_234 : decode cL_act 234 = .ok (.iconst 1, 1) := by decide +kernel
theorem dL_act_235 : decode cL_act 235 = .ok (.iload_n 2, 1) := by decide +kernel
theorem dL_act_236 : decode cL_act 236 = .ok (.iconst 1, 1) := by decide +kernel
theorem dL_act_237 : decode cL_act 237 = .ok (.ishr, 1) := by decide +kernel
theorem dL_act_238 : decode cL_act 238 = .ok (.bipush 9, 2) := by decide +kernel
theorem dL_act_240 : decode cL_act 240 = .ok (.invokestatic 28, 3) := by decide +kernel
theorem dL_act_243 : decode cL_act 243 = .ok (.iadd, 1) := by decide +kernel
theorem dL_act_244 : decode cL_act 244 = .ok (.invokevirtual 50, 3) := by decide +kernel
theorem dL_act_247 : decode cL_act 247 = .ok (.ireturn, 1) := by decide +kernel
theorem dL_act_248 : decode cL_act 248 = .ok (.iload_n 2, 1) := by decide +kernel
theorem dL_act_249 : decode cL_act 249 = .ok (.iconst 3, 1) := by decide +kernel
theorem dL_act_250 : decode cL_act 250 = .ok (.iand, 1) := by decide +kernel
theorem dL_act_251 : decode cL_act 251 = .ok (.ifCond .ne 11, 3) := by decide +kernel
theorem dL_act_254 : decode cL_act 254 = .ok (.aload_n 0, 1) := by decide +kernel
theorem dL_act_255 : decode cL_act 255 = .ok (.iload_n 3, 1) := by decide +kernel
theorem dL_act_256 : decode cL_act 256 = .ok (.invokevirtual 53, 3) := by decide +kernel
theorem dL_act_259 : decode cL_act 259 = .ok (.goto 13, 3) := by decide +kernel
theorem dL_act_262 : decode cL_act 262 = .ok (.aload_n 0, 1) := by decide +kernel
theorem dL_act_263 : decode cL_act 263 = .ok (.iconst 2, 1) := by decide +kernel
theorem dL_act_264 : decode cL_act 264 = .ok (.iload_n 2, 1) := by decide +kernel
theorem dL_act_265 : decode cL_act 265 = .ok (.iconst 2, 1) := by decide +kernel
theorem dL_act_266 : decode cL_act 266 = .ok (.ishr, 1) := by decide +kernel
theorem dL_act_267 : decode cL_act 267 = .ok (.iconst 1, 1) := by decide +kernel
theorem dL_act_268 : decode cL_act 268 = .ok (.iand, 1) := by decide +kernel
theorem dL_act_269 : decode cL_act 269 = .ok (.invokevirtual 50, 3) := by decide +kernel
theorem dL_act_272 : decode cL_act 272 = .ok (.ireturn, 1) := by decide +kernel
theorem dL_act_273 : decode cL_act 273 = .ok (.aload_n 0, 1) := by decide +kernel
theorem dL_act_274 : decode cL_act 274 = .ok (.iload_n 3, 1) := by decide +kernel
theorem dL_act_275 : decode cL_act 275 = .ok (.iload_n 2, 1) := by decide +kernel
theorem dL_act_276 : decode cL_act 276 = .ok (.iconst 5, 1) := by decide +kernel
theorem dL_act_277 : decode cL_act 277 = .ok (.invokestatic 28, 3) := by decide +kernel
theorem dL_act_280 : decode cL_act 280 = .ok (.iconst 1, 1) := by decide +kernel
theorem dL_act_281 : decode cL_act 281 = .ok (.isub, 1) := by decide +kernel
theorem dL_act_282 : decode cL_act 282 = .ok (.iload 4, 2) := by decide +kernel
theorem dL_act_284 : decode cL_act 284 = .ok (.bipush 99, 2) := by decide +kernel
theorem dL_act_286 : decode cL_act 286 = .ok (.invokevirtual 56, 3) := by decide +kernel
theorem dL_act_289 : decode cL_act 289 = .ok (.ireturn, 1) := by decide +kernel
theorem dL_act_290 : decode cL_act 290 = .ok (.aload_n 0, 1) := by decide +kernel
theorem dL_act_291 : decode cL_act 291 = .ok (.iload_n 3, 1) := by decide +kernel
theorem dL_act_292 : decode cL_act 292 = .ok (.iload_n 2, 1) := by decide +kernel
theorem dL_act_293 : decode cL_act 293 = .ok (.iconst 5, 1) := by decide +kernel
theorem dL_act_294 : decode cL_act 294 = .ok (.invokestatic 28, 3) := by decide +kernel
theorem dL_act_297 : decode cL_act 297 = .ok (.iconst 1, 1) := by decide +kernel
theorem dL_act_298 : decode cL_act 298 = .ok (.isub, 1) := by decide +kernel
theorem dL_act_299 : decode cL_act 299 = .ok (.iload 4, 2) := by decide +kernel
theorem dL_act_301 : decode cL_act 301 = .ok (.bipush 99, 2) := by decide +kernel
theorem dL_act_303 : decode cL_act 303 = .ok (.iload_n 2, 1) := by decide +kernel
theorem dL_act_304 : decode cL_act 304 = .ok (.bipush 9, 2) := by decide +kernel
theorem dL_act_306 : decode cL_act 306 = .ok (.ishr, 1) := by decide +kernel
theorem dL_act_307 : decode cL_act 307 = .ok (.bipush 40, 2) := by decide +kernel
theorem dL_act_309 : decode cL_act 309 = .ok (.invokestatic 28, 3) := by decide +kernel
theorem dL_act_312 : decode cL_act 312 = .ok (.isub, 1) := by decide +kernel
theorem dL_act_313 : decode cL_act 313 = .ok (.invokevirtual 60, 3) := by decide +kernel
theorem dL_act_316 : decode cL_act 316 = .ok (.ireturn, 1) := by decide +kernel
theorem dL_act_317 : decode cL_act 317 = .ok (.aload_n 0, 1) := by decide +kernel
theorem dL_act_318 : decode cL_act 318 = .ok (.iconst 0, 1) := by decide +kernel
theorem dL_act_319 : decode cL_act 319 = .ok (.invokevirtual 12, 3) := by decide +kernel
theorem dL_act_322 : decode cL_act 322 = .ok (.bipush 16, 2) := by decide +kernel
theorem dL_act_324 : decode cL_act 324 = .ok (.if_icmp .ne 8, 3) := by decide +kernel
theorem dL_act_327 : decode cL_act 327 = .ok (.bipush (-9), 2) := by decide +kernel
theorem dL_act_329 : decode cL_act 329 = .ok (.goto 35, 3) := by decide +kernel
theorem dL_act_332 : decode cL_act 332 = .ok (.aload_n 0, 1) := by decide +kernel
theorem dL_act_333 : decode cL_act 333 = .ok (.iload_n 2, 1) := by decide +kernel
theorem dL_act_334 : decode cL_act 334 = .ok (.iconst 5, 1) := by decide +kernel
theorem dL_act_335 : decode cL_act 335 = .ok (.invokestatic 28, 3) := by decide +kernel
theorem dL_act_338 : decode cL_act 338 = .ok (.iload_n 2, 1) := by decide +kernel
theorem dL_act_339 : decode cL_act 339 = .ok (.iconst 3, 1) := by decide +kernel
theorem dL_act_340 : decode cL_act 340 = .ok (.ishr, 1) := by decide +kernel
theorem dL_act_341 : decode cL_act 341 = .ok (.iconst 4, 1) := by decide +kernel
theorem dL_act_342 : decode cL_act 342 = .ok (.invokestatic 28, 3) := by decide +kernel
theorem dL_act_345 : decode cL_act 345 = .ok (.iload_n 2, 1) := by decide +kernel
theorem dL_act_346 : decode cL_act 346 = .ok (.iconst 5, 1) := by decide +kernel
theorem dL_act_347 : decode cL_act 347 = .ok (.ishr, 1) := by decide +kernel
theorem dL_act_348 : decode cL_act 348 = .ok (.bipush 100, 2) := by decide +kernel
theorem dL_act_350 : decode cL_act 350 = .ok (.invokestatic 28, 3) := by decide +kernel
theorem dL_act_353 : decode cL_act 353 = .ok (.iload_n 2, 1) := by decide +kernel
theorem dL_act_354 : decode cL_act 354 = .ok (.bipush 12, 2) := by decide +kernel
theorem dL_act_356 : decode cL_act 356 = .ok (.ishr, 1) := by decide +kernel
theorem dL_act_357 : decode cL_act 357 = .ok (.iconst 4, 1) := by decide +kernel
theorem dL_act_358 : decode cL_act 358 = .ok (.invokestatic 28, 3) := by decide +kernel
theorem dL_act_361 : decode cL_act 361 = .ok (.invokevirtual 63, 3) := by decide +kernel
theorem dL_act_364 : decode cL_act 364 = .ok (.ireturn, 1) := by decide +kernel
set_option maxRecDepth 20000 in
theorem ggL_holds_X8_count : GoodIn wsL_holds wsX8_count := goodIn_ca (goodIn_r _ [5, 6, 7, 8, 9, 4, 10, 11, 12, 13, 14, 15, 16, 17, 18, 19, 20, 21, 22, 23, 24, 25, 26, 27, 28, 29, 30, 31, 32, 33, 34, 35, 36, 37, 38, 39, 40, 41, 42, 43, 44, 45, 46, 47, 48, 49, 50, 51, 52, 53, 54, 55, 56, 57, 58, 59, 60, 61, 62, 63, 64, 65, 66, 67, 68, 69, 70, 71, 72, 73, 74, 75, 76, 77, 78, 79, 214, 215, 216, 217, 218, 219, 220, 221, 222, 223, 224, 225, 226, 227, 228, 229, 230, 231, 232, 233, 234, 235, 236, 237] (by decide +kernel) (by decide +kernel)) (goodIn_sub (fun _ h => List.mem_cons_of_mem _ (List.mem_append_left _ (List.mem_append_right _ h))) (by decide +kernel))
set_option maxRecDepth 20000 in
theorem gL_holds_X8_count : GoodIn wsL_holds (wsV RL 12 RX8 yX8_count wsX8_count) := goodIn_app (goodIn_of _ (by decide +kernel)) ggL_holds_X8_count
set_option maxRecDepth 20000 in
theorem ggL_holds_L_low : GoodIn wsL_holds wsL_low := goodIn_r _ [83, 84] (by decide +kernel) (by decide +kernel)
set_option maxRecDepth 20000 in
theorem gL_holds_L_low : GoodIn wsL_holds (va_wsS RL 28 yL_low wsL_low) := goodIn_app (goodIn_of _ (by decide +kernel)) ggL_holds_L_low
set_option maxRecDepth 20000 in
theorem ggL_holds_X8_personOf : GoodIn wsL_holds wsX8_personOf := goodIn_ca (goodIn_ca (goodIn_r _ [88, 6, 7, 15, 89, 90, 4, 91, 92, 93, 94, 95, 96, 8, 9, 10, 97, 98, 99, 39, 100, 65, 66, 68, 70, 101, 102, 103, 104, 105, 72, 27, 28, 29, 30, 31, 41, 42, 43, 44, 45, 46, 47, 48, 49, 50, 51, 52, 53, 54, 55, 56, 57, 58, 59, 60, 61, 62, 63, 64, 67, 69, 71, 73, 74, 75, 76, 77, 78, 79, 214, 215, 216, 217, 218, 219, 220, 221, 222, 235, 236, 237, 238, 239, 228, 229, 230, 234, 223, 224, 225, 226, 227] (by decide +kernel) (by decide +kernel)) (goodIn_sub (fun _ h => List.mem_cons_of_mem _ (List.mem_append_left _ (List.mem_append_right _ h))) (by decide +kernel))) (goodIn_sub (fun _ h => List.mem_cons_of_mem _ (List.mem_append_right _ h)) (by decide +kernel))
set_option maxRecDepth 20000 in
theorem gL_holds_X8_personOf : GoodIn wsL_holds (wsV RL 22 RX8 yX8_personOf wsX8_personOf) := goodIn_app (goodIn_of _ (by decide +kernel)) ggL_holds_X8_personOf
set_option maxRecDepth 20000 in
theorem ggL_holds_X8_veils : GoodIn wsL_holds wsX8_veils := goodIn_ca (goodIn_r _ [109, 15, 89, 90, 4, 91, 92, 93, 94, 95, 96, 8, 9, 10, 110, 111, 112, 113, 16, 17, 114, 60, 61, 39, 62, 49, 63, 64, 65, 66, 67, 68, 69, 70, 71, 72, 27, 28, 29, 30, 31, 214, 215, 216, 217, 218, 219, 220, 221, 222, 223, 224, 225, 226, 227, 235, 236, 237, 234] (by decide +kernel) (by decide +kernel)) (goodIn_sub (fun _ h => List.mem_cons_of_mem _ (List.mem_append_right _ h)) (by decide +kernel))
set_option maxRecDepth 20000 in
theorem gL_holds_X8_veils : GoodIn wsL_holds (wsV RL 66 RX8 yX8_veils wsX8_veils) := goodIn_app (goodIn_of _ (by decide +kernel)) ggL_holds_X8_veils
set_option maxRecDepth 20000 in
theorem ggL_holds_X8_rowOf : GoodIn wsL_holds wsX8_rowOf := goodIn_ca (goodIn_ca (goodIn_r _ [118, 6, 7, 15, 110, 111, 112, 4, 113, 92, 93, 16, 17, 8, 9, 10, 119, 120, 121, 39, 122, 49, 63, 67, 69, 64, 72, 27, 28, 29, 30, 31, 123, 124, 125, 126, 59, 60, 61, 62, 65, 66, 68, 70, 71, 214, 215, 216, 217, 218, 219, 220, 221, 222, 223, 224, 225, 226, 227, 234, 235, 236, 237] (by decide +kernel) (by decide +kernel)) (goodIn_sub (fun _ h => List.mem_cons_of_mem _ (List.mem_append_left _ (List.mem_append_right _ h))) (by decide +kernel))) (goodIn_sub (fun _ h => List.mem_cons_of_mem _ (List.mem_append_right _ h)) (by decide +kernel))
set_option maxRecDepth 20000 in
theorem gL_holds_X8_rowOf : GoodIn wsL_holds (wsV RL 18 RX8 yX8_rowOf wsX8_rowOf) := goodIn_app (goodIn_of _ (by decide +kernel)) ggL_holds_X8_rowOf
set_option maxRecDepth 20000 in
theorem ggL_holds_X8_ifAsked : GoodIn wsL_holds wsX8_ifAsked := goodIn_ca (goodIn_ca (goodIn_r _ [130, 6, 7, 131, 132, 4, 133, 92, 93, 94, 95, 96, 8, 9, 10, 134, 135, 136, 137, 138, 139, 140, 141, 142, 143, 144, 145, 146, 15, 16, 147, 148, 149, 150, 54, 151, 152, 153, 52, 53, 55, 56, 57, 58, 27, 28, 29, 30, 31, 154, 46, 47, 39, 48, 49, 50, 51, 59, 60, 61, 62, 63, 64, 65, 66, 67, 68, 69, 70, 71, 72, 155, 156, 157, 158, 159, 101, 160, 161, 162, 163, 73, 74, 75, 76, 77, 78, 79, 164, 165, 166, 167, 168, 169, 170, 171, 172, 173, 174, 175, 176, 177, 178, 179, 180, 181, 182, 183, 184, 185, 186, 187, 188, 214, 215, 216, 217, 218, 219, 220, 221, 222, 223, 224, 225, 226, 227, 234, 235, 236, 237, 238, 239] (by decide +kernel) (by decide +kernel)) (goodIn_sub (fun _ h => List.mem_cons_of_mem _ (List.mem_append_left _ (List.mem_append_right _ h))) (by decide +kernel))) (goodIn_sub (fun _ h => List.mem_cons_of_mem _ (List.mem_append_right _ h)) (by decide +kernel))
set_option maxRecDepth 20000 in
theorem gL_holds_X8_ifAsked : GoodIn wsL_holds (wsV RL 69 RX8 yX8_ifAsked wsX8_ifAsked) := goodIn_app (goodIn_of _ (by decide +kernel)) ggL_holds_X8_ifAsked
set_option maxRecDepth 20000 in
theorem ggL_holds_X8_remembered : GoodIn wsL_holds wsX8_remembered := goodIn_ca (goodIn_ca (goodIn_r _ [192, 6, 7, 15, 147, 89, 90, 4, 91, 92, 93, 94, 95, 96, 8, 9, 10, 193, 172, 173, 167, 174, 169, 175, 170, 27, 28, 29, 30, 31, 214, 215, 216, 217, 218, 219, 220, 221, 222, 238, 239, 234] (by decide +kernel) (by decide +kernel)) (goodIn_sub (fun _ h => List.mem_cons_of_mem _ (List.mem_append_left _ (List.mem_append_right _ h))) (by decide +kernel))) (goodIn_sub (fun _ h => List.mem_cons_of_mem _ (List.mem_append_right _ h)) (by decide +kernel))
set_option maxRecDepth 20000 in
theorem gL_holds_X8_remembered : GoodIn wsL_holds (wsV RL 25 RX8 yX8_remembered wsX8_remembered) := goodIn_app (goodIn_of _ (by decide +kernel)) ggL_holds_X8_remembered
set_option maxRecDepth 20000 in
theorem ggL_holds_X8_hides : GoodIn wsL_holds wsX8_hides := goodIn_ca (goodIn_r _ [197, 15, 198, 199, 4, 200, 92, 93, 8, 9, 10, 201, 202, 203, 39, 204, 49, 50, 59, 60, 61, 62, 63, 64, 65, 66, 67, 68, 69, 70, 71, 72, 27, 28, 29, 30, 31, 214, 215, 216, 217, 218, 219, 220, 221, 222, 223, 224, 225, 226, 227, 235, 236, 237, 234] (by decide +kernel) (by decide +kernel)) (goodIn_sub (fun _ h => List.mem_cons_of_mem _ (List.mem_append_right _ h)) (by decide +kernel))
set_option maxRecDepth 20000 in
theorem gL_holds_X8_hides : GoodIn wsL_holds (wsV RL 73 RX8 yX8_hides wsX8_hides) := goodIn_app (goodIn_of _ (by decide +kernel)) ggL_holds_X8_hides
set_option maxRecDepth 20000 in
theorem ggL_holds_X8_openness : GoodIn wsL_holds wsX8_openness := goodIn_r _ [208, 15, 209, 210, 211, 39, 212, 49, 50, 213, 37, 38, 40, 41, 42, 43, 44, 45, 46, 47, 48, 51, 52, 53, 54, 55, 56, 57, 58, 27, 28, 29, 30, 31, 59, 60, 61, 62, 63, 64, 65, 66, 67, 68, 69, 70, 71, 72, 73, 74, 75, 76, 77, 78, 79, 214, 215, 216, 217, 218, 219, 220, 221, 222, 223, 224, 225, 226, 227, 234, 235, 236, 237] (by decide +kernel) (by decide +kernel)
set_option maxRecDepth 20000 in
theorem gL_holds_X8_openness : GoodIn wsL_holds (wsV RL 76 RX8 yX8_openness wsX8_openness) := goodIn_app (goodIn_of _ (by decide +kernel)) ggL_holds_X8_openness
theorem dL_holds_0 : decode cL_holds 0 = .ok (.aload_n 0, 1) := by decide +kernel
theorem dL_holds_1 : decode cL_holds 1 = .ok (.iconst 0, 1) := by decide +kernel
theorem dL_holds_2 : decode cL_holds 2 = .ok (.invokevirtual 12, 3) := by decide +kernel
theorem dL_holds_5 : decode cL_holds 5 = .ok (.istore_n 2, 1) := by decide +kernel
theorem dL_holds_6 : decode cL_holds 6 = .ok (.iload_n 1, 1) := by decide +kernel
theorem dL_holds_7 : decode cL_holds 7 = .ok (.iconst 5, 1) := by decide +kernel
theorem dL_holds_8 : decode cL_holds 8 = .ok (.invokestatic 28, 3) := by decide +kernel
theorem dL_holds_11 : decode cL_holds 11 = .ok (.istore_n 3, 1) := by decide +kernel
theorem dL_holds_12 : decode cL_holds 12 = .ok (.iload_n 1, 1) := by decide +kernel
theorem dL_holds_13 : decode cL_holds 13 = .ok (.iconst 3, 1) := by decide +kernel
theorem dL_holds_14 : decode cL_holds 14 = .ok (.ishr, 1) := by decide +kernel
theorem dL_holds_15 : decode cL_holds 15 = .ok (.iconst 5, 1) := by decide +kernel
theorem dL_holds_16 : decode cL_holds 16 = .ok (.invokestatic 28, 3) := by decide +kernel
theorem dL_holds_19 : decode cL_holds 19 = .ok (.iconst 1, 1) := by decide +kernel
theorem dL_holds_20 : decode cL_holds 20 = .ok (.isub, 1) := by decide +kernel
theorem dL_holds_21 : decode cL_holds 21 = .ok (.istore 4, 2) := by decide +kernel
theorem dL_holds_23 : decode cL_holds 23 = .ok (.iload_n 1, 1) := by decide +kernel
theorem dL_holds_24 : decode cL_holds 24 = .ok (.bipush 6, 2) := by decide +kernel
theorem dL_holds_26 : decode cL_holds 26 = .ok (.ishr, 1) := by decide +kernel
theorem dL_holds_27 : decode cL_holds 27 = .ok (.bipush 60, 2) := by decide +kernel
theorem dL_holds_29 : decode cL_holds 29 = .ok (.invokestatic 28, 3) := by decide +kernel
theorem dL_holds_32 : decode cL_holds 32 = .ok (.istore 5, 2) := by decide +kernel
theorem dL_holds_34 : decode cL_holds 34 = .ok (.iconst 0, 1) := by decide +kernel
theorem dL_holds_35 : decode cL_holds 35 = .ok (.istore 6, 2) := by decide +kernel
theorem dL_holds_37 : decode cL_holds 37 = .ok (.iconst 0, 1) := by decide +kernel
theorem dL_holds_38 : decode cL_holds 38 = .ok (.istore 7, 2) := by decide +kernel
theorem dL_holds_40 : decode cL_holds 40 = .ok (.iload 7, 2) := by decide +kernel
theorem dL_holds_42 : decode cL_holds 42 = .ok (.iload_n 2, 1) := by decide +kernel
theorem dL_holds_43 : decode cL_holds 43 = .ok (.if_icmp .ge 170, 3) := by decide +kernel
theorem dL_holds_46 : decode cL_holds 46 = .ok (.aload_n 0, 1) := by decide +kernel
theorem dL_holds_47 : decode cL_holds 47 = .ok (.iload_n 3, 1) := by decide +kernel
theorem dL_holds_48 : decode cL_holds 48 = .ok (.iconst 4, 1) := by decide +kernel
theorem dL_holds_49 : decode cL_holds 49 = .ok (.invokevirtual 22, 3) := by decide +kernel
theorem dL_holds_52 : decode cL_holds 52 = .ok (.iload 7, 2) := by decide +kernel
theorem dL_holds_54 : decode cL_holds 54 = .ok (.ishr, 1) := by decide +kernel
theorem dL_holds_55 : decode cL_holds 55 = .ok (.iconst 1, 1) := by decide +kernel
theorem dL_holds_56 : decode cL_holds 56 = .ok (.iand, 1) := by decide +kernel
theorem dL_holds_57 : decode cL_holds 57 = .ok (.iconst 1, 1) := by decide +kernel
theorem dL_holds_58 : decode cL_holds 58 = .ok (.if_icmp .ne 7, 3) := by decide +kernel
theorem dL_holds_61 : decode cL_holds 61 = .ok (.iconst 1, 1) := by decide +kernel
theorem dL_holds_62 : decode cL_holds 62 = .ok (.goto 4, 3) := by decide +kernel
theorem dL_holds_65 : decode cL_holds 65 = .ok (.iconst 0, 1) := by decide +kernel
theorem dL_holds_66 : decode cL_holds 66 = .ok (.istore 8, 2) := by decide +kernel
theorem dL_holds_68 : decode cL_holds 68 = .ok (.aload_n 0, 1) := by decide +kernel
theorem dL_holds_69 : decode cL_holds 69 = .ok (.iload_n 3, 1) := by decide +kernel
theorem dL_holds_70 : decode cL_holds 70 = .ok (.iload 7, 2) := by decide +kernel
theorem dL_holds_72 : decode cL_holds 72 = .ok (.invokevirtual 66, 3) := by decide +kernel
theorem dL_holds_75 : decode cL_holds 75 = .ok (.istore 9, 2) := by decide +kernel
theorem dL_holds_77 : decode cL_holds 77 = .ok (.iload 6, 2) := by decide +kernel
theorem dL_holds_79 : decode cL_holds 79 = .ok (.iload 8, 2) := by decide +kernel
theorem dL_holds_81 : decode cL_holds 81 = .ok (.ifCond .eq 36, 3) := by decide +kernel
theorem dL_holds_84 : decode cL_holds 84 = .ok (.iload 4, 2) := by decide +kernel
theorem dL_holds_86 : decode cL_holds 86 = .ok (.ifCond .lt 15, 3) := by decide +kernel
theorem dL_holds_89 : decode cL_holds 89 = .ok (.aload_n 0, 1) := by decide +kernel
theorem dL_holds_90 : decode cL_holds 90 = .ok (.iload 7, 2) := by decide +kernel
theorem dL_holds_92 : decode cL_holds 92 = .ok (.iconst 1, 1) := by decide +kernel
theorem dL_holds_93 : decode cL_holds 93 = .ok (.invokevirtual 18, 3) := by decide +kernel
theorem dL_holds_96 : decode cL_holds 96 = .ok (.iload 4, 2) := by decide +kernel
theorem dL_holds_98 : decode cL_holds 98 = .ok (.if_icmp .ne 19, 3) := by decide +kernel
theorem dL_holds_101 : decode cL_holds 101 = .ok (.aload_n 0, 1) := by decide +kernel
theorem dL_holds_102 : decode cL_holds 102 = .ok (.iload 7, 2) := by decide +kernel
theorem dL_holds_104 : decode cL_holds 104 = .ok (.iconst 2, 1) := by decide +kernel
theorem dL_holds_105 : decode cL_holds 105 = .ok (.invokevirtual 18, 3) := by decide +kernel
theorem dL_holds_108 : decode cL_holds 108 = .ok (.iload 5, 2) := by decide +kernel
theorem dL_holds_110 : decode cL_holds 110 = .ok (.if_icmp .lt 7, 3) := by decide +kernel
theorem dL_holds_113 : decode cL_holds 113 = .ok (.iconst 1, 1) := by decide +kernel
theorem dL_holds_114 : decode cL_holds 114 = .ok (.goto 4, 3) := by decide +kernel
theorem dL_holds_117 : decode cL_holds 117 = .ok (.iconst 0, 1) := by decide +kernel
theorem dL_holds_118 : decode cL_holds 118 = .ok (.iadd, 1) := by decide +kernel
theorem dL_holds_119 : decode cL_holds 119 = .ok (.istore 6, 2) := by decide +kernel
theorem dL_holds_121 : decode cL_holds 121 = .ok (.aload_n 0, 1) := by decide +kernel
theorem dL_holds_122 : decode cL_holds 122 = .ok (.iload 7, 2) := by decide +kernel
theorem dL_holds_124 : decode cL_holds 124 = .ok (.iconst 0, 1) := by decide +kernel
theorem dL_holds_125 : decode cL_holds 125 = .ok (.invokevirtual 18, 3) := by decide +kernel
theorem dL_holds_128 : decode cL_holds 128 = .ok (.iload_n 3, 1) := by decide +kernel
theorem dL_holds_129 : decode cL_holds 129 = .ok (.if_icmp .ne 7, 3) := by decide +kernel
theorem dL_holds_132 : decode cL_holds 132 = .ok (.iconst 1, 1) := by decide +kernel
theorem dL_holds_133 : decode cL_holds 133 = .ok (.goto 4, 3) := by decide +kernel
theorem dL_holds_136 : decode cL_holds 136 = .ok (.iconst 0, 1) := by decide +kernel
theorem dL_holds_137 : decode cL_holds 137 = .ok (.istore 10, 2) := by decide +kernel
theorem dL_holds_139 : decode cL_holds 139 = .ok (.iload 8, 2) := by decide +kernel
theorem dL_holds_141 : decode cL_holds 141 = .ok (.iload 9, 2) := by decide +kernel
theorem dL_holds_143 : decode cL_holds 143 = .ok (.ifCond .ne 7, 3) := by decide +kernel
theorem dL_holds_146 : decode cL_holds 146 = .ok (.iconst 1, 1) := by decide +kernel
theorem dL_holds_147 : decode cL_holds 147 = .ok (.goto 4, 3) := by decide +kernel
theorem dL_holds_150 : decode cL_holds 150 = .ok (.iconst 0, 1) := by decide +kernel
theorem dL_holds_151 : decode cL_holds 151 = .ok (.if_icmp .ne 54, 3) := by decide +kernel
theorem dL_holds_154 : decode cL_holds 154 = .ok (.iload 8, 2) := by decide +kernel
theorem dL_holds_156 : decode cL_holds 156 = .ok (.aload_n 0, 1) := by decide +kernel
theorem dL_holds_157 : decode cL_holds 157 = .ok (.iload 7, 2) := by decide +kernel
theorem dL_holds_159 : decode cL_holds 159 = .ok (.iconst 4, 1) := by decide +kernel
theorem dL_holds_160 : decode cL_holds 160 = .ok (.invokevirtual 18, 3) := by decide +kernel
theorem dL_holds_163 : decode cL_holds 163 = .ok (.iload_n 3, 1) := by decide +kernel
theorem dL_holds_164 : decode cL_holds 164 = .ok (.ishr, 1) := by decide +kernel
theorem dL_holds_165 : decode cL_holds 165 = .ok (.iconst 1, 1) := by decide +kernel
theorem dL_holds_166 : decode cL_holds 166 = .ok (.iand, 1) := by decide +kernel
theorem dL_holds_167 : decode cL_holds 167 = .ok (.iconst 1, 1) := by decide +kernel
theorem dL_holds_168 : decode cL_holds 168 = .ok (.if_icmp .ne 7, 3) := by decide +kernel
theorem dL_holds_171 : decode cL_holds 171 = .ok (.iconst 1, 1) := by decide +kernel
theorem dL_holds_172 : decode cL_holds 172 = .ok (.goto 4, 3) := by decide +kernel
theorem dL_holds_175 : decode cL_holds 175 = .ok (.iconst 0, 1) := by decide +kernel
theorem dL_holds_176 : decode cL_holds 176 = .ok (.if_icmp .ne 29, 3) := by decide +kernel
theorem dL_holds_179 : decode cL_holds 179 = .ok (.iload 10, 2) := by decide +kernel
theorem dL_holds_181 : decode cL_holds 181 = .ok (.ifCond .eq 8, 3) := by decide +kernel
theorem dL_holds_184 : decode cL_holds 184 = .ok (.iload 9, 2) := by decide +kernel
theorem dL_holds_186 : decode cL_holds 186 = .ok (.ifCond .ne 19, 3) := by decide +kernel
theorem dL_holds_189 : decode cL_holds 189 = .ok (.iload 9, 2) := by decide +kernel
theorem dL_holds_191 : decode cL_holds 191 = .ok (.aload_n 0, 1) := by decide +kernel
theorem dL_holds_192 : decode cL_holds 192 = .ok (.iconst 1, 1) := by decide +kernel
theorem dL_holds_193 : decode cL_holds 193 = .ok (.invokevirtual 12, 3) := by decide +kernel
theorem dL_holds_196 : decode cL_holds 196 = .ok (.ior, 1) := by decide +kernel
theorem dL_holds_197 : decode cL_holds 197 = .ok (.aload_n 0, 1) := by decide +kernel
theorem dL_holds_198 : decode cL_holds 198 = .ok (.iconst 1, 1) := by decide +kernel
theorem dL_holds_199 : decode cL_holds 199 = .ok (.invokevirtual 12, 3) := by decide +kernel
theorem dL_holds_202 : decode cL_holds 202 = .ok (.if_icmp .eq 5, 3) := by decide +kernel
theorem dL_holds_205 : decode cL_holds 205 = .ok (.iconst 0, 1) := by decide +kernel
theorem dL_holds_206 : decode cL_holds 206 = .ok (.ireturn, 1) := by decide +kernel
theorem dL_holds_207 : decode cL_holds 207 = .ok (.iinc 7 1, 3) := by decide +kernel
theorem dL_holds_210 : decode cL_holds 210 = .ok (.goto (-170), 3) := by decide +kernel
theorem dL_holds_213 : decode cL_holds 213 = .ok (.aload_n 0, 1) := by decide +kernel
theorem dL_holds_214 : decode cL_holds 214 = .ok (.iload_n 3, 1) := by decide +kernel
theorem dL_holds_215 : decode cL_holds 215 = .ok (.iload 4, 2) := by decide +kernel
theorem dL_holds_217 : decode cL_holds 217 = .ok (.iload 5, 2) := by decide +kernel
theorem dL_holds_219 : decode cL_holds 219 = .ok (.bipush 99, 2) := by decide +kernel
theorem dL_holds_221 : decode cL_holds 221 = .ok (.iconst 0, 1) := by decide +kernel
theorem dL_holds_222 : decode cL_holds 222 = .ok (.invokevirtual 69, 3) := by decide +kernel
theorem dL_holds_225 : decode cL_holds 225 = .ok (.istore 7, 2) := by decide +kernel
theorem dL_holds_227 : decode cL_holds 227 = .ok (.iconst 0, 1) := by decide +kernel
theorem dL_holds_228 : decode cL_holds 228 = .ok (.istore 8, 2) := by decide +kernel
theorem dL_holds_230 : decode cL_holds 230 = .ok (.iconst 0, 1) := by decide +kernel
theorem dL_holds_231 : decode cL_holds 231 = .ok (.istore 9, 2) := by decide +kernel
theorem dL_holds_233 : decode cL_holds 233 = .ok (.iconst 0, 1) := by decide +kernel
theorem dL_holds_234 : decode cL_holds 234 = .ok (.istore 10, 2) := by decide +kernel
theorem dL_holds_236 : decode cL_holds 236 = .ok (.iconst 0, 1) := by decide +kernel
theorem dL_holds_237 : decode cL_holds 237 = .ok (.istore 11, 2) := by decide +kernel
theorem dL_holds_239 : decode cL_holds 239 = .ok (.iload 11, 2) := by decide +kernel
theorem dL_holds_241 : decode cL_holds 241 = .ok (.iconst 5, 1) := by decide +kernel
theorem dL_holds_242 : decode cL_holds 242 = .ok (.if_icmp .ge 109, 3) := by decide +kernel
theorem dL_holds_245 : decode cL_holds 245 = .ok (.iload 8, 2) := by decide +kernel
theorem dL_holds_247 : decode cL_holds 247 = .ok (.aload_n 0, 1) := by decide +kernel
theorem dL_holds_248 : decode cL_holds 248 = .ok (.iload 11, 2) := by decide +kernel
theorem dL_holds_250 : decode cL_holds 250 = .ok (.bipush 6, 2) := by decide +kernel
theorem dL_holds_252 : decode cL_holds 252 = .ok (.invokevirtual 22, 3) := by decide +kernel
theorem dL_holds_255 : decode cL_holds 255 = .ok (.iadd, 1) := by decide +kernel
theorem dL_holds_256 : decode cL_holds 256 = .ok (.istore 8, 2) := by decide +kernel
theorem dL_holds_258 : decode cL_holds 258 = .ok (.iload 9, 2) := by decide +kernel
theorem dL_holds_260 : decode cL_holds 260 = .ok (.aload_n 0, 1) := by decide +kernel
theorem dL_holds_261 : decode cL_holds 261 = .ok (.iload 11, 2) := by decide +kernel
theorem dL_holds_263 : decode cL_holds 263 = .ok (.bipush 7, 2) := by decide +kernel
theorem dL_holds_265 : decode cL_holds 265 = .ok (.invokevirtual 22, 3) := by decide +kernel
theorem dL_holds_268 : decode cL_holds 268 = .ok (.iadd, 1) := by decide +kernel
theorem dL_holds_269 : decode cL_holds 269 = .ok (.istore 9, 2) := by decide +kernel
theorem dL_holds_271 : decode cL_holds 271 = .ok (.iload 10, 2) := by decide +kernel
theorem dL_holds_273 : decode cL_holds 273 = .ok (.aload_n 0, 1) := by decide +kernel
theorem dL_holds_274 : decode cL_holds 274 = .ok (.iload 11, 2) := by decide +kernel
theorem dL_holds_276 : decode cL_holds 276 = .ok (.iconst 3, 1) := by decide +kernel
theorem dL_holds_277 : decode cL_holds 277 = .ok (.invokevirtual 22, 3) := by decide +kernel
theorem dL_holds_280 : decode cL_holds 280 = .ok (.iadd, 1) := by decide +kernel
theorem dL_holds_281 : decode cL_holds 281 = .ok (.istore 10, 2) := by decide +kernel
theorem dL_holds_283 : decode cL_holds 283 = .ok (.aload_n 0, 1) := by decide +kernel
theorem dL_holds_284 : decode cL_holds 284 = .ok (.iload 11, 2) := by decide +kernel
theorem dL_holds_286 : decode cL_holds 286 = .ok (.iconst 5, 1) := by decide +kernel
theorem dL_holds_287 : decode cL_holds 287 = .ok (.invokevirtual 22, 3) := by decide +kernel
theorem dL_holds_290 : decode cL_holds 290 = .ok (.istore 12, 2) := by decide +kernel
theorem dL_holds_292 : decode cL_holds 292 = .ok (.iload 12, 2) := by decide +kernel
theorem dL_holds_294 : decode cL_holds 294 = .ok (.bipush 6, 2) := by decide +kernel
theorem dL_holds_296 : decode cL_holds 296 = .ok (.if_icmp .gt 47, 3) := by decide +kernel
theorem dL_holds_299 : decode cL_holds 299 = .ok (.iload 12, 2) := by decide +kernel
theorem dL_holds_301 : decode cL_holds 301 = .ok (.ifCond .le 17, 3) := by decide +kernel
theorem dL_holds_304 : decode cL_holds 304 = .ok (.aload_n 0, 1) := by decide +kernel
theorem dL_holds_305 : decode cL_holds 305 = .ok (.iload 11, 2) := by decide +kernel
theorem dL_holds_307 : decode cL_holds 307 = .ok (.iload 12, 2) := by decide +kernel
theorem dL_holds_309 : decode cL_holds 309 = .ok (.iconst 1, 1) := by decide +kernel
theorem dL_holds_310 : decode cL_holds 310 = .ok (.isub, 1) := by decide +kernel
theorem dL_holds_311 : decode cL_holds 311 = .ok (.invokevirtual 25, 3) := by decide +kernel
theorem dL_holds_314 : decode cL_holds 314 = .ok (.iconst (-1), 1) := by decide +kernel
theorem dL_holds_315 : decode cL_holds 315 = .ok (.if_icmp .eq 28, 3) := by decide +kernel
theorem dL_holds_318 : decode cL_holds 318 = .ok (.aload_n 0, 1) := by decide +kernel
theorem dL_holds_319 : decode cL_holds 319 = .ok (.iload 11, 2) := by decide +kernel
theorem dL_holds_321 : decode cL_holds 321 = .ok (.iload 12, 2) := by decide +kernel
theorem dL_holds_323 : decode cL_holds 323 = .ok (.invokevirtual 25, 3) := by decide +kernel
theorem dL_holds_326 : decode cL_holds 326 = .ok (.iconst (-1), 1) := by decide +kernel
theorem dL_holds_327 : decode cL_holds 327 = .ok (.if_icmp .ne 16, 3) := by decide +kernel
theorem dL_holds_330 : decode cL_holds 330 = .ok (.aload_n 0, 1) := by decide +kernel
theorem dL_holds_331 : decode cL_holds 331 = .ok (.iload 11, 2) := by decide +kernel
theorem dL_holds_333 : decode cL_holds 333 = .ok (.iconst 0, 1) := by decide +kernel
theorem dL_holds_334 : decode cL_holds 334 = .ok (.invokevirtual 25, 3) := by decide +kernel
theorem dL_holds_337 : decode cL_holds 337 = .ok (.iconst 1, 1) := by decide +kernel
theorem dL_holds_338 : decode cL_holds 338 = .ok (.iload_n 2, 1) := by decide +kernel
theorem dL_holds_339 : decode cL_holds 339 = .ok (.ishl, 1) := by decide +kernel
theorem dL_holds_340 : decode cL_holds 340 = .ok (.if_icmp .lt 5, 3) := by decide +kernel
theorem dL_holds_343 : decode cL_holds 343 = .ok (.iconst 0, 1) := by decide +kernel
theorem dL_holds_344 : decode cL_holds 344 = .ok (.ireturn, 1) := by decide +kernel
theorem dL_holds_345 : decode cL_holds 345 = .ok (.iinc 11 1, 3) := by decide +kernel
theorem dL_holds_348 : decode cL_holds 348 = .ok (.goto (-109), 3) := by decide +kernel
theorem dL_holds_351 : decode cL_holds 351 = .ok (.aload_n 0, 1) := by decide +kernel
theorem dL_holds_352 : decode cL_holds 352 = .ok (.iconst 0, 1) := by decide +kernel
theorem dL_holds_353 : decode cL_holds 353 = .ok (.invokevirtual 73, 3) := by decide +kernel
theorem dL_holds_356 : decode cL_holds 356 = .ok (.aload_n 0, 1) := by decide +kernel
theorem dL_holds_357 : decode cL_holds 357 = .ok (.iconst 1, 1) := by decide +kernel
theorem dL_holds_358 : decode cL_holds 358 = .ok (.invokevirtual 73, 3) := by decide +kernel
theorem dL_holds_361 : decode cL_holds 361 = .ok (.iadd, 1) := by decide +kernel
theorem dL_holds_362 : decode cL_holds 362 = .ok (.aload_n 0, 1) := by decide +kernel
theorem dL_holds_363 : decode cL_holds 363 = .ok (.iconst 2, 1) := by decide +kernel
theorem dL_holds_364 : decode cL_holds 364 = .ok (.invokevirtual 73, 3) := by decide +kernel
theorem dL_holds_367 : decode cL_holds 367 = .ok (.iadd, 1) := by decide +kernel
theorem dL_holds_368 : decode cL_holds 368 = .ok (.aload_n 0, 1) := by decide +kernel
theorem dL_holds_369 : decode cL_holds 369 = .ok (.iconst 3, 1) := by decide +kernel
theorem dL_holds_370 : decode cL_holds 370 = .ok (.invokevirtual 73, 3) := by decide +kernel
theorem dL_holds_373 : decode cL_holds 373 = .ok (.iadd, 1) := by decide +kernel
theorem dL_holds_374 : decode cL_holds 374 = .ok (.istore 11, 2) := by decide +kernel
theorem dL_holds_376 : decode cL_holds 376 = .ok (.iload 7, 2) := by decide +kernel
theorem dL_holds_378 : decode cL_holds 378 = .ok (.iconst (-1), 1) := by decide +kernel
theorem dL_holds_379 : decode cL_holds 379 = .ok (.if_icmp .eq 19, 3) := by decide +kernel
theorem dL_holds_382 : decode cL_holds 382 = .ok (.iload 7, 2) := by decide +kernel
theorem dL_holds_384 : decode cL_holds 384 = .ok (.iload 6, 2) := by decide +kernel
theorem dL_holds_386 : decode cL_holds 386 = .ok (.iload 6, 2) := by decide +kernel
theorem dL_holds_388 : decode cL_holds 388 = .ok (.aload_n 0, 1) := by decide +kernel
theorem dL_holds_389 : decode cL_holds 389 = .ok (.iconst 3, 1) := by decide +kernel
theorem dL_holds_390 : decode cL_holds 390 = .ok (.invokevirtual 12, 3) := by decide +kernel
theorem dL_holds_393 : decode cL_holds 393 = .ok (.irem, 1) := by decide +kernel
theorem dL_holds_394 : decode cL_holds 394 = .ok (.isub, 1) := by decide +kernel
theorem dL_holds_395 : decode cL_holds 395 = .ok (.if_icmp .ne 7, 3) := by decide +kernel
theorem dL_holds_398 : decode cL_holds 398 = .ok (.iconst 1, 1) := by decide +kernel
theorem dL_holds_399 : decode cL_holds 399 = .ok (.goto 4, 3) := by decide +kernel
theorem dL_holds_402 : decode cL_holds 402 = .ok (.iconst 0, 1) := by decide +kernel
theorem dL_holds_403 : decode cL_holds 403 = .ok (.istore 12, 2) := by decide +kernel
theorem dL_holds_405 : decode cL_holds 405 = .ok (.iload 12, 2) := by decide +kernel
theorem dL_holds_407 : decode cL_holds 407 = .ok (.ifCond .eq 96, 3) := by decide +kernel
theorem dL_holds_410 : decode cL_holds 410 = .ok (.aload_n 0, 1) := by decide +kernel
theorem dL_holds_411 : decode cL_holds 411 = .ok (.iload_n 3, 1) := by decide +kernel
theorem dL_holds_412 : decode cL_holds 412 = .ok (.iload 4, 2) := by decide +kernel
theorem dL_holds_414 : decode cL_holds 414 = .ok (.iload 5, 2) := by decide +kernel
theorem dL_holds_416 : decode cL_holds 416 = .ok (.bipush 99, 2) := by decide +kernel
theorem dL_holds_418 : decode cL_holds 418 = .ok (.iconst 3, 1) := by decide +kernel
theorem dL_holds_419 : decode cL_holds 419 = .ok (.invokevirtual 69, 3) := by decide +kernel
theorem dL_holds_422 : decode cL_holds 422 = .ok (.iload 6, 2) := by decide +kernel
theorem dL_holds_424 : decode cL_holds 424 = .ok (.if_icmp .lt 79, 3) := by decide +kernel
theorem dL_holds_427 : decode cL_holds 427 = .ok (.iload 8, 2) := by decide +kernel
theorem dL_holds_429 : decode cL_holds 429 = .ok (.aload_n 0, 1) := by decide +kernel
theorem dL_holds_430 : decode cL_holds 430 = .ok (.iconst 5, 1) := by decide +kernel
theorem dL_holds_431 : decode cL_holds 431 = .ok (.invokevirtual 12, 3) := by decide +kernel
theorem dL_holds_434 : decode cL_holds 434 = .ok (.if_icmp .ne 69, 3) := by decide +kernel
theorem dL_holds_437 : decode cL_holds 437 = .ok (.iload 9, 2) := by decide +kernel
theorem dL_holds_439 : decode cL_holds 439 = .ok (.aload_n 0, 1) := by decide +kernel
theorem dL_holds_440 : decode cL_holds 440 = .ok (.bipush 6, 2) := by decide +kernel
theorem dL_holds_442 : decode cL_holds 442 = .ok (.invokevirtual 12, 3) := by decide +kernel
theorem dL_holds_445 : decode cL_holds 445 = .ok (.if_icmp .ne 58, 3) := by decide +kernel
theorem dL_holds_448 : decode cL_holds 448 = .ok (.iload 9, 2) := by decide +kernel
theorem dL_holds_450 : decode cL_holds 450 = .ok (.iload 8, 2) := by decide +kernel
theorem dL_holds_452 : decode cL_holds 452 = .ok (.if_icmp .gt 51, 3) := by decide +kernel
theorem dL_holds_455 : decode cL_holds 455 = .ok (.iload 10, 2) := by decide +kernel
theorem dL_holds_457 : decode cL_holds 457 = .ok (.aload_n 0, 1) := by decide +kernel
theorem dL_holds_458 : decode cL_holds 458 = .ok (.bipush 8, 2) := by decide +kernel
theorem dL_holds_460 : decode cL_holds 460 = .ok (.invokevirtual 12, 3) := by decide +kernel
theorem dL_holds_463 : decode cL_holds 463 = .ok (.iadd, 1) := by decide +kernel
theorem dL_holds_464 : decode cL_holds 464 = .ok (.iconst 5, 1) := by decide +kernel
theorem dL_holds_465 : decode cL_holds 465 = .ok (.iload_n 2, 1) := by decide +kernel
theorem dL_holds_466 : decode cL_holds 466 = .ok (.imul, 1) := by decide +kernel
theorem dL_holds_467 : decode cL_holds 467 = .ok (.if_icmp .ne 36, 3) := by decide +kernel
theorem dL_holds_470 : decode cL_holds 470 = .ok (.iload 11, 2) := by decide +kernel
theorem dL_holds_472 : decode cL_holds 472 = .ok (.aload_n 0, 1) := by decide +kernel
theorem dL_holds_473 : decode cL_holds 473 = .ok (.bipush 8, 2) := by decide +kernel
theorem dL_holds_475 : decode cL_holds 475 = .ok (.invokevirtual 12, 3) := by decide +kernel
theorem dL_holds_478 : decode cL_holds 478 = .ok (.if_icmp .gt 25, 3) := by decide +kernel
theorem dL_holds_481 : decode cL_holds 481 = .ok (.aload_n 0, 1) := by decide +kernel
theorem dL_holds_482 : decode cL_holds 482 = .ok (.invokevirtual 76, 3) := by decide +kernel
theorem dL_holds_485 : decode cL_holds 485 = .ok (.dconst 0, 1) := by decide +kernel
theorem dL_holds_486 : decode cL_holds 486 = .ok (.dcmp .l, 1) := by decide +kernel
theorem dL_holds_487 : decode cL_holds 487 = .ok (.ifCond .lt 16, 3) := by decide +kernel
theorem dL_holds_490 : decode cL_holds 490 = .ok (.aload_n 0, 1) := by decide +kernel
theorem dL_holds_491 : decode cL_holds 491 = .ok (.invokevirtual 76, 3) := by decide +kernel
theorem dL_holds_494 : decode cL_holds 494 = .ok (.dconst 1, 1) := by decide +kernel
theorem dL_holds_495 : decode cL_holds 495 = .ok (.dcmp .g, 1) := by decide +kernel
theorem dL_holds_496 : decode cL_holds 496 = .ok (.ifCond .gt 7, 3) := by decide +kernel
theorem dL_holds_499 : decode cL_holds 499 = .ok (.iconst 1, 1) := by decide +kernel
theorem dL_holds_500 : decode cL_holds 500 = .ok (.goto 4, 3) := by decide +kernel
theorem dL_holds_503 : decode cL_holds 503 = .ok (.iconst 0, 1) := by decide +kernel
theorem dL_holds_504 : decode cL_holds 504 = .ok (.ireturn, 1) := by decide +kernel
set_option maxRecDepth 20000 in
theorem ggL_law_X8_init : GoodIn wsL_law wsX8_init := goodIn_r _ [5, 6, 7, 8, 9, 10, 11, 12, 13, 14, 15, 16, 17, 18, 19, 20, 21, 22, 23, 24, 25, 26, 27, 28, 29, 30, 31, 32, 33, 34, 35, 36, 37, 38, 39, 40, 41, 42, 43, 44, 45, 46, 47, 48, 49, 50, 51, 52, 53, 54, 55, 56, 57, 58, 59, 60, 61, 62, 63, 64, 65, 66, 67, 68, 69, 70, 71, 72, 73, 74, 75, 76, 77, 78, 79, 80, 81, 82, 83, 84, 85, 86, 87, 88, 89, 90, 91, 92, 93, 94, 95, 96, 97, 98, 99, 100, 101, 102, 103, 104, 451, 452, 453, 454, 455, 456, 448, 449, 450, 457, 458, 459, 460, 461, 462, 463, 464, 465, 466, 467, 468, 469, 470, 471, 472, 473, 474, 475] (by decide +kernel) (by decide +kernel)
set_option maxRecDepth 20000 in
theorem gL_law_X8_init : GoodIn wsL_law (wsX8_init) := ggL_law_X8_init
set_option maxRecDepth 20000 in
theorem ggL_law_L_cell : GoodIn wsL_law wsL_cell := goodIn_r _ [108] (by decide +kernel) (by decide +kernel)
set_option maxRecDepth 20000 in
theorem gL_law_L_cell : GoodIn wsL_law (va_wsS RL 81 yL_cell wsL_cell) := goodIn_app (goodIn_of _ (by decide +kernel)) ggL_law_L_cell
set_option maxRecDepth 20000 in
theorem ggL_law_X8_count : GoodIn wsL_law wsX8_count := goodIn_ca (goodIn_r _ [112, 113, 114, 115, 116, 2, 117, 118, 119, 120, 121, 12, 122, 123, 124, 125, 126, 127, 128, 129, 16, 130, 131, 132, 133, 43, 134, 60, 135, 136, 137, 138, 139, 140, 141, 11, 142, 143, 144, 145, 146, 147, 148, 149, 150, 28, 151, 152, 153, 154, 27, 155, 52, 51, 156, 157, 158, 159, 160, 161, 162, 32, 163, 164, 165, 166, 167, 45, 168, 169, 170, 171, 172, 173, 174, 175, 448, 449, 450, 451, 452, 453, 454, 455, 456, 462, 463, 464, 465, 466, 472, 473, 474, 457, 458, 459, 475, 467, 468, 469] (by decide +kernel) (by decide +kernel)) (goodIn_sub (fun _ h => List.mem_append_left _ (List.mem_append_left _ (List.mem_append_right _ h))) (by decide +kernel))
set_option maxRecDepth 20000 in
theorem gL_law_X8_count : GoodIn wsL_law (wsV RL 12 RX8 yX8_count wsX8_count) := goodIn_app (goodIn_of _ (by decide +kernel)) ggL_law_X8_count
set_option maxRecDepth 20000 in
theorem ggL_law_X8_undo : GoodIn wsL_law wsX8_undo := goodIn_ca (goodIn_r _ [179, 180, 181, 16, 130, 12, 182, 183, 184, 15, 185, 95, 96, 186, 187, 188, 189, 94, 190, 191, 192, 11, 193, 28, 32, 36, 40, 44, 45, 194, 195, 196, 27, 197, 50, 51, 52, 53, 54, 198, 199, 200, 43, 201, 60, 202, 132, 133, 134, 203, 204, 205, 31, 206, 65, 66, 67, 207, 208, 209, 210, 35, 211, 73, 74, 212, 213, 214, 215, 39, 216, 80, 81, 82, 217, 218, 448, 449, 450, 457, 458, 459, 451, 452, 453, 454, 455, 456, 462, 463, 464, 465, 466, 475, 467, 468, 469, 470, 471, 472, 473, 474] (by decide +kernel) (by decide +kernel)) (goodIn_sub (fun _ h => List.mem_append_left _ (List.mem_append_right _ h)) (by decide +kernel))
set_option maxRecDepth 20000 in
theorem gL_law_X8_undo : GoodIn wsL_law (wsV RL 85 RX8 yX8_undo wsX8_undo) := goodIn_app (goodIn_of _ (by decide +kernel)) ggL_law_X8_undo
set_option maxRecDepth 20000 in
theorem ggL_law_L_told : GoodIn wsL_law wsL_told := goodIn_ca (goodIn_ca (goodIn_r _ [221, 222, 223, 109, 110, 111, 2, 112, 113, 114, 115, 116, 117, 118, 119, 120, 121, 12, 122, 123, 124, 125, 126, 127, 128, 129, 16, 130, 131, 132, 133, 43, 134, 60, 135, 136, 137, 138, 139, 140, 141, 11, 142, 143, 144, 145, 146, 147, 148, 149, 150, 28, 151, 152, 153, 154, 27, 155, 52, 51, 156, 157, 158, 159, 160, 161, 162, 32, 163, 164, 165, 166, 167, 45, 168, 169, 170, 171, 172, 173, 174, 175, 224, 225, 226, 227, 228, 229, 230, 231, 232, 233, 234, 235, 236, 237, 238, 239, 240, 241, 242, 243, 244, 245, 246, 247, 248, 249, 250, 251, 252, 253, 254, 255, 36, 256, 40, 257, 258, 259, 260, 261, 262, 263, 264, 265, 266, 35, 267, 74, 73, 268, 448, 449, 450, 451, 452, 453, 454, 455, 456, 462, 463, 464, 465, 466, 472, 473, 474, 457, 458, 459, 475, 467, 468, 469, 470, 471] (by decide +kernel) (by decide +kernel)) (goodIn_sub (fun _ h => List.mem_append_left _ (List.mem_append_left _ (List.mem_append_right _ h))) (by decide +kernel))) (goodIn_sub (fun _ h => List.mem_append_right _ h) (by decide +kernel))
set_option maxRecDepth 20000 in
theorem gL_law_L_told : GoodIn wsL_law (va_wsS RL 89 yL_told wsL_told) := goodIn_app (goodIn_of _ (by decide +kernel)) ggL_law_L_told
set_option maxRecDepth 20000 in
theorem ggL_law_L_act : GoodIn wsL_law wsL_act := goodIn_ca (goodIn_ca (goodIn_ca (goodIn_r _ [271, 272, 273, 107, 274, 275, 109, 110, 111, 2, 112, 113, 114, 115, 116, 117, 118, 119, 120, 121, 12, 122, 123, 124, 125, 126, 127, 128, 129, 16, 130, 131, 132, 133, 43, 134, 60, 135, 136, 137, 138, 139, 140, 141, 11, 142, 143, 144, 145, 146, 147, 148, 149, 150, 28, 151, 152, 153, 154, 27, 155, 52, 51, 156, 157, 158, 159, 160, 161, 162, 32, 163, 164, 165, 166, 167, 45, 168, 169, 170, 171, 172, 173, 174, 175, 276, 277, 278, 279, 263, 228, 229, 230, 231, 232, 233, 280, 281, 282, 15, 283, 95, 96, 284, 285, 286, 287, 186, 187, 188, 189, 94, 190, 191, 192, 193, 36, 40, 44, 194, 195, 196, 197, 50, 53, 54, 198, 199, 200, 201, 202, 203, 204, 205, 31, 206, 65, 66, 67, 207, 208, 209, 210, 35, 211, 73, 74, 212, 213, 214, 215, 39, 216, 80, 81, 82, 217, 218, 288, 289, 290, 291, 292, 293, 294, 295, 296, 86, 87, 88, 297, 298, 299, 300, 268, 301, 302, 303, 304, 305, 306, 307, 308, 309, 310, 311, 312, 313, 314, 315, 316, 317, 318, 319, 320, 249, 250, 251, 321, 322, 323, 324, 325, 326, 327, 328, 329, 330, 331, 332, 333, 334, 335, 336, 337, 338, 339, 340, 341, 342, 343, 344, 345, 246, 247, 248, 346, 347, 348, 349, 350, 351, 352, 353, 354, 355, 356, 357, 358, 359, 360, 361, 362, 363, 364, 365, 366, 367, 368, 369, 370, 371, 372, 373, 374, 375, 376, 377, 378, 379, 380, 381, 382, 383, 384, 385, 386, 265, 266, 267, 387, 388, 389, 390, 391, 392, 393, 394, 395, 396, 397, 398, 399, 400, 180, 181, 401, 402, 403, 404, 405, 406, 407, 408, 409, 448, 449, 450, 451, 452, 453, 454, 455, 456, 462, 463, 464, 465, 466, 472, 473, 474, 457, 458, 459, 475, 467, 468, 469, 470, 471] (by decide +kernel) (by decide +kernel)) (goodIn_sub (fun _ h => List.mem_append_left _ (List.mem_append_left _ (List.mem_append_right _ h))) (by decide +kernel))) (goodIn_sub (fun _ h => List.mem_append_right _ h) (by decide +kernel))) (goodIn_sub (fun _ h => List.mem_append_left _ (List.mem_append_right _ h)) (by decide +kernel))
set_option maxRecDepth 20000 in
theorem gL_law_L_act : GoodIn wsL_law (va_wsS RL 93 yL_act wsL_act) := goodIn_app (goodIn_of _ (by decide +kernel)) ggL_law_L_act
set_option maxRecDepth 20000 in
theorem ggL_law_L_holds : GoodIn wsL_law wsL_holds := goodIn_ca (goodIn_ca (goodIn_r _ [412, 109, 110, 111, 2, 112, 113, 114, 115, 116, 117, 118, 119, 120, 121, 12, 122, 123, 124, 125, 126, 127, 128, 129, 16, 130, 131, 132, 133, 43, 134, 60, 135, 136, 137, 138, 139, 140, 141, 11, 142, 143, 144, 145, 146, 147, 148, 149, 150, 28, 151, 152, 153, 154, 27, 155, 52, 51, 156, 157, 158, 159, 160, 161, 162, 32, 163, 164, 165, 166, 167, 45, 168, 169, 170, 171, 172, 173, 174, 175, 272, 273, 107, 274, 275, 242, 243, 244, 245, 246, 247, 248, 232, 233, 249, 250, 251, 252, 253, 254, 255, 36, 256, 40, 257, 258, 413, 414, 415, 416, 228, 229, 230, 231, 417, 224, 225, 226, 227, 234, 235, 236, 237, 238, 239, 240, 241, 418, 419, 420, 421, 350, 351, 352, 353, 354, 355, 321, 322, 323, 307, 308, 309, 422, 423, 424, 425, 263, 426, 427, 428, 429, 54, 430, 356, 378, 379, 380, 381, 44, 364, 365, 366, 367, 382, 383, 384, 35, 385, 74, 268, 386, 265, 266, 267, 73, 387, 388, 389, 390, 357, 358, 359, 360, 361, 362, 286, 363, 391, 259, 260, 261, 262, 264, 431, 432, 433, 434, 334, 335, 336, 435, 436, 437, 438, 439, 440, 441, 442, 443, 444, 445, 446, 447, 448, 449, 450, 451, 452, 453, 454, 455, 456, 462, 463, 464, 465, 466, 472, 473, 474, 457, 458, 459, 475, 467, 468, 469, 470, 471] (by decide +kernel) (by decide +kernel)) (goodIn_sub (fun _ h => List.mem_append_left _ (List.mem_append_left _ (List.mem_append_right _ h))) (by decide +kernel))) (goodIn_sub (fun _ h => List.mem_append_right _ h) (by decide +kernel))
set_option maxRecDepth 20000 in
theorem gL_law_L_holds : GoodIn wsL_law (va_wsS RL 97 yL_holds wsL_holds) := goodIn_app (goodIn_of _ (by decide +kernel)) ggL_law_L_holds
theorem dL_law_0 : decode cL_law 0 = .ok (.new 13, 3) := by decide +kernel
theorem dL_law_3 : decode cL_law 3 = .ok (.dup, 1) := by decide +kernel
theorem dL_law_4 : decode cL_law 4 = .ok (.invokespecial 80, 3) := by decide +kernel
theorem dL_law_7 : decode cL_law 7 = .ok (.astore_n 1, 1) := by decide +kernel
theorem dL_law_8 : decode cL_law 8 = .ok (.iconst 0, 1) := by decide +kernel
theorem dL_law_9 : decode cL_law 9 = .ok (.istore_n 2, 1) := by decide +kernel
theorem dL_law_10 : decode cL_law 10 = .ok (.iload_n 2, 1) := by decide +kernel
theorem dL_law_11 : decode cL_law 11 = .ok (.bipush 40, 2) := by decide +kernel
theorem dL_law_13 : decode cL_law 13 = .ok (.if_icmp .ge 244, 3) := by decide +kernel
theorem dL_law_16 : decode cL_law 16 = .ok (.iload_n 2, 1) := by decide +kernel
theorem dL_law_17 : decode cL_law 17 = .ok (.iconst 4, 1) := by decide +kernel
theorem dL_law_18 : decode cL_law 18 = .ok (.if_icmp .ge 8, 3) := by decide +kernel
theorem dL_law_21 : decode cL_law 21 = .ok (.bipush 15, 2) := by decide +kernel
theorem dL_law_23 : decode cL_law 23 = .ok (.goto 10, 3) := by decide +kernel
theorem dL_law_26 : decode cL_law 26 = .ok (.aload_n 0, 1) := by decide +kernel
theorem dL_law_27 : decode cL_law 27 = .ok (.iconst 2, 1) := by decide +kernel
theorem dL_law_28 : decode cL_law 28 = .ok (.iload_n 2, 1) := by decide +kernel
theorem dL_law_29 : decode cL_law 29 = .ok (.imul, 1) := by decide +kernel
theorem dL_law_30 : decode cL_law 30 = .ok (.invokestatic 81, 3) := by decide +kernel
theorem dL_law_33 : decode cL_law 33 = .ok (.istore_n 3, 1) := by decide +kernel
theorem dL_law_34 : decode cL_law 34 = .ok (.aload_n 0, 1) := by decide +kernel
theorem dL_law_35 : decode cL_law 35 = .ok (.iconst 2, 1) := by decide +kernel
theorem dL_law_36 : decode cL_law 36 = .ok (.iload_n 2, 1) := by decide +kernel
theorem dL_law_37 : decode cL_law 37 = .ok (.imul, 1) := by decide +kernel
theorem dL_law_38 : decode cL_law 38 = .ok (.iconst 1, 1) := by decide +kernel
theorem dL_law_39 : decode cL_law 39 = .ok (.iadd, 1) := by decide +kernel
theorem dL_law_40 : decode cL_law 40 = .ok (.invokestatic 81, 3) := by decide +kernel
theorem dL_law_43 : decode cL_law 43 = .ok (.istore 4, 2) := by decide +kernel
theorem dL_law_45 : decode cL_law 45 = .ok (.aload_n 1, 1) := by decide +kernel
theorem dL_law_46 : decode cL_law 46 = .ok (.bipush 9, 2) := by decide +kernel
theorem dL_law_48 : decode cL_law 48 = .ok (.invokevirtual 12, 3) := by decide +kernel
theorem dL_law_51 : decode cL_law 51 = .ok (.bipush 6, 2) := by decide +kernel
theorem dL_law_53 : decode cL_law 53 = .ok (.if_icmp .ne 13, 3) := by decide +kernel
theorem dL_law_56 : decode cL_law 56 = .ok (.aload_n 1, 1) := by decide +kernel
theorem dL_law_57 : decode cL_law 57 = .ok (.invokevirtual 85, 3) := by decide +kernel
theorem dL_law_60 : decode cL_law 60 = .ok (.pop, 1) := by decide +kernel
theorem dL_law_61 : decode cL_law 61 = .ok (.aload_n 1, 1) := by decide +kernel
theorem dL_law_62 : decode cL_law 62 = .ok (.invokevirtual 85, 3) := by decide +kernel
theorem dL_law_65 : decode cL_law 65 = .ok (.pop, 1) := by decide +kernel
theorem dL_law_66 : decode cL_law 66 = .ok (.aload_n 1, 1) := by decide +kernel
theorem dL_law_67 : decode cL_law 67 = .ok (.bipush 9, 2) := by decide +kernel
theorem dL_law_69 : decode cL_law 69 = .ok (.invokevirtual 12, 3) := by decide +kernel
theorem dL_law_72 : decode cL_law 72 = .ok (.istore 5, 2) := by decide +kernel
theorem dL_law_74 : decode cL_law 74 = .ok (.aload_n 1, 1) := by decide +kernel
theorem dL_law_75 : decode cL_law 75 = .ok (.bipush 7, 2) := by decide +kernel
theorem dL_law_77 : decode cL_law 77 = .ok (.invokevirtual 12, 3) := by decide +kernel
theorem dL_law_80 : decode cL_law 80 = .ok (.istore 6, 2) := by decide +kernel
theorem dL_law_82 : decode cL_law 82 = .ok (.aload_n 1, 1) := by decide +kernel
theorem dL_law_83 : decode cL_law 83 = .ok (.iconst 4, 1) := by decide +kernel
theorem dL_law_84 : decode cL_law 84 = .ok (.invokevirtual 12, 3) := by decide +kernel
theorem dL_law_87 : decode cL_law 87 = .ok (.iconst 1, 1) := by decide +kernel
theorem dL_law_88 : decode cL_law 88 = .ok (.if_icmp .ne 7, 3) := by decide +kernel
theorem dL_law_91 : decode cL_law 91 = .ok (.iconst 1, 1) := by decide +kernel
theorem dL_law_92 : decode cL_law 92 = .ok (.goto 4, 3) := by decide +kernel
theorem dL_law_95 : decode cL_law 95 = .ok (.iconst 0, 1) := by decide +kernel
theorem dL_law_96 : decode cL_law 96 = .ok (.istore 7, 2) := by decide +kernel
theorem dL_law_98 : decode cL_law 98 = .ok (.aload_n 1, 1) := by decide +kernel
theorem dL_law_99 : decode cL_law 99 = .ok (.invokestatic 89, 3) := by decide +kernel
theorem dL_law_102 : decode cL_law 102 = .ok (.lstore 8, 2) := by decide +kernel
theorem dL_law_104 : decode cL_law 104 = .ok (.aload_n 1, 1) := by decide +kernel
theorem dL_law_105 : decode cL_law 105 = .ok (.iload_n 3, 1) := by decide +kernel
theorem dL_law_106 : decode cL_law 106 = .ok (.iload 4, 2) := by decide +kernel
theorem dL_law_108 : decode cL_law 108 = .ok (.invokestatic 93, 3) := by decide +kernel
theorem dL_law_111 : decode cL_law 111 = .ok (.istore 10, 2) := by decide +kernel
theorem dL_law_113 : decode cL_law 113 = .ok (.aload_n 1, 1) := by decide +kernel
theorem dL_law_114 : decode cL_law 114 = .ok (.invokestatic 89, 3) := by decide +kernel
theorem dL_law_117 : decode cL_law 117 = .ok (.lstore 11, 2) := by decide +kernel
theorem dL_law_119 : decode cL_law 119 = .ok (.iload 10, 2) := by decide +kernel
theorem dL_law_121 : decode cL_law 121 = .ok (.bipush (-9), 2) := by decide +kernel
theorem dL_law_123 : decode cL_law 123 = .ok (.if_icmp .ne 25, 3) := by decide +kernel
theorem dL_law_126 : decode cL_law 126 = .ok (.lload 11, 2) := by decide +kernel
theorem dL_law_128 : decode cL_law 128 = .ok (.lload 8, 2) := by decide +kernel
theorem dL_law_130 : decode cL_law 130 = .ok (.lcmp, 1) := by decide +kernel
theorem dL_law_131 : decode cL_law 131 = .ok (.ifCond .ne 30, 3) := by decide +kernel
theorem dL_law_134 : decode cL_law 134 = .ok (.aload_n 1, 1) := by decide +kernel
theorem dL_law_135 : decode cL_law 135 = .ok (.bipush 9, 2) := by decide +kernel
theorem dL_law_137 : decode cL_law 137 = .ok (.invokevirtual 12, 3) := by decide +kernel
theorem dL_law_140 : decode cL_law 140 = .ok (.iload 5, 2) := by decide +kernel
theorem dL_law_142 : decode cL_law 142 = .ok (.if_icmp .eq 21, 3) := by decide +kernel
theorem dL_law_145 : decode cL_law 145 = .ok (.goto 16, 3) := by decide +kernel
theorem dL_law_148 : decode cL_law 148 = .ok (.aload_n 1, 1) := by decide +kernel
theorem dL_law_149 : decode cL_law 149 = .ok (.bipush 9, 2) := by decide +kernel
theorem dL_law_151 : decode cL_law 151 = .ok (.invokevirtual 12, 3) := by decide +kernel
theorem dL_law_154 : decode cL_law 154 = .ok (.iload 5, 2) := by decide +kernel
theorem dL_law_156 : decode cL_law 156 = .ok (.iconst 1, 1) := by decide +kernel
theorem dL_law_157 : decode cL_law 157 = .ok (.iadd, 1) := by decide +kernel
theorem dL_law_158 : decode cL_law 158 = .ok (.if_icmp .eq 5, 3) := by decide +kernel
theorem dL_law_161 : decode cL_law 161 = .ok (.iconst 0, 1) := by decide +kernel
theorem dL_law_162 : decode cL_law 162 = .ok (.ireturn, 1) := by decide +kernel
theorem dL_law_163 : decode cL_law 163 = .ok (.iload 7, 2) := by decide +kernel
theorem dL_law_165 : decode cL_law 165 = .ok (.ifCond .eq 16, 3) := by decide +kernel
theorem dL_law_168 : decode cL_law 168 = .ok (.aload_n 1, 1) := by decide +kernel
theorem dL_law_169 : decode cL_law 169 = .ok (.bipush 7, 2) := by decide +kernel
theorem dL_law_171 : decode cL_law 171 = .ok (.invokevirtual 12, 3) := by decide +kernel
theorem dL_law_174 : decode cL_law 174 = .ok (.iload 6, 2) := by decide +kernel
theorem dL_law_176 : decode cL_law 176 = .ok (.if_icmp .eq 5, 3) := by decide +kernel
theorem dL_law_179 : decode cL_law 179 = .ok (.iconst 0, 1) := by decide +kernel
theorem dL_law_180 : decode cL_law 180 = .ok (.ireturn, 1) := by decide +kernel
theorem dL_law_181 : decode cL_law 181 = .ok (.iload 10, 2) := by decide +kernel
theorem dL_law_183 : decode cL_law 183 = .ok (.bipush (-9), 2) := by decide +kernel
theorem dL_law_185 : decode cL_law 185 = .ok (.if_icmp .le 55, 3) := by decide +kernel
theorem dL_law_188 : decode cL_law 188 = .ok (.iload_n 3, 1) := by decide +kernel
theorem dL_law_189 : decode cL_law 189 = .ok (.bipush 8, 2) := by decide +kernel
theorem dL_law_191 : decode cL_law 191 = .ok (.ishr, 1) := by decide +kernel
theorem dL_law_192 : decode cL_law 192 = .ok (.iconst 1, 1) := by decide +kernel
theorem dL_law_193 : decode cL_law 193 = .ok (.iand, 1) := by decide +kernel
theorem dL_law_194 : decode cL_law 194 = .ok (.ifCond .ne 46, 3) := by decide +kernel
theorem dL_law_197 : decode cL_law 197 = .ok (.aload_n 1, 1) := by decide +kernel
theorem dL_law_198 : decode cL_law 198 = .ok (.invokevirtual 85, 3) := by decide +kernel
theorem dL_law_201 : decode cL_law 201 = .ok (.iload 5, 2) := by decide +kernel
theorem dL_law_203 : decode cL_law 203 = .ok (.if_icmp .ne 35, 3) := by decide +kernel
theorem dL_law_206 : decode cL_law 206 = .ok (.aload_n 1, 1) := by decide +kernel
theorem dL_law_207 : decode cL_law 207 = .ok (.invokestatic 89, 3) := by decide +kernel
theorem dL_law_210 : decode cL_law 210 = .ok (.lload 8, 2) := by decide +kernel
theorem dL_law_212 : decode cL_law 212 = .ok (.lcmp, 1) := by decide +kernel
theorem dL_law_213 : decode cL_law 213 = .ok (.ifCond .ne 25, 3) := by decide +kernel
theorem dL_law_216 : decode cL_law 216 = .ok (.aload_n 1, 1) := by decide +kernel
theorem dL_law_217 : decode cL_law 217 = .ok (.iload_n 3, 1) := by decide +kernel
theorem dL_law_218 : decode cL_law 218 = .ok (.iload 4, 2) := by decide +kernel
theorem dL_law_220 : decode cL_law 220 = .ok (.invokestatic 93, 3) := by decide +kernel
theorem dL_law_223 : decode cL_law 223 = .ok (.iload 10, 2) := by decide +kernel
theorem dL_law_225 : decode cL_law 225 = .ok (.if_icmp .ne 13, 3) := by decide +kernel
theorem dL_law_228 : decode cL_law 228 = .ok (.aload_n 1, 1) := by decide +kernel
theorem dL_law_229 : decode cL_law 229 = .ok (.invokestatic 89, 3) := by decide +kernel
theorem dL_law_232 : decode cL_law 232 = .ok (.lload 11, 2) := by decide +kernel
theorem dL_law_234 : decode cL_law 234 = .ok (.lcmp, 1) := by decide +kernel
theorem dL_law_235 : decode cL_law 235 = .ok (.ifCond .eq 5, 3) := by decide +kernel
theorem dL_law_238 : decode cL_law 238 = .ok (.iconst 0, 1) := by decide +kernel
theorem dL_law_239 : decode cL_law 239 = .ok (.ireturn, 1) := by decide +kernel
theorem dL_law_240 : decode cL_law 240 = .ok (.aload_n 1, 1) := by decide +kernel
theorem dL_law_241 : decode cL_law 241 = .ok (.iload 4, 2) := by decide +kernel
theorem dL_law_243 : decode cL_law 243 = .ok (.invokestatic 97, 3) := by decide +kernel
theorem dL_law_246 : decode cL_law 246 = .ok (.ifCond .ne 5, 3) := by decide +kernel
theorem dL_law_249 : decode cL_law 249 = .ok (.iconst 0, 1) := by decide +kernel
theorem dL_law_250 : decode cL_law 250 = .ok (.ireturn, 1) := by decide +kernel
theorem dL_law_251 : decode cL_law 251 = .ok (.iinc 2 1, 3) := by decide +kernel
theorem dL_law_254 : decode cL_law 254 = .ok (.goto (-244), 3) := by decide +kernel
theorem dL_law_257 : decode cL_law 257 = .ok (.iconst 1, 1) := by decide +kernel
theorem dL_law_258 : decode cL_law 258 = .ok (.ireturn, 1) := by decide +kernel
/-! ===== END printed: names (the pool part left out) ===== -/

