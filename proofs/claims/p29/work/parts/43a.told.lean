set_option maxRecDepth 20000 in
theorem ggL_told_X8_count : GoodIn wsL_told wsX8_count := goodIn_ca (goodIn_r _ [7, 8, 9, 10, 11, 6, 12, 13, 14, 15, 16, 17, 18, 19, 20, 21, 22, 23, 24, 25, 26, 27, 28, 29, 30, 31, 32, 33, 34, 35, 36, 37, 38, 39, 40, 41, 42, 43, 44, 45, 46, 47, 48, 49, 50, 51, 52, 53, 54, 55, 56, 57, 58, 59, 60, 61, 62, 63, 64, 65, 66, 67, 68, 69, 70, 71, 72, 73, 74, 75, 76, 77, 78, 79, 80, 81, 132, 133, 134, 135, 136, 137, 138, 139, 140, 141, 142, 143, 144, 145, 146, 147, 148, 149, 150, 151, 152, 153, 154, 155] (by decide +kernel) (by decide +kernel)) (goodIn_sub (fun _ h => List.mem_cons_of_mem _ (List.mem_append_left _ (List.mem_append_right _ h))) (by decide +kernel))
set_option maxRecDepth 20000 in
theorem gL_told_X8_count : GoodIn wsL_told (wsV RL 12 RX8 yX8_count wsX8_count) := goodIn_app (goodIn_of _ (by decide +kernel)) ggL_told_X8_count
set_option maxRecDepth 20000 in
theorem ggL_told_X8_rowOf : GoodIn wsL_told wsX8_rowOf := goodIn_ca (goodIn_ca (goodIn_r _ [85, 8, 9, 17, 86, 87, 88, 6, 89, 90, 91, 18, 19, 10, 11, 12, 92, 93, 94, 41, 95, 51, 65, 69, 71, 66, 74, 29, 30, 31, 32, 33, 96, 97, 98, 99, 61, 62, 63, 64, 67, 68, 70, 72, 73, 132, 133, 134, 135, 136, 137, 138, 139, 140, 141, 142, 143, 144, 145, 152, 153, 154, 155] (by decide +kernel) (by decide +kernel)) (goodIn_sub (fun _ h => List.mem_cons_of_mem _ (List.mem_append_left _ (List.mem_append_right _ h))) (by decide +kernel))) (goodIn_sub (fun _ h => List.mem_cons_of_mem _ (List.mem_append_right _ h)) (by decide +kernel))
set_option maxRecDepth 20000 in
theorem gL_told_X8_rowOf : GoodIn wsL_told (wsV RL 18 RX8 yX8_rowOf wsX8_rowOf) := goodIn_app (goodIn_of _ (by decide +kernel)) ggL_told_X8_rowOf
set_option maxRecDepth 20000 in
theorem ggL_told_X8_personOf : GoodIn wsL_told wsX8_personOf := goodIn_ca (goodIn_ca (goodIn_r _ [103, 8, 9, 17, 104, 105, 6, 106, 90, 91, 107, 108, 109, 10, 11, 12, 110, 111, 112, 41, 113, 67, 68, 70, 72, 114, 115, 116, 117, 118, 74, 29, 30, 31, 32, 33, 43, 44, 45, 46, 47, 48, 49, 50, 51, 52, 53, 54, 55, 56, 57, 58, 59, 60, 61, 62, 63, 64, 65, 66, 69, 71, 73, 75, 76, 77, 78, 79, 80, 81, 132, 133, 134, 135, 136, 137, 138, 139, 140, 153, 154, 155, 156, 157, 146, 147, 148, 152, 141, 142, 143, 144, 145] (by decide +kernel) (by decide +kernel)) (goodIn_sub (fun _ h => List.mem_cons_of_mem _ (List.mem_append_left _ (List.mem_append_right _ h))) (by decide +kernel))) (goodIn_sub (fun _ h => List.mem_cons_of_mem _ (List.mem_append_right _ h)) (by decide +kernel))
set_option maxRecDepth 20000 in
theorem gL_told_X8_personOf : GoodIn wsL_told (wsV RL 22 RX8 yX8_personOf wsX8_personOf) := goodIn_app (goodIn_of _ (by decide +kernel)) ggL_told_X8_personOf
set_option maxRecDepth 20000 in
theorem ggL_told_X8_remembered : GoodIn wsL_told wsX8_remembered := goodIn_ca (goodIn_ca (goodIn_r _ [122, 8, 9, 17, 123, 104, 105, 6, 106, 90, 91, 107, 108, 109, 10, 11, 12, 124, 125, 126, 127, 128, 129, 130, 131, 29, 30, 31, 32, 33, 132, 133, 134, 135, 136, 137, 138, 139, 140, 156, 157, 152] (by decide +kernel) (by decide +kernel)) (goodIn_sub (fun _ h => List.mem_cons_of_mem _ (List.mem_append_left _ (List.mem_append_right _ h))) (by decide +kernel))) (goodIn_sub (fun _ h => List.mem_cons_of_mem _ (List.mem_append_right _ h)) (by decide +kernel))
set_option maxRecDepth 20000 in
theorem gL_told_X8_remembered : GoodIn wsL_told (wsV RL 25 RX8 yX8_remembered wsX8_remembered) := goodIn_app (goodIn_of _ (by decide +kernel)) ggL_told_X8_remembered
theorem dL_told_0 : decode cL_told 0 = .ok (.ldc2_w 8, 3) := by decide +kernel
theorem dL_told_3 : decode cL_told 3 = .ok (.lstore_n 1, 1) := by decide +kernel
theorem dL_told_4 : decode cL_told 4 = .ok (.iconst 0, 1) := by decide +kernel
theorem dL_told_5 : decode cL_told 5 = .ok (.istore_n 3, 1) := by decide +kernel
theorem dL_told_6 : decode cL_told 6 = .ok (.iload_n 3, 1) := by decide +kernel
theorem dL_told_7 : decode cL_told 7 = .ok (.bipush 9, 2) := by decide +kernel
theorem dL_told_9 : decode cL_told 9 = .ok (.if_icmp .ge 22, 3) := by decide +kernel
theorem dL_told_12 : decode cL_told 12 = .ok (.ldc2_w 10, 3) := by decide +kernel
theorem dL_told_15 : decode cL_told 15 = .ok (.lload_n 1, 1) := by decide +kernel
theorem dL_told_16 : decode cL_told 16 = .ok (.lmul, 1) := by decide +kernel
theorem dL_told_17 : decode cL_told 17 = .ok (.aload_n 0, 1) := by decide +kernel
theorem dL_told_18 : decode cL_told 18 = .ok (.iload_n 3, 1) := by decide +kernel
theorem dL_told_19 : decode cL_told 19 = .ok (.invokevirtual 12, 3) := by decide +kernel
theorem dL_told_22 : decode cL_told 22 = .ok (.i2l, 1) := by decide +kernel
theorem dL_told_23 : decode cL_told 23 = .ok (.ladd, 1) := by decide +kernel
theorem dL_told_24 : decode cL_told 24 = .ok (.lstore_n 1, 1) := by decide +kernel
theorem dL_told_25 : decode cL_told 25 = .ok (.iinc 3 1, 3) := by decide +kernel
theorem dL_told_28 : decode cL_told 28 = .ok (.goto (-22), 3) := by decide +kernel
theorem dL_told_31 : decode cL_told 31 = .ok (.iconst 0, 1) := by decide +kernel
theorem dL_told_32 : decode cL_told 32 = .ok (.istore_n 3, 1) := by decide +kernel
theorem dL_told_33 : decode cL_told 33 = .ok (.iload_n 3, 1) := by decide +kernel
theorem dL_told_34 : decode cL_told 34 = .ok (.aload_n 0, 1) := by decide +kernel
theorem dL_told_35 : decode cL_told 35 = .ok (.iconst 0, 1) := by decide +kernel
theorem dL_told_36 : decode cL_told 36 = .ok (.invokevirtual 12, 3) := by decide +kernel
theorem dL_told_39 : decode cL_told 39 = .ok (.if_icmp .ge 39, 3) := by decide +kernel
theorem dL_told_42 : decode cL_told 42 = .ok (.iconst 0, 1) := by decide +kernel
theorem dL_told_43 : decode cL_told 43 = .ok (.istore 4, 2) := by decide +kernel
theorem dL_told_45 : decode cL_told 45 = .ok (.iload 4, 2) := by decide +kernel
theorem dL_told_47 : decode cL_told 47 = .ok (.iconst 5, 1) := by decide +kernel
theorem dL_told_48 : decode cL_told 48 = .ok (.if_icmp .ge 24, 3) := by decide +kernel
theorem dL_told_51 : decode cL_told 51 = .ok (.ldc2_w 10, 3) := by decide +kernel
theorem dL_told_54 : decode cL_told 54 = .ok (.lload_n 1, 1) := by decide +kernel
theorem dL_told_55 : decode cL_told 55 = .ok (.lmul, 1) := by decide +kernel
theorem dL_told_56 : decode cL_told 56 = .ok (.aload_n 0, 1) := by decide +kernel
theorem dL_told_57 : decode cL_told 57 = .ok (.iload_n 3, 1) := by decide +kernel
theorem dL_told_58 : decode cL_told 58 = .ok (.iload 4, 2) := by decide +kernel
theorem dL_told_60 : decode cL_told 60 = .ok (.invokevirtual 18, 3) := by decide +kernel
theorem dL_told_63 : decode cL_told 63 = .ok (.i2l, 1) := by decide +kernel
theorem dL_told_64 : decode cL_told 64 = .ok (.ladd, 1) := by decide +kernel
theorem dL_told_65 : decode cL_told 65 = .ok (.lstore_n 1, 1) := by decide +kernel
theorem dL_told_66 : decode cL_told 66 = .ok (.iinc 4 1, 3) := by decide +kernel
theorem dL_told_69 : decode cL_told 69 = .ok (.goto (-24), 3) := by decide +kernel
theorem dL_told_72 : decode cL_told 72 = .ok (.iinc 3 1, 3) := by decide +kernel
theorem dL_told_75 : decode cL_told 75 = .ok (.goto (-42), 3) := by decide +kernel
theorem dL_told_78 : decode cL_told 78 = .ok (.iconst 0, 1) := by decide +kernel
theorem dL_told_79 : decode cL_told 79 = .ok (.istore_n 3, 1) := by decide +kernel
theorem dL_told_80 : decode cL_told 80 = .ok (.iload_n 3, 1) := by decide +kernel
theorem dL_told_81 : decode cL_told 81 = .ok (.iconst 5, 1) := by decide +kernel
theorem dL_told_82 : decode cL_told 82 = .ok (.if_icmp .ge 71, 3) := by decide +kernel
theorem dL_told_85 : decode cL_told 85 = .ok (.iconst 0, 1) := by decide +kernel
theorem dL_told_86 : decode cL_told 86 = .ok (.istore 4, 2) := by decide +kernel
theorem dL_told_88 : decode cL_told 88 = .ok (.iload 4, 2) := by decide +kernel
theorem dL_told_90 : decode cL_told 90 = .ok (.bipush 8, 2) := by decide +kernel
theorem dL_told_92 : decode cL_told 92 = .ok (.if_icmp .ge 24, 3) := by decide +kernel
theorem dL_told_95 : decode cL_told 95 = .ok (.ldc2_w 10, 3) := by decide +kernel
theorem dL_told_98 : decode cL_told 98 = .ok (.lload_n 1, 1) := by decide +kernel
theorem dL_told_99 : decode cL_told 99 = .ok (.lmul, 1) := by decide +kernel
theorem dL_told_100 : decode cL_told 100 = .ok (.aload_n 0, 1) := by decide +kernel
theorem dL_told_101 : decode cL_told 101 = .ok (.iload_n 3, 1) := by decide +kernel
theorem dL_told_102 : decode cL_told 102 = .ok (.iload 4, 2) := by decide +kernel
theorem dL_told_104 : decode cL_told 104 = .ok (.invokevirtual 22, 3) := by decide +kernel
theorem dL_told_107 : decode cL_told 107 = .ok (.i2l, 1) := by decide +kernel
theorem dL_told_108 : decode cL_told 108 = .ok (.ladd, 1) := by decide +kernel
theorem dL_told_109 : decode cL_told 109 = .ok (.lstore_n 1, 1) := by decide +kernel
theorem dL_told_110 : decode cL_told 110 = .ok (.iinc 4 1, 3) := by decide +kernel
theorem dL_told_113 : decode cL_told 113 = .ok (.goto (-25), 3) := by decide +kernel
theorem dL_told_116 : decode cL_told 116 = .ok (.iconst 0, 1) := by decide +kernel
theorem dL_told_117 : decode cL_told 117 = .ok (.istore 4, 2) := by decide +kernel
theorem dL_told_119 : decode cL_told 119 = .ok (.iload 4, 2) := by decide +kernel
theorem dL_told_121 : decode cL_told 121 = .ok (.bipush 6, 2) := by decide +kernel
theorem dL_told_123 : decode cL_told 123 = .ok (.if_icmp .ge 24, 3) := by decide +kernel
theorem dL_told_126 : decode cL_told 126 = .ok (.ldc2_w 10, 3) := by decide +kernel
theorem dL_told_129 : decode cL_told 129 = .ok (.lload_n 1, 1) := by decide +kernel
theorem dL_told_130 : decode cL_told 130 = .ok (.lmul, 1) := by decide +kernel
theorem dL_told_131 : decode cL_told 131 = .ok (.aload_n 0, 1) := by decide +kernel
theorem dL_told_132 : decode cL_told 132 = .ok (.iload_n 3, 1) := by decide +kernel
theorem dL_told_133 : decode cL_told 133 = .ok (.iload 4, 2) := by decide +kernel
theorem dL_told_135 : decode cL_told 135 = .ok (.invokevirtual 25, 3) := by decide +kernel
theorem dL_told_138 : decode cL_told 138 = .ok (.i2l, 1) := by decide +kernel
theorem dL_told_139 : decode cL_told 139 = .ok (.ladd, 1) := by decide +kernel
theorem dL_told_140 : decode cL_told 140 = .ok (.lstore_n 1, 1) := by decide +kernel
theorem dL_told_141 : decode cL_told 141 = .ok (.iinc 4 1, 3) := by decide +kernel
theorem dL_told_144 : decode cL_told 144 = .ok (.goto (-25), 3) := by decide +kernel
theorem dL_told_147 : decode cL_told 147 = .ok (.iinc 3 1, 3) := by decide +kernel
theorem dL_told_150 : decode cL_told 150 = .ok (.goto (-70), 3) := by decide +kernel
theorem dL_told_153 : decode cL_told 153 = .ok (.lload_n 1, 1) := by decide +kernel
theorem dL_told_154 : decode cL_told 154 = .ok (.lreturn, 1) := by decide +kernel
