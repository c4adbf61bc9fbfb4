set_option maxRecDepth 20000 in
theorem ggL_holds_X8_count : GoodIn wsL_holds wsX8_count := goodIn_ca (goodIn_r _ [5, 6, 7, 8, 9, 4, 10, 11, 12, 13, 14, 15, 16, 17, 18, 19, 20, 21, 22, 23, 24, 25, 26, 27, 28, 29, 30, 31, 32, 33, 34, 35, 36, 37, 38, 39, 40, 41, 42, 43, 44, 45, 46, 47, 48, 49, 50, 51, 52, 53, 54, 55, 56, 57, 58, 59, 60, 61, 62, 63, 64, 65, 66, 67, 68, 69, 70, 71, 72, 73, 74, 75, 76, 77, 78, 79, 214, 215, 216, 217, 218, 219, 220, 221, 222, 223, 224, 225, 226, 227, 228, 229, 230, 231, 232, 233, 234, 235, 236, 237] (by decide +kernel) (by decide +kernel)) (goodIn_sub (fun _ h => List.mem_cons_of_mem _ (List.mem_append_left _ (List.mem_append_right _ h))) (by decide +kernel))
set_option maxRecDepth 20000 in
theorem gL_holds_X8_count : GoodIn wsL_holds (wsV RL 12 RX8 yX8_count wsX8_count) := goodIn_app (goodIn_of _ (by decide +kernel)) ggL_holds_X8_count
set_option maxRecDepth 20000 in
theorem ggL_holds_L_low : GoodIn wsL_holds wsL_low := goodIn_r _ [83, 84] (by decide +kernel) (by decide +kernel)
set_option maxRecDepth 20000 in
theorem gL_holds_L_low : GoodIn wsL_holds (va_wsS RL 28 yL_low wsL_low) := goodIn_app (goodIn_of _ (by decide +kernel)) ggL_holds_L_low
set_option maxRecDepth 20000 in
theorem ggL_holds_X8_personOf : GoodIn wsL_holds wsX8_personOf := goodIn_ca (goodIn_ca (goodIn_r _ [88, 6, 7, 15, 89, 90, 4, 91, 92, 93, 94, 95, 96, 8, 9, 10, 97, 98, 99, 39, 100, 65, 66, 68, 70, 101, 102, 103, 104, 105, 72, 27, 28, 29, 30, 31, 41, 42, 43, 44, 45, 46, 47, 48, 49, 50, 51, 52, 53, 54, 55, 56, 57, 58, 59, 60, 61, 62, 63, 64, 67, 69, 71, 73, 74, 75, 76, 77, 78, 79, 214, 215, 216, 217, 218, 219, 220, 221, 222, 235, 236, 237, 238, 239, 228, 229, 230, 234, 223, 224, 225, 226, 227] (by decide +kernel) (by decide +kernel)) (goodIn_sub (fun _ h => List.mem_cons_of_mem _ (List.mem_append_left _ (List.mem_append_right _ h))) (by decide +kernel))) (goodIn_sub (fun _ h => List.mem_cons_of_mem _ (List.mem_append_right _ h)) (by decide +kernel))
set_option maxRecDepth 20000 in
theorem gL_holds_X8_personOf : GoodIn wsL_holds (wsV RL 22 RX8 yX8_personOf wsX8_personOf) := goodIn_app (goodIn_of _ (by decide +kernel)) ggL_holds_X8_personOf
set_option maxRecDepth 20000 in
theorem ggL_holds_X8_veils : GoodIn wsL_holds wsX8_veils := goodIn_ca (goodIn_r _ [109, 15, 89, 90, 4, 91, 92, 93, 94, 95, 96, 8, 9, 10, 110, 111, 112, 113, 16, 17, 114, 60, 61, 39, 62, 49, 63, 64, 65, 66, 67, 68, 69, 70, 71, 72, 27, 28, 29, 30, 31, 214, 215, 216, 217, 218, 219, 220, 221, 222, 223, 224, 225, 226, 227, 235, 236, 237, 234] (by decide +kernel) (by decide +kernel)) (goodIn_sub (fun _ h => List.mem_cons_of_mem _ (List.mem_append_right _ h)) (by decide +kernel))
set_option maxRecDepth 20000 in
theorem gL_holds_X8_veils : GoodIn wsL_holds (wsV RL 66 RX8 yX8_veils wsX8_veils) := goodIn_app (goodIn_of _ (by decide +kernel)) ggL_holds_X8_veils
set_option maxRecDepth 20000 in
theorem ggL_holds_X8_rowOf : GoodIn wsL_holds wsX8_rowOf := goodIn_ca (goodIn_ca (goodIn_r _ [118, 6, 7, 15, 110, 111, 112, 4, 113, 92, 93, 16, 17, 8, 9, 10, 119, 120, 121, 39, 122, 49, 63, 67, 69, 64, 72, 27, 28, 29, 30, 31, 123, 124, 125, 126, 59, 60, 61, 62, 65, 66, 68, 70, 71, 214, 215, 216, 217, 218, 219, 220, 221, 222, 223, 224, 225, 226, 227, 234, 235, 236, 237] (by decide +kernel) (by decide +kernel)) (goodIn_sub (fun _ h => List.mem_cons_of_mem _ (List.mem_append_left _ (List.mem_append_right _ h))) (by decide +kernel))) (goodIn_sub (fun _ h => List.mem_cons_of_mem _ (List.mem_append_right _ h)) (by decide +kernel))
set_option maxRecDepth 20000 in
theorem gL_holds_X8_rowOf : GoodIn wsL_holds (wsV RL 18 RX8 yX8_rowOf wsX8_rowOf) := goodIn_app (goodIn_of _ (by decide +kernel)) ggL_holds_X8_rowOf
set_option maxRecDepth 20000 in
theorem ggL_holds_X8_ifAsked : GoodIn wsL_holds wsX8_ifAsked := goodIn_ca (goodIn_ca (goodIn_r _ [130, 6, 7, 131, 132, 4, 133, 92, 93, 94, 95, 96, 8, 9, 10, 134, 135, 136, 137, 138, 139, 140, 141, 142, 143, 144, 145, 146, 15, 16, 147, 148, 149, 150, 54, 151, 152, 153, 52, 53, 55, 56, 57, 58, 27, 28, 29, 30, 31, 154, 46, 47, 39, 48, 49, 50, 51, 59, 60, 61, 62, 63, 64, 65, 66, 67, 68, 69, 70, 71, 72, 155, 156, 157, 158, 159, 101, 160, 161, 162, 163, 73, 74, 75, 76, 77, 78, 79, 164, 165, 166, 167, 168, 169, 170, 171, 172, 173, 174, 175, 176, 177, 178, 179, 180, 181, 182, 183, 184, 185, 186, 187, 188, 214, 215, 216, 217, 218, 219, 220, 221, 222, 223, 224, 225, 226, 227, 234, 235, 236, 237, 238, 239] (by decide +kernel) (by decide +kernel)) (goodIn_sub (fun _ h => List.mem_cons_of_mem _ (List.mem_append_left _ (List.mem_append_right _ h))) (by decide +kernel))) (goodIn_sub (fun _ h => List.mem_cons_of_mem _ (List.mem_append_right _ h)) (by decide +kernel))
set_option maxRecDepth 20000 in
theorem gL_holds_X8_ifAsked : GoodIn wsL_holds (wsV RL 69 RX8 yX8_ifAsked wsX8_ifAsked) := goodIn_app (goodIn_of _ (by decide +kernel)) ggL_holds_X8_ifAsked
set_option maxRecDepth 20000 in
theorem ggL_holds_X8_remembered : GoodIn wsL_holds wsX8_remembered := goodIn_ca (goodIn_ca (goodIn_r _ [192, 6, 7, 15, 147, 89, 90, 4, 91, 92, 93, 94, 95, 96, 8, 9, 10, 193, 172, 173, 167, 174, 169, 175, 170, 27, 28, 29, 30, 31, 214, 215, 216, 217, 218, 219, 220, 221, 222, 238, 239, 234] (by decide +kernel) (by decide +kernel)) (goodIn_sub (fun _ h => List.mem_cons_of_mem _ (List.mem_append_left _ (List.mem_append_right _ h))) (by decide +kernel))) (goodIn_sub (fun _ h => List.mem_cons_of_mem _ (List.mem_append_right _ h)) (by decide +kernel))
set_option maxRecDepth 20000 in
theorem gL_holds_X8_remembered : GoodIn wsL_holds (wsV RL 25 RX8 yX8_remembered wsX8_remembered) := goodIn_app (goodIn_of _ (by decide +kernel)) ggL_holds_X8_remembered
set_option maxRecDepth 20000 in
theorem ggL_holds_X8_hides : GoodIn wsL_holds wsX8_hides := goodIn_ca (goodIn_r _ [197, 15, 198, 199, 4, 200, 92, 93, 8, 9, 10, 201, 202, 203, 39, 204, 49, 50, 59, 60, 61, 62, 63, 64, 65, 66, 67, 68, 69, 70, 71, 72, 27, 28, 29, 30, 31, 214, 215, 216, 217, 218, 219, 220, 221, 222, 223, 224, 225, 226, 227, 235, 236, 237, 234] (by decide +kernel) (by decide +kernel)) (goodIn_sub (fun _ h => List.mem_cons_of_mem _ (List.mem_append_right _ h)) (by decide +kernel))
set_option maxRecDepth 20000 in
theorem gL_holds_X8_hides : GoodIn wsL_holds (wsV RL 73 RX8 yX8_hides wsX8_hides) := goodIn_app (goodIn_of _ (by decide +kernel)) ggL_holds_X8_hides
set_option maxRecDepth 20000 in
theorem ggL_holds_X8_openness : GoodIn wsL_holds wsX8_openness := goodIn_r _ [208, 15, 209, 210, 211, 39, 212, 49, 50, 213, 37, 38, 40, 41, 42, 43, 44, 45, 46, 47, 48, 51, 52, 53, 54, 55, 56, 57, 58, 27, 28, 29, 30, 31, 59, 60, 61, 62, 63, 64, 65, 66, 67, 68, 69, 70, 71, 72, 73, 74, 75, 76, 77, 78, 79, 214, 215, 216, 217, 218, 219, 220, 221, 222, 223, 224, 225, 226, 227, 234, 235, 236, 237] (by decide +kernel) (by decide +kernel)
set_option maxRecDepth 20000 in
theorem gL_holds_X8_openness : GoodIn wsL_holds (wsV RL 76 RX8 yX8_openness wsX8_openness) := goodIn_app (goodIn_of _ (by decide +kernel)) ggL_holds_X8_openness
theorem dL_holds_0 : decode cL_holds 0 = .ok (.aload_n 0, 1) := by decide +kernel
theorem dL_holds_1 : decode cL_holds 1 = .ok (.iconst 0, 1) := by decide +kernel
theorem dL_holds_2 : decode cL_holds 2 = .ok (.invokevirtual 12, 3) := by decide +kernel
theorem dL_holds_5 : decode cL_holds 5 = .ok (.istore_n 2, 1) := by decide +kernel
theorem dL_holds_6 : decode cL_holds 6 = .ok (.iload_n 1, 1) := by decide +kernel
theorem dL_holds_7 : decode cL_holds 7 = .ok (.iconst 5, 1) := by decide +kernel
theorem dL_holds_8 : decode cL_holds 8 = .ok (.invokestatic 28, 3) := by decide +kernel
theorem dL_holds_11 : decode cL_holds 11 = .ok (.istore_n 3, 1) := by decide +kernel
theorem dL_holds_12 : decode cL_holds 12 = .ok (.iload_n 1, 1) := by decide +kernel
theorem dL_holds_13 : decode cL_holds 13 = .ok (.iconst 3, 1) := by decide +kernel
theorem dL_holds_14 : decode cL_holds 14 = .ok (.ishr, 1) := by decide +kernel
theorem dL_holds_15 : decode cL_holds 15 = .ok (.iconst 5, 1) := by decide +kernel
theorem dL_holds_16 : decode cL_holds 16 = .ok (.invokestatic 28, 3) := by decide +kernel
theorem dL_holds_19 : decode cL_holds 19 = .ok (.iconst 1, 1) := by decide +kernel
theorem dL_holds_20 : decode cL_holds 20 = .ok (.isub, 1) := by decide +kernel
theorem dL_holds_21 : decode cL_holds 21 = .ok (.istore 4, 2) := by decide +kernel
theorem dL_holds_23 : decode cL_holds 23 = .ok (.iload_n 1, 1) := by decide +kernel
theorem dL_holds_24 : decode cL_holds 24 = .ok (.bipush 6, 2) := by decide +kernel
theorem dL_holds_26 : decode cL_holds 26 = .ok (.ishr, 1) := by decide +kernel
theorem dL_holds_27 : decode cL_holds 27 = .ok (.bipush 60, 2) := by decide +kernel
theorem dL_holds_29 : decode cL_holds 29 = .ok (.invokestatic 28, 3) := by decide +kernel
theorem dL_holds_32 : decode cL_holds 32 = .ok (.istore 5, 2) := by decide +kernel
theorem dL_holds_34 : decode cL_holds 34 = .ok (.iconst 0, 1) := by decide +kernel
theorem dL_holds_35 : decode cL_holds 35 = .ok (.istore 6, 2) := by decide +kernel
theorem dL_holds_37 : decode cL_holds 37 = .ok (.iconst 0, 1) := by decide +kernel
theorem dL_holds_38 : decode cL_holds 38 = .ok (.istore 7, 2) := by decide +kernel
theorem dL_holds_40 : decode cL_holds 40 = .ok (.iload 7, 2) := by decide +kernel
theorem dL_holds_42 : decode cL_holds 42 = .ok (.iload_n 2, 1) := by decide +kernel
theorem dL_holds_43 : decode cL_holds 43 = .ok (.if_icmp .ge 170, 3) := by decide +kernel
theorem dL_holds_46 : decode cL_holds 46 = .ok (.aload_n 0, 1) := by decide +kernel
theorem dL_holds_47 : decode cL_holds 47 = .ok (.iload_n 3, 1) := by decide +kernel
theorem dL_holds_48 : decode cL_holds 48 = .ok (.iconst 4, 1) := by decide +kernel
theorem dL_holds_49 : decode cL_holds 49 = .ok (.invokevirtual 22, 3) := by decide +kernel
theorem dL_holds_52 : decode cL_holds 52 = .ok (.iload 7, 2) := by decide +kernel
theorem dL_holds_54 : decode cL_holds 54 = .ok (.ishr, 1) := by decide +kernel
theorem dL_holds_55 : decode cL_holds 55 = .ok (.iconst 1, 1) := by decide +kernel
theorem dL_holds_56 : decode cL_holds 56 = .ok (.iand, 1) := by decide +kernel
theorem dL_holds_57 : decode cL_holds 57 = .ok (.iconst 1, 1) := by decide +kernel
theorem dL_holds_58 : decode cL_holds 58 = .ok (.if_icmp .ne 7, 3) := by decide +kernel
theorem dL_holds_61 : decode cL_holds 61 = .ok (.iconst 1, 1) := by decide +kernel
theorem dL_holds_62 : decode cL_holds 62 = .ok (.goto 4, 3) := by decide +kernel
theorem dL_holds_65 : decode cL_holds 65 = .ok (.iconst 0, 1) := by decide +kernel
theorem dL_holds_66 : decode cL_holds 66 = .ok (.istore 8, 2) := by decide +kernel
theorem dL_holds_68 : decode cL_holds 68 = .ok (.aload_n 0, 1) := by decide +kernel
theorem dL_holds_69 : decode cL_holds 69 = .ok (.iload_n 3, 1) := by decide +kernel
theorem dL_holds_70 : decode cL_holds 70 = .ok (.iload 7, 2) := by decide +kernel
theorem dL_holds_72 : decode cL_holds 72 = .ok (.invokevirtual 66, 3) := by decide +kernel
theorem dL_holds_75 : decode cL_holds 75 = .ok (.istore 9, 2) := by decide +kernel
theorem dL_holds_77 : decode cL_holds 77 = .ok (.iload 6, 2) := by decide +kernel
theorem dL_holds_79 : decode cL_holds 79 = .ok (.iload 8, 2) := by decide +kernel
theorem dL_holds_81 : decode cL_holds 81 = .ok (.ifCond .eq 36, 3) := by decide +kernel
theorem dL_holds_84 : decode cL_holds 84 = .ok (.iload 4, 2) := by decide +kernel
theorem dL_holds_86 : decode cL_holds 86 = .ok (.ifCond .lt 15, 3) := by decide +kernel
theorem dL_holds_89 : decode cL_holds 89 = .ok (.aload_n 0, 1) := by decide +kernel
theorem dL_holds_90 : decode cL_holds 90 = .ok (.iload 7, 2) := by decide +kernel
theorem dL_holds_92 : decode cL_holds 92 = .ok (.iconst 1, 1) := by decide +kernel
theorem dL_holds_93 : decode cL_holds 93 = .ok (.invokevirtual 18, 3) := by decide +kernel
theorem dL_holds_96 : decode cL_holds 96 = .ok (.iload 4, 2) := by decide +kernel
theorem dL_holds_98 : decode cL_holds 98 = .ok (.if_icmp .ne 19, 3) := by decide +kernel
theorem dL_holds_101 : decode cL_holds 101 = .ok (.aload_n 0, 1) := by decide +kernel
theorem dL_holds_102 : decode cL_holds 102 = .ok (.iload 7, 2) := by decide +kernel
theorem dL_holds_104 : decode cL_holds 104 = .ok (.iconst 2, 1) := by decide +kernel
theorem dL_holds_105 : decode cL_holds 105 = .ok (.invokevirtual 18, 3) := by decide +kernel
theorem dL_holds_108 : decode cL_holds 108 = .ok (.iload 5, 2) := by decide +kernel
theorem dL_holds_110 : decode cL_holds 110 = .ok (.if_icmp .lt 7, 3) := by decide +kernel
theorem dL_holds_113 : decode cL_holds 113 = .ok (.iconst 1, 1) := by decide +kernel
theorem dL_holds_114 : decode cL_holds 114 = .ok (.goto 4, 3) := by decide +kernel
theorem dL_holds_117 : decode cL_holds 117 = .ok (.iconst 0, 1) := by decide +kernel
theorem dL_holds_118 : decode cL_holds 118 = .ok (.iadd, 1) := by decide +kernel
theorem dL_holds_119 : decode cL_holds 119 = .ok (.istore 6, 2) := by decide +kernel
theorem dL_holds_121 : decode cL_holds 121 = .ok (.aload_n 0, 1) := by decide +kernel
theorem dL_holds_122 : decode cL_holds 122 = .ok (.iload 7, 2) := by decide +kernel
theorem dL_holds_124 : decode cL_holds 124 = .ok (.iconst 0, 1) := by decide +kernel
theorem dL_holds_125 : decode cL_holds 125 = .ok (.invokevirtual 18, 3) := by decide +kernel
theorem dL_holds_128 : decode cL_holds 128 = .ok (.iload_n 3, 1) := by decide +kernel
theorem dL_holds_129 : decode cL_holds 129 = .ok (.if_icmp .ne 7, 3) := by decide +kernel
theorem dL_holds_132 : decode cL_holds 132 = .ok (.iconst 1, 1) := by decide +kernel
theorem dL_holds_133 : decode cL_holds 133 = .ok (.goto 4, 3) := by decide +kernel
theorem dL_holds_136 : decode cL_holds 136 = .ok (.iconst 0, 1) := by decide +kernel
theorem dL_holds_137 : decode cL_holds 137 = .ok (.istore 10, 2) := by decide +kernel
theorem dL_holds_139 : decode cL_holds 139 = .ok (.iload 8, 2) := by decide +kernel
theorem dL_holds_141 : decode cL_holds 141 = .ok (.iload 9, 2) := by decide +kernel
theorem dL_holds_143 : decode cL_holds 143 = .ok (.ifCond .ne 7, 3) := by decide +kernel
theorem dL_holds_146 : decode cL_holds 146 = .ok (.iconst 1, 1) := by decide +kernel
theorem dL_holds_147 : decode cL_holds 147 = .ok (.goto 4, 3) := by decide +kernel
theorem dL_holds_150 : decode cL_holds 150 = .ok (.iconst 0, 1) := by decide +kernel
theorem dL_holds_151 : decode cL_holds 151 = .ok (.if_icmp .ne 54, 3) := by decide +kernel
theorem dL_holds_154 : decode cL_holds 154 = .ok (.iload 8, 2) := by decide +kernel
theorem dL_holds_156 : decode cL_holds 156 = .ok (.aload_n 0, 1) := by decide +kernel
theorem dL_holds_157 : decode cL_holds 157 = .ok (.iload 7, 2) := by decide +kernel
theorem dL_holds_159 : decode cL_holds 159 = .ok (.iconst 4, 1) := by decide +kernel
theorem dL_holds_160 : decode cL_holds 160 = .ok (.invokevirtual 18, 3) := by decide +kernel
theorem dL_holds_163 : decode cL_holds 163 = .ok (.iload_n 3, 1) := by decide +kernel
theorem dL_holds_164 : decode cL_holds 164 = .ok (.ishr, 1) := by decide +kernel
theorem dL_holds_165 : decode cL_holds 165 = .ok (.iconst 1, 1) := by decide +kernel
theorem dL_holds_166 : decode cL_holds 166 = .ok (.iand, 1) := by decide +kernel
theorem dL_holds_167 : decode cL_holds 167 = .ok (.iconst 1, 1) := by decide +kernel
theorem dL_holds_168 : decode cL_holds 168 = .ok (.if_icmp .ne 7, 3) := by decide +kernel
theorem dL_holds_171 : decode cL_holds 171 = .ok (.iconst 1, 1) := by decide +kernel
theorem dL_holds_172 : decode cL_holds 172 = .ok (.goto 4, 3) := by decide +kernel
theorem dL_holds_175 : decode cL_holds 175 = .ok (.iconst 0, 1) := by decide +kernel
theorem dL_holds_176 : decode cL_holds 176 = .ok (.if_icmp .ne 29, 3) := by decide +kernel
theorem dL_holds_179 : decode cL_holds 179 = .ok (.iload 10, 2) := by decide +kernel
theorem dL_holds_181 : decode cL_holds 181 = .ok (.ifCond .eq 8, 3) := by decide +kernel
theorem dL_holds_184 : decode cL_holds 184 = .ok (.iload 9, 2) := by decide +kernel
theorem dL_holds_186 : decode cL_holds 186 = .ok (.ifCond .ne 19, 3) := by decide +kernel
theorem dL_holds_189 : decode cL_holds 189 = .ok (.iload 9, 2) := by decide +kernel
theorem dL_holds_191 : decode cL_holds 191 = .ok (.aload_n 0, 1) := by decide +kernel
theorem dL_holds_192 : decode cL_holds 192 = .ok (.iconst 1, 1) := by decide +kernel
theorem dL_holds_193 : decode cL_holds 193 = .ok (.invokevirtual 12, 3) := by decide +kernel
theorem dL_holds_196 : decode cL_holds 196 = .ok (.ior, 1) := by decide +kernel
theorem dL_holds_197 : decode cL_holds 197 = .ok (.aload_n 0, 1) := by decide +kernel
theorem dL_holds_198 : decode cL_holds 198 = .ok (.iconst 1, 1) := by decide +kernel
theorem dL_holds_199 : decode cL_holds 199 = .ok (.invokevirtual 12, 3) := by decide +kernel
theorem dL_holds_202 : decode cL_holds 202 = .ok (.if_icmp .eq 5, 3) := by decide +kernel
theorem dL_holds_205 : decode cL_holds 205 = .ok (.iconst 0, 1) := by decide +kernel
theorem dL_holds_206 : decode cL_holds 206 = .ok (.ireturn, 1) := by decide +kernel
theorem dL_holds_207 : decode cL_holds 207 = .ok (.iinc 7 1, 3) := by decide +kernel
theorem dL_holds_210 : decode cL_holds 210 = .ok (.goto (-170), 3) := by decide +kernel
theorem dL_holds_213 : decode cL_holds 213 = .ok (.aload_n 0, 1) := by decide +kernel
theorem dL_holds_214 : decode cL_holds 214 = .ok (.iload_n 3, 1) := by decide +kernel
theorem dL_holds_215 : decode cL_holds 215 = .ok (.iload 4, 2) := by decide +kernel
theorem dL_holds_217 : decode cL_holds 217 = .ok (.iload 5, 2) := by decide +kernel
theorem dL_holds_219 : decode cL_holds 219 = .ok (.bipush 99, 2) := by decide +kernel
theorem dL_holds_221 : decode cL_holds 221 = .ok (.iconst 0, 1) := by decide +kernel
theorem dL_holds_222 : decode cL_holds 222 = .ok (.invokevirtual 69, 3) := by decide +kernel
theorem dL_holds_225 : decode cL_holds 225 = .ok (.istore 7, 2) := by decide +kernel
theorem dL_holds_227 : decode cL_holds 227 = .ok (.iconst 0, 1) := by decide +kernel
theorem dL_holds_228 : decode cL_holds 228 = .ok (.istore 8, 2) := by decide +kernel
theorem dL_holds_230 : decode cL_holds 230 = .ok (.iconst 0, 1) := by decide +kernel
theorem dL_holds_231 : decode cL_holds 231 = .ok (.istore 9, 2) := by decide +kernel
theorem dL_holds_233 : decode cL_holds 233 = .ok (.iconst 0, 1) := by decide +kernel
theorem dL_holds_234 : decode cL_holds 234 = .ok (.istore 10, 2) := by decide +kernel
theorem dL_holds_236 : decode cL_holds 236 = .ok (.iconst 0, 1) := by decide +kernel
theorem dL_holds_237 : decode cL_holds 237 = .ok (.istore 11, 2) := by decide +kernel
theorem dL_holds_239 : decode cL_holds 239 = .ok (.iload 11, 2) := by decide +kernel
theorem dL_holds_241 : decode cL_holds 241 = .ok (.iconst 5, 1) := by decide +kernel
theorem dL_holds_242 : decode cL_holds 242 = .ok (.if_icmp .ge 109, 3) := by decide +kernel
theorem dL_holds_245 : decode cL_holds 245 = .ok (.iload 8, 2) := by decide +kernel
theorem dL_holds_247 : decode cL_holds 247 = .ok (.aload_n 0, 1) := by decide +kernel
theorem dL_holds_248 : decode cL_holds 248 = .ok (.iload 11, 2) := by decide +kernel
theorem dL_holds_250 : decode cL_holds 250 = .ok (.bipush 6, 2) := by decide +kernel
theorem dL_holds_252 : decode cL_holds 252 = .ok (.invokevirtual 22, 3) := by decide +kernel
theorem dL_holds_255 : decode cL_holds 255 = .ok (.iadd, 1) := by decide +kernel
theorem dL_holds_256 : decode cL_holds 256 = .ok (.istore 8, 2) := by decide +kernel
theorem dL_holds_258 : decode cL_holds 258 = .ok (.iload 9, 2) := by decide +kernel
theorem dL_holds_260 : decode cL_holds 260 = .ok (.aload_n 0, 1) := by decide +kernel
theorem dL_holds_261 : decode cL_holds 261 = .ok (.iload 11, 2) := by decide +kernel
theorem dL_holds_263 : decode cL_holds 263 = .ok (.bipush 7, 2) := by decide +kernel
theorem dL_holds_265 : decode cL_holds 265 = .ok (.invokevirtual 22, 3) := by decide +kernel
theorem dL_holds_268 : decode cL_holds 268 = .ok (.iadd, 1) := by decide +kernel
theorem dL_holds_269 : decode cL_holds 269 = .ok (.istore 9, 2) := by decide +kernel
theorem dL_holds_271 : decode cL_holds 271 = .ok (.iload 10, 2) := by decide +kernel
theorem dL_holds_273 : decode cL_holds 273 = .ok (.aload_n 0, 1) := by decide +kernel
theorem dL_holds_274 : decode cL_holds 274 = .ok (.iload 11, 2) := by decide +kernel
theorem dL_holds_276 : decode cL_holds 276 = .ok (.iconst 3, 1) := by decide +kernel
theorem dL_holds_277 : decode cL_holds 277 = .ok (.invokevirtual 22, 3) := by decide +kernel
theorem dL_holds_280 : decode cL_holds 280 = .ok (.iadd, 1) := by decide +kernel
theorem dL_holds_281 : decode cL_holds 281 = .ok (.istore 10, 2) := by decide +kernel
theorem dL_holds_283 : decode cL_holds 283 = .ok (.aload_n 0, 1) := by decide +kernel
theorem dL_holds_284 : decode cL_holds 284 = .ok (.iload 11, 2) := by decide +kernel
theorem dL_holds_286 : decode cL_holds 286 = .ok (.iconst 5, 1) := by decide +kernel
theorem dL_holds_287 : decode cL_holds 287 = .ok (.invokevirtual 22, 3) := by decide +kernel
theorem dL_holds_290 : decode cL_holds 290 = .ok (.istore 12, 2) := by decide +kernel
theorem dL_holds_292 : decode cL_holds 292 = .ok (.iload 12, 2) := by decide +kernel
theorem dL_holds_294 : decode cL_holds 294 = .ok (.bipush 6, 2) := by decide +kernel
theorem dL_holds_296 : decode cL_holds 296 = .ok (.if_icmp .gt 47, 3) := by decide +kernel
theorem dL_holds_299 : decode cL_holds 299 = .ok (.iload 12, 2) := by decide +kernel
theorem dL_holds_301 : decode cL_holds 301 = .ok (.ifCond .le 17, 3) := by decide +kernel
theorem dL_holds_304 : decode cL_holds 304 = .ok (.aload_n 0, 1) := by decide +kernel
theorem dL_holds_305 : decode cL_holds 305 = .ok (.iload 11, 2) := by decide +kernel
theorem dL_holds_307 : decode cL_holds 307 = .ok (.iload 12, 2) := by decide +kernel
theorem dL_holds_309 : decode cL_holds 309 = .ok (.iconst 1, 1) := by decide +kernel
theorem dL_holds_310 : decode cL_holds 310 = .ok (.isub, 1) := by decide +kernel
theorem dL_holds_311 : decode cL_holds 311 = .ok (.invokevirtual 25, 3) := by decide +kernel
theorem dL_holds_314 : decode cL_holds 314 = .ok (.iconst (-1), 1) := by decide +kernel
theorem dL_holds_315 : decode cL_holds 315 = .ok (.if_icmp .eq 28, 3) := by decide +kernel
theorem dL_holds_318 : decode cL_holds 318 = .ok (.aload_n 0, 1) := by decide +kernel
theorem dL_holds_319 : decode cL_holds 319 = .ok (.iload 11, 2) := by decide +kernel
theorem dL_holds_321 : decode cL_holds 321 = .ok (.iload 12, 2) := by decide +kernel
theorem dL_holds_323 : decode cL_holds 323 = .ok (.invokevirtual 25, 3) := by decide +kernel
theorem dL_holds_326 : decode cL_holds 326 = .ok (.iconst (-1), 1) := by decide +kernel
theorem dL_holds_327 : decode cL_holds 327 = .ok (.if_icmp .ne 16, 3) := by decide +kernel
theorem dL_holds_330 : decode cL_holds 330 = .ok (.aload_n 0, 1) := by decide +kernel
theorem dL_holds_331 : decode cL_holds 331 = .ok (.iload 11, 2) := by decide +kernel
theorem dL_holds_333 : decode cL_holds 333 = .ok (.iconst 0, 1) := by decide +kernel
theorem dL_holds_334 : decode cL_holds 334 = .ok (.invokevirtual 25, 3) := by decide +kernel
theorem dL_holds_337 : decode cL_holds 337 = .ok (.iconst 1, 1) := by decide +kernel
theorem dL_holds_338 : decode cL_holds 338 = .ok (.iload_n 2, 1) := by decide +kernel
theorem dL_holds_339 : decode cL_holds 339 = .ok (.ishl, 1) := by decide +kernel
theorem dL_holds_340 : decode cL_holds 340 = .ok (.if_icmp .lt 5, 3) := by decide +kernel
theorem dL_holds_343 : decode cL_holds 343 = .ok (.iconst 0, 1) := by decide +kernel
theorem dL_holds_344 : decode cL_holds 344 = .ok (.ireturn, 1) := by decide +kernel
theorem dL_holds_345 : decode cL_holds 345 = .ok (.iinc 11 1, 3) := by decide +kernel
theorem dL_holds_348 : decode cL_holds 348 = .ok (.goto (-109), 3) := by decide +kernel
theorem dL_holds_351 : decode cL_holds 351 = .ok (.aload_n 0, 1) := by decide +kernel
theorem dL_holds_352 : decode cL_holds 352 = .ok (.iconst 0, 1) := by decide +kernel
theorem dL_holds_353 : decode cL_holds 353 = .ok (.invokevirtual 73, 3) := by decide +kernel
theorem dL_holds_356 : decode cL_holds 356 = .ok (.aload_n 0, 1) := by decide +kernel
theorem dL_holds_357 : decode cL_holds 357 = .ok (.iconst 1, 1) := by decide +kernel
theorem dL_holds_358 : decode cL_holds 358 = .ok (.invokevirtual 73, 3) := by decide +kernel
theorem dL_holds_361 : decode cL_holds 361 = .ok (.iadd, 1) := by decide +kernel
theorem dL_holds_362 : decode cL_holds 362 = .ok (.aload_n 0, 1) := by decide +kernel
theorem dL_holds_363 : decode cL_holds 363 = .ok (.iconst 2, 1) := by decide +kernel
theorem dL_holds_364 : decode cL_holds 364 = .ok (.invokevirtual 73, 3) := by decide +kernel
theorem dL_holds_367 : decode cL_holds 367 = .ok (.iadd, 1) := by decide +kernel
theorem dL_holds_368 : decode cL_holds 368 = .ok (.aload_n 0, 1) := by decide +kernel
theorem dL_holds_369 : decode cL_holds 369 = .ok (.iconst 3, 1) := by decide +kernel
theorem dL_holds_370 : decode cL_holds 370 = .ok (.invokevirtual 73, 3) := by decide +kernel
theorem dL_holds_373 : decode cL_holds 373 = .ok (.iadd, 1) := by decide +kernel
theorem dL_holds_374 : decode cL_holds 374 = .ok (.istore 11, 2) := by decide +kernel
theorem dL_holds_376 : decode cL_holds 376 = .ok (.iload 7, 2) := by decide +kernel
theorem dL_holds_378 : decode cL_holds 378 = .ok (.iconst (-1), 1) := by decide +kernel
theorem dL_holds_379 : decode cL_holds 379 = .ok (.if_icmp .eq 19, 3) := by decide +kernel
theorem dL_holds_382 : decode cL_holds 382 = .ok (.iload 7, 2) := by decide +kernel
theorem dL_holds_384 : decode cL_holds 384 = .ok (.iload 6, 2) := by decide +kernel
theorem dL_holds_386 : decode cL_holds 386 = .ok (.iload 6, 2) := by decide +kernel
theorem dL_holds_388 : decode cL_holds 388 = .ok (.aload_n 0, 1) := by decide +kernel
theorem dL_holds_389 : decode cL_holds 389 = .ok (.iconst 3, 1) := by decide +kernel
theorem dL_holds_390 : decode cL_holds 390 = .ok (.invokevirtual 12, 3) := by decide +kernel
theorem dL_holds_393 : decode cL_holds 393 = .ok (.irem, 1) := by decide +kernel
theorem dL_holds_394 : decode cL_holds 394 = .ok (.isub, 1) := by decide +kernel
theorem dL_holds_395 : decode cL_holds 395 = .ok (.if_icmp .ne 7, 3) := by decide +kernel
theorem dL_holds_398 : decode cL_holds 398 = .ok (.iconst 1, 1) := by decide +kernel
theorem dL_holds_399 : decode cL_holds 399 = .ok (.goto 4, 3) := by decide +kernel
theorem dL_holds_402 : decode cL_holds 402 = .ok (.iconst 0, 1) := by decide +kernel
theorem dL_holds_403 : decode cL_holds 403 = .ok (.istore 12, 2) := by decide +kernel
theorem dL_holds_405 : decode cL_holds 405 = .ok (.iload 12, 2) := by decide +kernel
theorem dL_holds_407 : decode cL_holds 407 = .ok (.ifCond .eq 96, 3) := by decide +kernel
theorem dL_holds_410 : decode cL_holds 410 = .ok (.aload_n 0, 1) := by decide +kernel
theorem dL_holds_411 : decode cL_holds 411 = .ok (.iload_n 3, 1) := by decide +kernel
theorem dL_holds_412 : decode cL_holds 412 = .ok (.iload 4, 2) := by decide +kernel
theorem dL_holds_414 : decode cL_holds 414 = .ok (.iload 5, 2) := by decide +kernel
theorem dL_holds_416 : decode cL_holds 416 = .ok (.bipush 99, 2) := by decide +kernel
theorem dL_holds_418 : decode cL_holds 418 = .ok (.iconst 3, 1) := by decide +kernel
theorem dL_holds_419 : decode cL_holds 419 = .ok (.invokevirtual 69, 3) := by decide +kernel
theorem dL_holds_422 : decode cL_holds 422 = .ok (.iload 6, 2) := by decide +kernel
theorem dL_holds_424 : decode cL_holds 424 = .ok (.if_icmp .lt 79, 3) := by decide +kernel
theorem dL_holds_427 : decode cL_holds 427 = .ok (.iload 8, 2) := by decide +kernel
theorem dL_holds_429 : decode cL_holds 429 = .ok (.aload_n 0, 1) := by decide +kernel
theorem dL_holds_430 : decode cL_holds 430 = .ok (.iconst 5, 1) := by decide +kernel
theorem dL_holds_431 : decode cL_holds 431 = .ok (.invokevirtual 12, 3) := by decide +kernel
theorem dL_holds_434 : decode cL_holds 434 = .ok (.if_icmp .ne 69, 3) := by decide +kernel
theorem dL_holds_437 : decode cL_holds 437 = .ok (.iload 9, 2) := by decide +kernel
theorem dL_holds_439 : decode cL_holds 439 = .ok (.aload_n 0, 1) := by decide +kernel
theorem dL_holds_440 : decode cL_holds 440 = .ok (.bipush 6, 2) := by decide +kernel
theorem dL_holds_442 : decode cL_holds 442 = .ok (.invokevirtual 12, 3) := by decide +kernel
theorem dL_holds_445 : decode cL_holds 445 = .ok (.if_icmp .ne 58, 3) := by decide +kernel
theorem dL_holds_448 : decode cL_holds 448 = .ok (.iload 9, 2) := by decide +kernel
theorem dL_holds_450 : decode cL_holds 450 = .ok (.iload 8, 2) := by decide +kernel
theorem dL_holds_452 : decode cL_holds 452 = .ok (.if_icmp .gt 51, 3) := by decide +kernel
theorem dL_holds_455 : decode cL_holds 455 = .ok (.iload 10, 2) := by decide +kernel
theorem dL_holds_457 : decode cL_holds 457 = .ok (.aload_n 0, 1) := by decide +kernel
theorem dL_holds_458 : decode cL_holds 458 = .ok (.bipush 8, 2) := by decide +kernel
theorem dL_holds_460 : decode cL_holds 460 = .ok (.invokevirtual 12, 3) := by decide +kernel
theorem dL_holds_463 : decode cL_holds 463 = .ok (.iadd, 1) := by decide +kernel
theorem dL_holds_464 : decode cL_holds 464 = .ok (.iconst 5, 1) := by decide +kernel
theorem dL_holds_465 : decode cL_holds 465 = .ok (.iload_n 2, 1) := by decide +kernel
theorem dL_holds_466 : decode cL_holds 466 = .ok (.imul, 1) := by decide +kernel
theorem dL_holds_467 : decode cL_holds 467 = .ok (.if_icmp .ne 36, 3) := by decide +kernel
theorem dL_holds_470 : decode cL_holds 470 = .ok (.iload 11, 2) := by decide +kernel
theorem dL_holds_472 : decode cL_holds 472 = .ok (.aload_n 0, 1) := by decide +kernel
theorem dL_holds_473 : decode cL_holds 473 = .ok (.bipush 8, 2) := by decide +kernel
theorem dL_holds_475 : decode cL_holds 475 = .ok (.invokevirtual 12, 3) := by decide +kernel
theorem dL_holds_478 : decode cL_holds 478 = .ok (.if_icmp .gt 25, 3) := by decide +kernel
theorem dL_holds_481 : decode cL_holds 481 = .ok (.aload_n 0, 1) := by decide +kernel
theorem dL_holds_482 : decode cL_holds 482 = .ok (.invokevirtual 76, 3) := by decide +kernel
theorem dL_holds_485 : decode cL_holds 485 = .ok (.dconst 0, 1) := by decide +kernel
theorem dL_holds_486 : decode cL_holds 486 = .ok (.dcmp .l, 1) := by decide +kernel
theorem dL_holds_487 : decode cL_holds 487 = .ok (.ifCond .lt 16, 3) := by decide +kernel
theorem dL_holds_490 : decode cL_holds 490 = .ok (.aload_n 0, 1) := by decide +kernel
theorem dL_holds_491 : decode cL_holds 491 = .ok (.invokevirtual 76, 3) := by decide +kernel
theorem dL_holds_494 : decode cL_holds 494 = .ok (.dconst 1, 1) := by decide +kernel
theorem dL_holds_495 : decode cL_holds 495 = .ok (.dcmp .g, 1) := by decide +kernel
theorem dL_holds_496 : decode cL_holds 496 = .ok (.ifCond .gt 7, 3) := by decide +kernel
theorem dL_holds_499 : decode cL_holds 499 = .ok (.iconst 1, 1) := by decide +kernel
theorem dL_holds_500 : decode cL_holds 500 = .ok (.goto 4, 3) := by decide +kernel
theorem dL_holds_503 : decode cL_holds 503 = .ok (.iconst 0, 1) := by decide +kernel
theorem dL_holds_504 : decode cL_holds 504 = .ok (.ireturn, 1) := by decide +kernel
