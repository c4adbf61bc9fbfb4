theorem hw_c : GoodIn wsL_law [.code yL_holds cL_holds 13 (some .boolean)] := goodIn_r _ [412] (by decide +kernel) (by decide +kernel)
set_option maxRecDepth 20000 in
theorem hw_wsL_holds_r1 : GoodIn wsL_law wsL_holds_r1 := goodIn_r _ [109, 110, 111, 2, 112, 113, 114, 115, 116, 117, 118, 119, 120, 121, 12, 122, 123, 124, 125, 126, 127, 128, 129, 16] (by decide +kernel) (by decide +kernel)
set_option maxRecDepth 20000 in
theorem hw_wsL_holds_r2 : GoodIn wsL_law wsL_holds_r2 := goodIn_r _ [130, 131, 132, 133, 43, 134, 60, 135, 136, 137, 138, 139, 140, 141, 11, 142, 143, 144, 145, 146, 147, 148, 149, 150] (by decide +kernel) (by decide +kernel)
set_option maxRecDepth 20000 in
theorem hw_wsL_holds_r3 : GoodIn wsL_law wsL_holds_r3 := goodIn_r _ [28, 151, 152, 153, 154, 27, 155, 52, 51, 156, 157, 158, 159, 160, 161, 162, 32, 163, 164, 165, 166, 167, 45, 168] (by decide +kernel) (by decide +kernel)
set_option maxRecDepth 20000 in
theorem hw_wsL_holds_r4 : GoodIn wsL_law wsL_holds_r4 := goodIn_r _ [169, 170, 171, 172, 173, 174, 175, 272, 273, 107, 274, 275, 242, 243, 244, 245, 246, 247, 248, 232, 233, 249, 250, 251] (by decide +kernel) (by decide +kernel)
set_option maxRecDepth 20000 in
theorem hw_wsL_holds_r5 : GoodIn wsL_law wsL_holds_r5 := goodIn_r _ [252, 253, 254, 255, 36, 256, 40, 257, 258, 413, 414, 415, 416, 228, 229, 230, 231, 417, 224, 225, 226, 227, 234, 235] (by decide +kernel) (by decide +kernel)
set_option maxRecDepth 20000 in
theorem hw_wsL_holds_r6 : GoodIn wsL_law wsL_holds_r6 := goodIn_r _ [236, 237, 238, 239, 240, 241, 418, 419, 420, 421, 350, 351, 352, 353, 354, 355, 321, 322, 323, 307, 308, 309, 422, 423] (by decide +kernel) (by decide +kernel)
set_option maxRecDepth 20000 in
theorem hw_wsL_holds_r7 : GoodIn wsL_law wsL_holds_r7 := goodIn_r _ [424, 425, 263, 426, 427, 428, 429, 54, 430, 356, 378, 379, 380, 381, 44, 364, 365, 366, 367, 382, 383, 384, 35, 385] (by decide +kernel) (by decide +kernel)
set_option maxRecDepth 20000 in
theorem hw_wsL_holds_r8 : GoodIn wsL_law wsL_holds_r8 := goodIn_r _ [74, 268, 386, 265, 266, 267, 73, 387, 388, 389, 390, 357, 358, 359, 360, 361, 362, 286, 363, 391, 259, 260, 261, 262] (by decide +kernel) (by decide +kernel)
set_option maxRecDepth 20000 in
theorem hw_wsL_holds_r9 : GoodIn wsL_law wsL_holds_r9 := goodIn_r _ [264, 431, 432, 433, 434, 334, 335, 336, 435, 436, 437, 438, 439, 440, 441, 442, 443, 444, 445, 446, 447] (by decide +kernel) (by decide +kernel)
set_option maxRecDepth 20000 in
theorem hw_wsX80 : GoodIn wsL_law wsX80 := goodIn_r _ [448, 449, 450] (by decide +kernel) (by decide +kernel)
set_option maxRecDepth 20000 in
theorem hw_wsX60 : GoodIn wsL_law wsX60 := goodIn_r _ [451, 452, 453, 454, 455, 456] (by decide +kernel) (by decide +kernel)
set_option maxRecDepth 20000 in
theorem hw_wsX50 : GoodIn wsL_law wsX50 := goodIn_r _ [462, 463, 464, 465, 466] (by decide +kernel) (by decide +kernel)
set_option maxRecDepth 20000 in
theorem hw_wsX70 : GoodIn wsL_law wsX70 := goodIn_r _ [472, 473, 474] (by decide +kernel) (by decide +kernel)
set_option maxRecDepth 20000 in
theorem hw_wsX10 : GoodIn wsL_law wsX10 := goodIn_r _ [457, 458, 459] (by decide +kernel) (by decide +kernel)
set_option maxRecDepth 20000 in
theorem hw_wsX30 : GoodIn wsL_law wsX30 := goodIn_r _ [475] (by decide +kernel) (by decide +kernel)
set_option maxRecDepth 20000 in
theorem hw_wsX40 : GoodIn wsL_law wsX40 := goodIn_r _ [467, 468, 469] (by decide +kernel) (by decide +kernel)
set_option maxRecDepth 20000 in
theorem hw_wsX20 : GoodIn wsL_law wsX20 := goodIn_r _ [470, 471] (by decide +kernel) (by decide +kernel)
set_option maxRecDepth 20000 in
theorem hw_55 : GoodIn wsL_law ((vx_atS RX8 55 "java/lang/IllegalArgumentException" ["java/lang/RuntimeException", "java/lang/Exception"]).filter goodWord) := goodIn_sub (fun _ h => List.mem_append_left _ (List.mem_append_left _ (List.mem_append_right _ h))) (by decide +kernel)
set_option maxRecDepth 20000 in
theorem hw_41 : GoodIn wsL_law ((vx_atS RX8 41 "java/lang/IndexOutOfBoundsException" ["java/lang/RuntimeException", "java/lang/Exception"]).filter goodWord) := goodIn_sub (fun _ h => List.mem_append_right _ h) (by decide +kernel)
theorem hw_cons {big a : List Cond} {c : Cond} (h0 : GoodIn big [c]) (h : GoodIn big a) : GoodIn big (c :: a) := fun w hw => (List.mem_cons.mp hw).elim (fun e => h0 w (List.mem_cons.mpr (Or.inl e))) (h w)
theorem ggL_law_L_holds : GoodIn wsL_law wsL_holds := hw_cons hw_c (goodIn_app (goodIn_app (goodIn_app (goodIn_app (goodIn_app (goodIn_app (goodIn_app (goodIn_app (goodIn_app (goodIn_app (goodIn_app hw_wsL_holds_r1 (goodIn_app hw_wsL_holds_r2 (goodIn_app hw_wsL_holds_r3 (goodIn_app hw_wsL_holds_r4 (goodIn_app hw_wsL_holds_r5 (goodIn_app hw_wsL_holds_r6 (goodIn_app hw_wsL_holds_r7 (goodIn_app hw_wsL_holds_r8 hw_wsL_holds_r9)))))))) hw_wsX80) hw_wsX60) hw_wsX50) hw_wsX70) hw_wsX10) hw_wsX30) hw_wsX40) hw_wsX20) hw_55) hw_41)
set_option maxRecDepth 20000 in
theorem gL_law_L_holds : GoodIn wsL_law (va_wsS RL 97 yL_holds wsL_holds) := goodIn_app (goodIn_of _ (by decide +kernel)) ggL_law_L_holds
