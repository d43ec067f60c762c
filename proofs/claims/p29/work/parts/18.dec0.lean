set_option maxRecDepth 20000 in
theorem gsL_refuses_L_call_h : GoodIn wsL_refuses [.code yL_call cL_call 5 (some .int)] := goodIn_r _ [7] (by decide +kernel) (by decide +kernel)
set_option maxRecDepth 20000 in
theorem gsL_refuses_L_call_0 : GoodIn wsL_refuses wsL_call_r1 := goodIn_r _ [8, 9, 6, 10, 11, 12, 1, 13, 14, 15, 16, 17, 18, 19, 20, 21, 22, 23, 24, 25, 26, 27, 28, 29] (by decide +kernel) (by decide +kernel)
set_option maxRecDepth 20000 in
theorem gsL_refuses_L_call_1 : GoodIn wsL_refuses wsL_call_r2 := goodIn_r _ [30, 31, 32, 33, 34, 35, 36, 37, 38, 39, 40, 41, 42, 43, 44, 45, 46, 47, 48, 49, 50, 51, 52, 53] (by decide +kernel) (by decide +kernel)
set_option maxRecDepth 20000 in
theorem gsL_refuses_L_call_2 : GoodIn wsL_refuses wsL_call_r3 := goodIn_r _ [54, 55, 56, 57, 58, 59, 60, 61, 62, 63, 64, 65, 66, 67, 68, 69, 70, 71, 72, 73, 74, 75, 76, 77] (by decide +kernel) (by decide +kernel)
set_option maxRecDepth 20000 in
theorem gsL_refuses_L_call_3 : GoodIn wsL_refuses wsL_call_r4 := goodIn_r _ [78, 79, 80, 81, 82, 83, 84, 85, 86, 87, 88, 89, 90, 91, 92, 93, 94, 95, 96, 97, 98, 99, 100, 101] (by decide +kernel) (by decide +kernel)
set_option maxRecDepth 20000 in
theorem gsL_refuses_L_call_4 : GoodIn wsL_refuses wsL_call_r5 := goodIn_r _ [102, 103, 104, 105, 106, 107, 108, 109, 110, 111, 112, 113, 114, 115, 116, 117, 118, 119, 120, 121, 122, 123, 124, 125] (by decide +kernel) (by decide +kernel)
set_option maxRecDepth 20000 in
theorem gsL_refuses_L_call_5 : GoodIn wsL_refuses wsL_call_r6 := goodIn_r _ [126, 127, 128, 129, 130, 131, 132, 133, 134, 135, 136, 137, 138, 139, 140, 141, 142, 143, 144, 145, 146, 147, 148, 149] (by decide +kernel) (by decide +kernel)
set_option maxRecDepth 20000 in
theorem gsL_refuses_L_call_6 : GoodIn wsL_refuses wsL_call_r7 := goodIn_r _ [150, 151, 152, 153, 154, 155, 156, 157, 158, 159, 160, 161, 162, 163, 164, 165, 166, 167, 168, 169, 170, 171, 172, 173] (by decide +kernel) (by decide +kernel)
set_option maxRecDepth 20000 in
theorem gsL_refuses_L_call_7 : GoodIn wsL_refuses wsL_call_r8 := goodIn_r _ [174, 175, 176, 177, 178, 179, 180, 181, 182, 183, 184, 185, 186, 187, 188, 189, 190, 191, 192, 193, 194, 195, 196, 197] (by decide +kernel) (by decide +kernel)
set_option maxRecDepth 20000 in
theorem gsL_refuses_L_call_8 : GoodIn wsL_refuses wsL_call_r9 := goodIn_r _ [198, 199, 200, 201, 202, 203, 204, 205, 206, 207, 208, 209, 210, 211, 212, 213, 214, 215, 216, 217, 218, 219, 220, 221] (by decide +kernel) (by decide +kernel)
set_option maxRecDepth 20000 in
theorem gsL_refuses_L_call_9 : GoodIn wsL_refuses wsL_call_r10 := goodIn_r _ [222, 223, 224, 225, 226, 227, 228, 229, 230, 231, 232, 233, 234, 235, 236, 237, 238, 239, 240, 241, 242, 243, 244, 245] (by decide +kernel) (by decide +kernel)
set_option maxRecDepth 20000 in
theorem gsL_refuses_L_call_10 : GoodIn wsL_refuses wsL_call_r11 := goodIn_r _ [246, 247, 248, 249, 250, 251, 252, 253, 254, 255, 256, 257, 258, 259, 260, 261, 262, 263, 264, 265, 266, 267, 268, 269] (by decide +kernel) (by decide +kernel)
set_option maxRecDepth 20000 in
theorem gsL_refuses_L_call_11 : GoodIn wsL_refuses wsL_call_r12 := goodIn_r _ [270, 271, 272, 273, 274, 275, 276, 277, 278, 279, 280, 281, 282, 283, 284, 285, 286, 287, 2, 288, 289, 290, 291, 292] (by decide +kernel) (by decide +kernel)
set_option maxRecDepth 20000 in
theorem gsL_refuses_L_call_12 : GoodIn wsL_refuses wsL_call_r13 := goodIn_r _ [293, 294, 295, 296, 297, 298, 299, 300, 301, 302, 303, 304, 305, 306, 307, 308, 309, 310, 311, 312, 313, 314, 315, 316] (by decide +kernel) (by decide +kernel)
set_option maxRecDepth 20000 in
theorem gsL_refuses_L_call_13 : GoodIn wsL_refuses wsL_call_r14 := goodIn_r _ [317, 318, 319, 320, 321, 322, 323, 324, 325, 326, 327, 328, 329, 330, 331, 332, 333, 334, 335, 336, 337, 338, 339, 340] (by decide +kernel) (by decide +kernel)
set_option maxRecDepth 20000 in
theorem gsL_refuses_L_call_14 : GoodIn wsL_refuses wsL_call_r15 := goodIn_r _ [341, 342, 343, 344, 345, 346, 347, 348, 349, 350, 351, 352, 353, 354, 355, 356, 357, 358, 359, 360, 361, 362, 363, 364] (by decide +kernel) (by decide +kernel)
set_option maxRecDepth 20000 in
theorem gsL_refuses_L_call_15 : GoodIn wsL_refuses wsL_call_r16 := goodIn_r _ [365, 366, 367, 368, 369, 370, 371, 372, 373, 374, 375, 376, 377, 378, 379, 380, 381, 382, 383, 384, 385, 386, 387, 388] (by decide +kernel) (by decide +kernel)
set_option maxRecDepth 20000 in
theorem gsL_refuses_L_call_16 : GoodIn wsL_refuses wsL_call_r17 := goodIn_r _ [389, 390, 391, 392, 393, 394, 395, 396, 397, 398, 399, 400, 401, 402, 403, 404, 405, 406, 407, 408, 409, 410, 411, 412] (by decide +kernel) (by decide +kernel)
set_option maxRecDepth 20000 in
theorem gsL_refuses_L_call_17 : GoodIn wsL_refuses wsL_call_r18 := goodIn_r _ [413, 414, 415, 416, 417, 418, 419, 420, 421, 422, 423, 424, 425, 426, 427, 428, 429, 430, 431, 432, 433, 434, 435, 436] (by decide +kernel) (by decide +kernel)
set_option maxRecDepth 20000 in
theorem gsL_refuses_L_call_18 : GoodIn wsL_refuses wsL_call_r19 := goodIn_r _ [437, 438, 439, 440, 441, 442, 443, 444, 445, 446, 447, 448, 449, 450, 451, 452, 453, 454, 455, 456, 457, 458, 459, 460] (by decide +kernel) (by decide +kernel)
set_option maxRecDepth 20000 in
theorem gsL_refuses_L_call_19 : GoodIn wsL_refuses wsL_call_r20 := goodIn_r _ [461, 462, 463, 464, 465] (by decide +kernel) (by decide +kernel)
set_option maxRecDepth 20000 in
theorem gsL_refuses_L_call_wsX30 : GoodIn wsL_refuses wsX30 := goodIn_r _ [512, 513, 514, 515, 516, 517, 518, 519] (by decide +kernel) (by decide +kernel)
set_option maxRecDepth 20000 in
theorem gsL_refuses_L_call_wsX20 : GoodIn wsL_refuses wsX20 := goodIn_r _ [520, 521] (by decide +kernel) (by decide +kernel)
set_option maxRecDepth 20000 in
theorem gsL_refuses_L_call_wsX00 : GoodIn wsL_refuses wsX00 := goodIn_r _ [522] (by decide +kernel) (by decide +kernel)
set_option maxRecDepth 20000 in
theorem gsL_refuses_L_call_wsX10 : GoodIn wsL_refuses wsX10 := goodIn_r _ [523] (by decide +kernel) (by decide +kernel)
theorem gsL_refuses_L_call_b : GoodIn wsL_refuses (.code yL_call cL_call 5 (some .int) :: ((wsL_call_r1 ++ (wsL_call_r2 ++ (wsL_call_r3 ++ (wsL_call_r4 ++ (wsL_call_r5 ++ (wsL_call_r6 ++ (wsL_call_r7 ++ (wsL_call_r8 ++ (wsL_call_r9 ++ (wsL_call_r10 ++ (wsL_call_r11 ++ (wsL_call_r12 ++ (wsL_call_r13 ++ (wsL_call_r14 ++ (wsL_call_r15 ++ (wsL_call_r16 ++ (wsL_call_r17 ++ (wsL_call_r18 ++ (wsL_call_r19 ++ wsL_call_r20))))))))))))))))))) ++ wsX30 ++ wsX20 ++ wsX00 ++ wsX10)) := goodIn_cons gsL_refuses_L_call_h (goodIn_app (goodIn_app (goodIn_app (goodIn_app (goodIn_app gsL_refuses_L_call_0 (goodIn_app gsL_refuses_L_call_1 (goodIn_app gsL_refuses_L_call_2 (goodIn_app gsL_refuses_L_call_3 (goodIn_app gsL_refuses_L_call_4 (goodIn_app gsL_refuses_L_call_5 (goodIn_app gsL_refuses_L_call_6 (goodIn_app gsL_refuses_L_call_7 (goodIn_app gsL_refuses_L_call_8 (goodIn_app gsL_refuses_L_call_9 (goodIn_app gsL_refuses_L_call_10 (goodIn_app gsL_refuses_L_call_11 (goodIn_app gsL_refuses_L_call_12 (goodIn_app gsL_refuses_L_call_13 (goodIn_app gsL_refuses_L_call_14 (goodIn_app gsL_refuses_L_call_15 (goodIn_app gsL_refuses_L_call_16 (goodIn_app gsL_refuses_L_call_17 (goodIn_app gsL_refuses_L_call_18 gsL_refuses_L_call_19))))))))))))))))))) gsL_refuses_L_call_wsX30) gsL_refuses_L_call_wsX20) gsL_refuses_L_call_wsX00) gsL_refuses_L_call_wsX10)
set_option maxRecDepth 20000 in
theorem ggL_refuses_L_call : GoodIn wsL_refuses wsL_call := goodIn_ca (goodIn_ca (goodIn_ca gsL_refuses_L_call_b (goodIn_sub (fun _ h => List.mem_cons_of_mem _ (List.mem_append_left _ (List.mem_append_left _ (List.mem_append_right _ h)))) (by decide +kernel))) (goodIn_sub (fun _ h => List.mem_cons_of_mem _ (List.mem_append_left _ (List.mem_append_right _ h))) (by decide +kernel))) (goodIn_sub (fun _ h => List.mem_cons_of_mem _ (List.mem_append_right _ h)) (by decide +kernel))
set_option maxRecDepth 20000 in
theorem gL_refuses_L_call : GoodIn wsL_refuses (va_wsS RL 150 yL_call wsL_call) := goodIn_app (goodIn_of _ (by decide +kernel)) ggL_refuses_L_call
set_option maxRecDepth 20000 in
theorem ggL_refuses_L_shuts : GoodIn wsL_refuses wsL_shuts := goodIn_ca (goodIn_ca (goodIn_r _ [468, 287, 12, 2, 13, 469, 470, 471, 17, 472, 292, 293, 21, 22, 46, 313, 159, 160, 473, 228, 229, 120, 230, 231, 232, 233, 234, 122, 361, 362, 363, 364, 365, 366, 127, 367, 368, 369, 370, 371, 372, 373, 374, 375, 376, 377, 378, 223, 224, 225, 226, 227, 268, 269, 270, 271, 272, 273, 274, 275, 512, 513, 514, 515, 516, 517, 518, 519, 522, 523] (by decide +kernel) (by decide +kernel)) (goodIn_sub (fun _ h => List.mem_cons_of_mem _ (List.mem_append_right _ h)) (by decide +kernel))) (goodIn_sub (fun _ h => List.mem_cons_of_mem _ (List.mem_append_left _ (List.mem_append_right _ h))) (by decide +kernel))
set_option maxRecDepth 20000 in
theorem gL_refuses_L_shuts : GoodIn wsL_refuses (va_wsS RL 154 yL_shuts wsL_shuts) := goodIn_app (goodIn_of _ (by decide +kernel)) ggL_refuses_L_shuts
set_option maxRecDepth 20000 in
theorem gsL_refuses_L_doScript_h : GoodIn wsL_refuses [.codeWith yL_doScript cL_doScript 5 (some .int) [(0, 6, 7, 23)]] := goodIn_r _ [476] (by decide +kernel) (by decide +kernel)
set_option maxRecDepth 20000 in
theorem gsL_refuses_L_doScript_0 : GoodIn wsL_refuses wsL_doScript_r1 := goodIn_r _ [11, 1, 477, 478, 479, 17, 480, 19, 20, 451, 46, 481, 482, 483, 484, 434, 435, 436, 120, 437, 122, 371, 372, 373] (by decide +kernel) (by decide +kernel)
set_option maxRecDepth 20000 in
theorem gsL_refuses_L_doScript_1 : GoodIn wsL_refuses wsL_doScript_r2 := goodIn_r _ [374, 485, 486, 487, 488, 489, 490, 491, 167, 168, 169, 170, 171, 172, 173, 174, 175, 176, 177, 178, 179, 180, 181, 182] (by decide +kernel) (by decide +kernel)
set_option maxRecDepth 20000 in
theorem gsL_refuses_L_doScript_2 : GoodIn wsL_refuses wsL_doScript_r3 := goodIn_r _ [183, 184, 185, 186, 187, 188, 189, 190, 191, 192, 193, 194, 195, 196, 197, 198, 199, 200, 201, 202, 203, 204, 205, 206] (by decide +kernel) (by decide +kernel)
set_option maxRecDepth 20000 in
theorem gsL_refuses_L_doScript_3 : GoodIn wsL_refuses wsL_doScript_r4 := goodIn_r _ [163, 164, 165, 166, 207, 208, 209, 210, 211, 212, 213, 214, 215, 216, 217, 218, 219, 220, 221, 222, 151, 152, 153, 154] (by decide +kernel) (by decide +kernel)
set_option maxRecDepth 20000 in
theorem gsL_refuses_L_doScript_4 : GoodIn wsL_refuses wsL_doScript_r5 := goodIn_r _ [155, 156, 157, 158, 159, 160, 161, 162, 235, 236, 237, 238, 239, 240, 223, 224, 225, 226, 227, 228, 229, 230, 231, 232] (by decide +kernel) (by decide +kernel)
set_option maxRecDepth 20000 in
theorem gsL_refuses_L_doScript_5 : GoodIn wsL_refuses wsL_doScript_r6 := goodIn_r _ [233, 234, 241, 242, 243, 244, 492, 294, 295, 296, 297, 314, 342, 343, 344, 345, 346, 347, 348, 349, 350, 332, 333, 334] (by decide +kernel) (by decide +kernel)
set_option maxRecDepth 20000 in
theorem gsL_refuses_L_doScript_6 : GoodIn wsL_refuses wsL_doScript_r7 := goodIn_r _ [430, 431, 432, 433, 425, 438, 439, 440, 441, 442, 257, 258, 259, 443, 493, 494, 495] (by decide +kernel) (by decide +kernel)
set_option maxRecDepth 20000 in
theorem gsL_refuses_L_doScript_wsX30 : GoodIn wsL_refuses wsX30 := goodIn_r _ [512, 513, 514, 515, 516, 517, 518, 519] (by decide +kernel) (by decide +kernel)
set_option maxRecDepth 20000 in
theorem gsL_refuses_L_doScript_wsX00 : GoodIn wsL_refuses wsX00 := goodIn_r _ [522] (by decide +kernel) (by decide +kernel)
theorem gsL_refuses_L_doScript_b : GoodIn wsL_refuses (.codeWith yL_doScript cL_doScript 5 (some .int) [(0, 6, 7, 23)] :: ((wsL_doScript_r1 ++ (wsL_doScript_r2 ++ (wsL_doScript_r3 ++ (wsL_doScript_r4 ++ (wsL_doScript_r5 ++ (wsL_doScript_r6 ++ wsL_doScript_r7)))))) ++ wsX30 ++ wsX00)) := goodIn_cons gsL_refuses_L_doScript_h (goodIn_app (goodIn_app (goodIn_app gsL_refuses_L_doScript_0 (goodIn_app gsL_refuses_L_doScript_1 (goodIn_app gsL_refuses_L_doScript_2 (goodIn_app gsL_refuses_L_doScript_3 (goodIn_app gsL_refuses_L_doScript_4 (goodIn_app gsL_refuses_L_doScript_5 gsL_refuses_L_doScript_6)))))) gsL_refuses_L_doScript_wsX30) gsL_refuses_L_doScript_wsX00)
set_option maxRecDepth 20000 in
theorem ggL_refuses_L_doScript : GoodIn wsL_refuses wsL_doScript := goodIn_ca gsL_refuses_L_doScript_b (goodIn_sub (fun _ h => List.mem_cons_of_mem _ (List.mem_append_left _ (List.mem_append_left _ (List.mem_append_right _ h)))) (by decide +kernel))
set_option maxRecDepth 20000 in
theorem gL_refuses_L_doScript : GoodIn wsL_refuses (va_wsS RL 158 yL_doScript wsL_doScript) := goodIn_app (goodIn_of _ (by decide +kernel)) ggL_refuses_L_doScript
set_option maxRecDepth 20000 in
theorem ggL_refuses_L_doSimulate : GoodIn wsL_refuses wsL_doSimulate := goodIn_ca (goodIn_r _ [498, 11, 1, 499, 500, 501, 17, 502, 19, 20, 451, 46, 503, 504, 505, 506, 428, 507, 434, 435, 436, 120, 437, 122, 371, 372, 373, 374, 508, 509, 510, 511, 151, 152, 153, 154, 155, 156, 157, 158, 159, 160, 161, 162, 163, 164, 165, 166, 235, 236, 237, 238, 239, 240, 223, 224, 225, 226, 227, 228, 229, 230, 231, 232, 233, 234, 241, 242, 243, 244, 177, 178, 179, 180, 181, 182, 183, 184, 185, 186, 187, 188, 211, 212, 213, 214, 167, 168, 169, 170, 171, 172, 173, 174, 175, 176, 189, 190, 191, 192, 193, 194, 195, 196, 197, 198, 199, 200, 201, 202, 203, 204, 205, 206, 207, 208, 209, 210, 215, 216, 217, 218, 219, 220, 221, 222, 280, 281, 282, 283, 256, 257, 258, 259, 512, 513, 514, 515, 516, 517, 518, 519, 522] (by decide +kernel) (by decide +kernel)) (goodIn_sub (fun _ h => List.mem_cons_of_mem _ (List.mem_append_left _ (List.mem_append_left _ (List.mem_append_right _ h)))) (by decide +kernel))
set_option maxRecDepth 20000 in
theorem gL_refuses_L_doSimulate : GoodIn wsL_refuses (va_wsS RL 164 yL_doSimulate wsL_doSimulate) := goodIn_app (goodIn_of _ (by decide +kernel)) ggL_refuses_L_doSimulate
theorem dL_refuses_0 : decode cL_refuses 0 = .ok (.aload_n 0, 1) := by decide +kernel
theorem dL_refuses_1 : decode cL_refuses 1 = .ok (.iconst 2, 1) := by decide +kernel
theorem dL_refuses_2 : decode cL_refuses 2 = .ok (.iconst 0, 1) := by decide +kernel
theorem dL_refuses_3 : decode cL_refuses 3 = .ok (.iconst 0, 1) := by decide +kernel
theorem dL_refuses_4 : decode cL_refuses 4 = .ok (.iconst 0, 1) := by decide +kernel
theorem dL_refuses_5 : decode cL_refuses 5 = .ok (.invokestatic 150, 3) := by decide +kernel
theorem dL_refuses_8 : decode cL_refuses 8 = .ok (.iload_n 1, 1) := by decide +kernel
theorem dL_refuses_9 : decode cL_refuses 9 = .ok (.bipush 50, 2) := by decide +kernel
theorem dL_refuses_11 : decode cL_refuses 11 = .ok (.irem, 1) := by decide +kernel
theorem dL_refuses_12 : decode cL_refuses 12 = .ok (.iadd, 1) := by decide +kernel
theorem dL_refuses_13 : decode cL_refuses 13 = .ok (.istore_n 2, 1) := by decide +kernel
theorem dL_refuses_14 : decode cL_refuses 14 = .ok (.iload_n 1, 1) := by decide +kernel
theorem dL_refuses_15 : decode cL_refuses 15 = .ok (.iconst 2, 1) := by decide +kernel
theorem dL_refuses_16 : decode cL_refuses 16 = .ok (.irem, 1) := by decide +kernel
theorem dL_refuses_17 : decode cL_refuses 17 = .ok (.ifCond .ne 12, 3) := by decide +kernel
theorem dL_refuses_20 : decode cL_refuses 20 = .ok (.iconst (-1), 1) := by decide +kernel
theorem dL_refuses_21 : decode cL_refuses 21 = .ok (.iload_n 1, 1) := by decide +kernel
theorem dL_refuses_22 : decode cL_refuses 22 = .ok (.bipush 99, 2) := by decide +kernel
theorem dL_refuses_24 : decode cL_refuses 24 = .ok (.irem, 1) := by decide +kernel
theorem dL_refuses_25 : decode cL_refuses 25 = .ok (.isub, 1) := by decide +kernel
theorem dL_refuses_26 : decode cL_refuses 26 = .ok (.goto 10, 3) := by decide +kernel
theorem dL_refuses_29 : decode cL_refuses 29 = .ok (.bipush 36, 2) := by decide +kernel
theorem dL_refuses_31 : decode cL_refuses 31 = .ok (.iload_n 1, 1) := by decide +kernel
theorem dL_refuses_32 : decode cL_refuses 32 = .ok (.bipush 99, 2) := by decide +kernel
theorem dL_refuses_34 : decode cL_refuses 34 = .ok (.irem, 1) := by decide +kernel
theorem dL_refuses_35 : decode cL_refuses 35 = .ok (.iadd, 1) := by decide +kernel
theorem dL_refuses_36 : decode cL_refuses 36 = .ok (.istore_n 3, 1) := by decide +kernel
theorem dL_refuses_37 : decode cL_refuses 37 = .ok (.aload_n 0, 1) := by decide +kernel
theorem dL_refuses_38 : decode cL_refuses 38 = .ok (.iconst 0, 1) := by decide +kernel
theorem dL_refuses_39 : decode cL_refuses 39 = .ok (.iload_n 1, 1) := by decide +kernel
theorem dL_refuses_40 : decode cL_refuses 40 = .ok (.iconst 2, 1) := by decide +kernel
theorem dL_refuses_41 : decode cL_refuses 41 = .ok (.irem, 1) := by decide +kernel
theorem dL_refuses_42 : decode cL_refuses 42 = .ok (.ifCond .ne 12, 3) := by decide +kernel
theorem dL_refuses_45 : decode cL_refuses 45 = .ok (.iconst (-1), 1) := by decide +kernel
theorem dL_refuses_46 : decode cL_refuses 46 = .ok (.iload_n 1, 1) := by decide +kernel
theorem dL_refuses_47 : decode cL_refuses 47 = .ok (.bipush 9, 2) := by decide +kernel
theorem dL_refuses_49 : decode cL_refuses 49 = .ok (.irem, 1) := by decide +kernel
theorem dL_refuses_50 : decode cL_refuses 50 = .ok (.isub, 1) := by decide +kernel
theorem dL_refuses_51 : decode cL_refuses 51 = .ok (.goto 11, 3) := by decide +kernel
theorem dL_refuses_54 : decode cL_refuses 54 = .ok (.sipush 256, 3) := by decide +kernel
theorem dL_refuses_57 : decode cL_refuses 57 = .ok (.iload_n 1, 1) := by decide +kernel
theorem dL_refuses_58 : decode cL_refuses 58 = .ok (.bipush 9, 2) := by decide +kernel
theorem dL_refuses_60 : decode cL_refuses 60 = .ok (.irem, 1) := by decide +kernel
theorem dL_refuses_61 : decode cL_refuses 61 = .ok (.iadd, 1) := by decide +kernel
theorem dL_refuses_62 : decode cL_refuses 62 = .ok (.iconst 0, 1) := by decide +kernel
theorem dL_refuses_63 : decode cL_refuses 63 = .ok (.iconst 0, 1) := by decide +kernel
theorem dL_refuses_64 : decode cL_refuses 64 = .ok (.invokestatic 150, 3) := by decide +kernel
theorem dL_refuses_67 : decode cL_refuses 67 = .ok (.ldc 25, 2) := by decide +kernel
theorem dL_refuses_69 : decode cL_refuses 69 = .ok (.if_icmp .ne 411, 3) := by decide +kernel
theorem dL_refuses_72 : decode cL_refuses 72 = .ok (.aload_n 0, 1) := by decide +kernel
theorem dL_refuses_73 : decode cL_refuses 73 = .ok (.iconst 2, 1) := by decide +kernel
theorem dL_refuses_74 : decode cL_refuses 74 = .ok (.bipush 10, 2) := by decide +kernel
theorem dL_refuses_76 : decode cL_refuses 76 = .ok (.iload_n 1, 1) := by decide +kernel
theorem dL_refuses_77 : decode cL_refuses 77 = .ok (.bipush 50, 2) := by decide +kernel
theorem dL_refuses_79 : decode cL_refuses 79 = .ok (.irem, 1) := by decide +kernel
theorem dL_refuses_80 : decode cL_refuses 80 = .ok (.iadd, 1) := by decide +kernel
theorem dL_refuses_81 : decode cL_refuses 81 = .ok (.iconst 0, 1) := by decide +kernel
theorem dL_refuses_82 : decode cL_refuses 82 = .ok (.iconst 0, 1) := by decide +kernel
theorem dL_refuses_83 : decode cL_refuses 83 = .ok (.invokestatic 150, 3) := by decide +kernel
theorem dL_refuses_86 : decode cL_refuses 86 = .ok (.ldc 25, 2) := by decide +kernel
theorem dL_refuses_88 : decode cL_refuses 88 = .ok (.if_icmp .ne 392, 3) := by decide +kernel
theorem dL_refuses_91 : decode cL_refuses 91 = .ok (.aload_n 0, 1) := by decide +kernel
theorem dL_refuses_92 : decode cL_refuses 92 = .ok (.iconst 3, 1) := by decide +kernel
theorem dL_refuses_93 : decode cL_refuses 93 = .ok (.iload_n 2, 1) := by decide +kernel
theorem dL_refuses_94 : decode cL_refuses 94 = .ok (.bipush 99, 2) := by decide +kernel
theorem dL_refuses_96 : decode cL_refuses 96 = .ok (.iconst 0, 1) := by decide +kernel
theorem dL_refuses_97 : decode cL_refuses 97 = .ok (.invokestatic 150, 3) := by decide +kernel
theorem dL_refuses_100 : decode cL_refuses 100 = .ok (.ldc 15, 2) := by decide +kernel
theorem dL_refuses_102 : decode cL_refuses 102 = .ok (.if_icmp .ne 378, 3) := by decide +kernel
theorem dL_refuses_105 : decode cL_refuses 105 = .ok (.aload_n 0, 1) := by decide +kernel
theorem dL_refuses_106 : decode cL_refuses 106 = .ok (.iconst 4, 1) := by decide +kernel
theorem dL_refuses_107 : decode cL_refuses 107 = .ok (.iload_n 2, 1) := by decide +kernel
theorem dL_refuses_108 : decode cL_refuses 108 = .ok (.iconst 0, 1) := by decide +kernel
theorem dL_refuses_109 : decode cL_refuses 109 = .ok (.iconst 0, 1) := by decide +kernel
theorem dL_refuses_110 : decode cL_refuses 110 = .ok (.invokestatic 150, 3) := by decide +kernel
theorem dL_refuses_113 : decode cL_refuses 113 = .ok (.ldc 15, 2) := by decide +kernel
theorem dL_refuses_115 : decode cL_refuses 115 = .ok (.if_icmp .ne 365, 3) := by decide +kernel
theorem dL_refuses_118 : decode cL_refuses 118 = .ok (.aload_n 0, 1) := by decide +kernel
theorem dL_refuses_119 : decode cL_refuses 119 = .ok (.iconst 5, 1) := by decide +kernel
theorem dL_refuses_120 : decode cL_refuses 120 = .ok (.iload_n 3, 1) := by decide +kernel
theorem dL_refuses_121 : decode cL_refuses 121 = .ok (.bipush 9, 2) := by decide +kernel
theorem dL_refuses_123 : decode cL_refuses 123 = .ok (.iconst 0, 1) := by decide +kernel
theorem dL_refuses_124 : decode cL_refuses 124 = .ok (.invokestatic 150, 3) := by decide +kernel
theorem dL_refuses_127 : decode cL_refuses 127 = .ok (.ldc 15, 2) := by decide +kernel
theorem dL_refuses_129 : decode cL_refuses 129 = .ok (.if_icmp .ne 351, 3) := by decide +kernel
theorem dL_refuses_132 : decode cL_refuses 132 = .ok (.aload_n 0, 1) := by decide +kernel
theorem dL_refuses_133 : decode cL_refuses 133 = .ok (.iconst 5, 1) := by decide +kernel
theorem dL_refuses_134 : decode cL_refuses 134 = .ok (.iload_n 1, 1) := by decide +kernel
theorem dL_refuses_135 : decode cL_refuses 135 = .ok (.bipush 36, 2) := by decide +kernel
theorem dL_refuses_137 : decode cL_refuses 137 = .ok (.irem, 1) := by decide +kernel
theorem dL_refuses_138 : decode cL_refuses 138 = .ok (.iconst 2, 1) := by decide +kernel
theorem dL_refuses_139 : decode cL_refuses 139 = .ok (.iload_n 1, 1) := by decide +kernel
theorem dL_refuses_140 : decode cL_refuses 140 = .ok (.bipush 9, 2) := by decide +kernel
theorem dL_refuses_142 : decode cL_refuses 142 = .ok (.irem, 1) := by decide +kernel
theorem dL_refuses_143 : decode cL_refuses 143 = .ok (.iadd, 1) := by decide +kernel
theorem dL_refuses_144 : decode cL_refuses 144 = .ok (.iconst 0, 1) := by decide +kernel
theorem dL_refuses_145 : decode cL_refuses 145 = .ok (.invokestatic 150, 3) := by decide +kernel
theorem dL_refuses_148 : decode cL_refuses 148 = .ok (.ldc 25, 2) := by decide +kernel
theorem dL_refuses_150 : decode cL_refuses 150 = .ok (.if_icmp .ne 330, 3) := by decide +kernel
theorem dL_refuses_153 : decode cL_refuses 153 = .ok (.aload_n 0, 1) := by decide +kernel
theorem dL_refuses_154 : decode cL_refuses 154 = .ok (.bipush 6, 2) := by decide +kernel
theorem dL_refuses_156 : decode cL_refuses 156 = .ok (.iload_n 2, 1) := by decide +kernel
theorem dL_refuses_157 : decode cL_refuses 157 = .ok (.iconst 0, 1) := by decide +kernel
theorem dL_refuses_158 : decode cL_refuses 158 = .ok (.iconst 0, 1) := by decide +kernel
theorem dL_refuses_159 : decode cL_refuses 159 = .ok (.invokestatic 150, 3) := by decide +kernel
theorem dL_refuses_162 : decode cL_refuses 162 = .ok (.ldc 15, 2) := by decide +kernel
theorem dL_refuses_164 : decode cL_refuses 164 = .ok (.if_icmp .ne 316, 3) := by decide +kernel
theorem dL_refuses_167 : decode cL_refuses 167 = .ok (.aload_n 0, 1) := by decide +kernel
theorem dL_refuses_168 : decode cL_refuses 168 = .ok (.bipush 7, 2) := by decide +kernel
theorem dL_refuses_170 : decode cL_refuses 170 = .ok (.iconst (-1), 1) := by decide +kernel
theorem dL_refuses_171 : decode cL_refuses 171 = .ok (.iload_n 1, 1) := by decide +kernel
theorem dL_refuses_172 : decode cL_refuses 172 = .ok (.bipush 9, 2) := by decide +kernel
theorem dL_refuses_174 : decode cL_refuses 174 = .ok (.irem, 1) := by decide +kernel
theorem dL_refuses_175 : decode cL_refuses 175 = .ok (.isub, 1) := by decide +kernel
theorem dL_refuses_176 : decode cL_refuses 176 = .ok (.iconst 0, 1) := by decide +kernel
theorem dL_refuses_177 : decode cL_refuses 177 = .ok (.iconst 0, 1) := by decide +kernel
theorem dL_refuses_178 : decode cL_refuses 178 = .ok (.invokestatic 150, 3) := by decide +kernel
theorem dL_refuses_181 : decode cL_refuses 181 = .ok (.ldc 15, 2) := by decide +kernel
theorem dL_refuses_183 : decode cL_refuses 183 = .ok (.if_icmp .ne 297, 3) := by decide +kernel
theorem dL_refuses_186 : decode cL_refuses 186 = .ok (.aload_n 0, 1) := by decide +kernel
theorem dL_refuses_187 : decode cL_refuses 187 = .ok (.bipush 8, 2) := by decide +kernel
theorem dL_refuses_189 : decode cL_refuses 189 = .ok (.iconst 2, 1) := by decide +kernel
theorem dL_refuses_190 : decode cL_refuses 190 = .ok (.iload_n 1, 1) := by decide +kernel
theorem dL_refuses_191 : decode cL_refuses 191 = .ok (.bipush 9, 2) := by decide +kernel
theorem dL_refuses_193 : decode cL_refuses 193 = .ok (.irem, 1) := by decide +kernel
theorem dL_refuses_194 : decode cL_refuses 194 = .ok (.iadd, 1) := by decide +kernel
theorem dL_refuses_195 : decode cL_refuses 195 = .ok (.iconst 0, 1) := by decide +kernel
theorem dL_refuses_196 : decode cL_refuses 196 = .ok (.iconst 0, 1) := by decide +kernel
theorem dL_refuses_197 : decode cL_refuses 197 = .ok (.invokestatic 150, 3) := by decide +kernel
theorem dL_refuses_200 : decode cL_refuses 200 = .ok (.ldc 25, 2) := by decide +kernel
theorem dL_refuses_202 : decode cL_refuses 202 = .ok (.if_icmp .ne 278, 3) := by decide +kernel
theorem dL_refuses_205 : decode cL_refuses 205 = .ok (.aload_n 0, 1) := by decide +kernel
theorem dL_refuses_206 : decode cL_refuses 206 = .ok (.bipush 9, 2) := by decide +kernel
theorem dL_refuses_208 : decode cL_refuses 208 = .ok (.iload_n 3, 1) := by decide +kernel
theorem dL_refuses_209 : decode cL_refuses 209 = .ok (.iconst 0, 1) := by decide +kernel
theorem dL_refuses_210 : decode cL_refuses 210 = .ok (.bipush 99, 2) := by decide +kernel
theorem dL_refuses_212 : decode cL_refuses 212 = .ok (.invokestatic 150, 3) := by decide +kernel
theorem dL_refuses_215 : decode cL_refuses 215 = .ok (.ldc 15, 2) := by decide +kernel
theorem dL_refuses_217 : decode cL_refuses 217 = .ok (.if_icmp .ne 263, 3) := by decide +kernel
theorem dL_refuses_220 : decode cL_refuses 220 = .ok (.aload_n 0, 1) := by decide +kernel
theorem dL_refuses_221 : decode cL_refuses 221 = .ok (.bipush 9, 2) := by decide +kernel
theorem dL_refuses_223 : decode cL_refuses 223 = .ok (.iconst 0, 1) := by decide +kernel
theorem dL_refuses_224 : decode cL_refuses 224 = .ok (.iload_n 3, 1) := by decide +kernel
theorem dL_refuses_225 : decode cL_refuses 225 = .ok (.bipush 99, 2) := by decide +kernel
theorem dL_refuses_227 : decode cL_refuses 227 = .ok (.invokestatic 150, 3) := by decide +kernel
theorem dL_refuses_230 : decode cL_refuses 230 = .ok (.ldc 15, 2) := by decide +kernel
theorem dL_refuses_232 : decode cL_refuses 232 = .ok (.if_icmp .ne 248, 3) := by decide +kernel
theorem dL_refuses_235 : decode cL_refuses 235 = .ok (.aload_n 0, 1) := by decide +kernel
theorem dL_refuses_236 : decode cL_refuses 236 = .ok (.bipush 9, 2) := by decide +kernel
theorem dL_refuses_238 : decode cL_refuses 238 = .ok (.iload_n 1, 1) := by decide +kernel
theorem dL_refuses_239 : decode cL_refuses 239 = .ok (.bipush 36, 2) := by decide +kernel
theorem dL_refuses_241 : decode cL_refuses 241 = .ok (.irem, 1) := by decide +kernel
theorem dL_refuses_242 : decode cL_refuses 242 = .ok (.iconst 0, 1) := by decide +kernel
theorem dL_refuses_243 : decode cL_refuses 243 = .ok (.iload_n 1, 1) := by decide +kernel
theorem dL_refuses_244 : decode cL_refuses 244 = .ok (.iconst 2, 1) := by decide +kernel
theorem dL_refuses_245 : decode cL_refuses 245 = .ok (.irem, 1) := by decide +kernel
theorem dL_refuses_246 : decode cL_refuses 246 = .ok (.ifCond .ne 7, 3) := by decide +kernel
theorem dL_refuses_249 : decode cL_refuses 249 = .ok (.iconst 0, 1) := by decide +kernel
theorem dL_refuses_250 : decode cL_refuses 250 = .ok (.goto 10, 3) := by decide +kernel
theorem dL_refuses_253 : decode cL_refuses 253 = .ok (.bipush 10, 2) := by decide +kernel
theorem dL_refuses_255 : decode cL_refuses 255 = .ok (.iload_n 1, 1) := by decide +kernel
theorem dL_refuses_256 : decode cL_refuses 256 = .ok (.bipush 9, 2) := by decide +kernel
theorem dL_refuses_258 : decode cL_refuses 258 = .ok (.irem, 1) := by decide +kernel
theorem dL_refuses_259 : decode cL_refuses 259 = .ok (.iadd, 1) := by decide +kernel
theorem dL_refuses_260 : decode cL_refuses 260 = .ok (.invokestatic 150, 3) := by decide +kernel
theorem dL_refuses_263 : decode cL_refuses 263 = .ok (.ldc 25, 2) := by decide +kernel
theorem dL_refuses_265 : decode cL_refuses 265 = .ok (.if_icmp .ne 215, 3) := by decide +kernel
theorem dL_refuses_268 : decode cL_refuses 268 = .ok (.aload_n 0, 1) := by decide +kernel
theorem dL_refuses_269 : decode cL_refuses 269 = .ok (.bipush 10, 2) := by decide +kernel
theorem dL_refuses_271 : decode cL_refuses 271 = .ok (.iload_n 1, 1) := by decide +kernel
theorem dL_refuses_272 : decode cL_refuses 272 = .ok (.iconst 2, 1) := by decide +kernel
theorem dL_refuses_273 : decode cL_refuses 273 = .ok (.irem, 1) := by decide +kernel
theorem dL_refuses_274 : decode cL_refuses 274 = .ok (.ifCond .ne 7, 3) := by decide +kernel
theorem dL_refuses_277 : decode cL_refuses 277 = .ok (.iconst 0, 1) := by decide +kernel
theorem dL_refuses_278 : decode cL_refuses 278 = .ok (.goto 10, 3) := by decide +kernel
theorem dL_refuses_281 : decode cL_refuses 281 = .ok (.bipush 61, 2) := by decide +kernel
theorem dL_refuses_283 : decode cL_refuses 283 = .ok (.iload_n 1, 1) := by decide +kernel
theorem dL_refuses_284 : decode cL_refuses 284 = .ok (.bipush 9, 2) := by decide +kernel
theorem dL_refuses_286 : decode cL_refuses 286 = .ok (.irem, 1) := by decide +kernel
theorem dL_refuses_287 : decode cL_refuses 287 = .ok (.iadd, 1) := by decide +kernel
theorem dL_refuses_288 : decode cL_refuses 288 = .ok (.iconst 0, 1) := by decide +kernel
theorem dL_refuses_289 : decode cL_refuses 289 = .ok (.iconst 0, 1) := by decide +kernel
theorem dL_refuses_290 : decode cL_refuses 290 = .ok (.invokestatic 150, 3) := by decide +kernel
theorem dL_refuses_293 : decode cL_refuses 293 = .ok (.ldc 25, 2) := by decide +kernel
theorem dL_refuses_295 : decode cL_refuses 295 = .ok (.if_icmp .ne 185, 3) := by decide +kernel
theorem dL_refuses_298 : decode cL_refuses 298 = .ok (.aload_n 0, 1) := by decide +kernel
theorem dL_refuses_299 : decode cL_refuses 299 = .ok (.bipush 11, 2) := by decide +kernel
theorem dL_refuses_301 : decode cL_refuses 301 = .ok (.iconst 3, 1) := by decide +kernel
theorem dL_refuses_302 : decode cL_refuses 302 = .ok (.iload_n 1, 1) := by decide +kernel
theorem dL_refuses_303 : decode cL_refuses 303 = .ok (.bipush 9, 2) := by decide +kernel
theorem dL_refuses_305 : decode cL_refuses 305 = .ok (.irem, 1) := by decide +kernel
theorem dL_refuses_306 : decode cL_refuses 306 = .ok (.iadd, 1) := by decide +kernel
theorem dL_refuses_307 : decode cL_refuses 307 = .ok (.iconst 0, 1) := by decide +kernel
theorem dL_refuses_308 : decode cL_refuses 308 = .ok (.iconst 0, 1) := by decide +kernel
theorem dL_refuses_309 : decode cL_refuses 309 = .ok (.invokestatic 150, 3) := by decide +kernel
theorem dL_refuses_312 : decode cL_refuses 312 = .ok (.ldc 25, 2) := by decide +kernel
theorem dL_refuses_314 : decode cL_refuses 314 = .ok (.if_icmp .ne 166, 3) := by decide +kernel
theorem dL_refuses_317 : decode cL_refuses 317 = .ok (.aload_n 0, 1) := by decide +kernel
theorem dL_refuses_318 : decode cL_refuses 318 = .ok (.iload_n 3, 1) := by decide +kernel
theorem dL_refuses_319 : decode cL_refuses 319 = .ok (.iconst 1, 1) := by decide +kernel
theorem dL_refuses_320 : decode cL_refuses 320 = .ok (.invokestatic 154, 3) := by decide +kernel
theorem dL_refuses_323 : decode cL_refuses 323 = .ok (.ldc 15, 2) := by decide +kernel
theorem dL_refuses_325 : decode cL_refuses 325 = .ok (.if_icmp .ne 155, 3) := by decide +kernel
theorem dL_refuses_328 : decode cL_refuses 328 = .ok (.aload_n 0, 1) := by decide +kernel
theorem dL_refuses_329 : decode cL_refuses 329 = .ok (.bipush 12, 2) := by decide +kernel
theorem dL_refuses_331 : decode cL_refuses 331 = .ok (.iload_n 2, 1) := by decide +kernel
theorem dL_refuses_332 : decode cL_refuses 332 = .ok (.iconst 0, 1) := by decide +kernel
theorem dL_refuses_333 : decode cL_refuses 333 = .ok (.iconst 0, 1) := by decide +kernel
theorem dL_refuses_334 : decode cL_refuses 334 = .ok (.invokestatic 150, 3) := by decide +kernel
theorem dL_refuses_337 : decode cL_refuses 337 = .ok (.ldc 15, 2) := by decide +kernel
theorem dL_refuses_339 : decode cL_refuses 339 = .ok (.if_icmp .ne 141, 3) := by decide +kernel
theorem dL_refuses_342 : decode cL_refuses 342 = .ok (.aload_n 0, 1) := by decide +kernel
theorem dL_refuses_343 : decode cL_refuses 343 = .ok (.bipush 14, 2) := by decide +kernel
theorem dL_refuses_345 : decode cL_refuses 345 = .ok (.iload_n 2, 1) := by decide +kernel
theorem dL_refuses_346 : decode cL_refuses 346 = .ok (.iconst 0, 1) := by decide +kernel
theorem dL_refuses_347 : decode cL_refuses 347 = .ok (.iconst 0, 1) := by decide +kernel
theorem dL_refuses_348 : decode cL_refuses 348 = .ok (.invokestatic 150, 3) := by decide +kernel
theorem dL_refuses_351 : decode cL_refuses 351 = .ok (.ldc 15, 2) := by decide +kernel
theorem dL_refuses_353 : decode cL_refuses 353 = .ok (.if_icmp .ne 127, 3) := by decide +kernel
theorem dL_refuses_356 : decode cL_refuses 356 = .ok (.aload_n 0, 1) := by decide +kernel
theorem dL_refuses_357 : decode cL_refuses 357 = .ok (.bipush 15, 2) := by decide +kernel
theorem dL_refuses_359 : decode cL_refuses 359 = .ok (.iload_n 3, 1) := by decide +kernel
theorem dL_refuses_360 : decode cL_refuses 360 = .ok (.iconst 0, 1) := by decide +kernel
theorem dL_refuses_361 : decode cL_refuses 361 = .ok (.iconst 0, 1) := by decide +kernel
theorem dL_refuses_362 : decode cL_refuses 362 = .ok (.invokestatic 150, 3) := by decide +kernel
theorem dL_refuses_365 : decode cL_refuses 365 = .ok (.ldc 15, 2) := by decide +kernel
theorem dL_refuses_367 : decode cL_refuses 367 = .ok (.if_icmp .ne 113, 3) := by decide +kernel
theorem dL_refuses_370 : decode cL_refuses 370 = .ok (.aload_n 0, 1) := by decide +kernel
theorem dL_refuses_371 : decode cL_refuses 371 = .ok (.bipush 15, 2) := by decide +kernel
theorem dL_refuses_373 : decode cL_refuses 373 = .ok (.iconst 0, 1) := by decide +kernel
theorem dL_refuses_374 : decode cL_refuses 374 = .ok (.iload_n 1, 1) := by decide +kernel
theorem dL_refuses_375 : decode cL_refuses 375 = .ok (.bipush 36, 2) := by decide +kernel
theorem dL_refuses_377 : decode cL_refuses 377 = .ok (.irem, 1) := by decide +kernel
theorem dL_refuses_378 : decode cL_refuses 378 = .ok (.bipush 10, 2) := by decide +kernel
theorem dL_refuses_380 : decode cL_refuses 380 = .ok (.iload_n 1, 1) := by decide +kernel
theorem dL_refuses_381 : decode cL_refuses 381 = .ok (.bipush 9, 2) := by decide +kernel
theorem dL_refuses_383 : decode cL_refuses 383 = .ok (.irem, 1) := by decide +kernel
theorem dL_refuses_384 : decode cL_refuses 384 = .ok (.iadd, 1) := by decide +kernel
theorem dL_refuses_385 : decode cL_refuses 385 = .ok (.invokestatic 150, 3) := by decide +kernel
theorem dL_refuses_388 : decode cL_refuses 388 = .ok (.ldc 25, 2) := by decide +kernel
theorem dL_refuses_390 : decode cL_refuses 390 = .ok (.if_icmp .ne 90, 3) := by decide +kernel
theorem dL_refuses_393 : decode cL_refuses 393 = .ok (.aload_n 0, 1) := by decide +kernel
theorem dL_refuses_394 : decode cL_refuses 394 = .ok (.bipush 16, 2) := by decide +kernel
theorem dL_refuses_396 : decode cL_refuses 396 = .ok (.iconst 2, 1) := by decide +kernel
theorem dL_refuses_397 : decode cL_refuses 397 = .ok (.iload_n 1, 1) := by decide +kernel
theorem dL_refuses_398 : decode cL_refuses 398 = .ok (.bipush 50, 2) := by decide +kernel
theorem dL_refuses_400 : decode cL_refuses 400 = .ok (.irem, 1) := by decide +kernel
theorem dL_refuses_401 : decode cL_refuses 401 = .ok (.iadd, 1) := by decide +kernel
theorem dL_refuses_402 : decode cL_refuses 402 = .ok (.iconst 0, 1) := by decide +kernel
theorem dL_refuses_403 : decode cL_refuses 403 = .ok (.iconst 0, 1) := by decide +kernel
theorem dL_refuses_404 : decode cL_refuses 404 = .ok (.invokestatic 150, 3) := by decide +kernel
theorem dL_refuses_407 : decode cL_refuses 407 = .ok (.ldc 15, 2) := by decide +kernel
theorem dL_refuses_409 : decode cL_refuses 409 = .ok (.if_icmp .ne 71, 3) := by decide +kernel
theorem dL_refuses_412 : decode cL_refuses 412 = .ok (.aload_n 0, 1) := by decide +kernel
theorem dL_refuses_413 : decode cL_refuses 413 = .ok (.bipush 17, 2) := by decide +kernel
theorem dL_refuses_415 : decode cL_refuses 415 = .ok (.iconst (-1), 1) := by decide +kernel
theorem dL_refuses_416 : decode cL_refuses 416 = .ok (.iload_n 1, 1) := by decide +kernel
theorem dL_refuses_417 : decode cL_refuses 417 = .ok (.bipush 9, 2) := by decide +kernel
theorem dL_refuses_419 : decode cL_refuses 419 = .ok (.irem, 1) := by decide +kernel
theorem dL_refuses_420 : decode cL_refuses 420 = .ok (.isub, 1) := by decide +kernel
theorem dL_refuses_421 : decode cL_refuses 421 = .ok (.iconst 0, 1) := by decide +kernel
theorem dL_refuses_422 : decode cL_refuses 422 = .ok (.iconst 0, 1) := by decide +kernel
theorem dL_refuses_423 : decode cL_refuses 423 = .ok (.invokestatic 150, 3) := by decide +kernel
theorem dL_refuses_426 : decode cL_refuses 426 = .ok (.ldc 15, 2) := by decide +kernel
theorem dL_refuses_428 : decode cL_refuses 428 = .ok (.if_icmp .ne 52, 3) := by decide +kernel
theorem dL_refuses_431 : decode cL_refuses 431 = .ok (.aload_n 0, 1) := by decide +kernel
theorem dL_refuses_432 : decode cL_refuses 432 = .ok (.iconst 0, 1) := by decide +kernel
theorem dL_refuses_433 : decode cL_refuses 433 = .ok (.lconst 0, 1) := by decide +kernel
theorem dL_refuses_434 : decode cL_refuses 434 = .ok (.invokestatic 158, 3) := by decide +kernel
theorem dL_refuses_437 : decode cL_refuses 437 = .ok (.ldc 25, 2) := by decide +kernel
theorem dL_refuses_439 : decode cL_refuses 439 = .ok (.if_icmp .ne 41, 3) := by decide +kernel
theorem dL_refuses_442 : decode cL_refuses 442 = .ok (.aload_n 0, 1) := by decide +kernel
theorem dL_refuses_443 : decode cL_refuses 443 = .ok (.iconst 1, 1) := by decide +kernel
theorem dL_refuses_444 : decode cL_refuses 444 = .ok (.ldc2_w 162, 3) := by decide +kernel
theorem dL_refuses_447 : decode cL_refuses 447 = .ok (.iload_n 1, 1) := by decide +kernel
theorem dL_refuses_448 : decode cL_refuses 448 = .ok (.i2l, 1) := by decide +kernel
theorem dL_refuses_449 : decode cL_refuses 449 = .ok (.ladd, 1) := by decide +kernel
theorem dL_refuses_450 : decode cL_refuses 450 = .ok (.invokestatic 158, 3) := by decide +kernel
theorem dL_refuses_453 : decode cL_refuses 453 = .ok (.ldc 25, 2) := by decide +kernel
theorem dL_refuses_455 : decode cL_refuses 455 = .ok (.if_icmp .ne 25, 3) := by decide +kernel
theorem dL_refuses_458 : decode cL_refuses 458 = .ok (.aload_n 0, 1) := by decide +kernel
theorem dL_refuses_459 : decode cL_refuses 459 = .ok (.iload_n 1, 1) := by decide +kernel
theorem dL_refuses_460 : decode cL_refuses 460 = .ok (.i2l, 1) := by decide +kernel
theorem dL_refuses_461 : decode cL_refuses 461 = .ok (.bipush 61, 2) := by decide +kernel
theorem dL_refuses_463 : decode cL_refuses 463 = .ok (.iload_n 1, 1) := by decide +kernel
theorem dL_refuses_464 : decode cL_refuses 464 = .ok (.bipush 9, 2) := by decide +kernel
theorem dL_refuses_466 : decode cL_refuses 466 = .ok (.irem, 1) := by decide +kernel
theorem dL_refuses_467 : decode cL_refuses 467 = .ok (.iadd, 1) := by decide +kernel
theorem dL_refuses_468 : decode cL_refuses 468 = .ok (.invokestatic 164, 3) := by decide +kernel
theorem dL_refuses_471 : decode cL_refuses 471 = .ok (.ldc 25, 2) := by decide +kernel
theorem dL_refuses_473 : decode cL_refuses 473 = .ok (.if_icmp .ne 7, 3) := by decide +kernel
theorem dL_refuses_476 : decode cL_refuses 476 = .ok (.iconst 1, 1) := by decide +kernel
theorem dL_refuses_477 : decode cL_refuses 477 = .ok (.goto 4, 3) := by decide +kernel
theorem dL_refuses_480 : decode cL_refuses 480 = .ok (.iconst 0, 1) := by decide +kernel
theorem dL_refuses_481 : decode cL_refuses 481 = .ok (.ireturn, 1) := by decide +kernel
set_option maxRecDepth 20000 in
theorem gsL_holds_L_call_h : GoodIn wsL_holds [.code yL_call cL_call 5 (some .int)] := goodIn_r _ [5] (by decide +kernel) (by decide +kernel)
set_option maxRecDepth 20000 in
theorem gsL_holds_L_call_0 : GoodIn wsL_holds wsL_call_r1 := goodIn_r _ [6, 7, 4, 8, 9, 10, 11, 12, 13, 14, 15, 16, 17, 18, 19, 20, 21, 22, 23, 24, 25, 26, 27, 28] (by decide +kernel) (by decide +kernel)
set_option maxRecDepth 20000 in
theorem gsL_holds_L_call_1 : GoodIn wsL_holds wsL_call_r2 := goodIn_r _ [29, 30, 31, 32, 33, 34, 35, 36, 37, 38, 39, 40, 41, 42, 43, 44, 45, 46, 47, 48, 49, 50, 51, 52] (by decide +kernel) (by decide +kernel)
set_option maxRecDepth 20000 in
theorem gsL_holds_L_call_2 : GoodIn wsL_holds wsL_call_r3 := goodIn_r _ [53, 54, 55, 56, 57, 58, 59, 60, 61, 62, 63, 64, 65, 66, 67, 68, 69, 70, 71, 72, 73, 74, 75, 76] (by decide +kernel) (by decide +kernel)
set_option maxRecDepth 20000 in
theorem gsL_holds_L_call_3 : GoodIn wsL_holds wsL_call_r4 := goodIn_r _ [77, 78, 79, 80, 81, 82, 83, 84, 85, 86, 87, 88, 89, 90, 91, 92, 93, 94, 95, 96, 97, 98, 99, 100] (by decide +kernel) (by decide +kernel)
set_option maxRecDepth 20000 in
theorem gsL_holds_L_call_4 : GoodIn wsL_holds wsL_call_r5 := goodIn_r _ [101, 102, 103, 104, 105, 106, 107, 108, 109, 110, 111, 112, 113, 114, 115, 116, 117, 118, 119, 120, 121, 122, 123, 124] (by decide +kernel) (by decide +kernel)
set_option maxRecDepth 20000 in
theorem gsL_holds_L_call_5 : GoodIn wsL_holds wsL_call_r6 := goodIn_r _ [125, 126, 127, 128, 129, 130, 131, 132, 133, 134, 135, 136, 137, 138, 139, 140, 141, 142, 143, 144, 145, 146, 147, 148] (by decide +kernel) (by decide +kernel)
set_option maxRecDepth 20000 in
theorem gsL_holds_L_call_6 : GoodIn wsL_holds wsL_call_r7 := goodIn_r _ [149, 150, 151, 152, 153, 154, 155, 156, 157, 158, 159, 160, 161, 162, 163, 164, 165, 166, 167, 168, 169, 170, 171, 172] (by decide +kernel) (by decide +kernel)
set_option maxRecDepth 20000 in
theorem gsL_holds_L_call_7 : GoodIn wsL_holds wsL_call_r8 := goodIn_r _ [173, 174, 175, 176, 177, 178, 179, 180, 181, 182, 183, 184, 185, 186, 187, 188, 189, 190, 191, 192, 193, 194, 195, 196] (by decide +kernel) (by decide +kernel)
set_option maxRecDepth 20000 in
theorem gsL_holds_L_call_8 : GoodIn wsL_holds wsL_call_r9 := goodIn_r _ [197, 198, 199, 200, 201, 202, 203, 204, 205, 206, 207, 208, 209, 210, 211, 212, 213, 214, 215, 216, 217, 218, 219, 220] (by decide +kernel) (by decide +kernel)
set_option maxRecDepth 20000 in
theorem gsL_holds_L_call_9 : GoodIn wsL_holds wsL_call_r10 := goodIn_r _ [221, 222, 223, 224, 225, 226, 227, 228, 229, 230, 231, 232, 233, 234, 235, 236, 237, 238, 239, 240, 241, 242, 243, 244] (by decide +kernel) (by decide +kernel)
set_option maxRecDepth 20000 in
theorem gsL_holds_L_call_10 : GoodIn wsL_holds wsL_call_r11 := goodIn_r _ [245, 246, 247, 248, 249, 250, 251, 252, 253, 254, 255, 256, 257, 258, 259, 260, 261, 262, 263, 264, 265, 266, 267, 268] (by decide +kernel) (by decide +kernel)
set_option maxRecDepth 20000 in
theorem gsL_holds_L_call_11 : GoodIn wsL_holds wsL_call_r12 := goodIn_r _ [269, 270, 271, 272, 273, 274, 275, 276, 277, 278, 279, 280, 281, 282, 283, 284, 285, 286, 287, 288, 289, 290, 291, 292] (by decide +kernel) (by decide +kernel)
set_option maxRecDepth 20000 in
theorem gsL_holds_L_call_12 : GoodIn wsL_holds wsL_call_r13 := goodIn_r _ [293, 294, 295, 296, 297, 298, 299, 300, 301, 302, 303, 304, 305, 306, 307, 308, 309, 310, 311, 312, 313, 314, 315, 316] (by decide +kernel) (by decide +kernel)
set_option maxRecDepth 20000 in
theorem gsL_holds_L_call_13 : GoodIn wsL_holds wsL_call_r14 := goodIn_r _ [317, 318, 319, 320, 321, 322, 323, 324, 325, 326, 327, 328, 329, 330, 331, 332, 333, 334, 335, 336, 337, 338, 339, 340] (by decide +kernel) (by decide +kernel)
set_option maxRecDepth 20000 in
theorem gsL_holds_L_call_14 : GoodIn wsL_holds wsL_call_r15 := goodIn_r _ [341, 342, 343, 344, 345, 346, 347, 348, 349, 350, 351, 352, 353, 354, 355, 356, 357, 358, 359, 360, 361, 362, 363, 364] (by decide +kernel) (by decide +kernel)
set_option maxRecDepth 20000 in
theorem gsL_holds_L_call_15 : GoodIn wsL_holds wsL_call_r16 := goodIn_r _ [365, 366, 367, 368, 369, 370, 371, 372, 373, 374, 375, 376, 377, 378, 379, 380, 381, 382, 383, 384, 385, 386, 387, 388] (by decide +kernel) (by decide +kernel)
set_option maxRecDepth 20000 in
theorem gsL_holds_L_call_16 : GoodIn wsL_holds wsL_call_r17 := goodIn_r _ [389, 390, 391, 392, 393, 394, 395, 396, 397, 398, 399, 400, 401, 402, 403, 404, 405, 406, 407, 408, 409, 410, 411, 412] (by decide +kernel) (by decide +kernel)
set_option maxRecDepth 20000 in
theorem gsL_holds_L_call_17 : GoodIn wsL_holds wsL_call_r18 := goodIn_r _ [413, 414, 415, 416, 417, 418, 419, 420, 421, 422, 423, 424, 425, 426, 427, 428, 429, 430, 431, 432, 433, 434, 435, 436] (by decide +kernel) (by decide +kernel)
set_option maxRecDepth 20000 in
theorem gsL_holds_L_call_18 : GoodIn wsL_holds wsL_call_r19 := goodIn_r _ [437, 438, 439, 440, 441, 442, 443, 444, 445, 446, 447, 448, 449, 450, 451, 452, 453, 454, 455, 456, 457, 458, 459, 460] (by decide +kernel) (by decide +kernel)
set_option maxRecDepth 20000 in
theorem gsL_holds_L_call_19 : GoodIn wsL_holds wsL_call_r20 := goodIn_r _ [461, 462, 463, 464, 465] (by decide +kernel) (by decide +kernel)
set_option maxRecDepth 20000 in
theorem gsL_holds_L_call_wsX30 : GoodIn wsL_holds wsX30 := goodIn_r _ [473, 474, 475, 476, 477, 478, 479, 480] (by decide +kernel) (by decide +kernel)
set_option maxRecDepth 20000 in
theorem gsL_holds_L_call_wsX20 : GoodIn wsL_holds wsX20 := goodIn_r _ [481, 482] (by decide +kernel) (by decide +kernel)
set_option maxRecDepth 20000 in
theorem gsL_holds_L_call_wsX00 : GoodIn wsL_holds wsX00 := goodIn_r _ [483] (by decide +kernel) (by decide +kernel)
set_option maxRecDepth 20000 in
theorem gsL_holds_L_call_wsX10 : GoodIn wsL_holds wsX10 := goodIn_r _ [484] (by decide +kernel) (by decide +kernel)
theorem gsL_holds_L_call_b : GoodIn wsL_holds (.code yL_call cL_call 5 (some .int) :: ((wsL_call_r1 ++ (wsL_call_r2 ++ (wsL_call_r3 ++ (wsL_call_r4 ++ (wsL_call_r5 ++ (wsL_call_r6 ++ (wsL_call_r7 ++ (wsL_call_r8 ++ (wsL_call_r9 ++ (wsL_call_r10 ++ (wsL_call_r11 ++ (wsL_call_r12 ++ (wsL_call_r13 ++ (wsL_call_r14 ++ (wsL_call_r15 ++ (wsL_call_r16 ++ (wsL_call_r17 ++ (wsL_call_r18 ++ (wsL_call_r19 ++ wsL_call_r20))))))))))))))))))) ++ wsX30 ++ wsX20 ++ wsX00 ++ wsX10)) := goodIn_cons gsL_holds_L_call_h (goodIn_app (goodIn_app (goodIn_app (goodIn_app (goodIn_app gsL_holds_L_call_0 (goodIn_app gsL_holds_L_call_1 (goodIn_app gsL_holds_L_call_2 (goodIn_app gsL_holds_L_call_3 (goodIn_app gsL_holds_L_call_4 (goodIn_app gsL_holds_L_call_5 (goodIn_app gsL_holds_L_call_6 (goodIn_app gsL_holds_L_call_7 (goodIn_app gsL_holds_L_call_8 (goodIn_app gsL_holds_L_call_9 (goodIn_app gsL_holds_L_call_10 (goodIn_app gsL_holds_L_call_11 (goodIn_app gsL_holds_L_call_12 (goodIn_app gsL_holds_L_call_13 (goodIn_app gsL_holds_L_call_14 (goodIn_app gsL_holds_L_call_15 (goodIn_app gsL_holds_L_call_16 (goodIn_app gsL_holds_L_call_17 (goodIn_app gsL_holds_L_call_18 gsL_holds_L_call_19))))))))))))))))))) gsL_holds_L_call_wsX30) gsL_holds_L_call_wsX20) gsL_holds_L_call_wsX00) gsL_holds_L_call_wsX10)
set_option maxRecDepth 20000 in
theorem ggL_holds_L_call : GoodIn wsL_holds wsL_call := goodIn_ca (goodIn_ca (goodIn_ca gsL_holds_L_call_b (goodIn_sub (fun _ h => List.mem_cons_of_mem _ (List.mem_append_left _ (List.mem_append_left _ (List.mem_append_right _ h)))) (by decide +kernel))) (goodIn_sub (fun _ h => List.mem_cons_of_mem _ (List.mem_append_left _ (List.mem_append_right _ h))) (by decide +kernel))) (goodIn_sub (fun _ h => List.mem_cons_of_mem _ (List.mem_append_right _ h)) (by decide +kernel))
set_option maxRecDepth 20000 in
theorem gL_holds_L_call : GoodIn wsL_holds (va_wsS RL 150 yL_call wsL_call) := goodIn_app (goodIn_of _ (by decide +kernel)) ggL_holds_L_call
set_option maxRecDepth 20000 in
theorem ggL_holds_L_near : GoodIn wsL_holds wsL_near := goodIn_r _ [468] (by decide +kernel) (by decide +kernel)
set_option maxRecDepth 20000 in
theorem gL_holds_L_near : GoodIn wsL_holds (va_wsS RL 168 yL_near wsL_near) := goodIn_app (goodIn_of _ (by decide +kernel)) ggL_holds_L_near
set_option maxRecDepth 20000 in
theorem ggL_holds_X3_throughIn : GoodIn wsL_holds wsX3_throughIn := goodIn_r _ [472, 45, 430, 431, 432, 16, 433, 425, 434, 435, 436, 119, 437, 121, 371, 372, 373, 374, 438, 439, 440, 441, 442, 256, 257, 258, 180, 181, 182, 183, 184, 185, 186, 187, 443, 173, 174, 175, 176, 177, 178, 179, 188, 189, 190, 191, 192, 193, 194, 195, 196, 197, 198, 199, 200, 201, 202, 203, 204, 205, 162, 163, 164, 165, 206, 207, 208, 209, 210, 211, 212, 213, 214, 215, 216, 217, 218, 219, 220, 221, 473, 474, 475, 476, 477, 478, 479, 480, 483] (by decide +kernel) (by decide +kernel)
set_option maxRecDepth 20000 in
theorem gL_holds_X3_throughIn : GoodIn wsL_holds (wsV RL 172 RX3 yX3_throughIn wsX3_throughIn) := goodIn_app (goodIn_of _ (by decide +kernel)) ggL_holds_X3_throughIn
theorem dL_holds_0 : decode cL_holds 0 = .ok (.aload_n 0, 1) := by decide +kernel
theorem dL_holds_1 : decode cL_holds 1 = .ok (.iconst 2, 1) := by decide +kernel
theorem dL_holds_2 : decode cL_holds 2 = .ok (.iconst 0, 1) := by decide +kernel
theorem dL_holds_3 : decode cL_holds 3 = .ok (.iconst 0, 1) := by decide +kernel
theorem dL_holds_4 : decode cL_holds 4 = .ok (.iconst 0, 1) := by decide +kernel
theorem dL_holds_5 : decode cL_holds 5 = .ok (.invokestatic 150, 3) := by decide +kernel
theorem dL_holds_8 : decode cL_holds 8 = .ok (.istore_n 1, 1) := by decide +kernel
theorem dL_holds_9 : decode cL_holds 9 = .ok (.iconst 0, 1) := by decide +kernel
theorem dL_holds_10 : decode cL_holds 10 = .ok (.istore_n 2, 1) := by decide +kernel
theorem dL_holds_11 : decode cL_holds 11 = .ok (.iconst 0, 1) := by decide +kernel
theorem dL_holds_12 : decode cL_holds 12 = .ok (.istore_n 3, 1) := by decide +kernel
theorem dL_holds_13 : decode cL_holds 13 = .ok (.iconst 0, 1) := by decide +kernel
theorem dL_holds_14 : decode cL_holds 14 = .ok (.istore 4, 2) := by decide +kernel
theorem dL_holds_16 : decode cL_holds 16 = .ok (.iconst 0, 1) := by decide +kernel
theorem dL_holds_17 : decode cL_holds 17 = .ok (.istore 5, 2) := by decide +kernel
theorem dL_holds_19 : decode cL_holds 19 = .ok (.iload_n 1, 1) := by decide +kernel
theorem dL_holds_20 : decode cL_holds 20 = .ok (.bipush 10, 2) := by decide +kernel
theorem dL_holds_22 : decode cL_holds 22 = .ok (.if_icmp .gt 7, 3) := by decide +kernel
theorem dL_holds_25 : decode cL_holds 25 = .ok (.iconst 1, 1) := by decide +kernel
theorem dL_holds_26 : decode cL_holds 26 = .ok (.goto 4, 3) := by decide +kernel
theorem dL_holds_29 : decode cL_holds 29 = .ok (.iconst 0, 1) := by decide +kernel
theorem dL_holds_30 : decode cL_holds 30 = .ok (.istore 6, 2) := by decide +kernel
theorem dL_holds_32 : decode cL_holds 32 = .ok (.iconst 0, 1) := by decide +kernel
theorem dL_holds_33 : decode cL_holds 33 = .ok (.istore 7, 2) := by decide +kernel
theorem dL_holds_35 : decode cL_holds 35 = .ok (.iload 7, 2) := by decide +kernel
theorem dL_holds_37 : decode cL_holds 37 = .ok (.bipush 36, 2) := by decide +kernel
theorem dL_holds_39 : decode cL_holds 39 = .ok (.if_icmp .ge 89, 3) := by decide +kernel
theorem dL_holds_42 : decode cL_holds 42 = .ok (.iload 6, 2) := by decide +kernel
theorem dL_holds_44 : decode cL_holds 44 = .ok (.ifCond .eq 84, 3) := by decide +kernel
theorem dL_holds_47 : decode cL_holds 47 = .ok (.aload_n 0, 1) := by decide +kernel
theorem dL_holds_48 : decode cL_holds 48 = .ok (.iconst 5, 1) := by decide +kernel
theorem dL_holds_49 : decode cL_holds 49 = .ok (.iload 7, 2) := by decide +kernel
theorem dL_holds_51 : decode cL_holds 51 = .ok (.iconst 0, 1) := by decide +kernel
theorem dL_holds_52 : decode cL_holds 52 = .ok (.iconst 0, 1) := by decide +kernel
theorem dL_holds_53 : decode cL_holds 53 = .ok (.invokestatic 150, 3) := by decide +kernel
theorem dL_holds_56 : decode cL_holds 56 = .ok (.istore 8, 2) := by decide +kernel
theorem dL_holds_58 : decode cL_holds 58 = .ok (.iload_n 2, 1) := by decide +kernel
theorem dL_holds_59 : decode cL_holds 59 = .ok (.iload 8, 2) := by decide +kernel
theorem dL_holds_61 : decode cL_holds 61 = .ok (.iconst (-1), 1) := by decide +kernel
theorem dL_holds_62 : decode cL_holds 62 = .ok (.if_icmp .ne 7, 3) := by decide +kernel
theorem dL_holds_65 : decode cL_holds 65 = .ok (.iconst 0, 1) := by decide +kernel
theorem dL_holds_66 : decode cL_holds 66 = .ok (.goto 4, 3) := by decide +kernel
theorem dL_holds_69 : decode cL_holds 69 = .ok (.iconst 1, 1) := by decide +kernel
theorem dL_holds_70 : decode cL_holds 70 = .ok (.iadd, 1) := by decide +kernel
theorem dL_holds_71 : decode cL_holds 71 = .ok (.istore_n 2, 1) := by decide +kernel
theorem dL_holds_72 : decode cL_holds 72 = .ok (.iload_n 3, 1) := by decide +kernel
theorem dL_holds_73 : decode cL_holds 73 = .ok (.aload_n 0, 1) := by decide +kernel
theorem dL_holds_74 : decode cL_holds 74 = .ok (.iconst 5, 1) := by decide +kernel
theorem dL_holds_75 : decode cL_holds 75 = .ok (.iload 7, 2) := by decide +kernel
theorem dL_holds_77 : decode cL_holds 77 = .ok (.iconst 1, 1) := by decide +kernel
theorem dL_holds_78 : decode cL_holds 78 = .ok (.iconst 0, 1) := by decide +kernel
theorem dL_holds_79 : decode cL_holds 79 = .ok (.invokestatic 150, 3) := by decide +kernel
theorem dL_holds_82 : decode cL_holds 82 = .ok (.iadd, 1) := by decide +kernel
theorem dL_holds_83 : decode cL_holds 83 = .ok (.istore_n 3, 1) := by decide +kernel
theorem dL_holds_84 : decode cL_holds 84 = .ok (.iload 8, 2) := by decide +kernel
theorem dL_holds_86 : decode cL_holds 86 = .ok (.iconst (-1), 1) := by decide +kernel
theorem dL_holds_87 : decode cL_holds 87 = .ok (.if_icmp .eq 28, 3) := by decide +kernel
theorem dL_holds_90 : decode cL_holds 90 = .ok (.aload_n 0, 1) := by decide +kernel
theorem dL_holds_91 : decode cL_holds 91 = .ok (.iconst 3, 1) := by decide +kernel
theorem dL_holds_92 : decode cL_holds 92 = .ok (.iload 8, 2) := by decide +kernel
theorem dL_holds_94 : decode cL_holds 94 = .ok (.iconst 0, 1) := by decide +kernel
theorem dL_holds_95 : decode cL_holds 95 = .ok (.iconst 0, 1) := by decide +kernel
theorem dL_holds_96 : decode cL_holds 96 = .ok (.invokestatic 150, 3) := by decide +kernel
theorem dL_holds_99 : decode cL_holds 99 = .ok (.iconst 1, 1) := by decide +kernel
theorem dL_holds_100 : decode cL_holds 100 = .ok (.if_icmp .ne 19, 3) := by decide +kernel
theorem dL_holds_103 : decode cL_holds 103 = .ok (.aload_n 0, 1) := by decide +kernel
theorem dL_holds_104 : decode cL_holds 104 = .ok (.iconst 5, 1) := by decide +kernel
theorem dL_holds_105 : decode cL_holds 105 = .ok (.iload 7, 2) := by decide +kernel
theorem dL_holds_107 : decode cL_holds 107 = .ok (.iconst 1, 1) := by decide +kernel
theorem dL_holds_108 : decode cL_holds 108 = .ok (.iconst 0, 1) := by decide +kernel
theorem dL_holds_109 : decode cL_holds 109 = .ok (.invokestatic 150, 3) := by decide +kernel
theorem dL_holds_112 : decode cL_holds 112 = .ok (.ifCond .ne 7, 3) := by decide +kernel
theorem dL_holds_115 : decode cL_holds 115 = .ok (.iconst 1, 1) := by decide +kernel
theorem dL_holds_116 : decode cL_holds 116 = .ok (.goto 4, 3) := by decide +kernel
theorem dL_holds_119 : decode cL_holds 119 = .ok (.iconst 0, 1) := by decide +kernel
theorem dL_holds_120 : decode cL_holds 120 = .ok (.istore 6, 2) := by decide +kernel
theorem dL_holds_122 : decode cL_holds 122 = .ok (.iinc 7 1, 3) := by decide +kernel
theorem dL_holds_125 : decode cL_holds 125 = .ok (.goto (-90), 3) := by decide +kernel
theorem dL_holds_128 : decode cL_holds 128 = .ok (.iconst 4, 1) := by decide +kernel
theorem dL_holds_129 : decode cL_holds 129 = .ok (.newarray .int, 2) := by decide +kernel
theorem dL_holds_131 : decode cL_holds 131 = .ok (.astore 7, 2) := by decide +kernel
theorem dL_holds_133 : decode cL_holds 133 = .ok (.iconst 0, 1) := by decide +kernel
theorem dL_holds_134 : decode cL_holds 134 = .ok (.istore 8, 2) := by decide +kernel
theorem dL_holds_136 : decode cL_holds 136 = .ok (.iload 8, 2) := by decide +kernel
theorem dL_holds_138 : decode cL_holds 138 = .ok (.iload_n 1, 1) := by decide +kernel
theorem dL_holds_139 : decode cL_holds 139 = .ok (.if_icmp .ge 548, 3) := by decide +kernel
theorem dL_holds_142 : decode cL_holds 142 = .ok (.iload 6, 2) := by decide +kernel
theorem dL_holds_144 : decode cL_holds 144 = .ok (.ifCond .eq 543, 3) := by decide +kernel
theorem dL_holds_147 : decode cL_holds 147 = .ok (.aload_n 0, 1) := by decide +kernel
theorem dL_holds_148 : decode cL_holds 148 = .ok (.iconst 3, 1) := by decide +kernel
theorem dL_holds_149 : decode cL_holds 149 = .ok (.iload 8, 2) := by decide +kernel
theorem dL_holds_151 : decode cL_holds 151 = .ok (.iconst 0, 1) := by decide +kernel
theorem dL_holds_152 : decode cL_holds 152 = .ok (.iconst 0, 1) := by decide +kernel
theorem dL_holds_153 : decode cL_holds 153 = .ok (.invokestatic 150, 3) := by decide +kernel
theorem dL_holds_156 : decode cL_holds 156 = .ok (.istore 9, 2) := by decide +kernel
theorem dL_holds_158 : decode cL_holds 158 = .ok (.aload_n 0, 1) := by decide +kernel
theorem dL_holds_159 : decode cL_holds 159 = .ok (.iconst 3, 1) := by decide +kernel
theorem dL_holds_160 : decode cL_holds 160 = .ok (.iload 8, 2) := by decide +kernel
theorem dL_holds_162 : decode cL_holds 162 = .ok (.iconst 1, 1) := by decide +kernel
theorem dL_holds_163 : decode cL_holds 163 = .ok (.iconst 0, 1) := by decide +kernel
theorem dL_holds_164 : decode cL_holds 164 = .ok (.invokestatic 150, 3) := by decide +kernel
theorem dL_holds_167 : decode cL_holds 167 = .ok (.istore 10, 2) := by decide +kernel
theorem dL_holds_169 : decode cL_holds 169 = .ok (.aload_n 0, 1) := by decide +kernel
theorem dL_holds_170 : decode cL_holds 170 = .ok (.iconst 3, 1) := by decide +kernel
theorem dL_holds_171 : decode cL_holds 171 = .ok (.iload 8, 2) := by decide +kernel
theorem dL_holds_173 : decode cL_holds 173 = .ok (.iconst 2, 1) := by decide +kernel
theorem dL_holds_174 : decode cL_holds 174 = .ok (.iconst 0, 1) := by decide +kernel
theorem dL_holds_175 : decode cL_holds 175 = .ok (.invokestatic 150, 3) := by decide +kernel
theorem dL_holds_178 : decode cL_holds 178 = .ok (.istore 11, 2) := by decide +kernel
theorem dL_holds_180 : decode cL_holds 180 = .ok (.aload_n 0, 1) := by decide +kernel
theorem dL_holds_181 : decode cL_holds 181 = .ok (.iconst 3, 1) := by decide +kernel
theorem dL_holds_182 : decode cL_holds 182 = .ok (.iload 8, 2) := by decide +kernel
theorem dL_holds_184 : decode cL_holds 184 = .ok (.iconst 3, 1) := by decide +kernel
theorem dL_holds_185 : decode cL_holds 185 = .ok (.iconst 0, 1) := by decide +kernel
theorem dL_holds_186 : decode cL_holds 186 = .ok (.invokestatic 150, 3) := by decide +kernel
theorem dL_holds_189 : decode cL_holds 189 = .ok (.istore 12, 2) := by decide +kernel
theorem dL_holds_191 : decode cL_holds 191 = .ok (.aload_n 0, 1) := by decide +kernel
theorem dL_holds_192 : decode cL_holds 192 = .ok (.iconst 3, 1) := by decide +kernel
theorem dL_holds_193 : decode cL_holds 193 = .ok (.iload 8, 2) := by decide +kernel
theorem dL_holds_195 : decode cL_holds 195 = .ok (.bipush 8, 2) := by decide +kernel
theorem dL_holds_197 : decode cL_holds 197 = .ok (.iconst 0, 1) := by decide +kernel
theorem dL_holds_198 : decode cL_holds 198 = .ok (.invokestatic 150, 3) := by decide +kernel
theorem dL_holds_201 : decode cL_holds 201 = .ok (.istore 13, 2) := by decide +kernel
theorem dL_holds_203 : decode cL_holds 203 = .ok (.aload 7, 2) := by decide +kernel
theorem dL_holds_205 : decode cL_holds 205 = .ok (.iload 9, 2) := by decide +kernel
theorem dL_holds_207 : decode cL_holds 207 = .ok (.dup2, 1) := by decide +kernel
theorem dL_holds_208 : decode cL_holds 208 = .ok (.iaload, 1) := by decide +kernel
theorem dL_holds_209 : decode cL_holds 209 = .ok (.iconst 1, 1) := by decide +kernel
theorem dL_holds_210 : decode cL_holds 210 = .ok (.iadd, 1) := by decide +kernel
theorem dL_holds_211 : decode cL_holds 211 = .ok (.iastore, 1) := by decide +kernel
theorem dL_holds_212 : decode cL_holds 212 = .ok (.iload 5, 2) := by decide +kernel
theorem dL_holds_214 : decode cL_holds 214 = .ok (.iload 10, 2) := by decide +kernel
theorem dL_holds_216 : decode cL_holds 216 = .ok (.iadd, 1) := by decide +kernel
theorem dL_holds_217 : decode cL_holds 217 = .ok (.istore 5, 2) := by decide +kernel
theorem dL_holds_219 : decode cL_holds 219 = .ok (.iload 4, 2) := by decide +kernel
theorem dL_holds_221 : decode cL_holds 221 = .ok (.aload_n 0, 1) := by decide +kernel
theorem dL_holds_222 : decode cL_holds 222 = .ok (.iconst 3, 1) := by decide +kernel
theorem dL_holds_223 : decode cL_holds 223 = .ok (.iload 8, 2) := by decide +kernel
theorem dL_holds_225 : decode cL_holds 225 = .ok (.iconst 4, 1) := by decide +kernel
theorem dL_holds_226 : decode cL_holds 226 = .ok (.iconst 0, 1) := by decide +kernel
theorem dL_holds_227 : decode cL_holds 227 = .ok (.invokestatic 150, 3) := by decide +kernel
theorem dL_holds_230 : decode cL_holds 230 = .ok (.iadd, 1) := by decide +kernel
theorem dL_holds_231 : decode cL_holds 231 = .ok (.istore 4, 2) := by decide +kernel
theorem dL_holds_233 : decode cL_holds 233 = .ok (.iload 9, 2) := by decide +kernel
theorem dL_holds_235 : decode cL_holds 235 = .ok (.iconst 3, 1) := by decide +kernel
theorem dL_holds_236 : decode cL_holds 236 = .ok (.if_icmp .ne 14, 3) := by decide +kernel
theorem dL_holds_239 : decode cL_holds 239 = .ok (.iload 10, 2) := by decide +kernel
theorem dL_holds_241 : decode cL_holds 241 = .ok (.iload 11, 2) := by decide +kernel
theorem dL_holds_243 : decode cL_holds 243 = .ok (.iadd, 1) := by decide +kernel
theorem dL_holds_244 : decode cL_holds 244 = .ok (.ifCond .ne 125, 3) := by decide +kernel
theorem dL_holds_247 : decode cL_holds 247 = .ok (.goto 16, 3) := by decide +kernel
theorem dL_holds_250 : decode cL_holds 250 = .ok (.iload 10, 2) := by decide +kernel
theorem dL_holds_252 : decode cL_holds 252 = .ok (.iload 11, 2) := by decide +kernel
theorem dL_holds_254 : decode cL_holds 254 = .ok (.iadd, 1) := by decide +kernel
theorem dL_holds_255 : decode cL_holds 255 = .ok (.iload 12, 2) := by decide +kernel
theorem dL_holds_257 : decode cL_holds 257 = .ok (.iadd, 1) := by decide +kernel
theorem dL_holds_258 : decode cL_holds 258 = .ok (.iload 13, 2) := by decide +kernel
theorem dL_holds_260 : decode cL_holds 260 = .ok (.if_icmp .ne 109, 3) := by decide +kernel
theorem dL_holds_263 : decode cL_holds 263 = .ok (.iload 9, 2) := by decide +kernel
theorem dL_holds_265 : decode cL_holds 265 = .ok (.iconst 2, 1) := by decide +kernel
theorem dL_holds_266 : decode cL_holds 266 = .ok (.if_icmp .ne 7, 3) := by decide +kernel
theorem dL_holds_269 : decode cL_holds 269 = .ok (.iconst 1, 1) := by decide +kernel
theorem dL_holds_270 : decode cL_holds 270 = .ok (.goto 4, 3) := by decide +kernel
theorem dL_holds_273 : decode cL_holds 273 = .ok (.iconst 0, 1) := by decide +kernel
theorem dL_holds_274 : decode cL_holds 274 = .ok (.iload 12, 2) := by decide +kernel
theorem dL_holds_276 : decode cL_holds 276 = .ok (.iload 13, 2) := by decide +kernel
theorem dL_holds_278 : decode cL_holds 278 = .ok (.if_icmp .ne 7, 3) := by decide +kernel
theorem dL_holds_281 : decode cL_holds 281 = .ok (.iconst 1, 1) := by decide +kernel
theorem dL_holds_282 : decode cL_holds 282 = .ok (.goto 4, 3) := by decide +kernel
theorem dL_holds_285 : decode cL_holds 285 = .ok (.iconst 0, 1) := by decide +kernel
theorem dL_holds_286 : decode cL_holds 286 = .ok (.if_icmp .ne 83, 3) := by decide +kernel
theorem dL_holds_289 : decode cL_holds 289 = .ok (.iload 9, 2) := by decide +kernel
theorem dL_holds_291 : decode cL_holds 291 = .ok (.iconst 1, 1) := by decide +kernel
theorem dL_holds_292 : decode cL_holds 292 = .ok (.if_icmp .ne 7, 3) := by decide +kernel
theorem dL_holds_295 : decode cL_holds 295 = .ok (.iconst 1, 1) := by decide +kernel
theorem dL_holds_296 : decode cL_holds 296 = .ok (.goto 4, 3) := by decide +kernel
theorem dL_holds_299 : decode cL_holds 299 = .ok (.iconst 0, 1) := by decide +kernel
theorem dL_holds_300 : decode cL_holds 300 = .ok (.iload 10, 2) := by decide +kernel
theorem dL_holds_302 : decode cL_holds 302 = .ok (.ifCond .le 7, 3) := by decide +kernel
theorem dL_holds_305 : decode cL_holds 305 = .ok (.iconst 1, 1) := by decide +kernel
theorem dL_holds_306 : decode cL_holds 306 = .ok (.goto 4, 3) := by decide +kernel
theorem dL_holds_309 : decode cL_holds 309 = .ok (.iconst 0, 1) := by decide +kernel
theorem dL_holds_310 : decode cL_holds 310 = .ok (.if_icmp .ne 59, 3) := by decide +kernel
theorem dL_holds_313 : decode cL_holds 313 = .ok (.aload_n 0, 1) := by decide +kernel
theorem dL_holds_314 : decode cL_holds 314 = .ok (.iconst 3, 1) := by decide +kernel
theorem dL_holds_315 : decode cL_holds 315 = .ok (.iload 8, 2) := by decide +kernel
theorem dL_holds_317 : decode cL_holds 317 = .ok (.iconst 5, 1) := by decide +kernel
theorem dL_holds_318 : decode cL_holds 318 = .ok (.iconst 0, 1) := by decide +kernel
theorem dL_holds_319 : decode cL_holds 319 = .ok (.invokestatic 150, 3) := by decide +kernel
theorem dL_holds_322 : decode cL_holds 322 = .ok (.iconst (-1), 1) := by decide +kernel
theorem dL_holds_323 : decode cL_holds 323 = .ok (.if_icmp .eq 7, 3) := by decide +kernel
theorem dL_holds_326 : decode cL_holds 326 = .ok (.iconst 1, 1) := by decide +kernel
theorem dL_holds_327 : decode cL_holds 327 = .ok (.goto 4, 3) := by decide +kernel
theorem dL_holds_330 : decode cL_holds 330 = .ok (.iconst 0, 1) := by decide +kernel
theorem dL_holds_331 : decode cL_holds 331 = .ok (.iload 9, 2) := by decide +kernel
theorem dL_holds_333 : decode cL_holds 333 = .ok (.iconst 2, 1) := by decide +kernel
theorem dL_holds_334 : decode cL_holds 334 = .ok (.if_icmp .ne 7, 3) := by decide +kernel
theorem dL_holds_337 : decode cL_holds 337 = .ok (.iconst 1, 1) := by decide +kernel
theorem dL_holds_338 : decode cL_holds 338 = .ok (.goto 4, 3) := by decide +kernel
theorem dL_holds_341 : decode cL_holds 341 = .ok (.iconst 0, 1) := by decide +kernel
theorem dL_holds_342 : decode cL_holds 342 = .ok (.if_icmp .ne 27, 3) := by decide +kernel
theorem dL_holds_345 : decode cL_holds 345 = .ok (.aload_n 0, 1) := by decide +kernel
theorem dL_holds_346 : decode cL_holds 346 = .ok (.iconst 3, 1) := by decide +kernel
theorem dL_holds_347 : decode cL_holds 347 = .ok (.iload 8, 2) := by decide +kernel
theorem dL_holds_349 : decode cL_holds 349 = .ok (.iconst 4, 1) := by decide +kernel
theorem dL_holds_350 : decode cL_holds 350 = .ok (.iconst 0, 1) := by decide +kernel
theorem dL_holds_351 : decode cL_holds 351 = .ok (.invokestatic 150, 3) := by decide +kernel
theorem dL_holds_354 : decode cL_holds 354 = .ok (.aload_n 0, 1) := by decide +kernel
theorem dL_holds_355 : decode cL_holds 355 = .ok (.iconst 2, 1) := by decide +kernel
theorem dL_holds_356 : decode cL_holds 356 = .ok (.iconst 5, 1) := by decide +kernel
theorem dL_holds_357 : decode cL_holds 357 = .ok (.iconst 0, 1) := by decide +kernel
theorem dL_holds_358 : decode cL_holds 358 = .ok (.iconst 0, 1) := by decide +kernel
theorem dL_holds_359 : decode cL_holds 359 = .ok (.invokestatic 150, 3) := by decide +kernel
theorem dL_holds_362 : decode cL_holds 362 = .ok (.if_icmp .gt 7, 3) := by decide +kernel
theorem dL_holds_365 : decode cL_holds 365 = .ok (.iconst 1, 1) := by decide +kernel
theorem dL_holds_366 : decode cL_holds 366 = .ok (.goto 4, 3) := by decide +kernel
theorem dL_holds_369 : decode cL_holds 369 = .ok (.iconst 0, 1) := by decide +kernel
theorem dL_holds_370 : decode cL_holds 370 = .ok (.istore 6, 2) := by decide +kernel
theorem dL_holds_372 : decode cL_holds 372 = .ok (.iconst 0, 1) := by decide +kernel
theorem dL_holds_373 : decode cL_holds 373 = .ok (.istore 14, 2) := by decide +kernel
theorem dL_holds_375 : decode cL_holds 375 = .ok (.iload 14, 2) := by decide +kernel
theorem dL_holds_377 : decode cL_holds 377 = .ok (.iload 10, 2) := by decide +kernel
theorem dL_holds_379 : decode cL_holds 379 = .ok (.if_icmp .ge 72, 3) := by decide +kernel
theorem dL_holds_382 : decode cL_holds 382 = .ok (.iload 6, 2) := by decide +kernel
theorem dL_holds_384 : decode cL_holds 384 = .ok (.ifCond .eq 67, 3) := by decide +kernel
theorem dL_holds_387 : decode cL_holds 387 = .ok (.aload_n 0, 1) := by decide +kernel
theorem dL_holds_388 : decode cL_holds 388 = .ok (.iconst 4, 1) := by decide +kernel
theorem dL_holds_389 : decode cL_holds 389 = .ok (.iload 8, 2) := by decide +kernel
theorem dL_holds_391 : decode cL_holds 391 = .ok (.iload 14, 2) := by decide +kernel
theorem dL_holds_393 : decode cL_holds 393 = .ok (.iconst 0, 1) := by decide +kernel
theorem dL_holds_394 : decode cL_holds 394 = .ok (.invokestatic 150, 3) := by decide +kernel
theorem dL_holds_397 : decode cL_holds 397 = .ok (.istore 15, 2) := by decide +kernel
theorem dL_holds_399 : decode cL_holds 399 = .ok (.aload_n 0, 1) := by decide +kernel
theorem dL_holds_400 : decode cL_holds 400 = .ok (.iconst 5, 1) := by decide +kernel
theorem dL_holds_401 : decode cL_holds 401 = .ok (.iload 15, 2) := by decide +kernel
theorem dL_holds_403 : decode cL_holds 403 = .ok (.iconst 0, 1) := by decide +kernel
theorem dL_holds_404 : decode cL_holds 404 = .ok (.iconst 0, 1) := by decide +kernel
theorem dL_holds_405 : decode cL_holds 405 = .ok (.invokestatic 150, 3) := by decide +kernel
theorem dL_holds_408 : decode cL_holds 408 = .ok (.iload 8, 2) := by decide +kernel
theorem dL_holds_410 : decode cL_holds 410 = .ok (.if_icmp .ne 32, 3) := by decide +kernel
theorem dL_holds_413 : decode cL_holds 413 = .ok (.iload 14, 2) := by decide +kernel
theorem dL_holds_415 : decode cL_holds 415 = .ok (.ifCond .eq 23, 3) := by decide +kernel
theorem dL_holds_418 : decode cL_holds 418 = .ok (.iload 15, 2) := by decide +kernel
theorem dL_holds_420 : decode cL_holds 420 = .ok (.aload_n 0, 1) := by decide +kernel
theorem dL_holds_421 : decode cL_holds 421 = .ok (.iconst 4, 1) := by decide +kernel
theorem dL_holds_422 : decode cL_holds 422 = .ok (.iload 8, 2) := by decide +kernel
theorem dL_holds_424 : decode cL_holds 424 = .ok (.iload 14, 2) := by decide +kernel
theorem dL_holds_426 : decode cL_holds 426 = .ok (.iconst 1, 1) := by decide +kernel
theorem dL_holds_427 : decode cL_holds 427 = .ok (.isub, 1) := by decide +kernel
theorem dL_holds_428 : decode cL_holds 428 = .ok (.iconst 0, 1) := by decide +kernel
theorem dL_holds_429 : decode cL_holds 429 = .ok (.invokestatic 150, 3) := by decide +kernel
theorem dL_holds_432 : decode cL_holds 432 = .ok (.invokestatic 168, 3) := by decide +kernel
theorem dL_holds_435 : decode cL_holds 435 = .ok (.ifCond .eq 7, 3) := by decide +kernel
theorem dL_holds_438 : decode cL_holds 438 = .ok (.iconst 1, 1) := by decide +kernel
theorem dL_holds_439 : decode cL_holds 439 = .ok (.goto 4, 3) := by decide +kernel
theorem dL_holds_442 : decode cL_holds 442 = .ok (.iconst 0, 1) := by decide +kernel
theorem dL_holds_443 : decode cL_holds 443 = .ok (.istore 6, 2) := by decide +kernel
theorem dL_holds_445 : decode cL_holds 445 = .ok (.iinc 14 1, 3) := by decide +kernel
theorem dL_holds_448 : decode cL_holds 448 = .ok (.goto (-73), 3) := by decide +kernel
theorem dL_holds_451 : decode cL_holds 451 = .ok (.iload 6, 2) := by decide +kernel
theorem dL_holds_453 : decode cL_holds 453 = .ok (.ifCond .eq 76, 3) := by decide +kernel
theorem dL_holds_456 : decode cL_holds 456 = .ok (.iload 9, 2) := by decide +kernel
theorem dL_holds_458 : decode cL_holds 458 = .ok (.iconst 1, 1) := by decide +kernel
theorem dL_holds_459 : decode cL_holds 459 = .ok (.if_icmp .ne 33, 3) := by decide +kernel
theorem dL_holds_462 : decode cL_holds 462 = .ok (.iload 11, 2) := by decide +kernel
theorem dL_holds_464 : decode cL_holds 464 = .ok (.ifCond .eq 28, 3) := by decide +kernel
theorem dL_holds_467 : decode cL_holds 467 = .ok (.aload_n 0, 1) := by decide +kernel
theorem dL_holds_468 : decode cL_holds 468 = .ok (.iconst 4, 1) := by decide +kernel
theorem dL_holds_469 : decode cL_holds 469 = .ok (.iload 8, 2) := by decide +kernel
theorem dL_holds_471 : decode cL_holds 471 = .ok (.iload 10, 2) := by decide +kernel
theorem dL_holds_473 : decode cL_holds 473 = .ok (.iconst 1, 1) := by decide +kernel
theorem dL_holds_474 : decode cL_holds 474 = .ok (.isub, 1) := by decide +kernel
theorem dL_holds_475 : decode cL_holds 475 = .ok (.iconst 0, 1) := by decide +kernel
theorem dL_holds_476 : decode cL_holds 476 = .ok (.invokestatic 150, 3) := by decide +kernel
theorem dL_holds_479 : decode cL_holds 479 = .ok (.aload_n 0, 1) := by decide +kernel
theorem dL_holds_480 : decode cL_holds 480 = .ok (.iconst 3, 1) := by decide +kernel
theorem dL_holds_481 : decode cL_holds 481 = .ok (.iload 8, 2) := by decide +kernel
theorem dL_holds_483 : decode cL_holds 483 = .ok (.bipush 6, 2) := by decide +kernel
theorem dL_holds_485 : decode cL_holds 485 = .ok (.iconst 0, 1) := by decide +kernel
theorem dL_holds_486 : decode cL_holds 486 = .ok (.invokestatic 150, 3) := by decide +kernel
theorem dL_holds_489 : decode cL_holds 489 = .ok (.if_icmp .ne 40, 3) := by decide +kernel
theorem dL_holds_492 : decode cL_holds 492 = .ok (.iload 9, 2) := by decide +kernel
theorem dL_holds_494 : decode cL_holds 494 = .ok (.iconst 1, 1) := by decide +kernel
theorem dL_holds_495 : decode cL_holds 495 = .ok (.if_icmp .ne 30, 3) := by decide +kernel
theorem dL_holds_498 : decode cL_holds 498 = .ok (.iload 12, 2) := by decide +kernel
theorem dL_holds_500 : decode cL_holds 500 = .ok (.ifCond .eq 25, 3) := by decide +kernel
theorem dL_holds_503 : decode cL_holds 503 = .ok (.aload_n 0, 1) := by decide +kernel
theorem dL_holds_504 : decode cL_holds 504 = .ok (.iconst 4, 1) := by decide +kernel
theorem dL_holds_505 : decode cL_holds 505 = .ok (.iload 8, 2) := by decide +kernel
theorem dL_holds_507 : decode cL_holds 507 = .ok (.iconst 0, 1) := by decide +kernel
theorem dL_holds_508 : decode cL_holds 508 = .ok (.iconst 0, 1) := by decide +kernel
theorem dL_holds_509 : decode cL_holds 509 = .ok (.invokestatic 150, 3) := by decide +kernel
theorem dL_holds_512 : decode cL_holds 512 = .ok (.aload_n 0, 1) := by decide +kernel
theorem dL_holds_513 : decode cL_holds 513 = .ok (.iconst 3, 1) := by decide +kernel
theorem dL_holds_514 : decode cL_holds 514 = .ok (.iload 8, 2) := by decide +kernel
theorem dL_holds_516 : decode cL_holds 516 = .ok (.bipush 7, 2) := by decide +kernel
theorem dL_holds_518 : decode cL_holds 518 = .ok (.iconst 0, 1) := by decide +kernel
theorem dL_holds_519 : decode cL_holds 519 = .ok (.invokestatic 150, 3) := by decide +kernel
theorem dL_holds_522 : decode cL_holds 522 = .ok (.if_icmp .ne 7, 3) := by decide +kernel
theorem dL_holds_525 : decode cL_holds 525 = .ok (.iconst 1, 1) := by decide +kernel
theorem dL_holds_526 : decode cL_holds 526 = .ok (.goto 4, 3) := by decide +kernel
theorem dL_holds_529 : decode cL_holds 529 = .ok (.iconst 0, 1) := by decide +kernel
theorem dL_holds_530 : decode cL_holds 530 = .ok (.istore 6, 2) := by decide +kernel
theorem dL_holds_532 : decode cL_holds 532 = .ok (.aload_n 0, 1) := by decide +kernel
theorem dL_holds_533 : decode cL_holds 533 = .ok (.bipush 6, 2) := by decide +kernel
theorem dL_holds_535 : decode cL_holds 535 = .ok (.iload 8, 2) := by decide +kernel
theorem dL_holds_537 : decode cL_holds 537 = .ok (.iconst 0, 1) := by decide +kernel
theorem dL_holds_538 : decode cL_holds 538 = .ok (.iconst 0, 1) := by decide +kernel
theorem dL_holds_539 : decode cL_holds 539 = .ok (.invokestatic 150, 3) := by decide +kernel
theorem dL_holds_542 : decode cL_holds 542 = .ok (.istore 14, 2) := by decide +kernel
theorem dL_holds_544 : decode cL_holds 544 = .ok (.aload_n 0, 1) := by decide +kernel
theorem dL_holds_545 : decode cL_holds 545 = .ok (.bipush 7, 2) := by decide +kernel
theorem dL_holds_547 : decode cL_holds 547 = .ok (.iload 8, 2) := by decide +kernel
theorem dL_holds_549 : decode cL_holds 549 = .ok (.iconst 0, 1) := by decide +kernel
theorem dL_holds_550 : decode cL_holds 550 = .ok (.iconst 0, 1) := by decide +kernel
theorem dL_holds_551 : decode cL_holds 551 = .ok (.invokestatic 150, 3) := by decide +kernel
theorem dL_holds_554 : decode cL_holds 554 = .ok (.istore 15, 2) := by decide +kernel
theorem dL_holds_556 : decode cL_holds 556 = .ok (.iload 6, 2) := by decide +kernel
theorem dL_holds_558 : decode cL_holds 558 = .ok (.ifCond .eq 120, 3) := by decide +kernel
theorem dL_holds_561 : decode cL_holds 561 = .ok (.iload 14, 2) := by decide +kernel
theorem dL_holds_563 : decode cL_holds 563 = .ok (.iconst (-1), 1) := by decide +kernel
theorem dL_holds_564 : decode cL_holds 564 = .ok (.if_icmp .ne 7, 3) := by decide +kernel
theorem dL_holds_567 : decode cL_holds 567 = .ok (.iconst 1, 1) := by decide +kernel
theorem dL_holds_568 : decode cL_holds 568 = .ok (.goto 4, 3) := by decide +kernel
theorem dL_holds_571 : decode cL_holds 571 = .ok (.iconst 0, 1) := by decide +kernel
theorem dL_holds_572 : decode cL_holds 572 = .ok (.iload 9, 2) := by decide +kernel
theorem dL_holds_574 : decode cL_holds 574 = .ok (.iconst 1, 1) := by decide +kernel
theorem dL_holds_575 : decode cL_holds 575 = .ok (.if_icmp .gt 31, 3) := by decide +kernel
theorem dL_holds_578 : decode cL_holds 578 = .ok (.iload 9, 2) := by decide +kernel
theorem dL_holds_580 : decode cL_holds 580 = .ok (.iconst 1, 1) := by decide +kernel
theorem dL_holds_581 : decode cL_holds 581 = .ok (.if_icmp .ne 29, 3) := by decide +kernel
theorem dL_holds_584 : decode cL_holds 584 = .ok (.aload_n 0, 1) := by decide +kernel
theorem dL_holds_585 : decode cL_holds 585 = .ok (.iconst 4, 1) := by decide +kernel
theorem dL_holds_586 : decode cL_holds 586 = .ok (.iload 8, 2) := by decide +kernel
theorem dL_holds_588 : decode cL_holds 588 = .ok (.iconst 0, 1) := by decide +kernel
theorem dL_holds_589 : decode cL_holds 589 = .ok (.iconst 0, 1) := by decide +kernel
theorem dL_holds_590 : decode cL_holds 590 = .ok (.invokestatic 150, 3) := by decide +kernel
theorem dL_holds_593 : decode cL_holds 593 = .ok (.aload_n 0, 1) := by decide +kernel
theorem dL_holds_594 : decode cL_holds 594 = .ok (.iconst 3, 1) := by decide +kernel
theorem dL_holds_595 : decode cL_holds 595 = .ok (.iload 8, 2) := by decide +kernel
theorem dL_holds_597 : decode cL_holds 597 = .ok (.bipush 7, 2) := by decide +kernel
theorem dL_holds_599 : decode cL_holds 599 = .ok (.iconst 0, 1) := by decide +kernel
theorem dL_holds_600 : decode cL_holds 600 = .ok (.invokestatic 150, 3) := by decide +kernel
theorem dL_holds_603 : decode cL_holds 603 = .ok (.if_icmp .ne 7, 3) := by decide +kernel
theorem dL_holds_606 : decode cL_holds 606 = .ok (.iconst 1, 1) := by decide +kernel
theorem dL_holds_607 : decode cL_holds 607 = .ok (.goto 4, 3) := by decide +kernel
theorem dL_holds_610 : decode cL_holds 610 = .ok (.iconst 0, 1) := by decide +kernel
theorem dL_holds_611 : decode cL_holds 611 = .ok (.if_icmp .ne 67, 3) := by decide +kernel
theorem dL_holds_614 : decode cL_holds 614 = .ok (.iload 15, 2) := by decide +kernel
theorem dL_holds_616 : decode cL_holds 616 = .ok (.iload 14, 2) := by decide +kernel
theorem dL_holds_618 : decode cL_holds 618 = .ok (.iconst (-1), 1) := by decide +kernel
theorem dL_holds_619 : decode cL_holds 619 = .ok (.if_icmp .ne 7, 3) := by decide +kernel
theorem dL_holds_622 : decode cL_holds 622 = .ok (.iconst (-1), 1) := by decide +kernel
theorem dL_holds_623 : decode cL_holds 623 = .ok (.goto 12, 3) := by decide +kernel
theorem dL_holds_626 : decode cL_holds 626 = .ok (.aload_n 0, 1) := by decide +kernel
theorem dL_holds_627 : decode cL_holds 627 = .ok (.iconst 5, 1) := by decide +kernel
theorem dL_holds_628 : decode cL_holds 628 = .ok (.iload 14, 2) := by decide +kernel
theorem dL_holds_630 : decode cL_holds 630 = .ok (.iconst 0, 1) := by decide +kernel
theorem dL_holds_631 : decode cL_holds 631 = .ok (.iconst 0, 1) := by decide +kernel
theorem dL_holds_632 : decode cL_holds 632 = .ok (.invokestatic 150, 3) := by decide +kernel
theorem dL_holds_635 : decode cL_holds 635 = .ok (.if_icmp .ne 43, 3) := by decide +kernel
theorem dL_holds_638 : decode cL_holds 638 = .ok (.iload 15, 2) := by decide +kernel
theorem dL_holds_640 : decode cL_holds 640 = .ok (.iload 8, 2) := by decide +kernel
theorem dL_holds_642 : decode cL_holds 642 = .ok (.if_icmp .eq 36, 3) := by decide +kernel
theorem dL_holds_645 : decode cL_holds 645 = .ok (.iload 9, 2) := by decide +kernel
theorem dL_holds_647 : decode cL_holds 647 = .ok (.iconst 1, 1) := by decide +kernel
theorem dL_holds_648 : decode cL_holds 648 = .ok (.if_icmp .ne 26, 3) := by decide +kernel
theorem dL_holds_651 : decode cL_holds 651 = .ok (.iload 14, 2) := by decide +kernel
theorem dL_holds_653 : decode cL_holds 653 = .ok (.iconst (-1), 1) := by decide +kernel
theorem dL_holds_654 : decode cL_holds 654 = .ok (.if_icmp .eq 20, 3) := by decide +kernel
theorem dL_holds_657 : decode cL_holds 657 = .ok (.iload 14, 2) := by decide +kernel
theorem dL_holds_659 : decode cL_holds 659 = .ok (.aload_n 0, 1) := by decide +kernel
theorem dL_holds_660 : decode cL_holds 660 = .ok (.iconst 4, 1) := by decide +kernel
theorem dL_holds_661 : decode cL_holds 661 = .ok (.iload 8, 2) := by decide +kernel
theorem dL_holds_663 : decode cL_holds 663 = .ok (.iconst 0, 1) := by decide +kernel
theorem dL_holds_664 : decode cL_holds 664 = .ok (.iconst 0, 1) := by decide +kernel
theorem dL_holds_665 : decode cL_holds 665 = .ok (.invokestatic 150, 3) := by decide +kernel
theorem dL_holds_668 : decode cL_holds 668 = .ok (.invokestatic 168, 3) := by decide +kernel
theorem dL_holds_671 : decode cL_holds 671 = .ok (.ifCond .eq 7, 3) := by decide +kernel
theorem dL_holds_674 : decode cL_holds 674 = .ok (.iconst 1, 1) := by decide +kernel
theorem dL_holds_675 : decode cL_holds 675 = .ok (.goto 4, 3) := by decide +kernel
theorem dL_holds_678 : decode cL_holds 678 = .ok (.iconst 0, 1) := by decide +kernel
theorem dL_holds_679 : decode cL_holds 679 = .ok (.istore 6, 2) := by decide +kernel
theorem dL_holds_681 : decode cL_holds 681 = .ok (.iinc 8 1, 3) := by decide +kernel
theorem dL_holds_684 : decode cL_holds 684 = .ok (.goto (-548), 3) := by decide +kernel
theorem dL_holds_687 : decode cL_holds 687 = .ok (.aload_n 0, 1) := by decide +kernel
theorem dL_holds_688 : decode cL_holds 688 = .ok (.bipush 8, 2) := by decide +kernel
theorem dL_holds_690 : decode cL_holds 690 = .ok (.iconst 0, 1) := by decide +kernel
theorem dL_holds_691 : decode cL_holds 691 = .ok (.iconst 0, 1) := by decide +kernel
theorem dL_holds_692 : decode cL_holds 692 = .ok (.iconst 0, 1) := by decide +kernel
theorem dL_holds_693 : decode cL_holds 693 = .ok (.invokestatic 150, 3) := by decide +kernel
theorem dL_holds_696 : decode cL_holds 696 = .ok (.istore 8, 2) := by decide +kernel
theorem dL_holds_698 : decode cL_holds 698 = .ok (.aload_n 0, 1) := by decide +kernel
theorem dL_holds_699 : decode cL_holds 699 = .ok (.bipush 8, 2) := by decide +kernel
theorem dL_holds_701 : decode cL_holds 701 = .ok (.iconst 1, 1) := by decide +kernel
theorem dL_holds_702 : decode cL_holds 702 = .ok (.iconst 0, 1) := by decide +kernel
theorem dL_holds_703 : decode cL_holds 703 = .ok (.iconst 0, 1) := by decide +kernel
theorem dL_holds_704 : decode cL_holds 704 = .ok (.invokestatic 150, 3) := by decide +kernel
theorem dL_holds_707 : decode cL_holds 707 = .ok (.istore 9, 2) := by decide +kernel
theorem dL_holds_709 : decode cL_holds 709 = .ok (.iload 8, 2) := by decide +kernel
theorem dL_holds_711 : decode cL_holds 711 = .ok (.istore 10, 2) := by decide +kernel
theorem dL_holds_713 : decode cL_holds 713 = .ok (.iconst 0, 1) := by decide +kernel
theorem dL_holds_714 : decode cL_holds 714 = .ok (.istore 11, 2) := by decide +kernel
theorem dL_holds_716 : decode cL_holds 716 = .ok (.iload 11, 2) := by decide +kernel
theorem dL_holds_718 : decode cL_holds 718 = .ok (.iload 9, 2) := by decide +kernel
theorem dL_holds_720 : decode cL_holds 720 = .ok (.if_icmp .ge 89, 3) := by decide +kernel
theorem dL_holds_723 : decode cL_holds 723 = .ok (.iload 6, 2) := by decide +kernel
theorem dL_holds_725 : decode cL_holds 725 = .ok (.ifCond .eq 84, 3) := by decide +kernel
theorem dL_holds_728 : decode cL_holds 728 = .ok (.aload_n 0, 1) := by decide +kernel
theorem dL_holds_729 : decode cL_holds 729 = .ok (.bipush 7, 2) := by decide +kernel
theorem dL_holds_731 : decode cL_holds 731 = .ok (.iload 10, 2) := by decide +kernel
theorem dL_holds_733 : decode cL_holds 733 = .ok (.iconst 0, 1) := by decide +kernel
theorem dL_holds_734 : decode cL_holds 734 = .ok (.iconst 0, 1) := by decide +kernel
theorem dL_holds_735 : decode cL_holds 735 = .ok (.invokestatic 150, 3) := by decide +kernel
theorem dL_holds_738 : decode cL_holds 738 = .ok (.istore 10, 2) := by decide +kernel
theorem dL_holds_740 : decode cL_holds 740 = .ok (.iload 10, 2) := by decide +kernel
theorem dL_holds_742 : decode cL_holds 742 = .ok (.iconst (-1), 1) := by decide +kernel
theorem dL_holds_743 : decode cL_holds 743 = .ok (.if_icmp .eq 57, 3) := by decide +kernel
theorem dL_holds_746 : decode cL_holds 746 = .ok (.iload 10, 2) := by decide +kernel
theorem dL_holds_748 : decode cL_holds 748 = .ok (.iload 8, 2) := by decide +kernel
theorem dL_holds_750 : decode cL_holds 750 = .ok (.if_icmp .gt 19, 3) := by decide +kernel
theorem dL_holds_753 : decode cL_holds 753 = .ok (.iload 11, 2) := by decide +kernel
theorem dL_holds_755 : decode cL_holds 755 = .ok (.iload 9, 2) := by decide +kernel
theorem dL_holds_757 : decode cL_holds 757 = .ok (.iconst 1, 1) := by decide +kernel
theorem dL_holds_758 : decode cL_holds 758 = .ok (.isub, 1) := by decide +kernel
theorem dL_holds_759 : decode cL_holds 759 = .ok (.if_icmp .ne 41, 3) := by decide +kernel
theorem dL_holds_762 : decode cL_holds 762 = .ok (.iload 10, 2) := by decide +kernel
theorem dL_holds_764 : decode cL_holds 764 = .ok (.iload 8, 2) := by decide +kernel
theorem dL_holds_766 : decode cL_holds 766 = .ok (.if_icmp .ne 34, 3) := by decide +kernel
theorem dL_holds_769 : decode cL_holds 769 = .ok (.aload_n 0, 1) := by decide +kernel
theorem dL_holds_770 : decode cL_holds 770 = .ok (.iconst 2, 1) := by decide +kernel
theorem dL_holds_771 : decode cL_holds 771 = .ok (.bipush 8, 2) := by decide +kernel
theorem dL_holds_773 : decode cL_holds 773 = .ok (.iconst 0, 1) := by decide +kernel
theorem dL_holds_774 : decode cL_holds 774 = .ok (.iconst 0, 1) := by decide +kernel
theorem dL_holds_775 : decode cL_holds 775 = .ok (.invokestatic 150, 3) := by decide +kernel
theorem dL_holds_778 : decode cL_holds 778 = .ok (.iconst 2, 1) := by decide +kernel
theorem dL_holds_779 : decode cL_holds 779 = .ok (.if_icmp .eq 17, 3) := by decide +kernel
theorem dL_holds_782 : decode cL_holds 782 = .ok (.aload_n 0, 1) := by decide +kernel
theorem dL_holds_783 : decode cL_holds 783 = .ok (.bipush 14, 2) := by decide +kernel
theorem dL_holds_785 : decode cL_holds 785 = .ok (.iload 10, 2) := by decide +kernel
theorem dL_holds_787 : decode cL_holds 787 = .ok (.iconst 0, 1) := by decide +kernel
theorem dL_holds_788 : decode cL_holds 788 = .ok (.iconst 0, 1) := by decide +kernel
theorem dL_holds_789 : decode cL_holds 789 = .ok (.invokestatic 150, 3) := by decide +kernel
theorem dL_holds_792 : decode cL_holds 792 = .ok (.iconst (-1), 1) := by decide +kernel
theorem dL_holds_793 : decode cL_holds 793 = .ok (.if_icmp .ne 7, 3) := by decide +kernel
theorem dL_holds_796 : decode cL_holds 796 = .ok (.iconst 1, 1) := by decide +kernel
theorem dL_holds_797 : decode cL_holds 797 = .ok (.goto 4, 3) := by decide +kernel
theorem dL_holds_800 : decode cL_holds 800 = .ok (.iconst 0, 1) := by decide +kernel
theorem dL_holds_801 : decode cL_holds 801 = .ok (.istore 6, 2) := by decide +kernel
theorem dL_holds_803 : decode cL_holds 803 = .ok (.iinc 11 1, 3) := by decide +kernel
theorem dL_holds_806 : decode cL_holds 806 = .ok (.goto (-90), 3) := by decide +kernel
theorem dL_holds_809 : decode cL_holds 809 = .ok (.iload 6, 2) := by decide +kernel
theorem dL_holds_811 : decode cL_holds 811 = .ok (.ifCond .eq 171, 3) := by decide +kernel
theorem dL_holds_814 : decode cL_holds 814 = .ok (.iload 8, 2) := by decide +kernel
theorem dL_holds_816 : decode cL_holds 816 = .ok (.iconst (-1), 1) := by decide +kernel
theorem dL_holds_817 : decode cL_holds 817 = .ok (.if_icmp .ne 7, 3) := by decide +kernel
theorem dL_holds_820 : decode cL_holds 820 = .ok (.iconst 1, 1) := by decide +kernel
theorem dL_holds_821 : decode cL_holds 821 = .ok (.goto 4, 3) := by decide +kernel
theorem dL_holds_824 : decode cL_holds 824 = .ok (.iconst 0, 1) := by decide +kernel
theorem dL_holds_825 : decode cL_holds 825 = .ok (.iload 9, 2) := by decide +kernel
theorem dL_holds_827 : decode cL_holds 827 = .ok (.iconst (-1), 1) := by decide +kernel
theorem dL_holds_828 : decode cL_holds 828 = .ok (.if_icmp .ne 7, 3) := by decide +kernel
theorem dL_holds_831 : decode cL_holds 831 = .ok (.iconst 1, 1) := by decide +kernel
theorem dL_holds_832 : decode cL_holds 832 = .ok (.goto 4, 3) := by decide +kernel
theorem dL_holds_835 : decode cL_holds 835 = .ok (.iconst 0, 1) := by decide +kernel
theorem dL_holds_836 : decode cL_holds 836 = .ok (.if_icmp .ne 146, 3) := by decide +kernel
theorem dL_holds_839 : decode cL_holds 839 = .ok (.iload 9, 2) := by decide +kernel
theorem dL_holds_841 : decode cL_holds 841 = .ok (.iconst 1, 1) := by decide +kernel
theorem dL_holds_842 : decode cL_holds 842 = .ok (.if_icmp .eq 140, 3) := by decide +kernel
theorem dL_holds_845 : decode cL_holds 845 = .ok (.iload_n 2, 1) := by decide +kernel
theorem dL_holds_846 : decode cL_holds 846 = .ok (.iload 5, 2) := by decide +kernel
theorem dL_holds_848 : decode cL_holds 848 = .ok (.if_icmp .ne 134, 3) := by decide +kernel
theorem dL_holds_851 : decode cL_holds 851 = .ok (.aload_n 0, 1) := by decide +kernel
theorem dL_holds_852 : decode cL_holds 852 = .ok (.iconst 2, 1) := by decide +kernel
theorem dL_holds_853 : decode cL_holds 853 = .ok (.bipush 6, 2) := by decide +kernel
theorem dL_holds_855 : decode cL_holds 855 = .ok (.iconst 0, 1) := by decide +kernel
theorem dL_holds_856 : decode cL_holds 856 = .ok (.iconst 0, 1) := by decide +kernel
theorem dL_holds_857 : decode cL_holds 857 = .ok (.invokestatic 150, 3) := by decide +kernel
theorem dL_holds_860 : decode cL_holds 860 = .ok (.iload_n 2, 1) := by decide +kernel
theorem dL_holds_861 : decode cL_holds 861 = .ok (.if_icmp .ne 121, 3) := by decide +kernel
theorem dL_holds_864 : decode cL_holds 864 = .ok (.aload_n 0, 1) := by decide +kernel
theorem dL_holds_865 : decode cL_holds 865 = .ok (.iconst 2, 1) := by decide +kernel
theorem dL_holds_866 : decode cL_holds 866 = .ok (.bipush 7, 2) := by decide +kernel
theorem dL_holds_868 : decode cL_holds 868 = .ok (.iconst 0, 1) := by decide +kernel
theorem dL_holds_869 : decode cL_holds 869 = .ok (.iconst 0, 1) := by decide +kernel
theorem dL_holds_870 : decode cL_holds 870 = .ok (.invokestatic 150, 3) := by decide +kernel
theorem dL_holds_873 : decode cL_holds 873 = .ok (.iload_n 3, 1) := by decide +kernel
theorem dL_holds_874 : decode cL_holds 874 = .ok (.if_icmp .ne 108, 3) := by decide +kernel
theorem dL_holds_877 : decode cL_holds 877 = .ok (.aload_n 0, 1) := by decide +kernel
theorem dL_holds_878 : decode cL_holds 878 = .ok (.iconst 2, 1) := by decide +kernel
theorem dL_holds_879 : decode cL_holds 879 = .ok (.bipush 9, 2) := by decide +kernel
theorem dL_holds_881 : decode cL_holds 881 = .ok (.iconst 0, 1) := by decide +kernel
theorem dL_holds_882 : decode cL_holds 882 = .ok (.iconst 0, 1) := by decide +kernel
theorem dL_holds_883 : decode cL_holds 883 = .ok (.invokestatic 150, 3) := by decide +kernel
theorem dL_holds_886 : decode cL_holds 886 = .ok (.iload 4, 2) := by decide +kernel
theorem dL_holds_888 : decode cL_holds 888 = .ok (.if_icmp .ne 94, 3) := by decide +kernel
theorem dL_holds_891 : decode cL_holds 891 = .ok (.aload_n 0, 1) := by decide +kernel
theorem dL_holds_892 : decode cL_holds 892 = .ok (.iconst 2, 1) := by decide +kernel
theorem dL_holds_893 : decode cL_holds 893 = .ok (.iconst 1, 1) := by decide +kernel
theorem dL_holds_894 : decode cL_holds 894 = .ok (.iconst 0, 1) := by decide +kernel
theorem dL_holds_895 : decode cL_holds 895 = .ok (.iconst 0, 1) := by decide +kernel
theorem dL_holds_896 : decode cL_holds 896 = .ok (.invokestatic 150, 3) := by decide +kernel
theorem dL_holds_899 : decode cL_holds 899 = .ok (.aload 7, 2) := by decide +kernel
theorem dL_holds_901 : decode cL_holds 901 = .ok (.iconst 0, 1) := by decide +kernel
theorem dL_holds_902 : decode cL_holds 902 = .ok (.iaload, 1) := by decide +kernel
theorem dL_holds_903 : decode cL_holds 903 = .ok (.if_icmp .ne 79, 3) := by decide +kernel
theorem dL_holds_906 : decode cL_holds 906 = .ok (.aload_n 0, 1) := by decide +kernel
theorem dL_holds_907 : decode cL_holds 907 = .ok (.iconst 2, 1) := by decide +kernel
theorem dL_holds_908 : decode cL_holds 908 = .ok (.iconst 2, 1) := by decide +kernel
theorem dL_holds_909 : decode cL_holds 909 = .ok (.iconst 0, 1) := by decide +kernel
theorem dL_holds_910 : decode cL_holds 910 = .ok (.iconst 0, 1) := by decide +kernel
theorem dL_holds_911 : decode cL_holds 911 = .ok (.invokestatic 150, 3) := by decide +kernel
theorem dL_holds_914 : decode cL_holds 914 = .ok (.aload 7, 2) := by decide +kernel
theorem dL_holds_916 : decode cL_holds 916 = .ok (.iconst 1, 1) := by decide +kernel
theorem dL_holds_917 : decode cL_holds 917 = .ok (.iaload, 1) := by decide +kernel
theorem dL_holds_918 : decode cL_holds 918 = .ok (.if_icmp .ne 64, 3) := by decide +kernel
theorem dL_holds_921 : decode cL_holds 921 = .ok (.aload_n 0, 1) := by decide +kernel
theorem dL_holds_922 : decode cL_holds 922 = .ok (.iconst 2, 1) := by decide +kernel
theorem dL_holds_923 : decode cL_holds 923 = .ok (.iconst 3, 1) := by decide +kernel
theorem dL_holds_924 : decode cL_holds 924 = .ok (.iconst 0, 1) := by decide +kernel
theorem dL_holds_925 : decode cL_holds 925 = .ok (.iconst 0, 1) := by decide +kernel
theorem dL_holds_926 : decode cL_holds 926 = .ok (.invokestatic 150, 3) := by decide +kernel
theorem dL_holds_929 : decode cL_holds 929 = .ok (.aload 7, 2) := by decide +kernel
theorem dL_holds_931 : decode cL_holds 931 = .ok (.iconst 2, 1) := by decide +kernel
theorem dL_holds_932 : decode cL_holds 932 = .ok (.iaload, 1) := by decide +kernel
theorem dL_holds_933 : decode cL_holds 933 = .ok (.if_icmp .ne 49, 3) := by decide +kernel
theorem dL_holds_936 : decode cL_holds 936 = .ok (.aload_n 0, 1) := by decide +kernel
theorem dL_holds_937 : decode cL_holds 937 = .ok (.iconst 2, 1) := by decide +kernel
theorem dL_holds_938 : decode cL_holds 938 = .ok (.iconst 4, 1) := by decide +kernel
theorem dL_holds_939 : decode cL_holds 939 = .ok (.iconst 0, 1) := by decide +kernel
theorem dL_holds_940 : decode cL_holds 940 = .ok (.iconst 0, 1) := by decide +kernel
theorem dL_holds_941 : decode cL_holds 941 = .ok (.invokestatic 150, 3) := by decide +kernel
theorem dL_holds_944 : decode cL_holds 944 = .ok (.aload 7, 2) := by decide +kernel
theorem dL_holds_946 : decode cL_holds 946 = .ok (.iconst 3, 1) := by decide +kernel
theorem dL_holds_947 : decode cL_holds 947 = .ok (.iaload, 1) := by decide +kernel
theorem dL_holds_948 : decode cL_holds 948 = .ok (.if_icmp .ne 34, 3) := by decide +kernel
theorem dL_holds_951 : decode cL_holds 951 = .ok (.iload 8, 2) := by decide +kernel
theorem dL_holds_953 : decode cL_holds 953 = .ok (.iconst (-1), 1) := by decide +kernel
theorem dL_holds_954 : decode cL_holds 954 = .ok (.if_icmp .eq 24, 3) := by decide +kernel
theorem dL_holds_957 : decode cL_holds 957 = .ok (.aload_n 0, 1) := by decide +kernel
theorem dL_holds_958 : decode cL_holds 958 = .ok (.iconst 2, 1) := by decide +kernel
theorem dL_holds_959 : decode cL_holds 959 = .ok (.bipush 8, 2) := by decide +kernel
theorem dL_holds_961 : decode cL_holds 961 = .ok (.iconst 0, 1) := by decide +kernel
theorem dL_holds_962 : decode cL_holds 962 = .ok (.iconst 0, 1) := by decide +kernel
theorem dL_holds_963 : decode cL_holds 963 = .ok (.invokestatic 150, 3) := by decide +kernel
theorem dL_holds_966 : decode cL_holds 966 = .ok (.iconst 2, 1) := by decide +kernel
theorem dL_holds_967 : decode cL_holds 967 = .ok (.if_icmp .eq 11, 3) := by decide +kernel
theorem dL_holds_970 : decode cL_holds 970 = .ok (.aload_n 0, 1) := by decide +kernel
theorem dL_holds_971 : decode cL_holds 971 = .ok (.invokevirtual 172, 3) := by decide +kernel
theorem dL_holds_974 : decode cL_holds 974 = .ok (.iconst (-1), 1) := by decide +kernel
theorem dL_holds_975 : decode cL_holds 975 = .ok (.if_icmp .ne 7, 3) := by decide +kernel
theorem dL_holds_978 : decode cL_holds 978 = .ok (.iconst 1, 1) := by decide +kernel
theorem dL_holds_979 : decode cL_holds 979 = .ok (.goto 4, 3) := by decide +kernel
theorem dL_holds_982 : decode cL_holds 982 = .ok (.iconst 0, 1) := by decide +kernel
theorem dL_holds_983 : decode cL_holds 983 = .ok (.ireturn, 1) := by decide +kernel
set_option maxRecDepth 20000 in
theorem gsL_act_L_call_h : GoodIn wsL_act [.code yL_call cL_call 5 (some .int)] := goodIn_r _ [4] (by decide +kernel) (by decide +kernel)
set_option maxRecDepth 20000 in
theorem gsL_act_L_call_0 : GoodIn wsL_act wsL_call_r1 := goodIn_r _ [5, 6, 3, 7, 8, 9, 10, 11, 12, 13, 14, 15, 16, 17, 18, 19, 20, 21, 22, 23, 24, 25, 26, 27] (by decide +kernel) (by decide +kernel)
set_option maxRecDepth 20000 in
theorem gsL_act_L_call_1 : GoodIn wsL_act wsL_call_r2 := goodIn_r _ [28, 29, 30, 31, 32, 33, 34, 35, 36, 37, 38, 39, 40, 41, 42, 43, 44, 45, 46, 47, 48, 49, 50, 51] (by decide +kernel) (by decide +kernel)
set_option maxRecDepth 20000 in
theorem gsL_act_L_call_2 : GoodIn wsL_act wsL_call_r3 := goodIn_r _ [52, 53, 54, 55, 56, 57, 58, 59, 60, 61, 62, 63, 64, 65, 66, 67, 68, 69, 70, 71, 72, 73, 74, 75] (by decide +kernel) (by decide +kernel)
set_option maxRecDepth 20000 in
theorem gsL_act_L_call_3 : GoodIn wsL_act wsL_call_r4 := goodIn_r _ [76, 77, 78, 79, 80, 81, 82, 83, 84, 85, 86, 87, 88, 89, 90, 91, 92, 93, 94, 95, 96, 97, 98, 99] (by decide +kernel) (by decide +kernel)
set_option maxRecDepth 20000 in
theorem gsL_act_L_call_4 : GoodIn wsL_act wsL_call_r5 := goodIn_r _ [100, 101, 102, 103, 104, 105, 106, 107, 108, 109, 110, 111, 112, 113, 114, 115, 116, 117, 118, 119, 120, 121, 122, 123] (by decide +kernel) (by decide +kernel)
set_option maxRecDepth 20000 in
theorem gsL_act_L_call_5 : GoodIn wsL_act wsL_call_r6 := goodIn_r _ [124, 125, 126, 127, 128, 129, 130, 131, 132, 133, 134, 135, 136, 137, 138, 139, 140, 141, 142, 143, 144, 145, 146, 147] (by decide +kernel) (by decide +kernel)
set_option maxRecDepth 20000 in
theorem gsL_act_L_call_6 : GoodIn wsL_act wsL_call_r7 := goodIn_r _ [148, 149, 150, 151, 152, 153, 154, 155, 156, 157, 158, 159, 160, 161, 162, 163, 164, 165, 166, 167, 168, 169, 170, 171] (by decide +kernel) (by decide +kernel)
set_option maxRecDepth 20000 in
theorem gsL_act_L_call_7 : GoodIn wsL_act wsL_call_r8 := goodIn_r _ [172, 173, 174, 175, 176, 177, 178, 179, 180, 181, 182, 183, 184, 185, 186, 187, 188, 189, 190, 191, 192, 193, 194, 195] (by decide +kernel) (by decide +kernel)
set_option maxRecDepth 20000 in
theorem gsL_act_L_call_8 : GoodIn wsL_act wsL_call_r9 := goodIn_r _ [196, 197, 198, 199, 200, 201, 202, 203, 204, 205, 206, 207, 208, 209, 210, 211, 212, 213, 214, 215, 216, 217, 218, 219] (by decide +kernel) (by decide +kernel)
set_option maxRecDepth 20000 in
theorem gsL_act_L_call_9 : GoodIn wsL_act wsL_call_r10 := goodIn_r _ [220, 221, 222, 223, 224, 225, 226, 227, 228, 229, 230, 231, 232, 233, 234, 235, 236, 237, 238, 239, 240, 241, 242, 243] (by decide +kernel) (by decide +kernel)
set_option maxRecDepth 20000 in
theorem gsL_act_L_call_10 : GoodIn wsL_act wsL_call_r11 := goodIn_r _ [244, 245, 246, 247, 248, 249, 250, 251, 252, 253, 254, 255, 256, 257, 258, 259, 260, 261, 262, 263, 264, 265, 266, 267] (by decide +kernel) (by decide +kernel)
set_option maxRecDepth 20000 in
theorem gsL_act_L_call_11 : GoodIn wsL_act wsL_call_r12 := goodIn_r _ [268, 269, 270, 271, 272, 273, 274, 275, 276, 277, 278, 279, 280, 281, 282, 283, 284, 285, 286, 287, 288, 289, 290, 291] (by decide +kernel) (by decide +kernel)
set_option maxRecDepth 20000 in
theorem gsL_act_L_call_12 : GoodIn wsL_act wsL_call_r13 := goodIn_r _ [292, 293, 294, 295, 296, 297, 298, 299, 300, 301, 302, 303, 304, 305, 306, 307, 308, 309, 310, 311, 312, 313, 314, 315] (by decide +kernel) (by decide +kernel)
set_option maxRecDepth 20000 in
theorem gsL_act_L_call_13 : GoodIn wsL_act wsL_call_r14 := goodIn_r _ [316, 317, 318, 319, 320, 321, 322, 323, 324, 325, 326, 327, 328, 329, 330, 331, 332, 333, 334, 335, 336, 337, 338, 339] (by decide +kernel) (by decide +kernel)
set_option maxRecDepth 20000 in
theorem gsL_act_L_call_14 : GoodIn wsL_act wsL_call_r15 := goodIn_r _ [340, 341, 342, 343, 344, 345, 346, 347, 348, 349, 350, 351, 352, 353, 354, 355, 356, 357, 358, 359, 360, 361, 362, 363] (by decide +kernel) (by decide +kernel)
set_option maxRecDepth 20000 in
theorem gsL_act_L_call_15 : GoodIn wsL_act wsL_call_r16 := goodIn_r _ [364, 365, 366, 367, 368, 369, 370, 371, 372, 373, 374, 375, 376, 377, 378, 379, 380, 381, 382, 383, 384, 385, 386, 387] (by decide +kernel) (by decide +kernel)
set_option maxRecDepth 20000 in
theorem gsL_act_L_call_16 : GoodIn wsL_act wsL_call_r17 := goodIn_r _ [388, 389, 390, 391, 392, 393, 394, 395, 396, 397, 398, 399, 400, 401, 402, 403, 404, 405, 406, 407, 408, 409, 410, 411] (by decide +kernel) (by decide +kernel)
set_option maxRecDepth 20000 in
theorem gsL_act_L_call_17 : GoodIn wsL_act wsL_call_r18 := goodIn_r _ [412, 413, 414, 415, 416, 417, 418, 419, 420, 421, 422, 423, 424, 425, 426, 427, 428, 429, 430, 431, 432, 433, 434, 435] (by decide +kernel) (by decide +kernel)
set_option maxRecDepth 20000 in
theorem gsL_act_L_call_18 : GoodIn wsL_act wsL_call_r19 := goodIn_r _ [436, 437, 438, 439, 440, 441, 442, 443, 444, 445, 446, 447, 448, 449, 450, 451, 452, 453, 454, 455, 456, 457, 458, 459] (by decide +kernel) (by decide +kernel)
set_option maxRecDepth 20000 in
theorem gsL_act_L_call_19 : GoodIn wsL_act wsL_call_r20 := goodIn_r _ [460, 461, 462, 463, 464] (by decide +kernel) (by decide +kernel)
set_option maxRecDepth 20000 in
theorem gsL_act_L_call_wsX30 : GoodIn wsL_act wsX30 := goodIn_r _ [473, 474, 475, 476, 477, 478, 479, 480] (by decide +kernel) (by decide +kernel)
set_option maxRecDepth 20000 in
theorem gsL_act_L_call_wsX20 : GoodIn wsL_act wsX20 := goodIn_r _ [481, 482] (by decide +kernel) (by decide +kernel)
set_option maxRecDepth 20000 in
theorem gsL_act_L_call_wsX00 : GoodIn wsL_act wsX00 := goodIn_r _ [483] (by decide +kernel) (by decide +kernel)
set_option maxRecDepth 20000 in
theorem gsL_act_L_call_wsX10 : GoodIn wsL_act wsX10 := goodIn_r _ [484] (by decide +kernel) (by decide +kernel)
theorem gsL_act_L_call_b : GoodIn wsL_act (.code yL_call cL_call 5 (some .int) :: ((wsL_call_r1 ++ (wsL_call_r2 ++ (wsL_call_r3 ++ (wsL_call_r4 ++ (wsL_call_r5 ++ (wsL_call_r6 ++ (wsL_call_r7 ++ (wsL_call_r8 ++ (wsL_call_r9 ++ (wsL_call_r10 ++ (wsL_call_r11 ++ (wsL_call_r12 ++ (wsL_call_r13 ++ (wsL_call_r14 ++ (wsL_call_r15 ++ (wsL_call_r16 ++ (wsL_call_r17 ++ (wsL_call_r18 ++ (wsL_call_r19 ++ wsL_call_r20))))))))))))))))))) ++ wsX30 ++ wsX20 ++ wsX00 ++ wsX10)) := goodIn_cons gsL_act_L_call_h (goodIn_app (goodIn_app (goodIn_app (goodIn_app (goodIn_app gsL_act_L_call_0 (goodIn_app gsL_act_L_call_1 (goodIn_app gsL_act_L_call_2 (goodIn_app gsL_act_L_call_3 (goodIn_app gsL_act_L_call_4 (goodIn_app gsL_act_L_call_5 (goodIn_app gsL_act_L_call_6 (goodIn_app gsL_act_L_call_7 (goodIn_app gsL_act_L_call_8 (goodIn_app gsL_act_L_call_9 (goodIn_app gsL_act_L_call_10 (goodIn_app gsL_act_L_call_11 (goodIn_app gsL_act_L_call_12 (goodIn_app gsL_act_L_call_13 (goodIn_app gsL_act_L_call_14 (goodIn_app gsL_act_L_call_15 (goodIn_app gsL_act_L_call_16 (goodIn_app gsL_act_L_call_17 (goodIn_app gsL_act_L_call_18 gsL_act_L_call_19))))))))))))))))))) gsL_act_L_call_wsX30) gsL_act_L_call_wsX20) gsL_act_L_call_wsX00) gsL_act_L_call_wsX10)
set_option maxRecDepth 20000 in
theorem ggL_act_L_call : GoodIn wsL_act wsL_call := goodIn_ca (goodIn_ca (goodIn_ca gsL_act_L_call_b (goodIn_sub (fun _ h => List.mem_cons_of_mem _ (List.mem_append_left _ (List.mem_append_left _ (List.mem_append_right _ h)))) (by decide +kernel))) (goodIn_sub (fun _ h => List.mem_cons_of_mem _ (List.mem_append_left _ (List.mem_append_right _ h))) (by decide +kernel))) (goodIn_sub (fun _ h => List.mem_cons_of_mem _ (List.mem_append_right _ h)) (by decide +kernel))
set_option maxRecDepth 20000 in
theorem gL_act_L_call : GoodIn wsL_act (va_wsS RL 150 yL_call wsL_call) := goodIn_app (goodIn_of _ (by decide +kernel)) ggL_act_L_call
