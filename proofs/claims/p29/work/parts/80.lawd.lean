theorem dL_cell_0 : decode cL_cell 0 = .ok (.iload_n 1, 1) := by decide +kernel
theorem dL_cell_1 : decode cL_cell 1 = .ok (.aload_n 0, 1) := by decide +kernel
theorem dL_cell_2 : decode cL_cell 2 = .ok (.arraylength, 1) := by decide +kernel
theorem dL_cell_3 : decode cL_cell 3 = .ok (.if_icmp .ge 9, 3) := by decide +kernel
theorem dL_cell_6 : decode cL_cell 6 = .ok (.aload_n 0, 1) := by decide +kernel
theorem dL_cell_7 : decode cL_cell 7 = .ok (.iload_n 1, 1) := by decide +kernel
theorem dL_cell_8 : decode cL_cell 8 = .ok (.iaload, 1) := by decide +kernel
theorem dL_cell_9 : decode cL_cell 9 = .ok (.goto 13, 3) := by decide +kernel
theorem dL_cell_12 : decode cL_cell 12 = .ok (.ldc 148, 2) := by decide +kernel
theorem dL_cell_14 : decode cL_cell 14 = .ok (.iload_n 1, 1) := by decide +kernel
theorem dL_cell_15 : decode cL_cell 15 = .ok (.iconst 3, 1) := by decide +kernel
theorem dL_cell_16 : decode cL_cell 16 = .ok (.iadd, 1) := by decide +kernel
theorem dL_cell_17 : decode cL_cell 17 = .ok (.imul, 1) := by decide +kernel
theorem dL_cell_18 : decode cL_cell 18 = .ok (.sipush 11489, 3) := by decide +kernel
theorem dL_cell_21 : decode cL_cell 21 = .ok (.iadd, 1) := by decide +kernel
theorem dL_cell_22 : decode cL_cell 22 = .ok (.ldc 149, 2) := by decide +kernel
theorem dL_cell_24 : decode cL_cell 24 = .ok (.iand, 1) := by decide +kernel
theorem dL_cell_25 : decode cL_cell 25 = .ok (.ireturn, 1) := by decide +kernel
set_option maxRecDepth 20000 in
theorem ggL_law_X3_init : GoodIn wsL_law wsX3_init := goodIn_r _ [6, 7, 8, 9, 10, 11, 12, 13, 14, 15, 16, 17, 18, 19, 20, 21, 22, 23, 24, 25, 26, 27, 28, 29, 30, 31, 32, 33, 34, 35, 36, 37, 38, 39, 40, 41, 42, 43, 44, 45, 46, 606, 607, 598, 599, 600, 601, 602, 603, 604, 605, 608, 609] rfl (by decide +kernel)
set_option maxRecDepth 20000 in
theorem gL_law_X3_init : GoodIn wsL_law (wsX3_init) := ggL_law_X3_init
set_option maxRecDepth 20000 in
theorem ggL_law_L_cell : GoodIn wsL_law wsL_cell := goodIn_r _ [50, 51, 52] rfl (by decide +kernel)
set_option maxRecDepth 20000 in
theorem gL_law_L_cell : GoodIn wsL_law (va_wsS RL 176 yL_cell wsL_cell) := goodIn_app (goodIn_of _ (by decide +kernel)) ggL_law_L_cell
set_option maxRecDepth 20000 in
theorem gsL_law_L_act_h : GoodIn wsL_law [.code yL_act cL_act 4 (some .int)] := goodIn_r _ [55] rfl (by decide +kernel)
set_option maxRecDepth 20000 in
theorem gsL_law_L_act_0 : GoodIn wsL_law wsL_act_r1 := goodIn_r _ [56, 57, 49, 58, 59, 60, 61, 62, 63, 64, 65, 66, 67, 68, 2, 69, 70, 71, 72, 73, 13, 74, 75, 76] rfl (by decide +kernel)
set_option maxRecDepth 20000 in
theorem gsL_law_L_act_1 : GoodIn wsL_law wsL_act_r2 := goodIn_r _ [12, 77, 33, 78, 79, 80, 81, 32, 82, 83, 84, 85, 86, 87, 88, 89, 90, 91, 92, 17, 93, 94, 95, 96] rfl (by decide +kernel)
set_option maxRecDepth 20000 in
theorem gsL_law_L_act_2 : GoodIn wsL_law wsL_act_r3 := goodIn_r _ [97, 98, 99, 100, 101, 102, 103, 104, 105, 106, 107, 108, 109, 110, 111, 112, 113, 114, 115, 116, 117, 118, 119, 120] rfl (by decide +kernel)
set_option maxRecDepth 20000 in
theorem gsL_law_L_act_3 : GoodIn wsL_law wsL_act_r4 := goodIn_r _ [121, 122, 123, 124, 125, 126, 127, 128, 129, 130, 131, 132, 133, 134, 135, 136, 137, 138, 139, 140, 141, 142, 143, 144] rfl (by decide +kernel)
set_option maxRecDepth 20000 in
theorem gsL_law_L_act_4 : GoodIn wsL_law wsL_act_r5 := goodIn_r _ [145, 146, 147, 148, 149, 150, 151, 152, 153, 154, 155, 156, 157, 158, 159, 160, 161, 162, 163, 40, 41, 16, 42, 38] rfl (by decide +kernel)
set_option maxRecDepth 20000 in
theorem gsL_law_L_act_5 : GoodIn wsL_law wsL_act_r6 := goodIn_r _ [164, 165, 166, 167, 23, 168, 169, 170, 171, 25, 172, 173, 174, 175, 176, 177, 178, 179, 180, 181, 182, 183, 184, 185] rfl (by decide +kernel)
set_option maxRecDepth 20000 in
theorem gsL_law_L_act_6 : GoodIn wsL_law wsL_act_r7 := goodIn_r _ [186, 187, 188, 189, 190, 191, 192, 193, 194, 195, 196, 197, 198, 199, 200, 201, 202, 203, 204, 205, 206, 207, 208, 209] rfl (by decide +kernel)
set_option maxRecDepth 20000 in
theorem gsL_law_L_act_7 : GoodIn wsL_law wsL_act_r8 := goodIn_r _ [210, 211, 212, 213, 214, 215, 216, 217, 218, 219, 220, 221, 222, 223, 224, 225, 226, 227, 228, 229, 230, 231, 232, 233] rfl (by decide +kernel)
set_option maxRecDepth 20000 in
theorem gsL_law_L_act_8 : GoodIn wsL_law wsL_act_r9 := goodIn_r _ [234, 235, 236, 237, 238, 239, 240, 241, 242, 243, 244, 245, 246, 247, 248, 249, 250, 251, 252, 253, 254, 255, 256, 257] rfl (by decide +kernel)
set_option maxRecDepth 20000 in
theorem gsL_law_L_act_9 : GoodIn wsL_law wsL_act_r10 := goodIn_r _ [258, 259, 260, 261, 262, 263, 264, 265, 266, 267, 268, 269, 270, 271, 272, 273, 274, 275, 276, 277, 278, 279, 280, 281] rfl (by decide +kernel)
set_option maxRecDepth 20000 in
theorem gsL_law_L_act_10 : GoodIn wsL_law wsL_act_r11 := goodIn_r _ [282, 283, 284, 285, 286, 287, 288, 289, 290, 291, 292, 293, 294, 295, 296, 297, 298, 299, 300, 301, 302, 303, 304, 305] rfl (by decide +kernel)
set_option maxRecDepth 20000 in
theorem gsL_law_L_act_11 : GoodIn wsL_law wsL_act_r12 := goodIn_r _ [306, 307, 308, 309, 310, 311, 312, 313, 314, 315, 316, 317, 318, 319, 320, 321, 322, 323, 324, 325, 326, 327, 328, 329] rfl (by decide +kernel)
set_option maxRecDepth 20000 in
theorem gsL_law_L_act_12 : GoodIn wsL_law wsL_act_r13 := goodIn_r _ [330, 331, 332, 333, 334, 335, 336, 337, 338, 339, 340, 341, 342, 343, 344, 345, 346, 347, 348, 349, 350, 351, 352, 353] rfl (by decide +kernel)
set_option maxRecDepth 20000 in
theorem gsL_law_L_act_13 : GoodIn wsL_law wsL_act_r14 := goodIn_r _ [354, 355, 356, 357, 358, 359, 360, 361, 362, 363, 364, 365, 366, 367, 368, 369, 370, 371, 372, 373, 374, 375, 376, 377] rfl (by decide +kernel)
set_option maxRecDepth 20000 in
theorem gsL_law_L_act_14 : GoodIn wsL_law wsL_act_r15 := goodIn_r _ [378, 379, 380, 381, 382, 383, 384, 385, 386, 387, 388, 389, 390, 391, 392, 393, 394, 395, 396, 397, 398, 399, 400, 401] rfl (by decide +kernel)
set_option maxRecDepth 20000 in
theorem gsL_law_L_act_15 : GoodIn wsL_law wsL_act_r16 := goodIn_r _ [402, 403, 404, 22, 21, 405, 406, 407, 408, 409, 410, 411, 412, 413, 414, 20, 415, 416, 417, 418, 419, 420, 421, 422] rfl (by decide +kernel)
set_option maxRecDepth 20000 in
theorem gsL_law_L_act_16 : GoodIn wsL_law wsL_act_r17 := goodIn_r _ [423, 424, 425, 426, 427, 428, 429, 430, 431, 432, 433, 434, 435, 436, 437, 438, 439, 440, 441, 442, 443, 444, 445, 446] rfl (by decide +kernel)
set_option maxRecDepth 20000 in
theorem gsL_law_L_act_17 : GoodIn wsL_law wsL_act_r18 := goodIn_r _ [447, 448, 449, 450, 451, 452, 453, 454, 455, 456, 457, 458, 459, 460, 461, 27, 462, 463, 464, 465, 466, 467, 468, 469] rfl (by decide +kernel)
set_option maxRecDepth 20000 in
theorem gsL_law_L_act_18 : GoodIn wsL_law wsL_act_r19 := goodIn_r _ [470, 471, 472, 473, 474, 475, 476, 477, 478, 479, 480, 481, 482, 483, 484, 485, 486, 26, 487, 488, 489, 490, 491, 492] rfl (by decide +kernel)
set_option maxRecDepth 20000 in
theorem gsL_law_L_act_19 : GoodIn wsL_law wsL_act_r20 := goodIn_r _ [493, 494, 495, 496, 497, 498, 499, 500, 501, 502, 503, 504, 505, 506, 507, 508] rfl (by decide +kernel)
set_option maxRecDepth 20000 in
theorem gsL_law_L_act_wsX30 : GoodIn wsL_law wsX30 := goodIn_r _ [598, 599, 600, 601, 602, 603, 604, 605] rfl (by decide +kernel)
set_option maxRecDepth 20000 in
theorem gsL_law_L_act_wsX20 : GoodIn wsL_law wsX20 := goodIn_r _ [606, 607] rfl (by decide +kernel)
set_option maxRecDepth 20000 in
theorem gsL_law_L_act_wsX00 : GoodIn wsL_law wsX00 := goodIn_r _ [608] rfl (by decide +kernel)
set_option maxRecDepth 20000 in
theorem gsL_law_L_act_wsX10 : GoodIn wsL_law wsX10 := goodIn_r _ [609] rfl (by decide +kernel)
theorem gsL_law_L_act_b : GoodIn wsL_law (.code yL_act cL_act 4 (some .int) :: ((wsL_act_r1 ++ (wsL_act_r2 ++ (wsL_act_r3 ++ (wsL_act_r4 ++ (wsL_act_r5 ++ (wsL_act_r6 ++ (wsL_act_r7 ++ (wsL_act_r8 ++ (wsL_act_r9 ++ (wsL_act_r10 ++ (wsL_act_r11 ++ (wsL_act_r12 ++ (wsL_act_r13 ++ (wsL_act_r14 ++ (wsL_act_r15 ++ (wsL_act_r16 ++ (wsL_act_r17 ++ (wsL_act_r18 ++ (wsL_act_r19 ++ wsL_act_r20))))))))))))))))))) ++ wsX30 ++ wsX20 ++ wsX00 ++ wsX10)) := goodIn_cons gsL_law_L_act_h (goodIn_app (goodIn_app (goodIn_app (goodIn_app (goodIn_app gsL_law_L_act_0 (goodIn_app gsL_law_L_act_1 (goodIn_app gsL_law_L_act_2 (goodIn_app gsL_law_L_act_3 (goodIn_app gsL_law_L_act_4 (goodIn_app gsL_law_L_act_5 (goodIn_app gsL_law_L_act_6 (goodIn_app gsL_law_L_act_7 (goodIn_app gsL_law_L_act_8 (goodIn_app gsL_law_L_act_9 (goodIn_app gsL_law_L_act_10 (goodIn_app gsL_law_L_act_11 (goodIn_app gsL_law_L_act_12 (goodIn_app gsL_law_L_act_13 (goodIn_app gsL_law_L_act_14 (goodIn_app gsL_law_L_act_15 (goodIn_app gsL_law_L_act_16 (goodIn_app gsL_law_L_act_17 (goodIn_app gsL_law_L_act_18 gsL_law_L_act_19))))))))))))))))))) gsL_law_L_act_wsX30) gsL_law_L_act_wsX20) gsL_law_L_act_wsX00) gsL_law_L_act_wsX10)
set_option maxRecDepth 20000 in
theorem ggL_law_L_act : GoodIn wsL_law wsL_act := goodIn_ca (goodIn_ca (goodIn_ca gsL_law_L_act_b (goodIn_sub (fun _ h => List.mem_append_left _ (List.mem_append_left _ (List.mem_append_right _ h))) (by decide +kernel))) (goodIn_sub (fun _ h => List.mem_append_left _ (List.mem_append_right _ h)) (by decide +kernel))) (goodIn_sub (fun _ h => List.mem_append_right _ h) (by decide +kernel))
set_option maxRecDepth 20000 in
theorem gL_law_L_act : GoodIn wsL_law (va_wsS RL 180 yL_act wsL_act) := goodIn_app (goodIn_of _ (by decide +kernel)) ggL_law_L_act
set_option maxRecDepth 20000 in
theorem gsL_law_L_refuses_h : GoodIn wsL_law [.code yL_refuses cL_refuses 4 (some .boolean)] := goodIn_r _ [511] rfl (by decide +kernel)
set_option maxRecDepth 20000 in
theorem gsL_law_L_refuses_0 : GoodIn wsL_law wsL_refuses_r1 := goodIn_r _ [64, 327, 512, 56, 57, 49, 58, 59, 60, 61, 62, 63, 65, 66, 67, 68, 2, 69, 70, 71, 72, 73, 13, 74] rfl (by decide +kernel)
set_option maxRecDepth 20000 in
theorem gsL_law_L_refuses_1 : GoodIn wsL_law wsL_refuses_r2 := goodIn_r _ [75, 76, 12, 77, 33, 78, 79, 80, 81, 32, 82, 83, 84, 85, 86, 87, 88, 89, 90, 91, 92, 17, 93, 94] rfl (by decide +kernel)
set_option maxRecDepth 20000 in
theorem gsL_law_L_refuses_2 : GoodIn wsL_law wsL_refuses_r3 := goodIn_r _ [95, 96, 97, 98, 99, 100, 101, 102, 103, 104, 105, 106, 107, 108, 109, 110, 111, 112, 113, 114, 115, 116, 117, 118] rfl (by decide +kernel)
set_option maxRecDepth 20000 in
theorem gsL_law_L_refuses_3 : GoodIn wsL_law wsL_refuses_r4 := goodIn_r _ [119, 120, 121, 122, 123, 124, 125, 126, 127, 128, 129, 130, 131, 132, 133, 134, 135, 136, 137, 138, 139, 140, 141, 142] rfl (by decide +kernel)
set_option maxRecDepth 20000 in
theorem gsL_law_L_refuses_4 : GoodIn wsL_law wsL_refuses_r5 := goodIn_r _ [143, 144, 145, 146, 147, 148, 149, 150, 151, 152, 153, 154, 155, 156, 157, 158, 159, 160, 161, 162, 163, 40, 41, 16] rfl (by decide +kernel)
set_option maxRecDepth 20000 in
theorem gsL_law_L_refuses_5 : GoodIn wsL_law wsL_refuses_r6 := goodIn_r _ [42, 38, 164, 165, 166, 167, 23, 168, 169, 170, 171, 25, 172, 173, 174, 175, 176, 177, 178, 179, 180, 181, 182, 183] rfl (by decide +kernel)
set_option maxRecDepth 20000 in
theorem gsL_law_L_refuses_6 : GoodIn wsL_law wsL_refuses_r7 := goodIn_r _ [184, 185, 186, 187, 188, 189, 190, 191, 192, 193, 194, 195, 196, 197, 198, 199, 200, 201, 202, 203, 204, 205, 206, 207] rfl (by decide +kernel)
set_option maxRecDepth 20000 in
theorem gsL_law_L_refuses_7 : GoodIn wsL_law wsL_refuses_r8 := goodIn_r _ [208, 209, 210, 211, 212, 213, 214, 215, 216, 217, 218, 219, 220, 221, 222, 223, 224, 225, 226, 227, 228, 229, 230, 231] rfl (by decide +kernel)
set_option maxRecDepth 20000 in
theorem gsL_law_L_refuses_8 : GoodIn wsL_law wsL_refuses_r9 := goodIn_r _ [232, 233, 234, 235, 236, 237, 238, 239, 240, 241, 242, 243, 244, 245, 246, 247, 248, 249, 250, 251, 252, 253, 254, 255] rfl (by decide +kernel)
set_option maxRecDepth 20000 in
theorem gsL_law_L_refuses_9 : GoodIn wsL_law wsL_refuses_r10 := goodIn_r _ [256, 257, 258, 259, 260, 261, 262, 263, 264, 265, 266, 267, 268, 269, 270, 271, 272, 273, 274, 275, 276, 277, 278, 279] rfl (by decide +kernel)
set_option maxRecDepth 20000 in
theorem gsL_law_L_refuses_10 : GoodIn wsL_law wsL_refuses_r11 := goodIn_r _ [280, 281, 282, 283, 284, 285, 286, 287, 288, 289, 290, 291, 292, 293, 294, 295, 296, 297, 298, 299, 300, 301, 302, 303] rfl (by decide +kernel)
set_option maxRecDepth 20000 in
theorem gsL_law_L_refuses_11 : GoodIn wsL_law wsL_refuses_r12 := goodIn_r _ [304, 305, 306, 307, 308, 309, 310, 311, 312, 313, 314, 315, 316, 317, 318, 319, 320, 321, 322, 323, 324, 325, 326, 328] rfl (by decide +kernel)
set_option maxRecDepth 20000 in
theorem gsL_law_L_refuses_12 : GoodIn wsL_law wsL_refuses_r13 := goodIn_r _ [329, 330, 331, 332, 333, 334, 335, 336, 337, 338, 339, 340, 341, 342, 343, 344, 345, 346, 347, 348, 349, 350, 351, 352] rfl (by decide +kernel)
set_option maxRecDepth 20000 in
theorem gsL_law_L_refuses_13 : GoodIn wsL_law wsL_refuses_r14 := goodIn_r _ [353, 354, 355, 356, 357, 358, 359, 360, 361, 362, 363, 364, 365, 366, 367, 368, 369, 370, 371, 372, 373, 374, 375, 376] rfl (by decide +kernel)
set_option maxRecDepth 20000 in
theorem gsL_law_L_refuses_14 : GoodIn wsL_law wsL_refuses_r15 := goodIn_r _ [377, 378, 379, 380, 381, 382, 383, 384, 385, 386, 387, 388, 389, 390, 391, 392, 393, 394, 395, 396, 397, 398, 399, 400] rfl (by decide +kernel)
set_option maxRecDepth 20000 in
theorem gsL_law_L_refuses_15 : GoodIn wsL_law wsL_refuses_r16 := goodIn_r _ [401, 402, 403, 404, 22, 21, 405, 406, 407, 408, 409, 410, 411, 412, 413, 414, 20, 415, 416, 417, 418, 419, 420, 421] rfl (by decide +kernel)
set_option maxRecDepth 20000 in
theorem gsL_law_L_refuses_16 : GoodIn wsL_law wsL_refuses_r17 := goodIn_r _ [422, 423, 424, 425, 426, 427, 428, 429, 430, 431, 432, 433, 434, 435, 436, 437, 438, 439, 440, 441, 442, 443, 444, 445] rfl (by decide +kernel)
set_option maxRecDepth 20000 in
theorem gsL_law_L_refuses_17 : GoodIn wsL_law wsL_refuses_r18 := goodIn_r _ [446, 447, 448, 449, 450, 451, 452, 453, 454, 455, 456, 457, 458, 459, 460, 461, 27, 462, 463, 464, 465, 466, 467, 468] rfl (by decide +kernel)
set_option maxRecDepth 20000 in
theorem gsL_law_L_refuses_18 : GoodIn wsL_law wsL_refuses_r19 := goodIn_r _ [469, 470, 471, 472, 473, 474, 475, 476, 477, 478, 479, 480, 481, 482, 483, 484, 485, 486, 26, 487, 488, 489, 490, 491] rfl (by decide +kernel)
set_option maxRecDepth 20000 in
theorem gsL_law_L_refuses_19 : GoodIn wsL_law wsL_refuses_r20 := goodIn_r _ [492, 493, 494, 495, 496, 497, 498, 499, 500, 501, 502, 503, 504, 505, 506, 507, 508, 513, 514, 515, 516, 517, 518, 519] rfl (by decide +kernel)
set_option maxRecDepth 20000 in
theorem gsL_law_L_refuses_20 : GoodIn wsL_law wsL_refuses_r21 := goodIn_r _ [520, 521, 522, 523, 524, 525, 526, 527, 528, 529, 530, 531, 532, 533, 534, 535, 536, 537, 538, 539, 540, 541, 542, 543] rfl (by decide +kernel)
set_option maxRecDepth 20000 in
theorem gsL_law_L_refuses_21 : GoodIn wsL_law wsL_refuses_r22 := goodIn_r _ [544, 545, 546, 547, 548, 549, 550] rfl (by decide +kernel)
set_option maxRecDepth 20000 in
theorem gsL_law_L_refuses_wsX30 : GoodIn wsL_law wsX30 := goodIn_r _ [598, 599, 600, 601, 602, 603, 604, 605] rfl (by decide +kernel)
set_option maxRecDepth 20000 in
theorem gsL_law_L_refuses_wsX20 : GoodIn wsL_law wsX20 := goodIn_r _ [606, 607] rfl (by decide +kernel)
set_option maxRecDepth 20000 in
theorem gsL_law_L_refuses_wsX00 : GoodIn wsL_law wsX00 := goodIn_r _ [608] rfl (by decide +kernel)
set_option maxRecDepth 20000 in
theorem gsL_law_L_refuses_wsX10 : GoodIn wsL_law wsX10 := goodIn_r _ [609] rfl (by decide +kernel)
theorem gsL_law_L_refuses_b : GoodIn wsL_law (.code yL_refuses cL_refuses 4 (some .boolean) :: ((wsL_refuses_r1 ++ (wsL_refuses_r2 ++ (wsL_refuses_r3 ++ (wsL_refuses_r4 ++ (wsL_refuses_r5 ++ (wsL_refuses_r6 ++ (wsL_refuses_r7 ++ (wsL_refuses_r8 ++ (wsL_refuses_r9 ++ (wsL_refuses_r10 ++ (wsL_refuses_r11 ++ (wsL_refuses_r12 ++ (wsL_refuses_r13 ++ (wsL_refuses_r14 ++ (wsL_refuses_r15 ++ (wsL_refuses_r16 ++ (wsL_refuses_r17 ++ (wsL_refuses_r18 ++ (wsL_refuses_r19 ++ (wsL_refuses_r20 ++ (wsL_refuses_r21 ++ wsL_refuses_r22))))))))))))))))))))) ++ wsX30 ++ wsX20 ++ wsX00 ++ wsX10)) := goodIn_cons gsL_law_L_refuses_h (goodIn_app (goodIn_app (goodIn_app (goodIn_app (goodIn_app gsL_law_L_refuses_0 (goodIn_app gsL_law_L_refuses_1 (goodIn_app gsL_law_L_refuses_2 (goodIn_app gsL_law_L_refuses_3 (goodIn_app gsL_law_L_refuses_4 (goodIn_app gsL_law_L_refuses_5 (goodIn_app gsL_law_L_refuses_6 (goodIn_app gsL_law_L_refuses_7 (goodIn_app gsL_law_L_refuses_8 (goodIn_app gsL_law_L_refuses_9 (goodIn_app gsL_law_L_refuses_10 (goodIn_app gsL_law_L_refuses_11 (goodIn_app gsL_law_L_refuses_12 (goodIn_app gsL_law_L_refuses_13 (goodIn_app gsL_law_L_refuses_14 (goodIn_app gsL_law_L_refuses_15 (goodIn_app gsL_law_L_refuses_16 (goodIn_app gsL_law_L_refuses_17 (goodIn_app gsL_law_L_refuses_18 (goodIn_app gsL_law_L_refuses_19 (goodIn_app gsL_law_L_refuses_20 gsL_law_L_refuses_21))))))))))))))))))))) gsL_law_L_refuses_wsX30) gsL_law_L_refuses_wsX20) gsL_law_L_refuses_wsX00) gsL_law_L_refuses_wsX10)
set_option maxRecDepth 20000 in
theorem ggL_law_L_refuses : GoodIn wsL_law wsL_refuses := goodIn_ca (goodIn_ca (goodIn_ca gsL_law_L_refuses_b (goodIn_sub (fun _ h => List.mem_append_left _ (List.mem_append_left _ (List.mem_append_right _ h))) (by decide +kernel))) (goodIn_sub (fun _ h => List.mem_append_left _ (List.mem_append_right _ h)) (by decide +kernel))) (goodIn_sub (fun _ h => List.mem_append_right _ h) (by decide +kernel))
set_option maxRecDepth 20000 in
theorem gL_law_L_refuses : GoodIn wsL_law (va_wsS RL 184 yL_refuses wsL_refuses) := goodIn_app (goodIn_of _ (by decide +kernel)) ggL_law_L_refuses
set_option maxRecDepth 20000 in
theorem gsL_law_L_alike_h : GoodIn wsL_law [.code yL_alike cL_alike 5 (some .boolean)] := goodIn_r _ [553] rfl (by decide +kernel)
set_option maxRecDepth 20000 in
theorem gsL_law_L_alike_0 : GoodIn wsL_law wsL_alike_r1 := goodIn_r _ [535, 536, 49, 537, 62, 64, 538, 539, 540, 2, 541, 70, 71, 26, 17, 542, 543, 544, 545, 464, 546, 470, 471, 472] rfl (by decide +kernel)
set_option maxRecDepth 20000 in
theorem gsL_law_L_alike_1 : GoodIn wsL_law wsL_alike_r2 := goodIn_r _ [16, 473, 38, 409, 410, 411, 412, 547, 548, 549, 550, 190, 191, 192, 193, 194, 195, 196, 197, 198, 199, 200, 201, 202] rfl (by decide +kernel)
set_option maxRecDepth 20000 in
theorem gsL_law_L_alike_2 : GoodIn wsL_law wsL_alike_r3 := goodIn_r _ [203, 204, 205, 274, 275, 276, 277, 278, 279, 262, 263, 264, 265, 266, 267, 268, 269, 270, 271, 272, 273, 280, 281, 282] rfl (by decide +kernel)
set_option maxRecDepth 20000 in
theorem gsL_law_L_alike_3 : GoodIn wsL_law wsL_alike_r4 := goodIn_r _ [283, 216, 217, 218, 219, 220, 221, 222, 223, 224, 225, 226, 227, 250, 251, 252, 253, 206, 207, 208, 209, 210, 211, 212] rfl (by decide +kernel)
set_option maxRecDepth 20000 in
theorem gsL_law_L_alike_4 : GoodIn wsL_law wsL_alike_r5 := goodIn_r _ [213, 214, 215, 228, 229, 230, 231, 232, 233, 234, 235, 236, 237, 238, 239, 240, 241, 242, 243, 244, 245, 246, 247, 248] rfl (by decide +kernel)
set_option maxRecDepth 20000 in
theorem gsL_law_L_alike_5 : GoodIn wsL_law wsL_alike_r6 := goodIn_r _ [249, 254, 255, 256, 257, 258, 259, 260, 261, 319, 320, 321, 322, 295, 296, 297, 298, 554, 555, 556, 557, 466, 467, 468] rfl (by decide +kernel)
set_option maxRecDepth 20000 in
theorem gsL_law_L_alike_6 : GoodIn wsL_law wsL_alike_r7 := goodIn_r _ [469, 27, 474, 475, 476, 477, 478, 479, 56, 57, 58, 59, 60, 61, 63, 65, 66, 67, 68, 69, 72, 73, 13, 74] rfl (by decide +kernel)
set_option maxRecDepth 20000 in
theorem gsL_law_L_alike_7 : GoodIn wsL_law wsL_alike_r8 := goodIn_r _ [75, 76, 12, 77, 33, 78, 79, 80, 81, 32, 82, 83, 84, 85, 86, 87, 88, 89, 90, 91, 92, 93, 94, 95] rfl (by decide +kernel)
set_option maxRecDepth 20000 in
theorem gsL_law_L_alike_8 : GoodIn wsL_law wsL_alike_r9 := goodIn_r _ [96, 97, 98, 99, 100, 101, 102, 103, 104, 105, 106, 107, 108, 109, 110, 111, 112, 113, 114, 115, 116, 117, 118, 119] rfl (by decide +kernel)
set_option maxRecDepth 20000 in
theorem gsL_law_L_alike_9 : GoodIn wsL_law wsL_alike_r10 := goodIn_r _ [120, 121, 122, 123, 124, 125, 126, 127, 128, 129, 130, 131, 132, 133, 134, 135, 136, 137, 138, 139, 140, 141, 142, 143] rfl (by decide +kernel)
set_option maxRecDepth 20000 in
theorem gsL_law_L_alike_10 : GoodIn wsL_law wsL_alike_r11 := goodIn_r _ [144, 145, 146, 147, 148, 149, 150, 151, 152, 153, 154, 155, 156, 157, 158, 159, 160, 161, 162, 163, 40, 41, 42, 164] rfl (by decide +kernel)
set_option maxRecDepth 20000 in
theorem gsL_law_L_alike_11 : GoodIn wsL_law wsL_alike_r12 := goodIn_r _ [165, 166, 167, 23, 168, 169, 170, 171, 25, 172, 173, 174, 175, 176, 177, 178, 179, 180, 181, 182, 183, 184, 185, 186] rfl (by decide +kernel)
set_option maxRecDepth 20000 in
theorem gsL_law_L_alike_12 : GoodIn wsL_law wsL_alike_r13 := goodIn_r _ [187, 188, 189, 284, 285, 286, 287, 288, 289, 290, 291, 292, 293, 294, 299, 300, 301, 302, 303, 304, 305, 306, 307, 308] rfl (by decide +kernel)
set_option maxRecDepth 20000 in
theorem gsL_law_L_alike_13 : GoodIn wsL_law wsL_alike_r14 := goodIn_r _ [309, 310, 311, 312, 313, 314, 315, 316, 317, 318, 323, 324, 325, 326, 327, 328, 329, 330, 331, 332, 333, 334, 335, 336] rfl (by decide +kernel)
set_option maxRecDepth 20000 in
theorem gsL_law_L_alike_14 : GoodIn wsL_law wsL_alike_r15 := goodIn_r _ [337, 338, 339, 340, 341, 342, 343, 344, 345, 346, 347, 348, 349, 350, 351, 352, 353, 354, 355, 356, 357, 358, 359, 360] rfl (by decide +kernel)
set_option maxRecDepth 20000 in
theorem gsL_law_L_alike_15 : GoodIn wsL_law wsL_alike_r16 := goodIn_r _ [361, 362, 363, 364, 365, 366, 367, 368, 369, 370, 371, 372, 373, 374, 375, 376, 377, 378, 379, 380, 381, 382, 383, 384] rfl (by decide +kernel)
set_option maxRecDepth 20000 in
theorem gsL_law_L_alike_16 : GoodIn wsL_law wsL_alike_r17 := goodIn_r _ [385, 386, 387, 388, 389, 390, 391, 392, 393, 394, 395, 396, 397, 398, 399, 400, 401, 402, 403, 404, 22, 21, 405, 406] rfl (by decide +kernel)
set_option maxRecDepth 20000 in
theorem gsL_law_L_alike_17 : GoodIn wsL_law wsL_alike_r18 := goodIn_r _ [407, 408, 413, 414, 20, 415, 416, 417, 418, 419, 420, 421, 422, 423, 424, 425, 426, 427, 428, 429, 430, 431, 432, 433] rfl (by decide +kernel)
set_option maxRecDepth 20000 in
theorem gsL_law_L_alike_18 : GoodIn wsL_law wsL_alike_r19 := goodIn_r _ [434, 435, 436, 437, 438, 439, 440, 441, 442, 443, 444, 445, 446, 447, 448, 449, 450, 451, 452, 453, 454, 455, 456, 457] rfl (by decide +kernel)
set_option maxRecDepth 20000 in
theorem gsL_law_L_alike_19 : GoodIn wsL_law wsL_alike_r20 := goodIn_r _ [458, 459, 460, 461, 462, 463, 465, 480, 481, 482, 483, 484, 485, 486, 487, 488, 489, 490, 491, 492, 493, 494, 495, 496] rfl (by decide +kernel)
set_option maxRecDepth 20000 in
theorem gsL_law_L_alike_20 : GoodIn wsL_law wsL_alike_r21 := goodIn_r _ [497, 498, 499, 500] rfl (by decide +kernel)
set_option maxRecDepth 20000 in
theorem gsL_law_L_alike_wsX30 : GoodIn wsL_law wsX30 := goodIn_r _ [598, 599, 600, 601, 602, 603, 604, 605] rfl (by decide +kernel)
set_option maxRecDepth 20000 in
theorem gsL_law_L_alike_wsX00 : GoodIn wsL_law wsX00 := goodIn_r _ [608] rfl (by decide +kernel)
set_option maxRecDepth 20000 in
theorem gsL_law_L_alike_wsX20 : GoodIn wsL_law wsX20 := goodIn_r _ [606, 607] rfl (by decide +kernel)
set_option maxRecDepth 20000 in
theorem gsL_law_L_alike_wsX10 : GoodIn wsL_law wsX10 := goodIn_r _ [609] rfl (by decide +kernel)
theorem gsL_law_L_alike_b : GoodIn wsL_law (.code yL_alike cL_alike 5 (some .boolean) :: ((wsL_alike_r1 ++ (wsL_alike_r2 ++ (wsL_alike_r3 ++ (wsL_alike_r4 ++ (wsL_alike_r5 ++ (wsL_alike_r6 ++ (wsL_alike_r7 ++ (wsL_alike_r8 ++ (wsL_alike_r9 ++ (wsL_alike_r10 ++ (wsL_alike_r11 ++ (wsL_alike_r12 ++ (wsL_alike_r13 ++ (wsL_alike_r14 ++ (wsL_alike_r15 ++ (wsL_alike_r16 ++ (wsL_alike_r17 ++ (wsL_alike_r18 ++ (wsL_alike_r19 ++ (wsL_alike_r20 ++ wsL_alike_r21)))))))))))))))))))) ++ wsX30 ++ wsX00 ++ wsX20 ++ wsX10)) := goodIn_cons gsL_law_L_alike_h (goodIn_app (goodIn_app (goodIn_app (goodIn_app (goodIn_app gsL_law_L_alike_0 (goodIn_app gsL_law_L_alike_1 (goodIn_app gsL_law_L_alike_2 (goodIn_app gsL_law_L_alike_3 (goodIn_app gsL_law_L_alike_4 (goodIn_app gsL_law_L_alike_5 (goodIn_app gsL_law_L_alike_6 (goodIn_app gsL_law_L_alike_7 (goodIn_app gsL_law_L_alike_8 (goodIn_app gsL_law_L_alike_9 (goodIn_app gsL_law_L_alike_10 (goodIn_app gsL_law_L_alike_11 (goodIn_app gsL_law_L_alike_12 (goodIn_app gsL_law_L_alike_13 (goodIn_app gsL_law_L_alike_14 (goodIn_app gsL_law_L_alike_15 (goodIn_app gsL_law_L_alike_16 (goodIn_app gsL_law_L_alike_17 (goodIn_app gsL_law_L_alike_18 (goodIn_app gsL_law_L_alike_19 gsL_law_L_alike_20)))))))))))))))))))) gsL_law_L_alike_wsX30) gsL_law_L_alike_wsX00) gsL_law_L_alike_wsX20) gsL_law_L_alike_wsX10)
set_option maxRecDepth 20000 in
theorem ggL_law_L_alike : GoodIn wsL_law wsL_alike := goodIn_ca (goodIn_ca (goodIn_ca gsL_law_L_alike_b (goodIn_sub (fun _ h => List.mem_append_left _ (List.mem_append_left _ (List.mem_append_right _ h))) (by decide +kernel))) (goodIn_sub (fun _ h => List.mem_append_left _ (List.mem_append_right _ h)) (by decide +kernel))) (goodIn_sub (fun _ h => List.mem_append_right _ h) (by decide +kernel))
set_option maxRecDepth 20000 in
theorem gL_law_L_alike : GoodIn wsL_law (va_wsS RL 188 yL_alike wsL_alike) := goodIn_app (goodIn_of _ (by decide +kernel)) ggL_law_L_alike
set_option maxRecDepth 20000 in
theorem gsL_law_L_holds_h : GoodIn wsL_law [.code yL_holds cL_holds 16 (some .boolean)] := goodIn_r _ [560] rfl (by decide +kernel)
set_option maxRecDepth 20000 in
theorem gsL_law_L_holds_0 : GoodIn wsL_law wsL_holds_r1 := goodIn_r _ [31, 56, 57, 49, 58, 59, 60, 61, 62, 63, 64, 65, 66, 67, 68, 2, 69, 70, 71, 72, 73, 13, 74, 75] rfl (by decide +kernel)
set_option maxRecDepth 20000 in
theorem gsL_law_L_holds_1 : GoodIn wsL_law wsL_holds_r2 := goodIn_r _ [76, 12, 77, 33, 78, 79, 80, 81, 32, 82, 83, 84, 85, 86, 87, 88, 89, 90, 91, 92, 17, 93, 94, 95] rfl (by decide +kernel)
set_option maxRecDepth 20000 in
theorem gsL_law_L_holds_2 : GoodIn wsL_law wsL_holds_r3 := goodIn_r _ [96, 97, 98, 99, 100, 101, 102, 103, 104, 105, 106, 107, 108, 109, 110, 111, 112, 113, 114, 115, 116, 117, 118, 119] rfl (by decide +kernel)
set_option maxRecDepth 20000 in
theorem gsL_law_L_holds_3 : GoodIn wsL_law wsL_holds_r4 := goodIn_r _ [120, 121, 122, 123, 124, 125, 126, 127, 128, 129, 130, 131, 132, 133, 134, 135, 136, 137, 138, 139, 140, 141, 142, 143] rfl (by decide +kernel)
set_option maxRecDepth 20000 in
theorem gsL_law_L_holds_4 : GoodIn wsL_law wsL_holds_r5 := goodIn_r _ [144, 145, 146, 147, 148, 149, 150, 151, 152, 153, 154, 155, 156, 157, 158, 159, 160, 161, 162, 163, 40, 41, 16, 42] rfl (by decide +kernel)
set_option maxRecDepth 20000 in
theorem gsL_law_L_holds_5 : GoodIn wsL_law wsL_holds_r6 := goodIn_r _ [38, 164, 165, 166, 167, 23, 168, 169, 170, 171, 25, 172, 173, 174, 175, 176, 177, 178, 179, 180, 181, 182, 183, 184] rfl (by decide +kernel)
set_option maxRecDepth 20000 in
theorem gsL_law_L_holds_6 : GoodIn wsL_law wsL_holds_r7 := goodIn_r _ [185, 186, 187, 188, 189, 190, 191, 192, 193, 194, 195, 196, 197, 198, 199, 200, 201, 202, 203, 204, 205, 206, 207, 208] rfl (by decide +kernel)
set_option maxRecDepth 20000 in
theorem gsL_law_L_holds_7 : GoodIn wsL_law wsL_holds_r8 := goodIn_r _ [209, 210, 211, 212, 213, 214, 215, 216, 217, 218, 219, 220, 221, 222, 223, 224, 225, 226, 227, 228, 229, 230, 231, 232] rfl (by decide +kernel)
set_option maxRecDepth 20000 in
theorem gsL_law_L_holds_8 : GoodIn wsL_law wsL_holds_r9 := goodIn_r _ [233, 234, 235, 236, 237, 238, 239, 240, 241, 242, 243, 244, 245, 246, 247, 248, 249, 250, 251, 252, 253, 254, 255, 256] rfl (by decide +kernel)
set_option maxRecDepth 20000 in
theorem gsL_law_L_holds_9 : GoodIn wsL_law wsL_holds_r10 := goodIn_r _ [257, 258, 259, 260, 261, 262, 263, 264, 265, 266, 267, 268, 269, 270, 271, 272, 273, 274, 275, 276, 277, 278, 279, 280] rfl (by decide +kernel)
set_option maxRecDepth 20000 in
theorem gsL_law_L_holds_10 : GoodIn wsL_law wsL_holds_r11 := goodIn_r _ [281, 282, 283, 284, 285, 286, 287, 288, 289, 290, 291, 292, 293, 294, 295, 296, 297, 298, 299, 300, 301, 302, 303, 304] rfl (by decide +kernel)
set_option maxRecDepth 20000 in
theorem gsL_law_L_holds_11 : GoodIn wsL_law wsL_holds_r12 := goodIn_r _ [305, 306, 307, 308, 309, 310, 311, 312, 313, 314, 315, 316, 317, 318, 319, 320, 321, 322, 323, 324, 325, 326, 327, 328] rfl (by decide +kernel)
set_option maxRecDepth 20000 in
theorem gsL_law_L_holds_12 : GoodIn wsL_law wsL_holds_r13 := goodIn_r _ [329, 330, 331, 332, 333, 334, 335, 336, 337, 338, 339, 340, 341, 342, 343, 344, 345, 346, 347, 348, 349, 350, 351, 352] rfl (by decide +kernel)
set_option maxRecDepth 20000 in
theorem gsL_law_L_holds_13 : GoodIn wsL_law wsL_holds_r14 := goodIn_r _ [353, 354, 355, 356, 357, 358, 359, 360, 361, 362, 363, 364, 365, 366, 367, 368, 369, 370, 371, 372, 373, 374, 375, 376] rfl (by decide +kernel)
set_option maxRecDepth 20000 in
theorem gsL_law_L_holds_14 : GoodIn wsL_law wsL_holds_r15 := goodIn_r _ [377, 378, 379, 380, 381, 382, 383, 384, 385, 386, 387, 388, 389, 390, 391, 392, 393, 394, 395, 396, 397, 398, 399, 400] rfl (by decide +kernel)
set_option maxRecDepth 20000 in
theorem gsL_law_L_holds_15 : GoodIn wsL_law wsL_holds_r16 := goodIn_r _ [401, 402, 403, 404, 22, 21, 405, 406, 407, 408, 409, 410, 411, 412, 413, 414, 20, 415, 416, 417, 418, 419, 420, 421] rfl (by decide +kernel)
set_option maxRecDepth 20000 in
theorem gsL_law_L_holds_16 : GoodIn wsL_law wsL_holds_r17 := goodIn_r _ [422, 423, 424, 425, 426, 427, 428, 429, 430, 431, 432, 433, 434, 435, 436, 437, 438, 439, 440, 441, 442, 443, 444, 445] rfl (by decide +kernel)
set_option maxRecDepth 20000 in
theorem gsL_law_L_holds_17 : GoodIn wsL_law wsL_holds_r18 := goodIn_r _ [446, 447, 448, 449, 450, 451, 452, 453, 454, 455, 456, 457, 458, 459, 460, 461, 27, 462, 463, 464, 465, 466, 467, 468] rfl (by decide +kernel)
set_option maxRecDepth 20000 in
theorem gsL_law_L_holds_18 : GoodIn wsL_law wsL_holds_r19 := goodIn_r _ [469, 470, 471, 472, 473, 474, 475, 476, 477, 478, 479, 480, 481, 482, 483, 484, 485, 486, 26, 487, 488, 489, 490, 491] rfl (by decide +kernel)
set_option maxRecDepth 20000 in
theorem gsL_law_L_holds_19 : GoodIn wsL_law wsL_holds_r20 := goodIn_r _ [492, 493, 494, 495, 496, 497, 498, 499, 500, 561, 562, 563, 554, 555, 556, 557] rfl (by decide +kernel)
set_option maxRecDepth 20000 in
theorem gsL_law_L_holds_wsX30 : GoodIn wsL_law wsX30 := goodIn_r _ [598, 599, 600, 601, 602, 603, 604, 605] rfl (by decide +kernel)
set_option maxRecDepth 20000 in
theorem gsL_law_L_holds_wsX20 : GoodIn wsL_law wsX20 := goodIn_r _ [606, 607] rfl (by decide +kernel)
set_option maxRecDepth 20000 in
theorem gsL_law_L_holds_wsX00 : GoodIn wsL_law wsX00 := goodIn_r _ [608] rfl (by decide +kernel)
set_option maxRecDepth 20000 in
theorem gsL_law_L_holds_wsX10 : GoodIn wsL_law wsX10 := goodIn_r _ [609] rfl (by decide +kernel)
theorem gsL_law_L_holds_b : GoodIn wsL_law (.code yL_holds cL_holds 16 (some .boolean) :: ((wsL_holds_r1 ++ (wsL_holds_r2 ++ (wsL_holds_r3 ++ (wsL_holds_r4 ++ (wsL_holds_r5 ++ (wsL_holds_r6 ++ (wsL_holds_r7 ++ (wsL_holds_r8 ++ (wsL_holds_r9 ++ (wsL_holds_r10 ++ (wsL_holds_r11 ++ (wsL_holds_r12 ++ (wsL_holds_r13 ++ (wsL_holds_r14 ++ (wsL_holds_r15 ++ (wsL_holds_r16 ++ (wsL_holds_r17 ++ (wsL_holds_r18 ++ (wsL_holds_r19 ++ wsL_holds_r20))))))))))))))))))) ++ wsX30 ++ wsX20 ++ wsX00 ++ wsX10)) := goodIn_cons gsL_law_L_holds_h (goodIn_app (goodIn_app (goodIn_app (goodIn_app (goodIn_app gsL_law_L_holds_0 (goodIn_app gsL_law_L_holds_1 (goodIn_app gsL_law_L_holds_2 (goodIn_app gsL_law_L_holds_3 (goodIn_app gsL_law_L_holds_4 (goodIn_app gsL_law_L_holds_5 (goodIn_app gsL_law_L_holds_6 (goodIn_app gsL_law_L_holds_7 (goodIn_app gsL_law_L_holds_8 (goodIn_app gsL_law_L_holds_9 (goodIn_app gsL_law_L_holds_10 (goodIn_app gsL_law_L_holds_11 (goodIn_app gsL_law_L_holds_12 (goodIn_app gsL_law_L_holds_13 (goodIn_app gsL_law_L_holds_14 (goodIn_app gsL_law_L_holds_15 (goodIn_app gsL_law_L_holds_16 (goodIn_app gsL_law_L_holds_17 (goodIn_app gsL_law_L_holds_18 gsL_law_L_holds_19))))))))))))))))))) gsL_law_L_holds_wsX30) gsL_law_L_holds_wsX20) gsL_law_L_holds_wsX00) gsL_law_L_holds_wsX10)
set_option maxRecDepth 20000 in
theorem ggL_law_L_holds : GoodIn wsL_law wsL_holds := goodIn_ca (goodIn_ca (goodIn_ca gsL_law_L_holds_b (goodIn_sub (fun _ h => List.mem_append_left _ (List.mem_append_left _ (List.mem_append_right _ h))) (by decide +kernel))) (goodIn_sub (fun _ h => List.mem_append_left _ (List.mem_append_right _ h)) (by decide +kernel))) (goodIn_sub (fun _ h => List.mem_append_right _ h) (by decide +kernel))
set_option maxRecDepth 20000 in
theorem gL_law_L_holds : GoodIn wsL_law (va_wsS RL 192 yL_holds wsL_holds) := goodIn_app (goodIn_of _ (by decide +kernel)) ggL_law_L_holds
set_option maxRecDepth 20000 in
theorem gsL_law_L_ticks_h : GoodIn wsL_law [.code yL_ticks cL_ticks 11 (some .boolean)] := goodIn_r _ [566] rfl (by decide +kernel)
set_option maxRecDepth 20000 in
theorem gsL_law_L_ticks_0 : GoodIn wsL_law wsL_ticks_r1 := goodIn_r _ [56, 57, 49, 58, 59, 60, 61, 62, 63, 64, 65, 66, 67, 68, 2, 69, 70, 71, 72, 73, 13, 74, 75, 76] rfl (by decide +kernel)
set_option maxRecDepth 20000 in
theorem gsL_law_L_ticks_1 : GoodIn wsL_law wsL_ticks_r2 := goodIn_r _ [12, 77, 33, 78, 79, 80, 81, 32, 82, 83, 84, 85, 86, 87, 88, 89, 90, 91, 92, 17, 93, 94, 95, 96] rfl (by decide +kernel)
set_option maxRecDepth 20000 in
theorem gsL_law_L_ticks_2 : GoodIn wsL_law wsL_ticks_r3 := goodIn_r _ [97, 98, 99, 100, 101, 102, 103, 104, 105, 106, 107, 108, 109, 110, 111, 112, 113, 114, 115, 116, 117, 118, 119, 120] rfl (by decide +kernel)
set_option maxRecDepth 20000 in
theorem gsL_law_L_ticks_3 : GoodIn wsL_law wsL_ticks_r4 := goodIn_r _ [121, 122, 123, 124, 125, 126, 127, 128, 129, 130, 131, 132, 133, 134, 135, 136, 137, 138, 139, 140, 141, 142, 143, 144] rfl (by decide +kernel)
set_option maxRecDepth 20000 in
theorem gsL_law_L_ticks_4 : GoodIn wsL_law wsL_ticks_r5 := goodIn_r _ [145, 146, 147, 148, 149, 150, 151, 152, 153, 154, 155, 156, 157, 158, 159, 160, 161, 162, 163, 40, 41, 16, 42, 38] rfl (by decide +kernel)
set_option maxRecDepth 20000 in
theorem gsL_law_L_ticks_5 : GoodIn wsL_law wsL_ticks_r6 := goodIn_r _ [164, 165, 166, 167, 23, 168, 169, 170, 171, 25, 172, 173, 174, 175, 176, 177, 178, 179, 180, 181, 182, 183, 184, 185] rfl (by decide +kernel)
set_option maxRecDepth 20000 in
theorem gsL_law_L_ticks_6 : GoodIn wsL_law wsL_ticks_r7 := goodIn_r _ [186, 187, 188, 189, 190, 191, 192, 193, 194, 195, 196, 197, 198, 199, 200, 201, 202, 203, 204, 205, 206, 207, 208, 209] rfl (by decide +kernel)
set_option maxRecDepth 20000 in
theorem gsL_law_L_ticks_7 : GoodIn wsL_law wsL_ticks_r8 := goodIn_r _ [210, 211, 212, 213, 214, 215, 216, 217, 218, 219, 220, 221, 222, 223, 224, 225, 226, 227, 228, 229, 230, 231, 232, 233] rfl (by decide +kernel)
set_option maxRecDepth 20000 in
theorem gsL_law_L_ticks_8 : GoodIn wsL_law wsL_ticks_r9 := goodIn_r _ [234, 235, 236, 237, 238, 239, 240, 241, 242, 243, 244, 245, 246, 247, 248, 249, 250, 251, 252, 253, 254, 255, 256, 257] rfl (by decide +kernel)
set_option maxRecDepth 20000 in
theorem gsL_law_L_ticks_9 : GoodIn wsL_law wsL_ticks_r10 := goodIn_r _ [258, 259, 260, 261, 262, 263, 264, 265, 266, 267, 268, 269, 270, 271, 272, 273, 274, 275, 276, 277, 278, 279, 280, 281] rfl (by decide +kernel)
set_option maxRecDepth 20000 in
theorem gsL_law_L_ticks_10 : GoodIn wsL_law wsL_ticks_r11 := goodIn_r _ [282, 283, 284, 285, 286, 287, 288, 289, 290, 291, 292, 293, 294, 295, 296, 297, 298, 299, 300, 301, 302, 303, 304, 305] rfl (by decide +kernel)
set_option maxRecDepth 20000 in
theorem gsL_law_L_ticks_11 : GoodIn wsL_law wsL_ticks_r12 := goodIn_r _ [306, 307, 308, 309, 310, 311, 312, 313, 314, 315, 316, 317, 318, 319, 320, 321, 322, 323, 324, 325, 326, 327, 328, 329] rfl (by decide +kernel)
set_option maxRecDepth 20000 in
theorem gsL_law_L_ticks_12 : GoodIn wsL_law wsL_ticks_r13 := goodIn_r _ [330, 331, 332, 333, 334, 335, 336, 337, 338, 339, 340, 341, 342, 343, 344, 345, 346, 347, 348, 349, 350, 351, 352, 353] rfl (by decide +kernel)
set_option maxRecDepth 20000 in
theorem gsL_law_L_ticks_13 : GoodIn wsL_law wsL_ticks_r14 := goodIn_r _ [354, 355, 356, 357, 358, 359, 360, 361, 362, 363, 364, 365, 366, 367, 368, 369, 370, 371, 372, 373, 374, 375, 376, 377] rfl (by decide +kernel)
set_option maxRecDepth 20000 in
theorem gsL_law_L_ticks_14 : GoodIn wsL_law wsL_ticks_r15 := goodIn_r _ [378, 379, 380, 381, 382, 383, 384, 385, 386, 387, 388, 389, 390, 391, 392, 393, 394, 395, 396, 397, 398, 399, 400, 401] rfl (by decide +kernel)
set_option maxRecDepth 20000 in
theorem gsL_law_L_ticks_15 : GoodIn wsL_law wsL_ticks_r16 := goodIn_r _ [402, 403, 404, 22, 21, 405, 406, 407, 408, 409, 410, 411, 412, 413, 414, 20, 415, 416, 417, 418, 419, 420, 421, 422] rfl (by decide +kernel)
set_option maxRecDepth 20000 in
theorem gsL_law_L_ticks_16 : GoodIn wsL_law wsL_ticks_r17 := goodIn_r _ [423, 424, 425, 426, 427, 428, 429, 430, 431, 432, 433, 434, 435, 436, 437, 438, 439, 440, 441, 442, 443, 444, 445, 446] rfl (by decide +kernel)
set_option maxRecDepth 20000 in
theorem gsL_law_L_ticks_17 : GoodIn wsL_law wsL_ticks_r18 := goodIn_r _ [447, 448, 449, 450, 451, 452, 453, 454, 455, 456, 457, 458, 459, 460, 461, 27, 462, 463, 464, 465, 466, 467, 468, 469] rfl (by decide +kernel)
set_option maxRecDepth 20000 in
theorem gsL_law_L_ticks_18 : GoodIn wsL_law wsL_ticks_r19 := goodIn_r _ [470, 471, 472, 473, 474, 475, 476, 477, 478, 479, 480, 481, 482, 483, 484, 485, 486, 26, 487, 488, 489, 490, 491, 492] rfl (by decide +kernel)
set_option maxRecDepth 20000 in
theorem gsL_law_L_ticks_19 : GoodIn wsL_law wsL_ticks_r20 := goodIn_r _ [493, 494, 495, 496, 497, 498, 499, 500, 554, 555, 556, 557, 567, 568, 569] rfl (by decide +kernel)
set_option maxRecDepth 20000 in
theorem gsL_law_L_ticks_wsX30 : GoodIn wsL_law wsX30 := goodIn_r _ [598, 599, 600, 601, 602, 603, 604, 605] rfl (by decide +kernel)
set_option maxRecDepth 20000 in
theorem gsL_law_L_ticks_wsX20 : GoodIn wsL_law wsX20 := goodIn_r _ [606, 607] rfl (by decide +kernel)
set_option maxRecDepth 20000 in
theorem gsL_law_L_ticks_wsX00 : GoodIn wsL_law wsX00 := goodIn_r _ [608] rfl (by decide +kernel)
set_option maxRecDepth 20000 in
theorem gsL_law_L_ticks_wsX10 : GoodIn wsL_law wsX10 := goodIn_r _ [609] rfl (by decide +kernel)
theorem gsL_law_L_ticks_b : GoodIn wsL_law (.code yL_ticks cL_ticks 11 (some .boolean) :: ((wsL_ticks_r1 ++ (wsL_ticks_r2 ++ (wsL_ticks_r3 ++ (wsL_ticks_r4 ++ (wsL_ticks_r5 ++ (wsL_ticks_r6 ++ (wsL_ticks_r7 ++ (wsL_ticks_r8 ++ (wsL_ticks_r9 ++ (wsL_ticks_r10 ++ (wsL_ticks_r11 ++ (wsL_ticks_r12 ++ (wsL_ticks_r13 ++ (wsL_ticks_r14 ++ (wsL_ticks_r15 ++ (wsL_ticks_r16 ++ (wsL_ticks_r17 ++ (wsL_ticks_r18 ++ (wsL_ticks_r19 ++ wsL_ticks_r20))))))))))))))))))) ++ wsX30 ++ wsX20 ++ wsX00 ++ wsX10)) := goodIn_cons gsL_law_L_ticks_h (goodIn_app (goodIn_app (goodIn_app (goodIn_app (goodIn_app gsL_law_L_ticks_0 (goodIn_app gsL_law_L_ticks_1 (goodIn_app gsL_law_L_ticks_2 (goodIn_app gsL_law_L_ticks_3 (goodIn_app gsL_law_L_ticks_4 (goodIn_app gsL_law_L_ticks_5 (goodIn_app gsL_law_L_ticks_6 (goodIn_app gsL_law_L_ticks_7 (goodIn_app gsL_law_L_ticks_8 (goodIn_app gsL_law_L_ticks_9 (goodIn_app gsL_law_L_ticks_10 (goodIn_app gsL_law_L_ticks_11 (goodIn_app gsL_law_L_ticks_12 (goodIn_app gsL_law_L_ticks_13 (goodIn_app gsL_law_L_ticks_14 (goodIn_app gsL_law_L_ticks_15 (goodIn_app gsL_law_L_ticks_16 (goodIn_app gsL_law_L_ticks_17 (goodIn_app gsL_law_L_ticks_18 gsL_law_L_ticks_19))))))))))))))))))) gsL_law_L_ticks_wsX30) gsL_law_L_ticks_wsX20) gsL_law_L_ticks_wsX00) gsL_law_L_ticks_wsX10)
set_option maxRecDepth 20000 in
theorem ggL_law_L_ticks : GoodIn wsL_law wsL_ticks := goodIn_ca (goodIn_ca (goodIn_ca gsL_law_L_ticks_b (goodIn_sub (fun _ h => List.mem_append_left _ (List.mem_append_left _ (List.mem_append_right _ h))) (by decide +kernel))) (goodIn_sub (fun _ h => List.mem_append_left _ (List.mem_append_right _ h)) (by decide +kernel))) (goodIn_sub (fun _ h => List.mem_append_right _ h) (by decide +kernel))
set_option maxRecDepth 20000 in
theorem gL_law_L_ticks : GoodIn wsL_law (va_wsS RL 196 yL_ticks wsL_ticks) := goodIn_app (goodIn_of _ (by decide +kernel)) ggL_law_L_ticks
set_option maxRecDepth 20000 in
theorem gsL_law_L_pulls_h : GoodIn wsL_law [.code yL_pulls cL_pulls 12 (some .boolean)] := goodIn_r _ [572] rfl (by decide +kernel)
set_option maxRecDepth 20000 in
theorem gsL_law_L_pulls_0 : GoodIn wsL_law wsL_pulls_r1 := goodIn_r _ [65, 56, 57, 49, 58, 59, 60, 61, 62, 63, 64, 66, 67, 68, 2, 69, 70, 71, 72, 73, 13, 74, 75, 76] rfl (by decide +kernel)
set_option maxRecDepth 20000 in
theorem gsL_law_L_pulls_1 : GoodIn wsL_law wsL_pulls_r2 := goodIn_r _ [12, 77, 33, 78, 79, 80, 81, 32, 82, 83, 84, 85, 86, 87, 88, 89, 90, 91, 92, 17, 93, 94, 95, 96] rfl (by decide +kernel)
set_option maxRecDepth 20000 in
theorem gsL_law_L_pulls_2 : GoodIn wsL_law wsL_pulls_r3 := goodIn_r _ [97, 98, 99, 100, 101, 102, 103, 104, 105, 106, 107, 108, 109, 110, 111, 112, 113, 114, 115, 116, 117, 118, 119, 120] rfl (by decide +kernel)
set_option maxRecDepth 20000 in
theorem gsL_law_L_pulls_3 : GoodIn wsL_law wsL_pulls_r4 := goodIn_r _ [121, 122, 123, 124, 125, 126, 127, 128, 129, 130, 131, 132, 133, 134, 135, 136, 137, 138, 139, 140, 141, 142, 143, 144] rfl (by decide +kernel)
set_option maxRecDepth 20000 in
theorem gsL_law_L_pulls_4 : GoodIn wsL_law wsL_pulls_r5 := goodIn_r _ [145, 146, 147, 148, 149, 150, 151, 152, 153, 154, 155, 156, 157, 158, 159, 160, 161, 162, 163, 40, 41, 16, 42, 38] rfl (by decide +kernel)
set_option maxRecDepth 20000 in
theorem gsL_law_L_pulls_5 : GoodIn wsL_law wsL_pulls_r6 := goodIn_r _ [164, 165, 166, 167, 23, 168, 169, 170, 171, 25, 172, 173, 174, 175, 176, 177, 178, 179, 180, 181, 182, 183, 184, 185] rfl (by decide +kernel)
set_option maxRecDepth 20000 in
theorem gsL_law_L_pulls_6 : GoodIn wsL_law wsL_pulls_r7 := goodIn_r _ [186, 187, 188, 189, 190, 191, 192, 193, 194, 195, 196, 197, 198, 199, 200, 201, 202, 203, 204, 205, 206, 207, 208, 209] rfl (by decide +kernel)
set_option maxRecDepth 20000 in
theorem gsL_law_L_pulls_7 : GoodIn wsL_law wsL_pulls_r8 := goodIn_r _ [210, 211, 212, 213, 214, 215, 216, 217, 218, 219, 220, 221, 222, 223, 224, 225, 226, 227, 228, 229, 230, 231, 232, 233] rfl (by decide +kernel)
set_option maxRecDepth 20000 in
theorem gsL_law_L_pulls_8 : GoodIn wsL_law wsL_pulls_r9 := goodIn_r _ [234, 235, 236, 237, 238, 239, 240, 241, 242, 243, 244, 245, 246, 247, 248, 249, 250, 251, 252, 253, 254, 255, 256, 257] rfl (by decide +kernel)
set_option maxRecDepth 20000 in
theorem gsL_law_L_pulls_9 : GoodIn wsL_law wsL_pulls_r10 := goodIn_r _ [258, 259, 260, 261, 262, 263, 264, 265, 266, 267, 268, 269, 270, 271, 272, 273, 274, 275, 276, 277, 278, 279, 280, 281] rfl (by decide +kernel)
set_option maxRecDepth 20000 in
theorem gsL_law_L_pulls_10 : GoodIn wsL_law wsL_pulls_r11 := goodIn_r _ [282, 283, 284, 285, 286, 287, 288, 289, 290, 291, 292, 293, 294, 295, 296, 297, 298, 299, 300, 301, 302, 303, 304, 305] rfl (by decide +kernel)
set_option maxRecDepth 20000 in
theorem gsL_law_L_pulls_11 : GoodIn wsL_law wsL_pulls_r12 := goodIn_r _ [306, 307, 308, 309, 310, 311, 312, 313, 314, 315, 316, 317, 318, 319, 320, 321, 322, 323, 324, 325, 326, 327, 328, 329] rfl (by decide +kernel)
set_option maxRecDepth 20000 in
theorem gsL_law_L_pulls_12 : GoodIn wsL_law wsL_pulls_r13 := goodIn_r _ [330, 331, 332, 333, 334, 335, 336, 337, 338, 339, 340, 341, 342, 343, 344, 345, 346, 347, 348, 349, 350, 351, 352, 353] rfl (by decide +kernel)
set_option maxRecDepth 20000 in
theorem gsL_law_L_pulls_13 : GoodIn wsL_law wsL_pulls_r14 := goodIn_r _ [354, 355, 356, 357, 358, 359, 360, 361, 362, 363, 364, 365, 366, 367, 368, 369, 370, 371, 372, 373, 374, 375, 376, 377] rfl (by decide +kernel)
set_option maxRecDepth 20000 in
theorem gsL_law_L_pulls_14 : GoodIn wsL_law wsL_pulls_r15 := goodIn_r _ [378, 379, 380, 381, 382, 383, 384, 385, 386, 387, 388, 389, 390, 391, 392, 393, 394, 395, 396, 397, 398, 399, 400, 401] rfl (by decide +kernel)
set_option maxRecDepth 20000 in
theorem gsL_law_L_pulls_15 : GoodIn wsL_law wsL_pulls_r16 := goodIn_r _ [402, 403, 404, 22, 21, 405, 406, 407, 408, 409, 410, 411, 412, 413, 414, 20, 415, 416, 417, 418, 419, 420, 421, 422] rfl (by decide +kernel)
set_option maxRecDepth 20000 in
theorem gsL_law_L_pulls_16 : GoodIn wsL_law wsL_pulls_r17 := goodIn_r _ [423, 424, 425, 426, 427, 428, 429, 430, 431, 432, 433, 434, 435, 436, 437, 438, 439, 440, 441, 442, 443, 444, 445, 446] rfl (by decide +kernel)
set_option maxRecDepth 20000 in
theorem gsL_law_L_pulls_17 : GoodIn wsL_law wsL_pulls_r18 := goodIn_r _ [447, 448, 449, 450, 451, 452, 453, 454, 455, 456, 457, 458, 459, 460, 461, 27, 462, 463, 464, 465, 466, 467, 468, 469] rfl (by decide +kernel)
set_option maxRecDepth 20000 in
theorem gsL_law_L_pulls_18 : GoodIn wsL_law wsL_pulls_r19 := goodIn_r _ [470, 471, 472, 473, 474, 475, 476, 477, 478, 479, 480, 481, 482, 483, 484, 485, 486, 26, 487, 488, 489, 490, 491, 492] rfl (by decide +kernel)
set_option maxRecDepth 20000 in
theorem gsL_law_L_pulls_19 : GoodIn wsL_law wsL_pulls_r20 := goodIn_r _ [493, 494, 495, 496, 497, 498, 499, 500, 573, 574, 575, 576, 577, 578, 579, 580, 581, 582, 583, 584, 585, 586, 587, 588] rfl (by decide +kernel)
set_option maxRecDepth 20000 in
theorem gsL_law_L_pulls_20 : GoodIn wsL_law wsL_pulls_r21 := goodIn_r _ [589, 590, 591, 592, 593, 594, 595, 596, 597, 567, 568, 569] rfl (by decide +kernel)
set_option maxRecDepth 20000 in
theorem gsL_law_L_pulls_wsX30 : GoodIn wsL_law wsX30 := goodIn_r _ [598, 599, 600, 601, 602, 603, 604, 605] rfl (by decide +kernel)
set_option maxRecDepth 20000 in
theorem gsL_law_L_pulls_wsX20 : GoodIn wsL_law wsX20 := goodIn_r _ [606, 607] rfl (by decide +kernel)
set_option maxRecDepth 20000 in
theorem gsL_law_L_pulls_wsX00 : GoodIn wsL_law wsX00 := goodIn_r _ [608] rfl (by decide +kernel)
set_option maxRecDepth 20000 in
theorem gsL_law_L_pulls_wsX10 : GoodIn wsL_law wsX10 := goodIn_r _ [609] rfl (by decide +kernel)
theorem gsL_law_L_pulls_b : GoodIn wsL_law (.code yL_pulls cL_pulls 12 (some .boolean) :: ((wsL_pulls_r1 ++ (wsL_pulls_r2 ++ (wsL_pulls_r3 ++ (wsL_pulls_r4 ++ (wsL_pulls_r5 ++ (wsL_pulls_r6 ++ (wsL_pulls_r7 ++ (wsL_pulls_r8 ++ (wsL_pulls_r9 ++ (wsL_pulls_r10 ++ (wsL_pulls_r11 ++ (wsL_pulls_r12 ++ (wsL_pulls_r13 ++ (wsL_pulls_r14 ++ (wsL_pulls_r15 ++ (wsL_pulls_r16 ++ (wsL_pulls_r17 ++ (wsL_pulls_r18 ++ (wsL_pulls_r19 ++ (wsL_pulls_r20 ++ wsL_pulls_r21)))))))))))))))))))) ++ wsX30 ++ wsX20 ++ wsX00 ++ wsX10)) := goodIn_cons gsL_law_L_pulls_h (goodIn_app (goodIn_app (goodIn_app (goodIn_app (goodIn_app gsL_law_L_pulls_0 (goodIn_app gsL_law_L_pulls_1 (goodIn_app gsL_law_L_pulls_2 (goodIn_app gsL_law_L_pulls_3 (goodIn_app gsL_law_L_pulls_4 (goodIn_app gsL_law_L_pulls_5 (goodIn_app gsL_law_L_pulls_6 (goodIn_app gsL_law_L_pulls_7 (goodIn_app gsL_law_L_pulls_8 (goodIn_app gsL_law_L_pulls_9 (goodIn_app gsL_law_L_pulls_10 (goodIn_app gsL_law_L_pulls_11 (goodIn_app gsL_law_L_pulls_12 (goodIn_app gsL_law_L_pulls_13 (goodIn_app gsL_law_L_pulls_14 (goodIn_app gsL_law_L_pulls_15 (goodIn_app gsL_law_L_pulls_16 (goodIn_app gsL_law_L_pulls_17 (goodIn_app gsL_law_L_pulls_18 (goodIn_app gsL_law_L_pulls_19 gsL_law_L_pulls_20)))))))))))))))))))) gsL_law_L_pulls_wsX30) gsL_law_L_pulls_wsX20) gsL_law_L_pulls_wsX00) gsL_law_L_pulls_wsX10)
set_option maxRecDepth 20000 in
theorem ggL_law_L_pulls : GoodIn wsL_law wsL_pulls := goodIn_ca (goodIn_ca (goodIn_ca gsL_law_L_pulls_b (goodIn_sub (fun _ h => List.mem_append_left _ (List.mem_append_left _ (List.mem_append_right _ h))) (by decide +kernel))) (goodIn_sub (fun _ h => List.mem_append_left _ (List.mem_append_right _ h)) (by decide +kernel))) (goodIn_sub (fun _ h => List.mem_append_right _ h) (by decide +kernel))
set_option maxRecDepth 20000 in
theorem gL_law_L_pulls : GoodIn wsL_law (va_wsS RL 198 yL_pulls wsL_pulls) := goodIn_app (goodIn_of _ (by decide +kernel)) ggL_law_L_pulls
theorem dL_law_0 : decode cL_law 0 = .ok (.new 8, 3) := by decide +kernel
theorem dL_law_3 : decode cL_law 3 = .ok (.dup, 1) := by decide +kernel
theorem dL_law_4 : decode cL_law 4 = .ok (.invokespecial 175, 3) := by decide +kernel
theorem dL_law_7 : decode cL_law 7 = .ok (.astore_n 1, 1) := by decide +kernel
theorem dL_law_8 : decode cL_law 8 = .ok (.new 8, 3) := by decide +kernel
theorem dL_law_11 : decode cL_law 11 = .ok (.dup, 1) := by decide +kernel
theorem dL_law_12 : decode cL_law 12 = .ok (.invokespecial 175, 3) := by decide +kernel
theorem dL_law_15 : decode cL_law 15 = .ok (.astore_n 2, 1) := by decide +kernel
theorem dL_law_16 : decode cL_law 16 = .ok (.bipush 10, 2) := by decide +kernel
theorem dL_law_18 : decode cL_law 18 = .ok (.aload_n 0, 1) := by decide +kernel
theorem dL_law_19 : decode cL_law 19 = .ok (.iconst 0, 1) := by decide +kernel
theorem dL_law_20 : decode cL_law 20 = .ok (.invokestatic 176, 3) := by decide +kernel
theorem dL_law_23 : decode cL_law 23 = .ok (.bipush 19, 2) := by decide +kernel
theorem dL_law_25 : decode cL_law 25 = .ok (.irem, 1) := by decide +kernel
theorem dL_law_26 : decode cL_law 26 = .ok (.iadd, 1) := by decide +kernel
theorem dL_law_27 : decode cL_law 27 = .ok (.istore_n 3, 1) := by decide +kernel
theorem dL_law_28 : decode cL_law 28 = .ok (.iconst 1, 1) := by decide +kernel
theorem dL_law_29 : decode cL_law 29 = .ok (.istore 4, 2) := by decide +kernel
theorem dL_law_31 : decode cL_law 31 = .ok (.iconst 0, 1) := by decide +kernel
theorem dL_law_32 : decode cL_law 32 = .ok (.istore 5, 2) := by decide +kernel
theorem dL_law_34 : decode cL_law 34 = .ok (.iload 5, 2) := by decide +kernel
theorem dL_law_36 : decode cL_law 36 = .ok (.iload_n 3, 1) := by decide +kernel
theorem dL_law_37 : decode cL_law 37 = .ok (.if_icmp .ge 146, 3) := by decide +kernel
theorem dL_law_40 : decode cL_law 40 = .ok (.iload 4, 2) := by decide +kernel
theorem dL_law_42 : decode cL_law 42 = .ok (.ifCond .eq 141, 3) := by decide +kernel
theorem dL_law_45 : decode cL_law 45 = .ok (.aload_n 0, 1) := by decide +kernel
theorem dL_law_46 : decode cL_law 46 = .ok (.iconst 1, 1) := by decide +kernel
theorem dL_law_47 : decode cL_law 47 = .ok (.iload 5, 2) := by decide +kernel
theorem dL_law_49 : decode cL_law 49 = .ok (.iadd, 1) := by decide +kernel
theorem dL_law_50 : decode cL_law 50 = .ok (.invokestatic 176, 3) := by decide +kernel
theorem dL_law_53 : decode cL_law 53 = .ok (.istore 6, 2) := by decide +kernel
theorem dL_law_55 : decode cL_law 55 = .ok (.aload_n 1, 1) := by decide +kernel
theorem dL_law_56 : decode cL_law 56 = .ok (.iload 6, 2) := by decide +kernel
theorem dL_law_58 : decode cL_law 58 = .ok (.invokestatic 180, 3) := by decide +kernel
theorem dL_law_61 : decode cL_law 61 = .ok (.istore 7, 2) := by decide +kernel
theorem dL_law_63 : decode cL_law 63 = .ok (.aload_n 2, 1) := by decide +kernel
theorem dL_law_64 : decode cL_law 64 = .ok (.iload 6, 2) := by decide +kernel
theorem dL_law_66 : decode cL_law 66 = .ok (.ldc 183, 2) := by decide +kernel
theorem dL_law_68 : decode cL_law 68 = .ok (.irem, 1) := by decide +kernel
theorem dL_law_69 : decode cL_law 69 = .ok (.invokestatic 184, 3) := by decide +kernel
theorem dL_law_72 : decode cL_law 72 = .ok (.ifCond .eq 102, 3) := by decide +kernel
theorem dL_law_75 : decode cL_law 75 = .ok (.aload_n 2, 1) := by decide +kernel
theorem dL_law_76 : decode cL_law 76 = .ok (.iload 6, 2) := by decide +kernel
theorem dL_law_78 : decode cL_law 78 = .ok (.invokestatic 180, 3) := by decide +kernel
theorem dL_law_81 : decode cL_law 81 = .ok (.iload 7, 2) := by decide +kernel
theorem dL_law_83 : decode cL_law 83 = .ok (.if_icmp .ne 91, 3) := by decide +kernel
theorem dL_law_86 : decode cL_law 86 = .ok (.aload_n 2, 1) := by decide +kernel
theorem dL_law_87 : decode cL_law 87 = .ok (.iload 6, 2) := by decide +kernel
theorem dL_law_89 : decode cL_law 89 = .ok (.sipush 1000, 3) := by decide +kernel
theorem dL_law_92 : decode cL_law 92 = .ok (.irem, 1) := by decide +kernel
theorem dL_law_93 : decode cL_law 93 = .ok (.invokestatic 184, 3) := by decide +kernel
theorem dL_law_96 : decode cL_law 96 = .ok (.ifCond .eq 78, 3) := by decide +kernel
theorem dL_law_99 : decode cL_law 99 = .ok (.aload_n 1, 1) := by decide +kernel
theorem dL_law_100 : decode cL_law 100 = .ok (.aload_n 2, 1) := by decide +kernel
theorem dL_law_101 : decode cL_law 101 = .ok (.iload 6, 2) := by decide +kernel
theorem dL_law_103 : decode cL_law 103 = .ok (.sipush 5000, 3) := by decide +kernel
theorem dL_law_106 : decode cL_law 106 = .ok (.irem, 1) := by decide +kernel
theorem dL_law_107 : decode cL_law 107 = .ok (.invokestatic 188, 3) := by decide +kernel
theorem dL_law_110 : decode cL_law 110 = .ok (.ifCond .eq 64, 3) := by decide +kernel
theorem dL_law_113 : decode cL_law 113 = .ok (.iload 5, 2) := by decide +kernel
theorem dL_law_115 : decode cL_law 115 = .ok (.iconst 2, 1) := by decide +kernel
theorem dL_law_116 : decode cL_law 116 = .ok (.irem, 1) := by decide +kernel
theorem dL_law_117 : decode cL_law 117 = .ok (.ifCond .ne 13, 3) := by decide +kernel
theorem dL_law_120 : decode cL_law 120 = .ok (.aload_n 1, 1) := by decide +kernel
theorem dL_law_121 : decode cL_law 121 = .ok (.invokestatic 192, 3) := by decide +kernel
theorem dL_law_124 : decode cL_law 124 = .ok (.ifCond .eq 50, 3) := by decide +kernel
theorem dL_law_127 : decode cL_law 127 = .ok (.goto 10, 3) := by decide +kernel
theorem dL_law_130 : decode cL_law 130 = .ok (.aload_n 2, 1) := by decide +kernel
theorem dL_law_131 : decode cL_law 131 = .ok (.invokestatic 192, 3) := by decide +kernel
theorem dL_law_134 : decode cL_law 134 = .ok (.ifCond .eq 40, 3) := by decide +kernel
theorem dL_law_137 : decode cL_law 137 = .ok (.aload_n 1, 1) := by decide +kernel
theorem dL_law_138 : decode cL_law 138 = .ok (.aload_n 2, 1) := by decide +kernel
theorem dL_law_139 : decode cL_law 139 = .ok (.iload 6, 2) := by decide +kernel
theorem dL_law_141 : decode cL_law 141 = .ok (.bipush 7, 2) := by decide +kernel
theorem dL_law_143 : decode cL_law 143 = .ok (.idiv, 1) := by decide +kernel
theorem dL_law_144 : decode cL_law 144 = .ok (.invokestatic 196, 3) := by decide +kernel
theorem dL_law_147 : decode cL_law 147 = .ok (.ifCond .eq 27, 3) := by decide +kernel
theorem dL_law_150 : decode cL_law 150 = .ok (.iload 5, 2) := by decide +kernel
theorem dL_law_152 : decode cL_law 152 = .ok (.iconst 4, 1) := by decide +kernel
theorem dL_law_153 : decode cL_law 153 = .ok (.irem, 1) := by decide +kernel
theorem dL_law_154 : decode cL_law 154 = .ok (.ifCond .gt 16, 3) := by decide +kernel
theorem dL_law_157 : decode cL_law 157 = .ok (.aload_n 1, 1) := by decide +kernel
theorem dL_law_158 : decode cL_law 158 = .ok (.aload_n 2, 1) := by decide +kernel
theorem dL_law_159 : decode cL_law 159 = .ok (.iload 6, 2) := by decide +kernel
theorem dL_law_161 : decode cL_law 161 = .ok (.bipush 11, 2) := by decide +kernel
theorem dL_law_163 : decode cL_law 163 = .ok (.idiv, 1) := by decide +kernel
theorem dL_law_164 : decode cL_law 164 = .ok (.invokestatic 198, 3) := by decide +kernel
theorem dL_law_167 : decode cL_law 167 = .ok (.ifCond .eq 7, 3) := by decide +kernel
theorem dL_law_170 : decode cL_law 170 = .ok (.iconst 1, 1) := by decide +kernel
theorem dL_law_171 : decode cL_law 171 = .ok (.goto 4, 3) := by decide +kernel
theorem dL_law_175 : decode cL_law 175 = .ok (.istore 4, 2) := by decide +kernel
theorem dL_law_177 : decode cL_law 177 = .ok (.iinc 5 1, 3) := by decide +kernel
theorem dL_law_180 : decode cL_law 180 = .ok (.goto (-146), 3) := by decide +kernel
theorem dL_law_183 : decode cL_law 183 = .ok (.iload 4, 2) := by decide +kernel
theorem dL_law_185 : decode cL_law 185 = .ok (.ireturn, 1) := by decide +kernel
