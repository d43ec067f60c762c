set_option maxRecDepth 20000 in
theorem ggL_act_L_shuts : GoodIn wsL_act wsL_shuts := goodIn_ca (goodIn_ca (goodIn_r _ [467, 285, 9, 286, 11, 468, 469, 470, 15, 471, 291, 292, 19, 20, 44, 312, 157, 158, 472, 226, 227, 118, 228, 229, 230, 231, 232, 120, 360, 361, 362, 363, 364, 365, 125, 366, 367, 368, 369, 370, 371, 372, 373, 374, 375, 376, 377, 221, 222, 223, 224, 225, 266, 267, 268, 269, 270, 271, 272, 273, 473, 474, 475, 476, 477, 478, 479, 480, 483, 484] (by decide +kernel) (by decide +kernel)) (goodIn_sub (fun _ h => List.mem_cons_of_mem _ (List.mem_append_right _ h)) (by decide +kernel))) (goodIn_sub (fun _ h => List.mem_cons_of_mem _ (List.mem_append_left _ (List.mem_append_right _ h))) (by decide +kernel))
set_option maxRecDepth 20000 in
theorem gL_act_L_shuts : GoodIn wsL_act (va_wsS RL 154 yL_shuts wsL_shuts) := goodIn_app (goodIn_of _ (by decide +kernel)) ggL_act_L_shuts
theorem dL_act_0 : decode cL_act 0 = .ok (.iload_n 1, 1) := by decide +kernel
theorem dL_act_1 : decode cL_act 1 = .ok (.bipush 16, 2) := by decide +kernel
theorem dL_act_3 : decode cL_act 3 = .ok (.idiv, 1) := by decide +kernel
theorem dL_act_4 : decode cL_act 4 = .ok (.istore_n 2, 1) := by decide +kernel
theorem dL_act_5 : decode cL_act 5 = .ok (.aload_n 0, 1) := by decide +kernel
theorem dL_act_6 : decode cL_act 6 = .ok (.iconst 2, 1) := by decide +kernel
theorem dL_act_7 : decode cL_act 7 = .ok (.iconst 0, 1) := by decide +kernel
theorem dL_act_8 : decode cL_act 8 = .ok (.iconst 0, 1) := by decide +kernel
theorem dL_act_9 : decode cL_act 9 = .ok (.iconst 0, 1) := by decide +kernel
theorem dL_act_10 : decode cL_act 10 = .ok (.invokestatic 150, 3) := by decide +kernel
theorem dL_act_13 : decode cL_act 13 = .ok (.istore_n 3, 1) := by decide +kernel
theorem dL_act_14 : decode cL_act 14 = .ok (.iload_n 1, 1) := by decide +kernel
theorem dL_act_15 : decode cL_act 15 = .ok (.bipush 16, 2) := by decide +kernel
theorem dL_act_17 : decode cL_act 17 = .ok (.irem, 1) := by decide +kernel
theorem dL_act_18 : decode cL_act 18 = .ok (.tableswitch 199 0 9 #[54, 54, 54, 54, 82, 82, 105, 117, 137, 163], 54) := by decide +kernel
theorem dL_act_72 : decode cL_act 72 = .ok (.aload_n 0, 1) := by decide +kernel
theorem dL_act_73 : decode cL_act 73 = .ok (.bipush 9, 2) := by decide +kernel
theorem dL_act_75 : decode cL_act 75 = .ok (.iload_n 2, 1) := by decide +kernel
theorem dL_act_76 : decode cL_act 76 = .ok (.bipush 36, 2) := by decide +kernel
theorem dL_act_78 : decode cL_act 78 = .ok (.irem, 1) := by decide +kernel
theorem dL_act_79 : decode cL_act 79 = .ok (.iload_n 2, 1) := by decide +kernel
theorem dL_act_80 : decode cL_act 80 = .ok (.bipush 36, 2) := by decide +kernel
theorem dL_act_82 : decode cL_act 82 = .ok (.idiv, 1) := by decide +kernel
theorem dL_act_83 : decode cL_act 83 = .ok (.bipush 36, 2) := by decide +kernel
theorem dL_act_85 : decode cL_act 85 = .ok (.irem, 1) := by decide +kernel
theorem dL_act_86 : decode cL_act 86 = .ok (.iconst 1, 1) := by decide +kernel
theorem dL_act_87 : decode cL_act 87 = .ok (.iload_n 2, 1) := by decide +kernel
theorem dL_act_88 : decode cL_act 88 = .ok (.sipush 1296, 3) := by decide +kernel
theorem dL_act_91 : decode cL_act 91 = .ok (.idiv, 1) := by decide +kernel
theorem dL_act_92 : decode cL_act 92 = .ok (.bipush 9, 2) := by decide +kernel
theorem dL_act_94 : decode cL_act 94 = .ok (.irem, 1) := by decide +kernel
theorem dL_act_95 : decode cL_act 95 = .ok (.iadd, 1) := by decide +kernel
theorem dL_act_96 : decode cL_act 96 = .ok (.invokestatic 150, 3) := by decide +kernel
theorem dL_act_99 : decode cL_act 99 = .ok (.ireturn, 1) := by decide +kernel
theorem dL_act_100 : decode cL_act 100 = .ok (.aload_n 0, 1) := by decide +kernel
theorem dL_act_101 : decode cL_act 101 = .ok (.iload_n 2, 1) := by decide +kernel
theorem dL_act_102 : decode cL_act 102 = .ok (.bipush 36, 2) := by decide +kernel
theorem dL_act_104 : decode cL_act 104 = .ok (.irem, 1) := by decide +kernel
theorem dL_act_105 : decode cL_act 105 = .ok (.iload_n 2, 1) := by decide +kernel
theorem dL_act_106 : decode cL_act 106 = .ok (.bipush 36, 2) := by decide +kernel
theorem dL_act_108 : decode cL_act 108 = .ok (.idiv, 1) := by decide +kernel
theorem dL_act_109 : decode cL_act 109 = .ok (.iconst 3, 1) := by decide +kernel
theorem dL_act_110 : decode cL_act 110 = .ok (.irem, 1) := by decide +kernel
theorem dL_act_111 : decode cL_act 111 = .ok (.ifCond .le 7, 3) := by decide +kernel
theorem dL_act_114 : decode cL_act 114 = .ok (.iconst 1, 1) := by decide +kernel
theorem dL_act_115 : decode cL_act 115 = .ok (.goto 4, 3) := by decide +kernel
theorem dL_act_118 : decode cL_act 118 = .ok (.iconst 0, 1) := by decide +kernel
theorem dL_act_119 : decode cL_act 119 = .ok (.invokestatic 154, 3) := by decide +kernel
theorem dL_act_122 : decode cL_act 122 = .ok (.ireturn, 1) := by decide +kernel
theorem dL_act_123 : decode cL_act 123 = .ok (.aload_n 0, 1) := by decide +kernel
theorem dL_act_124 : decode cL_act 124 = .ok (.bipush 11, 2) := by decide +kernel
theorem dL_act_126 : decode cL_act 126 = .ok (.iload_n 2, 1) := by decide +kernel
theorem dL_act_127 : decode cL_act 127 = .ok (.iconst 3, 1) := by decide +kernel
theorem dL_act_128 : decode cL_act 128 = .ok (.irem, 1) := by decide +kernel
theorem dL_act_129 : decode cL_act 129 = .ok (.iconst 0, 1) := by decide +kernel
theorem dL_act_130 : decode cL_act 130 = .ok (.iconst 0, 1) := by decide +kernel
theorem dL_act_131 : decode cL_act 131 = .ok (.invokestatic 150, 3) := by decide +kernel
theorem dL_act_134 : decode cL_act 134 = .ok (.ireturn, 1) := by decide +kernel
theorem dL_act_135 : decode cL_act 135 = .ok (.aload_n 0, 1) := by decide +kernel
theorem dL_act_136 : decode cL_act 136 = .ok (.bipush 12, 2) := by decide +kernel
theorem dL_act_138 : decode cL_act 138 = .ok (.iload_n 3, 1) := by decide +kernel
theorem dL_act_139 : decode cL_act 139 = .ok (.ifCond .ne 7, 3) := by decide +kernel
theorem dL_act_142 : decode cL_act 142 = .ok (.iconst 0, 1) := by decide +kernel
theorem dL_act_143 : decode cL_act 143 = .ok (.goto 6, 3) := by decide +kernel
theorem dL_act_146 : decode cL_act 146 = .ok (.iload_n 2, 1) := by decide +kernel
theorem dL_act_147 : decode cL_act 147 = .ok (.iload_n 3, 1) := by decide +kernel
theorem dL_act_148 : decode cL_act 148 = .ok (.irem, 1) := by decide +kernel
theorem dL_act_149 : decode cL_act 149 = .ok (.iconst 0, 1) := by decide +kernel
theorem dL_act_150 : decode cL_act 150 = .ok (.iconst 0, 1) := by decide +kernel
theorem dL_act_151 : decode cL_act 151 = .ok (.invokestatic 150, 3) := by decide +kernel
theorem dL_act_154 : decode cL_act 154 = .ok (.ireturn, 1) := by decide +kernel
theorem dL_act_155 : decode cL_act 155 = .ok (.aload_n 0, 1) := by decide +kernel
theorem dL_act_156 : decode cL_act 156 = .ok (.iconst 2, 1) := by decide +kernel
theorem dL_act_157 : decode cL_act 157 = .ok (.iconst 5, 1) := by decide +kernel
theorem dL_act_158 : decode cL_act 158 = .ok (.iconst 0, 1) := by decide +kernel
theorem dL_act_159 : decode cL_act 159 = .ok (.iconst 0, 1) := by decide +kernel
theorem dL_act_160 : decode cL_act 160 = .ok (.invokestatic 150, 3) := by decide +kernel
theorem dL_act_163 : decode cL_act 163 = .ok (.iconst 2, 1) := by decide +kernel
theorem dL_act_164 : decode cL_act 164 = .ok (.if_icmp .ge 7, 3) := by decide +kernel
theorem dL_act_167 : decode cL_act 167 = .ok (.iconst (-1), 1) := by decide +kernel
theorem dL_act_168 : decode cL_act 168 = .ok (.goto 12, 3) := by decide +kernel
theorem dL_act_171 : decode cL_act 171 = .ok (.aload_n 0, 1) := by decide +kernel
theorem dL_act_172 : decode cL_act 172 = .ok (.bipush 13, 2) := by decide +kernel
theorem dL_act_174 : decode cL_act 174 = .ok (.iconst 0, 1) := by decide +kernel
theorem dL_act_175 : decode cL_act 175 = .ok (.iconst 0, 1) := by decide +kernel
theorem dL_act_176 : decode cL_act 176 = .ok (.iconst 0, 1) := by decide +kernel
theorem dL_act_177 : decode cL_act 177 = .ok (.invokestatic 150, 3) := by decide +kernel
theorem dL_act_180 : decode cL_act 180 = .ok (.ireturn, 1) := by decide +kernel
theorem dL_act_181 : decode cL_act 181 = .ok (.iload_n 2, 1) := by decide +kernel
theorem dL_act_182 : decode cL_act 182 = .ok (.iconst 2, 1) := by decide +kernel
theorem dL_act_183 : decode cL_act 183 = .ok (.irem, 1) := by decide +kernel
theorem dL_act_184 : decode cL_act 184 = .ok (.ifCond .ne 19, 3) := by decide +kernel
theorem dL_act_187 : decode cL_act 187 = .ok (.aload_n 0, 1) := by decide +kernel
theorem dL_act_188 : decode cL_act 188 = .ok (.bipush 16, 2) := by decide +kernel
theorem dL_act_190 : decode cL_act 190 = .ok (.iload_n 2, 1) := by decide +kernel
theorem dL_act_191 : decode cL_act 191 = .ok (.iconst 2, 1) := by decide +kernel
theorem dL_act_192 : decode cL_act 192 = .ok (.idiv, 1) := by decide +kernel
theorem dL_act_193 : decode cL_act 193 = .ok (.iconst 2, 1) := by decide +kernel
theorem dL_act_194 : decode cL_act 194 = .ok (.irem, 1) := by decide +kernel
theorem dL_act_195 : decode cL_act 195 = .ok (.iconst 0, 1) := by decide +kernel
theorem dL_act_196 : decode cL_act 196 = .ok (.iconst 0, 1) := by decide +kernel
theorem dL_act_197 : decode cL_act 197 = .ok (.invokestatic 150, 3) := by decide +kernel
theorem dL_act_200 : decode cL_act 200 = .ok (.goto 16, 3) := by decide +kernel
theorem dL_act_203 : decode cL_act 203 = .ok (.aload_n 0, 1) := by decide +kernel
theorem dL_act_204 : decode cL_act 204 = .ok (.bipush 17, 2) := by decide +kernel
theorem dL_act_206 : decode cL_act 206 = .ok (.iload_n 2, 1) := by decide +kernel
theorem dL_act_207 : decode cL_act 207 = .ok (.iconst 2, 1) := by decide +kernel
theorem dL_act_208 : decode cL_act 208 = .ok (.idiv, 1) := by decide +kernel
theorem dL_act_209 : decode cL_act 209 = .ok (.iconst 2, 1) := by decide +kernel
theorem dL_act_210 : decode cL_act 210 = .ok (.irem, 1) := by decide +kernel
theorem dL_act_211 : decode cL_act 211 = .ok (.iconst 0, 1) := by decide +kernel
theorem dL_act_212 : decode cL_act 212 = .ok (.iconst 0, 1) := by decide +kernel
theorem dL_act_213 : decode cL_act 213 = .ok (.invokestatic 150, 3) := by decide +kernel
theorem dL_act_216 : decode cL_act 216 = .ok (.ireturn, 1) := by decide +kernel
theorem dL_act_217 : decode cL_act 217 = .ok (.aload_n 0, 1) := by decide +kernel
theorem dL_act_218 : decode cL_act 218 = .ok (.bipush 10, 2) := by decide +kernel
theorem dL_act_220 : decode cL_act 220 = .ok (.iconst 1, 1) := by decide +kernel
theorem dL_act_221 : decode cL_act 221 = .ok (.iload_n 2, 1) := by decide +kernel
theorem dL_act_222 : decode cL_act 222 = .ok (.bipush 6, 2) := by decide +kernel
theorem dL_act_224 : decode cL_act 224 = .ok (.irem, 1) := by decide +kernel
theorem dL_act_225 : decode cL_act 225 = .ok (.iadd, 1) := by decide +kernel
theorem dL_act_226 : decode cL_act 226 = .ok (.iconst 0, 1) := by decide +kernel
theorem dL_act_227 : decode cL_act 227 = .ok (.iconst 0, 1) := by decide +kernel
theorem dL_act_228 : decode cL_act 228 = .ok (.invokestatic 150, 3) := by decide +kernel
theorem dL_act_231 : decode cL_act 231 = .ok (.ireturn, 1) := by decide +kernel
set_option maxRecDepth 20000 in
theorem ggL_alike_L_doSimulate : GoodIn wsL_alike wsL_doSimulate := goodIn_ca (goodIn_r _ [4, 5, 6, 7, 8, 9, 10, 11, 12, 13, 14, 15, 16, 17, 18, 19, 20, 21, 22, 23, 24, 25, 26, 27, 28, 29, 30, 31, 32, 33, 34, 35, 36, 37, 38, 39, 40, 41, 42, 43, 44, 45, 46, 47, 48, 49, 50, 51, 52, 53, 54, 55, 56, 57, 58, 59, 60, 61, 62, 63, 64, 65, 66, 67, 68, 69, 70, 71, 72, 73, 74, 75, 76, 77, 78, 79, 80, 81, 82, 83, 84, 85, 86, 87, 88, 89, 90, 91, 92, 93, 94, 95, 96, 97, 98, 99, 100, 101, 102, 103, 104, 105, 106, 107, 108, 109, 110, 111, 112, 113, 114, 115, 116, 117, 118, 119, 120, 121, 122, 123, 124, 125, 126, 127, 128, 129, 130, 131, 132, 133, 134, 135, 136, 137, 485, 486, 487, 488, 489, 490, 491, 492, 493] (by decide +kernel) (by decide +kernel)) (goodIn_sub (fun _ h => List.mem_cons_of_mem _ (List.mem_append_left _ (List.mem_append_left _ (List.mem_append_right _ h)))) (by decide +kernel))
set_option maxRecDepth 20000 in
theorem gL_alike_L_doSimulate : GoodIn wsL_alike (va_wsS RL 164 yL_doSimulate wsL_doSimulate) := goodIn_app (goodIn_of _ (by decide +kernel)) ggL_alike_L_doSimulate
set_option maxRecDepth 20000 in
theorem ggL_alike_X3_throughIn : GoodIn wsL_alike wsX3_throughIn := goodIn_r _ [141, 15, 142, 143, 144, 10, 145, 146, 22, 23, 24, 25, 26, 27, 28, 29, 30, 31, 147, 148, 149, 150, 151, 135, 136, 137, 78, 79, 80, 81, 82, 83, 84, 85, 152, 97, 98, 99, 74, 75, 76, 77, 100, 101, 102, 103, 104, 105, 106, 107, 108, 109, 110, 111, 112, 113, 114, 115, 116, 117, 48, 49, 50, 51, 118, 119, 120, 121, 86, 87, 88, 89, 122, 123, 124, 125, 126, 127, 128, 129, 485, 486, 487, 488, 489, 490, 491, 492, 493] (by decide +kernel) (by decide +kernel)
set_option maxRecDepth 20000 in
theorem gL_alike_X3_throughIn : GoodIn wsL_alike (wsV RL 172 RX3 yX3_throughIn wsX3_throughIn) := goodIn_app (goodIn_of _ (by decide +kernel)) ggL_alike_X3_throughIn
set_option maxRecDepth 20000 in
theorem gsL_alike_L_call_h : GoodIn wsL_alike [.code yL_call cL_call 5 (some .int)] := goodIn_r _ [155] (by decide +kernel) (by decide +kernel)
set_option maxRecDepth 20000 in
theorem gsL_alike_L_call_0 : GoodIn wsL_alike wsL_call_r1 := goodIn_r _ [156, 157, 3, 158, 5, 159, 6, 160, 161, 162, 163, 10, 164, 12, 13, 165, 166, 167, 168, 169, 170, 171, 172, 173] (by decide +kernel) (by decide +kernel)
set_option maxRecDepth 20000 in
theorem gsL_alike_L_call_1 : GoodIn wsL_alike wsL_call_r2 := goodIn_r _ [174, 175, 176, 177, 178, 179, 180, 181, 182, 183, 184, 185, 186, 187, 188, 189, 15, 190, 191, 192, 193, 194, 195, 196] (by decide +kernel) (by decide +kernel)
set_option maxRecDepth 20000 in
theorem gsL_alike_L_call_2 : GoodIn wsL_alike wsL_call_r3 := goodIn_r _ [197, 198, 199, 200, 201, 202, 203, 204, 205, 206, 207, 208, 209, 210, 211, 212, 213, 214, 215, 216, 217, 218, 219, 220] (by decide +kernel) (by decide +kernel)
set_option maxRecDepth 20000 in
theorem gsL_alike_L_call_3 : GoodIn wsL_alike wsL_call_r4 := goodIn_r _ [221, 222, 223, 224, 225, 226, 227, 228, 229, 230, 231, 232, 233, 234, 235, 236, 237, 238, 239, 240, 241, 242, 243, 244] (by decide +kernel) (by decide +kernel)
set_option maxRecDepth 20000 in
theorem gsL_alike_L_call_4 : GoodIn wsL_alike wsL_call_r5 := goodIn_r _ [245, 246, 247, 248, 249, 250, 251, 252, 253, 254, 255, 256, 257, 258, 259, 260, 261, 262, 25, 263, 27, 264, 265, 266] (by decide +kernel) (by decide +kernel)
set_option maxRecDepth 20000 in
theorem gsL_alike_L_call_5 : GoodIn wsL_alike wsL_call_r6 := goodIn_r _ [267, 268, 269, 270, 271, 272, 273, 274, 275, 276, 277, 278, 279, 280, 281, 282, 283, 284, 285, 286, 287, 288, 289, 290] (by decide +kernel) (by decide +kernel)
set_option maxRecDepth 20000 in
theorem gsL_alike_L_call_6 : GoodIn wsL_alike wsL_call_r7 := goodIn_r _ [291, 36, 37, 38, 39, 40, 41, 42, 43, 44, 45, 46, 47, 48, 49, 50, 51, 90, 91, 92, 93, 94, 95, 96] (by decide +kernel) (by decide +kernel)
set_option maxRecDepth 20000 in
theorem gsL_alike_L_call_7 : GoodIn wsL_alike wsL_call_r8 := goodIn_r _ [97, 98, 99, 74, 75, 76, 77, 78, 79, 80, 81, 82, 83, 84, 85, 100, 101, 102, 103, 104, 105, 106, 107, 108] (by decide +kernel) (by decide +kernel)
set_option maxRecDepth 20000 in
theorem gsL_alike_L_call_8 : GoodIn wsL_alike wsL_call_r9 := goodIn_r _ [109, 110, 111, 112, 113, 114, 115, 116, 117, 118, 119, 120, 121, 86, 87, 88, 89, 122, 123, 124, 125, 126, 127, 128] (by decide +kernel) (by decide +kernel)
set_option maxRecDepth 20000 in
theorem gsL_alike_L_call_9 : GoodIn wsL_alike wsL_call_r10 := goodIn_r _ [129, 58, 59, 60, 61, 62, 63, 64, 65, 66, 67, 68, 69, 52, 53, 54, 55, 56, 57, 70, 71, 72, 73, 292] (by decide +kernel) (by decide +kernel)
set_option maxRecDepth 20000 in
theorem gsL_alike_L_call_10 : GoodIn wsL_alike wsL_call_r11 := goodIn_r _ [293, 294, 295, 296, 297, 298, 299, 300, 301, 302, 134, 135, 136, 137, 303, 304, 305, 306, 307, 308, 309, 310, 311, 312] (by decide +kernel) (by decide +kernel)
set_option maxRecDepth 20000 in
theorem gsL_alike_L_call_11 : GoodIn wsL_alike wsL_call_r12 := goodIn_r _ [313, 314, 315, 316, 317, 318, 319, 320, 321, 322, 130, 131, 132, 133, 323, 324, 325, 326, 327, 328, 329, 330, 331, 332] (by decide +kernel) (by decide +kernel)
set_option maxRecDepth 20000 in
theorem gsL_alike_L_call_12 : GoodIn wsL_alike wsL_call_r13 := goodIn_r _ [333, 334, 335, 336, 337, 338, 339, 340, 341, 342, 343, 344, 345, 346, 347, 348, 349, 350, 351, 352, 353, 354, 355, 356] (by decide +kernel) (by decide +kernel)
set_option maxRecDepth 20000 in
theorem gsL_alike_L_call_13 : GoodIn wsL_alike wsL_call_r14 := goodIn_r _ [357, 358, 359, 360, 361, 362, 363, 364, 365, 366, 367, 368, 369, 370, 371, 372, 373, 374, 375, 376, 377, 378, 379, 380] (by decide +kernel) (by decide +kernel)
set_option maxRecDepth 20000 in
theorem gsL_alike_L_call_14 : GoodIn wsL_alike wsL_call_r15 := goodIn_r _ [381, 382, 383, 384, 385, 386, 387, 388, 389, 390, 391, 392, 393, 394, 395, 396, 397, 398, 399, 400, 401, 402, 403, 404] (by decide +kernel) (by decide +kernel)
set_option maxRecDepth 20000 in
theorem gsL_alike_L_call_15 : GoodIn wsL_alike wsL_call_r16 := goodIn_r _ [405, 406, 407, 408, 409, 410, 28, 29, 30, 31, 411, 412, 413, 414, 415, 416, 417, 418, 419, 420, 421, 422, 423, 424] (by decide +kernel) (by decide +kernel)
set_option maxRecDepth 20000 in
theorem gsL_alike_L_call_16 : GoodIn wsL_alike wsL_call_r17 := goodIn_r _ [425, 426, 427, 428, 429, 430, 431, 432, 433, 434, 435, 436, 437, 438, 439, 440, 441, 442, 443, 444, 445, 446, 447, 448] (by decide +kernel) (by decide +kernel)
set_option maxRecDepth 20000 in
theorem gsL_alike_L_call_17 : GoodIn wsL_alike wsL_call_r18 := goodIn_r _ [449, 450, 451, 452, 453, 454, 455, 456, 457, 458, 459, 460, 146, 461, 462, 20, 463, 142, 143, 144, 145, 22, 23, 24] (by decide +kernel) (by decide +kernel)
set_option maxRecDepth 20000 in
theorem gsL_alike_L_call_18 : GoodIn wsL_alike wsL_call_r19 := goodIn_r _ [26, 147, 148, 149, 150, 151, 152, 464, 465, 466, 467, 468, 469, 470, 14, 471, 472, 473, 474, 475, 476, 477, 478, 479] (by decide +kernel) (by decide +kernel)
set_option maxRecDepth 20000 in
theorem gsL_alike_L_call_19 : GoodIn wsL_alike wsL_call_r20 := goodIn_r _ [480, 481, 482, 483, 484] (by decide +kernel) (by decide +kernel)
set_option maxRecDepth 20000 in
theorem gsL_alike_L_call_wsX30 : GoodIn wsL_alike wsX30 := goodIn_r _ [485, 486, 487, 488, 489, 490, 491, 492] (by decide +kernel) (by decide +kernel)
set_option maxRecDepth 20000 in
theorem gsL_alike_L_call_wsX20 : GoodIn wsL_alike wsX20 := goodIn_r _ [494, 495] (by decide +kernel) (by decide +kernel)
set_option maxRecDepth 20000 in
theorem gsL_alike_L_call_wsX00 : GoodIn wsL_alike wsX00 := goodIn_r _ [493] (by decide +kernel) (by decide +kernel)
set_option maxRecDepth 20000 in
theorem gsL_alike_L_call_wsX10 : GoodIn wsL_alike wsX10 := goodIn_r _ [496] (by decide +kernel) (by decide +kernel)
theorem gsL_alike_L_call_b : GoodIn wsL_alike (.code yL_call cL_call 5 (some .int) :: ((wsL_call_r1 ++ (wsL_call_r2 ++ (wsL_call_r3 ++ (wsL_call_r4 ++ (wsL_call_r5 ++ (wsL_call_r6 ++ (wsL_call_r7 ++ (wsL_call_r8 ++ (wsL_call_r9 ++ (wsL_call_r10 ++ (wsL_call_r11 ++ (wsL_call_r12 ++ (wsL_call_r13 ++ (wsL_call_r14 ++ (wsL_call_r15 ++ (wsL_call_r16 ++ (wsL_call_r17 ++ (wsL_call_r18 ++ (wsL_call_r19 ++ wsL_call_r20))))))))))))))))))) ++ wsX30 ++ wsX20 ++ wsX00 ++ wsX10)) := goodIn_cons gsL_alike_L_call_h (goodIn_app (goodIn_app (goodIn_app (goodIn_app (goodIn_app gsL_alike_L_call_0 (goodIn_app gsL_alike_L_call_1 (goodIn_app gsL_alike_L_call_2 (goodIn_app gsL_alike_L_call_3 (goodIn_app gsL_alike_L_call_4 (goodIn_app gsL_alike_L_call_5 (goodIn_app gsL_alike_L_call_6 (goodIn_app gsL_alike_L_call_7 (goodIn_app gsL_alike_L_call_8 (goodIn_app gsL_alike_L_call_9 (goodIn_app gsL_alike_L_call_10 (goodIn_app gsL_alike_L_call_11 (goodIn_app gsL_alike_L_call_12 (goodIn_app gsL_alike_L_call_13 (goodIn_app gsL_alike_L_call_14 (goodIn_app gsL_alike_L_call_15 (goodIn_app gsL_alike_L_call_16 (goodIn_app gsL_alike_L_call_17 (goodIn_app gsL_alike_L_call_18 gsL_alike_L_call_19))))))))))))))))))) gsL_alike_L_call_wsX30) gsL_alike_L_call_wsX20) gsL_alike_L_call_wsX00) gsL_alike_L_call_wsX10)
set_option maxRecDepth 20000 in
theorem ggL_alike_L_call : GoodIn wsL_alike wsL_call := goodIn_ca (goodIn_ca (goodIn_ca gsL_alike_L_call_b (goodIn_sub (fun _ h => List.mem_cons_of_mem _ (List.mem_append_left _ (List.mem_append_left _ (List.mem_append_right _ h)))) (by decide +kernel))) (goodIn_sub (fun _ h => List.mem_cons_of_mem _ (List.mem_append_left _ (List.mem_append_right _ h))) (by decide +kernel))) (goodIn_sub (fun _ h => List.mem_cons_of_mem _ (List.mem_append_right _ h)) (by decide +kernel))
set_option maxRecDepth 20000 in
theorem gL_alike_L_call : GoodIn wsL_alike (va_wsS RL 150 yL_call wsL_call) := goodIn_app (goodIn_of _ (by decide +kernel)) ggL_alike_L_call
theorem dL_alike_0 : decode cL_alike 0 = .ok (.aload_n 0, 1) := by decide +kernel
theorem dL_alike_1 : decode cL_alike 1 = .ok (.iload_n 2, 1) := by decide +kernel
theorem dL_alike_2 : decode cL_alike 2 = .ok (.i2l, 1) := by decide +kernel
theorem dL_alike_3 : decode cL_alike 3 = .ok (.iconst 1, 1) := by decide +kernel
theorem dL_alike_4 : decode cL_alike 4 = .ok (.iload_n 2, 1) := by decide +kernel
theorem dL_alike_5 : decode cL_alike 5 = .ok (.bipush 20, 2) := by decide +kernel
theorem dL_alike_7 : decode cL_alike 7 = .ok (.irem, 1) := by decide +kernel
theorem dL_alike_8 : decode cL_alike 8 = .ok (.iadd, 1) := by decide +kernel
theorem dL_alike_9 : decode cL_alike 9 = .ok (.invokestatic 164, 3) := by decide +kernel
theorem dL_alike_12 : decode cL_alike 12 = .ok (.aload_n 1, 1) := by decide +kernel
theorem dL_alike_13 : decode cL_alike 13 = .ok (.iload_n 2, 1) := by decide +kernel
theorem dL_alike_14 : decode cL_alike 14 = .ok (.i2l, 1) := by decide +kernel
theorem dL_alike_15 : decode cL_alike 15 = .ok (.iconst 1, 1) := by decide +kernel
theorem dL_alike_16 : decode cL_alike 16 = .ok (.iload_n 2, 1) := by decide +kernel
theorem dL_alike_17 : decode cL_alike 17 = .ok (.bipush 20, 2) := by decide +kernel
theorem dL_alike_19 : decode cL_alike 19 = .ok (.irem, 1) := by decide +kernel
theorem dL_alike_20 : decode cL_alike 20 = .ok (.iadd, 1) := by decide +kernel
theorem dL_alike_21 : decode cL_alike 21 = .ok (.invokestatic 164, 3) := by decide +kernel
theorem dL_alike_24 : decode cL_alike 24 = .ok (.if_icmp .ne 18, 3) := by decide +kernel
theorem dL_alike_27 : decode cL_alike 27 = .ok (.aload_n 0, 1) := by decide +kernel
theorem dL_alike_28 : decode cL_alike 28 = .ok (.invokevirtual 172, 3) := by decide +kernel
theorem dL_alike_31 : decode cL_alike 31 = .ok (.aload_n 1, 1) := by decide +kernel
theorem dL_alike_32 : decode cL_alike 32 = .ok (.invokevirtual 172, 3) := by decide +kernel
theorem dL_alike_35 : decode cL_alike 35 = .ok (.if_icmp .ne 7, 3) := by decide +kernel
theorem dL_alike_38 : decode cL_alike 38 = .ok (.iconst 1, 1) := by decide +kernel
theorem dL_alike_39 : decode cL_alike 39 = .ok (.goto 4, 3) := by decide +kernel
theorem dL_alike_42 : decode cL_alike 42 = .ok (.iconst 0, 1) := by decide +kernel
theorem dL_alike_43 : decode cL_alike 43 = .ok (.istore_n 3, 1) := by decide +kernel
theorem dL_alike_44 : decode cL_alike 44 = .ok (.iconst 0, 1) := by decide +kernel
theorem dL_alike_45 : decode cL_alike 45 = .ok (.istore 4, 2) := by decide +kernel
theorem dL_alike_47 : decode cL_alike 47 = .ok (.iload 4, 2) := by decide +kernel
theorem dL_alike_49 : decode cL_alike 49 = .ok (.bipush 10, 2) := by decide +kernel
theorem dL_alike_51 : decode cL_alike 51 = .ok (.if_icmp .ge 154, 3) := by decide +kernel
theorem dL_alike_54 : decode cL_alike 54 = .ok (.iload_n 3, 1) := by decide +kernel
theorem dL_alike_55 : decode cL_alike 55 = .ok (.ifCond .eq 150, 3) := by decide +kernel
theorem dL_alike_58 : decode cL_alike 58 = .ok (.aload_n 0, 1) := by decide +kernel
theorem dL_alike_59 : decode cL_alike 59 = .ok (.iconst 2, 1) := by decide +kernel
theorem dL_alike_60 : decode cL_alike 60 = .ok (.iload 4, 2) := by decide +kernel
theorem dL_alike_62 : decode cL_alike 62 = .ok (.iconst 0, 1) := by decide +kernel
theorem dL_alike_63 : decode cL_alike 63 = .ok (.iconst 0, 1) := by decide +kernel
theorem dL_alike_64 : decode cL_alike 64 = .ok (.invokestatic 150, 3) := by decide +kernel
theorem dL_alike_67 : decode cL_alike 67 = .ok (.aload_n 1, 1) := by decide +kernel
theorem dL_alike_68 : decode cL_alike 68 = .ok (.iconst 2, 1) := by decide +kernel
theorem dL_alike_69 : decode cL_alike 69 = .ok (.iload 4, 2) := by decide +kernel
theorem dL_alike_71 : decode cL_alike 71 = .ok (.iconst 0, 1) := by decide +kernel
theorem dL_alike_72 : decode cL_alike 72 = .ok (.iconst 0, 1) := by decide +kernel
theorem dL_alike_73 : decode cL_alike 73 = .ok (.invokestatic 150, 3) := by decide +kernel
theorem dL_alike_76 : decode cL_alike 76 = .ok (.if_icmp .ne 121, 3) := by decide +kernel
theorem dL_alike_79 : decode cL_alike 79 = .ok (.aload_n 0, 1) := by decide +kernel
theorem dL_alike_80 : decode cL_alike 80 = .ok (.iconst 3, 1) := by decide +kernel
theorem dL_alike_81 : decode cL_alike 81 = .ok (.iload 4, 2) := by decide +kernel
theorem dL_alike_83 : decode cL_alike 83 = .ok (.iload_n 2, 1) := by decide +kernel
theorem dL_alike_84 : decode cL_alike 84 = .ok (.bipush 9, 2) := by decide +kernel
theorem dL_alike_86 : decode cL_alike 86 = .ok (.irem, 1) := by decide +kernel
theorem dL_alike_87 : decode cL_alike 87 = .ok (.iconst 0, 1) := by decide +kernel
theorem dL_alike_88 : decode cL_alike 88 = .ok (.invokestatic 150, 3) := by decide +kernel
theorem dL_alike_91 : decode cL_alike 91 = .ok (.aload_n 1, 1) := by decide +kernel
theorem dL_alike_92 : decode cL_alike 92 = .ok (.iconst 3, 1) := by decide +kernel
theorem dL_alike_93 : decode cL_alike 93 = .ok (.iload 4, 2) := by decide +kernel
theorem dL_alike_95 : decode cL_alike 95 = .ok (.iload_n 2, 1) := by decide +kernel
theorem dL_alike_96 : decode cL_alike 96 = .ok (.bipush 9, 2) := by decide +kernel
theorem dL_alike_98 : decode cL_alike 98 = .ok (.irem, 1) := by decide +kernel
theorem dL_alike_99 : decode cL_alike 99 = .ok (.iconst 0, 1) := by decide +kernel
theorem dL_alike_100 : decode cL_alike 100 = .ok (.invokestatic 150, 3) := by decide +kernel
theorem dL_alike_103 : decode cL_alike 103 = .ok (.if_icmp .ne 94, 3) := by decide +kernel
theorem dL_alike_106 : decode cL_alike 106 = .ok (.aload_n 0, 1) := by decide +kernel
theorem dL_alike_107 : decode cL_alike 107 = .ok (.iconst 4, 1) := by decide +kernel
theorem dL_alike_108 : decode cL_alike 108 = .ok (.iload 4, 2) := by decide +kernel
theorem dL_alike_110 : decode cL_alike 110 = .ok (.iload_n 2, 1) := by decide +kernel
theorem dL_alike_111 : decode cL_alike 111 = .ok (.iconst 4, 1) := by decide +kernel
theorem dL_alike_112 : decode cL_alike 112 = .ok (.irem, 1) := by decide +kernel
theorem dL_alike_113 : decode cL_alike 113 = .ok (.iconst 0, 1) := by decide +kernel
theorem dL_alike_114 : decode cL_alike 114 = .ok (.invokestatic 150, 3) := by decide +kernel
theorem dL_alike_117 : decode cL_alike 117 = .ok (.aload_n 1, 1) := by decide +kernel
theorem dL_alike_118 : decode cL_alike 118 = .ok (.iconst 4, 1) := by decide +kernel
theorem dL_alike_119 : decode cL_alike 119 = .ok (.iload 4, 2) := by decide +kernel
theorem dL_alike_121 : decode cL_alike 121 = .ok (.iload_n 2, 1) := by decide +kernel
theorem dL_alike_122 : decode cL_alike 122 = .ok (.iconst 4, 1) := by decide +kernel
theorem dL_alike_123 : decode cL_alike 123 = .ok (.irem, 1) := by decide +kernel
theorem dL_alike_124 : decode cL_alike 124 = .ok (.iconst 0, 1) := by decide +kernel
theorem dL_alike_125 : decode cL_alike 125 = .ok (.invokestatic 150, 3) := by decide +kernel
theorem dL_alike_128 : decode cL_alike 128 = .ok (.if_icmp .ne 69, 3) := by decide +kernel
theorem dL_alike_131 : decode cL_alike 131 = .ok (.aload_n 0, 1) := by decide +kernel
theorem dL_alike_132 : decode cL_alike 132 = .ok (.bipush 7, 2) := by decide +kernel
theorem dL_alike_134 : decode cL_alike 134 = .ok (.iload 4, 2) := by decide +kernel
theorem dL_alike_136 : decode cL_alike 136 = .ok (.iconst 0, 1) := by decide +kernel
theorem dL_alike_137 : decode cL_alike 137 = .ok (.iconst 0, 1) := by decide +kernel
theorem dL_alike_138 : decode cL_alike 138 = .ok (.invokestatic 150, 3) := by decide +kernel
theorem dL_alike_141 : decode cL_alike 141 = .ok (.aload_n 1, 1) := by decide +kernel
theorem dL_alike_142 : decode cL_alike 142 = .ok (.bipush 7, 2) := by decide +kernel
theorem dL_alike_144 : decode cL_alike 144 = .ok (.iload 4, 2) := by decide +kernel
theorem dL_alike_146 : decode cL_alike 146 = .ok (.iconst 0, 1) := by decide +kernel
theorem dL_alike_147 : decode cL_alike 147 = .ok (.iconst 0, 1) := by decide +kernel
theorem dL_alike_148 : decode cL_alike 148 = .ok (.invokestatic 150, 3) := by decide +kernel
theorem dL_alike_151 : decode cL_alike 151 = .ok (.if_icmp .ne 46, 3) := by decide +kernel
theorem dL_alike_154 : decode cL_alike 154 = .ok (.aload_n 0, 1) := by decide +kernel
theorem dL_alike_155 : decode cL_alike 155 = .ok (.iconst 5, 1) := by decide +kernel
theorem dL_alike_156 : decode cL_alike 156 = .ok (.iconst 3, 1) := by decide +kernel
theorem dL_alike_157 : decode cL_alike 157 = .ok (.iload 4, 2) := by decide +kernel
theorem dL_alike_159 : decode cL_alike 159 = .ok (.imul, 1) := by decide +kernel
theorem dL_alike_160 : decode cL_alike 160 = .ok (.iload_n 2, 1) := by decide +kernel
theorem dL_alike_161 : decode cL_alike 161 = .ok (.bipush 9, 2) := by decide +kernel
theorem dL_alike_163 : decode cL_alike 163 = .ok (.irem, 1) := by decide +kernel
theorem dL_alike_164 : decode cL_alike 164 = .ok (.iadd, 1) := by decide +kernel
theorem dL_alike_165 : decode cL_alike 165 = .ok (.iload_n 2, 1) := by decide +kernel
theorem dL_alike_166 : decode cL_alike 166 = .ok (.iconst 2, 1) := by decide +kernel
theorem dL_alike_167 : decode cL_alike 167 = .ok (.irem, 1) := by decide +kernel
theorem dL_alike_168 : decode cL_alike 168 = .ok (.iconst 0, 1) := by decide +kernel
theorem dL_alike_169 : decode cL_alike 169 = .ok (.invokestatic 150, 3) := by decide +kernel
theorem dL_alike_172 : decode cL_alike 172 = .ok (.aload_n 1, 1) := by decide +kernel
theorem dL_alike_173 : decode cL_alike 173 = .ok (.iconst 5, 1) := by decide +kernel
theorem dL_alike_174 : decode cL_alike 174 = .ok (.iconst 3, 1) := by decide +kernel
theorem dL_alike_175 : decode cL_alike 175 = .ok (.iload 4, 2) := by decide +kernel
theorem dL_alike_177 : decode cL_alike 177 = .ok (.imul, 1) := by decide +kernel
theorem dL_alike_178 : decode cL_alike 178 = .ok (.iload_n 2, 1) := by decide +kernel
theorem dL_alike_179 : decode cL_alike 179 = .ok (.bipush 9, 2) := by decide +kernel
theorem dL_alike_181 : decode cL_alike 181 = .ok (.irem, 1) := by decide +kernel
theorem dL_alike_182 : decode cL_alike 182 = .ok (.iadd, 1) := by decide +kernel
theorem dL_alike_183 : decode cL_alike 183 = .ok (.iload_n 2, 1) := by decide +kernel
theorem dL_alike_184 : decode cL_alike 184 = .ok (.iconst 2, 1) := by decide +kernel
theorem dL_alike_185 : decode cL_alike 185 = .ok (.irem, 1) := by decide +kernel
theorem dL_alike_186 : decode cL_alike 186 = .ok (.iconst 0, 1) := by decide +kernel
theorem dL_alike_187 : decode cL_alike 187 = .ok (.invokestatic 150, 3) := by decide +kernel
theorem dL_alike_190 : decode cL_alike 190 = .ok (.if_icmp .ne 7, 3) := by decide +kernel
theorem dL_alike_193 : decode cL_alike 193 = .ok (.iconst 1, 1) := by decide +kernel
theorem dL_alike_194 : decode cL_alike 194 = .ok (.goto 4, 3) := by decide +kernel
theorem dL_alike_197 : decode cL_alike 197 = .ok (.iconst 0, 1) := by decide +kernel
theorem dL_alike_198 : decode cL_alike 198 = .ok (.istore_n 3, 1) := by decide +kernel
theorem dL_alike_199 : decode cL_alike 199 = .ok (.iinc 4 1, 3) := by decide +kernel
theorem dL_alike_202 : decode cL_alike 202 = .ok (.goto (-155), 3) := by decide +kernel
theorem dL_alike_205 : decode cL_alike 205 = .ok (.iload_n 3, 1) := by decide +kernel
theorem dL_alike_206 : decode cL_alike 206 = .ok (.ireturn, 1) := by decide +kernel
set_option maxRecDepth 20000 in
theorem gsL_ticks_L_call_h : GoodIn wsL_ticks [.code yL_call cL_call 5 (some .int)] := goodIn_r _ [4] (by decide +kernel) (by decide +kernel)
set_option maxRecDepth 20000 in
theorem gsL_ticks_L_call_0 : GoodIn wsL_ticks wsL_call_r1 := goodIn_r _ [5, 6, 3, 7, 8, 9, 10, 11, 12, 13, 14, 15, 16, 17, 18, 19, 20, 21, 22, 23, 24, 25, 26, 27] (by decide +kernel) (by decide +kernel)
set_option maxRecDepth 20000 in
theorem gsL_ticks_L_call_1 : GoodIn wsL_ticks wsL_call_r2 := goodIn_r _ [28, 29, 30, 31, 32, 33, 34, 35, 36, 37, 38, 39, 40, 41, 42, 43, 44, 45, 46, 47, 48, 49, 50, 51] (by decide +kernel) (by decide +kernel)
set_option maxRecDepth 20000 in
theorem gsL_ticks_L_call_2 : GoodIn wsL_ticks wsL_call_r3 := goodIn_r _ [52, 53, 54, 55, 56, 57, 58, 59, 60, 61, 62, 63, 64, 65, 66, 67, 68, 69, 70, 71, 72, 73, 74, 75] (by decide +kernel) (by decide +kernel)
set_option maxRecDepth 20000 in
theorem gsL_ticks_L_call_3 : GoodIn wsL_ticks wsL_call_r4 := goodIn_r _ [76, 77, 78, 79, 80, 81, 82, 83, 84, 85, 86, 87, 88, 89, 90, 91, 92, 93, 94, 95, 96, 97, 98, 99] (by decide +kernel) (by decide +kernel)
set_option maxRecDepth 20000 in
theorem gsL_ticks_L_call_4 : GoodIn wsL_ticks wsL_call_r5 := goodIn_r _ [100, 101, 102, 103, 104, 105, 106, 107, 108, 109, 110, 111, 112, 113, 114, 115, 116, 117, 118, 119, 120, 121, 122, 123] (by decide +kernel) (by decide +kernel)
set_option maxRecDepth 20000 in
theorem gsL_ticks_L_call_5 : GoodIn wsL_ticks wsL_call_r6 := goodIn_r _ [124, 125, 126, 127, 128, 129, 130, 131, 132, 133, 134, 135, 136, 137, 138, 139, 140, 141, 142, 143, 144, 145, 146, 147] (by decide +kernel) (by decide +kernel)
set_option maxRecDepth 20000 in
theorem gsL_ticks_L_call_6 : GoodIn wsL_ticks wsL_call_r7 := goodIn_r _ [148, 149, 150, 151, 152, 153, 154, 155, 156, 157, 158, 159, 160, 161, 162, 163, 164, 165, 166, 167, 168, 169, 170, 171] (by decide +kernel) (by decide +kernel)
set_option maxRecDepth 20000 in
theorem gsL_ticks_L_call_7 : GoodIn wsL_ticks wsL_call_r8 := goodIn_r _ [172, 173, 174, 175, 176, 177, 178, 179, 180, 181, 182, 183, 184, 185, 186, 187, 188, 189, 190, 191, 192, 193, 194, 195] (by decide +kernel) (by decide +kernel)
set_option maxRecDepth 20000 in
theorem gsL_ticks_L_call_8 : GoodIn wsL_ticks wsL_call_r9 := goodIn_r _ [196, 197, 198, 199, 200, 201, 202, 203, 204, 205, 206, 207, 208, 209, 210, 211, 212, 213, 214, 215, 216, 217, 218, 219] (by decide +kernel) (by decide +kernel)
set_option maxRecDepth 20000 in
theorem gsL_ticks_L_call_9 : GoodIn wsL_ticks wsL_call_r10 := goodIn_r _ [220, 221, 222, 223, 224, 225, 226, 227, 228, 229, 230, 231, 232, 233, 234, 235, 236, 237, 238, 239, 240, 241, 242, 243] (by decide +kernel) (by decide +kernel)
set_option maxRecDepth 20000 in
theorem gsL_ticks_L_call_10 : GoodIn wsL_ticks wsL_call_r11 := goodIn_r _ [244, 245, 246, 247, 248, 249, 250, 251, 252, 253, 254, 255, 256, 257, 258, 259, 260, 261, 262, 263, 264, 265, 266, 267] (by decide +kernel) (by decide +kernel)
set_option maxRecDepth 20000 in
theorem gsL_ticks_L_call_11 : GoodIn wsL_ticks wsL_call_r12 := goodIn_r _ [268, 269, 270, 271, 272, 273, 274, 275, 276, 277, 278, 279, 280, 281, 282, 283, 284, 285, 286, 287, 288, 289, 290, 291] (by decide +kernel) (by decide +kernel)
set_option maxRecDepth 20000 in
theorem gsL_ticks_L_call_12 : GoodIn wsL_ticks wsL_call_r13 := goodIn_r _ [292, 293, 294, 295, 296, 297, 298, 299, 300, 301, 302, 303, 304, 305, 306, 307, 308, 309, 310, 311, 312, 313, 314, 315] (by decide +kernel) (by decide +kernel)
set_option maxRecDepth 20000 in
theorem gsL_ticks_L_call_13 : GoodIn wsL_ticks wsL_call_r14 := goodIn_r _ [316, 317, 318, 319, 320, 321, 322, 323, 324, 325, 326, 327, 328, 329, 330, 331, 332, 333, 334, 335, 336, 337, 338, 339] (by decide +kernel) (by decide +kernel)
set_option maxRecDepth 20000 in
theorem gsL_ticks_L_call_14 : GoodIn wsL_ticks wsL_call_r15 := goodIn_r _ [340, 341, 342, 343, 344, 345, 346, 347, 348, 349, 350, 351, 352, 353, 354, 355, 356, 357, 358, 359, 360, 361, 362, 363] (by decide +kernel) (by decide +kernel)
set_option maxRecDepth 20000 in
theorem gsL_ticks_L_call_15 : GoodIn wsL_ticks wsL_call_r16 := goodIn_r _ [364, 365, 366, 367, 368, 369, 370, 371, 372, 373, 374, 375, 376, 377, 378, 379, 380, 381, 382, 383, 384, 385, 386, 387] (by decide +kernel) (by decide +kernel)
set_option maxRecDepth 20000 in
theorem gsL_ticks_L_call_16 : GoodIn wsL_ticks wsL_call_r17 := goodIn_r _ [388, 389, 390, 391, 392, 393, 394, 395, 396, 397, 398, 399, 400, 401, 402, 403, 404, 405, 406, 407, 408, 409, 410, 411] (by decide +kernel) (by decide +kernel)
set_option maxRecDepth 20000 in
theorem gsL_ticks_L_call_17 : GoodIn wsL_ticks wsL_call_r18 := goodIn_r _ [412, 413, 414, 415, 416, 417, 418, 419, 420, 421, 422, 423, 424, 425, 426, 427, 428, 429, 430, 431, 432, 433, 434, 435] (by decide +kernel) (by decide +kernel)
set_option maxRecDepth 20000 in
theorem gsL_ticks_L_call_18 : GoodIn wsL_ticks wsL_call_r19 := goodIn_r _ [436, 437, 438, 439, 440, 441, 442, 443, 444, 445, 446, 447, 448, 449, 450, 451, 452, 453, 454, 455, 456, 457, 458, 459] (by decide +kernel) (by decide +kernel)
set_option maxRecDepth 20000 in
theorem gsL_ticks_L_call_19 : GoodIn wsL_ticks wsL_call_r20 := goodIn_r _ [460, 461, 462, 463, 464] (by decide +kernel) (by decide +kernel)
set_option maxRecDepth 20000 in
theorem gsL_ticks_L_call_wsX30 : GoodIn wsL_ticks wsX30 := goodIn_r _ [472, 473, 474, 475, 476, 477, 478, 479] (by decide +kernel) (by decide +kernel)
set_option maxRecDepth 20000 in
theorem gsL_ticks_L_call_wsX20 : GoodIn wsL_ticks wsX20 := goodIn_r _ [480, 481] (by decide +kernel) (by decide +kernel)
set_option maxRecDepth 20000 in
theorem gsL_ticks_L_call_wsX00 : GoodIn wsL_ticks wsX00 := goodIn_r _ [482] (by decide +kernel) (by decide +kernel)
set_option maxRecDepth 20000 in
theorem gsL_ticks_L_call_wsX10 : GoodIn wsL_ticks wsX10 := goodIn_r _ [483] (by decide +kernel) (by decide +kernel)
theorem gsL_ticks_L_call_b : GoodIn wsL_ticks (.code yL_call cL_call 5 (some .int) :: ((wsL_call_r1 ++ (wsL_call_r2 ++ (wsL_call_r3 ++ (wsL_call_r4 ++ (wsL_call_r5 ++ (wsL_call_r6 ++ (wsL_call_r7 ++ (wsL_call_r8 ++ (wsL_call_r9 ++ (wsL_call_r10 ++ (wsL_call_r11 ++ (wsL_call_r12 ++ (wsL_call_r13 ++ (wsL_call_r14 ++ (wsL_call_r15 ++ (wsL_call_r16 ++ (wsL_call_r17 ++ (wsL_call_r18 ++ (wsL_call_r19 ++ wsL_call_r20))))))))))))))))))) ++ wsX30 ++ wsX20 ++ wsX00 ++ wsX10)) := goodIn_cons gsL_ticks_L_call_h (goodIn_app (goodIn_app (goodIn_app (goodIn_app (goodIn_app gsL_ticks_L_call_0 (goodIn_app gsL_ticks_L_call_1 (goodIn_app gsL_ticks_L_call_2 (goodIn_app gsL_ticks_L_call_3 (goodIn_app gsL_ticks_L_call_4 (goodIn_app gsL_ticks_L_call_5 (goodIn_app gsL_ticks_L_call_6 (goodIn_app gsL_ticks_L_call_7 (goodIn_app gsL_ticks_L_call_8 (goodIn_app gsL_ticks_L_call_9 (goodIn_app gsL_ticks_L_call_10 (goodIn_app gsL_ticks_L_call_11 (goodIn_app gsL_ticks_L_call_12 (goodIn_app gsL_ticks_L_call_13 (goodIn_app gsL_ticks_L_call_14 (goodIn_app gsL_ticks_L_call_15 (goodIn_app gsL_ticks_L_call_16 (goodIn_app gsL_ticks_L_call_17 (goodIn_app gsL_ticks_L_call_18 gsL_ticks_L_call_19))))))))))))))))))) gsL_ticks_L_call_wsX30) gsL_ticks_L_call_wsX20) gsL_ticks_L_call_wsX00) gsL_ticks_L_call_wsX10)
set_option maxRecDepth 20000 in
theorem ggL_ticks_L_call : GoodIn wsL_ticks wsL_call := goodIn_ca (goodIn_ca (goodIn_ca gsL_ticks_L_call_b (goodIn_sub (fun _ h => List.mem_cons_of_mem _ (List.mem_append_left _ (List.mem_append_left _ (List.mem_append_right _ h)))) (by decide +kernel))) (goodIn_sub (fun _ h => List.mem_cons_of_mem _ (List.mem_append_left _ (List.mem_append_right _ h))) (by decide +kernel))) (goodIn_sub (fun _ h => List.mem_cons_of_mem _ (List.mem_append_right _ h)) (by decide +kernel))
set_option maxRecDepth 20000 in
theorem gL_ticks_L_call : GoodIn wsL_ticks (va_wsS RL 150 yL_call wsL_call) := goodIn_app (goodIn_of _ (by decide +kernel)) ggL_ticks_L_call
set_option maxRecDepth 20000 in
theorem ggL_ticks_X3_throughIn : GoodIn wsL_ticks wsX3_throughIn := goodIn_r _ [468, 44, 429, 430, 431, 15, 432, 424, 433, 434, 435, 118, 436, 120, 370, 371, 372, 373, 437, 438, 439, 440, 441, 255, 256, 257, 179, 180, 181, 182, 183, 184, 185, 186, 442, 172, 173, 174, 175, 176, 177, 178, 187, 188, 189, 190, 191, 192, 193, 194, 195, 196, 197, 198, 199, 200, 201, 202, 203, 204, 161, 162, 163, 164, 205, 206, 207, 208, 209, 210, 211, 212, 213, 214, 215, 216, 217, 218, 219, 220, 472, 473, 474, 475, 476, 477, 478, 479, 482] (by decide +kernel) (by decide +kernel)
set_option maxRecDepth 20000 in
theorem gL_ticks_X3_throughIn : GoodIn wsL_ticks (wsV RL 172 RX3 yX3_throughIn wsX3_throughIn) := goodIn_app (goodIn_of _ (by decide +kernel)) ggL_ticks_X3_throughIn
set_option maxRecDepth 20000 in
theorem ggL_ticks_L_thrown : GoodIn wsL_ticks wsL_thrown := goodIn_r _ [471, 286, 10, 11] (by decide +kernel) (by decide +kernel)
set_option maxRecDepth 20000 in
theorem gL_ticks_L_thrown : GoodIn wsL_ticks (va_wsS RL 201 yL_thrown wsL_thrown) := goodIn_app (goodIn_of _ (by decide +kernel)) ggL_ticks_L_thrown
theorem dL_ticks_0 : decode cL_ticks 0 = .ok (.aload_n 0, 1) := by decide +kernel
theorem dL_ticks_1 : decode cL_ticks 1 = .ok (.iconst 2, 1) := by decide +kernel
theorem dL_ticks_2 : decode cL_ticks 2 = .ok (.iconst 0, 1) := by decide +kernel
theorem dL_ticks_3 : decode cL_ticks 3 = .ok (.iconst 0, 1) := by decide +kernel
theorem dL_ticks_4 : decode cL_ticks 4 = .ok (.iconst 0, 1) := by decide +kernel
theorem dL_ticks_5 : decode cL_ticks 5 = .ok (.invokestatic 150, 3) := by decide +kernel
theorem dL_ticks_8 : decode cL_ticks 8 = .ok (.istore_n 3, 1) := by decide +kernel
theorem dL_ticks_9 : decode cL_ticks 9 = .ok (.aload_n 0, 1) := by decide +kernel
theorem dL_ticks_10 : decode cL_ticks 10 = .ok (.invokevirtual 172, 3) := by decide +kernel
theorem dL_ticks_13 : decode cL_ticks 13 = .ok (.istore 4, 2) := by decide +kernel
theorem dL_ticks_15 : decode cL_ticks 15 = .ok (.iload_n 3, 1) := by decide +kernel
theorem dL_ticks_16 : decode cL_ticks 16 = .ok (.ifCond .ne 7, 3) := by decide +kernel
theorem dL_ticks_19 : decode cL_ticks 19 = .ok (.iconst (-1), 1) := by decide +kernel
theorem dL_ticks_20 : decode cL_ticks 20 = .ok (.goto 14, 3) := by decide +kernel
theorem dL_ticks_23 : decode cL_ticks 23 = .ok (.aload_n 0, 1) := by decide +kernel
theorem dL_ticks_24 : decode cL_ticks 24 = .ok (.bipush 14, 2) := by decide +kernel
theorem dL_ticks_26 : decode cL_ticks 26 = .ok (.iload_n 2, 1) := by decide +kernel
theorem dL_ticks_27 : decode cL_ticks 27 = .ok (.iload_n 3, 1) := by decide +kernel
theorem dL_ticks_28 : decode cL_ticks 28 = .ok (.irem, 1) := by decide +kernel
theorem dL_ticks_29 : decode cL_ticks 29 = .ok (.iconst 0, 1) := by decide +kernel
theorem dL_ticks_30 : decode cL_ticks 30 = .ok (.iconst 0, 1) := by decide +kernel
theorem dL_ticks_31 : decode cL_ticks 31 = .ok (.invokestatic 150, 3) := by decide +kernel
theorem dL_ticks_34 : decode cL_ticks 34 = .ok (.istore 5, 2) := by decide +kernel
theorem dL_ticks_36 : decode cL_ticks 36 = .ok (.iload 5, 2) := by decide +kernel
theorem dL_ticks_38 : decode cL_ticks 38 = .ok (.ifCond .le 24, 3) := by decide +kernel
theorem dL_ticks_41 : decode cL_ticks 41 = .ok (.iload 5, 2) := by decide +kernel
theorem dL_ticks_43 : decode cL_ticks 43 = .ok (.bipush 60, 2) := by decide +kernel
theorem dL_ticks_45 : decode cL_ticks 45 = .ok (.if_icmp .gt 17, 3) := by decide +kernel
theorem dL_ticks_48 : decode cL_ticks 48 = .ok (.iload_n 2, 1) := by decide +kernel
theorem dL_ticks_49 : decode cL_ticks 49 = .ok (.bipush 16, 2) := by decide +kernel
theorem dL_ticks_51 : decode cL_ticks 51 = .ok (.idiv, 1) := by decide +kernel
theorem dL_ticks_52 : decode cL_ticks 52 = .ok (.iconst 2, 1) := by decide +kernel
theorem dL_ticks_53 : decode cL_ticks 53 = .ok (.irem, 1) := by decide +kernel
theorem dL_ticks_54 : decode cL_ticks 54 = .ok (.ifCond .ne 8, 3) := by decide +kernel
theorem dL_ticks_57 : decode cL_ticks 57 = .ok (.iload 5, 2) := by decide +kernel
theorem dL_ticks_59 : decode cL_ticks 59 = .ok (.goto 12, 3) := by decide +kernel
theorem dL_ticks_62 : decode cL_ticks 62 = .ok (.iconst 1, 1) := by decide +kernel
theorem dL_ticks_63 : decode cL_ticks 63 = .ok (.iload_n 2, 1) := by decide +kernel
theorem dL_ticks_64 : decode cL_ticks 64 = .ok (.bipush 32, 2) := by decide +kernel
theorem dL_ticks_66 : decode cL_ticks 66 = .ok (.idiv, 1) := by decide +kernel
theorem dL_ticks_67 : decode cL_ticks 67 = .ok (.bipush 60, 2) := by decide +kernel
theorem dL_ticks_69 : decode cL_ticks 69 = .ok (.irem, 1) := by decide +kernel
theorem dL_ticks_70 : decode cL_ticks 70 = .ok (.iadd, 1) := by decide +kernel
theorem dL_ticks_71 : decode cL_ticks 71 = .ok (.istore 6, 2) := by decide +kernel
theorem dL_ticks_73 : decode cL_ticks 73 = .ok (.aload_n 0, 1) := by decide +kernel
theorem dL_ticks_74 : decode cL_ticks 74 = .ok (.iconst 2, 1) := by decide +kernel
theorem dL_ticks_75 : decode cL_ticks 75 = .ok (.iconst 3, 1) := by decide +kernel
theorem dL_ticks_76 : decode cL_ticks 76 = .ok (.iconst 0, 1) := by decide +kernel
theorem dL_ticks_77 : decode cL_ticks 77 = .ok (.iconst 0, 1) := by decide +kernel
theorem dL_ticks_78 : decode cL_ticks 78 = .ok (.invokestatic 150, 3) := by decide +kernel
theorem dL_ticks_81 : decode cL_ticks 81 = .ok (.istore 7, 2) := by decide +kernel
theorem dL_ticks_83 : decode cL_ticks 83 = .ok (.aload_n 0, 1) := by decide +kernel
theorem dL_ticks_84 : decode cL_ticks 84 = .ok (.bipush 8, 2) := by decide +kernel
theorem dL_ticks_86 : decode cL_ticks 86 = .ok (.iconst 0, 1) := by decide +kernel
theorem dL_ticks_87 : decode cL_ticks 87 = .ok (.iconst 0, 1) := by decide +kernel
theorem dL_ticks_88 : decode cL_ticks 88 = .ok (.iconst 0, 1) := by decide +kernel
theorem dL_ticks_89 : decode cL_ticks 89 = .ok (.invokestatic 150, 3) := by decide +kernel
theorem dL_ticks_92 : decode cL_ticks 92 = .ok (.istore 8, 2) := by decide +kernel
theorem dL_ticks_94 : decode cL_ticks 94 = .ok (.aload_n 0, 1) := by decide +kernel
theorem dL_ticks_95 : decode cL_ticks 95 = .ok (.bipush 10, 2) := by decide +kernel
theorem dL_ticks_97 : decode cL_ticks 97 = .ok (.iload 6, 2) := by decide +kernel
theorem dL_ticks_99 : decode cL_ticks 99 = .ok (.iconst 0, 1) := by decide +kernel
theorem dL_ticks_100 : decode cL_ticks 100 = .ok (.iconst 0, 1) := by decide +kernel
theorem dL_ticks_101 : decode cL_ticks 101 = .ok (.invokestatic 150, 3) := by decide +kernel
theorem dL_ticks_104 : decode cL_ticks 104 = .ok (.istore 9, 2) := by decide +kernel
theorem dL_ticks_106 : decode cL_ticks 106 = .ok (.aload_n 1, 1) := by decide +kernel
theorem dL_ticks_107 : decode cL_ticks 107 = .ok (.bipush 10, 2) := by decide +kernel
theorem dL_ticks_109 : decode cL_ticks 109 = .ok (.iload 6, 2) := by decide +kernel
theorem dL_ticks_111 : decode cL_ticks 111 = .ok (.iconst 0, 1) := by decide +kernel
theorem dL_ticks_112 : decode cL_ticks 112 = .ok (.iconst 0, 1) := by decide +kernel
theorem dL_ticks_113 : decode cL_ticks 113 = .ok (.invokestatic 150, 3) := by decide +kernel
theorem dL_ticks_116 : decode cL_ticks 116 = .ok (.iload 9, 2) := by decide +kernel
theorem dL_ticks_118 : decode cL_ticks 118 = .ok (.if_icmp .ne 184, 3) := by decide +kernel
theorem dL_ticks_121 : decode cL_ticks 121 = .ok (.aload_n 0, 1) := by decide +kernel
theorem dL_ticks_122 : decode cL_ticks 122 = .ok (.iconst 2, 1) := by decide +kernel
theorem dL_ticks_123 : decode cL_ticks 123 = .ok (.iconst 3, 1) := by decide +kernel
theorem dL_ticks_124 : decode cL_ticks 124 = .ok (.iconst 0, 1) := by decide +kernel
theorem dL_ticks_125 : decode cL_ticks 125 = .ok (.iconst 0, 1) := by decide +kernel
theorem dL_ticks_126 : decode cL_ticks 126 = .ok (.invokestatic 150, 3) := by decide +kernel
theorem dL_ticks_129 : decode cL_ticks 129 = .ok (.iload 7, 2) := by decide +kernel
theorem dL_ticks_131 : decode cL_ticks 131 = .ok (.iload 9, 2) := by decide +kernel
theorem dL_ticks_133 : decode cL_ticks 133 = .ok (.iadd, 1) := by decide +kernel
theorem dL_ticks_134 : decode cL_ticks 134 = .ok (.if_icmp .ne 168, 3) := by decide +kernel
theorem dL_ticks_137 : decode cL_ticks 137 = .ok (.aload_n 0, 1) := by decide +kernel
theorem dL_ticks_138 : decode cL_ticks 138 = .ok (.iconst 2, 1) := by decide +kernel
theorem dL_ticks_139 : decode cL_ticks 139 = .ok (.iconst 1, 1) := by decide +kernel
theorem dL_ticks_140 : decode cL_ticks 140 = .ok (.iconst 0, 1) := by decide +kernel
theorem dL_ticks_141 : decode cL_ticks 141 = .ok (.iconst 0, 1) := by decide +kernel
theorem dL_ticks_142 : decode cL_ticks 142 = .ok (.invokestatic 150, 3) := by decide +kernel
theorem dL_ticks_145 : decode cL_ticks 145 = .ok (.aload_n 0, 1) := by decide +kernel
theorem dL_ticks_146 : decode cL_ticks 146 = .ok (.iconst 2, 1) := by decide +kernel
theorem dL_ticks_147 : decode cL_ticks 147 = .ok (.iconst 2, 1) := by decide +kernel
theorem dL_ticks_148 : decode cL_ticks 148 = .ok (.iconst 0, 1) := by decide +kernel
theorem dL_ticks_149 : decode cL_ticks 149 = .ok (.iconst 0, 1) := by decide +kernel
theorem dL_ticks_150 : decode cL_ticks 150 = .ok (.invokestatic 150, 3) := by decide +kernel
theorem dL_ticks_153 : decode cL_ticks 153 = .ok (.iadd, 1) := by decide +kernel
theorem dL_ticks_154 : decode cL_ticks 154 = .ok (.ifCond .ne 7, 3) := by decide +kernel
theorem dL_ticks_157 : decode cL_ticks 157 = .ok (.iconst 1, 1) := by decide +kernel
theorem dL_ticks_158 : decode cL_ticks 158 = .ok (.goto 4, 3) := by decide +kernel
theorem dL_ticks_161 : decode cL_ticks 161 = .ok (.iconst 0, 1) := by decide +kernel
theorem dL_ticks_162 : decode cL_ticks 162 = .ok (.iload 4, 2) := by decide +kernel
theorem dL_ticks_164 : decode cL_ticks 164 = .ok (.iconst (-1), 1) := by decide +kernel
theorem dL_ticks_165 : decode cL_ticks 165 = .ok (.if_icmp .eq 14, 3) := by decide +kernel
theorem dL_ticks_168 : decode cL_ticks 168 = .ok (.iload 4, 2) := by decide +kernel
theorem dL_ticks_170 : decode cL_ticks 170 = .ok (.iload 6, 2) := by decide +kernel
theorem dL_ticks_172 : decode cL_ticks 172 = .ok (.if_icmp .gt 7, 3) := by decide +kernel
theorem dL_ticks_175 : decode cL_ticks 175 = .ok (.iconst 1, 1) := by decide +kernel
theorem dL_ticks_176 : decode cL_ticks 176 = .ok (.goto 4, 3) := by decide +kernel
theorem dL_ticks_179 : decode cL_ticks 179 = .ok (.iconst 0, 1) := by decide +kernel
theorem dL_ticks_180 : decode cL_ticks 180 = .ok (.if_icmp .ne 122, 3) := by decide +kernel
theorem dL_ticks_183 : decode cL_ticks 183 = .ok (.iload_n 3, 1) := by decide +kernel
theorem dL_ticks_184 : decode cL_ticks 184 = .ok (.ifCond .eq 43, 3) := by decide +kernel
theorem dL_ticks_187 : decode cL_ticks 187 = .ok (.aload_n 0, 1) := by decide +kernel
theorem dL_ticks_188 : decode cL_ticks 188 = .ok (.iconst 3, 1) := by decide +kernel
theorem dL_ticks_189 : decode cL_ticks 189 = .ok (.iload_n 2, 1) := by decide +kernel
theorem dL_ticks_190 : decode cL_ticks 190 = .ok (.iload_n 3, 1) := by decide +kernel
theorem dL_ticks_191 : decode cL_ticks 191 = .ok (.irem, 1) := by decide +kernel
theorem dL_ticks_192 : decode cL_ticks 192 = .ok (.iconst 0, 1) := by decide +kernel
theorem dL_ticks_193 : decode cL_ticks 193 = .ok (.iconst 0, 1) := by decide +kernel
theorem dL_ticks_194 : decode cL_ticks 194 = .ok (.invokestatic 150, 3) := by decide +kernel
theorem dL_ticks_197 : decode cL_ticks 197 = .ok (.iconst 2, 1) := by decide +kernel
theorem dL_ticks_198 : decode cL_ticks 198 = .ok (.if_icmp .ne 7, 3) := by decide +kernel
theorem dL_ticks_201 : decode cL_ticks 201 = .ok (.iconst 1, 1) := by decide +kernel
theorem dL_ticks_202 : decode cL_ticks 202 = .ok (.goto 4, 3) := by decide +kernel
theorem dL_ticks_205 : decode cL_ticks 205 = .ok (.iconst 0, 1) := by decide +kernel
theorem dL_ticks_206 : decode cL_ticks 206 = .ok (.iload 5, 2) := by decide +kernel
theorem dL_ticks_208 : decode cL_ticks 208 = .ok (.iconst (-1), 1) := by decide +kernel
theorem dL_ticks_209 : decode cL_ticks 209 = .ok (.if_icmp .eq 14, 3) := by decide +kernel
theorem dL_ticks_212 : decode cL_ticks 212 = .ok (.iload 5, 2) := by decide +kernel
theorem dL_ticks_214 : decode cL_ticks 214 = .ok (.iload 6, 2) := by decide +kernel
theorem dL_ticks_216 : decode cL_ticks 216 = .ok (.if_icmp .gt 7, 3) := by decide +kernel
theorem dL_ticks_219 : decode cL_ticks 219 = .ok (.iconst 1, 1) := by decide +kernel
theorem dL_ticks_220 : decode cL_ticks 220 = .ok (.goto 4, 3) := by decide +kernel
theorem dL_ticks_223 : decode cL_ticks 223 = .ok (.iconst 0, 1) := by decide +kernel
theorem dL_ticks_224 : decode cL_ticks 224 = .ok (.if_icmp .ne 78, 3) := by decide +kernel
theorem dL_ticks_227 : decode cL_ticks 227 = .ok (.iload 4, 2) := by decide +kernel
theorem dL_ticks_229 : decode cL_ticks 229 = .ok (.iconst (-1), 1) := by decide +kernel
theorem dL_ticks_230 : decode cL_ticks 230 = .ok (.if_icmp .eq 22, 3) := by decide +kernel
theorem dL_ticks_233 : decode cL_ticks 233 = .ok (.iload 6, 2) := by decide +kernel
theorem dL_ticks_235 : decode cL_ticks 235 = .ok (.iload 4, 2) := by decide +kernel
theorem dL_ticks_237 : decode cL_ticks 237 = .ok (.if_icmp .gt 15, 3) := by decide +kernel
theorem dL_ticks_240 : decode cL_ticks 240 = .ok (.aload_n 0, 1) := by decide +kernel
theorem dL_ticks_241 : decode cL_ticks 241 = .ok (.invokevirtual 172, 3) := by decide +kernel
theorem dL_ticks_244 : decode cL_ticks 244 = .ok (.iload 4, 2) := by decide +kernel
theorem dL_ticks_246 : decode cL_ticks 246 = .ok (.iload 6, 2) := by decide +kernel
theorem dL_ticks_248 : decode cL_ticks 248 = .ok (.isub, 1) := by decide +kernel
theorem dL_ticks_249 : decode cL_ticks 249 = .ok (.if_icmp .ne 53, 3) := by decide +kernel
theorem dL_ticks_252 : decode cL_ticks 252 = .ok (.iload 8, 2) := by decide +kernel
theorem dL_ticks_254 : decode cL_ticks 254 = .ok (.iconst (-1), 1) := by decide +kernel
theorem dL_ticks_255 : decode cL_ticks 255 = .ok (.if_icmp .eq 43, 3) := by decide +kernel
theorem dL_ticks_258 : decode cL_ticks 258 = .ok (.aload_n 0, 1) := by decide +kernel
theorem dL_ticks_259 : decode cL_ticks 259 = .ok (.iconst 2, 1) := by decide +kernel
theorem dL_ticks_260 : decode cL_ticks 260 = .ok (.bipush 8, 2) := by decide +kernel
theorem dL_ticks_262 : decode cL_ticks 262 = .ok (.iconst 0, 1) := by decide +kernel
theorem dL_ticks_263 : decode cL_ticks 263 = .ok (.iconst 0, 1) := by decide +kernel
theorem dL_ticks_264 : decode cL_ticks 264 = .ok (.invokestatic 150, 3) := by decide +kernel
theorem dL_ticks_267 : decode cL_ticks 267 = .ok (.iconst 2, 1) := by decide +kernel
theorem dL_ticks_268 : decode cL_ticks 268 = .ok (.if_icmp .eq 30, 3) := by decide +kernel
theorem dL_ticks_271 : decode cL_ticks 271 = .ok (.aload_n 0, 1) := by decide +kernel
theorem dL_ticks_272 : decode cL_ticks 272 = .ok (.bipush 7, 2) := by decide +kernel
theorem dL_ticks_274 : decode cL_ticks 274 = .ok (.iload 8, 2) := by decide +kernel
theorem dL_ticks_276 : decode cL_ticks 276 = .ok (.iconst 0, 1) := by decide +kernel
theorem dL_ticks_277 : decode cL_ticks 277 = .ok (.iconst 0, 1) := by decide +kernel
theorem dL_ticks_278 : decode cL_ticks 278 = .ok (.invokestatic 150, 3) := by decide +kernel
theorem dL_ticks_281 : decode cL_ticks 281 = .ok (.iconst (-1), 1) := by decide +kernel
theorem dL_ticks_282 : decode cL_ticks 282 = .ok (.if_icmp .eq 20, 3) := by decide +kernel
theorem dL_ticks_285 : decode cL_ticks 285 = .ok (.aload_n 0, 1) := by decide +kernel
theorem dL_ticks_286 : decode cL_ticks 286 = .ok (.bipush 8, 2) := by decide +kernel
theorem dL_ticks_288 : decode cL_ticks 288 = .ok (.iconst 1, 1) := by decide +kernel
theorem dL_ticks_289 : decode cL_ticks 289 = .ok (.iconst 0, 1) := by decide +kernel
theorem dL_ticks_290 : decode cL_ticks 290 = .ok (.iconst 0, 1) := by decide +kernel
theorem dL_ticks_291 : decode cL_ticks 291 = .ok (.invokestatic 150, 3) := by decide +kernel
theorem dL_ticks_294 : decode cL_ticks 294 = .ok (.iconst (-1), 1) := by decide +kernel
theorem dL_ticks_295 : decode cL_ticks 295 = .ok (.if_icmp .eq 7, 3) := by decide +kernel
theorem dL_ticks_298 : decode cL_ticks 298 = .ok (.iconst 1, 1) := by decide +kernel
theorem dL_ticks_299 : decode cL_ticks 299 = .ok (.goto 4, 3) := by decide +kernel
theorem dL_ticks_302 : decode cL_ticks 302 = .ok (.iconst 0, 1) := by decide +kernel
theorem dL_ticks_303 : decode cL_ticks 303 = .ok (.istore 10, 2) := by decide +kernel
theorem dL_ticks_305 : decode cL_ticks 305 = .ok (.iload 10, 2) := by decide +kernel
theorem dL_ticks_307 : decode cL_ticks 307 = .ok (.ifCond .eq 59, 3) := by decide +kernel
theorem dL_ticks_310 : decode cL_ticks 310 = .ok (.aload_n 0, 1) := by decide +kernel
theorem dL_ticks_311 : decode cL_ticks 311 = .ok (.bipush 13, 2) := by decide +kernel
theorem dL_ticks_313 : decode cL_ticks 313 = .ok (.iconst 0, 1) := by decide +kernel
theorem dL_ticks_314 : decode cL_ticks 314 = .ok (.iconst 0, 1) := by decide +kernel
theorem dL_ticks_315 : decode cL_ticks 315 = .ok (.iconst 0, 1) := by decide +kernel
theorem dL_ticks_316 : decode cL_ticks 316 = .ok (.invokestatic 150, 3) := by decide +kernel
theorem dL_ticks_319 : decode cL_ticks 319 = .ok (.invokestatic 201, 3) := by decide +kernel
theorem dL_ticks_322 : decode cL_ticks 322 = .ok (.ifCond .ne 44, 3) := by decide +kernel
theorem dL_ticks_325 : decode cL_ticks 325 = .ok (.aload_n 1, 1) := by decide +kernel
theorem dL_ticks_326 : decode cL_ticks 326 = .ok (.bipush 13, 2) := by decide +kernel
theorem dL_ticks_328 : decode cL_ticks 328 = .ok (.iconst 0, 1) := by decide +kernel
theorem dL_ticks_329 : decode cL_ticks 329 = .ok (.iconst 0, 1) := by decide +kernel
theorem dL_ticks_330 : decode cL_ticks 330 = .ok (.iconst 0, 1) := by decide +kernel
theorem dL_ticks_331 : decode cL_ticks 331 = .ok (.invokestatic 150, 3) := by decide +kernel
theorem dL_ticks_334 : decode cL_ticks 334 = .ok (.invokestatic 201, 3) := by decide +kernel
theorem dL_ticks_337 : decode cL_ticks 337 = .ok (.ifCond .ne 29, 3) := by decide +kernel
theorem dL_ticks_340 : decode cL_ticks 340 = .ok (.aload_n 0, 1) := by decide +kernel
theorem dL_ticks_341 : decode cL_ticks 341 = .ok (.iconst 2, 1) := by decide +kernel
theorem dL_ticks_342 : decode cL_ticks 342 = .ok (.iconst 3, 1) := by decide +kernel
theorem dL_ticks_343 : decode cL_ticks 343 = .ok (.iconst 0, 1) := by decide +kernel
theorem dL_ticks_344 : decode cL_ticks 344 = .ok (.iconst 0, 1) := by decide +kernel
theorem dL_ticks_345 : decode cL_ticks 345 = .ok (.invokestatic 150, 3) := by decide +kernel
theorem dL_ticks_348 : decode cL_ticks 348 = .ok (.iload 7, 2) := by decide +kernel
theorem dL_ticks_350 : decode cL_ticks 350 = .ok (.if_icmp .ne 16, 3) := by decide +kernel
theorem dL_ticks_353 : decode cL_ticks 353 = .ok (.aload_n 0, 1) := by decide +kernel
theorem dL_ticks_354 : decode cL_ticks 354 = .ok (.invokevirtual 172, 3) := by decide +kernel
theorem dL_ticks_357 : decode cL_ticks 357 = .ok (.iload 4, 2) := by decide +kernel
theorem dL_ticks_359 : decode cL_ticks 359 = .ok (.if_icmp .ne 7, 3) := by decide +kernel
theorem dL_ticks_362 : decode cL_ticks 362 = .ok (.iconst 1, 1) := by decide +kernel
theorem dL_ticks_363 : decode cL_ticks 363 = .ok (.goto 4, 3) := by decide +kernel
theorem dL_ticks_366 : decode cL_ticks 366 = .ok (.iconst 0, 1) := by decide +kernel
theorem dL_ticks_367 : decode cL_ticks 367 = .ok (.ireturn, 1) := by decide +kernel
set_option maxRecDepth 20000 in
theorem gsL_later_L_call_h : GoodIn wsL_later [.code yL_call cL_call 5 (some .int)] := goodIn_r _ [4] (by decide +kernel) (by decide +kernel)
set_option maxRecDepth 20000 in
theorem gsL_later_L_call_0 : GoodIn wsL_later wsL_call_r1 := goodIn_r _ [5, 6, 3, 7, 8, 9, 10, 11, 12, 13, 14, 15, 16, 17, 18, 19, 20, 21, 22, 23, 24, 25, 26, 27] (by decide +kernel) (by decide +kernel)
set_option maxRecDepth 20000 in
theorem gsL_later_L_call_1 : GoodIn wsL_later wsL_call_r2 := goodIn_r _ [28, 29, 30, 31, 32, 33, 34, 35, 36, 37, 38, 39, 40, 41, 42, 43, 44, 45, 46, 47, 48, 49, 50, 51] (by decide +kernel) (by decide +kernel)
set_option maxRecDepth 20000 in
theorem gsL_later_L_call_2 : GoodIn wsL_later wsL_call_r3 := goodIn_r _ [52, 53, 54, 55, 56, 57, 58, 59, 60, 61, 62, 63, 64, 65, 66, 67, 68, 69, 70, 71, 72, 73, 74, 75] (by decide +kernel) (by decide +kernel)
set_option maxRecDepth 20000 in
theorem gsL_later_L_call_3 : GoodIn wsL_later wsL_call_r4 := goodIn_r _ [76, 77, 78, 79, 80, 81, 82, 83, 84, 85, 86, 87, 88, 89, 90, 91, 92, 93, 94, 95, 96, 97, 98, 99] (by decide +kernel) (by decide +kernel)
set_option maxRecDepth 20000 in
theorem gsL_later_L_call_4 : GoodIn wsL_later wsL_call_r5 := goodIn_r _ [100, 101, 102, 103, 104, 105, 106, 107, 108, 109, 110, 111, 112, 113, 114, 115, 116, 117, 118, 119, 120, 121, 122, 123] (by decide +kernel) (by decide +kernel)
set_option maxRecDepth 20000 in
theorem gsL_later_L_call_5 : GoodIn wsL_later wsL_call_r6 := goodIn_r _ [124, 125, 126, 127, 128, 129, 130, 131, 132, 133, 134, 135, 136, 137, 138, 139, 140, 141, 142, 143, 144, 145, 146, 147] (by decide +kernel) (by decide +kernel)
set_option maxRecDepth 20000 in
theorem gsL_later_L_call_6 : GoodIn wsL_later wsL_call_r7 := goodIn_r _ [148, 149, 150, 151, 152, 153, 154, 155, 156, 157, 158, 159, 160, 161, 162, 163, 164, 165, 166, 167, 168, 169, 170, 171] (by decide +kernel) (by decide +kernel)
set_option maxRecDepth 20000 in
theorem gsL_later_L_call_7 : GoodIn wsL_later wsL_call_r8 := goodIn_r _ [172, 173, 174, 175, 176, 177, 178, 179, 180, 181, 182, 183, 184, 185, 186, 187, 188, 189, 190, 191, 192, 193, 194, 195] (by decide +kernel) (by decide +kernel)
set_option maxRecDepth 20000 in
theorem gsL_later_L_call_8 : GoodIn wsL_later wsL_call_r9 := goodIn_r _ [196, 197, 198, 199, 200, 201, 202, 203, 204, 205, 206, 207, 208, 209, 210, 211, 212, 213, 214, 215, 216, 217, 218, 219] (by decide +kernel) (by decide +kernel)
set_option maxRecDepth 20000 in
theorem gsL_later_L_call_9 : GoodIn wsL_later wsL_call_r10 := goodIn_r _ [220, 221, 222, 223, 224, 225, 226, 227, 228, 229, 230, 231, 232, 233, 234, 235, 236, 237, 238, 239, 240, 241, 242, 243] (by decide +kernel) (by decide +kernel)
set_option maxRecDepth 20000 in
theorem gsL_later_L_call_10 : GoodIn wsL_later wsL_call_r11 := goodIn_r _ [244, 245, 246, 247, 248, 249, 250, 251, 252, 253, 254, 255, 256, 257, 258, 259, 260, 261, 262, 263, 264, 265, 266, 267] (by decide +kernel) (by decide +kernel)
set_option maxRecDepth 20000 in
theorem gsL_later_L_call_11 : GoodIn wsL_later wsL_call_r12 := goodIn_r _ [268, 269, 270, 271, 272, 273, 274, 275, 276, 277, 278, 279, 280, 281, 282, 283, 284, 285, 286, 287, 288, 289, 290, 291] (by decide +kernel) (by decide +kernel)
set_option maxRecDepth 20000 in
theorem gsL_later_L_call_12 : GoodIn wsL_later wsL_call_r13 := goodIn_r _ [292, 293, 294, 295, 296, 297, 298, 299, 300, 301, 302, 303, 304, 305, 306, 307, 308, 309, 310, 311, 312, 313, 314, 315] (by decide +kernel) (by decide +kernel)
set_option maxRecDepth 20000 in
theorem gsL_later_L_call_13 : GoodIn wsL_later wsL_call_r14 := goodIn_r _ [316, 317, 318, 319, 320, 321, 322, 323, 324, 325, 326, 327, 328, 329, 330, 331, 332, 333, 334, 335, 336, 337, 338, 339] (by decide +kernel) (by decide +kernel)
set_option maxRecDepth 20000 in
theorem gsL_later_L_call_14 : GoodIn wsL_later wsL_call_r15 := goodIn_r _ [340, 341, 342, 343, 344, 345, 346, 347, 348, 349, 350, 351, 352, 353, 354, 355, 356, 357, 358, 359, 360, 361, 362, 363] (by decide +kernel) (by decide +kernel)
set_option maxRecDepth 20000 in
theorem gsL_later_L_call_15 : GoodIn wsL_later wsL_call_r16 := goodIn_r _ [364, 365, 366, 367, 368, 369, 370, 371, 372, 373, 374, 375, 376, 377, 378, 379, 380, 381, 382, 383, 384, 385, 386, 387] (by decide +kernel) (by decide +kernel)
set_option maxRecDepth 20000 in
theorem gsL_later_L_call_16 : GoodIn wsL_later wsL_call_r17 := goodIn_r _ [388, 389, 390, 391, 392, 393, 394, 395, 396, 397, 398, 399, 400, 401, 402, 403, 404, 405, 406, 407, 408, 409, 410, 411] (by decide +kernel) (by decide +kernel)
set_option maxRecDepth 20000 in
theorem gsL_later_L_call_17 : GoodIn wsL_later wsL_call_r18 := goodIn_r _ [412, 413, 414, 415, 416, 417, 418, 419, 420, 421, 422, 423, 424, 425, 426, 427, 428, 429, 430, 431, 432, 433, 434, 435] (by decide +kernel) (by decide +kernel)
set_option maxRecDepth 20000 in
theorem gsL_later_L_call_18 : GoodIn wsL_later wsL_call_r19 := goodIn_r _ [436, 437, 438, 439, 440, 441, 442, 443, 444, 445, 446, 447, 448, 449, 450, 451, 452, 453, 454, 455, 456, 457, 458, 459] (by decide +kernel) (by decide +kernel)
set_option maxRecDepth 20000 in
theorem gsL_later_L_call_19 : GoodIn wsL_later wsL_call_r20 := goodIn_r _ [460, 461, 462, 463, 464] (by decide +kernel) (by decide +kernel)
set_option maxRecDepth 20000 in
theorem gsL_later_L_call_wsX30 : GoodIn wsL_later wsX30 := goodIn_r _ [468, 469, 470, 471, 472, 473, 474, 475] (by decide +kernel) (by decide +kernel)
set_option maxRecDepth 20000 in
theorem gsL_later_L_call_wsX20 : GoodIn wsL_later wsX20 := goodIn_r _ [476, 477] (by decide +kernel) (by decide +kernel)
set_option maxRecDepth 20000 in
theorem gsL_later_L_call_wsX00 : GoodIn wsL_later wsX00 := goodIn_r _ [478] (by decide +kernel) (by decide +kernel)
set_option maxRecDepth 20000 in
theorem gsL_later_L_call_wsX10 : GoodIn wsL_later wsX10 := goodIn_r _ [479] (by decide +kernel) (by decide +kernel)
theorem gsL_later_L_call_b : GoodIn wsL_later (.code yL_call cL_call 5 (some .int) :: ((wsL_call_r1 ++ (wsL_call_r2 ++ (wsL_call_r3 ++ (wsL_call_r4 ++ (wsL_call_r5 ++ (wsL_call_r6 ++ (wsL_call_r7 ++ (wsL_call_r8 ++ (wsL_call_r9 ++ (wsL_call_r10 ++ (wsL_call_r11 ++ (wsL_call_r12 ++ (wsL_call_r13 ++ (wsL_call_r14 ++ (wsL_call_r15 ++ (wsL_call_r16 ++ (wsL_call_r17 ++ (wsL_call_r18 ++ (wsL_call_r19 ++ wsL_call_r20))))))))))))))))))) ++ wsX30 ++ wsX20 ++ wsX00 ++ wsX10)) := goodIn_cons gsL_later_L_call_h (goodIn_app (goodIn_app (goodIn_app (goodIn_app (goodIn_app gsL_later_L_call_0 (goodIn_app gsL_later_L_call_1 (goodIn_app gsL_later_L_call_2 (goodIn_app gsL_later_L_call_3 (goodIn_app gsL_later_L_call_4 (goodIn_app gsL_later_L_call_5 (goodIn_app gsL_later_L_call_6 (goodIn_app gsL_later_L_call_7 (goodIn_app gsL_later_L_call_8 (goodIn_app gsL_later_L_call_9 (goodIn_app gsL_later_L_call_10 (goodIn_app gsL_later_L_call_11 (goodIn_app gsL_later_L_call_12 (goodIn_app gsL_later_L_call_13 (goodIn_app gsL_later_L_call_14 (goodIn_app gsL_later_L_call_15 (goodIn_app gsL_later_L_call_16 (goodIn_app gsL_later_L_call_17 (goodIn_app gsL_later_L_call_18 gsL_later_L_call_19))))))))))))))))))) gsL_later_L_call_wsX30) gsL_later_L_call_wsX20) gsL_later_L_call_wsX00) gsL_later_L_call_wsX10)
set_option maxRecDepth 20000 in
theorem ggL_later_L_call : GoodIn wsL_later wsL_call := goodIn_ca (goodIn_ca (goodIn_ca gsL_later_L_call_b (goodIn_sub (fun _ h => List.mem_cons_of_mem _ (List.mem_append_left _ (List.mem_append_left _ (List.mem_append_right _ h)))) (by decide +kernel))) (goodIn_sub (fun _ h => List.mem_cons_of_mem _ (List.mem_append_left _ (List.mem_append_right _ h))) (by decide +kernel))) (goodIn_sub (fun _ h => List.mem_cons_of_mem _ (List.mem_append_right _ h)) (by decide +kernel))
set_option maxRecDepth 20000 in
theorem gL_later_L_call : GoodIn wsL_later (va_wsS RL 150 yL_call wsL_call) := goodIn_app (goodIn_of _ (by decide +kernel)) ggL_later_L_call
set_option maxRecDepth 20000 in
theorem ggL_later_L_thrown : GoodIn wsL_later wsL_thrown := goodIn_r _ [467, 286, 10, 11] (by decide +kernel) (by decide +kernel)
set_option maxRecDepth 20000 in
theorem gL_later_L_thrown : GoodIn wsL_later (va_wsS RL 201 yL_thrown wsL_thrown) := goodIn_app (goodIn_of _ (by decide +kernel)) ggL_later_L_thrown
theorem dL_later_0 : decode cL_later 0 = .ok (.iconst 0, 1) := by decide +kernel
theorem dL_later_1 : decode cL_later 1 = .ok (.istore_n 1, 1) := by decide +kernel
theorem dL_later_2 : decode cL_later 2 = .ok (.iconst 1, 1) := by decide +kernel
theorem dL_later_3 : decode cL_later 3 = .ok (.istore_n 2, 1) := by decide +kernel
theorem dL_later_4 : decode cL_later 4 = .ok (.iconst 0, 1) := by decide +kernel
theorem dL_later_5 : decode cL_later 5 = .ok (.istore_n 3, 1) := by decide +kernel
theorem dL_later_6 : decode cL_later 6 = .ok (.iload_n 3, 1) := by decide +kernel
theorem dL_later_7 : decode cL_later 7 = .ok (.iconst 4, 1) := by decide +kernel
theorem dL_later_8 : decode cL_later 8 = .ok (.if_icmp .ge 35, 3) := by decide +kernel
theorem dL_later_11 : decode cL_later 11 = .ok (.iload_n 2, 1) := by decide +kernel
theorem dL_later_12 : decode cL_later 12 = .ok (.ifCond .eq 23, 3) := by decide +kernel
theorem dL_later_15 : decode cL_later 15 = .ok (.aload_n 0, 1) := by decide +kernel
theorem dL_later_16 : decode cL_later 16 = .ok (.bipush 10, 2) := by decide +kernel
theorem dL_later_18 : decode cL_later 18 = .ok (.bipush 50, 2) := by decide +kernel
theorem dL_later_20 : decode cL_later 20 = .ok (.iconst 0, 1) := by decide +kernel
theorem dL_later_21 : decode cL_later 21 = .ok (.iconst 0, 1) := by decide +kernel
theorem dL_later_22 : decode cL_later 22 = .ok (.invokestatic 150, 3) := by decide +kernel
theorem dL_later_25 : decode cL_later 25 = .ok (.invokestatic 201, 3) := by decide +kernel
theorem dL_later_28 : decode cL_later 28 = .ok (.ifCond .ne 7, 3) := by decide +kernel
theorem dL_later_31 : decode cL_later 31 = .ok (.iconst 1, 1) := by decide +kernel
theorem dL_later_32 : decode cL_later 32 = .ok (.goto 4, 3) := by decide +kernel
theorem dL_later_35 : decode cL_later 35 = .ok (.iconst 0, 1) := by decide +kernel
theorem dL_later_36 : decode cL_later 36 = .ok (.istore_n 2, 1) := by decide +kernel
theorem dL_later_37 : decode cL_later 37 = .ok (.iinc 3 1, 3) := by decide +kernel
theorem dL_later_40 : decode cL_later 40 = .ok (.goto (-34), 3) := by decide +kernel
theorem dL_later_43 : decode cL_later 43 = .ok (.aload_n 0, 1) := by decide +kernel
theorem dL_later_44 : decode cL_later 44 = .ok (.iconst 2, 1) := by decide +kernel
theorem dL_later_45 : decode cL_later 45 = .ok (.iconst 3, 1) := by decide +kernel
theorem dL_later_46 : decode cL_later 46 = .ok (.iconst 0, 1) := by decide +kernel
theorem dL_later_47 : decode cL_later 47 = .ok (.iconst 0, 1) := by decide +kernel
theorem dL_later_48 : decode cL_later 48 = .ok (.invokestatic 150, 3) := by decide +kernel
theorem dL_later_51 : decode cL_later 51 = .ok (.istore_n 1, 1) := by decide +kernel
theorem dL_later_52 : decode cL_later 52 = .ok (.iconst 0, 1) := by decide +kernel
theorem dL_later_53 : decode cL_later 53 = .ok (.istore_n 3, 1) := by decide +kernel
theorem dL_later_54 : decode cL_later 54 = .ok (.iload_n 3, 1) := by decide +kernel
theorem dL_later_55 : decode cL_later 55 = .ok (.iconst 4, 1) := by decide +kernel
theorem dL_later_56 : decode cL_later 56 = .ok (.if_icmp .ge 34, 3) := by decide +kernel
theorem dL_later_59 : decode cL_later 59 = .ok (.iload_n 2, 1) := by decide +kernel
theorem dL_later_60 : decode cL_later 60 = .ok (.ifCond .eq 22, 3) := by decide +kernel
theorem dL_later_63 : decode cL_later 63 = .ok (.aload_n 0, 1) := by decide +kernel
theorem dL_later_64 : decode cL_later 64 = .ok (.bipush 13, 2) := by decide +kernel
theorem dL_later_66 : decode cL_later 66 = .ok (.iconst 0, 1) := by decide +kernel
theorem dL_later_67 : decode cL_later 67 = .ok (.iconst 0, 1) := by decide +kernel
theorem dL_later_68 : decode cL_later 68 = .ok (.iconst 0, 1) := by decide +kernel
theorem dL_later_69 : decode cL_later 69 = .ok (.invokestatic 150, 3) := by decide +kernel
theorem dL_later_72 : decode cL_later 72 = .ok (.invokestatic 201, 3) := by decide +kernel
theorem dL_later_75 : decode cL_later 75 = .ok (.ifCond .ne 7, 3) := by decide +kernel
theorem dL_later_78 : decode cL_later 78 = .ok (.iconst 1, 1) := by decide +kernel
theorem dL_later_79 : decode cL_later 79 = .ok (.goto 4, 3) := by decide +kernel
theorem dL_later_82 : decode cL_later 82 = .ok (.iconst 0, 1) := by decide +kernel
theorem dL_later_83 : decode cL_later 83 = .ok (.istore_n 2, 1) := by decide +kernel
theorem dL_later_84 : decode cL_later 84 = .ok (.iinc 3 1, 3) := by decide +kernel
theorem dL_later_87 : decode cL_later 87 = .ok (.goto (-33), 3) := by decide +kernel
theorem dL_later_90 : decode cL_later 90 = .ok (.iload_n 2, 1) := by decide +kernel
theorem dL_later_91 : decode cL_later 91 = .ok (.ifCond .eq 7, 3) := by decide +kernel
theorem dL_later_94 : decode cL_later 94 = .ok (.iload_n 1, 1) := by decide +kernel
theorem dL_later_95 : decode cL_later 95 = .ok (.goto 5, 3) := by decide +kernel
theorem dL_later_98 : decode cL_later 98 = .ok (.bipush (-9), 2) := by decide +kernel
theorem dL_later_100 : decode cL_later 100 = .ok (.ireturn, 1) := by decide +kernel
set_option maxRecDepth 20000 in
theorem gsL_pulls_L_call_h : GoodIn wsL_pulls [.code yL_call cL_call 5 (some .int)] := goodIn_r _ [5] (by decide +kernel) (by decide +kernel)
set_option maxRecDepth 20000 in
theorem gsL_pulls_L_call_0 : GoodIn wsL_pulls wsL_call_r1 := goodIn_r _ [6, 7, 4, 8, 9, 10, 11, 1, 12, 13, 14, 15, 16, 17, 18, 19, 20, 21, 22, 23, 24, 25, 26, 27] (by decide +kernel) (by decide +kernel)
set_option maxRecDepth 20000 in
theorem gsL_pulls_L_call_1 : GoodIn wsL_pulls wsL_call_r2 := goodIn_r _ [28, 29, 30, 31, 32, 33, 34, 35, 36, 37, 38, 39, 40, 41, 42, 43, 44, 45, 46, 47, 48, 49, 50, 51] (by decide +kernel) (by decide +kernel)
set_option maxRecDepth 20000 in
theorem gsL_pulls_L_call_2 : GoodIn wsL_pulls wsL_call_r3 := goodIn_r _ [52, 53, 54, 55, 56, 57, 58, 59, 60, 61, 62, 63, 64, 65, 66, 67, 68, 69, 70, 71, 72, 73, 74, 75] (by decide +kernel) (by decide +kernel)
set_option maxRecDepth 20000 in
theorem gsL_pulls_L_call_3 : GoodIn wsL_pulls wsL_call_r4 := goodIn_r _ [76, 77, 78, 79, 80, 81, 82, 83, 84, 85, 86, 87, 88, 89, 90, 91, 92, 93, 94, 95, 96, 97, 98, 99] (by decide +kernel) (by decide +kernel)
set_option maxRecDepth 20000 in
theorem gsL_pulls_L_call_4 : GoodIn wsL_pulls wsL_call_r5 := goodIn_r _ [100, 101, 102, 103, 104, 105, 106, 107, 108, 109, 110, 111, 112, 113, 114, 115, 116, 117, 118, 119, 120, 121, 122, 123] (by decide +kernel) (by decide +kernel)
set_option maxRecDepth 20000 in
theorem gsL_pulls_L_call_5 : GoodIn wsL_pulls wsL_call_r6 := goodIn_r _ [124, 125, 126, 127, 128, 129, 130, 131, 132, 133, 134, 135, 136, 137, 138, 139, 140, 141, 142, 143, 144, 145, 146, 147] (by decide +kernel) (by decide +kernel)
set_option maxRecDepth 20000 in
theorem gsL_pulls_L_call_6 : GoodIn wsL_pulls wsL_call_r7 := goodIn_r _ [148, 149, 150, 151, 152, 153, 154, 155, 156, 157, 158, 159, 160, 161, 162, 163, 164, 165, 166, 167, 168, 169, 170, 171] (by decide +kernel) (by decide +kernel)
set_option maxRecDepth 20000 in
theorem gsL_pulls_L_call_7 : GoodIn wsL_pulls wsL_call_r8 := goodIn_r _ [172, 173, 174, 175, 176, 177, 178, 179, 180, 181, 182, 183, 184, 185, 186, 187, 188, 189, 190, 191, 192, 193, 194, 195] (by decide +kernel) (by decide +kernel)
set_option maxRecDepth 20000 in
theorem gsL_pulls_L_call_8 : GoodIn wsL_pulls wsL_call_r9 := goodIn_r _ [196, 197, 198, 199, 200, 201, 202, 203, 204, 205, 206, 207, 208, 209, 210, 211, 212, 213, 214, 215, 216, 217, 218, 219] (by decide +kernel) (by decide +kernel)
set_option maxRecDepth 20000 in
theorem gsL_pulls_L_call_9 : GoodIn wsL_pulls wsL_call_r10 := goodIn_r _ [220, 221, 222, 223, 224, 225, 226, 227, 228, 229, 230, 231, 232, 233, 234, 235, 236, 237, 238, 239, 240, 241, 242, 243] (by decide +kernel) (by decide +kernel)
set_option maxRecDepth 20000 in
theorem gsL_pulls_L_call_10 : GoodIn wsL_pulls wsL_call_r11 := goodIn_r _ [244, 245, 246, 247, 248, 249, 250, 251, 252, 253, 254, 255, 256, 257, 258, 259, 260, 261, 262, 263, 264, 265, 266, 267] (by decide +kernel) (by decide +kernel)
set_option maxRecDepth 20000 in
theorem gsL_pulls_L_call_11 : GoodIn wsL_pulls wsL_call_r12 := goodIn_r _ [268, 269, 270, 271, 272, 273, 274, 275, 276, 277, 278, 279, 280, 281, 282, 283, 284, 285, 286, 287, 288, 289, 290, 291] (by decide +kernel) (by decide +kernel)
set_option maxRecDepth 20000 in
theorem gsL_pulls_L_call_12 : GoodIn wsL_pulls wsL_call_r13 := goodIn_r _ [292, 293, 294, 295, 296, 297, 298, 299, 300, 301, 302, 303, 304, 305, 306, 307, 308, 309, 310, 311, 312, 313, 314, 315] (by decide +kernel) (by decide +kernel)
set_option maxRecDepth 20000 in
theorem gsL_pulls_L_call_13 : GoodIn wsL_pulls wsL_call_r14 := goodIn_r _ [316, 317, 318, 319, 320, 321, 322, 323, 324, 325, 326, 327, 328, 329, 330, 331, 332, 333, 334, 335, 336, 337, 338, 339] (by decide +kernel) (by decide +kernel)
set_option maxRecDepth 20000 in
theorem gsL_pulls_L_call_14 : GoodIn wsL_pulls wsL_call_r15 := goodIn_r _ [340, 341, 342, 343, 344, 345, 346, 347, 348, 349, 350, 351, 352, 353, 354, 355, 356, 357, 358, 359, 360, 361, 362, 363] (by decide +kernel) (by decide +kernel)
set_option maxRecDepth 20000 in
theorem gsL_pulls_L_call_15 : GoodIn wsL_pulls wsL_call_r16 := goodIn_r _ [364, 365, 366, 367, 368, 369, 370, 371, 372, 373, 374, 375, 376, 377, 378, 379, 380, 381, 382, 383, 384, 385, 386, 387] (by decide +kernel) (by decide +kernel)
set_option maxRecDepth 20000 in
theorem gsL_pulls_L_call_16 : GoodIn wsL_pulls wsL_call_r17 := goodIn_r _ [388, 389, 390, 391, 392, 393, 394, 395, 396, 397, 398, 399, 400, 401, 402, 403, 404, 405, 406, 407, 408, 409, 410, 411] (by decide +kernel) (by decide +kernel)
set_option maxRecDepth 20000 in
theorem gsL_pulls_L_call_17 : GoodIn wsL_pulls wsL_call_r18 := goodIn_r _ [412, 413, 414, 415, 416, 417, 418, 419, 420, 421, 422, 423, 424, 425, 426, 427, 428, 429, 430, 431, 432, 433, 434, 435] (by decide +kernel) (by decide +kernel)
set_option maxRecDepth 20000 in
theorem gsL_pulls_L_call_18 : GoodIn wsL_pulls wsL_call_r19 := goodIn_r _ [436, 437, 438, 439, 440, 441, 442, 443, 444, 445, 446, 447, 448, 449, 450, 451, 452, 453, 454, 455, 456, 457, 458, 459] (by decide +kernel) (by decide +kernel)
set_option maxRecDepth 20000 in
theorem gsL_pulls_L_call_19 : GoodIn wsL_pulls wsL_call_r20 := goodIn_r _ [460, 461, 462, 463, 464] (by decide +kernel) (by decide +kernel)
set_option maxRecDepth 20000 in
theorem gsL_pulls_L_call_wsX30 : GoodIn wsL_pulls wsX30 := goodIn_r _ [493, 494, 495, 496, 497, 498, 499, 500] (by decide +kernel) (by decide +kernel)
set_option maxRecDepth 20000 in
theorem gsL_pulls_L_call_wsX20 : GoodIn wsL_pulls wsX20 := goodIn_r _ [501, 502] (by decide +kernel) (by decide +kernel)
set_option maxRecDepth 20000 in
theorem gsL_pulls_L_call_wsX00 : GoodIn wsL_pulls wsX00 := goodIn_r _ [503] (by decide +kernel) (by decide +kernel)
set_option maxRecDepth 20000 in
theorem gsL_pulls_L_call_wsX10 : GoodIn wsL_pulls wsX10 := goodIn_r _ [504] (by decide +kernel) (by decide +kernel)
theorem gsL_pulls_L_call_b : GoodIn wsL_pulls (.code yL_call cL_call 5 (some .int) :: ((wsL_call_r1 ++ (wsL_call_r2 ++ (wsL_call_r3 ++ (wsL_call_r4 ++ (wsL_call_r5 ++ (wsL_call_r6 ++ (wsL_call_r7 ++ (wsL_call_r8 ++ (wsL_call_r9 ++ (wsL_call_r10 ++ (wsL_call_r11 ++ (wsL_call_r12 ++ (wsL_call_r13 ++ (wsL_call_r14 ++ (wsL_call_r15 ++ (wsL_call_r16 ++ (wsL_call_r17 ++ (wsL_call_r18 ++ (wsL_call_r19 ++ wsL_call_r20))))))))))))))))))) ++ wsX30 ++ wsX20 ++ wsX00 ++ wsX10)) := goodIn_cons gsL_pulls_L_call_h (goodIn_app (goodIn_app (goodIn_app (goodIn_app (goodIn_app gsL_pulls_L_call_0 (goodIn_app gsL_pulls_L_call_1 (goodIn_app gsL_pulls_L_call_2 (goodIn_app gsL_pulls_L_call_3 (goodIn_app gsL_pulls_L_call_4 (goodIn_app gsL_pulls_L_call_5 (goodIn_app gsL_pulls_L_call_6 (goodIn_app gsL_pulls_L_call_7 (goodIn_app gsL_pulls_L_call_8 (goodIn_app gsL_pulls_L_call_9 (goodIn_app gsL_pulls_L_call_10 (goodIn_app gsL_pulls_L_call_11 (goodIn_app gsL_pulls_L_call_12 (goodIn_app gsL_pulls_L_call_13 (goodIn_app gsL_pulls_L_call_14 (goodIn_app gsL_pulls_L_call_15 (goodIn_app gsL_pulls_L_call_16 (goodIn_app gsL_pulls_L_call_17 (goodIn_app gsL_pulls_L_call_18 gsL_pulls_L_call_19))))))))))))))))))) gsL_pulls_L_call_wsX30) gsL_pulls_L_call_wsX20) gsL_pulls_L_call_wsX00) gsL_pulls_L_call_wsX10)
set_option maxRecDepth 20000 in
theorem ggL_pulls_L_call : GoodIn wsL_pulls wsL_call := goodIn_ca (goodIn_ca (goodIn_ca gsL_pulls_L_call_b (goodIn_sub (fun _ h => List.mem_cons_of_mem _ (List.mem_append_left _ (List.mem_append_left _ (List.mem_append_right _ h)))) (by decide +kernel))) (goodIn_sub (fun _ h => List.mem_cons_of_mem _ (List.mem_append_left _ (List.mem_append_right _ h))) (by decide +kernel))) (goodIn_sub (fun _ h => List.mem_cons_of_mem _ (List.mem_append_right _ h)) (by decide +kernel))
set_option maxRecDepth 20000 in
theorem gL_pulls_L_call : GoodIn wsL_pulls (va_wsS RL 150 yL_call wsL_call) := goodIn_app (goodIn_of _ (by decide +kernel)) ggL_pulls_L_call
set_option maxRecDepth 20000 in
theorem ggL_pulls_X3_bestPull : GoodIn wsL_pulls wsX3_bestPull := goodIn_r _ [468, 44, 424, 429, 430, 431, 15, 432, 433, 434, 435, 118, 436, 120, 370, 371, 372, 373, 437, 438, 439, 440, 441, 255, 256, 257, 179, 180, 181, 182, 183, 184, 185, 186, 442, 172, 173, 174, 175, 176, 177, 178, 187, 188, 189, 190, 191, 192, 193, 194, 195, 196, 197, 198, 199, 200, 201, 202, 203, 204, 161, 162, 163, 164, 205, 206, 207, 208, 209, 210, 211, 212, 213, 214, 215, 216, 217, 218, 219, 220, 469, 470, 471, 472, 250, 251, 252, 253, 401, 473, 474, 475, 476, 450, 239, 240, 241, 242, 229, 230, 231, 232, 157, 158, 254, 477, 478, 479, 480, 481, 482, 483, 484, 485, 486, 493, 494, 495, 496, 497, 498, 499, 500, 503] (by decide +kernel) (by decide +kernel)
set_option maxRecDepth 20000 in
theorem gL_pulls_X3_bestPull : GoodIn wsL_pulls (wsV RL 205 RX3 yX3_bestPull wsX3_bestPull) := goodIn_app (goodIn_of _ (by decide +kernel)) ggL_pulls_X3_bestPull
set_option maxRecDepth 20000 in
theorem gsL_pulls_L_later_h : GoodIn wsL_pulls [.code yL_later cL_later 4 (some .int)] := goodIn_r _ [489] (by decide +kernel) (by decide +kernel)
set_option maxRecDepth 20000 in
theorem gsL_pulls_L_later_0 : GoodIn wsL_pulls wsL_later_r1 := goodIn_r _ [2, 3, 4, 5, 6, 7, 8, 9, 10, 11, 1, 12, 13, 14, 15, 16, 17, 18, 19, 20, 21, 22, 23, 24] (by decide +kernel) (by decide +kernel)
set_option maxRecDepth 20000 in
theorem gsL_pulls_L_later_1 : GoodIn wsL_pulls wsL_later_r2 := goodIn_r _ [25, 26, 27, 28, 29, 30, 31, 32, 33, 34, 35, 36, 37, 38, 39, 40, 41, 42, 43, 44, 45, 46, 47, 48] (by decide +kernel) (by decide +kernel)
set_option maxRecDepth 20000 in
theorem gsL_pulls_L_later_2 : GoodIn wsL_pulls wsL_later_r3 := goodIn_r _ [49, 50, 51, 52, 53, 54, 55, 56, 57, 58, 59, 60, 61, 62, 63, 64, 65, 66, 67, 68, 69, 70, 71, 72] (by decide +kernel) (by decide +kernel)
set_option maxRecDepth 20000 in
theorem gsL_pulls_L_later_3 : GoodIn wsL_pulls wsL_later_r4 := goodIn_r _ [73, 74, 75, 76, 77, 78, 79, 80, 81, 82, 83, 84, 85, 86, 87, 88, 89, 90, 91, 92, 93, 94, 95, 96] (by decide +kernel) (by decide +kernel)
set_option maxRecDepth 20000 in
theorem gsL_pulls_L_later_4 : GoodIn wsL_pulls wsL_later_r5 := goodIn_r _ [97, 98, 99, 100, 101, 102, 103, 104, 105, 106, 107, 108, 109, 110, 111, 112, 113, 114, 115, 116, 117, 118, 119, 120] (by decide +kernel) (by decide +kernel)
set_option maxRecDepth 20000 in
theorem gsL_pulls_L_later_5 : GoodIn wsL_pulls wsL_later_r6 := goodIn_r _ [121, 122, 123, 124, 125, 126, 127, 128, 129, 130, 131, 132, 133, 134, 135, 136, 137, 138, 139, 140, 141, 142, 143, 144] (by decide +kernel) (by decide +kernel)
set_option maxRecDepth 20000 in
theorem gsL_pulls_L_later_6 : GoodIn wsL_pulls wsL_later_r7 := goodIn_r _ [145, 146, 147, 148, 149, 150, 151, 152, 153, 154, 155, 156, 157, 158, 159, 160, 161, 162, 163, 164, 165, 166, 167, 168] (by decide +kernel) (by decide +kernel)
set_option maxRecDepth 20000 in
theorem gsL_pulls_L_later_7 : GoodIn wsL_pulls wsL_later_r8 := goodIn_r _ [169, 170, 171, 172, 173, 174, 175, 176, 177, 178, 179, 180, 181, 182, 183, 184, 185, 186, 187, 188, 189, 190, 191, 192] (by decide +kernel) (by decide +kernel)
set_option maxRecDepth 20000 in
theorem gsL_pulls_L_later_8 : GoodIn wsL_pulls wsL_later_r9 := goodIn_r _ [193, 194, 195, 196, 197, 198, 199, 200, 201, 202, 203, 204, 205, 206, 207, 208, 209, 210, 211, 212, 213, 214, 215, 216] (by decide +kernel) (by decide +kernel)
set_option maxRecDepth 20000 in
theorem gsL_pulls_L_later_9 : GoodIn wsL_pulls wsL_later_r10 := goodIn_r _ [217, 218, 219, 220, 221, 222, 223, 224, 225, 226, 227, 228, 229, 230, 231, 232, 233, 234, 235, 236, 237, 238, 239, 240] (by decide +kernel) (by decide +kernel)
set_option maxRecDepth 20000 in
theorem gsL_pulls_L_later_10 : GoodIn wsL_pulls wsL_later_r11 := goodIn_r _ [241, 242, 243, 244, 245, 246, 247, 248, 249, 250, 251, 252, 253, 254, 255, 256, 257, 258, 259, 260, 261, 262, 263, 264] (by decide +kernel) (by decide +kernel)
set_option maxRecDepth 20000 in
theorem gsL_pulls_L_later_11 : GoodIn wsL_pulls wsL_later_r12 := goodIn_r _ [265, 266, 267, 268, 269, 270, 271, 272, 273, 274, 275, 276, 277, 278, 279, 280, 281, 282, 283, 284, 285, 286, 287, 288] (by decide +kernel) (by decide +kernel)
set_option maxRecDepth 20000 in
theorem gsL_pulls_L_later_12 : GoodIn wsL_pulls wsL_later_r13 := goodIn_r _ [289, 290, 291, 292, 293, 294, 295, 296, 297, 298, 299, 300, 301, 302, 303, 304, 305, 306, 307, 308, 309, 310, 311, 312] (by decide +kernel) (by decide +kernel)
set_option maxRecDepth 20000 in
theorem gsL_pulls_L_later_13 : GoodIn wsL_pulls wsL_later_r14 := goodIn_r _ [313, 314, 315, 316, 317, 318, 319, 320, 321, 322, 323, 324, 325, 326, 327, 328, 329, 330, 331, 332, 333, 334, 335, 336] (by decide +kernel) (by decide +kernel)
set_option maxRecDepth 20000 in
theorem gsL_pulls_L_later_14 : GoodIn wsL_pulls wsL_later_r15 := goodIn_r _ [337, 338, 339, 340, 341, 342, 343, 344, 345, 346, 347, 348, 349, 350, 351, 352, 353, 354, 355, 356, 357, 358, 359, 360] (by decide +kernel) (by decide +kernel)
set_option maxRecDepth 20000 in
theorem gsL_pulls_L_later_15 : GoodIn wsL_pulls wsL_later_r16 := goodIn_r _ [361, 362, 363, 364, 365, 366, 367, 368, 369, 370, 371, 372, 373, 374, 375, 376, 377, 378, 379, 380, 381, 382, 383, 384] (by decide +kernel) (by decide +kernel)
set_option maxRecDepth 20000 in
theorem gsL_pulls_L_later_16 : GoodIn wsL_pulls wsL_later_r17 := goodIn_r _ [385, 386, 387, 388, 389, 390, 391, 392, 393, 394, 395, 396, 397, 398, 399, 400, 401, 402, 403, 404, 405, 406, 407, 408] (by decide +kernel) (by decide +kernel)
set_option maxRecDepth 20000 in
theorem gsL_pulls_L_later_17 : GoodIn wsL_pulls wsL_later_r18 := goodIn_r _ [409, 410, 411, 412, 413, 414, 415, 416, 417, 418, 419, 420, 421, 422, 423, 424, 425, 426, 427, 428, 429, 430, 431, 432] (by decide +kernel) (by decide +kernel)
set_option maxRecDepth 20000 in
theorem gsL_pulls_L_later_18 : GoodIn wsL_pulls wsL_later_r19 := goodIn_r _ [433, 434, 435, 436, 437, 438, 439, 440, 441, 442, 443, 444, 445, 446, 447, 448, 449, 450, 451, 452, 453, 454, 455, 456] (by decide +kernel) (by decide +kernel)
set_option maxRecDepth 20000 in
theorem gsL_pulls_L_later_19 : GoodIn wsL_pulls wsL_later_r20 := goodIn_r _ [457, 458, 459, 460, 461, 462, 463, 464, 490, 491, 492] (by decide +kernel) (by decide +kernel)
set_option maxRecDepth 20000 in
theorem gsL_pulls_L_later_wsX30 : GoodIn wsL_pulls wsX30 := goodIn_r _ [493, 494, 495, 496, 497, 498, 499, 500] (by decide +kernel) (by decide +kernel)
set_option maxRecDepth 20000 in
theorem gsL_pulls_L_later_wsX20 : GoodIn wsL_pulls wsX20 := goodIn_r _ [501, 502] (by decide +kernel) (by decide +kernel)
set_option maxRecDepth 20000 in
theorem gsL_pulls_L_later_wsX00 : GoodIn wsL_pulls wsX00 := goodIn_r _ [503] (by decide +kernel) (by decide +kernel)
set_option maxRecDepth 20000 in
theorem gsL_pulls_L_later_wsX10 : GoodIn wsL_pulls wsX10 := goodIn_r _ [504] (by decide +kernel) (by decide +kernel)
theorem gsL_pulls_L_later_b : GoodIn wsL_pulls (.code yL_later cL_later 4 (some .int) :: ((wsL_later_r1 ++ (wsL_later_r2 ++ (wsL_later_r3 ++ (wsL_later_r4 ++ (wsL_later_r5 ++ (wsL_later_r6 ++ (wsL_later_r7 ++ (wsL_later_r8 ++ (wsL_later_r9 ++ (wsL_later_r10 ++ (wsL_later_r11 ++ (wsL_later_r12 ++ (wsL_later_r13 ++ (wsL_later_r14 ++ (wsL_later_r15 ++ (wsL_later_r16 ++ (wsL_later_r17 ++ (wsL_later_r18 ++ (wsL_later_r19 ++ wsL_later_r20))))))))))))))))))) ++ wsX30 ++ wsX20 ++ wsX00 ++ wsX10)) := goodIn_cons gsL_pulls_L_later_h (goodIn_app (goodIn_app (goodIn_app (goodIn_app (goodIn_app gsL_pulls_L_later_0 (goodIn_app gsL_pulls_L_later_1 (goodIn_app gsL_pulls_L_later_2 (goodIn_app gsL_pulls_L_later_3 (goodIn_app gsL_pulls_L_later_4 (goodIn_app gsL_pulls_L_later_5 (goodIn_app gsL_pulls_L_later_6 (goodIn_app gsL_pulls_L_later_7 (goodIn_app gsL_pulls_L_later_8 (goodIn_app gsL_pulls_L_later_9 (goodIn_app gsL_pulls_L_later_10 (goodIn_app gsL_pulls_L_later_11 (goodIn_app gsL_pulls_L_later_12 (goodIn_app gsL_pulls_L_later_13 (goodIn_app gsL_pulls_L_later_14 (goodIn_app gsL_pulls_L_later_15 (goodIn_app gsL_pulls_L_later_16 (goodIn_app gsL_pulls_L_later_17 (goodIn_app gsL_pulls_L_later_18 gsL_pulls_L_later_19))))))))))))))))))) gsL_pulls_L_later_wsX30) gsL_pulls_L_later_wsX20) gsL_pulls_L_later_wsX00) gsL_pulls_L_later_wsX10)
set_option maxRecDepth 20000 in
theorem ggL_pulls_L_later : GoodIn wsL_pulls wsL_later := goodIn_ca (goodIn_ca (goodIn_ca gsL_pulls_L_later_b (goodIn_sub (fun _ h => List.mem_cons_of_mem _ (List.mem_append_left _ (List.mem_append_left _ (List.mem_append_right _ h)))) (by decide +kernel))) (goodIn_sub (fun _ h => List.mem_cons_of_mem _ (List.mem_append_left _ (List.mem_append_right _ h))) (by decide +kernel))) (goodIn_sub (fun _ h => List.mem_cons_of_mem _ (List.mem_append_right _ h)) (by decide +kernel))
set_option maxRecDepth 20000 in
theorem gL_pulls_L_later : GoodIn wsL_pulls (va_wsS RL 208 yL_later wsL_later) := goodIn_app (goodIn_of _ (by decide +kernel)) ggL_pulls_L_later
set_option maxRecDepth 20000 in
theorem ggL_pulls_L_thrown : GoodIn wsL_pulls wsL_thrown := goodIn_r _ [492, 286, 11, 1] (by decide +kernel) (by decide +kernel)
set_option maxRecDepth 20000 in
theorem gL_pulls_L_thrown : GoodIn wsL_pulls (va_wsS RL 201 yL_thrown wsL_thrown) := goodIn_app (goodIn_of _ (by decide +kernel)) ggL_pulls_L_thrown
theorem dL_pulls_0 : decode cL_pulls 0 = .ok (.aload_n 0, 1) := by decide +kernel
theorem dL_pulls_1 : decode cL_pulls 1 = .ok (.iconst 2, 1) := by decide +kernel
theorem dL_pulls_2 : decode cL_pulls 2 = .ok (.iconst 0, 1) := by decide +kernel
theorem dL_pulls_3 : decode cL_pulls 3 = .ok (.iconst 0, 1) := by decide +kernel
theorem dL_pulls_4 : decode cL_pulls 4 = .ok (.iconst 0, 1) := by decide +kernel
theorem dL_pulls_5 : decode cL_pulls 5 = .ok (.invokestatic 150, 3) := by decide +kernel
theorem dL_pulls_8 : decode cL_pulls 8 = .ok (.istore_n 3, 1) := by decide +kernel
theorem dL_pulls_9 : decode cL_pulls 9 = .ok (.aload_n 0, 1) := by decide +kernel
theorem dL_pulls_10 : decode cL_pulls 10 = .ok (.invokevirtual 205, 3) := by decide +kernel
theorem dL_pulls_13 : decode cL_pulls 13 = .ok (.istore 4, 2) := by decide +kernel
theorem dL_pulls_15 : decode cL_pulls 15 = .ok (.iload_n 3, 1) := by decide +kernel
theorem dL_pulls_16 : decode cL_pulls 16 = .ok (.ifCond .ne 29, 3) := by decide +kernel
theorem dL_pulls_19 : decode cL_pulls 19 = .ok (.iload 4, 2) := by decide +kernel
theorem dL_pulls_21 : decode cL_pulls 21 = .ok (.iconst (-1), 1) := by decide +kernel
theorem dL_pulls_22 : decode cL_pulls 22 = .ok (.if_icmp .ne 21, 3) := by decide +kernel
theorem dL_pulls_25 : decode cL_pulls 25 = .ok (.aload_n 0, 1) := by decide +kernel
theorem dL_pulls_26 : decode cL_pulls 26 = .ok (.invokestatic 208, 3) := by decide +kernel
theorem dL_pulls_29 : decode cL_pulls 29 = .ok (.ifCond .ne 14, 3) := by decide +kernel
theorem dL_pulls_32 : decode cL_pulls 32 = .ok (.aload_n 1, 1) := by decide +kernel
theorem dL_pulls_33 : decode cL_pulls 33 = .ok (.invokestatic 208, 3) := by decide +kernel
theorem dL_pulls_36 : decode cL_pulls 36 = .ok (.ifCond .ne 7, 3) := by decide +kernel
theorem dL_pulls_39 : decode cL_pulls 39 = .ok (.iconst 1, 1) := by decide +kernel
theorem dL_pulls_40 : decode cL_pulls 40 = .ok (.goto 4, 3) := by decide +kernel
theorem dL_pulls_43 : decode cL_pulls 43 = .ok (.iconst 0, 1) := by decide +kernel
theorem dL_pulls_44 : decode cL_pulls 44 = .ok (.ireturn, 1) := by decide +kernel
theorem dL_pulls_45 : decode cL_pulls 45 = .ok (.aload_n 0, 1) := by decide +kernel
theorem dL_pulls_46 : decode cL_pulls 46 = .ok (.invokestatic 208, 3) := by decide +kernel
theorem dL_pulls_49 : decode cL_pulls 49 = .ok (.istore 5, 2) := by decide +kernel
theorem dL_pulls_51 : decode cL_pulls 51 = .ok (.iconst (-1), 1) := by decide +kernel
theorem dL_pulls_52 : decode cL_pulls 52 = .ok (.istore 6, 2) := by decide +kernel
theorem dL_pulls_54 : decode cL_pulls 54 = .ok (.aload_n 1, 1) := by decide +kernel
theorem dL_pulls_55 : decode cL_pulls 55 = .ok (.invokestatic 208, 3) := by decide +kernel
theorem dL_pulls_58 : decode cL_pulls 58 = .ok (.iload 5, 2) := by decide +kernel
theorem dL_pulls_60 : decode cL_pulls 60 = .ok (.if_icmp .ne 7, 3) := by decide +kernel
theorem dL_pulls_63 : decode cL_pulls 63 = .ok (.iconst 1, 1) := by decide +kernel
theorem dL_pulls_64 : decode cL_pulls 64 = .ok (.goto 4, 3) := by decide +kernel
theorem dL_pulls_67 : decode cL_pulls 67 = .ok (.iconst 0, 1) := by decide +kernel
theorem dL_pulls_68 : decode cL_pulls 68 = .ok (.istore 7, 2) := by decide +kernel
theorem dL_pulls_70 : decode cL_pulls 70 = .ok (.iload 4, 2) := by decide +kernel
theorem dL_pulls_72 : decode cL_pulls 72 = .ok (.iconst (-1), 1) := by decide +kernel
theorem dL_pulls_73 : decode cL_pulls 73 = .ok (.if_icmp .eq 135, 3) := by decide +kernel
theorem dL_pulls_76 : decode cL_pulls 76 = .ok (.aload_n 0, 1) := by decide +kernel
theorem dL_pulls_77 : decode cL_pulls 77 = .ok (.bipush 14, 2) := by decide +kernel
theorem dL_pulls_79 : decode cL_pulls 79 = .ok (.iload 4, 2) := by decide +kernel
theorem dL_pulls_81 : decode cL_pulls 81 = .ok (.iconst 0, 1) := by decide +kernel
theorem dL_pulls_82 : decode cL_pulls 82 = .ok (.iconst 0, 1) := by decide +kernel
theorem dL_pulls_83 : decode cL_pulls 83 = .ok (.invokestatic 150, 3) := by decide +kernel
theorem dL_pulls_86 : decode cL_pulls 86 = .ok (.iconst (-1), 1) := by decide +kernel
theorem dL_pulls_87 : decode cL_pulls 87 = .ok (.if_icmp .ne 7, 3) := by decide +kernel
theorem dL_pulls_90 : decode cL_pulls 90 = .ok (.iconst 0, 1) := by decide +kernel
theorem dL_pulls_91 : decode cL_pulls 91 = .ok (.goto 4, 3) := by decide +kernel
theorem dL_pulls_94 : decode cL_pulls 94 = .ok (.iconst 1, 1) := by decide +kernel
theorem dL_pulls_95 : decode cL_pulls 95 = .ok (.istore 8, 2) := by decide +kernel
theorem dL_pulls_97 : decode cL_pulls 97 = .ok (.iload 7, 2) := by decide +kernel
theorem dL_pulls_99 : decode cL_pulls 99 = .ok (.ifCond .eq 39, 3) := by decide +kernel
theorem dL_pulls_102 : decode cL_pulls 102 = .ok (.aload_n 0, 1) := by decide +kernel
theorem dL_pulls_103 : decode cL_pulls 103 = .ok (.bipush 12, 2) := by decide +kernel
theorem dL_pulls_105 : decode cL_pulls 105 = .ok (.iload 4, 2) := by decide +kernel
theorem dL_pulls_107 : decode cL_pulls 107 = .ok (.iconst 0, 1) := by decide +kernel
theorem dL_pulls_108 : decode cL_pulls 108 = .ok (.iconst 0, 1) := by decide +kernel
theorem dL_pulls_109 : decode cL_pulls 109 = .ok (.invokestatic 150, 3) := by decide +kernel
theorem dL_pulls_112 : decode cL_pulls 112 = .ok (.invokestatic 201, 3) := by decide +kernel
theorem dL_pulls_115 : decode cL_pulls 115 = .ok (.ifCond .ne 23, 3) := by decide +kernel
theorem dL_pulls_118 : decode cL_pulls 118 = .ok (.aload_n 1, 1) := by decide +kernel
theorem dL_pulls_119 : decode cL_pulls 119 = .ok (.bipush 12, 2) := by decide +kernel
theorem dL_pulls_121 : decode cL_pulls 121 = .ok (.iload 4, 2) := by decide +kernel
theorem dL_pulls_123 : decode cL_pulls 123 = .ok (.iconst 0, 1) := by decide +kernel
theorem dL_pulls_124 : decode cL_pulls 124 = .ok (.iconst 0, 1) := by decide +kernel
theorem dL_pulls_125 : decode cL_pulls 125 = .ok (.invokestatic 150, 3) := by decide +kernel
theorem dL_pulls_128 : decode cL_pulls 128 = .ok (.invokestatic 201, 3) := by decide +kernel
theorem dL_pulls_131 : decode cL_pulls 131 = .ok (.ifCond .ne 7, 3) := by decide +kernel
theorem dL_pulls_134 : decode cL_pulls 134 = .ok (.iconst 1, 1) := by decide +kernel
theorem dL_pulls_135 : decode cL_pulls 135 = .ok (.goto 4, 3) := by decide +kernel
theorem dL_pulls_138 : decode cL_pulls 138 = .ok (.iconst 0, 1) := by decide +kernel
theorem dL_pulls_139 : decode cL_pulls 139 = .ok (.istore 7, 2) := by decide +kernel
theorem dL_pulls_141 : decode cL_pulls 141 = .ok (.aload_n 0, 1) := by decide +kernel
theorem dL_pulls_142 : decode cL_pulls 142 = .ok (.invokestatic 208, 3) := by decide +kernel
theorem dL_pulls_145 : decode cL_pulls 145 = .ok (.istore 6, 2) := by decide +kernel
theorem dL_pulls_147 : decode cL_pulls 147 = .ok (.iload 7, 2) := by decide +kernel
theorem dL_pulls_149 : decode cL_pulls 149 = .ok (.ifCond .eq 56, 3) := by decide +kernel
theorem dL_pulls_152 : decode cL_pulls 152 = .ok (.aload_n 1, 1) := by decide +kernel
theorem dL_pulls_153 : decode cL_pulls 153 = .ok (.invokestatic 208, 3) := by decide +kernel
theorem dL_pulls_156 : decode cL_pulls 156 = .ok (.iload 6, 2) := by decide +kernel
theorem dL_pulls_158 : decode cL_pulls 158 = .ok (.if_icmp .ne 47, 3) := by decide +kernel
theorem dL_pulls_161 : decode cL_pulls 161 = .ok (.iload 6, 2) := by decide +kernel
theorem dL_pulls_163 : decode cL_pulls 163 = .ok (.iload 5, 2) := by decide +kernel
theorem dL_pulls_165 : decode cL_pulls 165 = .ok (.iload 8, 2) := by decide +kernel
theorem dL_pulls_167 : decode cL_pulls 167 = .ok (.isub, 1) := by decide +kernel
theorem dL_pulls_168 : decode cL_pulls 168 = .ok (.if_icmp .le 37, 3) := by decide +kernel
theorem dL_pulls_171 : decode cL_pulls 171 = .ok (.aload_n 0, 1) := by decide +kernel
theorem dL_pulls_172 : decode cL_pulls 172 = .ok (.bipush 13, 2) := by decide +kernel
theorem dL_pulls_174 : decode cL_pulls 174 = .ok (.iconst 0, 1) := by decide +kernel
theorem dL_pulls_175 : decode cL_pulls 175 = .ok (.iconst 0, 1) := by decide +kernel
theorem dL_pulls_176 : decode cL_pulls 176 = .ok (.iconst 0, 1) := by decide +kernel
theorem dL_pulls_177 : decode cL_pulls 177 = .ok (.invokestatic 150, 3) := by decide +kernel
theorem dL_pulls_180 : decode cL_pulls 180 = .ok (.invokestatic 201, 3) := by decide +kernel
theorem dL_pulls_183 : decode cL_pulls 183 = .ok (.ifCond .ne 22, 3) := by decide +kernel
theorem dL_pulls_186 : decode cL_pulls 186 = .ok (.aload_n 1, 1) := by decide +kernel
theorem dL_pulls_187 : decode cL_pulls 187 = .ok (.bipush 13, 2) := by decide +kernel
theorem dL_pulls_189 : decode cL_pulls 189 = .ok (.iconst 0, 1) := by decide +kernel
theorem dL_pulls_190 : decode cL_pulls 190 = .ok (.iconst 0, 1) := by decide +kernel
theorem dL_pulls_191 : decode cL_pulls 191 = .ok (.iconst 0, 1) := by decide +kernel
theorem dL_pulls_192 : decode cL_pulls 192 = .ok (.invokestatic 150, 3) := by decide +kernel
theorem dL_pulls_195 : decode cL_pulls 195 = .ok (.invokestatic 201, 3) := by decide +kernel
theorem dL_pulls_198 : decode cL_pulls 198 = .ok (.ifCond .ne 7, 3) := by decide +kernel
theorem dL_pulls_201 : decode cL_pulls 201 = .ok (.iconst 1, 1) := by decide +kernel
theorem dL_pulls_202 : decode cL_pulls 202 = .ok (.goto 4, 3) := by decide +kernel
theorem dL_pulls_205 : decode cL_pulls 205 = .ok (.iconst 0, 1) := by decide +kernel
theorem dL_pulls_206 : decode cL_pulls 206 = .ok (.istore 7, 2) := by decide +kernel
theorem dL_pulls_208 : decode cL_pulls 208 = .ok (.iload_n 2, 1) := by decide +kernel
theorem dL_pulls_209 : decode cL_pulls 209 = .ok (.iload_n 3, 1) := by decide +kernel
theorem dL_pulls_210 : decode cL_pulls 210 = .ok (.irem, 1) := by decide +kernel
theorem dL_pulls_211 : decode cL_pulls 211 = .ok (.istore 8, 2) := by decide +kernel
theorem dL_pulls_213 : decode cL_pulls 213 = .ok (.aload_n 0, 1) := by decide +kernel
theorem dL_pulls_214 : decode cL_pulls 214 = .ok (.bipush 14, 2) := by decide +kernel
theorem dL_pulls_216 : decode cL_pulls 216 = .ok (.iload 8, 2) := by decide +kernel
theorem dL_pulls_218 : decode cL_pulls 218 = .ok (.iconst 0, 1) := by decide +kernel
theorem dL_pulls_219 : decode cL_pulls 219 = .ok (.iconst 0, 1) := by decide +kernel
theorem dL_pulls_220 : decode cL_pulls 220 = .ok (.invokestatic 150, 3) := by decide +kernel
theorem dL_pulls_223 : decode cL_pulls 223 = .ok (.iconst (-1), 1) := by decide +kernel
theorem dL_pulls_224 : decode cL_pulls 224 = .ok (.if_icmp .ne 7, 3) := by decide +kernel
theorem dL_pulls_227 : decode cL_pulls 227 = .ok (.iconst 0, 1) := by decide +kernel
theorem dL_pulls_228 : decode cL_pulls 228 = .ok (.goto 4, 3) := by decide +kernel
theorem dL_pulls_231 : decode cL_pulls 231 = .ok (.iconst 1, 1) := by decide +kernel
theorem dL_pulls_232 : decode cL_pulls 232 = .ok (.istore 9, 2) := by decide +kernel
theorem dL_pulls_234 : decode cL_pulls 234 = .ok (.aload_n 0, 1) := by decide +kernel
theorem dL_pulls_235 : decode cL_pulls 235 = .ok (.bipush 12, 2) := by decide +kernel
theorem dL_pulls_237 : decode cL_pulls 237 = .ok (.iload 8, 2) := by decide +kernel
theorem dL_pulls_239 : decode cL_pulls 239 = .ok (.iconst 0, 1) := by decide +kernel
theorem dL_pulls_240 : decode cL_pulls 240 = .ok (.iconst 0, 1) := by decide +kernel
theorem dL_pulls_241 : decode cL_pulls 241 = .ok (.invokestatic 150, 3) := by decide +kernel
theorem dL_pulls_244 : decode cL_pulls 244 = .ok (.istore 10, 2) := by decide +kernel
theorem dL_pulls_246 : decode cL_pulls 246 = .ok (.iload 7, 2) := by decide +kernel
theorem dL_pulls_248 : decode cL_pulls 248 = .ok (.ifCond .eq 22, 3) := by decide +kernel
theorem dL_pulls_251 : decode cL_pulls 251 = .ok (.aload_n 1, 1) := by decide +kernel
theorem dL_pulls_252 : decode cL_pulls 252 = .ok (.bipush 12, 2) := by decide +kernel
theorem dL_pulls_254 : decode cL_pulls 254 = .ok (.iload 8, 2) := by decide +kernel
theorem dL_pulls_256 : decode cL_pulls 256 = .ok (.iconst 0, 1) := by decide +kernel
theorem dL_pulls_257 : decode cL_pulls 257 = .ok (.iconst 0, 1) := by decide +kernel
theorem dL_pulls_258 : decode cL_pulls 258 = .ok (.invokestatic 150, 3) := by decide +kernel
theorem dL_pulls_261 : decode cL_pulls 261 = .ok (.iload 10, 2) := by decide +kernel
theorem dL_pulls_263 : decode cL_pulls 263 = .ok (.if_icmp .ne 7, 3) := by decide +kernel
theorem dL_pulls_266 : decode cL_pulls 266 = .ok (.iconst 1, 1) := by decide +kernel
theorem dL_pulls_267 : decode cL_pulls 267 = .ok (.goto 4, 3) := by decide +kernel
theorem dL_pulls_270 : decode cL_pulls 270 = .ok (.iconst 0, 1) := by decide +kernel
theorem dL_pulls_271 : decode cL_pulls 271 = .ok (.istore 7, 2) := by decide +kernel
theorem dL_pulls_273 : decode cL_pulls 273 = .ok (.iload 10, 2) := by decide +kernel
theorem dL_pulls_275 : decode cL_pulls 275 = .ok (.ldc 18, 2) := by decide +kernel
theorem dL_pulls_277 : decode cL_pulls 277 = .ok (.if_icmp .ne 27, 3) := by decide +kernel
theorem dL_pulls_280 : decode cL_pulls 280 = .ok (.iload 7, 2) := by decide +kernel
theorem dL_pulls_282 : decode cL_pulls 282 = .ok (.ifCond .eq 20, 3) := by decide +kernel
theorem dL_pulls_285 : decode cL_pulls 285 = .ok (.aload_n 0, 1) := by decide +kernel
theorem dL_pulls_286 : decode cL_pulls 286 = .ok (.iconst 3, 1) := by decide +kernel
theorem dL_pulls_287 : decode cL_pulls 287 = .ok (.iload 8, 2) := by decide +kernel
theorem dL_pulls_289 : decode cL_pulls 289 = .ok (.iconst 0, 1) := by decide +kernel
theorem dL_pulls_290 : decode cL_pulls 290 = .ok (.iconst 0, 1) := by decide +kernel
theorem dL_pulls_291 : decode cL_pulls 291 = .ok (.invokestatic 150, 3) := by decide +kernel
theorem dL_pulls_294 : decode cL_pulls 294 = .ok (.iconst 1, 1) := by decide +kernel
theorem dL_pulls_295 : decode cL_pulls 295 = .ok (.if_icmp .le 7, 3) := by decide +kernel
theorem dL_pulls_298 : decode cL_pulls 298 = .ok (.iconst 1, 1) := by decide +kernel
theorem dL_pulls_299 : decode cL_pulls 299 = .ok (.goto 4, 3) := by decide +kernel
theorem dL_pulls_302 : decode cL_pulls 302 = .ok (.iconst 0, 1) := by decide +kernel
theorem dL_pulls_303 : decode cL_pulls 303 = .ok (.ireturn, 1) := by decide +kernel
theorem dL_pulls_304 : decode cL_pulls 304 = .ok (.aload_n 0, 1) := by decide +kernel
theorem dL_pulls_305 : decode cL_pulls 305 = .ok (.invokestatic 208, 3) := by decide +kernel
theorem dL_pulls_308 : decode cL_pulls 308 = .ok (.istore 11, 2) := by decide +kernel
theorem dL_pulls_310 : decode cL_pulls 310 = .ok (.iload 7, 2) := by decide +kernel
theorem dL_pulls_312 : decode cL_pulls 312 = .ok (.ifCond .eq 109, 3) := by decide +kernel
theorem dL_pulls_315 : decode cL_pulls 315 = .ok (.aload_n 1, 1) := by decide +kernel
theorem dL_pulls_316 : decode cL_pulls 316 = .ok (.invokestatic 208, 3) := by decide +kernel
theorem dL_pulls_319 : decode cL_pulls 319 = .ok (.iload 11, 2) := by decide +kernel
theorem dL_pulls_321 : decode cL_pulls 321 = .ok (.if_icmp .ne 100, 3) := by decide +kernel
theorem dL_pulls_324 : decode cL_pulls 324 = .ok (.iload 4, 2) := by decide +kernel
theorem dL_pulls_326 : decode cL_pulls 326 = .ok (.iconst (-1), 1) := by decide +kernel
theorem dL_pulls_327 : decode cL_pulls 327 = .ok (.if_icmp .ne 16, 3) := by decide +kernel
theorem dL_pulls_330 : decode cL_pulls 330 = .ok (.iload 11, 2) := by decide +kernel
theorem dL_pulls_332 : decode cL_pulls 332 = .ok (.iload 5, 2) := by decide +kernel
theorem dL_pulls_334 : decode cL_pulls 334 = .ok (.iload 9, 2) := by decide +kernel
theorem dL_pulls_336 : decode cL_pulls 336 = .ok (.isub, 1) := by decide +kernel
theorem dL_pulls_337 : decode cL_pulls 337 = .ok (.if_icmp .gt 84, 3) := by decide +kernel
theorem dL_pulls_340 : decode cL_pulls 340 = .ok (.goto 34, 3) := by decide +kernel
theorem dL_pulls_343 : decode cL_pulls 343 = .ok (.iload 11, 2) := by decide +kernel
theorem dL_pulls_345 : decode cL_pulls 345 = .ok (.iload 5, 2) := by decide +kernel
theorem dL_pulls_347 : decode cL_pulls 347 = .ok (.iload 9, 2) := by decide +kernel
theorem dL_pulls_349 : decode cL_pulls 349 = .ok (.isub, 1) := by decide +kernel
theorem dL_pulls_350 : decode cL_pulls 350 = .ok (.if_icmp .le 24, 3) := by decide +kernel
theorem dL_pulls_353 : decode cL_pulls 353 = .ok (.iload 11, 2) := by decide +kernel
theorem dL_pulls_355 : decode cL_pulls 355 = .ok (.iload 6, 2) := by decide +kernel
theorem dL_pulls_357 : decode cL_pulls 357 = .ok (.if_icmp .lt 17, 3) := by decide +kernel
theorem dL_pulls_360 : decode cL_pulls 360 = .ok (.iload 11, 2) := by decide +kernel
theorem dL_pulls_362 : decode cL_pulls 362 = .ok (.iload 6, 2) := by decide +kernel
theorem dL_pulls_364 : decode cL_pulls 364 = .ok (.if_icmp .ne 57, 3) := by decide +kernel
theorem dL_pulls_367 : decode cL_pulls 367 = .ok (.iload 8, 2) := by decide +kernel
theorem dL_pulls_369 : decode cL_pulls 369 = .ok (.iload 4, 2) := by decide +kernel
theorem dL_pulls_371 : decode cL_pulls 371 = .ok (.if_icmp .lt 50, 3) := by decide +kernel
theorem dL_pulls_374 : decode cL_pulls 374 = .ok (.aload_n 0, 1) := by decide +kernel
theorem dL_pulls_375 : decode cL_pulls 375 = .ok (.bipush 13, 2) := by decide +kernel
theorem dL_pulls_377 : decode cL_pulls 377 = .ok (.iconst 0, 1) := by decide +kernel
theorem dL_pulls_378 : decode cL_pulls 378 = .ok (.iconst 0, 1) := by decide +kernel
theorem dL_pulls_379 : decode cL_pulls 379 = .ok (.iconst 0, 1) := by decide +kernel
theorem dL_pulls_380 : decode cL_pulls 380 = .ok (.invokestatic 150, 3) := by decide +kernel
theorem dL_pulls_383 : decode cL_pulls 383 = .ok (.invokestatic 201, 3) := by decide +kernel
theorem dL_pulls_386 : decode cL_pulls 386 = .ok (.ifCond .ne 35, 3) := by decide +kernel
theorem dL_pulls_389 : decode cL_pulls 389 = .ok (.aload_n 1, 1) := by decide +kernel
theorem dL_pulls_390 : decode cL_pulls 390 = .ok (.bipush 13, 2) := by decide +kernel
theorem dL_pulls_392 : decode cL_pulls 392 = .ok (.iconst 0, 1) := by decide +kernel
theorem dL_pulls_393 : decode cL_pulls 393 = .ok (.iconst 0, 1) := by decide +kernel
theorem dL_pulls_394 : decode cL_pulls 394 = .ok (.iconst 0, 1) := by decide +kernel
theorem dL_pulls_395 : decode cL_pulls 395 = .ok (.invokestatic 150, 3) := by decide +kernel
theorem dL_pulls_398 : decode cL_pulls 398 = .ok (.invokestatic 201, 3) := by decide +kernel
theorem dL_pulls_401 : decode cL_pulls 401 = .ok (.ifCond .ne 20, 3) := by decide +kernel
theorem dL_pulls_404 : decode cL_pulls 404 = .ok (.aload_n 0, 1) := by decide +kernel
theorem dL_pulls_405 : decode cL_pulls 405 = .ok (.iconst 3, 1) := by decide +kernel
theorem dL_pulls_406 : decode cL_pulls 406 = .ok (.iload 8, 2) := by decide +kernel
theorem dL_pulls_408 : decode cL_pulls 408 = .ok (.iconst 0, 1) := by decide +kernel
theorem dL_pulls_409 : decode cL_pulls 409 = .ok (.iconst 0, 1) := by decide +kernel
theorem dL_pulls_410 : decode cL_pulls 410 = .ok (.invokestatic 150, 3) := by decide +kernel
theorem dL_pulls_413 : decode cL_pulls 413 = .ok (.iconst 2, 1) := by decide +kernel
theorem dL_pulls_414 : decode cL_pulls 414 = .ok (.if_icmp .ge 7, 3) := by decide +kernel
theorem dL_pulls_417 : decode cL_pulls 417 = .ok (.iconst 1, 1) := by decide +kernel
theorem dL_pulls_418 : decode cL_pulls 418 = .ok (.goto 4, 3) := by decide +kernel
theorem dL_pulls_421 : decode cL_pulls 421 = .ok (.iconst 0, 1) := by decide +kernel
theorem dL_pulls_422 : decode cL_pulls 422 = .ok (.ireturn, 1) := by decide +kernel
