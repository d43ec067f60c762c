theorem dX4_figures_133 : decode cX4_figures 133 = .ok (.ireturn, 1) := by decide +kernel
theorem dX4_done_0 : decode cX4_done 0 = .ok (.aload_n 0, 1) := by decide +kernel
theorem dX4_done_1 : decode cX4_done 1 = .ok (.dup, 1) := by decide +kernel
theorem dX4_done_2 : decode cX4_done 2 = .ok (.getfield 136, 3) := by decide +kernel
theorem dX4_done_5 : decode cX4_done 5 = .ok (.iload_n 1, 1) := by decide +kernel
theorem dX4_done_6 : decode cX4_done 6 = .ok (.ifCond .eq 7, 3) := by decide +kernel
theorem dX4_done_9 : decode cX4_done 9 = .ok (.iconst 0, 1) := by decide +kernel
theorem dX4_done_10 : decode cX4_done 10 = .ok (.goto 4, 3) := by decide +kernel
theorem dX4_done_13 : decode cX4_done 13 = .ok (.iconst 1, 1) := by decide +kernel
theorem dX4_done_14 : decode cX4_done 14 = .ok (.iadd, 1) := by decide +kernel
theorem dX4_done_15 : decode cX4_done 15 = .ok (.putfield 136, 3) := by decide +kernel
theorem dX4_done_18 : decode cX4_done 18 = .ok (.iconst 1, 1) := by decide +kernel
theorem dX4_done_19 : decode cX4_done 19 = .ok (.ireturn, 1) := by decide +kernel
set_option maxRecDepth 20000 in
theorem ggX4_readCommand_X4_figures : GoodIn wsX4_readCommand wsX4_figures := goodIn_r _ [7, 2, 8, 1, 9, 10, 11, 6, 12, 97, 98, 99, 100, 101, 102, 103, 104, 105, 106, 107, 108] (by decide +kernel) (by decide +kernel)
set_option maxRecDepth 20000 in
theorem gX4_readCommand_X4_figures : GoodIn wsX4_readCommand (wsV RX4 139 RX4 yX4_figures wsX4_figures) := goodIn_app (goodIn_of _ (by decide +kernel)) ggX4_readCommand_X4_figures
set_option maxRecDepth 20000 in
theorem ggX4_readCommand_X4_canHatch : GoodIn wsX4_readCommand wsX4_canHatch := goodIn_r _ [15, 16, 17, 6, 18, 19, 10, 11, 12, 20, 21, 22, 9] (by decide +kernel) (by decide +kernel)
set_option maxRecDepth 20000 in
theorem gX4_readCommand_X4_canHatch : GoodIn wsX4_readCommand (va_wsS RX4 143 yX4_canHatch wsX4_canHatch) := goodIn_app (goodIn_of _ (by decide +kernel)) ggX4_readCommand_X4_canHatch
set_option maxRecDepth 20000 in
theorem ggX4_readCommand_X4_hatchOn : GoodIn wsX4_readCommand wsX4_hatchOn := goodIn_r _ [25, 26, 27, 6, 28] (by decide +kernel) (by decide +kernel)
set_option maxRecDepth 20000 in
theorem gX4_readCommand_X4_hatchOn : GoodIn wsX4_readCommand (va_wsS RX4 147 yX4_hatchOn wsX4_hatchOn) := goodIn_app (goodIn_of _ (by decide +kernel)) ggX4_readCommand_X4_hatchOn
set_option maxRecDepth 20000 in
theorem ggX4_readCommand_X4_done : GoodIn wsX4_readCommand wsX4_done := goodIn_r _ [32, 33, 97, 98, 99, 100, 101, 102, 103, 104, 105, 106, 107, 108] (by decide +kernel) (by decide +kernel)
set_option maxRecDepth 20000 in
theorem gX4_readCommand_X4_done : GoodIn wsX4_readCommand (wsV RX4 151 RX4 yX4_done wsX4_done) := goodIn_app (goodIn_of _ (by decide +kernel)) ggX4_readCommand_X4_done
set_option maxRecDepth 20000 in
theorem ggX4_readCommand_X4_ticksOn : GoodIn wsX4_readCommand wsX4_ticksOn := goodIn_r _ [36, 37, 38, 6, 39, 40, 41, 42, 43, 44, 45, 46, 47, 48, 49, 50, 51, 52, 53, 54, 55, 56, 57, 58, 59, 60, 61, 62, 63, 64, 65, 66, 67, 68, 69, 26, 27, 28, 70, 71, 72, 73, 74, 75] (by decide +kernel) (by decide +kernel)
set_option maxRecDepth 20000 in
theorem gX4_readCommand_X4_ticksOn : GoodIn wsX4_readCommand (va_wsS RX4 122 yX4_ticksOn wsX4_ticksOn) := goodIn_app (goodIn_of _ (by decide +kernel)) ggX4_readCommand_X4_ticksOn
set_option maxRecDepth 20000 in
theorem ggX4_readCommand_X4_canShut : GoodIn wsX4_readCommand wsX4_canShut := goodIn_r _ [78, 16, 17, 6, 18, 19, 10, 11, 12, 64, 65, 66, 43, 44, 45] (by decide +kernel) (by decide +kernel)
set_option maxRecDepth 20000 in
theorem gX4_readCommand_X4_canShut : GoodIn wsX4_readCommand (va_wsS RX4 155 yX4_canShut wsX4_canShut) := goodIn_app (goodIn_of _ (by decide +kernel)) ggX4_readCommand_X4_canShut
set_option maxRecDepth 20000 in
theorem ggX4_readCommand_X4_shutOn : GoodIn wsX4_readCommand wsX4_shutOn := goodIn_r _ [81, 82, 83, 6, 84] (by decide +kernel) (by decide +kernel)
set_option maxRecDepth 20000 in
theorem gX4_readCommand_X4_shutOn : GoodIn wsX4_readCommand (va_wsS RX4 159 yX4_shutOn wsX4_shutOn) := goodIn_app (goodIn_of _ (by decide +kernel)) ggX4_readCommand_X4_shutOn
set_option maxRecDepth 20000 in
theorem ggX4_readCommand_X4_ruleOn : GoodIn wsX4_readCommand wsX4_ruleOn := goodIn_r _ [87] (by decide +kernel) (by decide +kernel)
set_option maxRecDepth 20000 in
theorem gX4_readCommand_X4_ruleOn : GoodIn wsX4_readCommand (va_wsS RX4 163 yX4_ruleOn wsX4_ruleOn) := goodIn_app (goodIn_of _ (by decide +kernel)) ggX4_readCommand_X4_ruleOn
set_option maxRecDepth 20000 in
theorem ggX4_readCommand_X4_canPull : GoodIn wsX4_readCommand wsX4_canPull := goodIn_r _ [90, 91, 92, 6, 93, 10, 11, 12, 43, 44, 45] (by decide +kernel) (by decide +kernel)
set_option maxRecDepth 20000 in
theorem gX4_readCommand_X4_canPull : GoodIn wsX4_readCommand (va_wsS RX4 166 yX4_canPull wsX4_canPull) := goodIn_app (goodIn_of _ (by decide +kernel)) ggX4_readCommand_X4_canPull
set_option maxRecDepth 20000 in
theorem ggX4_readCommand_X4_pullOn : GoodIn wsX4_readCommand wsX4_pullOn := goodIn_r _ [96, 43, 44, 6, 45, 26, 27, 28] (by decide +kernel) (by decide +kernel)
set_option maxRecDepth 20000 in
theorem gX4_readCommand_X4_pullOn : GoodIn wsX4_readCommand (va_wsS RX4 169 yX4_pullOn wsX4_pullOn) := goodIn_app (goodIn_of _ (by decide +kernel)) ggX4_readCommand_X4_pullOn
theorem dX4_readCommand_0 : decode cX4_readCommand 0 = .ok (.aload_n 0, 1) := by decide +kernel
theorem dX4_readCommand_1 : decode cX4_readCommand 1 = .ok (.getfield 7, 3) := by decide +kernel
theorem dX4_readCommand_4 : decode cX4_readCommand 4 = .ok (.aload_n 0, 1) := by decide +kernel
theorem dX4_readCommand_5 : decode cX4_readCommand 5 = .ok (.getfield 133, 3) := by decide +kernel
theorem dX4_readCommand_8 : decode cX4_readCommand 8 = .ok (.iaload, 1) := by decide +kernel
theorem dX4_readCommand_9 : decode cX4_readCommand 9 = .ok (.istore_n 2, 1) := by decide +kernel
theorem dX4_readCommand_10 : decode cX4_readCommand 10 = .ok (.aload_n 0, 1) := by decide +kernel
theorem dX4_readCommand_11 : decode cX4_readCommand 11 = .ok (.dup, 1) := by decide +kernel
theorem dX4_readCommand_12 : decode cX4_readCommand 12 = .ok (.getfield 133, 3) := by decide +kernel
theorem dX4_readCommand_15 : decode cX4_readCommand 15 = .ok (.iconst 1, 1) := by decide +kernel
theorem dX4_readCommand_16 : decode cX4_readCommand 16 = .ok (.iadd, 1) := by decide +kernel
theorem dX4_readCommand_17 : decode cX4_readCommand 17 = .ok (.putfield 133, 3) := by decide +kernel
theorem dX4_readCommand_20 : decode cX4_readCommand 20 = .ok (.iload_n 2, 1) := by decide +kernel
theorem dX4_readCommand_21 : decode cX4_readCommand 21 = .ok (.lookupswitch 313 #[(104, 51), (112, 264), (114, 224), (116, 132), (120, 173)], 51) := by decide +kernel
theorem dX4_readCommand_72 : decode cX4_readCommand 72 = .ok (.aload_n 0, 1) := by decide +kernel
theorem dX4_readCommand_73 : decode cX4_readCommand 73 = .ok (.iconst 0, 1) := by decide +kernel
theorem dX4_readCommand_74 : decode cX4_readCommand 74 = .ok (.iconst 2, 1) := by decide +kernel
theorem dX4_readCommand_75 : decode cX4_readCommand 75 = .ok (.iconst 0, 1) := by decide +kernel
theorem dX4_readCommand_76 : decode cX4_readCommand 76 = .ok (.bipush 35, 2) := by decide +kernel
theorem dX4_readCommand_78 : decode cX4_readCommand 78 = .ok (.invokevirtual 139, 3) := by decide +kernel
theorem dX4_readCommand_81 : decode cX4_readCommand 81 = .ok (.istore_n 3, 1) := by decide +kernel
theorem dX4_readCommand_82 : decode cX4_readCommand 82 = .ok (.aload_n 0, 1) := by decide +kernel
theorem dX4_readCommand_83 : decode cX4_readCommand 83 = .ok (.iload_n 3, 1) := by decide +kernel
theorem dX4_readCommand_84 : decode cX4_readCommand 84 = .ok (.iconst 2, 1) := by decide +kernel
theorem dX4_readCommand_85 : decode cX4_readCommand 85 = .ok (.iconst 0, 1) := by decide +kernel
theorem dX4_readCommand_86 : decode cX4_readCommand 86 = .ok (.bipush 35, 2) := by decide +kernel
theorem dX4_readCommand_88 : decode cX4_readCommand 88 = .ok (.invokevirtual 139, 3) := by decide +kernel
theorem dX4_readCommand_91 : decode cX4_readCommand 91 = .ok (.istore 4, 2) := by decide +kernel
theorem dX4_readCommand_93 : decode cX4_readCommand 93 = .ok (.aload_n 0, 1) := by decide +kernel
theorem dX4_readCommand_94 : decode cX4_readCommand 94 = .ok (.iload 4, 2) := by decide +kernel
theorem dX4_readCommand_96 : decode cX4_readCommand 96 = .ok (.iconst 1, 1) := by decide +kernel
theorem dX4_readCommand_97 : decode cX4_readCommand 97 = .ok (.iconst 1, 1) := by decide +kernel
theorem dX4_readCommand_98 : decode cX4_readCommand 98 = .ok (.bipush 9, 2) := by decide +kernel
theorem dX4_readCommand_100 : decode cX4_readCommand 100 = .ok (.invokevirtual 139, 3) := by decide +kernel
theorem dX4_readCommand_103 : decode cX4_readCommand 103 = .ok (.istore 5, 2) := by decide +kernel
theorem dX4_readCommand_105 : decode cX4_readCommand 105 = .ok (.iload 5, 2) := by decide +kernel
theorem dX4_readCommand_107 : decode cX4_readCommand 107 = .ok (.iconst (-1), 1) := by decide +kernel
theorem dX4_readCommand_108 : decode cX4_readCommand 108 = .ok (.if_icmp .eq 43, 3) := by decide +kernel
theorem dX4_readCommand_111 : decode cX4_readCommand 111 = .ok (.aload_n 0, 1) := by decide +kernel
theorem dX4_readCommand_112 : decode cX4_readCommand 112 = .ok (.aload_n 1, 1) := by decide +kernel
theorem dX4_readCommand_113 : decode cX4_readCommand 113 = .ok (.iload_n 3, 1) := by decide +kernel
theorem dX4_readCommand_114 : decode cX4_readCommand 114 = .ok (.iload 4, 2) := by decide +kernel
theorem dX4_readCommand_116 : decode cX4_readCommand 116 = .ok (.iload 5, 2) := by decide +kernel
theorem dX4_readCommand_118 : decode cX4_readCommand 118 = .ok (.invokestatic 143, 3) := by decide +kernel
theorem dX4_readCommand_121 : decode cX4_readCommand 121 = .ok (.ifCond .eq 19, 3) := by decide +kernel
theorem dX4_readCommand_124 : decode cX4_readCommand 124 = .ok (.aload_n 1, 1) := by decide +kernel
theorem dX4_readCommand_125 : decode cX4_readCommand 125 = .ok (.iload_n 3, 1) := by decide +kernel
theorem dX4_readCommand_126 : decode cX4_readCommand 126 = .ok (.iload 4, 2) := by decide +kernel
theorem dX4_readCommand_128 : decode cX4_readCommand 128 = .ok (.iload 5, 2) := by decide +kernel
theorem dX4_readCommand_130 : decode cX4_readCommand 130 = .ok (.invokestatic 147, 3) := by decide +kernel
theorem dX4_readCommand_133 : decode cX4_readCommand 133 = .ok (.ifCond .lt 7, 3) := by decide +kernel
theorem dX4_readCommand_136 : decode cX4_readCommand 136 = .ok (.iconst 1, 1) := by decide +kernel
theorem dX4_readCommand_137 : decode cX4_readCommand 137 = .ok (.goto 4, 3) := by decide +kernel
theorem dX4_readCommand_140 : decode cX4_readCommand 140 = .ok (.iconst 0, 1) := by decide +kernel
theorem dX4_readCommand_141 : decode cX4_readCommand 141 = .ok (.invokevirtual 151, 3) := by decide +kernel
theorem dX4_readCommand_144 : decode cX4_readCommand 144 = .ok (.ifCond .eq 7, 3) := by decide +kernel
theorem dX4_readCommand_147 : decode cX4_readCommand 147 = .ok (.iconst 1, 1) := by decide +kernel
theorem dX4_readCommand_148 : decode cX4_readCommand 148 = .ok (.goto 4, 3) := by decide +kernel
theorem dX4_readCommand_151 : decode cX4_readCommand 151 = .ok (.iconst 0, 1) := by decide +kernel
theorem dX4_readCommand_152 : decode cX4_readCommand 152 = .ok (.ireturn, 1) := by decide +kernel
theorem dX4_readCommand_153 : decode cX4_readCommand 153 = .ok (.aload_n 0, 1) := by decide +kernel
theorem dX4_readCommand_154 : decode cX4_readCommand 154 = .ok (.iconst 0, 1) := by decide +kernel
theorem dX4_readCommand_155 : decode cX4_readCommand 155 = .ok (.iconst 2, 1) := by decide +kernel
theorem dX4_readCommand_156 : decode cX4_readCommand 156 = .ok (.iconst 1, 1) := by decide +kernel
theorem dX4_readCommand_157 : decode cX4_readCommand 157 = .ok (.bipush 60, 2) := by decide +kernel
theorem dX4_readCommand_159 : decode cX4_readCommand 159 = .ok (.invokevirtual 139, 3) := by decide +kernel
theorem dX4_readCommand_162 : decode cX4_readCommand 162 = .ok (.istore_n 3, 1) := by decide +kernel
theorem dX4_readCommand_163 : decode cX4_readCommand 163 = .ok (.iload_n 3, 1) := by decide +kernel
theorem dX4_readCommand_164 : decode cX4_readCommand 164 = .ok (.iconst (-1), 1) := by decide +kernel
theorem dX4_readCommand_165 : decode cX4_readCommand 165 = .ok (.if_icmp .eq 27, 3) := by decide +kernel
theorem dX4_readCommand_168 : decode cX4_readCommand 168 = .ok (.aload_n 0, 1) := by decide +kernel
theorem dX4_readCommand_169 : decode cX4_readCommand 169 = .ok (.aload_n 1, 1) := by decide +kernel
theorem dX4_readCommand_170 : decode cX4_readCommand 170 = .ok (.iload_n 3, 1) := by decide +kernel
theorem dX4_readCommand_171 : decode cX4_readCommand 171 = .ok (.invokestatic 122, 3) := by decide +kernel
theorem dX4_readCommand_174 : decode cX4_readCommand 174 = .ok (.ifCond .lt 7, 3) := by decide +kernel
theorem dX4_readCommand_177 : decode cX4_readCommand 177 = .ok (.iconst 1, 1) := by decide +kernel
theorem dX4_readCommand_178 : decode cX4_readCommand 178 = .ok (.goto 4, 3) := by decide +kernel
theorem dX4_readCommand_181 : decode cX4_readCommand 181 = .ok (.iconst 0, 1) := by decide +kernel
theorem dX4_readCommand_182 : decode cX4_readCommand 182 = .ok (.invokevirtual 151, 3) := by decide +kernel
theorem dX4_readCommand_185 : decode cX4_readCommand 185 = .ok (.ifCond .eq 7, 3) := by decide +kernel
theorem dX4_readCommand_188 : decode cX4_readCommand 188 = .ok (.iconst 1, 1) := by decide +kernel
theorem dX4_readCommand_189 : decode cX4_readCommand 189 = .ok (.goto 4, 3) := by decide +kernel
theorem dX4_readCommand_192 : decode cX4_readCommand 192 = .ok (.iconst 0, 1) := by decide +kernel
theorem dX4_readCommand_193 : decode cX4_readCommand 193 = .ok (.ireturn, 1) := by decide +kernel
theorem dX4_readCommand_194 : decode cX4_readCommand 194 = .ok (.aload_n 0, 1) := by decide +kernel
theorem dX4_readCommand_195 : decode cX4_readCommand 195 = .ok (.iconst 0, 1) := by decide +kernel
theorem dX4_readCommand_196 : decode cX4_readCommand 196 = .ok (.iconst 2, 1) := by decide +kernel
theorem dX4_readCommand_197 : decode cX4_readCommand 197 = .ok (.iconst 0, 1) := by decide +kernel
theorem dX4_readCommand_198 : decode cX4_readCommand 198 = .ok (.bipush 35, 2) := by decide +kernel
theorem dX4_readCommand_200 : decode cX4_readCommand 200 = .ok (.invokevirtual 139, 3) := by decide +kernel
theorem dX4_readCommand_203 : decode cX4_readCommand 203 = .ok (.istore_n 3, 1) := by decide +kernel
theorem dX4_readCommand_204 : decode cX4_readCommand 204 = .ok (.iload_n 3, 1) := by decide +kernel
theorem dX4_readCommand_205 : decode cX4_readCommand 205 = .ok (.iconst (-1), 1) := by decide +kernel
theorem dX4_readCommand_206 : decode cX4_readCommand 206 = .ok (.if_icmp .eq 37, 3) := by decide +kernel
theorem dX4_readCommand_209 : decode cX4_readCommand 209 = .ok (.aload_n 0, 1) := by decide +kernel
theorem dX4_readCommand_210 : decode cX4_readCommand 210 = .ok (.aload_n 1, 1) := by decide +kernel
theorem dX4_readCommand_211 : decode cX4_readCommand 211 = .ok (.iload_n 3, 1) := by decide +kernel
theorem dX4_readCommand_212 : decode cX4_readCommand 212 = .ok (.iconst 1, 1) := by decide +kernel
theorem dX4_readCommand_213 : decode cX4_readCommand 213 = .ok (.invokestatic 155, 3) := by decide +kernel
theorem dX4_readCommand_216 : decode cX4_readCommand 216 = .ok (.ifCond .eq 16, 3) := by decide +kernel
theorem dX4_readCommand_219 : decode cX4_readCommand 219 = .ok (.aload_n 1, 1) := by decide +kernel
theorem dX4_readCommand_220 : decode cX4_readCommand 220 = .ok (.iload_n 3, 1) := by decide +kernel
theorem dX4_readCommand_221 : decode cX4_readCommand 221 = .ok (.iconst 1, 1) := by decide +kernel
theorem dX4_readCommand_222 : decode cX4_readCommand 222 = .ok (.invokestatic 159, 3) := by decide +kernel
theorem dX4_readCommand_225 : decode cX4_readCommand 225 = .ok (.ifCond .le 7, 3) := by decide +kernel
theorem dX4_readCommand_228 : decode cX4_readCommand 228 = .ok (.iconst 1, 1) := by decide +kernel
theorem dX4_readCommand_229 : decode cX4_readCommand 229 = .ok (.goto 4, 3) := by decide +kernel
theorem dX4_readCommand_232 : decode cX4_readCommand 232 = .ok (.iconst 0, 1) := by decide +kernel
theorem dX4_readCommand_233 : decode cX4_readCommand 233 = .ok (.invokevirtual 151, 3) := by decide +kernel
theorem dX4_readCommand_236 : decode cX4_readCommand 236 = .ok (.ifCond .eq 7, 3) := by decide +kernel
theorem dX4_readCommand_239 : decode cX4_readCommand 239 = .ok (.iconst 1, 1) := by decide +kernel
theorem dX4_readCommand_240 : decode cX4_readCommand 240 = .ok (.goto 4, 3) := by decide +kernel
theorem dX4_readCommand_243 : decode cX4_readCommand 243 = .ok (.iconst 0, 1) := by decide +kernel
theorem dX4_readCommand_244 : decode cX4_readCommand 244 = .ok (.ireturn, 1) := by decide +kernel
theorem dX4_readCommand_245 : decode cX4_readCommand 245 = .ok (.aload_n 0, 1) := by decide +kernel
theorem dX4_readCommand_246 : decode cX4_readCommand 246 = .ok (.iconst 0, 1) := by decide +kernel
theorem dX4_readCommand_247 : decode cX4_readCommand 247 = .ok (.iconst 1, 1) := by decide +kernel
theorem dX4_readCommand_248 : decode cX4_readCommand 248 = .ok (.iconst 0, 1) := by decide +kernel
theorem dX4_readCommand_249 : decode cX4_readCommand 249 = .ok (.iconst 2, 1) := by decide +kernel
theorem dX4_readCommand_250 : decode cX4_readCommand 250 = .ok (.invokevirtual 139, 3) := by decide +kernel
theorem dX4_readCommand_253 : decode cX4_readCommand 253 = .ok (.istore_n 3, 1) := by decide +kernel
theorem dX4_readCommand_254 : decode cX4_readCommand 254 = .ok (.iload_n 3, 1) := by decide +kernel
theorem dX4_readCommand_255 : decode cX4_readCommand 255 = .ok (.iconst (-1), 1) := by decide +kernel
theorem dX4_readCommand_256 : decode cX4_readCommand 256 = .ok (.if_icmp .eq 27, 3) := by decide +kernel
theorem dX4_readCommand_259 : decode cX4_readCommand 259 = .ok (.aload_n 0, 1) := by decide +kernel
theorem dX4_readCommand_260 : decode cX4_readCommand 260 = .ok (.aload_n 1, 1) := by decide +kernel
theorem dX4_readCommand_261 : decode cX4_readCommand 261 = .ok (.iload_n 3, 1) := by decide +kernel
theorem dX4_readCommand_262 : decode cX4_readCommand 262 = .ok (.invokestatic 163, 3) := by decide +kernel
theorem dX4_readCommand_265 : decode cX4_readCommand 265 = .ok (.ifCond .lt 7, 3) := by decide +kernel
theorem dX4_readCommand_268 : decode cX4_readCommand 268 = .ok (.iconst 1, 1) := by decide +kernel
theorem dX4_readCommand_269 : decode cX4_readCommand 269 = .ok (.goto 4, 3) := by decide +kernel
theorem dX4_readCommand_272 : decode cX4_readCommand 272 = .ok (.iconst 0, 1) := by decide +kernel
theorem dX4_readCommand_273 : decode cX4_readCommand 273 = .ok (.invokevirtual 151, 3) := by decide +kernel
theorem dX4_readCommand_276 : decode cX4_readCommand 276 = .ok (.ifCond .eq 7, 3) := by decide +kernel
theorem dX4_readCommand_279 : decode cX4_readCommand 279 = .ok (.iconst 1, 1) := by decide +kernel
theorem dX4_readCommand_280 : decode cX4_readCommand 280 = .ok (.goto 4, 3) := by decide +kernel
theorem dX4_readCommand_283 : decode cX4_readCommand 283 = .ok (.iconst 0, 1) := by decide +kernel
theorem dX4_readCommand_284 : decode cX4_readCommand 284 = .ok (.ireturn, 1) := by decide +kernel
theorem dX4_readCommand_285 : decode cX4_readCommand 285 = .ok (.aload_n 0, 1) := by decide +kernel
theorem dX4_readCommand_286 : decode cX4_readCommand 286 = .ok (.iconst 0, 1) := by decide +kernel
theorem dX4_readCommand_287 : decode cX4_readCommand 287 = .ok (.iconst 1, 1) := by decide +kernel
theorem dX4_readCommand_288 : decode cX4_readCommand 288 = .ok (.iconst 0, 1) := by decide +kernel
theorem dX4_readCommand_289 : decode cX4_readCommand 289 = .ok (.bipush 9, 2) := by decide +kernel
theorem dX4_readCommand_291 : decode cX4_readCommand 291 = .ok (.invokevirtual 139, 3) := by decide +kernel
theorem dX4_readCommand_294 : decode cX4_readCommand 294 = .ok (.istore_n 3, 1) := by decide +kernel
theorem dX4_readCommand_295 : decode cX4_readCommand 295 = .ok (.iload_n 3, 1) := by decide +kernel
theorem dX4_readCommand_296 : decode cX4_readCommand 296 = .ok (.iconst (-1), 1) := by decide +kernel
theorem dX4_readCommand_297 : decode cX4_readCommand 297 = .ok (.if_icmp .eq 35, 3) := by decide +kernel
theorem dX4_readCommand_300 : decode cX4_readCommand 300 = .ok (.aload_n 0, 1) := by decide +kernel
theorem dX4_readCommand_301 : decode cX4_readCommand 301 = .ok (.aload_n 1, 1) := by decide +kernel
theorem dX4_readCommand_302 : decode cX4_readCommand 302 = .ok (.iload_n 3, 1) := by decide +kernel
theorem dX4_readCommand_303 : decode cX4_readCommand 303 = .ok (.invokestatic 166, 3) := by decide +kernel
theorem dX4_readCommand_306 : decode cX4_readCommand 306 = .ok (.ifCond .eq 15, 3) := by decide +kernel
theorem dX4_readCommand_309 : decode cX4_readCommand 309 = .ok (.aload_n 1, 1) := by decide +kernel
theorem dX4_readCommand_310 : decode cX4_readCommand 310 = .ok (.iload_n 3, 1) := by decide +kernel
theorem dX4_readCommand_311 : decode cX4_readCommand 311 = .ok (.invokestatic 169, 3) := by decide +kernel
theorem dX4_readCommand_314 : decode cX4_readCommand 314 = .ok (.ifCond .lt 7, 3) := by decide +kernel
theorem dX4_readCommand_317 : decode cX4_readCommand 317 = .ok (.iconst 1, 1) := by decide +kernel
theorem dX4_readCommand_318 : decode cX4_readCommand 318 = .ok (.goto 4, 3) := by decide +kernel
theorem dX4_readCommand_321 : decode cX4_readCommand 321 = .ok (.iconst 0, 1) := by decide +kernel
theorem dX4_readCommand_322 : decode cX4_readCommand 322 = .ok (.invokevirtual 151, 3) := by decide +kernel
theorem dX4_readCommand_325 : decode cX4_readCommand 325 = .ok (.ifCond .eq 7, 3) := by decide +kernel
theorem dX4_readCommand_328 : decode cX4_readCommand 328 = .ok (.iconst 1, 1) := by decide +kernel
theorem dX4_readCommand_329 : decode cX4_readCommand 329 = .ok (.goto 4, 3) := by decide +kernel
theorem dX4_readCommand_332 : decode cX4_readCommand 332 = .ok (.iconst 0, 1) := by decide +kernel
theorem dX4_readCommand_333 : decode cX4_readCommand 333 = .ok (.ireturn, 1) := by decide +kernel
theorem dX4_readCommand_334 : decode cX4_readCommand 334 = .ok (.aload_n 0, 1) := by decide +kernel
theorem dX4_readCommand_335 : decode cX4_readCommand 335 = .ok (.dup, 1) := by decide +kernel
theorem dX4_readCommand_336 : decode cX4_readCommand 336 = .ok (.getfield 133, 3) := by decide +kernel
theorem dX4_readCommand_339 : decode cX4_readCommand 339 = .ok (.iconst 1, 1) := by decide +kernel
theorem dX4_readCommand_340 : decode cX4_readCommand 340 = .ok (.isub, 1) := by decide +kernel
theorem dX4_readCommand_341 : decode cX4_readCommand 341 = .ok (.putfield 133, 3) := by decide +kernel
theorem dX4_readCommand_344 : decode cX4_readCommand 344 = .ok (.iconst 0, 1) := by decide +kernel
theorem dX4_readCommand_345 : decode cX4_readCommand 345 = .ok (.ireturn, 1) := by decide +kernel
set_option maxRecDepth 20000 in
theorem ggX4_readText_X4_clear : GoodIn wsX4_readText wsX4_clear := goodIn_r _ [8] (by decide +kernel) (by decide +kernel)
set_option maxRecDepth 20000 in
theorem gX4_readText_X4_clear : GoodIn wsX4_readText (va_wsS RX4 32 yX4_clear wsX4_clear) := goodIn_app (goodIn_of _ (by decide +kernel)) ggX4_readText_X4_clear
set_option maxRecDepth 20000 in
theorem ggX4_readText_X4_readCommand : GoodIn wsX4_readText wsX4_readCommand := goodIn_r _ [12, 4, 2, 13, 14, 15, 7, 16, 3, 17, 18, 19, 20, 21, 22, 23, 24, 25, 26, 27, 28, 29, 30, 31, 32, 33, 34, 35, 36, 37, 38, 39, 40, 1, 41, 42, 43, 44, 45, 46, 47, 48, 49, 50, 51, 52, 53, 54, 55, 56, 57, 58, 59, 60, 61, 62, 63, 64, 65, 66, 67, 68, 69, 70, 71, 72, 73, 74, 75, 76, 77, 78, 79, 80, 81, 82, 83, 84, 85, 86, 87, 88, 89, 90, 91, 92, 93, 94, 95, 96, 97, 98, 99, 100, 101, 102, 103, 104, 105, 106, 107, 108, 109, 110, 111, 112, 113, 114, 115] (by decide +kernel) (by decide +kernel)
set_option maxRecDepth 20000 in
theorem gX4_readText_X4_readCommand : GoodIn wsX4_readText (wsV RX4 172 RX4 yX4_readCommand wsX4_readCommand) := goodIn_app (goodIn_of _ (by decide +kernel)) ggX4_readText_X4_readCommand
theorem dX4_readText_0 : decode cX4_readText 0 = .ok (.aload_n 1, 1) := by decide +kernel
theorem dX4_readText_1 : decode cX4_readText 1 = .ok (.invokestatic 32, 3) := by decide +kernel
theorem dX4_readText_4 : decode cX4_readText 4 = .ok (.aload_n 0, 1) := by decide +kernel
theorem dX4_readText_5 : decode cX4_readText 5 = .ok (.iconst 0, 1) := by decide +kernel
theorem dX4_readText_6 : decode cX4_readText 6 = .ok (.putfield 136, 3) := by decide +kernel
theorem dX4_readText_9 : decode cX4_readText 9 = .ok (.aload_n 0, 1) := by decide +kernel
theorem dX4_readText_10 : decode cX4_readText 10 = .ok (.iconst 0, 1) := by decide +kernel
theorem dX4_readText_11 : decode cX4_readText 11 = .ok (.putfield 133, 3) := by decide +kernel
theorem dX4_readText_14 : decode cX4_readText 14 = .ok (.aload_n 0, 1) := by decide +kernel
theorem dX4_readText_15 : decode cX4_readText 15 = .ok (.getfield 127, 3) := by decide +kernel
theorem dX4_readText_18 : decode cX4_readText 18 = .ok (.ifCond .eq 14, 3) := by decide +kernel
theorem dX4_readText_21 : decode cX4_readText 21 = .ok (.aload_n 0, 1) := by decide +kernel
theorem dX4_readText_22 : decode cX4_readText 22 = .ok (.getfield 7, 3) := by decide +kernel
theorem dX4_readText_25 : decode cX4_readText 25 = .ok (.iconst 0, 1) := by decide +kernel
theorem dX4_readText_26 : decode cX4_readText 26 = .ok (.iaload, 1) := by decide +kernel
theorem dX4_readText_27 : decode cX4_readText 27 = .ok (.bipush 76, 2) := by decide +kernel
theorem dX4_readText_29 : decode cX4_readText 29 = .ok (.if_icmp .eq 5, 3) := by decide +kernel
theorem dX4_readText_32 : decode cX4_readText 32 = .ok (.iconst 0, 1) := by decide +kernel
theorem dX4_readText_33 : decode cX4_readText 33 = .ok (.ireturn, 1) := by decide +kernel
theorem dX4_readText_34 : decode cX4_readText 34 = .ok (.aload_n 0, 1) := by decide +kernel
theorem dX4_readText_35 : decode cX4_readText 35 = .ok (.iconst 1, 1) := by decide +kernel
theorem dX4_readText_36 : decode cX4_readText 36 = .ok (.putfield 133, 3) := by decide +kernel
theorem dX4_readText_39 : decode cX4_readText 39 = .ok (.aload_n 0, 1) := by decide +kernel
theorem dX4_readText_40 : decode cX4_readText 40 = .ok (.getfield 133, 3) := by decide +kernel
theorem dX4_readText_43 : decode cX4_readText 43 = .ok (.aload_n 0, 1) := by decide +kernel
theorem dX4_readText_44 : decode cX4_readText 44 = .ok (.getfield 127, 3) := by decide +kernel
theorem dX4_readText_47 : decode cX4_readText 47 = .ok (.if_icmp .ge 16, 3) := by decide +kernel
theorem dX4_readText_50 : decode cX4_readText 50 = .ok (.aload_n 0, 1) := by decide +kernel
theorem dX4_readText_51 : decode cX4_readText 51 = .ok (.aload_n 1, 1) := by decide +kernel
theorem dX4_readText_52 : decode cX4_readText 52 = .ok (.invokevirtual 172, 3) := by decide +kernel
theorem dX4_readText_55 : decode cX4_readText 55 = .ok (.ifCond .ne (-16), 3) := by decide +kernel
theorem dX4_readText_58 : decode cX4_readText 58 = .ok (.aload_n 0, 1) := by decide +kernel
theorem dX4_readText_59 : decode cX4_readText 59 = .ok (.getfield 133, 3) := by decide +kernel
theorem dX4_readText_62 : decode cX4_readText 62 = .ok (.ireturn, 1) := by decide +kernel
theorem dX4_readText_63 : decode cX4_readText 63 = .ok (.iconst (-1), 1) := by decide +kernel
theorem dX4_readText_64 : decode cX4_readText 64 = .ok (.ireturn, 1) := by decide +kernel
set_option maxRecDepth 20000 in
theorem ggX4_errorPosition_X4_readText : GoodIn wsX4_errorPosition wsX4_readText := goodIn_r _ [7, 8, 9, 10, 11, 12, 13, 6, 14, 15, 16, 17, 18, 19, 20, 21, 22, 23, 24, 25, 26, 27, 28, 29, 30, 31, 32, 33, 34, 35, 36, 37, 38, 39, 40, 41, 42, 43, 44, 45, 46, 47, 48, 49, 50, 51, 52, 53, 54, 55, 56, 57, 58, 59, 60, 61, 62, 63, 64, 65, 66, 67, 68, 69, 70, 71, 72, 73, 74, 75, 76, 77, 78, 79, 80, 81, 82, 83, 84, 85, 86, 87, 88, 89, 90, 91, 92, 93, 94, 95, 96, 97, 98, 99, 100, 101, 102, 103, 104, 105, 106, 107, 108, 109, 110, 111, 112, 113, 114, 115, 116, 117, 118, 119, 120, 121] (by decide +kernel) (by decide +kernel)
set_option maxRecDepth 20000 in
theorem gX4_errorPosition_X4_readText : GoodIn wsX4_errorPosition (wsV RX4 175 RX4 yX4_readText wsX4_readText) := goodIn_app (goodIn_of _ (by decide +kernel)) ggX4_errorPosition_X4_readText
theorem dX4_errorPosition_0 : decode cX4_errorPosition 0 = .ok (.aload_n 0, 1) := by decide +kernel
theorem dX4_errorPosition_1 : decode cX4_errorPosition 1 = .ok (.iconst 0, 1) := by decide +kernel
theorem dX4_errorPosition_2 : decode cX4_errorPosition 2 = .ok (.putfield 36, 3) := by decide +kernel
theorem dX4_errorPosition_5 : decode cX4_errorPosition 5 = .ok (.aload_n 0, 1) := by decide +kernel
theorem dX4_errorPosition_6 : decode cX4_errorPosition 6 = .ok (.aload_n 0, 1) := by decide +kernel
theorem dX4_errorPosition_7 : decode cX4_errorPosition 7 = .ok (.getfield 16, 3) := by decide +kernel
theorem dX4_errorPosition_10 : decode cX4_errorPosition 10 = .ok (.invokevirtual 175, 3) := by decide +kernel
theorem dX4_errorPosition_13 : decode cX4_errorPosition 13 = .ok (.ireturn, 1) := by decide +kernel
set_option maxRecDepth 20000 in
theorem ggX4_load_X4_readText : GoodIn wsX4_load wsX4_readText := goodIn_r _ [10, 5, 11, 12, 13, 14, 15, 9, 16, 17, 18, 19, 20, 21, 22, 23, 24, 25, 26, 27, 28, 29, 30, 31, 32, 33, 34, 35, 36, 37, 38, 39, 40, 41, 42, 43, 44, 45, 46, 47, 48, 49, 50, 51, 52, 53, 54, 55, 56, 57, 58, 59, 60, 61, 62, 63, 64, 65, 66, 67, 68, 69, 70, 71, 72, 73, 74, 75, 76, 77, 78, 79, 80, 81, 82, 83, 84, 85, 86, 87, 88, 89, 90, 91, 92, 93, 94, 95, 96, 97, 98, 99, 100, 101, 102, 103, 104, 105, 106, 107, 108, 109, 110, 111, 120, 121, 122, 123, 124, 125, 126, 127, 128, 129, 130, 131] (by decide +kernel) (by decide +kernel)
set_option maxRecDepth 20000 in
theorem gX4_load_X4_readText : GoodIn wsX4_load (wsV RX4 175 RX4 yX4_readText wsX4_readText) := goodIn_app (goodIn_of _ (by decide +kernel)) ggX4_load_X4_readText
set_option maxRecDepth 20000 in
theorem ggX4_load_X4_refused : GoodIn wsX4_load wsX4_refused := goodIn_r _ [115, 116, 120, 121, 122, 123, 124, 125, 126, 127, 128, 129, 130, 131] (by decide +kernel) (by decide +kernel)
set_option maxRecDepth 20000 in
theorem gX4_load_X4_refused : GoodIn wsX4_load (wsV RX4 130 RX4 yX4_refused wsX4_refused) := goodIn_app (goodIn_of _ (by decide +kernel)) ggX4_load_X4_refused
set_option maxRecDepth 20000 in
theorem ggX4_load_X4_copyState : GoodIn wsX4_load wsX4_copyState := goodIn_r _ [119] (by decide +kernel) (by decide +kernel)
set_option maxRecDepth 20000 in
theorem gX4_load_X4_copyState : GoodIn wsX4_load (va_wsS RX4 178 yX4_copyState wsX4_copyState) := goodIn_app (goodIn_of _ (by decide +kernel)) ggX4_load_X4_copyState
theorem dX4_load_0 : decode cX4_load 0 = .ok (.aload_n 0, 1) := by decide +kernel
theorem dX4_load_1 : decode cX4_load 1 = .ok (.aload_n 0, 1) := by decide +kernel
theorem dX4_load_2 : decode cX4_load 2 = .ok (.aload_n 0, 1) := by decide +kernel
theorem dX4_load_3 : decode cX4_load 3 = .ok (.getfield 16, 3) := by decide +kernel
theorem dX4_load_6 : decode cX4_load 6 = .ok (.invokevirtual 175, 3) := by decide +kernel
theorem dX4_load_9 : decode cX4_load 9 = .ok (.iconst (-1), 1) := by decide +kernel
theorem dX4_load_10 : decode cX4_load 10 = .ok (.if_icmp .ne 7, 3) := by decide +kernel
theorem dX4_load_13 : decode cX4_load 13 = .ok (.iconst 0, 1) := by decide +kernel
theorem dX4_load_14 : decode cX4_load 14 = .ok (.goto 4, 3) := by decide +kernel
theorem dX4_load_17 : decode cX4_load 17 = .ok (.iconst 1, 1) := by decide +kernel
theorem dX4_load_18 : decode cX4_load 18 = .ok (.invokevirtual 130, 3) := by decide +kernel
theorem dX4_load_21 : decode cX4_load 21 = .ok (.ifCond .eq 5, 3) := by decide +kernel
theorem dX4_load_24 : decode cX4_load 24 = .ok (.iconst 0, 1) := by decide +kernel
theorem dX4_load_25 : decode cX4_load 25 = .ok (.ireturn, 1) := by decide +kernel
theorem dX4_load_26 : decode cX4_load 26 = .ok (.aload_n 0, 1) := by decide +kernel
theorem dX4_load_27 : decode cX4_load 27 = .ok (.getfield 16, 3) := by decide +kernel
theorem dX4_load_30 : decode cX4_load 30 = .ok (.iconst 0, 1) := by decide +kernel
theorem dX4_load_31 : decode cX4_load 31 = .ok (.aload_n 0, 1) := by decide +kernel
theorem dX4_load_32 : decode cX4_load 32 = .ok (.getfield 13, 3) := by decide +kernel
theorem dX4_load_35 : decode cX4_load 35 = .ok (.iconst 0, 1) := by decide +kernel
theorem dX4_load_36 : decode cX4_load 36 = .ok (.invokestatic 178, 3) := by decide +kernel
theorem dX4_load_39 : decode cX4_load 39 = .ok (.aload_n 0, 1) := by decide +kernel
theorem dX4_load_40 : decode cX4_load 40 = .ok (.iconst 0, 1) := by decide +kernel
theorem dX4_load_41 : decode cX4_load 41 = .ok (.putfield 182, 3) := by decide +kernel
theorem dX4_load_44 : decode cX4_load 44 = .ok (.aload_n 0, 1) := by decide +kernel
theorem dX4_load_45 : decode cX4_load 45 = .ok (.getfield 28, 3) := by decide +kernel
theorem dX4_load_48 : decode cX4_load 48 = .ok (.iconst 0, 1) := by decide +kernel
theorem dX4_load_49 : decode cX4_load 49 = .ok (.iconst 0, 1) := by decide +kernel
theorem dX4_load_50 : decode cX4_load 50 = .ok (.bastore, 1) := by decide +kernel
theorem dX4_load_51 : decode cX4_load 51 = .ok (.aload_n 0, 1) := by decide +kernel
theorem dX4_load_52 : decode cX4_load 52 = .ok (.getfield 28, 3) := by decide +kernel
theorem dX4_load_55 : decode cX4_load 55 = .ok (.iconst 1, 1) := by decide +kernel
theorem dX4_load_56 : decode cX4_load 56 = .ok (.iconst 0, 1) := by decide +kernel
theorem dX4_load_57 : decode cX4_load 57 = .ok (.bastore, 1) := by decide +kernel
theorem dX4_load_58 : decode cX4_load 58 = .ok (.aload_n 0, 1) := by decide +kernel
theorem dX4_load_59 : decode cX4_load 59 = .ok (.getfield 136, 3) := by decide +kernel
theorem dX4_load_62 : decode cX4_load 62 = .ok (.ireturn, 1) := by decide +kernel
set_option maxRecDepth 20000 in
theorem ggX4_about_X4_in : GoodIn wsX4_about wsX4_in := goodIn_r _ [6] (by decide +kernel) (by decide +kernel)
set_option maxRecDepth 20000 in
theorem gX4_about_X4_in : GoodIn wsX4_about (va_wsS RX4 42 yX4_in wsX4_in) := goodIn_app (goodIn_of _ (by decide +kernel)) ggX4_about_X4_in
set_option maxRecDepth 20000 in
theorem ggX4_about_X4_refused : GoodIn wsX4_about wsX4_refused := goodIn_r _ [10, 11, 24, 25, 26, 27, 28, 29, 30, 31, 32, 33, 34, 35] (by decide +kernel) (by decide +kernel)
set_option maxRecDepth 20000 in
theorem gX4_about_X4_refused : GoodIn wsX4_about (wsV RX4 130 RX4 yX4_refused wsX4_refused) := goodIn_app (goodIn_of _ (by decide +kernel)) ggX4_about_X4_refused
set_option maxRecDepth 20000 in
theorem ggX4_about_X4_of : GoodIn wsX4_about wsX4_of := goodIn_r _ [14] (by decide +kernel) (by decide +kernel)
set_option maxRecDepth 20000 in
theorem gX4_about_X4_of : GoodIn wsX4_about (va_wsS RX4 48 yX4_of wsX4_of) := goodIn_app (goodIn_of _ (by decide +kernel)) ggX4_about_X4_of
set_option maxRecDepth 20000 in
theorem ggX4_about_X4_shutOnes : GoodIn wsX4_about wsX4_shutOnes := goodIn_r _ [17] (by decide +kernel) (by decide +kernel)
set_option maxRecDepth 20000 in
theorem gX4_about_X4_shutOnes : GoodIn wsX4_about (va_wsS RX4 105 yX4_shutOnes wsX4_shutOnes) := goodIn_app (goodIn_of _ (by decide +kernel)) ggX4_about_X4_shutOnes
set_option maxRecDepth 20000 in
theorem ggX4_about_X4_count : GoodIn wsX4_about wsX4_count := goodIn_r _ [20, 21, 22, 5, 23, 12, 13, 14] (by decide +kernel) (by decide +kernel)
set_option maxRecDepth 20000 in
theorem gX4_about_X4_count : GoodIn wsX4_about (va_wsS RX4 92 yX4_count wsX4_count) := goodIn_app (goodIn_of _ (by decide +kernel)) ggX4_about_X4_count
theorem dX4_about_0 : decode cX4_about 0 = .ok (.aload_n 0, 1) := by decide +kernel
theorem dX4_about_1 : decode cX4_about 1 = .ok (.iload_n 1, 1) := by decide +kernel
theorem dX4_about_2 : decode cX4_about 2 = .ok (.i2l, 1) := by decide +kernel
theorem dX4_about_3 : decode cX4_about 3 = .ok (.lconst 0, 1) := by decide +kernel
theorem dX4_about_4 : decode cX4_about 4 = .ok (.ldc2_w 46, 3) := by decide +kernel
theorem dX4_about_7 : decode cX4_about 7 = .ok (.invokestatic 42, 3) := by decide +kernel
theorem dX4_about_10 : decode cX4_about 10 = .ok (.ifCond .eq 7, 3) := by decide +kernel
theorem dX4_about_13 : decode cX4_about 13 = .ok (.iconst 0, 1) := by decide +kernel
theorem dX4_about_14 : decode cX4_about 14 = .ok (.goto 4, 3) := by decide +kernel
theorem dX4_about_17 : decode cX4_about 17 = .ok (.iconst 1, 1) := by decide +kernel
theorem dX4_about_18 : decode cX4_about 18 = .ok (.invokevirtual 130, 3) := by decide +kernel
theorem dX4_about_21 : decode cX4_about 21 = .ok (.ifCond .eq 5, 3) := by decide +kernel
theorem dX4_about_24 : decode cX4_about 24 = .ok (.iconst 0, 1) := by decide +kernel
theorem dX4_about_25 : decode cX4_about 25 = .ok (.ireturn, 1) := by decide +kernel
theorem dX4_about_26 : decode cX4_about 26 = .ok (.iconst 0, 1) := by decide +kernel
theorem dX4_about_27 : decode cX4_about 27 = .ok (.istore_n 2, 1) := by decide +kernel
theorem dX4_about_28 : decode cX4_about 28 = .ok (.iconst 0, 1) := by decide +kernel
theorem dX4_about_29 : decode cX4_about 29 = .ok (.istore_n 3, 1) := by decide +kernel
theorem dX4_about_30 : decode cX4_about 30 = .ok (.iload_n 3, 1) := by decide +kernel
theorem dX4_about_31 : decode cX4_about 31 = .ok (.aload_n 0, 1) := by decide +kernel
theorem dX4_about_32 : decode cX4_about 32 = .ok (.getfield 13, 3) := by decide +kernel
theorem dX4_about_35 : decode cX4_about 35 = .ok (.iconst 0, 1) := by decide +kernel
theorem dX4_about_36 : decode cX4_about 36 = .ok (.iaload, 1) := by decide +kernel
theorem dX4_about_37 : decode cX4_about 37 = .ok (.if_icmp .ge 21, 3) := by decide +kernel
theorem dX4_about_40 : decode cX4_about 40 = .ok (.iload_n 2, 1) := by decide +kernel
theorem dX4_about_41 : decode cX4_about 41 = .ok (.aload_n 0, 1) := by decide +kernel
theorem dX4_about_42 : decode cX4_about 42 = .ok (.getfield 13, 3) := by decide +kernel
theorem dX4_about_45 : decode cX4_about 45 = .ok (.iload_n 3, 1) := by decide +kernel
theorem dX4_about_46 : decode cX4_about 46 = .ok (.iconst 1, 1) := by decide +kernel
theorem dX4_about_47 : decode cX4_about 47 = .ok (.invokestatic 48, 3) := by decide +kernel
theorem dX4_about_50 : decode cX4_about 50 = .ok (.iadd, 1) := by decide +kernel
theorem dX4_about_51 : decode cX4_about 51 = .ok (.istore_n 2, 1) := by decide +kernel
theorem dX4_about_52 : decode cX4_about 52 = .ok (.iinc 3 1, 3) := by decide +kernel
theorem dX4_about_55 : decode cX4_about 55 = .ok (.goto (-25), 3) := by decide +kernel
theorem dX4_about_58 : decode cX4_about 58 = .ok (.iload_n 1, 1) := by decide +kernel
theorem dX4_about_59 : decode cX4_about 59 = .ok (.tableswitch 91 0 9 #[53, 91, 91, 91, 91, 60, 67, 69, 77, 84], 53) := by decide +kernel
theorem dX4_about_112 : decode cX4_about 112 = .ok (.aload_n 0, 1) := by decide +kernel
theorem dX4_about_113 : decode cX4_about 113 = .ok (.getfield 13, 3) := by decide +kernel
theorem dX4_about_116 : decode cX4_about 116 = .ok (.iconst 0, 1) := by decide +kernel
theorem dX4_about_117 : decode cX4_about 117 = .ok (.iaload, 1) := by decide +kernel
theorem dX4_about_118 : decode cX4_about 118 = .ok (.ireturn, 1) := by decide +kernel
theorem dX4_about_119 : decode cX4_about 119 = .ok (.aload_n 0, 1) := by decide +kernel
theorem dX4_about_120 : decode cX4_about 120 = .ok (.getfield 13, 3) := by decide +kernel
theorem dX4_about_123 : decode cX4_about 123 = .ok (.iconst 1, 1) := by decide +kernel
theorem dX4_about_124 : decode cX4_about 124 = .ok (.iaload, 1) := by decide +kernel
theorem dX4_about_125 : decode cX4_about 125 = .ok (.ireturn, 1) := by decide +kernel
theorem dX4_about_126 : decode cX4_about 126 = .ok (.iload_n 2, 1) := by decide +kernel
theorem dX4_about_127 : decode cX4_about 127 = .ok (.ireturn, 1) := by decide +kernel
theorem dX4_about_128 : decode cX4_about 128 = .ok (.aload_n 0, 1) := by decide +kernel
theorem dX4_about_129 : decode cX4_about 129 = .ok (.getfield 13, 3) := by decide +kernel
theorem dX4_about_132 : decode cX4_about 132 = .ok (.invokestatic 105, 3) := by decide +kernel
theorem dX4_about_135 : decode cX4_about 135 = .ok (.ireturn, 1) := by decide +kernel
theorem dX4_about_136 : decode cX4_about 136 = .ok (.aload_n 0, 1) := by decide +kernel
theorem dX4_about_137 : decode cX4_about 137 = .ok (.getfield 13, 3) := by decide +kernel
theorem dX4_about_140 : decode cX4_about 140 = .ok (.iconst 2, 1) := by decide +kernel
theorem dX4_about_141 : decode cX4_about 141 = .ok (.iaload, 1) := by decide +kernel
theorem dX4_about_142 : decode cX4_about 142 = .ok (.ireturn, 1) := by decide +kernel
theorem dX4_about_143 : decode cX4_about 143 = .ok (.aload_n 0, 1) := by decide +kernel
theorem dX4_about_144 : decode cX4_about 144 = .ok (.getfield 13, 3) := by decide +kernel
theorem dX4_about_147 : decode cX4_about 147 = .ok (.iconst 3, 1) := by decide +kernel
theorem dX4_about_148 : decode cX4_about 148 = .ok (.iaload, 1) := by decide +kernel
theorem dX4_about_149 : decode cX4_about 149 = .ok (.ireturn, 1) := by decide +kernel
theorem dX4_about_150 : decode cX4_about 150 = .ok (.aload_n 0, 1) := by decide +kernel
theorem dX4_about_151 : decode cX4_about 151 = .ok (.getfield 13, 3) := by decide +kernel
theorem dX4_about_154 : decode cX4_about 154 = .ok (.iload_n 1, 1) := by decide +kernel
theorem dX4_about_155 : decode cX4_about 155 = .ok (.iconst 1, 1) := by decide +kernel
theorem dX4_about_156 : decode cX4_about 156 = .ok (.isub, 1) := by decide +kernel
theorem dX4_about_157 : decode cX4_about 157 = .ok (.invokestatic 92, 3) := by decide +kernel
theorem dX4_about_160 : decode cX4_about 160 = .ok (.ireturn, 1) := by decide +kernel
set_option maxRecDepth 20000 in
theorem ggX4_caterpillar_X4_isOne : GoodIn wsX4_caterpillar wsX4_isOne := goodIn_r _ [6, 7, 8, 5, 9] (by decide +kernel) (by decide +kernel)
set_option maxRecDepth 20000 in
theorem gX4_caterpillar_X4_isOne : GoodIn wsX4_caterpillar (va_wsS RX4 109 yX4_isOne wsX4_isOne) := goodIn_app (goodIn_of _ (by decide +kernel)) ggX4_caterpillar_X4_isOne
set_option maxRecDepth 20000 in
theorem ggX4_caterpillar_X4_in : GoodIn wsX4_caterpillar wsX4_in := goodIn_r _ [9] (by decide +kernel) (by decide +kernel)
set_option maxRecDepth 20000 in
theorem gX4_caterpillar_X4_in : GoodIn wsX4_caterpillar (va_wsS RX4 42 yX4_in wsX4_in) := goodIn_app (goodIn_of _ (by decide +kernel)) ggX4_caterpillar_X4_in
set_option maxRecDepth 20000 in
theorem ggX4_caterpillar_X4_refused : GoodIn wsX4_caterpillar wsX4_refused := goodIn_r _ [13, 14, 18, 19, 20, 21, 22, 23, 24, 25, 26, 27, 28, 29] (by decide +kernel) (by decide +kernel)
set_option maxRecDepth 20000 in
theorem gX4_caterpillar_X4_refused : GoodIn wsX4_caterpillar (wsV RX4 130 RX4 yX4_refused wsX4_refused) := goodIn_app (goodIn_of _ (by decide +kernel)) ggX4_caterpillar_X4_refused
set_option maxRecDepth 20000 in
theorem ggX4_caterpillar_X4_of : GoodIn wsX4_caterpillar wsX4_of := goodIn_r _ [17] (by decide +kernel) (by decide +kernel)
set_option maxRecDepth 20000 in
theorem gX4_caterpillar_X4_of : GoodIn wsX4_caterpillar (va_wsS RX4 48 yX4_of wsX4_of) := goodIn_app (goodIn_of _ (by decide +kernel)) ggX4_caterpillar_X4_of
theorem dX4_caterpillar_0 : decode cX4_caterpillar 0 = .ok (.aload_n 0, 1) := by decide +kernel
theorem dX4_caterpillar_1 : decode cX4_caterpillar 1 = .ok (.aload_n 0, 1) := by decide +kernel
theorem dX4_caterpillar_2 : decode cX4_caterpillar 2 = .ok (.getfield 13, 3) := by decide +kernel
theorem dX4_caterpillar_5 : decode cX4_caterpillar 5 = .ok (.iload_n 1, 1) := by decide +kernel
theorem dX4_caterpillar_6 : decode cX4_caterpillar 6 = .ok (.invokestatic 109, 3) := by decide +kernel
theorem dX4_caterpillar_9 : decode cX4_caterpillar 9 = .ok (.ifCond .ne 7, 3) := by decide +kernel
theorem dX4_caterpillar_12 : decode cX4_caterpillar 12 = .ok (.iconst 1, 1) := by decide +kernel
theorem dX4_caterpillar_13 : decode cX4_caterpillar 13 = .ok (.goto 20, 3) := by decide +kernel
theorem dX4_caterpillar_16 : decode cX4_caterpillar 16 = .ok (.iload_n 2, 1) := by decide +kernel
theorem dX4_caterpillar_17 : decode cX4_caterpillar 17 = .ok (.i2l, 1) := by decide +kernel
theorem dX4_caterpillar_18 : decode cX4_caterpillar 18 = .ok (.lconst 0, 1) := by decide +kernel
theorem dX4_caterpillar_19 : decode cX4_caterpillar 19 = .ok (.ldc2_w 184, 3) := by decide +kernel
theorem dX4_caterpillar_22 : decode cX4_caterpillar 22 = .ok (.invokestatic 42, 3) := by decide +kernel
theorem dX4_caterpillar_25 : decode cX4_caterpillar 25 = .ok (.ifCond .eq 7, 3) := by decide +kernel
theorem dX4_caterpillar_28 : decode cX4_caterpillar 28 = .ok (.iconst 0, 1) := by decide +kernel
theorem dX4_caterpillar_29 : decode cX4_caterpillar 29 = .ok (.goto 4, 3) := by decide +kernel
theorem dX4_caterpillar_32 : decode cX4_caterpillar 32 = .ok (.iconst 2, 1) := by decide +kernel
theorem dX4_caterpillar_33 : decode cX4_caterpillar 33 = .ok (.invokevirtual 130, 3) := by decide +kernel
theorem dX4_caterpillar_36 : decode cX4_caterpillar 36 = .ok (.ifCond .eq 5, 3) := by decide +kernel
theorem dX4_caterpillar_39 : decode cX4_caterpillar 39 = .ok (.iconst 0, 1) := by decide +kernel
theorem dX4_caterpillar_40 : decode cX4_caterpillar 40 = .ok (.ireturn, 1) := by decide +kernel
theorem dX4_caterpillar_41 : decode cX4_caterpillar 41 = .ok (.aload_n 0, 1) := by decide +kernel
theorem dX4_caterpillar_42 : decode cX4_caterpillar 42 = .ok (.getfield 13, 3) := by decide +kernel
theorem dX4_caterpillar_45 : decode cX4_caterpillar 45 = .ok (.iload_n 1, 1) := by decide +kernel
theorem dX4_caterpillar_46 : decode cX4_caterpillar 46 = .ok (.iload_n 2, 1) := by decide +kernel
theorem dX4_caterpillar_47 : decode cX4_caterpillar 47 = .ok (.invokestatic 48, 3) := by decide +kernel
theorem dX4_caterpillar_50 : decode cX4_caterpillar 50 = .ok (.ireturn, 1) := by decide +kernel
set_option maxRecDepth 20000 in
theorem ggX4_lies_X4_isOne : GoodIn wsX4_lies wsX4_isOne := goodIn_r _ [5, 6, 7, 4, 8] (by decide +kernel) (by decide +kernel)
set_option maxRecDepth 20000 in
theorem gX4_lies_X4_isOne : GoodIn wsX4_lies (va_wsS RX4 109 yX4_isOne wsX4_isOne) := goodIn_app (goodIn_of _ (by decide +kernel)) ggX4_lies_X4_isOne
set_option maxRecDepth 20000 in
theorem ggX4_lies_X4_of : GoodIn wsX4_lies wsX4_of := goodIn_r _ [11] (by decide +kernel) (by decide +kernel)
set_option maxRecDepth 20000 in
theorem gX4_lies_X4_of : GoodIn wsX4_lies (va_wsS RX4 48 yX4_of wsX4_of) := goodIn_app (goodIn_of _ (by decide +kernel)) ggX4_lies_X4_of
set_option maxRecDepth 20000 in
theorem ggX4_lies_X4_in : GoodIn wsX4_lies wsX4_in := goodIn_r _ [8] (by decide +kernel) (by decide +kernel)
set_option maxRecDepth 20000 in
theorem gX4_lies_X4_in : GoodIn wsX4_lies (va_wsS RX4 42 yX4_in wsX4_in) := goodIn_app (goodIn_of _ (by decide +kernel)) ggX4_lies_X4_in
set_option maxRecDepth 20000 in
theorem ggX4_lies_X4_refused : GoodIn wsX4_lies wsX4_refused := goodIn_r _ [15, 16, 17, 18, 19, 20, 21, 22, 23, 24, 25, 26, 27, 28] (by decide +kernel) (by decide +kernel)
set_option maxRecDepth 20000 in
theorem gX4_lies_X4_refused : GoodIn wsX4_lies (wsV RX4 130 RX4 yX4_refused wsX4_refused) := goodIn_app (goodIn_of _ (by decide +kernel)) ggX4_lies_X4_refused
theorem dX4_lies_0 : decode cX4_lies 0 = .ok (.aload_n 0, 1) := by decide +kernel
theorem dX4_lies_1 : decode cX4_lies 1 = .ok (.aload_n 0, 1) := by decide +kernel
theorem dX4_lies_2 : decode cX4_lies 2 = .ok (.getfield 13, 3) := by decide +kernel
theorem dX4_lies_5 : decode cX4_lies 5 = .ok (.iload_n 1, 1) := by decide +kernel
theorem dX4_lies_6 : decode cX4_lies 6 = .ok (.invokestatic 109, 3) := by decide +kernel
theorem dX4_lies_9 : decode cX4_lies 9 = .ok (.ifCond .eq 28, 3) := by decide +kernel
theorem dX4_lies_12 : decode cX4_lies 12 = .ok (.iload_n 2, 1) := by decide +kernel
theorem dX4_lies_13 : decode cX4_lies 13 = .ok (.i2l, 1) := by decide +kernel
theorem dX4_lies_14 : decode cX4_lies 14 = .ok (.lconst 0, 1) := by decide +kernel
theorem dX4_lies_15 : decode cX4_lies 15 = .ok (.aload_n 0, 1) := by decide +kernel
theorem dX4_lies_16 : decode cX4_lies 16 = .ok (.getfield 13, 3) := by decide +kernel
theorem dX4_lies_19 : decode cX4_lies 19 = .ok (.iload_n 1, 1) := by decide +kernel
theorem dX4_lies_20 : decode cX4_lies 20 = .ok (.iconst 1, 1) := by decide +kernel
theorem dX4_lies_21 : decode cX4_lies 21 = .ok (.invokestatic 48, 3) := by decide +kernel
theorem dX4_lies_24 : decode cX4_lies 24 = .ok (.iconst 1, 1) := by decide +kernel
theorem dX4_lies_25 : decode cX4_lies 25 = .ok (.isub, 1) := by decide +kernel
theorem dX4_lies_26 : decode cX4_lies 26 = .ok (.i2l, 1) := by decide +kernel
theorem dX4_lies_27 : decode cX4_lies 27 = .ok (.invokestatic 42, 3) := by decide +kernel
theorem dX4_lies_30 : decode cX4_lies 30 = .ok (.ifCond .eq 7, 3) := by decide +kernel
theorem dX4_lies_33 : decode cX4_lies 33 = .ok (.iconst 0, 1) := by decide +kernel
theorem dX4_lies_34 : decode cX4_lies 34 = .ok (.goto 4, 3) := by decide +kernel
theorem dX4_lies_37 : decode cX4_lies 37 = .ok (.iconst 1, 1) := by decide +kernel
theorem dX4_lies_38 : decode cX4_lies 38 = .ok (.invokevirtual 130, 3) := by decide +kernel
theorem dX4_lies_41 : decode cX4_lies 41 = .ok (.ifCond .eq 5, 3) := by decide +kernel
theorem dX4_lies_44 : decode cX4_lies 44 = .ok (.iconst 0, 1) := by decide +kernel
theorem dX4_lies_45 : decode cX4_lies 45 = .ok (.ireturn, 1) := by decide +kernel
theorem dX4_lies_46 : decode cX4_lies 46 = .ok (.aload_n 0, 1) := by decide +kernel
theorem dX4_lies_47 : decode cX4_lies 47 = .ok (.getfield 13, 3) := by decide +kernel
theorem dX4_lies_50 : decode cX4_lies 50 = .ok (.iload_n 1, 1) := by decide +kernel
theorem dX4_lies_51 : decode cX4_lies 51 = .ok (.bipush 9, 2) := by decide +kernel
theorem dX4_lies_53 : decode cX4_lies 53 = .ok (.iload_n 2, 1) := by decide +kernel
theorem dX4_lies_54 : decode cX4_lies 54 = .ok (.iadd, 1) := by decide +kernel
theorem dX4_lies_55 : decode cX4_lies 55 = .ok (.invokestatic 48, 3) := by decide +kernel
theorem dX4_lies_58 : decode cX4_lies 58 = .ok (.ireturn, 1) := by decide +kernel
set_option maxRecDepth 20000 in
theorem ggX4_room_X4_isRoom : GoodIn wsX4_room wsX4_isRoom := goodIn_r _ [5, 6, 7, 8, 4, 9] (by decide +kernel) (by decide +kernel)
set_option maxRecDepth 20000 in
theorem gX4_room_X4_isRoom : GoodIn wsX4_room (va_wsS RX4 98 yX4_isRoom wsX4_isRoom) := goodIn_app (goodIn_of _ (by decide +kernel)) ggX4_room_X4_isRoom
set_option maxRecDepth 20000 in
theorem ggX4_room_X4_in : GoodIn wsX4_room wsX4_in := goodIn_r _ [9] (by decide +kernel) (by decide +kernel)
set_option maxRecDepth 20000 in
theorem gX4_room_X4_in : GoodIn wsX4_room (va_wsS RX4 42 yX4_in wsX4_in) := goodIn_app (goodIn_of _ (by decide +kernel)) ggX4_room_X4_in
set_option maxRecDepth 20000 in
theorem ggX4_room_X4_refused : GoodIn wsX4_room wsX4_refused := goodIn_r _ [13, 14, 21, 22, 23, 24, 25, 26, 27, 28, 29, 30, 31, 32] (by decide +kernel) (by decide +kernel)
set_option maxRecDepth 20000 in
theorem gX4_room_X4_refused : GoodIn wsX4_room (wsV RX4 130 RX4 yX4_refused wsX4_refused) := goodIn_app (goodIn_of _ (by decide +kernel)) ggX4_room_X4_refused
set_option maxRecDepth 20000 in
theorem ggX4_room_X4_takenBy : GoodIn wsX4_room wsX4_takenBy := goodIn_r _ [17, 18, 19, 4, 20] (by decide +kernel) (by decide +kernel)
set_option maxRecDepth 20000 in
theorem gX4_room_X4_takenBy : GoodIn wsX4_room (va_wsS RX4 56 yX4_takenBy wsX4_takenBy) := goodIn_app (goodIn_of _ (by decide +kernel)) ggX4_room_X4_takenBy
theorem dX4_room_0 : decode cX4_room 0 = .ok (.aload_n 0, 1) := by decide +kernel
theorem dX4_room_1 : decode cX4_room 1 = .ok (.iload_n 1, 1) := by decide +kernel
theorem dX4_room_2 : decode cX4_room 2 = .ok (.invokestatic 98, 3) := by decide +kernel
theorem dX4_room_5 : decode cX4_room 5 = .ok (.ifCond .ne 7, 3) := by decide +kernel
theorem dX4_room_8 : decode cX4_room 8 = .ok (.iconst 1, 1) := by decide +kernel
theorem dX4_room_9 : decode cX4_room 9 = .ok (.goto 18, 3) := by decide +kernel
theorem dX4_room_12 : decode cX4_room 12 = .ok (.iload_n 2, 1) := by decide +kernel
theorem dX4_room_13 : decode cX4_room 13 = .ok (.i2l, 1) := by decide +kernel
theorem dX4_room_14 : decode cX4_room 14 = .ok (.lconst 0, 1) := by decide +kernel
theorem dX4_room_15 : decode cX4_room 15 = .ok (.lconst 1, 1) := by decide +kernel
theorem dX4_room_16 : decode cX4_room 16 = .ok (.invokestatic 42, 3) := by decide +kernel
theorem dX4_room_19 : decode cX4_room 19 = .ok (.ifCond .eq 7, 3) := by decide +kernel
theorem dX4_room_22 : decode cX4_room 22 = .ok (.iconst 0, 1) := by decide +kernel
theorem dX4_room_23 : decode cX4_room 23 = .ok (.goto 4, 3) := by decide +kernel
theorem dX4_room_26 : decode cX4_room 26 = .ok (.iconst 2, 1) := by decide +kernel
theorem dX4_room_27 : decode cX4_room 27 = .ok (.invokevirtual 130, 3) := by decide +kernel
theorem dX4_room_30 : decode cX4_room 30 = .ok (.ifCond .eq 5, 3) := by decide +kernel
theorem dX4_room_33 : decode cX4_room 33 = .ok (.iconst 0, 1) := by decide +kernel
theorem dX4_room_34 : decode cX4_room 34 = .ok (.ireturn, 1) := by decide +kernel
theorem dX4_room_35 : decode cX4_room 35 = .ok (.iload_n 2, 1) := by decide +kernel
theorem dX4_room_36 : decode cX4_room 36 = .ok (.ifCond .ne 14, 3) := by decide +kernel
theorem dX4_room_39 : decode cX4_room 39 = .ok (.aload_n 0, 1) := by decide +kernel
theorem dX4_room_40 : decode cX4_room 40 = .ok (.getfield 13, 3) := by decide +kernel
theorem dX4_room_43 : decode cX4_room 43 = .ok (.iload_n 1, 1) := by decide +kernel
theorem dX4_room_44 : decode cX4_room 44 = .ok (.invokestatic 56, 3) := by decide +kernel
theorem dX4_room_47 : decode cX4_room 47 = .ok (.goto 11, 3) := by decide +kernel
theorem dX4_room_50 : decode cX4_room 50 = .ok (.aload_n 0, 1) := by decide +kernel
theorem dX4_room_51 : decode cX4_room 51 = .ok (.getfield 13, 3) := by decide +kernel
theorem dX4_room_54 : decode cX4_room 54 = .ok (.iconst 4, 1) := by decide +kernel
theorem dX4_room_55 : decode cX4_room 55 = .ok (.iload_n 1, 1) := by decide +kernel
theorem dX4_room_56 : decode cX4_room 56 = .ok (.iadd, 1) := by decide +kernel
theorem dX4_room_57 : decode cX4_room 57 = .ok (.iaload, 1) := by decide +kernel
theorem dX4_room_58 : decode cX4_room 58 = .ok (.ireturn, 1) := by decide +kernel
set_option maxRecDepth 20000 in
theorem ggX4_next_X4_isOne : GoodIn wsX4_next wsX4_isOne := goodIn_r _ [5, 6, 7, 4, 8] (by decide +kernel) (by decide +kernel)
set_option maxRecDepth 20000 in
theorem gX4_next_X4_isOne : GoodIn wsX4_next (va_wsS RX4 109 yX4_isOne wsX4_isOne) := goodIn_app (goodIn_of _ (by decide +kernel)) ggX4_next_X4_isOne
set_option maxRecDepth 20000 in
theorem ggX4_next_X4_refused : GoodIn wsX4_next wsX4_refused := goodIn_r _ [12, 13, 38, 39, 40, 41, 42, 43, 44, 45, 46, 47, 48, 49] (by decide +kernel) (by decide +kernel)
set_option maxRecDepth 20000 in
theorem gX4_next_X4_refused : GoodIn wsX4_next (wsV RX4 130 RX4 yX4_refused wsX4_refused) := goodIn_app (goodIn_of _ (by decide +kernel)) ggX4_next_X4_refused
set_option maxRecDepth 20000 in
theorem ggX4_next_X4_wants : GoodIn wsX4_next wsX4_wants := goodIn_r _ [16, 17, 18, 4, 19, 20, 21, 22, 23, 24, 25, 26, 27, 28, 29, 30, 31, 32, 33, 34, 35, 36, 37] (by decide +kernel) (by decide +kernel)
set_option maxRecDepth 20000 in
theorem gX4_next_X4_wants : GoodIn wsX4_next (va_wsS RX4 74 yX4_wants wsX4_wants) := goodIn_app (goodIn_of _ (by decide +kernel)) ggX4_next_X4_wants
theorem dX4_next_0 : decode cX4_next 0 = .ok (.aload_n 0, 1) := by decide +kernel
theorem dX4_next_1 : decode cX4_next 1 = .ok (.aload_n 0, 1) := by decide +kernel
theorem dX4_next_2 : decode cX4_next 2 = .ok (.getfield 13, 3) := by decide +kernel
theorem dX4_next_5 : decode cX4_next 5 = .ok (.iload_n 1, 1) := by decide +kernel
theorem dX4_next_6 : decode cX4_next 6 = .ok (.invokestatic 109, 3) := by decide +kernel
theorem dX4_next_9 : decode cX4_next 9 = .ok (.ifCond .eq 7, 3) := by decide +kernel
theorem dX4_next_12 : decode cX4_next 12 = .ok (.iconst 0, 1) := by decide +kernel
theorem dX4_next_13 : decode cX4_next 13 = .ok (.goto 4, 3) := by decide +kernel
theorem dX4_next_16 : decode cX4_next 16 = .ok (.iconst 1, 1) := by decide +kernel
theorem dX4_next_17 : decode cX4_next 17 = .ok (.invokevirtual 130, 3) := by decide +kernel
theorem dX4_next_20 : decode cX4_next 20 = .ok (.ifCond .eq 5, 3) := by decide +kernel
theorem dX4_next_23 : decode cX4_next 23 = .ok (.iconst 0, 1) := by decide +kernel
theorem dX4_next_24 : decode cX4_next 24 = .ok (.ireturn, 1) := by decide +kernel
theorem dX4_next_25 : decode cX4_next 25 = .ok (.aload_n 0, 1) := by decide +kernel
theorem dX4_next_26 : decode cX4_next 26 = .ok (.getfield 13, 3) := by decide +kernel
theorem dX4_next_29 : decode cX4_next 29 = .ok (.iload_n 1, 1) := by decide +kernel
theorem dX4_next_30 : decode cX4_next 30 = .ok (.invokestatic 74, 3) := by decide +kernel
theorem dX4_next_33 : decode cX4_next 33 = .ok (.ireturn, 1) := by decide +kernel
set_option maxRecDepth 20000 in
theorem ggX4_waitsFor_X4_isOne : GoodIn wsX4_waitsFor wsX4_isOne := goodIn_r _ [5, 6, 7, 4, 8] (by decide +kernel) (by decide +kernel)
set_option maxRecDepth 20000 in
theorem gX4_waitsFor_X4_isOne : GoodIn wsX4_waitsFor (va_wsS RX4 109 yX4_isOne wsX4_isOne) := goodIn_app (goodIn_of _ (by decide +kernel)) ggX4_waitsFor_X4_isOne
set_option maxRecDepth 20000 in
theorem ggX4_waitsFor_X4_refused : GoodIn wsX4_waitsFor wsX4_refused := goodIn_r _ [12, 13, 41, 42, 43, 44, 45, 46, 47, 48, 49, 50, 51, 52] (by decide +kernel) (by decide +kernel)
set_option maxRecDepth 20000 in
theorem gX4_waitsFor_X4_refused : GoodIn wsX4_waitsFor (wsV RX4 130 RX4 yX4_refused wsX4_refused) := goodIn_app (goodIn_of _ (by decide +kernel)) ggX4_waitsFor_X4_refused
set_option maxRecDepth 20000 in
theorem ggX4_waitsFor_X4_blockedBy : GoodIn wsX4_waitsFor wsX4_blockedBy := goodIn_r _ [16, 17, 18, 4, 19, 20, 21, 22, 23, 24, 25, 26, 27, 28, 29, 30, 31, 32, 33, 34, 35, 36, 37, 38, 39, 40] (by decide +kernel) (by decide +kernel)
set_option maxRecDepth 20000 in
theorem gX4_waitsFor_X4_blockedBy : GoodIn wsX4_waitsFor (va_wsS RX4 112 yX4_blockedBy wsX4_blockedBy) := goodIn_app (goodIn_of _ (by decide +kernel)) ggX4_waitsFor_X4_blockedBy
theorem dX4_waitsFor_0 : decode cX4_waitsFor 0 = .ok (.aload_n 0, 1) := by decide +kernel
theorem dX4_waitsFor_1 : decode cX4_waitsFor 1 = .ok (.aload_n 0, 1) := by decide +kernel
theorem dX4_waitsFor_2 : decode cX4_waitsFor 2 = .ok (.getfield 13, 3) := by decide +kernel
theorem dX4_waitsFor_5 : decode cX4_waitsFor 5 = .ok (.iload_n 1, 1) := by decide +kernel
theorem dX4_waitsFor_6 : decode cX4_waitsFor 6 = .ok (.invokestatic 109, 3) := by decide +kernel
theorem dX4_waitsFor_9 : decode cX4_waitsFor 9 = .ok (.ifCond .eq 7, 3) := by decide +kernel
theorem dX4_waitsFor_12 : decode cX4_waitsFor 12 = .ok (.iconst 0, 1) := by decide +kernel
theorem dX4_waitsFor_13 : decode cX4_waitsFor 13 = .ok (.goto 4, 3) := by decide +kernel
theorem dX4_waitsFor_16 : decode cX4_waitsFor 16 = .ok (.iconst 1, 1) := by decide +kernel
theorem dX4_waitsFor_17 : decode cX4_waitsFor 17 = .ok (.invokevirtual 130, 3) := by decide +kernel
theorem dX4_waitsFor_20 : decode cX4_waitsFor 20 = .ok (.ifCond .eq 5, 3) := by decide +kernel
theorem dX4_waitsFor_23 : decode cX4_waitsFor 23 = .ok (.iconst 0, 1) := by decide +kernel
theorem dX4_waitsFor_24 : decode cX4_waitsFor 24 = .ok (.ireturn, 1) := by decide +kernel
theorem dX4_waitsFor_25 : decode cX4_waitsFor 25 = .ok (.aload_n 0, 1) := by decide +kernel
theorem dX4_waitsFor_26 : decode cX4_waitsFor 26 = .ok (.getfield 13, 3) := by decide +kernel
theorem dX4_waitsFor_29 : decode cX4_waitsFor 29 = .ok (.iload_n 1, 1) := by decide +kernel
theorem dX4_waitsFor_30 : decode cX4_waitsFor 30 = .ok (.invokestatic 112, 3) := by decide +kernel
theorem dX4_waitsFor_33 : decode cX4_waitsFor 33 = .ok (.ireturn, 1) := by decide +kernel
set_option maxRecDepth 20000 in
theorem ggX4_ring_X4_in : GoodIn wsX4_ring wsX4_in := goodIn_r _ [5] (by decide +kernel) (by decide +kernel)
set_option maxRecDepth 20000 in
theorem gX4_ring_X4_in : GoodIn wsX4_ring (va_wsS RX4 42 yX4_in wsX4_in) := goodIn_app (goodIn_of _ (by decide +kernel)) ggX4_ring_X4_in
set_option maxRecDepth 20000 in
theorem ggX4_ring_X4_refused : GoodIn wsX4_ring wsX4_refused := goodIn_r _ [9, 10, 44, 45, 46, 47, 48, 49, 50, 51, 52, 53, 54, 55] (by decide +kernel) (by decide +kernel)
set_option maxRecDepth 20000 in
theorem gX4_ring_X4_refused : GoodIn wsX4_ring (wsV RX4 130 RX4 yX4_refused wsX4_refused) := goodIn_app (goodIn_of _ (by decide +kernel)) ggX4_ring_X4_refused
set_option maxRecDepth 20000 in
theorem ggX4_ring_X4_ringed : GoodIn wsX4_ring wsX4_ringed := goodIn_r _ [13, 14, 15, 4, 16, 17, 18, 19, 20, 21, 22, 23, 24, 25, 26, 27, 28, 29, 30, 31, 32, 33, 34, 35, 36, 37, 38, 39, 40, 41, 42, 43] (by decide +kernel) (by decide +kernel)
set_option maxRecDepth 20000 in
theorem gX4_ring_X4_ringed : GoodIn wsX4_ring (va_wsS RX4 186 yX4_ringed wsX4_ringed) := goodIn_app (goodIn_of _ (by decide +kernel)) ggX4_ring_X4_ringed
set_option maxRecDepth 20000 in
theorem ggX4_ring_X4_ringOf : GoodIn wsX4_ring wsX4_ringOf := goodIn_r _ [16, 17, 18, 4, 19, 20, 21, 22, 23, 24, 25, 26, 27, 28, 29, 30, 31, 32, 33, 34, 35, 36, 37, 38, 39, 40, 41, 42, 43] (by decide +kernel) (by decide +kernel)
set_option maxRecDepth 20000 in
theorem gX4_ring_X4_ringOf : GoodIn wsX4_ring (va_wsS RX4 115 yX4_ringOf wsX4_ringOf) := goodIn_app (goodIn_of _ (by decide +kernel)) ggX4_ring_X4_ringOf
theorem dX4_ring_0 : decode cX4_ring 0 = .ok (.aload_n 0, 1) := by decide +kernel
theorem dX4_ring_1 : decode cX4_ring 1 = .ok (.iload_n 1, 1) := by decide +kernel
theorem dX4_ring_2 : decode cX4_ring 2 = .ok (.i2l, 1) := by decide +kernel
theorem dX4_ring_3 : decode cX4_ring 3 = .ok (.lconst 0, 1) := by decide +kernel
theorem dX4_ring_4 : decode cX4_ring 4 = .ok (.lconst 1, 1) := by decide +kernel
theorem dX4_ring_5 : decode cX4_ring 5 = .ok (.invokestatic 42, 3) := by decide +kernel
theorem dX4_ring_8 : decode cX4_ring 8 = .ok (.ifCond .eq 7, 3) := by decide +kernel
theorem dX4_ring_11 : decode cX4_ring 11 = .ok (.iconst 0, 1) := by decide +kernel
theorem dX4_ring_12 : decode cX4_ring 12 = .ok (.goto 4, 3) := by decide +kernel
theorem dX4_ring_15 : decode cX4_ring 15 = .ok (.iconst 1, 1) := by decide +kernel
theorem dX4_ring_16 : decode cX4_ring 16 = .ok (.invokevirtual 130, 3) := by decide +kernel
theorem dX4_ring_19 : decode cX4_ring 19 = .ok (.ifCond .eq 5, 3) := by decide +kernel
theorem dX4_ring_22 : decode cX4_ring 22 = .ok (.iconst 0, 1) := by decide +kernel
theorem dX4_ring_23 : decode cX4_ring 23 = .ok (.ireturn, 1) := by decide +kernel
theorem dX4_ring_24 : decode cX4_ring 24 = .ok (.aload_n 0, 1) := by decide +kernel
theorem dX4_ring_25 : decode cX4_ring 25 = .ok (.getfield 13, 3) := by decide +kernel
theorem dX4_ring_28 : decode cX4_ring 28 = .ok (.invokestatic 186, 3) := by decide +kernel
theorem dX4_ring_31 : decode cX4_ring 31 = .ok (.istore_n 2, 1) := by decide +kernel
theorem dX4_ring_32 : decode cX4_ring 32 = .ok (.iload_n 2, 1) := by decide +kernel
theorem dX4_ring_33 : decode cX4_ring 33 = .ok (.iconst (-1), 1) := by decide +kernel
theorem dX4_ring_34 : decode cX4_ring 34 = .ok (.if_icmp .eq 7, 3) := by decide +kernel
theorem dX4_ring_37 : decode cX4_ring 37 = .ok (.iload_n 1, 1) := by decide +kernel
theorem dX4_ring_38 : decode cX4_ring 38 = .ok (.ifCond .ne 7, 3) := by decide +kernel
theorem dX4_ring_41 : decode cX4_ring 41 = .ok (.iload_n 2, 1) := by decide +kernel
theorem dX4_ring_42 : decode cX4_ring 42 = .ok (.goto 11, 3) := by decide +kernel
theorem dX4_ring_45 : decode cX4_ring 45 = .ok (.aload_n 0, 1) := by decide +kernel
theorem dX4_ring_46 : decode cX4_ring 46 = .ok (.getfield 13, 3) := by decide +kernel
theorem dX4_ring_49 : decode cX4_ring 49 = .ok (.iload_n 2, 1) := by decide +kernel
theorem dX4_ring_50 : decode cX4_ring 50 = .ok (.invokestatic 115, 3) := by decide +kernel
theorem dX4_ring_53 : decode cX4_ring 53 = .ok (.ireturn, 1) := by decide +kernel
set_option maxRecDepth 20000 in
theorem ggX4_remember_X4_copyState : GoodIn wsX4_remember wsX4_copyState := goodIn_r _ [7] (by decide +kernel) (by decide +kernel)
set_option maxRecDepth 20000 in
theorem gX4_remember_X4_copyState : GoodIn wsX4_remember (va_wsS RX4 178 yX4_copyState wsX4_copyState) := goodIn_app (goodIn_of _ (by decide +kernel)) ggX4_remember_X4_copyState
theorem dX4_remember_0 : decode cX4_remember 0 = .ok (.aload_n 0, 1) := by decide +kernel
theorem dX4_remember_1 : decode cX4_remember 1 = .ok (.getfield 182, 3) := by decide +kernel
theorem dX4_remember_4 : decode cX4_remember 4 = .ok (.bipush 14, 2) := by decide +kernel
theorem dX4_remember_6 : decode cX4_remember 6 = .ok (.if_icmp .ne 44, 3) := by decide +kernel
theorem dX4_remember_9 : decode cX4_remember 9 = .ok (.iconst 0, 1) := by decide +kernel
theorem dX4_remember_10 : decode cX4_remember 10 = .ok (.istore_n 1, 1) := by decide +kernel
theorem dX4_remember_11 : decode cX4_remember 11 = .ok (.iload_n 1, 1) := by decide +kernel
theorem dX4_remember_12 : decode cX4_remember 12 = .ok (.sipush 2860, 3) := by decide +kernel
theorem dX4_remember_15 : decode cX4_remember 15 = .ok (.if_icmp .ge 25, 3) := by decide +kernel
theorem dX4_remember_18 : decode cX4_remember 18 = .ok (.aload_n 0, 1) := by decide +kernel
theorem dX4_remember_19 : decode cX4_remember 19 = .ok (.getfield 22, 3) := by decide +kernel
theorem dX4_remember_22 : decode cX4_remember 22 = .ok (.iload_n 1, 1) := by decide +kernel
theorem dX4_remember_23 : decode cX4_remember 23 = .ok (.aload_n 0, 1) := by decide +kernel
theorem dX4_remember_24 : decode cX4_remember 24 = .ok (.getfield 22, 3) := by decide +kernel
theorem dX4_remember_27 : decode cX4_remember 27 = .ok (.iload_n 1, 1) := by decide +kernel
theorem dX4_remember_28 : decode cX4_remember 28 = .ok (.sipush 220, 3) := by decide +kernel
theorem dX4_remember_31 : decode cX4_remember 31 = .ok (.iadd, 1) := by decide +kernel
theorem dX4_remember_32 : decode cX4_remember 32 = .ok (.iaload, 1) := by decide +kernel
theorem dX4_remember_33 : decode cX4_remember 33 = .ok (.iastore, 1) := by decide +kernel
theorem dX4_remember_34 : decode cX4_remember 34 = .ok (.iinc 1 1, 3) := by decide +kernel
theorem dX4_remember_37 : decode cX4_remember 37 = .ok (.goto (-26), 3) := by decide +kernel
theorem dX4_remember_40 : decode cX4_remember 40 = .ok (.aload_n 0, 1) := by decide +kernel
theorem dX4_remember_41 : decode cX4_remember 41 = .ok (.dup, 1) := by decide +kernel
theorem dX4_remember_42 : decode cX4_remember 42 = .ok (.getfield 182, 3) := by decide +kernel
theorem dX4_remember_45 : decode cX4_remember 45 = .ok (.iconst 1, 1) := by decide +kernel
theorem dX4_remember_46 : decode cX4_remember 46 = .ok (.isub, 1) := by decide +kernel
theorem dX4_remember_47 : decode cX4_remember 47 = .ok (.putfield 182, 3) := by decide +kernel
theorem dX4_remember_50 : decode cX4_remember 50 = .ok (.aload_n 0, 1) := by decide +kernel
theorem dX4_remember_51 : decode cX4_remember 51 = .ok (.getfield 13, 3) := by decide +kernel
theorem dX4_remember_54 : decode cX4_remember 54 = .ok (.iconst 0, 1) := by decide +kernel
theorem dX4_remember_55 : decode cX4_remember 55 = .ok (.aload_n 0, 1) := by decide +kernel
theorem dX4_remember_56 : decode cX4_remember 56 = .ok (.getfield 22, 3) := by decide +kernel
theorem dX4_remember_59 : decode cX4_remember 59 = .ok (.sipush 220, 3) := by decide +kernel
theorem dX4_remember_62 : decode cX4_remember 62 = .ok (.aload_n 0, 1) := by decide +kernel
theorem dX4_remember_63 : decode cX4_remember 63 = .ok (.getfield 182, 3) := by decide +kernel
theorem dX4_remember_66 : decode cX4_remember 66 = .ok (.imul, 1) := by decide +kernel
theorem dX4_remember_67 : decode cX4_remember 67 = .ok (.invokestatic 178, 3) := by decide +kernel
theorem dX4_remember_70 : decode cX4_remember 70 = .ok (.aload_n 0, 1) := by decide +kernel
theorem dX4_remember_71 : decode cX4_remember 71 = .ok (.dup, 1) := by decide +kernel
theorem dX4_remember_72 : decode cX4_remember 72 = .ok (.getfield 182, 3) := by decide +kernel
theorem dX4_remember_75 : decode cX4_remember 75 = .ok (.iconst 1, 1) := by decide +kernel
theorem dX4_remember_76 : decode cX4_remember 76 = .ok (.iadd, 1) := by decide +kernel
theorem dX4_remember_77 : decode cX4_remember 77 = .ok (.putfield 182, 3) := by decide +kernel
theorem dX4_remember_80 : decode cX4_remember 80 = .ok (.return_, 1) := by decide +kernel
set_option maxRecDepth 20000 in
theorem ggX4_hatch_X4_isRoom : GoodIn wsX4_hatch wsX4_isRoom := goodIn_r _ [5, 6, 7, 8, 4, 9] (by decide +kernel) (by decide +kernel)
set_option maxRecDepth 20000 in
theorem gX4_hatch_X4_isRoom : GoodIn wsX4_hatch (va_wsS RX4 98 yX4_isRoom wsX4_isRoom) := goodIn_app (goodIn_of _ (by decide +kernel)) ggX4_hatch_X4_isRoom
set_option maxRecDepth 20000 in
theorem ggX4_hatch_X4_isLength : GoodIn wsX4_hatch wsX4_isLength := goodIn_r _ [12, 13, 7, 8, 4, 9] (by decide +kernel) (by decide +kernel)
set_option maxRecDepth 20000 in
theorem gX4_hatch_X4_isLength : GoodIn wsX4_hatch (va_wsS RX4 102 yX4_isLength wsX4_isLength) := goodIn_app (goodIn_of _ (by decide +kernel)) ggX4_hatch_X4_isLength
set_option maxRecDepth 20000 in
theorem ggX4_hatch_X4_refused : GoodIn wsX4_hatch wsX4_refused := goodIn_r _ [17, 18, 34, 35, 36, 37, 38, 39, 40, 41, 42, 43, 44, 45] (by decide +kernel) (by decide +kernel)
set_option maxRecDepth 20000 in
theorem gX4_hatch_X4_refused : GoodIn wsX4_hatch (wsV RX4 130 RX4 yX4_refused wsX4_refused) := goodIn_app (goodIn_of _ (by decide +kernel)) ggX4_hatch_X4_refused
set_option maxRecDepth 20000 in
theorem ggX4_hatch_X4_remember : GoodIn wsX4_hatch wsX4_remember := goodIn_r _ [22, 23, 24, 1, 25, 26, 4, 27, 34, 35, 36, 37, 38, 39, 40, 41, 42, 43, 44, 45] (by decide +kernel) (by decide +kernel)
set_option maxRecDepth 20000 in
theorem gX4_hatch_X4_remember : GoodIn wsX4_hatch (wsV RX4 189 RX4 yX4_remember wsX4_remember) := goodIn_app (goodIn_of _ (by decide +kernel)) ggX4_hatch_X4_remember
set_option maxRecDepth 20000 in
theorem ggX4_hatch_X4_hatchOn : GoodIn wsX4_hatch wsX4_hatchOn := goodIn_r _ [30, 31, 32, 4, 33] (by decide +kernel) (by decide +kernel)
set_option maxRecDepth 20000 in
theorem gX4_hatch_X4_hatchOn : GoodIn wsX4_hatch (va_wsS RX4 147 yX4_hatchOn wsX4_hatchOn) := goodIn_app (goodIn_of _ (by decide +kernel)) ggX4_hatch_X4_hatchOn
theorem dX4_hatch_0 : decode cX4_hatch 0 = .ok (.aload_n 0, 1) := by decide +kernel
theorem dX4_hatch_1 : decode cX4_hatch 1 = .ok (.iload_n 1, 1) := by decide +kernel
theorem dX4_hatch_2 : decode cX4_hatch 2 = .ok (.invokestatic 98, 3) := by decide +kernel
theorem dX4_hatch_5 : decode cX4_hatch 5 = .ok (.ifCond .eq 10, 3) := by decide +kernel
theorem dX4_hatch_8 : decode cX4_hatch 8 = .ok (.iload_n 2, 1) := by decide +kernel
theorem dX4_hatch_9 : decode cX4_hatch 9 = .ok (.invokestatic 98, 3) := by decide +kernel
theorem dX4_hatch_12 : decode cX4_hatch 12 = .ok (.ifCond .ne 7, 3) := by decide +kernel
theorem dX4_hatch_15 : decode cX4_hatch 15 = .ok (.iconst 1, 1) := by decide +kernel
theorem dX4_hatch_16 : decode cX4_hatch 16 = .ok (.goto 30, 3) := by decide +kernel
theorem dX4_hatch_19 : decode cX4_hatch 19 = .ok (.iload_n 3, 1) := by decide +kernel
theorem dX4_hatch_20 : decode cX4_hatch 20 = .ok (.invokestatic 102, 3) := by decide +kernel
theorem dX4_hatch_23 : decode cX4_hatch 23 = .ok (.ifCond .ne 7, 3) := by decide +kernel
theorem dX4_hatch_26 : decode cX4_hatch 26 = .ok (.iconst 2, 1) := by decide +kernel
theorem dX4_hatch_27 : decode cX4_hatch 27 = .ok (.goto 19, 3) := by decide +kernel
theorem dX4_hatch_30 : decode cX4_hatch 30 = .ok (.aload_n 0, 1) := by decide +kernel
theorem dX4_hatch_31 : decode cX4_hatch 31 = .ok (.getfield 13, 3) := by decide +kernel
theorem dX4_hatch_34 : decode cX4_hatch 34 = .ok (.iconst 0, 1) := by decide +kernel
theorem dX4_hatch_35 : decode cX4_hatch 35 = .ok (.iaload, 1) := by decide +kernel
theorem dX4_hatch_36 : decode cX4_hatch 36 = .ok (.bipush 10, 2) := by decide +kernel
theorem dX4_hatch_38 : decode cX4_hatch 38 = .ok (.if_icmp .ge 7, 3) := by decide +kernel
theorem dX4_hatch_41 : decode cX4_hatch 41 = .ok (.iconst 0, 1) := by decide +kernel
theorem dX4_hatch_42 : decode cX4_hatch 42 = .ok (.goto 4, 3) := by decide +kernel
theorem dX4_hatch_45 : decode cX4_hatch 45 = .ok (.iconst 3, 1) := by decide +kernel
theorem dX4_hatch_46 : decode cX4_hatch 46 = .ok (.invokevirtual 130, 3) := by decide +kernel
theorem dX4_hatch_49 : decode cX4_hatch 49 = .ok (.ifCond .eq 5, 3) := by decide +kernel
theorem dX4_hatch_52 : decode cX4_hatch 52 = .ok (.iconst 0, 1) := by decide +kernel
theorem dX4_hatch_53 : decode cX4_hatch 53 = .ok (.ireturn, 1) := by decide +kernel
theorem dX4_hatch_54 : decode cX4_hatch 54 = .ok (.aload_n 0, 1) := by decide +kernel
theorem dX4_hatch_55 : decode cX4_hatch 55 = .ok (.invokevirtual 189, 3) := by decide +kernel
theorem dX4_hatch_58 : decode cX4_hatch 58 = .ok (.aload_n 0, 1) := by decide +kernel
theorem dX4_hatch_59 : decode cX4_hatch 59 = .ok (.getfield 13, 3) := by decide +kernel
theorem dX4_hatch_62 : decode cX4_hatch 62 = .ok (.iload_n 1, 1) := by decide +kernel
theorem dX4_hatch_63 : decode cX4_hatch 63 = .ok (.iload_n 2, 1) := by decide +kernel
theorem dX4_hatch_64 : decode cX4_hatch 64 = .ok (.iload_n 3, 1) := by decide +kernel
theorem dX4_hatch_65 : decode cX4_hatch 65 = .ok (.invokestatic 147, 3) := by decide +kernel
theorem dX4_hatch_68 : decode cX4_hatch 68 = .ok (.ireturn, 1) := by decide +kernel
set_option maxRecDepth 20000 in
theorem ggX4_ticks_X4_in : GoodIn wsX4_ticks wsX4_in := goodIn_r _ [6] (by decide +kernel) (by decide +kernel)
set_option maxRecDepth 20000 in
theorem gX4_ticks_X4_in : GoodIn wsX4_ticks (va_wsS RX4 42 yX4_in wsX4_in) := goodIn_app (goodIn_of _ (by decide +kernel)) ggX4_ticks_X4_in
set_option maxRecDepth 20000 in
theorem ggX4_ticks_X4_refused : GoodIn wsX4_ticks wsX4_refused := goodIn_r _ [10, 11, 66, 67, 68, 69, 70, 71, 72, 73, 74, 75, 76, 77] (by decide +kernel) (by decide +kernel)
set_option maxRecDepth 20000 in
theorem gX4_ticks_X4_refused : GoodIn wsX4_ticks (wsV RX4 130 RX4 yX4_refused wsX4_refused) := goodIn_app (goodIn_of _ (by decide +kernel)) ggX4_ticks_X4_refused
set_option maxRecDepth 20000 in
theorem ggX4_ticks_X4_remember : GoodIn wsX4_ticks wsX4_remember := goodIn_r _ [15, 16, 17, 2, 18, 19, 5, 20, 66, 67, 68, 69, 70, 71, 72, 73, 74, 75, 76, 77] (by decide +kernel) (by decide +kernel)
set_option maxRecDepth 20000 in
theorem gX4_ticks_X4_remember : GoodIn wsX4_ticks (wsV RX4 189 RX4 yX4_remember wsX4_remember) := goodIn_app (goodIn_of _ (by decide +kernel)) ggX4_ticks_X4_remember
set_option maxRecDepth 20000 in
theorem ggX4_ticks_X4_ticksOn : GoodIn wsX4_ticks wsX4_ticksOn := goodIn_r _ [23, 24, 25, 5, 26, 27, 28, 29, 30, 31, 32, 33, 34, 35, 36, 37, 38, 39, 40, 41, 42, 43, 44, 45, 46, 47, 48, 49, 50, 51, 52, 53, 54, 55, 56, 57, 58, 59, 60, 61, 62, 63, 64, 65] (by decide +kernel) (by decide +kernel)
set_option maxRecDepth 20000 in
theorem gX4_ticks_X4_ticksOn : GoodIn wsX4_ticks (va_wsS RX4 122 yX4_ticksOn wsX4_ticksOn) := goodIn_app (goodIn_of _ (by decide +kernel)) ggX4_ticks_X4_ticksOn
theorem dX4_ticks_0 : decode cX4_ticks 0 = .ok (.aload_n 0, 1) := by decide +kernel
theorem dX4_ticks_1 : decode cX4_ticks 1 = .ok (.iload_n 1, 1) := by decide +kernel
theorem dX4_ticks_2 : decode cX4_ticks 2 = .ok (.i2l, 1) := by decide +kernel
theorem dX4_ticks_3 : decode cX4_ticks 3 = .ok (.lconst 1, 1) := by decide +kernel
theorem dX4_ticks_4 : decode cX4_ticks 4 = .ok (.ldc2_w 192, 3) := by decide +kernel
theorem dX4_ticks_7 : decode cX4_ticks 7 = .ok (.invokestatic 42, 3) := by decide +kernel
theorem dX4_ticks_10 : decode cX4_ticks 10 = .ok (.ifCond .eq 7, 3) := by decide +kernel
theorem dX4_ticks_13 : decode cX4_ticks 13 = .ok (.iconst 0, 1) := by decide +kernel
theorem dX4_ticks_14 : decode cX4_ticks 14 = .ok (.goto 4, 3) := by decide +kernel
theorem dX4_ticks_17 : decode cX4_ticks 17 = .ok (.iconst 1, 1) := by decide +kernel
theorem dX4_ticks_18 : decode cX4_ticks 18 = .ok (.invokevirtual 130, 3) := by decide +kernel
theorem dX4_ticks_21 : decode cX4_ticks 21 = .ok (.ifCond .eq 5, 3) := by decide +kernel
theorem dX4_ticks_24 : decode cX4_ticks 24 = .ok (.iconst 0, 1) := by decide +kernel
theorem dX4_ticks_25 : decode cX4_ticks 25 = .ok (.ireturn, 1) := by decide +kernel
theorem dX4_ticks_26 : decode cX4_ticks 26 = .ok (.aload_n 0, 1) := by decide +kernel
theorem dX4_ticks_27 : decode cX4_ticks 27 = .ok (.invokevirtual 189, 3) := by decide +kernel
theorem dX4_ticks_30 : decode cX4_ticks 30 = .ok (.aload_n 0, 1) := by decide +kernel
theorem dX4_ticks_31 : decode cX4_ticks 31 = .ok (.getfield 13, 3) := by decide +kernel
theorem dX4_ticks_34 : decode cX4_ticks 34 = .ok (.iload_n 1, 1) := by decide +kernel
theorem dX4_ticks_35 : decode cX4_ticks 35 = .ok (.invokestatic 122, 3) := by decide +kernel
theorem dX4_ticks_38 : decode cX4_ticks 38 = .ok (.ireturn, 1) := by decide +kernel
set_option maxRecDepth 20000 in
theorem ggX4_rule_X4_in : GoodIn wsX4_rule wsX4_in := goodIn_r _ [6] (by decide +kernel) (by decide +kernel)
set_option maxRecDepth 20000 in
theorem gX4_rule_X4_in : GoodIn wsX4_rule (va_wsS RX4 42 yX4_in wsX4_in) := goodIn_app (goodIn_of _ (by decide +kernel)) ggX4_rule_X4_in
set_option maxRecDepth 20000 in
theorem ggX4_rule_X4_refused : GoodIn wsX4_rule wsX4_refused := goodIn_r _ [10, 11, 24, 25, 26, 27, 28, 29, 30, 31, 32, 33, 34, 35] (by decide +kernel) (by decide +kernel)
set_option maxRecDepth 20000 in
theorem gX4_rule_X4_refused : GoodIn wsX4_rule (wsV RX4 130 RX4 yX4_refused wsX4_refused) := goodIn_app (goodIn_of _ (by decide +kernel)) ggX4_rule_X4_refused
set_option maxRecDepth 20000 in
theorem ggX4_rule_X4_remember : GoodIn wsX4_rule wsX4_remember := goodIn_r _ [15, 16, 17, 2, 18, 19, 5, 20, 24, 25, 26, 27, 28, 29, 30, 31, 32, 33, 34, 35] (by decide +kernel) (by decide +kernel)
set_option maxRecDepth 20000 in
theorem gX4_rule_X4_remember : GoodIn wsX4_rule (wsV RX4 189 RX4 yX4_remember wsX4_remember) := goodIn_app (goodIn_of _ (by decide +kernel)) ggX4_rule_X4_remember
set_option maxRecDepth 20000 in
theorem ggX4_rule_X4_ruleOn : GoodIn wsX4_rule wsX4_ruleOn := goodIn_r _ [23] (by decide +kernel) (by decide +kernel)
set_option maxRecDepth 20000 in
theorem gX4_rule_X4_ruleOn : GoodIn wsX4_rule (va_wsS RX4 163 yX4_ruleOn wsX4_ruleOn) := goodIn_app (goodIn_of _ (by decide +kernel)) ggX4_rule_X4_ruleOn
theorem dX4_rule_0 : decode cX4_rule 0 = .ok (.aload_n 0, 1) := by decide +kernel
theorem dX4_rule_1 : decode cX4_rule 1 = .ok (.iload_n 1, 1) := by decide +kernel
theorem dX4_rule_2 : decode cX4_rule 2 = .ok (.i2l, 1) := by decide +kernel
theorem dX4_rule_3 : decode cX4_rule 3 = .ok (.lconst 0, 1) := by decide +kernel
theorem dX4_rule_4 : decode cX4_rule 4 = .ok (.ldc2_w 194, 3) := by decide +kernel
theorem dX4_rule_7 : decode cX4_rule 7 = .ok (.invokestatic 42, 3) := by decide +kernel
theorem dX4_rule_10 : decode cX4_rule 10 = .ok (.ifCond .eq 7, 3) := by decide +kernel
theorem dX4_rule_13 : decode cX4_rule 13 = .ok (.iconst 0, 1) := by decide +kernel
theorem dX4_rule_14 : decode cX4_rule 14 = .ok (.goto 4, 3) := by decide +kernel
theorem dX4_rule_17 : decode cX4_rule 17 = .ok (.iconst 1, 1) := by decide +kernel
theorem dX4_rule_18 : decode cX4_rule 18 = .ok (.invokevirtual 130, 3) := by decide +kernel
theorem dX4_rule_21 : decode cX4_rule 21 = .ok (.ifCond .eq 5, 3) := by decide +kernel
theorem dX4_rule_24 : decode cX4_rule 24 = .ok (.iconst 0, 1) := by decide +kernel
theorem dX4_rule_25 : decode cX4_rule 25 = .ok (.ireturn, 1) := by decide +kernel
theorem dX4_rule_26 : decode cX4_rule 26 = .ok (.aload_n 0, 1) := by decide +kernel
theorem dX4_rule_27 : decode cX4_rule 27 = .ok (.invokevirtual 189, 3) := by decide +kernel
theorem dX4_rule_30 : decode cX4_rule 30 = .ok (.aload_n 0, 1) := by decide +kernel
theorem dX4_rule_31 : decode cX4_rule 31 = .ok (.getfield 13, 3) := by decide +kernel
theorem dX4_rule_34 : decode cX4_rule 34 = .ok (.iload_n 1, 1) := by decide +kernel
theorem dX4_rule_35 : decode cX4_rule 35 = .ok (.invokestatic 163, 3) := by decide +kernel
theorem dX4_rule_38 : decode cX4_rule 38 = .ok (.ireturn, 1) := by decide +kernel
set_option maxRecDepth 20000 in
theorem ggX4_shut_X4_isRoom : GoodIn wsX4_shut wsX4_isRoom := goodIn_r _ [5, 6, 7, 8, 4, 9] (by decide +kernel) (by decide +kernel)
set_option maxRecDepth 20000 in
theorem gX4_shut_X4_isRoom : GoodIn wsX4_shut (va_wsS RX4 98 yX4_isRoom wsX4_isRoom) := goodIn_app (goodIn_of _ (by decide +kernel)) ggX4_shut_X4_isRoom
set_option maxRecDepth 20000 in
theorem ggX4_shut_X4_canShut : GoodIn wsX4_shut wsX4_canShut := goodIn_r _ [12, 2, 3, 4, 5, 6, 7, 8, 9, 13, 14, 15, 16, 17, 18] (by decide +kernel) (by decide +kernel)
set_option maxRecDepth 20000 in
theorem gX4_shut_X4_canShut : GoodIn wsX4_shut (va_wsS RX4 155 yX4_canShut wsX4_canShut) := goodIn_app (goodIn_of _ (by decide +kernel)) ggX4_shut_X4_canShut
set_option maxRecDepth 20000 in
theorem ggX4_shut_X4_refused : GoodIn wsX4_shut wsX4_refused := goodIn_r _ [22, 23, 39, 40, 41, 42, 43, 44, 45, 46, 47, 48, 49, 50] (by decide +kernel) (by decide +kernel)
set_option maxRecDepth 20000 in
theorem gX4_shut_X4_refused : GoodIn wsX4_shut (wsV RX4 130 RX4 yX4_refused wsX4_refused) := goodIn_app (goodIn_of _ (by decide +kernel)) ggX4_shut_X4_refused
set_option maxRecDepth 20000 in
theorem ggX4_shut_X4_remember : GoodIn wsX4_shut wsX4_remember := goodIn_r _ [27, 28, 29, 1, 30, 31, 4, 32, 39, 40, 41, 42, 43, 44, 45, 46, 47, 48, 49, 50] (by decide +kernel) (by decide +kernel)
set_option maxRecDepth 20000 in
theorem gX4_shut_X4_remember : GoodIn wsX4_shut (wsV RX4 189 RX4 yX4_remember wsX4_remember) := goodIn_app (goodIn_of _ (by decide +kernel)) ggX4_shut_X4_remember
set_option maxRecDepth 20000 in
theorem ggX4_shut_X4_shutOn : GoodIn wsX4_shut wsX4_shutOn := goodIn_r _ [35, 36, 37, 4, 38] (by decide +kernel) (by decide +kernel)
set_option maxRecDepth 20000 in
theorem gX4_shut_X4_shutOn : GoodIn wsX4_shut (va_wsS RX4 159 yX4_shutOn wsX4_shutOn) := goodIn_app (goodIn_of _ (by decide +kernel)) ggX4_shut_X4_shutOn
theorem dX4_shut_0 : decode cX4_shut 0 = .ok (.aload_n 0, 1) := by decide +kernel
theorem dX4_shut_1 : decode cX4_shut 1 = .ok (.iload_n 1, 1) := by decide +kernel
theorem dX4_shut_2 : decode cX4_shut 2 = .ok (.invokestatic 98, 3) := by decide +kernel
theorem dX4_shut_5 : decode cX4_shut 5 = .ok (.ifCond .ne 7, 3) := by decide +kernel
theorem dX4_shut_8 : decode cX4_shut 8 = .ok (.iconst 1, 1) := by decide +kernel
theorem dX4_shut_9 : decode cX4_shut 9 = .ok (.goto 20, 3) := by decide +kernel
theorem dX4_shut_12 : decode cX4_shut 12 = .ok (.aload_n 0, 1) := by decide +kernel
theorem dX4_shut_13 : decode cX4_shut 13 = .ok (.getfield 13, 3) := by decide +kernel
theorem dX4_shut_16 : decode cX4_shut 16 = .ok (.iload_n 1, 1) := by decide +kernel
theorem dX4_shut_17 : decode cX4_shut 17 = .ok (.iload_n 2, 1) := by decide +kernel
theorem dX4_shut_18 : decode cX4_shut 18 = .ok (.invokestatic 155, 3) := by decide +kernel
theorem dX4_shut_21 : decode cX4_shut 21 = .ok (.ifCond .eq 7, 3) := by decide +kernel
theorem dX4_shut_24 : decode cX4_shut 24 = .ok (.iconst 0, 1) := by decide +kernel
theorem dX4_shut_25 : decode cX4_shut 25 = .ok (.goto 4, 3) := by decide +kernel
theorem dX4_shut_28 : decode cX4_shut 28 = .ok (.iconst 2, 1) := by decide +kernel
theorem dX4_shut_29 : decode cX4_shut 29 = .ok (.invokevirtual 130, 3) := by decide +kernel
theorem dX4_shut_32 : decode cX4_shut 32 = .ok (.ifCond .eq 5, 3) := by decide +kernel
theorem dX4_shut_35 : decode cX4_shut 35 = .ok (.iconst 0, 1) := by decide +kernel
theorem dX4_shut_36 : decode cX4_shut 36 = .ok (.ireturn, 1) := by decide +kernel
theorem dX4_shut_37 : decode cX4_shut 37 = .ok (.aload_n 0, 1) := by decide +kernel
theorem dX4_shut_38 : decode cX4_shut 38 = .ok (.invokevirtual 189, 3) := by decide +kernel
theorem dX4_shut_41 : decode cX4_shut 41 = .ok (.aload_n 0, 1) := by decide +kernel
theorem dX4_shut_42 : decode cX4_shut 42 = .ok (.getfield 13, 3) := by decide +kernel
theorem dX4_shut_45 : decode cX4_shut 45 = .ok (.iload_n 1, 1) := by decide +kernel
theorem dX4_shut_46 : decode cX4_shut 46 = .ok (.iload_n 2, 1) := by decide +kernel
theorem dX4_shut_47 : decode cX4_shut 47 = .ok (.invokestatic 159, 3) := by decide +kernel
theorem dX4_shut_50 : decode cX4_shut 50 = .ok (.ireturn, 1) := by decide +kernel
set_option maxRecDepth 20000 in
theorem ggX4_pull_X4_isOne : GoodIn wsX4_pull wsX4_isOne := goodIn_r _ [5, 6, 7, 4, 8] (by decide +kernel) (by decide +kernel)
set_option maxRecDepth 20000 in
theorem gX4_pull_X4_isOne : GoodIn wsX4_pull (va_wsS RX4 109 yX4_isOne wsX4_isOne) := goodIn_app (goodIn_of _ (by decide +kernel)) ggX4_pull_X4_isOne
set_option maxRecDepth 20000 in
theorem ggX4_pull_X4_canPull : GoodIn wsX4_pull wsX4_canPull := goodIn_r _ [11, 2, 3, 4, 5, 6, 7, 8, 12, 13, 14] (by decide +kernel) (by decide +kernel)
set_option maxRecDepth 20000 in
theorem gX4_pull_X4_canPull : GoodIn wsX4_pull (va_wsS RX4 166 yX4_canPull wsX4_canPull) := goodIn_app (goodIn_of _ (by decide +kernel)) ggX4_pull_X4_canPull
set_option maxRecDepth 20000 in
theorem ggX4_pull_X4_refused : GoodIn wsX4_pull wsX4_refused := goodIn_r _ [18, 19, 35, 36, 37, 38, 39, 40, 41, 42, 43, 44, 45, 46] (by decide +kernel) (by decide +kernel)
set_option maxRecDepth 20000 in
theorem gX4_pull_X4_refused : GoodIn wsX4_pull (wsV RX4 130 RX4 yX4_refused wsX4_refused) := goodIn_app (goodIn_of _ (by decide +kernel)) ggX4_pull_X4_refused
set_option maxRecDepth 20000 in
theorem ggX4_pull_X4_remember : GoodIn wsX4_pull wsX4_remember := goodIn_r _ [23, 24, 25, 1, 26, 27, 4, 28, 35, 36, 37, 38, 39, 40, 41, 42, 43, 44, 45, 46] (by decide +kernel) (by decide +kernel)
set_option maxRecDepth 20000 in
theorem gX4_pull_X4_remember : GoodIn wsX4_pull (wsV RX4 189 RX4 yX4_remember wsX4_remember) := goodIn_app (goodIn_of _ (by decide +kernel)) ggX4_pull_X4_remember
set_option maxRecDepth 20000 in
theorem ggX4_pull_X4_pullOn : GoodIn wsX4_pull wsX4_pullOn := goodIn_r _ [31, 12, 13, 4, 14, 32, 33, 34] (by decide +kernel) (by decide +kernel)
set_option maxRecDepth 20000 in
theorem gX4_pull_X4_pullOn : GoodIn wsX4_pull (va_wsS RX4 169 yX4_pullOn wsX4_pullOn) := goodIn_app (goodIn_of _ (by decide +kernel)) ggX4_pull_X4_pullOn
theorem dX4_pull_0 : decode cX4_pull 0 = .ok (.aload_n 0, 1) := by decide +kernel
theorem dX4_pull_1 : decode cX4_pull 1 = .ok (.aload_n 0, 1) := by decide +kernel
theorem dX4_pull_2 : decode cX4_pull 2 = .ok (.getfield 13, 3) := by decide +kernel
theorem dX4_pull_5 : decode cX4_pull 5 = .ok (.iload_n 1, 1) := by decide +kernel
theorem dX4_pull_6 : decode cX4_pull 6 = .ok (.invokestatic 109, 3) := by decide +kernel
theorem dX4_pull_9 : decode cX4_pull 9 = .ok (.ifCond .ne 7, 3) := by decide +kernel
theorem dX4_pull_12 : decode cX4_pull 12 = .ok (.iconst 1, 1) := by decide +kernel
theorem dX4_pull_13 : decode cX4_pull 13 = .ok (.goto 19, 3) := by decide +kernel
theorem dX4_pull_16 : decode cX4_pull 16 = .ok (.aload_n 0, 1) := by decide +kernel
theorem dX4_pull_17 : decode cX4_pull 17 = .ok (.getfield 13, 3) := by decide +kernel
theorem dX4_pull_20 : decode cX4_pull 20 = .ok (.iload_n 1, 1) := by decide +kernel
theorem dX4_pull_21 : decode cX4_pull 21 = .ok (.invokestatic 166, 3) := by decide +kernel
theorem dX4_pull_24 : decode cX4_pull 24 = .ok (.ifCond .eq 7, 3) := by decide +kernel
theorem dX4_pull_27 : decode cX4_pull 27 = .ok (.iconst 0, 1) := by decide +kernel
theorem dX4_pull_28 : decode cX4_pull 28 = .ok (.goto 4, 3) := by decide +kernel
theorem dX4_pull_31 : decode cX4_pull 31 = .ok (.iconst 2, 1) := by decide +kernel
theorem dX4_pull_32 : decode cX4_pull 32 = .ok (.invokevirtual 130, 3) := by decide +kernel
theorem dX4_pull_35 : decode cX4_pull 35 = .ok (.ifCond .eq 5, 3) := by decide +kernel
theorem dX4_pull_38 : decode cX4_pull 38 = .ok (.iconst 0, 1) := by decide +kernel
theorem dX4_pull_39 : decode cX4_pull 39 = .ok (.ireturn, 1) := by decide +kernel
theorem dX4_pull_40 : decode cX4_pull 40 = .ok (.aload_n 0, 1) := by decide +kernel
theorem dX4_pull_41 : decode cX4_pull 41 = .ok (.invokevirtual 189, 3) := by decide +kernel
theorem dX4_pull_44 : decode cX4_pull 44 = .ok (.aload_n 0, 1) := by decide +kernel
theorem dX4_pull_45 : decode cX4_pull 45 = .ok (.getfield 13, 3) := by decide +kernel
theorem dX4_pull_48 : decode cX4_pull 48 = .ok (.iload_n 1, 1) := by decide +kernel
theorem dX4_pull_49 : decode cX4_pull 49 = .ok (.invokestatic 169, 3) := by decide +kernel
theorem dX4_pull_52 : decode cX4_pull 52 = .ok (.ireturn, 1) := by decide +kernel
set_option maxRecDepth 20000 in
theorem ggX4_undo_X4_refused : GoodIn wsX4_undo wsX4_refused := goodIn_r _ [8, 9, 13, 14, 15, 16, 17, 18, 19, 20, 21, 22, 23, 24] (by decide +kernel) (by decide +kernel)
set_option maxRecDepth 20000 in
theorem gX4_undo_X4_refused : GoodIn wsX4_undo (wsV RX4 130 RX4 yX4_refused wsX4_refused) := goodIn_app (goodIn_of _ (by decide +kernel)) ggX4_undo_X4_refused
set_option maxRecDepth 20000 in
theorem ggX4_undo_X4_copyState : GoodIn wsX4_undo wsX4_copyState := goodIn_r _ [12] (by decide +kernel) (by decide +kernel)
set_option maxRecDepth 20000 in
theorem gX4_undo_X4_copyState : GoodIn wsX4_undo (va_wsS RX4 178 yX4_copyState wsX4_copyState) := goodIn_app (goodIn_of _ (by decide +kernel)) ggX4_undo_X4_copyState
theorem dX4_undo_0 : decode cX4_undo 0 = .ok (.aload_n 0, 1) := by decide +kernel
theorem dX4_undo_1 : decode cX4_undo 1 = .ok (.aload_n 0, 1) := by decide +kernel
theorem dX4_undo_2 : decode cX4_undo 2 = .ok (.getfield 182, 3) := by decide +kernel
theorem dX4_undo_5 : decode cX4_undo 5 = .ok (.ifCond .ne 7, 3) := by decide +kernel
theorem dX4_undo_8 : decode cX4_undo 8 = .ok (.iconst 1, 1) := by decide +kernel
theorem dX4_undo_9 : decode cX4_undo 9 = .ok (.goto 4, 3) := by decide +kernel
theorem dX4_undo_12 : decode cX4_undo 12 = .ok (.iconst 0, 1) := by decide +kernel
theorem dX4_undo_13 : decode cX4_undo 13 = .ok (.invokevirtual 130, 3) := by decide +kernel
theorem dX4_undo_16 : decode cX4_undo 16 = .ok (.ifCond .eq 5, 3) := by decide +kernel
theorem dX4_undo_19 : decode cX4_undo 19 = .ok (.iconst 0, 1) := by decide +kernel
theorem dX4_undo_20 : decode cX4_undo 20 = .ok (.ireturn, 1) := by decide +kernel
theorem dX4_undo_21 : decode cX4_undo 21 = .ok (.aload_n 0, 1) := by decide +kernel
theorem dX4_undo_22 : decode cX4_undo 22 = .ok (.dup, 1) := by decide +kernel
theorem dX4_undo_23 : decode cX4_undo 23 = .ok (.getfield 182, 3) := by decide +kernel
theorem dX4_undo_26 : decode cX4_undo 26 = .ok (.iconst 1, 1) := by decide +kernel
theorem dX4_undo_27 : decode cX4_undo 27 = .ok (.isub, 1) := by decide +kernel
theorem dX4_undo_28 : decode cX4_undo 28 = .ok (.putfield 182, 3) := by decide +kernel
theorem dX4_undo_31 : decode cX4_undo 31 = .ok (.aload_n 0, 1) := by decide +kernel
theorem dX4_undo_32 : decode cX4_undo 32 = .ok (.getfield 22, 3) := by decide +kernel
theorem dX4_undo_35 : decode cX4_undo 35 = .ok (.sipush 220, 3) := by decide +kernel
theorem dX4_undo_38 : decode cX4_undo 38 = .ok (.aload_n 0, 1) := by decide +kernel
theorem dX4_undo_39 : decode cX4_undo 39 = .ok (.getfield 182, 3) := by decide +kernel
theorem dX4_undo_42 : decode cX4_undo 42 = .ok (.imul, 1) := by decide +kernel
theorem dX4_undo_43 : decode cX4_undo 43 = .ok (.aload_n 0, 1) := by decide +kernel
theorem dX4_undo_44 : decode cX4_undo 44 = .ok (.getfield 13, 3) := by decide +kernel
theorem dX4_undo_47 : decode cX4_undo 47 = .ok (.iconst 0, 1) := by decide +kernel
theorem dX4_undo_48 : decode cX4_undo 48 = .ok (.invokestatic 178, 3) := by decide +kernel
theorem dX4_undo_51 : decode cX4_undo 51 = .ok (.aload_n 0, 1) := by decide +kernel
theorem dX4_undo_52 : decode cX4_undo 52 = .ok (.getfield 182, 3) := by decide +kernel
theorem dX4_undo_55 : decode cX4_undo 55 = .ok (.ireturn, 1) := by decide +kernel
set_option maxRecDepth 20000 in
theorem ggX4_goneIn_X4_isOne : GoodIn wsX4_goneIn wsX4_isOne := goodIn_r _ [6, 7, 8, 5, 9] (by decide +kernel) (by decide +kernel)
set_option maxRecDepth 20000 in
theorem gX4_goneIn_X4_isOne : GoodIn wsX4_goneIn (va_wsS RX4 109 yX4_isOne wsX4_isOne) := goodIn_app (goodIn_of _ (by decide +kernel)) ggX4_goneIn_X4_isOne
set_option maxRecDepth 20000 in
theorem ggX4_goneIn_X4_refused : GoodIn wsX4_goneIn wsX4_refused := goodIn_r _ [13, 14, 69, 70, 71, 72, 73, 74, 75, 76, 77, 78, 79, 80] (by decide +kernel) (by decide +kernel)
set_option maxRecDepth 20000 in
theorem gX4_goneIn_X4_refused : GoodIn wsX4_goneIn (wsV RX4 130 RX4 yX4_refused wsX4_refused) := goodIn_app (goodIn_of _ (by decide +kernel)) ggX4_goneIn_X4_refused
set_option maxRecDepth 20000 in
theorem ggX4_goneIn_X4_isIn : GoodIn wsX4_goneIn wsX4_isIn := goodIn_r _ [17, 18, 19, 5, 20] (by decide +kernel) (by decide +kernel)
set_option maxRecDepth 20000 in
theorem gX4_goneIn_X4_isIn : GoodIn wsX4_goneIn (va_wsS RX4 52 yX4_isIn wsX4_isIn) := goodIn_app (goodIn_of _ (by decide +kernel)) ggX4_goneIn_X4_isIn
set_option maxRecDepth 20000 in
theorem ggX4_goneIn_X4_copyState : GoodIn wsX4_goneIn wsX4_copyState := goodIn_r _ [23] (by decide +kernel) (by decide +kernel)
set_option maxRecDepth 20000 in
theorem gX4_goneIn_X4_copyState : GoodIn wsX4_goneIn (va_wsS RX4 178 yX4_copyState wsX4_copyState) := goodIn_app (goodIn_of _ (by decide +kernel)) ggX4_goneIn_X4_copyState
set_option maxRecDepth 20000 in
theorem ggX4_goneIn_X4_until : GoodIn wsX4_goneIn wsX4_until := goodIn_r _ [26, 27, 28, 5, 29, 30, 31, 32, 15, 16, 17, 18, 19, 20, 33, 34, 35, 36, 37, 38, 39, 40, 41, 42, 43, 44, 45, 46, 47, 48, 49, 50, 51, 52, 53, 54, 55, 56, 57, 58, 59, 60, 61, 62, 63, 64, 65, 66, 67, 68] (by decide +kernel) (by decide +kernel)
set_option maxRecDepth 20000 in
theorem gX4_goneIn_X4_until : GoodIn wsX4_goneIn (va_wsS RX4 196 yX4_until wsX4_until) := goodIn_app (goodIn_of _ (by decide +kernel)) ggX4_goneIn_X4_until
theorem dX4_goneIn_0 : decode cX4_goneIn 0 = .ok (.aload_n 0, 1) := by decide +kernel
theorem dX4_goneIn_1 : decode cX4_goneIn 1 = .ok (.aload_n 0, 1) := by decide +kernel
theorem dX4_goneIn_2 : decode cX4_goneIn 2 = .ok (.getfield 13, 3) := by decide +kernel
theorem dX4_goneIn_5 : decode cX4_goneIn 5 = .ok (.iload_n 1, 1) := by decide +kernel
theorem dX4_goneIn_6 : decode cX4_goneIn 6 = .ok (.invokestatic 109, 3) := by decide +kernel
theorem dX4_goneIn_9 : decode cX4_goneIn 9 = .ok (.ifCond .eq 7, 3) := by decide +kernel
theorem dX4_goneIn_12 : decode cX4_goneIn 12 = .ok (.iconst 0, 1) := by decide +kernel
theorem dX4_goneIn_13 : decode cX4_goneIn 13 = .ok (.goto 4, 3) := by decide +kernel
theorem dX4_goneIn_16 : decode cX4_goneIn 16 = .ok (.iconst 1, 1) := by decide +kernel
theorem dX4_goneIn_17 : decode cX4_goneIn 17 = .ok (.invokevirtual 130, 3) := by decide +kernel
theorem dX4_goneIn_20 : decode cX4_goneIn 20 = .ok (.ifCond .eq 5, 3) := by decide +kernel
theorem dX4_goneIn_23 : decode cX4_goneIn 23 = .ok (.iconst 0, 1) := by decide +kernel
theorem dX4_goneIn_24 : decode cX4_goneIn 24 = .ok (.ireturn, 1) := by decide +kernel
theorem dX4_goneIn_25 : decode cX4_goneIn 25 = .ok (.aload_n 0, 1) := by decide +kernel
theorem dX4_goneIn_26 : decode cX4_goneIn 26 = .ok (.getfield 13, 3) := by decide +kernel
theorem dX4_goneIn_29 : decode cX4_goneIn 29 = .ok (.iload_n 1, 1) := by decide +kernel
theorem dX4_goneIn_30 : decode cX4_goneIn 30 = .ok (.iconst 3, 1) := by decide +kernel
theorem dX4_goneIn_31 : decode cX4_goneIn 31 = .ok (.invokestatic 52, 3) := by decide +kernel
theorem dX4_goneIn_34 : decode cX4_goneIn 34 = .ok (.ifCond .eq 5, 3) := by decide +kernel
theorem dX4_goneIn_37 : decode cX4_goneIn 37 = .ok (.iconst (-1), 1) := by decide +kernel
theorem dX4_goneIn_38 : decode cX4_goneIn 38 = .ok (.ireturn, 1) := by decide +kernel
theorem dX4_goneIn_39 : decode cX4_goneIn 39 = .ok (.aload_n 0, 1) := by decide +kernel
theorem dX4_goneIn_40 : decode cX4_goneIn 40 = .ok (.getfield 13, 3) := by decide +kernel
theorem dX4_goneIn_43 : decode cX4_goneIn 43 = .ok (.iconst 0, 1) := by decide +kernel
theorem dX4_goneIn_44 : decode cX4_goneIn 44 = .ok (.aload_n 0, 1) := by decide +kernel
theorem dX4_goneIn_45 : decode cX4_goneIn 45 = .ok (.getfield 16, 3) := by decide +kernel
theorem dX4_goneIn_48 : decode cX4_goneIn 48 = .ok (.iconst 0, 1) := by decide +kernel
theorem dX4_goneIn_49 : decode cX4_goneIn 49 = .ok (.invokestatic 178, 3) := by decide +kernel
theorem dX4_goneIn_52 : decode cX4_goneIn 52 = .ok (.aload_n 0, 1) := by decide +kernel
theorem dX4_goneIn_53 : decode cX4_goneIn 53 = .ok (.getfield 16, 3) := by decide +kernel
theorem dX4_goneIn_56 : decode cX4_goneIn 56 = .ok (.iload_n 1, 1) := by decide +kernel
theorem dX4_goneIn_57 : decode cX4_goneIn 57 = .ok (.invokestatic 196, 3) := by decide +kernel
theorem dX4_goneIn_60 : decode cX4_goneIn 60 = .ok (.ireturn, 1) := by decide +kernel
set_option maxRecDepth 20000 in
theorem ggX4_throughIn_X4_copyState : GoodIn wsX4_throughIn wsX4_copyState := goodIn_r _ [7] (by decide +kernel) (by decide +kernel)
set_option maxRecDepth 20000 in
theorem gX4_throughIn_X4_copyState : GoodIn wsX4_throughIn (va_wsS RX4 178 yX4_copyState wsX4_copyState) := goodIn_app (goodIn_of _ (by decide +kernel)) ggX4_throughIn_X4_copyState
set_option maxRecDepth 20000 in
theorem ggX4_throughIn_X4_until : GoodIn wsX4_throughIn wsX4_until := goodIn_r _ [10, 11, 12, 6, 13, 14, 15, 16, 17, 18, 19, 20, 21, 22, 23, 24, 25, 26, 27, 28, 29, 30, 31, 32, 33, 34, 35, 36, 37, 38, 39, 40, 41, 42, 43, 44, 45, 46, 47, 48, 49, 50, 51, 52, 53, 54, 55, 56, 57, 58] (by decide +kernel) (by decide +kernel)
set_option maxRecDepth 20000 in
theorem gX4_throughIn_X4_until : GoodIn wsX4_throughIn (va_wsS RX4 196 yX4_until wsX4_until) := goodIn_app (goodIn_of _ (by decide +kernel)) ggX4_throughIn_X4_until
theorem dX4_throughIn_0 : decode cX4_throughIn 0 = .ok (.aload_n 0, 1) := by decide +kernel
theorem dX4_throughIn_1 : decode cX4_throughIn 1 = .ok (.iconst 0, 1) := by decide +kernel
theorem dX4_throughIn_2 : decode cX4_throughIn 2 = .ok (.putfield 36, 3) := by decide +kernel
theorem dX4_throughIn_5 : decode cX4_throughIn 5 = .ok (.aload_n 0, 1) := by decide +kernel
theorem dX4_throughIn_6 : decode cX4_throughIn 6 = .ok (.getfield 13, 3) := by decide +kernel
theorem dX4_throughIn_9 : decode cX4_throughIn 9 = .ok (.iconst 0, 1) := by decide +kernel
theorem dX4_throughIn_10 : decode cX4_throughIn 10 = .ok (.aload_n 0, 1) := by decide +kernel
theorem dX4_throughIn_11 : decode cX4_throughIn 11 = .ok (.getfield 16, 3) := by decide +kernel
theorem dX4_throughIn_14 : decode cX4_throughIn 14 = .ok (.iconst 0, 1) := by decide +kernel
theorem dX4_throughIn_15 : decode cX4_throughIn 15 = .ok (.invokestatic 178, 3) := by decide +kernel
theorem dX4_throughIn_18 : decode cX4_throughIn 18 = .ok (.aload_n 0, 1) := by decide +kernel
theorem dX4_throughIn_19 : decode cX4_throughIn 19 = .ok (.getfield 16, 3) := by decide +kernel
theorem dX4_throughIn_22 : decode cX4_throughIn 22 = .ok (.iconst (-1), 1) := by decide +kernel
theorem dX4_throughIn_23 : decode cX4_throughIn 23 = .ok (.invokestatic 196, 3) := by decide +kernel
theorem dX4_throughIn_26 : decode cX4_throughIn 26 = .ok (.ireturn, 1) := by decide +kernel
set_option maxRecDepth 20000 in
theorem ggX4_bestRule_X4_copyState : GoodIn wsX4_bestRule wsX4_copyState := goodIn_r _ [7] (by decide +kernel) (by decide +kernel)
set_option maxRecDepth 20000 in
theorem gX4_bestRule_X4_copyState : GoodIn wsX4_bestRule (va_wsS RX4 178 yX4_copyState wsX4_copyState) := goodIn_app (goodIn_of _ (by decide +kernel)) ggX4_bestRule_X4_copyState
set_option maxRecDepth 20000 in
theorem ggX4_bestRule_X4_until : GoodIn wsX4_bestRule wsX4_until := goodIn_r _ [10, 11, 12, 6, 13, 14, 15, 16, 17, 18, 19, 20, 21, 22, 23, 24, 25, 26, 27, 28, 29, 30, 31, 32, 33, 34, 35, 36, 37, 38, 39, 40, 41, 42, 43, 44, 45, 46, 47, 48, 49, 50, 51, 52, 53, 54, 55, 56, 57, 58] (by decide +kernel) (by decide +kernel)
set_option maxRecDepth 20000 in
theorem gX4_bestRule_X4_until : GoodIn wsX4_bestRule (va_wsS RX4 196 yX4_until wsX4_until) := goodIn_app (goodIn_of _ (by decide +kernel)) ggX4_bestRule_X4_until
set_option maxRecDepth 20000 in
theorem ggX4_bestRule_X4_ticksOn : GoodIn wsX4_bestRule wsX4_ticksOn := goodIn_r _ [25, 14, 15, 6, 16, 17, 18, 19, 20, 21, 22, 26, 27, 28, 29, 30, 31, 32, 33, 34, 35, 36, 37, 38, 39, 40, 41, 42, 43, 44, 45, 46, 47, 48, 49, 50, 51, 52, 53, 54, 55, 56, 57, 58] (by decide +kernel) (by decide +kernel)
set_option maxRecDepth 20000 in
theorem gX4_bestRule_X4_ticksOn : GoodIn wsX4_bestRule (va_wsS RX4 122 yX4_ticksOn wsX4_ticksOn) := goodIn_app (goodIn_of _ (by decide +kernel)) ggX4_bestRule_X4_ticksOn
set_option maxRecDepth 20000 in
theorem ggX4_bestRule_X4_count : GoodIn wsX4_bestRule wsX4_count := goodIn_r _ [16, 17, 18, 6, 19, 20, 21, 22] (by decide +kernel) (by decide +kernel)
set_option maxRecDepth 20000 in
theorem gX4_bestRule_X4_count : GoodIn wsX4_bestRule (va_wsS RX4 92 yX4_count wsX4_count) := goodIn_app (goodIn_of _ (by decide +kernel)) ggX4_bestRule_X4_count
theorem dX4_bestRule_0 : decode cX4_bestRule 0 = .ok (.aload_n 0, 1) := by decide +kernel
theorem dX4_bestRule_1 : decode cX4_bestRule 1 = .ok (.iconst 0, 1) := by decide +kernel
theorem dX4_bestRule_2 : decode cX4_bestRule 2 = .ok (.putfield 36, 3) := by decide +kernel
theorem dX4_bestRule_5 : decode cX4_bestRule 5 = .ok (.iconst (-1), 1) := by decide +kernel
theorem dX4_bestRule_6 : decode cX4_bestRule 6 = .ok (.istore_n 1, 1) := by decide +kernel
theorem dX4_bestRule_7 : decode cX4_bestRule 7 = .ok (.iconst (-1), 1) := by decide +kernel
theorem dX4_bestRule_8 : decode cX4_bestRule 8 = .ok (.istore_n 2, 1) := by decide +kernel
theorem dX4_bestRule_9 : decode cX4_bestRule 9 = .ok (.iconst 0, 1) := by decide +kernel
theorem dX4_bestRule_10 : decode cX4_bestRule 10 = .ok (.istore_n 3, 1) := by decide +kernel
theorem dX4_bestRule_11 : decode cX4_bestRule 11 = .ok (.iconst 0, 1) := by decide +kernel
theorem dX4_bestRule_12 : decode cX4_bestRule 12 = .ok (.istore 4, 2) := by decide +kernel
theorem dX4_bestRule_14 : decode cX4_bestRule 14 = .ok (.iload 4, 2) := by decide +kernel
theorem dX4_bestRule_16 : decode cX4_bestRule 16 = .ok (.iconst 3, 1) := by decide +kernel
theorem dX4_bestRule_17 : decode cX4_bestRule 17 = .ok (.if_icmp .ge 159, 3) := by decide +kernel
theorem dX4_bestRule_20 : decode cX4_bestRule 20 = .ok (.aload_n 0, 1) := by decide +kernel
theorem dX4_bestRule_21 : decode cX4_bestRule 21 = .ok (.getfield 13, 3) := by decide +kernel
theorem dX4_bestRule_24 : decode cX4_bestRule 24 = .ok (.iconst 0, 1) := by decide +kernel
theorem dX4_bestRule_25 : decode cX4_bestRule 25 = .ok (.aload_n 0, 1) := by decide +kernel
theorem dX4_bestRule_26 : decode cX4_bestRule 26 = .ok (.getfield 16, 3) := by decide +kernel
theorem dX4_bestRule_29 : decode cX4_bestRule 29 = .ok (.iconst 0, 1) := by decide +kernel
theorem dX4_bestRule_30 : decode cX4_bestRule 30 = .ok (.invokestatic 178, 3) := by decide +kernel
theorem dX4_bestRule_33 : decode cX4_bestRule 33 = .ok (.aload_n 0, 1) := by decide +kernel
theorem dX4_bestRule_34 : decode cX4_bestRule 34 = .ok (.getfield 16, 3) := by decide +kernel
theorem dX4_bestRule_37 : decode cX4_bestRule 37 = .ok (.iconst 2, 1) := by decide +kernel
theorem dX4_bestRule_38 : decode cX4_bestRule 38 = .ok (.iload 4, 2) := by decide +kernel
theorem dX4_bestRule_40 : decode cX4_bestRule 40 = .ok (.iastore, 1) := by decide +kernel
theorem dX4_bestRule_41 : decode cX4_bestRule 41 = .ok (.aload_n 0, 1) := by decide +kernel
theorem dX4_bestRule_42 : decode cX4_bestRule 42 = .ok (.getfield 16, 3) := by decide +kernel
theorem dX4_bestRule_45 : decode cX4_bestRule 45 = .ok (.iconst (-1), 1) := by decide +kernel
theorem dX4_bestRule_46 : decode cX4_bestRule 46 = .ok (.invokestatic 196, 3) := by decide +kernel
theorem dX4_bestRule_49 : decode cX4_bestRule 49 = .ok (.istore 5, 2) := by decide +kernel
theorem dX4_bestRule_51 : decode cX4_bestRule 51 = .ok (.iload 5, 2) := by decide +kernel
theorem dX4_bestRule_53 : decode cX4_bestRule 53 = .ok (.iconst (-1), 1) := by decide +kernel
theorem dX4_bestRule_54 : decode cX4_bestRule 54 = .ok (.if_icmp .ne 9, 3) := by decide +kernel
theorem dX4_bestRule_57 : decode cX4_bestRule 57 = .ok (.sipush 201, 3) := by decide +kernel
theorem dX4_bestRule_60 : decode cX4_bestRule 60 = .ok (.goto 5, 3) := by decide +kernel
theorem dX4_bestRule_63 : decode cX4_bestRule 63 = .ok (.iload 5, 2) := by decide +kernel
theorem dX4_bestRule_65 : decode cX4_bestRule 65 = .ok (.istore 5, 2) := by decide +kernel
theorem dX4_bestRule_67 : decode cX4_bestRule 67 = .ok (.aload_n 0, 1) := by decide +kernel
theorem dX4_bestRule_68 : decode cX4_bestRule 68 = .ok (.getfield 13, 3) := by decide +kernel
theorem dX4_bestRule_71 : decode cX4_bestRule 71 = .ok (.iconst 0, 1) := by decide +kernel
theorem dX4_bestRule_72 : decode cX4_bestRule 72 = .ok (.aload_n 0, 1) := by decide +kernel
theorem dX4_bestRule_73 : decode cX4_bestRule 73 = .ok (.getfield 16, 3) := by decide +kernel
theorem dX4_bestRule_76 : decode cX4_bestRule 76 = .ok (.iconst 0, 1) := by decide +kernel
theorem dX4_bestRule_77 : decode cX4_bestRule 77 = .ok (.invokestatic 178, 3) := by decide +kernel
theorem dX4_bestRule_80 : decode cX4_bestRule 80 = .ok (.aload_n 0, 1) := by decide +kernel
theorem dX4_bestRule_81 : decode cX4_bestRule 81 = .ok (.getfield 16, 3) := by decide +kernel
theorem dX4_bestRule_84 : decode cX4_bestRule 84 = .ok (.iconst 2, 1) := by decide +kernel
theorem dX4_bestRule_85 : decode cX4_bestRule 85 = .ok (.iload 4, 2) := by decide +kernel
theorem dX4_bestRule_87 : decode cX4_bestRule 87 = .ok (.iastore, 1) := by decide +kernel
theorem dX4_bestRule_88 : decode cX4_bestRule 88 = .ok (.aload_n 0, 1) := by decide +kernel
theorem dX4_bestRule_89 : decode cX4_bestRule 89 = .ok (.getfield 16, 3) := by decide +kernel
theorem dX4_bestRule_92 : decode cX4_bestRule 92 = .ok (.sipush 200, 3) := by decide +kernel
theorem dX4_bestRule_95 : decode cX4_bestRule 95 = .ok (.invokestatic 122, 3) := by decide +kernel
theorem dX4_bestRule_98 : decode cX4_bestRule 98 = .ok (.pop, 1) := by decide +kernel
theorem dX4_bestRule_99 : decode cX4_bestRule 99 = .ok (.aload_n 0, 1) := by decide +kernel
theorem dX4_bestRule_100 : decode cX4_bestRule 100 = .ok (.getfield 16, 3) := by decide +kernel
theorem dX4_bestRule_103 : decode cX4_bestRule 103 = .ok (.iconst 2, 1) := by decide +kernel
theorem dX4_bestRule_104 : decode cX4_bestRule 104 = .ok (.invokestatic 92, 3) := by decide +kernel
theorem dX4_bestRule_107 : decode cX4_bestRule 107 = .ok (.istore 6, 2) := by decide +kernel
theorem dX4_bestRule_109 : decode cX4_bestRule 109 = .ok (.iload 6, 2) := by decide +kernel
theorem dX4_bestRule_111 : decode cX4_bestRule 111 = .ok (.iload_n 2, 1) := by decide +kernel
theorem dX4_bestRule_112 : decode cX4_bestRule 112 = .ok (.if_icmp .gt 15, 3) := by decide +kernel
theorem dX4_bestRule_115 : decode cX4_bestRule 115 = .ok (.iload 6, 2) := by decide +kernel
theorem dX4_bestRule_117 : decode cX4_bestRule 117 = .ok (.iload_n 2, 1) := by decide +kernel
theorem dX4_bestRule_118 : decode cX4_bestRule 118 = .ok (.if_icmp .ne 13, 3) := by decide +kernel
theorem dX4_bestRule_121 : decode cX4_bestRule 121 = .ok (.iload 5, 2) := by decide +kernel
theorem dX4_bestRule_123 : decode cX4_bestRule 123 = .ok (.iload_n 3, 1) := by decide +kernel
theorem dX4_bestRule_124 : decode cX4_bestRule 124 = .ok (.if_icmp .ge 7, 3) := by decide +kernel
theorem dX4_bestRule_127 : decode cX4_bestRule 127 = .ok (.iconst 1, 1) := by decide +kernel
theorem dX4_bestRule_128 : decode cX4_bestRule 128 = .ok (.goto 4, 3) := by decide +kernel
theorem dX4_bestRule_131 : decode cX4_bestRule 131 = .ok (.iconst 0, 1) := by decide +kernel
theorem dX4_bestRule_132 : decode cX4_bestRule 132 = .ok (.istore 7, 2) := by decide +kernel
theorem dX4_bestRule_134 : decode cX4_bestRule 134 = .ok (.iload 7, 2) := by decide +kernel
theorem dX4_bestRule_136 : decode cX4_bestRule 136 = .ok (.ifCond .eq 8, 3) := by decide +kernel
theorem dX4_bestRule_139 : decode cX4_bestRule 139 = .ok (.iload 4, 2) := by decide +kernel
theorem dX4_bestRule_141 : decode cX4_bestRule 141 = .ok (.goto 4, 3) := by decide +kernel
theorem dX4_bestRule_144 : decode cX4_bestRule 144 = .ok (.iload_n 1, 1) := by decide +kernel
theorem dX4_bestRule_145 : decode cX4_bestRule 145 = .ok (.istore_n 1, 1) := by decide +kernel
theorem dX4_bestRule_146 : decode cX4_bestRule 146 = .ok (.iload 7, 2) := by decide +kernel
theorem dX4_bestRule_148 : decode cX4_bestRule 148 = .ok (.ifCond .eq 8, 3) := by decide +kernel
theorem dX4_bestRule_151 : decode cX4_bestRule 151 = .ok (.iload 5, 2) := by decide +kernel
theorem dX4_bestRule_153 : decode cX4_bestRule 153 = .ok (.goto 4, 3) := by decide +kernel
theorem dX4_bestRule_156 : decode cX4_bestRule 156 = .ok (.iload_n 3, 1) := by decide +kernel
theorem dX4_bestRule_157 : decode cX4_bestRule 157 = .ok (.istore_n 3, 1) := by decide +kernel
theorem dX4_bestRule_158 : decode cX4_bestRule 158 = .ok (.iload 7, 2) := by decide +kernel
theorem dX4_bestRule_160 : decode cX4_bestRule 160 = .ok (.ifCond .eq 8, 3) := by decide +kernel
theorem dX4_bestRule_163 : decode cX4_bestRule 163 = .ok (.iload 6, 2) := by decide +kernel
theorem dX4_bestRule_165 : decode cX4_bestRule 165 = .ok (.goto 4, 3) := by decide +kernel
theorem dX4_bestRule_168 : decode cX4_bestRule 168 = .ok (.iload_n 2, 1) := by decide +kernel
theorem dX4_bestRule_169 : decode cX4_bestRule 169 = .ok (.istore_n 2, 1) := by decide +kernel
theorem dX4_bestRule_170 : decode cX4_bestRule 170 = .ok (.iinc 4 1, 3) := by decide +kernel
theorem dX4_bestRule_173 : decode cX4_bestRule 173 = .ok (.goto (-159), 3) := by decide +kernel
theorem dX4_bestRule_176 : decode cX4_bestRule 176 = .ok (.iload_n 1, 1) := by decide +kernel
theorem dX4_bestRule_177 : decode cX4_bestRule 177 = .ok (.ireturn, 1) := by decide +kernel
set_option maxRecDepth 20000 in
theorem ggX4_bestPull_X4_copyState : GoodIn wsX4_bestPull wsX4_copyState := goodIn_r _ [8] (by decide +kernel) (by decide +kernel)
set_option maxRecDepth 20000 in
theorem gX4_bestPull_X4_copyState : GoodIn wsX4_bestPull (va_wsS RX4 178 yX4_copyState wsX4_copyState) := goodIn_app (goodIn_of _ (by decide +kernel)) ggX4_bestPull_X4_copyState
set_option maxRecDepth 20000 in
theorem ggX4_bestPull_X4_ticksOn : GoodIn wsX4_bestPull wsX4_ticksOn := goodIn_r _ [11, 12, 13, 7, 14, 15, 16, 17, 18, 19, 20, 21, 22, 23, 24, 25, 26, 27, 28, 29, 30, 31, 32, 33, 34, 35, 36, 37, 38, 39, 40, 41, 42, 43, 44, 45, 46, 47, 48, 49, 50, 51, 52, 53] (by decide +kernel) (by decide +kernel)
set_option maxRecDepth 20000 in
theorem gX4_bestPull_X4_ticksOn : GoodIn wsX4_bestPull (va_wsS RX4 122 yX4_ticksOn wsX4_ticksOn) := goodIn_app (goodIn_of _ (by decide +kernel)) ggX4_bestPull_X4_ticksOn
set_option maxRecDepth 20000 in
theorem ggX4_bestPull_X4_count : GoodIn wsX4_bestPull wsX4_count := goodIn_r _ [14, 15, 16, 7, 17, 18, 19, 20] (by decide +kernel) (by decide +kernel)
set_option maxRecDepth 20000 in
theorem gX4_bestPull_X4_count : GoodIn wsX4_bestPull (va_wsS RX4 92 yX4_count wsX4_count) := goodIn_app (goodIn_of _ (by decide +kernel)) ggX4_bestPull_X4_count
set_option maxRecDepth 20000 in
theorem ggX4_bestPull_X4_canPull : GoodIn wsX4_bestPull wsX4_canPull := goodIn_r _ [56, 57, 58, 7, 59, 60, 61, 62, 18, 19, 20] (by decide +kernel) (by decide +kernel)
set_option maxRecDepth 20000 in
theorem gX4_bestPull_X4_canPull : GoodIn wsX4_bestPull (va_wsS RX4 166 yX4_canPull wsX4_canPull) := goodIn_app (goodIn_of _ (by decide +kernel)) ggX4_bestPull_X4_canPull
set_option maxRecDepth 20000 in
theorem ggX4_bestPull_X4_pullOn : GoodIn wsX4_bestPull wsX4_pullOn := goodIn_r _ [65, 18, 19, 7, 20, 45, 46, 47] (by decide +kernel) (by decide +kernel)
set_option maxRecDepth 20000 in
theorem gX4_bestPull_X4_pullOn : GoodIn wsX4_bestPull (va_wsS RX4 169 yX4_pullOn wsX4_pullOn) := goodIn_app (goodIn_of _ (by decide +kernel)) ggX4_bestPull_X4_pullOn
set_option maxRecDepth 20000 in
theorem ggX4_bestPull_X4_isIn : GoodIn wsX4_bestPull wsX4_isIn := goodIn_r _ [17, 18, 19, 7, 20] (by decide +kernel) (by decide +kernel)
set_option maxRecDepth 20000 in
theorem gX4_bestPull_X4_isIn : GoodIn wsX4_bestPull (va_wsS RX4 52 yX4_isIn wsX4_isIn) := goodIn_app (goodIn_of _ (by decide +kernel)) ggX4_bestPull_X4_isIn
theorem dX4_bestPull_0 : decode cX4_bestPull 0 = .ok (.aload_n 0, 1) := by decide +kernel
theorem dX4_bestPull_1 : decode cX4_bestPull 1 = .ok (.iconst 0, 1) := by decide +kernel
theorem dX4_bestPull_2 : decode cX4_bestPull 2 = .ok (.putfield 36, 3) := by decide +kernel
theorem dX4_bestPull_5 : decode cX4_bestPull 5 = .ok (.aload_n 0, 1) := by decide +kernel
theorem dX4_bestPull_6 : decode cX4_bestPull 6 = .ok (.getfield 13, 3) := by decide +kernel
theorem dX4_bestPull_9 : decode cX4_bestPull 9 = .ok (.iconst 0, 1) := by decide +kernel
theorem dX4_bestPull_10 : decode cX4_bestPull 10 = .ok (.aload_n 0, 1) := by decide +kernel
theorem dX4_bestPull_11 : decode cX4_bestPull 11 = .ok (.getfield 19, 3) := by decide +kernel
theorem dX4_bestPull_14 : decode cX4_bestPull 14 = .ok (.iconst 0, 1) := by decide +kernel
theorem dX4_bestPull_15 : decode cX4_bestPull 15 = .ok (.invokestatic 178, 3) := by decide +kernel
theorem dX4_bestPull_18 : decode cX4_bestPull 18 = .ok (.aload_n 0, 1) := by decide +kernel
theorem dX4_bestPull_19 : decode cX4_bestPull 19 = .ok (.getfield 19, 3) := by decide +kernel
theorem dX4_bestPull_22 : decode cX4_bestPull 22 = .ok (.sipush 200, 3) := by decide +kernel
theorem dX4_bestPull_25 : decode cX4_bestPull 25 = .ok (.invokestatic 122, 3) := by decide +kernel
theorem dX4_bestPull_28 : decode cX4_bestPull 28 = .ok (.pop, 1) := by decide +kernel
theorem dX4_bestPull_29 : decode cX4_bestPull 29 = .ok (.aload_n 0, 1) := by decide +kernel
theorem dX4_bestPull_30 : decode cX4_bestPull 30 = .ok (.getfield 19, 3) := by decide +kernel
theorem dX4_bestPull_33 : decode cX4_bestPull 33 = .ok (.iconst 2, 1) := by decide +kernel
theorem dX4_bestPull_34 : decode cX4_bestPull 34 = .ok (.invokestatic 92, 3) := by decide +kernel
theorem dX4_bestPull_37 : decode cX4_bestPull 37 = .ok (.istore_n 1, 1) := by decide +kernel
theorem dX4_bestPull_38 : decode cX4_bestPull 38 = .ok (.iconst (-1), 1) := by decide +kernel
theorem dX4_bestPull_39 : decode cX4_bestPull 39 = .ok (.istore_n 2, 1) := by decide +kernel
theorem dX4_bestPull_40 : decode cX4_bestPull 40 = .ok (.iconst 0, 1) := by decide +kernel
theorem dX4_bestPull_41 : decode cX4_bestPull 41 = .ok (.istore_n 3, 1) := by decide +kernel
theorem dX4_bestPull_42 : decode cX4_bestPull 42 = .ok (.iconst 0, 1) := by decide +kernel
theorem dX4_bestPull_43 : decode cX4_bestPull 43 = .ok (.istore 4, 2) := by decide +kernel
theorem dX4_bestPull_45 : decode cX4_bestPull 45 = .ok (.iload 4, 2) := by decide +kernel
theorem dX4_bestPull_47 : decode cX4_bestPull 47 = .ok (.aload_n 0, 1) := by decide +kernel
theorem dX4_bestPull_48 : decode cX4_bestPull 48 = .ok (.getfield 13, 3) := by decide +kernel
theorem dX4_bestPull_51 : decode cX4_bestPull 51 = .ok (.iconst 0, 1) := by decide +kernel
theorem dX4_bestPull_52 : decode cX4_bestPull 52 = .ok (.iaload, 1) := by decide +kernel
theorem dX4_bestPull_53 : decode cX4_bestPull 53 = .ok (.if_icmp .ge 133, 3) := by decide +kernel
theorem dX4_bestPull_56 : decode cX4_bestPull 56 = .ok (.aload_n 0, 1) := by decide +kernel
theorem dX4_bestPull_57 : decode cX4_bestPull 57 = .ok (.getfield 13, 3) := by decide +kernel
theorem dX4_bestPull_60 : decode cX4_bestPull 60 = .ok (.iload 4, 2) := by decide +kernel
theorem dX4_bestPull_62 : decode cX4_bestPull 62 = .ok (.invokestatic 166, 3) := by decide +kernel
theorem dX4_bestPull_65 : decode cX4_bestPull 65 = .ok (.ifCond .eq 115, 3) := by decide +kernel
theorem dX4_bestPull_68 : decode cX4_bestPull 68 = .ok (.aload_n 0, 1) := by decide +kernel
theorem dX4_bestPull_69 : decode cX4_bestPull 69 = .ok (.getfield 13, 3) := by decide +kernel
theorem dX4_bestPull_72 : decode cX4_bestPull 72 = .ok (.iconst 0, 1) := by decide +kernel
theorem dX4_bestPull_73 : decode cX4_bestPull 73 = .ok (.aload_n 0, 1) := by decide +kernel
theorem dX4_bestPull_74 : decode cX4_bestPull 74 = .ok (.getfield 16, 3) := by decide +kernel
theorem dX4_bestPull_77 : decode cX4_bestPull 77 = .ok (.iconst 0, 1) := by decide +kernel
theorem dX4_bestPull_78 : decode cX4_bestPull 78 = .ok (.invokestatic 178, 3) := by decide +kernel
theorem dX4_bestPull_81 : decode cX4_bestPull 81 = .ok (.aload_n 0, 1) := by decide +kernel
theorem dX4_bestPull_82 : decode cX4_bestPull 82 = .ok (.getfield 16, 3) := by decide +kernel
theorem dX4_bestPull_85 : decode cX4_bestPull 85 = .ok (.iload 4, 2) := by decide +kernel
theorem dX4_bestPull_87 : decode cX4_bestPull 87 = .ok (.invokestatic 169, 3) := by decide +kernel
theorem dX4_bestPull_90 : decode cX4_bestPull 90 = .ok (.pop, 1) := by decide +kernel
theorem dX4_bestPull_91 : decode cX4_bestPull 91 = .ok (.aload_n 0, 1) := by decide +kernel
theorem dX4_bestPull_92 : decode cX4_bestPull 92 = .ok (.getfield 16, 3) := by decide +kernel
theorem dX4_bestPull_95 : decode cX4_bestPull 95 = .ok (.sipush 200, 3) := by decide +kernel
theorem dX4_bestPull_98 : decode cX4_bestPull 98 = .ok (.invokestatic 122, 3) := by decide +kernel
theorem dX4_bestPull_101 : decode cX4_bestPull 101 = .ok (.pop, 1) := by decide +kernel
theorem dX4_bestPull_102 : decode cX4_bestPull 102 = .ok (.aload_n 0, 1) := by decide +kernel
theorem dX4_bestPull_103 : decode cX4_bestPull 103 = .ok (.getfield 16, 3) := by decide +kernel
theorem dX4_bestPull_106 : decode cX4_bestPull 106 = .ok (.iconst 2, 1) := by decide +kernel
theorem dX4_bestPull_107 : decode cX4_bestPull 107 = .ok (.invokestatic 92, 3) := by decide +kernel
theorem dX4_bestPull_110 : decode cX4_bestPull 110 = .ok (.istore 5, 2) := by decide +kernel
theorem dX4_bestPull_112 : decode cX4_bestPull 112 = .ok (.iload 5, 2) := by decide +kernel
theorem dX4_bestPull_114 : decode cX4_bestPull 114 = .ok (.iload_n 1, 1) := by decide +kernel
theorem dX4_bestPull_115 : decode cX4_bestPull 115 = .ok (.aload_n 0, 1) := by decide +kernel
theorem dX4_bestPull_116 : decode cX4_bestPull 116 = .ok (.getfield 19, 3) := by decide +kernel
theorem dX4_bestPull_119 : decode cX4_bestPull 119 = .ok (.iload 4, 2) := by decide +kernel
theorem dX4_bestPull_121 : decode cX4_bestPull 121 = .ok (.iconst 2, 1) := by decide +kernel
theorem dX4_bestPull_122 : decode cX4_bestPull 122 = .ok (.invokestatic 52, 3) := by decide +kernel
theorem dX4_bestPull_125 : decode cX4_bestPull 125 = .ok (.ifCond .eq 7, 3) := by decide +kernel
theorem dX4_bestPull_128 : decode cX4_bestPull 128 = .ok (.iconst 1, 1) := by decide +kernel
theorem dX4_bestPull_129 : decode cX4_bestPull 129 = .ok (.goto 4, 3) := by decide +kernel
theorem dX4_bestPull_132 : decode cX4_bestPull 132 = .ok (.iconst 0, 1) := by decide +kernel
theorem dX4_bestPull_133 : decode cX4_bestPull 133 = .ok (.isub, 1) := by decide +kernel
theorem dX4_bestPull_134 : decode cX4_bestPull 134 = .ok (.if_icmp .le 7, 3) := by decide +kernel
theorem dX4_bestPull_137 : decode cX4_bestPull 137 = .ok (.iconst 1, 1) := by decide +kernel
theorem dX4_bestPull_138 : decode cX4_bestPull 138 = .ok (.goto 4, 3) := by decide +kernel
theorem dX4_bestPull_141 : decode cX4_bestPull 141 = .ok (.iconst 0, 1) := by decide +kernel
theorem dX4_bestPull_142 : decode cX4_bestPull 142 = .ok (.istore 6, 2) := by decide +kernel
theorem dX4_bestPull_144 : decode cX4_bestPull 144 = .ok (.iload 6, 2) := by decide +kernel
theorem dX4_bestPull_146 : decode cX4_bestPull 146 = .ok (.ifCond .eq 19, 3) := by decide +kernel
theorem dX4_bestPull_149 : decode cX4_bestPull 149 = .ok (.iload_n 2, 1) := by decide +kernel
theorem dX4_bestPull_150 : decode cX4_bestPull 150 = .ok (.iconst (-1), 1) := by decide +kernel
theorem dX4_bestPull_151 : decode cX4_bestPull 151 = .ok (.if_icmp .eq 9, 3) := by decide +kernel
theorem dX4_bestPull_154 : decode cX4_bestPull 154 = .ok (.iload 5, 2) := by decide +kernel
theorem dX4_bestPull_156 : decode cX4_bestPull 156 = .ok (.iload_n 3, 1) := by decide +kernel
theorem dX4_bestPull_157 : decode cX4_bestPull 157 = .ok (.if_icmp .le 8, 3) := by decide +kernel
theorem dX4_bestPull_160 : decode cX4_bestPull 160 = .ok (.iload 4, 2) := by decide +kernel
theorem dX4_bestPull_162 : decode cX4_bestPull 162 = .ok (.goto 4, 3) := by decide +kernel
theorem dX4_bestPull_165 : decode cX4_bestPull 165 = .ok (.iload_n 2, 1) := by decide +kernel
theorem dX4_bestPull_166 : decode cX4_bestPull 166 = .ok (.istore_n 2, 1) := by decide +kernel
theorem dX4_bestPull_167 : decode cX4_bestPull 167 = .ok (.iload_n 2, 1) := by decide +kernel
theorem dX4_bestPull_168 : decode cX4_bestPull 168 = .ok (.iload 4, 2) := by decide +kernel
theorem dX4_bestPull_170 : decode cX4_bestPull 170 = .ok (.if_icmp .ne 8, 3) := by decide +kernel
theorem dX4_bestPull_173 : decode cX4_bestPull 173 = .ok (.iload 5, 2) := by decide +kernel
theorem dX4_bestPull_175 : decode cX4_bestPull 175 = .ok (.goto 4, 3) := by decide +kernel
theorem dX4_bestPull_178 : decode cX4_bestPull 178 = .ok (.iload_n 3, 1) := by decide +kernel
theorem dX4_bestPull_179 : decode cX4_bestPull 179 = .ok (.istore_n 3, 1) := by decide +kernel
theorem dX4_bestPull_180 : decode cX4_bestPull 180 = .ok (.iinc 4 1, 3) := by decide +kernel
theorem dX4_bestPull_183 : decode cX4_bestPull 183 = .ok (.goto (-138), 3) := by decide +kernel
theorem dX4_bestPull_186 : decode cX4_bestPull 186 = .ok (.iload_n 2, 1) := by decide +kernel
theorem dX4_bestPull_187 : decode cX4_bestPull 187 = .ok (.ireturn, 1) := by decide +kernel
set_option maxRecDepth 20000 in
theorem ggX4_ifHatched_X4_isRoom : GoodIn wsX4_ifHatched wsX4_isRoom := goodIn_r _ [6, 7, 8, 9, 5, 10] (by decide +kernel) (by decide +kernel)
set_option maxRecDepth 20000 in
theorem gX4_ifHatched_X4_isRoom : GoodIn wsX4_ifHatched (va_wsS RX4 98 yX4_isRoom wsX4_isRoom) := goodIn_app (goodIn_of _ (by decide +kernel)) ggX4_ifHatched_X4_isRoom
set_option maxRecDepth 20000 in
theorem ggX4_ifHatched_X4_isLength : GoodIn wsX4_ifHatched wsX4_isLength := goodIn_r _ [13, 14, 8, 9, 5, 10] (by decide +kernel) (by decide +kernel)
set_option maxRecDepth 20000 in
theorem gX4_ifHatched_X4_isLength : GoodIn wsX4_ifHatched (va_wsS RX4 102 yX4_isLength wsX4_isLength) := goodIn_app (goodIn_of _ (by decide +kernel)) ggX4_ifHatched_X4_isLength
set_option maxRecDepth 20000 in
theorem ggX4_ifHatched_X4_refused : GoodIn wsX4_ifHatched wsX4_refused := goodIn_r _ [18, 19, 77, 78, 79, 80, 81, 82, 83, 84, 85, 86, 87, 88] (by decide +kernel) (by decide +kernel)
set_option maxRecDepth 20000 in
theorem gX4_ifHatched_X4_refused : GoodIn wsX4_ifHatched (wsV RX4 130 RX4 yX4_refused wsX4_refused) := goodIn_app (goodIn_of _ (by decide +kernel)) ggX4_ifHatched_X4_refused
set_option maxRecDepth 20000 in
theorem ggX4_ifHatched_X4_copyState : GoodIn wsX4_ifHatched wsX4_copyState := goodIn_r _ [22] (by decide +kernel) (by decide +kernel)
set_option maxRecDepth 20000 in
theorem gX4_ifHatched_X4_copyState : GoodIn wsX4_ifHatched (va_wsS RX4 178 yX4_copyState wsX4_copyState) := goodIn_app (goodIn_of _ (by decide +kernel)) ggX4_ifHatched_X4_copyState
set_option maxRecDepth 20000 in
theorem ggX4_ifHatched_X4_hatchOn : GoodIn wsX4_ifHatched wsX4_hatchOn := goodIn_r _ [25, 26, 27, 5, 28] (by decide +kernel) (by decide +kernel)
set_option maxRecDepth 20000 in
theorem gX4_ifHatched_X4_hatchOn : GoodIn wsX4_ifHatched (va_wsS RX4 147 yX4_hatchOn wsX4_hatchOn) := goodIn_app (goodIn_of _ (by decide +kernel)) ggX4_ifHatched_X4_hatchOn
set_option maxRecDepth 20000 in
theorem ggX4_ifHatched_X4_until : GoodIn wsX4_ifHatched wsX4_until := goodIn_r _ [31, 32, 33, 5, 34, 35, 36, 37, 38, 39, 40, 41, 42, 43, 44, 45, 46, 47, 48, 49, 50, 51, 52, 53, 54, 55, 56, 57, 58, 59, 60, 61, 62, 63, 64, 65, 66, 67, 68, 69, 70, 26, 27, 28, 71, 72, 73, 74, 75, 76] (by decide +kernel) (by decide +kernel)
set_option maxRecDepth 20000 in
theorem gX4_ifHatched_X4_until : GoodIn wsX4_ifHatched (va_wsS RX4 196 yX4_until wsX4_until) := goodIn_app (goodIn_of _ (by decide +kernel)) ggX4_ifHatched_X4_until
theorem dX4_ifHatched_0 : decode cX4_ifHatched 0 = .ok (.aload_n 0, 1) := by decide +kernel
theorem dX4_ifHatched_1 : decode cX4_ifHatched 1 = .ok (.iload_n 1, 1) := by decide +kernel
theorem dX4_ifHatched_2 : decode cX4_ifHatched 2 = .ok (.invokestatic 98, 3) := by decide +kernel
theorem dX4_ifHatched_5 : decode cX4_ifHatched 5 = .ok (.ifCond .eq 10, 3) := by decide +kernel
theorem dX4_ifHatched_8 : decode cX4_ifHatched 8 = .ok (.iload_n 2, 1) := by decide +kernel
theorem dX4_ifHatched_9 : decode cX4_ifHatched 9 = .ok (.invokestatic 98, 3) := by decide +kernel
theorem dX4_ifHatched_12 : decode cX4_ifHatched 12 = .ok (.ifCond .ne 7, 3) := by decide +kernel
theorem dX4_ifHatched_15 : decode cX4_ifHatched 15 = .ok (.iconst 1, 1) := by decide +kernel
theorem dX4_ifHatched_16 : decode cX4_ifHatched 16 = .ok (.goto 15, 3) := by decide +kernel
theorem dX4_ifHatched_19 : decode cX4_ifHatched 19 = .ok (.iload_n 3, 1) := by decide +kernel
theorem dX4_ifHatched_20 : decode cX4_ifHatched 20 = .ok (.invokestatic 102, 3) := by decide +kernel
theorem dX4_ifHatched_23 : decode cX4_ifHatched 23 = .ok (.ifCond .eq 7, 3) := by decide +kernel
theorem dX4_ifHatched_26 : decode cX4_ifHatched 26 = .ok (.iconst 0, 1) := by decide +kernel
theorem dX4_ifHatched_27 : decode cX4_ifHatched 27 = .ok (.goto 4, 3) := by decide +kernel
theorem dX4_ifHatched_30 : decode cX4_ifHatched 30 = .ok (.iconst 2, 1) := by decide +kernel
theorem dX4_ifHatched_31 : decode cX4_ifHatched 31 = .ok (.invokevirtual 130, 3) := by decide +kernel
theorem dX4_ifHatched_34 : decode cX4_ifHatched 34 = .ok (.ifCond .eq 5, 3) := by decide +kernel
theorem dX4_ifHatched_37 : decode cX4_ifHatched 37 = .ok (.iconst 0, 1) := by decide +kernel
theorem dX4_ifHatched_38 : decode cX4_ifHatched 38 = .ok (.ireturn, 1) := by decide +kernel
theorem dX4_ifHatched_39 : decode cX4_ifHatched 39 = .ok (.aload_n 0, 1) := by decide +kernel
theorem dX4_ifHatched_40 : decode cX4_ifHatched 40 = .ok (.getfield 13, 3) := by decide +kernel
theorem dX4_ifHatched_43 : decode cX4_ifHatched 43 = .ok (.iconst 0, 1) := by decide +kernel
theorem dX4_ifHatched_44 : decode cX4_ifHatched 44 = .ok (.iaload, 1) := by decide +kernel
theorem dX4_ifHatched_45 : decode cX4_ifHatched 45 = .ok (.bipush 10, 2) := by decide +kernel
theorem dX4_ifHatched_47 : decode cX4_ifHatched 47 = .ok (.if_icmp .ne 5, 3) := by decide +kernel
theorem dX4_ifHatched_50 : decode cX4_ifHatched 50 = .ok (.iconst (-1), 1) := by decide +kernel
theorem dX4_ifHatched_51 : decode cX4_ifHatched 51 = .ok (.ireturn, 1) := by decide +kernel
theorem dX4_ifHatched_52 : decode cX4_ifHatched 52 = .ok (.aload_n 0, 1) := by decide +kernel
theorem dX4_ifHatched_53 : decode cX4_ifHatched 53 = .ok (.getfield 13, 3) := by decide +kernel
theorem dX4_ifHatched_56 : decode cX4_ifHatched 56 = .ok (.iconst 0, 1) := by decide +kernel
theorem dX4_ifHatched_57 : decode cX4_ifHatched 57 = .ok (.aload_n 0, 1) := by decide +kernel
theorem dX4_ifHatched_58 : decode cX4_ifHatched 58 = .ok (.getfield 16, 3) := by decide +kernel
theorem dX4_ifHatched_61 : decode cX4_ifHatched 61 = .ok (.iconst 0, 1) := by decide +kernel
theorem dX4_ifHatched_62 : decode cX4_ifHatched 62 = .ok (.invokestatic 178, 3) := by decide +kernel
theorem dX4_ifHatched_65 : decode cX4_ifHatched 65 = .ok (.aload_n 0, 1) := by decide +kernel
theorem dX4_ifHatched_66 : decode cX4_ifHatched 66 = .ok (.getfield 16, 3) := by decide +kernel
theorem dX4_ifHatched_69 : decode cX4_ifHatched 69 = .ok (.aload_n 0, 1) := by decide +kernel
theorem dX4_ifHatched_70 : decode cX4_ifHatched 70 = .ok (.getfield 16, 3) := by decide +kernel
theorem dX4_ifHatched_73 : decode cX4_ifHatched 73 = .ok (.iload_n 1, 1) := by decide +kernel
theorem dX4_ifHatched_74 : decode cX4_ifHatched 74 = .ok (.iload_n 2, 1) := by decide +kernel
theorem dX4_ifHatched_75 : decode cX4_ifHatched 75 = .ok (.iload_n 3, 1) := by decide +kernel
theorem dX4_ifHatched_76 : decode cX4_ifHatched 76 = .ok (.invokestatic 147, 3) := by decide +kernel
theorem dX4_ifHatched_79 : decode cX4_ifHatched 79 = .ok (.invokestatic 196, 3) := by decide +kernel
theorem dX4_ifHatched_82 : decode cX4_ifHatched 82 = .ok (.ireturn, 1) := by decide +kernel
set_option maxRecDepth 20000 in
theorem ggX4_isThroughIn_X4_copyState : GoodIn wsX4_isThroughIn wsX4_copyState := goodIn_r _ [6] (by decide +kernel) (by decide +kernel)
set_option maxRecDepth 20000 in
theorem gX4_isThroughIn_X4_copyState : GoodIn wsX4_isThroughIn (va_wsS RX4 178 yX4_copyState wsX4_copyState) := goodIn_app (goodIn_of _ (by decide +kernel)) ggX4_isThroughIn_X4_copyState
set_option maxRecDepth 20000 in
theorem ggX4_isThroughIn_X4_until : GoodIn wsX4_isThroughIn wsX4_until := goodIn_r _ [9, 10, 11, 5, 12, 13, 14, 15, 16, 17, 18, 19, 20, 21, 22, 23, 24, 25, 26, 27, 28, 29, 30, 31, 32, 33, 34, 35, 36, 37, 38, 39, 40, 41, 42, 43, 44, 45, 46, 47, 48, 49, 50, 51, 52, 53, 54, 55, 56, 57] (by decide +kernel) (by decide +kernel)
set_option maxRecDepth 20000 in
theorem gX4_isThroughIn_X4_until : GoodIn wsX4_isThroughIn (va_wsS RX4 196 yX4_until wsX4_until) := goodIn_app (goodIn_of _ (by decide +kernel)) ggX4_isThroughIn_X4_until
theorem dX4_isThroughIn_0 : decode cX4_isThroughIn 0 = .ok (.aload_n 0, 1) := by decide +kernel
theorem dX4_isThroughIn_1 : decode cX4_isThroughIn 1 = .ok (.getfield 16, 3) := by decide +kernel
theorem dX4_isThroughIn_4 : decode cX4_isThroughIn 4 = .ok (.iconst 0, 1) := by decide +kernel
theorem dX4_isThroughIn_5 : decode cX4_isThroughIn 5 = .ok (.aload_n 0, 1) := by decide +kernel
theorem dX4_isThroughIn_6 : decode cX4_isThroughIn 6 = .ok (.getfield 19, 3) := by decide +kernel
theorem dX4_isThroughIn_9 : decode cX4_isThroughIn 9 = .ok (.iconst 0, 1) := by decide +kernel
theorem dX4_isThroughIn_10 : decode cX4_isThroughIn 10 = .ok (.invokestatic 178, 3) := by decide +kernel
theorem dX4_isThroughIn_13 : decode cX4_isThroughIn 13 = .ok (.aload_n 0, 1) := by decide +kernel
theorem dX4_isThroughIn_14 : decode cX4_isThroughIn 14 = .ok (.getfield 19, 3) := by decide +kernel
theorem dX4_isThroughIn_17 : decode cX4_isThroughIn 17 = .ok (.iconst (-1), 1) := by decide +kernel
theorem dX4_isThroughIn_18 : decode cX4_isThroughIn 18 = .ok (.invokestatic 196, 3) := by decide +kernel
theorem dX4_isThroughIn_21 : decode cX4_isThroughIn 21 = .ok (.istore_n 2, 1) := by decide +kernel
theorem dX4_isThroughIn_22 : decode cX4_isThroughIn 22 = .ok (.iload_n 2, 1) := by decide +kernel
theorem dX4_isThroughIn_23 : decode cX4_isThroughIn 23 = .ok (.iconst (-1), 1) := by decide +kernel
theorem dX4_isThroughIn_24 : decode cX4_isThroughIn 24 = .ok (.if_icmp .eq 12, 3) := by decide +kernel
theorem dX4_isThroughIn_27 : decode cX4_isThroughIn 27 = .ok (.iload_n 2, 1) := by decide +kernel
theorem dX4_isThroughIn_28 : decode cX4_isThroughIn 28 = .ok (.iload_n 1, 1) := by decide +kernel
theorem dX4_isThroughIn_29 : decode cX4_isThroughIn 29 = .ok (.if_icmp .gt 7, 3) := by decide +kernel
theorem dX4_isThroughIn_32 : decode cX4_isThroughIn 32 = .ok (.iconst 1, 1) := by decide +kernel
theorem dX4_isThroughIn_33 : decode cX4_isThroughIn 33 = .ok (.goto 4, 3) := by decide +kernel
theorem dX4_isThroughIn_36 : decode cX4_isThroughIn 36 = .ok (.iconst 0, 1) := by decide +kernel
theorem dX4_isThroughIn_37 : decode cX4_isThroughIn 37 = .ok (.ireturn, 1) := by decide +kernel
set_option maxRecDepth 20000 in
theorem ggX4_command_X4_in : GoodIn wsX4_command wsX4_in := goodIn_r _ [6] (by decide +kernel) (by decide +kernel)
set_option maxRecDepth 20000 in
theorem gX4_command_X4_in : GoodIn wsX4_command (va_wsS RX4 42 yX4_in wsX4_in) := goodIn_app (goodIn_of _ (by decide +kernel)) ggX4_command_X4_in
set_option maxRecDepth 20000 in
theorem ggX4_command_X4_ticksOn : GoodIn wsX4_command wsX4_ticksOn := goodIn_r _ [9, 10, 11, 5, 12, 13, 14, 15, 16, 17, 18, 19, 20, 21, 22, 23, 24, 25, 26, 27, 28, 29, 30, 31, 32, 33, 34, 35, 36, 37, 38, 39, 40, 41, 42, 43, 44, 45, 46, 47, 48, 49, 50, 51] (by decide +kernel) (by decide +kernel)
set_option maxRecDepth 20000 in
theorem gX4_command_X4_ticksOn : GoodIn wsX4_command (va_wsS RX4 122 yX4_ticksOn wsX4_ticksOn) := goodIn_app (goodIn_of _ (by decide +kernel)) ggX4_command_X4_ticksOn
set_option maxRecDepth 20000 in
theorem ggX4_command_X4_canHatch : GoodIn wsX4_command wsX4_canHatch := goodIn_r _ [54, 55, 56, 5, 57, 58, 3, 4, 6, 59, 60, 61, 62] (by decide +kernel) (by decide +kernel)
set_option maxRecDepth 20000 in
theorem gX4_command_X4_canHatch : GoodIn wsX4_command (va_wsS RX4 143 yX4_canHatch wsX4_canHatch) := goodIn_app (goodIn_of _ (by decide +kernel)) ggX4_command_X4_canHatch
set_option maxRecDepth 20000 in
theorem ggX4_command_X4_hatchOn : GoodIn wsX4_command wsX4_hatchOn := goodIn_r _ [65, 43, 44, 5, 45] (by decide +kernel) (by decide +kernel)
set_option maxRecDepth 20000 in
theorem gX4_command_X4_hatchOn : GoodIn wsX4_command (va_wsS RX4 147 yX4_hatchOn wsX4_hatchOn) := goodIn_app (goodIn_of _ (by decide +kernel)) ggX4_command_X4_hatchOn
set_option maxRecDepth 20000 in
theorem ggX4_command_X4_ruleOn : GoodIn wsX4_command wsX4_ruleOn := goodIn_r _ [68] (by decide +kernel) (by decide +kernel)
set_option maxRecDepth 20000 in
theorem gX4_command_X4_ruleOn : GoodIn wsX4_command (va_wsS RX4 163 yX4_ruleOn wsX4_ruleOn) := goodIn_app (goodIn_of _ (by decide +kernel)) ggX4_command_X4_ruleOn
set_option maxRecDepth 20000 in
theorem ggX4_command_X4_canShut : GoodIn wsX4_command wsX4_canShut := goodIn_r _ [71, 55, 56, 5, 57, 58, 3, 4, 6, 37, 38, 39, 16, 17, 18] (by decide +kernel) (by decide +kernel)
set_option maxRecDepth 20000 in
theorem gX4_command_X4_canShut : GoodIn wsX4_command (va_wsS RX4 155 yX4_canShut wsX4_canShut) := goodIn_app (goodIn_of _ (by decide +kernel)) ggX4_command_X4_canShut
set_option maxRecDepth 20000 in
theorem ggX4_command_X4_shutOn : GoodIn wsX4_command wsX4_shutOn := goodIn_r _ [74, 75, 76, 5, 77] (by decide +kernel) (by decide +kernel)
set_option maxRecDepth 20000 in
theorem gX4_command_X4_shutOn : GoodIn wsX4_command (va_wsS RX4 159 yX4_shutOn wsX4_shutOn) := goodIn_app (goodIn_of _ (by decide +kernel)) ggX4_command_X4_shutOn
set_option maxRecDepth 20000 in
theorem ggX4_command_X4_canPull : GoodIn wsX4_command wsX4_canPull := goodIn_r _ [80, 81, 82, 5, 83, 3, 4, 6, 16, 17, 18] (by decide +kernel) (by decide +kernel)
set_option maxRecDepth 20000 in
theorem gX4_command_X4_canPull : GoodIn wsX4_command (va_wsS RX4 166 yX4_canPull wsX4_canPull) := goodIn_app (goodIn_of _ (by decide +kernel)) ggX4_command_X4_canPull
set_option maxRecDepth 20000 in
theorem ggX4_command_X4_pullOn : GoodIn wsX4_command wsX4_pullOn := goodIn_r _ [86, 16, 17, 5, 18, 43, 44, 45] (by decide +kernel) (by decide +kernel)
set_option maxRecDepth 20000 in
theorem gX4_command_X4_pullOn : GoodIn wsX4_command (va_wsS RX4 169 yX4_pullOn wsX4_pullOn) := goodIn_app (goodIn_of _ (by decide +kernel)) ggX4_command_X4_pullOn
set_option maxRecDepth 20000 in
theorem ggX4_command_X4_isOne : GoodIn wsX4_command wsX4_isOne := goodIn_r _ [83, 3, 4, 5, 6] (by decide +kernel) (by decide +kernel)
set_option maxRecDepth 20000 in
theorem gX4_command_X4_isOne : GoodIn wsX4_command (va_wsS RX4 109 yX4_isOne wsX4_isOne) := goodIn_app (goodIn_of _ (by decide +kernel)) ggX4_command_X4_isOne
set_option maxRecDepth 20000 in
theorem ggX4_command_X4_isIn : GoodIn wsX4_command wsX4_isIn := goodIn_r _ [15, 16, 17, 5, 18] (by decide +kernel) (by decide +kernel)
set_option maxRecDepth 20000 in
theorem gX4_command_X4_isIn : GoodIn wsX4_command (va_wsS RX4 52 yX4_isIn wsX4_isIn) := goodIn_app (goodIn_of _ (by decide +kernel)) ggX4_command_X4_isIn
set_option maxRecDepth 20000 in
theorem ggX4_command_X4_isRoom : GoodIn wsX4_command wsX4_isRoom := goodIn_r _ [57, 58, 3, 4, 5, 6] (by decide +kernel) (by decide +kernel)
set_option maxRecDepth 20000 in
theorem gX4_command_X4_isRoom : GoodIn wsX4_command (va_wsS RX4 98 yX4_isRoom wsX4_isRoom) := goodIn_app (goodIn_of _ (by decide +kernel)) ggX4_command_X4_isRoom
set_option maxRecDepth 20000 in
theorem ggX4_command_X4_takenBy : GoodIn wsX4_command wsX4_takenBy := goodIn_r _ [39, 16, 17, 5, 18] (by decide +kernel) (by decide +kernel)
set_option maxRecDepth 20000 in
theorem gX4_command_X4_takenBy : GoodIn wsX4_command (va_wsS RX4 56 yX4_takenBy wsX4_takenBy) := goodIn_app (goodIn_of _ (by decide +kernel)) ggX4_command_X4_takenBy
set_option maxRecDepth 20000 in
theorem ggX4_command_X4_ringed : GoodIn wsX4_command wsX4_ringed := goodIn_r _ [89, 90, 91, 5, 92, 93, 94, 95, 22, 23, 24, 13, 14, 15, 16, 17, 18, 25, 26, 27, 28, 29, 30, 31, 32, 33, 34, 35, 36, 37, 38, 39] (by decide +kernel) (by decide +kernel)
set_option maxRecDepth 20000 in
theorem gX4_command_X4_ringed : GoodIn wsX4_command (va_wsS RX4 186 yX4_ringed wsX4_ringed) := goodIn_app (goodIn_of _ (by decide +kernel)) ggX4_command_X4_ringed
set_option maxRecDepth 20000 in
theorem ggX4_command_X4_isThroughIn : GoodIn wsX4_command wsX4_isThroughIn := goodIn_r _ [99, 2, 100, 101, 102, 5, 103, 104, 105, 106, 107, 108, 109, 10, 11, 12, 13, 14, 15, 16, 17, 18, 7, 8, 9, 19, 20, 21, 22, 23, 24, 25, 26, 27, 28, 29, 30, 31, 32, 33, 34, 35, 36, 37, 38, 39, 40, 41, 42, 43, 44, 45, 46, 47, 48, 49, 50, 51, 110, 111, 112, 113, 114, 115, 116, 117, 118, 119, 120, 121] (by decide +kernel) (by decide +kernel)
set_option maxRecDepth 20000 in
theorem gX4_command_X4_isThroughIn : GoodIn wsX4_command (wsV RX4 199 RX4 yX4_isThroughIn wsX4_isThroughIn) := goodIn_app (goodIn_of _ (by decide +kernel)) ggX4_command_X4_isThroughIn
theorem dX4_command_0 : decode cX4_command 0 = .ok (.iload_n 2, 1) := by decide +kernel
theorem dX4_command_1 : decode cX4_command 1 = .ok (.sipush 1000, 3) := by decide +kernel
theorem dX4_command_4 : decode cX4_command 4 = .ok (.idiv, 1) := by decide +kernel
theorem dX4_command_5 : decode cX4_command 5 = .ok (.istore_n 3, 1) := by decide +kernel
theorem dX4_command_6 : decode cX4_command 6 = .ok (.iload_n 2, 1) := by decide +kernel
theorem dX4_command_7 : decode cX4_command 7 = .ok (.bipush 10, 2) := by decide +kernel
theorem dX4_command_9 : decode cX4_command 9 = .ok (.idiv, 1) := by decide +kernel
theorem dX4_command_10 : decode cX4_command 10 = .ok (.bipush 100, 2) := by decide +kernel
theorem dX4_command_12 : decode cX4_command 12 = .ok (.irem, 1) := by decide +kernel
theorem dX4_command_13 : decode cX4_command 13 = .ok (.istore 4, 2) := by decide +kernel
theorem dX4_command_15 : decode cX4_command 15 = .ok (.iload_n 2, 1) := by decide +kernel
theorem dX4_command_16 : decode cX4_command 16 = .ok (.bipush 10, 2) := by decide +kernel
theorem dX4_command_18 : decode cX4_command 18 = .ok (.irem, 1) := by decide +kernel
theorem dX4_command_19 : decode cX4_command 19 = .ok (.istore 5, 2) := by decide +kernel
theorem dX4_command_21 : decode cX4_command 21 = .ok (.iload_n 2, 1) := by decide +kernel
theorem dX4_command_22 : decode cX4_command 22 = .ok (.sipush 1000, 3) := by decide +kernel
theorem dX4_command_25 : decode cX4_command 25 = .ok (.irem, 1) := by decide +kernel
theorem dX4_command_26 : decode cX4_command 26 = .ok (.istore 6, 2) := by decide +kernel
theorem dX4_command_28 : decode cX4_command 28 = .ok (.iload_n 1, 1) := by decide +kernel
theorem dX4_command_29 : decode cX4_command 29 = .ok (.tableswitch 376 1 9 #[51, 80, 116, 138, 194, 228, 270, 315, 355], 51) := by decide +kernel
theorem dX4_command_80 : decode cX4_command 80 = .ok (.iload_n 2, 1) := by decide +kernel
theorem dX4_command_81 : decode cX4_command 81 = .ok (.i2l, 1) := by decide +kernel
theorem dX4_command_82 : decode cX4_command 82 = .ok (.lconst 1, 1) := by decide +kernel
theorem dX4_command_83 : decode cX4_command 83 = .ok (.ldc2_w 192, 3) := by decide +kernel
theorem dX4_command_86 : decode cX4_command 86 = .ok (.invokestatic 42, 3) := by decide +kernel
theorem dX4_command_89 : decode cX4_command 89 = .ok (.ifCond .eq 18, 3) := by decide +kernel
theorem dX4_command_92 : decode cX4_command 92 = .ok (.aload_n 0, 1) := by decide +kernel
theorem dX4_command_93 : decode cX4_command 93 = .ok (.getfield 16, 3) := by decide +kernel
theorem dX4_command_96 : decode cX4_command 96 = .ok (.iload_n 2, 1) := by decide +kernel
theorem dX4_command_97 : decode cX4_command 97 = .ok (.invokestatic 122, 3) := by decide +kernel
theorem dX4_command_100 : decode cX4_command 100 = .ok (.ifCond .lt 7, 3) := by decide +kernel
theorem dX4_command_103 : decode cX4_command 103 = .ok (.iconst 1, 1) := by decide +kernel
theorem dX4_command_104 : decode cX4_command 104 = .ok (.goto 4, 3) := by decide +kernel
theorem dX4_command_107 : decode cX4_command 107 = .ok (.iconst 0, 1) := by decide +kernel
theorem dX4_command_108 : decode cX4_command 108 = .ok (.ireturn, 1) := by decide +kernel
theorem dX4_command_109 : decode cX4_command 109 = .ok (.aload_n 0, 1) := by decide +kernel
theorem dX4_command_110 : decode cX4_command 110 = .ok (.getfield 16, 3) := by decide +kernel
theorem dX4_command_113 : decode cX4_command 113 = .ok (.iload_n 3, 1) := by decide +kernel
theorem dX4_command_114 : decode cX4_command 114 = .ok (.iload 4, 2) := by decide +kernel
theorem dX4_command_116 : decode cX4_command 116 = .ok (.iload 5, 2) := by decide +kernel
theorem dX4_command_118 : decode cX4_command 118 = .ok (.invokestatic 143, 3) := by decide +kernel
theorem dX4_command_121 : decode cX4_command 121 = .ok (.ifCond .eq 22, 3) := by decide +kernel
theorem dX4_command_124 : decode cX4_command 124 = .ok (.aload_n 0, 1) := by decide +kernel
theorem dX4_command_125 : decode cX4_command 125 = .ok (.getfield 16, 3) := by decide +kernel
theorem dX4_command_128 : decode cX4_command 128 = .ok (.iload_n 3, 1) := by decide +kernel
theorem dX4_command_129 : decode cX4_command 129 = .ok (.iload 4, 2) := by decide +kernel
theorem dX4_command_131 : decode cX4_command 131 = .ok (.iload 5, 2) := by decide +kernel
theorem dX4_command_133 : decode cX4_command 133 = .ok (.invokestatic 147, 3) := by decide +kernel
theorem dX4_command_136 : decode cX4_command 136 = .ok (.ifCond .lt 7, 3) := by decide +kernel
theorem dX4_command_139 : decode cX4_command 139 = .ok (.iconst 1, 1) := by decide +kernel
theorem dX4_command_140 : decode cX4_command 140 = .ok (.goto 4, 3) := by decide +kernel
theorem dX4_command_143 : decode cX4_command 143 = .ok (.iconst 0, 1) := by decide +kernel
theorem dX4_command_144 : decode cX4_command 144 = .ok (.ireturn, 1) := by decide +kernel
theorem dX4_command_145 : decode cX4_command 145 = .ok (.iload_n 2, 1) := by decide +kernel
theorem dX4_command_146 : decode cX4_command 146 = .ok (.iconst 3, 1) := by decide +kernel
theorem dX4_command_147 : decode cX4_command 147 = .ok (.if_icmp .ge 18, 3) := by decide +kernel
theorem dX4_command_150 : decode cX4_command 150 = .ok (.aload_n 0, 1) := by decide +kernel
theorem dX4_command_151 : decode cX4_command 151 = .ok (.getfield 16, 3) := by decide +kernel
theorem dX4_command_154 : decode cX4_command 154 = .ok (.iload_n 2, 1) := by decide +kernel
theorem dX4_command_155 : decode cX4_command 155 = .ok (.invokestatic 163, 3) := by decide +kernel
theorem dX4_command_158 : decode cX4_command 158 = .ok (.ifCond .lt 7, 3) := by decide +kernel
theorem dX4_command_161 : decode cX4_command 161 = .ok (.iconst 1, 1) := by decide +kernel
theorem dX4_command_162 : decode cX4_command 162 = .ok (.goto 4, 3) := by decide +kernel
theorem dX4_command_165 : decode cX4_command 165 = .ok (.iconst 0, 1) := by decide +kernel
theorem dX4_command_166 : decode cX4_command 166 = .ok (.ireturn, 1) := by decide +kernel
theorem dX4_command_167 : decode cX4_command 167 = .ok (.iload 6, 2) := by decide +kernel
theorem dX4_command_169 : decode cX4_command 169 = .ok (.iconst 2, 1) := by decide +kernel
theorem dX4_command_170 : decode cX4_command 170 = .ok (.if_icmp .ge 51, 3) := by decide +kernel
theorem dX4_command_173 : decode cX4_command 173 = .ok (.aload_n 0, 1) := by decide +kernel
theorem dX4_command_174 : decode cX4_command 174 = .ok (.getfield 16, 3) := by decide +kernel
theorem dX4_command_177 : decode cX4_command 177 = .ok (.iload_n 3, 1) := by decide +kernel
theorem dX4_command_178 : decode cX4_command 178 = .ok (.iload 6, 2) := by decide +kernel
theorem dX4_command_180 : decode cX4_command 180 = .ok (.iconst 1, 1) := by decide +kernel
theorem dX4_command_181 : decode cX4_command 181 = .ok (.if_icmp .ne 7, 3) := by decide +kernel
theorem dX4_command_184 : decode cX4_command 184 = .ok (.iconst 1, 1) := by decide +kernel
theorem dX4_command_185 : decode cX4_command 185 = .ok (.goto 4, 3) := by decide +kernel
theorem dX4_command_188 : decode cX4_command 188 = .ok (.iconst 0, 1) := by decide +kernel
theorem dX4_command_189 : decode cX4_command 189 = .ok (.invokestatic 155, 3) := by decide +kernel
theorem dX4_command_192 : decode cX4_command 192 = .ok (.ifCond .eq 29, 3) := by decide +kernel
theorem dX4_command_195 : decode cX4_command 195 = .ok (.aload_n 0, 1) := by decide +kernel
theorem dX4_command_196 : decode cX4_command 196 = .ok (.getfield 16, 3) := by decide +kernel
theorem dX4_command_199 : decode cX4_command 199 = .ok (.iload_n 3, 1) := by decide +kernel
theorem dX4_command_200 : decode cX4_command 200 = .ok (.iload 6, 2) := by decide +kernel
theorem dX4_command_202 : decode cX4_command 202 = .ok (.iconst 1, 1) := by decide +kernel
theorem dX4_command_203 : decode cX4_command 203 = .ok (.if_icmp .ne 7, 3) := by decide +kernel
theorem dX4_command_206 : decode cX4_command 206 = .ok (.iconst 1, 1) := by decide +kernel
theorem dX4_command_207 : decode cX4_command 207 = .ok (.goto 4, 3) := by decide +kernel
theorem dX4_command_210 : decode cX4_command 210 = .ok (.iconst 0, 1) := by decide +kernel
theorem dX4_command_211 : decode cX4_command 211 = .ok (.invokestatic 159, 3) := by decide +kernel
theorem dX4_command_214 : decode cX4_command 214 = .ok (.ifCond .lt 7, 3) := by decide +kernel
theorem dX4_command_217 : decode cX4_command 217 = .ok (.iconst 1, 1) := by decide +kernel
theorem dX4_command_218 : decode cX4_command 218 = .ok (.goto 4, 3) := by decide +kernel
theorem dX4_command_221 : decode cX4_command 221 = .ok (.iconst 0, 1) := by decide +kernel
theorem dX4_command_222 : decode cX4_command 222 = .ok (.ireturn, 1) := by decide +kernel
theorem dX4_command_223 : decode cX4_command 223 = .ok (.iload_n 2, 1) := by decide +kernel
theorem dX4_command_224 : decode cX4_command 224 = .ok (.bipush 10, 2) := by decide +kernel
theorem dX4_command_226 : decode cX4_command 226 = .ok (.if_icmp .ge 29, 3) := by decide +kernel
theorem dX4_command_229 : decode cX4_command 229 = .ok (.aload_n 0, 1) := by decide +kernel
theorem dX4_command_230 : decode cX4_command 230 = .ok (.getfield 16, 3) := by decide +kernel
theorem dX4_command_233 : decode cX4_command 233 = .ok (.iload_n 2, 1) := by decide +kernel
theorem dX4_command_234 : decode cX4_command 234 = .ok (.invokestatic 166, 3) := by decide +kernel
theorem dX4_command_237 : decode cX4_command 237 = .ok (.ifCond .eq 18, 3) := by decide +kernel
theorem dX4_command_240 : decode cX4_command 240 = .ok (.aload_n 0, 1) := by decide +kernel
theorem dX4_command_241 : decode cX4_command 241 = .ok (.getfield 16, 3) := by decide +kernel
theorem dX4_command_244 : decode cX4_command 244 = .ok (.iload_n 2, 1) := by decide +kernel
theorem dX4_command_245 : decode cX4_command 245 = .ok (.invokestatic 169, 3) := by decide +kernel
theorem dX4_command_248 : decode cX4_command 248 = .ok (.ifCond .lt 7, 3) := by decide +kernel
theorem dX4_command_251 : decode cX4_command 251 = .ok (.iconst 1, 1) := by decide +kernel
theorem dX4_command_252 : decode cX4_command 252 = .ok (.goto 4, 3) := by decide +kernel
theorem dX4_command_255 : decode cX4_command 255 = .ok (.iconst 0, 1) := by decide +kernel
theorem dX4_command_256 : decode cX4_command 256 = .ok (.ireturn, 1) := by decide +kernel
theorem dX4_command_257 : decode cX4_command 257 = .ok (.iload_n 3, 1) := by decide +kernel
theorem dX4_command_258 : decode cX4_command 258 = .ok (.bipush 10, 2) := by decide +kernel
theorem dX4_command_260 : decode cX4_command 260 = .ok (.if_icmp .ge 37, 3) := by decide +kernel
theorem dX4_command_263 : decode cX4_command 263 = .ok (.iload 6, 2) := by decide +kernel
theorem dX4_command_265 : decode cX4_command 265 = .ok (.iconst 4, 1) := by decide +kernel
theorem dX4_command_266 : decode cX4_command 266 = .ok (.if_icmp .ge 31, 3) := by decide +kernel
theorem dX4_command_269 : decode cX4_command 269 = .ok (.aload_n 0, 1) := by decide +kernel
theorem dX4_command_270 : decode cX4_command 270 = .ok (.getfield 16, 3) := by decide +kernel
theorem dX4_command_273 : decode cX4_command 273 = .ok (.iload_n 3, 1) := by decide +kernel
theorem dX4_command_274 : decode cX4_command 274 = .ok (.invokestatic 109, 3) := by decide +kernel
theorem dX4_command_277 : decode cX4_command 277 = .ok (.ifCond .eq 20, 3) := by decide +kernel
theorem dX4_command_280 : decode cX4_command 280 = .ok (.aload_n 0, 1) := by decide +kernel
theorem dX4_command_281 : decode cX4_command 281 = .ok (.getfield 16, 3) := by decide +kernel
theorem dX4_command_284 : decode cX4_command 284 = .ok (.iload_n 3, 1) := by decide +kernel
theorem dX4_command_285 : decode cX4_command 285 = .ok (.iload 6, 2) := by decide +kernel
theorem dX4_command_287 : decode cX4_command 287 = .ok (.invokestatic 52, 3) := by decide +kernel
theorem dX4_command_290 : decode cX4_command 290 = .ok (.ifCond .eq 7, 3) := by decide +kernel
theorem dX4_command_293 : decode cX4_command 293 = .ok (.iconst 1, 1) := by decide +kernel
theorem dX4_command_294 : decode cX4_command 294 = .ok (.goto 4, 3) := by decide +kernel
theorem dX4_command_297 : decode cX4_command 297 = .ok (.iconst 0, 1) := by decide +kernel
theorem dX4_command_298 : decode cX4_command 298 = .ok (.ireturn, 1) := by decide +kernel
theorem dX4_command_299 : decode cX4_command 299 = .ok (.iload 6, 2) := by decide +kernel
theorem dX4_command_301 : decode cX4_command 301 = .ok (.bipush 10, 2) := by decide +kernel
theorem dX4_command_303 : decode cX4_command 303 = .ok (.if_icmp .ge 39, 3) := by decide +kernel
theorem dX4_command_306 : decode cX4_command 306 = .ok (.iload_n 3, 1) := by decide +kernel
theorem dX4_command_307 : decode cX4_command 307 = .ok (.invokestatic 98, 3) := by decide +kernel
theorem dX4_command_310 : decode cX4_command 310 = .ok (.ifCond .eq 32, 3) := by decide +kernel
theorem dX4_command_313 : decode cX4_command 313 = .ok (.aload_n 0, 1) := by decide +kernel
theorem dX4_command_314 : decode cX4_command 314 = .ok (.getfield 16, 3) := by decide +kernel
theorem dX4_command_317 : decode cX4_command 317 = .ok (.iload 6, 2) := by decide +kernel
theorem dX4_command_319 : decode cX4_command 319 = .ok (.invokestatic 109, 3) := by decide +kernel
theorem dX4_command_322 : decode cX4_command 322 = .ok (.ifCond .eq 20, 3) := by decide +kernel
theorem dX4_command_325 : decode cX4_command 325 = .ok (.aload_n 0, 1) := by decide +kernel
theorem dX4_command_326 : decode cX4_command 326 = .ok (.getfield 16, 3) := by decide +kernel
theorem dX4_command_329 : decode cX4_command 329 = .ok (.iload_n 3, 1) := by decide +kernel
theorem dX4_command_330 : decode cX4_command 330 = .ok (.invokestatic 56, 3) := by decide +kernel
theorem dX4_command_333 : decode cX4_command 333 = .ok (.iload 6, 2) := by decide +kernel
theorem dX4_command_335 : decode cX4_command 335 = .ok (.if_icmp .ne 7, 3) := by decide +kernel
theorem dX4_command_338 : decode cX4_command 338 = .ok (.iconst 1, 1) := by decide +kernel
theorem dX4_command_339 : decode cX4_command 339 = .ok (.goto 4, 3) := by decide +kernel
theorem dX4_command_342 : decode cX4_command 342 = .ok (.iconst 0, 1) := by decide +kernel
theorem dX4_command_343 : decode cX4_command 343 = .ok (.ireturn, 1) := by decide +kernel
theorem dX4_command_344 : decode cX4_command 344 = .ok (.iload_n 2, 1) := by decide +kernel
theorem dX4_command_345 : decode cX4_command 345 = .ok (.iconst 2, 1) := by decide +kernel
theorem dX4_command_346 : decode cX4_command 346 = .ok (.if_icmp .ge 36, 3) := by decide +kernel
theorem dX4_command_349 : decode cX4_command 349 = .ok (.aload_n 0, 1) := by decide +kernel
theorem dX4_command_350 : decode cX4_command 350 = .ok (.getfield 16, 3) := by decide +kernel
theorem dX4_command_353 : decode cX4_command 353 = .ok (.invokestatic 186, 3) := by decide +kernel
theorem dX4_command_356 : decode cX4_command 356 = .ok (.iconst (-1), 1) := by decide +kernel
theorem dX4_command_357 : decode cX4_command 357 = .ok (.if_icmp .eq 7, 3) := by decide +kernel
theorem dX4_command_360 : decode cX4_command 360 = .ok (.iconst 1, 1) := by decide +kernel
theorem dX4_command_361 : decode cX4_command 361 = .ok (.goto 4, 3) := by decide +kernel
theorem dX4_command_364 : decode cX4_command 364 = .ok (.iconst 0, 1) := by decide +kernel
theorem dX4_command_365 : decode cX4_command 365 = .ok (.iload_n 2, 1) := by decide +kernel
theorem dX4_command_366 : decode cX4_command 366 = .ok (.iconst 1, 1) := by decide +kernel
theorem dX4_command_367 : decode cX4_command 367 = .ok (.if_icmp .ne 7, 3) := by decide +kernel
theorem dX4_command_370 : decode cX4_command 370 = .ok (.iconst 1, 1) := by decide +kernel
theorem dX4_command_371 : decode cX4_command 371 = .ok (.goto 4, 3) := by decide +kernel
theorem dX4_command_374 : decode cX4_command 374 = .ok (.iconst 0, 1) := by decide +kernel
theorem dX4_command_375 : decode cX4_command 375 = .ok (.if_icmp .ne 7, 3) := by decide +kernel
theorem dX4_command_378 : decode cX4_command 378 = .ok (.iconst 1, 1) := by decide +kernel
theorem dX4_command_379 : decode cX4_command 379 = .ok (.goto 4, 3) := by decide +kernel
theorem dX4_command_382 : decode cX4_command 382 = .ok (.iconst 0, 1) := by decide +kernel
theorem dX4_command_383 : decode cX4_command 383 = .ok (.ireturn, 1) := by decide +kernel
theorem dX4_command_384 : decode cX4_command 384 = .ok (.iload_n 2, 1) := by decide +kernel
theorem dX4_command_385 : decode cX4_command 385 = .ok (.sipush 1000, 3) := by decide +kernel
theorem dX4_command_388 : decode cX4_command 388 = .ok (.if_icmp .ge 15, 3) := by decide +kernel
theorem dX4_command_391 : decode cX4_command 391 = .ok (.aload_n 0, 1) := by decide +kernel
theorem dX4_command_392 : decode cX4_command 392 = .ok (.iload_n 2, 1) := by decide +kernel
theorem dX4_command_393 : decode cX4_command 393 = .ok (.invokevirtual 199, 3) := by decide +kernel
theorem dX4_command_396 : decode cX4_command 396 = .ok (.ifCond .eq 7, 3) := by decide +kernel
theorem dX4_command_399 : decode cX4_command 399 = .ok (.iconst 1, 1) := by decide +kernel
theorem dX4_command_400 : decode cX4_command 400 = .ok (.goto 4, 3) := by decide +kernel
theorem dX4_command_403 : decode cX4_command 403 = .ok (.iconst 0, 1) := by decide +kernel
theorem dX4_command_404 : decode cX4_command 404 = .ok (.ireturn, 1) := by decide +kernel
theorem dX4_command_405 : decode cX4_command 405 = .ok (.iconst 0, 1) := by decide +kernel
theorem dX4_command_406 : decode cX4_command 406 = .ok (.ireturn, 1) := by decide +kernel
set_option maxRecDepth 20000 in
theorem ggX4_runScript_X4_in : GoodIn wsX4_runScript wsX4_in := goodIn_r _ [9] (by decide +kernel) (by decide +kernel)
set_option maxRecDepth 20000 in
theorem gX4_runScript_X4_in : GoodIn wsX4_runScript (va_wsS RX4 42 yX4_in wsX4_in) := goodIn_app (goodIn_of _ (by decide +kernel)) ggX4_runScript_X4_in
set_option maxRecDepth 20000 in
theorem ggX4_runScript_X4_refused : GoodIn wsX4_runScript wsX4_refused := goodIn_r _ [13, 14, 123, 124, 125, 126, 127, 128, 129, 130, 131, 132, 133, 134] (by decide +kernel) (by decide +kernel)
set_option maxRecDepth 20000 in
theorem gX4_runScript_X4_refused : GoodIn wsX4_runScript (wsV RX4 130 RX4 yX4_refused wsX4_refused) := goodIn_app (goodIn_of _ (by decide +kernel)) ggX4_runScript_X4_refused
set_option maxRecDepth 20000 in
theorem ggX4_runScript_X4_copyState : GoodIn wsX4_runScript wsX4_copyState := goodIn_r _ [17] (by decide +kernel) (by decide +kernel)
set_option maxRecDepth 20000 in
theorem gX4_runScript_X4_copyState : GoodIn wsX4_runScript (va_wsS RX4 178 yX4_copyState wsX4_copyState) := goodIn_app (goodIn_of _ (by decide +kernel)) ggX4_runScript_X4_copyState
set_option maxRecDepth 20000 in
theorem ggX4_runScript_X4_command : GoodIn wsX4_runScript wsX4_command := goodIn_r _ [21, 22, 4, 6, 7, 8, 9, 23, 24, 25, 26, 27, 28, 29, 30, 31, 32, 33, 34, 35, 36, 37, 38, 39, 40, 41, 42, 43, 44, 45, 46, 47, 48, 49, 50, 51, 52, 53, 54, 55, 56, 57, 58, 59, 60, 61, 62, 63, 64, 65, 66, 67, 68, 69, 70, 71, 72, 73, 74, 75, 76, 77, 78, 79, 80, 81, 82, 83, 84, 85, 86, 87, 88, 89, 90, 91, 92, 93, 94, 95, 96, 97, 98, 99, 100, 101, 102, 103, 104, 105, 106, 107, 108, 109, 110, 111, 112, 113, 114, 115, 116, 15, 16, 17, 117, 118, 119, 120, 121, 122, 123, 124, 125, 126, 127, 128, 129, 130, 131, 132, 133, 134] (by decide +kernel) (by decide +kernel)
set_option maxRecDepth 20000 in
theorem gX4_runScript_X4_command : GoodIn wsX4_runScript (wsV RX4 207 RX4 yX4_command wsX4_command) := goodIn_app (goodIn_of _ (by decide +kernel)) ggX4_runScript_X4_command
theorem dX4_runScript_0 : decode cX4_runScript 0 = .ok (.lconst 1, 1) := by decide +kernel
theorem dX4_runScript_1 : decode cX4_runScript 1 = .ok (.lstore 4, 2) := by decide +kernel
theorem dX4_runScript_3 : decode cX4_runScript 3 = .ok (.iconst 0, 1) := by decide +kernel
theorem dX4_runScript_4 : decode cX4_runScript 4 = .ok (.istore 6, 2) := by decide +kernel
theorem dX4_runScript_6 : decode cX4_runScript 6 = .ok (.iload 6, 2) := by decide +kernel
theorem dX4_runScript_8 : decode cX4_runScript 8 = .ok (.iload_n 1, 1) := by decide +kernel
theorem dX4_runScript_9 : decode cX4_runScript 9 = .ok (.if_icmp .ge 23, 3) := by decide +kernel
theorem dX4_runScript_12 : decode cX4_runScript 12 = .ok (.iload 6, 2) := by decide +kernel
theorem dX4_runScript_14 : decode cX4_runScript 14 = .ok (.iconst 3, 1) := by decide +kernel
theorem dX4_runScript_15 : decode cX4_runScript 15 = .ok (.if_icmp .ge 17, 3) := by decide +kernel
theorem dX4_runScript_18 : decode cX4_runScript 18 = .ok (.lload 4, 2) := by decide +kernel
theorem dX4_runScript_20 : decode cX4_runScript 20 = .ok (.ldc2_w 202, 3) := by decide +kernel
theorem dX4_runScript_23 : decode cX4_runScript 23 = .ok (.lmul, 1) := by decide +kernel
theorem dX4_runScript_24 : decode cX4_runScript 24 = .ok (.lstore 4, 2) := by decide +kernel
theorem dX4_runScript_26 : decode cX4_runScript 26 = .ok (.iinc 6 1, 3) := by decide +kernel
theorem dX4_runScript_29 : decode cX4_runScript 29 = .ok (.goto (-23), 3) := by decide +kernel
theorem dX4_runScript_32 : decode cX4_runScript 32 = .ok (.aload_n 0, 1) := by decide +kernel
theorem dX4_runScript_33 : decode cX4_runScript 33 = .ok (.iload_n 1, 1) := by decide +kernel
theorem dX4_runScript_34 : decode cX4_runScript 34 = .ok (.i2l, 1) := by decide +kernel
theorem dX4_runScript_35 : decode cX4_runScript 35 = .ok (.lconst 1, 1) := by decide +kernel
theorem dX4_runScript_36 : decode cX4_runScript 36 = .ok (.ldc2_w 204, 3) := by decide +kernel
theorem dX4_runScript_39 : decode cX4_runScript 39 = .ok (.invokestatic 42, 3) := by decide +kernel
theorem dX4_runScript_42 : decode cX4_runScript 42 = .ok (.ifCond .eq 19, 3) := by decide +kernel
theorem dX4_runScript_45 : decode cX4_runScript 45 = .ok (.lload_n 2, 1) := by decide +kernel
theorem dX4_runScript_46 : decode cX4_runScript 46 = .ok (.lconst 0, 1) := by decide +kernel
theorem dX4_runScript_47 : decode cX4_runScript 47 = .ok (.lload 4, 2) := by decide +kernel
theorem dX4_runScript_49 : decode cX4_runScript 49 = .ok (.lconst 1, 1) := by decide +kernel
theorem dX4_runScript_50 : decode cX4_runScript 50 = .ok (.lsub, 1) := by decide +kernel
theorem dX4_runScript_51 : decode cX4_runScript 51 = .ok (.invokestatic 42, 3) := by decide +kernel
theorem dX4_runScript_54 : decode cX4_runScript 54 = .ok (.ifCond .eq 7, 3) := by decide +kernel
theorem dX4_runScript_57 : decode cX4_runScript 57 = .ok (.iconst 0, 1) := by decide +kernel
theorem dX4_runScript_58 : decode cX4_runScript 58 = .ok (.goto 4, 3) := by decide +kernel
theorem dX4_runScript_61 : decode cX4_runScript 61 = .ok (.iconst 1, 1) := by decide +kernel
theorem dX4_runScript_62 : decode cX4_runScript 62 = .ok (.invokevirtual 130, 3) := by decide +kernel
theorem dX4_runScript_65 : decode cX4_runScript 65 = .ok (.ifCond .eq 5, 3) := by decide +kernel
theorem dX4_runScript_68 : decode cX4_runScript 68 = .ok (.iconst 0, 1) := by decide +kernel
theorem dX4_runScript_69 : decode cX4_runScript 69 = .ok (.ireturn, 1) := by decide +kernel
theorem dX4_runScript_70 : decode cX4_runScript 70 = .ok (.aload_n 0, 1) := by decide +kernel
theorem dX4_runScript_71 : decode cX4_runScript 71 = .ok (.getfield 13, 3) := by decide +kernel
theorem dX4_runScript_74 : decode cX4_runScript 74 = .ok (.iconst 0, 1) := by decide +kernel
theorem dX4_runScript_75 : decode cX4_runScript 75 = .ok (.aload_n 0, 1) := by decide +kernel
theorem dX4_runScript_76 : decode cX4_runScript 76 = .ok (.getfield 16, 3) := by decide +kernel
theorem dX4_runScript_79 : decode cX4_runScript 79 = .ok (.iconst 0, 1) := by decide +kernel
theorem dX4_runScript_80 : decode cX4_runScript 80 = .ok (.invokestatic 178, 3) := by decide +kernel
theorem dX4_runScript_83 : decode cX4_runScript 83 = .ok (.iconst 0, 1) := by decide +kernel
theorem dX4_runScript_84 : decode cX4_runScript 84 = .ok (.istore 6, 2) := by decide +kernel
theorem dX4_runScript_86 : decode cX4_runScript 86 = .ok (.iload 6, 2) := by decide +kernel
theorem dX4_runScript_88 : decode cX4_runScript 88 = .ok (.iload_n 1, 1) := by decide +kernel
theorem dX4_runScript_89 : decode cX4_runScript 89 = .ok (.if_icmp .ge 48, 3) := by decide +kernel
theorem dX4_runScript_92 : decode cX4_runScript 92 = .ok (.lload 4, 2) := by decide +kernel
theorem dX4_runScript_94 : decode cX4_runScript 94 = .ok (.ldc2_w 202, 3) := by decide +kernel
theorem dX4_runScript_97 : decode cX4_runScript 97 = .ok (.ldiv, 1) := by decide +kernel
theorem dX4_runScript_98 : decode cX4_runScript 98 = .ok (.lstore 4, 2) := by decide +kernel
theorem dX4_runScript_100 : decode cX4_runScript 100 = .ok (.lload_n 2, 1) := by decide +kernel
theorem dX4_runScript_101 : decode cX4_runScript 101 = .ok (.lload 4, 2) := by decide +kernel
theorem dX4_runScript_103 : decode cX4_runScript 103 = .ok (.ldiv, 1) := by decide +kernel
theorem dX4_runScript_104 : decode cX4_runScript 104 = .ok (.ldc2_w 202, 3) := by decide +kernel
theorem dX4_runScript_107 : decode cX4_runScript 107 = .ok (.lrem, 1) := by decide +kernel
theorem dX4_runScript_108 : decode cX4_runScript 108 = .ok (.l2i, 1) := by decide +kernel
theorem dX4_runScript_109 : decode cX4_runScript 109 = .ok (.istore 7, 2) := by decide +kernel
theorem dX4_runScript_111 : decode cX4_runScript 111 = .ok (.aload_n 0, 1) := by decide +kernel
theorem dX4_runScript_112 : decode cX4_runScript 112 = .ok (.iload 7, 2) := by decide +kernel
theorem dX4_runScript_114 : decode cX4_runScript 114 = .ok (.ldc 206, 2) := by decide +kernel
theorem dX4_runScript_116 : decode cX4_runScript 116 = .ok (.idiv, 1) := by decide +kernel
theorem dX4_runScript_117 : decode cX4_runScript 117 = .ok (.iload 7, 2) := by decide +kernel
theorem dX4_runScript_119 : decode cX4_runScript 119 = .ok (.ldc 206, 2) := by decide +kernel
theorem dX4_runScript_121 : decode cX4_runScript 121 = .ok (.irem, 1) := by decide +kernel
theorem dX4_runScript_122 : decode cX4_runScript 122 = .ok (.invokevirtual 207, 3) := by decide +kernel
theorem dX4_runScript_125 : decode cX4_runScript 125 = .ok (.ifCond .ne 6, 3) := by decide +kernel
theorem dX4_runScript_128 : decode cX4_runScript 128 = .ok (.iload 6, 2) := by decide +kernel
theorem dX4_runScript_130 : decode cX4_runScript 130 = .ok (.ireturn, 1) := by decide +kernel
theorem dX4_runScript_131 : decode cX4_runScript 131 = .ok (.iinc 6 1, 3) := by decide +kernel
theorem dX4_runScript_134 : decode cX4_runScript 134 = .ok (.goto (-48), 3) := by decide +kernel
theorem dX4_runScript_137 : decode cX4_runScript 137 = .ok (.iconst (-1), 1) := by decide +kernel
theorem dX4_runScript_138 : decode cX4_runScript 138 = .ok (.ireturn, 1) := by decide +kernel
set_option maxRecDepth 20000 in
theorem ggX4_turn_X4_canHatch : GoodIn wsX4_turn wsX4_canHatch := goodIn_r _ [4, 5, 6, 3, 7, 8, 9, 10, 11, 12, 13, 14, 15] (by decide +kernel) (by decide +kernel)
set_option maxRecDepth 20000 in
theorem gX4_turn_X4_canHatch : GoodIn wsX4_turn (va_wsS RX4 143 yX4_canHatch wsX4_canHatch) := goodIn_app (goodIn_of _ (by decide +kernel)) ggX4_turn_X4_canHatch
set_option maxRecDepth 20000 in
theorem ggX4_turn_X4_hatchOn : GoodIn wsX4_turn wsX4_hatchOn := goodIn_r _ [18, 19, 20, 3, 21] (by decide +kernel) (by decide +kernel)
set_option maxRecDepth 20000 in
theorem gX4_turn_X4_hatchOn : GoodIn wsX4_turn (va_wsS RX4 147 yX4_hatchOn wsX4_hatchOn) := goodIn_app (goodIn_of _ (by decide +kernel)) ggX4_turn_X4_hatchOn
set_option maxRecDepth 20000 in
theorem ggX4_turn_X4_ruleOn : GoodIn wsX4_turn wsX4_ruleOn := goodIn_r _ [24] (by decide +kernel) (by decide +kernel)
set_option maxRecDepth 20000 in
theorem gX4_turn_X4_ruleOn : GoodIn wsX4_turn (va_wsS RX4 163 yX4_ruleOn wsX4_ruleOn) := goodIn_app (goodIn_of _ (by decide +kernel)) ggX4_turn_X4_ruleOn
set_option maxRecDepth 20000 in
theorem ggX4_turn_X4_canShut : GoodIn wsX4_turn wsX4_canShut := goodIn_r _ [27, 5, 6, 3, 7, 8, 9, 10, 11, 28, 29, 30, 31, 32, 33] (by decide +kernel) (by decide +kernel)
set_option maxRecDepth 20000 in
theorem gX4_turn_X4_canShut : GoodIn wsX4_turn (va_wsS RX4 155 yX4_canShut wsX4_canShut) := goodIn_app (goodIn_of _ (by decide +kernel)) ggX4_turn_X4_canShut
set_option maxRecDepth 20000 in
theorem ggX4_turn_X4_shutOn : GoodIn wsX4_turn wsX4_shutOn := goodIn_r _ [36, 37, 38, 3, 39] (by decide +kernel) (by decide +kernel)
set_option maxRecDepth 20000 in
theorem gX4_turn_X4_shutOn : GoodIn wsX4_turn (va_wsS RX4 159 yX4_shutOn wsX4_shutOn) := goodIn_app (goodIn_of _ (by decide +kernel)) ggX4_turn_X4_shutOn
set_option maxRecDepth 20000 in
theorem ggX4_turn_X4_ticksOn : GoodIn wsX4_turn wsX4_ticksOn := goodIn_r _ [42, 43, 44, 3, 45, 46, 47, 48, 31, 32, 33, 49, 50, 51, 52, 53, 54, 55, 56, 57, 58, 59, 60, 61, 62, 63, 64, 65, 66, 28, 29, 30, 67, 68, 69, 19, 20, 21, 70, 71, 72, 73, 74, 75] (by decide +kernel) (by decide +kernel)
set_option maxRecDepth 20000 in
theorem gX4_turn_X4_ticksOn : GoodIn wsX4_turn (va_wsS RX4 122 yX4_ticksOn wsX4_ticksOn) := goodIn_app (goodIn_of _ (by decide +kernel)) ggX4_turn_X4_ticksOn
set_option maxRecDepth 20000 in
theorem ggX4_turn_X4_canPull : GoodIn wsX4_turn wsX4_canPull := goodIn_r _ [78, 79, 80, 3, 81, 9, 10, 11, 31, 32, 33] (by decide +kernel) (by decide +kernel)
set_option maxRecDepth 20000 in
theorem gX4_turn_X4_canPull : GoodIn wsX4_turn (va_wsS RX4 166 yX4_canPull wsX4_canPull) := goodIn_app (goodIn_of _ (by decide +kernel)) ggX4_turn_X4_canPull
set_option maxRecDepth 20000 in
theorem ggX4_turn_X4_pullOn : GoodIn wsX4_turn wsX4_pullOn := goodIn_r _ [84, 31, 32, 3, 33, 19, 20, 21] (by decide +kernel) (by decide +kernel)
set_option maxRecDepth 20000 in
theorem gX4_turn_X4_pullOn : GoodIn wsX4_turn (va_wsS RX4 169 yX4_pullOn wsX4_pullOn) := goodIn_app (goodIn_of _ (by decide +kernel)) ggX4_turn_X4_pullOn
theorem dX4_turn_0 : decode cX4_turn 0 = .ok (.iload_n 1, 1) := by decide +kernel
theorem dX4_turn_1 : decode cX4_turn 1 = .ok (.bipush 8, 2) := by decide +kernel
theorem dX4_turn_3 : decode cX4_turn 3 = .ok (.idiv, 1) := by decide +kernel
theorem dX4_turn_4 : decode cX4_turn 4 = .ok (.istore_n 2, 1) := by decide +kernel
theorem dX4_turn_5 : decode cX4_turn 5 = .ok (.iload_n 1, 1) := by decide +kernel
theorem dX4_turn_6 : decode cX4_turn 6 = .ok (.bipush 8, 2) := by decide +kernel
theorem dX4_turn_8 : decode cX4_turn 8 = .ok (.irem, 1) := by decide +kernel
theorem dX4_turn_9 : decode cX4_turn 9 = .ok (.istore_n 3, 1) := by decide +kernel
theorem dX4_turn_10 : decode cX4_turn 10 = .ok (.iload_n 3, 1) := by decide +kernel
theorem dX4_turn_11 : decode cX4_turn 11 = .ok (.iconst 3, 1) := by decide +kernel
theorem dX4_turn_12 : decode cX4_turn 12 = .ok (.if_icmp .ge 60, 3) := by decide +kernel
theorem dX4_turn_15 : decode cX4_turn 15 = .ok (.aload_n 0, 1) := by decide +kernel
theorem dX4_turn_16 : decode cX4_turn 16 = .ok (.iload_n 2, 1) := by decide +kernel
theorem dX4_turn_17 : decode cX4_turn 17 = .ok (.bipush 36, 2) := by decide +kernel
theorem dX4_turn_19 : decode cX4_turn 19 = .ok (.irem, 1) := by decide +kernel
theorem dX4_turn_20 : decode cX4_turn 20 = .ok (.iload_n 2, 1) := by decide +kernel
theorem dX4_turn_21 : decode cX4_turn 21 = .ok (.bipush 36, 2) := by decide +kernel
theorem dX4_turn_23 : decode cX4_turn 23 = .ok (.idiv, 1) := by decide +kernel
theorem dX4_turn_24 : decode cX4_turn 24 = .ok (.bipush 36, 2) := by decide +kernel
theorem dX4_turn_26 : decode cX4_turn 26 = .ok (.irem, 1) := by decide +kernel
theorem dX4_turn_27 : decode cX4_turn 27 = .ok (.iconst 1, 1) := by decide +kernel
theorem dX4_turn_28 : decode cX4_turn 28 = .ok (.iload_n 2, 1) := by decide +kernel
theorem dX4_turn_29 : decode cX4_turn 29 = .ok (.sipush 1296, 3) := by decide +kernel
theorem dX4_turn_32 : decode cX4_turn 32 = .ok (.idiv, 1) := by decide +kernel
theorem dX4_turn_33 : decode cX4_turn 33 = .ok (.bipush 9, 2) := by decide +kernel
theorem dX4_turn_35 : decode cX4_turn 35 = .ok (.irem, 1) := by decide +kernel
theorem dX4_turn_36 : decode cX4_turn 36 = .ok (.iadd, 1) := by decide +kernel
theorem dX4_turn_37 : decode cX4_turn 37 = .ok (.invokestatic 143, 3) := by decide +kernel
theorem dX4_turn_40 : decode cX4_turn 40 = .ok (.ifCond .eq 164, 3) := by decide +kernel
theorem dX4_turn_43 : decode cX4_turn 43 = .ok (.aload_n 0, 1) := by decide +kernel
theorem dX4_turn_44 : decode cX4_turn 44 = .ok (.iload_n 2, 1) := by decide +kernel
theorem dX4_turn_45 : decode cX4_turn 45 = .ok (.bipush 36, 2) := by decide +kernel
theorem dX4_turn_47 : decode cX4_turn 47 = .ok (.irem, 1) := by decide +kernel
theorem dX4_turn_48 : decode cX4_turn 48 = .ok (.iload_n 2, 1) := by decide +kernel
theorem dX4_turn_49 : decode cX4_turn 49 = .ok (.bipush 36, 2) := by decide +kernel
theorem dX4_turn_51 : decode cX4_turn 51 = .ok (.idiv, 1) := by decide +kernel
theorem dX4_turn_52 : decode cX4_turn 52 = .ok (.bipush 36, 2) := by decide +kernel
theorem dX4_turn_54 : decode cX4_turn 54 = .ok (.irem, 1) := by decide +kernel
theorem dX4_turn_55 : decode cX4_turn 55 = .ok (.iconst 1, 1) := by decide +kernel
theorem dX4_turn_56 : decode cX4_turn 56 = .ok (.iload_n 2, 1) := by decide +kernel
theorem dX4_turn_57 : decode cX4_turn 57 = .ok (.sipush 1296, 3) := by decide +kernel
theorem dX4_turn_60 : decode cX4_turn 60 = .ok (.idiv, 1) := by decide +kernel
theorem dX4_turn_61 : decode cX4_turn 61 = .ok (.bipush 9, 2) := by decide +kernel
theorem dX4_turn_63 : decode cX4_turn 63 = .ok (.irem, 1) := by decide +kernel
theorem dX4_turn_64 : decode cX4_turn 64 = .ok (.iadd, 1) := by decide +kernel
theorem dX4_turn_65 : decode cX4_turn 65 = .ok (.invokestatic 147, 3) := by decide +kernel
theorem dX4_turn_68 : decode cX4_turn 68 = .ok (.pop, 1) := by decide +kernel
theorem dX4_turn_69 : decode cX4_turn 69 = .ok (.goto 135, 3) := by decide +kernel
theorem dX4_turn_72 : decode cX4_turn 72 = .ok (.iload_n 3, 1) := by decide +kernel
theorem dX4_turn_73 : decode cX4_turn 73 = .ok (.iconst 3, 1) := by decide +kernel
theorem dX4_turn_74 : decode cX4_turn 74 = .ok (.if_icmp .ne 73, 3) := by decide +kernel
theorem dX4_turn_77 : decode cX4_turn 77 = .ok (.iload_n 2, 1) := by decide +kernel
theorem dX4_turn_78 : decode cX4_turn 78 = .ok (.iconst 4, 1) := by decide +kernel
theorem dX4_turn_79 : decode cX4_turn 79 = .ok (.idiv, 1) := by decide +kernel
theorem dX4_turn_80 : decode cX4_turn 80 = .ok (.iconst 4, 1) := by decide +kernel
theorem dX4_turn_81 : decode cX4_turn 81 = .ok (.irem, 1) := by decide +kernel
theorem dX4_turn_82 : decode cX4_turn 82 = .ok (.ifCond .ne 14, 3) := by decide +kernel
theorem dX4_turn_85 : decode cX4_turn 85 = .ok (.aload_n 0, 1) := by decide +kernel
theorem dX4_turn_86 : decode cX4_turn 86 = .ok (.iload_n 2, 1) := by decide +kernel
theorem dX4_turn_87 : decode cX4_turn 87 = .ok (.iconst 3, 1) := by decide +kernel
theorem dX4_turn_88 : decode cX4_turn 88 = .ok (.irem, 1) := by decide +kernel
theorem dX4_turn_89 : decode cX4_turn 89 = .ok (.invokestatic 163, 3) := by decide +kernel
theorem dX4_turn_92 : decode cX4_turn 92 = .ok (.pop, 1) := by decide +kernel
theorem dX4_turn_93 : decode cX4_turn 93 = .ok (.goto 111, 3) := by decide +kernel
theorem dX4_turn_96 : decode cX4_turn 96 = .ok (.aload_n 0, 1) := by decide +kernel
theorem dX4_turn_97 : decode cX4_turn 97 = .ok (.iload_n 2, 1) := by decide +kernel
theorem dX4_turn_98 : decode cX4_turn 98 = .ok (.bipush 36, 2) := by decide +kernel
theorem dX4_turn_100 : decode cX4_turn 100 = .ok (.irem, 1) := by decide +kernel
theorem dX4_turn_101 : decode cX4_turn 101 = .ok (.iload_n 2, 1) := by decide +kernel
theorem dX4_turn_102 : decode cX4_turn 102 = .ok (.bipush 64, 2) := by decide +kernel
theorem dX4_turn_104 : decode cX4_turn 104 = .ok (.idiv, 1) := by decide +kernel
theorem dX4_turn_105 : decode cX4_turn 105 = .ok (.iconst 4, 1) := by decide +kernel
theorem dX4_turn_106 : decode cX4_turn 106 = .ok (.irem, 1) := by decide +kernel
theorem dX4_turn_107 : decode cX4_turn 107 = .ok (.ifCond .ne 7, 3) := by decide +kernel
theorem dX4_turn_110 : decode cX4_turn 110 = .ok (.iconst 1, 1) := by decide +kernel
theorem dX4_turn_111 : decode cX4_turn 111 = .ok (.goto 4, 3) := by decide +kernel
theorem dX4_turn_114 : decode cX4_turn 114 = .ok (.iconst 0, 1) := by decide +kernel
theorem dX4_turn_115 : decode cX4_turn 115 = .ok (.invokestatic 155, 3) := by decide +kernel
theorem dX4_turn_118 : decode cX4_turn 118 = .ok (.ifCond .eq 86, 3) := by decide +kernel
theorem dX4_turn_121 : decode cX4_turn 121 = .ok (.aload_n 0, 1) := by decide +kernel
theorem dX4_turn_122 : decode cX4_turn 122 = .ok (.iload_n 2, 1) := by decide +kernel
theorem dX4_turn_123 : decode cX4_turn 123 = .ok (.bipush 36, 2) := by decide +kernel
theorem dX4_turn_125 : decode cX4_turn 125 = .ok (.irem, 1) := by decide +kernel
theorem dX4_turn_126 : decode cX4_turn 126 = .ok (.iload_n 2, 1) := by decide +kernel
theorem dX4_turn_127 : decode cX4_turn 127 = .ok (.bipush 64, 2) := by decide +kernel
theorem dX4_turn_129 : decode cX4_turn 129 = .ok (.idiv, 1) := by decide +kernel
theorem dX4_turn_130 : decode cX4_turn 130 = .ok (.iconst 4, 1) := by decide +kernel
theorem dX4_turn_131 : decode cX4_turn 131 = .ok (.irem, 1) := by decide +kernel
theorem dX4_turn_132 : decode cX4_turn 132 = .ok (.ifCond .ne 7, 3) := by decide +kernel
theorem dX4_turn_135 : decode cX4_turn 135 = .ok (.iconst 1, 1) := by decide +kernel
theorem dX4_turn_136 : decode cX4_turn 136 = .ok (.goto 4, 3) := by decide +kernel
theorem dX4_turn_139 : decode cX4_turn 139 = .ok (.iconst 0, 1) := by decide +kernel
theorem dX4_turn_140 : decode cX4_turn 140 = .ok (.invokestatic 159, 3) := by decide +kernel
theorem dX4_turn_143 : decode cX4_turn 143 = .ok (.pop, 1) := by decide +kernel
theorem dX4_turn_144 : decode cX4_turn 144 = .ok (.goto 60, 3) := by decide +kernel
theorem dX4_turn_147 : decode cX4_turn 147 = .ok (.iload_n 3, 1) := by decide +kernel
theorem dX4_turn_148 : decode cX4_turn 148 = .ok (.iconst 4, 1) := by decide +kernel
theorem dX4_turn_149 : decode cX4_turn 149 = .ok (.if_icmp .ne 44, 3) := by decide +kernel
theorem dX4_turn_152 : decode cX4_turn 152 = .ok (.iload_n 2, 1) := by decide +kernel
theorem dX4_turn_153 : decode cX4_turn 153 = .ok (.bipush 16, 2) := by decide +kernel
theorem dX4_turn_155 : decode cX4_turn 155 = .ok (.idiv, 1) := by decide +kernel
theorem dX4_turn_156 : decode cX4_turn 156 = .ok (.iconst 4, 1) := by decide +kernel
theorem dX4_turn_157 : decode cX4_turn 157 = .ok (.irem, 1) := by decide +kernel
theorem dX4_turn_158 : decode cX4_turn 158 = .ok (.ifCond .le 12, 3) := by decide +kernel
theorem dX4_turn_161 : decode cX4_turn 161 = .ok (.aload_n 0, 1) := by decide +kernel
theorem dX4_turn_162 : decode cX4_turn 162 = .ok (.iconst 1, 1) := by decide +kernel
theorem dX4_turn_163 : decode cX4_turn 163 = .ok (.invokestatic 122, 3) := by decide +kernel
theorem dX4_turn_166 : decode cX4_turn 166 = .ok (.pop, 1) := by decide +kernel
theorem dX4_turn_167 : decode cX4_turn 167 = .ok (.goto 37, 3) := by decide +kernel
theorem dX4_turn_170 : decode cX4_turn 170 = .ok (.aload_n 0, 1) := by decide +kernel
theorem dX4_turn_171 : decode cX4_turn 171 = .ok (.iload_n 2, 1) := by decide +kernel
theorem dX4_turn_172 : decode cX4_turn 172 = .ok (.bipush 10, 2) := by decide +kernel
theorem dX4_turn_174 : decode cX4_turn 174 = .ok (.irem, 1) := by decide +kernel
theorem dX4_turn_175 : decode cX4_turn 175 = .ok (.invokestatic 166, 3) := by decide +kernel
theorem dX4_turn_178 : decode cX4_turn 178 = .ok (.ifCond .eq 26, 3) := by decide +kernel
theorem dX4_turn_181 : decode cX4_turn 181 = .ok (.aload_n 0, 1) := by decide +kernel
theorem dX4_turn_182 : decode cX4_turn 182 = .ok (.iload_n 2, 1) := by decide +kernel
theorem dX4_turn_183 : decode cX4_turn 183 = .ok (.bipush 10, 2) := by decide +kernel
theorem dX4_turn_185 : decode cX4_turn 185 = .ok (.irem, 1) := by decide +kernel
theorem dX4_turn_186 : decode cX4_turn 186 = .ok (.invokestatic 169, 3) := by decide +kernel
theorem dX4_turn_189 : decode cX4_turn 189 = .ok (.pop, 1) := by decide +kernel
theorem dX4_turn_190 : decode cX4_turn 190 = .ok (.goto 14, 3) := by decide +kernel
theorem dX4_turn_193 : decode cX4_turn 193 = .ok (.aload_n 0, 1) := by decide +kernel
theorem dX4_turn_194 : decode cX4_turn 194 = .ok (.iconst 1, 1) := by decide +kernel
theorem dX4_turn_195 : decode cX4_turn 195 = .ok (.iload_n 2, 1) := by decide +kernel
theorem dX4_turn_196 : decode cX4_turn 196 = .ok (.bipush 12, 2) := by decide +kernel
theorem dX4_turn_198 : decode cX4_turn 198 = .ok (.irem, 1) := by decide +kernel
theorem dX4_turn_199 : decode cX4_turn 199 = .ok (.iadd, 1) := by decide +kernel
theorem dX4_turn_200 : decode cX4_turn 200 = .ok (.invokestatic 122, 3) := by decide +kernel
theorem dX4_turn_203 : decode cX4_turn 203 = .ok (.pop, 1) := by decide +kernel
theorem dX4_turn_204 : decode cX4_turn 204 = .ok (.return_, 1) := by decide +kernel
set_option maxRecDepth 20000 in
theorem ggX4_simulate_X4_in : GoodIn wsX4_simulate wsX4_in := goodIn_r _ [9] (by decide +kernel) (by decide +kernel)
set_option maxRecDepth 20000 in
theorem gX4_simulate_X4_in : GoodIn wsX4_simulate (va_wsS RX4 42 yX4_in wsX4_in) := goodIn_app (goodIn_of _ (by decide +kernel)) ggX4_simulate_X4_in
set_option maxRecDepth 20000 in
theorem ggX4_simulate_X4_refused : GoodIn wsX4_simulate wsX4_refused := goodIn_r _ [13, 14, 101, 102, 103, 104, 105, 106, 107, 108, 109, 110, 111, 112] (by decide +kernel) (by decide +kernel)
set_option maxRecDepth 20000 in
theorem gX4_simulate_X4_refused : GoodIn wsX4_simulate (wsV RX4 130 RX4 yX4_refused wsX4_refused) := goodIn_app (goodIn_of _ (by decide +kernel)) ggX4_simulate_X4_refused
set_option maxRecDepth 20000 in
theorem ggX4_simulate_X4_copyState : GoodIn wsX4_simulate wsX4_copyState := goodIn_r _ [17] (by decide +kernel) (by decide +kernel)
set_option maxRecDepth 20000 in
theorem gX4_simulate_X4_copyState : GoodIn wsX4_simulate (va_wsS RX4 178 yX4_copyState wsX4_copyState) := goodIn_app (goodIn_of _ (by decide +kernel)) ggX4_simulate_X4_copyState
set_option maxRecDepth 20000 in
theorem ggX4_simulate_X4_turn : GoodIn wsX4_simulate wsX4_turn := goodIn_r _ [20, 21, 22, 8, 23, 24, 25, 26, 27, 6, 7, 9, 28, 29, 30, 31, 32, 33, 34, 35, 36, 37, 38, 39, 40, 41, 42, 43, 44, 45, 46, 47, 48, 49, 50, 51, 52, 53, 54, 55, 56, 57, 58, 59, 60, 61, 62, 63, 64, 65, 66, 67, 68, 69, 70, 71, 72, 73, 74, 75, 76, 77, 78, 79, 80, 81, 82, 83, 84, 85, 86, 87, 88, 89, 90, 91, 92, 93, 94, 95, 96, 97, 98, 99, 100] (by decide +kernel) (by decide +kernel)
set_option maxRecDepth 20000 in
theorem gX4_simulate_X4_turn : GoodIn wsX4_simulate (va_wsS RX4 215 yX4_turn wsX4_turn) := goodIn_app (goodIn_of _ (by decide +kernel)) ggX4_simulate_X4_turn
set_option maxRecDepth 20000 in
theorem ggX4_simulate_X4_count : GoodIn wsX4_simulate wsX4_count := goodIn_r _ [61, 62, 63, 8, 64, 47, 48, 49] (by decide +kernel) (by decide +kernel)
set_option maxRecDepth 20000 in
theorem gX4_simulate_X4_count : GoodIn wsX4_simulate (va_wsS RX4 92 yX4_count wsX4_count) := goodIn_app (goodIn_of _ (by decide +kernel)) ggX4_simulate_X4_count
theorem dX4_simulate_0 : decode cX4_simulate 0 = .ok (.aload_n 0, 1) := by decide +kernel
theorem dX4_simulate_1 : decode cX4_simulate 1 = .ok (.iload_n 3, 1) := by decide +kernel
theorem dX4_simulate_2 : decode cX4_simulate 2 = .ok (.i2l, 1) := by decide +kernel
theorem dX4_simulate_3 : decode cX4_simulate 3 = .ok (.lconst 1, 1) := by decide +kernel
theorem dX4_simulate_4 : decode cX4_simulate 4 = .ok (.ldc2_w 192, 3) := by decide +kernel
theorem dX4_simulate_7 : decode cX4_simulate 7 = .ok (.invokestatic 42, 3) := by decide +kernel
theorem dX4_simulate_10 : decode cX4_simulate 10 = .ok (.ifCond .eq 7, 3) := by decide +kernel
theorem dX4_simulate_13 : decode cX4_simulate 13 = .ok (.iconst 0, 1) := by decide +kernel
theorem dX4_simulate_14 : decode cX4_simulate 14 = .ok (.goto 4, 3) := by decide +kernel
theorem dX4_simulate_17 : decode cX4_simulate 17 = .ok (.iconst 1, 1) := by decide +kernel
theorem dX4_simulate_18 : decode cX4_simulate 18 = .ok (.invokevirtual 130, 3) := by decide +kernel
theorem dX4_simulate_21 : decode cX4_simulate 21 = .ok (.ifCond .eq 5, 3) := by decide +kernel
theorem dX4_simulate_24 : decode cX4_simulate 24 = .ok (.iconst 0, 1) := by decide +kernel
theorem dX4_simulate_25 : decode cX4_simulate 25 = .ok (.ireturn, 1) := by decide +kernel
theorem dX4_simulate_26 : decode cX4_simulate 26 = .ok (.aload_n 0, 1) := by decide +kernel
theorem dX4_simulate_27 : decode cX4_simulate 27 = .ok (.getfield 13, 3) := by decide +kernel
theorem dX4_simulate_30 : decode cX4_simulate 30 = .ok (.iconst 0, 1) := by decide +kernel
theorem dX4_simulate_31 : decode cX4_simulate 31 = .ok (.aload_n 0, 1) := by decide +kernel
theorem dX4_simulate_32 : decode cX4_simulate 32 = .ok (.getfield 16, 3) := by decide +kernel
theorem dX4_simulate_35 : decode cX4_simulate 35 = .ok (.iconst 0, 1) := by decide +kernel
theorem dX4_simulate_36 : decode cX4_simulate 36 = .ok (.invokestatic 178, 3) := by decide +kernel
theorem dX4_simulate_39 : decode cX4_simulate 39 = .ok (.lload_n 1, 1) := by decide +kernel
theorem dX4_simulate_40 : decode cX4_simulate 40 = .ok (.lstore 4, 2) := by decide +kernel
theorem dX4_simulate_42 : decode cX4_simulate 42 = .ok (.iconst 0, 1) := by decide +kernel
theorem dX4_simulate_43 : decode cX4_simulate 43 = .ok (.istore 6, 2) := by decide +kernel
theorem dX4_simulate_45 : decode cX4_simulate 45 = .ok (.iload 6, 2) := by decide +kernel
theorem dX4_simulate_47 : decode cX4_simulate 47 = .ok (.iload_n 3, 1) := by decide +kernel
theorem dX4_simulate_48 : decode cX4_simulate 48 = .ok (.if_icmp .ge 34, 3) := by decide +kernel
theorem dX4_simulate_51 : decode cX4_simulate 51 = .ok (.lload 4, 2) := by decide +kernel
theorem dX4_simulate_53 : decode cX4_simulate 53 = .ok (.ldc2_w 211, 3) := by decide +kernel
theorem dX4_simulate_56 : decode cX4_simulate 56 = .ok (.lmul, 1) := by decide +kernel
theorem dX4_simulate_57 : decode cX4_simulate 57 = .ok (.ldc2_w 213, 3) := by decide +kernel
theorem dX4_simulate_60 : decode cX4_simulate 60 = .ok (.ladd, 1) := by decide +kernel
theorem dX4_simulate_61 : decode cX4_simulate 61 = .ok (.lstore 4, 2) := by decide +kernel
theorem dX4_simulate_63 : decode cX4_simulate 63 = .ok (.aload_n 0, 1) := by decide +kernel
theorem dX4_simulate_64 : decode cX4_simulate 64 = .ok (.getfield 16, 3) := by decide +kernel
theorem dX4_simulate_67 : decode cX4_simulate 67 = .ok (.lload 4, 2) := by decide +kernel
theorem dX4_simulate_69 : decode cX4_simulate 69 = .ok (.bipush 33, 2) := by decide +kernel
theorem dX4_simulate_71 : decode cX4_simulate 71 = .ok (.lushr, 1) := by decide +kernel
theorem dX4_simulate_72 : decode cX4_simulate 72 = .ok (.l2i, 1) := by decide +kernel
theorem dX4_simulate_73 : decode cX4_simulate 73 = .ok (.invokestatic 215, 3) := by decide +kernel
theorem dX4_simulate_76 : decode cX4_simulate 76 = .ok (.iinc 6 1, 3) := by decide +kernel
theorem dX4_simulate_79 : decode cX4_simulate 79 = .ok (.goto (-34), 3) := by decide +kernel
theorem dX4_simulate_82 : decode cX4_simulate 82 = .ok (.aload_n 0, 1) := by decide +kernel
theorem dX4_simulate_83 : decode cX4_simulate 83 = .ok (.getfield 16, 3) := by decide +kernel
theorem dX4_simulate_86 : decode cX4_simulate 86 = .ok (.iconst 3, 1) := by decide +kernel
theorem dX4_simulate_87 : decode cX4_simulate 87 = .ok (.iaload, 1) := by decide +kernel
theorem dX4_simulate_88 : decode cX4_simulate 88 = .ok (.aload_n 0, 1) := by decide +kernel
theorem dX4_simulate_89 : decode cX4_simulate 89 = .ok (.getfield 13, 3) := by decide +kernel
theorem dX4_simulate_92 : decode cX4_simulate 92 = .ok (.iconst 3, 1) := by decide +kernel
theorem dX4_simulate_93 : decode cX4_simulate 93 = .ok (.iaload, 1) := by decide +kernel
theorem dX4_simulate_94 : decode cX4_simulate 94 = .ok (.isub, 1) := by decide +kernel
theorem dX4_simulate_95 : decode cX4_simulate 95 = .ok (.istore 6, 2) := by decide +kernel
theorem dX4_simulate_97 : decode cX4_simulate 97 = .ok (.sipush 1000, 3) := by decide +kernel
theorem dX4_simulate_100 : decode cX4_simulate 100 = .ok (.aload_n 0, 1) := by decide +kernel
theorem dX4_simulate_101 : decode cX4_simulate 101 = .ok (.getfield 16, 3) := by decide +kernel
theorem dX4_simulate_104 : decode cX4_simulate 104 = .ok (.iconst 2, 1) := by decide +kernel
theorem dX4_simulate_105 : decode cX4_simulate 105 = .ok (.invokestatic 92, 3) := by decide +kernel
theorem dX4_simulate_108 : decode cX4_simulate 108 = .ok (.imul, 1) := by decide +kernel
theorem dX4_simulate_109 : decode cX4_simulate 109 = .ok (.iload 6, 2) := by decide +kernel
theorem dX4_simulate_111 : decode cX4_simulate 111 = .ok (.sipush 999, 3) := by decide +kernel
theorem dX4_simulate_114 : decode cX4_simulate 114 = .ok (.if_icmp .le 9, 3) := by decide +kernel
theorem dX4_simulate_117 : decode cX4_simulate 117 = .ok (.sipush 999, 3) := by decide +kernel
theorem dX4_simulate_120 : decode cX4_simulate 120 = .ok (.goto 5, 3) := by decide +kernel
theorem dX4_simulate_123 : decode cX4_simulate 123 = .ok (.iload 6, 2) := by decide +kernel
theorem dX4_simulate_125 : decode cX4_simulate 125 = .ok (.iadd, 1) := by decide +kernel
theorem dX4_simulate_126 : decode cX4_simulate 126 = .ok (.ireturn, 1) := by decide +kernel
set_option maxRecDepth 20000 in
theorem ggX4_save_X4_in : GoodIn wsX4_save wsX4_in := goodIn_r _ [7] (by decide +kernel) (by decide +kernel)
set_option maxRecDepth 20000 in
theorem gX4_save_X4_in : GoodIn wsX4_save (va_wsS RX4 42 yX4_in wsX4_in) := goodIn_app (goodIn_of _ (by decide +kernel)) ggX4_save_X4_in
set_option maxRecDepth 20000 in
theorem ggX4_save_X4_refused : GoodIn wsX4_save wsX4_refused := goodIn_r _ [11, 12, 16, 17, 18, 19, 20, 21, 22, 23, 24, 25, 26, 27] (by decide +kernel) (by decide +kernel)
set_option maxRecDepth 20000 in
theorem gX4_save_X4_refused : GoodIn wsX4_save (wsV RX4 130 RX4 yX4_refused wsX4_refused) := goodIn_app (goodIn_of _ (by decide +kernel)) ggX4_save_X4_refused
set_option maxRecDepth 20000 in
theorem ggX4_save_X4_copyState : GoodIn wsX4_save wsX4_copyState := goodIn_r _ [15] (by decide +kernel) (by decide +kernel)
set_option maxRecDepth 20000 in
theorem gX4_save_X4_copyState : GoodIn wsX4_save (va_wsS RX4 178 yX4_copyState wsX4_copyState) := goodIn_app (goodIn_of _ (by decide +kernel)) ggX4_save_X4_copyState
theorem dX4_save_0 : decode cX4_save 0 = .ok (.aload_n 0, 1) := by decide +kernel
theorem dX4_save_1 : decode cX4_save 1 = .ok (.iload_n 1, 1) := by decide +kernel
theorem dX4_save_2 : decode cX4_save 2 = .ok (.i2l, 1) := by decide +kernel
theorem dX4_save_3 : decode cX4_save 3 = .ok (.lconst 0, 1) := by decide +kernel
theorem dX4_save_4 : decode cX4_save 4 = .ok (.lconst 1, 1) := by decide +kernel
theorem dX4_save_5 : decode cX4_save 5 = .ok (.invokestatic 42, 3) := by decide +kernel
theorem dX4_save_8 : decode cX4_save 8 = .ok (.ifCond .eq 7, 3) := by decide +kernel
theorem dX4_save_11 : decode cX4_save 11 = .ok (.iconst 0, 1) := by decide +kernel
theorem dX4_save_12 : decode cX4_save 12 = .ok (.goto 4, 3) := by decide +kernel
theorem dX4_save_15 : decode cX4_save 15 = .ok (.iconst 1, 1) := by decide +kernel
theorem dX4_save_16 : decode cX4_save 16 = .ok (.invokevirtual 130, 3) := by decide +kernel
theorem dX4_save_19 : decode cX4_save 19 = .ok (.ifCond .eq 5, 3) := by decide +kernel
theorem dX4_save_22 : decode cX4_save 22 = .ok (.iconst 0, 1) := by decide +kernel
theorem dX4_save_23 : decode cX4_save 23 = .ok (.ireturn, 1) := by decide +kernel
theorem dX4_save_24 : decode cX4_save 24 = .ok (.aload_n 0, 1) := by decide +kernel
theorem dX4_save_25 : decode cX4_save 25 = .ok (.getfield 13, 3) := by decide +kernel
theorem dX4_save_28 : decode cX4_save 28 = .ok (.iconst 0, 1) := by decide +kernel
theorem dX4_save_29 : decode cX4_save 29 = .ok (.aload_n 0, 1) := by decide +kernel
theorem dX4_save_30 : decode cX4_save 30 = .ok (.getfield 25, 3) := by decide +kernel
theorem dX4_save_33 : decode cX4_save 33 = .ok (.sipush 220, 3) := by decide +kernel
theorem dX4_save_36 : decode cX4_save 36 = .ok (.iload_n 1, 1) := by decide +kernel
theorem dX4_save_37 : decode cX4_save 37 = .ok (.imul, 1) := by decide +kernel
theorem dX4_save_38 : decode cX4_save 38 = .ok (.invokestatic 178, 3) := by decide +kernel
theorem dX4_save_41 : decode cX4_save 41 = .ok (.aload_n 0, 1) := by decide +kernel
theorem dX4_save_42 : decode cX4_save 42 = .ok (.getfield 28, 3) := by decide +kernel
theorem dX4_save_45 : decode cX4_save 45 = .ok (.iload_n 1, 1) := by decide +kernel
theorem dX4_save_46 : decode cX4_save 46 = .ok (.iconst 1, 1) := by decide +kernel
theorem dX4_save_47 : decode cX4_save 47 = .ok (.bastore, 1) := by decide +kernel
theorem dX4_save_48 : decode cX4_save 48 = .ok (.aload_n 0, 1) := by decide +kernel
theorem dX4_save_49 : decode cX4_save 49 = .ok (.getfield 13, 3) := by decide +kernel
theorem dX4_save_52 : decode cX4_save 52 = .ok (.iconst 1, 1) := by decide +kernel
theorem dX4_save_53 : decode cX4_save 53 = .ok (.iaload, 1) := by decide +kernel
theorem dX4_save_54 : decode cX4_save 54 = .ok (.ireturn, 1) := by decide +kernel
set_option maxRecDepth 20000 in
theorem ggX4_restore_X4_in : GoodIn wsX4_restore wsX4_in := goodIn_r _ [8] (by decide +kernel) (by decide +kernel)
set_option maxRecDepth 20000 in
theorem gX4_restore_X4_in : GoodIn wsX4_restore (va_wsS RX4 42 yX4_in wsX4_in) := goodIn_app (goodIn_of _ (by decide +kernel)) ggX4_restore_X4_in
set_option maxRecDepth 20000 in
theorem ggX4_restore_X4_refused : GoodIn wsX4_restore wsX4_refused := goodIn_r _ [12, 13, 17, 18, 19, 20, 21, 22, 23, 24, 25, 26, 27, 28] (by decide +kernel) (by decide +kernel)
set_option maxRecDepth 20000 in
theorem gX4_restore_X4_refused : GoodIn wsX4_restore (wsV RX4 130 RX4 yX4_refused wsX4_refused) := goodIn_app (goodIn_of _ (by decide +kernel)) ggX4_restore_X4_refused
set_option maxRecDepth 20000 in
theorem ggX4_restore_X4_copyState : GoodIn wsX4_restore wsX4_copyState := goodIn_r _ [16] (by decide +kernel) (by decide +kernel)
set_option maxRecDepth 20000 in
theorem gX4_restore_X4_copyState : GoodIn wsX4_restore (va_wsS RX4 178 yX4_copyState wsX4_copyState) := goodIn_app (goodIn_of _ (by decide +kernel)) ggX4_restore_X4_copyState
theorem dX4_restore_0 : decode cX4_restore 0 = .ok (.aload_n 0, 1) := by decide +kernel
theorem dX4_restore_1 : decode cX4_restore 1 = .ok (.iload_n 1, 1) := by decide +kernel
theorem dX4_restore_2 : decode cX4_restore 2 = .ok (.i2l, 1) := by decide +kernel
theorem dX4_restore_3 : decode cX4_restore 3 = .ok (.lconst 0, 1) := by decide +kernel
theorem dX4_restore_4 : decode cX4_restore 4 = .ok (.lconst 1, 1) := by decide +kernel
theorem dX4_restore_5 : decode cX4_restore 5 = .ok (.invokestatic 42, 3) := by decide +kernel
theorem dX4_restore_8 : decode cX4_restore 8 = .ok (.ifCond .ne 7, 3) := by decide +kernel
theorem dX4_restore_11 : decode cX4_restore 11 = .ok (.iconst 1, 1) := by decide +kernel
theorem dX4_restore_12 : decode cX4_restore 12 = .ok (.goto 17, 3) := by decide +kernel
theorem dX4_restore_15 : decode cX4_restore 15 = .ok (.aload_n 0, 1) := by decide +kernel
theorem dX4_restore_16 : decode cX4_restore 16 = .ok (.getfield 28, 3) := by decide +kernel
theorem dX4_restore_19 : decode cX4_restore 19 = .ok (.iload_n 1, 1) := by decide +kernel
theorem dX4_restore_20 : decode cX4_restore 20 = .ok (.baload, 1) := by decide +kernel
theorem dX4_restore_21 : decode cX4_restore 21 = .ok (.ifCond .ne 7, 3) := by decide +kernel
theorem dX4_restore_24 : decode cX4_restore 24 = .ok (.iconst 2, 1) := by decide +kernel
theorem dX4_restore_25 : decode cX4_restore 25 = .ok (.goto 4, 3) := by decide +kernel
theorem dX4_restore_28 : decode cX4_restore 28 = .ok (.iconst 0, 1) := by decide +kernel
theorem dX4_restore_29 : decode cX4_restore 29 = .ok (.invokevirtual 130, 3) := by decide +kernel
theorem dX4_restore_32 : decode cX4_restore 32 = .ok (.ifCond .eq 5, 3) := by decide +kernel
theorem dX4_restore_35 : decode cX4_restore 35 = .ok (.iconst 0, 1) := by decide +kernel
theorem dX4_restore_36 : decode cX4_restore 36 = .ok (.ireturn, 1) := by decide +kernel
theorem dX4_restore_37 : decode cX4_restore 37 = .ok (.aload_n 0, 1) := by decide +kernel
theorem dX4_restore_38 : decode cX4_restore 38 = .ok (.getfield 25, 3) := by decide +kernel
theorem dX4_restore_41 : decode cX4_restore 41 = .ok (.sipush 220, 3) := by decide +kernel
theorem dX4_restore_44 : decode cX4_restore 44 = .ok (.iload_n 1, 1) := by decide +kernel
theorem dX4_restore_45 : decode cX4_restore 45 = .ok (.imul, 1) := by decide +kernel
theorem dX4_restore_46 : decode cX4_restore 46 = .ok (.aload_n 0, 1) := by decide +kernel
theorem dX4_restore_47 : decode cX4_restore 47 = .ok (.getfield 13, 3) := by decide +kernel
theorem dX4_restore_50 : decode cX4_restore 50 = .ok (.iconst 0, 1) := by decide +kernel
theorem dX4_restore_51 : decode cX4_restore 51 = .ok (.invokestatic 178, 3) := by decide +kernel
theorem dX4_restore_54 : decode cX4_restore 54 = .ok (.aload_n 0, 1) := by decide +kernel
theorem dX4_restore_55 : decode cX4_restore 55 = .ok (.iconst 0, 1) := by decide +kernel
theorem dX4_restore_56 : decode cX4_restore 56 = .ok (.putfield 182, 3) := by decide +kernel
theorem dX4_restore_59 : decode cX4_restore 59 = .ok (.aload_n 0, 1) := by decide +kernel
theorem dX4_restore_60 : decode cX4_restore 60 = .ok (.getfield 13, 3) := by decide +kernel
theorem dX4_restore_63 : decode cX4_restore 63 = .ok (.iconst 1, 1) := by decide +kernel
theorem dX4_restore_64 : decode cX4_restore 64 = .ok (.iaload, 1) := by decide +kernel
theorem dX4_restore_65 : decode cX4_restore 65 = .ok (.ireturn, 1) := by decide +kernel
theorem dJ6_bitCount_0f7a4_0 : decode cJ6_bitCount_0f7a4 0 = .ok (.iload_n 0, 1) := by decide +kernel
theorem dJ6_bitCount_0f7a4_1 : decode cJ6_bitCount_0f7a4 1 = .ok (.iload_n 0, 1) := by decide +kernel
theorem dJ6_bitCount_0f7a4_2 : decode cJ6_bitCount_0f7a4 2 = .ok (.iconst 1, 1) := by decide +kernel
theorem dJ6_bitCount_0f7a4_3 : decode cJ6_bitCount_0f7a4 3 = .ok (.iushr, 1) := by decide +kernel
theorem dJ6_bitCount_0f7a4_4 : decode cJ6_bitCount_0f7a4 4 = .ok (.ldc_w 265, 3) := by decide +kernel
theorem dJ6_bitCount_0f7a4_7 : decode cJ6_bitCount_0f7a4 7 = .ok (.iand, 1) := by decide +kernel
theorem dJ6_bitCount_0f7a4_8 : decode cJ6_bitCount_0f7a4 8 = .ok (.isub, 1) := by decide +kernel
theorem dJ6_bitCount_0f7a4_9 : decode cJ6_bitCount_0f7a4 9 = .ok (.istore_n 0, 1) := by decide +kernel
theorem dJ6_bitCount_0f7a4_10 : decode cJ6_bitCount_0f7a4 10 = .ok (.iload_n 0, 1) := by decide +kernel
theorem dJ6_bitCount_0f7a4_11 : decode cJ6_bitCount_0f7a4 11 = .ok (.ldc_w 266, 3) := by decide +kernel
theorem dJ6_bitCount_0f7a4_14 : decode cJ6_bitCount_0f7a4 14 = .ok (.iand, 1) := by decide +kernel
theorem dJ6_bitCount_0f7a4_15 : decode cJ6_bitCount_0f7a4 15 = .ok (.iload_n 0, 1) := by decide +kernel
theorem dJ6_bitCount_0f7a4_16 : decode cJ6_bitCount_0f7a4 16 = .ok (.iconst 2, 1) := by decide +kernel
theorem dJ6_bitCount_0f7a4_17 : decode cJ6_bitCount_0f7a4 17 = .ok (.iushr, 1) := by decide +kernel
theorem dJ6_bitCount_0f7a4_18 : decode cJ6_bitCount_0f7a4 18 = .ok (.ldc_w 266, 3) := by decide +kernel
theorem dJ6_bitCount_0f7a4_21 : decode cJ6_bitCount_0f7a4 21 = .ok (.iand, 1) := by decide +kernel
theorem dJ6_bitCount_0f7a4_22 : decode cJ6_bitCount_0f7a4 22 = .ok (.iadd, 1) := by decide +kernel
theorem dJ6_bitCount_0f7a4_23 : decode cJ6_bitCount_0f7a4 23 = .ok (.istore_n 0, 1) := by decide +kernel
theorem dJ6_bitCount_0f7a4_24 : decode cJ6_bitCount_0f7a4 24 = .ok (.iload_n 0, 1) := by decide +kernel
theorem dJ6_bitCount_0f7a4_25 : decode cJ6_bitCount_0f7a4 25 = .ok (.iload_n 0, 1) := by decide +kernel
theorem dJ6_bitCount_0f7a4_26 : decode cJ6_bitCount_0f7a4 26 = .ok (.iconst 4, 1) := by decide +kernel
theorem dJ6_bitCount_0f7a4_27 : decode cJ6_bitCount_0f7a4 27 = .ok (.iushr, 1) := by decide +kernel
theorem dJ6_bitCount_0f7a4_28 : decode cJ6_bitCount_0f7a4 28 = .ok (.iadd, 1) := by decide +kernel
theorem dJ6_bitCount_0f7a4_29 : decode cJ6_bitCount_0f7a4 29 = .ok (.ldc_w 267, 3) := by decide +kernel
theorem dJ6_bitCount_0f7a4_32 : decode cJ6_bitCount_0f7a4 32 = .ok (.iand, 1) := by decide +kernel
theorem dJ6_bitCount_0f7a4_33 : decode cJ6_bitCount_0f7a4 33 = .ok (.istore_n 0, 1) := by decide +kernel
theorem dJ6_bitCount_0f7a4_34 : decode cJ6_bitCount_0f7a4 34 = .ok (.iload_n 0, 1) := by decide +kernel
theorem dJ6_bitCount_0f7a4_35 : decode cJ6_bitCount_0f7a4 35 = .ok (.iload_n 0, 1) := by decide +kernel
theorem dJ6_bitCount_0f7a4_36 : decode cJ6_bitCount_0f7a4 36 = .ok (.bipush 8, 2) := by decide +kernel
theorem dJ6_bitCount_0f7a4_38 : decode cJ6_bitCount_0f7a4 38 = .ok (.iushr, 1) := by decide +kernel
theorem dJ6_bitCount_0f7a4_39 : decode cJ6_bitCount_0f7a4 39 = .ok (.iadd, 1) := by decide +kernel
theorem dJ6_bitCount_0f7a4_40 : decode cJ6_bitCount_0f7a4 40 = .ok (.istore_n 0, 1) := by decide +kernel
theorem dJ6_bitCount_0f7a4_41 : decode cJ6_bitCount_0f7a4 41 = .ok (.iload_n 0, 1) := by decide +kernel
theorem dJ6_bitCount_0f7a4_42 : decode cJ6_bitCount_0f7a4 42 = .ok (.iload_n 0, 1) := by decide +kernel
theorem dJ6_bitCount_0f7a4_43 : decode cJ6_bitCount_0f7a4 43 = .ok (.bipush 16, 2) := by decide +kernel
theorem dJ6_bitCount_0f7a4_45 : decode cJ6_bitCount_0f7a4 45 = .ok (.iushr, 1) := by decide +kernel
theorem dJ6_bitCount_0f7a4_46 : decode cJ6_bitCount_0f7a4 46 = .ok (.iadd, 1) := by decide +kernel
theorem dJ6_bitCount_0f7a4_47 : decode cJ6_bitCount_0f7a4 47 = .ok (.istore_n 0, 1) := by decide +kernel
theorem dJ6_bitCount_0f7a4_48 : decode cJ6_bitCount_0f7a4 48 = .ok (.iload_n 0, 1) := by decide +kernel
theorem dJ6_bitCount_0f7a4_49 : decode cJ6_bitCount_0f7a4 49 = .ok (.bipush 63, 2) := by decide +kernel
theorem dJ6_bitCount_0f7a4_51 : decode cJ6_bitCount_0f7a4 51 = .ok (.iand, 1) := by decide +kernel
theorem dJ6_bitCount_0f7a4_52 : decode cJ6_bitCount_0f7a4 52 = .ok (.ireturn, 1) := by decide +kernel
theorem dJ9_max_7cf53_0 : decode cJ9_max_7cf53 0 = .ok (.iload_n 0, 1) := by decide +kernel
theorem dJ9_max_7cf53_1 : decode cJ9_max_7cf53 1 = .ok (.iload_n 1, 1) := by decide +kernel
theorem dJ9_max_7cf53_2 : decode cJ9_max_7cf53 2 = .ok (.if_icmp .lt 7, 3) := by decide +kernel
theorem dJ9_max_7cf53_5 : decode cJ9_max_7cf53 5 = .ok (.iload_n 0, 1) := by decide +kernel
theorem dJ9_max_7cf53_6 : decode cJ9_max_7cf53 6 = .ok (.goto 4, 3) := by decide +kernel
theorem dJ9_max_7cf53_9 : decode cJ9_max_7cf53 9 = .ok (.iload_n 1, 1) := by decide +kernel
theorem dJ9_max_7cf53_10 : decode cJ9_max_7cf53 10 = .ok (.ireturn, 1) := by decide +kernel
theorem dJ9_min_7cf53_0 : decode cJ9_min_7cf53 0 = .ok (.iload_n 0, 1) := by decide +kernel
theorem dJ9_min_7cf53_1 : decode cJ9_min_7cf53 1 = .ok (.iload_n 1, 1) := by decide +kernel
theorem dJ9_min_7cf53_2 : decode cJ9_min_7cf53 2 = .ok (.if_icmp .gt 7, 3) := by decide +kernel
theorem dJ9_min_7cf53_5 : decode cJ9_min_7cf53 5 = .ok (.iload_n 0, 1) := by decide +kernel
theorem dJ9_min_7cf53_6 : decode cJ9_min_7cf53 6 = .ok (.goto 4, 3) := by decide +kernel
theorem dJ9_min_7cf53_9 : decode cJ9_min_7cf53 9 = .ok (.iload_n 1, 1) := by decide +kernel
theorem dJ9_min_7cf53_10 : decode cJ9_min_7cf53 10 = .ok (.ireturn, 1) := by decide +kernel
set_option maxRecDepth 20000 in
theorem ggJ0_length_8abf5_J0_coder_7d493 : GoodIn wsJ0_length_8abf5 wsJ0_coder_7d493 := goodIn_r _ [6, 7, 8] (by decide +kernel) (by decide +kernel)
set_option maxRecDepth 20000 in
theorem gJ0_length_8abf5_J0_coder_7d493 : GoodIn wsJ0_length_8abf5 (wsV RJ0 335 RJ0 yJ0_coder_7d493 wsJ0_coder_7d493) := goodIn_app (goodIn_of _ (by decide +kernel)) ggJ0_length_8abf5_J0_coder_7d493
theorem dJ0_length_8abf5_0 : decode cJ0_length_8abf5 0 = .ok (.aload_n 0, 1) := by decide +kernel
theorem dJ0_length_8abf5_1 : decode cJ0_length_8abf5 1 = .ok (.getfield 9, 3) := by decide +kernel
theorem dJ0_length_8abf5_4 : decode cJ0_length_8abf5 4 = .ok (.arraylength, 1) := by decide +kernel
theorem dJ0_length_8abf5_5 : decode cJ0_length_8abf5 5 = .ok (.aload_n 0, 1) := by decide +kernel
theorem dJ0_length_8abf5_6 : decode cJ0_length_8abf5 6 = .ok (.invokevirtual 335, 3) := by decide +kernel
theorem dJ0_length_8abf5_9 : decode cJ0_length_8abf5 9 = .ok (.ishr, 1) := by decide +kernel
theorem dJ0_length_8abf5_10 : decode cJ0_length_8abf5 10 = .ok (.ireturn, 1) := by decide +kernel
theorem dJ0_isEmpty_aae02_0 : decode cJ0_isEmpty_aae02 0 = .ok (.aload_n 0, 1) := by decide +kernel
theorem dJ0_isEmpty_aae02_1 : decode cJ0_isEmpty_aae02 1 = .ok (.getfield 9, 3) := by decide +kernel
theorem dJ0_isEmpty_aae02_4 : decode cJ0_isEmpty_aae02 4 = .ok (.arraylength, 1) := by decide +kernel
theorem dJ0_isEmpty_aae02_5 : decode cJ0_isEmpty_aae02 5 = .ok (.ifCond .ne 7, 3) := by decide +kernel
theorem dJ0_isEmpty_aae02_8 : decode cJ0_isEmpty_aae02 8 = .ok (.iconst 1, 1) := by decide +kernel
theorem dJ0_isEmpty_aae02_9 : decode cJ0_isEmpty_aae02 9 = .ok (.goto 4, 3) := by decide +kernel
theorem dJ0_isEmpty_aae02_12 : decode cJ0_isEmpty_aae02 12 = .ok (.iconst 0, 1) := by decide +kernel
theorem dJ0_isEmpty_aae02_13 : decode cJ0_isEmpty_aae02 13 = .ok (.ireturn, 1) := by decide +kernel
set_option maxRecDepth 20000 in
theorem ggJ0_charAt_5068e_J0_isLatin1_aae02 : GoodIn wsJ0_charAt_5068e wsJ0_isLatin1_aae02 := goodIn_r _ [6, 7, 8] (by decide +kernel) (by decide +kernel)
set_option maxRecDepth 20000 in
theorem gJ0_charAt_5068e_J0_isLatin1_aae02 : GoodIn wsJ0_charAt_5068e (wsV RJ0 492 RJ0 yJ0_isLatin1_aae02 wsJ0_isLatin1_aae02) := goodIn_app (goodIn_of _ (by decide +kernel)) ggJ0_charAt_5068e_J0_isLatin1_aae02
set_option maxRecDepth 20000 in
theorem ggJ0_charAt_5068e_J1_charAt_3b067 : GoodIn wsJ0_charAt_5068e wsJ1_charAt_3b067 := goodIn_r _ [12, 13, 14, 5, 15, 16, 17, 18, 19, 20] (by decide +kernel) (by decide +kernel)
set_option maxRecDepth 20000 in
theorem gJ0_charAt_5068e_J1_charAt_3b067 : GoodIn wsJ0_charAt_5068e (va_wsS RJ0 495 yJ1_charAt_3b067 wsJ1_charAt_3b067) := goodIn_app (goodIn_of _ (by decide +kernel)) ggJ0_charAt_5068e_J1_charAt_3b067
set_option maxRecDepth 20000 in
theorem ggJ0_charAt_5068e_J2_charAt_3b067 : GoodIn wsJ0_charAt_5068e wsJ2_charAt_3b067 := goodIn_r _ [24, 25, 26, 23, 27, 28, 29, 30, 31, 14, 5, 15, 16, 17, 18, 19, 20, 32, 33, 34, 35, 36, 37] (by decide +kernel) (by decide +kernel)
set_option maxRecDepth 20000 in
theorem gJ0_charAt_5068e_J2_charAt_3b067 : GoodIn wsJ0_charAt_5068e (va_wsS RJ0 498 yJ2_charAt_3b067 wsJ2_charAt_3b067) := goodIn_app (goodIn_of _ (by decide +kernel)) ggJ0_charAt_5068e_J2_charAt_3b067
theorem dJ0_charAt_5068e_0 : decode cJ0_charAt_5068e 0 = .ok (.aload_n 0, 1) := by decide +kernel
theorem dJ0_charAt_5068e_1 : decode cJ0_charAt_5068e 1 = .ok (.invokevirtual 492, 3) := by decide +kernel
theorem dJ0_charAt_5068e_4 : decode cJ0_charAt_5068e 4 = .ok (.ifCond .eq 12, 3) := by decide +kernel
theorem dJ0_charAt_5068e_7 : decode cJ0_charAt_5068e 7 = .ok (.aload_n 0, 1) := by decide +kernel
theorem dJ0_charAt_5068e_8 : decode cJ0_charAt_5068e 8 = .ok (.getfield 9, 3) := by decide +kernel
theorem dJ0_charAt_5068e_11 : decode cJ0_charAt_5068e 11 = .ok (.iload_n 1, 1) := by decide +kernel
theorem dJ0_charAt_5068e_12 : decode cJ0_charAt_5068e 12 = .ok (.invokestatic 495, 3) := by decide +kernel
theorem dJ0_charAt_5068e_15 : decode cJ0_charAt_5068e 15 = .ok (.ireturn, 1) := by decide +kernel
theorem dJ0_charAt_5068e_16 : decode cJ0_charAt_5068e 16 = .ok (.aload_n 0, 1) := by decide +kernel
theorem dJ0_charAt_5068e_17 : decode cJ0_charAt_5068e 17 = .ok (.getfield 9, 3) := by decide +kernel
theorem dJ0_charAt_5068e_20 : decode cJ0_charAt_5068e 20 = .ok (.iload_n 1, 1) := by decide +kernel
theorem dJ0_charAt_5068e_21 : decode cJ0_charAt_5068e 21 = .ok (.invokestatic 498, 3) := by decide +kernel
theorem dJ0_charAt_5068e_24 : decode cJ0_charAt_5068e 24 = .ok (.ireturn, 1) := by decide +kernel
theorem dJ0_coder_7d493_0 : decode cJ0_coder_7d493 0 = .ok (.getstatic 38, 3) := by decide +kernel
theorem dJ0_coder_7d493_3 : decode cJ0_coder_7d493 3 = .ok (.ifCond .eq 10, 3) := by decide +kernel
theorem dJ0_coder_7d493_6 : decode cJ0_coder_7d493 6 = .ok (.aload_n 0, 1) := by decide +kernel
theorem dJ0_coder_7d493_7 : decode cJ0_coder_7d493 7 = .ok (.getfield 15, 3) := by decide +kernel
theorem dJ0_coder_7d493_10 : decode cJ0_coder_7d493 10 = .ok (.goto 4, 3) := by decide +kernel
theorem dJ0_coder_7d493_13 : decode cJ0_coder_7d493 13 = .ok (.iconst 1, 1) := by decide +kernel
theorem dJ0_coder_7d493_14 : decode cJ0_coder_7d493 14 = .ok (.ireturn, 1) := by decide +kernel
theorem dJ0_isLatin1_aae02_0 : decode cJ0_isLatin1_aae02 0 = .ok (.getstatic 38, 3) := by decide +kernel
theorem dJ0_isLatin1_aae02_3 : decode cJ0_isLatin1_aae02 3 = .ok (.ifCond .eq 14, 3) := by decide +kernel
theorem dJ0_isLatin1_aae02_6 : decode cJ0_isLatin1_aae02 6 = .ok (.aload_n 0, 1) := by decide +kernel
theorem dJ0_isLatin1_aae02_7 : decode cJ0_isLatin1_aae02 7 = .ok (.getfield 15, 3) := by decide +kernel
theorem dJ0_isLatin1_aae02_10 : decode cJ0_isLatin1_aae02 10 = .ok (.ifCond .ne 7, 3) := by decide +kernel
theorem dJ0_isLatin1_aae02_13 : decode cJ0_isLatin1_aae02 13 = .ok (.iconst 1, 1) := by decide +kernel
theorem dJ0_isLatin1_aae02_14 : decode cJ0_isLatin1_aae02 14 = .ok (.goto 4, 3) := by decide +kernel
theorem dJ0_isLatin1_aae02_17 : decode cJ0_isLatin1_aae02 17 = .ok (.iconst 0, 1) := by decide +kernel
theorem dJ0_isLatin1_aae02_18 : decode cJ0_isLatin1_aae02 18 = .ok (.ireturn, 1) := by decide +kernel
set_option maxRecDepth 20000 in
theorem ggJ0_checkIndex_df160_J3_checkIndex_8e157 : GoodIn wsJ0_checkIndex_df160 wsJ3_checkIndex_8e157 := goodIn_r _ [5] (by decide +kernel) (by decide +kernel)
set_option maxRecDepth 20000 in
theorem gJ0_checkIndex_df160_J3_checkIndex_8e157 : GoodIn wsJ0_checkIndex_df160 (va_wsS RJ0 1059 yJ3_checkIndex_8e157 wsJ3_checkIndex_8e157) := goodIn_app (goodIn_of _ (by decide +kernel)) ggJ0_checkIndex_df160_J3_checkIndex_8e157
theorem dJ0_checkIndex_df160_0 : decode cJ0_checkIndex_df160 0 = .ok (.iload_n 0, 1) := by decide +kernel
theorem dJ0_checkIndex_df160_1 : decode cJ0_checkIndex_df160 1 = .ok (.iload_n 1, 1) := by decide +kernel
theorem dJ0_checkIndex_df160_2 : decode cJ0_checkIndex_df160 2 = .ok (.getstatic 1053, 3) := by decide +kernel
theorem dJ0_checkIndex_df160_5 : decode cJ0_checkIndex_df160 5 = .ok (.invokestatic 1059, 3) := by decide +kernel
theorem dJ0_checkIndex_df160_8 : decode cJ0_checkIndex_df160 8 = .ok (.pop, 1) := by decide +kernel
theorem dJ0_checkIndex_df160_9 : decode cJ0_checkIndex_df160 9 = .ok (.return_, 1) := by decide +kernel
set_option maxRecDepth 20000 in
theorem ggJ1_charAt_3b067_J0_checkIndex_df160 : GoodIn wsJ1_charAt_3b067 wsJ0_checkIndex_df160 := goodIn_r _ [4, 5, 6, 7, 8, 9] (by decide +kernel) (by decide +kernel)
set_option maxRecDepth 20000 in
theorem gJ1_charAt_3b067_J0_checkIndex_df160 : GoodIn wsJ1_charAt_3b067 (va_wsS RJ1 9 yJ0_checkIndex_df160 wsJ0_checkIndex_df160) := goodIn_app (goodIn_of _ (by decide +kernel)) ggJ1_charAt_3b067_J0_checkIndex_df160
