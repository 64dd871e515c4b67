theorem dX7_init_0 : decode cX7_init 0 = .ok (.aload_n 0, 1) := by decide +kernel
theorem dX7_init_1 : decode cX7_init 1 = .ok (.invokespecial 1, 3) := by decide +kernel
theorem dX7_init_4 : decode cX7_init 4 = .ok (.aload_n 0, 1) := by decide +kernel
theorem dX7_init_5 : decode cX7_init 5 = .ok (.iconst 4, 1) := by decide +kernel
theorem dX7_init_6 : decode cX7_init 6 = .ok (.newarray .boolean, 2) := by decide +kernel
theorem dX7_init_8 : decode cX7_init 8 = .ok (.putfield 7, 3) := by decide +kernel
theorem dX7_init_11 : decode cX7_init 11 = .ok (.aload_n 0, 1) := by decide +kernel
theorem dX7_init_12 : decode cX7_init 12 = .ok (.bipush 12, 2) := by decide +kernel
theorem dX7_init_14 : decode cX7_init 14 = .ok (.newarray .int, 2) := by decide +kernel
theorem dX7_init_16 : decode cX7_init 16 = .ok (.putfield 13, 3) := by decide +kernel
theorem dX7_init_19 : decode cX7_init 19 = .ok (.aload_n 0, 1) := by decide +kernel
theorem dX7_init_20 : decode cX7_init 20 = .ok (.bipush 12, 2) := by decide +kernel
theorem dX7_init_22 : decode cX7_init 22 = .ok (.newarray .int, 2) := by decide +kernel
theorem dX7_init_24 : decode cX7_init 24 = .ok (.putfield 17, 3) := by decide +kernel
theorem dX7_init_27 : decode cX7_init 27 = .ok (.aload_n 0, 1) := by decide +kernel
theorem dX7_init_28 : decode cX7_init 28 = .ok (.bipush 12, 2) := by decide +kernel
theorem dX7_init_30 : decode cX7_init 30 = .ok (.newarray .int, 2) := by decide +kernel
theorem dX7_init_32 : decode cX7_init 32 = .ok (.putfield 20, 3) := by decide +kernel
theorem dX7_init_35 : decode cX7_init 35 = .ok (.aload_n 0, 1) := by decide +kernel
theorem dX7_init_36 : decode cX7_init 36 = .ok (.bipush 12, 2) := by decide +kernel
theorem dX7_init_38 : decode cX7_init 38 = .ok (.newarray .int, 2) := by decide +kernel
theorem dX7_init_40 : decode cX7_init 40 = .ok (.putfield 23, 3) := by decide +kernel
theorem dX7_init_43 : decode cX7_init 43 = .ok (.aload_n 0, 1) := by decide +kernel
theorem dX7_init_44 : decode cX7_init 44 = .ok (.bipush 12, 2) := by decide +kernel
theorem dX7_init_46 : decode cX7_init 46 = .ok (.newarray .int, 2) := by decide +kernel
theorem dX7_init_48 : decode cX7_init 48 = .ok (.putfield 26, 3) := by decide +kernel
theorem dX7_init_51 : decode cX7_init 51 = .ok (.aload_n 0, 1) := by decide +kernel
theorem dX7_init_52 : decode cX7_init 52 = .ok (.bipush 12, 2) := by decide +kernel
theorem dX7_init_54 : decode cX7_init 54 = .ok (.newarray .int, 2) := by decide +kernel
theorem dX7_init_56 : decode cX7_init 56 = .ok (.putfield 29, 3) := by decide +kernel
theorem dX7_init_59 : decode cX7_init 59 = .ok (.aload_n 0, 1) := by decide +kernel
theorem dX7_init_60 : decode cX7_init 60 = .ok (.bipush 12, 2) := by decide +kernel
theorem dX7_init_62 : decode cX7_init 62 = .ok (.newarray .int, 2) := by decide +kernel
theorem dX7_init_64 : decode cX7_init 64 = .ok (.putfield 32, 3) := by decide +kernel
theorem dX7_init_67 : decode cX7_init 67 = .ok (.aload_n 0, 1) := by decide +kernel
theorem dX7_init_68 : decode cX7_init 68 = .ok (.bipush 12, 2) := by decide +kernel
theorem dX7_init_70 : decode cX7_init 70 = .ok (.newarray .int, 2) := by decide +kernel
theorem dX7_init_72 : decode cX7_init 72 = .ok (.putfield 35, 3) := by decide +kernel
theorem dX7_init_75 : decode cX7_init 75 = .ok (.aload_n 0, 1) := by decide +kernel
theorem dX7_init_76 : decode cX7_init 76 = .ok (.bipush 12, 2) := by decide +kernel
theorem dX7_init_78 : decode cX7_init 78 = .ok (.newarray .int, 2) := by decide +kernel
theorem dX7_init_80 : decode cX7_init 80 = .ok (.putfield 38, 3) := by decide +kernel
theorem dX7_init_83 : decode cX7_init 83 = .ok (.aload_n 0, 1) := by decide +kernel
theorem dX7_init_84 : decode cX7_init 84 = .ok (.bipush 12, 2) := by decide +kernel
theorem dX7_init_86 : decode cX7_init 86 = .ok (.newarray .int, 2) := by decide +kernel
theorem dX7_init_88 : decode cX7_init 88 = .ok (.putfield 41, 3) := by decide +kernel
theorem dX7_init_91 : decode cX7_init 91 = .ok (.aload_n 0, 1) := by decide +kernel
theorem dX7_init_92 : decode cX7_init 92 = .ok (.bipush 12, 2) := by decide +kernel
theorem dX7_init_94 : decode cX7_init 94 = .ok (.newarray .boolean, 2) := by decide +kernel
theorem dX7_init_96 : decode cX7_init 96 = .ok (.putfield 44, 3) := by decide +kernel
theorem dX7_init_99 : decode cX7_init 99 = .ok (.aload_n 0, 1) := by decide +kernel
theorem dX7_init_100 : decode cX7_init 100 = .ok (.bipush 12, 2) := by decide +kernel
theorem dX7_init_102 : decode cX7_init 102 = .ok (.newarray .int, 2) := by decide +kernel
theorem dX7_init_104 : decode cX7_init 104 = .ok (.putfield 47, 3) := by decide +kernel
theorem dX7_init_107 : decode cX7_init 107 = .ok (.aload_n 0, 1) := by decide +kernel
theorem dX7_init_108 : decode cX7_init 108 = .ok (.bipush 12, 2) := by decide +kernel
theorem dX7_init_110 : decode cX7_init 110 = .ok (.newarray .int, 2) := by decide +kernel
theorem dX7_init_112 : decode cX7_init 112 = .ok (.putfield 50, 3) := by decide +kernel
theorem dX7_init_115 : decode cX7_init 115 = .ok (.aload_n 0, 1) := by decide +kernel
theorem dX7_init_116 : decode cX7_init 116 = .ok (.bipush 12, 2) := by decide +kernel
theorem dX7_init_118 : decode cX7_init 118 = .ok (.newarray .int, 2) := by decide +kernel
theorem dX7_init_120 : decode cX7_init 120 = .ok (.putfield 53, 3) := by decide +kernel
theorem dX7_init_123 : decode cX7_init 123 = .ok (.aload_n 0, 1) := by decide +kernel
theorem dX7_init_124 : decode cX7_init 124 = .ok (.bipush 60, 2) := by decide +kernel
theorem dX7_init_126 : decode cX7_init 126 = .ok (.newarray .boolean, 2) := by decide +kernel
theorem dX7_init_128 : decode cX7_init 128 = .ok (.putfield 56, 3) := by decide +kernel
theorem dX7_init_131 : decode cX7_init 131 = .ok (.aload_n 0, 1) := by decide +kernel
theorem dX7_init_132 : decode cX7_init 132 = .ok (.bipush 60, 2) := by decide +kernel
theorem dX7_init_134 : decode cX7_init 134 = .ok (.newarray .int, 2) := by decide +kernel
theorem dX7_init_136 : decode cX7_init 136 = .ok (.putfield 59, 3) := by decide +kernel
theorem dX7_init_139 : decode cX7_init 139 = .ok (.aload_n 0, 1) := by decide +kernel
theorem dX7_init_140 : decode cX7_init 140 = .ok (.bipush 60, 2) := by decide +kernel
theorem dX7_init_142 : decode cX7_init 142 = .ok (.newarray .int, 2) := by decide +kernel
theorem dX7_init_144 : decode cX7_init 144 = .ok (.putfield 62, 3) := by decide +kernel
theorem dX7_init_147 : decode cX7_init 147 = .ok (.aload_n 0, 1) := by decide +kernel
theorem dX7_init_148 : decode cX7_init 148 = .ok (.bipush 60, 2) := by decide +kernel
theorem dX7_init_150 : decode cX7_init 150 = .ok (.newarray .int, 2) := by decide +kernel
theorem dX7_init_152 : decode cX7_init 152 = .ok (.putfield 65, 3) := by decide +kernel
theorem dX7_init_155 : decode cX7_init 155 = .ok (.aload_n 0, 1) := by decide +kernel
theorem dX7_init_156 : decode cX7_init 156 = .ok (.bipush 60, 2) := by decide +kernel
theorem dX7_init_158 : decode cX7_init 158 = .ok (.newarray .int, 2) := by decide +kernel
theorem dX7_init_160 : decode cX7_init 160 = .ok (.putfield 68, 3) := by decide +kernel
theorem dX7_init_163 : decode cX7_init 163 = .ok (.aload_n 0, 1) := by decide +kernel
theorem dX7_init_164 : decode cX7_init 164 = .ok (.bipush 20, 2) := by decide +kernel
theorem dX7_init_166 : decode cX7_init 166 = .ok (.newarray .int, 2) := by decide +kernel
theorem dX7_init_168 : decode cX7_init 168 = .ok (.putfield 71, 3) := by decide +kernel
theorem dX7_init_171 : decode cX7_init 171 = .ok (.aload_n 0, 1) := by decide +kernel
theorem dX7_init_172 : decode cX7_init 172 = .ok (.bipush 20, 2) := by decide +kernel
theorem dX7_init_174 : decode cX7_init 174 = .ok (.newarray .int, 2) := by decide +kernel
theorem dX7_init_176 : decode cX7_init 176 = .ok (.putfield 74, 3) := by decide +kernel
theorem dX7_init_179 : decode cX7_init 179 = .ok (.aload_n 0, 1) := by decide +kernel
theorem dX7_init_180 : decode cX7_init 180 = .ok (.bipush 20, 2) := by decide +kernel
theorem dX7_init_182 : decode cX7_init 182 = .ok (.newarray .int, 2) := by decide +kernel
theorem dX7_init_184 : decode cX7_init 184 = .ok (.putfield 77, 3) := by decide +kernel
theorem dX7_init_187 : decode cX7_init 187 = .ok (.aload_n 0, 1) := by decide +kernel
theorem dX7_init_188 : decode cX7_init 188 = .ok (.bipush 20, 2) := by decide +kernel
theorem dX7_init_190 : decode cX7_init 190 = .ok (.newarray .int, 2) := by decide +kernel
theorem dX7_init_192 : decode cX7_init 192 = .ok (.putfield 80, 3) := by decide +kernel
theorem dX7_init_195 : decode cX7_init 195 = .ok (.aload_n 0, 1) := by decide +kernel
theorem dX7_init_196 : decode cX7_init 196 = .ok (.bipush 20, 2) := by decide +kernel
theorem dX7_init_198 : decode cX7_init 198 = .ok (.newarray .int, 2) := by decide +kernel
theorem dX7_init_200 : decode cX7_init 200 = .ok (.putfield 83, 3) := by decide +kernel
theorem dX7_init_203 : decode cX7_init 203 = .ok (.aload_n 0, 1) := by decide +kernel
theorem dX7_init_204 : decode cX7_init 204 = .ok (.bipush 60, 2) := by decide +kernel
theorem dX7_init_206 : decode cX7_init 206 = .ok (.newarray .int, 2) := by decide +kernel
theorem dX7_init_208 : decode cX7_init 208 = .ok (.putfield 86, 3) := by decide +kernel
theorem dX7_init_211 : decode cX7_init 211 = .ok (.aload_n 0, 1) := by decide +kernel
theorem dX7_init_212 : decode cX7_init 212 = .ok (.bipush 60, 2) := by decide +kernel
theorem dX7_init_214 : decode cX7_init 214 = .ok (.newarray .int, 2) := by decide +kernel
theorem dX7_init_216 : decode cX7_init 216 = .ok (.putfield 89, 3) := by decide +kernel
theorem dX7_init_219 : decode cX7_init 219 = .ok (.aload_n 0, 1) := by decide +kernel
theorem dX7_init_220 : decode cX7_init 220 = .ok (.bipush 60, 2) := by decide +kernel
theorem dX7_init_222 : decode cX7_init 222 = .ok (.newarray .int, 2) := by decide +kernel
theorem dX7_init_224 : decode cX7_init 224 = .ok (.putfield 92, 3) := by decide +kernel
theorem dX7_init_227 : decode cX7_init 227 = .ok (.aload_n 0, 1) := by decide +kernel
theorem dX7_init_228 : decode cX7_init 228 = .ok (.bipush 60, 2) := by decide +kernel
theorem dX7_init_230 : decode cX7_init 230 = .ok (.newarray .int, 2) := by decide +kernel
theorem dX7_init_232 : decode cX7_init 232 = .ok (.putfield 95, 3) := by decide +kernel
theorem dX7_init_235 : decode cX7_init 235 = .ok (.aload_n 0, 1) := by decide +kernel
theorem dX7_init_236 : decode cX7_init 236 = .ok (.bipush 60, 2) := by decide +kernel
theorem dX7_init_238 : decode cX7_init 238 = .ok (.newarray .int, 2) := by decide +kernel
theorem dX7_init_240 : decode cX7_init 240 = .ok (.putfield 98, 3) := by decide +kernel
theorem dX7_init_243 : decode cX7_init 243 = .ok (.aload_n 0, 1) := by decide +kernel
theorem dX7_init_244 : decode cX7_init 244 = .ok (.bipush 60, 2) := by decide +kernel
theorem dX7_init_246 : decode cX7_init 246 = .ok (.newarray .int, 2) := by decide +kernel
theorem dX7_init_248 : decode cX7_init 248 = .ok (.putfield 101, 3) := by decide +kernel
theorem dX7_init_251 : decode cX7_init 251 = .ok (.aload_n 0, 1) := by decide +kernel
theorem dX7_init_252 : decode cX7_init 252 = .ok (.sipush 720, 3) := by decide +kernel
theorem dX7_init_255 : decode cX7_init 255 = .ok (.newarray .int, 2) := by decide +kernel
theorem dX7_init_257 : decode cX7_init 257 = .ok (.putfield 104, 3) := by decide +kernel
theorem dX7_init_260 : decode cX7_init 260 = .ok (.aload_n 0, 1) := by decide +kernel
theorem dX7_init_261 : decode cX7_init 261 = .ok (.sipush 720, 3) := by decide +kernel
theorem dX7_init_264 : decode cX7_init 264 = .ok (.newarray .int, 2) := by decide +kernel
theorem dX7_init_266 : decode cX7_init 266 = .ok (.putfield 107, 3) := by decide +kernel
theorem dX7_init_269 : decode cX7_init 269 = .ok (.aload_n 0, 1) := by decide +kernel
theorem dX7_init_270 : decode cX7_init 270 = .ok (.bipush 60, 2) := by decide +kernel
theorem dX7_init_272 : decode cX7_init 272 = .ok (.newarray .int, 2) := by decide +kernel
theorem dX7_init_274 : decode cX7_init 274 = .ok (.putfield 110, 3) := by decide +kernel
theorem dX7_init_277 : decode cX7_init 277 = .ok (.aload_n 0, 1) := by decide +kernel
theorem dX7_init_278 : decode cX7_init 278 = .ok (.bipush 60, 2) := by decide +kernel
theorem dX7_init_280 : decode cX7_init 280 = .ok (.newarray .boolean, 2) := by decide +kernel
theorem dX7_init_282 : decode cX7_init 282 = .ok (.putfield 113, 3) := by decide +kernel
theorem dX7_init_285 : decode cX7_init 285 = .ok (.aload_n 0, 1) := by decide +kernel
theorem dX7_init_286 : decode cX7_init 286 = .ok (.bipush 60, 2) := by decide +kernel
theorem dX7_init_288 : decode cX7_init 288 = .ok (.newarray .int, 2) := by decide +kernel
theorem dX7_init_290 : decode cX7_init 290 = .ok (.putfield 116, 3) := by decide +kernel
theorem dX7_init_293 : decode cX7_init 293 = .ok (.aload_n 0, 1) := by decide +kernel
theorem dX7_init_294 : decode cX7_init 294 = .ok (.bipush 60, 2) := by decide +kernel
theorem dX7_init_296 : decode cX7_init 296 = .ok (.newarray .int, 2) := by decide +kernel
theorem dX7_init_298 : decode cX7_init 298 = .ok (.putfield 119, 3) := by decide +kernel
theorem dX7_init_301 : decode cX7_init 301 = .ok (.aload_n 0, 1) := by decide +kernel
theorem dX7_init_302 : decode cX7_init 302 = .ok (.bipush 60, 2) := by decide +kernel
theorem dX7_init_304 : decode cX7_init 304 = .ok (.newarray .boolean, 2) := by decide +kernel
theorem dX7_init_306 : decode cX7_init 306 = .ok (.putfield 122, 3) := by decide +kernel
theorem dX7_init_309 : decode cX7_init 309 = .ok (.aload_n 0, 1) := by decide +kernel
theorem dX7_init_310 : decode cX7_init 310 = .ok (.iconst 4, 1) := by decide +kernel
theorem dX7_init_311 : decode cX7_init 311 = .ok (.newarray .int, 2) := by decide +kernel
theorem dX7_init_313 : decode cX7_init 313 = .ok (.putfield 125, 3) := by decide +kernel
theorem dX7_init_316 : decode cX7_init 316 = .ok (.return_, 1) := by decide +kernel
theorem dX7_thrown_0 : decode cX7_thrown 0 = .ok (.aload_n 0, 1) := by decide +kernel
theorem dX7_thrown_1 : decode cX7_thrown 1 = .ok (.getfield 128, 3) := by decide +kernel
theorem dX7_thrown_4 : decode cX7_thrown 4 = .ok (.ireturn, 1) := by decide +kernel
theorem dX7_in_0 : decode cX7_in 0 = .ok (.iload_n 0, 1) := by decide +kernel
theorem dX7_in_1 : decode cX7_in 1 = .ok (.iload_n 1, 1) := by decide +kernel
theorem dX7_in_2 : decode cX7_in 2 = .ok (.if_icmp .lt 12, 3) := by decide +kernel
theorem dX7_in_5 : decode cX7_in 5 = .ok (.iload_n 0, 1) := by decide +kernel
theorem dX7_in_6 : decode cX7_in 6 = .ok (.iload_n 2, 1) := by decide +kernel
theorem dX7_in_7 : decode cX7_in 7 = .ok (.if_icmp .gt 7, 3) := by decide +kernel
theorem dX7_in_10 : decode cX7_in 10 = .ok (.iconst 1, 1) := by decide +kernel
theorem dX7_in_11 : decode cX7_in 11 = .ok (.goto 4, 3) := by decide +kernel
theorem dX7_in_14 : decode cX7_in 14 = .ok (.iconst 0, 1) := by decide +kernel
theorem dX7_in_15 : decode cX7_in 15 = .ok (.ireturn, 1) := by decide +kernel
theorem dX7_isShip_0 : decode cX7_isShip 0 = .ok (.iload_n 1, 1) := by decide +kernel
theorem dX7_isShip_1 : decode cX7_isShip 1 = .ok (.iconst 0, 1) := by decide +kernel
theorem dX7_isShip_2 : decode cX7_isShip 2 = .ok (.aload_n 0, 1) := by decide +kernel
theorem dX7_isShip_3 : decode cX7_isShip 3 = .ok (.getfield 132, 3) := by decide +kernel
theorem dX7_isShip_6 : decode cX7_isShip 6 = .ok (.iconst 1, 1) := by decide +kernel
theorem dX7_isShip_7 : decode cX7_isShip 7 = .ok (.isub, 1) := by decide +kernel
theorem dX7_isShip_8 : decode cX7_isShip 8 = .ok (.invokestatic 135, 3) := by decide +kernel
theorem dX7_isShip_11 : decode cX7_isShip 11 = .ok (.ireturn, 1) := by decide +kernel
theorem dX7_isVisit_0 : decode cX7_isVisit 0 = .ok (.iload_n 1, 1) := by decide +kernel
theorem dX7_isVisit_1 : decode cX7_isVisit 1 = .ok (.iconst 0, 1) := by decide +kernel
theorem dX7_isVisit_2 : decode cX7_isVisit 2 = .ok (.aload_n 0, 1) := by decide +kernel
theorem dX7_isVisit_3 : decode cX7_isVisit 3 = .ok (.getfield 139, 3) := by decide +kernel
theorem dX7_isVisit_6 : decode cX7_isVisit 6 = .ok (.iconst 1, 1) := by decide +kernel
theorem dX7_isVisit_7 : decode cX7_isVisit 7 = .ok (.isub, 1) := by decide +kernel
theorem dX7_isVisit_8 : decode cX7_isVisit 8 = .ok (.invokestatic 135, 3) := by decide +kernel
theorem dX7_isVisit_11 : decode cX7_isVisit 11 = .ok (.ireturn, 1) := by decide +kernel
theorem dX7_isFlag_0 : decode cX7_isFlag 0 = .ok (.iload_n 0, 1) := by decide +kernel
theorem dX7_isFlag_1 : decode cX7_isFlag 1 = .ok (.iconst 0, 1) := by decide +kernel
theorem dX7_isFlag_2 : decode cX7_isFlag 2 = .ok (.iconst 5, 1) := by decide +kernel
theorem dX7_isFlag_3 : decode cX7_isFlag 3 = .ok (.invokestatic 135, 3) := by decide +kernel
theorem dX7_isFlag_6 : decode cX7_isFlag 6 = .ok (.ireturn, 1) := by decide +kernel
theorem dX7_isBody_0 : decode cX7_isBody 0 = .ok (.iload_n 0, 1) := by decide +kernel
theorem dX7_isBody_1 : decode cX7_isBody 1 = .ok (.iconst 0, 1) := by decide +kernel
theorem dX7_isBody_2 : decode cX7_isBody 2 = .ok (.iconst 3, 1) := by decide +kernel
theorem dX7_isBody_3 : decode cX7_isBody 3 = .ok (.invokestatic 135, 3) := by decide +kernel
theorem dX7_isBody_6 : decode cX7_isBody 6 = .ok (.ireturn, 1) := by decide +kernel
theorem dX7_isPort_0 : decode cX7_isPort 0 = .ok (.iload_n 0, 1) := by decide +kernel
theorem dX7_isPort_1 : decode cX7_isPort 1 = .ok (.iconst 0, 1) := by decide +kernel
theorem dX7_isPort_2 : decode cX7_isPort 2 = .ok (.iconst 3, 1) := by decide +kernel
theorem dX7_isPort_3 : decode cX7_isPort 3 = .ok (.invokestatic 135, 3) := by decide +kernel
theorem dX7_isPort_6 : decode cX7_isPort 6 = .ok (.ireturn, 1) := by decide +kernel
theorem dX7_isIn_0 : decode cX7_isIn 0 = .ok (.iload_n 0, 1) := by decide +kernel
theorem dX7_isIn_1 : decode cX7_isIn 1 = .ok (.iload_n 1, 1) := by decide +kernel
theorem dX7_isIn_2 : decode cX7_isIn 2 = .ok (.ishr, 1) := by decide +kernel
theorem dX7_isIn_3 : decode cX7_isIn 3 = .ok (.iconst 1, 1) := by decide +kernel
theorem dX7_isIn_4 : decode cX7_isIn 4 = .ok (.iand, 1) := by decide +kernel
theorem dX7_isIn_5 : decode cX7_isIn 5 = .ok (.iconst 1, 1) := by decide +kernel
theorem dX7_isIn_6 : decode cX7_isIn 6 = .ok (.if_icmp .ne 7, 3) := by decide +kernel
theorem dX7_isIn_9 : decode cX7_isIn 9 = .ok (.iconst 1, 1) := by decide +kernel
theorem dX7_isIn_10 : decode cX7_isIn 10 = .ok (.goto 4, 3) := by decide +kernel
theorem dX7_isIn_13 : decode cX7_isIn 13 = .ok (.iconst 0, 1) := by decide +kernel
theorem dX7_isIn_14 : decode cX7_isIn 14 = .ok (.ireturn, 1) := by decide +kernel
theorem dX7_pass_0 : decode cX7_pass 0 = .ok (.aload_n 0, 1) := by decide +kernel
theorem dX7_pass_1 : decode cX7_pass 1 = .ok (.iload_n 1, 1) := by decide +kernel
theorem dX7_pass_2 : decode cX7_pass 2 = .ok (.iconst 1, 1) := by decide +kernel
theorem dX7_pass_3 : decode cX7_pass 3 = .ok (.sipush 500, 3) := by decide +kernel
theorem dX7_pass_6 : decode cX7_pass 6 = .ok (.invokestatic 135, 3) := by decide +kernel
theorem dX7_pass_9 : decode cX7_pass 9 = .ok (.ifCond .ne 7, 3) := by decide +kernel
theorem dX7_pass_12 : decode cX7_pass 12 = .ok (.iconst 1, 1) := by decide +kernel
theorem dX7_pass_13 : decode cX7_pass 13 = .ok (.goto 20, 3) := by decide +kernel
theorem dX7_pass_16 : decode cX7_pass 16 = .ok (.aload_n 0, 1) := by decide +kernel
theorem dX7_pass_17 : decode cX7_pass 17 = .ok (.getfield 142, 3) := by decide +kernel
theorem dX7_pass_20 : decode cX7_pass 20 = .ok (.iload_n 1, 1) := by decide +kernel
theorem dX7_pass_21 : decode cX7_pass 21 = .ok (.iadd, 1) := by decide +kernel
theorem dX7_pass_22 : decode cX7_pass 22 = .ok (.sipush 9000, 3) := by decide +kernel
theorem dX7_pass_25 : decode cX7_pass 25 = .ok (.if_icmp .le 7, 3) := by decide +kernel
theorem dX7_pass_28 : decode cX7_pass 28 = .ok (.iconst 2, 1) := by decide +kernel
theorem dX7_pass_29 : decode cX7_pass 29 = .ok (.goto 4, 3) := by decide +kernel
theorem dX7_pass_32 : decode cX7_pass 32 = .ok (.iconst 0, 1) := by decide +kernel
theorem dX7_pass_33 : decode cX7_pass 33 = .ok (.putfield 128, 3) := by decide +kernel
theorem dX7_pass_36 : decode cX7_pass 36 = .ok (.aload_n 0, 1) := by decide +kernel
theorem dX7_pass_37 : decode cX7_pass 37 = .ok (.getfield 128, 3) := by decide +kernel
theorem dX7_pass_40 : decode cX7_pass 40 = .ok (.ifCond .le 5, 3) := by decide +kernel
theorem dX7_pass_43 : decode cX7_pass 43 = .ok (.iconst 0, 1) := by decide +kernel
theorem dX7_pass_44 : decode cX7_pass 44 = .ok (.ireturn, 1) := by decide +kernel
theorem dX7_pass_45 : decode cX7_pass 45 = .ok (.aload_n 0, 1) := by decide +kernel
theorem dX7_pass_46 : decode cX7_pass 46 = .ok (.dup, 1) := by decide +kernel
theorem dX7_pass_47 : decode cX7_pass 47 = .ok (.getfield 142, 3) := by decide +kernel
theorem dX7_pass_50 : decode cX7_pass 50 = .ok (.iload_n 1, 1) := by decide +kernel
theorem dX7_pass_51 : decode cX7_pass 51 = .ok (.iadd, 1) := by decide +kernel
theorem dX7_pass_52 : decode cX7_pass 52 = .ok (.putfield 142, 3) := by decide +kernel
theorem dX7_pass_55 : decode cX7_pass 55 = .ok (.aload_n 0, 1) := by decide +kernel
theorem dX7_pass_56 : decode cX7_pass 56 = .ok (.getfield 142, 3) := by decide +kernel
theorem dX7_pass_59 : decode cX7_pass 59 = .ok (.ireturn, 1) := by decide +kernel
theorem dX7_ship_0 : decode cX7_ship 0 = .ok (.iload_n 1, 1) := by decide +kernel
theorem dX7_ship_1 : decode cX7_ship 1 = .ok (.sipush (-10000), 3) := by decide +kernel
theorem dX7_ship_4 : decode cX7_ship 4 = .ok (.aload_n 0, 1) := by decide +kernel
theorem dX7_ship_5 : decode cX7_ship 5 = .ok (.getfield 142, 3) := by decide +kernel
theorem dX7_ship_8 : decode cX7_ship 8 = .ok (.invokestatic 135, 3) := by decide +kernel
theorem dX7_ship_11 : decode cX7_ship 11 = .ok (.ifCond .eq 27, 3) := by decide +kernel
theorem dX7_ship_14 : decode cX7_ship 14 = .ok (.iload_n 2, 1) := by decide +kernel
theorem dX7_ship_15 : decode cX7_ship 15 = .ok (.bipush 100, 2) := by decide +kernel
theorem dX7_ship_17 : decode cX7_ship 17 = .ok (.ldc 145, 2) := by decide +kernel
theorem dX7_ship_19 : decode cX7_ship 19 = .ok (.invokestatic 135, 3) := by decide +kernel
theorem dX7_ship_22 : decode cX7_ship 22 = .ok (.ifCond .eq 16, 3) := by decide +kernel
theorem dX7_ship_25 : decode cX7_ship 25 = .ok (.iload_n 3, 1) := by decide +kernel
theorem dX7_ship_26 : decode cX7_ship 26 = .ok (.iconst 0, 1) := by decide +kernel
theorem dX7_ship_27 : decode cX7_ship 27 = .ok (.iconst 2, 1) := by decide +kernel
theorem dX7_ship_28 : decode cX7_ship 28 = .ok (.invokestatic 135, 3) := by decide +kernel
theorem dX7_ship_31 : decode cX7_ship 31 = .ok (.ifCond .eq 7, 3) := by decide +kernel
theorem dX7_ship_34 : decode cX7_ship 34 = .ok (.iconst 1, 1) := by decide +kernel
theorem dX7_ship_35 : decode cX7_ship 35 = .ok (.goto 4, 3) := by decide +kernel
theorem dX7_ship_38 : decode cX7_ship 38 = .ok (.iconst 0, 1) := by decide +kernel
theorem dX7_ship_39 : decode cX7_ship 39 = .ok (.istore 6, 2) := by decide +kernel
theorem dX7_ship_41 : decode cX7_ship 41 = .ok (.aload_n 0, 1) := by decide +kernel
theorem dX7_ship_42 : decode cX7_ship 42 = .ok (.iload 4, 2) := by decide +kernel
theorem dX7_ship_44 : decode cX7_ship 44 = .ok (.invokestatic 146, 3) := by decide +kernel
theorem dX7_ship_47 : decode cX7_ship 47 = .ok (.ifCond .eq 11, 3) := by decide +kernel
theorem dX7_ship_50 : decode cX7_ship 50 = .ok (.iload 5, 2) := by decide +kernel
theorem dX7_ship_52 : decode cX7_ship 52 = .ok (.invokestatic 150, 3) := by decide +kernel
theorem dX7_ship_55 : decode cX7_ship 55 = .ok (.ifCond .ne 7, 3) := by decide +kernel
theorem dX7_ship_58 : decode cX7_ship 58 = .ok (.iconst 1, 1) := by decide +kernel
theorem dX7_ship_59 : decode cX7_ship 59 = .ok (.goto 26, 3) := by decide +kernel
theorem dX7_ship_62 : decode cX7_ship 62 = .ok (.iload 6, 2) := by decide +kernel
theorem dX7_ship_64 : decode cX7_ship 64 = .ok (.ifCond .ne 7, 3) := by decide +kernel
theorem dX7_ship_67 : decode cX7_ship 67 = .ok (.iconst 2, 1) := by decide +kernel
theorem dX7_ship_68 : decode cX7_ship 68 = .ok (.goto 17, 3) := by decide +kernel
theorem dX7_ship_71 : decode cX7_ship 71 = .ok (.aload_n 0, 1) := by decide +kernel
theorem dX7_ship_72 : decode cX7_ship 72 = .ok (.getfield 132, 3) := by decide +kernel
theorem dX7_ship_75 : decode cX7_ship 75 = .ok (.bipush 12, 2) := by decide +kernel
theorem dX7_ship_77 : decode cX7_ship 77 = .ok (.if_icmp .ne 7, 3) := by decide +kernel
theorem dX7_ship_80 : decode cX7_ship 80 = .ok (.iconst 3, 1) := by decide +kernel
theorem dX7_ship_81 : decode cX7_ship 81 = .ok (.goto 4, 3) := by decide +kernel
theorem dX7_ship_84 : decode cX7_ship 84 = .ok (.iconst 0, 1) := by decide +kernel
theorem dX7_ship_85 : decode cX7_ship 85 = .ok (.putfield 128, 3) := by decide +kernel
theorem dX7_ship_88 : decode cX7_ship 88 = .ok (.aload_n 0, 1) := by decide +kernel
theorem dX7_ship_89 : decode cX7_ship 89 = .ok (.getfield 128, 3) := by decide +kernel
theorem dX7_ship_92 : decode cX7_ship 92 = .ok (.ifCond .le 5, 3) := by decide +kernel
theorem dX7_ship_95 : decode cX7_ship 95 = .ok (.iconst 0, 1) := by decide +kernel
theorem dX7_ship_96 : decode cX7_ship 96 = .ok (.ireturn, 1) := by decide +kernel
theorem dX7_ship_97 : decode cX7_ship 97 = .ok (.aload_n 0, 1) := by decide +kernel
theorem dX7_ship_98 : decode cX7_ship 98 = .ok (.getfield 13, 3) := by decide +kernel
theorem dX7_ship_101 : decode cX7_ship 101 = .ok (.aload_n 0, 1) := by decide +kernel
theorem dX7_ship_102 : decode cX7_ship 102 = .ok (.getfield 132, 3) := by decide +kernel
theorem dX7_ship_105 : decode cX7_ship 105 = .ok (.iload_n 1, 1) := by decide +kernel
theorem dX7_ship_106 : decode cX7_ship 106 = .ok (.iastore, 1) := by decide +kernel
theorem dX7_ship_107 : decode cX7_ship 107 = .ok (.aload_n 0, 1) := by decide +kernel
theorem dX7_ship_108 : decode cX7_ship 108 = .ok (.getfield 17, 3) := by decide +kernel
theorem dX7_ship_111 : decode cX7_ship 111 = .ok (.aload_n 0, 1) := by decide +kernel
theorem dX7_ship_112 : decode cX7_ship 112 = .ok (.getfield 132, 3) := by decide +kernel
theorem dX7_ship_115 : decode cX7_ship 115 = .ok (.iload_n 2, 1) := by decide +kernel
theorem dX7_ship_116 : decode cX7_ship 116 = .ok (.iastore, 1) := by decide +kernel
theorem dX7_ship_117 : decode cX7_ship 117 = .ok (.aload_n 0, 1) := by decide +kernel
theorem dX7_ship_118 : decode cX7_ship 118 = .ok (.getfield 20, 3) := by decide +kernel
theorem dX7_ship_121 : decode cX7_ship 121 = .ok (.aload_n 0, 1) := by decide +kernel
theorem dX7_ship_122 : decode cX7_ship 122 = .ok (.getfield 132, 3) := by decide +kernel
theorem dX7_ship_125 : decode cX7_ship 125 = .ok (.iload_n 3, 1) := by decide +kernel
theorem dX7_ship_126 : decode cX7_ship 126 = .ok (.iastore, 1) := by decide +kernel
theorem dX7_ship_127 : decode cX7_ship 127 = .ok (.aload_n 0, 1) := by decide +kernel
theorem dX7_ship_128 : decode cX7_ship 128 = .ok (.getfield 23, 3) := by decide +kernel
theorem dX7_ship_131 : decode cX7_ship 131 = .ok (.aload_n 0, 1) := by decide +kernel
theorem dX7_ship_132 : decode cX7_ship 132 = .ok (.getfield 132, 3) := by decide +kernel
theorem dX7_ship_135 : decode cX7_ship 135 = .ok (.iload 4, 2) := by decide +kernel
theorem dX7_ship_137 : decode cX7_ship 137 = .ok (.iastore, 1) := by decide +kernel
theorem dX7_ship_138 : decode cX7_ship 138 = .ok (.aload_n 0, 1) := by decide +kernel
theorem dX7_ship_139 : decode cX7_ship 139 = .ok (.getfield 26, 3) := by decide +kernel
theorem dX7_ship_142 : decode cX7_ship 142 = .ok (.aload_n 0, 1) := by decide +kernel
theorem dX7_ship_143 : decode cX7_ship 143 = .ok (.getfield 132, 3) := by decide +kernel
theorem dX7_ship_146 : decode cX7_ship 146 = .ok (.iload 5, 2) := by decide +kernel
theorem dX7_ship_148 : decode cX7_ship 148 = .ok (.iastore, 1) := by decide +kernel
theorem dX7_ship_149 : decode cX7_ship 149 = .ok (.aload_n 0, 1) := by decide +kernel
theorem dX7_ship_150 : decode cX7_ship 150 = .ok (.getfield 32, 3) := by decide +kernel
theorem dX7_ship_153 : decode cX7_ship 153 = .ok (.aload_n 0, 1) := by decide +kernel
theorem dX7_ship_154 : decode cX7_ship 154 = .ok (.getfield 132, 3) := by decide +kernel
theorem dX7_ship_157 : decode cX7_ship 157 = .ok (.iconst (-1), 1) := by decide +kernel
theorem dX7_ship_158 : decode cX7_ship 158 = .ok (.iastore, 1) := by decide +kernel
theorem dX7_ship_159 : decode cX7_ship 159 = .ok (.aload_n 0, 1) := by decide +kernel
theorem dX7_ship_160 : decode cX7_ship 160 = .ok (.getfield 35, 3) := by decide +kernel
theorem dX7_ship_163 : decode cX7_ship 163 = .ok (.aload_n 0, 1) := by decide +kernel
theorem dX7_ship_164 : decode cX7_ship 164 = .ok (.getfield 132, 3) := by decide +kernel
theorem dX7_ship_167 : decode cX7_ship 167 = .ok (.iconst (-1), 1) := by decide +kernel
theorem dX7_ship_168 : decode cX7_ship 168 = .ok (.iastore, 1) := by decide +kernel
theorem dX7_ship_169 : decode cX7_ship 169 = .ok (.aload_n 0, 1) := by decide +kernel
theorem dX7_ship_170 : decode cX7_ship 170 = .ok (.getfield 38, 3) := by decide +kernel
theorem dX7_ship_173 : decode cX7_ship 173 = .ok (.aload_n 0, 1) := by decide +kernel
theorem dX7_ship_174 : decode cX7_ship 174 = .ok (.getfield 132, 3) := by decide +kernel
theorem dX7_ship_177 : decode cX7_ship 177 = .ok (.iconst (-1), 1) := by decide +kernel
theorem dX7_ship_178 : decode cX7_ship 178 = .ok (.iastore, 1) := by decide +kernel
theorem dX7_ship_179 : decode cX7_ship 179 = .ok (.aload_n 0, 1) := by decide +kernel
theorem dX7_ship_180 : decode cX7_ship 180 = .ok (.getfield 41, 3) := by decide +kernel
theorem dX7_ship_183 : decode cX7_ship 183 = .ok (.aload_n 0, 1) := by decide +kernel
theorem dX7_ship_184 : decode cX7_ship 184 = .ok (.getfield 132, 3) := by decide +kernel
theorem dX7_ship_187 : decode cX7_ship 187 = .ok (.iconst (-1), 1) := by decide +kernel
theorem dX7_ship_188 : decode cX7_ship 188 = .ok (.iastore, 1) := by decide +kernel
theorem dX7_ship_189 : decode cX7_ship 189 = .ok (.aload_n 0, 1) := by decide +kernel
theorem dX7_ship_190 : decode cX7_ship 190 = .ok (.getfield 50, 3) := by decide +kernel
theorem dX7_ship_193 : decode cX7_ship 193 = .ok (.aload_n 0, 1) := by decide +kernel
theorem dX7_ship_194 : decode cX7_ship 194 = .ok (.getfield 132, 3) := by decide +kernel
theorem dX7_ship_197 : decode cX7_ship 197 = .ok (.iconst (-1), 1) := by decide +kernel
theorem dX7_ship_198 : decode cX7_ship 198 = .ok (.iastore, 1) := by decide +kernel
theorem dX7_ship_199 : decode cX7_ship 199 = .ok (.aload_n 0, 1) := by decide +kernel
theorem dX7_ship_200 : decode cX7_ship 200 = .ok (.dup, 1) := by decide +kernel
theorem dX7_ship_201 : decode cX7_ship 201 = .ok (.getfield 132, 3) := by decide +kernel
theorem dX7_ship_204 : decode cX7_ship 204 = .ok (.iconst 1, 1) := by decide +kernel
theorem dX7_ship_205 : decode cX7_ship 205 = .ok (.iadd, 1) := by decide +kernel
theorem dX7_ship_206 : decode cX7_ship 206 = .ok (.putfield 132, 3) := by decide +kernel
theorem dX7_ship_209 : decode cX7_ship 209 = .ok (.aload_n 0, 1) := by decide +kernel
theorem dX7_ship_210 : decode cX7_ship 210 = .ok (.getfield 132, 3) := by decide +kernel
theorem dX7_ship_213 : decode cX7_ship 213 = .ok (.iconst 1, 1) := by decide +kernel
theorem dX7_ship_214 : decode cX7_ship 214 = .ok (.isub, 1) := by decide +kernel
theorem dX7_ship_215 : decode cX7_ship 215 = .ok (.ireturn, 1) := by decide +kernel
theorem dX7_changes_0 : decode cX7_changes 0 = .ok (.aload_n 0, 1) := by decide +kernel
theorem dX7_changes_1 : decode cX7_changes 1 = .ok (.aload_n 0, 1) := by decide +kernel
theorem dX7_changes_2 : decode cX7_changes 2 = .ok (.iload_n 1, 1) := by decide +kernel
theorem dX7_changes_3 : decode cX7_changes 3 = .ok (.invokevirtual 153, 3) := by decide +kernel
theorem dX7_changes_6 : decode cX7_changes 6 = .ok (.ifCond .eq 21, 3) := by decide +kernel
theorem dX7_changes_9 : decode cX7_changes 9 = .ok (.iload_n 2, 1) := by decide +kernel
theorem dX7_changes_10 : decode cX7_changes 10 = .ok (.invokestatic 146, 3) := by decide +kernel
theorem dX7_changes_13 : decode cX7_changes 13 = .ok (.ifCond .eq 14, 3) := by decide +kernel
theorem dX7_changes_16 : decode cX7_changes 16 = .ok (.iload_n 3, 1) := by decide +kernel
theorem dX7_changes_17 : decode cX7_changes 17 = .ok (.invokestatic 150, 3) := by decide +kernel
theorem dX7_changes_20 : decode cX7_changes 20 = .ok (.ifCond .eq 7, 3) := by decide +kernel
theorem dX7_changes_23 : decode cX7_changes 23 = .ok (.iconst 0, 1) := by decide +kernel
theorem dX7_changes_24 : decode cX7_changes 24 = .ok (.goto 4, 3) := by decide +kernel
theorem dX7_changes_27 : decode cX7_changes 27 = .ok (.iconst 1, 1) := by decide +kernel
theorem dX7_changes_28 : decode cX7_changes 28 = .ok (.putfield 128, 3) := by decide +kernel
theorem dX7_changes_31 : decode cX7_changes 31 = .ok (.aload_n 0, 1) := by decide +kernel
theorem dX7_changes_32 : decode cX7_changes 32 = .ok (.getfield 128, 3) := by decide +kernel
theorem dX7_changes_35 : decode cX7_changes 35 = .ok (.ifCond .le 5, 3) := by decide +kernel
theorem dX7_changes_38 : decode cX7_changes 38 = .ok (.iconst 0, 1) := by decide +kernel
theorem dX7_changes_39 : decode cX7_changes 39 = .ok (.ireturn, 1) := by decide +kernel
theorem dX7_changes_40 : decode cX7_changes 40 = .ok (.aload_n 0, 1) := by decide +kernel
theorem dX7_changes_41 : decode cX7_changes 41 = .ok (.getfield 23, 3) := by decide +kernel
theorem dX7_changes_44 : decode cX7_changes 44 = .ok (.iload_n 1, 1) := by decide +kernel
theorem dX7_changes_45 : decode cX7_changes 45 = .ok (.iload_n 2, 1) := by decide +kernel
theorem dX7_changes_46 : decode cX7_changes 46 = .ok (.iastore, 1) := by decide +kernel
theorem dX7_changes_47 : decode cX7_changes 47 = .ok (.aload_n 0, 1) := by decide +kernel
theorem dX7_changes_48 : decode cX7_changes 48 = .ok (.getfield 26, 3) := by decide +kernel
theorem dX7_changes_51 : decode cX7_changes 51 = .ok (.iload_n 1, 1) := by decide +kernel
theorem dX7_changes_52 : decode cX7_changes 52 = .ok (.iload_n 3, 1) := by decide +kernel
theorem dX7_changes_53 : decode cX7_changes 53 = .ok (.iastore, 1) := by decide +kernel
theorem dX7_changes_54 : decode cX7_changes 54 = .ok (.aload_n 0, 1) := by decide +kernel
theorem dX7_changes_55 : decode cX7_changes 55 = .ok (.getfield 29, 3) := by decide +kernel
theorem dX7_changes_58 : decode cX7_changes 58 = .ok (.iload_n 1, 1) := by decide +kernel
theorem dX7_changes_59 : decode cX7_changes 59 = .ok (.dup2, 1) := by decide +kernel
theorem dX7_changes_60 : decode cX7_changes 60 = .ok (.iaload, 1) := by decide +kernel
theorem dX7_changes_61 : decode cX7_changes 61 = .ok (.iconst 1, 1) := by decide +kernel
theorem dX7_changes_62 : decode cX7_changes 62 = .ok (.iadd, 1) := by decide +kernel
theorem dX7_changes_63 : decode cX7_changes 63 = .ok (.iastore, 1) := by decide +kernel
theorem dX7_changes_64 : decode cX7_changes 64 = .ok (.aload_n 0, 1) := by decide +kernel
theorem dX7_changes_65 : decode cX7_changes 65 = .ok (.getfield 29, 3) := by decide +kernel
theorem dX7_changes_68 : decode cX7_changes 68 = .ok (.iload_n 1, 1) := by decide +kernel
theorem dX7_changes_69 : decode cX7_changes 69 = .ok (.iaload, 1) := by decide +kernel
theorem dX7_changes_70 : decode cX7_changes 70 = .ok (.ireturn, 1) := by decide +kernel
theorem dX7_suspend_0 : decode cX7_suspend 0 = .ok (.aload_n 0, 1) := by decide +kernel
theorem dX7_suspend_1 : decode cX7_suspend 1 = .ok (.iload_n 1, 1) := by decide +kernel
theorem dX7_suspend_2 : decode cX7_suspend 2 = .ok (.invokestatic 150, 3) := by decide +kernel
theorem dX7_suspend_5 : decode cX7_suspend 5 = .ok (.ifCond .eq 7, 3) := by decide +kernel
theorem dX7_suspend_8 : decode cX7_suspend 8 = .ok (.iconst 0, 1) := by decide +kernel
theorem dX7_suspend_9 : decode cX7_suspend 9 = .ok (.goto 4, 3) := by decide +kernel
theorem dX7_suspend_12 : decode cX7_suspend 12 = .ok (.iconst 1, 1) := by decide +kernel
theorem dX7_suspend_13 : decode cX7_suspend 13 = .ok (.putfield 128, 3) := by decide +kernel
theorem dX7_suspend_16 : decode cX7_suspend 16 = .ok (.aload_n 0, 1) := by decide +kernel
theorem dX7_suspend_17 : decode cX7_suspend 17 = .ok (.getfield 128, 3) := by decide +kernel
theorem dX7_suspend_20 : decode cX7_suspend 20 = .ok (.ifCond .le 5, 3) := by decide +kernel
theorem dX7_suspend_23 : decode cX7_suspend 23 = .ok (.iconst 0, 1) := by decide +kernel
theorem dX7_suspend_24 : decode cX7_suspend 24 = .ok (.ireturn, 1) := by decide +kernel
theorem dX7_suspend_25 : decode cX7_suspend 25 = .ok (.aload_n 0, 1) := by decide +kernel
theorem dX7_suspend_26 : decode cX7_suspend 26 = .ok (.getfield 7, 3) := by decide +kernel
theorem dX7_suspend_29 : decode cX7_suspend 29 = .ok (.iload_n 1, 1) := by decide +kernel
theorem dX7_suspend_30 : decode cX7_suspend 30 = .ok (.baload, 1) := by decide +kernel
theorem dX7_suspend_31 : decode cX7_suspend 31 = .ok (.istore_n 3, 1) := by decide +kernel
theorem dX7_suspend_32 : decode cX7_suspend 32 = .ok (.aload_n 0, 1) := by decide +kernel
theorem dX7_suspend_33 : decode cX7_suspend 33 = .ok (.getfield 7, 3) := by decide +kernel
theorem dX7_suspend_36 : decode cX7_suspend 36 = .ok (.iload_n 1, 1) := by decide +kernel
theorem dX7_suspend_37 : decode cX7_suspend 37 = .ok (.iload_n 2, 1) := by decide +kernel
theorem dX7_suspend_38 : decode cX7_suspend 38 = .ok (.bastore, 1) := by decide +kernel
theorem dX7_suspend_39 : decode cX7_suspend 39 = .ok (.iload_n 3, 1) := by decide +kernel
theorem dX7_suspend_40 : decode cX7_suspend 40 = .ok (.ireturn, 1) := by decide +kernel
theorem dX7_rule_0 : decode cX7_rule 0 = .ok (.iload_n 1, 1) := by decide +kernel
theorem dX7_rule_1 : decode cX7_rule 1 = .ok (.iconst 0, 1) := by decide +kernel
theorem dX7_rule_2 : decode cX7_rule 2 = .ok (.bipush 9, 2) := by decide +kernel
theorem dX7_rule_4 : decode cX7_rule 4 = .ok (.invokestatic 135, 3) := by decide +kernel
theorem dX7_rule_7 : decode cX7_rule 7 = .ok (.ifCond .eq 51, 3) := by decide +kernel
theorem dX7_rule_10 : decode cX7_rule 10 = .ok (.iload_n 2, 1) := by decide +kernel
theorem dX7_rule_11 : decode cX7_rule 11 = .ok (.iconst 0, 1) := by decide +kernel
theorem dX7_rule_12 : decode cX7_rule 12 = .ok (.ldc 145, 2) := by decide +kernel
theorem dX7_rule_14 : decode cX7_rule 14 = .ok (.invokestatic 135, 3) := by decide +kernel
theorem dX7_rule_17 : decode cX7_rule 17 = .ok (.ifCond .eq 41, 3) := by decide +kernel
theorem dX7_rule_20 : decode cX7_rule 20 = .ok (.iload_n 3, 1) := by decide +kernel
theorem dX7_rule_21 : decode cX7_rule 21 = .ok (.iconst 1, 1) := by decide +kernel
theorem dX7_rule_22 : decode cX7_rule 22 = .ok (.bipush 7, 2) := by decide +kernel
theorem dX7_rule_24 : decode cX7_rule 24 = .ok (.invokestatic 135, 3) := by decide +kernel
theorem dX7_rule_27 : decode cX7_rule 27 = .ok (.ifCond .eq 31, 3) := by decide +kernel
theorem dX7_rule_30 : decode cX7_rule 30 = .ok (.iload 4, 2) := by decide +kernel
theorem dX7_rule_32 : decode cX7_rule 32 = .ok (.iconst 0, 1) := by decide +kernel
theorem dX7_rule_33 : decode cX7_rule 33 = .ok (.sipush 9000, 3) := by decide +kernel
theorem dX7_rule_36 : decode cX7_rule 36 = .ok (.invokestatic 135, 3) := by decide +kernel
theorem dX7_rule_39 : decode cX7_rule 39 = .ok (.ifCond .eq 19, 3) := by decide +kernel
theorem dX7_rule_42 : decode cX7_rule 42 = .ok (.iload 5, 2) := by decide +kernel
theorem dX7_rule_44 : decode cX7_rule 44 = .ok (.iconst 0, 1) := by decide +kernel
theorem dX7_rule_45 : decode cX7_rule 45 = .ok (.sipush 3000, 3) := by decide +kernel
theorem dX7_rule_48 : decode cX7_rule 48 = .ok (.invokestatic 135, 3) := by decide +kernel
theorem dX7_rule_51 : decode cX7_rule 51 = .ok (.ifCond .eq 7, 3) := by decide +kernel
theorem dX7_rule_54 : decode cX7_rule 54 = .ok (.iconst 1, 1) := by decide +kernel
theorem dX7_rule_55 : decode cX7_rule 55 = .ok (.goto 4, 3) := by decide +kernel
theorem dX7_rule_58 : decode cX7_rule 58 = .ok (.iconst 0, 1) := by decide +kernel
theorem dX7_rule_59 : decode cX7_rule 59 = .ok (.istore 6, 2) := by decide +kernel
theorem dX7_rule_61 : decode cX7_rule 61 = .ok (.aload_n 0, 1) := by decide +kernel
theorem dX7_rule_62 : decode cX7_rule 62 = .ok (.iload 6, 2) := by decide +kernel
theorem dX7_rule_64 : decode cX7_rule 64 = .ok (.ifCond .ne 7, 3) := by decide +kernel
theorem dX7_rule_67 : decode cX7_rule 67 = .ok (.iconst 1, 1) := by decide +kernel
theorem dX7_rule_68 : decode cX7_rule 68 = .ok (.goto 17, 3) := by decide +kernel
theorem dX7_rule_71 : decode cX7_rule 71 = .ok (.aload_n 0, 1) := by decide +kernel
theorem dX7_rule_72 : decode cX7_rule 72 = .ok (.getfield 156, 3) := by decide +kernel
theorem dX7_rule_75 : decode cX7_rule 75 = .ok (.bipush 20, 2) := by decide +kernel
theorem dX7_rule_77 : decode cX7_rule 77 = .ok (.if_icmp .ne 7, 3) := by decide +kernel
theorem dX7_rule_80 : decode cX7_rule 80 = .ok (.iconst 2, 1) := by decide +kernel
theorem dX7_rule_81 : decode cX7_rule 81 = .ok (.goto 4, 3) := by decide +kernel
theorem dX7_rule_84 : decode cX7_rule 84 = .ok (.iconst 0, 1) := by decide +kernel
theorem dX7_rule_85 : decode cX7_rule 85 = .ok (.putfield 128, 3) := by decide +kernel
theorem dX7_rule_88 : decode cX7_rule 88 = .ok (.aload_n 0, 1) := by decide +kernel
theorem dX7_rule_89 : decode cX7_rule 89 = .ok (.getfield 128, 3) := by decide +kernel
theorem dX7_rule_92 : decode cX7_rule 92 = .ok (.ifCond .le 5, 3) := by decide +kernel
theorem dX7_rule_95 : decode cX7_rule 95 = .ok (.iconst 0, 1) := by decide +kernel
theorem dX7_rule_96 : decode cX7_rule 96 = .ok (.ireturn, 1) := by decide +kernel
theorem dX7_rule_97 : decode cX7_rule 97 = .ok (.aload_n 0, 1) := by decide +kernel
theorem dX7_rule_98 : decode cX7_rule 98 = .ok (.getfield 71, 3) := by decide +kernel
theorem dX7_rule_101 : decode cX7_rule 101 = .ok (.aload_n 0, 1) := by decide +kernel
theorem dX7_rule_102 : decode cX7_rule 102 = .ok (.getfield 156, 3) := by decide +kernel
theorem dX7_rule_105 : decode cX7_rule 105 = .ok (.iload_n 1, 1) := by decide +kernel
theorem dX7_rule_106 : decode cX7_rule 106 = .ok (.iastore, 1) := by decide +kernel
theorem dX7_rule_107 : decode cX7_rule 107 = .ok (.aload_n 0, 1) := by decide +kernel
theorem dX7_rule_108 : decode cX7_rule 108 = .ok (.getfield 74, 3) := by decide +kernel
theorem dX7_rule_111 : decode cX7_rule 111 = .ok (.aload_n 0, 1) := by decide +kernel
theorem dX7_rule_112 : decode cX7_rule 112 = .ok (.getfield 156, 3) := by decide +kernel
theorem dX7_rule_115 : decode cX7_rule 115 = .ok (.iload_n 2, 1) := by decide +kernel
theorem dX7_rule_116 : decode cX7_rule 116 = .ok (.iastore, 1) := by decide +kernel
theorem dX7_rule_117 : decode cX7_rule 117 = .ok (.aload_n 0, 1) := by decide +kernel
theorem dX7_rule_118 : decode cX7_rule 118 = .ok (.getfield 77, 3) := by decide +kernel
theorem dX7_rule_121 : decode cX7_rule 121 = .ok (.aload_n 0, 1) := by decide +kernel
theorem dX7_rule_122 : decode cX7_rule 122 = .ok (.getfield 156, 3) := by decide +kernel
theorem dX7_rule_125 : decode cX7_rule 125 = .ok (.iload_n 3, 1) := by decide +kernel
theorem dX7_rule_126 : decode cX7_rule 126 = .ok (.iastore, 1) := by decide +kernel
theorem dX7_rule_127 : decode cX7_rule 127 = .ok (.aload_n 0, 1) := by decide +kernel
theorem dX7_rule_128 : decode cX7_rule 128 = .ok (.getfield 80, 3) := by decide +kernel
theorem dX7_rule_131 : decode cX7_rule 131 = .ok (.aload_n 0, 1) := by decide +kernel
theorem dX7_rule_132 : decode cX7_rule 132 = .ok (.getfield 156, 3) := by decide +kernel
theorem dX7_rule_135 : decode cX7_rule 135 = .ok (.iload 4, 2) := by decide +kernel
theorem dX7_rule_137 : decode cX7_rule 137 = .ok (.iastore, 1) := by decide +kernel
theorem dX7_rule_138 : decode cX7_rule 138 = .ok (.aload_n 0, 1) := by decide +kernel
theorem dX7_rule_139 : decode cX7_rule 139 = .ok (.getfield 83, 3) := by decide +kernel
theorem dX7_rule_142 : decode cX7_rule 142 = .ok (.aload_n 0, 1) := by decide +kernel
theorem dX7_rule_143 : decode cX7_rule 143 = .ok (.getfield 156, 3) := by decide +kernel
theorem dX7_rule_146 : decode cX7_rule 146 = .ok (.iload 5, 2) := by decide +kernel
theorem dX7_rule_148 : decode cX7_rule 148 = .ok (.iastore, 1) := by decide +kernel
theorem dX7_rule_149 : decode cX7_rule 149 = .ok (.aload_n 0, 1) := by decide +kernel
theorem dX7_rule_150 : decode cX7_rule 150 = .ok (.dup, 1) := by decide +kernel
theorem dX7_rule_151 : decode cX7_rule 151 = .ok (.getfield 156, 3) := by decide +kernel
theorem dX7_rule_154 : decode cX7_rule 154 = .ok (.iconst 1, 1) := by decide +kernel
theorem dX7_rule_155 : decode cX7_rule 155 = .ok (.iadd, 1) := by decide +kernel
theorem dX7_rule_156 : decode cX7_rule 156 = .ok (.putfield 156, 3) := by decide +kernel
theorem dX7_rule_159 : decode cX7_rule 159 = .ok (.aload_n 0, 1) := by decide +kernel
theorem dX7_rule_160 : decode cX7_rule 160 = .ok (.getfield 156, 3) := by decide +kernel
theorem dX7_rule_163 : decode cX7_rule 163 = .ok (.iconst 1, 1) := by decide +kernel
theorem dX7_rule_164 : decode cX7_rule 164 = .ok (.isub, 1) := by decide +kernel
theorem dX7_rule_165 : decode cX7_rule 165 = .ok (.ireturn, 1) := by decide +kernel
theorem dX7_isOld_0 : decode cX7_isOld 0 = .ok (.aload_n 0, 1) := by decide +kernel
theorem dX7_isOld_1 : decode cX7_isOld 1 = .ok (.getfield 142, 3) := by decide +kernel
theorem dX7_isOld_4 : decode cX7_isOld 4 = .ok (.aload_n 0, 1) := by decide +kernel
theorem dX7_isOld_5 : decode cX7_isOld 5 = .ok (.getfield 13, 3) := by decide +kernel
theorem dX7_isOld_8 : decode cX7_isOld 8 = .ok (.iload_n 1, 1) := by decide +kernel
theorem dX7_isOld_9 : decode cX7_isOld 9 = .ok (.iaload, 1) := by decide +kernel
theorem dX7_isOld_10 : decode cX7_isOld 10 = .ok (.isub, 1) := by decide +kernel
theorem dX7_isOld_11 : decode cX7_isOld 11 = .ok (.sipush 4380, 3) := by decide +kernel
theorem dX7_isOld_14 : decode cX7_isOld 14 = .ok (.if_icmp .le 7, 3) := by decide +kernel
theorem dX7_isOld_17 : decode cX7_isOld 17 = .ok (.iconst 1, 1) := by decide +kernel
theorem dX7_isOld_18 : decode cX7_isOld 18 = .ok (.goto 4, 3) := by decide +kernel
theorem dX7_isOld_21 : decode cX7_isOld 21 = .ok (.iconst 0, 1) := by decide +kernel
theorem dX7_isOld_22 : decode cX7_isOld 22 = .ok (.ireturn, 1) := by decide +kernel
theorem dX7_isInForce_0 : decode cX7_isInForce 0 = .ok (.aload_n 0, 1) := by decide +kernel
theorem dX7_isInForce_1 : decode cX7_isInForce 1 = .ok (.getfield 80, 3) := by decide +kernel
theorem dX7_isInForce_4 : decode cX7_isInForce 4 = .ok (.iload_n 1, 1) := by decide +kernel
theorem dX7_isInForce_5 : decode cX7_isInForce 5 = .ok (.iaload, 1) := by decide +kernel
theorem dX7_isInForce_6 : decode cX7_isInForce 6 = .ok (.aload_n 0, 1) := by decide +kernel
theorem dX7_isInForce_7 : decode cX7_isInForce 7 = .ok (.getfield 13, 3) := by decide +kernel
theorem dX7_isInForce_10 : decode cX7_isInForce 10 = .ok (.iload_n 2, 1) := by decide +kernel
theorem dX7_isInForce_11 : decode cX7_isInForce 11 = .ok (.iaload, 1) := by decide +kernel
theorem dX7_isInForce_12 : decode cX7_isInForce 12 = .ok (.aload_n 0, 1) := by decide +kernel
theorem dX7_isInForce_13 : decode cX7_isInForce 13 = .ok (.getfield 80, 3) := by decide +kernel
theorem dX7_isInForce_16 : decode cX7_isInForce 16 = .ok (.iload_n 1, 1) := by decide +kernel
theorem dX7_isInForce_17 : decode cX7_isInForce 17 = .ok (.iaload, 1) := by decide +kernel
theorem dX7_isInForce_18 : decode cX7_isInForce 18 = .ok (.if_icmp .ge 12, 3) := by decide +kernel
theorem dX7_isInForce_21 : decode cX7_isInForce 21 = .ok (.aload_n 0, 1) := by decide +kernel
theorem dX7_isInForce_22 : decode cX7_isInForce 22 = .ok (.getfield 83, 3) := by decide +kernel
theorem dX7_isInForce_25 : decode cX7_isInForce 25 = .ok (.iload_n 1, 1) := by decide +kernel
theorem dX7_isInForce_26 : decode cX7_isInForce 26 = .ok (.iaload, 1) := by decide +kernel
theorem dX7_isInForce_27 : decode cX7_isInForce 27 = .ok (.goto 4, 3) := by decide +kernel
theorem dX7_isInForce_30 : decode cX7_isInForce 30 = .ok (.iconst 0, 1) := by decide +kernel
theorem dX7_isInForce_31 : decode cX7_isInForce 31 = .ok (.iadd, 1) := by decide +kernel
theorem dX7_isInForce_32 : decode cX7_isInForce 32 = .ok (.istore_n 3, 1) := by decide +kernel
theorem dX7_isInForce_33 : decode cX7_isInForce 33 = .ok (.aload_n 0, 1) := by decide +kernel
theorem dX7_isInForce_34 : decode cX7_isInForce 34 = .ok (.getfield 17, 3) := by decide +kernel
theorem dX7_isInForce_37 : decode cX7_isInForce 37 = .ok (.iload_n 2, 1) := by decide +kernel
theorem dX7_isInForce_38 : decode cX7_isInForce 38 = .ok (.iaload, 1) := by decide +kernel
theorem dX7_isInForce_39 : decode cX7_isInForce 39 = .ok (.aload_n 0, 1) := by decide +kernel
theorem dX7_isInForce_40 : decode cX7_isInForce 40 = .ok (.getfield 74, 3) := by decide +kernel
theorem dX7_isInForce_43 : decode cX7_isInForce 43 = .ok (.iload_n 1, 1) := by decide +kernel
theorem dX7_isInForce_44 : decode cX7_isInForce 44 = .ok (.iaload, 1) := by decide +kernel
theorem dX7_isInForce_45 : decode cX7_isInForce 45 = .ok (.if_icmp .lt 33, 3) := by decide +kernel
theorem dX7_isInForce_48 : decode cX7_isInForce 48 = .ok (.aload_n 0, 1) := by decide +kernel
theorem dX7_isInForce_49 : decode cX7_isInForce 49 = .ok (.getfield 77, 3) := by decide +kernel
theorem dX7_isInForce_52 : decode cX7_isInForce 52 = .ok (.iload_n 1, 1) := by decide +kernel
theorem dX7_isInForce_53 : decode cX7_isInForce 53 = .ok (.iaload, 1) := by decide +kernel
theorem dX7_isInForce_54 : decode cX7_isInForce 54 = .ok (.aload_n 0, 1) := by decide +kernel
theorem dX7_isInForce_55 : decode cX7_isInForce 55 = .ok (.getfield 20, 3) := by decide +kernel
theorem dX7_isInForce_58 : decode cX7_isInForce 58 = .ok (.iload_n 2, 1) := by decide +kernel
theorem dX7_isInForce_59 : decode cX7_isInForce 59 = .ok (.iaload, 1) := by decide +kernel
theorem dX7_isInForce_60 : decode cX7_isInForce 60 = .ok (.invokestatic 159, 3) := by decide +kernel
theorem dX7_isInForce_63 : decode cX7_isInForce 63 = .ok (.ifCond .eq 15, 3) := by decide +kernel
theorem dX7_isInForce_66 : decode cX7_isInForce 66 = .ok (.aload_n 0, 1) := by decide +kernel
theorem dX7_isInForce_67 : decode cX7_isInForce 67 = .ok (.getfield 142, 3) := by decide +kernel
theorem dX7_isInForce_70 : decode cX7_isInForce 70 = .ok (.iload_n 3, 1) := by decide +kernel
theorem dX7_isInForce_71 : decode cX7_isInForce 71 = .ok (.if_icmp .lt 7, 3) := by decide +kernel
theorem dX7_isInForce_74 : decode cX7_isInForce 74 = .ok (.iconst 1, 1) := by decide +kernel
theorem dX7_isInForce_75 : decode cX7_isInForce 75 = .ok (.goto 4, 3) := by decide +kernel
theorem dX7_isInForce_78 : decode cX7_isInForce 78 = .ok (.iconst 0, 1) := by decide +kernel
theorem dX7_isInForce_79 : decode cX7_isInForce 79 = .ok (.ireturn, 1) := by decide +kernel
theorem dX7_isGroundFor_0 : decode cX7_isGroundFor 0 = .ok (.iconst 0, 1) := by decide +kernel
theorem dX7_isGroundFor_1 : decode cX7_isGroundFor 1 = .ok (.istore_n 3, 1) := by decide +kernel
theorem dX7_isGroundFor_2 : decode cX7_isGroundFor 2 = .ok (.iconst 0, 1) := by decide +kernel
theorem dX7_isGroundFor_3 : decode cX7_isGroundFor 3 = .ok (.istore 4, 2) := by decide +kernel
theorem dX7_isGroundFor_5 : decode cX7_isGroundFor 5 = .ok (.iload 4, 2) := by decide +kernel
theorem dX7_isGroundFor_7 : decode cX7_isGroundFor 7 = .ok (.aload_n 0, 1) := by decide +kernel
theorem dX7_isGroundFor_8 : decode cX7_isGroundFor 8 = .ok (.getfield 156, 3) := by decide +kernel
theorem dX7_isGroundFor_11 : decode cX7_isGroundFor 11 = .ok (.if_icmp .ge 40, 3) := by decide +kernel
theorem dX7_isGroundFor_14 : decode cX7_isGroundFor 14 = .ok (.iload_n 3, 1) := by decide +kernel
theorem dX7_isGroundFor_15 : decode cX7_isGroundFor 15 = .ok (.ifCond .ne 24, 3) := by decide +kernel
theorem dX7_isGroundFor_18 : decode cX7_isGroundFor 18 = .ok (.aload_n 0, 1) := by decide +kernel
theorem dX7_isGroundFor_19 : decode cX7_isGroundFor 19 = .ok (.getfield 71, 3) := by decide +kernel
theorem dX7_isGroundFor_22 : decode cX7_isGroundFor 22 = .ok (.iload 4, 2) := by decide +kernel
theorem dX7_isGroundFor_24 : decode cX7_isGroundFor 24 = .ok (.iaload, 1) := by decide +kernel
theorem dX7_isGroundFor_25 : decode cX7_isGroundFor 25 = .ok (.iload_n 2, 1) := by decide +kernel
theorem dX7_isGroundFor_26 : decode cX7_isGroundFor 26 = .ok (.if_icmp .ne 17, 3) := by decide +kernel
theorem dX7_isGroundFor_29 : decode cX7_isGroundFor 29 = .ok (.aload_n 0, 1) := by decide +kernel
theorem dX7_isGroundFor_30 : decode cX7_isGroundFor 30 = .ok (.iload 4, 2) := by decide +kernel
theorem dX7_isGroundFor_32 : decode cX7_isGroundFor 32 = .ok (.iload_n 1, 1) := by decide +kernel
theorem dX7_isGroundFor_33 : decode cX7_isGroundFor 33 = .ok (.invokevirtual 163, 3) := by decide +kernel
theorem dX7_isGroundFor_36 : decode cX7_isGroundFor 36 = .ok (.ifCond .eq 7, 3) := by decide +kernel
theorem dX7_isGroundFor_39 : decode cX7_isGroundFor 39 = .ok (.iconst 1, 1) := by decide +kernel
theorem dX7_isGroundFor_40 : decode cX7_isGroundFor 40 = .ok (.goto 4, 3) := by decide +kernel
theorem dX7_isGroundFor_43 : decode cX7_isGroundFor 43 = .ok (.iconst 0, 1) := by decide +kernel
theorem dX7_isGroundFor_44 : decode cX7_isGroundFor 44 = .ok (.istore_n 3, 1) := by decide +kernel
theorem dX7_isGroundFor_45 : decode cX7_isGroundFor 45 = .ok (.iinc 4 1, 3) := by decide +kernel
theorem dX7_isGroundFor_48 : decode cX7_isGroundFor 48 = .ok (.goto (-43), 3) := by decide +kernel
theorem dX7_isGroundFor_51 : decode cX7_isGroundFor 51 = .ok (.iload_n 3, 1) := by decide +kernel
theorem dX7_isGroundFor_52 : decode cX7_isGroundFor 52 = .ok (.ireturn, 1) := by decide +kernel
theorem dX7_at_0 : decode cX7_at 0 = .ok (.iconst 5, 1) := by decide +kernel
theorem dX7_at_1 : decode cX7_at 1 = .ok (.iload_n 0, 1) := by decide +kernel
theorem dX7_at_2 : decode cX7_at 2 = .ok (.imul, 1) := by decide +kernel
theorem dX7_at_3 : decode cX7_at 3 = .ok (.iload_n 1, 1) := by decide +kernel
theorem dX7_at_4 : decode cX7_at 4 = .ok (.iadd, 1) := by decide +kernel
theorem dX7_at_5 : decode cX7_at 5 = .ok (.ireturn, 1) := by decide +kernel
theorem dX7_isOver_0 : decode cX7_isOver 0 = .ok (.aload_n 0, 1) := by decide +kernel
theorem dX7_isOver_1 : decode cX7_isOver 1 = .ok (.getfield 142, 3) := by decide +kernel
theorem dX7_isOver_4 : decode cX7_isOver 4 = .ok (.aload_n 0, 1) := by decide +kernel
theorem dX7_isOver_5 : decode cX7_isOver 5 = .ok (.getfield 59, 3) := by decide +kernel
theorem dX7_isOver_8 : decode cX7_isOver 8 = .ok (.iload_n 1, 1) := by decide +kernel
theorem dX7_isOver_9 : decode cX7_isOver 9 = .ok (.iaload, 1) := by decide +kernel
theorem dX7_isOver_10 : decode cX7_isOver 10 = .ok (.aload_n 0, 1) := by decide +kernel
theorem dX7_isOver_11 : decode cX7_isOver 11 = .ok (.getfield 62, 3) := by decide +kernel
theorem dX7_isOver_14 : decode cX7_isOver 14 = .ok (.iload_n 1, 1) := by decide +kernel
theorem dX7_isOver_15 : decode cX7_isOver 15 = .ok (.iaload, 1) := by decide +kernel
theorem dX7_isOver_16 : decode cX7_isOver 16 = .ok (.iadd, 1) := by decide +kernel
theorem dX7_isOver_17 : decode cX7_isOver 17 = .ok (.if_icmp .le 7, 3) := by decide +kernel
theorem dX7_isOver_20 : decode cX7_isOver 20 = .ok (.iconst 1, 1) := by decide +kernel
theorem dX7_isOver_21 : decode cX7_isOver 21 = .ok (.goto 4, 3) := by decide +kernel
theorem dX7_isOver_24 : decode cX7_isOver 24 = .ok (.iconst 0, 1) := by decide +kernel
theorem dX7_isOver_25 : decode cX7_isOver 25 = .ok (.istore_n 2, 1) := by decide +kernel
theorem dX7_isOver_26 : decode cX7_isOver 26 = .ok (.iconst 1, 1) := by decide +kernel
theorem dX7_isOver_27 : decode cX7_isOver 27 = .ok (.istore_n 3, 1) := by decide +kernel
theorem dX7_isOver_28 : decode cX7_isOver 28 = .ok (.sipush 365, 3) := by decide +kernel
theorem dX7_isOver_31 : decode cX7_isOver 31 = .ok (.iload_n 3, 1) := by decide +kernel
theorem dX7_isOver_32 : decode cX7_isOver 32 = .ok (.imul, 1) := by decide +kernel
theorem dX7_isOver_33 : decode cX7_isOver 33 = .ok (.aload_n 0, 1) := by decide +kernel
theorem dX7_isOver_34 : decode cX7_isOver 34 = .ok (.getfield 62, 3) := by decide +kernel
theorem dX7_isOver_37 : decode cX7_isOver 37 = .ok (.iload_n 1, 1) := by decide +kernel
theorem dX7_isOver_38 : decode cX7_isOver 38 = .ok (.iaload, 1) := by decide +kernel
theorem dX7_isOver_39 : decode cX7_isOver 39 = .ok (.if_icmp .ge 54, 3) := by decide +kernel
theorem dX7_isOver_42 : decode cX7_isOver 42 = .ok (.iload_n 2, 1) := by decide +kernel
theorem dX7_isOver_43 : decode cX7_isOver 43 = .ok (.ifCond .ne 38, 3) := by decide +kernel
theorem dX7_isOver_46 : decode cX7_isOver 46 = .ok (.aload_n 0, 1) := by decide +kernel
theorem dX7_isOver_47 : decode cX7_isOver 47 = .ok (.getfield 68, 3) := by decide +kernel
theorem dX7_isOver_50 : decode cX7_isOver 50 = .ok (.iload_n 1, 1) := by decide +kernel
theorem dX7_isOver_51 : decode cX7_isOver 51 = .ok (.iaload, 1) := by decide +kernel
theorem dX7_isOver_52 : decode cX7_isOver 52 = .ok (.iload_n 3, 1) := by decide +kernel
theorem dX7_isOver_53 : decode cX7_isOver 53 = .ok (.invokestatic 159, 3) := by decide +kernel
theorem dX7_isOver_56 : decode cX7_isOver 56 = .ok (.ifCond .ne 29, 3) := by decide +kernel
theorem dX7_isOver_59 : decode cX7_isOver 59 = .ok (.aload_n 0, 1) := by decide +kernel
theorem dX7_isOver_60 : decode cX7_isOver 60 = .ok (.getfield 142, 3) := by decide +kernel
theorem dX7_isOver_63 : decode cX7_isOver 63 = .ok (.aload_n 0, 1) := by decide +kernel
theorem dX7_isOver_64 : decode cX7_isOver 64 = .ok (.getfield 59, 3) := by decide +kernel
theorem dX7_isOver_67 : decode cX7_isOver 67 = .ok (.iload_n 1, 1) := by decide +kernel
theorem dX7_isOver_68 : decode cX7_isOver 68 = .ok (.iaload, 1) := by decide +kernel
theorem dX7_isOver_69 : decode cX7_isOver 69 = .ok (.sipush 365, 3) := by decide +kernel
theorem dX7_isOver_72 : decode cX7_isOver 72 = .ok (.iload_n 3, 1) := by decide +kernel
theorem dX7_isOver_73 : decode cX7_isOver 73 = .ok (.imul, 1) := by decide +kernel
theorem dX7_isOver_74 : decode cX7_isOver 74 = .ok (.iadd, 1) := by decide +kernel
theorem dX7_isOver_75 : decode cX7_isOver 75 = .ok (.bipush 90, 2) := by decide +kernel
theorem dX7_isOver_77 : decode cX7_isOver 77 = .ok (.iadd, 1) := by decide +kernel
theorem dX7_isOver_78 : decode cX7_isOver 78 = .ok (.if_icmp .le 7, 3) := by decide +kernel
theorem dX7_isOver_81 : decode cX7_isOver 81 = .ok (.iconst 1, 1) := by decide +kernel
theorem dX7_isOver_82 : decode cX7_isOver 82 = .ok (.goto 4, 3) := by decide +kernel
theorem dX7_isOver_85 : decode cX7_isOver 85 = .ok (.iconst 0, 1) := by decide +kernel
theorem dX7_isOver_86 : decode cX7_isOver 86 = .ok (.istore_n 2, 1) := by decide +kernel
theorem dX7_isOver_87 : decode cX7_isOver 87 = .ok (.iinc 3 1, 3) := by decide +kernel
theorem dX7_isOver_90 : decode cX7_isOver 90 = .ok (.goto (-62), 3) := by decide +kernel
theorem dX7_isOver_93 : decode cX7_isOver 93 = .ok (.iload_n 2, 1) := by decide +kernel
theorem dX7_isOver_94 : decode cX7_isOver 94 = .ok (.ireturn, 1) := by decide +kernel
theorem dX7_lapsedAlone_0 : decode cX7_lapsedAlone 0 = .ok (.aload_n 0, 1) := by decide +kernel
theorem dX7_lapsedAlone_1 : decode cX7_lapsedAlone 1 = .ok (.getfield 56, 3) := by decide +kernel
theorem dX7_lapsedAlone_4 : decode cX7_lapsedAlone 4 = .ok (.iload_n 1, 1) := by decide +kernel
theorem dX7_lapsedAlone_5 : decode cX7_lapsedAlone 5 = .ok (.baload, 1) := by decide +kernel
theorem dX7_lapsedAlone_6 : decode cX7_lapsedAlone 6 = .ok (.ifCond .eq 25, 3) := by decide +kernel
theorem dX7_lapsedAlone_9 : decode cX7_lapsedAlone 9 = .ok (.aload_n 0, 1) := by decide +kernel
theorem dX7_lapsedAlone_10 : decode cX7_lapsedAlone 10 = .ok (.iload_n 1, 1) := by decide +kernel
theorem dX7_lapsedAlone_11 : decode cX7_lapsedAlone 11 = .ok (.invokevirtual 166, 3) := by decide +kernel
theorem dX7_lapsedAlone_14 : decode cX7_lapsedAlone 14 = .ok (.ifCond .ne 17, 3) := by decide +kernel
theorem dX7_lapsedAlone_17 : decode cX7_lapsedAlone 17 = .ok (.aload_n 0, 1) := by decide +kernel
theorem dX7_lapsedAlone_18 : decode cX7_lapsedAlone 18 = .ok (.getfield 7, 3) := by decide +kernel
theorem dX7_lapsedAlone_21 : decode cX7_lapsedAlone 21 = .ok (.aload_n 0, 1) := by decide +kernel
theorem dX7_lapsedAlone_22 : decode cX7_lapsedAlone 22 = .ok (.getfield 65, 3) := by decide +kernel
theorem dX7_lapsedAlone_25 : decode cX7_lapsedAlone 25 = .ok (.iload_n 1, 1) := by decide +kernel
theorem dX7_lapsedAlone_26 : decode cX7_lapsedAlone 26 = .ok (.iaload, 1) := by decide +kernel
theorem dX7_lapsedAlone_27 : decode cX7_lapsedAlone 27 = .ok (.baload, 1) := by decide +kernel
theorem dX7_lapsedAlone_28 : decode cX7_lapsedAlone 28 = .ok (.ifCond .eq 7, 3) := by decide +kernel
theorem dX7_lapsedAlone_31 : decode cX7_lapsedAlone 31 = .ok (.iconst 1, 1) := by decide +kernel
theorem dX7_lapsedAlone_32 : decode cX7_lapsedAlone 32 = .ok (.goto 4, 3) := by decide +kernel
theorem dX7_lapsedAlone_35 : decode cX7_lapsedAlone 35 = .ok (.iconst 0, 1) := by decide +kernel
theorem dX7_lapsedAlone_36 : decode cX7_lapsedAlone 36 = .ok (.ireturn, 1) := by decide +kernel
theorem dX7_isLapsed_0 : decode cX7_isLapsed 0 = .ok (.aload_n 0, 1) := by decide +kernel
theorem dX7_isLapsed_1 : decode cX7_isLapsed 1 = .ok (.iload_n 1, 1) := by decide +kernel
theorem dX7_isLapsed_2 : decode cX7_isLapsed 2 = .ok (.iload_n 2, 1) := by decide +kernel
theorem dX7_isLapsed_3 : decode cX7_isLapsed 3 = .ok (.invokestatic 169, 3) := by decide +kernel
theorem dX7_isLapsed_6 : decode cX7_isLapsed 6 = .ok (.invokevirtual 173, 3) := by decide +kernel
theorem dX7_isLapsed_9 : decode cX7_isLapsed 9 = .ok (.istore_n 3, 1) := by decide +kernel
theorem dX7_isLapsed_10 : decode cX7_isLapsed 10 = .ok (.iload_n 2, 1) := by decide +kernel
theorem dX7_isLapsed_11 : decode cX7_isLapsed 11 = .ok (.iconst 2, 1) := by decide +kernel
theorem dX7_isLapsed_12 : decode cX7_isLapsed 12 = .ok (.if_icmp .ne 25, 3) := by decide +kernel
theorem dX7_isLapsed_15 : decode cX7_isLapsed 15 = .ok (.iload_n 3, 1) := by decide +kernel
theorem dX7_isLapsed_16 : decode cX7_isLapsed 16 = .ok (.ifCond .ne 15, 3) := by decide +kernel
theorem dX7_isLapsed_19 : decode cX7_isLapsed 19 = .ok (.aload_n 0, 1) := by decide +kernel
theorem dX7_isLapsed_20 : decode cX7_isLapsed 20 = .ok (.iload_n 1, 1) := by decide +kernel
theorem dX7_isLapsed_21 : decode cX7_isLapsed 21 = .ok (.iconst 1, 1) := by decide +kernel
theorem dX7_isLapsed_22 : decode cX7_isLapsed 22 = .ok (.invokestatic 169, 3) := by decide +kernel
theorem dX7_isLapsed_25 : decode cX7_isLapsed 25 = .ok (.invokevirtual 173, 3) := by decide +kernel
theorem dX7_isLapsed_28 : decode cX7_isLapsed 28 = .ok (.ifCond .eq 7, 3) := by decide +kernel
theorem dX7_isLapsed_31 : decode cX7_isLapsed 31 = .ok (.iconst 1, 1) := by decide +kernel
theorem dX7_isLapsed_32 : decode cX7_isLapsed 32 = .ok (.goto 4, 3) := by decide +kernel
theorem dX7_isLapsed_35 : decode cX7_isLapsed 35 = .ok (.iconst 0, 1) := by decide +kernel
theorem dX7_isLapsed_36 : decode cX7_isLapsed 36 = .ok (.istore_n 3, 1) := by decide +kernel
theorem dX7_isLapsed_37 : decode cX7_isLapsed 37 = .ok (.iload_n 2, 1) := by decide +kernel
theorem dX7_isLapsed_38 : decode cX7_isLapsed 38 = .ok (.iconst 1, 1) := by decide +kernel
theorem dX7_isLapsed_39 : decode cX7_isLapsed 39 = .ok (.if_icmp .eq 13, 3) := by decide +kernel
theorem dX7_isLapsed_42 : decode cX7_isLapsed 42 = .ok (.iload_n 2, 1) := by decide +kernel
theorem dX7_isLapsed_43 : decode cX7_isLapsed 43 = .ok (.iconst 2, 1) := by decide +kernel
theorem dX7_isLapsed_44 : decode cX7_isLapsed 44 = .ok (.if_icmp .eq 8, 3) := by decide +kernel
theorem dX7_isLapsed_47 : decode cX7_isLapsed 47 = .ok (.iload_n 2, 1) := by decide +kernel
theorem dX7_isLapsed_48 : decode cX7_isLapsed 48 = .ok (.iconst 3, 1) := by decide +kernel
theorem dX7_isLapsed_49 : decode cX7_isLapsed 49 = .ok (.if_icmp .ne 25, 3) := by decide +kernel
theorem dX7_isLapsed_52 : decode cX7_isLapsed 52 = .ok (.iload_n 3, 1) := by decide +kernel
theorem dX7_isLapsed_53 : decode cX7_isLapsed 53 = .ok (.ifCond .ne 15, 3) := by decide +kernel
theorem dX7_isLapsed_56 : decode cX7_isLapsed 56 = .ok (.aload_n 0, 1) := by decide +kernel
theorem dX7_isLapsed_57 : decode cX7_isLapsed 57 = .ok (.iload_n 1, 1) := by decide +kernel
theorem dX7_isLapsed_58 : decode cX7_isLapsed 58 = .ok (.iconst 0, 1) := by decide +kernel
theorem dX7_isLapsed_59 : decode cX7_isLapsed 59 = .ok (.invokestatic 169, 3) := by decide +kernel
theorem dX7_isLapsed_62 : decode cX7_isLapsed 62 = .ok (.invokevirtual 173, 3) := by decide +kernel
theorem dX7_isLapsed_65 : decode cX7_isLapsed 65 = .ok (.ifCond .eq 7, 3) := by decide +kernel
theorem dX7_isLapsed_68 : decode cX7_isLapsed 68 = .ok (.iconst 1, 1) := by decide +kernel
theorem dX7_isLapsed_69 : decode cX7_isLapsed 69 = .ok (.goto 4, 3) := by decide +kernel
theorem dX7_isLapsed_72 : decode cX7_isLapsed 72 = .ok (.iconst 0, 1) := by decide +kernel
theorem dX7_isLapsed_73 : decode cX7_isLapsed 73 = .ok (.istore_n 3, 1) := by decide +kernel
theorem dX7_isLapsed_74 : decode cX7_isLapsed 74 = .ok (.iload_n 3, 1) := by decide +kernel
theorem dX7_isLapsed_75 : decode cX7_isLapsed 75 = .ok (.ireturn, 1) := by decide +kernel
theorem dX7_lapsedOf_0 : decode cX7_lapsedOf 0 = .ok (.iconst 0, 1) := by decide +kernel
theorem dX7_lapsedOf_1 : decode cX7_lapsedOf 1 = .ok (.istore_n 2, 1) := by decide +kernel
theorem dX7_lapsedOf_2 : decode cX7_lapsedOf 2 = .ok (.iconst 0, 1) := by decide +kernel
theorem dX7_lapsedOf_3 : decode cX7_lapsedOf 3 = .ok (.istore_n 3, 1) := by decide +kernel
theorem dX7_lapsedOf_4 : decode cX7_lapsedOf 4 = .ok (.iload_n 3, 1) := by decide +kernel
theorem dX7_lapsedOf_5 : decode cX7_lapsedOf 5 = .ok (.iconst 5, 1) := by decide +kernel
theorem dX7_lapsedOf_6 : decode cX7_lapsedOf 6 = .ok (.if_icmp .ge 28, 3) := by decide +kernel
theorem dX7_lapsedOf_9 : decode cX7_lapsedOf 9 = .ok (.iload_n 2, 1) := by decide +kernel
theorem dX7_lapsedOf_10 : decode cX7_lapsedOf 10 = .ok (.aload_n 0, 1) := by decide +kernel
theorem dX7_lapsedOf_11 : decode cX7_lapsedOf 11 = .ok (.iload_n 1, 1) := by decide +kernel
theorem dX7_lapsedOf_12 : decode cX7_lapsedOf 12 = .ok (.iload_n 3, 1) := by decide +kernel
theorem dX7_lapsedOf_13 : decode cX7_lapsedOf 13 = .ok (.invokevirtual 176, 3) := by decide +kernel
theorem dX7_lapsedOf_16 : decode cX7_lapsedOf 16 = .ok (.ifCond .eq 9, 3) := by decide +kernel
theorem dX7_lapsedOf_19 : decode cX7_lapsedOf 19 = .ok (.iconst 1, 1) := by decide +kernel
theorem dX7_lapsedOf_20 : decode cX7_lapsedOf 20 = .ok (.iload_n 3, 1) := by decide +kernel
theorem dX7_lapsedOf_21 : decode cX7_lapsedOf 21 = .ok (.ishl, 1) := by decide +kernel
theorem dX7_lapsedOf_22 : decode cX7_lapsedOf 22 = .ok (.goto 4, 3) := by decide +kernel
theorem dX7_lapsedOf_25 : decode cX7_lapsedOf 25 = .ok (.iconst 0, 1) := by decide +kernel
theorem dX7_lapsedOf_26 : decode cX7_lapsedOf 26 = .ok (.ior, 1) := by decide +kernel
theorem dX7_lapsedOf_27 : decode cX7_lapsedOf 27 = .ok (.istore_n 2, 1) := by decide +kernel
theorem dX7_lapsedOf_28 : decode cX7_lapsedOf 28 = .ok (.iinc 3 1, 3) := by decide +kernel
theorem dX7_lapsedOf_31 : decode cX7_lapsedOf 31 = .ok (.goto (-27), 3) := by decide +kernel
theorem dX7_lapsedOf_34 : decode cX7_lapsedOf 34 = .ok (.iload_n 2, 1) := by decide +kernel
theorem dX7_lapsedOf_35 : decode cX7_lapsedOf 35 = .ok (.ireturn, 1) := by decide +kernel
theorem dX7_hangsOnLapsed_0 : decode cX7_hangsOnLapsed 0 = .ok (.iload_n 2, 1) := by decide +kernel
theorem dX7_hangsOnLapsed_1 : decode cX7_hangsOnLapsed 1 = .ok (.iconst 2, 1) := by decide +kernel
theorem dX7_hangsOnLapsed_2 : decode cX7_hangsOnLapsed 2 = .ok (.if_icmp .ne 12, 3) := by decide +kernel
theorem dX7_hangsOnLapsed_5 : decode cX7_hangsOnLapsed 5 = .ok (.aload_n 0, 1) := by decide +kernel
theorem dX7_hangsOnLapsed_6 : decode cX7_hangsOnLapsed 6 = .ok (.iload_n 1, 1) := by decide +kernel
theorem dX7_hangsOnLapsed_7 : decode cX7_hangsOnLapsed 7 = .ok (.iconst 1, 1) := by decide +kernel
theorem dX7_hangsOnLapsed_8 : decode cX7_hangsOnLapsed 8 = .ok (.invokevirtual 176, 3) := by decide +kernel
theorem dX7_hangsOnLapsed_11 : decode cX7_hangsOnLapsed 11 = .ok (.goto 27, 3) := by decide +kernel
theorem dX7_hangsOnLapsed_14 : decode cX7_hangsOnLapsed 14 = .ok (.iload_n 2, 1) := by decide +kernel
theorem dX7_hangsOnLapsed_15 : decode cX7_hangsOnLapsed 15 = .ok (.iconst 1, 1) := by decide +kernel
theorem dX7_hangsOnLapsed_16 : decode cX7_hangsOnLapsed 16 = .ok (.if_icmp .eq 8, 3) := by decide +kernel
theorem dX7_hangsOnLapsed_19 : decode cX7_hangsOnLapsed 19 = .ok (.iload_n 2, 1) := by decide +kernel
theorem dX7_hangsOnLapsed_20 : decode cX7_hangsOnLapsed 20 = .ok (.iconst 3, 1) := by decide +kernel
theorem dX7_hangsOnLapsed_21 : decode cX7_hangsOnLapsed 21 = .ok (.if_icmp .ne 16, 3) := by decide +kernel
theorem dX7_hangsOnLapsed_24 : decode cX7_hangsOnLapsed 24 = .ok (.aload_n 0, 1) := by decide +kernel
theorem dX7_hangsOnLapsed_25 : decode cX7_hangsOnLapsed 25 = .ok (.iload_n 1, 1) := by decide +kernel
theorem dX7_hangsOnLapsed_26 : decode cX7_hangsOnLapsed 26 = .ok (.iconst 0, 1) := by decide +kernel
theorem dX7_hangsOnLapsed_27 : decode cX7_hangsOnLapsed 27 = .ok (.invokevirtual 176, 3) := by decide +kernel
theorem dX7_hangsOnLapsed_30 : decode cX7_hangsOnLapsed 30 = .ok (.ifCond .eq 7, 3) := by decide +kernel
theorem dX7_hangsOnLapsed_33 : decode cX7_hangsOnLapsed 33 = .ok (.iconst 1, 1) := by decide +kernel
theorem dX7_hangsOnLapsed_34 : decode cX7_hangsOnLapsed 34 = .ok (.goto 4, 3) := by decide +kernel
theorem dX7_hangsOnLapsed_37 : decode cX7_hangsOnLapsed 37 = .ok (.iconst 0, 1) := by decide +kernel
theorem dX7_hangsOnLapsed_38 : decode cX7_hangsOnLapsed 38 = .ok (.ireturn, 1) := by decide +kernel
theorem dX7_issue_0 : decode cX7_issue 0 = .ok (.aload_n 0, 1) := by decide +kernel
theorem dX7_issue_1 : decode cX7_issue 1 = .ok (.aload_n 0, 1) := by decide +kernel
theorem dX7_issue_2 : decode cX7_issue 2 = .ok (.iload_n 1, 1) := by decide +kernel
theorem dX7_issue_3 : decode cX7_issue 3 = .ok (.invokevirtual 153, 3) := by decide +kernel
theorem dX7_issue_6 : decode cX7_issue 6 = .ok (.ifCond .ne 7, 3) := by decide +kernel
theorem dX7_issue_9 : decode cX7_issue 9 = .ok (.iconst 1, 1) := by decide +kernel
theorem dX7_issue_10 : decode cX7_issue 10 = .ok (.goto 28, 3) := by decide +kernel
theorem dX7_issue_13 : decode cX7_issue 13 = .ok (.iload_n 2, 1) := by decide +kernel
theorem dX7_issue_14 : decode cX7_issue 14 = .ok (.iconst 0, 1) := by decide +kernel
theorem dX7_issue_15 : decode cX7_issue 15 = .ok (.iconst 4, 1) := by decide +kernel
theorem dX7_issue_16 : decode cX7_issue 16 = .ok (.invokestatic 135, 3) := by decide +kernel
theorem dX7_issue_19 : decode cX7_issue 19 = .ok (.ifCond .eq 18, 3) := by decide +kernel
theorem dX7_issue_22 : decode cX7_issue 22 = .ok (.iload_n 3, 1) := by decide +kernel
theorem dX7_issue_23 : decode cX7_issue 23 = .ok (.iconst 1, 1) := by decide +kernel
theorem dX7_issue_24 : decode cX7_issue 24 = .ok (.sipush 1825, 3) := by decide +kernel
theorem dX7_issue_27 : decode cX7_issue 27 = .ok (.invokestatic 135, 3) := by decide +kernel
theorem dX7_issue_30 : decode cX7_issue 30 = .ok (.ifCond .eq 7, 3) := by decide +kernel
theorem dX7_issue_33 : decode cX7_issue 33 = .ok (.iconst 0, 1) := by decide +kernel
theorem dX7_issue_34 : decode cX7_issue 34 = .ok (.goto 4, 3) := by decide +kernel
theorem dX7_issue_37 : decode cX7_issue 37 = .ok (.iconst 2, 1) := by decide +kernel
theorem dX7_issue_38 : decode cX7_issue 38 = .ok (.putfield 128, 3) := by decide +kernel
theorem dX7_issue_41 : decode cX7_issue 41 = .ok (.aload_n 0, 1) := by decide +kernel
theorem dX7_issue_42 : decode cX7_issue 42 = .ok (.getfield 128, 3) := by decide +kernel
theorem dX7_issue_45 : decode cX7_issue 45 = .ok (.ifCond .ne 35, 3) := by decide +kernel
theorem dX7_issue_48 : decode cX7_issue 48 = .ok (.aload_n 0, 1) := by decide +kernel
theorem dX7_issue_49 : decode cX7_issue 49 = .ok (.aload_n 0, 1) := by decide +kernel
theorem dX7_issue_50 : decode cX7_issue 50 = .ok (.getfield 7, 3) := by decide +kernel
theorem dX7_issue_53 : decode cX7_issue 53 = .ok (.aload_n 0, 1) := by decide +kernel
theorem dX7_issue_54 : decode cX7_issue 54 = .ok (.getfield 26, 3) := by decide +kernel
theorem dX7_issue_57 : decode cX7_issue 57 = .ok (.iload_n 1, 1) := by decide +kernel
theorem dX7_issue_58 : decode cX7_issue 58 = .ok (.iaload, 1) := by decide +kernel
theorem dX7_issue_59 : decode cX7_issue 59 = .ok (.baload, 1) := by decide +kernel
theorem dX7_issue_60 : decode cX7_issue 60 = .ok (.ifCond .ne 12, 3) := by decide +kernel
theorem dX7_issue_63 : decode cX7_issue 63 = .ok (.aload_n 0, 1) := by decide +kernel
theorem dX7_issue_64 : decode cX7_issue 64 = .ok (.iload_n 1, 1) := by decide +kernel
theorem dX7_issue_65 : decode cX7_issue 65 = .ok (.iload_n 2, 1) := by decide +kernel
theorem dX7_issue_66 : decode cX7_issue 66 = .ok (.invokevirtual 179, 3) := by decide +kernel
theorem dX7_issue_69 : decode cX7_issue 69 = .ok (.ifCond .eq 7, 3) := by decide +kernel
theorem dX7_issue_72 : decode cX7_issue 72 = .ok (.iconst 3, 1) := by decide +kernel
theorem dX7_issue_73 : decode cX7_issue 73 = .ok (.goto 4, 3) := by decide +kernel
theorem dX7_issue_76 : decode cX7_issue 76 = .ok (.iconst 0, 1) := by decide +kernel
theorem dX7_issue_77 : decode cX7_issue 77 = .ok (.putfield 128, 3) := by decide +kernel
theorem dX7_issue_80 : decode cX7_issue 80 = .ok (.aload_n 0, 1) := by decide +kernel
theorem dX7_issue_81 : decode cX7_issue 81 = .ok (.getfield 128, 3) := by decide +kernel
theorem dX7_issue_84 : decode cX7_issue 84 = .ok (.ifCond .le 5, 3) := by decide +kernel
theorem dX7_issue_87 : decode cX7_issue 87 = .ok (.iconst 0, 1) := by decide +kernel
theorem dX7_issue_88 : decode cX7_issue 88 = .ok (.ireturn, 1) := by decide +kernel
theorem dX7_issue_89 : decode cX7_issue 89 = .ok (.iload_n 1, 1) := by decide +kernel
theorem dX7_issue_90 : decode cX7_issue 90 = .ok (.iload_n 2, 1) := by decide +kernel
theorem dX7_issue_91 : decode cX7_issue 91 = .ok (.invokestatic 169, 3) := by decide +kernel
theorem dX7_issue_94 : decode cX7_issue 94 = .ok (.istore 4, 2) := by decide +kernel
theorem dX7_issue_96 : decode cX7_issue 96 = .ok (.aload_n 0, 1) := by decide +kernel
theorem dX7_issue_97 : decode cX7_issue 97 = .ok (.getfield 56, 3) := by decide +kernel
theorem dX7_issue_100 : decode cX7_issue 100 = .ok (.iload 4, 2) := by decide +kernel
theorem dX7_issue_102 : decode cX7_issue 102 = .ok (.iconst 1, 1) := by decide +kernel
theorem dX7_issue_103 : decode cX7_issue 103 = .ok (.bastore, 1) := by decide +kernel
theorem dX7_issue_104 : decode cX7_issue 104 = .ok (.aload_n 0, 1) := by decide +kernel
theorem dX7_issue_105 : decode cX7_issue 105 = .ok (.getfield 59, 3) := by decide +kernel
theorem dX7_issue_108 : decode cX7_issue 108 = .ok (.iload 4, 2) := by decide +kernel
theorem dX7_issue_110 : decode cX7_issue 110 = .ok (.aload_n 0, 1) := by decide +kernel
theorem dX7_issue_111 : decode cX7_issue 111 = .ok (.getfield 142, 3) := by decide +kernel
theorem dX7_issue_114 : decode cX7_issue 114 = .ok (.iastore, 1) := by decide +kernel
theorem dX7_issue_115 : decode cX7_issue 115 = .ok (.aload_n 0, 1) := by decide +kernel
theorem dX7_issue_116 : decode cX7_issue 116 = .ok (.getfield 62, 3) := by decide +kernel
theorem dX7_issue_119 : decode cX7_issue 119 = .ok (.iload 4, 2) := by decide +kernel
theorem dX7_issue_121 : decode cX7_issue 121 = .ok (.iload_n 3, 1) := by decide +kernel
theorem dX7_issue_122 : decode cX7_issue 122 = .ok (.iastore, 1) := by decide +kernel
theorem dX7_issue_123 : decode cX7_issue 123 = .ok (.aload_n 0, 1) := by decide +kernel
theorem dX7_issue_124 : decode cX7_issue 124 = .ok (.getfield 65, 3) := by decide +kernel
theorem dX7_issue_127 : decode cX7_issue 127 = .ok (.iload 4, 2) := by decide +kernel
theorem dX7_issue_129 : decode cX7_issue 129 = .ok (.aload_n 0, 1) := by decide +kernel
theorem dX7_issue_130 : decode cX7_issue 130 = .ok (.getfield 26, 3) := by decide +kernel
theorem dX7_issue_133 : decode cX7_issue 133 = .ok (.iload_n 1, 1) := by decide +kernel
theorem dX7_issue_134 : decode cX7_issue 134 = .ok (.iaload, 1) := by decide +kernel
theorem dX7_issue_135 : decode cX7_issue 135 = .ok (.iastore, 1) := by decide +kernel
theorem dX7_issue_136 : decode cX7_issue 136 = .ok (.aload_n 0, 1) := by decide +kernel
theorem dX7_issue_137 : decode cX7_issue 137 = .ok (.getfield 68, 3) := by decide +kernel
theorem dX7_issue_140 : decode cX7_issue 140 = .ok (.iload 4, 2) := by decide +kernel
theorem dX7_issue_142 : decode cX7_issue 142 = .ok (.iconst 0, 1) := by decide +kernel
theorem dX7_issue_143 : decode cX7_issue 143 = .ok (.iastore, 1) := by decide +kernel
theorem dX7_issue_144 : decode cX7_issue 144 = .ok (.aload_n 0, 1) := by decide +kernel
theorem dX7_issue_145 : decode cX7_issue 145 = .ok (.getfield 142, 3) := by decide +kernel
theorem dX7_issue_148 : decode cX7_issue 148 = .ok (.iload_n 3, 1) := by decide +kernel
theorem dX7_issue_149 : decode cX7_issue 149 = .ok (.iadd, 1) := by decide +kernel
theorem dX7_issue_150 : decode cX7_issue 150 = .ok (.ireturn, 1) := by decide +kernel
theorem dX7_anniversary_0 : decode cX7_anniversary 0 = .ok (.iconst (-1), 1) := by decide +kernel
theorem dX7_anniversary_1 : decode cX7_anniversary 1 = .ok (.istore_n 2, 1) := by decide +kernel
theorem dX7_anniversary_2 : decode cX7_anniversary 2 = .ok (.iconst 1, 1) := by decide +kernel
theorem dX7_anniversary_3 : decode cX7_anniversary 3 = .ok (.istore_n 3, 1) := by decide +kernel
theorem dX7_anniversary_4 : decode cX7_anniversary 4 = .ok (.sipush 365, 3) := by decide +kernel
theorem dX7_anniversary_7 : decode cX7_anniversary 7 = .ok (.iload_n 3, 1) := by decide +kernel
theorem dX7_anniversary_8 : decode cX7_anniversary 8 = .ok (.imul, 1) := by decide +kernel
theorem dX7_anniversary_9 : decode cX7_anniversary 9 = .ok (.aload_n 0, 1) := by decide +kernel
theorem dX7_anniversary_10 : decode cX7_anniversary 10 = .ok (.getfield 62, 3) := by decide +kernel
theorem dX7_anniversary_13 : decode cX7_anniversary 13 = .ok (.iload_n 1, 1) := by decide +kernel
theorem dX7_anniversary_14 : decode cX7_anniversary 14 = .ok (.iaload, 1) := by decide +kernel
theorem dX7_anniversary_15 : decode cX7_anniversary 15 = .ok (.if_icmp .ge 67, 3) := by decide +kernel
theorem dX7_anniversary_18 : decode cX7_anniversary 18 = .ok (.aload_n 0, 1) := by decide +kernel
theorem dX7_anniversary_19 : decode cX7_anniversary 19 = .ok (.getfield 59, 3) := by decide +kernel
theorem dX7_anniversary_22 : decode cX7_anniversary 22 = .ok (.iload_n 1, 1) := by decide +kernel
theorem dX7_anniversary_23 : decode cX7_anniversary 23 = .ok (.iaload, 1) := by decide +kernel
theorem dX7_anniversary_24 : decode cX7_anniversary 24 = .ok (.sipush 365, 3) := by decide +kernel
theorem dX7_anniversary_27 : decode cX7_anniversary 27 = .ok (.iload_n 3, 1) := by decide +kernel
theorem dX7_anniversary_28 : decode cX7_anniversary 28 = .ok (.imul, 1) := by decide +kernel
theorem dX7_anniversary_29 : decode cX7_anniversary 29 = .ok (.iadd, 1) := by decide +kernel
theorem dX7_anniversary_30 : decode cX7_anniversary 30 = .ok (.istore 4, 2) := by decide +kernel
theorem dX7_anniversary_32 : decode cX7_anniversary 32 = .ok (.iload_n 2, 1) := by decide +kernel
theorem dX7_anniversary_33 : decode cX7_anniversary 33 = .ok (.iconst (-1), 1) := by decide +kernel
theorem dX7_anniversary_34 : decode cX7_anniversary 34 = .ok (.if_icmp .ne 40, 3) := by decide +kernel
theorem dX7_anniversary_37 : decode cX7_anniversary 37 = .ok (.aload_n 0, 1) := by decide +kernel
theorem dX7_anniversary_38 : decode cX7_anniversary 38 = .ok (.getfield 68, 3) := by decide +kernel
theorem dX7_anniversary_41 : decode cX7_anniversary 41 = .ok (.iload_n 1, 1) := by decide +kernel
theorem dX7_anniversary_42 : decode cX7_anniversary 42 = .ok (.iaload, 1) := by decide +kernel
theorem dX7_anniversary_43 : decode cX7_anniversary 43 = .ok (.iload_n 3, 1) := by decide +kernel
theorem dX7_anniversary_44 : decode cX7_anniversary 44 = .ok (.invokestatic 159, 3) := by decide +kernel
theorem dX7_anniversary_47 : decode cX7_anniversary 47 = .ok (.ifCond .ne 27, 3) := by decide +kernel
theorem dX7_anniversary_50 : decode cX7_anniversary 50 = .ok (.aload_n 0, 1) := by decide +kernel
theorem dX7_anniversary_51 : decode cX7_anniversary 51 = .ok (.getfield 142, 3) := by decide +kernel
theorem dX7_anniversary_54 : decode cX7_anniversary 54 = .ok (.iload 4, 2) := by decide +kernel
theorem dX7_anniversary_56 : decode cX7_anniversary 56 = .ok (.bipush 90, 2) := by decide +kernel
theorem dX7_anniversary_58 : decode cX7_anniversary 58 = .ok (.isub, 1) := by decide +kernel
theorem dX7_anniversary_59 : decode cX7_anniversary 59 = .ok (.iload 4, 2) := by decide +kernel
theorem dX7_anniversary_61 : decode cX7_anniversary 61 = .ok (.bipush 90, 2) := by decide +kernel
theorem dX7_anniversary_63 : decode cX7_anniversary 63 = .ok (.iadd, 1) := by decide +kernel
theorem dX7_anniversary_64 : decode cX7_anniversary 64 = .ok (.invokestatic 135, 3) := by decide +kernel
theorem dX7_anniversary_67 : decode cX7_anniversary 67 = .ok (.ifCond .eq 7, 3) := by decide +kernel
theorem dX7_anniversary_70 : decode cX7_anniversary 70 = .ok (.iload_n 3, 1) := by decide +kernel
theorem dX7_anniversary_71 : decode cX7_anniversary 71 = .ok (.goto 4, 3) := by decide +kernel
theorem dX7_anniversary_74 : decode cX7_anniversary 74 = .ok (.iload_n 2, 1) := by decide +kernel
theorem dX7_anniversary_75 : decode cX7_anniversary 75 = .ok (.istore_n 2, 1) := by decide +kernel
theorem dX7_anniversary_76 : decode cX7_anniversary 76 = .ok (.iinc 3 1, 3) := by decide +kernel
theorem dX7_anniversary_79 : decode cX7_anniversary 79 = .ok (.goto (-75), 3) := by decide +kernel
theorem dX7_anniversary_82 : decode cX7_anniversary 82 = .ok (.iload_n 2, 1) := by decide +kernel
theorem dX7_anniversary_83 : decode cX7_anniversary 83 = .ok (.ireturn, 1) := by decide +kernel
theorem dX7_many_0 : decode cX7_many 0 = .ok (.iconst 0, 1) := by decide +kernel
theorem dX7_many_1 : decode cX7_many 1 = .ok (.istore_n 1, 1) := by decide +kernel
theorem dX7_many_2 : decode cX7_many 2 = .ok (.iconst 0, 1) := by decide +kernel
theorem dX7_many_3 : decode cX7_many 3 = .ok (.istore_n 2, 1) := by decide +kernel
theorem dX7_many_4 : decode cX7_many 4 = .ok (.iload_n 2, 1) := by decide +kernel
theorem dX7_many_5 : decode cX7_many 5 = .ok (.bipush 31, 2) := by decide +kernel
theorem dX7_many_7 : decode cX7_many 7 = .ok (.if_icmp .ge 17, 3) := by decide +kernel
theorem dX7_many_10 : decode cX7_many 10 = .ok (.iload_n 1, 1) := by decide +kernel
theorem dX7_many_11 : decode cX7_many 11 = .ok (.iload_n 0, 1) := by decide +kernel
theorem dX7_many_12 : decode cX7_many 12 = .ok (.iload_n 2, 1) := by decide +kernel
theorem dX7_many_13 : decode cX7_many 13 = .ok (.ishr, 1) := by decide +kernel
theorem dX7_many_14 : decode cX7_many 14 = .ok (.iconst 1, 1) := by decide +kernel
theorem dX7_many_15 : decode cX7_many 15 = .ok (.iand, 1) := by decide +kernel
theorem dX7_many_16 : decode cX7_many 16 = .ok (.iadd, 1) := by decide +kernel
theorem dX7_many_17 : decode cX7_many 17 = .ok (.istore_n 1, 1) := by decide +kernel
theorem dX7_many_18 : decode cX7_many 18 = .ok (.iinc 2 1, 3) := by decide +kernel
theorem dX7_many_21 : decode cX7_many 21 = .ok (.goto (-17), 3) := by decide +kernel
theorem dX7_many_24 : decode cX7_many 24 = .ok (.iload_n 1, 1) := by decide +kernel
theorem dX7_many_25 : decode cX7_many 25 = .ok (.ireturn, 1) := by decide +kernel
theorem dX7_endorse_0 : decode cX7_endorse 0 = .ok (.aload_n 0, 1) := by decide +kernel
theorem dX7_endorse_1 : decode cX7_endorse 1 = .ok (.aload_n 0, 1) := by decide +kernel
theorem dX7_endorse_2 : decode cX7_endorse 2 = .ok (.iload_n 1, 1) := by decide +kernel
theorem dX7_endorse_3 : decode cX7_endorse 3 = .ok (.invokevirtual 153, 3) := by decide +kernel
theorem dX7_endorse_6 : decode cX7_endorse 6 = .ok (.ifCond .ne 7, 3) := by decide +kernel
theorem dX7_endorse_9 : decode cX7_endorse 9 = .ok (.iconst 1, 1) := by decide +kernel
theorem dX7_endorse_10 : decode cX7_endorse 10 = .ok (.goto 17, 3) := by decide +kernel
theorem dX7_endorse_13 : decode cX7_endorse 13 = .ok (.iload_n 2, 1) := by decide +kernel
theorem dX7_endorse_14 : decode cX7_endorse 14 = .ok (.iconst 0, 1) := by decide +kernel
theorem dX7_endorse_15 : decode cX7_endorse 15 = .ok (.iconst 4, 1) := by decide +kernel
theorem dX7_endorse_16 : decode cX7_endorse 16 = .ok (.invokestatic 135, 3) := by decide +kernel
theorem dX7_endorse_19 : decode cX7_endorse 19 = .ok (.ifCond .eq 7, 3) := by decide +kernel
theorem dX7_endorse_22 : decode cX7_endorse 22 = .ok (.iconst 0, 1) := by decide +kernel
theorem dX7_endorse_23 : decode cX7_endorse 23 = .ok (.goto 4, 3) := by decide +kernel
theorem dX7_endorse_26 : decode cX7_endorse 26 = .ok (.iconst 2, 1) := by decide +kernel
theorem dX7_endorse_27 : decode cX7_endorse 27 = .ok (.putfield 128, 3) := by decide +kernel
theorem dX7_endorse_30 : decode cX7_endorse 30 = .ok (.aload_n 0, 1) := by decide +kernel
theorem dX7_endorse_31 : decode cX7_endorse 31 = .ok (.getfield 128, 3) := by decide +kernel
theorem dX7_endorse_34 : decode cX7_endorse 34 = .ok (.ifCond .ne 34, 3) := by decide +kernel
theorem dX7_endorse_37 : decode cX7_endorse 37 = .ok (.aload_n 0, 1) := by decide +kernel
theorem dX7_endorse_38 : decode cX7_endorse 38 = .ok (.aload_n 0, 1) := by decide +kernel
theorem dX7_endorse_39 : decode cX7_endorse 39 = .ok (.iload_n 1, 1) := by decide +kernel
theorem dX7_endorse_40 : decode cX7_endorse 40 = .ok (.iload_n 2, 1) := by decide +kernel
theorem dX7_endorse_41 : decode cX7_endorse 41 = .ok (.invokevirtual 176, 3) := by decide +kernel
theorem dX7_endorse_44 : decode cX7_endorse 44 = .ok (.ifCond .ne 16, 3) := by decide +kernel
theorem dX7_endorse_47 : decode cX7_endorse 47 = .ok (.aload_n 0, 1) := by decide +kernel
theorem dX7_endorse_48 : decode cX7_endorse 48 = .ok (.iload_n 1, 1) := by decide +kernel
theorem dX7_endorse_49 : decode cX7_endorse 49 = .ok (.iload_n 2, 1) := by decide +kernel
theorem dX7_endorse_50 : decode cX7_endorse 50 = .ok (.invokestatic 169, 3) := by decide +kernel
theorem dX7_endorse_53 : decode cX7_endorse 53 = .ok (.invokevirtual 182, 3) := by decide +kernel
theorem dX7_endorse_56 : decode cX7_endorse 56 = .ok (.iconst (-1), 1) := by decide +kernel
theorem dX7_endorse_57 : decode cX7_endorse 57 = .ok (.if_icmp .ne 7, 3) := by decide +kernel
theorem dX7_endorse_60 : decode cX7_endorse 60 = .ok (.iconst 3, 1) := by decide +kernel
theorem dX7_endorse_61 : decode cX7_endorse 61 = .ok (.goto 4, 3) := by decide +kernel
theorem dX7_endorse_64 : decode cX7_endorse 64 = .ok (.iconst 0, 1) := by decide +kernel
theorem dX7_endorse_65 : decode cX7_endorse 65 = .ok (.putfield 128, 3) := by decide +kernel
theorem dX7_endorse_68 : decode cX7_endorse 68 = .ok (.aload_n 0, 1) := by decide +kernel
theorem dX7_endorse_69 : decode cX7_endorse 69 = .ok (.getfield 128, 3) := by decide +kernel
theorem dX7_endorse_72 : decode cX7_endorse 72 = .ok (.ifCond .le 5, 3) := by decide +kernel
theorem dX7_endorse_75 : decode cX7_endorse 75 = .ok (.iconst 0, 1) := by decide +kernel
theorem dX7_endorse_76 : decode cX7_endorse 76 = .ok (.ireturn, 1) := by decide +kernel
theorem dX7_endorse_77 : decode cX7_endorse 77 = .ok (.iload_n 1, 1) := by decide +kernel
theorem dX7_endorse_78 : decode cX7_endorse 78 = .ok (.iload_n 2, 1) := by decide +kernel
theorem dX7_endorse_79 : decode cX7_endorse 79 = .ok (.invokestatic 169, 3) := by decide +kernel
theorem dX7_endorse_82 : decode cX7_endorse 82 = .ok (.istore_n 3, 1) := by decide +kernel
theorem dX7_endorse_83 : decode cX7_endorse 83 = .ok (.aload_n 0, 1) := by decide +kernel
theorem dX7_endorse_84 : decode cX7_endorse 84 = .ok (.getfield 68, 3) := by decide +kernel
theorem dX7_endorse_87 : decode cX7_endorse 87 = .ok (.iload_n 3, 1) := by decide +kernel
theorem dX7_endorse_88 : decode cX7_endorse 88 = .ok (.dup2, 1) := by decide +kernel
theorem dX7_endorse_89 : decode cX7_endorse 89 = .ok (.iaload, 1) := by decide +kernel
theorem dX7_endorse_90 : decode cX7_endorse 90 = .ok (.iconst 1, 1) := by decide +kernel
theorem dX7_endorse_91 : decode cX7_endorse 91 = .ok (.aload_n 0, 1) := by decide +kernel
theorem dX7_endorse_92 : decode cX7_endorse 92 = .ok (.iload_n 3, 1) := by decide +kernel
theorem dX7_endorse_93 : decode cX7_endorse 93 = .ok (.invokevirtual 182, 3) := by decide +kernel
theorem dX7_endorse_96 : decode cX7_endorse 96 = .ok (.ishl, 1) := by decide +kernel
theorem dX7_endorse_97 : decode cX7_endorse 97 = .ok (.ior, 1) := by decide +kernel
theorem dX7_endorse_98 : decode cX7_endorse 98 = .ok (.iastore, 1) := by decide +kernel
theorem dX7_endorse_99 : decode cX7_endorse 99 = .ok (.aload_n 0, 1) := by decide +kernel
theorem dX7_endorse_100 : decode cX7_endorse 100 = .ok (.getfield 68, 3) := by decide +kernel
theorem dX7_endorse_103 : decode cX7_endorse 103 = .ok (.iload_n 3, 1) := by decide +kernel
theorem dX7_endorse_104 : decode cX7_endorse 104 = .ok (.iaload, 1) := by decide +kernel
theorem dX7_endorse_105 : decode cX7_endorse 105 = .ok (.invokestatic 186, 3) := by decide +kernel
theorem dX7_endorse_108 : decode cX7_endorse 108 = .ok (.ireturn, 1) := by decide +kernel
theorem dX7_isLatest_0 : decode cX7_isLatest 0 = .ok (.aload_n 0, 1) := by decide +kernel
theorem dX7_isLatest_1 : decode cX7_isLatest 1 = .ok (.getfield 142, 3) := by decide +kernel
theorem dX7_isLatest_4 : decode cX7_isLatest 4 = .ok (.aload_n 0, 1) := by decide +kernel
theorem dX7_isLatest_5 : decode cX7_isLatest 5 = .ok (.getfield 92, 3) := by decide +kernel
theorem dX7_isLatest_8 : decode cX7_isLatest 8 = .ok (.iload_n 1, 1) := by decide +kernel
theorem dX7_isLatest_9 : decode cX7_isLatest 9 = .ok (.iaload, 1) := by decide +kernel
theorem dX7_isLatest_10 : decode cX7_isLatest 10 = .ok (.isub, 1) := by decide +kernel
theorem dX7_isLatest_11 : decode cX7_isLatest 11 = .ok (.sipush 1095, 3) := by decide +kernel
theorem dX7_isLatest_14 : decode cX7_isLatest 14 = .ok (.if_icmp .ge 7, 3) := by decide +kernel
theorem dX7_isLatest_17 : decode cX7_isLatest 17 = .ok (.iconst 1, 1) := by decide +kernel
theorem dX7_isLatest_18 : decode cX7_isLatest 18 = .ok (.goto 4, 3) := by decide +kernel
theorem dX7_isLatest_21 : decode cX7_isLatest 21 = .ok (.iconst 0, 1) := by decide +kernel
theorem dX7_isLatest_22 : decode cX7_isLatest 22 = .ok (.ireturn, 1) := by decide +kernel
theorem dX7_counts_0 : decode cX7_counts 0 = .ok (.aload_n 0, 1) := by decide +kernel
theorem dX7_counts_1 : decode cX7_counts 1 = .ok (.getfield 110, 3) := by decide +kernel
theorem dX7_counts_4 : decode cX7_counts 4 = .ok (.iload_n 1, 1) := by decide +kernel
theorem dX7_counts_5 : decode cX7_counts 5 = .ok (.iaload, 1) := by decide +kernel
theorem dX7_counts_6 : decode cX7_counts 6 = .ok (.iconst (-1), 1) := by decide +kernel
theorem dX7_counts_7 : decode cX7_counts 7 = .ok (.if_icmp .eq 17, 3) := by decide +kernel
theorem dX7_counts_10 : decode cX7_counts 10 = .ok (.aload_n 0, 1) := by decide +kernel
theorem dX7_counts_11 : decode cX7_counts 11 = .ok (.getfield 116, 3) := by decide +kernel
theorem dX7_counts_14 : decode cX7_counts 14 = .ok (.iload_n 1, 1) := by decide +kernel
theorem dX7_counts_15 : decode cX7_counts 15 = .ok (.iaload, 1) := by decide +kernel
theorem dX7_counts_16 : decode cX7_counts 16 = .ok (.iconst 2, 1) := by decide +kernel
theorem dX7_counts_17 : decode cX7_counts 17 = .ok (.if_icmp .ge 7, 3) := by decide +kernel
theorem dX7_counts_20 : decode cX7_counts 20 = .ok (.iconst 1, 1) := by decide +kernel
theorem dX7_counts_21 : decode cX7_counts 21 = .ok (.goto 4, 3) := by decide +kernel
theorem dX7_counts_24 : decode cX7_counts 24 = .ok (.iconst 0, 1) := by decide +kernel
theorem dX7_counts_25 : decode cX7_counts 25 = .ok (.ireturn, 1) := by decide +kernel
theorem dX7_detentionsOf_0 : decode cX7_detentionsOf 0 = .ok (.iconst 0, 1) := by decide +kernel
theorem dX7_detentionsOf_1 : decode cX7_detentionsOf 1 = .ok (.istore_n 2, 1) := by decide +kernel
theorem dX7_detentionsOf_2 : decode cX7_detentionsOf 2 = .ok (.iconst 0, 1) := by decide +kernel
theorem dX7_detentionsOf_3 : decode cX7_detentionsOf 3 = .ok (.istore_n 3, 1) := by decide +kernel
theorem dX7_detentionsOf_4 : decode cX7_detentionsOf 4 = .ok (.iload_n 3, 1) := by decide +kernel
theorem dX7_detentionsOf_5 : decode cX7_detentionsOf 5 = .ok (.aload_n 0, 1) := by decide +kernel
theorem dX7_detentionsOf_6 : decode cX7_detentionsOf 6 = .ok (.getfield 139, 3) := by decide +kernel
theorem dX7_detentionsOf_9 : decode cX7_detentionsOf 9 = .ok (.if_icmp .ge 43, 3) := by decide +kernel
theorem dX7_detentionsOf_12 : decode cX7_detentionsOf 12 = .ok (.iload_n 2, 1) := by decide +kernel
theorem dX7_detentionsOf_13 : decode cX7_detentionsOf 13 = .ok (.aload_n 0, 1) := by decide +kernel
theorem dX7_detentionsOf_14 : decode cX7_detentionsOf 14 = .ok (.getfield 86, 3) := by decide +kernel
theorem dX7_detentionsOf_17 : decode cX7_detentionsOf 17 = .ok (.iload_n 3, 1) := by decide +kernel
theorem dX7_detentionsOf_18 : decode cX7_detentionsOf 18 = .ok (.iaload, 1) := by decide +kernel
theorem dX7_detentionsOf_19 : decode cX7_detentionsOf 19 = .ok (.iload_n 1, 1) := by decide +kernel
theorem dX7_detentionsOf_20 : decode cX7_detentionsOf 20 = .ok (.if_icmp .ne 23, 3) := by decide +kernel
theorem dX7_detentionsOf_23 : decode cX7_detentionsOf 23 = .ok (.aload_n 0, 1) := by decide +kernel
theorem dX7_detentionsOf_24 : decode cX7_detentionsOf 24 = .ok (.iload_n 3, 1) := by decide +kernel
theorem dX7_detentionsOf_25 : decode cX7_detentionsOf 25 = .ok (.invokevirtual 189, 3) := by decide +kernel
theorem dX7_detentionsOf_28 : decode cX7_detentionsOf 28 = .ok (.ifCond .eq 15, 3) := by decide +kernel
theorem dX7_detentionsOf_31 : decode cX7_detentionsOf 31 = .ok (.aload_n 0, 1) := by decide +kernel
theorem dX7_detentionsOf_32 : decode cX7_detentionsOf 32 = .ok (.iload_n 3, 1) := by decide +kernel
theorem dX7_detentionsOf_33 : decode cX7_detentionsOf 33 = .ok (.invokevirtual 192, 3) := by decide +kernel
theorem dX7_detentionsOf_36 : decode cX7_detentionsOf 36 = .ok (.ifCond .eq 7, 3) := by decide +kernel
theorem dX7_detentionsOf_39 : decode cX7_detentionsOf 39 = .ok (.iconst 1, 1) := by decide +kernel
theorem dX7_detentionsOf_40 : decode cX7_detentionsOf 40 = .ok (.goto 4, 3) := by decide +kernel
theorem dX7_detentionsOf_43 : decode cX7_detentionsOf 43 = .ok (.iconst 0, 1) := by decide +kernel
theorem dX7_detentionsOf_44 : decode cX7_detentionsOf 44 = .ok (.iadd, 1) := by decide +kernel
theorem dX7_detentionsOf_45 : decode cX7_detentionsOf 45 = .ok (.istore_n 2, 1) := by decide +kernel
theorem dX7_detentionsOf_46 : decode cX7_detentionsOf 46 = .ok (.iinc 3 1, 3) := by decide +kernel
theorem dX7_detentionsOf_49 : decode cX7_detentionsOf 49 = .ok (.goto (-45), 3) := by decide +kernel
theorem dX7_detentionsOf_52 : decode cX7_detentionsOf 52 = .ok (.iload_n 2, 1) := by decide +kernel
theorem dX7_detentionsOf_53 : decode cX7_detentionsOf 53 = .ok (.ireturn, 1) := by decide +kernel
theorem dX7_hadMany_0 : decode cX7_hadMany 0 = .ok (.iconst 0, 1) := by decide +kernel
theorem dX7_hadMany_1 : decode cX7_hadMany 1 = .ok (.istore_n 2, 1) := by decide +kernel
theorem dX7_hadMany_2 : decode cX7_hadMany 2 = .ok (.iconst 0, 1) := by decide +kernel
theorem dX7_hadMany_3 : decode cX7_hadMany 3 = .ok (.istore_n 3, 1) := by decide +kernel
theorem dX7_hadMany_4 : decode cX7_hadMany 4 = .ok (.iload_n 3, 1) := by decide +kernel
theorem dX7_hadMany_5 : decode cX7_hadMany 5 = .ok (.aload_n 0, 1) := by decide +kernel
theorem dX7_hadMany_6 : decode cX7_hadMany 6 = .ok (.getfield 139, 3) := by decide +kernel
theorem dX7_hadMany_9 : decode cX7_hadMany 9 = .ok (.if_icmp .ge 47, 3) := by decide +kernel
theorem dX7_hadMany_12 : decode cX7_hadMany 12 = .ok (.iload_n 2, 1) := by decide +kernel
theorem dX7_hadMany_13 : decode cX7_hadMany 13 = .ok (.ifCond .ne 31, 3) := by decide +kernel
theorem dX7_hadMany_16 : decode cX7_hadMany 16 = .ok (.aload_n 0, 1) := by decide +kernel
theorem dX7_hadMany_17 : decode cX7_hadMany 17 = .ok (.getfield 86, 3) := by decide +kernel
theorem dX7_hadMany_20 : decode cX7_hadMany 20 = .ok (.iload_n 3, 1) := by decide +kernel
theorem dX7_hadMany_21 : decode cX7_hadMany 21 = .ok (.iaload, 1) := by decide +kernel
theorem dX7_hadMany_22 : decode cX7_hadMany 22 = .ok (.iload_n 1, 1) := by decide +kernel
theorem dX7_hadMany_23 : decode cX7_hadMany 23 = .ok (.if_icmp .ne 25, 3) := by decide +kernel
theorem dX7_hadMany_26 : decode cX7_hadMany 26 = .ok (.aload_n 0, 1) := by decide +kernel
theorem dX7_hadMany_27 : decode cX7_hadMany 27 = .ok (.iload_n 3, 1) := by decide +kernel
theorem dX7_hadMany_28 : decode cX7_hadMany 28 = .ok (.invokevirtual 189, 3) := by decide +kernel
theorem dX7_hadMany_31 : decode cX7_hadMany 31 = .ok (.ifCond .eq 17, 3) := by decide +kernel
theorem dX7_hadMany_34 : decode cX7_hadMany 34 = .ok (.aload_n 0, 1) := by decide +kernel
theorem dX7_hadMany_35 : decode cX7_hadMany 35 = .ok (.getfield 101, 3) := by decide +kernel
theorem dX7_hadMany_38 : decode cX7_hadMany 38 = .ok (.iload_n 3, 1) := by decide +kernel
theorem dX7_hadMany_39 : decode cX7_hadMany 39 = .ok (.iaload, 1) := by decide +kernel
theorem dX7_hadMany_40 : decode cX7_hadMany 40 = .ok (.iconst 5, 1) := by decide +kernel
theorem dX7_hadMany_41 : decode cX7_hadMany 41 = .ok (.if_icmp .le 7, 3) := by decide +kernel
theorem dX7_hadMany_44 : decode cX7_hadMany 44 = .ok (.iconst 1, 1) := by decide +kernel
theorem dX7_hadMany_45 : decode cX7_hadMany 45 = .ok (.goto 4, 3) := by decide +kernel
theorem dX7_hadMany_48 : decode cX7_hadMany 48 = .ok (.iconst 0, 1) := by decide +kernel
theorem dX7_hadMany_49 : decode cX7_hadMany 49 = .ok (.istore_n 2, 1) := by decide +kernel
theorem dX7_hadMany_50 : decode cX7_hadMany 50 = .ok (.iinc 3 1, 3) := by decide +kernel
theorem dX7_hadMany_53 : decode cX7_hadMany 53 = .ok (.goto (-49), 3) := by decide +kernel
theorem dX7_hadMany_56 : decode cX7_hadMany 56 = .ok (.iload_n 2, 1) := by decide +kernel
theorem dX7_hadMany_57 : decode cX7_hadMany 57 = .ok (.ireturn, 1) := by decide +kernel
theorem dX7_listOf_0 : decode cX7_listOf 0 = .ok (.iconst 0, 1) := by decide +kernel
theorem dX7_listOf_1 : decode cX7_listOf 1 = .ok (.istore_n 2, 1) := by decide +kernel
theorem dX7_listOf_2 : decode cX7_listOf 2 = .ok (.iconst 0, 1) := by decide +kernel
theorem dX7_listOf_3 : decode cX7_listOf 3 = .ok (.istore_n 3, 1) := by decide +kernel
theorem dX7_listOf_4 : decode cX7_listOf 4 = .ok (.iconst 0, 1) := by decide +kernel
theorem dX7_listOf_5 : decode cX7_listOf 5 = .ok (.istore 4, 2) := by decide +kernel
theorem dX7_listOf_7 : decode cX7_listOf 7 = .ok (.iload 4, 2) := by decide +kernel
theorem dX7_listOf_9 : decode cX7_listOf 9 = .ok (.aload_n 0, 1) := by decide +kernel
theorem dX7_listOf_10 : decode cX7_listOf 10 = .ok (.getfield 139, 3) := by decide +kernel
theorem dX7_listOf_13 : decode cX7_listOf 13 = .ok (.if_icmp .ge 71, 3) := by decide +kernel
theorem dX7_listOf_16 : decode cX7_listOf 16 = .ok (.aload_n 0, 1) := by decide +kernel
theorem dX7_listOf_17 : decode cX7_listOf 17 = .ok (.getfield 98, 3) := by decide +kernel
theorem dX7_listOf_20 : decode cX7_listOf 20 = .ok (.iload 4, 2) := by decide +kernel
theorem dX7_listOf_22 : decode cX7_listOf 22 = .ok (.iaload, 1) := by decide +kernel
theorem dX7_listOf_23 : decode cX7_listOf 23 = .ok (.iload_n 1, 1) := by decide +kernel
theorem dX7_listOf_24 : decode cX7_listOf 24 = .ok (.if_icmp .ne 16, 3) := by decide +kernel
theorem dX7_listOf_27 : decode cX7_listOf 27 = .ok (.aload_n 0, 1) := by decide +kernel
theorem dX7_listOf_28 : decode cX7_listOf 28 = .ok (.iload 4, 2) := by decide +kernel
theorem dX7_listOf_30 : decode cX7_listOf 30 = .ok (.invokevirtual 189, 3) := by decide +kernel
theorem dX7_listOf_33 : decode cX7_listOf 33 = .ok (.ifCond .eq 7, 3) := by decide +kernel
theorem dX7_listOf_36 : decode cX7_listOf 36 = .ok (.iconst 1, 1) := by decide +kernel
theorem dX7_listOf_37 : decode cX7_listOf 37 = .ok (.goto 4, 3) := by decide +kernel
theorem dX7_listOf_40 : decode cX7_listOf 40 = .ok (.iconst 0, 1) := by decide +kernel
theorem dX7_listOf_41 : decode cX7_listOf 41 = .ok (.istore 5, 2) := by decide +kernel
theorem dX7_listOf_43 : decode cX7_listOf 43 = .ok (.iload_n 2, 1) := by decide +kernel
theorem dX7_listOf_44 : decode cX7_listOf 44 = .ok (.iload 5, 2) := by decide +kernel
theorem dX7_listOf_46 : decode cX7_listOf 46 = .ok (.ifCond .eq 7, 3) := by decide +kernel
theorem dX7_listOf_49 : decode cX7_listOf 49 = .ok (.iconst 1, 1) := by decide +kernel
theorem dX7_listOf_50 : decode cX7_listOf 50 = .ok (.goto 4, 3) := by decide +kernel
theorem dX7_listOf_53 : decode cX7_listOf 53 = .ok (.iconst 0, 1) := by decide +kernel
theorem dX7_listOf_54 : decode cX7_listOf 54 = .ok (.iadd, 1) := by decide +kernel
theorem dX7_listOf_55 : decode cX7_listOf 55 = .ok (.istore_n 2, 1) := by decide +kernel
theorem dX7_listOf_56 : decode cX7_listOf 56 = .ok (.iload_n 3, 1) := by decide +kernel
theorem dX7_listOf_57 : decode cX7_listOf 57 = .ok (.iload 5, 2) := by decide +kernel
theorem dX7_listOf_59 : decode cX7_listOf 59 = .ok (.ifCond .eq 16, 3) := by decide +kernel
theorem dX7_listOf_62 : decode cX7_listOf 62 = .ok (.aload_n 0, 1) := by decide +kernel
theorem dX7_listOf_63 : decode cX7_listOf 63 = .ok (.iload 4, 2) := by decide +kernel
theorem dX7_listOf_65 : decode cX7_listOf 65 = .ok (.invokevirtual 192, 3) := by decide +kernel
theorem dX7_listOf_68 : decode cX7_listOf 68 = .ok (.ifCond .eq 7, 3) := by decide +kernel
theorem dX7_listOf_71 : decode cX7_listOf 71 = .ok (.iconst 1, 1) := by decide +kernel
theorem dX7_listOf_72 : decode cX7_listOf 72 = .ok (.goto 4, 3) := by decide +kernel
theorem dX7_listOf_75 : decode cX7_listOf 75 = .ok (.iconst 0, 1) := by decide +kernel
theorem dX7_listOf_76 : decode cX7_listOf 76 = .ok (.iadd, 1) := by decide +kernel
theorem dX7_listOf_77 : decode cX7_listOf 77 = .ok (.istore_n 3, 1) := by decide +kernel
theorem dX7_listOf_78 : decode cX7_listOf 78 = .ok (.iinc 4 1, 3) := by decide +kernel
theorem dX7_listOf_81 : decode cX7_listOf 81 = .ok (.goto (-74), 3) := by decide +kernel
theorem dX7_listOf_84 : decode cX7_listOf 84 = .ok (.bipush 100, 2) := by decide +kernel
theorem dX7_listOf_86 : decode cX7_listOf 86 = .ok (.iload_n 3, 1) := by decide +kernel
theorem dX7_listOf_87 : decode cX7_listOf 87 = .ok (.imul, 1) := by decide +kernel
theorem dX7_listOf_88 : decode cX7_listOf 88 = .ok (.bipush 7, 2) := by decide +kernel
theorem dX7_listOf_90 : decode cX7_listOf 90 = .ok (.iload_n 2, 1) := by decide +kernel
theorem dX7_listOf_91 : decode cX7_listOf 91 = .ok (.imul, 1) := by decide +kernel
theorem dX7_listOf_92 : decode cX7_listOf 92 = .ok (.isub, 1) := by decide +kernel
theorem dX7_listOf_93 : decode cX7_listOf 93 = .ok (.bipush 50, 2) := by decide +kernel
theorem dX7_listOf_95 : decode cX7_listOf 95 = .ok (.isub, 1) := by decide +kernel
theorem dX7_listOf_96 : decode cX7_listOf 96 = .ok (.istore 4, 2) := by decide +kernel
theorem dX7_listOf_98 : decode cX7_listOf 98 = .ok (.bipush 7, 2) := by decide +kernel
theorem dX7_listOf_100 : decode cX7_listOf 100 = .ok (.iload_n 2, 1) := by decide +kernel
theorem dX7_listOf_101 : decode cX7_listOf 101 = .ok (.imul, 1) := by decide +kernel
theorem dX7_listOf_102 : decode cX7_listOf 102 = .ok (.bipush 50, 2) := by decide +kernel
theorem dX7_listOf_104 : decode cX7_listOf 104 = .ok (.isub, 1) := by decide +kernel
theorem dX7_listOf_105 : decode cX7_listOf 105 = .ok (.bipush 100, 2) := by decide +kernel
theorem dX7_listOf_107 : decode cX7_listOf 107 = .ok (.iload_n 3, 1) := by decide +kernel
theorem dX7_listOf_108 : decode cX7_listOf 108 = .ok (.imul, 1) := by decide +kernel
theorem dX7_listOf_109 : decode cX7_listOf 109 = .ok (.isub, 1) := by decide +kernel
theorem dX7_listOf_110 : decode cX7_listOf 110 = .ok (.istore 5, 2) := by decide +kernel
theorem dX7_listOf_112 : decode cX7_listOf 112 = .ok (.iload_n 2, 1) := by decide +kernel
theorem dX7_listOf_113 : decode cX7_listOf 113 = .ok (.bipush 6, 2) := by decide +kernel
theorem dX7_listOf_115 : decode cX7_listOf 115 = .ok (.if_icmp .ge 5, 3) := by decide +kernel
theorem dX7_listOf_118 : decode cX7_listOf 118 = .ok (.iconst 0, 1) := by decide +kernel
theorem dX7_listOf_119 : decode cX7_listOf 119 = .ok (.ireturn, 1) := by decide +kernel
theorem dX7_listOf_120 : decode cX7_listOf 120 = .ok (.iload 4, 2) := by decide +kernel
theorem dX7_listOf_122 : decode cX7_listOf 122 = .ok (.ifCond .le 20, 3) := by decide +kernel
theorem dX7_listOf_125 : decode cX7_listOf 125 = .ok (.iload 4, 2) := by decide +kernel
theorem dX7_listOf_127 : decode cX7_listOf 127 = .ok (.iload 4, 2) := by decide +kernel
theorem dX7_listOf_129 : decode cX7_listOf 129 = .ok (.imul, 1) := by decide +kernel
theorem dX7_listOf_130 : decode cX7_listOf 130 = .ok (.sipush 1762, 3) := by decide +kernel
theorem dX7_listOf_133 : decode cX7_listOf 133 = .ok (.iload_n 2, 1) := by decide +kernel
theorem dX7_listOf_134 : decode cX7_listOf 134 = .ok (.imul, 1) := by decide +kernel
theorem dX7_listOf_135 : decode cX7_listOf 135 = .ok (.if_icmp .le 7, 3) := by decide +kernel
theorem dX7_listOf_138 : decode cX7_listOf 138 = .ok (.iconst 3, 1) := by decide +kernel
theorem dX7_listOf_139 : decode cX7_listOf 139 = .ok (.goto 26, 3) := by decide +kernel
theorem dX7_listOf_142 : decode cX7_listOf 142 = .ok (.iload 5, 2) := by decide +kernel
theorem dX7_listOf_144 : decode cX7_listOf 144 = .ok (.ifCond .le 20, 3) := by decide +kernel
theorem dX7_listOf_147 : decode cX7_listOf 147 = .ok (.iload 5, 2) := by decide +kernel
theorem dX7_listOf_149 : decode cX7_listOf 149 = .ok (.iload 5, 2) := by decide +kernel
theorem dX7_listOf_151 : decode cX7_listOf 151 = .ok (.imul, 1) := by decide +kernel
theorem dX7_listOf_152 : decode cX7_listOf 152 = .ok (.sipush 1762, 3) := by decide +kernel
theorem dX7_listOf_155 : decode cX7_listOf 155 = .ok (.iload_n 2, 1) := by decide +kernel
theorem dX7_listOf_156 : decode cX7_listOf 156 = .ok (.imul, 1) := by decide +kernel
theorem dX7_listOf_157 : decode cX7_listOf 157 = .ok (.if_icmp .le 7, 3) := by decide +kernel
theorem dX7_listOf_160 : decode cX7_listOf 160 = .ok (.iconst 1, 1) := by decide +kernel
theorem dX7_listOf_161 : decode cX7_listOf 161 = .ok (.goto 4, 3) := by decide +kernel
theorem dX7_listOf_164 : decode cX7_listOf 164 = .ok (.iconst 2, 1) := by decide +kernel
theorem dX7_listOf_165 : decode cX7_listOf 165 = .ok (.ireturn, 1) := by decide +kernel
theorem dX7_pointsOf_0 : decode cX7_pointsOf 0 = .ok (.aload_n 0, 1) := by decide +kernel
theorem dX7_pointsOf_1 : decode cX7_pointsOf 1 = .ok (.aload_n 0, 1) := by decide +kernel
theorem dX7_pointsOf_2 : decode cX7_pointsOf 2 = .ok (.getfield 23, 3) := by decide +kernel
theorem dX7_pointsOf_5 : decode cX7_pointsOf 5 = .ok (.iload_n 1, 1) := by decide +kernel
theorem dX7_pointsOf_6 : decode cX7_pointsOf 6 = .ok (.iaload, 1) := by decide +kernel
theorem dX7_pointsOf_7 : decode cX7_pointsOf 7 = .ok (.invokevirtual 195, 3) := by decide +kernel
theorem dX7_pointsOf_10 : decode cX7_pointsOf 10 = .ok (.istore_n 2, 1) := by decide +kernel
theorem dX7_pointsOf_11 : decode cX7_pointsOf 11 = .ok (.aload_n 0, 1) := by decide +kernel
theorem dX7_pointsOf_12 : decode cX7_pointsOf 12 = .ok (.iload_n 1, 1) := by decide +kernel
theorem dX7_pointsOf_13 : decode cX7_pointsOf 13 = .ok (.invokevirtual 198, 3) := by decide +kernel
theorem dX7_pointsOf_16 : decode cX7_pointsOf 16 = .ok (.ifCond .eq 7, 3) := by decide +kernel
theorem dX7_pointsOf_19 : decode cX7_pointsOf 19 = .ok (.iconst 1, 1) := by decide +kernel
theorem dX7_pointsOf_20 : decode cX7_pointsOf 20 = .ok (.goto 4, 3) := by decide +kernel
theorem dX7_pointsOf_23 : decode cX7_pointsOf 23 = .ok (.iconst 0, 1) := by decide +kernel
theorem dX7_pointsOf_24 : decode cX7_pointsOf 24 = .ok (.istore_n 3, 1) := by decide +kernel
theorem dX7_pointsOf_25 : decode cX7_pointsOf 25 = .ok (.iload_n 3, 1) := by decide +kernel
theorem dX7_pointsOf_26 : decode cX7_pointsOf 26 = .ok (.aload_n 0, 1) := by decide +kernel
theorem dX7_pointsOf_27 : decode cX7_pointsOf 27 = .ok (.getfield 20, 3) := by decide +kernel
theorem dX7_pointsOf_30 : decode cX7_pointsOf 30 = .ok (.iload_n 1, 1) := by decide +kernel
theorem dX7_pointsOf_31 : decode cX7_pointsOf 31 = .ok (.iaload, 1) := by decide +kernel
theorem dX7_pointsOf_32 : decode cX7_pointsOf 32 = .ok (.iconst 1, 1) := by decide +kernel
theorem dX7_pointsOf_33 : decode cX7_pointsOf 33 = .ok (.if_icmp .ne 7, 3) := by decide +kernel
theorem dX7_pointsOf_36 : decode cX7_pointsOf 36 = .ok (.iconst 1, 1) := by decide +kernel
theorem dX7_pointsOf_37 : decode cX7_pointsOf 37 = .ok (.goto 18, 3) := by decide +kernel
theorem dX7_pointsOf_40 : decode cX7_pointsOf 40 = .ok (.aload_n 0, 1) := by decide +kernel
theorem dX7_pointsOf_41 : decode cX7_pointsOf 41 = .ok (.getfield 20, 3) := by decide +kernel
theorem dX7_pointsOf_44 : decode cX7_pointsOf 44 = .ok (.iload_n 1, 1) := by decide +kernel
theorem dX7_pointsOf_45 : decode cX7_pointsOf 45 = .ok (.iaload, 1) := by decide +kernel
theorem dX7_pointsOf_46 : decode cX7_pointsOf 46 = .ok (.iconst 2, 1) := by decide +kernel
theorem dX7_pointsOf_47 : decode cX7_pointsOf 47 = .ok (.if_icmp .ne 7, 3) := by decide +kernel
theorem dX7_pointsOf_50 : decode cX7_pointsOf 50 = .ok (.iconst 2, 1) := by decide +kernel
theorem dX7_pointsOf_51 : decode cX7_pointsOf 51 = .ok (.goto 4, 3) := by decide +kernel
theorem dX7_pointsOf_54 : decode cX7_pointsOf 54 = .ok (.iconst 0, 1) := by decide +kernel
theorem dX7_pointsOf_55 : decode cX7_pointsOf 55 = .ok (.iadd, 1) := by decide +kernel
theorem dX7_pointsOf_56 : decode cX7_pointsOf 56 = .ok (.istore_n 3, 1) := by decide +kernel
theorem dX7_pointsOf_57 : decode cX7_pointsOf 57 = .ok (.iload_n 3, 1) := by decide +kernel
theorem dX7_pointsOf_58 : decode cX7_pointsOf 58 = .ok (.iload_n 2, 1) := by decide +kernel
theorem dX7_pointsOf_59 : decode cX7_pointsOf 59 = .ok (.iconst 2, 1) := by decide +kernel
theorem dX7_pointsOf_60 : decode cX7_pointsOf 60 = .ok (.if_icmp .ne 7, 3) := by decide +kernel
theorem dX7_pointsOf_63 : decode cX7_pointsOf 63 = .ok (.iconst 1, 1) := by decide +kernel
theorem dX7_pointsOf_64 : decode cX7_pointsOf 64 = .ok (.goto 13, 3) := by decide +kernel
theorem dX7_pointsOf_67 : decode cX7_pointsOf 67 = .ok (.iload_n 2, 1) := by decide +kernel
theorem dX7_pointsOf_68 : decode cX7_pointsOf 68 = .ok (.iconst 3, 1) := by decide +kernel
theorem dX7_pointsOf_69 : decode cX7_pointsOf 69 = .ok (.if_icmp .ne 7, 3) := by decide +kernel
theorem dX7_pointsOf_72 : decode cX7_pointsOf 72 = .ok (.iconst 2, 1) := by decide +kernel
theorem dX7_pointsOf_73 : decode cX7_pointsOf 73 = .ok (.goto 4, 3) := by decide +kernel
theorem dX7_pointsOf_76 : decode cX7_pointsOf 76 = .ok (.iconst 0, 1) := by decide +kernel
theorem dX7_pointsOf_77 : decode cX7_pointsOf 77 = .ok (.iadd, 1) := by decide +kernel
theorem dX7_pointsOf_78 : decode cX7_pointsOf 78 = .ok (.istore_n 3, 1) := by decide +kernel
theorem dX7_pointsOf_79 : decode cX7_pointsOf 79 = .ok (.iload_n 3, 1) := by decide +kernel
theorem dX7_pointsOf_80 : decode cX7_pointsOf 80 = .ok (.aload_n 0, 1) := by decide +kernel
theorem dX7_pointsOf_81 : decode cX7_pointsOf 81 = .ok (.getfield 7, 3) := by decide +kernel
theorem dX7_pointsOf_84 : decode cX7_pointsOf 84 = .ok (.aload_n 0, 1) := by decide +kernel
theorem dX7_pointsOf_85 : decode cX7_pointsOf 85 = .ok (.getfield 26, 3) := by decide +kernel
theorem dX7_pointsOf_88 : decode cX7_pointsOf 88 = .ok (.iload_n 1, 1) := by decide +kernel
theorem dX7_pointsOf_89 : decode cX7_pointsOf 89 = .ok (.iaload, 1) := by decide +kernel
theorem dX7_pointsOf_90 : decode cX7_pointsOf 90 = .ok (.baload, 1) := by decide +kernel
theorem dX7_pointsOf_91 : decode cX7_pointsOf 91 = .ok (.ifCond .eq 7, 3) := by decide +kernel
theorem dX7_pointsOf_94 : decode cX7_pointsOf 94 = .ok (.iconst 1, 1) := by decide +kernel
theorem dX7_pointsOf_95 : decode cX7_pointsOf 95 = .ok (.goto 4, 3) := by decide +kernel
theorem dX7_pointsOf_98 : decode cX7_pointsOf 98 = .ok (.iconst 0, 1) := by decide +kernel
theorem dX7_pointsOf_99 : decode cX7_pointsOf 99 = .ok (.iadd, 1) := by decide +kernel
theorem dX7_pointsOf_100 : decode cX7_pointsOf 100 = .ok (.istore_n 3, 1) := by decide +kernel
theorem dX7_pointsOf_101 : decode cX7_pointsOf 101 = .ok (.iload_n 3, 1) := by decide +kernel
theorem dX7_pointsOf_102 : decode cX7_pointsOf 102 = .ok (.aload_n 0, 1) := by decide +kernel
theorem dX7_pointsOf_103 : decode cX7_pointsOf 103 = .ok (.iload_n 1, 1) := by decide +kernel
theorem dX7_pointsOf_104 : decode cX7_pointsOf 104 = .ok (.invokevirtual 201, 3) := by decide +kernel
theorem dX7_pointsOf_107 : decode cX7_pointsOf 107 = .ok (.ifCond .eq 7, 3) := by decide +kernel
theorem dX7_pointsOf_110 : decode cX7_pointsOf 110 = .ok (.iconst 1, 1) := by decide +kernel
theorem dX7_pointsOf_111 : decode cX7_pointsOf 111 = .ok (.goto 4, 3) := by decide +kernel
theorem dX7_pointsOf_114 : decode cX7_pointsOf 114 = .ok (.iconst 0, 1) := by decide +kernel
theorem dX7_pointsOf_115 : decode cX7_pointsOf 115 = .ok (.iadd, 1) := by decide +kernel
theorem dX7_pointsOf_116 : decode cX7_pointsOf 116 = .ok (.istore_n 3, 1) := by decide +kernel
theorem dX7_pointsOf_117 : decode cX7_pointsOf 117 = .ok (.aload_n 0, 1) := by decide +kernel
theorem dX7_pointsOf_118 : decode cX7_pointsOf 118 = .ok (.iload_n 1, 1) := by decide +kernel
theorem dX7_pointsOf_119 : decode cX7_pointsOf 119 = .ok (.invokevirtual 204, 3) := by decide +kernel
theorem dX7_pointsOf_122 : decode cX7_pointsOf 122 = .ok (.istore 4, 2) := by decide +kernel
theorem dX7_pointsOf_124 : decode cX7_pointsOf 124 = .ok (.iload_n 3, 1) := by decide +kernel
theorem dX7_pointsOf_125 : decode cX7_pointsOf 125 = .ok (.iload 4, 2) := by decide +kernel
theorem dX7_pointsOf_127 : decode cX7_pointsOf 127 = .ok (.iconst 2, 1) := by decide +kernel
theorem dX7_pointsOf_128 : decode cX7_pointsOf 128 = .ok (.if_icmp .ge 8, 3) := by decide +kernel
theorem dX7_pointsOf_131 : decode cX7_pointsOf 131 = .ok (.iload 4, 2) := by decide +kernel
theorem dX7_pointsOf_133 : decode cX7_pointsOf 133 = .ok (.goto 4, 3) := by decide +kernel
theorem dX7_pointsOf_136 : decode cX7_pointsOf 136 = .ok (.iconst 2, 1) := by decide +kernel
theorem dX7_pointsOf_137 : decode cX7_pointsOf 137 = .ok (.iadd, 1) := by decide +kernel
theorem dX7_pointsOf_138 : decode cX7_pointsOf 138 = .ok (.ireturn, 1) := by decide +kernel
theorem dX7_riskOf_0 : decode cX7_riskOf 0 = .ok (.aload_n 0, 1) := by decide +kernel
theorem dX7_riskOf_1 : decode cX7_riskOf 1 = .ok (.iload_n 1, 1) := by decide +kernel
theorem dX7_riskOf_2 : decode cX7_riskOf 2 = .ok (.invokevirtual 207, 3) := by decide +kernel
theorem dX7_riskOf_5 : decode cX7_riskOf 5 = .ok (.istore_n 2, 1) := by decide +kernel
theorem dX7_riskOf_6 : decode cX7_riskOf 6 = .ok (.iload_n 2, 1) := by decide +kernel
theorem dX7_riskOf_7 : decode cX7_riskOf 7 = .ok (.iconst 5, 1) := by decide +kernel
theorem dX7_riskOf_8 : decode cX7_riskOf 8 = .ok (.if_icmp .lt 7, 3) := by decide +kernel
theorem dX7_riskOf_11 : decode cX7_riskOf 11 = .ok (.iconst 2, 1) := by decide +kernel
theorem dX7_riskOf_12 : decode cX7_riskOf 12 = .ok (.goto 26, 3) := by decide +kernel
theorem dX7_riskOf_15 : decode cX7_riskOf 15 = .ok (.iload_n 2, 1) := by decide +kernel
theorem dX7_riskOf_16 : decode cX7_riskOf 16 = .ok (.ifCond .ne 21, 3) := by decide +kernel
theorem dX7_riskOf_19 : decode cX7_riskOf 19 = .ok (.aload_n 0, 1) := by decide +kernel
theorem dX7_riskOf_20 : decode cX7_riskOf 20 = .ok (.aload_n 0, 1) := by decide +kernel
theorem dX7_riskOf_21 : decode cX7_riskOf 21 = .ok (.getfield 23, 3) := by decide +kernel
theorem dX7_riskOf_24 : decode cX7_riskOf 24 = .ok (.iload_n 1, 1) := by decide +kernel
theorem dX7_riskOf_25 : decode cX7_riskOf 25 = .ok (.iaload, 1) := by decide +kernel
theorem dX7_riskOf_26 : decode cX7_riskOf 26 = .ok (.invokevirtual 195, 3) := by decide +kernel
theorem dX7_riskOf_29 : decode cX7_riskOf 29 = .ok (.iconst 1, 1) := by decide +kernel
theorem dX7_riskOf_30 : decode cX7_riskOf 30 = .ok (.if_icmp .ne 7, 3) := by decide +kernel
theorem dX7_riskOf_33 : decode cX7_riskOf 33 = .ok (.iconst 0, 1) := by decide +kernel
theorem dX7_riskOf_34 : decode cX7_riskOf 34 = .ok (.goto 4, 3) := by decide +kernel
theorem dX7_riskOf_37 : decode cX7_riskOf 37 = .ok (.iconst 1, 1) := by decide +kernel
theorem dX7_riskOf_38 : decode cX7_riskOf 38 = .ok (.ireturn, 1) := by decide +kernel
theorem dX7_priorityOf_0 : decode cX7_priorityOf 0 = .ok (.aload_n 0, 1) := by decide +kernel
theorem dX7_priorityOf_1 : decode cX7_priorityOf 1 = .ok (.getfield 38, 3) := by decide +kernel
theorem dX7_priorityOf_4 : decode cX7_priorityOf 4 = .ok (.iload_n 1, 1) := by decide +kernel
theorem dX7_priorityOf_5 : decode cX7_priorityOf 5 = .ok (.iaload, 1) := by decide +kernel
theorem dX7_priorityOf_6 : decode cX7_priorityOf 6 = .ok (.iconst (-1), 1) := by decide +kernel
theorem dX7_priorityOf_7 : decode cX7_priorityOf 7 = .ok (.if_icmp .ne 5, 3) := by decide +kernel
theorem dX7_priorityOf_10 : decode cX7_priorityOf 10 = .ok (.iconst 2, 1) := by decide +kernel
theorem dX7_priorityOf_11 : decode cX7_priorityOf 11 = .ok (.ireturn, 1) := by decide +kernel
theorem dX7_priorityOf_12 : decode cX7_priorityOf 12 = .ok (.aload_n 0, 1) := by decide +kernel
theorem dX7_priorityOf_13 : decode cX7_priorityOf 13 = .ok (.getfield 142, 3) := by decide +kernel
theorem dX7_priorityOf_16 : decode cX7_priorityOf 16 = .ok (.aload_n 0, 1) := by decide +kernel
theorem dX7_priorityOf_17 : decode cX7_priorityOf 17 = .ok (.getfield 92, 3) := by decide +kernel
theorem dX7_priorityOf_20 : decode cX7_priorityOf 20 = .ok (.aload_n 0, 1) := by decide +kernel
theorem dX7_priorityOf_21 : decode cX7_priorityOf 21 = .ok (.getfield 38, 3) := by decide +kernel
theorem dX7_priorityOf_24 : decode cX7_priorityOf 24 = .ok (.iload_n 1, 1) := by decide +kernel
theorem dX7_priorityOf_25 : decode cX7_priorityOf 25 = .ok (.iaload, 1) := by decide +kernel
theorem dX7_priorityOf_26 : decode cX7_priorityOf 26 = .ok (.iaload, 1) := by decide +kernel
theorem dX7_priorityOf_27 : decode cX7_priorityOf 27 = .ok (.isub, 1) := by decide +kernel
theorem dX7_priorityOf_28 : decode cX7_priorityOf 28 = .ok (.istore_n 2, 1) := by decide +kernel
theorem dX7_priorityOf_29 : decode cX7_priorityOf 29 = .ok (.aload_n 0, 1) := by decide +kernel
theorem dX7_priorityOf_30 : decode cX7_priorityOf 30 = .ok (.iload_n 1, 1) := by decide +kernel
theorem dX7_priorityOf_31 : decode cX7_priorityOf 31 = .ok (.invokevirtual 210, 3) := by decide +kernel
theorem dX7_priorityOf_34 : decode cX7_priorityOf 34 = .ok (.istore_n 3, 1) := by decide +kernel
theorem dX7_priorityOf_35 : decode cX7_priorityOf 35 = .ok (.iload_n 3, 1) := by decide +kernel
theorem dX7_priorityOf_36 : decode cX7_priorityOf 36 = .ok (.iconst 2, 1) := by decide +kernel
theorem dX7_priorityOf_37 : decode cX7_priorityOf 37 = .ok (.if_icmp .ne 9, 3) := by decide +kernel
theorem dX7_priorityOf_40 : decode cX7_priorityOf 40 = .ok (.sipush 150, 3) := by decide +kernel
theorem dX7_priorityOf_43 : decode cX7_priorityOf 43 = .ok (.goto 17, 3) := by decide +kernel
theorem dX7_priorityOf_46 : decode cX7_priorityOf 46 = .ok (.iload_n 3, 1) := by decide +kernel
theorem dX7_priorityOf_47 : decode cX7_priorityOf 47 = .ok (.iconst 1, 1) := by decide +kernel
theorem dX7_priorityOf_48 : decode cX7_priorityOf 48 = .ok (.if_icmp .ne 9, 3) := by decide +kernel
theorem dX7_priorityOf_51 : decode cX7_priorityOf 51 = .ok (.sipush 300, 3) := by decide +kernel
theorem dX7_priorityOf_54 : decode cX7_priorityOf 54 = .ok (.goto 6, 3) := by decide +kernel
theorem dX7_priorityOf_57 : decode cX7_priorityOf 57 = .ok (.sipush 720, 3) := by decide +kernel
theorem dX7_priorityOf_60 : decode cX7_priorityOf 60 = .ok (.istore 4, 2) := by decide +kernel
theorem dX7_priorityOf_62 : decode cX7_priorityOf 62 = .ok (.iload_n 3, 1) := by decide +kernel
theorem dX7_priorityOf_63 : decode cX7_priorityOf 63 = .ok (.iconst 2, 1) := by decide +kernel
theorem dX7_priorityOf_64 : decode cX7_priorityOf 64 = .ok (.if_icmp .ne 9, 3) := by decide +kernel
theorem dX7_priorityOf_67 : decode cX7_priorityOf 67 = .ok (.sipush 180, 3) := by decide +kernel
theorem dX7_priorityOf_70 : decode cX7_priorityOf 70 = .ok (.goto 17, 3) := by decide +kernel
theorem dX7_priorityOf_73 : decode cX7_priorityOf 73 = .ok (.iload_n 3, 1) := by decide +kernel
theorem dX7_priorityOf_74 : decode cX7_priorityOf 74 = .ok (.iconst 1, 1) := by decide +kernel
theorem dX7_priorityOf_75 : decode cX7_priorityOf 75 = .ok (.if_icmp .ne 9, 3) := by decide +kernel
theorem dX7_priorityOf_78 : decode cX7_priorityOf 78 = .ok (.sipush 360, 3) := by decide +kernel
theorem dX7_priorityOf_81 : decode cX7_priorityOf 81 = .ok (.goto 6, 3) := by decide +kernel
theorem dX7_priorityOf_84 : decode cX7_priorityOf 84 = .ok (.sipush 1080, 3) := by decide +kernel
theorem dX7_priorityOf_87 : decode cX7_priorityOf 87 = .ok (.istore 5, 2) := by decide +kernel
theorem dX7_priorityOf_89 : decode cX7_priorityOf 89 = .ok (.iload_n 2, 1) := by decide +kernel
theorem dX7_priorityOf_90 : decode cX7_priorityOf 90 = .ok (.iload 5, 2) := by decide +kernel
theorem dX7_priorityOf_92 : decode cX7_priorityOf 92 = .ok (.if_icmp .le 7, 3) := by decide +kernel
theorem dX7_priorityOf_95 : decode cX7_priorityOf 95 = .ok (.iconst 2, 1) := by decide +kernel
theorem dX7_priorityOf_96 : decode cX7_priorityOf 96 = .ok (.goto 14, 3) := by decide +kernel
theorem dX7_priorityOf_99 : decode cX7_priorityOf 99 = .ok (.iload_n 2, 1) := by decide +kernel
theorem dX7_priorityOf_100 : decode cX7_priorityOf 100 = .ok (.iload 4, 2) := by decide +kernel
theorem dX7_priorityOf_102 : decode cX7_priorityOf 102 = .ok (.if_icmp .lt 7, 3) := by decide +kernel
theorem dX7_priorityOf_105 : decode cX7_priorityOf 105 = .ok (.iconst 1, 1) := by decide +kernel
theorem dX7_priorityOf_106 : decode cX7_priorityOf 106 = .ok (.goto 4, 3) := by decide +kernel
theorem dX7_priorityOf_109 : decode cX7_priorityOf 109 = .ok (.iconst 0, 1) := by decide +kernel
theorem dX7_priorityOf_110 : decode cX7_priorityOf 110 = .ok (.ireturn, 1) := by decide +kernel
theorem dX7_isBanned_0 : decode cX7_isBanned 0 = .ok (.aload_n 0, 1) := by decide +kernel
theorem dX7_isBanned_1 : decode cX7_isBanned 1 = .ok (.getfield 142, 3) := by decide +kernel
theorem dX7_isBanned_4 : decode cX7_isBanned 4 = .ok (.aload_n 0, 1) := by decide +kernel
theorem dX7_isBanned_5 : decode cX7_isBanned 5 = .ok (.getfield 50, 3) := by decide +kernel
theorem dX7_isBanned_8 : decode cX7_isBanned 8 = .ok (.iload_n 1, 1) := by decide +kernel
theorem dX7_isBanned_9 : decode cX7_isBanned 9 = .ok (.iaload, 1) := by decide +kernel
theorem dX7_isBanned_10 : decode cX7_isBanned 10 = .ok (.if_icmp .gt 7, 3) := by decide +kernel
theorem dX7_isBanned_13 : decode cX7_isBanned 13 = .ok (.iconst 1, 1) := by decide +kernel
theorem dX7_isBanned_14 : decode cX7_isBanned 14 = .ok (.goto 4, 3) := by decide +kernel
theorem dX7_isBanned_17 : decode cX7_isBanned 17 = .ok (.iconst 0, 1) := by decide +kernel
theorem dX7_isBanned_18 : decode cX7_isBanned 18 = .ok (.ireturn, 1) := by decide +kernel
theorem dX7_calls_0 : decode cX7_calls 0 = .ok (.aload_n 0, 1) := by decide +kernel
theorem dX7_calls_1 : decode cX7_calls 1 = .ok (.aload_n 0, 1) := by decide +kernel
theorem dX7_calls_2 : decode cX7_calls 2 = .ok (.iload_n 1, 1) := by decide +kernel
theorem dX7_calls_3 : decode cX7_calls 3 = .ok (.invokevirtual 153, 3) := by decide +kernel
theorem dX7_calls_6 : decode cX7_calls 6 = .ok (.ifCond .eq 10, 3) := by decide +kernel
theorem dX7_calls_9 : decode cX7_calls 9 = .ok (.iload_n 2, 1) := by decide +kernel
theorem dX7_calls_10 : decode cX7_calls 10 = .ok (.invokestatic 213, 3) := by decide +kernel
theorem dX7_calls_13 : decode cX7_calls 13 = .ok (.ifCond .ne 7, 3) := by decide +kernel
theorem dX7_calls_16 : decode cX7_calls 16 = .ok (.iconst 1, 1) := by decide +kernel
theorem dX7_calls_17 : decode cX7_calls 17 = .ok (.goto 26, 3) := by decide +kernel
theorem dX7_calls_20 : decode cX7_calls 20 = .ok (.aload_n 0, 1) := by decide +kernel
theorem dX7_calls_21 : decode cX7_calls 21 = .ok (.getfield 32, 3) := by decide +kernel
theorem dX7_calls_24 : decode cX7_calls 24 = .ok (.iload_n 1, 1) := by decide +kernel
theorem dX7_calls_25 : decode cX7_calls 25 = .ok (.iaload, 1) := by decide +kernel
theorem dX7_calls_26 : decode cX7_calls 26 = .ok (.iconst (-1), 1) := by decide +kernel
theorem dX7_calls_27 : decode cX7_calls 27 = .ok (.if_icmp .ne 11, 3) := by decide +kernel
theorem dX7_calls_30 : decode cX7_calls 30 = .ok (.aload_n 0, 1) := by decide +kernel
theorem dX7_calls_31 : decode cX7_calls 31 = .ok (.iload_n 1, 1) := by decide +kernel
theorem dX7_calls_32 : decode cX7_calls 32 = .ok (.invokevirtual 216, 3) := by decide +kernel
theorem dX7_calls_35 : decode cX7_calls 35 = .ok (.ifCond .eq 7, 3) := by decide +kernel
theorem dX7_calls_38 : decode cX7_calls 38 = .ok (.iconst 2, 1) := by decide +kernel
theorem dX7_calls_39 : decode cX7_calls 39 = .ok (.goto 4, 3) := by decide +kernel
theorem dX7_calls_42 : decode cX7_calls 42 = .ok (.iconst 0, 1) := by decide +kernel
theorem dX7_calls_43 : decode cX7_calls 43 = .ok (.putfield 128, 3) := by decide +kernel
theorem dX7_calls_46 : decode cX7_calls 46 = .ok (.aload_n 0, 1) := by decide +kernel
theorem dX7_calls_47 : decode cX7_calls 47 = .ok (.getfield 128, 3) := by decide +kernel
theorem dX7_calls_50 : decode cX7_calls 50 = .ok (.ifCond .le 5, 3) := by decide +kernel
theorem dX7_calls_53 : decode cX7_calls 53 = .ok (.iconst 0, 1) := by decide +kernel
theorem dX7_calls_54 : decode cX7_calls 54 = .ok (.ireturn, 1) := by decide +kernel
theorem dX7_calls_55 : decode cX7_calls 55 = .ok (.aload_n 0, 1) := by decide +kernel
theorem dX7_calls_56 : decode cX7_calls 56 = .ok (.getfield 32, 3) := by decide +kernel
theorem dX7_calls_59 : decode cX7_calls 59 = .ok (.iload_n 1, 1) := by decide +kernel
theorem dX7_calls_60 : decode cX7_calls 60 = .ok (.iload_n 2, 1) := by decide +kernel
theorem dX7_calls_61 : decode cX7_calls 61 = .ok (.iastore, 1) := by decide +kernel
theorem dX7_calls_62 : decode cX7_calls 62 = .ok (.aload_n 0, 1) := by decide +kernel
theorem dX7_calls_63 : decode cX7_calls 63 = .ok (.getfield 35, 3) := by decide +kernel
theorem dX7_calls_66 : decode cX7_calls 66 = .ok (.iload_n 1, 1) := by decide +kernel
theorem dX7_calls_67 : decode cX7_calls 67 = .ok (.iconst (-1), 1) := by decide +kernel
theorem dX7_calls_68 : decode cX7_calls 68 = .ok (.iastore, 1) := by decide +kernel
theorem dX7_calls_69 : decode cX7_calls 69 = .ok (.aload_n 0, 1) := by decide +kernel
theorem dX7_calls_70 : decode cX7_calls 70 = .ok (.iload_n 1, 1) := by decide +kernel
theorem dX7_calls_71 : decode cX7_calls 71 = .ok (.invokevirtual 219, 3) := by decide +kernel
theorem dX7_calls_74 : decode cX7_calls 74 = .ok (.ireturn, 1) := by decide +kernel
theorem dX7_leaves_0 : decode cX7_leaves 0 = .ok (.aload_n 0, 1) := by decide +kernel
theorem dX7_leaves_1 : decode cX7_leaves 1 = .ok (.aload_n 0, 1) := by decide +kernel
theorem dX7_leaves_2 : decode cX7_leaves 2 = .ok (.iload_n 1, 1) := by decide +kernel
theorem dX7_leaves_3 : decode cX7_leaves 3 = .ok (.invokevirtual 153, 3) := by decide +kernel
theorem dX7_leaves_6 : decode cX7_leaves 6 = .ok (.ifCond .ne 7, 3) := by decide +kernel
theorem dX7_leaves_9 : decode cX7_leaves 9 = .ok (.iconst 1, 1) := by decide +kernel
theorem dX7_leaves_10 : decode cX7_leaves 10 = .ok (.goto 28, 3) := by decide +kernel
theorem dX7_leaves_13 : decode cX7_leaves 13 = .ok (.aload_n 0, 1) := by decide +kernel
theorem dX7_leaves_14 : decode cX7_leaves 14 = .ok (.getfield 32, 3) := by decide +kernel
theorem dX7_leaves_17 : decode cX7_leaves 17 = .ok (.iload_n 1, 1) := by decide +kernel
theorem dX7_leaves_18 : decode cX7_leaves 18 = .ok (.iaload, 1) := by decide +kernel
theorem dX7_leaves_19 : decode cX7_leaves 19 = .ok (.iconst (-1), 1) := by decide +kernel
theorem dX7_leaves_20 : decode cX7_leaves 20 = .ok (.if_icmp .eq 13, 3) := by decide +kernel
theorem dX7_leaves_23 : decode cX7_leaves 23 = .ok (.aload_n 0, 1) := by decide +kernel
theorem dX7_leaves_24 : decode cX7_leaves 24 = .ok (.getfield 41, 3) := by decide +kernel
theorem dX7_leaves_27 : decode cX7_leaves 27 = .ok (.iload_n 1, 1) := by decide +kernel
theorem dX7_leaves_28 : decode cX7_leaves 28 = .ok (.iaload, 1) := by decide +kernel
theorem dX7_leaves_29 : decode cX7_leaves 29 = .ok (.iconst (-1), 1) := by decide +kernel
theorem dX7_leaves_30 : decode cX7_leaves 30 = .ok (.if_icmp .eq 7, 3) := by decide +kernel
theorem dX7_leaves_33 : decode cX7_leaves 33 = .ok (.iconst 2, 1) := by decide +kernel
theorem dX7_leaves_34 : decode cX7_leaves 34 = .ok (.goto 4, 3) := by decide +kernel
theorem dX7_leaves_37 : decode cX7_leaves 37 = .ok (.iconst 0, 1) := by decide +kernel
theorem dX7_leaves_38 : decode cX7_leaves 38 = .ok (.putfield 128, 3) := by decide +kernel
theorem dX7_leaves_41 : decode cX7_leaves 41 = .ok (.aload_n 0, 1) := by decide +kernel
theorem dX7_leaves_42 : decode cX7_leaves 42 = .ok (.getfield 128, 3) := by decide +kernel
theorem dX7_leaves_45 : decode cX7_leaves 45 = .ok (.ifCond .le 5, 3) := by decide +kernel
theorem dX7_leaves_48 : decode cX7_leaves 48 = .ok (.iconst 0, 1) := by decide +kernel
theorem dX7_leaves_49 : decode cX7_leaves 49 = .ok (.ireturn, 1) := by decide +kernel
theorem dX7_leaves_50 : decode cX7_leaves 50 = .ok (.aload_n 0, 1) := by decide +kernel
theorem dX7_leaves_51 : decode cX7_leaves 51 = .ok (.getfield 35, 3) := by decide +kernel
theorem dX7_leaves_54 : decode cX7_leaves 54 = .ok (.iload_n 1, 1) := by decide +kernel
theorem dX7_leaves_55 : decode cX7_leaves 55 = .ok (.iaload, 1) := by decide +kernel
theorem dX7_leaves_56 : decode cX7_leaves 56 = .ok (.iconst (-1), 1) := by decide +kernel
theorem dX7_leaves_57 : decode cX7_leaves 57 = .ok (.if_icmp .ne 16, 3) := by decide +kernel
theorem dX7_leaves_60 : decode cX7_leaves 60 = .ok (.aload_n 0, 1) := by decide +kernel
theorem dX7_leaves_61 : decode cX7_leaves 61 = .ok (.iload_n 1, 1) := by decide +kernel
theorem dX7_leaves_62 : decode cX7_leaves 62 = .ok (.invokevirtual 219, 3) := by decide +kernel
theorem dX7_leaves_65 : decode cX7_leaves 65 = .ok (.iconst 2, 1) := by decide +kernel
theorem dX7_leaves_66 : decode cX7_leaves 66 = .ok (.if_icmp .ne 7, 3) := by decide +kernel
theorem dX7_leaves_69 : decode cX7_leaves 69 = .ok (.iconst 1, 1) := by decide +kernel
theorem dX7_leaves_70 : decode cX7_leaves 70 = .ok (.goto 4, 3) := by decide +kernel
theorem dX7_leaves_73 : decode cX7_leaves 73 = .ok (.iconst 0, 1) := by decide +kernel
theorem dX7_leaves_74 : decode cX7_leaves 74 = .ok (.istore_n 2, 1) := by decide +kernel
theorem dX7_leaves_75 : decode cX7_leaves 75 = .ok (.aload_n 0, 1) := by decide +kernel
theorem dX7_leaves_76 : decode cX7_leaves 76 = .ok (.getfield 125, 3) := by decide +kernel
theorem dX7_leaves_79 : decode cX7_leaves 79 = .ok (.aload_n 0, 1) := by decide +kernel
theorem dX7_leaves_80 : decode cX7_leaves 80 = .ok (.getfield 32, 3) := by decide +kernel
theorem dX7_leaves_83 : decode cX7_leaves 83 = .ok (.iload_n 1, 1) := by decide +kernel
theorem dX7_leaves_84 : decode cX7_leaves 84 = .ok (.iaload, 1) := by decide +kernel
theorem dX7_leaves_85 : decode cX7_leaves 85 = .ok (.dup2, 1) := by decide +kernel
theorem dX7_leaves_86 : decode cX7_leaves 86 = .ok (.iaload, 1) := by decide +kernel
theorem dX7_leaves_87 : decode cX7_leaves 87 = .ok (.iload_n 2, 1) := by decide +kernel
theorem dX7_leaves_88 : decode cX7_leaves 88 = .ok (.ifCond .eq 7, 3) := by decide +kernel
theorem dX7_leaves_91 : decode cX7_leaves 91 = .ok (.iconst 1, 1) := by decide +kernel
theorem dX7_leaves_92 : decode cX7_leaves 92 = .ok (.goto 4, 3) := by decide +kernel
theorem dX7_leaves_95 : decode cX7_leaves 95 = .ok (.iconst 0, 1) := by decide +kernel
theorem dX7_leaves_96 : decode cX7_leaves 96 = .ok (.iadd, 1) := by decide +kernel
theorem dX7_leaves_97 : decode cX7_leaves 97 = .ok (.iastore, 1) := by decide +kernel
theorem dX7_leaves_98 : decode cX7_leaves 98 = .ok (.aload_n 0, 1) := by decide +kernel
theorem dX7_leaves_99 : decode cX7_leaves 99 = .ok (.getfield 32, 3) := by decide +kernel
theorem dX7_leaves_102 : decode cX7_leaves 102 = .ok (.iload_n 1, 1) := by decide +kernel
theorem dX7_leaves_103 : decode cX7_leaves 103 = .ok (.iconst (-1), 1) := by decide +kernel
theorem dX7_leaves_104 : decode cX7_leaves 104 = .ok (.iastore, 1) := by decide +kernel
theorem dX7_leaves_105 : decode cX7_leaves 105 = .ok (.aload_n 0, 1) := by decide +kernel
theorem dX7_leaves_106 : decode cX7_leaves 106 = .ok (.getfield 35, 3) := by decide +kernel
theorem dX7_leaves_109 : decode cX7_leaves 109 = .ok (.iload_n 1, 1) := by decide +kernel
theorem dX7_leaves_110 : decode cX7_leaves 110 = .ok (.iconst (-1), 1) := by decide +kernel
theorem dX7_leaves_111 : decode cX7_leaves 111 = .ok (.iastore, 1) := by decide +kernel
theorem dX7_leaves_112 : decode cX7_leaves 112 = .ok (.iload_n 2, 1) := by decide +kernel
theorem dX7_leaves_113 : decode cX7_leaves 113 = .ok (.ireturn, 1) := by decide +kernel
theorem dX7_hasOff_0 : decode cX7_hasOff 0 = .ok (.iconst 0, 1) := by decide +kernel
theorem dX7_hasOff_1 : decode cX7_hasOff 1 = .ok (.istore_n 2, 1) := by decide +kernel
theorem dX7_hasOff_2 : decode cX7_hasOff 2 = .ok (.iconst 0, 1) := by decide +kernel
theorem dX7_hasOff_3 : decode cX7_hasOff 3 = .ok (.istore_n 3, 1) := by decide +kernel
theorem dX7_hasOff_4 : decode cX7_hasOff 4 = .ok (.iload_n 3, 1) := by decide +kernel
theorem dX7_hasOff_5 : decode cX7_hasOff 5 = .ok (.aload_n 0, 1) := by decide +kernel
theorem dX7_hasOff_6 : decode cX7_hasOff 6 = .ok (.getfield 139, 3) := by decide +kernel
theorem dX7_hasOff_9 : decode cX7_hasOff 9 = .ok (.if_icmp .ge 65, 3) := by decide +kernel
theorem dX7_hasOff_12 : decode cX7_hasOff 12 = .ok (.iconst 0, 1) := by decide +kernel
theorem dX7_hasOff_13 : decode cX7_hasOff 13 = .ok (.istore 4, 2) := by decide +kernel
theorem dX7_hasOff_15 : decode cX7_hasOff 15 = .ok (.iload 4, 2) := by decide +kernel
theorem dX7_hasOff_17 : decode cX7_hasOff 17 = .ok (.aload_n 0, 1) := by decide +kernel
theorem dX7_hasOff_18 : decode cX7_hasOff 18 = .ok (.getfield 101, 3) := by decide +kernel
theorem dX7_hasOff_21 : decode cX7_hasOff 21 = .ok (.iload_n 3, 1) := by decide +kernel
theorem dX7_hasOff_22 : decode cX7_hasOff 22 = .ok (.iaload, 1) := by decide +kernel
theorem dX7_hasOff_23 : decode cX7_hasOff 23 = .ok (.if_icmp .ge 45, 3) := by decide +kernel
theorem dX7_hasOff_26 : decode cX7_hasOff 26 = .ok (.iload_n 2, 1) := by decide +kernel
theorem dX7_hasOff_27 : decode cX7_hasOff 27 = .ok (.ifCond .ne 29, 3) := by decide +kernel
theorem dX7_hasOff_30 : decode cX7_hasOff 30 = .ok (.aload_n 0, 1) := by decide +kernel
theorem dX7_hasOff_31 : decode cX7_hasOff 31 = .ok (.getfield 86, 3) := by decide +kernel
theorem dX7_hasOff_34 : decode cX7_hasOff 34 = .ok (.iload_n 3, 1) := by decide +kernel
theorem dX7_hasOff_35 : decode cX7_hasOff 35 = .ok (.iaload, 1) := by decide +kernel
theorem dX7_hasOff_36 : decode cX7_hasOff 36 = .ok (.iload_n 1, 1) := by decide +kernel
theorem dX7_hasOff_37 : decode cX7_hasOff 37 = .ok (.if_icmp .ne 23, 3) := by decide +kernel
theorem dX7_hasOff_40 : decode cX7_hasOff 40 = .ok (.aload_n 0, 1) := by decide +kernel
theorem dX7_hasOff_41 : decode cX7_hasOff 41 = .ok (.getfield 107, 3) := by decide +kernel
theorem dX7_hasOff_44 : decode cX7_hasOff 44 = .ok (.bipush 12, 2) := by decide +kernel
theorem dX7_hasOff_46 : decode cX7_hasOff 46 = .ok (.iload_n 3, 1) := by decide +kernel
theorem dX7_hasOff_47 : decode cX7_hasOff 47 = .ok (.imul, 1) := by decide +kernel
theorem dX7_hasOff_48 : decode cX7_hasOff 48 = .ok (.iload 4, 2) := by decide +kernel
theorem dX7_hasOff_50 : decode cX7_hasOff 50 = .ok (.iadd, 1) := by decide +kernel
theorem dX7_hasOff_51 : decode cX7_hasOff 51 = .ok (.iaload, 1) := by decide +kernel
theorem dX7_hasOff_52 : decode cX7_hasOff 52 = .ok (.iconst 2, 1) := by decide +kernel
theorem dX7_hasOff_53 : decode cX7_hasOff 53 = .ok (.if_icmp .ne 7, 3) := by decide +kernel
theorem dX7_hasOff_56 : decode cX7_hasOff 56 = .ok (.iconst 1, 1) := by decide +kernel
theorem dX7_hasOff_57 : decode cX7_hasOff 57 = .ok (.goto 4, 3) := by decide +kernel
theorem dX7_hasOff_60 : decode cX7_hasOff 60 = .ok (.iconst 0, 1) := by decide +kernel
theorem dX7_hasOff_61 : decode cX7_hasOff 61 = .ok (.istore_n 2, 1) := by decide +kernel
theorem dX7_hasOff_62 : decode cX7_hasOff 62 = .ok (.iinc 4 1, 3) := by decide +kernel
theorem dX7_hasOff_65 : decode cX7_hasOff 65 = .ok (.goto (-50), 3) := by decide +kernel
theorem dX7_hasOff_68 : decode cX7_hasOff 68 = .ok (.iinc 3 1, 3) := by decide +kernel
theorem dX7_hasOff_71 : decode cX7_hasOff 71 = .ok (.goto (-67), 3) := by decide +kernel
theorem dX7_hasOff_74 : decode cX7_hasOff 74 = .ok (.iload_n 2, 1) := by decide +kernel
theorem dX7_hasOff_75 : decode cX7_hasOff 75 = .ok (.ireturn, 1) := by decide +kernel
theorem dX7_visit_0 : decode cX7_visit 0 = .ok (.aload_n 0, 1) := by decide +kernel
theorem dX7_visit_1 : decode cX7_visit 1 = .ok (.aload_n 0, 1) := by decide +kernel
theorem dX7_visit_2 : decode cX7_visit 2 = .ok (.iload_n 1, 1) := by decide +kernel
theorem dX7_visit_3 : decode cX7_visit 3 = .ok (.invokevirtual 153, 3) := by decide +kernel
theorem dX7_visit_6 : decode cX7_visit 6 = .ok (.ifCond .ne 7, 3) := by decide +kernel
theorem dX7_visit_9 : decode cX7_visit 9 = .ok (.iconst 1, 1) := by decide +kernel
theorem dX7_visit_10 : decode cX7_visit 10 = .ok (.goto 37, 3) := by decide +kernel
theorem dX7_visit_13 : decode cX7_visit 13 = .ok (.aload_n 0, 1) := by decide +kernel
theorem dX7_visit_14 : decode cX7_visit 14 = .ok (.getfield 32, 3) := by decide +kernel
theorem dX7_visit_17 : decode cX7_visit 17 = .ok (.iload_n 1, 1) := by decide +kernel
theorem dX7_visit_18 : decode cX7_visit 18 = .ok (.iaload, 1) := by decide +kernel
theorem dX7_visit_19 : decode cX7_visit 19 = .ok (.iconst (-1), 1) := by decide +kernel
theorem dX7_visit_20 : decode cX7_visit 20 = .ok (.if_icmp .eq 22, 3) := by decide +kernel
theorem dX7_visit_23 : decode cX7_visit 23 = .ok (.aload_n 0, 1) := by decide +kernel
theorem dX7_visit_24 : decode cX7_visit 24 = .ok (.getfield 35, 3) := by decide +kernel
theorem dX7_visit_27 : decode cX7_visit 27 = .ok (.iload_n 1, 1) := by decide +kernel
theorem dX7_visit_28 : decode cX7_visit 28 = .ok (.iaload, 1) := by decide +kernel
theorem dX7_visit_29 : decode cX7_visit 29 = .ok (.iconst (-1), 1) := by decide +kernel
theorem dX7_visit_30 : decode cX7_visit 30 = .ok (.if_icmp .ne 12, 3) := by decide +kernel
theorem dX7_visit_33 : decode cX7_visit 33 = .ok (.aload_n 0, 1) := by decide +kernel
theorem dX7_visit_34 : decode cX7_visit 34 = .ok (.getfield 139, 3) := by decide +kernel
theorem dX7_visit_37 : decode cX7_visit 37 = .ok (.bipush 60, 2) := by decide +kernel
theorem dX7_visit_39 : decode cX7_visit 39 = .ok (.if_icmp .ne 7, 3) := by decide +kernel
theorem dX7_visit_42 : decode cX7_visit 42 = .ok (.iconst 2, 1) := by decide +kernel
theorem dX7_visit_43 : decode cX7_visit 43 = .ok (.goto 4, 3) := by decide +kernel
theorem dX7_visit_46 : decode cX7_visit 46 = .ok (.iconst 0, 1) := by decide +kernel
theorem dX7_visit_47 : decode cX7_visit 47 = .ok (.putfield 128, 3) := by decide +kernel
theorem dX7_visit_50 : decode cX7_visit 50 = .ok (.aload_n 0, 1) := by decide +kernel
theorem dX7_visit_51 : decode cX7_visit 51 = .ok (.getfield 128, 3) := by decide +kernel
theorem dX7_visit_54 : decode cX7_visit 54 = .ok (.ifCond .le 5, 3) := by decide +kernel
theorem dX7_visit_57 : decode cX7_visit 57 = .ok (.iconst 0, 1) := by decide +kernel
theorem dX7_visit_58 : decode cX7_visit 58 = .ok (.ireturn, 1) := by decide +kernel
theorem dX7_visit_59 : decode cX7_visit 59 = .ok (.aload_n 0, 1) := by decide +kernel
theorem dX7_visit_60 : decode cX7_visit 60 = .ok (.iload_n 1, 1) := by decide +kernel
theorem dX7_visit_61 : decode cX7_visit 61 = .ok (.invokevirtual 210, 3) := by decide +kernel
theorem dX7_visit_64 : decode cX7_visit 64 = .ok (.iconst 2, 1) := by decide +kernel
theorem dX7_visit_65 : decode cX7_visit 65 = .ok (.if_icmp .eq 20, 3) := by decide +kernel
theorem dX7_visit_68 : decode cX7_visit 68 = .ok (.aload_n 0, 1) := by decide +kernel
theorem dX7_visit_69 : decode cX7_visit 69 = .ok (.iload_n 1, 1) := by decide +kernel
theorem dX7_visit_70 : decode cX7_visit 70 = .ok (.invokevirtual 198, 3) := by decide +kernel
theorem dX7_visit_73 : decode cX7_visit 73 = .ok (.ifCond .eq 16, 3) := by decide +kernel
theorem dX7_visit_76 : decode cX7_visit 76 = .ok (.aload_n 0, 1) := by decide +kernel
theorem dX7_visit_77 : decode cX7_visit 77 = .ok (.getfield 20, 3) := by decide +kernel
theorem dX7_visit_80 : decode cX7_visit 80 = .ok (.iload_n 1, 1) := by decide +kernel
theorem dX7_visit_81 : decode cX7_visit 81 = .ok (.iaload, 1) := by decide +kernel
theorem dX7_visit_82 : decode cX7_visit 82 = .ok (.ifCond .eq 7, 3) := by decide +kernel
theorem dX7_visit_85 : decode cX7_visit 85 = .ok (.iconst 1, 1) := by decide +kernel
theorem dX7_visit_86 : decode cX7_visit 86 = .ok (.goto 4, 3) := by decide +kernel
theorem dX7_visit_89 : decode cX7_visit 89 = .ok (.iconst 0, 1) := by decide +kernel
theorem dX7_visit_90 : decode cX7_visit 90 = .ok (.istore_n 2, 1) := by decide +kernel
theorem dX7_visit_91 : decode cX7_visit 91 = .ok (.aload_n 0, 1) := by decide +kernel
theorem dX7_visit_92 : decode cX7_visit 92 = .ok (.iload_n 1, 1) := by decide +kernel
theorem dX7_visit_93 : decode cX7_visit 93 = .ok (.invokevirtual 222, 3) := by decide +kernel
theorem dX7_visit_96 : decode cX7_visit 96 = .ok (.ifCond .ne 11, 3) := by decide +kernel
theorem dX7_visit_99 : decode cX7_visit 99 = .ok (.aload_n 0, 1) := by decide +kernel
theorem dX7_visit_100 : decode cX7_visit 100 = .ok (.iload_n 1, 1) := by decide +kernel
theorem dX7_visit_101 : decode cX7_visit 101 = .ok (.invokevirtual 225, 3) := by decide +kernel
theorem dX7_visit_104 : decode cX7_visit 104 = .ok (.ifCond .eq 7, 3) := by decide +kernel
theorem dX7_visit_107 : decode cX7_visit 107 = .ok (.iconst 1, 1) := by decide +kernel
theorem dX7_visit_108 : decode cX7_visit 108 = .ok (.goto 4, 3) := by decide +kernel
theorem dX7_visit_111 : decode cX7_visit 111 = .ok (.iconst 0, 1) := by decide +kernel
theorem dX7_visit_112 : decode cX7_visit 112 = .ok (.istore_n 3, 1) := by decide +kernel
theorem dX7_visit_113 : decode cX7_visit 113 = .ok (.aload_n 0, 1) := by decide +kernel
theorem dX7_visit_114 : decode cX7_visit 114 = .ok (.getfield 95, 3) := by decide +kernel
theorem dX7_visit_117 : decode cX7_visit 117 = .ok (.aload_n 0, 1) := by decide +kernel
theorem dX7_visit_118 : decode cX7_visit 118 = .ok (.getfield 139, 3) := by decide +kernel
theorem dX7_visit_121 : decode cX7_visit 121 = .ok (.iload_n 2, 1) := by decide +kernel
theorem dX7_visit_122 : decode cX7_visit 122 = .ok (.ifCond .eq 7, 3) := by decide +kernel
theorem dX7_visit_125 : decode cX7_visit 125 = .ok (.iconst 2, 1) := by decide +kernel
theorem dX7_visit_126 : decode cX7_visit 126 = .ok (.goto 12, 3) := by decide +kernel
theorem dX7_visit_129 : decode cX7_visit 129 = .ok (.iload_n 3, 1) := by decide +kernel
theorem dX7_visit_130 : decode cX7_visit 130 = .ok (.ifCond .eq 7, 3) := by decide +kernel
theorem dX7_visit_133 : decode cX7_visit 133 = .ok (.iconst 1, 1) := by decide +kernel
theorem dX7_visit_134 : decode cX7_visit 134 = .ok (.goto 4, 3) := by decide +kernel
theorem dX7_visit_137 : decode cX7_visit 137 = .ok (.iconst 0, 1) := by decide +kernel
theorem dX7_visit_138 : decode cX7_visit 138 = .ok (.iastore, 1) := by decide +kernel
theorem dX7_visit_139 : decode cX7_visit 139 = .ok (.aload_n 0, 1) := by decide +kernel
theorem dX7_visit_140 : decode cX7_visit 140 = .ok (.getfield 86, 3) := by decide +kernel
theorem dX7_visit_143 : decode cX7_visit 143 = .ok (.aload_n 0, 1) := by decide +kernel
theorem dX7_visit_144 : decode cX7_visit 144 = .ok (.getfield 139, 3) := by decide +kernel
theorem dX7_visit_147 : decode cX7_visit 147 = .ok (.iload_n 1, 1) := by decide +kernel
theorem dX7_visit_148 : decode cX7_visit 148 = .ok (.iastore, 1) := by decide +kernel
theorem dX7_visit_149 : decode cX7_visit 149 = .ok (.aload_n 0, 1) := by decide +kernel
theorem dX7_visit_150 : decode cX7_visit 150 = .ok (.getfield 89, 3) := by decide +kernel
theorem dX7_visit_153 : decode cX7_visit 153 = .ok (.aload_n 0, 1) := by decide +kernel
theorem dX7_visit_154 : decode cX7_visit 154 = .ok (.getfield 139, 3) := by decide +kernel
theorem dX7_visit_157 : decode cX7_visit 157 = .ok (.aload_n 0, 1) := by decide +kernel
theorem dX7_visit_158 : decode cX7_visit 158 = .ok (.getfield 32, 3) := by decide +kernel
theorem dX7_visit_161 : decode cX7_visit 161 = .ok (.iload_n 1, 1) := by decide +kernel
theorem dX7_visit_162 : decode cX7_visit 162 = .ok (.iaload, 1) := by decide +kernel
theorem dX7_visit_163 : decode cX7_visit 163 = .ok (.iastore, 1) := by decide +kernel
theorem dX7_visit_164 : decode cX7_visit 164 = .ok (.aload_n 0, 1) := by decide +kernel
theorem dX7_visit_165 : decode cX7_visit 165 = .ok (.getfield 92, 3) := by decide +kernel
theorem dX7_visit_168 : decode cX7_visit 168 = .ok (.aload_n 0, 1) := by decide +kernel
theorem dX7_visit_169 : decode cX7_visit 169 = .ok (.getfield 139, 3) := by decide +kernel
theorem dX7_visit_172 : decode cX7_visit 172 = .ok (.aload_n 0, 1) := by decide +kernel
theorem dX7_visit_173 : decode cX7_visit 173 = .ok (.getfield 142, 3) := by decide +kernel
theorem dX7_visit_176 : decode cX7_visit 176 = .ok (.iastore, 1) := by decide +kernel
theorem dX7_visit_177 : decode cX7_visit 177 = .ok (.aload_n 0, 1) := by decide +kernel
theorem dX7_visit_178 : decode cX7_visit 178 = .ok (.getfield 98, 3) := by decide +kernel
theorem dX7_visit_181 : decode cX7_visit 181 = .ok (.aload_n 0, 1) := by decide +kernel
theorem dX7_visit_182 : decode cX7_visit 182 = .ok (.getfield 139, 3) := by decide +kernel
theorem dX7_visit_185 : decode cX7_visit 185 = .ok (.aload_n 0, 1) := by decide +kernel
theorem dX7_visit_186 : decode cX7_visit 186 = .ok (.getfield 23, 3) := by decide +kernel
theorem dX7_visit_189 : decode cX7_visit 189 = .ok (.iload_n 1, 1) := by decide +kernel
theorem dX7_visit_190 : decode cX7_visit 190 = .ok (.iaload, 1) := by decide +kernel
theorem dX7_visit_191 : decode cX7_visit 191 = .ok (.iastore, 1) := by decide +kernel
theorem dX7_visit_192 : decode cX7_visit 192 = .ok (.aload_n 0, 1) := by decide +kernel
theorem dX7_visit_193 : decode cX7_visit 193 = .ok (.getfield 110, 3) := by decide +kernel
theorem dX7_visit_196 : decode cX7_visit 196 = .ok (.aload_n 0, 1) := by decide +kernel
theorem dX7_visit_197 : decode cX7_visit 197 = .ok (.getfield 139, 3) := by decide +kernel
theorem dX7_visit_200 : decode cX7_visit 200 = .ok (.iconst (-1), 1) := by decide +kernel
theorem dX7_visit_201 : decode cX7_visit 201 = .ok (.iastore, 1) := by decide +kernel
theorem dX7_visit_202 : decode cX7_visit 202 = .ok (.aload_n 0, 1) := by decide +kernel
theorem dX7_visit_203 : decode cX7_visit 203 = .ok (.getfield 35, 3) := by decide +kernel
theorem dX7_visit_206 : decode cX7_visit 206 = .ok (.iload_n 1, 1) := by decide +kernel
theorem dX7_visit_207 : decode cX7_visit 207 = .ok (.aload_n 0, 1) := by decide +kernel
theorem dX7_visit_208 : decode cX7_visit 208 = .ok (.getfield 139, 3) := by decide +kernel
theorem dX7_visit_211 : decode cX7_visit 211 = .ok (.iastore, 1) := by decide +kernel
theorem dX7_visit_212 : decode cX7_visit 212 = .ok (.aload_n 0, 1) := by decide +kernel
theorem dX7_visit_213 : decode cX7_visit 213 = .ok (.getfield 38, 3) := by decide +kernel
theorem dX7_visit_216 : decode cX7_visit 216 = .ok (.iload_n 1, 1) := by decide +kernel
theorem dX7_visit_217 : decode cX7_visit 217 = .ok (.aload_n 0, 1) := by decide +kernel
theorem dX7_visit_218 : decode cX7_visit 218 = .ok (.getfield 139, 3) := by decide +kernel
theorem dX7_visit_221 : decode cX7_visit 221 = .ok (.iastore, 1) := by decide +kernel
theorem dX7_visit_222 : decode cX7_visit 222 = .ok (.aload_n 0, 1) := by decide +kernel
theorem dX7_visit_223 : decode cX7_visit 223 = .ok (.dup, 1) := by decide +kernel
theorem dX7_visit_224 : decode cX7_visit 224 = .ok (.getfield 139, 3) := by decide +kernel
theorem dX7_visit_227 : decode cX7_visit 227 = .ok (.iconst 1, 1) := by decide +kernel
theorem dX7_visit_228 : decode cX7_visit 228 = .ok (.iadd, 1) := by decide +kernel
theorem dX7_visit_229 : decode cX7_visit 229 = .ok (.putfield 139, 3) := by decide +kernel
theorem dX7_visit_232 : decode cX7_visit 232 = .ok (.aload_n 0, 1) := by decide +kernel
theorem dX7_visit_233 : decode cX7_visit 233 = .ok (.getfield 139, 3) := by decide +kernel
theorem dX7_visit_236 : decode cX7_visit 236 = .ok (.iconst 1, 1) := by decide +kernel
theorem dX7_visit_237 : decode cX7_visit 237 = .ok (.isub, 1) := by decide +kernel
theorem dX7_visit_238 : decode cX7_visit 238 = .ok (.ireturn, 1) := by decide +kernel
theorem dX7_isHere_0 : decode cX7_isHere 0 = .ok (.aload_n 0, 1) := by decide +kernel
theorem dX7_isHere_1 : decode cX7_isHere 1 = .ok (.getfield 35, 3) := by decide +kernel
theorem dX7_isHere_4 : decode cX7_isHere 4 = .ok (.aload_n 0, 1) := by decide +kernel
theorem dX7_isHere_5 : decode cX7_isHere 5 = .ok (.getfield 86, 3) := by decide +kernel
theorem dX7_isHere_8 : decode cX7_isHere 8 = .ok (.iload_n 1, 1) := by decide +kernel
theorem dX7_isHere_9 : decode cX7_isHere 9 = .ok (.iaload, 1) := by decide +kernel
theorem dX7_isHere_10 : decode cX7_isHere 10 = .ok (.iaload, 1) := by decide +kernel
theorem dX7_isHere_11 : decode cX7_isHere 11 = .ok (.iload_n 1, 1) := by decide +kernel
theorem dX7_isHere_12 : decode cX7_isHere 12 = .ok (.if_icmp .ne 7, 3) := by decide +kernel
theorem dX7_isHere_15 : decode cX7_isHere 15 = .ok (.iconst 1, 1) := by decide +kernel
theorem dX7_isHere_16 : decode cX7_isHere 16 = .ok (.goto 4, 3) := by decide +kernel
theorem dX7_isHere_19 : decode cX7_isHere 19 = .ok (.iconst 0, 1) := by decide +kernel
theorem dX7_isHere_20 : decode cX7_isHere 20 = .ok (.ireturn, 1) := by decide +kernel
theorem dX7_finds_0 : decode cX7_finds 0 = .ok (.aload_n 0, 1) := by decide +kernel
theorem dX7_finds_1 : decode cX7_finds 1 = .ok (.aload_n 0, 1) := by decide +kernel
theorem dX7_finds_2 : decode cX7_finds 2 = .ok (.iload_n 1, 1) := by decide +kernel
theorem dX7_finds_3 : decode cX7_finds 3 = .ok (.invokevirtual 228, 3) := by decide +kernel
theorem dX7_finds_6 : decode cX7_finds 6 = .ok (.ifCond .ne 7, 3) := by decide +kernel
theorem dX7_finds_9 : decode cX7_finds 9 = .ok (.iconst 1, 1) := by decide +kernel
theorem dX7_finds_10 : decode cX7_finds 10 = .ok (.goto 28, 3) := by decide +kernel
theorem dX7_finds_13 : decode cX7_finds 13 = .ok (.iload_n 2, 1) := by decide +kernel
theorem dX7_finds_14 : decode cX7_finds 14 = .ok (.iconst 0, 1) := by decide +kernel
theorem dX7_finds_15 : decode cX7_finds 15 = .ok (.bipush 9, 2) := by decide +kernel
theorem dX7_finds_17 : decode cX7_finds 17 = .ok (.invokestatic 135, 3) := by decide +kernel
theorem dX7_finds_20 : decode cX7_finds 20 = .ok (.ifCond .eq 17, 3) := by decide +kernel
theorem dX7_finds_23 : decode cX7_finds 23 = .ok (.iload_n 3, 1) := by decide +kernel
theorem dX7_finds_24 : decode cX7_finds 24 = .ok (.iconst 1, 1) := by decide +kernel
theorem dX7_finds_25 : decode cX7_finds 25 = .ok (.bipush 10, 2) := by decide +kernel
theorem dX7_finds_27 : decode cX7_finds 27 = .ok (.invokestatic 135, 3) := by decide +kernel
theorem dX7_finds_30 : decode cX7_finds 30 = .ok (.ifCond .eq 7, 3) := by decide +kernel
theorem dX7_finds_33 : decode cX7_finds 33 = .ok (.iconst 0, 1) := by decide +kernel
theorem dX7_finds_34 : decode cX7_finds 34 = .ok (.goto 4, 3) := by decide +kernel
theorem dX7_finds_37 : decode cX7_finds 37 = .ok (.iconst 2, 1) := by decide +kernel
theorem dX7_finds_38 : decode cX7_finds 38 = .ok (.putfield 128, 3) := by decide +kernel
theorem dX7_finds_41 : decode cX7_finds 41 = .ok (.aload_n 0, 1) := by decide +kernel
theorem dX7_finds_42 : decode cX7_finds 42 = .ok (.getfield 128, 3) := by decide +kernel
theorem dX7_finds_45 : decode cX7_finds 45 = .ok (.ifCond .ne 45, 3) := by decide +kernel
theorem dX7_finds_48 : decode cX7_finds 48 = .ok (.aload_n 0, 1) := by decide +kernel
theorem dX7_finds_49 : decode cX7_finds 49 = .ok (.aload_n 0, 1) := by decide +kernel
theorem dX7_finds_50 : decode cX7_finds 50 = .ok (.iload_n 1, 1) := by decide +kernel
theorem dX7_finds_51 : decode cX7_finds 51 = .ok (.invokevirtual 231, 3) := by decide +kernel
theorem dX7_finds_54 : decode cX7_finds 54 = .ok (.ifCond .eq 32, 3) := by decide +kernel
theorem dX7_finds_57 : decode cX7_finds 57 = .ok (.aload_n 0, 1) := by decide +kernel
theorem dX7_finds_58 : decode cX7_finds 58 = .ok (.aload_n 0, 1) := by decide +kernel
theorem dX7_finds_59 : decode cX7_finds 59 = .ok (.getfield 86, 3) := by decide +kernel
theorem dX7_finds_62 : decode cX7_finds 62 = .ok (.iload_n 1, 1) := by decide +kernel
theorem dX7_finds_63 : decode cX7_finds 63 = .ok (.iaload, 1) := by decide +kernel
theorem dX7_finds_64 : decode cX7_finds 64 = .ok (.iload_n 2, 1) := by decide +kernel
theorem dX7_finds_65 : decode cX7_finds 65 = .ok (.invokevirtual 234, 3) := by decide +kernel
theorem dX7_finds_68 : decode cX7_finds 68 = .ok (.ifCond .eq 18, 3) := by decide +kernel
theorem dX7_finds_71 : decode cX7_finds 71 = .ok (.aload_n 0, 1) := by decide +kernel
theorem dX7_finds_72 : decode cX7_finds 72 = .ok (.getfield 101, 3) := by decide +kernel
theorem dX7_finds_75 : decode cX7_finds 75 = .ok (.iload_n 1, 1) := by decide +kernel
theorem dX7_finds_76 : decode cX7_finds 76 = .ok (.iaload, 1) := by decide +kernel
theorem dX7_finds_77 : decode cX7_finds 77 = .ok (.bipush 12, 2) := by decide +kernel
theorem dX7_finds_79 : decode cX7_finds 79 = .ok (.if_icmp .ge 7, 3) := by decide +kernel
theorem dX7_finds_82 : decode cX7_finds 82 = .ok (.iconst 0, 1) := by decide +kernel
theorem dX7_finds_83 : decode cX7_finds 83 = .ok (.goto 4, 3) := by decide +kernel
theorem dX7_finds_86 : decode cX7_finds 86 = .ok (.iconst 3, 1) := by decide +kernel
theorem dX7_finds_87 : decode cX7_finds 87 = .ok (.putfield 128, 3) := by decide +kernel
theorem dX7_finds_90 : decode cX7_finds 90 = .ok (.aload_n 0, 1) := by decide +kernel
theorem dX7_finds_91 : decode cX7_finds 91 = .ok (.getfield 128, 3) := by decide +kernel
theorem dX7_finds_94 : decode cX7_finds 94 = .ok (.ifCond .le 5, 3) := by decide +kernel
theorem dX7_finds_97 : decode cX7_finds 97 = .ok (.iconst 0, 1) := by decide +kernel
theorem dX7_finds_98 : decode cX7_finds 98 = .ok (.ireturn, 1) := by decide +kernel
theorem dX7_finds_99 : decode cX7_finds 99 = .ok (.aload_n 0, 1) := by decide +kernel
theorem dX7_finds_100 : decode cX7_finds 100 = .ok (.getfield 104, 3) := by decide +kernel
theorem dX7_finds_103 : decode cX7_finds 103 = .ok (.bipush 12, 2) := by decide +kernel
theorem dX7_finds_105 : decode cX7_finds 105 = .ok (.iload_n 1, 1) := by decide +kernel
theorem dX7_finds_106 : decode cX7_finds 106 = .ok (.imul, 1) := by decide +kernel
theorem dX7_finds_107 : decode cX7_finds 107 = .ok (.aload_n 0, 1) := by decide +kernel
theorem dX7_finds_108 : decode cX7_finds 108 = .ok (.getfield 101, 3) := by decide +kernel
theorem dX7_finds_111 : decode cX7_finds 111 = .ok (.iload_n 1, 1) := by decide +kernel
theorem dX7_finds_112 : decode cX7_finds 112 = .ok (.iaload, 1) := by decide +kernel
theorem dX7_finds_113 : decode cX7_finds 113 = .ok (.iadd, 1) := by decide +kernel
theorem dX7_finds_114 : decode cX7_finds 114 = .ok (.iload_n 3, 1) := by decide +kernel
theorem dX7_finds_115 : decode cX7_finds 115 = .ok (.iastore, 1) := by decide +kernel
theorem dX7_finds_116 : decode cX7_finds 116 = .ok (.aload_n 0, 1) := by decide +kernel
theorem dX7_finds_117 : decode cX7_finds 117 = .ok (.getfield 107, 3) := by decide +kernel
theorem dX7_finds_120 : decode cX7_finds 120 = .ok (.bipush 12, 2) := by decide +kernel
theorem dX7_finds_122 : decode cX7_finds 122 = .ok (.iload_n 1, 1) := by decide +kernel
theorem dX7_finds_123 : decode cX7_finds 123 = .ok (.imul, 1) := by decide +kernel
theorem dX7_finds_124 : decode cX7_finds 124 = .ok (.aload_n 0, 1) := by decide +kernel
theorem dX7_finds_125 : decode cX7_finds 125 = .ok (.getfield 101, 3) := by decide +kernel
theorem dX7_finds_128 : decode cX7_finds 128 = .ok (.iload_n 1, 1) := by decide +kernel
theorem dX7_finds_129 : decode cX7_finds 129 = .ok (.iaload, 1) := by decide +kernel
theorem dX7_finds_130 : decode cX7_finds 130 = .ok (.iadd, 1) := by decide +kernel
theorem dX7_finds_131 : decode cX7_finds 131 = .ok (.iconst 0, 1) := by decide +kernel
theorem dX7_finds_132 : decode cX7_finds 132 = .ok (.iastore, 1) := by decide +kernel
theorem dX7_finds_133 : decode cX7_finds 133 = .ok (.aload_n 0, 1) := by decide +kernel
theorem dX7_finds_134 : decode cX7_finds 134 = .ok (.getfield 101, 3) := by decide +kernel
theorem dX7_finds_137 : decode cX7_finds 137 = .ok (.iload_n 1, 1) := by decide +kernel
theorem dX7_finds_138 : decode cX7_finds 138 = .ok (.dup2, 1) := by decide +kernel
theorem dX7_finds_139 : decode cX7_finds 139 = .ok (.iaload, 1) := by decide +kernel
theorem dX7_finds_140 : decode cX7_finds 140 = .ok (.iconst 1, 1) := by decide +kernel
theorem dX7_finds_141 : decode cX7_finds 141 = .ok (.iadd, 1) := by decide +kernel
theorem dX7_finds_142 : decode cX7_finds 142 = .ok (.iastore, 1) := by decide +kernel
theorem dX7_finds_143 : decode cX7_finds 143 = .ok (.aload_n 0, 1) := by decide +kernel
theorem dX7_finds_144 : decode cX7_finds 144 = .ok (.getfield 95, 3) := by decide +kernel
theorem dX7_finds_147 : decode cX7_finds 147 = .ok (.iload_n 1, 1) := by decide +kernel
theorem dX7_finds_148 : decode cX7_finds 148 = .ok (.aload_n 0, 1) := by decide +kernel
theorem dX7_finds_149 : decode cX7_finds 149 = .ok (.getfield 95, 3) := by decide +kernel
theorem dX7_finds_152 : decode cX7_finds 152 = .ok (.iload_n 1, 1) := by decide +kernel
theorem dX7_finds_153 : decode cX7_finds 153 = .ok (.iaload, 1) := by decide +kernel
theorem dX7_finds_154 : decode cX7_finds 154 = .ok (.ifCond .ne 17, 3) := by decide +kernel
theorem dX7_finds_157 : decode cX7_finds 157 = .ok (.aload_n 0, 1) := by decide +kernel
theorem dX7_finds_158 : decode cX7_finds 158 = .ok (.getfield 101, 3) := by decide +kernel
theorem dX7_finds_161 : decode cX7_finds 161 = .ok (.iload_n 1, 1) := by decide +kernel
theorem dX7_finds_162 : decode cX7_finds 162 = .ok (.iaload, 1) := by decide +kernel
theorem dX7_finds_163 : decode cX7_finds 163 = .ok (.iconst 3, 1) := by decide +kernel
theorem dX7_finds_164 : decode cX7_finds 164 = .ok (.if_icmp .ne 7, 3) := by decide +kernel
theorem dX7_finds_167 : decode cX7_finds 167 = .ok (.iconst 1, 1) := by decide +kernel
theorem dX7_finds_168 : decode cX7_finds 168 = .ok (.goto 9, 3) := by decide +kernel
theorem dX7_finds_171 : decode cX7_finds 171 = .ok (.aload_n 0, 1) := by decide +kernel
theorem dX7_finds_172 : decode cX7_finds 172 = .ok (.getfield 95, 3) := by decide +kernel
theorem dX7_finds_175 : decode cX7_finds 175 = .ok (.iload_n 1, 1) := by decide +kernel
theorem dX7_finds_176 : decode cX7_finds 176 = .ok (.iaload, 1) := by decide +kernel
theorem dX7_finds_177 : decode cX7_finds 177 = .ok (.iastore, 1) := by decide +kernel
theorem dX7_finds_178 : decode cX7_finds 178 = .ok (.aload_n 0, 1) := by decide +kernel
theorem dX7_finds_179 : decode cX7_finds 179 = .ok (.getfield 101, 3) := by decide +kernel
theorem dX7_finds_182 : decode cX7_finds 182 = .ok (.iload_n 1, 1) := by decide +kernel
theorem dX7_finds_183 : decode cX7_finds 183 = .ok (.iaload, 1) := by decide +kernel
theorem dX7_finds_184 : decode cX7_finds 184 = .ok (.iconst 1, 1) := by decide +kernel
theorem dX7_finds_185 : decode cX7_finds 185 = .ok (.isub, 1) := by decide +kernel
theorem dX7_finds_186 : decode cX7_finds 186 = .ok (.ireturn, 1) := by decide +kernel
theorem dX7_openOf_0 : decode cX7_openOf 0 = .ok (.iconst 0, 1) := by decide +kernel
theorem dX7_openOf_1 : decode cX7_openOf 1 = .ok (.istore_n 2, 1) := by decide +kernel
theorem dX7_openOf_2 : decode cX7_openOf 2 = .ok (.iconst 0, 1) := by decide +kernel
theorem dX7_openOf_3 : decode cX7_openOf 3 = .ok (.istore_n 3, 1) := by decide +kernel
theorem dX7_openOf_4 : decode cX7_openOf 4 = .ok (.iload_n 3, 1) := by decide +kernel
theorem dX7_openOf_5 : decode cX7_openOf 5 = .ok (.aload_n 0, 1) := by decide +kernel
theorem dX7_openOf_6 : decode cX7_openOf 6 = .ok (.getfield 101, 3) := by decide +kernel
theorem dX7_openOf_9 : decode cX7_openOf 9 = .ok (.iload_n 1, 1) := by decide +kernel
theorem dX7_openOf_10 : decode cX7_openOf 10 = .ok (.iaload, 1) := by decide +kernel
theorem dX7_openOf_11 : decode cX7_openOf 11 = .ok (.if_icmp .ge 31, 3) := by decide +kernel
theorem dX7_openOf_14 : decode cX7_openOf 14 = .ok (.iload_n 2, 1) := by decide +kernel
theorem dX7_openOf_15 : decode cX7_openOf 15 = .ok (.aload_n 0, 1) := by decide +kernel
theorem dX7_openOf_16 : decode cX7_openOf 16 = .ok (.getfield 107, 3) := by decide +kernel
theorem dX7_openOf_19 : decode cX7_openOf 19 = .ok (.bipush 12, 2) := by decide +kernel
theorem dX7_openOf_21 : decode cX7_openOf 21 = .ok (.iload_n 1, 1) := by decide +kernel
theorem dX7_openOf_22 : decode cX7_openOf 22 = .ok (.imul, 1) := by decide +kernel
theorem dX7_openOf_23 : decode cX7_openOf 23 = .ok (.iload_n 3, 1) := by decide +kernel
theorem dX7_openOf_24 : decode cX7_openOf 24 = .ok (.iadd, 1) := by decide +kernel
theorem dX7_openOf_25 : decode cX7_openOf 25 = .ok (.iaload, 1) := by decide +kernel
theorem dX7_openOf_26 : decode cX7_openOf 26 = .ok (.ifCond .ne 7, 3) := by decide +kernel
theorem dX7_openOf_29 : decode cX7_openOf 29 = .ok (.iconst 1, 1) := by decide +kernel
theorem dX7_openOf_30 : decode cX7_openOf 30 = .ok (.goto 4, 3) := by decide +kernel
theorem dX7_openOf_33 : decode cX7_openOf 33 = .ok (.iconst 0, 1) := by decide +kernel
theorem dX7_openOf_34 : decode cX7_openOf 34 = .ok (.iadd, 1) := by decide +kernel
theorem dX7_openOf_35 : decode cX7_openOf 35 = .ok (.istore_n 2, 1) := by decide +kernel
theorem dX7_openOf_36 : decode cX7_openOf 36 = .ok (.iinc 3 1, 3) := by decide +kernel
theorem dX7_openOf_39 : decode cX7_openOf 39 = .ok (.goto (-35), 3) := by decide +kernel
theorem dX7_openOf_42 : decode cX7_openOf 42 = .ok (.iload_n 2, 1) := by decide +kernel
theorem dX7_openOf_43 : decode cX7_openOf 43 = .ok (.ireturn, 1) := by decide +kernel
theorem dX7_openWeights_0 : decode cX7_openWeights 0 = .ok (.iconst 0, 1) := by decide +kernel
theorem dX7_openWeights_1 : decode cX7_openWeights 1 = .ok (.istore_n 2, 1) := by decide +kernel
theorem dX7_openWeights_2 : decode cX7_openWeights 2 = .ok (.iconst 0, 1) := by decide +kernel
theorem dX7_openWeights_3 : decode cX7_openWeights 3 = .ok (.istore_n 3, 1) := by decide +kernel
theorem dX7_openWeights_4 : decode cX7_openWeights 4 = .ok (.iload_n 3, 1) := by decide +kernel
theorem dX7_openWeights_5 : decode cX7_openWeights 5 = .ok (.aload_n 0, 1) := by decide +kernel
theorem dX7_openWeights_6 : decode cX7_openWeights 6 = .ok (.getfield 101, 3) := by decide +kernel
theorem dX7_openWeights_9 : decode cX7_openWeights 9 = .ok (.iload_n 1, 1) := by decide +kernel
theorem dX7_openWeights_10 : decode cX7_openWeights 10 = .ok (.iaload, 1) := by decide +kernel
theorem dX7_openWeights_11 : decode cX7_openWeights 11 = .ok (.if_icmp .ge 41, 3) := by decide +kernel
theorem dX7_openWeights_14 : decode cX7_openWeights 14 = .ok (.iload_n 2, 1) := by decide +kernel
theorem dX7_openWeights_15 : decode cX7_openWeights 15 = .ok (.aload_n 0, 1) := by decide +kernel
theorem dX7_openWeights_16 : decode cX7_openWeights 16 = .ok (.getfield 107, 3) := by decide +kernel
theorem dX7_openWeights_19 : decode cX7_openWeights 19 = .ok (.bipush 12, 2) := by decide +kernel
theorem dX7_openWeights_21 : decode cX7_openWeights 21 = .ok (.iload_n 1, 1) := by decide +kernel
theorem dX7_openWeights_22 : decode cX7_openWeights 22 = .ok (.imul, 1) := by decide +kernel
theorem dX7_openWeights_23 : decode cX7_openWeights 23 = .ok (.iload_n 3, 1) := by decide +kernel
theorem dX7_openWeights_24 : decode cX7_openWeights 24 = .ok (.iadd, 1) := by decide +kernel
theorem dX7_openWeights_25 : decode cX7_openWeights 25 = .ok (.iaload, 1) := by decide +kernel
theorem dX7_openWeights_26 : decode cX7_openWeights 26 = .ok (.ifCond .ne 17, 3) := by decide +kernel
theorem dX7_openWeights_29 : decode cX7_openWeights 29 = .ok (.aload_n 0, 1) := by decide +kernel
theorem dX7_openWeights_30 : decode cX7_openWeights 30 = .ok (.getfield 104, 3) := by decide +kernel
theorem dX7_openWeights_33 : decode cX7_openWeights 33 = .ok (.bipush 12, 2) := by decide +kernel
theorem dX7_openWeights_35 : decode cX7_openWeights 35 = .ok (.iload_n 1, 1) := by decide +kernel
theorem dX7_openWeights_36 : decode cX7_openWeights 36 = .ok (.imul, 1) := by decide +kernel
theorem dX7_openWeights_37 : decode cX7_openWeights 37 = .ok (.iload_n 3, 1) := by decide +kernel
theorem dX7_openWeights_38 : decode cX7_openWeights 38 = .ok (.iadd, 1) := by decide +kernel
theorem dX7_openWeights_39 : decode cX7_openWeights 39 = .ok (.iaload, 1) := by decide +kernel
theorem dX7_openWeights_40 : decode cX7_openWeights 40 = .ok (.goto 4, 3) := by decide +kernel
theorem dX7_openWeights_43 : decode cX7_openWeights 43 = .ok (.iconst 0, 1) := by decide +kernel
theorem dX7_openWeights_44 : decode cX7_openWeights 44 = .ok (.iadd, 1) := by decide +kernel
theorem dX7_openWeights_45 : decode cX7_openWeights 45 = .ok (.istore_n 2, 1) := by decide +kernel
theorem dX7_openWeights_46 : decode cX7_openWeights 46 = .ok (.iinc 3 1, 3) := by decide +kernel
theorem dX7_openWeights_49 : decode cX7_openWeights 49 = .ok (.goto (-45), 3) := by decide +kernel
theorem dX7_openWeights_52 : decode cX7_openWeights 52 = .ok (.iload_n 2, 1) := by decide +kernel
theorem dX7_openWeights_53 : decode cX7_openWeights 53 = .ok (.ireturn, 1) := by decide +kernel
theorem dX7_mends_0 : decode cX7_mends 0 = .ok (.aload_n 0, 1) := by decide +kernel
theorem dX7_mends_1 : decode cX7_mends 1 = .ok (.aload_n 0, 1) := by decide +kernel
theorem dX7_mends_2 : decode cX7_mends 2 = .ok (.iload_n 1, 1) := by decide +kernel
theorem dX7_mends_3 : decode cX7_mends 3 = .ok (.invokevirtual 228, 3) := by decide +kernel
theorem dX7_mends_6 : decode cX7_mends 6 = .ok (.ifCond .eq 23, 3) := by decide +kernel
theorem dX7_mends_9 : decode cX7_mends 9 = .ok (.iload_n 2, 1) := by decide +kernel
theorem dX7_mends_10 : decode cX7_mends 10 = .ok (.iconst 0, 1) := by decide +kernel
theorem dX7_mends_11 : decode cX7_mends 11 = .ok (.aload_n 0, 1) := by decide +kernel
theorem dX7_mends_12 : decode cX7_mends 12 = .ok (.getfield 101, 3) := by decide +kernel
theorem dX7_mends_15 : decode cX7_mends 15 = .ok (.iload_n 1, 1) := by decide +kernel
theorem dX7_mends_16 : decode cX7_mends 16 = .ok (.iaload, 1) := by decide +kernel
theorem dX7_mends_17 : decode cX7_mends 17 = .ok (.iconst 1, 1) := by decide +kernel
theorem dX7_mends_18 : decode cX7_mends 18 = .ok (.isub, 1) := by decide +kernel
theorem dX7_mends_19 : decode cX7_mends 19 = .ok (.invokestatic 135, 3) := by decide +kernel
theorem dX7_mends_22 : decode cX7_mends 22 = .ok (.ifCond .eq 7, 3) := by decide +kernel
theorem dX7_mends_25 : decode cX7_mends 25 = .ok (.iconst 0, 1) := by decide +kernel
theorem dX7_mends_26 : decode cX7_mends 26 = .ok (.goto 4, 3) := by decide +kernel
theorem dX7_mends_29 : decode cX7_mends 29 = .ok (.iconst 1, 1) := by decide +kernel
theorem dX7_mends_30 : decode cX7_mends 30 = .ok (.putfield 128, 3) := by decide +kernel
theorem dX7_mends_33 : decode cX7_mends 33 = .ok (.aload_n 0, 1) := by decide +kernel
theorem dX7_mends_34 : decode cX7_mends 34 = .ok (.getfield 128, 3) := by decide +kernel
theorem dX7_mends_37 : decode cX7_mends 37 = .ok (.ifCond .ne 78, 3) := by decide +kernel
theorem dX7_mends_40 : decode cX7_mends 40 = .ok (.bipush 12, 2) := by decide +kernel
theorem dX7_mends_42 : decode cX7_mends 42 = .ok (.iload_n 1, 1) := by decide +kernel
theorem dX7_mends_43 : decode cX7_mends 43 = .ok (.imul, 1) := by decide +kernel
theorem dX7_mends_44 : decode cX7_mends 44 = .ok (.iload_n 2, 1) := by decide +kernel
theorem dX7_mends_45 : decode cX7_mends 45 = .ok (.iadd, 1) := by decide +kernel
theorem dX7_mends_46 : decode cX7_mends 46 = .ok (.istore 4, 2) := by decide +kernel
theorem dX7_mends_48 : decode cX7_mends 48 = .ok (.iload_n 3, 1) := by decide +kernel
theorem dX7_mends_49 : decode cX7_mends 49 = .ok (.ifCond .eq 38, 3) := by decide +kernel
theorem dX7_mends_52 : decode cX7_mends 52 = .ok (.aload_n 0, 1) := by decide +kernel
theorem dX7_mends_53 : decode cX7_mends 53 = .ok (.getfield 107, 3) := by decide +kernel
theorem dX7_mends_56 : decode cX7_mends 56 = .ok (.iload 4, 2) := by decide +kernel
theorem dX7_mends_58 : decode cX7_mends 58 = .ok (.iaload, 1) := by decide +kernel
theorem dX7_mends_59 : decode cX7_mends 59 = .ok (.iconst 2, 1) := by decide +kernel
theorem dX7_mends_60 : decode cX7_mends 60 = .ok (.if_icmp .eq 23, 3) := by decide +kernel
theorem dX7_mends_63 : decode cX7_mends 63 = .ok (.aload_n 0, 1) := by decide +kernel
theorem dX7_mends_64 : decode cX7_mends 64 = .ok (.getfield 104, 3) := by decide +kernel
theorem dX7_mends_67 : decode cX7_mends 67 = .ok (.iload 4, 2) := by decide +kernel
theorem dX7_mends_69 : decode cX7_mends 69 = .ok (.iaload, 1) := by decide +kernel
theorem dX7_mends_70 : decode cX7_mends 70 = .ok (.bipush 8, 2) := by decide +kernel
theorem dX7_mends_72 : decode cX7_mends 72 = .ok (.if_icmp .ge 11, 3) := by decide +kernel
theorem dX7_mends_75 : decode cX7_mends 75 = .ok (.aload_n 0, 1) := by decide +kernel
theorem dX7_mends_76 : decode cX7_mends 76 = .ok (.iload_n 1, 1) := by decide +kernel
theorem dX7_mends_77 : decode cX7_mends 77 = .ok (.invokevirtual 231, 3) := by decide +kernel
theorem dX7_mends_80 : decode cX7_mends 80 = .ok (.ifCond .ne 7, 3) := by decide +kernel
theorem dX7_mends_83 : decode cX7_mends 83 = .ok (.iconst 1, 1) := by decide +kernel
theorem dX7_mends_84 : decode cX7_mends 84 = .ok (.goto 4, 3) := by decide +kernel
theorem dX7_mends_87 : decode cX7_mends 87 = .ok (.iconst 0, 1) := by decide +kernel
theorem dX7_mends_88 : decode cX7_mends 88 = .ok (.istore 5, 2) := by decide +kernel
theorem dX7_mends_90 : decode cX7_mends 90 = .ok (.aload_n 0, 1) := by decide +kernel
theorem dX7_mends_91 : decode cX7_mends 91 = .ok (.aload_n 0, 1) := by decide +kernel
theorem dX7_mends_92 : decode cX7_mends 92 = .ok (.getfield 107, 3) := by decide +kernel
theorem dX7_mends_95 : decode cX7_mends 95 = .ok (.iload 4, 2) := by decide +kernel
theorem dX7_mends_97 : decode cX7_mends 97 = .ok (.iaload, 1) := by decide +kernel
theorem dX7_mends_98 : decode cX7_mends 98 = .ok (.iconst 1, 1) := by decide +kernel
theorem dX7_mends_99 : decode cX7_mends 99 = .ok (.if_icmp .eq 8, 3) := by decide +kernel
theorem dX7_mends_102 : decode cX7_mends 102 = .ok (.iload 5, 2) := by decide +kernel
theorem dX7_mends_104 : decode cX7_mends 104 = .ok (.ifCond .eq 7, 3) := by decide +kernel
theorem dX7_mends_107 : decode cX7_mends 107 = .ok (.iconst 2, 1) := by decide +kernel
theorem dX7_mends_108 : decode cX7_mends 108 = .ok (.goto 4, 3) := by decide +kernel
theorem dX7_mends_111 : decode cX7_mends 111 = .ok (.iconst 0, 1) := by decide +kernel
theorem dX7_mends_112 : decode cX7_mends 112 = .ok (.putfield 128, 3) := by decide +kernel
theorem dX7_mends_115 : decode cX7_mends 115 = .ok (.aload_n 0, 1) := by decide +kernel
theorem dX7_mends_116 : decode cX7_mends 116 = .ok (.getfield 128, 3) := by decide +kernel
theorem dX7_mends_119 : decode cX7_mends 119 = .ok (.ifCond .le 5, 3) := by decide +kernel
theorem dX7_mends_122 : decode cX7_mends 122 = .ok (.iconst 0, 1) := by decide +kernel
theorem dX7_mends_123 : decode cX7_mends 123 = .ok (.ireturn, 1) := by decide +kernel
theorem dX7_mends_124 : decode cX7_mends 124 = .ok (.aload_n 0, 1) := by decide +kernel
theorem dX7_mends_125 : decode cX7_mends 125 = .ok (.getfield 107, 3) := by decide +kernel
theorem dX7_mends_128 : decode cX7_mends 128 = .ok (.bipush 12, 2) := by decide +kernel
theorem dX7_mends_130 : decode cX7_mends 130 = .ok (.iload_n 1, 1) := by decide +kernel
theorem dX7_mends_131 : decode cX7_mends 131 = .ok (.imul, 1) := by decide +kernel
theorem dX7_mends_132 : decode cX7_mends 132 = .ok (.iload_n 2, 1) := by decide +kernel
theorem dX7_mends_133 : decode cX7_mends 133 = .ok (.iadd, 1) := by decide +kernel
theorem dX7_mends_134 : decode cX7_mends 134 = .ok (.iload_n 3, 1) := by decide +kernel
theorem dX7_mends_135 : decode cX7_mends 135 = .ok (.ifCond .eq 7, 3) := by decide +kernel
theorem dX7_mends_138 : decode cX7_mends 138 = .ok (.iconst 2, 1) := by decide +kernel
theorem dX7_mends_139 : decode cX7_mends 139 = .ok (.goto 4, 3) := by decide +kernel
theorem dX7_mends_142 : decode cX7_mends 142 = .ok (.iconst 1, 1) := by decide +kernel
theorem dX7_mends_143 : decode cX7_mends 143 = .ok (.iastore, 1) := by decide +kernel
theorem dX7_mends_144 : decode cX7_mends 144 = .ok (.aload_n 0, 1) := by decide +kernel
theorem dX7_mends_145 : decode cX7_mends 145 = .ok (.iload_n 1, 1) := by decide +kernel
theorem dX7_mends_146 : decode cX7_mends 146 = .ok (.invokevirtual 237, 3) := by decide +kernel
theorem dX7_mends_149 : decode cX7_mends 149 = .ok (.ireturn, 1) := by decide +kernel
theorem dX7_detain_0 : decode cX7_detain 0 = .ok (.aload_n 0, 1) := by decide +kernel
theorem dX7_detain_1 : decode cX7_detain 1 = .ok (.aload_n 0, 1) := by decide +kernel
theorem dX7_detain_2 : decode cX7_detain 2 = .ok (.iload_n 1, 1) := by decide +kernel
theorem dX7_detain_3 : decode cX7_detain 3 = .ok (.invokevirtual 228, 3) := by decide +kernel
theorem dX7_detain_6 : decode cX7_detain 6 = .ok (.ifCond .eq 7, 3) := by decide +kernel
theorem dX7_detain_9 : decode cX7_detain 9 = .ok (.iconst 0, 1) := by decide +kernel
theorem dX7_detain_10 : decode cX7_detain 10 = .ok (.goto 4, 3) := by decide +kernel
theorem dX7_detain_13 : decode cX7_detain 13 = .ok (.iconst 1, 1) := by decide +kernel
theorem dX7_detain_14 : decode cX7_detain 14 = .ok (.putfield 128, 3) := by decide +kernel
theorem dX7_detain_17 : decode cX7_detain 17 = .ok (.aload_n 0, 1) := by decide +kernel
theorem dX7_detain_18 : decode cX7_detain 18 = .ok (.getfield 128, 3) := by decide +kernel
theorem dX7_detain_21 : decode cX7_detain 21 = .ok (.ifCond .ne 63, 3) := by decide +kernel
theorem dX7_detain_24 : decode cX7_detain 24 = .ok (.aload_n 0, 1) := by decide +kernel
theorem dX7_detain_25 : decode cX7_detain 25 = .ok (.iload_n 1, 1) := by decide +kernel
theorem dX7_detain_26 : decode cX7_detain 26 = .ok (.invokevirtual 240, 3) := by decide +kernel
theorem dX7_detain_29 : decode cX7_detain 29 = .ok (.bipush 10, 2) := by decide +kernel
theorem dX7_detain_31 : decode cX7_detain 31 = .ok (.if_icmp .ge 16, 3) := by decide +kernel
theorem dX7_detain_34 : decode cX7_detain 34 = .ok (.aload_n 0, 1) := by decide +kernel
theorem dX7_detain_35 : decode cX7_detain 35 = .ok (.aload_n 0, 1) := by decide +kernel
theorem dX7_detain_36 : decode cX7_detain 36 = .ok (.getfield 86, 3) := by decide +kernel
theorem dX7_detain_39 : decode cX7_detain 39 = .ok (.iload_n 1, 1) := by decide +kernel
theorem dX7_detain_40 : decode cX7_detain 40 = .ok (.iaload, 1) := by decide +kernel
theorem dX7_detain_41 : decode cX7_detain 41 = .ok (.invokevirtual 222, 3) := by decide +kernel
theorem dX7_detain_44 : decode cX7_detain 44 = .ok (.ifCond .eq 7, 3) := by decide +kernel
theorem dX7_detain_47 : decode cX7_detain 47 = .ok (.iconst 1, 1) := by decide +kernel
theorem dX7_detain_48 : decode cX7_detain 48 = .ok (.goto 4, 3) := by decide +kernel
theorem dX7_detain_51 : decode cX7_detain 51 = .ok (.iconst 0, 1) := by decide +kernel
theorem dX7_detain_52 : decode cX7_detain 52 = .ok (.istore_n 2, 1) := by decide +kernel
theorem dX7_detain_53 : decode cX7_detain 53 = .ok (.aload_n 0, 1) := by decide +kernel
theorem dX7_detain_54 : decode cX7_detain 54 = .ok (.aload_n 0, 1) := by decide +kernel
theorem dX7_detain_55 : decode cX7_detain 55 = .ok (.iload_n 1, 1) := by decide +kernel
theorem dX7_detain_56 : decode cX7_detain 56 = .ok (.invokevirtual 231, 3) := by decide +kernel
theorem dX7_detain_59 : decode cX7_detain 59 = .ok (.ifCond .eq 21, 3) := by decide +kernel
theorem dX7_detain_62 : decode cX7_detain 62 = .ok (.aload_n 0, 1) := by decide +kernel
theorem dX7_detain_63 : decode cX7_detain 63 = .ok (.getfield 110, 3) := by decide +kernel
theorem dX7_detain_66 : decode cX7_detain 66 = .ok (.iload_n 1, 1) := by decide +kernel
theorem dX7_detain_67 : decode cX7_detain 67 = .ok (.iaload, 1) := by decide +kernel
theorem dX7_detain_68 : decode cX7_detain 68 = .ok (.iconst (-1), 1) := by decide +kernel
theorem dX7_detain_69 : decode cX7_detain 69 = .ok (.if_icmp .ne 11, 3) := by decide +kernel
theorem dX7_detain_72 : decode cX7_detain 72 = .ok (.iload_n 2, 1) := by decide +kernel
theorem dX7_detain_73 : decode cX7_detain 73 = .ok (.ifCond .eq 7, 3) := by decide +kernel
theorem dX7_detain_76 : decode cX7_detain 76 = .ok (.iconst 0, 1) := by decide +kernel
theorem dX7_detain_77 : decode cX7_detain 77 = .ok (.goto 4, 3) := by decide +kernel
theorem dX7_detain_80 : decode cX7_detain 80 = .ok (.iconst 2, 1) := by decide +kernel
theorem dX7_detain_81 : decode cX7_detain 81 = .ok (.putfield 128, 3) := by decide +kernel
theorem dX7_detain_84 : decode cX7_detain 84 = .ok (.aload_n 0, 1) := by decide +kernel
theorem dX7_detain_85 : decode cX7_detain 85 = .ok (.getfield 128, 3) := by decide +kernel
theorem dX7_detain_88 : decode cX7_detain 88 = .ok (.ifCond .le 5, 3) := by decide +kernel
theorem dX7_detain_91 : decode cX7_detain 91 = .ok (.iconst 0, 1) := by decide +kernel
theorem dX7_detain_92 : decode cX7_detain 92 = .ok (.ireturn, 1) := by decide +kernel
theorem dX7_detain_93 : decode cX7_detain 93 = .ok (.aload_n 0, 1) := by decide +kernel
theorem dX7_detain_94 : decode cX7_detain 94 = .ok (.getfield 110, 3) := by decide +kernel
theorem dX7_detain_97 : decode cX7_detain 97 = .ok (.iload_n 1, 1) := by decide +kernel
theorem dX7_detain_98 : decode cX7_detain 98 = .ok (.aload_n 0, 1) := by decide +kernel
theorem dX7_detain_99 : decode cX7_detain 99 = .ok (.getfield 142, 3) := by decide +kernel
theorem dX7_detain_102 : decode cX7_detain 102 = .ok (.iastore, 1) := by decide +kernel
theorem dX7_detain_103 : decode cX7_detain 103 = .ok (.aload_n 0, 1) := by decide +kernel
theorem dX7_detain_104 : decode cX7_detain 104 = .ok (.getfield 41, 3) := by decide +kernel
theorem dX7_detain_107 : decode cX7_detain 107 = .ok (.aload_n 0, 1) := by decide +kernel
theorem dX7_detain_108 : decode cX7_detain 108 = .ok (.getfield 86, 3) := by decide +kernel
theorem dX7_detain_111 : decode cX7_detain 111 = .ok (.iload_n 1, 1) := by decide +kernel
theorem dX7_detain_112 : decode cX7_detain 112 = .ok (.iaload, 1) := by decide +kernel
theorem dX7_detain_113 : decode cX7_detain 113 = .ok (.iload_n 1, 1) := by decide +kernel
theorem dX7_detain_114 : decode cX7_detain 114 = .ok (.iastore, 1) := by decide +kernel
theorem dX7_detain_115 : decode cX7_detain 115 = .ok (.aload_n 0, 1) := by decide +kernel
theorem dX7_detain_116 : decode cX7_detain 116 = .ok (.aload_n 0, 1) := by decide +kernel
theorem dX7_detain_117 : decode cX7_detain 117 = .ok (.getfield 86, 3) := by decide +kernel
theorem dX7_detain_120 : decode cX7_detain 120 = .ok (.iload_n 1, 1) := by decide +kernel
theorem dX7_detain_121 : decode cX7_detain 121 = .ok (.iaload, 1) := by decide +kernel
theorem dX7_detain_122 : decode cX7_detain 122 = .ok (.invokevirtual 243, 3) := by decide +kernel
theorem dX7_detain_125 : decode cX7_detain 125 = .ok (.aload_n 0, 1) := by decide +kernel
theorem dX7_detain_126 : decode cX7_detain 126 = .ok (.aload_n 0, 1) := by decide +kernel
theorem dX7_detain_127 : decode cX7_detain 127 = .ok (.getfield 86, 3) := by decide +kernel
theorem dX7_detain_130 : decode cX7_detain 130 = .ok (.iload_n 1, 1) := by decide +kernel
theorem dX7_detain_131 : decode cX7_detain 131 = .ok (.iaload, 1) := by decide +kernel
theorem dX7_detain_132 : decode cX7_detain 132 = .ok (.invokevirtual 204, 3) := by decide +kernel
theorem dX7_detain_135 : decode cX7_detain 135 = .ok (.ireturn, 1) := by decide +kernel
theorem dX7_looksForBan_0 : decode cX7_looksForBan 0 = .ok (.iconst 0, 1) := by decide +kernel
theorem dX7_looksForBan_1 : decode cX7_looksForBan 1 = .ok (.istore_n 2, 1) := by decide +kernel
theorem dX7_looksForBan_2 : decode cX7_looksForBan 2 = .ok (.iconst 0, 1) := by decide +kernel
theorem dX7_looksForBan_3 : decode cX7_looksForBan 3 = .ok (.istore_n 3, 1) := by decide +kernel
theorem dX7_looksForBan_4 : decode cX7_looksForBan 4 = .ok (.iload_n 3, 1) := by decide +kernel
theorem dX7_looksForBan_5 : decode cX7_looksForBan 5 = .ok (.aload_n 0, 1) := by decide +kernel
theorem dX7_looksForBan_6 : decode cX7_looksForBan 6 = .ok (.getfield 139, 3) := by decide +kernel
theorem dX7_looksForBan_9 : decode cX7_looksForBan 9 = .ok (.if_icmp .ge 52, 3) := by decide +kernel
theorem dX7_looksForBan_12 : decode cX7_looksForBan 12 = .ok (.iload_n 2, 1) := by decide +kernel
theorem dX7_looksForBan_13 : decode cX7_looksForBan 13 = .ok (.aload_n 0, 1) := by decide +kernel
theorem dX7_looksForBan_14 : decode cX7_looksForBan 14 = .ok (.getfield 86, 3) := by decide +kernel
theorem dX7_looksForBan_17 : decode cX7_looksForBan 17 = .ok (.iload_n 3, 1) := by decide +kernel
theorem dX7_looksForBan_18 : decode cX7_looksForBan 18 = .ok (.iaload, 1) := by decide +kernel
theorem dX7_looksForBan_19 : decode cX7_looksForBan 19 = .ok (.iload_n 1, 1) := by decide +kernel
theorem dX7_looksForBan_20 : decode cX7_looksForBan 20 = .ok (.if_icmp .ne 32, 3) := by decide +kernel
theorem dX7_looksForBan_23 : decode cX7_looksForBan 23 = .ok (.aload_n 0, 1) := by decide +kernel
theorem dX7_looksForBan_24 : decode cX7_looksForBan 24 = .ok (.iload_n 3, 1) := by decide +kernel
theorem dX7_looksForBan_25 : decode cX7_looksForBan 25 = .ok (.invokevirtual 189, 3) := by decide +kernel
theorem dX7_looksForBan_28 : decode cX7_looksForBan 28 = .ok (.ifCond .eq 24, 3) := by decide +kernel
theorem dX7_looksForBan_31 : decode cX7_looksForBan 31 = .ok (.aload_n 0, 1) := by decide +kernel
theorem dX7_looksForBan_32 : decode cX7_looksForBan 32 = .ok (.iload_n 3, 1) := by decide +kernel
theorem dX7_looksForBan_33 : decode cX7_looksForBan 33 = .ok (.invokevirtual 192, 3) := by decide +kernel
theorem dX7_looksForBan_36 : decode cX7_looksForBan 36 = .ok (.ifCond .eq 16, 3) := by decide +kernel
theorem dX7_looksForBan_39 : decode cX7_looksForBan 39 = .ok (.aload_n 0, 1) := by decide +kernel
theorem dX7_looksForBan_40 : decode cX7_looksForBan 40 = .ok (.getfield 122, 3) := by decide +kernel
theorem dX7_looksForBan_43 : decode cX7_looksForBan 43 = .ok (.iload_n 3, 1) := by decide +kernel
theorem dX7_looksForBan_44 : decode cX7_looksForBan 44 = .ok (.baload, 1) := by decide +kernel
theorem dX7_looksForBan_45 : decode cX7_looksForBan 45 = .ok (.ifCond .ne 7, 3) := by decide +kernel
theorem dX7_looksForBan_48 : decode cX7_looksForBan 48 = .ok (.iconst 1, 1) := by decide +kernel
theorem dX7_looksForBan_49 : decode cX7_looksForBan 49 = .ok (.goto 4, 3) := by decide +kernel
theorem dX7_looksForBan_52 : decode cX7_looksForBan 52 = .ok (.iconst 0, 1) := by decide +kernel
theorem dX7_looksForBan_53 : decode cX7_looksForBan 53 = .ok (.iadd, 1) := by decide +kernel
theorem dX7_looksForBan_54 : decode cX7_looksForBan 54 = .ok (.istore_n 2, 1) := by decide +kernel
theorem dX7_looksForBan_55 : decode cX7_looksForBan 55 = .ok (.iinc 3 1, 3) := by decide +kernel
theorem dX7_looksForBan_58 : decode cX7_looksForBan 58 = .ok (.goto (-54), 3) := by decide +kernel
theorem dX7_looksForBan_61 : decode cX7_looksForBan 61 = .ok (.iload_n 2, 1) := by decide +kernel
theorem dX7_looksForBan_62 : decode cX7_looksForBan 62 = .ok (.iconst 3, 1) := by decide +kernel
theorem dX7_looksForBan_63 : decode cX7_looksForBan 63 = .ok (.if_icmp .ge 4, 3) := by decide +kernel
theorem dX7_looksForBan_66 : decode cX7_looksForBan 66 = .ok (.return_, 1) := by decide +kernel
theorem dX7_looksForBan_67 : decode cX7_looksForBan 67 = .ok (.iconst 0, 1) := by decide +kernel
theorem dX7_looksForBan_68 : decode cX7_looksForBan 68 = .ok (.istore_n 3, 1) := by decide +kernel
theorem dX7_looksForBan_69 : decode cX7_looksForBan 69 = .ok (.iload_n 3, 1) := by decide +kernel
theorem dX7_looksForBan_70 : decode cX7_looksForBan 70 = .ok (.aload_n 0, 1) := by decide +kernel
theorem dX7_looksForBan_71 : decode cX7_looksForBan 71 = .ok (.getfield 139, 3) := by decide +kernel
theorem dX7_looksForBan_74 : decode cX7_looksForBan 74 = .ok (.if_icmp .ge 55, 3) := by decide +kernel
theorem dX7_looksForBan_77 : decode cX7_looksForBan 77 = .ok (.aload_n 0, 1) := by decide +kernel
theorem dX7_looksForBan_78 : decode cX7_looksForBan 78 = .ok (.getfield 122, 3) := by decide +kernel
theorem dX7_looksForBan_81 : decode cX7_looksForBan 81 = .ok (.iload_n 3, 1) := by decide +kernel
theorem dX7_looksForBan_82 : decode cX7_looksForBan 82 = .ok (.aload_n 0, 1) := by decide +kernel
theorem dX7_looksForBan_83 : decode cX7_looksForBan 83 = .ok (.getfield 122, 3) := by decide +kernel
theorem dX7_looksForBan_86 : decode cX7_looksForBan 86 = .ok (.iload_n 3, 1) := by decide +kernel
theorem dX7_looksForBan_87 : decode cX7_looksForBan 87 = .ok (.baload, 1) := by decide +kernel
theorem dX7_looksForBan_88 : decode cX7_looksForBan 88 = .ok (.ifCond .ne 29, 3) := by decide +kernel
theorem dX7_looksForBan_91 : decode cX7_looksForBan 91 = .ok (.aload_n 0, 1) := by decide +kernel
theorem dX7_looksForBan_92 : decode cX7_looksForBan 92 = .ok (.getfield 86, 3) := by decide +kernel
theorem dX7_looksForBan_95 : decode cX7_looksForBan 95 = .ok (.iload_n 3, 1) := by decide +kernel
theorem dX7_looksForBan_96 : decode cX7_looksForBan 96 = .ok (.iaload, 1) := by decide +kernel
theorem dX7_looksForBan_97 : decode cX7_looksForBan 97 = .ok (.iload_n 1, 1) := by decide +kernel
theorem dX7_looksForBan_98 : decode cX7_looksForBan 98 = .ok (.if_icmp .ne 23, 3) := by decide +kernel
theorem dX7_looksForBan_101 : decode cX7_looksForBan 101 = .ok (.aload_n 0, 1) := by decide +kernel
theorem dX7_looksForBan_102 : decode cX7_looksForBan 102 = .ok (.iload_n 3, 1) := by decide +kernel
theorem dX7_looksForBan_103 : decode cX7_looksForBan 103 = .ok (.invokevirtual 189, 3) := by decide +kernel
theorem dX7_looksForBan_106 : decode cX7_looksForBan 106 = .ok (.ifCond .eq 15, 3) := by decide +kernel
theorem dX7_looksForBan_109 : decode cX7_looksForBan 109 = .ok (.aload_n 0, 1) := by decide +kernel
theorem dX7_looksForBan_110 : decode cX7_looksForBan 110 = .ok (.iload_n 3, 1) := by decide +kernel
theorem dX7_looksForBan_111 : decode cX7_looksForBan 111 = .ok (.invokevirtual 192, 3) := by decide +kernel
theorem dX7_looksForBan_114 : decode cX7_looksForBan 114 = .ok (.ifCond .eq 7, 3) := by decide +kernel
theorem dX7_looksForBan_117 : decode cX7_looksForBan 117 = .ok (.iconst 1, 1) := by decide +kernel
theorem dX7_looksForBan_118 : decode cX7_looksForBan 118 = .ok (.goto 4, 3) := by decide +kernel
theorem dX7_looksForBan_121 : decode cX7_looksForBan 121 = .ok (.iconst 0, 1) := by decide +kernel
theorem dX7_looksForBan_122 : decode cX7_looksForBan 122 = .ok (.bastore, 1) := by decide +kernel
theorem dX7_looksForBan_123 : decode cX7_looksForBan 123 = .ok (.iinc 3 1, 3) := by decide +kernel
theorem dX7_looksForBan_126 : decode cX7_looksForBan 126 = .ok (.goto (-57), 3) := by decide +kernel
theorem dX7_looksForBan_129 : decode cX7_looksForBan 129 = .ok (.aload_n 0, 1) := by decide +kernel
theorem dX7_looksForBan_130 : decode cX7_looksForBan 130 = .ok (.getfield 44, 3) := by decide +kernel
theorem dX7_looksForBan_133 : decode cX7_looksForBan 133 = .ok (.iload_n 1, 1) := by decide +kernel
theorem dX7_looksForBan_134 : decode cX7_looksForBan 134 = .ok (.iconst 1, 1) := by decide +kernel
theorem dX7_looksForBan_135 : decode cX7_looksForBan 135 = .ok (.bastore, 1) := by decide +kernel
theorem dX7_looksForBan_136 : decode cX7_looksForBan 136 = .ok (.return_, 1) := by decide +kernel
theorem dX7_release_0 : decode cX7_release 0 = .ok (.aload_n 0, 1) := by decide +kernel
theorem dX7_release_1 : decode cX7_release 1 = .ok (.aload_n 0, 1) := by decide +kernel
theorem dX7_release_2 : decode cX7_release 2 = .ok (.iload_n 1, 1) := by decide +kernel
theorem dX7_release_3 : decode cX7_release 3 = .ok (.invokevirtual 153, 3) := by decide +kernel
theorem dX7_release_6 : decode cX7_release 6 = .ok (.ifCond .ne 7, 3) := by decide +kernel
theorem dX7_release_9 : decode cX7_release 9 = .ok (.iconst 1, 1) := by decide +kernel
theorem dX7_release_10 : decode cX7_release 10 = .ok (.goto 18, 3) := by decide +kernel
theorem dX7_release_13 : decode cX7_release 13 = .ok (.aload_n 0, 1) := by decide +kernel
theorem dX7_release_14 : decode cX7_release 14 = .ok (.getfield 41, 3) := by decide +kernel
theorem dX7_release_17 : decode cX7_release 17 = .ok (.iload_n 1, 1) := by decide +kernel
theorem dX7_release_18 : decode cX7_release 18 = .ok (.iaload, 1) := by decide +kernel
theorem dX7_release_19 : decode cX7_release 19 = .ok (.iconst (-1), 1) := by decide +kernel
theorem dX7_release_20 : decode cX7_release 20 = .ok (.if_icmp .ne 7, 3) := by decide +kernel
theorem dX7_release_23 : decode cX7_release 23 = .ok (.iconst 2, 1) := by decide +kernel
theorem dX7_release_24 : decode cX7_release 24 = .ok (.goto 4, 3) := by decide +kernel
theorem dX7_release_27 : decode cX7_release 27 = .ok (.iconst 0, 1) := by decide +kernel
theorem dX7_release_28 : decode cX7_release 28 = .ok (.putfield 128, 3) := by decide +kernel
theorem dX7_release_31 : decode cX7_release 31 = .ok (.aload_n 0, 1) := by decide +kernel
theorem dX7_release_32 : decode cX7_release 32 = .ok (.getfield 128, 3) := by decide +kernel
theorem dX7_release_35 : decode cX7_release 35 = .ok (.ifCond .ne 33, 3) := by decide +kernel
theorem dX7_release_38 : decode cX7_release 38 = .ok (.aload_n 0, 1) := by decide +kernel
theorem dX7_release_39 : decode cX7_release 39 = .ok (.aload_n 0, 1) := by decide +kernel
theorem dX7_release_40 : decode cX7_release 40 = .ok (.aload_n 0, 1) := by decide +kernel
theorem dX7_release_41 : decode cX7_release 41 = .ok (.getfield 41, 3) := by decide +kernel
theorem dX7_release_44 : decode cX7_release 44 = .ok (.iload_n 1, 1) := by decide +kernel
theorem dX7_release_45 : decode cX7_release 45 = .ok (.iaload, 1) := by decide +kernel
theorem dX7_release_46 : decode cX7_release 46 = .ok (.invokevirtual 237, 3) := by decide +kernel
theorem dX7_release_49 : decode cX7_release 49 = .ok (.ifCond .gt 11, 3) := by decide +kernel
theorem dX7_release_52 : decode cX7_release 52 = .ok (.aload_n 0, 1) := by decide +kernel
theorem dX7_release_53 : decode cX7_release 53 = .ok (.iload_n 1, 1) := by decide +kernel
theorem dX7_release_54 : decode cX7_release 54 = .ok (.invokevirtual 222, 3) := by decide +kernel
theorem dX7_release_57 : decode cX7_release 57 = .ok (.ifCond .eq 7, 3) := by decide +kernel
theorem dX7_release_60 : decode cX7_release 60 = .ok (.iconst 2, 1) := by decide +kernel
theorem dX7_release_61 : decode cX7_release 61 = .ok (.goto 4, 3) := by decide +kernel
theorem dX7_release_64 : decode cX7_release 64 = .ok (.iconst 0, 1) := by decide +kernel
theorem dX7_release_65 : decode cX7_release 65 = .ok (.putfield 128, 3) := by decide +kernel
theorem dX7_release_68 : decode cX7_release 68 = .ok (.aload_n 0, 1) := by decide +kernel
theorem dX7_release_69 : decode cX7_release 69 = .ok (.getfield 128, 3) := by decide +kernel
theorem dX7_release_72 : decode cX7_release 72 = .ok (.ifCond .le 5, 3) := by decide +kernel
theorem dX7_release_75 : decode cX7_release 75 = .ok (.iconst 0, 1) := by decide +kernel
theorem dX7_release_76 : decode cX7_release 76 = .ok (.ireturn, 1) := by decide +kernel
theorem dX7_release_77 : decode cX7_release 77 = .ok (.bipush 100, 2) := by decide +kernel
theorem dX7_release_79 : decode cX7_release 79 = .ok (.aload_n 0, 1) := by decide +kernel
theorem dX7_release_80 : decode cX7_release 80 = .ok (.getfield 142, 3) := by decide +kernel
theorem dX7_release_83 : decode cX7_release 83 = .ok (.aload_n 0, 1) := by decide +kernel
theorem dX7_release_84 : decode cX7_release 84 = .ok (.getfield 110, 3) := by decide +kernel
theorem dX7_release_87 : decode cX7_release 87 = .ok (.aload_n 0, 1) := by decide +kernel
theorem dX7_release_88 : decode cX7_release 88 = .ok (.getfield 41, 3) := by decide +kernel
theorem dX7_release_91 : decode cX7_release 91 = .ok (.iload_n 1, 1) := by decide +kernel
theorem dX7_release_92 : decode cX7_release 92 = .ok (.iaload, 1) := by decide +kernel
theorem dX7_release_93 : decode cX7_release 93 = .ok (.iaload, 1) := by decide +kernel
theorem dX7_release_94 : decode cX7_release 94 = .ok (.isub, 1) := by decide +kernel
theorem dX7_release_95 : decode cX7_release 95 = .ok (.imul, 1) := by decide +kernel
theorem dX7_release_96 : decode cX7_release 96 = .ok (.istore_n 2, 1) := by decide +kernel
theorem dX7_release_97 : decode cX7_release 97 = .ok (.aload_n 0, 1) := by decide +kernel
theorem dX7_release_98 : decode cX7_release 98 = .ok (.getfield 53, 3) := by decide +kernel
theorem dX7_release_101 : decode cX7_release 101 = .ok (.iload_n 1, 1) := by decide +kernel
theorem dX7_release_102 : decode cX7_release 102 = .ok (.dup2, 1) := by decide +kernel
theorem dX7_release_103 : decode cX7_release 103 = .ok (.iaload, 1) := by decide +kernel
theorem dX7_release_104 : decode cX7_release 104 = .ok (.iload_n 2, 1) := by decide +kernel
theorem dX7_release_105 : decode cX7_release 105 = .ok (.iadd, 1) := by decide +kernel
theorem dX7_release_106 : decode cX7_release 106 = .ok (.iastore, 1) := by decide +kernel
theorem dX7_release_107 : decode cX7_release 107 = .ok (.aload_n 0, 1) := by decide +kernel
theorem dX7_release_108 : decode cX7_release 108 = .ok (.getfield 41, 3) := by decide +kernel
theorem dX7_release_111 : decode cX7_release 111 = .ok (.iload_n 1, 1) := by decide +kernel
theorem dX7_release_112 : decode cX7_release 112 = .ok (.iconst (-1), 1) := by decide +kernel
theorem dX7_release_113 : decode cX7_release 113 = .ok (.iastore, 1) := by decide +kernel
theorem dX7_release_114 : decode cX7_release 114 = .ok (.aload_n 0, 1) := by decide +kernel
theorem dX7_release_115 : decode cX7_release 115 = .ok (.getfield 44, 3) := by decide +kernel
theorem dX7_release_118 : decode cX7_release 118 = .ok (.iload_n 1, 1) := by decide +kernel
theorem dX7_release_119 : decode cX7_release 119 = .ok (.baload, 1) := by decide +kernel
theorem dX7_release_120 : decode cX7_release 120 = .ok (.ifCond .eq 68, 3) := by decide +kernel
theorem dX7_release_123 : decode cX7_release 123 = .ok (.aload_n 0, 1) := by decide +kernel
theorem dX7_release_124 : decode cX7_release 124 = .ok (.getfield 50, 3) := by decide +kernel
theorem dX7_release_127 : decode cX7_release 127 = .ok (.iload_n 1, 1) := by decide +kernel
theorem dX7_release_128 : decode cX7_release 128 = .ok (.aload_n 0, 1) := by decide +kernel
theorem dX7_release_129 : decode cX7_release 129 = .ok (.getfield 47, 3) := by decide +kernel
theorem dX7_release_132 : decode cX7_release 132 = .ok (.iload_n 1, 1) := by decide +kernel
theorem dX7_release_133 : decode cX7_release 133 = .ok (.iaload, 1) := by decide +kernel
theorem dX7_release_134 : decode cX7_release 134 = .ok (.ifCond .ne 13, 3) := by decide +kernel
theorem dX7_release_137 : decode cX7_release 137 = .ok (.aload_n 0, 1) := by decide +kernel
theorem dX7_release_138 : decode cX7_release 138 = .ok (.getfield 142, 3) := by decide +kernel
theorem dX7_release_141 : decode cX7_release 141 = .ok (.bipush 90, 2) := by decide +kernel
theorem dX7_release_143 : decode cX7_release 143 = .ok (.iadd, 1) := by decide +kernel
theorem dX7_release_144 : decode cX7_release 144 = .ok (.goto 26, 3) := by decide +kernel
theorem dX7_release_147 : decode cX7_release 147 = .ok (.aload_n 0, 1) := by decide +kernel
theorem dX7_release_148 : decode cX7_release 148 = .ok (.getfield 47, 3) := by decide +kernel
theorem dX7_release_151 : decode cX7_release 151 = .ok (.iload_n 1, 1) := by decide +kernel
theorem dX7_release_152 : decode cX7_release 152 = .ok (.iaload, 1) := by decide +kernel
theorem dX7_release_153 : decode cX7_release 153 = .ok (.iconst 1, 1) := by decide +kernel
theorem dX7_release_154 : decode cX7_release 154 = .ok (.if_icmp .ne 14, 3) := by decide +kernel
theorem dX7_release_157 : decode cX7_release 157 = .ok (.aload_n 0, 1) := by decide +kernel
theorem dX7_release_158 : decode cX7_release 158 = .ok (.getfield 142, 3) := by decide +kernel
theorem dX7_release_161 : decode cX7_release 161 = .ok (.sipush 360, 3) := by decide +kernel
theorem dX7_release_164 : decode cX7_release 164 = .ok (.iadd, 1) := by decide +kernel
theorem dX7_release_165 : decode cX7_release 165 = .ok (.goto 5, 3) := by decide +kernel
theorem dX7_release_168 : decode cX7_release 168 = .ok (.ldc 247, 2) := by decide +kernel
theorem dX7_release_170 : decode cX7_release 170 = .ok (.iastore, 1) := by decide +kernel
theorem dX7_release_171 : decode cX7_release 171 = .ok (.aload_n 0, 1) := by decide +kernel
theorem dX7_release_172 : decode cX7_release 172 = .ok (.getfield 47, 3) := by decide +kernel
theorem dX7_release_175 : decode cX7_release 175 = .ok (.iload_n 1, 1) := by decide +kernel
theorem dX7_release_176 : decode cX7_release 176 = .ok (.dup2, 1) := by decide +kernel
theorem dX7_release_177 : decode cX7_release 177 = .ok (.iaload, 1) := by decide +kernel
theorem dX7_release_178 : decode cX7_release 178 = .ok (.iconst 1, 1) := by decide +kernel
theorem dX7_release_179 : decode cX7_release 179 = .ok (.iadd, 1) := by decide +kernel
theorem dX7_release_180 : decode cX7_release 180 = .ok (.iastore, 1) := by decide +kernel
theorem dX7_release_181 : decode cX7_release 181 = .ok (.aload_n 0, 1) := by decide +kernel
theorem dX7_release_182 : decode cX7_release 182 = .ok (.getfield 44, 3) := by decide +kernel
theorem dX7_release_185 : decode cX7_release 185 = .ok (.iload_n 1, 1) := by decide +kernel
theorem dX7_release_186 : decode cX7_release 186 = .ok (.iconst 0, 1) := by decide +kernel
theorem dX7_release_187 : decode cX7_release 187 = .ok (.bastore, 1) := by decide +kernel
theorem dX7_release_188 : decode cX7_release 188 = .ok (.iload_n 2, 1) := by decide +kernel
theorem dX7_release_189 : decode cX7_release 189 = .ok (.ireturn, 1) := by decide +kernel
theorem dX7_appeal_0 : decode cX7_appeal 0 = .ok (.aload_n 0, 1) := by decide +kernel
theorem dX7_appeal_1 : decode cX7_appeal 1 = .ok (.aload_n 0, 1) := by decide +kernel
theorem dX7_appeal_2 : decode cX7_appeal 2 = .ok (.iload_n 1, 1) := by decide +kernel
theorem dX7_appeal_3 : decode cX7_appeal 3 = .ok (.invokevirtual 228, 3) := by decide +kernel
theorem dX7_appeal_6 : decode cX7_appeal 6 = .ok (.ifCond .eq 7, 3) := by decide +kernel
theorem dX7_appeal_9 : decode cX7_appeal 9 = .ok (.iconst 0, 1) := by decide +kernel
theorem dX7_appeal_10 : decode cX7_appeal 10 = .ok (.goto 4, 3) := by decide +kernel
theorem dX7_appeal_13 : decode cX7_appeal 13 = .ok (.iconst 1, 1) := by decide +kernel
theorem dX7_appeal_14 : decode cX7_appeal 14 = .ok (.putfield 128, 3) := by decide +kernel
theorem dX7_appeal_17 : decode cX7_appeal 17 = .ok (.aload_n 0, 1) := by decide +kernel
theorem dX7_appeal_18 : decode cX7_appeal 18 = .ok (.getfield 128, 3) := by decide +kernel
theorem dX7_appeal_21 : decode cX7_appeal 21 = .ok (.ifCond .ne 57, 3) := by decide +kernel
theorem dX7_appeal_24 : decode cX7_appeal 24 = .ok (.aload_n 0, 1) := by decide +kernel
theorem dX7_appeal_25 : decode cX7_appeal 25 = .ok (.getfield 110, 3) := by decide +kernel
theorem dX7_appeal_28 : decode cX7_appeal 28 = .ok (.iload_n 1, 1) := by decide +kernel
theorem dX7_appeal_29 : decode cX7_appeal 29 = .ok (.iaload, 1) := by decide +kernel
theorem dX7_appeal_30 : decode cX7_appeal 30 = .ok (.iconst (-1), 1) := by decide +kernel
theorem dX7_appeal_31 : decode cX7_appeal 31 = .ok (.if_icmp .eq 32, 3) := by decide +kernel
theorem dX7_appeal_34 : decode cX7_appeal 34 = .ok (.aload_n 0, 1) := by decide +kernel
theorem dX7_appeal_35 : decode cX7_appeal 35 = .ok (.getfield 113, 3) := by decide +kernel
theorem dX7_appeal_38 : decode cX7_appeal 38 = .ok (.iload_n 1, 1) := by decide +kernel
theorem dX7_appeal_39 : decode cX7_appeal 39 = .ok (.baload, 1) := by decide +kernel
theorem dX7_appeal_40 : decode cX7_appeal 40 = .ok (.ifCond .ne 23, 3) := by decide +kernel
theorem dX7_appeal_43 : decode cX7_appeal 43 = .ok (.aload_n 0, 1) := by decide +kernel
theorem dX7_appeal_44 : decode cX7_appeal 44 = .ok (.getfield 142, 3) := by decide +kernel
theorem dX7_appeal_47 : decode cX7_appeal 47 = .ok (.aload_n 0, 1) := by decide +kernel
theorem dX7_appeal_48 : decode cX7_appeal 48 = .ok (.getfield 110, 3) := by decide +kernel
theorem dX7_appeal_51 : decode cX7_appeal 51 = .ok (.iload_n 1, 1) := by decide +kernel
theorem dX7_appeal_52 : decode cX7_appeal 52 = .ok (.iaload, 1) := by decide +kernel
theorem dX7_appeal_53 : decode cX7_appeal 53 = .ok (.isub, 1) := by decide +kernel
theorem dX7_appeal_54 : decode cX7_appeal 54 = .ok (.bipush 30, 2) := by decide +kernel
theorem dX7_appeal_56 : decode cX7_appeal 56 = .ok (.if_icmp .gt 7, 3) := by decide +kernel
theorem dX7_appeal_59 : decode cX7_appeal 59 = .ok (.iconst 1, 1) := by decide +kernel
theorem dX7_appeal_60 : decode cX7_appeal 60 = .ok (.goto 4, 3) := by decide +kernel
theorem dX7_appeal_63 : decode cX7_appeal 63 = .ok (.iconst 0, 1) := by decide +kernel
theorem dX7_appeal_64 : decode cX7_appeal 64 = .ok (.istore_n 2, 1) := by decide +kernel
theorem dX7_appeal_65 : decode cX7_appeal 65 = .ok (.aload_n 0, 1) := by decide +kernel
theorem dX7_appeal_66 : decode cX7_appeal 66 = .ok (.iload_n 2, 1) := by decide +kernel
theorem dX7_appeal_67 : decode cX7_appeal 67 = .ok (.ifCond .eq 7, 3) := by decide +kernel
theorem dX7_appeal_70 : decode cX7_appeal 70 = .ok (.iconst 0, 1) := by decide +kernel
theorem dX7_appeal_71 : decode cX7_appeal 71 = .ok (.goto 4, 3) := by decide +kernel
theorem dX7_appeal_74 : decode cX7_appeal 74 = .ok (.iconst 2, 1) := by decide +kernel
theorem dX7_appeal_75 : decode cX7_appeal 75 = .ok (.putfield 128, 3) := by decide +kernel
theorem dX7_appeal_78 : decode cX7_appeal 78 = .ok (.aload_n 0, 1) := by decide +kernel
theorem dX7_appeal_79 : decode cX7_appeal 79 = .ok (.getfield 128, 3) := by decide +kernel
theorem dX7_appeal_82 : decode cX7_appeal 82 = .ok (.ifCond .ne 10, 3) := by decide +kernel
theorem dX7_appeal_85 : decode cX7_appeal 85 = .ok (.aload_n 0, 1) := by decide +kernel
theorem dX7_appeal_86 : decode cX7_appeal 86 = .ok (.getfield 113, 3) := by decide +kernel
theorem dX7_appeal_89 : decode cX7_appeal 89 = .ok (.iload_n 1, 1) := by decide +kernel
theorem dX7_appeal_90 : decode cX7_appeal 90 = .ok (.iconst 1, 1) := by decide +kernel
theorem dX7_appeal_91 : decode cX7_appeal 91 = .ok (.bastore, 1) := by decide +kernel
theorem dX7_appeal_92 : decode cX7_appeal 92 = .ok (.return_, 1) := by decide +kernel
theorem dX7_decided_0 : decode cX7_decided 0 = .ok (.aload_n 0, 1) := by decide +kernel
theorem dX7_decided_1 : decode cX7_decided 1 = .ok (.getfield 116, 3) := by decide +kernel
theorem dX7_decided_4 : decode cX7_decided 4 = .ok (.iload_n 1, 1) := by decide +kernel
theorem dX7_decided_5 : decode cX7_decided 5 = .ok (.iaload, 1) := by decide +kernel
theorem dX7_decided_6 : decode cX7_decided 6 = .ok (.iconst 2, 1) := by decide +kernel
theorem dX7_decided_7 : decode cX7_decided 7 = .ok (.if_icmp .ne 7, 3) := by decide +kernel
theorem dX7_decided_10 : decode cX7_decided 10 = .ok (.iconst 1, 1) := by decide +kernel
theorem dX7_decided_11 : decode cX7_decided 11 = .ok (.goto 18, 3) := by decide +kernel
theorem dX7_decided_14 : decode cX7_decided 14 = .ok (.aload_n 0, 1) := by decide +kernel
theorem dX7_decided_15 : decode cX7_decided 15 = .ok (.getfield 119, 3) := by decide +kernel
theorem dX7_decided_18 : decode cX7_decided 18 = .ok (.iload_n 1, 1) := by decide +kernel
theorem dX7_decided_19 : decode cX7_decided 19 = .ok (.iaload, 1) := by decide +kernel
theorem dX7_decided_20 : decode cX7_decided 20 = .ok (.iconst 2, 1) := by decide +kernel
theorem dX7_decided_21 : decode cX7_decided 21 = .ok (.if_icmp .ne 7, 3) := by decide +kernel
theorem dX7_decided_24 : decode cX7_decided 24 = .ok (.iconst 2, 1) := by decide +kernel
theorem dX7_decided_25 : decode cX7_decided 25 = .ok (.goto 4, 3) := by decide +kernel
theorem dX7_decided_28 : decode cX7_decided 28 = .ok (.iconst 0, 1) := by decide +kernel
theorem dX7_decided_29 : decode cX7_decided 29 = .ok (.ireturn, 1) := by decide +kernel
theorem dX7_vote_0 : decode cX7_vote 0 = .ok (.aload_n 0, 1) := by decide +kernel
theorem dX7_vote_1 : decode cX7_vote 1 = .ok (.aload_n 0, 1) := by decide +kernel
theorem dX7_vote_2 : decode cX7_vote 2 = .ok (.iload_n 1, 1) := by decide +kernel
theorem dX7_vote_3 : decode cX7_vote 3 = .ok (.invokevirtual 228, 3) := by decide +kernel
theorem dX7_vote_6 : decode cX7_vote 6 = .ok (.ifCond .ne 7, 3) := by decide +kernel
theorem dX7_vote_9 : decode cX7_vote 9 = .ok (.iconst 1, 1) := by decide +kernel
theorem dX7_vote_10 : decode cX7_vote 10 = .ok (.goto 25, 3) := by decide +kernel
theorem dX7_vote_13 : decode cX7_vote 13 = .ok (.aload_n 0, 1) := by decide +kernel
theorem dX7_vote_14 : decode cX7_vote 14 = .ok (.getfield 113, 3) := by decide +kernel
theorem dX7_vote_17 : decode cX7_vote 17 = .ok (.iload_n 1, 1) := by decide +kernel
theorem dX7_vote_18 : decode cX7_vote 18 = .ok (.baload, 1) := by decide +kernel
theorem dX7_vote_19 : decode cX7_vote 19 = .ok (.ifCond .eq 15, 3) := by decide +kernel
theorem dX7_vote_22 : decode cX7_vote 22 = .ok (.aload_n 0, 1) := by decide +kernel
theorem dX7_vote_23 : decode cX7_vote 23 = .ok (.iload_n 1, 1) := by decide +kernel
theorem dX7_vote_24 : decode cX7_vote 24 = .ok (.invokevirtual 248, 3) := by decide +kernel
theorem dX7_vote_27 : decode cX7_vote 27 = .ok (.ifCond .ne 7, 3) := by decide +kernel
theorem dX7_vote_30 : decode cX7_vote 30 = .ok (.iconst 0, 1) := by decide +kernel
theorem dX7_vote_31 : decode cX7_vote 31 = .ok (.goto 4, 3) := by decide +kernel
theorem dX7_vote_34 : decode cX7_vote 34 = .ok (.iconst 2, 1) := by decide +kernel
theorem dX7_vote_35 : decode cX7_vote 35 = .ok (.putfield 128, 3) := by decide +kernel
theorem dX7_vote_38 : decode cX7_vote 38 = .ok (.aload_n 0, 1) := by decide +kernel
theorem dX7_vote_39 : decode cX7_vote 39 = .ok (.getfield 128, 3) := by decide +kernel
theorem dX7_vote_42 : decode cX7_vote 42 = .ok (.ifCond .le 5, 3) := by decide +kernel
theorem dX7_vote_45 : decode cX7_vote 45 = .ok (.iconst 0, 1) := by decide +kernel
theorem dX7_vote_46 : decode cX7_vote 46 = .ok (.ireturn, 1) := by decide +kernel
theorem dX7_vote_47 : decode cX7_vote 47 = .ok (.aload_n 0, 1) := by decide +kernel
theorem dX7_vote_48 : decode cX7_vote 48 = .ok (.getfield 116, 3) := by decide +kernel
theorem dX7_vote_51 : decode cX7_vote 51 = .ok (.iload_n 1, 1) := by decide +kernel
theorem dX7_vote_52 : decode cX7_vote 52 = .ok (.dup2, 1) := by decide +kernel
theorem dX7_vote_53 : decode cX7_vote 53 = .ok (.iaload, 1) := by decide +kernel
theorem dX7_vote_54 : decode cX7_vote 54 = .ok (.iload_n 2, 1) := by decide +kernel
theorem dX7_vote_55 : decode cX7_vote 55 = .ok (.ifCond .eq 7, 3) := by decide +kernel
theorem dX7_vote_58 : decode cX7_vote 58 = .ok (.iconst 1, 1) := by decide +kernel
theorem dX7_vote_59 : decode cX7_vote 59 = .ok (.goto 4, 3) := by decide +kernel
theorem dX7_vote_62 : decode cX7_vote 62 = .ok (.iconst 0, 1) := by decide +kernel
theorem dX7_vote_63 : decode cX7_vote 63 = .ok (.iadd, 1) := by decide +kernel
theorem dX7_vote_64 : decode cX7_vote 64 = .ok (.iastore, 1) := by decide +kernel
theorem dX7_vote_65 : decode cX7_vote 65 = .ok (.aload_n 0, 1) := by decide +kernel
theorem dX7_vote_66 : decode cX7_vote 66 = .ok (.getfield 119, 3) := by decide +kernel
theorem dX7_vote_69 : decode cX7_vote 69 = .ok (.iload_n 1, 1) := by decide +kernel
theorem dX7_vote_70 : decode cX7_vote 70 = .ok (.dup2, 1) := by decide +kernel
theorem dX7_vote_71 : decode cX7_vote 71 = .ok (.iaload, 1) := by decide +kernel
theorem dX7_vote_72 : decode cX7_vote 72 = .ok (.iload_n 2, 1) := by decide +kernel
theorem dX7_vote_73 : decode cX7_vote 73 = .ok (.ifCond .eq 7, 3) := by decide +kernel
theorem dX7_vote_76 : decode cX7_vote 76 = .ok (.iconst 0, 1) := by decide +kernel
theorem dX7_vote_77 : decode cX7_vote 77 = .ok (.goto 4, 3) := by decide +kernel
theorem dX7_vote_80 : decode cX7_vote 80 = .ok (.iconst 1, 1) := by decide +kernel
theorem dX7_vote_81 : decode cX7_vote 81 = .ok (.iadd, 1) := by decide +kernel
theorem dX7_vote_82 : decode cX7_vote 82 = .ok (.iastore, 1) := by decide +kernel
theorem dX7_vote_83 : decode cX7_vote 83 = .ok (.aload_n 0, 1) := by decide +kernel
theorem dX7_vote_84 : decode cX7_vote 84 = .ok (.iload_n 1, 1) := by decide +kernel
theorem dX7_vote_85 : decode cX7_vote 85 = .ok (.invokevirtual 248, 3) := by decide +kernel
theorem dX7_vote_88 : decode cX7_vote 88 = .ok (.ireturn, 1) := by decide +kernel
theorem dX7_ofShip_0 : decode cX7_ofShip 0 = .ok (.aload_n 0, 1) := by decide +kernel
theorem dX7_ofShip_1 : decode cX7_ofShip 1 = .ok (.aload_n 0, 1) := by decide +kernel
theorem dX7_ofShip_2 : decode cX7_ofShip 2 = .ok (.iload_n 1, 1) := by decide +kernel
theorem dX7_ofShip_3 : decode cX7_ofShip 3 = .ok (.invokevirtual 153, 3) := by decide +kernel
theorem dX7_ofShip_6 : decode cX7_ofShip 6 = .ok (.ifCond .ne 7, 3) := by decide +kernel
theorem dX7_ofShip_9 : decode cX7_ofShip 9 = .ok (.iconst 1, 1) := by decide +kernel
theorem dX7_ofShip_10 : decode cX7_ofShip 10 = .ok (.goto 18, 3) := by decide +kernel
theorem dX7_ofShip_13 : decode cX7_ofShip 13 = .ok (.iload_n 2, 1) := by decide +kernel
theorem dX7_ofShip_14 : decode cX7_ofShip 14 = .ok (.iconst 0, 1) := by decide +kernel
theorem dX7_ofShip_15 : decode cX7_ofShip 15 = .ok (.bipush 7, 2) := by decide +kernel
theorem dX7_ofShip_17 : decode cX7_ofShip 17 = .ok (.invokestatic 135, 3) := by decide +kernel
theorem dX7_ofShip_20 : decode cX7_ofShip 20 = .ok (.ifCond .eq 7, 3) := by decide +kernel
theorem dX7_ofShip_23 : decode cX7_ofShip 23 = .ok (.iconst 0, 1) := by decide +kernel
theorem dX7_ofShip_24 : decode cX7_ofShip 24 = .ok (.goto 4, 3) := by decide +kernel
theorem dX7_ofShip_27 : decode cX7_ofShip 27 = .ok (.iconst 2, 1) := by decide +kernel
theorem dX7_ofShip_28 : decode cX7_ofShip 28 = .ok (.putfield 128, 3) := by decide +kernel
theorem dX7_ofShip_31 : decode cX7_ofShip 31 = .ok (.aload_n 0, 1) := by decide +kernel
theorem dX7_ofShip_32 : decode cX7_ofShip 32 = .ok (.getfield 128, 3) := by decide +kernel
theorem dX7_ofShip_35 : decode cX7_ofShip 35 = .ok (.ifCond .le 5, 3) := by decide +kernel
theorem dX7_ofShip_38 : decode cX7_ofShip 38 = .ok (.iconst 0, 1) := by decide +kernel
theorem dX7_ofShip_39 : decode cX7_ofShip 39 = .ok (.ireturn, 1) := by decide +kernel
theorem dX7_ofShip_40 : decode cX7_ofShip 40 = .ok (.iload_n 2, 1) := by decide +kernel
theorem dX7_ofShip_41 : decode cX7_ofShip 41 = .ok (.tableswitch 105 0 6 #[43, 49, 55, 61, 68, 84, 98], 43) := by decide +kernel
theorem dX7_ofShip_84 : decode cX7_ofShip 84 = .ok (.aload_n 0, 1) := by decide +kernel
theorem dX7_ofShip_85 : decode cX7_ofShip 85 = .ok (.iload_n 1, 1) := by decide +kernel
theorem dX7_ofShip_86 : decode cX7_ofShip 86 = .ok (.invokevirtual 207, 3) := by decide +kernel
theorem dX7_ofShip_89 : decode cX7_ofShip 89 = .ok (.ireturn, 1) := by decide +kernel
theorem dX7_ofShip_90 : decode cX7_ofShip 90 = .ok (.aload_n 0, 1) := by decide +kernel
theorem dX7_ofShip_91 : decode cX7_ofShip 91 = .ok (.iload_n 1, 1) := by decide +kernel
theorem dX7_ofShip_92 : decode cX7_ofShip 92 = .ok (.invokevirtual 210, 3) := by decide +kernel
theorem dX7_ofShip_95 : decode cX7_ofShip 95 = .ok (.ireturn, 1) := by decide +kernel
theorem dX7_ofShip_96 : decode cX7_ofShip 96 = .ok (.aload_n 0, 1) := by decide +kernel
theorem dX7_ofShip_97 : decode cX7_ofShip 97 = .ok (.iload_n 1, 1) := by decide +kernel
theorem dX7_ofShip_98 : decode cX7_ofShip 98 = .ok (.invokevirtual 219, 3) := by decide +kernel
theorem dX7_ofShip_101 : decode cX7_ofShip 101 = .ok (.ireturn, 1) := by decide +kernel
theorem dX7_ofShip_102 : decode cX7_ofShip 102 = .ok (.aload_n 0, 1) := by decide +kernel
theorem dX7_ofShip_103 : decode cX7_ofShip 103 = .ok (.getfield 32, 3) := by decide +kernel
theorem dX7_ofShip_106 : decode cX7_ofShip 106 = .ok (.iload_n 1, 1) := by decide +kernel
theorem dX7_ofShip_107 : decode cX7_ofShip 107 = .ok (.iaload, 1) := by decide +kernel
theorem dX7_ofShip_108 : decode cX7_ofShip 108 = .ok (.ireturn, 1) := by decide +kernel
theorem dX7_ofShip_109 : decode cX7_ofShip 109 = .ok (.aload_n 0, 1) := by decide +kernel
theorem dX7_ofShip_110 : decode cX7_ofShip 110 = .ok (.getfield 41, 3) := by decide +kernel
theorem dX7_ofShip_113 : decode cX7_ofShip 113 = .ok (.iload_n 1, 1) := by decide +kernel
theorem dX7_ofShip_114 : decode cX7_ofShip 114 = .ok (.iaload, 1) := by decide +kernel
theorem dX7_ofShip_115 : decode cX7_ofShip 115 = .ok (.iconst (-1), 1) := by decide +kernel
theorem dX7_ofShip_116 : decode cX7_ofShip 116 = .ok (.if_icmp .ne 7, 3) := by decide +kernel
theorem dX7_ofShip_119 : decode cX7_ofShip 119 = .ok (.iconst 0, 1) := by decide +kernel
theorem dX7_ofShip_120 : decode cX7_ofShip 120 = .ok (.goto 4, 3) := by decide +kernel
theorem dX7_ofShip_123 : decode cX7_ofShip 123 = .ok (.iconst 1, 1) := by decide +kernel
theorem dX7_ofShip_124 : decode cX7_ofShip 124 = .ok (.ireturn, 1) := by decide +kernel
theorem dX7_ofShip_125 : decode cX7_ofShip 125 = .ok (.aload_n 0, 1) := by decide +kernel
theorem dX7_ofShip_126 : decode cX7_ofShip 126 = .ok (.iload_n 1, 1) := by decide +kernel
theorem dX7_ofShip_127 : decode cX7_ofShip 127 = .ok (.invokevirtual 216, 3) := by decide +kernel
theorem dX7_ofShip_130 : decode cX7_ofShip 130 = .ok (.ifCond .eq 7, 3) := by decide +kernel
theorem dX7_ofShip_133 : decode cX7_ofShip 133 = .ok (.iconst 1, 1) := by decide +kernel
theorem dX7_ofShip_134 : decode cX7_ofShip 134 = .ok (.goto 4, 3) := by decide +kernel
theorem dX7_ofShip_137 : decode cX7_ofShip 137 = .ok (.iconst 0, 1) := by decide +kernel
theorem dX7_ofShip_138 : decode cX7_ofShip 138 = .ok (.ireturn, 1) := by decide +kernel
theorem dX7_ofShip_139 : decode cX7_ofShip 139 = .ok (.aload_n 0, 1) := by decide +kernel
theorem dX7_ofShip_140 : decode cX7_ofShip 140 = .ok (.getfield 53, 3) := by decide +kernel
theorem dX7_ofShip_143 : decode cX7_ofShip 143 = .ok (.iload_n 1, 1) := by decide +kernel
theorem dX7_ofShip_144 : decode cX7_ofShip 144 = .ok (.iaload, 1) := by decide +kernel
theorem dX7_ofShip_145 : decode cX7_ofShip 145 = .ok (.ireturn, 1) := by decide +kernel
theorem dX7_ofShip_146 : decode cX7_ofShip 146 = .ok (.aload_n 0, 1) := by decide +kernel
theorem dX7_ofShip_147 : decode cX7_ofShip 147 = .ok (.iload_n 1, 1) := by decide +kernel
theorem dX7_ofShip_148 : decode cX7_ofShip 148 = .ok (.invokevirtual 222, 3) := by decide +kernel
theorem dX7_ofShip_151 : decode cX7_ofShip 151 = .ok (.ireturn, 1) := by decide +kernel
theorem dX7_pointsAnew_0 : decode cX7_pointsAnew 0 = .ok (.aload_n 0, 1) := by decide +kernel
theorem dX7_pointsAnew_1 : decode cX7_pointsAnew 1 = .ok (.aload_n 0, 1) := by decide +kernel
theorem dX7_pointsAnew_2 : decode cX7_pointsAnew 2 = .ok (.iload_n 1, 1) := by decide +kernel
theorem dX7_pointsAnew_3 : decode cX7_pointsAnew 3 = .ok (.invokevirtual 153, 3) := by decide +kernel
theorem dX7_pointsAnew_6 : decode cX7_pointsAnew 6 = .ok (.ifCond .eq 7, 3) := by decide +kernel
theorem dX7_pointsAnew_9 : decode cX7_pointsAnew 9 = .ok (.iconst 0, 1) := by decide +kernel
theorem dX7_pointsAnew_10 : decode cX7_pointsAnew 10 = .ok (.goto 4, 3) := by decide +kernel
theorem dX7_pointsAnew_13 : decode cX7_pointsAnew 13 = .ok (.iconst 1, 1) := by decide +kernel
theorem dX7_pointsAnew_14 : decode cX7_pointsAnew 14 = .ok (.putfield 128, 3) := by decide +kernel
theorem dX7_pointsAnew_17 : decode cX7_pointsAnew 17 = .ok (.aload_n 0, 1) := by decide +kernel
theorem dX7_pointsAnew_18 : decode cX7_pointsAnew 18 = .ok (.getfield 128, 3) := by decide +kernel
theorem dX7_pointsAnew_21 : decode cX7_pointsAnew 21 = .ok (.ifCond .le 7, 3) := by decide +kernel
theorem dX7_pointsAnew_24 : decode cX7_pointsAnew 24 = .ok (.iconst 0, 1) := by decide +kernel
theorem dX7_pointsAnew_25 : decode cX7_pointsAnew 25 = .ok (.goto 8, 3) := by decide +kernel
theorem dX7_pointsAnew_28 : decode cX7_pointsAnew 28 = .ok (.aload_n 0, 1) := by decide +kernel
theorem dX7_pointsAnew_29 : decode cX7_pointsAnew 29 = .ok (.iload_n 1, 1) := by decide +kernel
theorem dX7_pointsAnew_30 : decode cX7_pointsAnew 30 = .ok (.invokevirtual 207, 3) := by decide +kernel
theorem dX7_pointsAnew_33 : decode cX7_pointsAnew 33 = .ok (.ireturn, 1) := by decide +kernel
theorem dX7_isGround_0 : decode cX7_isGround 0 = .ok (.aload_n 0, 1) := by decide +kernel
theorem dX7_isGround_1 : decode cX7_isGround 1 = .ok (.aload_n 0, 1) := by decide +kernel
theorem dX7_isGround_2 : decode cX7_isGround 2 = .ok (.iload_n 1, 1) := by decide +kernel
theorem dX7_isGround_3 : decode cX7_isGround 3 = .ok (.invokevirtual 153, 3) := by decide +kernel
theorem dX7_isGround_6 : decode cX7_isGround 6 = .ok (.ifCond .ne 7, 3) := by decide +kernel
theorem dX7_isGround_9 : decode cX7_isGround 9 = .ok (.iconst 1, 1) := by decide +kernel
theorem dX7_isGround_10 : decode cX7_isGround 10 = .ok (.goto 18, 3) := by decide +kernel
theorem dX7_isGround_13 : decode cX7_isGround 13 = .ok (.iload_n 2, 1) := by decide +kernel
theorem dX7_isGround_14 : decode cX7_isGround 14 = .ok (.iconst 0, 1) := by decide +kernel
theorem dX7_isGround_15 : decode cX7_isGround 15 = .ok (.bipush 9, 2) := by decide +kernel
theorem dX7_isGround_17 : decode cX7_isGround 17 = .ok (.invokestatic 135, 3) := by decide +kernel
theorem dX7_isGround_20 : decode cX7_isGround 20 = .ok (.ifCond .eq 7, 3) := by decide +kernel
theorem dX7_isGround_23 : decode cX7_isGround 23 = .ok (.iconst 0, 1) := by decide +kernel
theorem dX7_isGround_24 : decode cX7_isGround 24 = .ok (.goto 4, 3) := by decide +kernel
theorem dX7_isGround_27 : decode cX7_isGround 27 = .ok (.iconst 2, 1) := by decide +kernel
theorem dX7_isGround_28 : decode cX7_isGround 28 = .ok (.putfield 128, 3) := by decide +kernel
theorem dX7_isGround_31 : decode cX7_isGround 31 = .ok (.aload_n 0, 1) := by decide +kernel
theorem dX7_isGround_32 : decode cX7_isGround 32 = .ok (.getfield 128, 3) := by decide +kernel
theorem dX7_isGround_35 : decode cX7_isGround 35 = .ok (.ifCond .ne 16, 3) := by decide +kernel
theorem dX7_isGround_38 : decode cX7_isGround 38 = .ok (.aload_n 0, 1) := by decide +kernel
theorem dX7_isGround_39 : decode cX7_isGround 39 = .ok (.iload_n 1, 1) := by decide +kernel
theorem dX7_isGround_40 : decode cX7_isGround 40 = .ok (.iload_n 2, 1) := by decide +kernel
theorem dX7_isGround_41 : decode cX7_isGround 41 = .ok (.invokevirtual 234, 3) := by decide +kernel
theorem dX7_isGround_44 : decode cX7_isGround 44 = .ok (.ifCond .eq 7, 3) := by decide +kernel
theorem dX7_isGround_47 : decode cX7_isGround 47 = .ok (.iconst 1, 1) := by decide +kernel
theorem dX7_isGround_48 : decode cX7_isGround 48 = .ok (.goto 4, 3) := by decide +kernel
theorem dX7_isGround_51 : decode cX7_isGround 51 = .ok (.iconst 0, 1) := by decide +kernel
theorem dX7_isGround_52 : decode cX7_isGround 52 = .ok (.ireturn, 1) := by decide +kernel
theorem dX7_ofVisit_0 : decode cX7_ofVisit 0 = .ok (.aload_n 0, 1) := by decide +kernel
theorem dX7_ofVisit_1 : decode cX7_ofVisit 1 = .ok (.aload_n 0, 1) := by decide +kernel
theorem dX7_ofVisit_2 : decode cX7_ofVisit 2 = .ok (.iload_n 1, 1) := by decide +kernel
theorem dX7_ofVisit_3 : decode cX7_ofVisit 3 = .ok (.invokevirtual 228, 3) := by decide +kernel
theorem dX7_ofVisit_6 : decode cX7_ofVisit 6 = .ok (.ifCond .ne 7, 3) := by decide +kernel
theorem dX7_ofVisit_9 : decode cX7_ofVisit 9 = .ok (.iconst 1, 1) := by decide +kernel
theorem dX7_ofVisit_10 : decode cX7_ofVisit 10 = .ok (.goto 18, 3) := by decide +kernel
theorem dX7_ofVisit_13 : decode cX7_ofVisit 13 = .ok (.iload_n 2, 1) := by decide +kernel
theorem dX7_ofVisit_14 : decode cX7_ofVisit 14 = .ok (.iconst 0, 1) := by decide +kernel
theorem dX7_ofVisit_15 : decode cX7_ofVisit 15 = .ok (.bipush 6, 2) := by decide +kernel
theorem dX7_ofVisit_17 : decode cX7_ofVisit 17 = .ok (.invokestatic 135, 3) := by decide +kernel
theorem dX7_ofVisit_20 : decode cX7_ofVisit 20 = .ok (.ifCond .eq 7, 3) := by decide +kernel
theorem dX7_ofVisit_23 : decode cX7_ofVisit 23 = .ok (.iconst 0, 1) := by decide +kernel
theorem dX7_ofVisit_24 : decode cX7_ofVisit 24 = .ok (.goto 4, 3) := by decide +kernel
theorem dX7_ofVisit_27 : decode cX7_ofVisit 27 = .ok (.iconst 2, 1) := by decide +kernel
theorem dX7_ofVisit_28 : decode cX7_ofVisit 28 = .ok (.putfield 128, 3) := by decide +kernel
theorem dX7_ofVisit_31 : decode cX7_ofVisit 31 = .ok (.aload_n 0, 1) := by decide +kernel
theorem dX7_ofVisit_32 : decode cX7_ofVisit 32 = .ok (.getfield 128, 3) := by decide +kernel
theorem dX7_ofVisit_35 : decode cX7_ofVisit 35 = .ok (.ifCond .le 5, 3) := by decide +kernel
theorem dX7_ofVisit_38 : decode cX7_ofVisit 38 = .ok (.iconst 0, 1) := by decide +kernel
theorem dX7_ofVisit_39 : decode cX7_ofVisit 39 = .ok (.ireturn, 1) := by decide +kernel
theorem dX7_ofVisit_40 : decode cX7_ofVisit 40 = .ok (.iload_n 2, 1) := by decide +kernel
theorem dX7_ofVisit_41 : decode cX7_ofVisit 41 = .ok (.tableswitch 80 0 5 #[39, 46, 53, 60, 67, 74], 39) := by decide +kernel
theorem dX7_ofVisit_80 : decode cX7_ofVisit 80 = .ok (.aload_n 0, 1) := by decide +kernel
theorem dX7_ofVisit_81 : decode cX7_ofVisit 81 = .ok (.getfield 86, 3) := by decide +kernel
theorem dX7_ofVisit_84 : decode cX7_ofVisit 84 = .ok (.iload_n 1, 1) := by decide +kernel
theorem dX7_ofVisit_85 : decode cX7_ofVisit 85 = .ok (.iaload, 1) := by decide +kernel
theorem dX7_ofVisit_86 : decode cX7_ofVisit 86 = .ok (.ireturn, 1) := by decide +kernel
theorem dX7_ofVisit_87 : decode cX7_ofVisit 87 = .ok (.aload_n 0, 1) := by decide +kernel
theorem dX7_ofVisit_88 : decode cX7_ofVisit 88 = .ok (.getfield 89, 3) := by decide +kernel
theorem dX7_ofVisit_91 : decode cX7_ofVisit 91 = .ok (.iload_n 1, 1) := by decide +kernel
theorem dX7_ofVisit_92 : decode cX7_ofVisit 92 = .ok (.iaload, 1) := by decide +kernel
theorem dX7_ofVisit_93 : decode cX7_ofVisit 93 = .ok (.ireturn, 1) := by decide +kernel
theorem dX7_ofVisit_94 : decode cX7_ofVisit 94 = .ok (.aload_n 0, 1) := by decide +kernel
theorem dX7_ofVisit_95 : decode cX7_ofVisit 95 = .ok (.getfield 92, 3) := by decide +kernel
theorem dX7_ofVisit_98 : decode cX7_ofVisit 98 = .ok (.iload_n 1, 1) := by decide +kernel
theorem dX7_ofVisit_99 : decode cX7_ofVisit 99 = .ok (.iaload, 1) := by decide +kernel
theorem dX7_ofVisit_100 : decode cX7_ofVisit 100 = .ok (.ireturn, 1) := by decide +kernel
theorem dX7_ofVisit_101 : decode cX7_ofVisit 101 = .ok (.aload_n 0, 1) := by decide +kernel
theorem dX7_ofVisit_102 : decode cX7_ofVisit 102 = .ok (.getfield 95, 3) := by decide +kernel
theorem dX7_ofVisit_105 : decode cX7_ofVisit 105 = .ok (.iload_n 1, 1) := by decide +kernel
theorem dX7_ofVisit_106 : decode cX7_ofVisit 106 = .ok (.iaload, 1) := by decide +kernel
theorem dX7_ofVisit_107 : decode cX7_ofVisit 107 = .ok (.ireturn, 1) := by decide +kernel
theorem dX7_ofVisit_108 : decode cX7_ofVisit 108 = .ok (.aload_n 0, 1) := by decide +kernel
theorem dX7_ofVisit_109 : decode cX7_ofVisit 109 = .ok (.getfield 101, 3) := by decide +kernel
theorem dX7_ofVisit_112 : decode cX7_ofVisit 112 = .ok (.iload_n 1, 1) := by decide +kernel
theorem dX7_ofVisit_113 : decode cX7_ofVisit 113 = .ok (.iaload, 1) := by decide +kernel
theorem dX7_ofVisit_114 : decode cX7_ofVisit 114 = .ok (.ireturn, 1) := by decide +kernel
theorem dX7_ofVisit_115 : decode cX7_ofVisit 115 = .ok (.aload_n 0, 1) := by decide +kernel
theorem dX7_ofVisit_116 : decode cX7_ofVisit 116 = .ok (.iload_n 1, 1) := by decide +kernel
theorem dX7_ofVisit_117 : decode cX7_ofVisit 117 = .ok (.invokevirtual 237, 3) := by decide +kernel
theorem dX7_ofVisit_120 : decode cX7_ofVisit 120 = .ok (.ireturn, 1) := by decide +kernel
theorem dX7_ofVisit_121 : decode cX7_ofVisit 121 = .ok (.aload_n 0, 1) := by decide +kernel
theorem dX7_ofVisit_122 : decode cX7_ofVisit 122 = .ok (.iload_n 1, 1) := by decide +kernel
theorem dX7_ofVisit_123 : decode cX7_ofVisit 123 = .ok (.invokevirtual 192, 3) := by decide +kernel
theorem dX7_ofVisit_126 : decode cX7_ofVisit 126 = .ok (.ifCond .eq 7, 3) := by decide +kernel
theorem dX7_ofVisit_129 : decode cX7_ofVisit 129 = .ok (.iconst 1, 1) := by decide +kernel
theorem dX7_ofVisit_130 : decode cX7_ofVisit 130 = .ok (.goto 4, 3) := by decide +kernel
theorem dX7_ofVisit_133 : decode cX7_ofVisit 133 = .ok (.iconst 0, 1) := by decide +kernel
theorem dX7_ofVisit_134 : decode cX7_ofVisit 134 = .ok (.ireturn, 1) := by decide +kernel
theorem dX7_list_0 : decode cX7_list 0 = .ok (.aload_n 0, 1) := by decide +kernel
theorem dX7_list_1 : decode cX7_list 1 = .ok (.iload_n 1, 1) := by decide +kernel
theorem dX7_list_2 : decode cX7_list 2 = .ok (.invokestatic 146, 3) := by decide +kernel
theorem dX7_list_5 : decode cX7_list 5 = .ok (.ifCond .eq 7, 3) := by decide +kernel
theorem dX7_list_8 : decode cX7_list 8 = .ok (.iconst 0, 1) := by decide +kernel
theorem dX7_list_9 : decode cX7_list 9 = .ok (.goto 4, 3) := by decide +kernel
theorem dX7_list_12 : decode cX7_list 12 = .ok (.iconst 1, 1) := by decide +kernel
theorem dX7_list_13 : decode cX7_list 13 = .ok (.putfield 128, 3) := by decide +kernel
theorem dX7_list_16 : decode cX7_list 16 = .ok (.aload_n 0, 1) := by decide +kernel
theorem dX7_list_17 : decode cX7_list 17 = .ok (.getfield 128, 3) := by decide +kernel
theorem dX7_list_20 : decode cX7_list 20 = .ok (.ifCond .le 7, 3) := by decide +kernel
theorem dX7_list_23 : decode cX7_list 23 = .ok (.iconst 0, 1) := by decide +kernel
theorem dX7_list_24 : decode cX7_list 24 = .ok (.goto 8, 3) := by decide +kernel
theorem dX7_list_27 : decode cX7_list 27 = .ok (.aload_n 0, 1) := by decide +kernel
theorem dX7_list_28 : decode cX7_list 28 = .ok (.iload_n 1, 1) := by decide +kernel
theorem dX7_list_29 : decode cX7_list 29 = .ok (.invokevirtual 195, 3) := by decide +kernel
theorem dX7_list_32 : decode cX7_list 32 = .ok (.ireturn, 1) := by decide +kernel
theorem dX7_missed_0 : decode cX7_missed 0 = .ok (.aload_n 0, 1) := by decide +kernel
theorem dX7_missed_1 : decode cX7_missed 1 = .ok (.iload_n 1, 1) := by decide +kernel
theorem dX7_missed_2 : decode cX7_missed 2 = .ok (.invokestatic 213, 3) := by decide +kernel
theorem dX7_missed_5 : decode cX7_missed 5 = .ok (.ifCond .eq 7, 3) := by decide +kernel
theorem dX7_missed_8 : decode cX7_missed 8 = .ok (.iconst 0, 1) := by decide +kernel
theorem dX7_missed_9 : decode cX7_missed 9 = .ok (.goto 4, 3) := by decide +kernel
theorem dX7_missed_12 : decode cX7_missed 12 = .ok (.iconst 1, 1) := by decide +kernel
theorem dX7_missed_13 : decode cX7_missed 13 = .ok (.putfield 128, 3) := by decide +kernel
theorem dX7_missed_16 : decode cX7_missed 16 = .ok (.aload_n 0, 1) := by decide +kernel
theorem dX7_missed_17 : decode cX7_missed 17 = .ok (.getfield 128, 3) := by decide +kernel
theorem dX7_missed_20 : decode cX7_missed 20 = .ok (.ifCond .le 7, 3) := by decide +kernel
theorem dX7_missed_23 : decode cX7_missed 23 = .ok (.iconst 0, 1) := by decide +kernel
theorem dX7_missed_24 : decode cX7_missed 24 = .ok (.goto 9, 3) := by decide +kernel
theorem dX7_missed_27 : decode cX7_missed 27 = .ok (.aload_n 0, 1) := by decide +kernel
theorem dX7_missed_28 : decode cX7_missed 28 = .ok (.getfield 125, 3) := by decide +kernel
theorem dX7_missed_31 : decode cX7_missed 31 = .ok (.iload_n 1, 1) := by decide +kernel
theorem dX7_missed_32 : decode cX7_missed 32 = .ok (.iaload, 1) := by decide +kernel
theorem dX7_missed_33 : decode cX7_missed 33 = .ok (.ireturn, 1) := by decide +kernel
theorem dX7_knew_0 : decode cX7_knew 0 = .ok (.aload_n 0, 1) := by decide +kernel
theorem dX7_knew_1 : decode cX7_knew 1 = .ok (.aload_n 0, 1) := by decide +kernel
theorem dX7_knew_2 : decode cX7_knew 2 = .ok (.iload_n 1, 1) := by decide +kernel
theorem dX7_knew_3 : decode cX7_knew 3 = .ok (.invokevirtual 153, 3) := by decide +kernel
theorem dX7_knew_6 : decode cX7_knew 6 = .ok (.ifCond .eq 10, 3) := by decide +kernel
theorem dX7_knew_9 : decode cX7_knew 9 = .ok (.iload_n 2, 1) := by decide +kernel
theorem dX7_knew_10 : decode cX7_knew 10 = .ok (.invokestatic 213, 3) := by decide +kernel
theorem dX7_knew_13 : decode cX7_knew 13 = .ok (.ifCond .ne 7, 3) := by decide +kernel
theorem dX7_knew_16 : decode cX7_knew 16 = .ok (.iconst 1, 1) := by decide +kernel
theorem dX7_knew_17 : decode cX7_knew 17 = .ok (.goto 20, 3) := by decide +kernel
theorem dX7_knew_20 : decode cX7_knew 20 = .ok (.iload_n 3, 1) := by decide +kernel
theorem dX7_knew_21 : decode cX7_knew 21 = .ok (.iconst 0, 1) := by decide +kernel
theorem dX7_knew_22 : decode cX7_knew 22 = .ok (.aload_n 0, 1) := by decide +kernel
theorem dX7_knew_23 : decode cX7_knew 23 = .ok (.getfield 142, 3) := by decide +kernel
theorem dX7_knew_26 : decode cX7_knew 26 = .ok (.invokestatic 135, 3) := by decide +kernel
theorem dX7_knew_29 : decode cX7_knew 29 = .ok (.ifCond .eq 7, 3) := by decide +kernel
theorem dX7_knew_32 : decode cX7_knew 32 = .ok (.iconst 0, 1) := by decide +kernel
theorem dX7_knew_33 : decode cX7_knew 33 = .ok (.goto 4, 3) := by decide +kernel
theorem dX7_knew_36 : decode cX7_knew 36 = .ok (.iconst 2, 1) := by decide +kernel
theorem dX7_knew_37 : decode cX7_knew 37 = .ok (.putfield 128, 3) := by decide +kernel
theorem dX7_knew_40 : decode cX7_knew 40 = .ok (.iconst 0, 1) := by decide +kernel
theorem dX7_knew_41 : decode cX7_knew 41 = .ok (.istore 4, 2) := by decide +kernel
theorem dX7_knew_43 : decode cX7_knew 43 = .ok (.iconst 0, 1) := by decide +kernel
theorem dX7_knew_44 : decode cX7_knew 44 = .ok (.istore 5, 2) := by decide +kernel
theorem dX7_knew_46 : decode cX7_knew 46 = .ok (.iload 5, 2) := by decide +kernel
theorem dX7_knew_48 : decode cX7_knew 48 = .ok (.aload_n 0, 1) := by decide +kernel
theorem dX7_knew_49 : decode cX7_knew 49 = .ok (.getfield 139, 3) := by decide +kernel
theorem dX7_knew_52 : decode cX7_knew 52 = .ok (.if_icmp .ge 83, 3) := by decide +kernel
theorem dX7_knew_55 : decode cX7_knew 55 = .ok (.aload_n 0, 1) := by decide +kernel
theorem dX7_knew_56 : decode cX7_knew 56 = .ok (.getfield 128, 3) := by decide +kernel
theorem dX7_knew_59 : decode cX7_knew 59 = .ok (.ifCond .ne 76, 3) := by decide +kernel
theorem dX7_knew_62 : decode cX7_knew 62 = .ok (.aload_n 0, 1) := by decide +kernel
theorem dX7_knew_63 : decode cX7_knew 63 = .ok (.getfield 86, 3) := by decide +kernel
theorem dX7_knew_66 : decode cX7_knew 66 = .ok (.iload 5, 2) := by decide +kernel
theorem dX7_knew_68 : decode cX7_knew 68 = .ok (.iaload, 1) := by decide +kernel
theorem dX7_knew_69 : decode cX7_knew 69 = .ok (.iload_n 1, 1) := by decide +kernel
theorem dX7_knew_70 : decode cX7_knew 70 = .ok (.if_icmp .ne 35, 3) := by decide +kernel
theorem dX7_knew_73 : decode cX7_knew 73 = .ok (.aload_n 0, 1) := by decide +kernel
theorem dX7_knew_74 : decode cX7_knew 74 = .ok (.getfield 92, 3) := by decide +kernel
theorem dX7_knew_77 : decode cX7_knew 77 = .ok (.iload 5, 2) := by decide +kernel
theorem dX7_knew_79 : decode cX7_knew 79 = .ok (.iaload, 1) := by decide +kernel
theorem dX7_knew_80 : decode cX7_knew 80 = .ok (.aload_n 0, 1) := by decide +kernel
theorem dX7_knew_81 : decode cX7_knew 81 = .ok (.getfield 89, 3) := by decide +kernel
theorem dX7_knew_84 : decode cX7_knew 84 = .ok (.iload 5, 2) := by decide +kernel
theorem dX7_knew_86 : decode cX7_knew 86 = .ok (.iaload, 1) := by decide +kernel
theorem dX7_knew_87 : decode cX7_knew 87 = .ok (.iload_n 2, 1) := by decide +kernel
theorem dX7_knew_88 : decode cX7_knew 88 = .ok (.if_icmp .ne 7, 3) := by decide +kernel
theorem dX7_knew_91 : decode cX7_knew 91 = .ok (.iconst 0, 1) := by decide +kernel
theorem dX7_knew_92 : decode cX7_knew 92 = .ok (.goto 4, 3) := by decide +kernel
theorem dX7_knew_95 : decode cX7_knew 95 = .ok (.iconst 3, 1) := by decide +kernel
theorem dX7_knew_96 : decode cX7_knew 96 = .ok (.iadd, 1) := by decide +kernel
theorem dX7_knew_97 : decode cX7_knew 97 = .ok (.iload_n 3, 1) := by decide +kernel
theorem dX7_knew_98 : decode cX7_knew 98 = .ok (.if_icmp .gt 7, 3) := by decide +kernel
theorem dX7_knew_101 : decode cX7_knew 101 = .ok (.iconst 1, 1) := by decide +kernel
theorem dX7_knew_102 : decode cX7_knew 102 = .ok (.goto 4, 3) := by decide +kernel
theorem dX7_knew_105 : decode cX7_knew 105 = .ok (.iconst 0, 1) := by decide +kernel
theorem dX7_knew_106 : decode cX7_knew 106 = .ok (.istore 6, 2) := by decide +kernel
theorem dX7_knew_108 : decode cX7_knew 108 = .ok (.iload 4, 2) := by decide +kernel
theorem dX7_knew_110 : decode cX7_knew 110 = .ok (.iload 6, 2) := by decide +kernel
theorem dX7_knew_112 : decode cX7_knew 112 = .ok (.ifCond .eq 13, 3) := by decide +kernel
theorem dX7_knew_115 : decode cX7_knew 115 = .ok (.aload_n 0, 1) := by decide +kernel
theorem dX7_knew_116 : decode cX7_knew 116 = .ok (.getfield 101, 3) := by decide +kernel
theorem dX7_knew_119 : decode cX7_knew 119 = .ok (.iload 5, 2) := by decide +kernel
theorem dX7_knew_121 : decode cX7_knew 121 = .ok (.iaload, 1) := by decide +kernel
theorem dX7_knew_122 : decode cX7_knew 122 = .ok (.goto 4, 3) := by decide +kernel
theorem dX7_knew_125 : decode cX7_knew 125 = .ok (.iconst 0, 1) := by decide +kernel
theorem dX7_knew_126 : decode cX7_knew 126 = .ok (.iadd, 1) := by decide +kernel
theorem dX7_knew_127 : decode cX7_knew 127 = .ok (.istore 4, 2) := by decide +kernel
theorem dX7_knew_129 : decode cX7_knew 129 = .ok (.iinc 5 1, 3) := by decide +kernel
theorem dX7_knew_132 : decode cX7_knew 132 = .ok (.goto (-86), 3) := by decide +kernel
theorem dX7_knew_135 : decode cX7_knew 135 = .ok (.iload 4, 2) := by decide +kernel
theorem dX7_knew_137 : decode cX7_knew 137 = .ok (.ireturn, 1) := by decide +kernel
