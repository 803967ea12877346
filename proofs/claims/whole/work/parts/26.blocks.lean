/-! Block equations of the methods 122 to 148 (printed by a program of ours out of their code). -/
-- LeavesObject$Acts.runFrom(ILLeavesObject$Cup;III)I
theorem c122_0 : cdx (mC m122) 0 = some (0, .iload 5, 2, 5, 0, 0, 0, []) := rfl
theorem c122_2 : cdx (mC m122) 2 = some (2, .bipush 40, 2, 0, 0, 0, 0, []) := rfl
theorem c122_4 : cdx (mC m122) 4 = some (4, .if_icmp .lt 5, 3, 9, 0, 0, 0, []) := rfl
theorem c122_7 : cdx (mC m122) 7 = some (7, .iconst 0, 1, 0, 0, 0, 0, []) := rfl
theorem c122_8 : cdx (mC m122) 8 = some (8, .ireturn, 1, 0, 0, 0, 0, []) := rfl
theorem c122_9 : cdx (mC m122) 9 = some (9, .iload 5, 2, 5, 0, 0, 0, []) := rfl
theorem c122_11 : cdx (mC m122) 11 = some (11, .iconst 1, 1, 0, 0, 0, 0, []) := rfl
theorem c122_12 : cdx (mC m122) 12 = some (12, .iadd, 1, 0, 0, 0, 0, []) := rfl
theorem c122_13 : cdx (mC m122) 13 = some (13, .istore 6, 2, 6, 0, 0, 0, []) := rfl
theorem c122_15 : cdx (mC m122) 15 = some (15, .iload_n 1, 1, 1, 0, 0, 0, []) := rfl
theorem c122_16 : cdx (mC m122) 16 = some (16, .iload_n 3, 1, 3, 0, 0, 0, []) := rfl
theorem c122_17 : cdx (mC m122) 17 = some (17, .invokestatic 33, 3, 123, 2, 4, 4048, []) := rfl
theorem c122_20 : cdx (mC m122) 20 = some (20, .istore 7, 2, 7, 0, 0, 0, []) := rfl
theorem c122_22 : cdx (mC m122) 22 = some (22, .iload 7, 2, 7, 0, 0, 0, []) := rfl
theorem c122_24 : cdx (mC m122) 24 = some (24, .iload_n 3, 1, 3, 0, 0, 0, []) := rfl
theorem c122_25 : cdx (mC m122) 25 = some (25, .invokestatic 25, 3, 124, 2, 4, 4053, []) := rfl
theorem c122_28 : cdx (mC m122) 28 = some (28, .istore 8, 2, 8, 0, 0, 0, []) := rfl
theorem c122_30 : cdx (mC m122) 30 = some (30, .aload_n 0, 1, 0, 0, 0, 0, []) := rfl
theorem c122_31 : cdx (mC m122) 31 = some (31, .iload 8, 2, 8, 0, 0, 0, []) := rfl
theorem c122_33 : cdx (mC m122) 33 = some (33, .invokevirtual 36, 3, 125, 1, 0, 4058, [(0, 0)]) := rfl
theorem c122_36 : cdx (mC m122) 36 = some (36, .iload 8, 2, 8, 0, 0, 0, []) := rfl
theorem c122_38 : cdx (mC m122) 38 = some (38, .lookupswitch 291 #[(10, 98), (11, 106), (12, 126), (20, 143), (30, 159), (40, 174), (50, 201), (51, 215), (60, 230), (70, 248), (71, 273)], 98, 329, 0, 0, 0, [(10, 136), (11, 144), (12, 164), (20, 181), (30, 197), (40, 212), (50, 239), (51, 253), (60, 268), (70, 286), (71, 311)]) := rfl
theorem c122_136 : cdx (mC m122) 136 = some (136, .iload 4, 2, 4, 0, 0, 0, []) := rfl
theorem c122_138 : cdx (mC m122) 138 = some (138, .aload_n 2, 1, 2, 0, 0, 0, []) := rfl
theorem c122_139 : cdx (mC m122) 139 = some (139, .getfield 40, 3, 1, 0, 0, 1065, []) := rfl
theorem c122_142 : cdx (mC m122) 142 = some (142, .iadd, 1, 0, 0, 0, 0, []) := rfl
theorem c122_143 : cdx (mC m122) 143 = some (143, .ireturn, 1, 0, 0, 0, 0, []) := rfl
theorem c122_144 : cdx (mC m122) 144 = some (144, .aload_n 0, 1, 0, 0, 0, 0, []) := rfl
theorem c122_145 : cdx (mC m122) 145 = some (145, .aload_n 2, 1, 2, 0, 0, 0, []) := rfl
theorem c122_146 : cdx (mC m122) 146 = some (146, .getfield 45, 3, 1, 1, 0, 1069, []) := rfl
theorem c122_149 : cdx (mC m122) 149 = some (149, .aload_n 2, 1, 2, 0, 0, 0, []) := rfl
theorem c122_150 : cdx (mC m122) 150 = some (150, .iconst 0, 1, 0, 0, 0, 0, []) := rfl
set_option maxRecDepth 20000 in
theorem c122_151 : cdx (mC m122) 151 = some (151, .iload 4, 2, 4, 0, 0, 0, []) := rfl
set_option maxRecDepth 20000 in
theorem c122_153 : cdx (mC m122) 153 = some (153, .iload 6, 2, 6, 0, 0, 0, []) := rfl
set_option maxRecDepth 20000 in
theorem c122_155 : cdx (mC m122) 155 = some (155, .invokevirtual 29, 3, 122, 5, 0, 4062, [(0, 0)]) := rfl
set_option maxRecDepth 20000 in
theorem c122_158 : cdx (mC m122) 158 = some (158, .aload_n 2, 1, 2, 0, 0, 0, []) := rfl
set_option maxRecDepth 20000 in
theorem c122_159 : cdx (mC m122) 159 = some (159, .getfield 48, 3, 1, 2, 0, 1073, []) := rfl
set_option maxRecDepth 20000 in
theorem c122_162 : cdx (mC m122) 162 = some (162, .isub, 1, 0, 0, 0, 0, []) := rfl
set_option maxRecDepth 20000 in
theorem c122_163 : cdx (mC m122) 163 = some (163, .ireturn, 1, 0, 0, 0, 0, []) := rfl
set_option maxRecDepth 20000 in
theorem c122_164 : cdx (mC m122) 164 = some (164, .aload_n 0, 1, 0, 0, 0, 0, []) := rfl
set_option maxRecDepth 20000 in
theorem c122_165 : cdx (mC m122) 165 = some (165, .aload_n 2, 1, 2, 0, 0, 0, []) := rfl
set_option maxRecDepth 20000 in
theorem c122_166 : cdx (mC m122) 166 = some (166, .getfield 45, 3, 1, 1, 0, 1069, []) := rfl
set_option maxRecDepth 20000 in
theorem c122_169 : cdx (mC m122) 169 = some (169, .aload_n 2, 1, 2, 0, 0, 0, []) := rfl
set_option maxRecDepth 20000 in
theorem c122_170 : cdx (mC m122) 170 = some (170, .iconst 1, 1, 0, 0, 0, 0, []) := rfl
set_option maxRecDepth 20000 in
theorem c122_171 : cdx (mC m122) 171 = some (171, .iload 4, 2, 4, 0, 0, 0, []) := rfl
set_option maxRecDepth 20000 in
theorem c122_173 : cdx (mC m122) 173 = some (173, .iload 6, 2, 6, 0, 0, 0, []) := rfl
set_option maxRecDepth 20000 in
theorem c122_175 : cdx (mC m122) 175 = some (175, .invokevirtual 29, 3, 122, 5, 0, 4062, [(0, 0)]) := rfl
set_option maxRecDepth 20000 in
theorem c122_178 : cdx (mC m122) 178 = some (178, .iconst 2, 1, 0, 0, 0, 0, []) := rfl
set_option maxRecDepth 20000 in
theorem c122_179 : cdx (mC m122) 179 = some (179, .imul, 1, 0, 0, 0, 0, []) := rfl
set_option maxRecDepth 20000 in
theorem c122_180 : cdx (mC m122) 180 = some (180, .ireturn, 1, 0, 0, 0, 0, []) := rfl
set_option maxRecDepth 20000 in
theorem c122_181 : cdx (mC m122) 181 = some (181, .aload_n 0, 1, 0, 0, 0, 0, []) := rfl
set_option maxRecDepth 20000 in
theorem c122_182 : cdx (mC m122) 182 = some (182, .iload 7, 2, 7, 0, 0, 0, []) := rfl
set_option maxRecDepth 20000 in
theorem c122_184 : cdx (mC m122) 184 = some (184, .aload_n 2, 1, 2, 0, 0, 0, []) := rfl
set_option maxRecDepth 20000 in
theorem c122_185 : cdx (mC m122) 185 = some (185, .iconst 1, 1, 0, 0, 0, 0, []) := rfl
set_option maxRecDepth 20000 in
theorem c122_186 : cdx (mC m122) 186 = some (186, .iload 4, 2, 4, 0, 0, 0, []) := rfl
set_option maxRecDepth 20000 in
theorem c122_188 : cdx (mC m122) 188 = some (188, .iload 6, 2, 6, 0, 0, 0, []) := rfl
set_option maxRecDepth 20000 in
theorem c122_190 : cdx (mC m122) 190 = some (190, .invokevirtual 51, 3, 126, 5, 0, 4063, [(0, 0)]) := rfl
set_option maxRecDepth 20000 in
theorem c122_193 : cdx (mC m122) 193 = some (193, .bipush 6, 2, 0, 0, 0, 0, []) := rfl
set_option maxRecDepth 20000 in
theorem c122_195 : cdx (mC m122) 195 = some (195, .ixor, 1, 0, 0, 0, 0, []) := rfl
set_option maxRecDepth 20000 in
theorem c122_196 : cdx (mC m122) 196 = some (196, .ireturn, 1, 0, 0, 0, 0, []) := rfl
set_option maxRecDepth 20000 in
theorem c122_197 : cdx (mC m122) 197 = some (197, .aload_n 0, 1, 0, 0, 0, 0, []) := rfl
set_option maxRecDepth 20000 in
theorem c122_198 : cdx (mC m122) 198 = some (198, .iload 7, 2, 7, 0, 0, 0, []) := rfl
set_option maxRecDepth 20000 in
theorem c122_200 : cdx (mC m122) 200 = some (200, .aload_n 2, 1, 2, 0, 0, 0, []) := rfl
set_option maxRecDepth 20000 in
theorem c122_201 : cdx (mC m122) 201 = some (201, .iconst 0, 1, 0, 0, 0, 0, []) := rfl
set_option maxRecDepth 20000 in
theorem c122_202 : cdx (mC m122) 202 = some (202, .iload 4, 2, 4, 0, 0, 0, []) := rfl
set_option maxRecDepth 20000 in
theorem c122_204 : cdx (mC m122) 204 = some (204, .iconst 3, 1, 0, 0, 0, 0, []) := rfl
set_option maxRecDepth 20000 in
theorem c122_205 : cdx (mC m122) 205 = some (205, .imul, 1, 0, 0, 0, 0, []) := rfl
set_option maxRecDepth 20000 in
theorem c122_206 : cdx (mC m122) 206 = some (206, .iload 6, 2, 6, 0, 0, 0, []) := rfl
set_option maxRecDepth 20000 in
theorem c122_208 : cdx (mC m122) 208 = some (208, .invokevirtual 51, 3, 126, 5, 0, 4063, [(0, 0)]) := rfl
set_option maxRecDepth 20000 in
theorem c122_211 : cdx (mC m122) 211 = some (211, .ireturn, 1, 0, 0, 0, 0, []) := rfl
set_option maxRecDepth 20000 in
theorem c122_212 : cdx (mC m122) 212 = some (212, .aload_n 0, 1, 0, 0, 0, 0, []) := rfl
set_option maxRecDepth 20000 in
theorem c122_213 : cdx (mC m122) 213 = some (213, .iload 7, 2, 7, 0, 0, 0, []) := rfl
set_option maxRecDepth 20000 in
theorem c122_215 : cdx (mC m122) 215 = some (215, .aload_n 2, 1, 2, 0, 0, 0, []) := rfl
set_option maxRecDepth 20000 in
theorem c122_216 : cdx (mC m122) 216 = some (216, .iconst 2, 1, 0, 0, 0, 0, []) := rfl
set_option maxRecDepth 20000 in
theorem c122_217 : cdx (mC m122) 217 = some (217, .iload 4, 2, 4, 0, 0, 0, []) := rfl
set_option maxRecDepth 20000 in
theorem c122_219 : cdx (mC m122) 219 = some (219, .iload 6, 2, 6, 0, 0, 0, []) := rfl
set_option maxRecDepth 20000 in
theorem c122_221 : cdx (mC m122) 221 = some (221, .invokevirtual 51, 3, 126, 5, 0, 4063, [(0, 0)]) := rfl
set_option maxRecDepth 20000 in
theorem c122_224 : cdx (mC m122) 224 = some (224, .aload_n 0, 1, 0, 0, 0, 0, []) := rfl
set_option maxRecDepth 20000 in
theorem c122_225 : cdx (mC m122) 225 = some (225, .aload_n 2, 1, 2, 0, 0, 0, []) := rfl
set_option maxRecDepth 20000 in
theorem c122_226 : cdx (mC m122) 226 = some (226, .getfield 45, 3, 1, 1, 0, 1069, []) := rfl
set_option maxRecDepth 20000 in
theorem c122_229 : cdx (mC m122) 229 = some (229, .aload_n 2, 1, 2, 0, 0, 0, []) := rfl
set_option maxRecDepth 20000 in
theorem c122_230 : cdx (mC m122) 230 = some (230, .iconst 1, 1, 0, 0, 0, 0, []) := rfl
set_option maxRecDepth 20000 in
theorem c122_231 : cdx (mC m122) 231 = some (231, .iconst 1, 1, 0, 0, 0, 0, []) := rfl
set_option maxRecDepth 20000 in
theorem c122_232 : cdx (mC m122) 232 = some (232, .iload 6, 2, 6, 0, 0, 0, []) := rfl
set_option maxRecDepth 20000 in
theorem c122_234 : cdx (mC m122) 234 = some (234, .invokevirtual 29, 3, 122, 5, 0, 4062, [(0, 0)]) := rfl
set_option maxRecDepth 20000 in
theorem c122_237 : cdx (mC m122) 237 = some (237, .iadd, 1, 0, 0, 0, 0, []) := rfl
set_option maxRecDepth 20000 in
theorem c122_238 : cdx (mC m122) 238 = some (238, .ireturn, 1, 0, 0, 0, 0, []) := rfl
set_option maxRecDepth 20000 in
theorem c122_239 : cdx (mC m122) 239 = some (239, .aload_n 0, 1, 0, 0, 0, 0, []) := rfl
set_option maxRecDepth 20000 in
theorem c122_240 : cdx (mC m122) 240 = some (240, .iload 7, 2, 7, 0, 0, 0, []) := rfl
set_option maxRecDepth 20000 in
theorem c122_242 : cdx (mC m122) 242 = some (242, .aload_n 2, 1, 2, 0, 0, 0, []) := rfl
set_option maxRecDepth 20000 in
theorem c122_243 : cdx (mC m122) 243 = some (243, .iconst 0, 1, 0, 0, 0, 0, []) := rfl
set_option maxRecDepth 20000 in
theorem c122_244 : cdx (mC m122) 244 = some (244, .iload 4, 2, 4, 0, 0, 0, []) := rfl
set_option maxRecDepth 20000 in
theorem c122_246 : cdx (mC m122) 246 = some (246, .iload 6, 2, 6, 0, 0, 0, []) := rfl
set_option maxRecDepth 20000 in
theorem c122_248 : cdx (mC m122) 248 = some (248, .invokevirtual 51, 3, 126, 5, 0, 4063, [(0, 0)]) := rfl
set_option maxRecDepth 20000 in
theorem c122_251 : cdx (mC m122) 251 = some (251, .ineg, 1, 0, 0, 0, 0, []) := rfl
set_option maxRecDepth 20000 in
theorem c122_252 : cdx (mC m122) 252 = some (252, .ireturn, 1, 0, 0, 0, 0, []) := rfl
set_option maxRecDepth 20000 in
theorem c122_253 : cdx (mC m122) 253 = some (253, .aload_n 0, 1, 0, 0, 0, 0, []) := rfl
set_option maxRecDepth 20000 in
theorem c122_254 : cdx (mC m122) 254 = some (254, .iload 7, 2, 7, 0, 0, 0, []) := rfl
set_option maxRecDepth 20000 in
theorem c122_256 : cdx (mC m122) 256 = some (256, .aload_n 2, 1, 2, 0, 0, 0, []) := rfl
set_option maxRecDepth 20000 in
theorem c122_257 : cdx (mC m122) 257 = some (257, .iconst 1, 1, 0, 0, 0, 0, []) := rfl
set_option maxRecDepth 20000 in
theorem c122_258 : cdx (mC m122) 258 = some (258, .iload 4, 2, 4, 0, 0, 0, []) := rfl
set_option maxRecDepth 20000 in
theorem c122_260 : cdx (mC m122) 260 = some (260, .iconst 1, 1, 0, 0, 0, 0, []) := rfl
set_option maxRecDepth 20000 in
theorem c122_261 : cdx (mC m122) 261 = some (261, .iadd, 1, 0, 0, 0, 0, []) := rfl
set_option maxRecDepth 20000 in
theorem c122_262 : cdx (mC m122) 262 = some (262, .iload 6, 2, 6, 0, 0, 0, []) := rfl
set_option maxRecDepth 20000 in
theorem c122_264 : cdx (mC m122) 264 = some (264, .invokevirtual 51, 3, 126, 5, 0, 4063, [(0, 0)]) := rfl
set_option maxRecDepth 20000 in
theorem c122_267 : cdx (mC m122) 267 = some (267, .ireturn, 1, 0, 0, 0, 0, []) := rfl
set_option maxRecDepth 20000 in
theorem c122_268 : cdx (mC m122) 268 = some (268, .aload_n 0, 1, 0, 0, 0, 0, []) := rfl
set_option maxRecDepth 20000 in
theorem c122_269 : cdx (mC m122) 269 = some (269, .iload 7, 2, 7, 0, 0, 0, []) := rfl
set_option maxRecDepth 20000 in
theorem c122_271 : cdx (mC m122) 271 = some (271, .aload_n 2, 1, 2, 0, 0, 0, []) := rfl
set_option maxRecDepth 20000 in
theorem c122_272 : cdx (mC m122) 272 = some (272, .iconst 2, 1, 0, 0, 0, 0, []) := rfl
set_option maxRecDepth 20000 in
theorem c122_273 : cdx (mC m122) 273 = some (273, .iload 4, 2, 4, 0, 0, 0, []) := rfl
set_option maxRecDepth 20000 in
theorem c122_275 : cdx (mC m122) 275 = some (275, .aload_n 2, 1, 2, 0, 0, 0, []) := rfl
set_option maxRecDepth 20000 in
theorem c122_276 : cdx (mC m122) 276 = some (276, .getfield 40, 3, 1, 0, 0, 1065, []) := rfl
set_option maxRecDepth 20000 in
theorem c122_279 : cdx (mC m122) 279 = some (279, .isub, 1, 0, 0, 0, 0, []) := rfl
set_option maxRecDepth 20000 in
theorem c122_280 : cdx (mC m122) 280 = some (280, .iload 6, 2, 6, 0, 0, 0, []) := rfl
set_option maxRecDepth 20000 in
theorem c122_282 : cdx (mC m122) 282 = some (282, .invokevirtual 51, 3, 126, 5, 0, 4063, [(0, 0)]) := rfl
set_option maxRecDepth 20000 in
theorem c122_285 : cdx (mC m122) 285 = some (285, .ireturn, 1, 0, 0, 0, 0, []) := rfl
set_option maxRecDepth 20000 in
theorem c122_286 : cdx (mC m122) 286 = some (286, .aload_n 0, 1, 0, 0, 0, 0, []) := rfl
set_option maxRecDepth 20000 in
theorem c122_287 : cdx (mC m122) 287 = some (287, .iload 7, 2, 7, 0, 0, 0, []) := rfl
set_option maxRecDepth 20000 in
theorem c122_289 : cdx (mC m122) 289 = some (289, .aload_n 2, 1, 2, 0, 0, 0, []) := rfl
set_option maxRecDepth 20000 in
theorem c122_290 : cdx (mC m122) 290 = some (290, .iconst 1, 1, 0, 0, 0, 0, []) := rfl
set_option maxRecDepth 20000 in
theorem c122_291 : cdx (mC m122) 291 = some (291, .iload 4, 2, 4, 0, 0, 0, []) := rfl
set_option maxRecDepth 20000 in
theorem c122_293 : cdx (mC m122) 293 = some (293, .iload 6, 2, 6, 0, 0, 0, []) := rfl
set_option maxRecDepth 20000 in
theorem c122_295 : cdx (mC m122) 295 = some (295, .invokevirtual 51, 3, 126, 5, 0, 4063, [(0, 0)]) := rfl
set_option maxRecDepth 20000 in
theorem c122_298 : cdx (mC m122) 298 = some (298, .aload_n 0, 1, 0, 0, 0, 0, []) := rfl
set_option maxRecDepth 20000 in
theorem c122_299 : cdx (mC m122) 299 = some (299, .iload 7, 2, 7, 0, 0, 0, []) := rfl
set_option maxRecDepth 20000 in
theorem c122_301 : cdx (mC m122) 301 = some (301, .aload_n 2, 1, 2, 0, 0, 0, []) := rfl
set_option maxRecDepth 20000 in
theorem c122_302 : cdx (mC m122) 302 = some (302, .iconst 0, 1, 0, 0, 0, 0, []) := rfl
set_option maxRecDepth 20000 in
theorem c122_303 : cdx (mC m122) 303 = some (303, .iconst 2, 1, 0, 0, 0, 0, []) := rfl
set_option maxRecDepth 20000 in
theorem c122_304 : cdx (mC m122) 304 = some (304, .iload 6, 2, 6, 0, 0, 0, []) := rfl
set_option maxRecDepth 20000 in
theorem c122_306 : cdx (mC m122) 306 = some (306, .invokevirtual 51, 3, 126, 5, 0, 4063, [(0, 0)]) := rfl
set_option maxRecDepth 20000 in
theorem c122_309 : cdx (mC m122) 309 = some (309, .iadd, 1, 0, 0, 0, 0, []) := rfl
set_option maxRecDepth 20000 in
theorem c122_310 : cdx (mC m122) 310 = some (310, .ireturn, 1, 0, 0, 0, 0, []) := rfl
set_option maxRecDepth 20000 in
theorem c122_311 : cdx (mC m122) 311 = some (311, .aload_n 0, 1, 0, 0, 0, 0, []) := rfl
set_option maxRecDepth 20000 in
theorem c122_312 : cdx (mC m122) 312 = some (312, .iload 7, 2, 7, 0, 0, 0, []) := rfl
set_option maxRecDepth 20000 in
theorem c122_314 : cdx (mC m122) 314 = some (314, .aload_n 2, 1, 2, 0, 0, 0, []) := rfl
set_option maxRecDepth 20000 in
theorem c122_315 : cdx (mC m122) 315 = some (315, .iconst 0, 1, 0, 0, 0, 0, []) := rfl
set_option maxRecDepth 20000 in
theorem c122_316 : cdx (mC m122) 316 = some (316, .iload 4, 2, 4, 0, 0, 0, []) := rfl
set_option maxRecDepth 20000 in
theorem c122_318 : cdx (mC m122) 318 = some (318, .iload 6, 2, 6, 0, 0, 0, []) := rfl
set_option maxRecDepth 20000 in
theorem c122_320 : cdx (mC m122) 320 = some (320, .invokevirtual 51, 3, 126, 5, 0, 4063, [(0, 0)]) := rfl
set_option maxRecDepth 20000 in
theorem c122_323 : cdx (mC m122) 323 = some (323, .aload_n 2, 1, 2, 0, 0, 0, []) := rfl
set_option maxRecDepth 20000 in
theorem c122_324 : cdx (mC m122) 324 = some (324, .getfield 48, 3, 1, 2, 0, 1073, []) := rfl
set_option maxRecDepth 20000 in
theorem c122_327 : cdx (mC m122) 327 = some (327, .ixor, 1, 0, 0, 0, 0, []) := rfl
set_option maxRecDepth 20000 in
theorem c122_328 : cdx (mC m122) 328 = some (328, .ireturn, 1, 0, 0, 0, 0, []) := rfl
set_option maxRecDepth 20000 in
theorem c122_329 : cdx (mC m122) 329 = some (329, .iconst 0, 1, 0, 0, 0, 0, []) := rfl
set_option maxRecDepth 20000 in
theorem c122_330 : cdx (mC m122) 330 = some (330, .ireturn, 1, 0, 0, 0, 0, []) := rfl
def lv122 : List (Nat × List Nat) := [(0, [0, 1, 2, 3, 4, 5]), (2, [0, 1, 2, 3, 4, 5]), (4, [0, 1, 2, 3, 4, 5]), (9, [0, 1, 2, 3, 4, 5]), (11, [0, 1, 2, 3, 4]), (12, [0, 1, 2, 3, 4]), (13, [0, 1, 2, 3, 4]), (15, [0, 1, 2, 3, 4, 6]), (16, [0, 2, 3, 4, 6]), (17, [0, 2, 3, 4, 6]), (20, [0, 2, 3, 4, 6]), (22, [0, 2, 3, 4, 6, 7]), (24, [0, 2, 3, 4, 6, 7]), (25, [0, 2, 4, 6, 7]), (28, [0, 2, 4, 6, 7]), (30, [0, 2, 4, 6, 7, 8]), (31, [0, 2, 4, 6, 7, 8]), (33, [0, 2, 4, 6, 7, 8]), (36, [0, 2, 4, 6, 7, 8]), (38, [0, 2, 4, 6, 7]), (136, [2, 4]), (138, [2]), (144, [0, 2, 4, 6]), (145, [2, 4, 6]), (146, [2, 4, 6]), (149, [2, 4, 6]), (150, [2, 4, 6]), (151, [2, 4, 6]), (153, [2, 6]), (155, [2]), (158, [2]), (164, [0, 2, 4, 6]), (165, [2, 4, 6]), (166, [2, 4, 6]), (169, [2, 4, 6]), (170, [4, 6]), (171, [4, 6]), (173, [6]), (181, [0, 2, 4, 6, 7]), (182, [2, 4, 6, 7]), (184, [2, 4, 6]), (185, [4, 6]), (186, [4, 6]), (188, [6]), (197, [0, 2, 4, 6, 7]), (198, [2, 4, 6, 7]), (200, [2, 4, 6]), (201, [4, 6]), (202, [4, 6]), (204, [6]), (205, [6]), (206, [6]), (212, [0, 2, 4, 6, 7]), (213, [0, 2, 4, 6, 7]), (215, [0, 2, 4, 6]), (216, [0, 2, 4, 6]), (217, [0, 2, 4, 6]), (219, [0, 2, 6]), (221, [0, 2, 6]), (224, [0, 2, 6]), (225, [2, 6]), (226, [2, 6]), (229, [2, 6]), (230, [6]), (231, [6]), (232, [6]), (239, [0, 2, 4, 6, 7]), (240, [2, 4, 6, 7]), (242, [2, 4, 6]), (243, [4, 6]), (244, [4, 6]), (246, [6]), (253, [0, 2, 4, 6, 7]), (254, [2, 4, 6, 7]), (256, [2, 4, 6]), (257, [4, 6]), (258, [4, 6]), (260, [6]), (261, [6]), (262, [6]), (268, [0, 2, 4, 6, 7]), (269, [2, 4, 6, 7]), (271, [2, 4, 6]), (272, [2, 4, 6]), (273, [2, 4, 6]), (275, [2, 6]), (276, [6]), (279, [6]), (280, [6]), (286, [0, 2, 4, 6, 7]), (287, [0, 2, 4, 6, 7]), (289, [0, 2, 4, 6, 7]), (290, [0, 2, 4, 6, 7]), (291, [0, 2, 4, 6, 7]), (293, [0, 2, 6, 7]), (295, [0, 2, 6, 7]), (298, [0, 2, 6, 7]), (299, [2, 6, 7]), (301, [2, 6]), (302, [6]), (303, [6]), (304, [6]), (311, [0, 2, 4, 6, 7]), (312, [2, 4, 6, 7]), (314, [2, 4, 6]), (315, [2, 4, 6]), (316, [2, 4, 6]), (318, [2, 6]), (320, [2]), (323, [2])]
theorem lvok122 : lvOk (mC m122) lv122 = true := by decide +kernel
theorem b122_0 {X : Nat × (Nat → Int32)} {d : Nat} {I : Nat → Nat → Int32} {L : Nat → Nat → Int64} {Q : Option Value → XW → Prop} {x1 : Int32} {r2 : Nat} {x3 : Int32} {x4 : Int32} {x5 : Int32} (hr2 : isCup r2) : wp X (d + 1) m122 0 [some (.ref 79), some (.int x1), some (.ref r2), some (.int x3), some (.int x4), some (.int x5), none, none, none] [] (K0, R0, I, L) Q ↔ (if x5 < 40 then wp X d m123 0 [some (.int x1), some (.int x3), none, none] [] (K0, R0, I, L) (fun r w1 => wp X (d + 1) m122 20 [some (.ref 79), none, some (.ref r2), some (.int x3), some (.int x4), none, some (.int (x5 + 1)), none, none] (r.toList ++ []) w1 Q) else Q (some (.int 0)) (K0, R0, I, L)) := (w_iload (pc' := 2) c122_0 rfl rfl).trans ((w_bipush (pc' := 4) (v := 40) c122_2 rfl rfl).trans ((w_icmp_lt (pc' := 7) c122_4 rfl).trans (ite_iff ((w_iload (pc' := 11) c122_9 rfl rfl).trans ((w_iconst (pc' := 12) (v := 1) c122_11 rfl rfl).trans ((w_iadd (pc' := 13) c122_12 rfl).trans ((w_istore (pc' := 15) (ls' := [some (.ref 79), some (.int x1), some (.ref r2), some (.int x3), some (.int x4), some (.int x5), some (.int (x5 + 1)), none, none]) c122_13 (Nat.le_of_ble_eq_true rfl) rfl rfl).trans ((w_iload_n (pc' := 16) c122_15 rfl rfl).trans ((w_iload_n (pc' := 17) c122_16 rfl rfl).trans ((w_callst (pc' := 20) c122_17 (by decide) mt123 rfl (Nat.le_of_ble_eq_true rfl) rfl rfl (Nat.le_of_ble_eq_true rfl) rfl rfl).trans (wp_congr (fun r w1 => wp_msk lvok122 rfl))))))))) ((w_iconst (pc' := 8) (v := 0) c122_7 rfl rfl).trans (w_iret c122_8 rfl)))))
theorem b122_20 {X : Nat × (Nat → Int32)} {d : Nat} {I : Nat → Nat → Int32} {L : Nat → Nat → Int64} {Q : Option Value → XW → Prop} {r2 : Nat} {x3 : Int32} {x4 : Int32} {x6 : Int32} {s0 : Int32} (hr2 : isCup r2) : wp X (d + 1) m122 20 [some (.ref 79), none, some (.ref r2), some (.int x3), some (.int x4), none, some (.int x6), none, none] [(.int s0)] (K0, R0, I, L) Q ↔ wp X d m124 0 [some (.int s0), some (.int x3), none] [] (K0, R0, I, L) (fun r w1 => wp X (d + 1) m122 28 [some (.ref 79), none, some (.ref r2), none, some (.int x4), none, some (.int x6), some (.int s0), none] (r.toList ++ []) w1 Q) := (w_istore (pc' := 22) (ls' := [some (.ref 79), none, some (.ref r2), some (.int x3), some (.int x4), none, some (.int x6), some (.int s0), none]) c122_20 (Nat.le_of_ble_eq_true rfl) rfl rfl).trans ((w_iload (pc' := 24) c122_22 rfl rfl).trans ((w_iload_n (pc' := 25) c122_24 rfl rfl).trans ((w_callst (pc' := 28) c122_25 (by decide) mt124 rfl (Nat.le_of_ble_eq_true rfl) rfl rfl (Nat.le_of_ble_eq_true rfl) rfl rfl).trans (wp_congr (fun r w1 => wp_msk lvok122 rfl)))))
theorem b122_28 {X : Nat × (Nat → Int32)} {d : Nat} {I : Nat → Nat → Int32} {L : Nat → Nat → Int64} {Q : Option Value → XW → Prop} {r2 : Nat} {x4 : Int32} {x6 : Int32} {x7 : Int32} {s0 : Int32} (hr2 : isCup r2) : wp X (d + 1) m122 28 [some (.ref 79), none, some (.ref r2), none, some (.int x4), none, some (.int x6), some (.int x7), none] [(.int s0)] (K0, R0, I, L) Q ↔ wp X d m125 0 [some (.ref 79), some (.int s0)] [] (K0, R0, I, L) (fun r w1 => wp X (d + 1) m122 36 [some (.ref 79), none, some (.ref r2), none, some (.int x4), none, some (.int x6), some (.int x7), some (.int s0)] (r.toList ++ []) w1 Q) := (w_istore (pc' := 30) (ls' := [some (.ref 79), none, some (.ref r2), none, some (.int x4), none, some (.int x6), some (.int x7), some (.int s0)]) c122_28 (Nat.le_of_ble_eq_true rfl) rfl rfl).trans ((w_aload_n (pc' := 31) c122_30 rfl rfl).trans ((w_iload (pc' := 33) c122_31 rfl rfl).trans ((w_callv (pc' := 36) c122_33 mt125 rfl (Nat.le_of_ble_eq_true rfl) rfl kd_79 rfl rfl (Nat.le_of_ble_eq_true rfl) rfl rfl))))
theorem b122_36 {X : Nat × (Nat → Int32)} {d : Nat} {I : Nat → Nat → Int32} {L : Nat → Nat → Int64} {Q : Option Value → XW → Prop} {r2 : Nat} {x4 : Int32} {x6 : Int32} {x7 : Int32} {x8 : Int32} (hr2 : isCup r2) : wp X (d + 1) m122 36 [some (.ref 79), none, some (.ref r2), none, some (.int x4), none, some (.int x6), some (.int x7), some (.int x8)] [] (K0, R0, I, L) Q ↔ (if x8 = 10 then Q (some (.int (x4 + (I r2 0)))) (K0, R0, I, L) else (if x8 = 11 then wp X d m122 0 [some (.ref 79), some (.int (I r2 1)), some (.ref r2), some (.int 0), some (.int x4), some (.int x6), none, none, none] [] (K0, R0, I, L) (fun r w1 => wp X (d + 1) m122 158 [none, none, some (.ref r2), none, none, none, none, none, none] (r.toList ++ []) w1 Q) else (if x8 = 12 then wp X d m122 0 [some (.ref 79), some (.int (I r2 1)), some (.ref r2), some (.int 1), some (.int x4), some (.int x6), none, none, none] [] (K0, R0, I, L) (fun r w1 => wp X (d + 1) m122 178 [none, none, none, none, none, none, none, none, none] (r.toList ++ []) w1 Q) else (if x8 = 20 then wp X d m126 0 [some (.ref 79), some (.int x7), some (.ref r2), some (.int 1), some (.int x4), some (.int x6), none] [] (K0, R0, I, L) (fun r w1 => wp X (d + 1) m122 193 [none, none, none, none, none, none, none, none, none] (r.toList ++ []) w1 Q) else (if x8 = 30 then wp X d m126 0 [some (.ref 79), some (.int x7), some (.ref r2), some (.int 0), some (.int (x4 * 3)), some (.int x6), none] [] (K0, R0, I, L) (fun r w1 => wp X (d + 1) m122 211 [none, none, none, none, none, none, none, none, none] (r.toList ++ []) w1 Q) else (if x8 = 40 then wp X d m126 0 [some (.ref 79), some (.int x7), some (.ref r2), some (.int 2), some (.int x4), some (.int x6), none] [] (K0, R0, I, L) (fun r w1 => wp X (d + 1) m122 224 [some (.ref 79), none, some (.ref r2), none, none, none, some (.int x6), none, none] (r.toList ++ []) w1 Q) else (if x8 = 50 then wp X d m126 0 [some (.ref 79), some (.int x7), some (.ref r2), some (.int 0), some (.int x4), some (.int x6), none] [] (K0, R0, I, L) (fun r w1 => wp X (d + 1) m122 251 [none, none, none, none, none, none, none, none, none] (r.toList ++ []) w1 Q) else (if x8 = 51 then wp X d m126 0 [some (.ref 79), some (.int x7), some (.ref r2), some (.int 1), some (.int (x4 + 1)), some (.int x6), none] [] (K0, R0, I, L) (fun r w1 => wp X (d + 1) m122 267 [none, none, none, none, none, none, none, none, none] (r.toList ++ []) w1 Q) else (if x8 = 60 then wp X d m126 0 [some (.ref 79), some (.int x7), some (.ref r2), some (.int 2), some (.int (x4 - (I r2 0))), some (.int x6), none] [] (K0, R0, I, L) (fun r w1 => wp X (d + 1) m122 285 [none, none, none, none, none, none, none, none, none] (r.toList ++ []) w1 Q) else (if x8 = 70 then wp X d m126 0 [some (.ref 79), some (.int x7), some (.ref r2), some (.int 1), some (.int x4), some (.int x6), none] [] (K0, R0, I, L) (fun r w1 => wp X (d + 1) m122 298 [some (.ref 79), none, some (.ref r2), none, none, none, some (.int x6), some (.int x7), none] (r.toList ++ []) w1 Q) else (if x8 = 71 then wp X d m126 0 [some (.ref 79), some (.int x7), some (.ref r2), some (.int 0), some (.int x4), some (.int x6), none] [] (K0, R0, I, L) (fun r w1 => wp X (d + 1) m122 323 [none, none, some (.ref r2), none, none, none, none, none, none] (r.toList ++ []) w1 Q) else Q (some (.int 0)) (K0, R0, I, L)))))))))))) := (w_iload (pc' := 38) c122_36 rfl rfl).trans ((w_lswitch c122_38).trans ((w_swcons (v := 10) rfl).trans (ite_iff ((w_iload (pc' := 138) c122_136 rfl rfl).trans ((w_aload_n (pc' := 139) c122_138 rfl rfl).trans ((w_getIv (pc' := 142) (v := (I r2 0)) c122_139 hr2.1 (by decide) rfl (rfl) rfl).trans ((w_iadd (pc' := 143) c122_142 rfl).trans (w_iret c122_143 rfl))))) ((w_swcons (v := 11) rfl).trans (ite_iff ((w_aload_n (pc' := 145) c122_144 rfl rfl).trans ((w_aload_n (pc' := 146) c122_145 rfl rfl).trans ((w_getIv (pc' := 149) (v := (I r2 1)) c122_146 hr2.1 (by decide) rfl (rfl) rfl).trans ((w_aload_n (pc' := 150) c122_149 rfl rfl).trans ((w_iconst (pc' := 151) (v := 0) c122_150 rfl rfl).trans ((w_iload (pc' := 153) c122_151 rfl rfl).trans ((w_iload (pc' := 155) c122_153 rfl rfl).trans ((w_callv (pc' := 158) c122_155 mt122 rfl (Nat.le_of_ble_eq_true rfl) rfl kd_79 rfl rfl (Nat.le_of_ble_eq_true rfl) rfl rfl).trans (wp_congr (fun r w1 => wp_msk lvok122 rfl)))))))))) ((w_swcons (v := 12) rfl).trans (ite_iff ((w_aload_n (pc' := 165) c122_164 rfl rfl).trans ((w_aload_n (pc' := 166) c122_165 rfl rfl).trans ((w_getIv (pc' := 169) (v := (I r2 1)) c122_166 hr2.1 (by decide) rfl (rfl) rfl).trans ((w_aload_n (pc' := 170) c122_169 rfl rfl).trans ((w_iconst (pc' := 171) (v := 1) c122_170 rfl rfl).trans ((w_iload (pc' := 173) c122_171 rfl rfl).trans ((w_iload (pc' := 175) c122_173 rfl rfl).trans ((w_callv (pc' := 178) c122_175 mt122 rfl (Nat.le_of_ble_eq_true rfl) rfl kd_79 rfl rfl (Nat.le_of_ble_eq_true rfl) rfl rfl).trans (wp_congr (fun r w1 => wp_msk lvok122 rfl)))))))))) ((w_swcons (v := 20) rfl).trans (ite_iff ((w_aload_n (pc' := 182) c122_181 rfl rfl).trans ((w_iload (pc' := 184) c122_182 rfl rfl).trans ((w_aload_n (pc' := 185) c122_184 rfl rfl).trans ((w_iconst (pc' := 186) (v := 1) c122_185 rfl rfl).trans ((w_iload (pc' := 188) c122_186 rfl rfl).trans ((w_iload (pc' := 190) c122_188 rfl rfl).trans ((w_callv (pc' := 193) c122_190 mt126 rfl (Nat.le_of_ble_eq_true rfl) rfl kd_79 rfl rfl (Nat.le_of_ble_eq_true rfl) rfl rfl).trans (wp_congr (fun r w1 => wp_msk lvok122 rfl))))))))) ((w_swcons (v := 30) rfl).trans (ite_iff ((w_aload_n (pc' := 198) c122_197 rfl rfl).trans ((w_iload (pc' := 200) c122_198 rfl rfl).trans ((w_aload_n (pc' := 201) c122_200 rfl rfl).trans ((w_iconst (pc' := 202) (v := 0) c122_201 rfl rfl).trans ((w_iload (pc' := 204) c122_202 rfl rfl).trans ((w_iconst (pc' := 205) (v := 3) c122_204 rfl rfl).trans ((w_imul (pc' := 206) c122_205 rfl).trans ((w_iload (pc' := 208) c122_206 rfl rfl).trans ((w_callv (pc' := 211) c122_208 mt126 rfl (Nat.le_of_ble_eq_true rfl) rfl kd_79 rfl rfl (Nat.le_of_ble_eq_true rfl) rfl rfl).trans (wp_congr (fun r w1 => wp_msk lvok122 rfl))))))))))) ((w_swcons (v := 40) rfl).trans (ite_iff ((w_aload_n (pc' := 213) c122_212 rfl rfl).trans ((w_iload (pc' := 215) c122_213 rfl rfl).trans ((w_aload_n (pc' := 216) c122_215 rfl rfl).trans ((w_iconst (pc' := 217) (v := 2) c122_216 rfl rfl).trans ((w_iload (pc' := 219) c122_217 rfl rfl).trans ((w_iload (pc' := 221) c122_219 rfl rfl).trans ((w_callv (pc' := 224) c122_221 mt126 rfl (Nat.le_of_ble_eq_true rfl) rfl kd_79 rfl rfl (Nat.le_of_ble_eq_true rfl) rfl rfl).trans (wp_congr (fun r w1 => wp_msk lvok122 rfl))))))))) ((w_swcons (v := 50) rfl).trans (ite_iff ((w_aload_n (pc' := 240) c122_239 rfl rfl).trans ((w_iload (pc' := 242) c122_240 rfl rfl).trans ((w_aload_n (pc' := 243) c122_242 rfl rfl).trans ((w_iconst (pc' := 244) (v := 0) c122_243 rfl rfl).trans ((w_iload (pc' := 246) c122_244 rfl rfl).trans ((w_iload (pc' := 248) c122_246 rfl rfl).trans ((w_callv (pc' := 251) c122_248 mt126 rfl (Nat.le_of_ble_eq_true rfl) rfl kd_79 rfl rfl (Nat.le_of_ble_eq_true rfl) rfl rfl).trans (wp_congr (fun r w1 => wp_msk lvok122 rfl))))))))) ((w_swcons (v := 51) rfl).trans (ite_iff ((w_aload_n (pc' := 254) c122_253 rfl rfl).trans ((w_iload (pc' := 256) c122_254 rfl rfl).trans ((w_aload_n (pc' := 257) c122_256 rfl rfl).trans ((w_iconst (pc' := 258) (v := 1) c122_257 rfl rfl).trans ((w_iload (pc' := 260) c122_258 rfl rfl).trans ((w_iconst (pc' := 261) (v := 1) c122_260 rfl rfl).trans ((w_iadd (pc' := 262) c122_261 rfl).trans ((w_iload (pc' := 264) c122_262 rfl rfl).trans ((w_callv (pc' := 267) c122_264 mt126 rfl (Nat.le_of_ble_eq_true rfl) rfl kd_79 rfl rfl (Nat.le_of_ble_eq_true rfl) rfl rfl).trans (wp_congr (fun r w1 => wp_msk lvok122 rfl))))))))))) ((w_swcons (v := 60) rfl).trans (ite_iff ((w_aload_n (pc' := 269) c122_268 rfl rfl).trans ((w_iload (pc' := 271) c122_269 rfl rfl).trans ((w_aload_n (pc' := 272) c122_271 rfl rfl).trans ((w_iconst (pc' := 273) (v := 2) c122_272 rfl rfl).trans ((w_iload (pc' := 275) c122_273 rfl rfl).trans ((w_aload_n (pc' := 276) c122_275 rfl rfl).trans ((w_getIv (pc' := 279) (v := (I r2 0)) c122_276 hr2.1 (by decide) rfl (rfl) rfl).trans ((w_isub (pc' := 280) c122_279 rfl).trans ((w_iload (pc' := 282) c122_280 rfl rfl).trans ((w_callv (pc' := 285) c122_282 mt126 rfl (Nat.le_of_ble_eq_true rfl) rfl kd_79 rfl rfl (Nat.le_of_ble_eq_true rfl) rfl rfl).trans (wp_congr (fun r w1 => wp_msk lvok122 rfl)))))))))))) ((w_swcons (v := 70) rfl).trans (ite_iff ((w_aload_n (pc' := 287) c122_286 rfl rfl).trans ((w_iload (pc' := 289) c122_287 rfl rfl).trans ((w_aload_n (pc' := 290) c122_289 rfl rfl).trans ((w_iconst (pc' := 291) (v := 1) c122_290 rfl rfl).trans ((w_iload (pc' := 293) c122_291 rfl rfl).trans ((w_iload (pc' := 295) c122_293 rfl rfl).trans ((w_callv (pc' := 298) c122_295 mt126 rfl (Nat.le_of_ble_eq_true rfl) rfl kd_79 rfl rfl (Nat.le_of_ble_eq_true rfl) rfl rfl).trans (wp_congr (fun r w1 => wp_msk lvok122 rfl))))))))) ((w_swcons (v := 71) rfl).trans (ite_iff ((w_aload_n (pc' := 312) c122_311 rfl rfl).trans ((w_iload (pc' := 314) c122_312 rfl rfl).trans ((w_aload_n (pc' := 315) c122_314 rfl rfl).trans ((w_iconst (pc' := 316) (v := 0) c122_315 rfl rfl).trans ((w_iload (pc' := 318) c122_316 rfl rfl).trans ((w_iload (pc' := 320) c122_318 rfl rfl).trans ((w_callv (pc' := 323) c122_320 mt126 rfl (Nat.le_of_ble_eq_true rfl) rfl kd_79 rfl rfl (Nat.le_of_ble_eq_true rfl) rfl rfl).trans (wp_congr (fun r w1 => wp_msk lvok122 rfl))))))))) ((w_swnil).trans ((w_iconst (pc' := 330) (v := 0) c122_329 rfl rfl).trans (w_iret c122_330 rfl))))))))))))))))))))))))))
theorem b122_158 {X : Nat × (Nat → Int32)} {d : Nat} {I : Nat → Nat → Int32} {L : Nat → Nat → Int64} {Q : Option Value → XW → Prop} {r2 : Nat} {s0 : Int32} (hr2 : isCup r2) : wp X d m122 158 [none, none, some (.ref r2), none, none, none, none, none, none] [(.int s0)] (K0, R0, I, L) Q ↔ Q (some (.int (s0 - (I r2 2)))) (K0, R0, I, L) := (w_aload_n (pc' := 159) c122_158 rfl rfl).trans ((w_getIv (pc' := 162) (v := (I r2 2)) c122_159 hr2.1 (by decide) rfl (rfl) rfl).trans ((w_isub (pc' := 163) c122_162 rfl).trans (w_iret c122_163 rfl)))
theorem b122_178 {X : Nat × (Nat → Int32)} {d : Nat} {I : Nat → Nat → Int32} {L : Nat → Nat → Int64} {Q : Option Value → XW → Prop} {s0 : Int32}  : wp X d m122 178 [none, none, none, none, none, none, none, none, none] [(.int s0)] (K0, R0, I, L) Q ↔ Q (some (.int (s0 * 2))) (K0, R0, I, L) := (w_iconst (pc' := 179) (v := 2) c122_178 rfl rfl).trans ((w_imul (pc' := 180) c122_179 rfl).trans (w_iret c122_180 rfl))
theorem b122_193 {X : Nat × (Nat → Int32)} {d : Nat} {I : Nat → Nat → Int32} {L : Nat → Nat → Int64} {Q : Option Value → XW → Prop} {s0 : Int32}  : wp X d m122 193 [none, none, none, none, none, none, none, none, none] [(.int s0)] (K0, R0, I, L) Q ↔ Q (some (.int (s0 ^^^ (6 : Int32)))) (K0, R0, I, L) := (w_bipush (pc' := 195) (v := 6) c122_193 rfl rfl).trans ((w_ixor (pc' := 196) c122_195 rfl).trans (w_iret c122_196 rfl))
theorem b122_211 {X : Nat × (Nat → Int32)} {d : Nat} {I : Nat → Nat → Int32} {L : Nat → Nat → Int64} {Q : Option Value → XW → Prop} {s0 : Int32}  : wp X d m122 211 [none, none, none, none, none, none, none, none, none] [(.int s0)] (K0, R0, I, L) Q ↔ Q (some (.int s0)) (K0, R0, I, L) := w_iret c122_211 rfl
theorem b122_224 {X : Nat × (Nat → Int32)} {d : Nat} {I : Nat → Nat → Int32} {L : Nat → Nat → Int64} {Q : Option Value → XW → Prop} {r2 : Nat} {x6 : Int32} {s0 : Int32} (hr2 : isCup r2) : wp X (d + 1) m122 224 [some (.ref 79), none, some (.ref r2), none, none, none, some (.int x6), none, none] [(.int s0)] (K0, R0, I, L) Q ↔ wp X d m122 0 [some (.ref 79), some (.int (I r2 1)), some (.ref r2), some (.int 1), some (.int 1), some (.int x6), none, none, none] [] (K0, R0, I, L) (fun r w1 => wp X (d + 1) m122 237 [none, none, none, none, none, none, none, none, none] (r.toList ++ [(.int s0)]) w1 Q) := (w_aload_n (pc' := 225) c122_224 rfl rfl).trans ((w_aload_n (pc' := 226) c122_225 rfl rfl).trans ((w_getIv (pc' := 229) (v := (I r2 1)) c122_226 hr2.1 (by decide) rfl (rfl) rfl).trans ((w_aload_n (pc' := 230) c122_229 rfl rfl).trans ((w_iconst (pc' := 231) (v := 1) c122_230 rfl rfl).trans ((w_iconst (pc' := 232) (v := 1) c122_231 rfl rfl).trans ((w_iload (pc' := 234) c122_232 rfl rfl).trans ((w_callv (pc' := 237) c122_234 mt122 rfl (Nat.le_of_ble_eq_true rfl) rfl kd_79 rfl rfl (Nat.le_of_ble_eq_true rfl) rfl rfl).trans (wp_congr (fun r w1 => wp_msk lvok122 rfl)))))))))
theorem b122_251 {X : Nat × (Nat → Int32)} {d : Nat} {I : Nat → Nat → Int32} {L : Nat → Nat → Int64} {Q : Option Value → XW → Prop} {s0 : Int32}  : wp X d m122 251 [none, none, none, none, none, none, none, none, none] [(.int s0)] (K0, R0, I, L) Q ↔ Q (some (.int (-s0))) (K0, R0, I, L) := (w_ineg (pc' := 252) c122_251 rfl).trans (w_iret c122_252 rfl)
theorem b122_267 {X : Nat × (Nat → Int32)} {d : Nat} {I : Nat → Nat → Int32} {L : Nat → Nat → Int64} {Q : Option Value → XW → Prop} {s0 : Int32}  : wp X d m122 267 [none, none, none, none, none, none, none, none, none] [(.int s0)] (K0, R0, I, L) Q ↔ Q (some (.int s0)) (K0, R0, I, L) := w_iret c122_267 rfl
theorem b122_285 {X : Nat × (Nat → Int32)} {d : Nat} {I : Nat → Nat → Int32} {L : Nat → Nat → Int64} {Q : Option Value → XW → Prop} {s0 : Int32}  : wp X d m122 285 [none, none, none, none, none, none, none, none, none] [(.int s0)] (K0, R0, I, L) Q ↔ Q (some (.int s0)) (K0, R0, I, L) := w_iret c122_285 rfl
theorem b122_298 {X : Nat × (Nat → Int32)} {d : Nat} {I : Nat → Nat → Int32} {L : Nat → Nat → Int64} {Q : Option Value → XW → Prop} {r2 : Nat} {x6 : Int32} {x7 : Int32} {s0 : Int32} (hr2 : isCup r2) : wp X (d + 1) m122 298 [some (.ref 79), none, some (.ref r2), none, none, none, some (.int x6), some (.int x7), none] [(.int s0)] (K0, R0, I, L) Q ↔ wp X d m126 0 [some (.ref 79), some (.int x7), some (.ref r2), some (.int 0), some (.int 2), some (.int x6), none] [] (K0, R0, I, L) (fun r w1 => wp X (d + 1) m122 309 [none, none, none, none, none, none, none, none, none] (r.toList ++ [(.int s0)]) w1 Q) := (w_aload_n (pc' := 299) c122_298 rfl rfl).trans ((w_iload (pc' := 301) c122_299 rfl rfl).trans ((w_aload_n (pc' := 302) c122_301 rfl rfl).trans ((w_iconst (pc' := 303) (v := 0) c122_302 rfl rfl).trans ((w_iconst (pc' := 304) (v := 2) c122_303 rfl rfl).trans ((w_iload (pc' := 306) c122_304 rfl rfl).trans ((w_callv (pc' := 309) c122_306 mt126 rfl (Nat.le_of_ble_eq_true rfl) rfl kd_79 rfl rfl (Nat.le_of_ble_eq_true rfl) rfl rfl).trans (wp_congr (fun r w1 => wp_msk lvok122 rfl))))))))
theorem b122_323 {X : Nat × (Nat → Int32)} {d : Nat} {I : Nat → Nat → Int32} {L : Nat → Nat → Int64} {Q : Option Value → XW → Prop} {r2 : Nat} {s0 : Int32} (hr2 : isCup r2) : wp X d m122 323 [none, none, some (.ref r2), none, none, none, none, none, none] [(.int s0)] (K0, R0, I, L) Q ↔ Q (some (.int (s0 ^^^ (I r2 2)))) (K0, R0, I, L) := (w_aload_n (pc' := 324) c122_323 rfl rfl).trans ((w_getIv (pc' := 327) (v := (I r2 2)) c122_324 hr2.1 (by decide) rfl (rfl) rfl).trans ((w_ixor (pc' := 328) c122_327 rfl).trans (w_iret c122_328 rfl)))
theorem b122_237 {X : Nat × (Nat → Int32)} {d : Nat} {I : Nat → Nat → Int32} {L : Nat → Nat → Int64} {Q : Option Value → XW → Prop} {s0 : Int32} {s1 : Int32}  : wp X d m122 237 [none, none, none, none, none, none, none, none, none] [(.int s1), (.int s0)] (K0, R0, I, L) Q ↔ Q (some (.int (s0 + s1))) (K0, R0, I, L) := (w_iadd (pc' := 238) c122_237 rfl).trans (w_iret c122_238 rfl)
theorem b122_309 {X : Nat × (Nat → Int32)} {d : Nat} {I : Nat → Nat → Int32} {L : Nat → Nat → Int64} {Q : Option Value → XW → Prop} {s0 : Int32} {s1 : Int32}  : wp X d m122 309 [none, none, none, none, none, none, none, none, none] [(.int s1), (.int s0)] (K0, R0, I, L) Q ↔ Q (some (.int (s0 + s1))) (K0, R0, I, L) := (w_iadd (pc' := 310) c122_309 rfl).trans (w_iret c122_310 rfl)
-- LeavesObject$Acts.kindWithBody(II)I
theorem c123_0 : cdx (mC m123) 0 = some (0, .iload_n 0, 1, 0, 0, 0, 0, []) := rfl
theorem c123_1 : cdx (mC m123) 1 = some (1, .istore_n 2, 1, 2, 0, 0, 0, []) := rfl
theorem c123_2 : cdx (mC m123) 2 = some (2, .iconst 0, 1, 0, 0, 0, 0, []) := rfl
theorem c123_3 : cdx (mC m123) 3 = some (3, .istore_n 3, 1, 3, 0, 0, 0, []) := rfl
theorem c123_4 : cdx (mC m123) 4 = some (4, .iload_n 3, 1, 3, 0, 0, 0, []) := rfl
theorem c123_5 : cdx (mC m123) 5 = some (5, .bipush 7, 2, 0, 0, 0, 0, []) := rfl
theorem c123_7 : cdx (mC m123) 7 = some (7, .if_icmp .ge 37, 3, 44, 0, 0, 0, []) := rfl
theorem c123_10 : cdx (mC m123) 10 = some (10, .iload_n 2, 1, 2, 0, 0, 0, []) := rfl
theorem c123_11 : cdx (mC m123) 11 = some (11, .ifCond .le 33, 3, 44, 0, 0, 0, []) := rfl
theorem c123_14 : cdx (mC m123) 14 = some (14, .iload_n 2, 1, 2, 0, 0, 0, []) := rfl
theorem c123_15 : cdx (mC m123) 15 = some (15, .getstatic 22, 3, 0, 0, 0, 4051, [(1, 0)]) := rfl
theorem c123_18 : cdx (mC m123) 18 = some (18, .arraylength, 1, 0, 0, 0, 0, []) := rfl
theorem c123_19 : cdx (mC m123) 19 = some (19, .if_icmp .ge 25, 3, 44, 0, 0, 0, []) := rfl
theorem c123_22 : cdx (mC m123) 22 = some (22, .iload_n 2, 1, 2, 0, 0, 0, []) := rfl
theorem c123_23 : cdx (mC m123) 23 = some (23, .iload_n 1, 1, 1, 0, 0, 0, []) := rfl
theorem c123_24 : cdx (mC m123) 24 = some (24, .invokestatic 25, 3, 124, 2, 4, 4053, []) := rfl
theorem c123_27 : cdx (mC m123) 27 = some (27, .ifCond .eq 5, 3, 32, 0, 0, 0, []) := rfl
theorem c123_30 : cdx (mC m123) 30 = some (30, .iload_n 2, 1, 2, 0, 0, 0, []) := rfl
theorem c123_31 : cdx (mC m123) 31 = some (31, .ireturn, 1, 0, 0, 0, 0, []) := rfl
theorem c123_32 : cdx (mC m123) 32 = some (32, .getstatic 22, 3, 0, 0, 0, 4051, [(1, 0)]) := rfl
theorem c123_35 : cdx (mC m123) 35 = some (35, .iload_n 2, 1, 2, 0, 0, 0, []) := rfl
theorem c123_36 : cdx (mC m123) 36 = some (36, .iaload, 1, 0, 0, 0, 0, []) := rfl
theorem c123_37 : cdx (mC m123) 37 = some (37, .istore_n 2, 1, 2, 0, 0, 0, []) := rfl
theorem c123_38 : cdx (mC m123) 38 = some (38, .iinc 3 1, 3, 3, 0, 0, 0, []) := rfl
theorem c123_41 : cdx (mC m123) 41 = some (41, .goto (-37), 3, 4, 0, 0, 0, []) := rfl
theorem c123_44 : cdx (mC m123) 44 = some (44, .iconst 0, 1, 0, 0, 0, 0, []) := rfl
theorem c123_45 : cdx (mC m123) 45 = some (45, .ireturn, 1, 0, 0, 0, 0, []) := rfl
def lv123 : List (Nat × List Nat) := [(0, [0, 1]), (1, [1]), (2, [1, 2]), (3, [1, 2]), (4, [1, 2, 3]), (5, [1, 2, 3]), (7, [1, 2, 3]), (10, [1, 2, 3]), (11, [1, 2, 3]), (14, [1, 2, 3]), (15, [1, 2, 3]), (18, [1, 2, 3]), (19, [1, 2, 3]), (22, [1, 2, 3]), (23, [1, 2, 3]), (24, [1, 2, 3]), (27, [1, 2, 3]), (30, [2]), (32, [1, 2, 3]), (35, [1, 2, 3]), (36, [1, 3]), (37, [1, 3]), (38, [1, 2, 3]), (41, [1, 2, 3])]
theorem lvok123 : lvOk (mC m123) lv123 = true := by decide +kernel
theorem b123_0 {X : Nat × (Nat → Int32)} {d : Nat} {I : Nat → Nat → Int32} {L : Nat → Nat → Int64} {Q : Option Value → XW → Prop} {x0 : Int32} {x1 : Int32}  : wp X d m123 0 [some (.int x0), some (.int x1), none, none] [] (K0, R0, I, L) Q ↔ wp X d m123 4 [none, some (.int x1), some (.int x0), some (.int 0)] [] (K0, R0, I, L) Q := (w_iload_n (pc' := 1) c123_0 rfl rfl).trans ((w_istore_n (pc' := 2) (ls' := [some (.int x0), some (.int x1), some (.int x0), none]) c123_1 (Nat.le_of_ble_eq_true rfl) rfl rfl).trans ((w_iconst (pc' := 3) (v := 0) c123_2 rfl rfl).trans ((w_istore_n (pc' := 4) (ls' := [some (.int x0), some (.int x1), some (.int x0), some (.int 0)]) c123_3 (Nat.le_of_ble_eq_true rfl) rfl rfl).trans ((wp_msk lvok123 rfl)))))
theorem b123_4 {X : Nat × (Nat → Int32)} {d : Nat} {I : Nat → Nat → Int32} {L : Nat → Nat → Int64} {Q : Option Value → XW → Prop} {x1 : Int32} {x2 : Int32} {x3 : Int32}  : wp X (d + 1) m123 4 [none, some (.int x1), some (.int x2), some (.int x3)] [] (K0, R0, I, L) Q ↔ (if x3 < 7 then (if 0 < x2 then (if x2 < 7 then wp X d m124 0 [some (.int x2), some (.int x1), none] [] (K0, R0, I, L) (fun r w1 => wp X (d + 1) m123 27 [none, some (.int x1), some (.int x2), some (.int x3)] (r.toList ++ []) w1 Q) else Q (some (.int 0)) (K0, R0, I, L)) else Q (some (.int 0)) (K0, R0, I, L)) else Q (some (.int 0)) (K0, R0, I, L)) := (w_iload_n (pc' := 5) c123_4 rfl rfl).trans ((w_bipush (pc' := 7) (v := 7) c123_5 rfl rfl).trans ((w_icmp_ge (pc' := 10) c123_7 rfl).trans (ite_iff ((w_iload_n (pc' := 11) c123_10 rfl rfl).trans ((w_if_le (pc' := 14) c123_11 rfl).trans (ite_iff ((w_iload_n (pc' := 15) c123_14 rfl rfl).trans ((w_gets_r (pc' := 18) (q := 1000040) c123_15 rfl rfl).trans ((w_alen_c (pc' := 19) (v := 7) c123_18 kn_1000040 rfl rfl rfl).trans ((w_icmp_ge (pc' := 22) c123_19 rfl).trans (ite_iff ((w_iload_n (pc' := 23) c123_22 rfl rfl).trans ((w_iload_n (pc' := 24) c123_23 rfl rfl).trans ((w_callst (pc' := 27) c123_24 (by decide) mt124 rfl (Nat.le_of_ble_eq_true rfl) rfl rfl (Nat.le_of_ble_eq_true rfl) rfl rfl)))) ((w_iconst (pc' := 45) (v := 0) c123_44 rfl rfl).trans (w_iret c123_45 rfl))))))) ((w_iconst (pc' := 45) (v := 0) c123_44 rfl rfl).trans (w_iret c123_45 rfl))))) ((w_iconst (pc' := 45) (v := 0) c123_44 rfl rfl).trans (w_iret c123_45 rfl)))))
theorem b123_27 {X : Nat × (Nat → Int32)} {d : Nat} {I : Nat → Nat → Int32} {L : Nat → Nat → Int64} {Q : Option Value → XW → Prop} {x1 : Int32} {x2 : Int32} {x3 : Int32} {s0 : Int32}  : wp X d m123 27 [none, some (.int x1), some (.int x2), some (.int x3)] [(.int s0)] (K0, R0, I, L) Q ↔ (if s0 = 0 then (inA x2 7 = true ∧ wp X d m123 4 [none, some (.int x1), some (.int (KA (Int32.toNatClampNeg x2))), some (.int (x3 + 1))] [] (K0, R0, I, L) Q) else Q (some (.int x2)) (K0, R0, I, L)) := (w_if_eq (pc' := 30) c123_27 rfl).trans (ite_iff ((w_gets_r (pc' := 35) (q := 1000040) c123_32 rfl rfl).trans ((w_iload_n (pc' := 36) c123_35 rfl rfl).trans ((w_iald_c (pc' := 37) c123_36 kn_1000040 rfl rfl).trans (and_congr_right (fun _ => (w_istore_n (pc' := 38) (ls' := [none, some (.int x1), some (.int (KA (Int32.toNatClampNeg x2))), some (.int x3)]) c123_37 (Nat.le_of_ble_eq_true rfl) rfl rfl).trans ((w_iinc (pc' := 41) (v := (x3 + 1)) (ls' := [none, some (.int x1), some (.int (KA (Int32.toNatClampNeg x2))), some (.int (x3 + 1))]) c123_38 (Nat.le_of_ble_eq_true rfl) rfl rfl rfl rfl).trans ((w_goto c123_41)))))))) ((w_iload_n (pc' := 31) c123_30 rfl rfl).trans (w_iret c123_31 rfl)))
-- LeavesObject$Acts.bodyOf(II)I
theorem c124_0 : cdx (mC m124) 0 = some (0, .iload_n 0, 1, 0, 0, 0, 0, []) := rfl
theorem c124_1 : cdx (mC m124) 1 = some (1, .iconst 3, 1, 0, 0, 0, 0, []) := rfl
theorem c124_2 : cdx (mC m124) 2 = some (2, .imul, 1, 0, 0, 0, 0, []) := rfl
theorem c124_3 : cdx (mC m124) 3 = some (3, .iload_n 1, 1, 1, 0, 0, 0, []) := rfl
theorem c124_4 : cdx (mC m124) 4 = some (4, .iadd, 1, 0, 0, 0, 0, []) := rfl
theorem c124_5 : cdx (mC m124) 5 = some (5, .istore_n 2, 1, 2, 0, 0, 0, []) := rfl
theorem c124_6 : cdx (mC m124) 6 = some (6, .iload_n 2, 1, 2, 0, 0, 0, []) := rfl
theorem c124_7 : cdx (mC m124) 7 = some (7, .ifCond .lt 19, 3, 26, 0, 0, 0, []) := rfl
theorem c124_10 : cdx (mC m124) 10 = some (10, .iload_n 2, 1, 2, 0, 0, 0, []) := rfl
theorem c124_11 : cdx (mC m124) 11 = some (11, .getstatic 19, 3, 0, 1, 0, 4056, [(1, 0)]) := rfl
theorem c124_14 : cdx (mC m124) 14 = some (14, .arraylength, 1, 0, 0, 0, 0, []) := rfl
theorem c124_15 : cdx (mC m124) 15 = some (15, .if_icmp .ge 11, 3, 26, 0, 0, 0, []) := rfl
theorem c124_18 : cdx (mC m124) 18 = some (18, .getstatic 19, 3, 0, 1, 0, 4056, [(1, 0)]) := rfl
theorem c124_21 : cdx (mC m124) 21 = some (21, .iload_n 2, 1, 2, 0, 0, 0, []) := rfl
theorem c124_22 : cdx (mC m124) 22 = some (22, .iaload, 1, 0, 0, 0, 0, []) := rfl
theorem c124_23 : cdx (mC m124) 23 = some (23, .goto 4, 3, 27, 0, 0, 0, []) := rfl
theorem c124_26 : cdx (mC m124) 26 = some (26, .iconst 0, 1, 0, 0, 0, 0, []) := rfl
theorem c124_27 : cdx (mC m124) 27 = some (27, .ireturn, 1, 0, 0, 0, 0, []) := rfl
theorem b124_0 {X : Nat × (Nat → Int32)} {d : Nat} {I : Nat → Nat → Int32} {L : Nat → Nat → Int64} {Q : Option Value → XW → Prop} {x0 : Int32} {x1 : Int32}  : wp X d m124 0 [some (.int x0), some (.int x1), none] [] (K0, R0, I, L) Q ↔ (if ((x0 * 3) + x1) < 0 then Q (some (.int 0)) (K0, R0, I, L) else (if ((x0 * 3) + x1) < 21 then (inA ((x0 * 3) + x1) 21 = true ∧ Q (some (.int (BO (Int32.toNatClampNeg ((x0 * 3) + x1))))) (K0, R0, I, L)) else Q (some (.int 0)) (K0, R0, I, L))) := (w_iload_n (pc' := 1) c124_0 rfl rfl).trans ((w_iconst (pc' := 2) (v := 3) c124_1 rfl rfl).trans ((w_imul (pc' := 3) c124_2 rfl).trans ((w_iload_n (pc' := 4) c124_3 rfl rfl).trans ((w_iadd (pc' := 5) c124_4 rfl).trans ((w_istore_n (pc' := 6) (ls' := [some (.int x0), some (.int x1), some (.int ((x0 * 3) + x1))]) c124_5 (Nat.le_of_ble_eq_true rfl) rfl rfl).trans ((w_iload_n (pc' := 7) c124_6 rfl rfl).trans ((w_if_lt (pc' := 10) c124_7 rfl).trans (ite_iff ((w_iconst (pc' := 27) (v := 0) c124_26 rfl rfl).trans (w_iret c124_27 rfl)) ((w_iload_n (pc' := 11) c124_10 rfl rfl).trans ((w_gets_r (pc' := 14) (q := 1000041) c124_11 rfl rfl).trans ((w_alen_c (pc' := 15) (v := 21) c124_14 kn_1000041 rfl rfl rfl).trans ((w_icmp_ge (pc' := 18) c124_15 rfl).trans (ite_iff ((w_gets_r (pc' := 21) (q := 1000041) c124_18 rfl rfl).trans ((w_iload_n (pc' := 22) c124_21 rfl rfl).trans ((w_iald_c (pc' := 23) c124_22 kn_1000041 rfl rfl).trans (and_congr_right (fun _ => (w_goto c124_23).trans (w_iret c124_27 rfl)))))) ((w_iconst (pc' := 27) (v := 0) c124_26 rfl rfl).trans (w_iret c124_27 rfl)))))))))))))))
-- LeavesObject$Acts.begin(I)V
theorem c125_0 : cdx (mC m125) 0 = some (0, .aload_n 0, 1, 0, 0, 0, 0, []) := rfl
theorem c125_1 : cdx (mC m125) 1 = some (1, .getfield 15, 3, 0, 1, 0, 1212, []) := rfl
theorem c125_4 : cdx (mC m125) 4 = some (4, .ifCond .lt 25, 3, 29, 0, 0, 0, []) := rfl
theorem c125_7 : cdx (mC m125) 7 = some (7, .aload_n 0, 1, 0, 0, 0, 0, []) := rfl
theorem c125_8 : cdx (mC m125) 8 = some (8, .getfield 15, 3, 0, 1, 0, 1212, []) := rfl
theorem c125_11 : cdx (mC m125) 11 = some (11, .aload_n 0, 1, 0, 0, 0, 0, []) := rfl
theorem c125_12 : cdx (mC m125) 12 = some (12, .getfield 9, 3, 0, 0, 0, 1211, []) := rfl
theorem c125_15 : cdx (mC m125) 15 = some (15, .arraylength, 1, 0, 0, 0, 0, []) := rfl
theorem c125_16 : cdx (mC m125) 16 = some (16, .if_icmp .ge 13, 3, 29, 0, 0, 0, []) := rfl
theorem c125_19 : cdx (mC m125) 19 = some (19, .aload_n 0, 1, 0, 0, 0, 0, []) := rfl
theorem c125_20 : cdx (mC m125) 20 = some (20, .getfield 9, 3, 0, 0, 0, 1211, []) := rfl
theorem c125_23 : cdx (mC m125) 23 = some (23, .aload_n 0, 1, 0, 0, 0, 0, []) := rfl
theorem c125_24 : cdx (mC m125) 24 = some (24, .getfield 15, 3, 0, 1, 0, 1212, []) := rfl
theorem c125_27 : cdx (mC m125) 27 = some (27, .iload_n 1, 1, 1, 0, 0, 0, []) := rfl
theorem c125_28 : cdx (mC m125) 28 = some (28, .iastore, 1, 0, 0, 0, 0, []) := rfl
theorem c125_29 : cdx (mC m125) 29 = some (29, .aload_n 0, 1, 0, 0, 0, 0, []) := rfl
theorem c125_30 : cdx (mC m125) 30 = some (30, .dup, 1, 0, 0, 0, 0, []) := rfl
theorem c125_31 : cdx (mC m125) 31 = some (31, .getfield 15, 3, 0, 1, 0, 1212, []) := rfl
theorem c125_34 : cdx (mC m125) 34 = some (34, .iconst 1, 1, 0, 0, 0, 0, []) := rfl
theorem c125_35 : cdx (mC m125) 35 = some (35, .iadd, 1, 0, 0, 0, 0, []) := rfl
theorem c125_36 : cdx (mC m125) 36 = some (36, .putfield 15, 3, 0, 1, 0, 1212, []) := rfl
theorem c125_39 : cdx (mC m125) 39 = some (39, .return_, 1, 0, 0, 0, 0, []) := rfl
theorem b125_0 {X : Nat × (Nat → Int32)} {d : Nat} {I : Nat → Nat → Int32} {L : Nat → Nat → Int64} {Q : Option Value → XW → Prop} {x1 : Int32}  : wp X d m125 0 [some (.ref 79), some (.int x1)] [] (K0, R0, I, L) Q ↔ (if (I 79 1) < 0 then Q none (K0, R0, (updR I 79 1 ((I 79 1) + 1)), L) else (if (I 79 1) < 20 then (inA (I 79 1) 20 = true ∧ Q none (K0, R0, (updR (updR I 80 (Int32.toNatClampNeg (I 79 1)) x1) 79 1 ((I 79 1) + 1)), L)) else Q none (K0, R0, (updR I 79 1 ((I 79 1) + 1)), L))) := (w_aload_n (pc' := 1) c125_0 rfl rfl).trans ((w_getIv (pc' := 4) (v := (I 79 1)) c125_1 kd_79 (by decide) rfl (rfl) rfl).trans ((w_if_lt (pc' := 7) c125_4 rfl).trans (ite_iff ((w_aload_n (pc' := 30) c125_29 rfl rfl).trans ((w_dup (pc' := 31) c125_30 rfl rfl).trans ((w_getIv (pc' := 34) (v := (I 79 1)) c125_31 kd_79 (by decide) rfl (rfl) rfl).trans ((w_iconst (pc' := 35) (v := 1) c125_34 rfl rfl).trans ((w_iadd (pc' := 36) c125_35 rfl).trans ((w_putI (pc' := 39) c125_36 kd_79 (by decide) rfl rfl rfl).trans (w_vret c125_39 rfl))))))) ((w_aload_n (pc' := 8) c125_7 rfl rfl).trans ((w_getIv (pc' := 11) (v := (I 79 1)) c125_8 kd_79 (by decide) rfl (rfl) rfl).trans ((w_aload_n (pc' := 12) c125_11 rfl rfl).trans ((w_getR (pc' := 15) (q := 80) c125_12 kd_79 (by decide) rfl rd_79_0 rfl).trans ((w_alen (pc' := 16) (v := 20) c125_15 kd_80 rfl rfl).trans ((w_icmp_ge (pc' := 19) c125_16 rfl).trans (ite_iff ((w_aload_n (pc' := 20) c125_19 rfl rfl).trans ((w_getR (pc' := 23) (q := 80) c125_20 kd_79 (by decide) rfl rd_79_0 rfl).trans ((w_aload_n (pc' := 24) c125_23 rfl rfl).trans ((w_getIv (pc' := 27) (v := (I 79 1)) c125_24 kd_79 (by decide) rfl (rfl) rfl).trans ((w_iload_n (pc' := 28) c125_27 rfl rfl).trans ((w_iast (pc' := 29) c125_28 kd_80 rfl).trans (and_congr_right (fun _ => (w_aload_n (pc' := 30) c125_29 rfl rfl).trans ((w_dup (pc' := 31) c125_30 rfl rfl).trans ((w_getIv (pc' := 34) (v := (I 79 1)) c125_31 kd_79 (by decide) rfl ((updR_k (by decide)).trans (rfl)) rfl).trans ((w_iconst (pc' := 35) (v := 1) c125_34 rfl rfl).trans ((w_iadd (pc' := 36) c125_35 rfl).trans ((w_putI (pc' := 39) c125_36 kd_79 (by decide) rfl rfl rfl).trans (w_vret c125_39 rfl)))))))))))))) ((w_aload_n (pc' := 30) c125_29 rfl rfl).trans ((w_dup (pc' := 31) c125_30 rfl rfl).trans ((w_getIv (pc' := 34) (v := (I 79 1)) c125_31 kd_79 (by decide) rfl (rfl) rfl).trans ((w_iconst (pc' := 35) (v := 1) c125_34 rfl rfl).trans ((w_iadd (pc' := 36) c125_35 rfl).trans ((w_putI (pc' := 39) c125_36 kd_79 (by decide) rfl rfl rfl).trans (w_vret c125_39 rfl)))))))))))))))))
-- LeavesObject$Acts.runAbove(ILLeavesObject$Cup;III)I
theorem c126_0 : cdx (mC m126) 0 = some (0, .iload_n 1, 1, 1, 0, 0, 0, []) := rfl
theorem c126_1 : cdx (mC m126) 1 = some (1, .ifCond .lt 19, 3, 20, 0, 0, 0, []) := rfl
theorem c126_4 : cdx (mC m126) 4 = some (4, .iload_n 1, 1, 1, 0, 0, 0, []) := rfl
theorem c126_5 : cdx (mC m126) 5 = some (5, .getstatic 22, 3, 0, 0, 0, 4051, [(1, 0)]) := rfl
theorem c126_8 : cdx (mC m126) 8 = some (8, .arraylength, 1, 0, 0, 0, 0, []) := rfl
theorem c126_9 : cdx (mC m126) 9 = some (9, .if_icmp .ge 11, 3, 20, 0, 0, 0, []) := rfl
theorem c126_12 : cdx (mC m126) 12 = some (12, .getstatic 22, 3, 0, 0, 0, 4051, [(1, 0)]) := rfl
theorem c126_15 : cdx (mC m126) 15 = some (15, .iload_n 1, 1, 1, 0, 0, 0, []) := rfl
theorem c126_16 : cdx (mC m126) 16 = some (16, .iaload, 1, 0, 0, 0, 0, []) := rfl
theorem c126_17 : cdx (mC m126) 17 = some (17, .goto 4, 3, 21, 0, 0, 0, []) := rfl
theorem c126_20 : cdx (mC m126) 20 = some (20, .iconst 0, 1, 0, 0, 0, 0, []) := rfl
theorem c126_21 : cdx (mC m126) 21 = some (21, .istore 6, 2, 6, 0, 0, 0, []) := rfl
theorem c126_23 : cdx (mC m126) 23 = some (23, .aload_n 0, 1, 0, 0, 0, 0, []) := rfl
theorem c126_24 : cdx (mC m126) 24 = some (24, .iload 6, 2, 6, 0, 0, 0, []) := rfl
theorem c126_26 : cdx (mC m126) 26 = some (26, .aload_n 2, 1, 2, 0, 0, 0, []) := rfl
theorem c126_27 : cdx (mC m126) 27 = some (27, .iload_n 3, 1, 3, 0, 0, 0, []) := rfl
theorem c126_28 : cdx (mC m126) 28 = some (28, .iload 4, 2, 4, 0, 0, 0, []) := rfl
theorem c126_30 : cdx (mC m126) 30 = some (30, .iload 5, 2, 5, 0, 0, 0, []) := rfl
theorem c126_32 : cdx (mC m126) 32 = some (32, .invokevirtual 29, 3, 122, 5, 0, 4062, [(0, 0)]) := rfl
theorem c126_35 : cdx (mC m126) 35 = some (35, .ireturn, 1, 0, 0, 0, 0, []) := rfl
def lv126 : List (Nat × List Nat) := [(0, [0, 1, 2, 3, 4, 5]), (1, [0, 1, 2, 3, 4, 5]), (4, [0, 1, 2, 3, 4, 5]), (5, [0, 1, 2, 3, 4, 5]), (8, [0, 1, 2, 3, 4, 5]), (9, [0, 1, 2, 3, 4, 5]), (12, [0, 1, 2, 3, 4, 5]), (15, [0, 1, 2, 3, 4, 5]), (16, [0, 2, 3, 4, 5]), (17, [0, 2, 3, 4, 5]), (20, [0, 2, 3, 4, 5]), (21, [0, 2, 3, 4, 5]), (23, [0, 2, 3, 4, 5, 6]), (24, [2, 3, 4, 5, 6]), (26, [2, 3, 4, 5]), (27, [3, 4, 5]), (28, [4, 5]), (30, [5])]
theorem lvok126 : lvOk (mC m126) lv126 = true := by decide +kernel
theorem b126_0 {X : Nat × (Nat → Int32)} {d : Nat} {I : Nat → Nat → Int32} {L : Nat → Nat → Int64} {Q : Option Value → XW → Prop} {x1 : Int32} {r2 : Nat} {x3 : Int32} {x4 : Int32} {x5 : Int32} (hr2 : isCup r2) : wp X (d + 1) m126 0 [some (.ref 79), some (.int x1), some (.ref r2), some (.int x3), some (.int x4), some (.int x5), none] [] (K0, R0, I, L) Q ↔ (if x1 < 0 then wp X d m122 0 [some (.ref 79), some (.int 0), some (.ref r2), some (.int x3), some (.int x4), some (.int x5), none, none, none] [] (K0, R0, I, L) (fun r w1 => wp X (d + 1) m126 35 [none, none, none, none, none, none, none] (r.toList ++ []) w1 Q) else (if x1 < 7 then (inA x1 7 = true ∧ wp X d m122 0 [some (.ref 79), some (.int (KA (Int32.toNatClampNeg x1))), some (.ref r2), some (.int x3), some (.int x4), some (.int x5), none, none, none] [] (K0, R0, I, L) (fun r w1 => wp X (d + 1) m126 35 [none, none, none, none, none, none, none] (r.toList ++ []) w1 Q)) else wp X d m122 0 [some (.ref 79), some (.int 0), some (.ref r2), some (.int x3), some (.int x4), some (.int x5), none, none, none] [] (K0, R0, I, L) (fun r w1 => wp X (d + 1) m126 35 [none, none, none, none, none, none, none] (r.toList ++ []) w1 Q))) := (w_iload_n (pc' := 1) c126_0 rfl rfl).trans ((w_if_lt (pc' := 4) c126_1 rfl).trans (ite_iff ((w_iconst (pc' := 21) (v := 0) c126_20 rfl rfl).trans ((w_istore (pc' := 23) (ls' := [some (.ref 79), some (.int x1), some (.ref r2), some (.int x3), some (.int x4), some (.int x5), some (.int 0)]) c126_21 (Nat.le_of_ble_eq_true rfl) rfl rfl).trans ((w_aload_n (pc' := 24) c126_23 rfl rfl).trans ((w_iload (pc' := 26) c126_24 rfl rfl).trans ((w_aload_n (pc' := 27) c126_26 rfl rfl).trans ((w_iload_n (pc' := 28) c126_27 rfl rfl).trans ((w_iload (pc' := 30) c126_28 rfl rfl).trans ((w_iload (pc' := 32) c126_30 rfl rfl).trans ((w_callv (pc' := 35) c126_32 mt122 rfl (Nat.le_of_ble_eq_true rfl) rfl kd_79 rfl rfl (Nat.le_of_ble_eq_true rfl) rfl rfl).trans (wp_congr (fun r w1 => wp_msk lvok126 rfl))))))))))) ((w_iload_n (pc' := 5) c126_4 rfl rfl).trans ((w_gets_r (pc' := 8) (q := 1000040) c126_5 rfl rfl).trans ((w_alen_c (pc' := 9) (v := 7) c126_8 kn_1000040 rfl rfl rfl).trans ((w_icmp_ge (pc' := 12) c126_9 rfl).trans (ite_iff ((w_gets_r (pc' := 15) (q := 1000040) c126_12 rfl rfl).trans ((w_iload_n (pc' := 16) c126_15 rfl rfl).trans ((w_iald_c (pc' := 17) c126_16 kn_1000040 rfl rfl).trans (and_congr_right (fun _ => (w_goto c126_17).trans ((w_istore (pc' := 23) (ls' := [some (.ref 79), some (.int x1), some (.ref r2), some (.int x3), some (.int x4), some (.int x5), some (.int (KA (Int32.toNatClampNeg x1)))]) c126_21 (Nat.le_of_ble_eq_true rfl) rfl rfl).trans ((w_aload_n (pc' := 24) c126_23 rfl rfl).trans ((w_iload (pc' := 26) c126_24 rfl rfl).trans ((w_aload_n (pc' := 27) c126_26 rfl rfl).trans ((w_iload_n (pc' := 28) c126_27 rfl rfl).trans ((w_iload (pc' := 30) c126_28 rfl rfl).trans ((w_iload (pc' := 32) c126_30 rfl rfl).trans ((w_callv (pc' := 35) c126_32 mt122 rfl (Nat.le_of_ble_eq_true rfl) rfl kd_79 rfl rfl (Nat.le_of_ble_eq_true rfl) rfl rfl).trans (wp_congr (fun r w1 => wp_msk lvok126 rfl))))))))))))))) ((w_iconst (pc' := 21) (v := 0) c126_20 rfl rfl).trans ((w_istore (pc' := 23) (ls' := [some (.ref 79), some (.int x1), some (.ref r2), some (.int x3), some (.int x4), some (.int x5), some (.int 0)]) c126_21 (Nat.le_of_ble_eq_true rfl) rfl rfl).trans ((w_aload_n (pc' := 24) c126_23 rfl rfl).trans ((w_iload (pc' := 26) c126_24 rfl rfl).trans ((w_aload_n (pc' := 27) c126_26 rfl rfl).trans ((w_iload_n (pc' := 28) c126_27 rfl rfl).trans ((w_iload (pc' := 30) c126_28 rfl rfl).trans ((w_iload (pc' := 32) c126_30 rfl rfl).trans ((w_callv (pc' := 35) c126_32 mt122 rfl (Nat.le_of_ble_eq_true rfl) rfl kd_79 rfl rfl (Nat.le_of_ble_eq_true rfl) rfl rfl).trans (wp_congr (fun r w1 => wp_msk lvok126 rfl))))))))))))))))))
theorem b126_35 {X : Nat × (Nat → Int32)} {d : Nat} {I : Nat → Nat → Int32} {L : Nat → Nat → Int64} {Q : Option Value → XW → Prop} {s0 : Int32}  : wp X d m126 35 [none, none, none, none, none, none, none] [(.int s0)] (K0, R0, I, L) Q ↔ Q (some (.int s0)) (K0, R0, I, L) := w_iret c126_35 rfl
-- LeavesObject.trace(I)I
theorem c127_0 : cdx (mC m127) 0 = some (0, .aload_n 0, 1, 0, 0, 0, 0, []) := rfl
theorem c127_1 : cdx (mC m127) 1 = some (1, .getfield 59, 3, 9, 10, 0, 2009, []) := rfl
theorem c127_4 : cdx (mC m127) 4 = some (4, .iload_n 1, 1, 1, 0, 0, 0, []) := rfl
theorem c127_5 : cdx (mC m127) 5 = some (5, .invokevirtual 289, 3, 128, 1, 0, 4071, [(0, 0)]) := rfl
theorem c127_8 : cdx (mC m127) 8 = some (8, .ireturn, 1, 0, 0, 0, 0, []) := rfl
def lv127 : List (Nat × List Nat) := [(0, [0, 1]), (1, [1]), (4, [1])]
theorem lvok127 : lvOk (mC m127) lv127 = true := by decide +kernel
theorem b127_0 {X : Nat × (Nat → Int32)} {d : Nat} {I : Nat → Nat → Int32} {L : Nat → Nat → Int64} {Q : Option Value → XW → Prop} {x1 : Int32}  : wp X (d + 1) m127 0 [some (.ref 0), some (.int x1)] [] (K0, R0, I, L) Q ↔ wp X d m128 0 [some (.ref 79), some (.int x1)] [] (K0, R0, I, L) (fun r w1 => wp X (d + 1) m127 8 [none, none] (r.toList ++ []) w1 Q) := (w_aload_n (pc' := 1) c127_0 rfl rfl).trans ((w_getR (pc' := 4) (q := 79) c127_1 kd_0 (by decide) rfl rd_0_10 rfl).trans ((w_iload_n (pc' := 5) c127_4 rfl rfl).trans ((w_callv (pc' := 8) c127_5 mt128 rfl (Nat.le_of_ble_eq_true rfl) rfl kd_79 rfl rfl (Nat.le_of_ble_eq_true rfl) rfl rfl).trans (wp_congr (fun r w1 => wp_msk lvok127 rfl)))))
theorem b127_8 {X : Nat × (Nat → Int32)} {d : Nat} {I : Nat → Nat → Int32} {L : Nat → Nat → Int64} {Q : Option Value → XW → Prop} {s0 : Int32}  : wp X d m127 8 [none, none] [(.int s0)] (K0, R0, I, L) Q ↔ Q (some (.int s0)) (K0, R0, I, L) := w_iret c127_8 rfl
-- LeavesObject$Acts.keptAt(I)I
theorem c128_0 : cdx (mC m128) 0 = some (0, .iload_n 1, 1, 1, 0, 0, 0, []) := rfl
theorem c128_1 : cdx (mC m128) 1 = some (1, .ifCond .lt 29, 3, 30, 0, 0, 0, []) := rfl
theorem c128_4 : cdx (mC m128) 4 = some (4, .iload_n 1, 1, 1, 0, 0, 0, []) := rfl
theorem c128_5 : cdx (mC m128) 5 = some (5, .aload_n 0, 1, 0, 0, 0, 0, []) := rfl
theorem c128_6 : cdx (mC m128) 6 = some (6, .getfield 15, 3, 0, 1, 0, 1212, []) := rfl
theorem c128_9 : cdx (mC m128) 9 = some (9, .if_icmp .ge 21, 3, 30, 0, 0, 0, []) := rfl
theorem c128_12 : cdx (mC m128) 12 = some (12, .iload_n 1, 1, 1, 0, 0, 0, []) := rfl
theorem c128_13 : cdx (mC m128) 13 = some (13, .aload_n 0, 1, 0, 0, 0, 0, []) := rfl
theorem c128_14 : cdx (mC m128) 14 = some (14, .getfield 9, 3, 0, 0, 0, 1211, []) := rfl
theorem c128_17 : cdx (mC m128) 17 = some (17, .arraylength, 1, 0, 0, 0, 0, []) := rfl
theorem c128_18 : cdx (mC m128) 18 = some (18, .if_icmp .ge 12, 3, 30, 0, 0, 0, []) := rfl
theorem c128_21 : cdx (mC m128) 21 = some (21, .aload_n 0, 1, 0, 0, 0, 0, []) := rfl
theorem c128_22 : cdx (mC m128) 22 = some (22, .getfield 9, 3, 0, 0, 0, 1211, []) := rfl
theorem c128_25 : cdx (mC m128) 25 = some (25, .iload_n 1, 1, 1, 0, 0, 0, []) := rfl
theorem c128_26 : cdx (mC m128) 26 = some (26, .iaload, 1, 0, 0, 0, 0, []) := rfl
theorem c128_27 : cdx (mC m128) 27 = some (27, .goto 4, 3, 31, 0, 0, 0, []) := rfl
theorem c128_30 : cdx (mC m128) 30 = some (30, .iconst (-1), 1, 0, 0, 0, 0, []) := rfl
theorem c128_31 : cdx (mC m128) 31 = some (31, .ireturn, 1, 0, 0, 0, 0, []) := rfl
theorem b128_0 {X : Nat × (Nat → Int32)} {d : Nat} {I : Nat → Nat → Int32} {L : Nat → Nat → Int64} {Q : Option Value → XW → Prop} {x1 : Int32}  : wp X d m128 0 [some (.ref 79), some (.int x1)] [] (K0, R0, I, L) Q ↔ (if x1 < 0 then Q (some (.int (-1))) (K0, R0, I, L) else (if x1 < (I 79 1) then (if x1 < 20 then (inA x1 20 = true ∧ Q (some (.int (I 80 (Int32.toNatClampNeg x1)))) (K0, R0, I, L)) else Q (some (.int (-1))) (K0, R0, I, L)) else Q (some (.int (-1))) (K0, R0, I, L))) := (w_iload_n (pc' := 1) c128_0 rfl rfl).trans ((w_if_lt (pc' := 4) c128_1 rfl).trans (ite_iff ((w_iconst (pc' := 31) (v := (-1)) c128_30 rfl rfl).trans (w_iret c128_31 rfl)) ((w_iload_n (pc' := 5) c128_4 rfl rfl).trans ((w_aload_n (pc' := 6) c128_5 rfl rfl).trans ((w_getIv (pc' := 9) (v := (I 79 1)) c128_6 kd_79 (by decide) rfl (rfl) rfl).trans ((w_icmp_ge (pc' := 12) c128_9 rfl).trans (ite_iff ((w_iload_n (pc' := 13) c128_12 rfl rfl).trans ((w_aload_n (pc' := 14) c128_13 rfl rfl).trans ((w_getR (pc' := 17) (q := 80) c128_14 kd_79 (by decide) rfl rd_79_0 rfl).trans ((w_alen (pc' := 18) (v := 20) c128_17 kd_80 rfl rfl).trans ((w_icmp_ge (pc' := 21) c128_18 rfl).trans (ite_iff ((w_aload_n (pc' := 22) c128_21 rfl rfl).trans ((w_getR (pc' := 25) (q := 80) c128_22 kd_79 (by decide) rfl rd_79_0 rfl).trans ((w_iload_n (pc' := 26) c128_25 rfl rfl).trans ((w_ialdv (pc' := 27) (v := (I 80 (Int32.toNatClampNeg x1))) c128_26 kd_80 (rfl) rfl).trans (and_congr_right (fun _ => (w_goto c128_27).trans (w_iret c128_31 rfl))))))) ((w_iconst (pc' := 31) (v := (-1)) c128_30 rfl rfl).trans (w_iret c128_31 rfl)))))))) ((w_iconst (pc' := 31) (v := (-1)) c128_30 rfl rfl).trans (w_iret c128_31 rfl)))))))))
-- LeavesObject.taken(II)I
theorem c129_0 : cdx (mC m129) 0 = some (0, .iload_n 2, 1, 2, 0, 0, 0, []) := rfl
theorem c129_1 : cdx (mC m129) 1 = some (1, .ifCond .lt 9, 3, 10, 0, 0, 0, []) := rfl
theorem c129_4 : cdx (mC m129) 4 = some (4, .iload_n 2, 1, 2, 0, 0, 0, []) := rfl
theorem c129_5 : cdx (mC m129) 5 = some (5, .bipush 7, 2, 0, 0, 0, 0, []) := rfl
theorem c129_7 : cdx (mC m129) 7 = some (7, .if_icmp .lt 6, 3, 13, 0, 0, 0, []) := rfl
theorem c129_10 : cdx (mC m129) 10 = some (10, .bipush (-2), 2, 0, 0, 0, 0, []) := rfl
theorem c129_12 : cdx (mC m129) 12 = some (12, .ireturn, 1, 0, 0, 0, 0, []) := rfl
theorem c129_13 : cdx (mC m129) 13 = some (13, .aload_n 0, 1, 0, 0, 0, 0, []) := rfl
theorem c129_14 : cdx (mC m129) 14 = some (14, .getfield 12, 3, 9, 0, 0, 1239, []) := rfl
theorem c129_17 : cdx (mC m129) 17 = some (17, .iload_n 1, 1, 1, 0, 0, 0, []) := rfl
theorem c129_18 : cdx (mC m129) 18 = some (18, .invokevirtual 92, 3, 17, 1, 0, 2061, [(5, 0)]) := rfl
theorem c129_21 : cdx (mC m129) 21 = some (21, .astore_n 3, 1, 3, 0, 0, 0, []) := rfl
theorem c129_22 : cdx (mC m129) 22 = some (22, .aload_n 3, 1, 3, 0, 0, 0, []) := rfl
theorem c129_23 : cdx (mC m129) 23 = some (23, .ifnonnull 6, 3, 29, 0, 0, 0, []) := rfl
theorem c129_26 : cdx (mC m129) 26 = some (26, .bipush (-11), 2, 0, 0, 0, 0, []) := rfl
theorem c129_28 : cdx (mC m129) 28 = some (28, .ireturn, 1, 0, 0, 0, 0, []) := rfl
theorem c129_29 : cdx (mC m129) 29 = some (29, .aload_n 3, 1, 3, 0, 0, 0, []) := rfl
theorem c129_30 : cdx (mC m129) 30 = some (30, .iload_n 2, 1, 2, 0, 0, 0, []) := rfl
theorem c129_31 : cdx (mC m129) 31 = some (31, .invokevirtual 292, 3, 130, 1, 0, 4079, [(1, 0)]) := rfl
theorem c129_34 : cdx (mC m129) 34 = some (34, .ifCond .eq 10, 3, 44, 0, 0, 0, []) := rfl
theorem c129_37 : cdx (mC m129) 37 = some (37, .aload_n 3, 1, 3, 0, 0, 0, []) := rfl
theorem c129_38 : cdx (mC m129) 38 = some (38, .getfield 113, 3, 1, 1, 0, 1067, []) := rfl
theorem c129_41 : cdx (mC m129) 41 = some (41, .goto 5, 3, 46, 0, 0, 0, []) := rfl
theorem c129_44 : cdx (mC m129) 44 = some (44, .bipush (-12), 2, 0, 0, 0, 0, []) := rfl
theorem c129_46 : cdx (mC m129) 46 = some (46, .ireturn, 1, 0, 0, 0, 0, []) := rfl
def lv129 : List (Nat × List Nat) := [(0, [0, 1, 2]), (1, [0, 1, 2]), (4, [0, 1, 2]), (5, [0, 1, 2]), (7, [0, 1, 2]), (13, [0, 1, 2]), (14, [1, 2]), (17, [1, 2]), (18, [2]), (21, [2]), (22, [2, 3]), (23, [2, 3]), (29, [2, 3]), (30, [2, 3]), (31, [3]), (34, [3]), (37, [3])]
theorem lvok129 : lvOk (mC m129) lv129 = true := by decide +kernel
theorem b129_0 {X : Nat × (Nat → Int32)} {d : Nat} {I : Nat → Nat → Int32} {L : Nat → Nat → Int64} {Q : Option Value → XW → Prop} {x1 : Int32} {x2 : Int32}  : wp X (d + 1) m129 0 [some (.ref 0), some (.int x1), some (.int x2), none] [] (K0, R0, I, L) Q ↔ (if x2 < 0 then Q (some (.int (-2))) (K0, R0, I, L) else (if x2 < 7 then wp X d m17 0 [some (.ref 1), some (.int x1)] [] (K0, R0, I, L) (fun r w1 => wp X (d + 1) m129 21 [none, none, some (.int x2), none] (r.toList ++ []) w1 Q) else Q (some (.int (-2))) (K0, R0, I, L))) := (w_iload_n (pc' := 1) c129_0 rfl rfl).trans ((w_if_lt (pc' := 4) c129_1 rfl).trans (ite_iff ((w_bipush (pc' := 12) (v := (-2)) c129_10 rfl rfl).trans (w_iret c129_12 rfl)) ((w_iload_n (pc' := 5) c129_4 rfl rfl).trans ((w_bipush (pc' := 7) (v := 7) c129_5 rfl rfl).trans ((w_icmp_lt (pc' := 10) c129_7 rfl).trans (ite_iff ((w_aload_n (pc' := 14) c129_13 rfl rfl).trans ((w_getR (pc' := 17) (q := 1) c129_14 kd_0 (by decide) rfl rd_0_0 rfl).trans ((w_iload_n (pc' := 18) c129_17 rfl rfl).trans ((w_callv (pc' := 21) c129_18 mt17 rfl (Nat.le_of_ble_eq_true rfl) rfl tbl_1.1 rfl rfl (Nat.le_of_ble_eq_true rfl) rfl rfl).trans (wp_congr (fun r w1 => wp_msk lvok129 rfl)))))) ((w_bipush (pc' := 12) (v := (-2)) c129_10 rfl rfl).trans (w_iret c129_12 rfl))))))))
theorem b129_21 {X : Nat × (Nat → Int32)} {d : Nat} {I : Nat → Nat → Int32} {L : Nat → Nat → Int64} {Q : Option Value → XW → Prop} {x2 : Int32} {q0 : Nat} (hq0 : isCup q0) : wp X (d + 1) m129 21 [none, none, some (.int x2), none] [(.ref q0)] (K0, R0, I, L) Q ↔ wp X d m130 0 [some (.ref q0), some (.int x2), none, none] [] (K0, R0, I, L) (fun r w1 => wp X (d + 1) m129 34 [none, none, none, some (.ref q0)] (r.toList ++ []) w1 Q) := (w_astore_n (pc' := 22) (ls' := [none, none, some (.int x2), some (.ref q0)]) c129_21 (Nat.le_of_ble_eq_true rfl) rfl rfl).trans ((w_aload_n (pc' := 23) c129_22 rfl rfl).trans ((w_ifnonnull c129_23 (k_lt hq0.1)).trans ((w_aload_n (pc' := 30) c129_29 rfl rfl).trans ((w_iload_n (pc' := 31) c129_30 rfl rfl).trans ((w_callv (pc' := 34) c129_31 mt130 rfl (Nat.le_of_ble_eq_true rfl) rfl hq0.1 rfl rfl (Nat.le_of_ble_eq_true rfl) rfl rfl).trans (wp_congr (fun r w1 => wp_msk lvok129 rfl)))))))
theorem b129_21_1 {X : Nat × (Nat → Int32)} {d : Nat} {I : Nat → Nat → Int32} {L : Nat → Nat → Int64} {Q : Option Value → XW → Prop} {x2 : Int32}  : wp X d m129 21 [none, none, some (.int x2), none] [.null] (K0, R0, I, L) Q ↔ Q (some (.int (-11))) (K0, R0, I, L) := (w_astore_nN (pc' := 22) (ls' := [none, none, some (.int x2), some .null]) c129_21 (Nat.le_of_ble_eq_true rfl) rfl rfl).trans ((w_aload_nN (pc' := 23) c129_22 rfl rfl).trans ((w_ifnonnullN (pc' := 26) c129_23 rfl).trans ((w_bipush (pc' := 28) (v := (-11)) c129_26 rfl rfl).trans (w_iret c129_28 rfl))))
theorem b129_34 {X : Nat × (Nat → Int32)} {d : Nat} {I : Nat → Nat → Int32} {L : Nat → Nat → Int64} {Q : Option Value → XW → Prop} {r3 : Nat} {s0 : Int32} (hr3 : isCup r3) : wp X d m129 34 [none, none, none, some (.ref r3)] [(.int s0)] (K0, R0, I, L) Q ↔ Q (some (.int (if s0 = 0 then (-12) else (I r3 1)))) (K0, R0, I, L) := (w_if_eq (pc' := 37) c129_34 rfl).trans ((ite_iff ((w_bipush (pc' := 46) (v := (-12)) c129_44 rfl rfl).trans (w_iret c129_46 rfl)) ((w_aload_n (pc' := 38) c129_37 rfl rfl).trans ((w_getIv (pc' := 41) (v := (I r3 1)) c129_38 hr3.1 (by decide) rfl (rfl) rfl).trans ((w_goto c129_41).trans (w_iret c129_46 rfl))))).trans (ite_val (fun z => Q (some (.int z)) (K0, R0, I, L))))
-- LeavesObject$Cup.isUnder(I)Z
theorem c130_0 : cdx (mC m130) 0 = some (0, .aload_n 0, 1, 0, 0, 0, 0, []) := rfl
theorem c130_1 : cdx (mC m130) 1 = some (1, .getfield 19, 3, 1, 1, 0, 1066, []) := rfl
theorem c130_4 : cdx (mC m130) 4 = some (4, .istore_n 2, 1, 2, 0, 0, 0, []) := rfl
theorem c130_5 : cdx (mC m130) 5 = some (5, .iconst 0, 1, 0, 0, 0, 0, []) := rfl
theorem c130_6 : cdx (mC m130) 6 = some (6, .istore_n 3, 1, 3, 0, 0, 0, []) := rfl
theorem c130_7 : cdx (mC m130) 7 = some (7, .iload_n 3, 1, 3, 0, 0, 0, []) := rfl
theorem c130_8 : cdx (mC m130) 8 = some (8, .bipush 7, 2, 0, 0, 0, 0, []) := rfl
theorem c130_10 : cdx (mC m130) 10 = some (10, .if_icmp .ge 34, 3, 44, 0, 0, 0, []) := rfl
theorem c130_13 : cdx (mC m130) 13 = some (13, .iload_n 2, 1, 2, 0, 0, 0, []) := rfl
theorem c130_14 : cdx (mC m130) 14 = some (14, .ifCond .lt 30, 3, 44, 0, 0, 0, []) := rfl
theorem c130_17 : cdx (mC m130) 17 = some (17, .iload_n 2, 1, 2, 0, 0, 0, []) := rfl
theorem c130_18 : cdx (mC m130) 18 = some (18, .getstatic 46, 3, 0, 0, 0, 4083, [(1, 0)]) := rfl
theorem c130_21 : cdx (mC m130) 21 = some (21, .arraylength, 1, 0, 0, 0, 0, []) := rfl
theorem c130_22 : cdx (mC m130) 22 = some (22, .if_icmp .ge 22, 3, 44, 0, 0, 0, []) := rfl
theorem c130_25 : cdx (mC m130) 25 = some (25, .iload_n 2, 1, 2, 0, 0, 0, []) := rfl
theorem c130_26 : cdx (mC m130) 26 = some (26, .iload_n 1, 1, 1, 0, 0, 0, []) := rfl
theorem c130_27 : cdx (mC m130) 27 = some (27, .if_icmp .ne 5, 3, 32, 0, 0, 0, []) := rfl
theorem c130_30 : cdx (mC m130) 30 = some (30, .iconst 1, 1, 0, 0, 0, 0, []) := rfl
theorem c130_31 : cdx (mC m130) 31 = some (31, .ireturn, 1, 0, 0, 0, 0, []) := rfl
theorem c130_32 : cdx (mC m130) 32 = some (32, .getstatic 46, 3, 0, 0, 0, 4083, [(1, 0)]) := rfl
theorem c130_35 : cdx (mC m130) 35 = some (35, .iload_n 2, 1, 2, 0, 0, 0, []) := rfl
theorem c130_36 : cdx (mC m130) 36 = some (36, .iaload, 1, 0, 0, 0, 0, []) := rfl
theorem c130_37 : cdx (mC m130) 37 = some (37, .istore_n 2, 1, 2, 0, 0, 0, []) := rfl
theorem c130_38 : cdx (mC m130) 38 = some (38, .iinc 3 1, 3, 3, 0, 0, 0, []) := rfl
theorem c130_41 : cdx (mC m130) 41 = some (41, .goto (-34), 3, 7, 0, 0, 0, []) := rfl
theorem c130_44 : cdx (mC m130) 44 = some (44, .iconst 0, 1, 0, 0, 0, 0, []) := rfl
theorem c130_45 : cdx (mC m130) 45 = some (45, .ireturn, 1, 0, 0, 0, 0, []) := rfl
def lv130 : List (Nat × List Nat) := [(0, [0, 1]), (1, [1]), (4, [1]), (5, [1, 2]), (6, [1, 2]), (7, [1, 2, 3]), (8, [1, 2, 3]), (10, [1, 2, 3]), (13, [1, 2, 3]), (14, [1, 2, 3]), (17, [1, 2, 3]), (18, [1, 2, 3]), (21, [1, 2, 3]), (22, [1, 2, 3]), (25, [1, 2, 3]), (26, [1, 2, 3]), (27, [1, 2, 3]), (32, [1, 2, 3]), (35, [1, 2, 3]), (36, [1, 3]), (37, [1, 3]), (38, [1, 2, 3]), (41, [1, 2, 3])]
theorem lvok130 : lvOk (mC m130) lv130 = true := by decide +kernel
theorem b130_0 {X : Nat × (Nat → Int32)} {d : Nat} {I : Nat → Nat → Int32} {L : Nat → Nat → Int64} {Q : Option Value → XW → Prop} {r0 : Nat} {x1 : Int32} (hr0 : isCup r0) : wp X d m130 0 [some (.ref r0), some (.int x1), none, none] [] (K0, R0, I, L) Q ↔ wp X d m130 7 [none, some (.int x1), some (.int (I r0 1)), some (.int 0)] [] (K0, R0, I, L) Q := (w_aload_n (pc' := 1) c130_0 rfl rfl).trans ((w_getIv (pc' := 4) (v := (I r0 1)) c130_1 hr0.1 (by decide) rfl (rfl) rfl).trans ((w_istore_n (pc' := 5) (ls' := [some (.ref r0), some (.int x1), some (.int (I r0 1)), none]) c130_4 (Nat.le_of_ble_eq_true rfl) rfl rfl).trans ((w_iconst (pc' := 6) (v := 0) c130_5 rfl rfl).trans ((w_istore_n (pc' := 7) (ls' := [some (.ref r0), some (.int x1), some (.int (I r0 1)), some (.int 0)]) c130_6 (Nat.le_of_ble_eq_true rfl) rfl rfl).trans ((wp_msk lvok130 rfl))))))
theorem b130_7 {X : Nat × (Nat → Int32)} {d : Nat} {I : Nat → Nat → Int32} {L : Nat → Nat → Int64} {Q : Option Value → XW → Prop} {x1 : Int32} {x2 : Int32} {x3 : Int32}  : wp X d m130 7 [none, some (.int x1), some (.int x2), some (.int x3)] [] (K0, R0, I, L) Q ↔ (if x3 < 7 then (if x2 < 0 then Q (some (.int 0)) (K0, R0, I, L) else (if x2 < 7 then (if x2 = x1 then Q (some (.int 1)) (K0, R0, I, L) else (inA x2 7 = true ∧ wp X d m130 7 [none, some (.int x1), some (.int (KA (Int32.toNatClampNeg x2))), some (.int (x3 + 1))] [] (K0, R0, I, L) Q)) else Q (some (.int 0)) (K0, R0, I, L))) else Q (some (.int 0)) (K0, R0, I, L)) := (w_iload_n (pc' := 8) c130_7 rfl rfl).trans ((w_bipush (pc' := 10) (v := 7) c130_8 rfl rfl).trans ((w_icmp_ge (pc' := 13) c130_10 rfl).trans (ite_iff ((w_iload_n (pc' := 14) c130_13 rfl rfl).trans ((w_if_lt (pc' := 17) c130_14 rfl).trans (ite_iff ((w_iconst (pc' := 45) (v := 0) c130_44 rfl rfl).trans ((w_zret (ty := .boolean) c130_45 rfl (by decide)).trans (and_iff_right (by decide)))) ((w_iload_n (pc' := 18) c130_17 rfl rfl).trans ((w_gets_r (pc' := 21) (q := 1000040) c130_18 rfl rfl).trans ((w_alen_c (pc' := 22) (v := 7) c130_21 kn_1000040 rfl rfl rfl).trans ((w_icmp_ge (pc' := 25) c130_22 rfl).trans (ite_iff ((w_iload_n (pc' := 26) c130_25 rfl rfl).trans ((w_iload_n (pc' := 27) c130_26 rfl rfl).trans ((w_icmp_ne (pc' := 30) c130_27 rfl).trans (ite_iff ((w_iconst (pc' := 31) (v := 1) c130_30 rfl rfl).trans ((w_zret (ty := .boolean) c130_31 rfl (by decide)).trans (and_iff_right (by decide)))) ((w_gets_r (pc' := 35) (q := 1000040) c130_32 rfl rfl).trans ((w_iload_n (pc' := 36) c130_35 rfl rfl).trans ((w_iald_c (pc' := 37) c130_36 kn_1000040 rfl rfl).trans (and_congr_right (fun _ => (w_istore_n (pc' := 38) (ls' := [none, some (.int x1), some (.int (KA (Int32.toNatClampNeg x2))), some (.int x3)]) c130_37 (Nat.le_of_ble_eq_true rfl) rfl rfl).trans ((w_iinc (pc' := 41) (v := (x3 + 1)) (ls' := [none, some (.int x1), some (.int (KA (Int32.toNatClampNeg x2))), some (.int (x3 + 1))]) c130_38 (Nat.le_of_ble_eq_true rfl) rfl rfl rfl rfl).trans ((w_goto c130_41)))))))))))) ((w_iconst (pc' := 45) (v := 0) c130_44 rfl rfl).trans ((w_zret (ty := .boolean) c130_45 rfl (by decide)).trans (and_iff_right (by decide)))))))))))) ((w_iconst (pc' := 45) (v := 0) c130_44 rfl rfl).trans ((w_zret (ty := .boolean) c130_45 rfl (by decide)).trans (and_iff_right (by decide)))))))
-- LeavesObject.count(I)I
theorem c131_0 : cdx (mC m131) 0 = some (0, .iload_n 1, 1, 1, 0, 0, 0, []) := rfl
theorem c131_1 : cdx (mC m131) 1 = some (1, .tableswitch 105 0 6 #[43, 51, 56, 67, 78, 89, 97], 43, 106, 0, 0, 0, [(0, 44), (1, 52), (2, 57), (3, 68), (4, 79), (5, 90), (6, 98)]) := rfl
theorem c131_44 : cdx (mC m131) 44 = some (44, .aload_n 0, 1, 0, 0, 0, 0, []) := rfl
theorem c131_45 : cdx (mC m131) 45 = some (45, .getfield 12, 3, 9, 0, 0, 1239, []) := rfl
theorem c131_48 : cdx (mC m131) 48 = some (48, .getfield 77, 3, 5, 1, 0, 1102, []) := rfl
theorem c131_51 : cdx (mC m131) 51 = some (51, .ireturn, 1, 0, 0, 0, 0, []) := rfl
theorem c131_52 : cdx (mC m131) 52 = some (52, .aload_n 0, 1, 0, 0, 0, 0, []) := rfl
theorem c131_53 : cdx (mC m131) 53 = some (53, .getfield 142, 3, 9, 6, 0, 2005, []) := rfl
theorem c131_56 : cdx (mC m131) 56 = some (56, .ireturn, 1, 0, 0, 0, 0, []) := rfl
theorem c131_57 : cdx (mC m131) 57 = some (57, .aload_n 0, 1, 0, 0, 0, 0, []) := rfl
theorem c131_58 : cdx (mC m131) 58 = some (58, .getfield 12, 3, 9, 0, 0, 1239, []) := rfl
theorem c131_61 : cdx (mC m131) 61 = some (61, .getfield 222, 3, 5, 4, 0, 1109, []) := rfl
theorem c131_64 : cdx (mC m131) 64 = some (64, .getfield 226, 3, 4, 2, 0, 1048, []) := rfl
theorem c131_67 : cdx (mC m131) 67 = some (67, .ireturn, 1, 0, 0, 0, 0, []) := rfl
theorem c131_68 : cdx (mC m131) 68 = some (68, .aload_n 0, 1, 0, 0, 0, 0, []) := rfl
theorem c131_69 : cdx (mC m131) 69 = some (69, .getfield 12, 3, 9, 0, 0, 1239, []) := rfl
theorem c131_72 : cdx (mC m131) 72 = some (72, .getfield 245, 3, 5, 5, 0, 1111, []) := rfl
theorem c131_75 : cdx (mC m131) 75 = some (75, .getfield 226, 3, 4, 2, 0, 1048, []) := rfl
theorem c131_78 : cdx (mC m131) 78 = some (78, .ireturn, 1, 0, 0, 0, 0, []) := rfl
theorem c131_79 : cdx (mC m131) 79 = some (79, .aload_n 0, 1, 0, 0, 0, 0, []) := rfl
theorem c131_80 : cdx (mC m131) 80 = some (80, .getfield 12, 3, 9, 0, 0, 1239, []) := rfl
theorem c131_83 : cdx (mC m131) 83 = some (83, .getfield 257, 3, 5, 6, 0, 1113, []) := rfl
theorem c131_86 : cdx (mC m131) 86 = some (86, .getfield 226, 3, 4, 2, 0, 1048, []) := rfl
theorem c131_89 : cdx (mC m131) 89 = some (89, .ireturn, 1, 0, 0, 0, 0, []) := rfl
theorem c131_90 : cdx (mC m131) 90 = some (90, .aload_n 0, 1, 0, 0, 0, 0, []) := rfl
theorem c131_91 : cdx (mC m131) 91 = some (91, .getfield 27, 3, 9, 4, 0, 2003, []) := rfl
theorem c131_94 : cdx (mC m131) 94 = some (94, .getfield 139, 3, 7, 1, 0, 1137, []) := rfl
theorem c131_97 : cdx (mC m131) 97 = some (97, .ireturn, 1, 0, 0, 0, 0, []) := rfl
theorem c131_98 : cdx (mC m131) 98 = some (98, .aload_n 0, 1, 0, 0, 0, 0, []) := rfl
theorem c131_99 : cdx (mC m131) 99 = some (99, .getfield 59, 3, 9, 10, 0, 2009, []) := rfl
theorem c131_102 : cdx (mC m131) 102 = some (102, .getfield 282, 3, 0, 1, 0, 1213, []) := rfl
theorem c131_105 : cdx (mC m131) 105 = some (105, .ireturn, 1, 0, 0, 0, 0, []) := rfl
theorem c131_106 : cdx (mC m131) 106 = some (106, .bipush (-2), 2, 0, 0, 0, 0, []) := rfl
theorem c131_108 : cdx (mC m131) 108 = some (108, .ireturn, 1, 0, 0, 0, 0, []) := rfl
theorem b131_0 {X : Nat × (Nat → Int32)} {d : Nat} {I : Nat → Nat → Int32} {L : Nat → Nat → Int64} {Q : Option Value → XW → Prop} {x1 : Int32}  : wp X d m131 0 [some (.ref 0), some (.int x1)] [] (K0, R0, I, L) Q ↔ Q (some (.int (if x1 = 0 then (I 1 1) else (if x1 = 1 then (I 0 6) else (if x1 = 2 then (I 3 2) else (if x1 = 3 then (I 6 2) else (if x1 = 4 then (I 9 2) else (if x1 = 5 then (I 64 1) else (if x1 = 6 then (I 79 1) else (-2)))))))))) (K0, R0, I, L) := (w_iload_n (pc' := 1) c131_0 rfl rfl).trans ((w_tswitch c131_1).trans ((w_swcons (v := 0) rfl).trans ((ite_iff ((w_aload_n (pc' := 45) c131_44 rfl rfl).trans ((w_getR (pc' := 48) (q := 1) c131_45 kd_0 (by decide) rfl rd_0_0 rfl).trans ((w_getIv (pc' := 51) (v := (I 1 1)) c131_48 tbl_1.1 (by decide) rfl (rfl) rfl).trans (w_iret c131_51 rfl)))) ((w_swcons (v := 1) rfl).trans ((ite_iff ((w_aload_n (pc' := 53) c131_52 rfl rfl).trans ((w_getIv (pc' := 56) (v := (I 0 6)) c131_53 kd_0 (by decide) rfl (rfl) rfl).trans (w_iret c131_56 rfl))) ((w_swcons (v := 2) rfl).trans ((ite_iff ((w_aload_n (pc' := 58) c131_57 rfl rfl).trans ((w_getR (pc' := 61) (q := 1) c131_58 kd_0 (by decide) rfl rd_0_0 rfl).trans ((w_getR (pc' := 64) (q := 3) c131_61 tbl_1.1 (by decide) rfl tbl_1.2.2.1 rfl).trans ((w_getIv (pc' := 67) (v := (I 3 2)) c131_64 tbl_1.2.2.2.2.2.2.1.1 (by decide) rfl (rfl) rfl).trans (w_iret c131_67 rfl))))) ((w_swcons (v := 3) rfl).trans ((ite_iff ((w_aload_n (pc' := 69) c131_68 rfl rfl).trans ((w_getR (pc' := 72) (q := 1) c131_69 kd_0 (by decide) rfl rd_0_0 rfl).trans ((w_getR (pc' := 75) (q := 6) c131_72 tbl_1.1 (by decide) rfl tbl_1.2.2.2.1 rfl).trans ((w_getIv (pc' := 78) (v := (I 6 2)) c131_75 tbl_1.2.2.2.2.2.2.2.1.1 (by decide) rfl (rfl) rfl).trans (w_iret c131_78 rfl))))) ((w_swcons (v := 4) rfl).trans ((ite_iff ((w_aload_n (pc' := 80) c131_79 rfl rfl).trans ((w_getR (pc' := 83) (q := 1) c131_80 kd_0 (by decide) rfl rd_0_0 rfl).trans ((w_getR (pc' := 86) (q := 9) c131_83 tbl_1.1 (by decide) rfl tbl_1.2.2.2.2.1 rfl).trans ((w_getIv (pc' := 89) (v := (I 9 2)) c131_86 tbl_1.2.2.2.2.2.2.2.2.1.1 (by decide) rfl (rfl) rfl).trans (w_iret c131_89 rfl))))) ((w_swcons (v := 5) rfl).trans ((ite_iff ((w_aload_n (pc' := 91) c131_90 rfl rfl).trans ((w_getR (pc' := 94) (q := 64) c131_91 kd_0 (by decide) rfl rd_0_4 rfl).trans ((w_getIv (pc' := 97) (v := (I 64 1)) c131_94 kd_64 (by decide) rfl (rfl) rfl).trans (w_iret c131_97 rfl)))) ((w_swcons (v := 6) rfl).trans ((ite_iff ((w_aload_n (pc' := 99) c131_98 rfl rfl).trans ((w_getR (pc' := 102) (q := 79) c131_99 kd_0 (by decide) rfl rd_0_10 rfl).trans ((w_getIv (pc' := 105) (v := (I 79 1)) c131_102 kd_79 (by decide) rfl (rfl) rfl).trans (w_iret c131_105 rfl)))) ((w_swnil).trans ((w_bipush (pc' := 108) (v := (-2)) c131_106 rfl rfl).trans (w_iret c131_108 rfl)))).trans (ite_val (fun z => Q (some (.int z)) (K0, R0, I, L)))))).trans (ite_val (fun z => Q (some (.int z)) (K0, R0, I, L)))))).trans (ite_val (fun z => Q (some (.int z)) (K0, R0, I, L)))))).trans (ite_val (fun z => Q (some (.int z)) (K0, R0, I, L)))))).trans (ite_val (fun z => Q (some (.int z)) (K0, R0, I, L)))))).trans (ite_val (fun z => Q (some (.int z)) (K0, R0, I, L)))))).trans (ite_val (fun z => Q (some (.int z)) (K0, R0, I, L))))))
-- LeavesObject.tape(III)I
theorem c132_0 : cdx (mC m132) 0 = some (0, .aload_n 0, 1, 0, 0, 0, 0, []) := rfl
theorem c132_1 : cdx (mC m132) 1 = some (1, .iload_n 1, 1, 1, 0, 0, 0, []) := rfl
theorem c132_2 : cdx (mC m132) 2 = some (2, .invokevirtual 260, 3, 115, 1, 0, 4015, [(9, 0)]) := rfl
theorem c132_5 : cdx (mC m132) 5 = some (5, .astore 4, 2, 4, 0, 0, 0, []) := rfl
theorem c132_7 : cdx (mC m132) 7 = some (7, .aload 4, 2, 4, 0, 0, 0, []) := rfl
theorem c132_9 : cdx (mC m132) 9 = some (9, .ifnonnull 5, 3, 14, 0, 0, 0, []) := rfl
theorem c132_12 : cdx (mC m132) 12 = some (12, .iconst (-1), 1, 0, 0, 0, 0, []) := rfl
theorem c132_13 : cdx (mC m132) 13 = some (13, .ireturn, 1, 0, 0, 0, 0, []) := rfl
theorem c132_14 : cdx (mC m132) 14 = some (14, .iload_n 2, 1, 2, 0, 0, 0, []) := rfl
theorem c132_15 : cdx (mC m132) 15 = some (15, .iconst (-1), 1, 0, 0, 0, 0, []) := rfl
theorem c132_16 : cdx (mC m132) 16 = some (16, .if_icmp .ne 12, 3, 28, 0, 0, 0, []) := rfl
theorem c132_19 : cdx (mC m132) 19 = some (19, .aload 4, 2, 4, 0, 0, 0, []) := rfl
theorem c132_21 : cdx (mC m132) 21 = some (21, .iload_n 2, 1, 2, 0, 0, 0, []) := rfl
theorem c132_22 : cdx (mC m132) 22 = some (22, .iconst 0, 1, 0, 0, 0, 0, []) := rfl
theorem c132_23 : cdx (mC m132) 23 = some (23, .invokevirtual 295, 3, 133, 2, 0, 4092, [(6, 0)]) := rfl
theorem c132_26 : cdx (mC m132) 26 = some (26, .iconst 1, 1, 0, 0, 0, 0, []) := rfl
theorem c132_27 : cdx (mC m132) 27 = some (27, .ireturn, 1, 0, 0, 0, 0, []) := rfl
theorem c132_28 : cdx (mC m132) 28 = some (28, .iload_n 2, 1, 2, 0, 0, 0, []) := rfl
theorem c132_29 : cdx (mC m132) 29 = some (29, .ifCond .lt 14, 3, 43, 0, 0, 0, []) := rfl
theorem c132_32 : cdx (mC m132) 32 = some (32, .iload_n 2, 1, 2, 0, 0, 0, []) := rfl
theorem c132_33 : cdx (mC m132) 33 = some (33, .iconst 4, 1, 0, 0, 0, 0, []) := rfl
theorem c132_34 : cdx (mC m132) 34 = some (34, .if_icmp .gt 9, 3, 43, 0, 0, 0, []) := rfl
theorem c132_37 : cdx (mC m132) 37 = some (37, .iload_n 3, 1, 3, 0, 0, 0, []) := rfl
theorem c132_38 : cdx (mC m132) 38 = some (38, .bipush 60, 2, 0, 0, 0, 0, []) := rfl
theorem c132_40 : cdx (mC m132) 40 = some (40, .if_icmp .le 6, 3, 46, 0, 0, 0, []) := rfl
theorem c132_43 : cdx (mC m132) 43 = some (43, .bipush (-2), 2, 0, 0, 0, 0, []) := rfl
theorem c132_45 : cdx (mC m132) 45 = some (45, .ireturn, 1, 0, 0, 0, 0, []) := rfl
theorem c132_46 : cdx (mC m132) 46 = some (46, .iload_n 3, 1, 3, 0, 0, 0, []) := rfl
theorem c132_47 : cdx (mC m132) 47 = some (47, .ifCond .ge 6, 3, 53, 0, 0, 0, []) := rfl
theorem c132_50 : cdx (mC m132) 50 = some (50, .bipush (-14), 2, 0, 0, 0, 0, []) := rfl
theorem c132_52 : cdx (mC m132) 52 = some (52, .ireturn, 1, 0, 0, 0, 0, []) := rfl
theorem c132_53 : cdx (mC m132) 53 = some (53, .aload 4, 2, 4, 0, 0, 0, []) := rfl
theorem c132_55 : cdx (mC m132) 55 = some (55, .iload_n 2, 1, 2, 0, 0, 0, []) := rfl
theorem c132_56 : cdx (mC m132) 56 = some (56, .iload_n 3, 1, 3, 0, 0, 0, []) := rfl
theorem c132_57 : cdx (mC m132) 57 = some (57, .invokevirtual 295, 3, 133, 2, 0, 4092, [(6, 0)]) := rfl
theorem c132_60 : cdx (mC m132) 60 = some (60, .iconst 1, 1, 0, 0, 0, 0, []) := rfl
theorem c132_61 : cdx (mC m132) 61 = some (61, .ireturn, 1, 0, 0, 0, 0, []) := rfl
def lv132 : List (Nat × List Nat) := [(0, [0, 1, 2, 3]), (1, [1, 2, 3]), (2, [2, 3]), (5, [2, 3]), (7, [2, 3, 4]), (9, [2, 3, 4]), (14, [2, 3, 4]), (15, [2, 3, 4]), (16, [2, 3, 4]), (19, [2, 4]), (21, [2]), (28, [2, 3, 4]), (29, [2, 3, 4]), (32, [2, 3, 4]), (33, [2, 3, 4]), (34, [2, 3, 4]), (37, [2, 3, 4]), (38, [2, 3, 4]), (40, [2, 3, 4]), (46, [2, 3, 4]), (47, [2, 3, 4]), (53, [2, 3, 4]), (55, [2, 3]), (56, [3])]
theorem lvok132 : lvOk (mC m132) lv132 = true := by decide +kernel
theorem b132_0 {X : Nat × (Nat → Int32)} {d : Nat} {I : Nat → Nat → Int32} {L : Nat → Nat → Int64} {Q : Option Value → XW → Prop} {x1 : Int32} {x2 : Int32} {x3 : Int32}  : wp X (d + 1) m132 0 [some (.ref 0), some (.int x1), some (.int x2), some (.int x3), none] [] (K0, R0, I, L) Q ↔ wp X d m115 0 [some (.ref 0), some (.int x1)] [] (K0, R0, I, L) (fun r w1 => wp X (d + 1) m132 5 [none, none, some (.int x2), some (.int x3), none] (r.toList ++ []) w1 Q) := (w_aload_n (pc' := 1) c132_0 rfl rfl).trans ((w_iload_n (pc' := 2) c132_1 rfl rfl).trans ((w_callv (pc' := 5) c132_2 mt115 rfl (Nat.le_of_ble_eq_true rfl) rfl kd_0 rfl rfl (Nat.le_of_ble_eq_true rfl) rfl rfl).trans (wp_congr (fun r w1 => wp_msk lvok132 rfl))))
theorem b132_5 {X : Nat × (Nat → Int32)} {d : Nat} {I : Nat → Nat → Int32} {L : Nat → Nat → Int64} {Q : Option Value → XW → Prop} {x2 : Int32} {x3 : Int32} {q0 : Nat} (hq0 : isTape q0) : wp X (d + 1) m132 5 [none, none, some (.int x2), some (.int x3), none] [(.ref q0)] (K0, R0, I, L) Q ↔ (if x2 = (-1) then wp X d m133 0 [some (.ref q0), some (.int x2), some (.int 0)] [] (K0, R0, I, L) (fun r w1 => wp X (d + 1) m132 26 [none, none, none, none, none] (r.toList ++ []) w1 Q) else (if x2 < 0 then Q (some (.int (-2))) (K0, R0, I, L) else (if 4 < x2 then Q (some (.int (-2))) (K0, R0, I, L) else (if 60 < x3 then Q (some (.int (-2))) (K0, R0, I, L) else (if x3 < 0 then Q (some (.int (-14))) (K0, R0, I, L) else wp X d m133 0 [some (.ref q0), some (.int x2), some (.int x3)] [] (K0, R0, I, L) (fun r w1 => wp X (d + 1) m132 60 [none, none, none, none, none] (r.toList ++ []) w1 Q)))))) := (w_astore (pc' := 7) (ls' := [none, none, some (.int x2), some (.int x3), some (.ref q0)]) c132_5 (Nat.le_of_ble_eq_true rfl) rfl rfl).trans ((w_aload (pc' := 9) c132_7 rfl rfl).trans ((w_ifnonnull c132_9 (k_lt hq0.1)).trans ((w_iload_n (pc' := 15) c132_14 rfl rfl).trans ((w_iconst (pc' := 16) (v := (-1)) c132_15 rfl rfl).trans ((w_icmp_ne (pc' := 19) c132_16 rfl).trans (ite_iff ((w_aload (pc' := 21) c132_19 rfl rfl).trans ((w_iload_n (pc' := 22) c132_21 rfl rfl).trans ((w_iconst (pc' := 23) (v := 0) c132_22 rfl rfl).trans ((w_callv (pc' := 26) c132_23 mt133 rfl (Nat.le_of_ble_eq_true rfl) rfl hq0.1 rfl rfl (Nat.le_of_ble_eq_true rfl) rfl rfl).trans (wp_congr (fun r w1 => wp_msk lvok132 rfl)))))) ((w_iload_n (pc' := 29) c132_28 rfl rfl).trans ((w_if_lt (pc' := 32) c132_29 rfl).trans (ite_iff ((w_bipush (pc' := 45) (v := (-2)) c132_43 rfl rfl).trans (w_iret c132_45 rfl)) ((w_iload_n (pc' := 33) c132_32 rfl rfl).trans ((w_iconst (pc' := 34) (v := 4) c132_33 rfl rfl).trans ((w_icmp_gt (pc' := 37) c132_34 rfl).trans (ite_iff ((w_bipush (pc' := 45) (v := (-2)) c132_43 rfl rfl).trans (w_iret c132_45 rfl)) ((w_iload_n (pc' := 38) c132_37 rfl rfl).trans ((w_bipush (pc' := 40) (v := 60) c132_38 rfl rfl).trans ((w_icmp_le (pc' := 43) c132_40 rfl).trans (ite_iff ((w_bipush (pc' := 45) (v := (-2)) c132_43 rfl rfl).trans (w_iret c132_45 rfl)) ((w_iload_n (pc' := 47) c132_46 rfl rfl).trans ((w_if_ge (pc' := 50) c132_47 rfl).trans (ite_iff ((w_bipush (pc' := 52) (v := (-14)) c132_50 rfl rfl).trans (w_iret c132_52 rfl)) ((w_aload (pc' := 55) c132_53 rfl rfl).trans ((w_iload_n (pc' := 56) c132_55 rfl rfl).trans ((w_iload_n (pc' := 57) c132_56 rfl rfl).trans ((w_callv (pc' := 60) c132_57 mt133 rfl (Nat.le_of_ble_eq_true rfl) rfl hq0.1 rfl rfl (Nat.le_of_ble_eq_true rfl) rfl rfl).trans (wp_congr (fun r w1 => wp_msk lvok132 rfl))))))))))))))))))))))))))
theorem b132_5_1 {X : Nat × (Nat → Int32)} {d : Nat} {I : Nat → Nat → Int32} {L : Nat → Nat → Int64} {Q : Option Value → XW → Prop} {x2 : Int32} {x3 : Int32}  : wp X d m132 5 [none, none, some (.int x2), some (.int x3), none] [.null] (K0, R0, I, L) Q ↔ Q (some (.int (-1))) (K0, R0, I, L) := (w_astoreN (pc' := 7) (ls' := [none, none, some (.int x2), some (.int x3), some .null]) c132_5 (Nat.le_of_ble_eq_true rfl) rfl rfl).trans ((w_aloadN (pc' := 9) c132_7 rfl rfl).trans ((w_ifnonnullN (pc' := 12) c132_9 rfl).trans ((w_iconst (pc' := 13) (v := (-1)) c132_12 rfl rfl).trans (w_iret c132_13 rfl))))
theorem b132_26 {X : Nat × (Nat → Int32)} {d : Nat} {I : Nat → Nat → Int32} {L : Nat → Nat → Int64} {Q : Option Value → XW → Prop}   : wp X d m132 26 [none, none, none, none, none] [] (K0, R0, I, L) Q ↔ Q (some (.int 1)) (K0, R0, I, L) := (w_iconst (pc' := 27) (v := 1) c132_26 rfl rfl).trans (w_iret c132_27 rfl)
theorem b132_60 {X : Nat × (Nat → Int32)} {d : Nat} {I : Nat → Nat → Int32} {L : Nat → Nat → Int64} {Q : Option Value → XW → Prop}   : wp X d m132 60 [none, none, none, none, none] [] (K0, R0, I, L) Q ↔ Q (some (.int 1)) (K0, R0, I, L) := (w_iconst (pc' := 61) (v := 1) c132_60 rfl rfl).trans (w_iret c132_61 rfl)
-- LeavesObject$Tape.become(II)V
theorem c133_0 : cdx (mC m133) 0 = some (0, .aload_n 0, 1, 0, 0, 0, 0, []) := rfl
theorem c133_1 : cdx (mC m133) 1 = some (1, .iload_n 1, 1, 1, 0, 0, 0, []) := rfl
theorem c133_2 : cdx (mC m133) 2 = some (2, .putfield 9, 3, 6, 0, 0, 1226, []) := rfl
theorem c133_5 : cdx (mC m133) 5 = some (5, .aload_n 0, 1, 0, 0, 0, 0, []) := rfl
theorem c133_6 : cdx (mC m133) 6 = some (6, .iload_n 2, 1, 2, 0, 0, 0, []) := rfl
theorem c133_7 : cdx (mC m133) 7 = some (7, .putfield 19, 3, 6, 1, 0, 1228, []) := rfl
theorem c133_10 : cdx (mC m133) 10 = some (10, .aload_n 0, 1, 0, 0, 0, 0, []) := rfl
theorem c133_11 : cdx (mC m133) 11 = some (11, .getfield 15, 3, 6, 2, 0, 1229, []) := rfl
theorem c133_14 : cdx (mC m133) 14 = some (14, .lconst 0, 1, 0, 0, 0, 0, []) := rfl
theorem c133_15 : cdx (mC m133) 15 = some (15, .invokestatic 22, 3, 134, 2, 5, 4096, []) := rfl
theorem c133_18 : cdx (mC m133) 18 = some (18, .return_, 1, 0, 0, 0, 0, []) := rfl
def lv133 : List (Nat × List Nat) := [(0, [0, 1, 2]), (1, [0, 1, 2]), (2, [0, 2]), (5, [0, 2]), (6, [0, 2]), (7, [0]), (10, [0])]
theorem lvok133 : lvOk (mC m133) lv133 = true := by decide +kernel
theorem b133_0 {X : Nat × (Nat → Int32)} {d : Nat} {I : Nat → Nat → Int32} {L : Nat → Nat → Int64} {Q : Option Value → XW → Prop} {r0 : Nat} {x1 : Int32} {x2 : Int32} (hr0 : isTape r0) : wp X (d + 1) m133 0 [some (.ref r0), some (.int x1), some (.int x2)] [] (K0, R0, I, L) Q ↔ wp X d m134 0 [some (.ref (r0 + 1)), some (.long (0)), none, none, none] [] (K0, R0, (updR (updR I r0 0 x1) r0 1 x2), L) (fun r w1 => wp X (d + 1) m133 18 [none, none, none] (r.toList ++ []) w1 Q) := (w_aload_n (pc' := 1) c133_0 rfl rfl).trans ((w_iload_n (pc' := 2) c133_1 rfl rfl).trans ((w_putI (pc' := 5) c133_2 hr0.1 (by decide) rfl rfl rfl).trans ((w_aload_n (pc' := 6) c133_5 rfl rfl).trans ((w_iload_n (pc' := 7) c133_6 rfl rfl).trans ((w_putI (pc' := 10) c133_7 hr0.1 (by decide) rfl rfl rfl).trans ((w_aload_n (pc' := 11) c133_10 rfl rfl).trans ((w_getR (pc' := 14) (q := (r0 + 1)) c133_11 hr0.1 (by decide) rfl hr0.2.1 rfl).trans ((w_lconst (pc' := 15) (v := 0) c133_14 rfl rfl).trans ((w_callst (pc' := 18) c133_15 (by decide) mt134 rfl (Nat.le_of_ble_eq_true rfl) rfl rfl (Nat.le_of_ble_eq_true rfl) rfl rfl).trans (wp_congr (fun r w1 => wp_msk lvok133 rfl)))))))))))
theorem b133_18 {X : Nat × (Nat → Int32)} {d : Nat} {I : Nat → Nat → Int32} {L : Nat → Nat → Int64} {Q : Option Value → XW → Prop}   : wp X d m133 18 [none, none, none] [] (K0, R0, I, L) Q ↔ Q none (K0, R0, I, L) := w_vret c133_18 rfl
-- java/util/Arrays.fill([JJ)V
theorem c134_0 : cdx (mC m134) 0 = some (0, .iconst 0, 1, 0, 0, 0, 0, []) := rfl
theorem c134_1 : cdx (mC m134) 1 = some (1, .istore_n 3, 1, 3, 0, 0, 0, []) := rfl
theorem c134_2 : cdx (mC m134) 2 = some (2, .aload_n 0, 1, 0, 0, 0, 0, []) := rfl
theorem c134_3 : cdx (mC m134) 3 = some (3, .arraylength, 1, 0, 0, 0, 0, []) := rfl
theorem c134_4 : cdx (mC m134) 4 = some (4, .istore 4, 2, 4, 0, 0, 0, []) := rfl
theorem c134_6 : cdx (mC m134) 6 = some (6, .iload_n 3, 1, 3, 0, 0, 0, []) := rfl
theorem c134_7 : cdx (mC m134) 7 = some (7, .iload 4, 2, 4, 0, 0, 0, []) := rfl
theorem c134_9 : cdx (mC m134) 9 = some (9, .if_icmp .ge 13, 3, 22, 0, 0, 0, []) := rfl
theorem c134_12 : cdx (mC m134) 12 = some (12, .aload_n 0, 1, 0, 0, 0, 0, []) := rfl
theorem c134_13 : cdx (mC m134) 13 = some (13, .iload_n 3, 1, 3, 0, 0, 0, []) := rfl
theorem c134_14 : cdx (mC m134) 14 = some (14, .lload_n 1, 1, 1, 0, 0, 0, []) := rfl
theorem c134_15 : cdx (mC m134) 15 = some (15, .lastore, 1, 0, 0, 0, 0, []) := rfl
theorem c134_16 : cdx (mC m134) 16 = some (16, .iinc 3 1, 3, 3, 0, 0, 0, []) := rfl
theorem c134_19 : cdx (mC m134) 19 = some (19, .goto (-13), 3, 6, 0, 0, 0, []) := rfl
theorem c134_22 : cdx (mC m134) 22 = some (22, .return_, 1, 0, 0, 0, 0, []) := rfl
theorem b134_0 {X : Nat × (Nat → Int32)} {d : Nat} {I : Nat → Nat → Int32} {L : Nat → Nat → Int64} {Q : Option Value → XW → Prop} {r0 nr0 : Nat} {x1 : Int64} (hr0 : K0[r0]? = some (.inl (.long, nr0))) : wp X d m134 0 [some (.ref r0), some (.long (x1)), none, none, none] [] (K0, R0, I, L) Q ↔ wp X d m134 6 [some (.ref r0), some (.long (x1)), none, some (.int 0), some (.int (Int32.ofNat nr0))] [] (K0, R0, I, L) Q := (w_iconst (pc' := 1) (v := 0) c134_0 rfl rfl).trans ((w_istore_n (pc' := 2) (ls' := [some (.ref r0), some (.long (x1)), none, some (.int 0), none]) c134_1 (Nat.le_of_ble_eq_true rfl) rfl rfl).trans ((w_aload_n (pc' := 3) c134_2 rfl rfl).trans ((w_alen (pc' := 4) (v := (Int32.ofNat nr0)) c134_3 hr0 rfl rfl).trans ((w_istore (pc' := 6) (ls' := [some (.ref r0), some (.long (x1)), none, some (.int 0), some (.int (Int32.ofNat nr0))]) c134_4 (Nat.le_of_ble_eq_true rfl) rfl rfl)))))
theorem b134_6 {X : Nat × (Nat → Int32)} {d : Nat} {I : Nat → Nat → Int32} {L : Nat → Nat → Int64} {Q : Option Value → XW → Prop} {r0 nr0 : Nat} {x1 : Int64} {x3 : Int32} {x4 : Int32} (hr0 : K0[r0]? = some (.inl (.long, nr0))) : wp X d m134 6 [some (.ref r0), some (.long (x1)), none, some (.int x3), some (.int x4)] [] (K0, R0, I, L) Q ↔ (if x3 < x4 then (inA x3 nr0 = true ∧ wp X d m134 6 [some (.ref r0), some (.long (x1)), none, some (.int (x3 + 1)), some (.int x4)] [] (K0, R0, I, (updR L r0 (Int32.toNatClampNeg x3) x1)) Q) else Q none (K0, R0, I, L)) := (w_iload_n (pc' := 7) c134_6 rfl rfl).trans ((w_iload (pc' := 9) c134_7 rfl rfl).trans ((w_icmp_ge (pc' := 12) c134_9 rfl).trans (ite_iff ((w_aload_n (pc' := 13) c134_12 rfl rfl).trans ((w_iload_n (pc' := 14) c134_13 rfl rfl).trans ((w_lload_n (pc' := 15) c134_14 rfl rfl).trans ((w_last (pc' := 16) c134_15 hr0 rfl).trans (and_congr_right (fun _ => (w_iinc (pc' := 19) (v := (x3 + 1)) (ls' := [some (.ref r0), some (.long (x1)), none, some (.int (x3 + 1)), some (.int x4)]) c134_16 (Nat.le_of_ble_eq_true rfl) rfl rfl rfl rfl).trans ((w_goto c134_19)))))))) (w_vret c134_22 rfl))))
-- LeavesObject.item(IIJ)I
theorem c135_0 : cdx (mC m135) 0 = some (0, .aload_n 0, 1, 0, 0, 0, 0, []) := rfl
theorem c135_1 : cdx (mC m135) 1 = some (1, .iload_n 1, 1, 1, 0, 0, 0, []) := rfl
theorem c135_2 : cdx (mC m135) 2 = some (2, .invokevirtual 260, 3, 115, 1, 0, 4015, [(9, 0)]) := rfl
theorem c135_5 : cdx (mC m135) 5 = some (5, .astore 5, 2, 5, 0, 0, 0, []) := rfl
theorem c135_7 : cdx (mC m135) 7 = some (7, .aload 5, 2, 5, 0, 0, 0, []) := rfl
theorem c135_9 : cdx (mC m135) 9 = some (9, .ifnonnull 5, 3, 14, 0, 0, 0, []) := rfl
theorem c135_12 : cdx (mC m135) 12 = some (12, .iconst (-1), 1, 0, 0, 0, 0, []) := rfl
theorem c135_13 : cdx (mC m135) 13 = some (13, .ireturn, 1, 0, 0, 0, 0, []) := rfl
theorem c135_14 : cdx (mC m135) 14 = some (14, .aload 5, 2, 5, 0, 0, 0, []) := rfl
theorem c135_16 : cdx (mC m135) 16 = some (16, .invokevirtual 264, 3, 116, 0, 0, 4019, [(6, 0)]) := rfl
theorem c135_19 : cdx (mC m135) 19 = some (19, .ifCond .ne 6, 3, 25, 0, 0, 0, []) := rfl
theorem c135_22 : cdx (mC m135) 22 = some (22, .bipush (-11), 2, 0, 0, 0, 0, []) := rfl
theorem c135_24 : cdx (mC m135) 24 = some (24, .ireturn, 1, 0, 0, 0, 0, []) := rfl
theorem c135_25 : cdx (mC m135) 25 = some (25, .aload 5, 2, 5, 0, 0, 0, []) := rfl
theorem c135_27 : cdx (mC m135) 27 = some (27, .iload_n 2, 1, 2, 0, 0, 0, []) := rfl
theorem c135_28 : cdx (mC m135) 28 = some (28, .iconst 1, 1, 0, 0, 0, 0, []) := rfl
theorem c135_29 : cdx (mC m135) 29 = some (29, .invokevirtual 271, 3, 117, 2, 0, 4023, [(6, 0)]) := rfl
theorem c135_32 : cdx (mC m135) 32 = some (32, .ifCond .ne 6, 3, 38, 0, 0, 0, []) := rfl
theorem c135_35 : cdx (mC m135) 35 = some (35, .bipush (-13), 2, 0, 0, 0, 0, []) := rfl
theorem c135_37 : cdx (mC m135) 37 = some (37, .ireturn, 1, 0, 0, 0, 0, []) := rfl
theorem c135_38 : cdx (mC m135) 38 = some (38, .aload 5, 2, 5, 0, 0, 0, []) := rfl
theorem c135_40 : cdx (mC m135) 40 = some (40, .iload_n 2, 1, 2, 0, 0, 0, []) := rfl
theorem c135_41 : cdx (mC m135) 41 = some (41, .lload_n 3, 1, 3, 0, 0, 0, []) := rfl
theorem c135_42 : cdx (mC m135) 42 = some (42, .invokevirtual 297, 3, 136, 2, 0, 4103, [(6, 0)]) := rfl
theorem c135_45 : cdx (mC m135) 45 = some (45, .iconst 1, 1, 0, 0, 0, 0, []) := rfl
theorem c135_46 : cdx (mC m135) 46 = some (46, .ireturn, 1, 0, 0, 0, 0, []) := rfl
def lv135 : List (Nat × List Nat) := [(0, [0, 1, 2, 3]), (1, [1, 2, 3]), (2, [2, 3]), (5, [2, 3]), (7, [2, 3, 5]), (9, [2, 3, 5]), (14, [2, 3, 5]), (16, [2, 3, 5]), (19, [2, 3, 5]), (25, [2, 3, 5]), (27, [2, 3, 5]), (28, [2, 3, 5]), (29, [2, 3, 5]), (32, [2, 3, 5]), (38, [2, 3, 5]), (40, [2, 3]), (41, [3])]
theorem lvok135 : lvOk (mC m135) lv135 = true := by decide +kernel
theorem b135_0 {X : Nat × (Nat → Int32)} {d : Nat} {I : Nat → Nat → Int32} {L : Nat → Nat → Int64} {Q : Option Value → XW → Prop} {x1 : Int32} {x2 : Int32} {x3 : Int64}  : wp X (d + 1) m135 0 [some (.ref 0), some (.int x1), some (.int x2), some (.long (x3)), none, none] [] (K0, R0, I, L) Q ↔ wp X d m115 0 [some (.ref 0), some (.int x1)] [] (K0, R0, I, L) (fun r w1 => wp X (d + 1) m135 5 [none, none, some (.int x2), some (.long (x3)), none, none] (r.toList ++ []) w1 Q) := (w_aload_n (pc' := 1) c135_0 rfl rfl).trans ((w_iload_n (pc' := 2) c135_1 rfl rfl).trans ((w_callv (pc' := 5) c135_2 mt115 rfl (Nat.le_of_ble_eq_true rfl) rfl kd_0 rfl rfl (Nat.le_of_ble_eq_true rfl) rfl rfl).trans (wp_congr (fun r w1 => wp_msk lvok135 rfl))))
theorem b135_5 {X : Nat × (Nat → Int32)} {d : Nat} {I : Nat → Nat → Int32} {L : Nat → Nat → Int64} {Q : Option Value → XW → Prop} {x2 : Int32} {x3 : Int64} {q0 : Nat} (hq0 : isTape q0) : wp X (d + 1) m135 5 [none, none, some (.int x2), some (.long (x3)), none, none] [(.ref q0)] (K0, R0, I, L) Q ↔ wp X d m116 0 [some (.ref q0)] [] (K0, R0, I, L) (fun r w1 => wp X (d + 1) m135 19 [none, none, some (.int x2), some (.long (x3)), none, some (.ref q0)] (r.toList ++ []) w1 Q) := (w_astore (pc' := 7) (ls' := [none, none, some (.int x2), some (.long (x3)), none, some (.ref q0)]) c135_5 (Nat.le_of_ble_eq_true rfl) rfl rfl).trans ((w_aload (pc' := 9) c135_7 rfl rfl).trans ((w_ifnonnull c135_9 (k_lt hq0.1)).trans ((w_aload (pc' := 16) c135_14 rfl rfl).trans ((w_callv (pc' := 19) c135_16 mt116 rfl (Nat.le_of_ble_eq_true rfl) rfl hq0.1 rfl rfl (Nat.le_of_ble_eq_true rfl) rfl rfl)))))
theorem b135_5_1 {X : Nat × (Nat → Int32)} {d : Nat} {I : Nat → Nat → Int32} {L : Nat → Nat → Int64} {Q : Option Value → XW → Prop} {x2 : Int32} {x3 : Int64}  : wp X d m135 5 [none, none, some (.int x2), some (.long (x3)), none, none] [.null] (K0, R0, I, L) Q ↔ Q (some (.int (-1))) (K0, R0, I, L) := (w_astoreN (pc' := 7) (ls' := [none, none, some (.int x2), some (.long (x3)), none, some .null]) c135_5 (Nat.le_of_ble_eq_true rfl) rfl rfl).trans ((w_aloadN (pc' := 9) c135_7 rfl rfl).trans ((w_ifnonnullN (pc' := 12) c135_9 rfl).trans ((w_iconst (pc' := 13) (v := (-1)) c135_12 rfl rfl).trans (w_iret c135_13 rfl))))
theorem b135_19 {X : Nat × (Nat → Int32)} {d : Nat} {I : Nat → Nat → Int32} {L : Nat → Nat → Int64} {Q : Option Value → XW → Prop} {x2 : Int32} {x3 : Int64} {r5 : Nat} {s0 : Int32} (hr5 : isTape r5) : wp X (d + 1) m135 19 [none, none, some (.int x2), some (.long (x3)), none, some (.ref r5)] [(.int s0)] (K0, R0, I, L) Q ↔ (if s0 = 0 then Q (some (.int (-11))) (K0, R0, I, L) else wp X d m117 0 [some (.ref r5), some (.int x2), some (.int 1)] [] (K0, R0, I, L) (fun r w1 => wp X (d + 1) m135 32 [none, none, some (.int x2), some (.long (x3)), none, some (.ref r5)] (r.toList ++ []) w1 Q)) := (w_if_ne (pc' := 22) c135_19 rfl).trans (ite_iff ((w_bipush (pc' := 24) (v := (-11)) c135_22 rfl rfl).trans (w_iret c135_24 rfl)) ((w_aload (pc' := 27) c135_25 rfl rfl).trans ((w_iload_n (pc' := 28) c135_27 rfl rfl).trans ((w_iconst (pc' := 29) (v := 1) c135_28 rfl rfl).trans ((w_callv (pc' := 32) c135_29 mt117 rfl (Nat.le_of_ble_eq_true rfl) rfl hr5.1 rfl rfl (Nat.le_of_ble_eq_true rfl) rfl rfl))))))
theorem b135_32 {X : Nat × (Nat → Int32)} {d : Nat} {I : Nat → Nat → Int32} {L : Nat → Nat → Int64} {Q : Option Value → XW → Prop} {x2 : Int32} {x3 : Int64} {r5 : Nat} {s0 : Int32} (hr5 : isTape r5) : wp X (d + 1) m135 32 [none, none, some (.int x2), some (.long (x3)), none, some (.ref r5)] [(.int s0)] (K0, R0, I, L) Q ↔ (if s0 = 0 then Q (some (.int (-13))) (K0, R0, I, L) else wp X d m136 0 [some (.ref r5), some (.int x2), some (.long (x3)), none] [] (K0, R0, I, L) (fun r w1 => wp X (d + 1) m135 45 [none, none, none, none, none, none] (r.toList ++ []) w1 Q)) := (w_if_ne (pc' := 35) c135_32 rfl).trans (ite_iff ((w_bipush (pc' := 37) (v := (-13)) c135_35 rfl rfl).trans (w_iret c135_37 rfl)) ((w_aload (pc' := 40) c135_38 rfl rfl).trans ((w_iload_n (pc' := 41) c135_40 rfl rfl).trans ((w_lload_n (pc' := 42) c135_41 rfl rfl).trans ((w_callv (pc' := 45) c135_42 mt136 rfl (Nat.le_of_ble_eq_true rfl) rfl hr5.1 rfl rfl (Nat.le_of_ble_eq_true rfl) rfl rfl).trans (wp_congr (fun r w1 => wp_msk lvok135 rfl)))))))
theorem b135_45 {X : Nat × (Nat → Int32)} {d : Nat} {I : Nat → Nat → Int32} {L : Nat → Nat → Int64} {Q : Option Value → XW → Prop}   : wp X d m135 45 [none, none, none, none, none, none] [] (K0, R0, I, L) Q ↔ Q (some (.int 1)) (K0, R0, I, L) := (w_iconst (pc' := 46) (v := 1) c135_45 rfl rfl).trans (w_iret c135_46 rfl)
-- LeavesObject$Tape.setItem(IJ)V
theorem c136_0 : cdx (mC m136) 0 = some (0, .iload_n 1, 1, 1, 0, 0, 0, []) := rfl
theorem c136_1 : cdx (mC m136) 1 = some (1, .ifCond .lt 23, 3, 24, 0, 0, 0, []) := rfl
theorem c136_4 : cdx (mC m136) 4 = some (4, .iload_n 1, 1, 1, 0, 0, 0, []) := rfl
theorem c136_5 : cdx (mC m136) 5 = some (5, .aload_n 0, 1, 0, 0, 0, 0, []) := rfl
theorem c136_6 : cdx (mC m136) 6 = some (6, .getfield 15, 3, 6, 2, 0, 1229, []) := rfl
theorem c136_9 : cdx (mC m136) 9 = some (9, .arraylength, 1, 0, 0, 0, 0, []) := rfl
theorem c136_10 : cdx (mC m136) 10 = some (10, .if_icmp .ge 14, 3, 24, 0, 0, 0, []) := rfl
theorem c136_13 : cdx (mC m136) 13 = some (13, .aload_n 0, 1, 0, 0, 0, 0, []) := rfl
theorem c136_14 : cdx (mC m136) 14 = some (14, .getfield 15, 3, 6, 2, 0, 1229, []) := rfl
theorem c136_17 : cdx (mC m136) 17 = some (17, .iload_n 1, 1, 1, 0, 0, 0, []) := rfl
theorem c136_18 : cdx (mC m136) 18 = some (18, .aload_n 0, 1, 0, 0, 0, 0, []) := rfl
theorem c136_19 : cdx (mC m136) 19 = some (19, .lload_n 2, 1, 2, 0, 0, 0, []) := rfl
theorem c136_20 : cdx (mC m136) 20 = some (20, .invokevirtual 32, 3, 137, 1, 0, 4107, [(6, 0)]) := rfl
theorem c136_23 : cdx (mC m136) 23 = some (23, .lastore, 1, 0, 0, 0, 0, []) := rfl
theorem c136_24 : cdx (mC m136) 24 = some (24, .return_, 1, 0, 0, 0, 0, []) := rfl
def lv136 : List (Nat × List Nat) := [(0, [0, 1, 2]), (1, [0, 1, 2]), (4, [0, 1, 2]), (5, [0, 1, 2]), (6, [0, 1, 2]), (9, [0, 1, 2]), (10, [0, 1, 2]), (13, [0, 1, 2]), (14, [0, 1, 2]), (17, [0, 1, 2]), (18, [0, 2]), (19, [2])]
theorem lvok136 : lvOk (mC m136) lv136 = true := by decide +kernel
theorem b136_0 {X : Nat × (Nat → Int32)} {d : Nat} {I : Nat → Nat → Int32} {L : Nat → Nat → Int64} {Q : Option Value → XW → Prop} {r0 : Nat} {x1 : Int32} {x2 : Int64} (hr0 : isTape r0) : wp X (d + 1) m136 0 [some (.ref r0), some (.int x1), some (.long (x2)), none] [] (K0, R0, I, L) Q ↔ (if x1 < 0 then Q none (K0, R0, I, L) else (if x1 < 60 then wp X d m137 0 [some (.ref r0), some (.long (x2)), none] [] (K0, R0, I, L) (fun r w1 => wp X (d + 1) m136 23 [none, none, none, none] (r.toList ++ [(.int x1), (.ref (r0 + 1))]) w1 Q) else Q none (K0, R0, I, L))) := (w_iload_n (pc' := 1) c136_0 rfl rfl).trans ((w_if_lt (pc' := 4) c136_1 rfl).trans (ite_iff (w_vret c136_24 rfl) ((w_iload_n (pc' := 5) c136_4 rfl rfl).trans ((w_aload_n (pc' := 6) c136_5 rfl rfl).trans ((w_getR (pc' := 9) (q := (r0 + 1)) c136_6 hr0.1 (by decide) rfl hr0.2.1 rfl).trans ((w_alen (pc' := 10) (v := 60) c136_9 hr0.2.2 rfl rfl).trans ((w_icmp_ge (pc' := 13) c136_10 rfl).trans (ite_iff ((w_aload_n (pc' := 14) c136_13 rfl rfl).trans ((w_getR (pc' := 17) (q := (r0 + 1)) c136_14 hr0.1 (by decide) rfl hr0.2.1 rfl).trans ((w_iload_n (pc' := 18) c136_17 rfl rfl).trans ((w_aload_n (pc' := 19) c136_18 rfl rfl).trans ((w_lload_n (pc' := 20) c136_19 rfl rfl).trans ((w_callv (pc' := 23) c136_20 mt137 rfl (Nat.le_of_ble_eq_true rfl) rfl hr0.1 rfl rfl (Nat.le_of_ble_eq_true rfl) rfl rfl).trans (wp_congr (fun r w1 => wp_msk lvok136 rfl)))))))) (w_vret c136_24 rfl)))))))))
theorem b136_23 {X : Nat × (Nat → Int32)} {d : Nat} {I : Nat → Nat → Int32} {L : Nat → Nat → Int64} {Q : Option Value → XW → Prop} {q0 : Nat} {s1 : Int32} {s2 : Int64} (hq0 : K0[q0]? = some (.inl (.long, 60))) : wp X d m136 23 [none, none, none, none] [(.long (s2)), (.int s1), (.ref q0)] (K0, R0, I, L) Q ↔ (inA s1 60 = true ∧ Q none (K0, R0, I, (updR L q0 (Int32.toNatClampNeg s1) s2))) := (w_last (pc' := 24) c136_23 hq0 rfl).trans (and_congr_right (fun _ => w_vret c136_24 rfl))
-- LeavesObject$Tape.cut(J)J
theorem c137_0 : cdx (mC m137) 0 = some (0, .aload_n 0, 1, 0, 0, 0, 0, []) := rfl
theorem c137_1 : cdx (mC m137) 1 = some (1, .getfield 9, 3, 6, 0, 0, 1226, []) := rfl
theorem c137_4 : cdx (mC m137) 4 = some (4, .tableswitch 48 0 3 #[32, 37, 42, 46], 32, 52, 0, 0, 0, [(0, 36), (1, 41), (2, 46), (3, 50)]) := rfl
theorem c137_36 : cdx (mC m137) 36 = some (36, .lload_n 1, 1, 1, 0, 0, 0, []) := rfl
theorem c137_37 : cdx (mC m137) 37 = some (37, .l2i, 1, 0, 0, 0, 0, []) := rfl
theorem c137_38 : cdx (mC m137) 38 = some (38, .i2b, 1, 0, 0, 0, 0, []) := rfl
theorem c137_39 : cdx (mC m137) 39 = some (39, .i2l, 1, 0, 0, 0, 0, []) := rfl
theorem c137_40 : cdx (mC m137) 40 = some (40, .lreturn, 1, 0, 0, 0, 0, []) := rfl
theorem c137_41 : cdx (mC m137) 41 = some (41, .lload_n 1, 1, 1, 0, 0, 0, []) := rfl
theorem c137_42 : cdx (mC m137) 42 = some (42, .l2i, 1, 0, 0, 0, 0, []) := rfl
theorem c137_43 : cdx (mC m137) 43 = some (43, .i2s, 1, 0, 0, 0, 0, []) := rfl
theorem c137_44 : cdx (mC m137) 44 = some (44, .i2l, 1, 0, 0, 0, 0, []) := rfl
theorem c137_45 : cdx (mC m137) 45 = some (45, .lreturn, 1, 0, 0, 0, 0, []) := rfl
theorem c137_46 : cdx (mC m137) 46 = some (46, .lload_n 1, 1, 1, 0, 0, 0, []) := rfl
theorem c137_47 : cdx (mC m137) 47 = some (47, .l2i, 1, 0, 0, 0, 0, []) := rfl
theorem c137_48 : cdx (mC m137) 48 = some (48, .i2l, 1, 0, 0, 0, 0, []) := rfl
theorem c137_49 : cdx (mC m137) 49 = some (49, .lreturn, 1, 0, 0, 0, 0, []) := rfl
theorem c137_50 : cdx (mC m137) 50 = some (50, .lload_n 1, 1, 1, 0, 0, 0, []) := rfl
theorem c137_51 : cdx (mC m137) 51 = some (51, .lreturn, 1, 0, 0, 0, 0, []) := rfl
theorem c137_52 : cdx (mC m137) 52 = some (52, .lload_n 1, 1, 1, 0, 0, 0, []) := rfl
theorem c137_53 : cdx (mC m137) 53 = some (53, .lconst 0, 1, 0, 0, 0, 0, []) := rfl
theorem c137_54 : cdx (mC m137) 54 = some (54, .lcmp, 1, 0, 0, 0, 0, []) := rfl
theorem c137_55 : cdx (mC m137) 55 = some (55, .ifCond .eq 7, 3, 62, 0, 0, 0, []) := rfl
theorem c137_58 : cdx (mC m137) 58 = some (58, .lconst 1, 1, 0, 0, 0, 0, []) := rfl
theorem c137_59 : cdx (mC m137) 59 = some (59, .goto 4, 3, 63, 0, 0, 0, []) := rfl
theorem c137_62 : cdx (mC m137) 62 = some (62, .lconst 0, 1, 0, 0, 0, 0, []) := rfl
theorem c137_63 : cdx (mC m137) 63 = some (63, .lreturn, 1, 0, 0, 0, 0, []) := rfl
theorem b137_0 {X : Nat × (Nat → Int32)} {d : Nat} {I : Nat → Nat → Int32} {L : Nat → Nat → Int64} {Q : Option Value → XW → Prop} {r0 : Nat} {x1 : Int64} (hr0 : isTape r0) : wp X d m137 0 [some (.ref r0), some (.long (x1)), none] [] (K0, R0, I, L) Q ↔ (if (I r0 0) = 0 then Q (some (.long ((Int32.toInt64 ((Int32.toInt8 (Int64.toInt32 x1)).toInt32))))) (K0, R0, I, L) else (if (I r0 0) = 1 then Q (some (.long ((Int32.toInt64 ((Int32.toInt16 (Int64.toInt32 x1)).toInt32))))) (K0, R0, I, L) else (if (I r0 0) = 2 then Q (some (.long ((Int32.toInt64 (Int64.toInt32 x1))))) (K0, R0, I, L) else (if (I r0 0) = 3 then Q (some (.long (x1))) (K0, R0, I, L) else (if (lg_cmp x1 0) = 0 then Q (some (.long (0))) (K0, R0, I, L) else Q (some (.long (1))) (K0, R0, I, L)))))) := (w_aload_n (pc' := 1) c137_0 rfl rfl).trans ((w_getIv (pc' := 4) (v := (I r0 0)) c137_1 hr0.1 (by decide) rfl (rfl) rfl).trans ((w_tswitch c137_4).trans ((w_swcons (v := 0) rfl).trans (ite_iff ((w_lload_n (pc' := 37) c137_36 rfl rfl).trans ((w_l2i (pc' := 38) c137_37 rfl).trans ((w_i2b (pc' := 39) c137_38 rfl).trans ((w_i2l (pc' := 40) c137_39 rfl).trans (w_lret c137_40 rfl))))) ((w_swcons (v := 1) rfl).trans (ite_iff ((w_lload_n (pc' := 42) c137_41 rfl rfl).trans ((w_l2i (pc' := 43) c137_42 rfl).trans ((w_i2s (pc' := 44) c137_43 rfl).trans ((w_i2l (pc' := 45) c137_44 rfl).trans (w_lret c137_45 rfl))))) ((w_swcons (v := 2) rfl).trans (ite_iff ((w_lload_n (pc' := 47) c137_46 rfl rfl).trans ((w_l2i (pc' := 48) c137_47 rfl).trans ((w_i2l (pc' := 49) c137_48 rfl).trans (w_lret c137_49 rfl)))) ((w_swcons (v := 3) rfl).trans (ite_iff ((w_lload_n (pc' := 51) c137_50 rfl rfl).trans (w_lret c137_51 rfl)) ((w_swnil).trans ((w_lload_n (pc' := 53) c137_52 rfl rfl).trans ((w_lconst (pc' := 54) (v := 0) c137_53 rfl rfl).trans ((w_lcmp (pc' := 55) c137_54 rfl).trans ((w_if_eq (pc' := 58) c137_55 rfl).trans (ite_iff ((w_lconst (pc' := 63) (v := 0) c137_62 rfl rfl).trans (w_lret c137_63 rfl)) ((w_lconst (pc' := 59) (v := 1) c137_58 rfl rfl).trans ((w_goto c137_59).trans (w_lret c137_63 rfl)))))))))))))))))))
-- LeavesObject.read(II)J
theorem c138_0 : cdx (mC m138) 0 = some (0, .aload_n 0, 1, 0, 0, 0, 0, []) := rfl
theorem c138_1 : cdx (mC m138) 1 = some (1, .iload_n 1, 1, 1, 0, 0, 0, []) := rfl
theorem c138_2 : cdx (mC m138) 2 = some (2, .invokevirtual 260, 3, 115, 1, 0, 4015, [(9, 0)]) := rfl
theorem c138_5 : cdx (mC m138) 5 = some (5, .astore_n 3, 1, 3, 0, 0, 0, []) := rfl
theorem c138_6 : cdx (mC m138) 6 = some (6, .aload_n 3, 1, 3, 0, 0, 0, []) := rfl
theorem c138_7 : cdx (mC m138) 7 = some (7, .ifnull 12, 3, 19, 0, 0, 0, []) := rfl
theorem c138_10 : cdx (mC m138) 10 = some (10, .aload_n 3, 1, 3, 0, 0, 0, []) := rfl
theorem c138_11 : cdx (mC m138) 11 = some (11, .iload_n 2, 1, 2, 0, 0, 0, []) := rfl
theorem c138_12 : cdx (mC m138) 12 = some (12, .iconst 1, 1, 0, 0, 0, 0, []) := rfl
theorem c138_13 : cdx (mC m138) 13 = some (13, .invokevirtual 271, 3, 117, 2, 0, 4023, [(6, 0)]) := rfl
theorem c138_16 : cdx (mC m138) 16 = some (16, .ifCond .ne 7, 3, 23, 0, 0, 0, []) := rfl
theorem c138_19 : cdx (mC m138) 19 = some (19, .ldc2_w 239, 3, 0, 0, 0, 3211, [((-9223372036854775808), 0)]) := rfl
theorem c138_22 : cdx (mC m138) 22 = some (22, .lreturn, 1, 0, 0, 0, 0, []) := rfl
theorem c138_23 : cdx (mC m138) 23 = some (23, .aload_n 3, 1, 3, 0, 0, 0, []) := rfl
theorem c138_24 : cdx (mC m138) 24 = some (24, .iload_n 2, 1, 2, 0, 0, 0, []) := rfl
theorem c138_25 : cdx (mC m138) 25 = some (25, .invokevirtual 274, 3, 118, 1, 0, 4028, [(6, 0)]) := rfl
theorem c138_28 : cdx (mC m138) 28 = some (28, .lreturn, 1, 0, 0, 0, 0, []) := rfl
def lv138 : List (Nat × List Nat) := [(0, [0, 1, 2]), (1, [1, 2]), (2, [2]), (5, [2]), (6, [2, 3]), (7, [2, 3]), (10, [2, 3]), (11, [2, 3]), (12, [2, 3]), (13, [2, 3]), (16, [2, 3]), (23, [2, 3]), (24, [2])]
theorem lvok138 : lvOk (mC m138) lv138 = true := by decide +kernel
theorem b138_0 {X : Nat × (Nat → Int32)} {d : Nat} {I : Nat → Nat → Int32} {L : Nat → Nat → Int64} {Q : Option Value → XW → Prop} {x1 : Int32} {x2 : Int32}  : wp X (d + 1) m138 0 [some (.ref 0), some (.int x1), some (.int x2), none] [] (K0, R0, I, L) Q ↔ wp X d m115 0 [some (.ref 0), some (.int x1)] [] (K0, R0, I, L) (fun r w1 => wp X (d + 1) m138 5 [none, none, some (.int x2), none] (r.toList ++ []) w1 Q) := (w_aload_n (pc' := 1) c138_0 rfl rfl).trans ((w_iload_n (pc' := 2) c138_1 rfl rfl).trans ((w_callv (pc' := 5) c138_2 mt115 rfl (Nat.le_of_ble_eq_true rfl) rfl kd_0 rfl rfl (Nat.le_of_ble_eq_true rfl) rfl rfl).trans (wp_congr (fun r w1 => wp_msk lvok138 rfl))))
theorem b138_5 {X : Nat × (Nat → Int32)} {d : Nat} {I : Nat → Nat → Int32} {L : Nat → Nat → Int64} {Q : Option Value → XW → Prop} {x2 : Int32} {q0 : Nat} (hq0 : isTape q0) : wp X (d + 1) m138 5 [none, none, some (.int x2), none] [(.ref q0)] (K0, R0, I, L) Q ↔ wp X d m117 0 [some (.ref q0), some (.int x2), some (.int 1)] [] (K0, R0, I, L) (fun r w1 => wp X (d + 1) m138 16 [none, none, some (.int x2), some (.ref q0)] (r.toList ++ []) w1 Q) := (w_astore_n (pc' := 6) (ls' := [none, none, some (.int x2), some (.ref q0)]) c138_5 (Nat.le_of_ble_eq_true rfl) rfl rfl).trans ((w_aload_n (pc' := 7) c138_6 rfl rfl).trans ((w_ifnull (pc' := 10) c138_7 (k_lt hq0.1) rfl).trans ((w_aload_n (pc' := 11) c138_10 rfl rfl).trans ((w_iload_n (pc' := 12) c138_11 rfl rfl).trans ((w_iconst (pc' := 13) (v := 1) c138_12 rfl rfl).trans ((w_callv (pc' := 16) c138_13 mt117 rfl (Nat.le_of_ble_eq_true rfl) rfl hq0.1 rfl rfl (Nat.le_of_ble_eq_true rfl) rfl rfl)))))))
theorem b138_5_1 {X : Nat × (Nat → Int32)} {d : Nat} {I : Nat → Nat → Int32} {L : Nat → Nat → Int64} {Q : Option Value → XW → Prop} {x2 : Int32}  : wp X d m138 5 [none, none, some (.int x2), none] [.null] (K0, R0, I, L) Q ↔ Q (some (.long ((-9223372036854775808)))) (K0, R0, I, L) := (w_astore_nN (pc' := 6) (ls' := [none, none, some (.int x2), some .null]) c138_5 (Nat.le_of_ble_eq_true rfl) rfl rfl).trans ((w_aload_nN (pc' := 7) c138_6 rfl rfl).trans ((w_ifnullN c138_7).trans ((w_ldc2_w (pc' := 22) (v := (-9223372036854775808)) c138_19 rfl rfl).trans (w_lret c138_22 rfl))))
theorem b138_16 {X : Nat × (Nat → Int32)} {d : Nat} {I : Nat → Nat → Int32} {L : Nat → Nat → Int64} {Q : Option Value → XW → Prop} {x2 : Int32} {r3 : Nat} {s0 : Int32} (hr3 : isTape r3) : wp X (d + 1) m138 16 [none, none, some (.int x2), some (.ref r3)] [(.int s0)] (K0, R0, I, L) Q ↔ (if s0 = 0 then Q (some (.long ((-9223372036854775808)))) (K0, R0, I, L) else wp X d m118 0 [some (.ref r3), some (.int x2)] [] (K0, R0, I, L) (fun r w1 => wp X (d + 1) m138 28 [none, none, none, none] (r.toList ++ []) w1 Q)) := (w_if_ne (pc' := 19) c138_16 rfl).trans (ite_iff ((w_ldc2_w (pc' := 22) (v := (-9223372036854775808)) c138_19 rfl rfl).trans (w_lret c138_22 rfl)) ((w_aload_n (pc' := 24) c138_23 rfl rfl).trans ((w_iload_n (pc' := 25) c138_24 rfl rfl).trans ((w_callv (pc' := 28) c138_25 mt118 rfl (Nat.le_of_ble_eq_true rfl) rfl hr3.1 rfl rfl (Nat.le_of_ble_eq_true rfl) rfl rfl).trans (wp_congr (fun r w1 => wp_msk lvok138 rfl))))))
theorem b138_28 {X : Nat × (Nat → Int32)} {d : Nat} {I : Nat → Nat → Int32} {L : Nat → Nat → Int64} {Q : Option Value → XW → Prop} {s0 : Int64}  : wp X d m138 28 [none, none, none, none] [(.long (s0))] (K0, R0, I, L) Q ↔ Q (some (.long (s0))) (K0, R0, I, L) := w_lret c138_28 rfl
-- LeavesObject.shift(IIIII)I
theorem c139_0 : cdx (mC m139) 0 = some (0, .aload_n 0, 1, 0, 0, 0, 0, []) := rfl
theorem c139_1 : cdx (mC m139) 1 = some (1, .iload_n 1, 1, 1, 0, 0, 0, []) := rfl
theorem c139_2 : cdx (mC m139) 2 = some (2, .invokevirtual 260, 3, 115, 1, 0, 4015, [(9, 0)]) := rfl
theorem c139_5 : cdx (mC m139) 5 = some (5, .astore 6, 2, 6, 0, 0, 0, []) := rfl
theorem c139_7 : cdx (mC m139) 7 = some (7, .aload_n 0, 1, 0, 0, 0, 0, []) := rfl
theorem c139_8 : cdx (mC m139) 8 = some (8, .iload_n 3, 1, 3, 0, 0, 0, []) := rfl
theorem c139_9 : cdx (mC m139) 9 = some (9, .invokevirtual 260, 3, 115, 1, 0, 4015, [(9, 0)]) := rfl
theorem c139_12 : cdx (mC m139) 12 = some (12, .astore 7, 2, 7, 0, 0, 0, []) := rfl
theorem c139_14 : cdx (mC m139) 14 = some (14, .aload 6, 2, 6, 0, 0, 0, []) := rfl
theorem c139_16 : cdx (mC m139) 16 = some (16, .ifnull 8, 3, 24, 0, 0, 0, []) := rfl
theorem c139_19 : cdx (mC m139) 19 = some (19, .aload 7, 2, 7, 0, 0, 0, []) := rfl
theorem c139_21 : cdx (mC m139) 21 = some (21, .ifnonnull 5, 3, 26, 0, 0, 0, []) := rfl
theorem c139_24 : cdx (mC m139) 24 = some (24, .iconst (-1), 1, 0, 0, 0, 0, []) := rfl
theorem c139_25 : cdx (mC m139) 25 = some (25, .ireturn, 1, 0, 0, 0, 0, []) := rfl
theorem c139_26 : cdx (mC m139) 26 = some (26, .aload 6, 2, 6, 0, 0, 0, []) := rfl
theorem c139_28 : cdx (mC m139) 28 = some (28, .invokevirtual 264, 3, 116, 0, 0, 4019, [(6, 0)]) := rfl
theorem c139_31 : cdx (mC m139) 31 = some (31, .ifCond .eq 11, 3, 42, 0, 0, 0, []) := rfl
theorem c139_34 : cdx (mC m139) 34 = some (34, .aload 7, 2, 7, 0, 0, 0, []) := rfl
theorem c139_36 : cdx (mC m139) 36 = some (36, .invokevirtual 264, 3, 116, 0, 0, 4019, [(6, 0)]) := rfl
theorem c139_39 : cdx (mC m139) 39 = some (39, .ifCond .ne 6, 3, 45, 0, 0, 0, []) := rfl
theorem c139_42 : cdx (mC m139) 42 = some (42, .bipush (-11), 2, 0, 0, 0, 0, []) := rfl
theorem c139_44 : cdx (mC m139) 44 = some (44, .ireturn, 1, 0, 0, 0, 0, []) := rfl
theorem c139_45 : cdx (mC m139) 45 = some (45, .aload 6, 2, 6, 0, 0, 0, []) := rfl
theorem c139_47 : cdx (mC m139) 47 = some (47, .getfield 268, 3, 6, 0, 0, 1227, []) := rfl
theorem c139_50 : cdx (mC m139) 50 = some (50, .aload 7, 2, 7, 0, 0, 0, []) := rfl
theorem c139_52 : cdx (mC m139) 52 = some (52, .getfield 268, 3, 6, 0, 0, 1227, []) := rfl
theorem c139_55 : cdx (mC m139) 55 = some (55, .if_icmp .eq 6, 3, 61, 0, 0, 0, []) := rfl
theorem c139_58 : cdx (mC m139) 58 = some (58, .bipush (-12), 2, 0, 0, 0, 0, []) := rfl
theorem c139_60 : cdx (mC m139) 60 = some (60, .ireturn, 1, 0, 0, 0, 0, []) := rfl
theorem c139_61 : cdx (mC m139) 61 = some (61, .aload 6, 2, 6, 0, 0, 0, []) := rfl
theorem c139_63 : cdx (mC m139) 63 = some (63, .iload_n 2, 1, 2, 0, 0, 0, []) := rfl
theorem c139_64 : cdx (mC m139) 64 = some (64, .iload 5, 2, 5, 0, 0, 0, []) := rfl
theorem c139_66 : cdx (mC m139) 66 = some (66, .invokevirtual 271, 3, 117, 2, 0, 4023, [(6, 0)]) := rfl
theorem c139_69 : cdx (mC m139) 69 = some (69, .ifCond .eq 15, 3, 84, 0, 0, 0, []) := rfl
theorem c139_72 : cdx (mC m139) 72 = some (72, .aload 7, 2, 7, 0, 0, 0, []) := rfl
theorem c139_74 : cdx (mC m139) 74 = some (74, .iload 4, 2, 4, 0, 0, 0, []) := rfl
theorem c139_76 : cdx (mC m139) 76 = some (76, .iload 5, 2, 5, 0, 0, 0, []) := rfl
theorem c139_78 : cdx (mC m139) 78 = some (78, .invokevirtual 271, 3, 117, 2, 0, 4023, [(6, 0)]) := rfl
theorem c139_81 : cdx (mC m139) 81 = some (81, .ifCond .ne 6, 3, 87, 0, 0, 0, []) := rfl
theorem c139_84 : cdx (mC m139) 84 = some (84, .bipush (-13), 2, 0, 0, 0, 0, []) := rfl
theorem c139_86 : cdx (mC m139) 86 = some (86, .ireturn, 1, 0, 0, 0, 0, []) := rfl
theorem c139_87 : cdx (mC m139) 87 = some (87, .aload 6, 2, 6, 0, 0, 0, []) := rfl
theorem c139_89 : cdx (mC m139) 89 = some (89, .getfield 301, 3, 6, 2, 0, 1230, []) := rfl
theorem c139_92 : cdx (mC m139) 92 = some (92, .iload_n 2, 1, 2, 0, 0, 0, []) := rfl
theorem c139_93 : cdx (mC m139) 93 = some (93, .aload 7, 2, 7, 0, 0, 0, []) := rfl
theorem c139_95 : cdx (mC m139) 95 = some (95, .getfield 301, 3, 6, 2, 0, 1230, []) := rfl
theorem c139_98 : cdx (mC m139) 98 = some (98, .iload 4, 2, 4, 0, 0, 0, []) := rfl
theorem c139_100 : cdx (mC m139) 100 = some (100, .iload 5, 2, 5, 0, 0, 0, []) := rfl
theorem c139_102 : cdx (mC m139) 102 = some (102, .invokestatic 305, 3, 0, 5, 20, 4119, []) := rfl
theorem c139_105 : cdx (mC m139) 105 = some (105, .iload 5, 2, 5, 0, 0, 0, []) := rfl
theorem c139_107 : cdx (mC m139) 107 = some (107, .ireturn, 1, 0, 0, 0, 0, []) := rfl
def lv139 : List (Nat × List Nat) := [(0, [0, 1, 2, 3, 4, 5]), (1, [0, 1, 2, 3, 4, 5]), (2, [0, 2, 3, 4, 5]), (5, [0, 2, 3, 4, 5]), (7, [0, 2, 3, 4, 5, 6]), (8, [2, 3, 4, 5, 6]), (9, [2, 4, 5, 6]), (12, [2, 4, 5, 6]), (14, [2, 4, 5, 6, 7]), (16, [2, 4, 5, 6, 7]), (19, [2, 4, 5, 6, 7]), (21, [2, 4, 5, 6, 7]), (26, [2, 4, 5, 6, 7]), (28, [2, 4, 5, 6, 7]), (31, [2, 4, 5, 6, 7]), (34, [2, 4, 5, 6, 7]), (36, [2, 4, 5, 6, 7]), (39, [2, 4, 5, 6, 7]), (45, [2, 4, 5, 6, 7]), (47, [2, 4, 5, 6, 7]), (50, [2, 4, 5, 6, 7]), (52, [2, 4, 5, 6, 7]), (55, [2, 4, 5, 6, 7]), (61, [2, 4, 5, 6, 7]), (63, [2, 4, 5, 6, 7]), (64, [2, 4, 5, 6, 7]), (66, [2, 4, 5, 6, 7]), (69, [2, 4, 5, 6, 7]), (72, [2, 4, 5, 6, 7]), (74, [2, 4, 5, 6, 7]), (76, [2, 4, 5, 6, 7]), (78, [2, 4, 5, 6, 7]), (81, [2, 4, 5, 6, 7]), (87, [2, 4, 5, 6, 7]), (89, [2, 4, 5, 7]), (92, [2, 4, 5, 7]), (93, [4, 5, 7]), (95, [4, 5]), (98, [4, 5]), (100, [5]), (102, [5]), (105, [5])]
theorem lvok139 : lvOk (mC m139) lv139 = true := by decide +kernel
theorem b139_0 {X : Nat × (Nat → Int32)} {d : Nat} {I : Nat → Nat → Int32} {L : Nat → Nat → Int64} {Q : Option Value → XW → Prop} {x1 : Int32} {x2 : Int32} {x3 : Int32} {x4 : Int32} {x5 : Int32}  : wp X (d + 1) m139 0 [some (.ref 0), some (.int x1), some (.int x2), some (.int x3), some (.int x4), some (.int x5), none, none] [] (K0, R0, I, L) Q ↔ wp X d m115 0 [some (.ref 0), some (.int x1)] [] (K0, R0, I, L) (fun r w1 => wp X (d + 1) m139 5 [some (.ref 0), none, some (.int x2), some (.int x3), some (.int x4), some (.int x5), none, none] (r.toList ++ []) w1 Q) := (w_aload_n (pc' := 1) c139_0 rfl rfl).trans ((w_iload_n (pc' := 2) c139_1 rfl rfl).trans ((w_callv (pc' := 5) c139_2 mt115 rfl (Nat.le_of_ble_eq_true rfl) rfl kd_0 rfl rfl (Nat.le_of_ble_eq_true rfl) rfl rfl).trans (wp_congr (fun r w1 => wp_msk lvok139 rfl))))
theorem b139_5 {X : Nat × (Nat → Int32)} {d : Nat} {I : Nat → Nat → Int32} {L : Nat → Nat → Int64} {Q : Option Value → XW → Prop} {x2 : Int32} {x3 : Int32} {x4 : Int32} {x5 : Int32} {q0 : Nat} (hq0 : isTape q0) : wp X (d + 1) m139 5 [some (.ref 0), none, some (.int x2), some (.int x3), some (.int x4), some (.int x5), none, none] [(.ref q0)] (K0, R0, I, L) Q ↔ wp X d m115 0 [some (.ref 0), some (.int x3)] [] (K0, R0, I, L) (fun r w1 => wp X (d + 1) m139 12 [none, none, some (.int x2), none, some (.int x4), some (.int x5), some (.ref q0), none] (r.toList ++ []) w1 Q) := (w_astore (pc' := 7) (ls' := [some (.ref 0), none, some (.int x2), some (.int x3), some (.int x4), some (.int x5), some (.ref q0), none]) c139_5 (Nat.le_of_ble_eq_true rfl) rfl rfl).trans ((w_aload_n (pc' := 8) c139_7 rfl rfl).trans ((w_iload_n (pc' := 9) c139_8 rfl rfl).trans ((w_callv (pc' := 12) c139_9 mt115 rfl (Nat.le_of_ble_eq_true rfl) rfl kd_0 rfl rfl (Nat.le_of_ble_eq_true rfl) rfl rfl).trans (wp_congr (fun r w1 => wp_msk lvok139 rfl)))))
theorem b139_5_1 {X : Nat × (Nat → Int32)} {d : Nat} {I : Nat → Nat → Int32} {L : Nat → Nat → Int64} {Q : Option Value → XW → Prop} {x2 : Int32} {x3 : Int32} {x4 : Int32} {x5 : Int32}  : wp X (d + 1) m139 5 [some (.ref 0), none, some (.int x2), some (.int x3), some (.int x4), some (.int x5), none, none] [.null] (K0, R0, I, L) Q ↔ wp X d m115 0 [some (.ref 0), some (.int x3)] [] (K0, R0, I, L) (fun r w1 => wp X (d + 1) m139 12 [none, none, some (.int x2), none, some (.int x4), some (.int x5), some .null, none] (r.toList ++ []) w1 Q) := (w_astoreN (pc' := 7) (ls' := [some (.ref 0), none, some (.int x2), some (.int x3), some (.int x4), some (.int x5), some .null, none]) c139_5 (Nat.le_of_ble_eq_true rfl) rfl rfl).trans ((w_aload_n (pc' := 8) c139_7 rfl rfl).trans ((w_iload_n (pc' := 9) c139_8 rfl rfl).trans ((w_callv (pc' := 12) c139_9 mt115 rfl (Nat.le_of_ble_eq_true rfl) rfl kd_0 rfl rfl (Nat.le_of_ble_eq_true rfl) rfl rfl).trans (wp_congr (fun r w1 => wp_msk lvok139 rfl)))))
theorem b139_12 {X : Nat × (Nat → Int32)} {d : Nat} {I : Nat → Nat → Int32} {L : Nat → Nat → Int64} {Q : Option Value → XW → Prop} {x2 : Int32} {x4 : Int32} {x5 : Int32} {r6 : Nat} {q0 : Nat} (hr6 : isTape r6) (hq0 : isTape q0) : wp X (d + 1) m139 12 [none, none, some (.int x2), none, some (.int x4), some (.int x5), some (.ref r6), none] [(.ref q0)] (K0, R0, I, L) Q ↔ wp X d m116 0 [some (.ref r6)] [] (K0, R0, I, L) (fun r w1 => wp X (d + 1) m139 31 [none, none, some (.int x2), none, some (.int x4), some (.int x5), some (.ref r6), some (.ref q0)] (r.toList ++ []) w1 Q) := (w_astore (pc' := 14) (ls' := [none, none, some (.int x2), none, some (.int x4), some (.int x5), some (.ref r6), some (.ref q0)]) c139_12 (Nat.le_of_ble_eq_true rfl) rfl rfl).trans ((w_aload (pc' := 16) c139_14 rfl rfl).trans ((w_ifnull (pc' := 19) c139_16 (k_lt hr6.1) rfl).trans ((w_aload (pc' := 21) c139_19 rfl rfl).trans ((w_ifnonnull c139_21 (k_lt hq0.1)).trans ((w_aload (pc' := 28) c139_26 rfl rfl).trans ((w_callv (pc' := 31) c139_28 mt116 rfl (Nat.le_of_ble_eq_true rfl) rfl hr6.1 rfl rfl (Nat.le_of_ble_eq_true rfl) rfl rfl)))))))
theorem b139_12_1 {X : Nat × (Nat → Int32)} {d : Nat} {I : Nat → Nat → Int32} {L : Nat → Nat → Int64} {Q : Option Value → XW → Prop} {x2 : Int32} {x4 : Int32} {x5 : Int32} {r6 : Nat} (hr6 : isTape r6) : wp X d m139 12 [none, none, some (.int x2), none, some (.int x4), some (.int x5), some (.ref r6), none] [.null] (K0, R0, I, L) Q ↔ Q (some (.int (-1))) (K0, R0, I, L) := (w_astoreN (pc' := 14) (ls' := [none, none, some (.int x2), none, some (.int x4), some (.int x5), some (.ref r6), some .null]) c139_12 (Nat.le_of_ble_eq_true rfl) rfl rfl).trans ((w_aload (pc' := 16) c139_14 rfl rfl).trans ((w_ifnull (pc' := 19) c139_16 (k_lt hr6.1) rfl).trans ((w_aloadN (pc' := 21) c139_19 rfl rfl).trans ((w_ifnonnullN (pc' := 24) c139_21 rfl).trans ((w_iconst (pc' := 25) (v := (-1)) c139_24 rfl rfl).trans (w_iret c139_25 rfl))))))
theorem b139_12_2 {X : Nat × (Nat → Int32)} {d : Nat} {I : Nat → Nat → Int32} {L : Nat → Nat → Int64} {Q : Option Value → XW → Prop} {x2 : Int32} {x4 : Int32} {x5 : Int32} {q0 : Nat} (hq0 : isTape q0) : wp X d m139 12 [none, none, some (.int x2), none, some (.int x4), some (.int x5), some .null, none] [(.ref q0)] (K0, R0, I, L) Q ↔ Q (some (.int (-1))) (K0, R0, I, L) := (w_astore (pc' := 14) (ls' := [none, none, some (.int x2), none, some (.int x4), some (.int x5), some .null, some (.ref q0)]) c139_12 (Nat.le_of_ble_eq_true rfl) rfl rfl).trans ((w_aloadN (pc' := 16) c139_14 rfl rfl).trans ((w_ifnullN c139_16).trans ((w_iconst (pc' := 25) (v := (-1)) c139_24 rfl rfl).trans (w_iret c139_25 rfl))))
theorem b139_12_3 {X : Nat × (Nat → Int32)} {d : Nat} {I : Nat → Nat → Int32} {L : Nat → Nat → Int64} {Q : Option Value → XW → Prop} {x2 : Int32} {x4 : Int32} {x5 : Int32}  : wp X d m139 12 [none, none, some (.int x2), none, some (.int x4), some (.int x5), some .null, none] [.null] (K0, R0, I, L) Q ↔ Q (some (.int (-1))) (K0, R0, I, L) := (w_astoreN (pc' := 14) (ls' := [none, none, some (.int x2), none, some (.int x4), some (.int x5), some .null, some .null]) c139_12 (Nat.le_of_ble_eq_true rfl) rfl rfl).trans ((w_aloadN (pc' := 16) c139_14 rfl rfl).trans ((w_ifnullN c139_16).trans ((w_iconst (pc' := 25) (v := (-1)) c139_24 rfl rfl).trans (w_iret c139_25 rfl))))
theorem b139_31 {X : Nat × (Nat → Int32)} {d : Nat} {I : Nat → Nat → Int32} {L : Nat → Nat → Int64} {Q : Option Value → XW → Prop} {x2 : Int32} {x4 : Int32} {x5 : Int32} {r6 : Nat} {r7 : Nat} {s0 : Int32} (hr6 : isTape r6) (hr7 : isTape r7) : wp X (d + 1) m139 31 [none, none, some (.int x2), none, some (.int x4), some (.int x5), some (.ref r6), some (.ref r7)] [(.int s0)] (K0, R0, I, L) Q ↔ (if s0 = 0 then Q (some (.int (-11))) (K0, R0, I, L) else wp X d m116 0 [some (.ref r7)] [] (K0, R0, I, L) (fun r w1 => wp X (d + 1) m139 39 [none, none, some (.int x2), none, some (.int x4), some (.int x5), some (.ref r6), some (.ref r7)] (r.toList ++ []) w1 Q)) := (w_if_eq (pc' := 34) c139_31 rfl).trans (ite_iff ((w_bipush (pc' := 44) (v := (-11)) c139_42 rfl rfl).trans (w_iret c139_44 rfl)) ((w_aload (pc' := 36) c139_34 rfl rfl).trans ((w_callv (pc' := 39) c139_36 mt116 rfl (Nat.le_of_ble_eq_true rfl) rfl hr7.1 rfl rfl (Nat.le_of_ble_eq_true rfl) rfl rfl))))
theorem b139_39 {X : Nat × (Nat → Int32)} {d : Nat} {I : Nat → Nat → Int32} {L : Nat → Nat → Int64} {Q : Option Value → XW → Prop} {x2 : Int32} {x4 : Int32} {x5 : Int32} {r6 : Nat} {r7 : Nat} {s0 : Int32} (hr6 : isTape r6) (hr7 : isTape r7) : wp X (d + 1) m139 39 [none, none, some (.int x2), none, some (.int x4), some (.int x5), some (.ref r6), some (.ref r7)] [(.int s0)] (K0, R0, I, L) Q ↔ (if s0 = 0 then Q (some (.int (-11))) (K0, R0, I, L) else (if (I r6 0) = (I r7 0) then wp X d m117 0 [some (.ref r6), some (.int x2), some (.int x5)] [] (K0, R0, I, L) (fun r w1 => wp X (d + 1) m139 69 [none, none, some (.int x2), none, some (.int x4), some (.int x5), some (.ref r6), some (.ref r7)] (r.toList ++ []) w1 Q) else Q (some (.int (-12))) (K0, R0, I, L))) := (w_if_ne (pc' := 42) c139_39 rfl).trans (ite_iff ((w_bipush (pc' := 44) (v := (-11)) c139_42 rfl rfl).trans (w_iret c139_44 rfl)) ((w_aload (pc' := 47) c139_45 rfl rfl).trans ((w_getIv (pc' := 50) (v := (I r6 0)) c139_47 hr6.1 (by decide) rfl (rfl) rfl).trans ((w_aload (pc' := 52) c139_50 rfl rfl).trans ((w_getIv (pc' := 55) (v := (I r7 0)) c139_52 hr7.1 (by decide) rfl (rfl) rfl).trans ((w_icmp_eq (pc' := 58) c139_55 rfl).trans (ite_iff ((w_aload (pc' := 63) c139_61 rfl rfl).trans ((w_iload_n (pc' := 64) c139_63 rfl rfl).trans ((w_iload (pc' := 66) c139_64 rfl rfl).trans ((w_callv (pc' := 69) c139_66 mt117 rfl (Nat.le_of_ble_eq_true rfl) rfl hr6.1 rfl rfl (Nat.le_of_ble_eq_true rfl) rfl rfl))))) ((w_bipush (pc' := 60) (v := (-12)) c139_58 rfl rfl).trans (w_iret c139_60 rfl)))))))))
theorem b139_69 {X : Nat × (Nat → Int32)} {d : Nat} {I : Nat → Nat → Int32} {L : Nat → Nat → Int64} {Q : Option Value → XW → Prop} {x2 : Int32} {x4 : Int32} {x5 : Int32} {r6 : Nat} {r7 : Nat} {s0 : Int32} (hr6 : isTape r6) (hr7 : isTape r7) : wp X (d + 1) m139 69 [none, none, some (.int x2), none, some (.int x4), some (.int x5), some (.ref r6), some (.ref r7)] [(.int s0)] (K0, R0, I, L) Q ↔ (if s0 = 0 then Q (some (.int (-13))) (K0, R0, I, L) else wp X d m117 0 [some (.ref r7), some (.int x4), some (.int x5)] [] (K0, R0, I, L) (fun r w1 => wp X (d + 1) m139 81 [none, none, some (.int x2), none, some (.int x4), some (.int x5), some (.ref r6), some (.ref r7)] (r.toList ++ []) w1 Q)) := (w_if_eq (pc' := 72) c139_69 rfl).trans (ite_iff ((w_bipush (pc' := 86) (v := (-13)) c139_84 rfl rfl).trans (w_iret c139_86 rfl)) ((w_aload (pc' := 74) c139_72 rfl rfl).trans ((w_iload (pc' := 76) c139_74 rfl rfl).trans ((w_iload (pc' := 78) c139_76 rfl rfl).trans ((w_callv (pc' := 81) c139_78 mt117 rfl (Nat.le_of_ble_eq_true rfl) rfl hr7.1 rfl rfl (Nat.le_of_ble_eq_true rfl) rfl rfl))))))
theorem b139_81 {X : Nat × (Nat → Int32)} {d : Nat} {I : Nat → Nat → Int32} {L : Nat → Nat → Int64} {Q : Option Value → XW → Prop} {x2 : Int32} {x4 : Int32} {x5 : Int32} {r6 : Nat} {r7 : Nat} {s0 : Int32} (hr6 : isTape r6) (hr7 : isTape r7) : wp X d m139 81 [none, none, some (.int x2), none, some (.int x4), some (.int x5), some (.ref r6), some (.ref r7)] [(.int s0)] (K0, R0, I, L) Q ↔ (if s0 = 0 then Q (some (.int (-13))) (K0, R0, I, L) else ((¬ x2 < 0 ∧ ¬ x4 < 0 ∧ ¬ x5 < 0 ∧ Int32.toNatClampNeg x2 + Int32.toNatClampNeg x5 ≤ 60 ∧ Int32.toNatClampNeg x4 + Int32.toNatClampNeg x5 ≤ 60) ∧ Q (some (.int x5)) (K0, R0, I, (cpyR L (r6 + 1) (Int32.toNatClampNeg x2) (r7 + 1) (Int32.toNatClampNeg x4) (Int32.toNatClampNeg x5))))) := (w_if_ne (pc' := 84) c139_81 rfl).trans (ite_iff ((w_bipush (pc' := 86) (v := (-13)) c139_84 rfl rfl).trans (w_iret c139_86 rfl)) ((w_aload (pc' := 89) c139_87 rfl rfl).trans ((w_getR (pc' := 92) (q := (r6 + 1)) c139_89 hr6.1 (by decide) rfl hr6.2.1 rfl).trans ((w_iload_n (pc' := 93) c139_92 rfl rfl).trans ((w_aload (pc' := 95) c139_93 rfl rfl).trans ((w_getR (pc' := 98) (q := (r7 + 1)) c139_95 hr7.1 (by decide) rfl hr7.2.1 rfl).trans ((w_iload (pc' := 100) c139_98 rfl rfl).trans ((w_iload (pc' := 102) c139_100 rfl rfl).trans ((w_copy_l (pc' := 105) c139_102 hr6.2.2 hr7.2.2 rfl rfl).trans (and_congr_right (fun _ => (w_iload (pc' := 107) c139_105 rfl rfl).trans (w_iret c139_107 rfl))))))))))))
-- LeavesObjectModel.cup(III)I
theorem c141_0 : cdx (mC m141) 0 = some (0, .aload_n 0, 1, 0, 0, 0, 0, []) := rfl
theorem c141_1 : cdx (mC m141) 1 = some (1, .iload_n 1, 1, 1, 0, 0, 0, []) := rfl
theorem c141_2 : cdx (mC m141) 2 = some (2, .iconst 0, 1, 0, 0, 0, 0, []) := rfl
theorem c141_3 : cdx (mC m141) 3 = some (3, .bipush 6, 2, 0, 0, 0, 0, []) := rfl
theorem c141_5 : cdx (mC m141) 5 = some (5, .invokevirtual 213, 3, 142, 3, 0, 5087, [(10, 0)]) := rfl
theorem c141_8 : cdx (mC m141) 8 = some (8, .ifCond .ne 5, 3, 13, 0, 0, 0, []) := rfl
theorem c141_11 : cdx (mC m141) 11 = some (11, .iconst (-1), 1, 0, 0, 0, 0, []) := rfl
theorem c141_12 : cdx (mC m141) 12 = some (12, .ireturn, 1, 0, 0, 0, 0, []) := rfl
theorem c141_13 : cdx (mC m141) 13 = some (13, .aload_n 0, 1, 0, 0, 0, 0, []) := rfl
theorem c141_14 : cdx (mC m141) 14 = some (14, .iload_n 2, 1, 2, 0, 0, 0, []) := rfl
theorem c141_15 : cdx (mC m141) 15 = some (15, .iconst 0, 1, 0, 0, 0, 0, []) := rfl
theorem c141_16 : cdx (mC m141) 16 = some (16, .bipush 9, 2, 0, 0, 0, 0, []) := rfl
theorem c141_18 : cdx (mC m141) 18 = some (18, .invokevirtual 213, 3, 142, 3, 0, 5087, [(10, 0)]) := rfl
theorem c141_21 : cdx (mC m141) 21 = some (21, .ifCond .eq 11, 3, 32, 0, 0, 0, []) := rfl
theorem c141_24 : cdx (mC m141) 24 = some (24, .aload_n 0, 1, 0, 0, 0, 0, []) := rfl
theorem c141_25 : cdx (mC m141) 25 = some (25, .iload_n 3, 1, 3, 0, 0, 0, []) := rfl
theorem c141_26 : cdx (mC m141) 26 = some (26, .invokevirtual 217, 3, 143, 1, 0, 5091, [(10, 0)]) := rfl
theorem c141_29 : cdx (mC m141) 29 = some (29, .ifCond .ne 6, 3, 35, 0, 0, 0, []) := rfl
theorem c141_32 : cdx (mC m141) 32 = some (32, .bipush (-2), 2, 0, 0, 0, 0, []) := rfl
theorem c141_34 : cdx (mC m141) 34 = some (34, .ireturn, 1, 0, 0, 0, 0, []) := rfl
theorem c141_35 : cdx (mC m141) 35 = some (35, .aload_n 0, 1, 0, 0, 0, 0, []) := rfl
theorem c141_36 : cdx (mC m141) 36 = some (36, .getfield 7, 3, 10, 0, 0, 4126, []) := rfl
theorem c141_39 : cdx (mC m141) 39 = some (39, .iconst 5, 1, 0, 0, 0, 0, []) := rfl
theorem c141_40 : cdx (mC m141) 40 = some (40, .if_icmp .ne 6, 3, 46, 0, 0, 0, []) := rfl
theorem c141_43 : cdx (mC m141) 43 = some (43, .bipush (-4), 2, 0, 0, 0, 0, []) := rfl
theorem c141_45 : cdx (mC m141) 45 = some (45, .ireturn, 1, 0, 0, 0, 0, []) := rfl
theorem c141_46 : cdx (mC m141) 46 = some (46, .aload_n 0, 1, 0, 0, 0, 0, []) := rfl
theorem c141_47 : cdx (mC m141) 47 = some (47, .getfield 16, 3, 10, 2, 0, 4128, []) := rfl
theorem c141_50 : cdx (mC m141) 50 = some (50, .aload_n 0, 1, 0, 0, 0, 0, []) := rfl
theorem c141_51 : cdx (mC m141) 51 = some (51, .getfield 7, 3, 10, 0, 0, 4126, []) := rfl
theorem c141_54 : cdx (mC m141) 54 = some (54, .iload_n 1, 1, 1, 0, 0, 0, []) := rfl
theorem c141_55 : cdx (mC m141) 55 = some (55, .iastore, 1, 0, 0, 0, 0, []) := rfl
theorem c141_56 : cdx (mC m141) 56 = some (56, .aload_n 0, 1, 0, 0, 0, 0, []) := rfl
theorem c141_57 : cdx (mC m141) 57 = some (57, .getfield 20, 3, 10, 3, 0, 4129, []) := rfl
theorem c141_60 : cdx (mC m141) 60 = some (60, .aload_n 0, 1, 0, 0, 0, 0, []) := rfl
theorem c141_61 : cdx (mC m141) 61 = some (61, .getfield 7, 3, 10, 0, 0, 4126, []) := rfl
theorem c141_64 : cdx (mC m141) 64 = some (64, .iload_n 2, 1, 2, 0, 0, 0, []) := rfl
theorem c141_65 : cdx (mC m141) 65 = some (65, .iastore, 1, 0, 0, 0, 0, []) := rfl
theorem c141_66 : cdx (mC m141) 66 = some (66, .aload_n 0, 1, 0, 0, 0, 0, []) := rfl
theorem c141_67 : cdx (mC m141) 67 = some (67, .getfield 23, 3, 10, 4, 0, 4130, []) := rfl
theorem c141_70 : cdx (mC m141) 70 = some (70, .aload_n 0, 1, 0, 0, 0, 0, []) := rfl
theorem c141_71 : cdx (mC m141) 71 = some (71, .getfield 7, 3, 10, 0, 0, 4126, []) := rfl
theorem c141_74 : cdx (mC m141) 74 = some (74, .iload_n 3, 1, 3, 0, 0, 0, []) := rfl
theorem c141_75 : cdx (mC m141) 75 = some (75, .iastore, 1, 0, 0, 0, 0, []) := rfl
theorem c141_76 : cdx (mC m141) 76 = some (76, .aload_n 0, 1, 0, 0, 0, 0, []) := rfl
theorem c141_77 : cdx (mC m141) 77 = some (77, .getfield 26, 3, 10, 5, 0, 4131, []) := rfl
theorem c141_80 : cdx (mC m141) 80 = some (80, .aload_n 0, 1, 0, 0, 0, 0, []) := rfl
theorem c141_81 : cdx (mC m141) 81 = some (81, .getfield 7, 3, 10, 0, 0, 4126, []) := rfl
theorem c141_84 : cdx (mC m141) 84 = some (84, .iconst 0, 1, 0, 0, 0, 0, []) := rfl
theorem c141_85 : cdx (mC m141) 85 = some (85, .iastore, 1, 0, 0, 0, 0, []) := rfl
theorem c141_86 : cdx (mC m141) 86 = some (86, .aload_n 0, 1, 0, 0, 0, 0, []) := rfl
theorem c141_87 : cdx (mC m141) 87 = some (87, .getfield 29, 3, 10, 6, 0, 4132, []) := rfl
theorem c141_90 : cdx (mC m141) 90 = some (90, .aload_n 0, 1, 0, 0, 0, 0, []) := rfl
theorem c141_91 : cdx (mC m141) 91 = some (91, .getfield 7, 3, 10, 0, 0, 4126, []) := rfl
theorem c141_94 : cdx (mC m141) 94 = some (94, .iconst 0, 1, 0, 0, 0, 0, []) := rfl
theorem c141_95 : cdx (mC m141) 95 = some (95, .iastore, 1, 0, 0, 0, 0, []) := rfl
theorem c141_96 : cdx (mC m141) 96 = some (96, .iconst 0, 1, 0, 0, 0, 0, []) := rfl
theorem c141_97 : cdx (mC m141) 97 = some (97, .istore 4, 2, 4, 0, 0, 0, []) := rfl
theorem c141_99 : cdx (mC m141) 99 = some (99, .iload 4, 2, 4, 0, 0, 0, []) := rfl
theorem c141_101 : cdx (mC m141) 101 = some (101, .iconst 4, 1, 0, 0, 0, 0, []) := rfl
theorem c141_102 : cdx (mC m141) 102 = some (102, .if_icmp .ge 24, 3, 126, 0, 0, 0, []) := rfl
theorem c141_105 : cdx (mC m141) 105 = some (105, .aload_n 0, 1, 0, 0, 0, 0, []) := rfl
theorem c141_106 : cdx (mC m141) 106 = some (106, .getfield 32, 3, 10, 7, 0, 4133, []) := rfl
theorem c141_109 : cdx (mC m141) 109 = some (109, .iconst 4, 1, 0, 0, 0, 0, []) := rfl
theorem c141_110 : cdx (mC m141) 110 = some (110, .aload_n 0, 1, 0, 0, 0, 0, []) := rfl
theorem c141_111 : cdx (mC m141) 111 = some (111, .getfield 7, 3, 10, 0, 0, 4126, []) := rfl
theorem c141_114 : cdx (mC m141) 114 = some (114, .imul, 1, 0, 0, 0, 0, []) := rfl
theorem c141_115 : cdx (mC m141) 115 = some (115, .iload 4, 2, 4, 0, 0, 0, []) := rfl
theorem c141_117 : cdx (mC m141) 117 = some (117, .iadd, 1, 0, 0, 0, 0, []) := rfl
theorem c141_118 : cdx (mC m141) 118 = some (118, .iconst 0, 1, 0, 0, 0, 0, []) := rfl
theorem c141_119 : cdx (mC m141) 119 = some (119, .iastore, 1, 0, 0, 0, 0, []) := rfl
theorem c141_120 : cdx (mC m141) 120 = some (120, .iinc 4 1, 3, 4, 0, 0, 0, []) := rfl
theorem c141_123 : cdx (mC m141) 123 = some (123, .goto (-24), 3, 99, 0, 0, 0, []) := rfl
theorem c141_126 : cdx (mC m141) 126 = some (126, .aload_n 0, 1, 0, 0, 0, 0, []) := rfl
theorem c141_127 : cdx (mC m141) 127 = some (127, .dup, 1, 0, 0, 0, 0, []) := rfl
theorem c141_128 : cdx (mC m141) 128 = some (128, .getfield 7, 3, 10, 0, 0, 4126, []) := rfl
theorem c141_131 : cdx (mC m141) 131 = some (131, .iconst 1, 1, 0, 0, 0, 0, []) := rfl
theorem c141_132 : cdx (mC m141) 132 = some (132, .iadd, 1, 0, 0, 0, 0, []) := rfl
theorem c141_133 : cdx (mC m141) 133 = some (133, .putfield 7, 3, 10, 0, 0, 4126, []) := rfl
theorem c141_136 : cdx (mC m141) 136 = some (136, .aload_n 0, 1, 0, 0, 0, 0, []) := rfl
theorem c141_137 : cdx (mC m141) 137 = some (137, .getfield 7, 3, 10, 0, 0, 4126, []) := rfl
theorem c141_140 : cdx (mC m141) 140 = some (140, .iconst 1, 1, 0, 0, 0, 0, []) := rfl
theorem c141_141 : cdx (mC m141) 141 = some (141, .isub, 1, 0, 0, 0, 0, []) := rfl
theorem c141_142 : cdx (mC m141) 142 = some (142, .ireturn, 1, 0, 0, 0, 0, []) := rfl
def lv141 : List (Nat × List Nat) := [(0, [0, 1, 2, 3]), (1, [0, 1, 2, 3]), (2, [0, 1, 2, 3]), (3, [0, 1, 2, 3]), (5, [0, 1, 2, 3]), (8, [0, 1, 2, 3]), (13, [0, 1, 2, 3]), (14, [0, 1, 2, 3]), (15, [0, 1, 2, 3]), (16, [0, 1, 2, 3]), (18, [0, 1, 2, 3]), (21, [0, 1, 2, 3]), (24, [0, 1, 2, 3]), (25, [0, 1, 2, 3]), (26, [0, 1, 2, 3]), (29, [0, 1, 2, 3]), (35, [0, 1, 2, 3]), (36, [0, 1, 2, 3]), (39, [0, 1, 2, 3]), (40, [0, 1, 2, 3]), (46, [0, 1, 2, 3]), (47, [0, 1, 2, 3]), (50, [0, 1, 2, 3]), (51, [0, 1, 2, 3]), (54, [0, 1, 2, 3]), (55, [0, 2, 3]), (56, [0, 2, 3]), (57, [0, 2, 3]), (60, [0, 2, 3]), (61, [0, 2, 3]), (64, [0, 2, 3]), (65, [0, 3]), (66, [0, 3]), (67, [0, 3]), (70, [0, 3]), (71, [0, 3]), (74, [0, 3]), (75, [0]), (76, [0]), (77, [0]), (80, [0]), (81, [0]), (84, [0]), (85, [0]), (86, [0]), (87, [0]), (90, [0]), (91, [0]), (94, [0]), (95, [0]), (96, [0]), (97, [0]), (99, [0, 4]), (101, [0, 4]), (102, [0, 4]), (105, [0, 4]), (106, [0, 4]), (109, [0, 4]), (110, [0, 4]), (111, [0, 4]), (114, [0, 4]), (115, [0, 4]), (117, [0, 4]), (118, [0, 4]), (119, [0, 4]), (120, [0, 4]), (123, [0, 4]), (126, [0]), (127, [0]), (128, [0]), (131, [0]), (132, [0]), (133, [0]), (136, [0])]
theorem lvok141 : lvOk (mC m141) lv141 = true := by decide +kernel
theorem b141_0 {X : Nat × (Nat → Int32)} {d : Nat} {I : Nat → Nat → Int32} {L : Nat → Nat → Int64} {Q : Option Value → XW → Prop} {x1 : Int32} {x2 : Int32} {x3 : Int32}  : wp X (d + 1) m141 0 [some (.ref 124), some (.int x1), some (.int x2), some (.int x3), none] [] (K0, R0, I, L) Q ↔ wp X d m142 0 [some (.ref 124), some (.int x1), some (.int 0), some (.int 6)] [] (K0, R0, I, L) (fun r w1 => wp X (d + 1) m141 8 [some (.ref 124), some (.int x1), some (.int x2), some (.int x3), none] (r.toList ++ []) w1 Q) := (w_aload_n (pc' := 1) c141_0 rfl rfl).trans ((w_iload_n (pc' := 2) c141_1 rfl rfl).trans ((w_iconst (pc' := 3) (v := 0) c141_2 rfl rfl).trans ((w_bipush (pc' := 5) (v := 6) c141_3 rfl rfl).trans ((w_callv (pc' := 8) c141_5 mt142 rfl (Nat.le_of_ble_eq_true rfl) rfl kd_124 rfl rfl (Nat.le_of_ble_eq_true rfl) rfl rfl)))))
theorem b141_8 {X : Nat × (Nat → Int32)} {d : Nat} {I : Nat → Nat → Int32} {L : Nat → Nat → Int64} {Q : Option Value → XW → Prop} {x1 : Int32} {x2 : Int32} {x3 : Int32} {s0 : Int32}  : wp X (d + 1) m141 8 [some (.ref 124), some (.int x1), some (.int x2), some (.int x3), none] [(.int s0)] (K0, R0, I, L) Q ↔ (if s0 = 0 then Q (some (.int (-1))) (K0, R0, I, L) else wp X d m142 0 [some (.ref 124), some (.int x2), some (.int 0), some (.int 9)] [] (K0, R0, I, L) (fun r w1 => wp X (d + 1) m141 21 [some (.ref 124), some (.int x1), some (.int x2), some (.int x3), none] (r.toList ++ []) w1 Q)) := (w_if_ne (pc' := 11) c141_8 rfl).trans (ite_iff ((w_iconst (pc' := 12) (v := (-1)) c141_11 rfl rfl).trans (w_iret c141_12 rfl)) ((w_aload_n (pc' := 14) c141_13 rfl rfl).trans ((w_iload_n (pc' := 15) c141_14 rfl rfl).trans ((w_iconst (pc' := 16) (v := 0) c141_15 rfl rfl).trans ((w_bipush (pc' := 18) (v := 9) c141_16 rfl rfl).trans ((w_callv (pc' := 21) c141_18 mt142 rfl (Nat.le_of_ble_eq_true rfl) rfl kd_124 rfl rfl (Nat.le_of_ble_eq_true rfl) rfl rfl)))))))
theorem b141_21 {X : Nat × (Nat → Int32)} {d : Nat} {I : Nat → Nat → Int32} {L : Nat → Nat → Int64} {Q : Option Value → XW → Prop} {x1 : Int32} {x2 : Int32} {x3 : Int32} {s0 : Int32}  : wp X (d + 1) m141 21 [some (.ref 124), some (.int x1), some (.int x2), some (.int x3), none] [(.int s0)] (K0, R0, I, L) Q ↔ (if s0 = 0 then Q (some (.int (-2))) (K0, R0, I, L) else wp X d m143 0 [some (.ref 124), some (.int x3)] [] (K0, R0, I, L) (fun r w1 => wp X (d + 1) m141 29 [some (.ref 124), some (.int x1), some (.int x2), some (.int x3), none] (r.toList ++ []) w1 Q)) := (w_if_eq (pc' := 24) c141_21 rfl).trans (ite_iff ((w_bipush (pc' := 34) (v := (-2)) c141_32 rfl rfl).trans (w_iret c141_34 rfl)) ((w_aload_n (pc' := 25) c141_24 rfl rfl).trans ((w_iload_n (pc' := 26) c141_25 rfl rfl).trans ((w_callv (pc' := 29) c141_26 mt143 rfl (Nat.le_of_ble_eq_true rfl) rfl kd_124 rfl rfl (Nat.le_of_ble_eq_true rfl) rfl rfl)))))
theorem b141_29 {X : Nat × (Nat → Int32)} {d : Nat} {I : Nat → Nat → Int32} {L : Nat → Nat → Int64} {Q : Option Value → XW → Prop} {x1 : Int32} {x2 : Int32} {x3 : Int32} {s0 : Int32}  : wp X d m141 29 [some (.ref 124), some (.int x1), some (.int x2), some (.int x3), none] [(.int s0)] (K0, R0, I, L) Q ↔ (if s0 = 0 then Q (some (.int (-2))) (K0, R0, I, L) else (if (I 124 0) = 5 then Q (some (.int (-4))) (K0, R0, I, L) else (inA (I 124 0) 5 = true ∧ (inA (I 124 0) 5 = true ∧ (inA (I 124 0) 5 = true ∧ (inA (I 124 0) 5 = true ∧ (inA (I 124 0) 5 = true ∧ wp X d m141 99 [some (.ref 124), none, none, none, some (.int 0)] [] (K0, R0, (updR (updR (updR (updR (updR I 125 (Int32.toNatClampNeg (I 124 0)) x1) 126 (Int32.toNatClampNeg (I 124 0)) x2) 127 (Int32.toNatClampNeg (I 124 0)) x3) 128 (Int32.toNatClampNeg (I 124 0)) 0) 129 (Int32.toNatClampNeg (I 124 0)) 0), L) Q))))))) := (w_if_ne (pc' := 32) c141_29 rfl).trans (ite_iff ((w_bipush (pc' := 34) (v := (-2)) c141_32 rfl rfl).trans (w_iret c141_34 rfl)) ((w_aload_n (pc' := 36) c141_35 rfl rfl).trans ((w_getIv (pc' := 39) (v := (I 124 0)) c141_36 kd_124 (by decide) rfl (rfl) rfl).trans ((w_iconst (pc' := 40) (v := 5) c141_39 rfl rfl).trans ((w_icmp_ne (pc' := 43) c141_40 rfl).trans (ite_iff ((w_bipush (pc' := 45) (v := (-4)) c141_43 rfl rfl).trans (w_iret c141_45 rfl)) ((w_aload_n (pc' := 47) c141_46 rfl rfl).trans ((w_getR (pc' := 50) (q := 125) c141_47 kd_124 (by decide) rfl rd_124_2 rfl).trans ((w_aload_n (pc' := 51) c141_50 rfl rfl).trans ((w_getIv (pc' := 54) (v := (I 124 0)) c141_51 kd_124 (by decide) rfl (rfl) rfl).trans ((w_iload_n (pc' := 55) c141_54 rfl rfl).trans ((w_iast (pc' := 56) c141_55 kd_125 rfl).trans (and_congr_right (fun _ => (w_aload_n (pc' := 57) c141_56 rfl rfl).trans ((w_getR (pc' := 60) (q := 126) c141_57 kd_124 (by decide) rfl rd_124_3 rfl).trans ((w_aload_n (pc' := 61) c141_60 rfl rfl).trans ((w_getIv (pc' := 64) (v := (I 124 0)) c141_61 kd_124 (by decide) rfl ((updR_k (by decide)).trans (rfl)) rfl).trans ((w_iload_n (pc' := 65) c141_64 rfl rfl).trans ((w_iast (pc' := 66) c141_65 kd_126 rfl).trans (and_congr_right (fun _ => (w_aload_n (pc' := 67) c141_66 rfl rfl).trans ((w_getR (pc' := 70) (q := 127) c141_67 kd_124 (by decide) rfl rd_124_4 rfl).trans ((w_aload_n (pc' := 71) c141_70 rfl rfl).trans ((w_getIv (pc' := 74) (v := (I 124 0)) c141_71 kd_124 (by decide) rfl ((updR_k (by decide)).trans ((updR_k (by decide)).trans (rfl))) rfl).trans ((w_iload_n (pc' := 75) c141_74 rfl rfl).trans ((w_iast (pc' := 76) c141_75 kd_127 rfl).trans (and_congr_right (fun _ => (w_aload_n (pc' := 77) c141_76 rfl rfl).trans ((w_getR (pc' := 80) (q := 128) c141_77 kd_124 (by decide) rfl rd_124_5 rfl).trans ((w_aload_n (pc' := 81) c141_80 rfl rfl).trans ((w_getIv (pc' := 84) (v := (I 124 0)) c141_81 kd_124 (by decide) rfl ((updR_k (by decide)).trans ((updR_k (by decide)).trans ((updR_k (by decide)).trans (rfl)))) rfl).trans ((w_iconst (pc' := 85) (v := 0) c141_84 rfl rfl).trans ((w_iast (pc' := 86) c141_85 kd_128 rfl).trans (and_congr_right (fun _ => (w_aload_n (pc' := 87) c141_86 rfl rfl).trans ((w_getR (pc' := 90) (q := 129) c141_87 kd_124 (by decide) rfl rd_124_6 rfl).trans ((w_aload_n (pc' := 91) c141_90 rfl rfl).trans ((w_getIv (pc' := 94) (v := (I 124 0)) c141_91 kd_124 (by decide) rfl ((updR_k (by decide)).trans ((updR_k (by decide)).trans ((updR_k (by decide)).trans ((updR_k (by decide)).trans (rfl))))) rfl).trans ((w_iconst (pc' := 95) (v := 0) c141_94 rfl rfl).trans ((w_iast (pc' := 96) c141_95 kd_129 rfl).trans (and_congr_right (fun _ => (w_iconst (pc' := 97) (v := 0) c141_96 rfl rfl).trans ((w_istore (pc' := 99) (ls' := [some (.ref 124), some (.int x1), some (.int x2), some (.int x3), some (.int 0)]) c141_97 (Nat.le_of_ble_eq_true rfl) rfl rfl).trans ((wp_msk lvok141 rfl)))))))))))))))))))))))))))))))))))))))))))))
theorem b141_99 {X : Nat × (Nat → Int32)} {d : Nat} {I : Nat → Nat → Int32} {L : Nat → Nat → Int64} {Q : Option Value → XW → Prop} {x4 : Int32}  : wp X d m141 99 [some (.ref 124), none, none, none, some (.int x4)] [] (K0, R0, I, L) Q ↔ (if x4 < 4 then (inA ((4 * (I 124 0)) + x4) 20 = true ∧ wp X d m141 99 [some (.ref 124), none, none, none, some (.int (x4 + 1))] [] (K0, R0, (updR I 130 (Int32.toNatClampNeg ((4 * (I 124 0)) + x4)) 0), L) Q) else Q (some (.int (((I 124 0) + 1) - 1))) (K0, R0, (updR I 124 0 ((I 124 0) + 1)), L)) := (w_iload (pc' := 101) c141_99 rfl rfl).trans ((w_iconst (pc' := 102) (v := 4) c141_101 rfl rfl).trans ((w_icmp_ge (pc' := 105) c141_102 rfl).trans (ite_iff ((w_aload_n (pc' := 106) c141_105 rfl rfl).trans ((w_getR (pc' := 109) (q := 130) c141_106 kd_124 (by decide) rfl rd_124_7 rfl).trans ((w_iconst (pc' := 110) (v := 4) c141_109 rfl rfl).trans ((w_aload_n (pc' := 111) c141_110 rfl rfl).trans ((w_getIv (pc' := 114) (v := (I 124 0)) c141_111 kd_124 (by decide) rfl (rfl) rfl).trans ((w_imul (pc' := 115) c141_114 rfl).trans ((w_iload (pc' := 117) c141_115 rfl rfl).trans ((w_iadd (pc' := 118) c141_117 rfl).trans ((w_iconst (pc' := 119) (v := 0) c141_118 rfl rfl).trans ((w_iast (pc' := 120) c141_119 kd_130 rfl).trans (and_congr_right (fun _ => (w_iinc (pc' := 123) (v := (x4 + 1)) (ls' := [some (.ref 124), none, none, none, some (.int (x4 + 1))]) c141_120 (Nat.le_of_ble_eq_true rfl) rfl rfl rfl rfl).trans ((w_goto c141_123)))))))))))))) ((w_aload_n (pc' := 127) c141_126 rfl rfl).trans ((w_dup (pc' := 128) c141_127 rfl rfl).trans ((w_getIv (pc' := 131) (v := (I 124 0)) c141_128 kd_124 (by decide) rfl (rfl) rfl).trans ((w_iconst (pc' := 132) (v := 1) c141_131 rfl rfl).trans ((w_iadd (pc' := 133) c141_132 rfl).trans ((w_putI (pc' := 136) c141_133 kd_124 (by decide) rfl rfl rfl).trans ((w_aload_n (pc' := 137) c141_136 rfl rfl).trans ((w_getIv (pc' := 140) (v := ((I 124 0) + 1)) c141_137 kd_124 (by decide) rfl (updR_same) rfl).trans ((w_iconst (pc' := 141) (v := 1) c141_140 rfl rfl).trans ((w_isub (pc' := 142) c141_141 rfl).trans (w_iret c141_142 rfl))))))))))))))
-- LeavesObjectModel.in(III)Z
theorem c142_0 : cdx (mC m142) 0 = some (0, .iload_n 1, 1, 1, 0, 0, 0, []) := rfl
theorem c142_1 : cdx (mC m142) 1 = some (1, .iload_n 2, 1, 2, 0, 0, 0, []) := rfl
theorem c142_2 : cdx (mC m142) 2 = some (2, .if_icmp .lt 12, 3, 14, 0, 0, 0, []) := rfl
theorem c142_5 : cdx (mC m142) 5 = some (5, .iload_n 1, 1, 1, 0, 0, 0, []) := rfl
theorem c142_6 : cdx (mC m142) 6 = some (6, .iload_n 3, 1, 3, 0, 0, 0, []) := rfl
theorem c142_7 : cdx (mC m142) 7 = some (7, .if_icmp .gt 7, 3, 14, 0, 0, 0, []) := rfl
theorem c142_10 : cdx (mC m142) 10 = some (10, .iconst 1, 1, 0, 0, 0, 0, []) := rfl
theorem c142_11 : cdx (mC m142) 11 = some (11, .goto 4, 3, 15, 0, 0, 0, []) := rfl
theorem c142_14 : cdx (mC m142) 14 = some (14, .iconst 0, 1, 0, 0, 0, 0, []) := rfl
theorem c142_15 : cdx (mC m142) 15 = some (15, .ireturn, 1, 0, 0, 0, 0, []) := rfl
theorem b142_0 {X : Nat × (Nat → Int32)} {d : Nat} {I : Nat → Nat → Int32} {L : Nat → Nat → Int64} {Q : Option Value → XW → Prop} {x1 : Int32} {x2 : Int32} {x3 : Int32}  : wp X d m142 0 [some (.ref 124), some (.int x1), some (.int x2), some (.int x3)] [] (K0, R0, I, L) Q ↔ Q (some (.int (if x1 < x2 then 0 else (if x3 < x1 then 0 else 1)))) (K0, R0, I, L) := (w_iload_n (pc' := 1) c142_0 rfl rfl).trans ((w_iload_n (pc' := 2) c142_1 rfl rfl).trans ((w_icmp_lt (pc' := 5) c142_2 rfl).trans ((ite_iff ((w_iconst (pc' := 15) (v := 0) c142_14 rfl rfl).trans ((w_zret (ty := .boolean) c142_15 rfl (by decide)).trans (and_iff_right (by decide)))) ((w_iload_n (pc' := 6) c142_5 rfl rfl).trans ((w_iload_n (pc' := 7) c142_6 rfl rfl).trans ((w_icmp_gt (pc' := 10) c142_7 rfl).trans ((ite_iff ((w_iconst (pc' := 15) (v := 0) c142_14 rfl rfl).trans ((w_zret (ty := .boolean) c142_15 rfl (by decide)).trans (and_iff_right (by decide)))) ((w_iconst (pc' := 11) (v := 1) c142_10 rfl rfl).trans ((w_goto c142_11).trans ((w_zret (ty := .boolean) c142_15 rfl (by decide)).trans (and_iff_right (by decide)))))).trans (ite_val (fun z => Q (some (.int z)) (K0, R0, I, L)))))))).trans (ite_val (fun z => Q (some (.int z)) (K0, R0, I, L))))))
-- LeavesObjectModel.isShape(I)Z
theorem c143_0 : cdx (mC m143) 0 = some (0, .aload_n 0, 1, 0, 0, 0, 0, []) := rfl
theorem c143_1 : cdx (mC m143) 1 = some (1, .iload_n 1, 1, 1, 0, 0, 0, []) := rfl
theorem c143_2 : cdx (mC m143) 2 = some (2, .iconst 0, 1, 0, 0, 0, 0, []) := rfl
theorem c143_3 : cdx (mC m143) 3 = some (3, .sipush 4095, 3, 0, 0, 0, 0, []) := rfl
theorem c143_6 : cdx (mC m143) 6 = some (6, .invokevirtual 213, 3, 142, 3, 0, 5087, [(10, 0)]) := rfl
theorem c143_9 : cdx (mC m143) 9 = some (9, .ireturn, 1, 0, 0, 0, 0, []) := rfl
def lv143 : List (Nat × List Nat) := [(0, [0, 1]), (1, [1])]
theorem lvok143 : lvOk (mC m143) lv143 = true := by decide +kernel
theorem b143_0 {X : Nat × (Nat → Int32)} {d : Nat} {I : Nat → Nat → Int32} {L : Nat → Nat → Int64} {Q : Option Value → XW → Prop} {x1 : Int32}  : wp X (d + 1) m143 0 [some (.ref 124), some (.int x1)] [] (K0, R0, I, L) Q ↔ wp X d m142 0 [some (.ref 124), some (.int x1), some (.int 0), some (.int 4095)] [] (K0, R0, I, L) (fun r w1 => wp X (d + 1) m143 9 [none, none] (r.toList ++ []) w1 Q) := (w_aload_n (pc' := 1) c143_0 rfl rfl).trans ((w_iload_n (pc' := 2) c143_1 rfl rfl).trans ((w_iconst (pc' := 3) (v := 0) c143_2 rfl rfl).trans ((w_sipush (pc' := 6) (v := 4095) c143_3 rfl rfl).trans ((w_callv (pc' := 9) c143_6 mt142 rfl (Nat.le_of_ble_eq_true rfl) rfl kd_124 rfl rfl (Nat.le_of_ble_eq_true rfl) rfl rfl).trans (wp_congr (fun r w1 => wp_msk lvok143 rfl))))))
theorem b143_9 {X : Nat × (Nat → Int32)} {d : Nat} {I : Nat → Nat → Int32} {L : Nat → Nat → Int64} {Q : Option Value → XW → Prop} {s0 : Int32}  : wp X d m143 9 [none, none] [(.int s0)] (K0, R0, I, L) Q ↔ (fits .boolean (.int s0) = true ∧ Q (some (.int s0)) (K0, R0, I, L)) := w_zret c143_9 rfl (by decide)
-- LeavesObjectModel.set(III)I
theorem c144_0 : cdx (mC m144) 0 = some (0, .aload_n 0, 1, 0, 0, 0, 0, []) := rfl
theorem c144_1 : cdx (mC m144) 1 = some (1, .iload_n 1, 1, 1, 0, 0, 0, []) := rfl
theorem c144_2 : cdx (mC m144) 2 = some (2, .invokevirtual 221, 3, 145, 1, 0, 5099, [(10, 0)]) := rfl
theorem c144_5 : cdx (mC m144) 5 = some (5, .ifCond .eq 13, 3, 18, 0, 0, 0, []) := rfl
theorem c144_8 : cdx (mC m144) 8 = some (8, .aload_n 0, 1, 0, 0, 0, 0, []) := rfl
theorem c144_9 : cdx (mC m144) 9 = some (9, .iload_n 2, 1, 2, 0, 0, 0, []) := rfl
theorem c144_10 : cdx (mC m144) 10 = some (10, .iconst 0, 1, 0, 0, 0, 0, []) := rfl
theorem c144_11 : cdx (mC m144) 11 = some (11, .iconst 1, 1, 0, 0, 0, 0, []) := rfl
theorem c144_12 : cdx (mC m144) 12 = some (12, .invokevirtual 213, 3, 142, 3, 0, 5087, [(10, 0)]) := rfl
theorem c144_15 : cdx (mC m144) 15 = some (15, .ifCond .ne 5, 3, 20, 0, 0, 0, []) := rfl
theorem c144_18 : cdx (mC m144) 18 = some (18, .iconst (-1), 1, 0, 0, 0, 0, []) := rfl
theorem c144_19 : cdx (mC m144) 19 = some (19, .ireturn, 1, 0, 0, 0, 0, []) := rfl
theorem c144_20 : cdx (mC m144) 20 = some (20, .iload_n 2, 1, 2, 0, 0, 0, []) := rfl
theorem c144_21 : cdx (mC m144) 21 = some (21, .ifCond .ne 14, 3, 35, 0, 0, 0, []) := rfl
theorem c144_24 : cdx (mC m144) 24 = some (24, .aload_n 0, 1, 0, 0, 0, 0, []) := rfl
theorem c144_25 : cdx (mC m144) 25 = some (25, .iload_n 3, 1, 3, 0, 0, 0, []) := rfl
theorem c144_26 : cdx (mC m144) 26 = some (26, .invokevirtual 217, 3, 143, 1, 0, 5091, [(10, 0)]) := rfl
theorem c144_29 : cdx (mC m144) 29 = some (29, .ifCond .ne 20, 3, 49, 0, 0, 0, []) := rfl
theorem c144_32 : cdx (mC m144) 32 = some (32, .goto 14, 3, 46, 0, 0, 0, []) := rfl
theorem c144_35 : cdx (mC m144) 35 = some (35, .aload_n 0, 1, 0, 0, 0, 0, []) := rfl
theorem c144_36 : cdx (mC m144) 36 = some (36, .iload_n 3, 1, 3, 0, 0, 0, []) := rfl
theorem c144_37 : cdx (mC m144) 37 = some (37, .iconst 0, 1, 0, 0, 0, 0, []) := rfl
theorem c144_38 : cdx (mC m144) 38 = some (38, .bipush 9, 2, 0, 0, 0, 0, []) := rfl
theorem c144_40 : cdx (mC m144) 40 = some (40, .invokevirtual 213, 3, 142, 3, 0, 5087, [(10, 0)]) := rfl
theorem c144_43 : cdx (mC m144) 43 = some (43, .ifCond .ne 6, 3, 49, 0, 0, 0, []) := rfl
theorem c144_46 : cdx (mC m144) 46 = some (46, .bipush (-2), 2, 0, 0, 0, 0, []) := rfl
theorem c144_48 : cdx (mC m144) 48 = some (48, .ireturn, 1, 0, 0, 0, 0, []) := rfl
theorem c144_49 : cdx (mC m144) 49 = some (49, .iload_n 2, 1, 2, 0, 0, 0, []) := rfl
theorem c144_50 : cdx (mC m144) 50 = some (50, .ifCond .ne 12, 3, 62, 0, 0, 0, []) := rfl
theorem c144_53 : cdx (mC m144) 53 = some (53, .aload_n 0, 1, 0, 0, 0, 0, []) := rfl
theorem c144_54 : cdx (mC m144) 54 = some (54, .getfield 23, 3, 10, 4, 0, 4130, []) := rfl
theorem c144_57 : cdx (mC m144) 57 = some (57, .iload_n 1, 1, 1, 0, 0, 0, []) := rfl
theorem c144_58 : cdx (mC m144) 58 = some (58, .iaload, 1, 0, 0, 0, 0, []) := rfl
theorem c144_59 : cdx (mC m144) 59 = some (59, .goto 9, 3, 68, 0, 0, 0, []) := rfl
theorem c144_62 : cdx (mC m144) 62 = some (62, .aload_n 0, 1, 0, 0, 0, 0, []) := rfl
theorem c144_63 : cdx (mC m144) 63 = some (63, .getfield 26, 3, 10, 5, 0, 4131, []) := rfl
theorem c144_66 : cdx (mC m144) 66 = some (66, .iload_n 1, 1, 1, 0, 0, 0, []) := rfl
theorem c144_67 : cdx (mC m144) 67 = some (67, .iaload, 1, 0, 0, 0, 0, []) := rfl
theorem c144_68 : cdx (mC m144) 68 = some (68, .istore 4, 2, 4, 0, 0, 0, []) := rfl
theorem c144_70 : cdx (mC m144) 70 = some (70, .iload_n 2, 1, 2, 0, 0, 0, []) := rfl
theorem c144_71 : cdx (mC m144) 71 = some (71, .ifCond .ne 13, 3, 84, 0, 0, 0, []) := rfl
theorem c144_74 : cdx (mC m144) 74 = some (74, .aload_n 0, 1, 0, 0, 0, 0, []) := rfl
theorem c144_75 : cdx (mC m144) 75 = some (75, .getfield 23, 3, 10, 4, 0, 4130, []) := rfl
theorem c144_78 : cdx (mC m144) 78 = some (78, .iload_n 1, 1, 1, 0, 0, 0, []) := rfl
theorem c144_79 : cdx (mC m144) 79 = some (79, .iload_n 3, 1, 3, 0, 0, 0, []) := rfl
theorem c144_80 : cdx (mC m144) 80 = some (80, .iastore, 1, 0, 0, 0, 0, []) := rfl
theorem c144_81 : cdx (mC m144) 81 = some (81, .goto 10, 3, 91, 0, 0, 0, []) := rfl
theorem c144_84 : cdx (mC m144) 84 = some (84, .aload_n 0, 1, 0, 0, 0, 0, []) := rfl
theorem c144_85 : cdx (mC m144) 85 = some (85, .getfield 26, 3, 10, 5, 0, 4131, []) := rfl
theorem c144_88 : cdx (mC m144) 88 = some (88, .iload_n 1, 1, 1, 0, 0, 0, []) := rfl
theorem c144_89 : cdx (mC m144) 89 = some (89, .iload_n 3, 1, 3, 0, 0, 0, []) := rfl
theorem c144_90 : cdx (mC m144) 90 = some (90, .iastore, 1, 0, 0, 0, 0, []) := rfl
theorem c144_91 : cdx (mC m144) 91 = some (91, .iload 4, 2, 4, 0, 0, 0, []) := rfl
theorem c144_93 : cdx (mC m144) 93 = some (93, .ireturn, 1, 0, 0, 0, 0, []) := rfl
theorem b144_0 {X : Nat × (Nat → Int32)} {d : Nat} {I : Nat → Nat → Int32} {L : Nat → Nat → Int64} {Q : Option Value → XW → Prop} {x1 : Int32} {x2 : Int32} {x3 : Int32}  : wp X (d + 1) m144 0 [some (.ref 124), some (.int x1), some (.int x2), some (.int x3), none] [] (K0, R0, I, L) Q ↔ wp X d m145 0 [some (.ref 124), some (.int x1)] [] (K0, R0, I, L) (fun r w1 => wp X (d + 1) m144 5 [some (.ref 124), some (.int x1), some (.int x2), some (.int x3), none] (r.toList ++ []) w1 Q) := (w_aload_n (pc' := 1) c144_0 rfl rfl).trans ((w_iload_n (pc' := 2) c144_1 rfl rfl).trans ((w_callv (pc' := 5) c144_2 mt145 rfl (Nat.le_of_ble_eq_true rfl) rfl kd_124 rfl rfl (Nat.le_of_ble_eq_true rfl) rfl rfl)))
theorem b144_5 {X : Nat × (Nat → Int32)} {d : Nat} {I : Nat → Nat → Int32} {L : Nat → Nat → Int64} {Q : Option Value → XW → Prop} {x1 : Int32} {x2 : Int32} {x3 : Int32} {s0 : Int32}  : wp X (d + 1) m144 5 [some (.ref 124), some (.int x1), some (.int x2), some (.int x3), none] [(.int s0)] (K0, R0, I, L) Q ↔ (if s0 = 0 then Q (some (.int (-1))) (K0, R0, I, L) else wp X d m142 0 [some (.ref 124), some (.int x2), some (.int 0), some (.int 1)] [] (K0, R0, I, L) (fun r w1 => wp X (d + 1) m144 15 [some (.ref 124), some (.int x1), some (.int x2), some (.int x3), none] (r.toList ++ []) w1 Q)) := (w_if_eq (pc' := 8) c144_5 rfl).trans (ite_iff ((w_iconst (pc' := 19) (v := (-1)) c144_18 rfl rfl).trans (w_iret c144_19 rfl)) ((w_aload_n (pc' := 9) c144_8 rfl rfl).trans ((w_iload_n (pc' := 10) c144_9 rfl rfl).trans ((w_iconst (pc' := 11) (v := 0) c144_10 rfl rfl).trans ((w_iconst (pc' := 12) (v := 1) c144_11 rfl rfl).trans ((w_callv (pc' := 15) c144_12 mt142 rfl (Nat.le_of_ble_eq_true rfl) rfl kd_124 rfl rfl (Nat.le_of_ble_eq_true rfl) rfl rfl)))))))
theorem b144_15 {X : Nat × (Nat → Int32)} {d : Nat} {I : Nat → Nat → Int32} {L : Nat → Nat → Int64} {Q : Option Value → XW → Prop} {x1 : Int32} {x2 : Int32} {x3 : Int32} {s0 : Int32}  : wp X (d + 1) m144 15 [some (.ref 124), some (.int x1), some (.int x2), some (.int x3), none] [(.int s0)] (K0, R0, I, L) Q ↔ (if s0 = 0 then Q (some (.int (-1))) (K0, R0, I, L) else (if x2 = 0 then wp X d m143 0 [some (.ref 124), some (.int x3)] [] (K0, R0, I, L) (fun r w1 => wp X (d + 1) m144 29 [some (.ref 124), some (.int x1), some (.int x2), some (.int x3), none] (r.toList ++ []) w1 Q) else wp X d m142 0 [some (.ref 124), some (.int x3), some (.int 0), some (.int 9)] [] (K0, R0, I, L) (fun r w1 => wp X (d + 1) m144 43 [some (.ref 124), some (.int x1), some (.int x2), some (.int x3), none] (r.toList ++ []) w1 Q))) := (w_if_ne (pc' := 18) c144_15 rfl).trans (ite_iff ((w_iconst (pc' := 19) (v := (-1)) c144_18 rfl rfl).trans (w_iret c144_19 rfl)) ((w_iload_n (pc' := 21) c144_20 rfl rfl).trans ((w_if_ne (pc' := 24) c144_21 rfl).trans (ite_iff ((w_aload_n (pc' := 25) c144_24 rfl rfl).trans ((w_iload_n (pc' := 26) c144_25 rfl rfl).trans ((w_callv (pc' := 29) c144_26 mt143 rfl (Nat.le_of_ble_eq_true rfl) rfl kd_124 rfl rfl (Nat.le_of_ble_eq_true rfl) rfl rfl)))) ((w_aload_n (pc' := 36) c144_35 rfl rfl).trans ((w_iload_n (pc' := 37) c144_36 rfl rfl).trans ((w_iconst (pc' := 38) (v := 0) c144_37 rfl rfl).trans ((w_bipush (pc' := 40) (v := 9) c144_38 rfl rfl).trans ((w_callv (pc' := 43) c144_40 mt142 rfl (Nat.le_of_ble_eq_true rfl) rfl kd_124 rfl rfl (Nat.le_of_ble_eq_true rfl) rfl rfl))))))))))
theorem b144_29 {X : Nat × (Nat → Int32)} {d : Nat} {I : Nat → Nat → Int32} {L : Nat → Nat → Int64} {Q : Option Value → XW → Prop} {x1 : Int32} {x2 : Int32} {x3 : Int32} {s0 : Int32}  : wp X d m144 29 [some (.ref 124), some (.int x1), some (.int x2), some (.int x3), none] [(.int s0)] (K0, R0, I, L) Q ↔ (if s0 = 0 then Q (some (.int (-2))) (K0, R0, I, L) else (if x2 = 0 then (inA x1 5 = true ∧ wp X d m144 68 [some (.ref 124), some (.int x1), some (.int x2), some (.int x3), none] [(.int (I 127 (Int32.toNatClampNeg x1)))] (K0, R0, I, L) Q) else (inA x1 5 = true ∧ wp X d m144 68 [some (.ref 124), some (.int x1), some (.int x2), some (.int x3), none] [(.int (I 128 (Int32.toNatClampNeg x1)))] (K0, R0, I, L) Q))) := (w_if_ne (pc' := 32) c144_29 rfl).trans (ite_iff ((w_goto c144_32).trans ((w_bipush (pc' := 48) (v := (-2)) c144_46 rfl rfl).trans (w_iret c144_48 rfl))) ((w_iload_n (pc' := 50) c144_49 rfl rfl).trans ((w_if_ne (pc' := 53) c144_50 rfl).trans (ite_iff ((w_aload_n (pc' := 54) c144_53 rfl rfl).trans ((w_getR (pc' := 57) (q := 127) c144_54 kd_124 (by decide) rfl rd_124_4 rfl).trans ((w_iload_n (pc' := 58) c144_57 rfl rfl).trans ((w_ialdv (pc' := 59) (v := (I 127 (Int32.toNatClampNeg x1))) c144_58 kd_127 (rfl) rfl).trans (and_congr_right (fun _ => (w_goto c144_59))))))) ((w_aload_n (pc' := 63) c144_62 rfl rfl).trans ((w_getR (pc' := 66) (q := 128) c144_63 kd_124 (by decide) rfl rd_124_5 rfl).trans ((w_iload_n (pc' := 67) c144_66 rfl rfl).trans ((w_ialdv (pc' := 68) (v := (I 128 (Int32.toNatClampNeg x1))) c144_67 kd_128 (rfl) rfl).trans (and_congr_right (fun _ => Iff.rfl))))))))))
theorem b144_43 {X : Nat × (Nat → Int32)} {d : Nat} {I : Nat → Nat → Int32} {L : Nat → Nat → Int64} {Q : Option Value → XW → Prop} {x1 : Int32} {x2 : Int32} {x3 : Int32} {s0 : Int32}  : wp X d m144 43 [some (.ref 124), some (.int x1), some (.int x2), some (.int x3), none] [(.int s0)] (K0, R0, I, L) Q ↔ (if s0 = 0 then Q (some (.int (-2))) (K0, R0, I, L) else (if x2 = 0 then (inA x1 5 = true ∧ wp X d m144 68 [some (.ref 124), some (.int x1), some (.int x2), some (.int x3), none] [(.int (I 127 (Int32.toNatClampNeg x1)))] (K0, R0, I, L) Q) else (inA x1 5 = true ∧ wp X d m144 68 [some (.ref 124), some (.int x1), some (.int x2), some (.int x3), none] [(.int (I 128 (Int32.toNatClampNeg x1)))] (K0, R0, I, L) Q))) := (w_if_ne (pc' := 46) c144_43 rfl).trans (ite_iff ((w_bipush (pc' := 48) (v := (-2)) c144_46 rfl rfl).trans (w_iret c144_48 rfl)) ((w_iload_n (pc' := 50) c144_49 rfl rfl).trans ((w_if_ne (pc' := 53) c144_50 rfl).trans (ite_iff ((w_aload_n (pc' := 54) c144_53 rfl rfl).trans ((w_getR (pc' := 57) (q := 127) c144_54 kd_124 (by decide) rfl rd_124_4 rfl).trans ((w_iload_n (pc' := 58) c144_57 rfl rfl).trans ((w_ialdv (pc' := 59) (v := (I 127 (Int32.toNatClampNeg x1))) c144_58 kd_127 (rfl) rfl).trans (and_congr_right (fun _ => (w_goto c144_59))))))) ((w_aload_n (pc' := 63) c144_62 rfl rfl).trans ((w_getR (pc' := 66) (q := 128) c144_63 kd_124 (by decide) rfl rd_124_5 rfl).trans ((w_iload_n (pc' := 67) c144_66 rfl rfl).trans ((w_ialdv (pc' := 68) (v := (I 128 (Int32.toNatClampNeg x1))) c144_67 kd_128 (rfl) rfl).trans (and_congr_right (fun _ => Iff.rfl))))))))))
theorem b144_68 {X : Nat × (Nat → Int32)} {d : Nat} {I : Nat → Nat → Int32} {L : Nat → Nat → Int64} {Q : Option Value → XW → Prop} {x1 : Int32} {x2 : Int32} {x3 : Int32} {s0 : Int32}  : wp X d m144 68 [some (.ref 124), some (.int x1), some (.int x2), some (.int x3), none] [(.int s0)] (K0, R0, I, L) Q ↔ (if x2 = 0 then (inA x1 5 = true ∧ Q (some (.int s0)) (K0, R0, (updR I 127 (Int32.toNatClampNeg x1) x3), L)) else (inA x1 5 = true ∧ Q (some (.int s0)) (K0, R0, (updR I 128 (Int32.toNatClampNeg x1) x3), L))) := (w_istore (pc' := 70) (ls' := [some (.ref 124), some (.int x1), some (.int x2), some (.int x3), some (.int s0)]) c144_68 (Nat.le_of_ble_eq_true rfl) rfl rfl).trans ((w_iload_n (pc' := 71) c144_70 rfl rfl).trans ((w_if_ne (pc' := 74) c144_71 rfl).trans (ite_iff ((w_aload_n (pc' := 75) c144_74 rfl rfl).trans ((w_getR (pc' := 78) (q := 127) c144_75 kd_124 (by decide) rfl rd_124_4 rfl).trans ((w_iload_n (pc' := 79) c144_78 rfl rfl).trans ((w_iload_n (pc' := 80) c144_79 rfl rfl).trans ((w_iast (pc' := 81) c144_80 kd_127 rfl).trans (and_congr_right (fun _ => (w_goto c144_81).trans ((w_iload (pc' := 93) c144_91 rfl rfl).trans (w_iret c144_93 rfl))))))))) ((w_aload_n (pc' := 85) c144_84 rfl rfl).trans ((w_getR (pc' := 88) (q := 128) c144_85 kd_124 (by decide) rfl rd_124_5 rfl).trans ((w_iload_n (pc' := 89) c144_88 rfl rfl).trans ((w_iload_n (pc' := 90) c144_89 rfl rfl).trans ((w_iast (pc' := 91) c144_90 kd_128 rfl).trans (and_congr_right (fun _ => (w_iload (pc' := 93) c144_91 rfl rfl).trans (w_iret c144_93 rfl)))))))))))
-- LeavesObjectModel.isCup(I)Z
theorem c145_0 : cdx (mC m145) 0 = some (0, .aload_n 0, 1, 0, 0, 0, 0, []) := rfl
theorem c145_1 : cdx (mC m145) 1 = some (1, .iload_n 1, 1, 1, 0, 0, 0, []) := rfl
theorem c145_2 : cdx (mC m145) 2 = some (2, .iconst 0, 1, 0, 0, 0, 0, []) := rfl
theorem c145_3 : cdx (mC m145) 3 = some (3, .aload_n 0, 1, 0, 0, 0, 0, []) := rfl
theorem c145_4 : cdx (mC m145) 4 = some (4, .getfield 7, 3, 10, 0, 0, 4126, []) := rfl
theorem c145_7 : cdx (mC m145) 7 = some (7, .iconst 1, 1, 0, 0, 0, 0, []) := rfl
theorem c145_8 : cdx (mC m145) 8 = some (8, .isub, 1, 0, 0, 0, 0, []) := rfl
theorem c145_9 : cdx (mC m145) 9 = some (9, .invokevirtual 213, 3, 142, 3, 0, 5087, [(10, 0)]) := rfl
theorem c145_12 : cdx (mC m145) 12 = some (12, .ireturn, 1, 0, 0, 0, 0, []) := rfl
def lv145 : List (Nat × List Nat) := [(0, [0, 1]), (1, [0, 1]), (2, [0]), (3, [0])]
theorem lvok145 : lvOk (mC m145) lv145 = true := by decide +kernel
theorem b145_0 {X : Nat × (Nat → Int32)} {d : Nat} {I : Nat → Nat → Int32} {L : Nat → Nat → Int64} {Q : Option Value → XW → Prop} {x1 : Int32}  : wp X (d + 1) m145 0 [some (.ref 124), some (.int x1)] [] (K0, R0, I, L) Q ↔ wp X d m142 0 [some (.ref 124), some (.int x1), some (.int 0), some (.int ((I 124 0) - 1))] [] (K0, R0, I, L) (fun r w1 => wp X (d + 1) m145 12 [none, none] (r.toList ++ []) w1 Q) := (w_aload_n (pc' := 1) c145_0 rfl rfl).trans ((w_iload_n (pc' := 2) c145_1 rfl rfl).trans ((w_iconst (pc' := 3) (v := 0) c145_2 rfl rfl).trans ((w_aload_n (pc' := 4) c145_3 rfl rfl).trans ((w_getIv (pc' := 7) (v := (I 124 0)) c145_4 kd_124 (by decide) rfl (rfl) rfl).trans ((w_iconst (pc' := 8) (v := 1) c145_7 rfl rfl).trans ((w_isub (pc' := 9) c145_8 rfl).trans ((w_callv (pc' := 12) c145_9 mt142 rfl (Nat.le_of_ble_eq_true rfl) rfl kd_124 rfl rfl (Nat.le_of_ble_eq_true rfl) rfl rfl).trans (wp_congr (fun r w1 => wp_msk lvok145 rfl)))))))))
theorem b145_12 {X : Nat × (Nat → Int32)} {d : Nat} {I : Nat → Nat → Int32} {L : Nat → Nat → Int64} {Q : Option Value → XW → Prop} {s0 : Int32}  : wp X d m145 12 [none, none] [(.int s0)] (K0, R0, I, L) Q ↔ (fits .boolean (.int s0) = true ∧ Q (some (.int s0)) (K0, R0, I, L)) := w_zret c145_12 rfl (by decide)
-- LeavesObjectModel.line(III)I
theorem c146_0 : cdx (mC m146) 0 = some (0, .aload_n 0, 1, 0, 0, 0, 0, []) := rfl
theorem c146_1 : cdx (mC m146) 1 = some (1, .iload_n 1, 1, 1, 0, 0, 0, []) := rfl
theorem c146_2 : cdx (mC m146) 2 = some (2, .invokevirtual 221, 3, 145, 1, 0, 5099, [(10, 0)]) := rfl
theorem c146_5 : cdx (mC m146) 5 = some (5, .ifCond .eq 13, 3, 18, 0, 0, 0, []) := rfl
theorem c146_8 : cdx (mC m146) 8 = some (8, .aload_n 0, 1, 0, 0, 0, 0, []) := rfl
theorem c146_9 : cdx (mC m146) 9 = some (9, .iload_n 2, 1, 2, 0, 0, 0, []) := rfl
theorem c146_10 : cdx (mC m146) 10 = some (10, .iconst 0, 1, 0, 0, 0, 0, []) := rfl
theorem c146_11 : cdx (mC m146) 11 = some (11, .iconst 3, 1, 0, 0, 0, 0, []) := rfl
theorem c146_12 : cdx (mC m146) 12 = some (12, .invokevirtual 213, 3, 142, 3, 0, 5087, [(10, 0)]) := rfl
theorem c146_15 : cdx (mC m146) 15 = some (15, .ifCond .ne 5, 3, 20, 0, 0, 0, []) := rfl
theorem c146_18 : cdx (mC m146) 18 = some (18, .iconst (-1), 1, 0, 0, 0, 0, []) := rfl
theorem c146_19 : cdx (mC m146) 19 = some (19, .ireturn, 1, 0, 0, 0, 0, []) := rfl
theorem c146_20 : cdx (mC m146) 20 = some (20, .aload_n 0, 1, 0, 0, 0, 0, []) := rfl
theorem c146_21 : cdx (mC m146) 21 = some (21, .iload_n 3, 1, 3, 0, 0, 0, []) := rfl
theorem c146_22 : cdx (mC m146) 22 = some (22, .iconst 0, 1, 0, 0, 0, 0, []) := rfl
theorem c146_23 : cdx (mC m146) 23 = some (23, .bipush 9, 2, 0, 0, 0, 0, []) := rfl
theorem c146_25 : cdx (mC m146) 25 = some (25, .invokevirtual 213, 3, 142, 3, 0, 5087, [(10, 0)]) := rfl
theorem c146_28 : cdx (mC m146) 28 = some (28, .ifCond .ne 6, 3, 34, 0, 0, 0, []) := rfl
theorem c146_31 : cdx (mC m146) 31 = some (31, .bipush (-2), 2, 0, 0, 0, 0, []) := rfl
theorem c146_33 : cdx (mC m146) 33 = some (33, .ireturn, 1, 0, 0, 0, 0, []) := rfl
theorem c146_34 : cdx (mC m146) 34 = some (34, .aload_n 0, 1, 0, 0, 0, 0, []) := rfl
theorem c146_35 : cdx (mC m146) 35 = some (35, .getfield 16, 3, 10, 2, 0, 4128, []) := rfl
theorem c146_38 : cdx (mC m146) 38 = some (38, .iload_n 1, 1, 1, 0, 0, 0, []) := rfl
theorem c146_39 : cdx (mC m146) 39 = some (39, .iaload, 1, 0, 0, 0, 0, []) := rfl
theorem c146_40 : cdx (mC m146) 40 = some (40, .bipush 6, 2, 0, 0, 0, 0, []) := rfl
theorem c146_42 : cdx (mC m146) 42 = some (42, .if_icmp .eq 6, 3, 48, 0, 0, 0, []) := rfl
theorem c146_45 : cdx (mC m146) 45 = some (45, .bipush (-3), 2, 0, 0, 0, 0, []) := rfl
theorem c146_47 : cdx (mC m146) 47 = some (47, .ireturn, 1, 0, 0, 0, 0, []) := rfl
theorem c146_48 : cdx (mC m146) 48 = some (48, .aload_n 0, 1, 0, 0, 0, 0, []) := rfl
theorem c146_49 : cdx (mC m146) 49 = some (49, .getfield 32, 3, 10, 7, 0, 4133, []) := rfl
theorem c146_52 : cdx (mC m146) 52 = some (52, .iconst 4, 1, 0, 0, 0, 0, []) := rfl
theorem c146_53 : cdx (mC m146) 53 = some (53, .iload_n 1, 1, 1, 0, 0, 0, []) := rfl
theorem c146_54 : cdx (mC m146) 54 = some (54, .imul, 1, 0, 0, 0, 0, []) := rfl
theorem c146_55 : cdx (mC m146) 55 = some (55, .iload_n 2, 1, 2, 0, 0, 0, []) := rfl
theorem c146_56 : cdx (mC m146) 56 = some (56, .iadd, 1, 0, 0, 0, 0, []) := rfl
theorem c146_57 : cdx (mC m146) 57 = some (57, .iaload, 1, 0, 0, 0, 0, []) := rfl
theorem c146_58 : cdx (mC m146) 58 = some (58, .istore 4, 2, 4, 0, 0, 0, []) := rfl
theorem c146_60 : cdx (mC m146) 60 = some (60, .aload_n 0, 1, 0, 0, 0, 0, []) := rfl
theorem c146_61 : cdx (mC m146) 61 = some (61, .getfield 32, 3, 10, 7, 0, 4133, []) := rfl
theorem c146_64 : cdx (mC m146) 64 = some (64, .iconst 4, 1, 0, 0, 0, 0, []) := rfl
theorem c146_65 : cdx (mC m146) 65 = some (65, .iload_n 1, 1, 1, 0, 0, 0, []) := rfl
theorem c146_66 : cdx (mC m146) 66 = some (66, .imul, 1, 0, 0, 0, 0, []) := rfl
theorem c146_67 : cdx (mC m146) 67 = some (67, .iload_n 2, 1, 2, 0, 0, 0, []) := rfl
theorem c146_68 : cdx (mC m146) 68 = some (68, .iadd, 1, 0, 0, 0, 0, []) := rfl
theorem c146_69 : cdx (mC m146) 69 = some (69, .iload_n 3, 1, 3, 0, 0, 0, []) := rfl
theorem c146_70 : cdx (mC m146) 70 = some (70, .iastore, 1, 0, 0, 0, 0, []) := rfl
theorem c146_71 : cdx (mC m146) 71 = some (71, .iload 4, 2, 4, 0, 0, 0, []) := rfl
theorem c146_73 : cdx (mC m146) 73 = some (73, .ireturn, 1, 0, 0, 0, 0, []) := rfl
theorem b146_0 {X : Nat × (Nat → Int32)} {d : Nat} {I : Nat → Nat → Int32} {L : Nat → Nat → Int64} {Q : Option Value → XW → Prop} {x1 : Int32} {x2 : Int32} {x3 : Int32}  : wp X (d + 1) m146 0 [some (.ref 124), some (.int x1), some (.int x2), some (.int x3), none] [] (K0, R0, I, L) Q ↔ wp X d m145 0 [some (.ref 124), some (.int x1)] [] (K0, R0, I, L) (fun r w1 => wp X (d + 1) m146 5 [some (.ref 124), some (.int x1), some (.int x2), some (.int x3), none] (r.toList ++ []) w1 Q) := (w_aload_n (pc' := 1) c146_0 rfl rfl).trans ((w_iload_n (pc' := 2) c146_1 rfl rfl).trans ((w_callv (pc' := 5) c146_2 mt145 rfl (Nat.le_of_ble_eq_true rfl) rfl kd_124 rfl rfl (Nat.le_of_ble_eq_true rfl) rfl rfl)))
theorem b146_5 {X : Nat × (Nat → Int32)} {d : Nat} {I : Nat → Nat → Int32} {L : Nat → Nat → Int64} {Q : Option Value → XW → Prop} {x1 : Int32} {x2 : Int32} {x3 : Int32} {s0 : Int32}  : wp X (d + 1) m146 5 [some (.ref 124), some (.int x1), some (.int x2), some (.int x3), none] [(.int s0)] (K0, R0, I, L) Q ↔ (if s0 = 0 then Q (some (.int (-1))) (K0, R0, I, L) else wp X d m142 0 [some (.ref 124), some (.int x2), some (.int 0), some (.int 3)] [] (K0, R0, I, L) (fun r w1 => wp X (d + 1) m146 15 [some (.ref 124), some (.int x1), some (.int x2), some (.int x3), none] (r.toList ++ []) w1 Q)) := (w_if_eq (pc' := 8) c146_5 rfl).trans (ite_iff ((w_iconst (pc' := 19) (v := (-1)) c146_18 rfl rfl).trans (w_iret c146_19 rfl)) ((w_aload_n (pc' := 9) c146_8 rfl rfl).trans ((w_iload_n (pc' := 10) c146_9 rfl rfl).trans ((w_iconst (pc' := 11) (v := 0) c146_10 rfl rfl).trans ((w_iconst (pc' := 12) (v := 3) c146_11 rfl rfl).trans ((w_callv (pc' := 15) c146_12 mt142 rfl (Nat.le_of_ble_eq_true rfl) rfl kd_124 rfl rfl (Nat.le_of_ble_eq_true rfl) rfl rfl)))))))
theorem b146_15 {X : Nat × (Nat → Int32)} {d : Nat} {I : Nat → Nat → Int32} {L : Nat → Nat → Int64} {Q : Option Value → XW → Prop} {x1 : Int32} {x2 : Int32} {x3 : Int32} {s0 : Int32}  : wp X (d + 1) m146 15 [some (.ref 124), some (.int x1), some (.int x2), some (.int x3), none] [(.int s0)] (K0, R0, I, L) Q ↔ (if s0 = 0 then Q (some (.int (-1))) (K0, R0, I, L) else wp X d m142 0 [some (.ref 124), some (.int x3), some (.int 0), some (.int 9)] [] (K0, R0, I, L) (fun r w1 => wp X (d + 1) m146 28 [some (.ref 124), some (.int x1), some (.int x2), some (.int x3), none] (r.toList ++ []) w1 Q)) := (w_if_ne (pc' := 18) c146_15 rfl).trans (ite_iff ((w_iconst (pc' := 19) (v := (-1)) c146_18 rfl rfl).trans (w_iret c146_19 rfl)) ((w_aload_n (pc' := 21) c146_20 rfl rfl).trans ((w_iload_n (pc' := 22) c146_21 rfl rfl).trans ((w_iconst (pc' := 23) (v := 0) c146_22 rfl rfl).trans ((w_bipush (pc' := 25) (v := 9) c146_23 rfl rfl).trans ((w_callv (pc' := 28) c146_25 mt142 rfl (Nat.le_of_ble_eq_true rfl) rfl kd_124 rfl rfl (Nat.le_of_ble_eq_true rfl) rfl rfl)))))))
theorem b146_28 {X : Nat × (Nat → Int32)} {d : Nat} {I : Nat → Nat → Int32} {L : Nat → Nat → Int64} {Q : Option Value → XW → Prop} {x1 : Int32} {x2 : Int32} {x3 : Int32} {s0 : Int32}  : wp X d m146 28 [some (.ref 124), some (.int x1), some (.int x2), some (.int x3), none] [(.int s0)] (K0, R0, I, L) Q ↔ (if s0 = 0 then Q (some (.int (-2))) (K0, R0, I, L) else (inA x1 5 = true ∧ (if (I 125 (Int32.toNatClampNeg x1)) = 6 then (inA ((4 * x1) + x2) 20 = true ∧ (inA ((4 * x1) + x2) 20 = true ∧ Q (some (.int (I 130 (Int32.toNatClampNeg ((4 * x1) + x2))))) (K0, R0, (updR I 130 (Int32.toNatClampNeg ((4 * x1) + x2)) x3), L))) else Q (some (.int (-3))) (K0, R0, I, L)))) := (w_if_ne (pc' := 31) c146_28 rfl).trans (ite_iff ((w_bipush (pc' := 33) (v := (-2)) c146_31 rfl rfl).trans (w_iret c146_33 rfl)) ((w_aload_n (pc' := 35) c146_34 rfl rfl).trans ((w_getR (pc' := 38) (q := 125) c146_35 kd_124 (by decide) rfl rd_124_2 rfl).trans ((w_iload_n (pc' := 39) c146_38 rfl rfl).trans ((w_ialdv (pc' := 40) (v := (I 125 (Int32.toNatClampNeg x1))) c146_39 kd_125 (rfl) rfl).trans (and_congr_right (fun _ => (w_bipush (pc' := 42) (v := 6) c146_40 rfl rfl).trans ((w_icmp_eq (pc' := 45) c146_42 rfl).trans (ite_iff ((w_aload_n (pc' := 49) c146_48 rfl rfl).trans ((w_getR (pc' := 52) (q := 130) c146_49 kd_124 (by decide) rfl rd_124_7 rfl).trans ((w_iconst (pc' := 53) (v := 4) c146_52 rfl rfl).trans ((w_iload_n (pc' := 54) c146_53 rfl rfl).trans ((w_imul (pc' := 55) c146_54 rfl).trans ((w_iload_n (pc' := 56) c146_55 rfl rfl).trans ((w_iadd (pc' := 57) c146_56 rfl).trans ((w_ialdv (pc' := 58) (v := (I 130 (Int32.toNatClampNeg ((4 * x1) + x2)))) c146_57 kd_130 (rfl) rfl).trans (and_congr_right (fun _ => (w_istore (pc' := 60) (ls' := [some (.ref 124), some (.int x1), some (.int x2), some (.int x3), some (.int (I 130 (Int32.toNatClampNeg ((4 * x1) + x2))))]) c146_58 (Nat.le_of_ble_eq_true rfl) rfl rfl).trans ((w_aload_n (pc' := 61) c146_60 rfl rfl).trans ((w_getR (pc' := 64) (q := 130) c146_61 kd_124 (by decide) rfl rd_124_7 rfl).trans ((w_iconst (pc' := 65) (v := 4) c146_64 rfl rfl).trans ((w_iload_n (pc' := 66) c146_65 rfl rfl).trans ((w_imul (pc' := 67) c146_66 rfl).trans ((w_iload_n (pc' := 68) c146_67 rfl rfl).trans ((w_iadd (pc' := 69) c146_68 rfl).trans ((w_iload_n (pc' := 70) c146_69 rfl rfl).trans ((w_iast (pc' := 71) c146_70 kd_130 rfl).trans (and_congr_right (fun _ => (w_iload (pc' := 73) c146_71 rfl rfl).trans (w_iret c146_73 rfl)))))))))))))))))))))) ((w_bipush (pc' := 47) (v := (-3)) c146_45 rfl rfl).trans (w_iret c146_47 rfl)))))))))))
-- LeavesObjectModel.feed(I)I
theorem c147_0 : cdx (mC m147) 0 = some (0, .aload_n 0, 1, 0, 0, 0, 0, []) := rfl
theorem c147_1 : cdx (mC m147) 1 = some (1, .iload_n 1, 1, 1, 0, 0, 0, []) := rfl
theorem c147_2 : cdx (mC m147) 2 = some (2, .iconst 0, 1, 0, 0, 0, 0, []) := rfl
theorem c147_3 : cdx (mC m147) 3 = some (3, .bipush 127, 2, 0, 0, 0, 0, []) := rfl
theorem c147_5 : cdx (mC m147) 5 = some (5, .invokevirtual 213, 3, 142, 3, 0, 5087, [(10, 0)]) := rfl
theorem c147_8 : cdx (mC m147) 8 = some (8, .ifCond .ne 6, 3, 14, 0, 0, 0, []) := rfl
theorem c147_11 : cdx (mC m147) 11 = some (11, .bipush (-2), 2, 0, 0, 0, 0, []) := rfl
theorem c147_13 : cdx (mC m147) 13 = some (13, .ireturn, 1, 0, 0, 0, 0, []) := rfl
theorem c147_14 : cdx (mC m147) 14 = some (14, .aload_n 0, 1, 0, 0, 0, 0, []) := rfl
theorem c147_15 : cdx (mC m147) 15 = some (15, .getfield 41, 3, 10, 10, 0, 4136, []) := rfl
theorem c147_18 : cdx (mC m147) 18 = some (18, .bipush 100, 2, 0, 0, 0, 0, []) := rfl
theorem c147_20 : cdx (mC m147) 20 = some (20, .if_icmp .ne 6, 3, 26, 0, 0, 0, []) := rfl
theorem c147_23 : cdx (mC m147) 23 = some (23, .bipush (-4), 2, 0, 0, 0, 0, []) := rfl
theorem c147_25 : cdx (mC m147) 25 = some (25, .ireturn, 1, 0, 0, 0, 0, []) := rfl
theorem c147_26 : cdx (mC m147) 26 = some (26, .aload_n 0, 1, 0, 0, 0, 0, []) := rfl
theorem c147_27 : cdx (mC m147) 27 = some (27, .getfield 50, 3, 10, 13, 0, 4139, []) := rfl
theorem c147_30 : cdx (mC m147) 30 = some (30, .aload_n 0, 1, 0, 0, 0, 0, []) := rfl
theorem c147_31 : cdx (mC m147) 31 = some (31, .getfield 41, 3, 10, 10, 0, 4136, []) := rfl
theorem c147_34 : cdx (mC m147) 34 = some (34, .iload_n 1, 1, 1, 0, 0, 0, []) := rfl
theorem c147_35 : cdx (mC m147) 35 = some (35, .iastore, 1, 0, 0, 0, 0, []) := rfl
theorem c147_36 : cdx (mC m147) 36 = some (36, .aload_n 0, 1, 0, 0, 0, 0, []) := rfl
theorem c147_37 : cdx (mC m147) 37 = some (37, .dup, 1, 0, 0, 0, 0, []) := rfl
theorem c147_38 : cdx (mC m147) 38 = some (38, .getfield 41, 3, 10, 10, 0, 4136, []) := rfl
theorem c147_41 : cdx (mC m147) 41 = some (41, .iconst 1, 1, 0, 0, 0, 0, []) := rfl
theorem c147_42 : cdx (mC m147) 42 = some (42, .iadd, 1, 0, 0, 0, 0, []) := rfl
theorem c147_43 : cdx (mC m147) 43 = some (43, .putfield 41, 3, 10, 10, 0, 4136, []) := rfl
theorem c147_46 : cdx (mC m147) 46 = some (46, .aload_n 0, 1, 0, 0, 0, 0, []) := rfl
theorem c147_47 : cdx (mC m147) 47 = some (47, .getfield 41, 3, 10, 10, 0, 4136, []) := rfl
theorem c147_50 : cdx (mC m147) 50 = some (50, .ireturn, 1, 0, 0, 0, 0, []) := rfl
theorem b147_0 {X : Nat × (Nat → Int32)} {d : Nat} {I : Nat → Nat → Int32} {L : Nat → Nat → Int64} {Q : Option Value → XW → Prop} {x1 : Int32}  : wp X (d + 1) m147 0 [some (.ref 124), some (.int x1)] [] (K0, R0, I, L) Q ↔ wp X d m142 0 [some (.ref 124), some (.int x1), some (.int 0), some (.int 127)] [] (K0, R0, I, L) (fun r w1 => wp X (d + 1) m147 8 [some (.ref 124), some (.int x1)] (r.toList ++ []) w1 Q) := (w_aload_n (pc' := 1) c147_0 rfl rfl).trans ((w_iload_n (pc' := 2) c147_1 rfl rfl).trans ((w_iconst (pc' := 3) (v := 0) c147_2 rfl rfl).trans ((w_bipush (pc' := 5) (v := 127) c147_3 rfl rfl).trans ((w_callv (pc' := 8) c147_5 mt142 rfl (Nat.le_of_ble_eq_true rfl) rfl kd_124 rfl rfl (Nat.le_of_ble_eq_true rfl) rfl rfl)))))
theorem b147_8 {X : Nat × (Nat → Int32)} {d : Nat} {I : Nat → Nat → Int32} {L : Nat → Nat → Int64} {Q : Option Value → XW → Prop} {x1 : Int32} {s0 : Int32}  : wp X d m147 8 [some (.ref 124), some (.int x1)] [(.int s0)] (K0, R0, I, L) Q ↔ (if s0 = 0 then Q (some (.int (-2))) (K0, R0, I, L) else (if (I 124 10) = 100 then Q (some (.int (-4))) (K0, R0, I, L) else (inA (I 124 10) 100 = true ∧ Q (some (.int ((I 124 10) + 1))) (K0, R0, (updR (updR I 131 (Int32.toNatClampNeg (I 124 10)) x1) 124 10 ((I 124 10) + 1)), L)))) := (w_if_ne (pc' := 11) c147_8 rfl).trans (ite_iff ((w_bipush (pc' := 13) (v := (-2)) c147_11 rfl rfl).trans (w_iret c147_13 rfl)) ((w_aload_n (pc' := 15) c147_14 rfl rfl).trans ((w_getIv (pc' := 18) (v := (I 124 10)) c147_15 kd_124 (by decide) rfl (rfl) rfl).trans ((w_bipush (pc' := 20) (v := 100) c147_18 rfl rfl).trans ((w_icmp_ne (pc' := 23) c147_20 rfl).trans (ite_iff ((w_bipush (pc' := 25) (v := (-4)) c147_23 rfl rfl).trans (w_iret c147_25 rfl)) ((w_aload_n (pc' := 27) c147_26 rfl rfl).trans ((w_getR (pc' := 30) (q := 131) c147_27 kd_124 (by decide) rfl rd_124_13 rfl).trans ((w_aload_n (pc' := 31) c147_30 rfl rfl).trans ((w_getIv (pc' := 34) (v := (I 124 10)) c147_31 kd_124 (by decide) rfl (rfl) rfl).trans ((w_iload_n (pc' := 35) c147_34 rfl rfl).trans ((w_iast (pc' := 36) c147_35 kd_131 rfl).trans (and_congr_right (fun _ => (w_aload_n (pc' := 37) c147_36 rfl rfl).trans ((w_dup (pc' := 38) c147_37 rfl rfl).trans ((w_getIv (pc' := 41) (v := (I 124 10)) c147_38 kd_124 (by decide) rfl ((updR_k (by decide)).trans (rfl)) rfl).trans ((w_iconst (pc' := 42) (v := 1) c147_41 rfl rfl).trans ((w_iadd (pc' := 43) c147_42 rfl).trans ((w_putI (pc' := 46) c147_43 kd_124 (by decide) rfl rfl rfl).trans ((w_aload_n (pc' := 47) c147_46 rfl rfl).trans ((w_getIv (pc' := 50) (v := ((I 124 10) + 1)) c147_47 kd_124 (by decide) rfl (updR_same) rfl).trans (w_iret c147_50 rfl))))))))))))))))))))))
-- LeavesObjectModel.inn()I
theorem c148_0 : cdx (mC m148) 0 = some (0, .aload_n 0, 1, 0, 0, 0, 0, []) := rfl
theorem c148_1 : cdx (mC m148) 1 = some (1, .getfield 35, 3, 10, 8, 0, 4134, []) := rfl
theorem c148_4 : cdx (mC m148) 4 = some (4, .bipush 6, 2, 0, 0, 0, 0, []) := rfl
theorem c148_6 : cdx (mC m148) 6 = some (6, .if_icmp .ne 6, 3, 12, 0, 0, 0, []) := rfl
theorem c148_9 : cdx (mC m148) 9 = some (9, .bipush (-4), 2, 0, 0, 0, 0, []) := rfl
theorem c148_11 : cdx (mC m148) 11 = some (11, .ireturn, 1, 0, 0, 0, 0, []) := rfl
theorem c148_12 : cdx (mC m148) 12 = some (12, .aload_n 0, 1, 0, 0, 0, 0, []) := rfl
theorem c148_13 : cdx (mC m148) 13 = some (13, .aload_n 0, 1, 0, 0, 0, 0, []) := rfl
theorem c148_14 : cdx (mC m148) 14 = some (14, .getfield 35, 3, 10, 8, 0, 4134, []) := rfl
theorem c148_17 : cdx (mC m148) 17 = some (17, .invokevirtual 267, 3, 149, 1, 0, 5115, [(10, 0)]) := rfl
theorem c148_20 : cdx (mC m148) 20 = some (20, .istore_n 1, 1, 1, 0, 0, 0, []) := rfl
theorem c148_21 : cdx (mC m148) 21 = some (21, .aload_n 0, 1, 0, 0, 0, 0, []) := rfl
theorem c148_22 : cdx (mC m148) 22 = some (22, .iconst 0, 1, 0, 0, 0, 0, []) := rfl
theorem c148_23 : cdx (mC m148) 23 = some (23, .putfield 41, 3, 10, 10, 0, 4136, []) := rfl
theorem c148_26 : cdx (mC m148) 26 = some (26, .iload_n 1, 1, 1, 0, 0, 0, []) := rfl
theorem c148_27 : cdx (mC m148) 27 = some (27, .ifCond .ne 11, 3, 38, 0, 0, 0, []) := rfl
theorem c148_30 : cdx (mC m148) 30 = some (30, .bipush (-10), 2, 0, 0, 0, 0, []) := rfl
theorem c148_32 : cdx (mC m148) 32 = some (32, .aload_n 0, 1, 0, 0, 0, 0, []) := rfl
theorem c148_33 : cdx (mC m148) 33 = some (33, .getfield 44, 3, 10, 11, 0, 4137, []) := rfl
theorem c148_36 : cdx (mC m148) 36 = some (36, .isub, 1, 0, 0, 0, 0, []) := rfl
theorem c148_37 : cdx (mC m148) 37 = some (37, .ireturn, 1, 0, 0, 0, 0, []) := rfl
theorem c148_38 : cdx (mC m148) 38 = some (38, .aload_n 0, 1, 0, 0, 0, 0, []) := rfl
theorem c148_39 : cdx (mC m148) 39 = some (39, .aload_n 0, 1, 0, 0, 0, 0, []) := rfl
theorem c148_40 : cdx (mC m148) 40 = some (40, .getfield 35, 3, 10, 8, 0, 4134, []) := rfl
theorem c148_43 : cdx (mC m148) 43 = some (43, .putfield 38, 3, 10, 9, 0, 4135, []) := rfl
theorem c148_46 : cdx (mC m148) 46 = some (46, .aload_n 0, 1, 0, 0, 0, 0, []) := rfl
theorem c148_47 : cdx (mC m148) 47 = some (47, .dup, 1, 0, 0, 0, 0, []) := rfl
theorem c148_48 : cdx (mC m148) 48 = some (48, .getfield 35, 3, 10, 8, 0, 4134, []) := rfl
theorem c148_51 : cdx (mC m148) 51 = some (51, .iconst 1, 1, 0, 0, 0, 0, []) := rfl
theorem c148_52 : cdx (mC m148) 52 = some (52, .iadd, 1, 0, 0, 0, 0, []) := rfl
theorem c148_53 : cdx (mC m148) 53 = some (53, .putfield 35, 3, 10, 8, 0, 4134, []) := rfl
theorem c148_56 : cdx (mC m148) 56 = some (56, .aload_n 0, 1, 0, 0, 0, 0, []) := rfl
theorem c148_57 : cdx (mC m148) 57 = some (57, .getfield 38, 3, 10, 9, 0, 4135, []) := rfl
theorem c148_60 : cdx (mC m148) 60 = some (60, .ireturn, 1, 0, 0, 0, 0, []) := rfl
theorem b148_0 {X : Nat × (Nat → Int32)} {d : Nat} {I : Nat → Nat → Int32} {L : Nat → Nat → Int64} {Q : Option Value → XW → Prop}   : wp X (d + 1) m148 0 [some (.ref 124), none] [] (K0, R0, I, L) Q ↔ (if (I 124 8) = 6 then Q (some (.int (-4))) (K0, R0, I, L) else wp X d m149 0 [some (.ref 124), some (.int (I 124 8)), none] [] (K0, R0, I, L) (fun r w1 => wp X (d + 1) m148 20 [some (.ref 124), none] (r.toList ++ []) w1 Q)) := (w_aload_n (pc' := 1) c148_0 rfl rfl).trans ((w_getIv (pc' := 4) (v := (I 124 8)) c148_1 kd_124 (by decide) rfl (rfl) rfl).trans ((w_bipush (pc' := 6) (v := 6) c148_4 rfl rfl).trans ((w_icmp_ne (pc' := 9) c148_6 rfl).trans (ite_iff ((w_bipush (pc' := 11) (v := (-4)) c148_9 rfl rfl).trans (w_iret c148_11 rfl)) ((w_aload_n (pc' := 13) c148_12 rfl rfl).trans ((w_aload_n (pc' := 14) c148_13 rfl rfl).trans ((w_getIv (pc' := 17) (v := (I 124 8)) c148_14 kd_124 (by decide) rfl (rfl) rfl).trans ((w_callv (pc' := 20) c148_17 mt149 rfl (Nat.le_of_ble_eq_true rfl) rfl kd_124 rfl rfl (Nat.le_of_ble_eq_true rfl) rfl rfl)))))))))
theorem b148_20 {X : Nat × (Nat → Int32)} {d : Nat} {I : Nat → Nat → Int32} {L : Nat → Nat → Int64} {Q : Option Value → XW → Prop} {s0 : Int32}  : wp X d m148 20 [some (.ref 124), none] [(.int s0)] (K0, R0, I, L) Q ↔ (if s0 = 0 then Q (some (.int ((-10) - (I 124 11)))) (K0, R0, (updR I 124 10 0), L) else Q (some (.int (I 124 8))) (K0, R0, (updR (updR (updR I 124 10 0) 124 9 (I 124 8)) 124 8 ((I 124 8) + 1)), L)) := (w_istore_n (pc' := 21) (ls' := [some (.ref 124), some (.int s0)]) c148_20 (Nat.le_of_ble_eq_true rfl) rfl rfl).trans ((w_aload_n (pc' := 22) c148_21 rfl rfl).trans ((w_iconst (pc' := 23) (v := 0) c148_22 rfl rfl).trans ((w_putI (pc' := 26) c148_23 kd_124 (by decide) rfl rfl rfl).trans ((w_iload_n (pc' := 27) c148_26 rfl rfl).trans ((w_if_ne (pc' := 30) c148_27 rfl).trans (ite_iff ((w_bipush (pc' := 32) (v := (-10)) c148_30 rfl rfl).trans ((w_aload_n (pc' := 33) c148_32 rfl rfl).trans ((w_getIv (pc' := 36) (v := (I 124 11)) c148_33 kd_124 (by decide) rfl ((updR_j (by decide)).trans (rfl)) rfl).trans ((w_isub (pc' := 37) c148_36 rfl).trans (w_iret c148_37 rfl))))) ((w_aload_n (pc' := 39) c148_38 rfl rfl).trans ((w_aload_n (pc' := 40) c148_39 rfl rfl).trans ((w_getIv (pc' := 43) (v := (I 124 8)) c148_40 kd_124 (by decide) rfl ((updR_j (by decide)).trans (rfl)) rfl).trans ((w_putI (pc' := 46) c148_43 kd_124 (by decide) rfl rfl rfl).trans ((w_aload_n (pc' := 47) c148_46 rfl rfl).trans ((w_dup (pc' := 48) c148_47 rfl rfl).trans ((w_getIv (pc' := 51) (v := (I 124 8)) c148_48 kd_124 (by decide) rfl ((updR_j (by decide)).trans ((updR_j (by decide)).trans (rfl))) rfl).trans ((w_iconst (pc' := 52) (v := 1) c148_51 rfl rfl).trans ((w_iadd (pc' := 53) c148_52 rfl).trans ((w_putI (pc' := 56) c148_53 kd_124 (by decide) rfl rfl rfl).trans ((w_aload_n (pc' := 57) c148_56 rfl rfl).trans ((w_getIv (pc' := 60) (v := (I 124 8)) c148_57 kd_124 (by decide) rfl ((updR_j (by decide)).trans (updR_same)) rfl).trans (w_iret c148_60 rfl)))))))))))))))))))
