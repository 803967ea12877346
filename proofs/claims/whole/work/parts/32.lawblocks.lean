/-! Block equations of the law (printed by a program of ours out of its code). -/
theorem mt10 : mtab[10]? = some m10 := rfl
theorem mt16 : mtab[16]? = some m16 := rfl
theorem mt35 : mtab[35]? = some m35 := rfl
theorem mt36 : mtab[36]? = some m36 := rfl
theorem mt38 : mtab[38]? = some m38 := rfl
theorem mt40 : mtab[40]? = some m40 := rfl
theorem mt63 : mtab[63]? = some m63 := rfl
theorem mt71 : mtab[71]? = some m71 := rfl
theorem mt74 : mtab[74]? = some m74 := rfl
theorem mt76 : mtab[76]? = some m76 := rfl
theorem mt79 : mtab[79]? = some m79 := rfl
theorem mt86 : mtab[86]? = some m86 := rfl
theorem mt89 : mtab[89]? = some m89 := rfl
theorem mt91 : mtab[91]? = some m91 := rfl
theorem mt92 : mtab[92]? = some m92 := rfl
theorem mt94 : mtab[94]? = some m94 := rfl
theorem mt95 : mtab[95]? = some m95 := rfl
theorem mt97 : mtab[97]? = some m97 := rfl
theorem mt102 : mtab[102]? = some m102 := rfl
theorem mt103 : mtab[103]? = some m103 := rfl
theorem mt107 : mtab[107]? = some m107 := rfl
theorem mt108 : mtab[108]? = some m108 := rfl
theorem mt109 : mtab[109]? = some m109 := rfl
theorem mt112 : mtab[112]? = some m112 := rfl
theorem mt113 : mtab[113]? = some m113 := rfl
theorem mt114 : mtab[114]? = some m114 := rfl
theorem mt119 : mtab[119]? = some m119 := rfl
theorem mt120 : mtab[120]? = some m120 := rfl
theorem mt121 : mtab[121]? = some m121 := rfl
theorem mt127 : mtab[127]? = some m127 := rfl
theorem mt129 : mtab[129]? = some m129 := rfl
theorem mt131 : mtab[131]? = some m131 := rfl
theorem mt132 : mtab[132]? = some m132 := rfl
theorem mt135 : mtab[135]? = some m135 := rfl
theorem mt138 : mtab[138]? = some m138 := rfl
theorem mt139 : mtab[139]? = some m139 := rfl
theorem mt141 : mtab[141]? = some m141 := rfl
theorem mt144 : mtab[144]? = some m144 := rfl
theorem mt146 : mtab[146]? = some m146 := rfl
theorem mt147 : mtab[147]? = some m147 := rfl
theorem mt148 : mtab[148]? = some m148 := rfl
theorem mt163 : mtab[163]? = some m163 := rfl
theorem mt178 : mtab[178]? = some m178 := rfl
theorem mt184 : mtab[184]? = some m184 := rfl
theorem mt186 : mtab[186]? = some m186 := rfl
theorem mt190 : mtab[190]? = some m190 := rfl
theorem mt193 : mtab[193]? = some m193 := rfl
theorem mt194 : mtab[194]? = some m194 := rfl
theorem mt195 : mtab[195]? = some m195 := rfl
theorem mt196 : mtab[196]? = some m196 := rfl
theorem mt202 : mtab[202]? = some m202 := rfl
theorem mt203 : mtab[203]? = some m203 := rfl
theorem mt204 : mtab[204]? = some m204 := rfl
theorem mt205 : mtab[205]? = some m205 := rfl
theorem mt207 : mtab[207]? = some m207 := rfl
theorem mt208 : mtab[208]? = some m208 := rfl
theorem mt211 : mtab[211]? = some m211 := rfl
theorem mt212 : mtab[212]? = some m212 := rfl
theorem mt213 : mtab[213]? = some m213 := rfl
theorem mt214 : mtab[214]? = some m214 := rfl
theorem mt215 : mtab[215]? = some m215 := rfl
theorem mt216 : mtab[216]? = some m216 := rfl
theorem mt218 : mtab[218]? = some m218 := rfl
theorem mt219 : mtab[219]? = some m219 := rfl
theorem mt220 : mtab[220]? = some m220 := rfl
theorem mt229 : mtab[229]? = some m229 := rfl
theorem mt230 : mtab[230]? = some m230 := rfl
theorem mt231 : mtab[231]? = some m231 := rfl
theorem mt232 : mtab[232]? = some m232 := rfl
theorem mt233 : mtab[233]? = some m233 := rfl
theorem mt235 : mtab[235]? = some m235 := rfl
theorem mt236 : mtab[236]? = some m236 := rfl
theorem claw_18 : cdx (mC mLaw) 18 = some (18, .iload_n 3, 1, 3, 0, 0, 0, []) := rfl
theorem claw_19 : cdx (mC mLaw) 19 = some (19, .aload_n 0, 1, 0, 0, 0, 0, []) := rfl
theorem claw_20 : cdx (mC mLaw) 20 = some (20, .arraylength, 1, 0, 0, 0, 0, []) := rfl
theorem claw_21 : cdx (mC mLaw) 21 = some (21, .bipush 6, 2, 0, 0, 0, 0, []) := rfl
theorem claw_23 : cdx (mC mLaw) 23 = some (23, .isub, 1, 0, 0, 0, 0, []) := rfl
theorem claw_24 : cdx (mC mLaw) 24 = some (24, .if_icmp .gt 1345, 3, 1369, 0, 0, 0, []) := rfl
theorem claw_27 : cdx (mC mLaw) 27 = some (27, .aload_n 0, 1, 0, 0, 0, 0, []) := rfl
theorem claw_28 : cdx (mC mLaw) 28 = some (28, .iload_n 3, 1, 3, 0, 0, 0, []) := rfl
theorem claw_29 : cdx (mC mLaw) 29 = some (29, .iaload, 1, 0, 0, 0, 0, []) := rfl
theorem claw_30 : cdx (mC mLaw) 30 = some (30, .bipush 63, 2, 0, 0, 0, 0, []) := rfl
theorem claw_32 : cdx (mC mLaw) 32 = some (32, .iand, 1, 0, 0, 0, 0, []) := rfl
theorem claw_33 : cdx (mC mLaw) 33 = some (33, .tableswitch 1330 0 35 #[159, 202, 235, 278, 321, 344, 357, 380, 413, 436, 479, 522, 565, 588, 621, 644, 667, 700, 733, 766, 810, 834, 867, 890, 923, 936, 969, 982, 995, 1038, 1061, 1094, 1117, 1160, 1233, 1267], 159, 1363, 0, 0, 0, [(0, 192), (1, 235), (2, 268), (3, 311), (4, 354), (5, 377), (6, 390), (7, 413), (8, 446), (9, 469), (10, 512), (11, 555), (12, 598), (13, 621), (14, 654), (15, 677), (16, 700), (17, 733), (18, 766), (19, 799), (20, 843), (21, 867), (22, 900), (23, 923), (24, 956), (25, 969), (26, 1002), (27, 1015), (28, 1028), (29, 1071), (30, 1094), (31, 1127), (32, 1150), (33, 1193), (34, 1266), (35, 1300)]) := rfl
set_option maxRecDepth 20000 in
theorem claw_192 : cdx (mC mLaw) 192 = some (192, .aload_n 1, 1, 1, 0, 0, 0, []) := rfl
set_option maxRecDepth 20000 in
theorem claw_193 : cdx (mC mLaw) 193 = some (193, .aload_n 0, 1, 0, 0, 0, 0, []) := rfl
set_option maxRecDepth 20000 in
theorem claw_194 : cdx (mC mLaw) 194 = some (194, .iload_n 3, 1, 3, 0, 0, 0, []) := rfl
set_option maxRecDepth 20000 in
theorem claw_195 : cdx (mC mLaw) 195 = some (195, .iconst 1, 1, 0, 0, 0, 0, []) := rfl
set_option maxRecDepth 20000 in
theorem claw_196 : cdx (mC mLaw) 196 = some (196, .iadd, 1, 0, 0, 0, 0, []) := rfl
set_option maxRecDepth 20000 in
theorem claw_197 : cdx (mC mLaw) 197 = some (197, .iaload, 1, 0, 0, 0, 0, []) := rfl
set_option maxRecDepth 20000 in
theorem claw_198 : cdx (mC mLaw) 198 = some (198, .aload_n 0, 1, 0, 0, 0, 0, []) := rfl
set_option maxRecDepth 20000 in
theorem claw_199 : cdx (mC mLaw) 199 = some (199, .iload_n 3, 1, 3, 0, 0, 0, []) := rfl
set_option maxRecDepth 20000 in
theorem claw_200 : cdx (mC mLaw) 200 = some (200, .iconst 2, 1, 0, 0, 0, 0, []) := rfl
set_option maxRecDepth 20000 in
theorem claw_201 : cdx (mC mLaw) 201 = some (201, .iadd, 1, 0, 0, 0, 0, []) := rfl
set_option maxRecDepth 20000 in
theorem claw_202 : cdx (mC mLaw) 202 = some (202, .iaload, 1, 0, 0, 0, 0, []) := rfl
set_option maxRecDepth 20000 in
theorem claw_203 : cdx (mC mLaw) 203 = some (203, .aload_n 0, 1, 0, 0, 0, 0, []) := rfl
set_option maxRecDepth 20000 in
theorem claw_204 : cdx (mC mLaw) 204 = some (204, .iload_n 3, 1, 3, 0, 0, 0, []) := rfl
set_option maxRecDepth 20000 in
theorem claw_205 : cdx (mC mLaw) 205 = some (205, .iconst 3, 1, 0, 0, 0, 0, []) := rfl
set_option maxRecDepth 20000 in
theorem claw_206 : cdx (mC mLaw) 206 = some (206, .iadd, 1, 0, 0, 0, 0, []) := rfl
set_option maxRecDepth 20000 in
theorem claw_207 : cdx (mC mLaw) 207 = some (207, .iaload, 1, 0, 0, 0, 0, []) := rfl
set_option maxRecDepth 20000 in
theorem claw_208 : cdx (mC mLaw) 208 = some (208, .invokevirtual 13, 3, 10, 3, 0, 2036, [(9, 0)]) := rfl
set_option maxRecDepth 20000 in
theorem claw_211 : cdx (mC mLaw) 211 = some (211, .aload_n 2, 1, 2, 0, 0, 0, []) := rfl
set_option maxRecDepth 20000 in
theorem claw_212 : cdx (mC mLaw) 212 = some (212, .aload_n 0, 1, 0, 0, 0, 0, []) := rfl
set_option maxRecDepth 20000 in
theorem claw_213 : cdx (mC mLaw) 213 = some (213, .iload_n 3, 1, 3, 0, 0, 0, []) := rfl
set_option maxRecDepth 20000 in
theorem claw_214 : cdx (mC mLaw) 214 = some (214, .iconst 1, 1, 0, 0, 0, 0, []) := rfl
set_option maxRecDepth 20000 in
theorem claw_215 : cdx (mC mLaw) 215 = some (215, .iadd, 1, 0, 0, 0, 0, []) := rfl
set_option maxRecDepth 20000 in
theorem claw_216 : cdx (mC mLaw) 216 = some (216, .iaload, 1, 0, 0, 0, 0, []) := rfl
set_option maxRecDepth 20000 in
theorem claw_217 : cdx (mC mLaw) 217 = some (217, .aload_n 0, 1, 0, 0, 0, 0, []) := rfl
set_option maxRecDepth 20000 in
theorem claw_218 : cdx (mC mLaw) 218 = some (218, .iload_n 3, 1, 3, 0, 0, 0, []) := rfl
set_option maxRecDepth 20000 in
theorem claw_219 : cdx (mC mLaw) 219 = some (219, .iconst 2, 1, 0, 0, 0, 0, []) := rfl
set_option maxRecDepth 20000 in
theorem claw_220 : cdx (mC mLaw) 220 = some (220, .iadd, 1, 0, 0, 0, 0, []) := rfl
set_option maxRecDepth 20000 in
theorem claw_221 : cdx (mC mLaw) 221 = some (221, .iaload, 1, 0, 0, 0, 0, []) := rfl
set_option maxRecDepth 20000 in
theorem claw_222 : cdx (mC mLaw) 222 = some (222, .aload_n 0, 1, 0, 0, 0, 0, []) := rfl
set_option maxRecDepth 20000 in
theorem claw_223 : cdx (mC mLaw) 223 = some (223, .iload_n 3, 1, 3, 0, 0, 0, []) := rfl
set_option maxRecDepth 20000 in
theorem claw_224 : cdx (mC mLaw) 224 = some (224, .iconst 3, 1, 0, 0, 0, 0, []) := rfl
set_option maxRecDepth 20000 in
theorem claw_225 : cdx (mC mLaw) 225 = some (225, .iadd, 1, 0, 0, 0, 0, []) := rfl
set_option maxRecDepth 20000 in
theorem claw_226 : cdx (mC mLaw) 226 = some (226, .iaload, 1, 0, 0, 0, 0, []) := rfl
set_option maxRecDepth 20000 in
theorem claw_227 : cdx (mC mLaw) 227 = some (227, .invokevirtual 17, 3, 141, 3, 0, 5083, [(10, 0)]) := rfl
set_option maxRecDepth 20000 in
theorem claw_230 : cdx (mC mLaw) 230 = some (230, .if_icmp .eq 1133, 3, 1363, 0, 0, 0, []) := rfl
set_option maxRecDepth 20000 in
theorem claw_233 : cdx (mC mLaw) 233 = some (233, .iconst 0, 1, 0, 0, 0, 0, []) := rfl
set_option maxRecDepth 20000 in
theorem claw_234 : cdx (mC mLaw) 234 = some (234, .ireturn, 1, 0, 0, 0, 0, []) := rfl
set_option maxRecDepth 20000 in
theorem claw_235 : cdx (mC mLaw) 235 = some (235, .aload_n 1, 1, 1, 0, 0, 0, []) := rfl
set_option maxRecDepth 20000 in
theorem claw_236 : cdx (mC mLaw) 236 = some (236, .aload_n 0, 1, 0, 0, 0, 0, []) := rfl
set_option maxRecDepth 20000 in
theorem claw_237 : cdx (mC mLaw) 237 = some (237, .iload_n 3, 1, 3, 0, 0, 0, []) := rfl
set_option maxRecDepth 20000 in
theorem claw_238 : cdx (mC mLaw) 238 = some (238, .iconst 1, 1, 0, 0, 0, 0, []) := rfl
set_option maxRecDepth 20000 in
theorem claw_239 : cdx (mC mLaw) 239 = some (239, .iadd, 1, 0, 0, 0, 0, []) := rfl
set_option maxRecDepth 20000 in
theorem claw_240 : cdx (mC mLaw) 240 = some (240, .iaload, 1, 0, 0, 0, 0, []) := rfl
set_option maxRecDepth 20000 in
theorem claw_241 : cdx (mC mLaw) 241 = some (241, .aload_n 0, 1, 0, 0, 0, 0, []) := rfl
set_option maxRecDepth 20000 in
theorem claw_242 : cdx (mC mLaw) 242 = some (242, .iload_n 3, 1, 3, 0, 0, 0, []) := rfl
set_option maxRecDepth 20000 in
theorem claw_243 : cdx (mC mLaw) 243 = some (243, .iconst 2, 1, 0, 0, 0, 0, []) := rfl
set_option maxRecDepth 20000 in
theorem claw_244 : cdx (mC mLaw) 244 = some (244, .iadd, 1, 0, 0, 0, 0, []) := rfl
set_option maxRecDepth 20000 in
theorem claw_245 : cdx (mC mLaw) 245 = some (245, .iaload, 1, 0, 0, 0, 0, []) := rfl
set_option maxRecDepth 20000 in
theorem claw_246 : cdx (mC mLaw) 246 = some (246, .invokevirtual 18, 3, 16, 2, 0, 2057, [(9, 0)]) := rfl
set_option maxRecDepth 20000 in
theorem claw_249 : cdx (mC mLaw) 249 = some (249, .aload_n 2, 1, 2, 0, 0, 0, []) := rfl
set_option maxRecDepth 20000 in
theorem claw_250 : cdx (mC mLaw) 250 = some (250, .aload_n 0, 1, 0, 0, 0, 0, []) := rfl
set_option maxRecDepth 20000 in
theorem claw_251 : cdx (mC mLaw) 251 = some (251, .iload_n 3, 1, 3, 0, 0, 0, []) := rfl
set_option maxRecDepth 20000 in
theorem claw_252 : cdx (mC mLaw) 252 = some (252, .iconst 1, 1, 0, 0, 0, 0, []) := rfl
set_option maxRecDepth 20000 in
theorem claw_253 : cdx (mC mLaw) 253 = some (253, .iadd, 1, 0, 0, 0, 0, []) := rfl
set_option maxRecDepth 20000 in
theorem claw_254 : cdx (mC mLaw) 254 = some (254, .iaload, 1, 0, 0, 0, 0, []) := rfl
set_option maxRecDepth 20000 in
theorem claw_255 : cdx (mC mLaw) 255 = some (255, .aload_n 0, 1, 0, 0, 0, 0, []) := rfl
set_option maxRecDepth 20000 in
theorem claw_256 : cdx (mC mLaw) 256 = some (256, .iload_n 3, 1, 3, 0, 0, 0, []) := rfl
set_option maxRecDepth 20000 in
theorem claw_257 : cdx (mC mLaw) 257 = some (257, .iconst 2, 1, 0, 0, 0, 0, []) := rfl
set_option maxRecDepth 20000 in
theorem claw_258 : cdx (mC mLaw) 258 = some (258, .iadd, 1, 0, 0, 0, 0, []) := rfl
set_option maxRecDepth 20000 in
theorem claw_259 : cdx (mC mLaw) 259 = some (259, .iaload, 1, 0, 0, 0, 0, []) := rfl
set_option maxRecDepth 20000 in
theorem claw_260 : cdx (mC mLaw) 260 = some (260, .invokevirtual 22, 3, 163, 2, 0, 5171, [(10, 0)]) := rfl
set_option maxRecDepth 20000 in
theorem claw_263 : cdx (mC mLaw) 263 = some (263, .if_icmp .eq 1100, 3, 1363, 0, 0, 0, []) := rfl
set_option maxRecDepth 20000 in
theorem claw_266 : cdx (mC mLaw) 266 = some (266, .iconst 0, 1, 0, 0, 0, 0, []) := rfl
set_option maxRecDepth 20000 in
theorem claw_267 : cdx (mC mLaw) 267 = some (267, .ireturn, 1, 0, 0, 0, 0, []) := rfl
set_option maxRecDepth 20000 in
theorem claw_268 : cdx (mC mLaw) 268 = some (268, .aload_n 1, 1, 1, 0, 0, 0, []) := rfl
set_option maxRecDepth 20000 in
theorem claw_269 : cdx (mC mLaw) 269 = some (269, .aload_n 0, 1, 0, 0, 0, 0, []) := rfl
set_option maxRecDepth 20000 in
theorem claw_270 : cdx (mC mLaw) 270 = some (270, .iload_n 3, 1, 3, 0, 0, 0, []) := rfl
set_option maxRecDepth 20000 in
theorem claw_271 : cdx (mC mLaw) 271 = some (271, .iconst 1, 1, 0, 0, 0, 0, []) := rfl
set_option maxRecDepth 20000 in
theorem claw_272 : cdx (mC mLaw) 272 = some (272, .iadd, 1, 0, 0, 0, 0, []) := rfl
set_option maxRecDepth 20000 in
theorem claw_273 : cdx (mC mLaw) 273 = some (273, .iaload, 1, 0, 0, 0, 0, []) := rfl
set_option maxRecDepth 20000 in
theorem claw_274 : cdx (mC mLaw) 274 = some (274, .aload_n 0, 1, 0, 0, 0, 0, []) := rfl
set_option maxRecDepth 20000 in
theorem claw_275 : cdx (mC mLaw) 275 = some (275, .iload_n 3, 1, 3, 0, 0, 0, []) := rfl
set_option maxRecDepth 20000 in
theorem claw_276 : cdx (mC mLaw) 276 = some (276, .iconst 2, 1, 0, 0, 0, 0, []) := rfl
set_option maxRecDepth 20000 in
theorem claw_277 : cdx (mC mLaw) 277 = some (277, .iadd, 1, 0, 0, 0, 0, []) := rfl
set_option maxRecDepth 20000 in
theorem claw_278 : cdx (mC mLaw) 278 = some (278, .iaload, 1, 0, 0, 0, 0, []) := rfl
set_option maxRecDepth 20000 in
theorem claw_279 : cdx (mC mLaw) 279 = some (279, .aload_n 0, 1, 0, 0, 0, 0, []) := rfl
set_option maxRecDepth 20000 in
theorem claw_280 : cdx (mC mLaw) 280 = some (280, .iload_n 3, 1, 3, 0, 0, 0, []) := rfl
set_option maxRecDepth 20000 in
theorem claw_281 : cdx (mC mLaw) 281 = some (281, .iconst 3, 1, 0, 0, 0, 0, []) := rfl
set_option maxRecDepth 20000 in
theorem claw_282 : cdx (mC mLaw) 282 = some (282, .iadd, 1, 0, 0, 0, 0, []) := rfl
set_option maxRecDepth 20000 in
theorem claw_283 : cdx (mC mLaw) 283 = some (283, .iaload, 1, 0, 0, 0, 0, []) := rfl
set_option maxRecDepth 20000 in
theorem claw_284 : cdx (mC mLaw) 284 = some (284, .invokevirtual 23, 3, 35, 3, 0, 2129, [(9, 0)]) := rfl
set_option maxRecDepth 20000 in
theorem claw_287 : cdx (mC mLaw) 287 = some (287, .aload_n 2, 1, 2, 0, 0, 0, []) := rfl
set_option maxRecDepth 20000 in
theorem claw_288 : cdx (mC mLaw) 288 = some (288, .aload_n 0, 1, 0, 0, 0, 0, []) := rfl
set_option maxRecDepth 20000 in
theorem claw_289 : cdx (mC mLaw) 289 = some (289, .iload_n 3, 1, 3, 0, 0, 0, []) := rfl
set_option maxRecDepth 20000 in
theorem claw_290 : cdx (mC mLaw) 290 = some (290, .iconst 1, 1, 0, 0, 0, 0, []) := rfl
set_option maxRecDepth 20000 in
theorem claw_291 : cdx (mC mLaw) 291 = some (291, .iadd, 1, 0, 0, 0, 0, []) := rfl
set_option maxRecDepth 20000 in
theorem claw_292 : cdx (mC mLaw) 292 = some (292, .iaload, 1, 0, 0, 0, 0, []) := rfl
set_option maxRecDepth 20000 in
theorem claw_293 : cdx (mC mLaw) 293 = some (293, .aload_n 0, 1, 0, 0, 0, 0, []) := rfl
set_option maxRecDepth 20000 in
theorem claw_294 : cdx (mC mLaw) 294 = some (294, .iload_n 3, 1, 3, 0, 0, 0, []) := rfl
set_option maxRecDepth 20000 in
theorem claw_295 : cdx (mC mLaw) 295 = some (295, .iconst 2, 1, 0, 0, 0, 0, []) := rfl
set_option maxRecDepth 20000 in
theorem claw_296 : cdx (mC mLaw) 296 = some (296, .iadd, 1, 0, 0, 0, 0, []) := rfl
set_option maxRecDepth 20000 in
theorem claw_297 : cdx (mC mLaw) 297 = some (297, .iaload, 1, 0, 0, 0, 0, []) := rfl
set_option maxRecDepth 20000 in
theorem claw_298 : cdx (mC mLaw) 298 = some (298, .aload_n 0, 1, 0, 0, 0, 0, []) := rfl
set_option maxRecDepth 20000 in
theorem claw_299 : cdx (mC mLaw) 299 = some (299, .iload_n 3, 1, 3, 0, 0, 0, []) := rfl
set_option maxRecDepth 20000 in
theorem claw_300 : cdx (mC mLaw) 300 = some (300, .iconst 3, 1, 0, 0, 0, 0, []) := rfl
set_option maxRecDepth 20000 in
theorem claw_301 : cdx (mC mLaw) 301 = some (301, .iadd, 1, 0, 0, 0, 0, []) := rfl
set_option maxRecDepth 20000 in
theorem claw_302 : cdx (mC mLaw) 302 = some (302, .iaload, 1, 0, 0, 0, 0, []) := rfl
set_option maxRecDepth 20000 in
theorem claw_303 : cdx (mC mLaw) 303 = some (303, .invokevirtual 26, 3, 144, 3, 0, 5095, [(10, 0)]) := rfl
set_option maxRecDepth 20000 in
theorem claw_306 : cdx (mC mLaw) 306 = some (306, .if_icmp .eq 1057, 3, 1363, 0, 0, 0, []) := rfl
set_option maxRecDepth 20000 in
theorem claw_309 : cdx (mC mLaw) 309 = some (309, .iconst 0, 1, 0, 0, 0, 0, []) := rfl
set_option maxRecDepth 20000 in
theorem claw_310 : cdx (mC mLaw) 310 = some (310, .ireturn, 1, 0, 0, 0, 0, []) := rfl
set_option maxRecDepth 20000 in
theorem claw_311 : cdx (mC mLaw) 311 = some (311, .aload_n 1, 1, 1, 0, 0, 0, []) := rfl
set_option maxRecDepth 20000 in
theorem claw_312 : cdx (mC mLaw) 312 = some (312, .aload_n 0, 1, 0, 0, 0, 0, []) := rfl
set_option maxRecDepth 20000 in
theorem claw_313 : cdx (mC mLaw) 313 = some (313, .iload_n 3, 1, 3, 0, 0, 0, []) := rfl
set_option maxRecDepth 20000 in
theorem claw_314 : cdx (mC mLaw) 314 = some (314, .iconst 1, 1, 0, 0, 0, 0, []) := rfl
set_option maxRecDepth 20000 in
theorem claw_315 : cdx (mC mLaw) 315 = some (315, .iadd, 1, 0, 0, 0, 0, []) := rfl
set_option maxRecDepth 20000 in
theorem claw_316 : cdx (mC mLaw) 316 = some (316, .iaload, 1, 0, 0, 0, 0, []) := rfl
set_option maxRecDepth 20000 in
theorem claw_317 : cdx (mC mLaw) 317 = some (317, .aload_n 0, 1, 0, 0, 0, 0, []) := rfl
set_option maxRecDepth 20000 in
theorem claw_318 : cdx (mC mLaw) 318 = some (318, .iload_n 3, 1, 3, 0, 0, 0, []) := rfl
set_option maxRecDepth 20000 in
theorem claw_319 : cdx (mC mLaw) 319 = some (319, .iconst 2, 1, 0, 0, 0, 0, []) := rfl
set_option maxRecDepth 20000 in
theorem claw_320 : cdx (mC mLaw) 320 = some (320, .iadd, 1, 0, 0, 0, 0, []) := rfl
set_option maxRecDepth 20000 in
theorem claw_321 : cdx (mC mLaw) 321 = some (321, .iaload, 1, 0, 0, 0, 0, []) := rfl
set_option maxRecDepth 20000 in
theorem claw_322 : cdx (mC mLaw) 322 = some (322, .aload_n 0, 1, 0, 0, 0, 0, []) := rfl
set_option maxRecDepth 20000 in
theorem claw_323 : cdx (mC mLaw) 323 = some (323, .iload_n 3, 1, 3, 0, 0, 0, []) := rfl
set_option maxRecDepth 20000 in
theorem claw_324 : cdx (mC mLaw) 324 = some (324, .iconst 3, 1, 0, 0, 0, 0, []) := rfl
set_option maxRecDepth 20000 in
theorem claw_325 : cdx (mC mLaw) 325 = some (325, .iadd, 1, 0, 0, 0, 0, []) := rfl
set_option maxRecDepth 20000 in
theorem claw_326 : cdx (mC mLaw) 326 = some (326, .iaload, 1, 0, 0, 0, 0, []) := rfl
set_option maxRecDepth 20000 in
theorem claw_327 : cdx (mC mLaw) 327 = some (327, .invokevirtual 27, 3, 36, 3, 0, 2133, [(9, 0)]) := rfl
set_option maxRecDepth 20000 in
theorem claw_330 : cdx (mC mLaw) 330 = some (330, .aload_n 2, 1, 2, 0, 0, 0, []) := rfl
set_option maxRecDepth 20000 in
theorem claw_331 : cdx (mC mLaw) 331 = some (331, .aload_n 0, 1, 0, 0, 0, 0, []) := rfl
set_option maxRecDepth 20000 in
theorem claw_332 : cdx (mC mLaw) 332 = some (332, .iload_n 3, 1, 3, 0, 0, 0, []) := rfl
set_option maxRecDepth 20000 in
theorem claw_333 : cdx (mC mLaw) 333 = some (333, .iconst 1, 1, 0, 0, 0, 0, []) := rfl
set_option maxRecDepth 20000 in
theorem claw_334 : cdx (mC mLaw) 334 = some (334, .iadd, 1, 0, 0, 0, 0, []) := rfl
set_option maxRecDepth 20000 in
theorem claw_335 : cdx (mC mLaw) 335 = some (335, .iaload, 1, 0, 0, 0, 0, []) := rfl
set_option maxRecDepth 20000 in
theorem claw_336 : cdx (mC mLaw) 336 = some (336, .aload_n 0, 1, 0, 0, 0, 0, []) := rfl
set_option maxRecDepth 20000 in
theorem claw_337 : cdx (mC mLaw) 337 = some (337, .iload_n 3, 1, 3, 0, 0, 0, []) := rfl
set_option maxRecDepth 20000 in
theorem claw_338 : cdx (mC mLaw) 338 = some (338, .iconst 2, 1, 0, 0, 0, 0, []) := rfl
set_option maxRecDepth 20000 in
theorem claw_339 : cdx (mC mLaw) 339 = some (339, .iadd, 1, 0, 0, 0, 0, []) := rfl
set_option maxRecDepth 20000 in
theorem claw_340 : cdx (mC mLaw) 340 = some (340, .iaload, 1, 0, 0, 0, 0, []) := rfl
set_option maxRecDepth 20000 in
theorem claw_341 : cdx (mC mLaw) 341 = some (341, .aload_n 0, 1, 0, 0, 0, 0, []) := rfl
set_option maxRecDepth 20000 in
theorem claw_342 : cdx (mC mLaw) 342 = some (342, .iload_n 3, 1, 3, 0, 0, 0, []) := rfl
set_option maxRecDepth 20000 in
theorem claw_343 : cdx (mC mLaw) 343 = some (343, .iconst 3, 1, 0, 0, 0, 0, []) := rfl
set_option maxRecDepth 20000 in
theorem claw_344 : cdx (mC mLaw) 344 = some (344, .iadd, 1, 0, 0, 0, 0, []) := rfl
set_option maxRecDepth 20000 in
theorem claw_345 : cdx (mC mLaw) 345 = some (345, .iaload, 1, 0, 0, 0, 0, []) := rfl
set_option maxRecDepth 20000 in
theorem claw_346 : cdx (mC mLaw) 346 = some (346, .invokevirtual 30, 3, 146, 3, 0, 5103, [(10, 0)]) := rfl
set_option maxRecDepth 20000 in
theorem claw_349 : cdx (mC mLaw) 349 = some (349, .if_icmp .eq 1014, 3, 1363, 0, 0, 0, []) := rfl
set_option maxRecDepth 20000 in
theorem claw_352 : cdx (mC mLaw) 352 = some (352, .iconst 0, 1, 0, 0, 0, 0, []) := rfl
set_option maxRecDepth 20000 in
theorem claw_353 : cdx (mC mLaw) 353 = some (353, .ireturn, 1, 0, 0, 0, 0, []) := rfl
set_option maxRecDepth 20000 in
theorem claw_354 : cdx (mC mLaw) 354 = some (354, .aload_n 1, 1, 1, 0, 0, 0, []) := rfl
set_option maxRecDepth 20000 in
theorem claw_355 : cdx (mC mLaw) 355 = some (355, .aload_n 0, 1, 0, 0, 0, 0, []) := rfl
set_option maxRecDepth 20000 in
theorem claw_356 : cdx (mC mLaw) 356 = some (356, .iload_n 3, 1, 3, 0, 0, 0, []) := rfl
set_option maxRecDepth 20000 in
theorem claw_357 : cdx (mC mLaw) 357 = some (357, .iconst 1, 1, 0, 0, 0, 0, []) := rfl
set_option maxRecDepth 20000 in
theorem claw_358 : cdx (mC mLaw) 358 = some (358, .iadd, 1, 0, 0, 0, 0, []) := rfl
set_option maxRecDepth 20000 in
theorem claw_359 : cdx (mC mLaw) 359 = some (359, .iaload, 1, 0, 0, 0, 0, []) := rfl
set_option maxRecDepth 20000 in
theorem claw_360 : cdx (mC mLaw) 360 = some (360, .invokevirtual 31, 3, 38, 1, 0, 2142, [(9, 0)]) := rfl
set_option maxRecDepth 20000 in
theorem claw_363 : cdx (mC mLaw) 363 = some (363, .aload_n 2, 1, 2, 0, 0, 0, []) := rfl
set_option maxRecDepth 20000 in
theorem claw_364 : cdx (mC mLaw) 364 = some (364, .aload_n 0, 1, 0, 0, 0, 0, []) := rfl
set_option maxRecDepth 20000 in
theorem claw_365 : cdx (mC mLaw) 365 = some (365, .iload_n 3, 1, 3, 0, 0, 0, []) := rfl
set_option maxRecDepth 20000 in
theorem claw_366 : cdx (mC mLaw) 366 = some (366, .iconst 1, 1, 0, 0, 0, 0, []) := rfl
set_option maxRecDepth 20000 in
theorem claw_367 : cdx (mC mLaw) 367 = some (367, .iadd, 1, 0, 0, 0, 0, []) := rfl
set_option maxRecDepth 20000 in
theorem claw_368 : cdx (mC mLaw) 368 = some (368, .iaload, 1, 0, 0, 0, 0, []) := rfl
set_option maxRecDepth 20000 in
theorem claw_369 : cdx (mC mLaw) 369 = some (369, .invokevirtual 35, 3, 147, 1, 0, 5107, [(10, 0)]) := rfl
set_option maxRecDepth 20000 in
theorem claw_372 : cdx (mC mLaw) 372 = some (372, .if_icmp .eq 991, 3, 1363, 0, 0, 0, []) := rfl
set_option maxRecDepth 20000 in
theorem claw_375 : cdx (mC mLaw) 375 = some (375, .iconst 0, 1, 0, 0, 0, 0, []) := rfl
set_option maxRecDepth 20000 in
theorem claw_376 : cdx (mC mLaw) 376 = some (376, .ireturn, 1, 0, 0, 0, 0, []) := rfl
set_option maxRecDepth 20000 in
theorem claw_377 : cdx (mC mLaw) 377 = some (377, .aload_n 1, 1, 1, 0, 0, 0, []) := rfl
set_option maxRecDepth 20000 in
theorem claw_378 : cdx (mC mLaw) 378 = some (378, .invokevirtual 36, 3, 40, 0, 0, 2150, [(9, 0)]) := rfl
set_option maxRecDepth 20000 in
theorem claw_381 : cdx (mC mLaw) 381 = some (381, .aload_n 2, 1, 2, 0, 0, 0, []) := rfl
set_option maxRecDepth 20000 in
theorem claw_382 : cdx (mC mLaw) 382 = some (382, .invokevirtual 40, 3, 148, 0, 0, 5111, [(10, 0)]) := rfl
set_option maxRecDepth 20000 in
theorem claw_385 : cdx (mC mLaw) 385 = some (385, .if_icmp .eq 978, 3, 1363, 0, 0, 0, []) := rfl
set_option maxRecDepth 20000 in
theorem claw_388 : cdx (mC mLaw) 388 = some (388, .iconst 0, 1, 0, 0, 0, 0, []) := rfl
set_option maxRecDepth 20000 in
theorem claw_389 : cdx (mC mLaw) 389 = some (389, .ireturn, 1, 0, 0, 0, 0, []) := rfl
set_option maxRecDepth 20000 in
theorem claw_390 : cdx (mC mLaw) 390 = some (390, .aload_n 1, 1, 1, 0, 0, 0, []) := rfl
set_option maxRecDepth 20000 in
theorem claw_391 : cdx (mC mLaw) 391 = some (391, .aload_n 0, 1, 0, 0, 0, 0, []) := rfl
set_option maxRecDepth 20000 in
theorem claw_392 : cdx (mC mLaw) 392 = some (392, .iload_n 3, 1, 3, 0, 0, 0, []) := rfl
set_option maxRecDepth 20000 in
theorem claw_393 : cdx (mC mLaw) 393 = some (393, .iconst 1, 1, 0, 0, 0, 0, []) := rfl
set_option maxRecDepth 20000 in
theorem claw_394 : cdx (mC mLaw) 394 = some (394, .iadd, 1, 0, 0, 0, 0, []) := rfl
set_option maxRecDepth 20000 in
theorem claw_395 : cdx (mC mLaw) 395 = some (395, .iaload, 1, 0, 0, 0, 0, []) := rfl
set_option maxRecDepth 20000 in
theorem claw_396 : cdx (mC mLaw) 396 = some (396, .invokevirtual 41, 3, 63, 1, 0, 3029, [(9, 0)]) := rfl
set_option maxRecDepth 20000 in
theorem claw_399 : cdx (mC mLaw) 399 = some (399, .aload_n 2, 1, 2, 0, 0, 0, []) := rfl
set_option maxRecDepth 20000 in
theorem claw_400 : cdx (mC mLaw) 400 = some (400, .aload_n 0, 1, 0, 0, 0, 0, []) := rfl
set_option maxRecDepth 20000 in
theorem claw_401 : cdx (mC mLaw) 401 = some (401, .iload_n 3, 1, 3, 0, 0, 0, []) := rfl
set_option maxRecDepth 20000 in
theorem claw_402 : cdx (mC mLaw) 402 = some (402, .iconst 1, 1, 0, 0, 0, 0, []) := rfl
set_option maxRecDepth 20000 in
theorem claw_403 : cdx (mC mLaw) 403 = some (403, .iadd, 1, 0, 0, 0, 0, []) := rfl
set_option maxRecDepth 20000 in
theorem claw_404 : cdx (mC mLaw) 404 = some (404, .iaload, 1, 0, 0, 0, 0, []) := rfl
set_option maxRecDepth 20000 in
theorem claw_405 : cdx (mC mLaw) 405 = some (405, .invokevirtual 44, 3, 196, 1, 0, 6064, [(10, 0)]) := rfl
set_option maxRecDepth 20000 in
theorem claw_408 : cdx (mC mLaw) 408 = some (408, .if_icmp .eq 955, 3, 1363, 0, 0, 0, []) := rfl
set_option maxRecDepth 20000 in
theorem claw_411 : cdx (mC mLaw) 411 = some (411, .iconst 0, 1, 0, 0, 0, 0, []) := rfl
set_option maxRecDepth 20000 in
theorem claw_412 : cdx (mC mLaw) 412 = some (412, .ireturn, 1, 0, 0, 0, 0, []) := rfl
set_option maxRecDepth 20000 in
theorem claw_413 : cdx (mC mLaw) 413 = some (413, .aload_n 1, 1, 1, 0, 0, 0, []) := rfl
set_option maxRecDepth 20000 in
theorem claw_414 : cdx (mC mLaw) 414 = some (414, .aload_n 0, 1, 0, 0, 0, 0, []) := rfl
set_option maxRecDepth 20000 in
theorem claw_415 : cdx (mC mLaw) 415 = some (415, .iload_n 3, 1, 3, 0, 0, 0, []) := rfl
set_option maxRecDepth 20000 in
theorem claw_416 : cdx (mC mLaw) 416 = some (416, .iconst 1, 1, 0, 0, 0, 0, []) := rfl
set_option maxRecDepth 20000 in
theorem claw_417 : cdx (mC mLaw) 417 = some (417, .iadd, 1, 0, 0, 0, 0, []) := rfl
set_option maxRecDepth 20000 in
theorem claw_418 : cdx (mC mLaw) 418 = some (418, .iaload, 1, 0, 0, 0, 0, []) := rfl
set_option maxRecDepth 20000 in
theorem claw_419 : cdx (mC mLaw) 419 = some (419, .aload_n 0, 1, 0, 0, 0, 0, []) := rfl
set_option maxRecDepth 20000 in
theorem claw_420 : cdx (mC mLaw) 420 = some (420, .iload_n 3, 1, 3, 0, 0, 0, []) := rfl
set_option maxRecDepth 20000 in
theorem claw_421 : cdx (mC mLaw) 421 = some (421, .iconst 2, 1, 0, 0, 0, 0, []) := rfl
set_option maxRecDepth 20000 in
theorem claw_422 : cdx (mC mLaw) 422 = some (422, .iadd, 1, 0, 0, 0, 0, []) := rfl
set_option maxRecDepth 20000 in
theorem claw_423 : cdx (mC mLaw) 423 = some (423, .iaload, 1, 0, 0, 0, 0, []) := rfl
set_option maxRecDepth 20000 in
theorem claw_424 : cdx (mC mLaw) 424 = some (424, .invokevirtual 45, 3, 71, 2, 0, 3061, [(9, 0)]) := rfl
set_option maxRecDepth 20000 in
theorem claw_427 : cdx (mC mLaw) 427 = some (427, .aload_n 2, 1, 2, 0, 0, 0, []) := rfl
set_option maxRecDepth 20000 in
theorem claw_428 : cdx (mC mLaw) 428 = some (428, .aload_n 0, 1, 0, 0, 0, 0, []) := rfl
set_option maxRecDepth 20000 in
theorem claw_429 : cdx (mC mLaw) 429 = some (429, .iload_n 3, 1, 3, 0, 0, 0, []) := rfl
set_option maxRecDepth 20000 in
theorem claw_430 : cdx (mC mLaw) 430 = some (430, .iconst 1, 1, 0, 0, 0, 0, []) := rfl
set_option maxRecDepth 20000 in
theorem claw_431 : cdx (mC mLaw) 431 = some (431, .iadd, 1, 0, 0, 0, 0, []) := rfl
set_option maxRecDepth 20000 in
theorem claw_432 : cdx (mC mLaw) 432 = some (432, .iaload, 1, 0, 0, 0, 0, []) := rfl
set_option maxRecDepth 20000 in
theorem claw_433 : cdx (mC mLaw) 433 = some (433, .aload_n 0, 1, 0, 0, 0, 0, []) := rfl
set_option maxRecDepth 20000 in
theorem claw_434 : cdx (mC mLaw) 434 = some (434, .iload_n 3, 1, 3, 0, 0, 0, []) := rfl
set_option maxRecDepth 20000 in
theorem claw_435 : cdx (mC mLaw) 435 = some (435, .iconst 2, 1, 0, 0, 0, 0, []) := rfl
set_option maxRecDepth 20000 in
theorem claw_436 : cdx (mC mLaw) 436 = some (436, .iadd, 1, 0, 0, 0, 0, []) := rfl
set_option maxRecDepth 20000 in
theorem claw_437 : cdx (mC mLaw) 437 = some (437, .iaload, 1, 0, 0, 0, 0, []) := rfl
set_option maxRecDepth 20000 in
theorem claw_438 : cdx (mC mLaw) 438 = some (438, .invokevirtual 48, 3, 178, 2, 0, 5231, [(10, 0)]) := rfl
set_option maxRecDepth 20000 in
theorem claw_441 : cdx (mC mLaw) 441 = some (441, .if_icmp .eq 922, 3, 1363, 0, 0, 0, []) := rfl
set_option maxRecDepth 20000 in
theorem claw_444 : cdx (mC mLaw) 444 = some (444, .iconst 0, 1, 0, 0, 0, 0, []) := rfl
set_option maxRecDepth 20000 in
theorem claw_445 : cdx (mC mLaw) 445 = some (445, .ireturn, 1, 0, 0, 0, 0, []) := rfl
set_option maxRecDepth 20000 in
theorem claw_446 : cdx (mC mLaw) 446 = some (446, .aload_n 1, 1, 1, 0, 0, 0, []) := rfl
set_option maxRecDepth 20000 in
theorem claw_447 : cdx (mC mLaw) 447 = some (447, .aload_n 0, 1, 0, 0, 0, 0, []) := rfl
set_option maxRecDepth 20000 in
theorem claw_448 : cdx (mC mLaw) 448 = some (448, .iload_n 3, 1, 3, 0, 0, 0, []) := rfl
set_option maxRecDepth 20000 in
theorem claw_449 : cdx (mC mLaw) 449 = some (449, .iconst 1, 1, 0, 0, 0, 0, []) := rfl
set_option maxRecDepth 20000 in
theorem claw_450 : cdx (mC mLaw) 450 = some (450, .iadd, 1, 0, 0, 0, 0, []) := rfl
set_option maxRecDepth 20000 in
theorem claw_451 : cdx (mC mLaw) 451 = some (451, .iaload, 1, 0, 0, 0, 0, []) := rfl
set_option maxRecDepth 20000 in
theorem claw_452 : cdx (mC mLaw) 452 = some (452, .invokevirtual 49, 3, 74, 1, 0, 3075, [(9, 0)]) := rfl
set_option maxRecDepth 20000 in
theorem claw_455 : cdx (mC mLaw) 455 = some (455, .aload_n 2, 1, 2, 0, 0, 0, []) := rfl
set_option maxRecDepth 20000 in
theorem claw_456 : cdx (mC mLaw) 456 = some (456, .aload_n 0, 1, 0, 0, 0, 0, []) := rfl
set_option maxRecDepth 20000 in
theorem claw_457 : cdx (mC mLaw) 457 = some (457, .iload_n 3, 1, 3, 0, 0, 0, []) := rfl
set_option maxRecDepth 20000 in
theorem claw_458 : cdx (mC mLaw) 458 = some (458, .iconst 1, 1, 0, 0, 0, 0, []) := rfl
set_option maxRecDepth 20000 in
theorem claw_459 : cdx (mC mLaw) 459 = some (459, .iadd, 1, 0, 0, 0, 0, []) := rfl
set_option maxRecDepth 20000 in
theorem claw_460 : cdx (mC mLaw) 460 = some (460, .iaload, 1, 0, 0, 0, 0, []) := rfl
set_option maxRecDepth 20000 in
theorem claw_461 : cdx (mC mLaw) 461 = some (461, .invokevirtual 52, 3, 184, 1, 0, 6015, [(10, 0)]) := rfl
set_option maxRecDepth 20000 in
theorem claw_464 : cdx (mC mLaw) 464 = some (464, .if_icmp .eq 899, 3, 1363, 0, 0, 0, []) := rfl
set_option maxRecDepth 20000 in
theorem claw_467 : cdx (mC mLaw) 467 = some (467, .iconst 0, 1, 0, 0, 0, 0, []) := rfl
set_option maxRecDepth 20000 in
theorem claw_468 : cdx (mC mLaw) 468 = some (468, .ireturn, 1, 0, 0, 0, 0, []) := rfl
set_option maxRecDepth 20000 in
theorem claw_469 : cdx (mC mLaw) 469 = some (469, .aload_n 1, 1, 1, 0, 0, 0, []) := rfl
set_option maxRecDepth 20000 in
theorem claw_470 : cdx (mC mLaw) 470 = some (470, .aload_n 0, 1, 0, 0, 0, 0, []) := rfl
set_option maxRecDepth 20000 in
theorem claw_471 : cdx (mC mLaw) 471 = some (471, .iload_n 3, 1, 3, 0, 0, 0, []) := rfl
set_option maxRecDepth 20000 in
theorem claw_472 : cdx (mC mLaw) 472 = some (472, .iconst 1, 1, 0, 0, 0, 0, []) := rfl
set_option maxRecDepth 20000 in
theorem claw_473 : cdx (mC mLaw) 473 = some (473, .iadd, 1, 0, 0, 0, 0, []) := rfl
set_option maxRecDepth 20000 in
theorem claw_474 : cdx (mC mLaw) 474 = some (474, .iaload, 1, 0, 0, 0, 0, []) := rfl
set_option maxRecDepth 20000 in
theorem claw_475 : cdx (mC mLaw) 475 = some (475, .aload_n 0, 1, 0, 0, 0, 0, []) := rfl
set_option maxRecDepth 20000 in
theorem claw_476 : cdx (mC mLaw) 476 = some (476, .iload_n 3, 1, 3, 0, 0, 0, []) := rfl
set_option maxRecDepth 20000 in
theorem claw_477 : cdx (mC mLaw) 477 = some (477, .iconst 2, 1, 0, 0, 0, 0, []) := rfl
set_option maxRecDepth 20000 in
theorem claw_478 : cdx (mC mLaw) 478 = some (478, .iadd, 1, 0, 0, 0, 0, []) := rfl
set_option maxRecDepth 20000 in
theorem claw_479 : cdx (mC mLaw) 479 = some (479, .iaload, 1, 0, 0, 0, 0, []) := rfl
set_option maxRecDepth 20000 in
theorem claw_480 : cdx (mC mLaw) 480 = some (480, .aload_n 0, 1, 0, 0, 0, 0, []) := rfl
set_option maxRecDepth 20000 in
theorem claw_481 : cdx (mC mLaw) 481 = some (481, .iload_n 3, 1, 3, 0, 0, 0, []) := rfl
set_option maxRecDepth 20000 in
theorem claw_482 : cdx (mC mLaw) 482 = some (482, .iconst 3, 1, 0, 0, 0, 0, []) := rfl
set_option maxRecDepth 20000 in
theorem claw_483 : cdx (mC mLaw) 483 = some (483, .iadd, 1, 0, 0, 0, 0, []) := rfl
set_option maxRecDepth 20000 in
theorem claw_484 : cdx (mC mLaw) 484 = some (484, .iaload, 1, 0, 0, 0, 0, []) := rfl
set_option maxRecDepth 20000 in
theorem claw_485 : cdx (mC mLaw) 485 = some (485, .invokevirtual 53, 3, 76, 3, 0, 3084, [(9, 0)]) := rfl
set_option maxRecDepth 20000 in
theorem claw_488 : cdx (mC mLaw) 488 = some (488, .aload_n 2, 1, 2, 0, 0, 0, []) := rfl
set_option maxRecDepth 20000 in
theorem claw_489 : cdx (mC mLaw) 489 = some (489, .aload_n 0, 1, 0, 0, 0, 0, []) := rfl
set_option maxRecDepth 20000 in
theorem claw_490 : cdx (mC mLaw) 490 = some (490, .iload_n 3, 1, 3, 0, 0, 0, []) := rfl
set_option maxRecDepth 20000 in
theorem claw_491 : cdx (mC mLaw) 491 = some (491, .iconst 1, 1, 0, 0, 0, 0, []) := rfl
set_option maxRecDepth 20000 in
theorem claw_492 : cdx (mC mLaw) 492 = some (492, .iadd, 1, 0, 0, 0, 0, []) := rfl
set_option maxRecDepth 20000 in
theorem claw_493 : cdx (mC mLaw) 493 = some (493, .iaload, 1, 0, 0, 0, 0, []) := rfl
set_option maxRecDepth 20000 in
theorem claw_494 : cdx (mC mLaw) 494 = some (494, .aload_n 0, 1, 0, 0, 0, 0, []) := rfl
set_option maxRecDepth 20000 in
theorem claw_495 : cdx (mC mLaw) 495 = some (495, .iload_n 3, 1, 3, 0, 0, 0, []) := rfl
set_option maxRecDepth 20000 in
theorem claw_496 : cdx (mC mLaw) 496 = some (496, .iconst 2, 1, 0, 0, 0, 0, []) := rfl
set_option maxRecDepth 20000 in
theorem claw_497 : cdx (mC mLaw) 497 = some (497, .iadd, 1, 0, 0, 0, 0, []) := rfl
set_option maxRecDepth 20000 in
theorem claw_498 : cdx (mC mLaw) 498 = some (498, .iaload, 1, 0, 0, 0, 0, []) := rfl
set_option maxRecDepth 20000 in
theorem claw_499 : cdx (mC mLaw) 499 = some (499, .aload_n 0, 1, 0, 0, 0, 0, []) := rfl
set_option maxRecDepth 20000 in
theorem claw_500 : cdx (mC mLaw) 500 = some (500, .iload_n 3, 1, 3, 0, 0, 0, []) := rfl
set_option maxRecDepth 20000 in
theorem claw_501 : cdx (mC mLaw) 501 = some (501, .iconst 3, 1, 0, 0, 0, 0, []) := rfl
set_option maxRecDepth 20000 in
theorem claw_502 : cdx (mC mLaw) 502 = some (502, .iadd, 1, 0, 0, 0, 0, []) := rfl
set_option maxRecDepth 20000 in
theorem claw_503 : cdx (mC mLaw) 503 = some (503, .iaload, 1, 0, 0, 0, 0, []) := rfl
set_option maxRecDepth 20000 in
theorem claw_504 : cdx (mC mLaw) 504 = some (504, .invokevirtual 56, 3, 186, 3, 0, 6023, [(10, 0)]) := rfl
set_option maxRecDepth 20000 in
theorem claw_507 : cdx (mC mLaw) 507 = some (507, .if_icmp .eq 856, 3, 1363, 0, 0, 0, []) := rfl
set_option maxRecDepth 20000 in
theorem claw_510 : cdx (mC mLaw) 510 = some (510, .iconst 0, 1, 0, 0, 0, 0, []) := rfl
set_option maxRecDepth 20000 in
theorem claw_511 : cdx (mC mLaw) 511 = some (511, .ireturn, 1, 0, 0, 0, 0, []) := rfl
set_option maxRecDepth 20000 in
theorem claw_512 : cdx (mC mLaw) 512 = some (512, .aload_n 1, 1, 1, 0, 0, 0, []) := rfl
set_option maxRecDepth 20000 in
theorem claw_513 : cdx (mC mLaw) 513 = some (513, .aload_n 0, 1, 0, 0, 0, 0, []) := rfl
set_option maxRecDepth 20000 in
theorem claw_514 : cdx (mC mLaw) 514 = some (514, .iload_n 3, 1, 3, 0, 0, 0, []) := rfl
set_option maxRecDepth 20000 in
theorem claw_515 : cdx (mC mLaw) 515 = some (515, .iconst 1, 1, 0, 0, 0, 0, []) := rfl
set_option maxRecDepth 20000 in
theorem claw_516 : cdx (mC mLaw) 516 = some (516, .iadd, 1, 0, 0, 0, 0, []) := rfl
set_option maxRecDepth 20000 in
theorem claw_517 : cdx (mC mLaw) 517 = some (517, .iaload, 1, 0, 0, 0, 0, []) := rfl
set_option maxRecDepth 20000 in
theorem claw_518 : cdx (mC mLaw) 518 = some (518, .aload_n 0, 1, 0, 0, 0, 0, []) := rfl
set_option maxRecDepth 20000 in
theorem claw_519 : cdx (mC mLaw) 519 = some (519, .iload_n 3, 1, 3, 0, 0, 0, []) := rfl
set_option maxRecDepth 20000 in
theorem claw_520 : cdx (mC mLaw) 520 = some (520, .iconst 2, 1, 0, 0, 0, 0, []) := rfl
set_option maxRecDepth 20000 in
theorem claw_521 : cdx (mC mLaw) 521 = some (521, .iadd, 1, 0, 0, 0, 0, []) := rfl
set_option maxRecDepth 20000 in
theorem claw_522 : cdx (mC mLaw) 522 = some (522, .iaload, 1, 0, 0, 0, 0, []) := rfl
set_option maxRecDepth 20000 in
theorem claw_523 : cdx (mC mLaw) 523 = some (523, .aload_n 0, 1, 0, 0, 0, 0, []) := rfl
set_option maxRecDepth 20000 in
theorem claw_524 : cdx (mC mLaw) 524 = some (524, .iload_n 3, 1, 3, 0, 0, 0, []) := rfl
set_option maxRecDepth 20000 in
theorem claw_525 : cdx (mC mLaw) 525 = some (525, .iconst 3, 1, 0, 0, 0, 0, []) := rfl
set_option maxRecDepth 20000 in
theorem claw_526 : cdx (mC mLaw) 526 = some (526, .iadd, 1, 0, 0, 0, 0, []) := rfl
set_option maxRecDepth 20000 in
theorem claw_527 : cdx (mC mLaw) 527 = some (527, .iaload, 1, 0, 0, 0, 0, []) := rfl
set_option maxRecDepth 20000 in
theorem claw_528 : cdx (mC mLaw) 528 = some (528, .invokevirtual 57, 3, 79, 3, 0, 3099, [(9, 0)]) := rfl
set_option maxRecDepth 20000 in
theorem claw_531 : cdx (mC mLaw) 531 = some (531, .aload_n 2, 1, 2, 0, 0, 0, []) := rfl
set_option maxRecDepth 20000 in
theorem claw_532 : cdx (mC mLaw) 532 = some (532, .aload_n 0, 1, 0, 0, 0, 0, []) := rfl
set_option maxRecDepth 20000 in
theorem claw_533 : cdx (mC mLaw) 533 = some (533, .iload_n 3, 1, 3, 0, 0, 0, []) := rfl
set_option maxRecDepth 20000 in
theorem claw_534 : cdx (mC mLaw) 534 = some (534, .iconst 1, 1, 0, 0, 0, 0, []) := rfl
set_option maxRecDepth 20000 in
theorem claw_535 : cdx (mC mLaw) 535 = some (535, .iadd, 1, 0, 0, 0, 0, []) := rfl
set_option maxRecDepth 20000 in
theorem claw_536 : cdx (mC mLaw) 536 = some (536, .iaload, 1, 0, 0, 0, 0, []) := rfl
set_option maxRecDepth 20000 in
theorem claw_537 : cdx (mC mLaw) 537 = some (537, .aload_n 0, 1, 0, 0, 0, 0, []) := rfl
set_option maxRecDepth 20000 in
theorem claw_538 : cdx (mC mLaw) 538 = some (538, .iload_n 3, 1, 3, 0, 0, 0, []) := rfl
set_option maxRecDepth 20000 in
theorem claw_539 : cdx (mC mLaw) 539 = some (539, .iconst 2, 1, 0, 0, 0, 0, []) := rfl
set_option maxRecDepth 20000 in
theorem claw_540 : cdx (mC mLaw) 540 = some (540, .iadd, 1, 0, 0, 0, 0, []) := rfl
set_option maxRecDepth 20000 in
theorem claw_541 : cdx (mC mLaw) 541 = some (541, .iaload, 1, 0, 0, 0, 0, []) := rfl
set_option maxRecDepth 20000 in
theorem claw_542 : cdx (mC mLaw) 542 = some (542, .aload_n 0, 1, 0, 0, 0, 0, []) := rfl
set_option maxRecDepth 20000 in
theorem claw_543 : cdx (mC mLaw) 543 = some (543, .iload_n 3, 1, 3, 0, 0, 0, []) := rfl
set_option maxRecDepth 20000 in
theorem claw_544 : cdx (mC mLaw) 544 = some (544, .iconst 3, 1, 0, 0, 0, 0, []) := rfl
set_option maxRecDepth 20000 in
theorem claw_545 : cdx (mC mLaw) 545 = some (545, .iadd, 1, 0, 0, 0, 0, []) := rfl
set_option maxRecDepth 20000 in
theorem claw_546 : cdx (mC mLaw) 546 = some (546, .iaload, 1, 0, 0, 0, 0, []) := rfl
set_option maxRecDepth 20000 in
theorem claw_547 : cdx (mC mLaw) 547 = some (547, .invokevirtual 60, 3, 190, 3, 0, 6040, [(10, 0)]) := rfl
set_option maxRecDepth 20000 in
theorem claw_550 : cdx (mC mLaw) 550 = some (550, .if_icmp .eq 813, 3, 1363, 0, 0, 0, []) := rfl
set_option maxRecDepth 20000 in
theorem claw_553 : cdx (mC mLaw) 553 = some (553, .iconst 0, 1, 0, 0, 0, 0, []) := rfl
set_option maxRecDepth 20000 in
theorem claw_554 : cdx (mC mLaw) 554 = some (554, .ireturn, 1, 0, 0, 0, 0, []) := rfl
set_option maxRecDepth 20000 in
theorem claw_555 : cdx (mC mLaw) 555 = some (555, .aload_n 1, 1, 1, 0, 0, 0, []) := rfl
set_option maxRecDepth 20000 in
theorem claw_556 : cdx (mC mLaw) 556 = some (556, .aload_n 0, 1, 0, 0, 0, 0, []) := rfl
set_option maxRecDepth 20000 in
theorem claw_557 : cdx (mC mLaw) 557 = some (557, .iload_n 3, 1, 3, 0, 0, 0, []) := rfl
set_option maxRecDepth 20000 in
theorem claw_558 : cdx (mC mLaw) 558 = some (558, .iconst 1, 1, 0, 0, 0, 0, []) := rfl
set_option maxRecDepth 20000 in
theorem claw_559 : cdx (mC mLaw) 559 = some (559, .iadd, 1, 0, 0, 0, 0, []) := rfl
set_option maxRecDepth 20000 in
theorem claw_560 : cdx (mC mLaw) 560 = some (560, .iaload, 1, 0, 0, 0, 0, []) := rfl
set_option maxRecDepth 20000 in
theorem claw_561 : cdx (mC mLaw) 561 = some (561, .aload_n 0, 1, 0, 0, 0, 0, []) := rfl
set_option maxRecDepth 20000 in
theorem claw_562 : cdx (mC mLaw) 562 = some (562, .iload_n 3, 1, 3, 0, 0, 0, []) := rfl
set_option maxRecDepth 20000 in
theorem claw_563 : cdx (mC mLaw) 563 = some (563, .iconst 2, 1, 0, 0, 0, 0, []) := rfl
set_option maxRecDepth 20000 in
theorem claw_564 : cdx (mC mLaw) 564 = some (564, .iadd, 1, 0, 0, 0, 0, []) := rfl
set_option maxRecDepth 20000 in
theorem claw_565 : cdx (mC mLaw) 565 = some (565, .iaload, 1, 0, 0, 0, 0, []) := rfl
set_option maxRecDepth 20000 in
theorem claw_566 : cdx (mC mLaw) 566 = some (566, .aload_n 0, 1, 0, 0, 0, 0, []) := rfl
set_option maxRecDepth 20000 in
theorem claw_567 : cdx (mC mLaw) 567 = some (567, .iload_n 3, 1, 3, 0, 0, 0, []) := rfl
set_option maxRecDepth 20000 in
theorem claw_568 : cdx (mC mLaw) 568 = some (568, .iconst 3, 1, 0, 0, 0, 0, []) := rfl
set_option maxRecDepth 20000 in
theorem claw_569 : cdx (mC mLaw) 569 = some (569, .iadd, 1, 0, 0, 0, 0, []) := rfl
set_option maxRecDepth 20000 in
theorem claw_570 : cdx (mC mLaw) 570 = some (570, .iaload, 1, 0, 0, 0, 0, []) := rfl
set_option maxRecDepth 20000 in
theorem claw_571 : cdx (mC mLaw) 571 = some (571, .invokevirtual 61, 3, 86, 3, 0, 3131, [(9, 0)]) := rfl
set_option maxRecDepth 20000 in
theorem claw_574 : cdx (mC mLaw) 574 = some (574, .aload_n 2, 1, 2, 0, 0, 0, []) := rfl
set_option maxRecDepth 20000 in
theorem claw_575 : cdx (mC mLaw) 575 = some (575, .aload_n 0, 1, 0, 0, 0, 0, []) := rfl
set_option maxRecDepth 20000 in
theorem claw_576 : cdx (mC mLaw) 576 = some (576, .iload_n 3, 1, 3, 0, 0, 0, []) := rfl
set_option maxRecDepth 20000 in
theorem claw_577 : cdx (mC mLaw) 577 = some (577, .iconst 1, 1, 0, 0, 0, 0, []) := rfl
set_option maxRecDepth 20000 in
theorem claw_578 : cdx (mC mLaw) 578 = some (578, .iadd, 1, 0, 0, 0, 0, []) := rfl
set_option maxRecDepth 20000 in
theorem claw_579 : cdx (mC mLaw) 579 = some (579, .iaload, 1, 0, 0, 0, 0, []) := rfl
set_option maxRecDepth 20000 in
theorem claw_580 : cdx (mC mLaw) 580 = some (580, .aload_n 0, 1, 0, 0, 0, 0, []) := rfl
set_option maxRecDepth 20000 in
theorem claw_581 : cdx (mC mLaw) 581 = some (581, .iload_n 3, 1, 3, 0, 0, 0, []) := rfl
set_option maxRecDepth 20000 in
theorem claw_582 : cdx (mC mLaw) 582 = some (582, .iconst 2, 1, 0, 0, 0, 0, []) := rfl
set_option maxRecDepth 20000 in
theorem claw_583 : cdx (mC mLaw) 583 = some (583, .iadd, 1, 0, 0, 0, 0, []) := rfl
set_option maxRecDepth 20000 in
theorem claw_584 : cdx (mC mLaw) 584 = some (584, .iaload, 1, 0, 0, 0, 0, []) := rfl
set_option maxRecDepth 20000 in
theorem claw_585 : cdx (mC mLaw) 585 = some (585, .aload_n 0, 1, 0, 0, 0, 0, []) := rfl
set_option maxRecDepth 20000 in
theorem claw_586 : cdx (mC mLaw) 586 = some (586, .iload_n 3, 1, 3, 0, 0, 0, []) := rfl
set_option maxRecDepth 20000 in
theorem claw_587 : cdx (mC mLaw) 587 = some (587, .iconst 3, 1, 0, 0, 0, 0, []) := rfl
set_option maxRecDepth 20000 in
theorem claw_588 : cdx (mC mLaw) 588 = some (588, .iadd, 1, 0, 0, 0, 0, []) := rfl
set_option maxRecDepth 20000 in
theorem claw_589 : cdx (mC mLaw) 589 = some (589, .iaload, 1, 0, 0, 0, 0, []) := rfl
set_option maxRecDepth 20000 in
theorem claw_590 : cdx (mC mLaw) 590 = some (590, .invokevirtual 64, 3, 193, 3, 0, 6052, [(10, 0)]) := rfl
set_option maxRecDepth 20000 in
theorem claw_593 : cdx (mC mLaw) 593 = some (593, .if_icmp .eq 770, 3, 1363, 0, 0, 0, []) := rfl
set_option maxRecDepth 20000 in
theorem claw_596 : cdx (mC mLaw) 596 = some (596, .iconst 0, 1, 0, 0, 0, 0, []) := rfl
set_option maxRecDepth 20000 in
theorem claw_597 : cdx (mC mLaw) 597 = some (597, .ireturn, 1, 0, 0, 0, 0, []) := rfl
set_option maxRecDepth 20000 in
theorem claw_598 : cdx (mC mLaw) 598 = some (598, .aload_n 1, 1, 1, 0, 0, 0, []) := rfl
set_option maxRecDepth 20000 in
theorem claw_599 : cdx (mC mLaw) 599 = some (599, .aload_n 0, 1, 0, 0, 0, 0, []) := rfl
set_option maxRecDepth 20000 in
theorem claw_600 : cdx (mC mLaw) 600 = some (600, .iload_n 3, 1, 3, 0, 0, 0, []) := rfl
set_option maxRecDepth 20000 in
theorem claw_601 : cdx (mC mLaw) 601 = some (601, .iconst 1, 1, 0, 0, 0, 0, []) := rfl
set_option maxRecDepth 20000 in
theorem claw_602 : cdx (mC mLaw) 602 = some (602, .iadd, 1, 0, 0, 0, 0, []) := rfl
set_option maxRecDepth 20000 in
theorem claw_603 : cdx (mC mLaw) 603 = some (603, .iaload, 1, 0, 0, 0, 0, []) := rfl
set_option maxRecDepth 20000 in
theorem claw_604 : cdx (mC mLaw) 604 = some (604, .invokevirtual 65, 3, 89, 1, 0, 3146, [(9, 0)]) := rfl
set_option maxRecDepth 20000 in
theorem claw_607 : cdx (mC mLaw) 607 = some (607, .aload_n 2, 1, 2, 0, 0, 0, []) := rfl
set_option maxRecDepth 20000 in
theorem claw_608 : cdx (mC mLaw) 608 = some (608, .aload_n 0, 1, 0, 0, 0, 0, []) := rfl
set_option maxRecDepth 20000 in
theorem claw_609 : cdx (mC mLaw) 609 = some (609, .iload_n 3, 1, 3, 0, 0, 0, []) := rfl
set_option maxRecDepth 20000 in
theorem claw_610 : cdx (mC mLaw) 610 = some (610, .iconst 1, 1, 0, 0, 0, 0, []) := rfl
set_option maxRecDepth 20000 in
theorem claw_611 : cdx (mC mLaw) 611 = some (611, .iadd, 1, 0, 0, 0, 0, []) := rfl
set_option maxRecDepth 20000 in
theorem claw_612 : cdx (mC mLaw) 612 = some (612, .iaload, 1, 0, 0, 0, 0, []) := rfl
set_option maxRecDepth 20000 in
theorem claw_613 : cdx (mC mLaw) 613 = some (613, .invokevirtual 68, 3, 194, 1, 0, 6056, [(10, 0)]) := rfl
set_option maxRecDepth 20000 in
theorem claw_616 : cdx (mC mLaw) 616 = some (616, .if_icmp .eq 747, 3, 1363, 0, 0, 0, []) := rfl
set_option maxRecDepth 20000 in
theorem claw_619 : cdx (mC mLaw) 619 = some (619, .iconst 0, 1, 0, 0, 0, 0, []) := rfl
set_option maxRecDepth 20000 in
theorem claw_620 : cdx (mC mLaw) 620 = some (620, .ireturn, 1, 0, 0, 0, 0, []) := rfl
set_option maxRecDepth 20000 in
theorem claw_621 : cdx (mC mLaw) 621 = some (621, .aload_n 1, 1, 1, 0, 0, 0, []) := rfl
set_option maxRecDepth 20000 in
theorem claw_622 : cdx (mC mLaw) 622 = some (622, .aload_n 0, 1, 0, 0, 0, 0, []) := rfl
set_option maxRecDepth 20000 in
theorem claw_623 : cdx (mC mLaw) 623 = some (623, .iload_n 3, 1, 3, 0, 0, 0, []) := rfl
set_option maxRecDepth 20000 in
theorem claw_624 : cdx (mC mLaw) 624 = some (624, .iconst 1, 1, 0, 0, 0, 0, []) := rfl
set_option maxRecDepth 20000 in
theorem claw_625 : cdx (mC mLaw) 625 = some (625, .iadd, 1, 0, 0, 0, 0, []) := rfl
set_option maxRecDepth 20000 in
theorem claw_626 : cdx (mC mLaw) 626 = some (626, .iaload, 1, 0, 0, 0, 0, []) := rfl
set_option maxRecDepth 20000 in
theorem claw_627 : cdx (mC mLaw) 627 = some (627, .aload_n 0, 1, 0, 0, 0, 0, []) := rfl
set_option maxRecDepth 20000 in
theorem claw_628 : cdx (mC mLaw) 628 = some (628, .iload_n 3, 1, 3, 0, 0, 0, []) := rfl
set_option maxRecDepth 20000 in
theorem claw_629 : cdx (mC mLaw) 629 = some (629, .iconst 2, 1, 0, 0, 0, 0, []) := rfl
set_option maxRecDepth 20000 in
theorem claw_630 : cdx (mC mLaw) 630 = some (630, .iadd, 1, 0, 0, 0, 0, []) := rfl
set_option maxRecDepth 20000 in
theorem claw_631 : cdx (mC mLaw) 631 = some (631, .iaload, 1, 0, 0, 0, 0, []) := rfl
set_option maxRecDepth 20000 in
theorem claw_632 : cdx (mC mLaw) 632 = some (632, .invokevirtual 69, 3, 91, 2, 0, 3156, [(9, 0)]) := rfl
set_option maxRecDepth 20000 in
theorem claw_635 : cdx (mC mLaw) 635 = some (635, .aload_n 2, 1, 2, 0, 0, 0, []) := rfl
set_option maxRecDepth 20000 in
theorem claw_636 : cdx (mC mLaw) 636 = some (636, .aload_n 0, 1, 0, 0, 0, 0, []) := rfl
set_option maxRecDepth 20000 in
theorem claw_637 : cdx (mC mLaw) 637 = some (637, .iload_n 3, 1, 3, 0, 0, 0, []) := rfl
set_option maxRecDepth 20000 in
theorem claw_638 : cdx (mC mLaw) 638 = some (638, .iconst 1, 1, 0, 0, 0, 0, []) := rfl
set_option maxRecDepth 20000 in
theorem claw_639 : cdx (mC mLaw) 639 = some (639, .iadd, 1, 0, 0, 0, 0, []) := rfl
set_option maxRecDepth 20000 in
theorem claw_640 : cdx (mC mLaw) 640 = some (640, .iaload, 1, 0, 0, 0, 0, []) := rfl
set_option maxRecDepth 20000 in
theorem claw_641 : cdx (mC mLaw) 641 = some (641, .aload_n 0, 1, 0, 0, 0, 0, []) := rfl
set_option maxRecDepth 20000 in
theorem claw_642 : cdx (mC mLaw) 642 = some (642, .iload_n 3, 1, 3, 0, 0, 0, []) := rfl
set_option maxRecDepth 20000 in
theorem claw_643 : cdx (mC mLaw) 643 = some (643, .iconst 2, 1, 0, 0, 0, 0, []) := rfl
set_option maxRecDepth 20000 in
theorem claw_644 : cdx (mC mLaw) 644 = some (644, .iadd, 1, 0, 0, 0, 0, []) := rfl
set_option maxRecDepth 20000 in
theorem claw_645 : cdx (mC mLaw) 645 = some (645, .iaload, 1, 0, 0, 0, 0, []) := rfl
set_option maxRecDepth 20000 in
theorem claw_646 : cdx (mC mLaw) 646 = some (646, .invokevirtual 72, 3, 195, 2, 0, 6060, [(10, 0)]) := rfl
set_option maxRecDepth 20000 in
theorem claw_649 : cdx (mC mLaw) 649 = some (649, .if_icmp .eq 714, 3, 1363, 0, 0, 0, []) := rfl
set_option maxRecDepth 20000 in
theorem claw_652 : cdx (mC mLaw) 652 = some (652, .iconst 0, 1, 0, 0, 0, 0, []) := rfl
set_option maxRecDepth 20000 in
theorem claw_653 : cdx (mC mLaw) 653 = some (653, .ireturn, 1, 0, 0, 0, 0, []) := rfl
set_option maxRecDepth 20000 in
theorem claw_654 : cdx (mC mLaw) 654 = some (654, .aload_n 1, 1, 1, 0, 0, 0, []) := rfl
set_option maxRecDepth 20000 in
theorem claw_655 : cdx (mC mLaw) 655 = some (655, .aload_n 0, 1, 0, 0, 0, 0, []) := rfl
set_option maxRecDepth 20000 in
theorem claw_656 : cdx (mC mLaw) 656 = some (656, .iload_n 3, 1, 3, 0, 0, 0, []) := rfl
set_option maxRecDepth 20000 in
theorem claw_657 : cdx (mC mLaw) 657 = some (657, .iconst 1, 1, 0, 0, 0, 0, []) := rfl
set_option maxRecDepth 20000 in
theorem claw_658 : cdx (mC mLaw) 658 = some (658, .iadd, 1, 0, 0, 0, 0, []) := rfl
set_option maxRecDepth 20000 in
theorem claw_659 : cdx (mC mLaw) 659 = some (659, .iaload, 1, 0, 0, 0, 0, []) := rfl
set_option maxRecDepth 20000 in
theorem claw_660 : cdx (mC mLaw) 660 = some (660, .invokevirtual 73, 3, 92, 1, 0, 3160, [(9, 0)]) := rfl
set_option maxRecDepth 20000 in
theorem claw_663 : cdx (mC mLaw) 663 = some (663, .aload_n 2, 1, 2, 0, 0, 0, []) := rfl
set_option maxRecDepth 20000 in
theorem claw_664 : cdx (mC mLaw) 664 = some (664, .aload_n 0, 1, 0, 0, 0, 0, []) := rfl
set_option maxRecDepth 20000 in
theorem claw_665 : cdx (mC mLaw) 665 = some (665, .iload_n 3, 1, 3, 0, 0, 0, []) := rfl
set_option maxRecDepth 20000 in
theorem claw_666 : cdx (mC mLaw) 666 = some (666, .iconst 1, 1, 0, 0, 0, 0, []) := rfl
set_option maxRecDepth 20000 in
theorem claw_667 : cdx (mC mLaw) 667 = some (667, .iadd, 1, 0, 0, 0, 0, []) := rfl
set_option maxRecDepth 20000 in
theorem claw_668 : cdx (mC mLaw) 668 = some (668, .iaload, 1, 0, 0, 0, 0, []) := rfl
set_option maxRecDepth 20000 in
theorem claw_669 : cdx (mC mLaw) 669 = some (669, .invokevirtual 76, 3, 202, 1, 0, 6088, [(10, 0)]) := rfl
set_option maxRecDepth 20000 in
theorem claw_672 : cdx (mC mLaw) 672 = some (672, .if_icmp .eq 691, 3, 1363, 0, 0, 0, []) := rfl
set_option maxRecDepth 20000 in
theorem claw_675 : cdx (mC mLaw) 675 = some (675, .iconst 0, 1, 0, 0, 0, 0, []) := rfl
set_option maxRecDepth 20000 in
theorem claw_676 : cdx (mC mLaw) 676 = some (676, .ireturn, 1, 0, 0, 0, 0, []) := rfl
set_option maxRecDepth 20000 in
theorem claw_677 : cdx (mC mLaw) 677 = some (677, .aload_n 1, 1, 1, 0, 0, 0, []) := rfl
set_option maxRecDepth 20000 in
theorem claw_678 : cdx (mC mLaw) 678 = some (678, .aload_n 0, 1, 0, 0, 0, 0, []) := rfl
set_option maxRecDepth 20000 in
theorem claw_679 : cdx (mC mLaw) 679 = some (679, .iload_n 3, 1, 3, 0, 0, 0, []) := rfl
set_option maxRecDepth 20000 in
theorem claw_680 : cdx (mC mLaw) 680 = some (680, .iconst 1, 1, 0, 0, 0, 0, []) := rfl
set_option maxRecDepth 20000 in
theorem claw_681 : cdx (mC mLaw) 681 = some (681, .iadd, 1, 0, 0, 0, 0, []) := rfl
set_option maxRecDepth 20000 in
theorem claw_682 : cdx (mC mLaw) 682 = some (682, .iaload, 1, 0, 0, 0, 0, []) := rfl
set_option maxRecDepth 20000 in
theorem claw_683 : cdx (mC mLaw) 683 = some (683, .invokevirtual 77, 3, 94, 1, 0, 3168, [(9, 0)]) := rfl
set_option maxRecDepth 20000 in
theorem claw_686 : cdx (mC mLaw) 686 = some (686, .aload_n 2, 1, 2, 0, 0, 0, []) := rfl
set_option maxRecDepth 20000 in
theorem claw_687 : cdx (mC mLaw) 687 = some (687, .aload_n 0, 1, 0, 0, 0, 0, []) := rfl
set_option maxRecDepth 20000 in
theorem claw_688 : cdx (mC mLaw) 688 = some (688, .iload_n 3, 1, 3, 0, 0, 0, []) := rfl
set_option maxRecDepth 20000 in
theorem claw_689 : cdx (mC mLaw) 689 = some (689, .iconst 1, 1, 0, 0, 0, 0, []) := rfl
set_option maxRecDepth 20000 in
theorem claw_690 : cdx (mC mLaw) 690 = some (690, .iadd, 1, 0, 0, 0, 0, []) := rfl
set_option maxRecDepth 20000 in
theorem claw_691 : cdx (mC mLaw) 691 = some (691, .iaload, 1, 0, 0, 0, 0, []) := rfl
set_option maxRecDepth 20000 in
theorem claw_692 : cdx (mC mLaw) 692 = some (692, .invokevirtual 80, 3, 203, 1, 0, 6092, [(10, 0)]) := rfl
set_option maxRecDepth 20000 in
theorem claw_695 : cdx (mC mLaw) 695 = some (695, .if_icmp .eq 668, 3, 1363, 0, 0, 0, []) := rfl
set_option maxRecDepth 20000 in
theorem claw_698 : cdx (mC mLaw) 698 = some (698, .iconst 0, 1, 0, 0, 0, 0, []) := rfl
set_option maxRecDepth 20000 in
theorem claw_699 : cdx (mC mLaw) 699 = some (699, .ireturn, 1, 0, 0, 0, 0, []) := rfl
set_option maxRecDepth 20000 in
theorem claw_700 : cdx (mC mLaw) 700 = some (700, .aload_n 1, 1, 1, 0, 0, 0, []) := rfl
set_option maxRecDepth 20000 in
theorem claw_701 : cdx (mC mLaw) 701 = some (701, .aload_n 0, 1, 0, 0, 0, 0, []) := rfl
set_option maxRecDepth 20000 in
theorem claw_702 : cdx (mC mLaw) 702 = some (702, .iload_n 3, 1, 3, 0, 0, 0, []) := rfl
set_option maxRecDepth 20000 in
theorem claw_703 : cdx (mC mLaw) 703 = some (703, .iconst 1, 1, 0, 0, 0, 0, []) := rfl
set_option maxRecDepth 20000 in
theorem claw_704 : cdx (mC mLaw) 704 = some (704, .iadd, 1, 0, 0, 0, 0, []) := rfl
set_option maxRecDepth 20000 in
theorem claw_705 : cdx (mC mLaw) 705 = some (705, .iaload, 1, 0, 0, 0, 0, []) := rfl
set_option maxRecDepth 20000 in
theorem claw_706 : cdx (mC mLaw) 706 = some (706, .aload_n 0, 1, 0, 0, 0, 0, []) := rfl
set_option maxRecDepth 20000 in
theorem claw_707 : cdx (mC mLaw) 707 = some (707, .iload_n 3, 1, 3, 0, 0, 0, []) := rfl
set_option maxRecDepth 20000 in
theorem claw_708 : cdx (mC mLaw) 708 = some (708, .iconst 2, 1, 0, 0, 0, 0, []) := rfl
set_option maxRecDepth 20000 in
theorem claw_709 : cdx (mC mLaw) 709 = some (709, .iadd, 1, 0, 0, 0, 0, []) := rfl
set_option maxRecDepth 20000 in
theorem claw_710 : cdx (mC mLaw) 710 = some (710, .iaload, 1, 0, 0, 0, 0, []) := rfl
set_option maxRecDepth 20000 in
theorem claw_711 : cdx (mC mLaw) 711 = some (711, .invokevirtual 81, 3, 95, 2, 0, 3172, [(9, 0)]) := rfl
set_option maxRecDepth 20000 in
theorem claw_714 : cdx (mC mLaw) 714 = some (714, .aload_n 2, 1, 2, 0, 0, 0, []) := rfl
set_option maxRecDepth 20000 in
theorem claw_715 : cdx (mC mLaw) 715 = some (715, .aload_n 0, 1, 0, 0, 0, 0, []) := rfl
set_option maxRecDepth 20000 in
theorem claw_716 : cdx (mC mLaw) 716 = some (716, .iload_n 3, 1, 3, 0, 0, 0, []) := rfl
set_option maxRecDepth 20000 in
theorem claw_717 : cdx (mC mLaw) 717 = some (717, .iconst 1, 1, 0, 0, 0, 0, []) := rfl
set_option maxRecDepth 20000 in
theorem claw_718 : cdx (mC mLaw) 718 = some (718, .iadd, 1, 0, 0, 0, 0, []) := rfl
set_option maxRecDepth 20000 in
theorem claw_719 : cdx (mC mLaw) 719 = some (719, .iaload, 1, 0, 0, 0, 0, []) := rfl
set_option maxRecDepth 20000 in
theorem claw_720 : cdx (mC mLaw) 720 = some (720, .aload_n 0, 1, 0, 0, 0, 0, []) := rfl
set_option maxRecDepth 20000 in
theorem claw_721 : cdx (mC mLaw) 721 = some (721, .iload_n 3, 1, 3, 0, 0, 0, []) := rfl
set_option maxRecDepth 20000 in
theorem claw_722 : cdx (mC mLaw) 722 = some (722, .iconst 2, 1, 0, 0, 0, 0, []) := rfl
set_option maxRecDepth 20000 in
theorem claw_723 : cdx (mC mLaw) 723 = some (723, .iadd, 1, 0, 0, 0, 0, []) := rfl
set_option maxRecDepth 20000 in
theorem claw_724 : cdx (mC mLaw) 724 = some (724, .iaload, 1, 0, 0, 0, 0, []) := rfl
set_option maxRecDepth 20000 in
theorem claw_725 : cdx (mC mLaw) 725 = some (725, .invokevirtual 84, 3, 204, 2, 0, 6096, [(10, 0)]) := rfl
set_option maxRecDepth 20000 in
theorem claw_728 : cdx (mC mLaw) 728 = some (728, .if_icmp .eq 635, 3, 1363, 0, 0, 0, []) := rfl
set_option maxRecDepth 20000 in
theorem claw_731 : cdx (mC mLaw) 731 = some (731, .iconst 0, 1, 0, 0, 0, 0, []) := rfl
set_option maxRecDepth 20000 in
theorem claw_732 : cdx (mC mLaw) 732 = some (732, .ireturn, 1, 0, 0, 0, 0, []) := rfl
set_option maxRecDepth 20000 in
theorem claw_733 : cdx (mC mLaw) 733 = some (733, .aload_n 1, 1, 1, 0, 0, 0, []) := rfl
set_option maxRecDepth 20000 in
theorem claw_734 : cdx (mC mLaw) 734 = some (734, .aload_n 0, 1, 0, 0, 0, 0, []) := rfl
set_option maxRecDepth 20000 in
theorem claw_735 : cdx (mC mLaw) 735 = some (735, .iload_n 3, 1, 3, 0, 0, 0, []) := rfl
set_option maxRecDepth 20000 in
theorem claw_736 : cdx (mC mLaw) 736 = some (736, .iconst 1, 1, 0, 0, 0, 0, []) := rfl
set_option maxRecDepth 20000 in
theorem claw_737 : cdx (mC mLaw) 737 = some (737, .iadd, 1, 0, 0, 0, 0, []) := rfl
set_option maxRecDepth 20000 in
theorem claw_738 : cdx (mC mLaw) 738 = some (738, .iaload, 1, 0, 0, 0, 0, []) := rfl
set_option maxRecDepth 20000 in
theorem claw_739 : cdx (mC mLaw) 739 = some (739, .aload_n 0, 1, 0, 0, 0, 0, []) := rfl
set_option maxRecDepth 20000 in
theorem claw_740 : cdx (mC mLaw) 740 = some (740, .iload_n 3, 1, 3, 0, 0, 0, []) := rfl
set_option maxRecDepth 20000 in
theorem claw_741 : cdx (mC mLaw) 741 = some (741, .iconst 2, 1, 0, 0, 0, 0, []) := rfl
set_option maxRecDepth 20000 in
theorem claw_742 : cdx (mC mLaw) 742 = some (742, .iadd, 1, 0, 0, 0, 0, []) := rfl
set_option maxRecDepth 20000 in
theorem claw_743 : cdx (mC mLaw) 743 = some (743, .iaload, 1, 0, 0, 0, 0, []) := rfl
set_option maxRecDepth 20000 in
theorem claw_744 : cdx (mC mLaw) 744 = some (744, .invokevirtual 85, 3, 97, 2, 0, 3180, [(9, 0)]) := rfl
set_option maxRecDepth 20000 in
theorem claw_747 : cdx (mC mLaw) 747 = some (747, .aload_n 2, 1, 2, 0, 0, 0, []) := rfl
set_option maxRecDepth 20000 in
theorem claw_748 : cdx (mC mLaw) 748 = some (748, .aload_n 0, 1, 0, 0, 0, 0, []) := rfl
set_option maxRecDepth 20000 in
theorem claw_749 : cdx (mC mLaw) 749 = some (749, .iload_n 3, 1, 3, 0, 0, 0, []) := rfl
set_option maxRecDepth 20000 in
theorem claw_750 : cdx (mC mLaw) 750 = some (750, .iconst 1, 1, 0, 0, 0, 0, []) := rfl
set_option maxRecDepth 20000 in
theorem claw_751 : cdx (mC mLaw) 751 = some (751, .iadd, 1, 0, 0, 0, 0, []) := rfl
set_option maxRecDepth 20000 in
theorem claw_752 : cdx (mC mLaw) 752 = some (752, .iaload, 1, 0, 0, 0, 0, []) := rfl
set_option maxRecDepth 20000 in
theorem claw_753 : cdx (mC mLaw) 753 = some (753, .aload_n 0, 1, 0, 0, 0, 0, []) := rfl
set_option maxRecDepth 20000 in
theorem claw_754 : cdx (mC mLaw) 754 = some (754, .iload_n 3, 1, 3, 0, 0, 0, []) := rfl
set_option maxRecDepth 20000 in
theorem claw_755 : cdx (mC mLaw) 755 = some (755, .iconst 2, 1, 0, 0, 0, 0, []) := rfl
set_option maxRecDepth 20000 in
theorem claw_756 : cdx (mC mLaw) 756 = some (756, .iadd, 1, 0, 0, 0, 0, []) := rfl
set_option maxRecDepth 20000 in
theorem claw_757 : cdx (mC mLaw) 757 = some (757, .iaload, 1, 0, 0, 0, 0, []) := rfl
set_option maxRecDepth 20000 in
theorem claw_758 : cdx (mC mLaw) 758 = some (758, .invokevirtual 88, 3, 205, 2, 0, 6100, [(10, 0)]) := rfl
set_option maxRecDepth 20000 in
theorem claw_761 : cdx (mC mLaw) 761 = some (761, .if_icmp .eq 602, 3, 1363, 0, 0, 0, []) := rfl
set_option maxRecDepth 20000 in
theorem claw_764 : cdx (mC mLaw) 764 = some (764, .iconst 0, 1, 0, 0, 0, 0, []) := rfl
set_option maxRecDepth 20000 in
theorem claw_765 : cdx (mC mLaw) 765 = some (765, .ireturn, 1, 0, 0, 0, 0, []) := rfl
set_option maxRecDepth 20000 in
theorem claw_766 : cdx (mC mLaw) 766 = some (766, .aload_n 1, 1, 1, 0, 0, 0, []) := rfl
set_option maxRecDepth 20000 in
theorem claw_767 : cdx (mC mLaw) 767 = some (767, .aload_n 0, 1, 0, 0, 0, 0, []) := rfl
set_option maxRecDepth 20000 in
theorem claw_768 : cdx (mC mLaw) 768 = some (768, .iload_n 3, 1, 3, 0, 0, 0, []) := rfl
set_option maxRecDepth 20000 in
theorem claw_769 : cdx (mC mLaw) 769 = some (769, .iconst 1, 1, 0, 0, 0, 0, []) := rfl
set_option maxRecDepth 20000 in
theorem claw_770 : cdx (mC mLaw) 770 = some (770, .iadd, 1, 0, 0, 0, 0, []) := rfl
set_option maxRecDepth 20000 in
theorem claw_771 : cdx (mC mLaw) 771 = some (771, .iaload, 1, 0, 0, 0, 0, []) := rfl
set_option maxRecDepth 20000 in
theorem claw_772 : cdx (mC mLaw) 772 = some (772, .aload_n 0, 1, 0, 0, 0, 0, []) := rfl
set_option maxRecDepth 20000 in
theorem claw_773 : cdx (mC mLaw) 773 = some (773, .iload_n 3, 1, 3, 0, 0, 0, []) := rfl
set_option maxRecDepth 20000 in
theorem claw_774 : cdx (mC mLaw) 774 = some (774, .iconst 2, 1, 0, 0, 0, 0, []) := rfl
set_option maxRecDepth 20000 in
theorem claw_775 : cdx (mC mLaw) 775 = some (775, .iadd, 1, 0, 0, 0, 0, []) := rfl
set_option maxRecDepth 20000 in
theorem claw_776 : cdx (mC mLaw) 776 = some (776, .iaload, 1, 0, 0, 0, 0, []) := rfl
set_option maxRecDepth 20000 in
theorem claw_777 : cdx (mC mLaw) 777 = some (777, .invokevirtual 89, 3, 102, 2, 0, 3200, [(9, 0)]) := rfl
set_option maxRecDepth 20000 in
theorem claw_780 : cdx (mC mLaw) 780 = some (780, .aload_n 2, 1, 2, 0, 0, 0, []) := rfl
set_option maxRecDepth 20000 in
theorem claw_781 : cdx (mC mLaw) 781 = some (781, .aload_n 0, 1, 0, 0, 0, 0, []) := rfl
set_option maxRecDepth 20000 in
theorem claw_782 : cdx (mC mLaw) 782 = some (782, .iload_n 3, 1, 3, 0, 0, 0, []) := rfl
set_option maxRecDepth 20000 in
theorem claw_783 : cdx (mC mLaw) 783 = some (783, .iconst 1, 1, 0, 0, 0, 0, []) := rfl
set_option maxRecDepth 20000 in
theorem claw_784 : cdx (mC mLaw) 784 = some (784, .iadd, 1, 0, 0, 0, 0, []) := rfl
set_option maxRecDepth 20000 in
theorem claw_785 : cdx (mC mLaw) 785 = some (785, .iaload, 1, 0, 0, 0, 0, []) := rfl
set_option maxRecDepth 20000 in
theorem claw_786 : cdx (mC mLaw) 786 = some (786, .aload_n 0, 1, 0, 0, 0, 0, []) := rfl
set_option maxRecDepth 20000 in
theorem claw_787 : cdx (mC mLaw) 787 = some (787, .iload_n 3, 1, 3, 0, 0, 0, []) := rfl
set_option maxRecDepth 20000 in
theorem claw_788 : cdx (mC mLaw) 788 = some (788, .iconst 2, 1, 0, 0, 0, 0, []) := rfl
set_option maxRecDepth 20000 in
theorem claw_789 : cdx (mC mLaw) 789 = some (789, .iadd, 1, 0, 0, 0, 0, []) := rfl
set_option maxRecDepth 20000 in
theorem claw_790 : cdx (mC mLaw) 790 = some (790, .iaload, 1, 0, 0, 0, 0, []) := rfl
set_option maxRecDepth 20000 in
theorem claw_791 : cdx (mC mLaw) 791 = some (791, .invokevirtual 92, 3, 207, 2, 0, 6108, [(10, 0)]) := rfl
set_option maxRecDepth 20000 in
theorem claw_794 : cdx (mC mLaw) 794 = some (794, .if_icmp .eq 569, 3, 1363, 0, 0, 0, []) := rfl
set_option maxRecDepth 20000 in
theorem claw_797 : cdx (mC mLaw) 797 = some (797, .iconst 0, 1, 0, 0, 0, 0, []) := rfl
set_option maxRecDepth 20000 in
theorem claw_798 : cdx (mC mLaw) 798 = some (798, .ireturn, 1, 0, 0, 0, 0, []) := rfl
set_option maxRecDepth 20000 in
theorem claw_799 : cdx (mC mLaw) 799 = some (799, .aload_n 1, 1, 1, 0, 0, 0, []) := rfl
set_option maxRecDepth 20000 in
theorem claw_800 : cdx (mC mLaw) 800 = some (800, .aload_n 0, 1, 0, 0, 0, 0, []) := rfl
set_option maxRecDepth 20000 in
theorem claw_801 : cdx (mC mLaw) 801 = some (801, .iload_n 3, 1, 3, 0, 0, 0, []) := rfl
set_option maxRecDepth 20000 in
theorem claw_802 : cdx (mC mLaw) 802 = some (802, .iconst 1, 1, 0, 0, 0, 0, []) := rfl
set_option maxRecDepth 20000 in
theorem claw_803 : cdx (mC mLaw) 803 = some (803, .iadd, 1, 0, 0, 0, 0, []) := rfl
set_option maxRecDepth 20000 in
theorem claw_804 : cdx (mC mLaw) 804 = some (804, .iaload, 1, 0, 0, 0, 0, []) := rfl
set_option maxRecDepth 20000 in
theorem claw_805 : cdx (mC mLaw) 805 = some (805, .aload_n 0, 1, 0, 0, 0, 0, []) := rfl
set_option maxRecDepth 20000 in
theorem claw_806 : cdx (mC mLaw) 806 = some (806, .iload_n 3, 1, 3, 0, 0, 0, []) := rfl
set_option maxRecDepth 20000 in
theorem claw_807 : cdx (mC mLaw) 807 = some (807, .iconst 2, 1, 0, 0, 0, 0, []) := rfl
set_option maxRecDepth 20000 in
theorem claw_808 : cdx (mC mLaw) 808 = some (808, .iadd, 1, 0, 0, 0, 0, []) := rfl
set_option maxRecDepth 20000 in
theorem claw_809 : cdx (mC mLaw) 809 = some (809, .iaload, 1, 0, 0, 0, 0, []) := rfl
set_option maxRecDepth 20000 in
theorem claw_810 : cdx (mC mLaw) 810 = some (810, .aload_n 0, 1, 0, 0, 0, 0, []) := rfl
set_option maxRecDepth 20000 in
theorem claw_811 : cdx (mC mLaw) 811 = some (811, .iload_n 3, 1, 3, 0, 0, 0, []) := rfl
set_option maxRecDepth 20000 in
theorem claw_812 : cdx (mC mLaw) 812 = some (812, .iconst 3, 1, 0, 0, 0, 0, []) := rfl
set_option maxRecDepth 20000 in
theorem claw_813 : cdx (mC mLaw) 813 = some (813, .iadd, 1, 0, 0, 0, 0, []) := rfl
set_option maxRecDepth 20000 in
theorem claw_814 : cdx (mC mLaw) 814 = some (814, .iaload, 1, 0, 0, 0, 0, []) := rfl
set_option maxRecDepth 20000 in
theorem claw_815 : cdx (mC mLaw) 815 = some (815, .invokevirtual 93, 3, 103, 3, 0, 3204, [(9, 0)]) := rfl
set_option maxRecDepth 20000 in
theorem claw_818 : cdx (mC mLaw) 818 = some (818, .aload_n 2, 1, 2, 0, 0, 0, []) := rfl
set_option maxRecDepth 20000 in
theorem claw_819 : cdx (mC mLaw) 819 = some (819, .aload_n 0, 1, 0, 0, 0, 0, []) := rfl
set_option maxRecDepth 20000 in
theorem claw_820 : cdx (mC mLaw) 820 = some (820, .iload_n 3, 1, 3, 0, 0, 0, []) := rfl
set_option maxRecDepth 20000 in
theorem claw_821 : cdx (mC mLaw) 821 = some (821, .iconst 1, 1, 0, 0, 0, 0, []) := rfl
set_option maxRecDepth 20000 in
theorem claw_822 : cdx (mC mLaw) 822 = some (822, .iadd, 1, 0, 0, 0, 0, []) := rfl
set_option maxRecDepth 20000 in
theorem claw_823 : cdx (mC mLaw) 823 = some (823, .iaload, 1, 0, 0, 0, 0, []) := rfl
set_option maxRecDepth 20000 in
theorem claw_824 : cdx (mC mLaw) 824 = some (824, .aload_n 0, 1, 0, 0, 0, 0, []) := rfl
set_option maxRecDepth 20000 in
theorem claw_825 : cdx (mC mLaw) 825 = some (825, .iload_n 3, 1, 3, 0, 0, 0, []) := rfl
set_option maxRecDepth 20000 in
theorem claw_826 : cdx (mC mLaw) 826 = some (826, .iconst 2, 1, 0, 0, 0, 0, []) := rfl
set_option maxRecDepth 20000 in
theorem claw_827 : cdx (mC mLaw) 827 = some (827, .iadd, 1, 0, 0, 0, 0, []) := rfl
set_option maxRecDepth 20000 in
theorem claw_828 : cdx (mC mLaw) 828 = some (828, .iaload, 1, 0, 0, 0, 0, []) := rfl
set_option maxRecDepth 20000 in
theorem claw_829 : cdx (mC mLaw) 829 = some (829, .aload_n 0, 1, 0, 0, 0, 0, []) := rfl
set_option maxRecDepth 20000 in
theorem claw_830 : cdx (mC mLaw) 830 = some (830, .iload_n 3, 1, 3, 0, 0, 0, []) := rfl
set_option maxRecDepth 20000 in
theorem claw_831 : cdx (mC mLaw) 831 = some (831, .iconst 3, 1, 0, 0, 0, 0, []) := rfl
set_option maxRecDepth 20000 in
theorem claw_832 : cdx (mC mLaw) 832 = some (832, .iadd, 1, 0, 0, 0, 0, []) := rfl
set_option maxRecDepth 20000 in
theorem claw_833 : cdx (mC mLaw) 833 = some (833, .iaload, 1, 0, 0, 0, 0, []) := rfl
set_option maxRecDepth 20000 in
theorem claw_834 : cdx (mC mLaw) 834 = some (834, .invokevirtual 97, 3, 208, 3, 0, 6112, [(10, 0)]) := rfl
set_option maxRecDepth 20000 in
theorem claw_837 : cdx (mC mLaw) 837 = some (837, .lcmp, 1, 0, 0, 0, 0, []) := rfl
set_option maxRecDepth 20000 in
theorem claw_838 : cdx (mC mLaw) 838 = some (838, .ifCond .eq 525, 3, 1363, 0, 0, 0, []) := rfl
set_option maxRecDepth 20000 in
theorem claw_841 : cdx (mC mLaw) 841 = some (841, .iconst 0, 1, 0, 0, 0, 0, []) := rfl
set_option maxRecDepth 20000 in
theorem claw_842 : cdx (mC mLaw) 842 = some (842, .ireturn, 1, 0, 0, 0, 0, []) := rfl
set_option maxRecDepth 20000 in
theorem claw_843 : cdx (mC mLaw) 843 = some (843, .aload_n 1, 1, 1, 0, 0, 0, []) := rfl
set_option maxRecDepth 20000 in
theorem claw_844 : cdx (mC mLaw) 844 = some (844, .aload_n 0, 1, 0, 0, 0, 0, []) := rfl
set_option maxRecDepth 20000 in
theorem claw_845 : cdx (mC mLaw) 845 = some (845, .iload_n 3, 1, 3, 0, 0, 0, []) := rfl
set_option maxRecDepth 20000 in
theorem claw_846 : cdx (mC mLaw) 846 = some (846, .iconst 1, 1, 0, 0, 0, 0, []) := rfl
set_option maxRecDepth 20000 in
theorem claw_847 : cdx (mC mLaw) 847 = some (847, .iadd, 1, 0, 0, 0, 0, []) := rfl
set_option maxRecDepth 20000 in
theorem claw_848 : cdx (mC mLaw) 848 = some (848, .iaload, 1, 0, 0, 0, 0, []) := rfl
set_option maxRecDepth 20000 in
theorem claw_849 : cdx (mC mLaw) 849 = some (849, .invokevirtual 98, 3, 107, 1, 0, 3219, [(9, 0)]) := rfl
set_option maxRecDepth 20000 in
theorem claw_852 : cdx (mC mLaw) 852 = some (852, .aload_n 2, 1, 2, 0, 0, 0, []) := rfl
set_option maxRecDepth 20000 in
theorem claw_853 : cdx (mC mLaw) 853 = some (853, .aload_n 0, 1, 0, 0, 0, 0, []) := rfl
set_option maxRecDepth 20000 in
theorem claw_854 : cdx (mC mLaw) 854 = some (854, .iload_n 3, 1, 3, 0, 0, 0, []) := rfl
set_option maxRecDepth 20000 in
theorem claw_855 : cdx (mC mLaw) 855 = some (855, .iconst 1, 1, 0, 0, 0, 0, []) := rfl
set_option maxRecDepth 20000 in
theorem claw_856 : cdx (mC mLaw) 856 = some (856, .iadd, 1, 0, 0, 0, 0, []) := rfl
set_option maxRecDepth 20000 in
theorem claw_857 : cdx (mC mLaw) 857 = some (857, .iaload, 1, 0, 0, 0, 0, []) := rfl
set_option maxRecDepth 20000 in
theorem claw_858 : cdx (mC mLaw) 858 = some (858, .invokevirtual 102, 3, 211, 1, 0, 6125, [(10, 0)]) := rfl
set_option maxRecDepth 20000 in
theorem claw_861 : cdx (mC mLaw) 861 = some (861, .lcmp, 1, 0, 0, 0, 0, []) := rfl
set_option maxRecDepth 20000 in
theorem claw_862 : cdx (mC mLaw) 862 = some (862, .ifCond .eq 501, 3, 1363, 0, 0, 0, []) := rfl
set_option maxRecDepth 20000 in
theorem claw_865 : cdx (mC mLaw) 865 = some (865, .iconst 0, 1, 0, 0, 0, 0, []) := rfl
set_option maxRecDepth 20000 in
theorem claw_866 : cdx (mC mLaw) 866 = some (866, .ireturn, 1, 0, 0, 0, 0, []) := rfl
set_option maxRecDepth 20000 in
theorem claw_867 : cdx (mC mLaw) 867 = some (867, .aload_n 1, 1, 1, 0, 0, 0, []) := rfl
set_option maxRecDepth 20000 in
theorem claw_868 : cdx (mC mLaw) 868 = some (868, .aload_n 0, 1, 0, 0, 0, 0, []) := rfl
set_option maxRecDepth 20000 in
theorem claw_869 : cdx (mC mLaw) 869 = some (869, .iload_n 3, 1, 3, 0, 0, 0, []) := rfl
set_option maxRecDepth 20000 in
theorem claw_870 : cdx (mC mLaw) 870 = some (870, .iconst 1, 1, 0, 0, 0, 0, []) := rfl
set_option maxRecDepth 20000 in
theorem claw_871 : cdx (mC mLaw) 871 = some (871, .iadd, 1, 0, 0, 0, 0, []) := rfl
set_option maxRecDepth 20000 in
theorem claw_872 : cdx (mC mLaw) 872 = some (872, .iaload, 1, 0, 0, 0, 0, []) := rfl
set_option maxRecDepth 20000 in
theorem claw_873 : cdx (mC mLaw) 873 = some (873, .aload_n 0, 1, 0, 0, 0, 0, []) := rfl
set_option maxRecDepth 20000 in
theorem claw_874 : cdx (mC mLaw) 874 = some (874, .iload_n 3, 1, 3, 0, 0, 0, []) := rfl
set_option maxRecDepth 20000 in
theorem claw_875 : cdx (mC mLaw) 875 = some (875, .iconst 2, 1, 0, 0, 0, 0, []) := rfl
set_option maxRecDepth 20000 in
theorem claw_876 : cdx (mC mLaw) 876 = some (876, .iadd, 1, 0, 0, 0, 0, []) := rfl
set_option maxRecDepth 20000 in
theorem claw_877 : cdx (mC mLaw) 877 = some (877, .iaload, 1, 0, 0, 0, 0, []) := rfl
set_option maxRecDepth 20000 in
theorem claw_878 : cdx (mC mLaw) 878 = some (878, .invokevirtual 103, 3, 108, 2, 0, 3223, [(9, 0)]) := rfl
set_option maxRecDepth 20000 in
theorem claw_881 : cdx (mC mLaw) 881 = some (881, .aload_n 2, 1, 2, 0, 0, 0, []) := rfl
set_option maxRecDepth 20000 in
theorem claw_882 : cdx (mC mLaw) 882 = some (882, .aload_n 0, 1, 0, 0, 0, 0, []) := rfl
set_option maxRecDepth 20000 in
theorem claw_883 : cdx (mC mLaw) 883 = some (883, .iload_n 3, 1, 3, 0, 0, 0, []) := rfl
set_option maxRecDepth 20000 in
theorem claw_884 : cdx (mC mLaw) 884 = some (884, .iconst 1, 1, 0, 0, 0, 0, []) := rfl
set_option maxRecDepth 20000 in
theorem claw_885 : cdx (mC mLaw) 885 = some (885, .iadd, 1, 0, 0, 0, 0, []) := rfl
set_option maxRecDepth 20000 in
theorem claw_886 : cdx (mC mLaw) 886 = some (886, .iaload, 1, 0, 0, 0, 0, []) := rfl
set_option maxRecDepth 20000 in
theorem claw_887 : cdx (mC mLaw) 887 = some (887, .aload_n 0, 1, 0, 0, 0, 0, []) := rfl
set_option maxRecDepth 20000 in
theorem claw_888 : cdx (mC mLaw) 888 = some (888, .iload_n 3, 1, 3, 0, 0, 0, []) := rfl
set_option maxRecDepth 20000 in
theorem claw_889 : cdx (mC mLaw) 889 = some (889, .iconst 2, 1, 0, 0, 0, 0, []) := rfl
set_option maxRecDepth 20000 in
theorem claw_890 : cdx (mC mLaw) 890 = some (890, .iadd, 1, 0, 0, 0, 0, []) := rfl
set_option maxRecDepth 20000 in
theorem claw_891 : cdx (mC mLaw) 891 = some (891, .iaload, 1, 0, 0, 0, 0, []) := rfl
set_option maxRecDepth 20000 in
theorem claw_892 : cdx (mC mLaw) 892 = some (892, .invokevirtual 106, 3, 212, 2, 0, 6129, [(10, 0)]) := rfl
set_option maxRecDepth 20000 in
theorem claw_895 : cdx (mC mLaw) 895 = some (895, .if_icmp .eq 468, 3, 1363, 0, 0, 0, []) := rfl
set_option maxRecDepth 20000 in
theorem claw_898 : cdx (mC mLaw) 898 = some (898, .iconst 0, 1, 0, 0, 0, 0, []) := rfl
set_option maxRecDepth 20000 in
theorem claw_899 : cdx (mC mLaw) 899 = some (899, .ireturn, 1, 0, 0, 0, 0, []) := rfl
set_option maxRecDepth 20000 in
theorem claw_900 : cdx (mC mLaw) 900 = some (900, .aload_n 1, 1, 1, 0, 0, 0, []) := rfl
set_option maxRecDepth 20000 in
theorem claw_901 : cdx (mC mLaw) 901 = some (901, .aload_n 0, 1, 0, 0, 0, 0, []) := rfl
set_option maxRecDepth 20000 in
theorem claw_902 : cdx (mC mLaw) 902 = some (902, .iload_n 3, 1, 3, 0, 0, 0, []) := rfl
set_option maxRecDepth 20000 in
theorem claw_903 : cdx (mC mLaw) 903 = some (903, .iconst 1, 1, 0, 0, 0, 0, []) := rfl
set_option maxRecDepth 20000 in
theorem claw_904 : cdx (mC mLaw) 904 = some (904, .iadd, 1, 0, 0, 0, 0, []) := rfl
set_option maxRecDepth 20000 in
theorem claw_905 : cdx (mC mLaw) 905 = some (905, .iaload, 1, 0, 0, 0, 0, []) := rfl
set_option maxRecDepth 20000 in
theorem claw_906 : cdx (mC mLaw) 906 = some (906, .invokevirtual 107, 3, 109, 1, 0, 3227, [(9, 0)]) := rfl
set_option maxRecDepth 20000 in
theorem claw_909 : cdx (mC mLaw) 909 = some (909, .aload_n 2, 1, 2, 0, 0, 0, []) := rfl
set_option maxRecDepth 20000 in
theorem claw_910 : cdx (mC mLaw) 910 = some (910, .aload_n 0, 1, 0, 0, 0, 0, []) := rfl
set_option maxRecDepth 20000 in
theorem claw_911 : cdx (mC mLaw) 911 = some (911, .iload_n 3, 1, 3, 0, 0, 0, []) := rfl
set_option maxRecDepth 20000 in
theorem claw_912 : cdx (mC mLaw) 912 = some (912, .iconst 1, 1, 0, 0, 0, 0, []) := rfl
set_option maxRecDepth 20000 in
theorem claw_913 : cdx (mC mLaw) 913 = some (913, .iadd, 1, 0, 0, 0, 0, []) := rfl
set_option maxRecDepth 20000 in
theorem claw_914 : cdx (mC mLaw) 914 = some (914, .iaload, 1, 0, 0, 0, 0, []) := rfl
set_option maxRecDepth 20000 in
theorem claw_915 : cdx (mC mLaw) 915 = some (915, .invokevirtual 110, 3, 213, 1, 0, 6133, [(10, 0)]) := rfl
set_option maxRecDepth 20000 in
theorem claw_918 : cdx (mC mLaw) 918 = some (918, .if_icmp .eq 445, 3, 1363, 0, 0, 0, []) := rfl
set_option maxRecDepth 20000 in
theorem claw_921 : cdx (mC mLaw) 921 = some (921, .iconst 0, 1, 0, 0, 0, 0, []) := rfl
set_option maxRecDepth 20000 in
theorem claw_922 : cdx (mC mLaw) 922 = some (922, .ireturn, 1, 0, 0, 0, 0, []) := rfl
set_option maxRecDepth 20000 in
theorem claw_923 : cdx (mC mLaw) 923 = some (923, .aload_n 1, 1, 1, 0, 0, 0, []) := rfl
set_option maxRecDepth 20000 in
theorem claw_924 : cdx (mC mLaw) 924 = some (924, .aload_n 0, 1, 0, 0, 0, 0, []) := rfl
set_option maxRecDepth 20000 in
theorem claw_925 : cdx (mC mLaw) 925 = some (925, .iload_n 3, 1, 3, 0, 0, 0, []) := rfl
set_option maxRecDepth 20000 in
theorem claw_926 : cdx (mC mLaw) 926 = some (926, .iconst 1, 1, 0, 0, 0, 0, []) := rfl
set_option maxRecDepth 20000 in
theorem claw_927 : cdx (mC mLaw) 927 = some (927, .iadd, 1, 0, 0, 0, 0, []) := rfl
set_option maxRecDepth 20000 in
theorem claw_928 : cdx (mC mLaw) 928 = some (928, .iaload, 1, 0, 0, 0, 0, []) := rfl
set_option maxRecDepth 20000 in
theorem claw_929 : cdx (mC mLaw) 929 = some (929, .aload_n 0, 1, 0, 0, 0, 0, []) := rfl
set_option maxRecDepth 20000 in
theorem claw_930 : cdx (mC mLaw) 930 = some (930, .iload_n 3, 1, 3, 0, 0, 0, []) := rfl
set_option maxRecDepth 20000 in
theorem claw_931 : cdx (mC mLaw) 931 = some (931, .iconst 2, 1, 0, 0, 0, 0, []) := rfl
set_option maxRecDepth 20000 in
theorem claw_932 : cdx (mC mLaw) 932 = some (932, .iadd, 1, 0, 0, 0, 0, []) := rfl
set_option maxRecDepth 20000 in
theorem claw_933 : cdx (mC mLaw) 933 = some (933, .iaload, 1, 0, 0, 0, 0, []) := rfl
set_option maxRecDepth 20000 in
theorem claw_934 : cdx (mC mLaw) 934 = some (934, .invokevirtual 111, 3, 112, 2, 0, 4003, [(9, 0)]) := rfl
set_option maxRecDepth 20000 in
theorem claw_937 : cdx (mC mLaw) 937 = some (937, .aload_n 2, 1, 2, 0, 0, 0, []) := rfl
set_option maxRecDepth 20000 in
theorem claw_938 : cdx (mC mLaw) 938 = some (938, .aload_n 0, 1, 0, 0, 0, 0, []) := rfl
set_option maxRecDepth 20000 in
theorem claw_939 : cdx (mC mLaw) 939 = some (939, .iload_n 3, 1, 3, 0, 0, 0, []) := rfl
set_option maxRecDepth 20000 in
theorem claw_940 : cdx (mC mLaw) 940 = some (940, .iconst 1, 1, 0, 0, 0, 0, []) := rfl
set_option maxRecDepth 20000 in
theorem claw_941 : cdx (mC mLaw) 941 = some (941, .iadd, 1, 0, 0, 0, 0, []) := rfl
set_option maxRecDepth 20000 in
theorem claw_942 : cdx (mC mLaw) 942 = some (942, .iaload, 1, 0, 0, 0, 0, []) := rfl
set_option maxRecDepth 20000 in
theorem claw_943 : cdx (mC mLaw) 943 = some (943, .aload_n 0, 1, 0, 0, 0, 0, []) := rfl
set_option maxRecDepth 20000 in
theorem claw_944 : cdx (mC mLaw) 944 = some (944, .iload_n 3, 1, 3, 0, 0, 0, []) := rfl
set_option maxRecDepth 20000 in
theorem claw_945 : cdx (mC mLaw) 945 = some (945, .iconst 2, 1, 0, 0, 0, 0, []) := rfl
set_option maxRecDepth 20000 in
theorem claw_946 : cdx (mC mLaw) 946 = some (946, .iadd, 1, 0, 0, 0, 0, []) := rfl
set_option maxRecDepth 20000 in
theorem claw_947 : cdx (mC mLaw) 947 = some (947, .iaload, 1, 0, 0, 0, 0, []) := rfl
set_option maxRecDepth 20000 in
theorem claw_948 : cdx (mC mLaw) 948 = some (948, .invokevirtual 114, 3, 214, 2, 0, 6137, [(10, 0)]) := rfl
set_option maxRecDepth 20000 in
theorem claw_951 : cdx (mC mLaw) 951 = some (951, .if_icmp .eq 412, 3, 1363, 0, 0, 0, []) := rfl
set_option maxRecDepth 20000 in
theorem claw_954 : cdx (mC mLaw) 954 = some (954, .iconst 0, 1, 0, 0, 0, 0, []) := rfl
set_option maxRecDepth 20000 in
theorem claw_955 : cdx (mC mLaw) 955 = some (955, .ireturn, 1, 0, 0, 0, 0, []) := rfl
set_option maxRecDepth 20000 in
theorem claw_956 : cdx (mC mLaw) 956 = some (956, .aload_n 1, 1, 1, 0, 0, 0, []) := rfl
set_option maxRecDepth 20000 in
theorem claw_957 : cdx (mC mLaw) 957 = some (957, .invokevirtual 115, 3, 113, 0, 0, 4007, [(9, 0)]) := rfl
set_option maxRecDepth 20000 in
theorem claw_960 : cdx (mC mLaw) 960 = some (960, .aload_n 2, 1, 2, 0, 0, 0, []) := rfl
set_option maxRecDepth 20000 in
theorem claw_961 : cdx (mC mLaw) 961 = some (961, .invokevirtual 118, 3, 215, 0, 0, 6141, [(10, 0)]) := rfl
set_option maxRecDepth 20000 in
theorem claw_964 : cdx (mC mLaw) 964 = some (964, .if_icmp .eq 399, 3, 1363, 0, 0, 0, []) := rfl
set_option maxRecDepth 20000 in
theorem claw_967 : cdx (mC mLaw) 967 = some (967, .iconst 0, 1, 0, 0, 0, 0, []) := rfl
set_option maxRecDepth 20000 in
theorem claw_968 : cdx (mC mLaw) 968 = some (968, .ireturn, 1, 0, 0, 0, 0, []) := rfl
set_option maxRecDepth 20000 in
theorem claw_969 : cdx (mC mLaw) 969 = some (969, .aload_n 1, 1, 1, 0, 0, 0, []) := rfl
set_option maxRecDepth 20000 in
theorem claw_970 : cdx (mC mLaw) 970 = some (970, .aload_n 0, 1, 0, 0, 0, 0, []) := rfl
set_option maxRecDepth 20000 in
theorem claw_971 : cdx (mC mLaw) 971 = some (971, .iload_n 3, 1, 3, 0, 0, 0, []) := rfl
set_option maxRecDepth 20000 in
theorem claw_972 : cdx (mC mLaw) 972 = some (972, .iconst 1, 1, 0, 0, 0, 0, []) := rfl
set_option maxRecDepth 20000 in
theorem claw_973 : cdx (mC mLaw) 973 = some (973, .iadd, 1, 0, 0, 0, 0, []) := rfl
set_option maxRecDepth 20000 in
theorem claw_974 : cdx (mC mLaw) 974 = some (974, .iaload, 1, 0, 0, 0, 0, []) := rfl
set_option maxRecDepth 20000 in
theorem claw_975 : cdx (mC mLaw) 975 = some (975, .aload_n 0, 1, 0, 0, 0, 0, []) := rfl
set_option maxRecDepth 20000 in
theorem claw_976 : cdx (mC mLaw) 976 = some (976, .iload_n 3, 1, 3, 0, 0, 0, []) := rfl
set_option maxRecDepth 20000 in
theorem claw_977 : cdx (mC mLaw) 977 = some (977, .iconst 2, 1, 0, 0, 0, 0, []) := rfl
set_option maxRecDepth 20000 in
theorem claw_978 : cdx (mC mLaw) 978 = some (978, .iadd, 1, 0, 0, 0, 0, []) := rfl
set_option maxRecDepth 20000 in
theorem claw_979 : cdx (mC mLaw) 979 = some (979, .iaload, 1, 0, 0, 0, 0, []) := rfl
set_option maxRecDepth 20000 in
theorem claw_980 : cdx (mC mLaw) 980 = some (980, .invokevirtual 119, 3, 114, 2, 0, 4011, [(9, 0)]) := rfl
set_option maxRecDepth 20000 in
theorem claw_983 : cdx (mC mLaw) 983 = some (983, .aload_n 2, 1, 2, 0, 0, 0, []) := rfl
set_option maxRecDepth 20000 in
theorem claw_984 : cdx (mC mLaw) 984 = some (984, .aload_n 0, 1, 0, 0, 0, 0, []) := rfl
set_option maxRecDepth 20000 in
theorem claw_985 : cdx (mC mLaw) 985 = some (985, .iload_n 3, 1, 3, 0, 0, 0, []) := rfl
set_option maxRecDepth 20000 in
theorem claw_986 : cdx (mC mLaw) 986 = some (986, .iconst 1, 1, 0, 0, 0, 0, []) := rfl
set_option maxRecDepth 20000 in
theorem claw_987 : cdx (mC mLaw) 987 = some (987, .iadd, 1, 0, 0, 0, 0, []) := rfl
set_option maxRecDepth 20000 in
theorem claw_988 : cdx (mC mLaw) 988 = some (988, .iaload, 1, 0, 0, 0, 0, []) := rfl
set_option maxRecDepth 20000 in
theorem claw_989 : cdx (mC mLaw) 989 = some (989, .aload_n 0, 1, 0, 0, 0, 0, []) := rfl
set_option maxRecDepth 20000 in
theorem claw_990 : cdx (mC mLaw) 990 = some (990, .iload_n 3, 1, 3, 0, 0, 0, []) := rfl
set_option maxRecDepth 20000 in
theorem claw_991 : cdx (mC mLaw) 991 = some (991, .iconst 2, 1, 0, 0, 0, 0, []) := rfl
set_option maxRecDepth 20000 in
theorem claw_992 : cdx (mC mLaw) 992 = some (992, .iadd, 1, 0, 0, 0, 0, []) := rfl
set_option maxRecDepth 20000 in
theorem claw_993 : cdx (mC mLaw) 993 = some (993, .iaload, 1, 0, 0, 0, 0, []) := rfl
set_option maxRecDepth 20000 in
theorem claw_994 : cdx (mC mLaw) 994 = some (994, .invokevirtual 122, 3, 216, 2, 0, 6145, [(10, 0)]) := rfl
set_option maxRecDepth 20000 in
theorem claw_997 : cdx (mC mLaw) 997 = some (997, .if_icmp .eq 366, 3, 1363, 0, 0, 0, []) := rfl
set_option maxRecDepth 20000 in
theorem claw_1000 : cdx (mC mLaw) 1000 = some (1000, .iconst 0, 1, 0, 0, 0, 0, []) := rfl
set_option maxRecDepth 20000 in
theorem claw_1001 : cdx (mC mLaw) 1001 = some (1001, .ireturn, 1, 0, 0, 0, 0, []) := rfl
set_option maxRecDepth 20000 in
theorem claw_1002 : cdx (mC mLaw) 1002 = some (1002, .aload_n 1, 1, 1, 0, 0, 0, []) := rfl
set_option maxRecDepth 20000 in
theorem claw_1003 : cdx (mC mLaw) 1003 = some (1003, .invokevirtual 123, 3, 119, 0, 0, 4032, [(9, 0)]) := rfl
set_option maxRecDepth 20000 in
theorem claw_1006 : cdx (mC mLaw) 1006 = some (1006, .aload_n 2, 1, 2, 0, 0, 0, []) := rfl
set_option maxRecDepth 20000 in
theorem claw_1007 : cdx (mC mLaw) 1007 = some (1007, .invokevirtual 126, 3, 218, 0, 0, 6153, [(10, 0)]) := rfl
set_option maxRecDepth 20000 in
theorem claw_1010 : cdx (mC mLaw) 1010 = some (1010, .if_icmp .eq 353, 3, 1363, 0, 0, 0, []) := rfl
set_option maxRecDepth 20000 in
theorem claw_1013 : cdx (mC mLaw) 1013 = some (1013, .iconst 0, 1, 0, 0, 0, 0, []) := rfl
set_option maxRecDepth 20000 in
theorem claw_1014 : cdx (mC mLaw) 1014 = some (1014, .ireturn, 1, 0, 0, 0, 0, []) := rfl
set_option maxRecDepth 20000 in
theorem claw_1015 : cdx (mC mLaw) 1015 = some (1015, .aload_n 1, 1, 1, 0, 0, 0, []) := rfl
set_option maxRecDepth 20000 in
theorem claw_1016 : cdx (mC mLaw) 1016 = some (1016, .invokevirtual 127, 3, 120, 0, 0, 4036, [(9, 0)]) := rfl
set_option maxRecDepth 20000 in
theorem claw_1019 : cdx (mC mLaw) 1019 = some (1019, .aload_n 2, 1, 2, 0, 0, 0, []) := rfl
set_option maxRecDepth 20000 in
theorem claw_1020 : cdx (mC mLaw) 1020 = some (1020, .invokevirtual 130, 3, 219, 0, 0, 6157, [(10, 0)]) := rfl
set_option maxRecDepth 20000 in
theorem claw_1023 : cdx (mC mLaw) 1023 = some (1023, .if_icmp .eq 340, 3, 1363, 0, 0, 0, []) := rfl
set_option maxRecDepth 20000 in
theorem claw_1026 : cdx (mC mLaw) 1026 = some (1026, .iconst 0, 1, 0, 0, 0, 0, []) := rfl
set_option maxRecDepth 20000 in
theorem claw_1027 : cdx (mC mLaw) 1027 = some (1027, .ireturn, 1, 0, 0, 0, 0, []) := rfl
set_option maxRecDepth 20000 in
theorem claw_1028 : cdx (mC mLaw) 1028 = some (1028, .aload_n 1, 1, 1, 0, 0, 0, []) := rfl
set_option maxRecDepth 20000 in
theorem claw_1029 : cdx (mC mLaw) 1029 = some (1029, .aload_n 0, 1, 0, 0, 0, 0, []) := rfl
set_option maxRecDepth 20000 in
theorem claw_1030 : cdx (mC mLaw) 1030 = some (1030, .iload_n 3, 1, 3, 0, 0, 0, []) := rfl
set_option maxRecDepth 20000 in
theorem claw_1031 : cdx (mC mLaw) 1031 = some (1031, .iconst 1, 1, 0, 0, 0, 0, []) := rfl
set_option maxRecDepth 20000 in
theorem claw_1032 : cdx (mC mLaw) 1032 = some (1032, .iadd, 1, 0, 0, 0, 0, []) := rfl
set_option maxRecDepth 20000 in
theorem claw_1033 : cdx (mC mLaw) 1033 = some (1033, .iaload, 1, 0, 0, 0, 0, []) := rfl
set_option maxRecDepth 20000 in
theorem claw_1034 : cdx (mC mLaw) 1034 = some (1034, .aload_n 0, 1, 0, 0, 0, 0, []) := rfl
set_option maxRecDepth 20000 in
theorem claw_1035 : cdx (mC mLaw) 1035 = some (1035, .iload_n 3, 1, 3, 0, 0, 0, []) := rfl
set_option maxRecDepth 20000 in
theorem claw_1036 : cdx (mC mLaw) 1036 = some (1036, .iconst 2, 1, 0, 0, 0, 0, []) := rfl
set_option maxRecDepth 20000 in
theorem claw_1037 : cdx (mC mLaw) 1037 = some (1037, .iadd, 1, 0, 0, 0, 0, []) := rfl
set_option maxRecDepth 20000 in
theorem claw_1038 : cdx (mC mLaw) 1038 = some (1038, .iaload, 1, 0, 0, 0, 0, []) := rfl
set_option maxRecDepth 20000 in
theorem claw_1039 : cdx (mC mLaw) 1039 = some (1039, .aload_n 0, 1, 0, 0, 0, 0, []) := rfl
set_option maxRecDepth 20000 in
theorem claw_1040 : cdx (mC mLaw) 1040 = some (1040, .iload_n 3, 1, 3, 0, 0, 0, []) := rfl
set_option maxRecDepth 20000 in
theorem claw_1041 : cdx (mC mLaw) 1041 = some (1041, .iconst 3, 1, 0, 0, 0, 0, []) := rfl
set_option maxRecDepth 20000 in
theorem claw_1042 : cdx (mC mLaw) 1042 = some (1042, .iadd, 1, 0, 0, 0, 0, []) := rfl
set_option maxRecDepth 20000 in
theorem claw_1043 : cdx (mC mLaw) 1043 = some (1043, .iaload, 1, 0, 0, 0, 0, []) := rfl
set_option maxRecDepth 20000 in
theorem claw_1044 : cdx (mC mLaw) 1044 = some (1044, .invokevirtual 131, 3, 121, 3, 0, 4040, [(9, 0)]) := rfl
set_option maxRecDepth 20000 in
theorem claw_1047 : cdx (mC mLaw) 1047 = some (1047, .aload_n 2, 1, 2, 0, 0, 0, []) := rfl
set_option maxRecDepth 20000 in
theorem claw_1048 : cdx (mC mLaw) 1048 = some (1048, .aload_n 0, 1, 0, 0, 0, 0, []) := rfl
set_option maxRecDepth 20000 in
theorem claw_1049 : cdx (mC mLaw) 1049 = some (1049, .iload_n 3, 1, 3, 0, 0, 0, []) := rfl
set_option maxRecDepth 20000 in
theorem claw_1050 : cdx (mC mLaw) 1050 = some (1050, .iconst 1, 1, 0, 0, 0, 0, []) := rfl
set_option maxRecDepth 20000 in
theorem claw_1051 : cdx (mC mLaw) 1051 = some (1051, .iadd, 1, 0, 0, 0, 0, []) := rfl
set_option maxRecDepth 20000 in
theorem claw_1052 : cdx (mC mLaw) 1052 = some (1052, .iaload, 1, 0, 0, 0, 0, []) := rfl
set_option maxRecDepth 20000 in
theorem claw_1053 : cdx (mC mLaw) 1053 = some (1053, .aload_n 0, 1, 0, 0, 0, 0, []) := rfl
set_option maxRecDepth 20000 in
theorem claw_1054 : cdx (mC mLaw) 1054 = some (1054, .iload_n 3, 1, 3, 0, 0, 0, []) := rfl
set_option maxRecDepth 20000 in
theorem claw_1055 : cdx (mC mLaw) 1055 = some (1055, .iconst 2, 1, 0, 0, 0, 0, []) := rfl
set_option maxRecDepth 20000 in
theorem claw_1056 : cdx (mC mLaw) 1056 = some (1056, .iadd, 1, 0, 0, 0, 0, []) := rfl
set_option maxRecDepth 20000 in
theorem claw_1057 : cdx (mC mLaw) 1057 = some (1057, .iaload, 1, 0, 0, 0, 0, []) := rfl
set_option maxRecDepth 20000 in
theorem claw_1058 : cdx (mC mLaw) 1058 = some (1058, .aload_n 0, 1, 0, 0, 0, 0, []) := rfl
set_option maxRecDepth 20000 in
theorem claw_1059 : cdx (mC mLaw) 1059 = some (1059, .iload_n 3, 1, 3, 0, 0, 0, []) := rfl
set_option maxRecDepth 20000 in
theorem claw_1060 : cdx (mC mLaw) 1060 = some (1060, .iconst 3, 1, 0, 0, 0, 0, []) := rfl
set_option maxRecDepth 20000 in
theorem claw_1061 : cdx (mC mLaw) 1061 = some (1061, .iadd, 1, 0, 0, 0, 0, []) := rfl
set_option maxRecDepth 20000 in
theorem claw_1062 : cdx (mC mLaw) 1062 = some (1062, .iaload, 1, 0, 0, 0, 0, []) := rfl
set_option maxRecDepth 20000 in
theorem claw_1063 : cdx (mC mLaw) 1063 = some (1063, .invokevirtual 134, 3, 220, 3, 0, 6161, [(10, 0)]) := rfl
set_option maxRecDepth 20000 in
theorem claw_1066 : cdx (mC mLaw) 1066 = some (1066, .if_icmp .eq 297, 3, 1363, 0, 0, 0, []) := rfl
set_option maxRecDepth 20000 in
theorem claw_1069 : cdx (mC mLaw) 1069 = some (1069, .iconst 0, 1, 0, 0, 0, 0, []) := rfl
set_option maxRecDepth 20000 in
theorem claw_1070 : cdx (mC mLaw) 1070 = some (1070, .ireturn, 1, 0, 0, 0, 0, []) := rfl
set_option maxRecDepth 20000 in
theorem claw_1071 : cdx (mC mLaw) 1071 = some (1071, .aload_n 1, 1, 1, 0, 0, 0, []) := rfl
set_option maxRecDepth 20000 in
theorem claw_1072 : cdx (mC mLaw) 1072 = some (1072, .aload_n 0, 1, 0, 0, 0, 0, []) := rfl
set_option maxRecDepth 20000 in
theorem claw_1073 : cdx (mC mLaw) 1073 = some (1073, .iload_n 3, 1, 3, 0, 0, 0, []) := rfl
set_option maxRecDepth 20000 in
theorem claw_1074 : cdx (mC mLaw) 1074 = some (1074, .iconst 1, 1, 0, 0, 0, 0, []) := rfl
set_option maxRecDepth 20000 in
theorem claw_1075 : cdx (mC mLaw) 1075 = some (1075, .iadd, 1, 0, 0, 0, 0, []) := rfl
set_option maxRecDepth 20000 in
theorem claw_1076 : cdx (mC mLaw) 1076 = some (1076, .iaload, 1, 0, 0, 0, 0, []) := rfl
set_option maxRecDepth 20000 in
theorem claw_1077 : cdx (mC mLaw) 1077 = some (1077, .invokevirtual 135, 3, 127, 1, 0, 4067, [(9, 0)]) := rfl
set_option maxRecDepth 20000 in
theorem claw_1080 : cdx (mC mLaw) 1080 = some (1080, .aload_n 2, 1, 2, 0, 0, 0, []) := rfl
set_option maxRecDepth 20000 in
theorem claw_1081 : cdx (mC mLaw) 1081 = some (1081, .aload_n 0, 1, 0, 0, 0, 0, []) := rfl
set_option maxRecDepth 20000 in
theorem claw_1082 : cdx (mC mLaw) 1082 = some (1082, .iload_n 3, 1, 3, 0, 0, 0, []) := rfl
set_option maxRecDepth 20000 in
theorem claw_1083 : cdx (mC mLaw) 1083 = some (1083, .iconst 1, 1, 0, 0, 0, 0, []) := rfl
set_option maxRecDepth 20000 in
theorem claw_1084 : cdx (mC mLaw) 1084 = some (1084, .iadd, 1, 0, 0, 0, 0, []) := rfl
set_option maxRecDepth 20000 in
theorem claw_1085 : cdx (mC mLaw) 1085 = some (1085, .iaload, 1, 0, 0, 0, 0, []) := rfl
set_option maxRecDepth 20000 in
theorem claw_1086 : cdx (mC mLaw) 1086 = some (1086, .invokevirtual 138, 3, 229, 1, 0, 6197, [(10, 0)]) := rfl
set_option maxRecDepth 20000 in
theorem claw_1089 : cdx (mC mLaw) 1089 = some (1089, .if_icmp .eq 274, 3, 1363, 0, 0, 0, []) := rfl
set_option maxRecDepth 20000 in
theorem claw_1092 : cdx (mC mLaw) 1092 = some (1092, .iconst 0, 1, 0, 0, 0, 0, []) := rfl
set_option maxRecDepth 20000 in
theorem claw_1093 : cdx (mC mLaw) 1093 = some (1093, .ireturn, 1, 0, 0, 0, 0, []) := rfl
set_option maxRecDepth 20000 in
theorem claw_1094 : cdx (mC mLaw) 1094 = some (1094, .aload_n 1, 1, 1, 0, 0, 0, []) := rfl
set_option maxRecDepth 20000 in
theorem claw_1095 : cdx (mC mLaw) 1095 = some (1095, .aload_n 0, 1, 0, 0, 0, 0, []) := rfl
set_option maxRecDepth 20000 in
theorem claw_1096 : cdx (mC mLaw) 1096 = some (1096, .iload_n 3, 1, 3, 0, 0, 0, []) := rfl
set_option maxRecDepth 20000 in
theorem claw_1097 : cdx (mC mLaw) 1097 = some (1097, .iconst 1, 1, 0, 0, 0, 0, []) := rfl
set_option maxRecDepth 20000 in
theorem claw_1098 : cdx (mC mLaw) 1098 = some (1098, .iadd, 1, 0, 0, 0, 0, []) := rfl
set_option maxRecDepth 20000 in
theorem claw_1099 : cdx (mC mLaw) 1099 = some (1099, .iaload, 1, 0, 0, 0, 0, []) := rfl
set_option maxRecDepth 20000 in
theorem claw_1100 : cdx (mC mLaw) 1100 = some (1100, .aload_n 0, 1, 0, 0, 0, 0, []) := rfl
set_option maxRecDepth 20000 in
theorem claw_1101 : cdx (mC mLaw) 1101 = some (1101, .iload_n 3, 1, 3, 0, 0, 0, []) := rfl
set_option maxRecDepth 20000 in
theorem claw_1102 : cdx (mC mLaw) 1102 = some (1102, .iconst 2, 1, 0, 0, 0, 0, []) := rfl
set_option maxRecDepth 20000 in
theorem claw_1103 : cdx (mC mLaw) 1103 = some (1103, .iadd, 1, 0, 0, 0, 0, []) := rfl
set_option maxRecDepth 20000 in
theorem claw_1104 : cdx (mC mLaw) 1104 = some (1104, .iaload, 1, 0, 0, 0, 0, []) := rfl
set_option maxRecDepth 20000 in
theorem claw_1105 : cdx (mC mLaw) 1105 = some (1105, .invokevirtual 139, 3, 129, 2, 0, 4075, [(9, 0)]) := rfl
set_option maxRecDepth 20000 in
theorem claw_1108 : cdx (mC mLaw) 1108 = some (1108, .aload_n 2, 1, 2, 0, 0, 0, []) := rfl
set_option maxRecDepth 20000 in
theorem claw_1109 : cdx (mC mLaw) 1109 = some (1109, .aload_n 0, 1, 0, 0, 0, 0, []) := rfl
set_option maxRecDepth 20000 in
theorem claw_1110 : cdx (mC mLaw) 1110 = some (1110, .iload_n 3, 1, 3, 0, 0, 0, []) := rfl
set_option maxRecDepth 20000 in
theorem claw_1111 : cdx (mC mLaw) 1111 = some (1111, .iconst 1, 1, 0, 0, 0, 0, []) := rfl
set_option maxRecDepth 20000 in
theorem claw_1112 : cdx (mC mLaw) 1112 = some (1112, .iadd, 1, 0, 0, 0, 0, []) := rfl
set_option maxRecDepth 20000 in
theorem claw_1113 : cdx (mC mLaw) 1113 = some (1113, .iaload, 1, 0, 0, 0, 0, []) := rfl
set_option maxRecDepth 20000 in
theorem claw_1114 : cdx (mC mLaw) 1114 = some (1114, .aload_n 0, 1, 0, 0, 0, 0, []) := rfl
set_option maxRecDepth 20000 in
theorem claw_1115 : cdx (mC mLaw) 1115 = some (1115, .iload_n 3, 1, 3, 0, 0, 0, []) := rfl
set_option maxRecDepth 20000 in
theorem claw_1116 : cdx (mC mLaw) 1116 = some (1116, .iconst 2, 1, 0, 0, 0, 0, []) := rfl
set_option maxRecDepth 20000 in
theorem claw_1117 : cdx (mC mLaw) 1117 = some (1117, .iadd, 1, 0, 0, 0, 0, []) := rfl
set_option maxRecDepth 20000 in
theorem claw_1118 : cdx (mC mLaw) 1118 = some (1118, .iaload, 1, 0, 0, 0, 0, []) := rfl
set_option maxRecDepth 20000 in
theorem claw_1119 : cdx (mC mLaw) 1119 = some (1119, .invokevirtual 142, 3, 230, 2, 0, 6201, [(10, 0)]) := rfl
set_option maxRecDepth 20000 in
theorem claw_1122 : cdx (mC mLaw) 1122 = some (1122, .if_icmp .eq 241, 3, 1363, 0, 0, 0, []) := rfl
set_option maxRecDepth 20000 in
theorem claw_1125 : cdx (mC mLaw) 1125 = some (1125, .iconst 0, 1, 0, 0, 0, 0, []) := rfl
set_option maxRecDepth 20000 in
theorem claw_1126 : cdx (mC mLaw) 1126 = some (1126, .ireturn, 1, 0, 0, 0, 0, []) := rfl
set_option maxRecDepth 20000 in
theorem claw_1127 : cdx (mC mLaw) 1127 = some (1127, .aload_n 1, 1, 1, 0, 0, 0, []) := rfl
set_option maxRecDepth 20000 in
theorem claw_1128 : cdx (mC mLaw) 1128 = some (1128, .aload_n 0, 1, 0, 0, 0, 0, []) := rfl
set_option maxRecDepth 20000 in
theorem claw_1129 : cdx (mC mLaw) 1129 = some (1129, .iload_n 3, 1, 3, 0, 0, 0, []) := rfl
set_option maxRecDepth 20000 in
theorem claw_1130 : cdx (mC mLaw) 1130 = some (1130, .iconst 1, 1, 0, 0, 0, 0, []) := rfl
set_option maxRecDepth 20000 in
theorem claw_1131 : cdx (mC mLaw) 1131 = some (1131, .iadd, 1, 0, 0, 0, 0, []) := rfl
set_option maxRecDepth 20000 in
theorem claw_1132 : cdx (mC mLaw) 1132 = some (1132, .iaload, 1, 0, 0, 0, 0, []) := rfl
set_option maxRecDepth 20000 in
theorem claw_1133 : cdx (mC mLaw) 1133 = some (1133, .invokevirtual 143, 3, 131, 1, 0, 4084, [(9, 0)]) := rfl
set_option maxRecDepth 20000 in
theorem claw_1136 : cdx (mC mLaw) 1136 = some (1136, .aload_n 2, 1, 2, 0, 0, 0, []) := rfl
set_option maxRecDepth 20000 in
theorem claw_1137 : cdx (mC mLaw) 1137 = some (1137, .aload_n 0, 1, 0, 0, 0, 0, []) := rfl
set_option maxRecDepth 20000 in
theorem claw_1138 : cdx (mC mLaw) 1138 = some (1138, .iload_n 3, 1, 3, 0, 0, 0, []) := rfl
set_option maxRecDepth 20000 in
theorem claw_1139 : cdx (mC mLaw) 1139 = some (1139, .iconst 1, 1, 0, 0, 0, 0, []) := rfl
set_option maxRecDepth 20000 in
theorem claw_1140 : cdx (mC mLaw) 1140 = some (1140, .iadd, 1, 0, 0, 0, 0, []) := rfl
set_option maxRecDepth 20000 in
theorem claw_1141 : cdx (mC mLaw) 1141 = some (1141, .iaload, 1, 0, 0, 0, 0, []) := rfl
set_option maxRecDepth 20000 in
theorem claw_1142 : cdx (mC mLaw) 1142 = some (1142, .invokevirtual 146, 3, 231, 1, 0, 6205, [(10, 0)]) := rfl
set_option maxRecDepth 20000 in
theorem claw_1145 : cdx (mC mLaw) 1145 = some (1145, .if_icmp .eq 218, 3, 1363, 0, 0, 0, []) := rfl
set_option maxRecDepth 20000 in
theorem claw_1148 : cdx (mC mLaw) 1148 = some (1148, .iconst 0, 1, 0, 0, 0, 0, []) := rfl
set_option maxRecDepth 20000 in
theorem claw_1149 : cdx (mC mLaw) 1149 = some (1149, .ireturn, 1, 0, 0, 0, 0, []) := rfl
set_option maxRecDepth 20000 in
theorem claw_1150 : cdx (mC mLaw) 1150 = some (1150, .aload_n 1, 1, 1, 0, 0, 0, []) := rfl
set_option maxRecDepth 20000 in
theorem claw_1151 : cdx (mC mLaw) 1151 = some (1151, .aload_n 0, 1, 0, 0, 0, 0, []) := rfl
set_option maxRecDepth 20000 in
theorem claw_1152 : cdx (mC mLaw) 1152 = some (1152, .iload_n 3, 1, 3, 0, 0, 0, []) := rfl
set_option maxRecDepth 20000 in
theorem claw_1153 : cdx (mC mLaw) 1153 = some (1153, .iconst 1, 1, 0, 0, 0, 0, []) := rfl
set_option maxRecDepth 20000 in
theorem claw_1154 : cdx (mC mLaw) 1154 = some (1154, .iadd, 1, 0, 0, 0, 0, []) := rfl
set_option maxRecDepth 20000 in
theorem claw_1155 : cdx (mC mLaw) 1155 = some (1155, .iaload, 1, 0, 0, 0, 0, []) := rfl
set_option maxRecDepth 20000 in
theorem claw_1156 : cdx (mC mLaw) 1156 = some (1156, .aload_n 0, 1, 0, 0, 0, 0, []) := rfl
set_option maxRecDepth 20000 in
theorem claw_1157 : cdx (mC mLaw) 1157 = some (1157, .iload_n 3, 1, 3, 0, 0, 0, []) := rfl
set_option maxRecDepth 20000 in
theorem claw_1158 : cdx (mC mLaw) 1158 = some (1158, .iconst 2, 1, 0, 0, 0, 0, []) := rfl
set_option maxRecDepth 20000 in
theorem claw_1159 : cdx (mC mLaw) 1159 = some (1159, .iadd, 1, 0, 0, 0, 0, []) := rfl
set_option maxRecDepth 20000 in
theorem claw_1160 : cdx (mC mLaw) 1160 = some (1160, .iaload, 1, 0, 0, 0, 0, []) := rfl
set_option maxRecDepth 20000 in
theorem claw_1161 : cdx (mC mLaw) 1161 = some (1161, .aload_n 0, 1, 0, 0, 0, 0, []) := rfl
set_option maxRecDepth 20000 in
theorem claw_1162 : cdx (mC mLaw) 1162 = some (1162, .iload_n 3, 1, 3, 0, 0, 0, []) := rfl
set_option maxRecDepth 20000 in
theorem claw_1163 : cdx (mC mLaw) 1163 = some (1163, .iconst 3, 1, 0, 0, 0, 0, []) := rfl
set_option maxRecDepth 20000 in
theorem claw_1164 : cdx (mC mLaw) 1164 = some (1164, .iadd, 1, 0, 0, 0, 0, []) := rfl
set_option maxRecDepth 20000 in
theorem claw_1165 : cdx (mC mLaw) 1165 = some (1165, .iaload, 1, 0, 0, 0, 0, []) := rfl
set_option maxRecDepth 20000 in
theorem claw_1166 : cdx (mC mLaw) 1166 = some (1166, .invokevirtual 147, 3, 132, 3, 0, 4088, [(9, 0)]) := rfl
set_option maxRecDepth 20000 in
theorem claw_1169 : cdx (mC mLaw) 1169 = some (1169, .aload_n 2, 1, 2, 0, 0, 0, []) := rfl
set_option maxRecDepth 20000 in
theorem claw_1170 : cdx (mC mLaw) 1170 = some (1170, .aload_n 0, 1, 0, 0, 0, 0, []) := rfl
set_option maxRecDepth 20000 in
theorem claw_1171 : cdx (mC mLaw) 1171 = some (1171, .iload_n 3, 1, 3, 0, 0, 0, []) := rfl
set_option maxRecDepth 20000 in
theorem claw_1172 : cdx (mC mLaw) 1172 = some (1172, .iconst 1, 1, 0, 0, 0, 0, []) := rfl
set_option maxRecDepth 20000 in
theorem claw_1173 : cdx (mC mLaw) 1173 = some (1173, .iadd, 1, 0, 0, 0, 0, []) := rfl
set_option maxRecDepth 20000 in
theorem claw_1174 : cdx (mC mLaw) 1174 = some (1174, .iaload, 1, 0, 0, 0, 0, []) := rfl
set_option maxRecDepth 20000 in
theorem claw_1175 : cdx (mC mLaw) 1175 = some (1175, .aload_n 0, 1, 0, 0, 0, 0, []) := rfl
set_option maxRecDepth 20000 in
theorem claw_1176 : cdx (mC mLaw) 1176 = some (1176, .iload_n 3, 1, 3, 0, 0, 0, []) := rfl
set_option maxRecDepth 20000 in
theorem claw_1177 : cdx (mC mLaw) 1177 = some (1177, .iconst 2, 1, 0, 0, 0, 0, []) := rfl
set_option maxRecDepth 20000 in
theorem claw_1178 : cdx (mC mLaw) 1178 = some (1178, .iadd, 1, 0, 0, 0, 0, []) := rfl
set_option maxRecDepth 20000 in
theorem claw_1179 : cdx (mC mLaw) 1179 = some (1179, .iaload, 1, 0, 0, 0, 0, []) := rfl
set_option maxRecDepth 20000 in
theorem claw_1180 : cdx (mC mLaw) 1180 = some (1180, .aload_n 0, 1, 0, 0, 0, 0, []) := rfl
set_option maxRecDepth 20000 in
theorem claw_1181 : cdx (mC mLaw) 1181 = some (1181, .iload_n 3, 1, 3, 0, 0, 0, []) := rfl
set_option maxRecDepth 20000 in
theorem claw_1182 : cdx (mC mLaw) 1182 = some (1182, .iconst 3, 1, 0, 0, 0, 0, []) := rfl
set_option maxRecDepth 20000 in
theorem claw_1183 : cdx (mC mLaw) 1183 = some (1183, .iadd, 1, 0, 0, 0, 0, []) := rfl
set_option maxRecDepth 20000 in
theorem claw_1184 : cdx (mC mLaw) 1184 = some (1184, .iaload, 1, 0, 0, 0, 0, []) := rfl
set_option maxRecDepth 20000 in
theorem claw_1185 : cdx (mC mLaw) 1185 = some (1185, .invokevirtual 150, 3, 232, 3, 0, 6209, [(10, 0)]) := rfl
set_option maxRecDepth 20000 in
theorem claw_1188 : cdx (mC mLaw) 1188 = some (1188, .if_icmp .eq 175, 3, 1363, 0, 0, 0, []) := rfl
set_option maxRecDepth 20000 in
theorem claw_1191 : cdx (mC mLaw) 1191 = some (1191, .iconst 0, 1, 0, 0, 0, 0, []) := rfl
set_option maxRecDepth 20000 in
theorem claw_1192 : cdx (mC mLaw) 1192 = some (1192, .ireturn, 1, 0, 0, 0, 0, []) := rfl
set_option maxRecDepth 20000 in
theorem claw_1193 : cdx (mC mLaw) 1193 = some (1193, .aload_n 1, 1, 1, 0, 0, 0, []) := rfl
set_option maxRecDepth 20000 in
theorem claw_1194 : cdx (mC mLaw) 1194 = some (1194, .aload_n 0, 1, 0, 0, 0, 0, []) := rfl
set_option maxRecDepth 20000 in
theorem claw_1195 : cdx (mC mLaw) 1195 = some (1195, .iload_n 3, 1, 3, 0, 0, 0, []) := rfl
set_option maxRecDepth 20000 in
theorem claw_1196 : cdx (mC mLaw) 1196 = some (1196, .iconst 1, 1, 0, 0, 0, 0, []) := rfl
set_option maxRecDepth 20000 in
theorem claw_1197 : cdx (mC mLaw) 1197 = some (1197, .iadd, 1, 0, 0, 0, 0, []) := rfl
set_option maxRecDepth 20000 in
theorem claw_1198 : cdx (mC mLaw) 1198 = some (1198, .iaload, 1, 0, 0, 0, 0, []) := rfl
set_option maxRecDepth 20000 in
theorem claw_1199 : cdx (mC mLaw) 1199 = some (1199, .aload_n 0, 1, 0, 0, 0, 0, []) := rfl
set_option maxRecDepth 20000 in
theorem claw_1200 : cdx (mC mLaw) 1200 = some (1200, .iload_n 3, 1, 3, 0, 0, 0, []) := rfl
set_option maxRecDepth 20000 in
theorem claw_1201 : cdx (mC mLaw) 1201 = some (1201, .iconst 2, 1, 0, 0, 0, 0, []) := rfl
set_option maxRecDepth 20000 in
theorem claw_1202 : cdx (mC mLaw) 1202 = some (1202, .iadd, 1, 0, 0, 0, 0, []) := rfl
set_option maxRecDepth 20000 in
theorem claw_1203 : cdx (mC mLaw) 1203 = some (1203, .iaload, 1, 0, 0, 0, 0, []) := rfl
set_option maxRecDepth 20000 in
theorem claw_1204 : cdx (mC mLaw) 1204 = some (1204, .aload_n 0, 1, 0, 0, 0, 0, []) := rfl
set_option maxRecDepth 20000 in
theorem claw_1205 : cdx (mC mLaw) 1205 = some (1205, .iload_n 3, 1, 3, 0, 0, 0, []) := rfl
set_option maxRecDepth 20000 in
theorem claw_1206 : cdx (mC mLaw) 1206 = some (1206, .iconst 3, 1, 0, 0, 0, 0, []) := rfl
set_option maxRecDepth 20000 in
theorem claw_1207 : cdx (mC mLaw) 1207 = some (1207, .iadd, 1, 0, 0, 0, 0, []) := rfl
set_option maxRecDepth 20000 in
theorem claw_1208 : cdx (mC mLaw) 1208 = some (1208, .iaload, 1, 0, 0, 0, 0, []) := rfl
set_option maxRecDepth 20000 in
theorem claw_1209 : cdx (mC mLaw) 1209 = some (1209, .i2l, 1, 0, 0, 0, 0, []) := rfl
set_option maxRecDepth 20000 in
theorem claw_1210 : cdx (mC mLaw) 1210 = some (1210, .bipush 32, 2, 0, 0, 0, 0, []) := rfl
set_option maxRecDepth 20000 in
theorem claw_1212 : cdx (mC mLaw) 1212 = some (1212, .lshl, 1, 0, 0, 0, 0, []) := rfl
set_option maxRecDepth 20000 in
theorem claw_1213 : cdx (mC mLaw) 1213 = some (1213, .aload_n 0, 1, 0, 0, 0, 0, []) := rfl
set_option maxRecDepth 20000 in
theorem claw_1214 : cdx (mC mLaw) 1214 = some (1214, .iload_n 3, 1, 3, 0, 0, 0, []) := rfl
set_option maxRecDepth 20000 in
theorem claw_1215 : cdx (mC mLaw) 1215 = some (1215, .iconst 4, 1, 0, 0, 0, 0, []) := rfl
set_option maxRecDepth 20000 in
theorem claw_1216 : cdx (mC mLaw) 1216 = some (1216, .iadd, 1, 0, 0, 0, 0, []) := rfl
set_option maxRecDepth 20000 in
theorem claw_1217 : cdx (mC mLaw) 1217 = some (1217, .iaload, 1, 0, 0, 0, 0, []) := rfl
set_option maxRecDepth 20000 in
theorem claw_1218 : cdx (mC mLaw) 1218 = some (1218, .i2l, 1, 0, 0, 0, 0, []) := rfl
set_option maxRecDepth 20000 in
theorem claw_1219 : cdx (mC mLaw) 1219 = some (1219, .ldc2_w 151, 3, 0, 0, 0, 6229, [(4294967295, 0)]) := rfl
set_option maxRecDepth 20000 in
theorem claw_1222 : cdx (mC mLaw) 1222 = some (1222, .land, 1, 0, 0, 0, 0, []) := rfl
set_option maxRecDepth 20000 in
theorem claw_1223 : cdx (mC mLaw) 1223 = some (1223, .lor, 1, 0, 0, 0, 0, []) := rfl
set_option maxRecDepth 20000 in
theorem claw_1224 : cdx (mC mLaw) 1224 = some (1224, .invokevirtual 153, 3, 135, 3, 0, 4099, [(9, 0)]) := rfl
set_option maxRecDepth 20000 in
theorem claw_1227 : cdx (mC mLaw) 1227 = some (1227, .aload_n 2, 1, 2, 0, 0, 0, []) := rfl
set_option maxRecDepth 20000 in
theorem claw_1228 : cdx (mC mLaw) 1228 = some (1228, .aload_n 0, 1, 0, 0, 0, 0, []) := rfl
set_option maxRecDepth 20000 in
theorem claw_1229 : cdx (mC mLaw) 1229 = some (1229, .iload_n 3, 1, 3, 0, 0, 0, []) := rfl
set_option maxRecDepth 20000 in
theorem claw_1230 : cdx (mC mLaw) 1230 = some (1230, .iconst 1, 1, 0, 0, 0, 0, []) := rfl
set_option maxRecDepth 20000 in
theorem claw_1231 : cdx (mC mLaw) 1231 = some (1231, .iadd, 1, 0, 0, 0, 0, []) := rfl
set_option maxRecDepth 20000 in
theorem claw_1232 : cdx (mC mLaw) 1232 = some (1232, .iaload, 1, 0, 0, 0, 0, []) := rfl
set_option maxRecDepth 20000 in
theorem claw_1233 : cdx (mC mLaw) 1233 = some (1233, .aload_n 0, 1, 0, 0, 0, 0, []) := rfl
set_option maxRecDepth 20000 in
theorem claw_1234 : cdx (mC mLaw) 1234 = some (1234, .iload_n 3, 1, 3, 0, 0, 0, []) := rfl
set_option maxRecDepth 20000 in
theorem claw_1235 : cdx (mC mLaw) 1235 = some (1235, .iconst 2, 1, 0, 0, 0, 0, []) := rfl
set_option maxRecDepth 20000 in
theorem claw_1236 : cdx (mC mLaw) 1236 = some (1236, .iadd, 1, 0, 0, 0, 0, []) := rfl
set_option maxRecDepth 20000 in
theorem claw_1237 : cdx (mC mLaw) 1237 = some (1237, .iaload, 1, 0, 0, 0, 0, []) := rfl
set_option maxRecDepth 20000 in
theorem claw_1238 : cdx (mC mLaw) 1238 = some (1238, .aload_n 0, 1, 0, 0, 0, 0, []) := rfl
set_option maxRecDepth 20000 in
theorem claw_1239 : cdx (mC mLaw) 1239 = some (1239, .iload_n 3, 1, 3, 0, 0, 0, []) := rfl
set_option maxRecDepth 20000 in
theorem claw_1240 : cdx (mC mLaw) 1240 = some (1240, .iconst 3, 1, 0, 0, 0, 0, []) := rfl
set_option maxRecDepth 20000 in
theorem claw_1241 : cdx (mC mLaw) 1241 = some (1241, .iadd, 1, 0, 0, 0, 0, []) := rfl
set_option maxRecDepth 20000 in
theorem claw_1242 : cdx (mC mLaw) 1242 = some (1242, .iaload, 1, 0, 0, 0, 0, []) := rfl
set_option maxRecDepth 20000 in
theorem claw_1243 : cdx (mC mLaw) 1243 = some (1243, .i2l, 1, 0, 0, 0, 0, []) := rfl
set_option maxRecDepth 20000 in
theorem claw_1244 : cdx (mC mLaw) 1244 = some (1244, .bipush 32, 2, 0, 0, 0, 0, []) := rfl
set_option maxRecDepth 20000 in
theorem claw_1246 : cdx (mC mLaw) 1246 = some (1246, .lshl, 1, 0, 0, 0, 0, []) := rfl
set_option maxRecDepth 20000 in
theorem claw_1247 : cdx (mC mLaw) 1247 = some (1247, .aload_n 0, 1, 0, 0, 0, 0, []) := rfl
set_option maxRecDepth 20000 in
theorem claw_1248 : cdx (mC mLaw) 1248 = some (1248, .iload_n 3, 1, 3, 0, 0, 0, []) := rfl
set_option maxRecDepth 20000 in
theorem claw_1249 : cdx (mC mLaw) 1249 = some (1249, .iconst 4, 1, 0, 0, 0, 0, []) := rfl
set_option maxRecDepth 20000 in
theorem claw_1250 : cdx (mC mLaw) 1250 = some (1250, .iadd, 1, 0, 0, 0, 0, []) := rfl
set_option maxRecDepth 20000 in
theorem claw_1251 : cdx (mC mLaw) 1251 = some (1251, .iaload, 1, 0, 0, 0, 0, []) := rfl
set_option maxRecDepth 20000 in
theorem claw_1252 : cdx (mC mLaw) 1252 = some (1252, .i2l, 1, 0, 0, 0, 0, []) := rfl
set_option maxRecDepth 20000 in
theorem claw_1253 : cdx (mC mLaw) 1253 = some (1253, .ldc2_w 151, 3, 0, 0, 0, 6229, [(4294967295, 0)]) := rfl
set_option maxRecDepth 20000 in
theorem claw_1256 : cdx (mC mLaw) 1256 = some (1256, .land, 1, 0, 0, 0, 0, []) := rfl
set_option maxRecDepth 20000 in
theorem claw_1257 : cdx (mC mLaw) 1257 = some (1257, .lor, 1, 0, 0, 0, 0, []) := rfl
set_option maxRecDepth 20000 in
theorem claw_1258 : cdx (mC mLaw) 1258 = some (1258, .invokevirtual 157, 3, 233, 3, 0, 6213, [(10, 0)]) := rfl
set_option maxRecDepth 20000 in
theorem claw_1261 : cdx (mC mLaw) 1261 = some (1261, .if_icmp .eq 102, 3, 1363, 0, 0, 0, []) := rfl
set_option maxRecDepth 20000 in
theorem claw_1264 : cdx (mC mLaw) 1264 = some (1264, .iconst 0, 1, 0, 0, 0, 0, []) := rfl
set_option maxRecDepth 20000 in
theorem claw_1265 : cdx (mC mLaw) 1265 = some (1265, .ireturn, 1, 0, 0, 0, 0, []) := rfl
set_option maxRecDepth 20000 in
theorem claw_1266 : cdx (mC mLaw) 1266 = some (1266, .aload_n 1, 1, 1, 0, 0, 0, []) := rfl
set_option maxRecDepth 20000 in
theorem claw_1267 : cdx (mC mLaw) 1267 = some (1267, .aload_n 0, 1, 0, 0, 0, 0, []) := rfl
set_option maxRecDepth 20000 in
theorem claw_1268 : cdx (mC mLaw) 1268 = some (1268, .iload_n 3, 1, 3, 0, 0, 0, []) := rfl
set_option maxRecDepth 20000 in
theorem claw_1269 : cdx (mC mLaw) 1269 = some (1269, .iconst 1, 1, 0, 0, 0, 0, []) := rfl
set_option maxRecDepth 20000 in
theorem claw_1270 : cdx (mC mLaw) 1270 = some (1270, .iadd, 1, 0, 0, 0, 0, []) := rfl
set_option maxRecDepth 20000 in
theorem claw_1271 : cdx (mC mLaw) 1271 = some (1271, .iaload, 1, 0, 0, 0, 0, []) := rfl
set_option maxRecDepth 20000 in
theorem claw_1272 : cdx (mC mLaw) 1272 = some (1272, .aload_n 0, 1, 0, 0, 0, 0, []) := rfl
set_option maxRecDepth 20000 in
theorem claw_1273 : cdx (mC mLaw) 1273 = some (1273, .iload_n 3, 1, 3, 0, 0, 0, []) := rfl
set_option maxRecDepth 20000 in
theorem claw_1274 : cdx (mC mLaw) 1274 = some (1274, .iconst 2, 1, 0, 0, 0, 0, []) := rfl
set_option maxRecDepth 20000 in
theorem claw_1275 : cdx (mC mLaw) 1275 = some (1275, .iadd, 1, 0, 0, 0, 0, []) := rfl
set_option maxRecDepth 20000 in
theorem claw_1276 : cdx (mC mLaw) 1276 = some (1276, .iaload, 1, 0, 0, 0, 0, []) := rfl
set_option maxRecDepth 20000 in
theorem claw_1277 : cdx (mC mLaw) 1277 = some (1277, .invokevirtual 158, 3, 138, 2, 0, 4111, [(9, 0)]) := rfl
set_option maxRecDepth 20000 in
theorem claw_1280 : cdx (mC mLaw) 1280 = some (1280, .aload_n 2, 1, 2, 0, 0, 0, []) := rfl
set_option maxRecDepth 20000 in
theorem claw_1281 : cdx (mC mLaw) 1281 = some (1281, .aload_n 0, 1, 0, 0, 0, 0, []) := rfl
set_option maxRecDepth 20000 in
theorem claw_1282 : cdx (mC mLaw) 1282 = some (1282, .iload_n 3, 1, 3, 0, 0, 0, []) := rfl
set_option maxRecDepth 20000 in
theorem claw_1283 : cdx (mC mLaw) 1283 = some (1283, .iconst 1, 1, 0, 0, 0, 0, []) := rfl
set_option maxRecDepth 20000 in
theorem claw_1284 : cdx (mC mLaw) 1284 = some (1284, .iadd, 1, 0, 0, 0, 0, []) := rfl
set_option maxRecDepth 20000 in
theorem claw_1285 : cdx (mC mLaw) 1285 = some (1285, .iaload, 1, 0, 0, 0, 0, []) := rfl
set_option maxRecDepth 20000 in
theorem claw_1286 : cdx (mC mLaw) 1286 = some (1286, .aload_n 0, 1, 0, 0, 0, 0, []) := rfl
set_option maxRecDepth 20000 in
theorem claw_1287 : cdx (mC mLaw) 1287 = some (1287, .iload_n 3, 1, 3, 0, 0, 0, []) := rfl
set_option maxRecDepth 20000 in
theorem claw_1288 : cdx (mC mLaw) 1288 = some (1288, .iconst 2, 1, 0, 0, 0, 0, []) := rfl
set_option maxRecDepth 20000 in
theorem claw_1289 : cdx (mC mLaw) 1289 = some (1289, .iadd, 1, 0, 0, 0, 0, []) := rfl
set_option maxRecDepth 20000 in
theorem claw_1290 : cdx (mC mLaw) 1290 = some (1290, .iaload, 1, 0, 0, 0, 0, []) := rfl
set_option maxRecDepth 20000 in
theorem claw_1291 : cdx (mC mLaw) 1291 = some (1291, .invokevirtual 162, 3, 235, 2, 0, 6221, [(10, 0)]) := rfl
set_option maxRecDepth 20000 in
theorem claw_1294 : cdx (mC mLaw) 1294 = some (1294, .lcmp, 1, 0, 0, 0, 0, []) := rfl
set_option maxRecDepth 20000 in
theorem claw_1295 : cdx (mC mLaw) 1295 = some (1295, .ifCond .eq 68, 3, 1363, 0, 0, 0, []) := rfl
set_option maxRecDepth 20000 in
theorem claw_1298 : cdx (mC mLaw) 1298 = some (1298, .iconst 0, 1, 0, 0, 0, 0, []) := rfl
set_option maxRecDepth 20000 in
theorem claw_1299 : cdx (mC mLaw) 1299 = some (1299, .ireturn, 1, 0, 0, 0, 0, []) := rfl
set_option maxRecDepth 20000 in
theorem claw_1300 : cdx (mC mLaw) 1300 = some (1300, .aload_n 1, 1, 1, 0, 0, 0, []) := rfl
set_option maxRecDepth 20000 in
theorem claw_1301 : cdx (mC mLaw) 1301 = some (1301, .aload_n 0, 1, 0, 0, 0, 0, []) := rfl
set_option maxRecDepth 20000 in
theorem claw_1302 : cdx (mC mLaw) 1302 = some (1302, .iload_n 3, 1, 3, 0, 0, 0, []) := rfl
set_option maxRecDepth 20000 in
theorem claw_1303 : cdx (mC mLaw) 1303 = some (1303, .iconst 1, 1, 0, 0, 0, 0, []) := rfl
set_option maxRecDepth 20000 in
theorem claw_1304 : cdx (mC mLaw) 1304 = some (1304, .iadd, 1, 0, 0, 0, 0, []) := rfl
set_option maxRecDepth 20000 in
theorem claw_1305 : cdx (mC mLaw) 1305 = some (1305, .iaload, 1, 0, 0, 0, 0, []) := rfl
set_option maxRecDepth 20000 in
theorem claw_1306 : cdx (mC mLaw) 1306 = some (1306, .aload_n 0, 1, 0, 0, 0, 0, []) := rfl
set_option maxRecDepth 20000 in
theorem claw_1307 : cdx (mC mLaw) 1307 = some (1307, .iload_n 3, 1, 3, 0, 0, 0, []) := rfl
set_option maxRecDepth 20000 in
theorem claw_1308 : cdx (mC mLaw) 1308 = some (1308, .iconst 2, 1, 0, 0, 0, 0, []) := rfl
set_option maxRecDepth 20000 in
theorem claw_1309 : cdx (mC mLaw) 1309 = some (1309, .iadd, 1, 0, 0, 0, 0, []) := rfl
set_option maxRecDepth 20000 in
theorem claw_1310 : cdx (mC mLaw) 1310 = some (1310, .iaload, 1, 0, 0, 0, 0, []) := rfl
set_option maxRecDepth 20000 in
theorem claw_1311 : cdx (mC mLaw) 1311 = some (1311, .aload_n 0, 1, 0, 0, 0, 0, []) := rfl
set_option maxRecDepth 20000 in
theorem claw_1312 : cdx (mC mLaw) 1312 = some (1312, .iload_n 3, 1, 3, 0, 0, 0, []) := rfl
set_option maxRecDepth 20000 in
theorem claw_1313 : cdx (mC mLaw) 1313 = some (1313, .iconst 3, 1, 0, 0, 0, 0, []) := rfl
set_option maxRecDepth 20000 in
theorem claw_1314 : cdx (mC mLaw) 1314 = some (1314, .iadd, 1, 0, 0, 0, 0, []) := rfl
set_option maxRecDepth 20000 in
theorem claw_1315 : cdx (mC mLaw) 1315 = some (1315, .iaload, 1, 0, 0, 0, 0, []) := rfl
set_option maxRecDepth 20000 in
theorem claw_1316 : cdx (mC mLaw) 1316 = some (1316, .aload_n 0, 1, 0, 0, 0, 0, []) := rfl
set_option maxRecDepth 20000 in
theorem claw_1317 : cdx (mC mLaw) 1317 = some (1317, .iload_n 3, 1, 3, 0, 0, 0, []) := rfl
set_option maxRecDepth 20000 in
theorem claw_1318 : cdx (mC mLaw) 1318 = some (1318, .iconst 4, 1, 0, 0, 0, 0, []) := rfl
set_option maxRecDepth 20000 in
theorem claw_1319 : cdx (mC mLaw) 1319 = some (1319, .iadd, 1, 0, 0, 0, 0, []) := rfl
set_option maxRecDepth 20000 in
theorem claw_1320 : cdx (mC mLaw) 1320 = some (1320, .iaload, 1, 0, 0, 0, 0, []) := rfl
set_option maxRecDepth 20000 in
theorem claw_1321 : cdx (mC mLaw) 1321 = some (1321, .aload_n 0, 1, 0, 0, 0, 0, []) := rfl
set_option maxRecDepth 20000 in
theorem claw_1322 : cdx (mC mLaw) 1322 = some (1322, .iload_n 3, 1, 3, 0, 0, 0, []) := rfl
set_option maxRecDepth 20000 in
theorem claw_1323 : cdx (mC mLaw) 1323 = some (1323, .iconst 5, 1, 0, 0, 0, 0, []) := rfl
set_option maxRecDepth 20000 in
theorem claw_1324 : cdx (mC mLaw) 1324 = some (1324, .iadd, 1, 0, 0, 0, 0, []) := rfl
set_option maxRecDepth 20000 in
theorem claw_1325 : cdx (mC mLaw) 1325 = some (1325, .iaload, 1, 0, 0, 0, 0, []) := rfl
set_option maxRecDepth 20000 in
theorem claw_1326 : cdx (mC mLaw) 1326 = some (1326, .invokevirtual 163, 3, 139, 5, 0, 4115, [(9, 0)]) := rfl
set_option maxRecDepth 20000 in
theorem claw_1329 : cdx (mC mLaw) 1329 = some (1329, .aload_n 2, 1, 2, 0, 0, 0, []) := rfl
set_option maxRecDepth 20000 in
theorem claw_1330 : cdx (mC mLaw) 1330 = some (1330, .aload_n 0, 1, 0, 0, 0, 0, []) := rfl
set_option maxRecDepth 20000 in
theorem claw_1331 : cdx (mC mLaw) 1331 = some (1331, .iload_n 3, 1, 3, 0, 0, 0, []) := rfl
set_option maxRecDepth 20000 in
theorem claw_1332 : cdx (mC mLaw) 1332 = some (1332, .iconst 1, 1, 0, 0, 0, 0, []) := rfl
set_option maxRecDepth 20000 in
theorem claw_1333 : cdx (mC mLaw) 1333 = some (1333, .iadd, 1, 0, 0, 0, 0, []) := rfl
set_option maxRecDepth 20000 in
theorem claw_1334 : cdx (mC mLaw) 1334 = some (1334, .iaload, 1, 0, 0, 0, 0, []) := rfl
set_option maxRecDepth 20000 in
theorem claw_1335 : cdx (mC mLaw) 1335 = some (1335, .aload_n 0, 1, 0, 0, 0, 0, []) := rfl
set_option maxRecDepth 20000 in
theorem claw_1336 : cdx (mC mLaw) 1336 = some (1336, .iload_n 3, 1, 3, 0, 0, 0, []) := rfl
set_option maxRecDepth 20000 in
theorem claw_1337 : cdx (mC mLaw) 1337 = some (1337, .iconst 2, 1, 0, 0, 0, 0, []) := rfl
set_option maxRecDepth 20000 in
theorem claw_1338 : cdx (mC mLaw) 1338 = some (1338, .iadd, 1, 0, 0, 0, 0, []) := rfl
set_option maxRecDepth 20000 in
theorem claw_1339 : cdx (mC mLaw) 1339 = some (1339, .iaload, 1, 0, 0, 0, 0, []) := rfl
set_option maxRecDepth 20000 in
theorem claw_1340 : cdx (mC mLaw) 1340 = some (1340, .aload_n 0, 1, 0, 0, 0, 0, []) := rfl
set_option maxRecDepth 20000 in
theorem claw_1341 : cdx (mC mLaw) 1341 = some (1341, .iload_n 3, 1, 3, 0, 0, 0, []) := rfl
set_option maxRecDepth 20000 in
theorem claw_1342 : cdx (mC mLaw) 1342 = some (1342, .iconst 3, 1, 0, 0, 0, 0, []) := rfl
set_option maxRecDepth 20000 in
theorem claw_1343 : cdx (mC mLaw) 1343 = some (1343, .iadd, 1, 0, 0, 0, 0, []) := rfl
set_option maxRecDepth 20000 in
theorem claw_1344 : cdx (mC mLaw) 1344 = some (1344, .iaload, 1, 0, 0, 0, 0, []) := rfl
set_option maxRecDepth 20000 in
theorem claw_1345 : cdx (mC mLaw) 1345 = some (1345, .aload_n 0, 1, 0, 0, 0, 0, []) := rfl
set_option maxRecDepth 20000 in
theorem claw_1346 : cdx (mC mLaw) 1346 = some (1346, .iload_n 3, 1, 3, 0, 0, 0, []) := rfl
set_option maxRecDepth 20000 in
theorem claw_1347 : cdx (mC mLaw) 1347 = some (1347, .iconst 4, 1, 0, 0, 0, 0, []) := rfl
set_option maxRecDepth 20000 in
theorem claw_1348 : cdx (mC mLaw) 1348 = some (1348, .iadd, 1, 0, 0, 0, 0, []) := rfl
set_option maxRecDepth 20000 in
theorem claw_1349 : cdx (mC mLaw) 1349 = some (1349, .iaload, 1, 0, 0, 0, 0, []) := rfl
set_option maxRecDepth 20000 in
theorem claw_1350 : cdx (mC mLaw) 1350 = some (1350, .aload_n 0, 1, 0, 0, 0, 0, []) := rfl
set_option maxRecDepth 20000 in
theorem claw_1351 : cdx (mC mLaw) 1351 = some (1351, .iload_n 3, 1, 3, 0, 0, 0, []) := rfl
set_option maxRecDepth 20000 in
theorem claw_1352 : cdx (mC mLaw) 1352 = some (1352, .iconst 5, 1, 0, 0, 0, 0, []) := rfl
set_option maxRecDepth 20000 in
theorem claw_1353 : cdx (mC mLaw) 1353 = some (1353, .iadd, 1, 0, 0, 0, 0, []) := rfl
set_option maxRecDepth 20000 in
theorem claw_1354 : cdx (mC mLaw) 1354 = some (1354, .iaload, 1, 0, 0, 0, 0, []) := rfl
set_option maxRecDepth 20000 in
theorem claw_1355 : cdx (mC mLaw) 1355 = some (1355, .invokevirtual 167, 3, 236, 5, 0, 6225, [(10, 0)]) := rfl
set_option maxRecDepth 20000 in
theorem claw_1358 : cdx (mC mLaw) 1358 = some (1358, .if_icmp .eq 5, 3, 1363, 0, 0, 0, []) := rfl
set_option maxRecDepth 20000 in
theorem claw_1361 : cdx (mC mLaw) 1361 = some (1361, .iconst 0, 1, 0, 0, 0, 0, []) := rfl
set_option maxRecDepth 20000 in
theorem claw_1362 : cdx (mC mLaw) 1362 = some (1362, .ireturn, 1, 0, 0, 0, 0, []) := rfl
set_option maxRecDepth 20000 in
theorem claw_1363 : cdx (mC mLaw) 1363 = some (1363, .iinc 3 6, 3, 3, 0, 0, 0, []) := rfl
set_option maxRecDepth 20000 in
theorem claw_1366 : cdx (mC mLaw) 1366 = some (1366, .goto (-1348), 3, 18, 0, 0, 0, []) := rfl
set_option maxRecDepth 20000 in
theorem claw_1369 : cdx (mC mLaw) 1369 = some (1369, .iconst 1, 1, 0, 0, 0, 0, []) := rfl
set_option maxRecDepth 20000 in
theorem claw_1370 : cdx (mC mLaw) 1370 = some (1370, .ireturn, 1, 0, 0, 0, 0, []) := rfl
theorem blaw_18 {X : Nat × (Nat → Int32)} {nX : Nat} {fX : Nat → Int32} (hX : cInts X 1000050 = some (nX, fX)) {d : Nat} {I : Nat → Nat → Int32} {L : Nat → Nat → Int64} {Q : Option Value → XW → Prop} {x3 : Int32}  : wp X (d + 1) mLaw 18 [some (.ref 1000050), some (.ref 0), some (.ref 124), some (.int x3)] [] (K0, R0, I, L) Q ↔ (if ((Int32.ofNat nX) - 6) < x3 then Q (some (.int 1)) (K0, R0, I, L) else (inA x3 nX = true ∧ (if ((fX (Int32.toNatClampNeg x3)) &&& (63 : Int32)) = 0 then (inA (x3 + 1) nX = true ∧ (inA (x3 + 2) nX = true ∧ (inA (x3 + 3) nX = true ∧ wp X d m10 0 [some (.ref 0), some (.int (fX (Int32.toNatClampNeg (x3 + 1)))), some (.int (fX (Int32.toNatClampNeg (x3 + 2)))), some (.int (fX (Int32.toNatClampNeg (x3 + 3)))), none] [] (K0, R0, I, L) (fun r w1 => wp X (d + 1) mLaw 211 [some (.ref 1000050), some (.ref 0), some (.ref 124), some (.int x3)] (r.toList ++ []) w1 Q)))) else (if ((fX (Int32.toNatClampNeg x3)) &&& (63 : Int32)) = 1 then (inA (x3 + 1) nX = true ∧ (inA (x3 + 2) nX = true ∧ wp X d m16 0 [some (.ref 0), some (.int (fX (Int32.toNatClampNeg (x3 + 1)))), some (.int (fX (Int32.toNatClampNeg (x3 + 2)))), none] [] (K0, R0, I, L) (fun r w1 => wp X (d + 1) mLaw 249 [some (.ref 1000050), some (.ref 0), some (.ref 124), some (.int x3)] (r.toList ++ []) w1 Q))) else (if ((fX (Int32.toNatClampNeg x3)) &&& (63 : Int32)) = 2 then (inA (x3 + 1) nX = true ∧ (inA (x3 + 2) nX = true ∧ (inA (x3 + 3) nX = true ∧ wp X d m35 0 [some (.ref 0), some (.int (fX (Int32.toNatClampNeg (x3 + 1)))), some (.int (fX (Int32.toNatClampNeg (x3 + 2)))), some (.int (fX (Int32.toNatClampNeg (x3 + 3)))), none, none] [] (K0, R0, I, L) (fun r w1 => wp X (d + 1) mLaw 287 [some (.ref 1000050), some (.ref 0), some (.ref 124), some (.int x3)] (r.toList ++ []) w1 Q)))) else (if ((fX (Int32.toNatClampNeg x3)) &&& (63 : Int32)) = 3 then (inA (x3 + 1) nX = true ∧ (inA (x3 + 2) nX = true ∧ (inA (x3 + 3) nX = true ∧ wp X d m36 0 [some (.ref 0), some (.int (fX (Int32.toNatClampNeg (x3 + 1)))), some (.int (fX (Int32.toNatClampNeg (x3 + 2)))), some (.int (fX (Int32.toNatClampNeg (x3 + 3)))), none, none] [] (K0, R0, I, L) (fun r w1 => wp X (d + 1) mLaw 330 [some (.ref 1000050), some (.ref 0), some (.ref 124), some (.int x3)] (r.toList ++ []) w1 Q)))) else (if ((fX (Int32.toNatClampNeg x3)) &&& (63 : Int32)) = 4 then (inA (x3 + 1) nX = true ∧ wp X d m38 0 [some (.ref 0), some (.int (fX (Int32.toNatClampNeg (x3 + 1))))] [] (K0, R0, I, L) (fun r w1 => wp X (d + 1) mLaw 363 [some (.ref 1000050), some (.ref 0), some (.ref 124), some (.int x3)] (r.toList ++ []) w1 Q)) else (if ((fX (Int32.toNatClampNeg x3)) &&& (63 : Int32)) = 5 then wp X d m40 0 [some (.ref 0), none, none] [] (K0, R0, I, L) (fun r w1 => wp X (d + 1) mLaw 381 [some (.ref 1000050), some (.ref 0), some (.ref 124), some (.int x3)] (r.toList ++ []) w1 Q) else (if ((fX (Int32.toNatClampNeg x3)) &&& (63 : Int32)) = 6 then (inA (x3 + 1) nX = true ∧ wp X d m63 0 [some (.ref 0), some (.int (fX (Int32.toNatClampNeg (x3 + 1))))] [] (K0, R0, I, L) (fun r w1 => wp X (d + 1) mLaw 399 [some (.ref 1000050), some (.ref 0), some (.ref 124), some (.int x3)] (r.toList ++ []) w1 Q)) else (if ((fX (Int32.toNatClampNeg x3)) &&& (63 : Int32)) = 7 then (inA (x3 + 1) nX = true ∧ (inA (x3 + 2) nX = true ∧ wp X d m71 0 [some (.ref 0), some (.int (fX (Int32.toNatClampNeg (x3 + 1)))), some (.int (fX (Int32.toNatClampNeg (x3 + 2)))), none] [] (K0, R0, I, L) (fun r w1 => wp X (d + 1) mLaw 427 [some (.ref 1000050), some (.ref 0), some (.ref 124), some (.int x3)] (r.toList ++ []) w1 Q))) else (if ((fX (Int32.toNatClampNeg x3)) &&& (63 : Int32)) = 8 then (inA (x3 + 1) nX = true ∧ wp X d m74 0 [some (.ref 0), some (.int (fX (Int32.toNatClampNeg (x3 + 1)))), none] [] (K0, R0, I, L) (fun r w1 => wp X (d + 1) mLaw 455 [some (.ref 1000050), some (.ref 0), some (.ref 124), some (.int x3)] (r.toList ++ []) w1 Q)) else (if ((fX (Int32.toNatClampNeg x3)) &&& (63 : Int32)) = 9 then (inA (x3 + 1) nX = true ∧ (inA (x3 + 2) nX = true ∧ (inA (x3 + 3) nX = true ∧ wp X d m76 0 [some (.ref 0), some (.int (fX (Int32.toNatClampNeg (x3 + 1)))), some (.int (fX (Int32.toNatClampNeg (x3 + 2)))), some (.int (fX (Int32.toNatClampNeg (x3 + 3)))), none, none] [] (K0, R0, I, L) (fun r w1 => wp X (d + 1) mLaw 488 [some (.ref 1000050), some (.ref 0), some (.ref 124), some (.int x3)] (r.toList ++ []) w1 Q)))) else (if ((fX (Int32.toNatClampNeg x3)) &&& (63 : Int32)) = 10 then (inA (x3 + 1) nX = true ∧ (inA (x3 + 2) nX = true ∧ (inA (x3 + 3) nX = true ∧ wp X d m79 0 [some (.ref 0), some (.int (fX (Int32.toNatClampNeg (x3 + 1)))), some (.int (fX (Int32.toNatClampNeg (x3 + 2)))), some (.int (fX (Int32.toNatClampNeg (x3 + 3)))), none, none] [] (K0, R0, I, L) (fun r w1 => wp X (d + 1) mLaw 531 [some (.ref 1000050), some (.ref 0), some (.ref 124), some (.int x3)] (r.toList ++ []) w1 Q)))) else (if ((fX (Int32.toNatClampNeg x3)) &&& (63 : Int32)) = 11 then (inA (x3 + 1) nX = true ∧ (inA (x3 + 2) nX = true ∧ (inA (x3 + 3) nX = true ∧ wp X d m86 0 [some (.ref 0), some (.int (fX (Int32.toNatClampNeg (x3 + 1)))), some (.int (fX (Int32.toNatClampNeg (x3 + 2)))), some (.int (fX (Int32.toNatClampNeg (x3 + 3)))), none, none] [] (K0, R0, I, L) (fun r w1 => wp X (d + 1) mLaw 574 [some (.ref 1000050), some (.ref 0), some (.ref 124), some (.int x3)] (r.toList ++ []) w1 Q)))) else (if ((fX (Int32.toNatClampNeg x3)) &&& (63 : Int32)) = 12 then (inA (x3 + 1) nX = true ∧ wp X d m89 0 [some (.ref 0), some (.int (fX (Int32.toNatClampNeg (x3 + 1)))), none] [] (K0, R0, I, L) (fun r w1 => wp X (d + 1) mLaw 607 [some (.ref 1000050), some (.ref 0), some (.ref 124), some (.int x3)] (r.toList ++ []) w1 Q)) else (if ((fX (Int32.toNatClampNeg x3)) &&& (63 : Int32)) = 13 then (inA (x3 + 1) nX = true ∧ (inA (x3 + 2) nX = true ∧ wp X d m91 0 [some (.ref 0), some (.int (fX (Int32.toNatClampNeg (x3 + 1)))), some (.int (fX (Int32.toNatClampNeg (x3 + 2)))), none, none] [] (K0, R0, I, L) (fun r w1 => wp X (d + 1) mLaw 635 [some (.ref 1000050), some (.ref 0), some (.ref 124), some (.int x3)] (r.toList ++ []) w1 Q))) else (if ((fX (Int32.toNatClampNeg x3)) &&& (63 : Int32)) = 14 then (inA (x3 + 1) nX = true ∧ wp X d m92 0 [some (.ref 0), some (.int (fX (Int32.toNatClampNeg (x3 + 1)))), none, none, none] [] (K0, R0, I, L) (fun r w1 => wp X (d + 1) mLaw 663 [some (.ref 1000050), some (.ref 0), some (.ref 124), some (.int x3)] (r.toList ++ []) w1 Q)) else (if ((fX (Int32.toNatClampNeg x3)) &&& (63 : Int32)) = 15 then (inA (x3 + 1) nX = true ∧ wp X d m94 0 [some (.ref 0), some (.int (fX (Int32.toNatClampNeg (x3 + 1)))), none, none, none, none, none, none, none] [] (K0, R0, I, L) (fun r w1 => wp X (d + 1) mLaw 686 [some (.ref 1000050), some (.ref 0), some (.ref 124), some (.int x3)] (r.toList ++ []) w1 Q)) else (if ((fX (Int32.toNatClampNeg x3)) &&& (63 : Int32)) = 16 then (inA (x3 + 1) nX = true ∧ (inA (x3 + 2) nX = true ∧ wp X d m95 0 [some (.ref 0), some (.int (fX (Int32.toNatClampNeg (x3 + 1)))), some (.int (fX (Int32.toNatClampNeg (x3 + 2))))] [] (K0, R0, I, L) (fun r w1 => wp X (d + 1) mLaw 714 [some (.ref 1000050), some (.ref 0), some (.ref 124), some (.int x3)] (r.toList ++ []) w1 Q))) else (if ((fX (Int32.toNatClampNeg x3)) &&& (63 : Int32)) = 17 then (inA (x3 + 1) nX = true ∧ (inA (x3 + 2) nX = true ∧ wp X d m97 0 [some (.ref 0), some (.int (fX (Int32.toNatClampNeg (x3 + 1)))), some (.int (fX (Int32.toNatClampNeg (x3 + 2))))] [] (K0, R0, I, L) (fun r w1 => wp X (d + 1) mLaw 747 [some (.ref 1000050), some (.ref 0), some (.ref 124), some (.int x3)] (r.toList ++ []) w1 Q))) else (if ((fX (Int32.toNatClampNeg x3)) &&& (63 : Int32)) = 18 then (inA (x3 + 1) nX = true ∧ (inA (x3 + 2) nX = true ∧ wp X d m102 0 [some (.ref 0), some (.int (fX (Int32.toNatClampNeg (x3 + 1)))), some (.int (fX (Int32.toNatClampNeg (x3 + 2))))] [] (K0, R0, I, L) (fun r w1 => wp X (d + 1) mLaw 780 [some (.ref 1000050), some (.ref 0), some (.ref 124), some (.int x3)] (r.toList ++ []) w1 Q))) else (if ((fX (Int32.toNatClampNeg x3)) &&& (63 : Int32)) = 19 then (inA (x3 + 1) nX = true ∧ (inA (x3 + 2) nX = true ∧ (inA (x3 + 3) nX = true ∧ wp X d m103 0 [some (.ref 0), some (.int (fX (Int32.toNatClampNeg (x3 + 1)))), some (.int (fX (Int32.toNatClampNeg (x3 + 2)))), some (.int (fX (Int32.toNatClampNeg (x3 + 3)))), none, none, none] [] (K0, R0, I, L) (fun r w1 => wp X (d + 1) mLaw 818 [some (.ref 1000050), some (.ref 0), some (.ref 124), some (.int x3)] (r.toList ++ []) w1 Q)))) else (if ((fX (Int32.toNatClampNeg x3)) &&& (63 : Int32)) = 20 then (inA (x3 + 1) nX = true ∧ wp X d m107 0 [some (.ref 0), some (.int (fX (Int32.toNatClampNeg (x3 + 1)))), none, none, none] [] (K0, R0, I, L) (fun r w1 => wp X (d + 1) mLaw 852 [some (.ref 1000050), some (.ref 0), some (.ref 124), some (.int x3)] (r.toList ++ []) w1 Q)) else (if ((fX (Int32.toNatClampNeg x3)) &&& (63 : Int32)) = 21 then (inA (x3 + 1) nX = true ∧ (inA (x3 + 2) nX = true ∧ wp X d m108 0 [some (.ref 0), some (.int (fX (Int32.toNatClampNeg (x3 + 1)))), some (.int (fX (Int32.toNatClampNeg (x3 + 2))))] [] (K0, R0, I, L) (fun r w1 => wp X (d + 1) mLaw 881 [some (.ref 1000050), some (.ref 0), some (.ref 124), some (.int x3)] (r.toList ++ []) w1 Q))) else (if ((fX (Int32.toNatClampNeg x3)) &&& (63 : Int32)) = 22 then (inA (x3 + 1) nX = true ∧ wp X d m109 0 [some (.ref 0), some (.int (fX (Int32.toNatClampNeg (x3 + 1)))), none, none, none, none] [] (K0, R0, I, L) (fun r w1 => wp X (d + 1) mLaw 909 [some (.ref 1000050), some (.ref 0), some (.ref 124), some (.int x3)] (r.toList ++ []) w1 Q)) else (if ((fX (Int32.toNatClampNeg x3)) &&& (63 : Int32)) = 23 then (inA (x3 + 1) nX = true ∧ (inA (x3 + 2) nX = true ∧ wp X d m112 0 [some (.ref 0), some (.int (fX (Int32.toNatClampNeg (x3 + 1)))), some (.int (fX (Int32.toNatClampNeg (x3 + 2))))] [] (K0, R0, I, L) (fun r w1 => wp X (d + 1) mLaw 937 [some (.ref 1000050), some (.ref 0), some (.ref 124), some (.int x3)] (r.toList ++ []) w1 Q))) else (if ((fX (Int32.toNatClampNeg x3)) &&& (63 : Int32)) = 24 then wp X d m113 0 [some (.ref 0), none, none] [] (K0, R0, I, L) (fun r w1 => wp X (d + 1) mLaw 960 [some (.ref 1000050), some (.ref 0), some (.ref 124), some (.int x3)] (r.toList ++ []) w1 Q) else (if ((fX (Int32.toNatClampNeg x3)) &&& (63 : Int32)) = 25 then (inA (x3 + 1) nX = true ∧ (inA (x3 + 2) nX = true ∧ wp X d m114 0 [some (.ref 0), some (.int (fX (Int32.toNatClampNeg (x3 + 1)))), some (.int (fX (Int32.toNatClampNeg (x3 + 2)))), none, none, none] [] (K0, R0, I, L) (fun r w1 => wp X (d + 1) mLaw 983 [some (.ref 1000050), some (.ref 0), some (.ref 124), some (.int x3)] (r.toList ++ []) w1 Q))) else (if ((fX (Int32.toNatClampNeg x3)) &&& (63 : Int32)) = 26 then wp X d m119 0 [some (.ref 0)] [] (K0, R0, I, L) (fun r w1 => wp X (d + 1) mLaw 1006 [some (.ref 1000050), some (.ref 0), some (.ref 124), some (.int x3)] (r.toList ++ []) w1 Q) else (if ((fX (Int32.toNatClampNeg x3)) &&& (63 : Int32)) = 27 then wp X d m120 0 [some (.ref 0)] [] (K0, R0, I, L) (fun r w1 => wp X (d + 1) mLaw 1019 [some (.ref 1000050), some (.ref 0), some (.ref 124), some (.int x3)] (r.toList ++ []) w1 Q) else (if ((fX (Int32.toNatClampNeg x3)) &&& (63 : Int32)) = 28 then (inA (x3 + 1) nX = true ∧ (inA (x3 + 2) nX = true ∧ (inA (x3 + 3) nX = true ∧ wp X d m121 0 [some (.ref 0), some (.int (fX (Int32.toNatClampNeg (x3 + 1)))), some (.int (fX (Int32.toNatClampNeg (x3 + 2)))), some (.int (fX (Int32.toNatClampNeg (x3 + 3)))), none] [] (K0, R0, I, L) (fun r w1 => wp X (d + 1) mLaw 1047 [some (.ref 1000050), some (.ref 0), some (.ref 124), some (.int x3)] (r.toList ++ []) w1 Q)))) else (if ((fX (Int32.toNatClampNeg x3)) &&& (63 : Int32)) = 29 then (inA (x3 + 1) nX = true ∧ wp X d m127 0 [some (.ref 0), some (.int (fX (Int32.toNatClampNeg (x3 + 1))))] [] (K0, R0, I, L) (fun r w1 => wp X (d + 1) mLaw 1080 [some (.ref 1000050), some (.ref 0), some (.ref 124), some (.int x3)] (r.toList ++ []) w1 Q)) else (if ((fX (Int32.toNatClampNeg x3)) &&& (63 : Int32)) = 30 then (inA (x3 + 1) nX = true ∧ (inA (x3 + 2) nX = true ∧ wp X d m129 0 [some (.ref 0), some (.int (fX (Int32.toNatClampNeg (x3 + 1)))), some (.int (fX (Int32.toNatClampNeg (x3 + 2)))), none] [] (K0, R0, I, L) (fun r w1 => wp X (d + 1) mLaw 1108 [some (.ref 1000050), some (.ref 0), some (.ref 124), some (.int x3)] (r.toList ++ []) w1 Q))) else (if ((fX (Int32.toNatClampNeg x3)) &&& (63 : Int32)) = 31 then (inA (x3 + 1) nX = true ∧ wp X d m131 0 [some (.ref 0), some (.int (fX (Int32.toNatClampNeg (x3 + 1))))] [] (K0, R0, I, L) (fun r w1 => wp X (d + 1) mLaw 1136 [some (.ref 1000050), some (.ref 0), some (.ref 124), some (.int x3)] (r.toList ++ []) w1 Q)) else (if ((fX (Int32.toNatClampNeg x3)) &&& (63 : Int32)) = 32 then (inA (x3 + 1) nX = true ∧ (inA (x3 + 2) nX = true ∧ (inA (x3 + 3) nX = true ∧ wp X d m132 0 [some (.ref 0), some (.int (fX (Int32.toNatClampNeg (x3 + 1)))), some (.int (fX (Int32.toNatClampNeg (x3 + 2)))), some (.int (fX (Int32.toNatClampNeg (x3 + 3)))), none] [] (K0, R0, I, L) (fun r w1 => wp X (d + 1) mLaw 1169 [some (.ref 1000050), some (.ref 0), some (.ref 124), some (.int x3)] (r.toList ++ []) w1 Q)))) else (if ((fX (Int32.toNatClampNeg x3)) &&& (63 : Int32)) = 33 then (inA (x3 + 1) nX = true ∧ (inA (x3 + 2) nX = true ∧ (inA (x3 + 3) nX = true ∧ (inA (x3 + 4) nX = true ∧ wp X d m135 0 [some (.ref 0), some (.int (fX (Int32.toNatClampNeg (x3 + 1)))), some (.int (fX (Int32.toNatClampNeg (x3 + 2)))), some (.long ((((Int32.toInt64 (fX (Int32.toNatClampNeg (x3 + 3)))) <<< (Int32.toInt64 32 &&& 63)) ||| ((Int32.toInt64 (fX (Int32.toNatClampNeg (x3 + 4)))) &&& 4294967295)))), none, none] [] (K0, R0, I, L) (fun r w1 => wp X (d + 1) mLaw 1227 [some (.ref 1000050), some (.ref 0), some (.ref 124), some (.int x3)] (r.toList ++ []) w1 Q))))) else (if ((fX (Int32.toNatClampNeg x3)) &&& (63 : Int32)) = 34 then (inA (x3 + 1) nX = true ∧ (inA (x3 + 2) nX = true ∧ wp X d m138 0 [some (.ref 0), some (.int (fX (Int32.toNatClampNeg (x3 + 1)))), some (.int (fX (Int32.toNatClampNeg (x3 + 2)))), none] [] (K0, R0, I, L) (fun r w1 => wp X (d + 1) mLaw 1280 [some (.ref 1000050), some (.ref 0), some (.ref 124), some (.int x3)] (r.toList ++ []) w1 Q))) else (if ((fX (Int32.toNatClampNeg x3)) &&& (63 : Int32)) = 35 then (inA (x3 + 1) nX = true ∧ (inA (x3 + 2) nX = true ∧ (inA (x3 + 3) nX = true ∧ (inA (x3 + 4) nX = true ∧ (inA (x3 + 5) nX = true ∧ wp X d m139 0 [some (.ref 0), some (.int (fX (Int32.toNatClampNeg (x3 + 1)))), some (.int (fX (Int32.toNatClampNeg (x3 + 2)))), some (.int (fX (Int32.toNatClampNeg (x3 + 3)))), some (.int (fX (Int32.toNatClampNeg (x3 + 4)))), some (.int (fX (Int32.toNatClampNeg (x3 + 5)))), none, none] [] (K0, R0, I, L) (fun r w1 => wp X (d + 1) mLaw 1329 [some (.ref 1000050), some (.ref 0), some (.ref 124), some (.int x3)] (r.toList ++ []) w1 Q)))))) else wp X (d + 1) mLaw 18 [some (.ref 1000050), some (.ref 0), some (.ref 124), some (.int (x3 + 6))] [] (K0, R0, I, L) Q)))))))))))))))))))))))))))))))))))))) := (w_iload_n (pc' := 19) claw_18 rfl rfl).trans ((w_aload_n (pc' := 20) claw_19 rfl rfl).trans ((w_alen_c (pc' := 21) (v := (Int32.ofNat nX)) claw_20 kn_1000050 hX rfl rfl).trans ((w_bipush (pc' := 23) (v := 6) claw_21 rfl rfl).trans ((w_isub (pc' := 24) claw_23 rfl).trans ((w_icmp_gt (pc' := 27) claw_24 rfl).trans (ite_iff ((w_iconst (pc' := 1370) (v := 1) claw_1369 rfl rfl).trans ((w_zret (ty := .boolean) claw_1370 rfl (by decide)).trans (and_iff_right (by decide)))) ((w_aload_n (pc' := 28) claw_27 rfl rfl).trans ((w_iload_n (pc' := 29) claw_28 rfl rfl).trans ((w_iald_c (pc' := 30) claw_29 kn_1000050 hX rfl).trans (and_congr_right (fun _ => (w_bipush (pc' := 32) (v := 63) claw_30 rfl rfl).trans ((w_iand (pc' := 33) claw_32 rfl).trans ((w_tswitch claw_33).trans ((w_swcons (v := 0) rfl).trans (ite_iff ((w_aload_n (pc' := 193) claw_192 rfl rfl).trans ((w_aload_n (pc' := 194) claw_193 rfl rfl).trans ((w_iload_n (pc' := 195) claw_194 rfl rfl).trans ((w_iconst (pc' := 196) (v := 1) claw_195 rfl rfl).trans ((w_iadd (pc' := 197) claw_196 rfl).trans ((w_iald_c (pc' := 198) claw_197 kn_1000050 hX rfl).trans (and_congr_right (fun _ => (w_aload_n (pc' := 199) claw_198 rfl rfl).trans ((w_iload_n (pc' := 200) claw_199 rfl rfl).trans ((w_iconst (pc' := 201) (v := 2) claw_200 rfl rfl).trans ((w_iadd (pc' := 202) claw_201 rfl).trans ((w_iald_c (pc' := 203) claw_202 kn_1000050 hX rfl).trans (and_congr_right (fun _ => (w_aload_n (pc' := 204) claw_203 rfl rfl).trans ((w_iload_n (pc' := 205) claw_204 rfl rfl).trans ((w_iconst (pc' := 206) (v := 3) claw_205 rfl rfl).trans ((w_iadd (pc' := 207) claw_206 rfl).trans ((w_iald_c (pc' := 208) claw_207 kn_1000050 hX rfl).trans (and_congr_right (fun _ => (w_callv (pc' := 211) claw_208 mt10 rfl (Nat.le_of_ble_eq_true rfl) rfl kd_0 rfl rfl (Nat.le_of_ble_eq_true rfl) rfl rfl))))))))))))))))))))) ((w_swcons (v := 1) rfl).trans (ite_iff ((w_aload_n (pc' := 236) claw_235 rfl rfl).trans ((w_aload_n (pc' := 237) claw_236 rfl rfl).trans ((w_iload_n (pc' := 238) claw_237 rfl rfl).trans ((w_iconst (pc' := 239) (v := 1) claw_238 rfl rfl).trans ((w_iadd (pc' := 240) claw_239 rfl).trans ((w_iald_c (pc' := 241) claw_240 kn_1000050 hX rfl).trans (and_congr_right (fun _ => (w_aload_n (pc' := 242) claw_241 rfl rfl).trans ((w_iload_n (pc' := 243) claw_242 rfl rfl).trans ((w_iconst (pc' := 244) (v := 2) claw_243 rfl rfl).trans ((w_iadd (pc' := 245) claw_244 rfl).trans ((w_iald_c (pc' := 246) claw_245 kn_1000050 hX rfl).trans (and_congr_right (fun _ => (w_callv (pc' := 249) claw_246 mt16 rfl (Nat.le_of_ble_eq_true rfl) rfl kd_0 rfl rfl (Nat.le_of_ble_eq_true rfl) rfl rfl))))))))))))))) ((w_swcons (v := 2) rfl).trans (ite_iff ((w_aload_n (pc' := 269) claw_268 rfl rfl).trans ((w_aload_n (pc' := 270) claw_269 rfl rfl).trans ((w_iload_n (pc' := 271) claw_270 rfl rfl).trans ((w_iconst (pc' := 272) (v := 1) claw_271 rfl rfl).trans ((w_iadd (pc' := 273) claw_272 rfl).trans ((w_iald_c (pc' := 274) claw_273 kn_1000050 hX rfl).trans (and_congr_right (fun _ => (w_aload_n (pc' := 275) claw_274 rfl rfl).trans ((w_iload_n (pc' := 276) claw_275 rfl rfl).trans ((w_iconst (pc' := 277) (v := 2) claw_276 rfl rfl).trans ((w_iadd (pc' := 278) claw_277 rfl).trans ((w_iald_c (pc' := 279) claw_278 kn_1000050 hX rfl).trans (and_congr_right (fun _ => (w_aload_n (pc' := 280) claw_279 rfl rfl).trans ((w_iload_n (pc' := 281) claw_280 rfl rfl).trans ((w_iconst (pc' := 282) (v := 3) claw_281 rfl rfl).trans ((w_iadd (pc' := 283) claw_282 rfl).trans ((w_iald_c (pc' := 284) claw_283 kn_1000050 hX rfl).trans (and_congr_right (fun _ => (w_callv (pc' := 287) claw_284 mt35 rfl (Nat.le_of_ble_eq_true rfl) rfl kd_0 rfl rfl (Nat.le_of_ble_eq_true rfl) rfl rfl))))))))))))))))))))) ((w_swcons (v := 3) rfl).trans (ite_iff ((w_aload_n (pc' := 312) claw_311 rfl rfl).trans ((w_aload_n (pc' := 313) claw_312 rfl rfl).trans ((w_iload_n (pc' := 314) claw_313 rfl rfl).trans ((w_iconst (pc' := 315) (v := 1) claw_314 rfl rfl).trans ((w_iadd (pc' := 316) claw_315 rfl).trans ((w_iald_c (pc' := 317) claw_316 kn_1000050 hX rfl).trans (and_congr_right (fun _ => (w_aload_n (pc' := 318) claw_317 rfl rfl).trans ((w_iload_n (pc' := 319) claw_318 rfl rfl).trans ((w_iconst (pc' := 320) (v := 2) claw_319 rfl rfl).trans ((w_iadd (pc' := 321) claw_320 rfl).trans ((w_iald_c (pc' := 322) claw_321 kn_1000050 hX rfl).trans (and_congr_right (fun _ => (w_aload_n (pc' := 323) claw_322 rfl rfl).trans ((w_iload_n (pc' := 324) claw_323 rfl rfl).trans ((w_iconst (pc' := 325) (v := 3) claw_324 rfl rfl).trans ((w_iadd (pc' := 326) claw_325 rfl).trans ((w_iald_c (pc' := 327) claw_326 kn_1000050 hX rfl).trans (and_congr_right (fun _ => (w_callv (pc' := 330) claw_327 mt36 rfl (Nat.le_of_ble_eq_true rfl) rfl kd_0 rfl rfl (Nat.le_of_ble_eq_true rfl) rfl rfl))))))))))))))))))))) ((w_swcons (v := 4) rfl).trans (ite_iff ((w_aload_n (pc' := 355) claw_354 rfl rfl).trans ((w_aload_n (pc' := 356) claw_355 rfl rfl).trans ((w_iload_n (pc' := 357) claw_356 rfl rfl).trans ((w_iconst (pc' := 358) (v := 1) claw_357 rfl rfl).trans ((w_iadd (pc' := 359) claw_358 rfl).trans ((w_iald_c (pc' := 360) claw_359 kn_1000050 hX rfl).trans (and_congr_right (fun _ => (w_callv (pc' := 363) claw_360 mt38 rfl (Nat.le_of_ble_eq_true rfl) rfl kd_0 rfl rfl (Nat.le_of_ble_eq_true rfl) rfl rfl))))))))) ((w_swcons (v := 5) rfl).trans (ite_iff ((w_aload_n (pc' := 378) claw_377 rfl rfl).trans ((w_callv (pc' := 381) claw_378 mt40 rfl (Nat.le_of_ble_eq_true rfl) rfl kd_0 rfl rfl (Nat.le_of_ble_eq_true rfl) rfl rfl))) ((w_swcons (v := 6) rfl).trans (ite_iff ((w_aload_n (pc' := 391) claw_390 rfl rfl).trans ((w_aload_n (pc' := 392) claw_391 rfl rfl).trans ((w_iload_n (pc' := 393) claw_392 rfl rfl).trans ((w_iconst (pc' := 394) (v := 1) claw_393 rfl rfl).trans ((w_iadd (pc' := 395) claw_394 rfl).trans ((w_iald_c (pc' := 396) claw_395 kn_1000050 hX rfl).trans (and_congr_right (fun _ => (w_callv (pc' := 399) claw_396 mt63 rfl (Nat.le_of_ble_eq_true rfl) rfl kd_0 rfl rfl (Nat.le_of_ble_eq_true rfl) rfl rfl))))))))) ((w_swcons (v := 7) rfl).trans (ite_iff ((w_aload_n (pc' := 414) claw_413 rfl rfl).trans ((w_aload_n (pc' := 415) claw_414 rfl rfl).trans ((w_iload_n (pc' := 416) claw_415 rfl rfl).trans ((w_iconst (pc' := 417) (v := 1) claw_416 rfl rfl).trans ((w_iadd (pc' := 418) claw_417 rfl).trans ((w_iald_c (pc' := 419) claw_418 kn_1000050 hX rfl).trans (and_congr_right (fun _ => (w_aload_n (pc' := 420) claw_419 rfl rfl).trans ((w_iload_n (pc' := 421) claw_420 rfl rfl).trans ((w_iconst (pc' := 422) (v := 2) claw_421 rfl rfl).trans ((w_iadd (pc' := 423) claw_422 rfl).trans ((w_iald_c (pc' := 424) claw_423 kn_1000050 hX rfl).trans (and_congr_right (fun _ => (w_callv (pc' := 427) claw_424 mt71 rfl (Nat.le_of_ble_eq_true rfl) rfl kd_0 rfl rfl (Nat.le_of_ble_eq_true rfl) rfl rfl))))))))))))))) ((w_swcons (v := 8) rfl).trans (ite_iff ((w_aload_n (pc' := 447) claw_446 rfl rfl).trans ((w_aload_n (pc' := 448) claw_447 rfl rfl).trans ((w_iload_n (pc' := 449) claw_448 rfl rfl).trans ((w_iconst (pc' := 450) (v := 1) claw_449 rfl rfl).trans ((w_iadd (pc' := 451) claw_450 rfl).trans ((w_iald_c (pc' := 452) claw_451 kn_1000050 hX rfl).trans (and_congr_right (fun _ => (w_callv (pc' := 455) claw_452 mt74 rfl (Nat.le_of_ble_eq_true rfl) rfl kd_0 rfl rfl (Nat.le_of_ble_eq_true rfl) rfl rfl))))))))) ((w_swcons (v := 9) rfl).trans (ite_iff ((w_aload_n (pc' := 470) claw_469 rfl rfl).trans ((w_aload_n (pc' := 471) claw_470 rfl rfl).trans ((w_iload_n (pc' := 472) claw_471 rfl rfl).trans ((w_iconst (pc' := 473) (v := 1) claw_472 rfl rfl).trans ((w_iadd (pc' := 474) claw_473 rfl).trans ((w_iald_c (pc' := 475) claw_474 kn_1000050 hX rfl).trans (and_congr_right (fun _ => (w_aload_n (pc' := 476) claw_475 rfl rfl).trans ((w_iload_n (pc' := 477) claw_476 rfl rfl).trans ((w_iconst (pc' := 478) (v := 2) claw_477 rfl rfl).trans ((w_iadd (pc' := 479) claw_478 rfl).trans ((w_iald_c (pc' := 480) claw_479 kn_1000050 hX rfl).trans (and_congr_right (fun _ => (w_aload_n (pc' := 481) claw_480 rfl rfl).trans ((w_iload_n (pc' := 482) claw_481 rfl rfl).trans ((w_iconst (pc' := 483) (v := 3) claw_482 rfl rfl).trans ((w_iadd (pc' := 484) claw_483 rfl).trans ((w_iald_c (pc' := 485) claw_484 kn_1000050 hX rfl).trans (and_congr_right (fun _ => (w_callv (pc' := 488) claw_485 mt76 rfl (Nat.le_of_ble_eq_true rfl) rfl kd_0 rfl rfl (Nat.le_of_ble_eq_true rfl) rfl rfl))))))))))))))))))))) ((w_swcons (v := 10) rfl).trans (ite_iff ((w_aload_n (pc' := 513) claw_512 rfl rfl).trans ((w_aload_n (pc' := 514) claw_513 rfl rfl).trans ((w_iload_n (pc' := 515) claw_514 rfl rfl).trans ((w_iconst (pc' := 516) (v := 1) claw_515 rfl rfl).trans ((w_iadd (pc' := 517) claw_516 rfl).trans ((w_iald_c (pc' := 518) claw_517 kn_1000050 hX rfl).trans (and_congr_right (fun _ => (w_aload_n (pc' := 519) claw_518 rfl rfl).trans ((w_iload_n (pc' := 520) claw_519 rfl rfl).trans ((w_iconst (pc' := 521) (v := 2) claw_520 rfl rfl).trans ((w_iadd (pc' := 522) claw_521 rfl).trans ((w_iald_c (pc' := 523) claw_522 kn_1000050 hX rfl).trans (and_congr_right (fun _ => (w_aload_n (pc' := 524) claw_523 rfl rfl).trans ((w_iload_n (pc' := 525) claw_524 rfl rfl).trans ((w_iconst (pc' := 526) (v := 3) claw_525 rfl rfl).trans ((w_iadd (pc' := 527) claw_526 rfl).trans ((w_iald_c (pc' := 528) claw_527 kn_1000050 hX rfl).trans (and_congr_right (fun _ => (w_callv (pc' := 531) claw_528 mt79 rfl (Nat.le_of_ble_eq_true rfl) rfl kd_0 rfl rfl (Nat.le_of_ble_eq_true rfl) rfl rfl))))))))))))))))))))) ((w_swcons (v := 11) rfl).trans (ite_iff ((w_aload_n (pc' := 556) claw_555 rfl rfl).trans ((w_aload_n (pc' := 557) claw_556 rfl rfl).trans ((w_iload_n (pc' := 558) claw_557 rfl rfl).trans ((w_iconst (pc' := 559) (v := 1) claw_558 rfl rfl).trans ((w_iadd (pc' := 560) claw_559 rfl).trans ((w_iald_c (pc' := 561) claw_560 kn_1000050 hX rfl).trans (and_congr_right (fun _ => (w_aload_n (pc' := 562) claw_561 rfl rfl).trans ((w_iload_n (pc' := 563) claw_562 rfl rfl).trans ((w_iconst (pc' := 564) (v := 2) claw_563 rfl rfl).trans ((w_iadd (pc' := 565) claw_564 rfl).trans ((w_iald_c (pc' := 566) claw_565 kn_1000050 hX rfl).trans (and_congr_right (fun _ => (w_aload_n (pc' := 567) claw_566 rfl rfl).trans ((w_iload_n (pc' := 568) claw_567 rfl rfl).trans ((w_iconst (pc' := 569) (v := 3) claw_568 rfl rfl).trans ((w_iadd (pc' := 570) claw_569 rfl).trans ((w_iald_c (pc' := 571) claw_570 kn_1000050 hX rfl).trans (and_congr_right (fun _ => (w_callv (pc' := 574) claw_571 mt86 rfl (Nat.le_of_ble_eq_true rfl) rfl kd_0 rfl rfl (Nat.le_of_ble_eq_true rfl) rfl rfl))))))))))))))))))))) ((w_swcons (v := 12) rfl).trans (ite_iff ((w_aload_n (pc' := 599) claw_598 rfl rfl).trans ((w_aload_n (pc' := 600) claw_599 rfl rfl).trans ((w_iload_n (pc' := 601) claw_600 rfl rfl).trans ((w_iconst (pc' := 602) (v := 1) claw_601 rfl rfl).trans ((w_iadd (pc' := 603) claw_602 rfl).trans ((w_iald_c (pc' := 604) claw_603 kn_1000050 hX rfl).trans (and_congr_right (fun _ => (w_callv (pc' := 607) claw_604 mt89 rfl (Nat.le_of_ble_eq_true rfl) rfl kd_0 rfl rfl (Nat.le_of_ble_eq_true rfl) rfl rfl))))))))) ((w_swcons (v := 13) rfl).trans (ite_iff ((w_aload_n (pc' := 622) claw_621 rfl rfl).trans ((w_aload_n (pc' := 623) claw_622 rfl rfl).trans ((w_iload_n (pc' := 624) claw_623 rfl rfl).trans ((w_iconst (pc' := 625) (v := 1) claw_624 rfl rfl).trans ((w_iadd (pc' := 626) claw_625 rfl).trans ((w_iald_c (pc' := 627) claw_626 kn_1000050 hX rfl).trans (and_congr_right (fun _ => (w_aload_n (pc' := 628) claw_627 rfl rfl).trans ((w_iload_n (pc' := 629) claw_628 rfl rfl).trans ((w_iconst (pc' := 630) (v := 2) claw_629 rfl rfl).trans ((w_iadd (pc' := 631) claw_630 rfl).trans ((w_iald_c (pc' := 632) claw_631 kn_1000050 hX rfl).trans (and_congr_right (fun _ => (w_callv (pc' := 635) claw_632 mt91 rfl (Nat.le_of_ble_eq_true rfl) rfl kd_0 rfl rfl (Nat.le_of_ble_eq_true rfl) rfl rfl))))))))))))))) ((w_swcons (v := 14) rfl).trans (ite_iff ((w_aload_n (pc' := 655) claw_654 rfl rfl).trans ((w_aload_n (pc' := 656) claw_655 rfl rfl).trans ((w_iload_n (pc' := 657) claw_656 rfl rfl).trans ((w_iconst (pc' := 658) (v := 1) claw_657 rfl rfl).trans ((w_iadd (pc' := 659) claw_658 rfl).trans ((w_iald_c (pc' := 660) claw_659 kn_1000050 hX rfl).trans (and_congr_right (fun _ => (w_callv (pc' := 663) claw_660 mt92 rfl (Nat.le_of_ble_eq_true rfl) rfl kd_0 rfl rfl (Nat.le_of_ble_eq_true rfl) rfl rfl))))))))) ((w_swcons (v := 15) rfl).trans (ite_iff ((w_aload_n (pc' := 678) claw_677 rfl rfl).trans ((w_aload_n (pc' := 679) claw_678 rfl rfl).trans ((w_iload_n (pc' := 680) claw_679 rfl rfl).trans ((w_iconst (pc' := 681) (v := 1) claw_680 rfl rfl).trans ((w_iadd (pc' := 682) claw_681 rfl).trans ((w_iald_c (pc' := 683) claw_682 kn_1000050 hX rfl).trans (and_congr_right (fun _ => (w_callv (pc' := 686) claw_683 mt94 rfl (Nat.le_of_ble_eq_true rfl) rfl kd_0 rfl rfl (Nat.le_of_ble_eq_true rfl) rfl rfl))))))))) ((w_swcons (v := 16) rfl).trans (ite_iff ((w_aload_n (pc' := 701) claw_700 rfl rfl).trans ((w_aload_n (pc' := 702) claw_701 rfl rfl).trans ((w_iload_n (pc' := 703) claw_702 rfl rfl).trans ((w_iconst (pc' := 704) (v := 1) claw_703 rfl rfl).trans ((w_iadd (pc' := 705) claw_704 rfl).trans ((w_iald_c (pc' := 706) claw_705 kn_1000050 hX rfl).trans (and_congr_right (fun _ => (w_aload_n (pc' := 707) claw_706 rfl rfl).trans ((w_iload_n (pc' := 708) claw_707 rfl rfl).trans ((w_iconst (pc' := 709) (v := 2) claw_708 rfl rfl).trans ((w_iadd (pc' := 710) claw_709 rfl).trans ((w_iald_c (pc' := 711) claw_710 kn_1000050 hX rfl).trans (and_congr_right (fun _ => (w_callv (pc' := 714) claw_711 mt95 rfl (Nat.le_of_ble_eq_true rfl) rfl kd_0 rfl rfl (Nat.le_of_ble_eq_true rfl) rfl rfl))))))))))))))) ((w_swcons (v := 17) rfl).trans (ite_iff ((w_aload_n (pc' := 734) claw_733 rfl rfl).trans ((w_aload_n (pc' := 735) claw_734 rfl rfl).trans ((w_iload_n (pc' := 736) claw_735 rfl rfl).trans ((w_iconst (pc' := 737) (v := 1) claw_736 rfl rfl).trans ((w_iadd (pc' := 738) claw_737 rfl).trans ((w_iald_c (pc' := 739) claw_738 kn_1000050 hX rfl).trans (and_congr_right (fun _ => (w_aload_n (pc' := 740) claw_739 rfl rfl).trans ((w_iload_n (pc' := 741) claw_740 rfl rfl).trans ((w_iconst (pc' := 742) (v := 2) claw_741 rfl rfl).trans ((w_iadd (pc' := 743) claw_742 rfl).trans ((w_iald_c (pc' := 744) claw_743 kn_1000050 hX rfl).trans (and_congr_right (fun _ => (w_callv (pc' := 747) claw_744 mt97 rfl (Nat.le_of_ble_eq_true rfl) rfl kd_0 rfl rfl (Nat.le_of_ble_eq_true rfl) rfl rfl))))))))))))))) ((w_swcons (v := 18) rfl).trans (ite_iff ((w_aload_n (pc' := 767) claw_766 rfl rfl).trans ((w_aload_n (pc' := 768) claw_767 rfl rfl).trans ((w_iload_n (pc' := 769) claw_768 rfl rfl).trans ((w_iconst (pc' := 770) (v := 1) claw_769 rfl rfl).trans ((w_iadd (pc' := 771) claw_770 rfl).trans ((w_iald_c (pc' := 772) claw_771 kn_1000050 hX rfl).trans (and_congr_right (fun _ => (w_aload_n (pc' := 773) claw_772 rfl rfl).trans ((w_iload_n (pc' := 774) claw_773 rfl rfl).trans ((w_iconst (pc' := 775) (v := 2) claw_774 rfl rfl).trans ((w_iadd (pc' := 776) claw_775 rfl).trans ((w_iald_c (pc' := 777) claw_776 kn_1000050 hX rfl).trans (and_congr_right (fun _ => (w_callv (pc' := 780) claw_777 mt102 rfl (Nat.le_of_ble_eq_true rfl) rfl kd_0 rfl rfl (Nat.le_of_ble_eq_true rfl) rfl rfl))))))))))))))) ((w_swcons (v := 19) rfl).trans (ite_iff ((w_aload_n (pc' := 800) claw_799 rfl rfl).trans ((w_aload_n (pc' := 801) claw_800 rfl rfl).trans ((w_iload_n (pc' := 802) claw_801 rfl rfl).trans ((w_iconst (pc' := 803) (v := 1) claw_802 rfl rfl).trans ((w_iadd (pc' := 804) claw_803 rfl).trans ((w_iald_c (pc' := 805) claw_804 kn_1000050 hX rfl).trans (and_congr_right (fun _ => (w_aload_n (pc' := 806) claw_805 rfl rfl).trans ((w_iload_n (pc' := 807) claw_806 rfl rfl).trans ((w_iconst (pc' := 808) (v := 2) claw_807 rfl rfl).trans ((w_iadd (pc' := 809) claw_808 rfl).trans ((w_iald_c (pc' := 810) claw_809 kn_1000050 hX rfl).trans (and_congr_right (fun _ => (w_aload_n (pc' := 811) claw_810 rfl rfl).trans ((w_iload_n (pc' := 812) claw_811 rfl rfl).trans ((w_iconst (pc' := 813) (v := 3) claw_812 rfl rfl).trans ((w_iadd (pc' := 814) claw_813 rfl).trans ((w_iald_c (pc' := 815) claw_814 kn_1000050 hX rfl).trans (and_congr_right (fun _ => (w_callv (pc' := 818) claw_815 mt103 rfl (Nat.le_of_ble_eq_true rfl) rfl kd_0 rfl rfl (Nat.le_of_ble_eq_true rfl) rfl rfl))))))))))))))))))))) ((w_swcons (v := 20) rfl).trans (ite_iff ((w_aload_n (pc' := 844) claw_843 rfl rfl).trans ((w_aload_n (pc' := 845) claw_844 rfl rfl).trans ((w_iload_n (pc' := 846) claw_845 rfl rfl).trans ((w_iconst (pc' := 847) (v := 1) claw_846 rfl rfl).trans ((w_iadd (pc' := 848) claw_847 rfl).trans ((w_iald_c (pc' := 849) claw_848 kn_1000050 hX rfl).trans (and_congr_right (fun _ => (w_callv (pc' := 852) claw_849 mt107 rfl (Nat.le_of_ble_eq_true rfl) rfl kd_0 rfl rfl (Nat.le_of_ble_eq_true rfl) rfl rfl))))))))) ((w_swcons (v := 21) rfl).trans (ite_iff ((w_aload_n (pc' := 868) claw_867 rfl rfl).trans ((w_aload_n (pc' := 869) claw_868 rfl rfl).trans ((w_iload_n (pc' := 870) claw_869 rfl rfl).trans ((w_iconst (pc' := 871) (v := 1) claw_870 rfl rfl).trans ((w_iadd (pc' := 872) claw_871 rfl).trans ((w_iald_c (pc' := 873) claw_872 kn_1000050 hX rfl).trans (and_congr_right (fun _ => (w_aload_n (pc' := 874) claw_873 rfl rfl).trans ((w_iload_n (pc' := 875) claw_874 rfl rfl).trans ((w_iconst (pc' := 876) (v := 2) claw_875 rfl rfl).trans ((w_iadd (pc' := 877) claw_876 rfl).trans ((w_iald_c (pc' := 878) claw_877 kn_1000050 hX rfl).trans (and_congr_right (fun _ => (w_callv (pc' := 881) claw_878 mt108 rfl (Nat.le_of_ble_eq_true rfl) rfl kd_0 rfl rfl (Nat.le_of_ble_eq_true rfl) rfl rfl))))))))))))))) ((w_swcons (v := 22) rfl).trans (ite_iff ((w_aload_n (pc' := 901) claw_900 rfl rfl).trans ((w_aload_n (pc' := 902) claw_901 rfl rfl).trans ((w_iload_n (pc' := 903) claw_902 rfl rfl).trans ((w_iconst (pc' := 904) (v := 1) claw_903 rfl rfl).trans ((w_iadd (pc' := 905) claw_904 rfl).trans ((w_iald_c (pc' := 906) claw_905 kn_1000050 hX rfl).trans (and_congr_right (fun _ => (w_callv (pc' := 909) claw_906 mt109 rfl (Nat.le_of_ble_eq_true rfl) rfl kd_0 rfl rfl (Nat.le_of_ble_eq_true rfl) rfl rfl))))))))) ((w_swcons (v := 23) rfl).trans (ite_iff ((w_aload_n (pc' := 924) claw_923 rfl rfl).trans ((w_aload_n (pc' := 925) claw_924 rfl rfl).trans ((w_iload_n (pc' := 926) claw_925 rfl rfl).trans ((w_iconst (pc' := 927) (v := 1) claw_926 rfl rfl).trans ((w_iadd (pc' := 928) claw_927 rfl).trans ((w_iald_c (pc' := 929) claw_928 kn_1000050 hX rfl).trans (and_congr_right (fun _ => (w_aload_n (pc' := 930) claw_929 rfl rfl).trans ((w_iload_n (pc' := 931) claw_930 rfl rfl).trans ((w_iconst (pc' := 932) (v := 2) claw_931 rfl rfl).trans ((w_iadd (pc' := 933) claw_932 rfl).trans ((w_iald_c (pc' := 934) claw_933 kn_1000050 hX rfl).trans (and_congr_right (fun _ => (w_callv (pc' := 937) claw_934 mt112 rfl (Nat.le_of_ble_eq_true rfl) rfl kd_0 rfl rfl (Nat.le_of_ble_eq_true rfl) rfl rfl))))))))))))))) ((w_swcons (v := 24) rfl).trans (ite_iff ((w_aload_n (pc' := 957) claw_956 rfl rfl).trans ((w_callv (pc' := 960) claw_957 mt113 rfl (Nat.le_of_ble_eq_true rfl) rfl kd_0 rfl rfl (Nat.le_of_ble_eq_true rfl) rfl rfl))) ((w_swcons (v := 25) rfl).trans (ite_iff ((w_aload_n (pc' := 970) claw_969 rfl rfl).trans ((w_aload_n (pc' := 971) claw_970 rfl rfl).trans ((w_iload_n (pc' := 972) claw_971 rfl rfl).trans ((w_iconst (pc' := 973) (v := 1) claw_972 rfl rfl).trans ((w_iadd (pc' := 974) claw_973 rfl).trans ((w_iald_c (pc' := 975) claw_974 kn_1000050 hX rfl).trans (and_congr_right (fun _ => (w_aload_n (pc' := 976) claw_975 rfl rfl).trans ((w_iload_n (pc' := 977) claw_976 rfl rfl).trans ((w_iconst (pc' := 978) (v := 2) claw_977 rfl rfl).trans ((w_iadd (pc' := 979) claw_978 rfl).trans ((w_iald_c (pc' := 980) claw_979 kn_1000050 hX rfl).trans (and_congr_right (fun _ => (w_callv (pc' := 983) claw_980 mt114 rfl (Nat.le_of_ble_eq_true rfl) rfl kd_0 rfl rfl (Nat.le_of_ble_eq_true rfl) rfl rfl))))))))))))))) ((w_swcons (v := 26) rfl).trans (ite_iff ((w_aload_n (pc' := 1003) claw_1002 rfl rfl).trans ((w_callv (pc' := 1006) claw_1003 mt119 rfl (Nat.le_of_ble_eq_true rfl) rfl kd_0 rfl rfl (Nat.le_of_ble_eq_true rfl) rfl rfl))) ((w_swcons (v := 27) rfl).trans (ite_iff ((w_aload_n (pc' := 1016) claw_1015 rfl rfl).trans ((w_callv (pc' := 1019) claw_1016 mt120 rfl (Nat.le_of_ble_eq_true rfl) rfl kd_0 rfl rfl (Nat.le_of_ble_eq_true rfl) rfl rfl))) ((w_swcons (v := 28) rfl).trans (ite_iff ((w_aload_n (pc' := 1029) claw_1028 rfl rfl).trans ((w_aload_n (pc' := 1030) claw_1029 rfl rfl).trans ((w_iload_n (pc' := 1031) claw_1030 rfl rfl).trans ((w_iconst (pc' := 1032) (v := 1) claw_1031 rfl rfl).trans ((w_iadd (pc' := 1033) claw_1032 rfl).trans ((w_iald_c (pc' := 1034) claw_1033 kn_1000050 hX rfl).trans (and_congr_right (fun _ => (w_aload_n (pc' := 1035) claw_1034 rfl rfl).trans ((w_iload_n (pc' := 1036) claw_1035 rfl rfl).trans ((w_iconst (pc' := 1037) (v := 2) claw_1036 rfl rfl).trans ((w_iadd (pc' := 1038) claw_1037 rfl).trans ((w_iald_c (pc' := 1039) claw_1038 kn_1000050 hX rfl).trans (and_congr_right (fun _ => (w_aload_n (pc' := 1040) claw_1039 rfl rfl).trans ((w_iload_n (pc' := 1041) claw_1040 rfl rfl).trans ((w_iconst (pc' := 1042) (v := 3) claw_1041 rfl rfl).trans ((w_iadd (pc' := 1043) claw_1042 rfl).trans ((w_iald_c (pc' := 1044) claw_1043 kn_1000050 hX rfl).trans (and_congr_right (fun _ => (w_callv (pc' := 1047) claw_1044 mt121 rfl (Nat.le_of_ble_eq_true rfl) rfl kd_0 rfl rfl (Nat.le_of_ble_eq_true rfl) rfl rfl))))))))))))))))))))) ((w_swcons (v := 29) rfl).trans (ite_iff ((w_aload_n (pc' := 1072) claw_1071 rfl rfl).trans ((w_aload_n (pc' := 1073) claw_1072 rfl rfl).trans ((w_iload_n (pc' := 1074) claw_1073 rfl rfl).trans ((w_iconst (pc' := 1075) (v := 1) claw_1074 rfl rfl).trans ((w_iadd (pc' := 1076) claw_1075 rfl).trans ((w_iald_c (pc' := 1077) claw_1076 kn_1000050 hX rfl).trans (and_congr_right (fun _ => (w_callv (pc' := 1080) claw_1077 mt127 rfl (Nat.le_of_ble_eq_true rfl) rfl kd_0 rfl rfl (Nat.le_of_ble_eq_true rfl) rfl rfl))))))))) ((w_swcons (v := 30) rfl).trans (ite_iff ((w_aload_n (pc' := 1095) claw_1094 rfl rfl).trans ((w_aload_n (pc' := 1096) claw_1095 rfl rfl).trans ((w_iload_n (pc' := 1097) claw_1096 rfl rfl).trans ((w_iconst (pc' := 1098) (v := 1) claw_1097 rfl rfl).trans ((w_iadd (pc' := 1099) claw_1098 rfl).trans ((w_iald_c (pc' := 1100) claw_1099 kn_1000050 hX rfl).trans (and_congr_right (fun _ => (w_aload_n (pc' := 1101) claw_1100 rfl rfl).trans ((w_iload_n (pc' := 1102) claw_1101 rfl rfl).trans ((w_iconst (pc' := 1103) (v := 2) claw_1102 rfl rfl).trans ((w_iadd (pc' := 1104) claw_1103 rfl).trans ((w_iald_c (pc' := 1105) claw_1104 kn_1000050 hX rfl).trans (and_congr_right (fun _ => (w_callv (pc' := 1108) claw_1105 mt129 rfl (Nat.le_of_ble_eq_true rfl) rfl kd_0 rfl rfl (Nat.le_of_ble_eq_true rfl) rfl rfl))))))))))))))) ((w_swcons (v := 31) rfl).trans (ite_iff ((w_aload_n (pc' := 1128) claw_1127 rfl rfl).trans ((w_aload_n (pc' := 1129) claw_1128 rfl rfl).trans ((w_iload_n (pc' := 1130) claw_1129 rfl rfl).trans ((w_iconst (pc' := 1131) (v := 1) claw_1130 rfl rfl).trans ((w_iadd (pc' := 1132) claw_1131 rfl).trans ((w_iald_c (pc' := 1133) claw_1132 kn_1000050 hX rfl).trans (and_congr_right (fun _ => (w_callv (pc' := 1136) claw_1133 mt131 rfl (Nat.le_of_ble_eq_true rfl) rfl kd_0 rfl rfl (Nat.le_of_ble_eq_true rfl) rfl rfl))))))))) ((w_swcons (v := 32) rfl).trans (ite_iff ((w_aload_n (pc' := 1151) claw_1150 rfl rfl).trans ((w_aload_n (pc' := 1152) claw_1151 rfl rfl).trans ((w_iload_n (pc' := 1153) claw_1152 rfl rfl).trans ((w_iconst (pc' := 1154) (v := 1) claw_1153 rfl rfl).trans ((w_iadd (pc' := 1155) claw_1154 rfl).trans ((w_iald_c (pc' := 1156) claw_1155 kn_1000050 hX rfl).trans (and_congr_right (fun _ => (w_aload_n (pc' := 1157) claw_1156 rfl rfl).trans ((w_iload_n (pc' := 1158) claw_1157 rfl rfl).trans ((w_iconst (pc' := 1159) (v := 2) claw_1158 rfl rfl).trans ((w_iadd (pc' := 1160) claw_1159 rfl).trans ((w_iald_c (pc' := 1161) claw_1160 kn_1000050 hX rfl).trans (and_congr_right (fun _ => (w_aload_n (pc' := 1162) claw_1161 rfl rfl).trans ((w_iload_n (pc' := 1163) claw_1162 rfl rfl).trans ((w_iconst (pc' := 1164) (v := 3) claw_1163 rfl rfl).trans ((w_iadd (pc' := 1165) claw_1164 rfl).trans ((w_iald_c (pc' := 1166) claw_1165 kn_1000050 hX rfl).trans (and_congr_right (fun _ => (w_callv (pc' := 1169) claw_1166 mt132 rfl (Nat.le_of_ble_eq_true rfl) rfl kd_0 rfl rfl (Nat.le_of_ble_eq_true rfl) rfl rfl))))))))))))))))))))) ((w_swcons (v := 33) rfl).trans (ite_iff ((w_aload_n (pc' := 1194) claw_1193 rfl rfl).trans ((w_aload_n (pc' := 1195) claw_1194 rfl rfl).trans ((w_iload_n (pc' := 1196) claw_1195 rfl rfl).trans ((w_iconst (pc' := 1197) (v := 1) claw_1196 rfl rfl).trans ((w_iadd (pc' := 1198) claw_1197 rfl).trans ((w_iald_c (pc' := 1199) claw_1198 kn_1000050 hX rfl).trans (and_congr_right (fun _ => (w_aload_n (pc' := 1200) claw_1199 rfl rfl).trans ((w_iload_n (pc' := 1201) claw_1200 rfl rfl).trans ((w_iconst (pc' := 1202) (v := 2) claw_1201 rfl rfl).trans ((w_iadd (pc' := 1203) claw_1202 rfl).trans ((w_iald_c (pc' := 1204) claw_1203 kn_1000050 hX rfl).trans (and_congr_right (fun _ => (w_aload_n (pc' := 1205) claw_1204 rfl rfl).trans ((w_iload_n (pc' := 1206) claw_1205 rfl rfl).trans ((w_iconst (pc' := 1207) (v := 3) claw_1206 rfl rfl).trans ((w_iadd (pc' := 1208) claw_1207 rfl).trans ((w_iald_c (pc' := 1209) claw_1208 kn_1000050 hX rfl).trans (and_congr_right (fun _ => (w_i2l (pc' := 1210) claw_1209 rfl).trans ((w_bipush (pc' := 1212) (v := 32) claw_1210 rfl rfl).trans ((w_lshl (pc' := 1213) claw_1212 rfl).trans ((w_aload_n (pc' := 1214) claw_1213 rfl rfl).trans ((w_iload_n (pc' := 1215) claw_1214 rfl rfl).trans ((w_iconst (pc' := 1216) (v := 4) claw_1215 rfl rfl).trans ((w_iadd (pc' := 1217) claw_1216 rfl).trans ((w_iald_c (pc' := 1218) claw_1217 kn_1000050 hX rfl).trans (and_congr_right (fun _ => (w_i2l (pc' := 1219) claw_1218 rfl).trans ((w_ldc2_w (pc' := 1222) (v := 4294967295) claw_1219 rfl rfl).trans ((w_land (pc' := 1223) claw_1222 rfl).trans ((w_lor (pc' := 1224) claw_1223 rfl).trans ((w_callv (pc' := 1227) claw_1224 mt135 rfl (Nat.le_of_ble_eq_true rfl) rfl kd_0 rfl rfl (Nat.le_of_ble_eq_true rfl) rfl rfl)))))))))))))))))))))))))))))))))) ((w_swcons (v := 34) rfl).trans (ite_iff ((w_aload_n (pc' := 1267) claw_1266 rfl rfl).trans ((w_aload_n (pc' := 1268) claw_1267 rfl rfl).trans ((w_iload_n (pc' := 1269) claw_1268 rfl rfl).trans ((w_iconst (pc' := 1270) (v := 1) claw_1269 rfl rfl).trans ((w_iadd (pc' := 1271) claw_1270 rfl).trans ((w_iald_c (pc' := 1272) claw_1271 kn_1000050 hX rfl).trans (and_congr_right (fun _ => (w_aload_n (pc' := 1273) claw_1272 rfl rfl).trans ((w_iload_n (pc' := 1274) claw_1273 rfl rfl).trans ((w_iconst (pc' := 1275) (v := 2) claw_1274 rfl rfl).trans ((w_iadd (pc' := 1276) claw_1275 rfl).trans ((w_iald_c (pc' := 1277) claw_1276 kn_1000050 hX rfl).trans (and_congr_right (fun _ => (w_callv (pc' := 1280) claw_1277 mt138 rfl (Nat.le_of_ble_eq_true rfl) rfl kd_0 rfl rfl (Nat.le_of_ble_eq_true rfl) rfl rfl))))))))))))))) ((w_swcons (v := 35) rfl).trans (ite_iff ((w_aload_n (pc' := 1301) claw_1300 rfl rfl).trans ((w_aload_n (pc' := 1302) claw_1301 rfl rfl).trans ((w_iload_n (pc' := 1303) claw_1302 rfl rfl).trans ((w_iconst (pc' := 1304) (v := 1) claw_1303 rfl rfl).trans ((w_iadd (pc' := 1305) claw_1304 rfl).trans ((w_iald_c (pc' := 1306) claw_1305 kn_1000050 hX rfl).trans (and_congr_right (fun _ => (w_aload_n (pc' := 1307) claw_1306 rfl rfl).trans ((w_iload_n (pc' := 1308) claw_1307 rfl rfl).trans ((w_iconst (pc' := 1309) (v := 2) claw_1308 rfl rfl).trans ((w_iadd (pc' := 1310) claw_1309 rfl).trans ((w_iald_c (pc' := 1311) claw_1310 kn_1000050 hX rfl).trans (and_congr_right (fun _ => (w_aload_n (pc' := 1312) claw_1311 rfl rfl).trans ((w_iload_n (pc' := 1313) claw_1312 rfl rfl).trans ((w_iconst (pc' := 1314) (v := 3) claw_1313 rfl rfl).trans ((w_iadd (pc' := 1315) claw_1314 rfl).trans ((w_iald_c (pc' := 1316) claw_1315 kn_1000050 hX rfl).trans (and_congr_right (fun _ => (w_aload_n (pc' := 1317) claw_1316 rfl rfl).trans ((w_iload_n (pc' := 1318) claw_1317 rfl rfl).trans ((w_iconst (pc' := 1319) (v := 4) claw_1318 rfl rfl).trans ((w_iadd (pc' := 1320) claw_1319 rfl).trans ((w_iald_c (pc' := 1321) claw_1320 kn_1000050 hX rfl).trans (and_congr_right (fun _ => (w_aload_n (pc' := 1322) claw_1321 rfl rfl).trans ((w_iload_n (pc' := 1323) claw_1322 rfl rfl).trans ((w_iconst (pc' := 1324) (v := 5) claw_1323 rfl rfl).trans ((w_iadd (pc' := 1325) claw_1324 rfl).trans ((w_iald_c (pc' := 1326) claw_1325 kn_1000050 hX rfl).trans (and_congr_right (fun _ => (w_callv (pc' := 1329) claw_1326 mt139 rfl (Nat.le_of_ble_eq_true rfl) rfl kd_0 rfl rfl (Nat.le_of_ble_eq_true rfl) rfl rfl))))))))))))))))))))))))))))))))) ((w_swnil).trans ((w_iinc (pc' := 1366) (v := (x3 + 6)) (ls' := [some (.ref 1000050), some (.ref 0), some (.ref 124), some (.int (x3 + 6))]) claw_1363 (Nat.le_of_ble_eq_true rfl) rfl rfl rfl rfl).trans ((w_goto claw_1366)))))))))))))))))))))))))))))))))))))))))))))))))))))))))))))))))))))))))))))))))))))))))
theorem blaw_211 {X : Nat × (Nat → Int32)} {nX : Nat} {fX : Nat → Int32} (hX : cInts X 1000050 = some (nX, fX)) {d : Nat} {I : Nat → Nat → Int32} {L : Nat → Nat → Int64} {Q : Option Value → XW → Prop} {x3 : Int32} {s0 : Int32}  : wp X (d + 1) mLaw 211 [some (.ref 1000050), some (.ref 0), some (.ref 124), some (.int x3)] [(.int s0)] (K0, R0, I, L) Q ↔ (inA (x3 + 1) nX = true ∧ (inA (x3 + 2) nX = true ∧ (inA (x3 + 3) nX = true ∧ wp X d m141 0 [some (.ref 124), some (.int (fX (Int32.toNatClampNeg (x3 + 1)))), some (.int (fX (Int32.toNatClampNeg (x3 + 2)))), some (.int (fX (Int32.toNatClampNeg (x3 + 3)))), none] [] (K0, R0, I, L) (fun r w1 => wp X (d + 1) mLaw 230 [some (.ref 1000050), some (.ref 0), some (.ref 124), some (.int x3)] (r.toList ++ [(.int s0)]) w1 Q)))) := (w_aload_n (pc' := 212) claw_211 rfl rfl).trans ((w_aload_n (pc' := 213) claw_212 rfl rfl).trans ((w_iload_n (pc' := 214) claw_213 rfl rfl).trans ((w_iconst (pc' := 215) (v := 1) claw_214 rfl rfl).trans ((w_iadd (pc' := 216) claw_215 rfl).trans ((w_iald_c (pc' := 217) claw_216 kn_1000050 hX rfl).trans (and_congr_right (fun _ => (w_aload_n (pc' := 218) claw_217 rfl rfl).trans ((w_iload_n (pc' := 219) claw_218 rfl rfl).trans ((w_iconst (pc' := 220) (v := 2) claw_219 rfl rfl).trans ((w_iadd (pc' := 221) claw_220 rfl).trans ((w_iald_c (pc' := 222) claw_221 kn_1000050 hX rfl).trans (and_congr_right (fun _ => (w_aload_n (pc' := 223) claw_222 rfl rfl).trans ((w_iload_n (pc' := 224) claw_223 rfl rfl).trans ((w_iconst (pc' := 225) (v := 3) claw_224 rfl rfl).trans ((w_iadd (pc' := 226) claw_225 rfl).trans ((w_iald_c (pc' := 227) claw_226 kn_1000050 hX rfl).trans (and_congr_right (fun _ => (w_callv (pc' := 230) claw_227 mt141 rfl (Nat.le_of_ble_eq_true rfl) rfl kd_124 rfl rfl (Nat.le_of_ble_eq_true rfl) rfl rfl))))))))))))))))))))
theorem blaw_249 {X : Nat × (Nat → Int32)} {nX : Nat} {fX : Nat → Int32} (hX : cInts X 1000050 = some (nX, fX)) {d : Nat} {I : Nat → Nat → Int32} {L : Nat → Nat → Int64} {Q : Option Value → XW → Prop} {x3 : Int32} {s0 : Int32}  : wp X (d + 1) mLaw 249 [some (.ref 1000050), some (.ref 0), some (.ref 124), some (.int x3)] [(.int s0)] (K0, R0, I, L) Q ↔ (inA (x3 + 1) nX = true ∧ (inA (x3 + 2) nX = true ∧ wp X d m163 0 [some (.ref 124), some (.int (fX (Int32.toNatClampNeg (x3 + 1)))), some (.int (fX (Int32.toNatClampNeg (x3 + 2))))] [] (K0, R0, I, L) (fun r w1 => wp X (d + 1) mLaw 263 [some (.ref 1000050), some (.ref 0), some (.ref 124), some (.int x3)] (r.toList ++ [(.int s0)]) w1 Q))) := (w_aload_n (pc' := 250) claw_249 rfl rfl).trans ((w_aload_n (pc' := 251) claw_250 rfl rfl).trans ((w_iload_n (pc' := 252) claw_251 rfl rfl).trans ((w_iconst (pc' := 253) (v := 1) claw_252 rfl rfl).trans ((w_iadd (pc' := 254) claw_253 rfl).trans ((w_iald_c (pc' := 255) claw_254 kn_1000050 hX rfl).trans (and_congr_right (fun _ => (w_aload_n (pc' := 256) claw_255 rfl rfl).trans ((w_iload_n (pc' := 257) claw_256 rfl rfl).trans ((w_iconst (pc' := 258) (v := 2) claw_257 rfl rfl).trans ((w_iadd (pc' := 259) claw_258 rfl).trans ((w_iald_c (pc' := 260) claw_259 kn_1000050 hX rfl).trans (and_congr_right (fun _ => (w_callv (pc' := 263) claw_260 mt163 rfl (Nat.le_of_ble_eq_true rfl) rfl kd_124 rfl rfl (Nat.le_of_ble_eq_true rfl) rfl rfl))))))))))))))
theorem blaw_287 {X : Nat × (Nat → Int32)} {nX : Nat} {fX : Nat → Int32} (hX : cInts X 1000050 = some (nX, fX)) {d : Nat} {I : Nat → Nat → Int32} {L : Nat → Nat → Int64} {Q : Option Value → XW → Prop} {x3 : Int32} {s0 : Int32}  : wp X (d + 1) mLaw 287 [some (.ref 1000050), some (.ref 0), some (.ref 124), some (.int x3)] [(.int s0)] (K0, R0, I, L) Q ↔ (inA (x3 + 1) nX = true ∧ (inA (x3 + 2) nX = true ∧ (inA (x3 + 3) nX = true ∧ wp X d m144 0 [some (.ref 124), some (.int (fX (Int32.toNatClampNeg (x3 + 1)))), some (.int (fX (Int32.toNatClampNeg (x3 + 2)))), some (.int (fX (Int32.toNatClampNeg (x3 + 3)))), none] [] (K0, R0, I, L) (fun r w1 => wp X (d + 1) mLaw 306 [some (.ref 1000050), some (.ref 0), some (.ref 124), some (.int x3)] (r.toList ++ [(.int s0)]) w1 Q)))) := (w_aload_n (pc' := 288) claw_287 rfl rfl).trans ((w_aload_n (pc' := 289) claw_288 rfl rfl).trans ((w_iload_n (pc' := 290) claw_289 rfl rfl).trans ((w_iconst (pc' := 291) (v := 1) claw_290 rfl rfl).trans ((w_iadd (pc' := 292) claw_291 rfl).trans ((w_iald_c (pc' := 293) claw_292 kn_1000050 hX rfl).trans (and_congr_right (fun _ => (w_aload_n (pc' := 294) claw_293 rfl rfl).trans ((w_iload_n (pc' := 295) claw_294 rfl rfl).trans ((w_iconst (pc' := 296) (v := 2) claw_295 rfl rfl).trans ((w_iadd (pc' := 297) claw_296 rfl).trans ((w_iald_c (pc' := 298) claw_297 kn_1000050 hX rfl).trans (and_congr_right (fun _ => (w_aload_n (pc' := 299) claw_298 rfl rfl).trans ((w_iload_n (pc' := 300) claw_299 rfl rfl).trans ((w_iconst (pc' := 301) (v := 3) claw_300 rfl rfl).trans ((w_iadd (pc' := 302) claw_301 rfl).trans ((w_iald_c (pc' := 303) claw_302 kn_1000050 hX rfl).trans (and_congr_right (fun _ => (w_callv (pc' := 306) claw_303 mt144 rfl (Nat.le_of_ble_eq_true rfl) rfl kd_124 rfl rfl (Nat.le_of_ble_eq_true rfl) rfl rfl))))))))))))))))))))
theorem blaw_330 {X : Nat × (Nat → Int32)} {nX : Nat} {fX : Nat → Int32} (hX : cInts X 1000050 = some (nX, fX)) {d : Nat} {I : Nat → Nat → Int32} {L : Nat → Nat → Int64} {Q : Option Value → XW → Prop} {x3 : Int32} {s0 : Int32}  : wp X (d + 1) mLaw 330 [some (.ref 1000050), some (.ref 0), some (.ref 124), some (.int x3)] [(.int s0)] (K0, R0, I, L) Q ↔ (inA (x3 + 1) nX = true ∧ (inA (x3 + 2) nX = true ∧ (inA (x3 + 3) nX = true ∧ wp X d m146 0 [some (.ref 124), some (.int (fX (Int32.toNatClampNeg (x3 + 1)))), some (.int (fX (Int32.toNatClampNeg (x3 + 2)))), some (.int (fX (Int32.toNatClampNeg (x3 + 3)))), none] [] (K0, R0, I, L) (fun r w1 => wp X (d + 1) mLaw 349 [some (.ref 1000050), some (.ref 0), some (.ref 124), some (.int x3)] (r.toList ++ [(.int s0)]) w1 Q)))) := (w_aload_n (pc' := 331) claw_330 rfl rfl).trans ((w_aload_n (pc' := 332) claw_331 rfl rfl).trans ((w_iload_n (pc' := 333) claw_332 rfl rfl).trans ((w_iconst (pc' := 334) (v := 1) claw_333 rfl rfl).trans ((w_iadd (pc' := 335) claw_334 rfl).trans ((w_iald_c (pc' := 336) claw_335 kn_1000050 hX rfl).trans (and_congr_right (fun _ => (w_aload_n (pc' := 337) claw_336 rfl rfl).trans ((w_iload_n (pc' := 338) claw_337 rfl rfl).trans ((w_iconst (pc' := 339) (v := 2) claw_338 rfl rfl).trans ((w_iadd (pc' := 340) claw_339 rfl).trans ((w_iald_c (pc' := 341) claw_340 kn_1000050 hX rfl).trans (and_congr_right (fun _ => (w_aload_n (pc' := 342) claw_341 rfl rfl).trans ((w_iload_n (pc' := 343) claw_342 rfl rfl).trans ((w_iconst (pc' := 344) (v := 3) claw_343 rfl rfl).trans ((w_iadd (pc' := 345) claw_344 rfl).trans ((w_iald_c (pc' := 346) claw_345 kn_1000050 hX rfl).trans (and_congr_right (fun _ => (w_callv (pc' := 349) claw_346 mt146 rfl (Nat.le_of_ble_eq_true rfl) rfl kd_124 rfl rfl (Nat.le_of_ble_eq_true rfl) rfl rfl))))))))))))))))))))
theorem blaw_363 {X : Nat × (Nat → Int32)} {nX : Nat} {fX : Nat → Int32} (hX : cInts X 1000050 = some (nX, fX)) {d : Nat} {I : Nat → Nat → Int32} {L : Nat → Nat → Int64} {Q : Option Value → XW → Prop} {x3 : Int32} {s0 : Int32}  : wp X (d + 1) mLaw 363 [some (.ref 1000050), some (.ref 0), some (.ref 124), some (.int x3)] [(.int s0)] (K0, R0, I, L) Q ↔ (inA (x3 + 1) nX = true ∧ wp X d m147 0 [some (.ref 124), some (.int (fX (Int32.toNatClampNeg (x3 + 1))))] [] (K0, R0, I, L) (fun r w1 => wp X (d + 1) mLaw 372 [some (.ref 1000050), some (.ref 0), some (.ref 124), some (.int x3)] (r.toList ++ [(.int s0)]) w1 Q)) := (w_aload_n (pc' := 364) claw_363 rfl rfl).trans ((w_aload_n (pc' := 365) claw_364 rfl rfl).trans ((w_iload_n (pc' := 366) claw_365 rfl rfl).trans ((w_iconst (pc' := 367) (v := 1) claw_366 rfl rfl).trans ((w_iadd (pc' := 368) claw_367 rfl).trans ((w_iald_c (pc' := 369) claw_368 kn_1000050 hX rfl).trans (and_congr_right (fun _ => (w_callv (pc' := 372) claw_369 mt147 rfl (Nat.le_of_ble_eq_true rfl) rfl kd_124 rfl rfl (Nat.le_of_ble_eq_true rfl) rfl rfl))))))))
theorem blaw_381 {X : Nat × (Nat → Int32)} {d : Nat} {I : Nat → Nat → Int32} {L : Nat → Nat → Int64} {Q : Option Value → XW → Prop} {x3 : Int32} {s0 : Int32}  : wp X (d + 1) mLaw 381 [some (.ref 1000050), some (.ref 0), some (.ref 124), some (.int x3)] [(.int s0)] (K0, R0, I, L) Q ↔ wp X d m148 0 [some (.ref 124), none] [] (K0, R0, I, L) (fun r w1 => wp X (d + 1) mLaw 385 [some (.ref 1000050), some (.ref 0), some (.ref 124), some (.int x3)] (r.toList ++ [(.int s0)]) w1 Q) := (w_aload_n (pc' := 382) claw_381 rfl rfl).trans ((w_callv (pc' := 385) claw_382 mt148 rfl (Nat.le_of_ble_eq_true rfl) rfl kd_124 rfl rfl (Nat.le_of_ble_eq_true rfl) rfl rfl))
theorem blaw_399 {X : Nat × (Nat → Int32)} {nX : Nat} {fX : Nat → Int32} (hX : cInts X 1000050 = some (nX, fX)) {d : Nat} {I : Nat → Nat → Int32} {L : Nat → Nat → Int64} {Q : Option Value → XW → Prop} {x3 : Int32} {s0 : Int32}  : wp X (d + 1) mLaw 399 [some (.ref 1000050), some (.ref 0), some (.ref 124), some (.int x3)] [(.int s0)] (K0, R0, I, L) Q ↔ (inA (x3 + 1) nX = true ∧ wp X d m196 0 [some (.ref 124), some (.int (fX (Int32.toNatClampNeg (x3 + 1))))] [] (K0, R0, I, L) (fun r w1 => wp X (d + 1) mLaw 408 [some (.ref 1000050), some (.ref 0), some (.ref 124), some (.int x3)] (r.toList ++ [(.int s0)]) w1 Q)) := (w_aload_n (pc' := 400) claw_399 rfl rfl).trans ((w_aload_n (pc' := 401) claw_400 rfl rfl).trans ((w_iload_n (pc' := 402) claw_401 rfl rfl).trans ((w_iconst (pc' := 403) (v := 1) claw_402 rfl rfl).trans ((w_iadd (pc' := 404) claw_403 rfl).trans ((w_iald_c (pc' := 405) claw_404 kn_1000050 hX rfl).trans (and_congr_right (fun _ => (w_callv (pc' := 408) claw_405 mt196 rfl (Nat.le_of_ble_eq_true rfl) rfl kd_124 rfl rfl (Nat.le_of_ble_eq_true rfl) rfl rfl))))))))
theorem blaw_427 {X : Nat × (Nat → Int32)} {nX : Nat} {fX : Nat → Int32} (hX : cInts X 1000050 = some (nX, fX)) {d : Nat} {I : Nat → Nat → Int32} {L : Nat → Nat → Int64} {Q : Option Value → XW → Prop} {x3 : Int32} {s0 : Int32}  : wp X (d + 1) mLaw 427 [some (.ref 1000050), some (.ref 0), some (.ref 124), some (.int x3)] [(.int s0)] (K0, R0, I, L) Q ↔ (inA (x3 + 1) nX = true ∧ (inA (x3 + 2) nX = true ∧ wp X d m178 0 [some (.ref 124), some (.int (fX (Int32.toNatClampNeg (x3 + 1)))), some (.int (fX (Int32.toNatClampNeg (x3 + 2)))), none] [] (K0, R0, I, L) (fun r w1 => wp X (d + 1) mLaw 441 [some (.ref 1000050), some (.ref 0), some (.ref 124), some (.int x3)] (r.toList ++ [(.int s0)]) w1 Q))) := (w_aload_n (pc' := 428) claw_427 rfl rfl).trans ((w_aload_n (pc' := 429) claw_428 rfl rfl).trans ((w_iload_n (pc' := 430) claw_429 rfl rfl).trans ((w_iconst (pc' := 431) (v := 1) claw_430 rfl rfl).trans ((w_iadd (pc' := 432) claw_431 rfl).trans ((w_iald_c (pc' := 433) claw_432 kn_1000050 hX rfl).trans (and_congr_right (fun _ => (w_aload_n (pc' := 434) claw_433 rfl rfl).trans ((w_iload_n (pc' := 435) claw_434 rfl rfl).trans ((w_iconst (pc' := 436) (v := 2) claw_435 rfl rfl).trans ((w_iadd (pc' := 437) claw_436 rfl).trans ((w_iald_c (pc' := 438) claw_437 kn_1000050 hX rfl).trans (and_congr_right (fun _ => (w_callv (pc' := 441) claw_438 mt178 rfl (Nat.le_of_ble_eq_true rfl) rfl kd_124 rfl rfl (Nat.le_of_ble_eq_true rfl) rfl rfl))))))))))))))
theorem blaw_455 {X : Nat × (Nat → Int32)} {nX : Nat} {fX : Nat → Int32} (hX : cInts X 1000050 = some (nX, fX)) {d : Nat} {I : Nat → Nat → Int32} {L : Nat → Nat → Int64} {Q : Option Value → XW → Prop} {x3 : Int32} {s0 : Int32}  : wp X (d + 1) mLaw 455 [some (.ref 1000050), some (.ref 0), some (.ref 124), some (.int x3)] [(.int s0)] (K0, R0, I, L) Q ↔ (inA (x3 + 1) nX = true ∧ wp X d m184 0 [some (.ref 124), some (.int (fX (Int32.toNatClampNeg (x3 + 1)))), none] [] (K0, R0, I, L) (fun r w1 => wp X (d + 1) mLaw 464 [some (.ref 1000050), some (.ref 0), some (.ref 124), some (.int x3)] (r.toList ++ [(.int s0)]) w1 Q)) := (w_aload_n (pc' := 456) claw_455 rfl rfl).trans ((w_aload_n (pc' := 457) claw_456 rfl rfl).trans ((w_iload_n (pc' := 458) claw_457 rfl rfl).trans ((w_iconst (pc' := 459) (v := 1) claw_458 rfl rfl).trans ((w_iadd (pc' := 460) claw_459 rfl).trans ((w_iald_c (pc' := 461) claw_460 kn_1000050 hX rfl).trans (and_congr_right (fun _ => (w_callv (pc' := 464) claw_461 mt184 rfl (Nat.le_of_ble_eq_true rfl) rfl kd_124 rfl rfl (Nat.le_of_ble_eq_true rfl) rfl rfl))))))))
theorem blaw_488 {X : Nat × (Nat → Int32)} {nX : Nat} {fX : Nat → Int32} (hX : cInts X 1000050 = some (nX, fX)) {d : Nat} {I : Nat → Nat → Int32} {L : Nat → Nat → Int64} {Q : Option Value → XW → Prop} {x3 : Int32} {s0 : Int32}  : wp X (d + 1) mLaw 488 [some (.ref 1000050), some (.ref 0), some (.ref 124), some (.int x3)] [(.int s0)] (K0, R0, I, L) Q ↔ (inA (x3 + 1) nX = true ∧ (inA (x3 + 2) nX = true ∧ (inA (x3 + 3) nX = true ∧ wp X d m186 0 [some (.ref 124), some (.int (fX (Int32.toNatClampNeg (x3 + 1)))), some (.int (fX (Int32.toNatClampNeg (x3 + 2)))), some (.int (fX (Int32.toNatClampNeg (x3 + 3)))), none] [] (K0, R0, I, L) (fun r w1 => wp X (d + 1) mLaw 507 [some (.ref 1000050), some (.ref 0), some (.ref 124), some (.int x3)] (r.toList ++ [(.int s0)]) w1 Q)))) := (w_aload_n (pc' := 489) claw_488 rfl rfl).trans ((w_aload_n (pc' := 490) claw_489 rfl rfl).trans ((w_iload_n (pc' := 491) claw_490 rfl rfl).trans ((w_iconst (pc' := 492) (v := 1) claw_491 rfl rfl).trans ((w_iadd (pc' := 493) claw_492 rfl).trans ((w_iald_c (pc' := 494) claw_493 kn_1000050 hX rfl).trans (and_congr_right (fun _ => (w_aload_n (pc' := 495) claw_494 rfl rfl).trans ((w_iload_n (pc' := 496) claw_495 rfl rfl).trans ((w_iconst (pc' := 497) (v := 2) claw_496 rfl rfl).trans ((w_iadd (pc' := 498) claw_497 rfl).trans ((w_iald_c (pc' := 499) claw_498 kn_1000050 hX rfl).trans (and_congr_right (fun _ => (w_aload_n (pc' := 500) claw_499 rfl rfl).trans ((w_iload_n (pc' := 501) claw_500 rfl rfl).trans ((w_iconst (pc' := 502) (v := 3) claw_501 rfl rfl).trans ((w_iadd (pc' := 503) claw_502 rfl).trans ((w_iald_c (pc' := 504) claw_503 kn_1000050 hX rfl).trans (and_congr_right (fun _ => (w_callv (pc' := 507) claw_504 mt186 rfl (Nat.le_of_ble_eq_true rfl) rfl kd_124 rfl rfl (Nat.le_of_ble_eq_true rfl) rfl rfl))))))))))))))))))))
theorem blaw_531 {X : Nat × (Nat → Int32)} {nX : Nat} {fX : Nat → Int32} (hX : cInts X 1000050 = some (nX, fX)) {d : Nat} {I : Nat → Nat → Int32} {L : Nat → Nat → Int64} {Q : Option Value → XW → Prop} {x3 : Int32} {s0 : Int32}  : wp X (d + 1) mLaw 531 [some (.ref 1000050), some (.ref 0), some (.ref 124), some (.int x3)] [(.int s0)] (K0, R0, I, L) Q ↔ (inA (x3 + 1) nX = true ∧ (inA (x3 + 2) nX = true ∧ (inA (x3 + 3) nX = true ∧ wp X d m190 0 [some (.ref 124), some (.int (fX (Int32.toNatClampNeg (x3 + 1)))), some (.int (fX (Int32.toNatClampNeg (x3 + 2)))), some (.int (fX (Int32.toNatClampNeg (x3 + 3)))), none, none, none] [] (K0, R0, I, L) (fun r w1 => wp X (d + 1) mLaw 550 [some (.ref 1000050), some (.ref 0), some (.ref 124), some (.int x3)] (r.toList ++ [(.int s0)]) w1 Q)))) := (w_aload_n (pc' := 532) claw_531 rfl rfl).trans ((w_aload_n (pc' := 533) claw_532 rfl rfl).trans ((w_iload_n (pc' := 534) claw_533 rfl rfl).trans ((w_iconst (pc' := 535) (v := 1) claw_534 rfl rfl).trans ((w_iadd (pc' := 536) claw_535 rfl).trans ((w_iald_c (pc' := 537) claw_536 kn_1000050 hX rfl).trans (and_congr_right (fun _ => (w_aload_n (pc' := 538) claw_537 rfl rfl).trans ((w_iload_n (pc' := 539) claw_538 rfl rfl).trans ((w_iconst (pc' := 540) (v := 2) claw_539 rfl rfl).trans ((w_iadd (pc' := 541) claw_540 rfl).trans ((w_iald_c (pc' := 542) claw_541 kn_1000050 hX rfl).trans (and_congr_right (fun _ => (w_aload_n (pc' := 543) claw_542 rfl rfl).trans ((w_iload_n (pc' := 544) claw_543 rfl rfl).trans ((w_iconst (pc' := 545) (v := 3) claw_544 rfl rfl).trans ((w_iadd (pc' := 546) claw_545 rfl).trans ((w_iald_c (pc' := 547) claw_546 kn_1000050 hX rfl).trans (and_congr_right (fun _ => (w_callv (pc' := 550) claw_547 mt190 rfl (Nat.le_of_ble_eq_true rfl) rfl kd_124 rfl rfl (Nat.le_of_ble_eq_true rfl) rfl rfl))))))))))))))))))))
theorem blaw_574 {X : Nat × (Nat → Int32)} {nX : Nat} {fX : Nat → Int32} (hX : cInts X 1000050 = some (nX, fX)) {d : Nat} {I : Nat → Nat → Int32} {L : Nat → Nat → Int64} {Q : Option Value → XW → Prop} {x3 : Int32} {s0 : Int32}  : wp X (d + 1) mLaw 574 [some (.ref 1000050), some (.ref 0), some (.ref 124), some (.int x3)] [(.int s0)] (K0, R0, I, L) Q ↔ (inA (x3 + 1) nX = true ∧ (inA (x3 + 2) nX = true ∧ (inA (x3 + 3) nX = true ∧ wp X d m193 0 [some (.ref 124), some (.int (fX (Int32.toNatClampNeg (x3 + 1)))), some (.int (fX (Int32.toNatClampNeg (x3 + 2)))), some (.int (fX (Int32.toNatClampNeg (x3 + 3)))), none, none, none, none] [] (K0, R0, I, L) (fun r w1 => wp X (d + 1) mLaw 593 [some (.ref 1000050), some (.ref 0), some (.ref 124), some (.int x3)] (r.toList ++ [(.int s0)]) w1 Q)))) := (w_aload_n (pc' := 575) claw_574 rfl rfl).trans ((w_aload_n (pc' := 576) claw_575 rfl rfl).trans ((w_iload_n (pc' := 577) claw_576 rfl rfl).trans ((w_iconst (pc' := 578) (v := 1) claw_577 rfl rfl).trans ((w_iadd (pc' := 579) claw_578 rfl).trans ((w_iald_c (pc' := 580) claw_579 kn_1000050 hX rfl).trans (and_congr_right (fun _ => (w_aload_n (pc' := 581) claw_580 rfl rfl).trans ((w_iload_n (pc' := 582) claw_581 rfl rfl).trans ((w_iconst (pc' := 583) (v := 2) claw_582 rfl rfl).trans ((w_iadd (pc' := 584) claw_583 rfl).trans ((w_iald_c (pc' := 585) claw_584 kn_1000050 hX rfl).trans (and_congr_right (fun _ => (w_aload_n (pc' := 586) claw_585 rfl rfl).trans ((w_iload_n (pc' := 587) claw_586 rfl rfl).trans ((w_iconst (pc' := 588) (v := 3) claw_587 rfl rfl).trans ((w_iadd (pc' := 589) claw_588 rfl).trans ((w_iald_c (pc' := 590) claw_589 kn_1000050 hX rfl).trans (and_congr_right (fun _ => (w_callv (pc' := 593) claw_590 mt193 rfl (Nat.le_of_ble_eq_true rfl) rfl kd_124 rfl rfl (Nat.le_of_ble_eq_true rfl) rfl rfl))))))))))))))))))))
theorem blaw_607 {X : Nat × (Nat → Int32)} {nX : Nat} {fX : Nat → Int32} (hX : cInts X 1000050 = some (nX, fX)) {d : Nat} {I : Nat → Nat → Int32} {L : Nat → Nat → Int64} {Q : Option Value → XW → Prop} {x3 : Int32} {s0 : Int32}  : wp X (d + 1) mLaw 607 [some (.ref 1000050), some (.ref 0), some (.ref 124), some (.int x3)] [(.int s0)] (K0, R0, I, L) Q ↔ (inA (x3 + 1) nX = true ∧ wp X d m194 0 [some (.ref 124), some (.int (fX (Int32.toNatClampNeg (x3 + 1)))), none, none, none] [] (K0, R0, I, L) (fun r w1 => wp X (d + 1) mLaw 616 [some (.ref 1000050), some (.ref 0), some (.ref 124), some (.int x3)] (r.toList ++ [(.int s0)]) w1 Q)) := (w_aload_n (pc' := 608) claw_607 rfl rfl).trans ((w_aload_n (pc' := 609) claw_608 rfl rfl).trans ((w_iload_n (pc' := 610) claw_609 rfl rfl).trans ((w_iconst (pc' := 611) (v := 1) claw_610 rfl rfl).trans ((w_iadd (pc' := 612) claw_611 rfl).trans ((w_iald_c (pc' := 613) claw_612 kn_1000050 hX rfl).trans (and_congr_right (fun _ => (w_callv (pc' := 616) claw_613 mt194 rfl (Nat.le_of_ble_eq_true rfl) rfl kd_124 rfl rfl (Nat.le_of_ble_eq_true rfl) rfl rfl))))))))
theorem blaw_635 {X : Nat × (Nat → Int32)} {nX : Nat} {fX : Nat → Int32} (hX : cInts X 1000050 = some (nX, fX)) {d : Nat} {I : Nat → Nat → Int32} {L : Nat → Nat → Int64} {Q : Option Value → XW → Prop} {x3 : Int32} {s0 : Int32}  : wp X (d + 1) mLaw 635 [some (.ref 1000050), some (.ref 0), some (.ref 124), some (.int x3)] [(.int s0)] (K0, R0, I, L) Q ↔ (inA (x3 + 1) nX = true ∧ (inA (x3 + 2) nX = true ∧ wp X d m195 0 [some (.ref 124), some (.int (fX (Int32.toNatClampNeg (x3 + 1)))), some (.int (fX (Int32.toNatClampNeg (x3 + 2)))), none, none] [] (K0, R0, I, L) (fun r w1 => wp X (d + 1) mLaw 649 [some (.ref 1000050), some (.ref 0), some (.ref 124), some (.int x3)] (r.toList ++ [(.int s0)]) w1 Q))) := (w_aload_n (pc' := 636) claw_635 rfl rfl).trans ((w_aload_n (pc' := 637) claw_636 rfl rfl).trans ((w_iload_n (pc' := 638) claw_637 rfl rfl).trans ((w_iconst (pc' := 639) (v := 1) claw_638 rfl rfl).trans ((w_iadd (pc' := 640) claw_639 rfl).trans ((w_iald_c (pc' := 641) claw_640 kn_1000050 hX rfl).trans (and_congr_right (fun _ => (w_aload_n (pc' := 642) claw_641 rfl rfl).trans ((w_iload_n (pc' := 643) claw_642 rfl rfl).trans ((w_iconst (pc' := 644) (v := 2) claw_643 rfl rfl).trans ((w_iadd (pc' := 645) claw_644 rfl).trans ((w_iald_c (pc' := 646) claw_645 kn_1000050 hX rfl).trans (and_congr_right (fun _ => (w_callv (pc' := 649) claw_646 mt195 rfl (Nat.le_of_ble_eq_true rfl) rfl kd_124 rfl rfl (Nat.le_of_ble_eq_true rfl) rfl rfl))))))))))))))
theorem blaw_663 {X : Nat × (Nat → Int32)} {nX : Nat} {fX : Nat → Int32} (hX : cInts X 1000050 = some (nX, fX)) {d : Nat} {I : Nat → Nat → Int32} {L : Nat → Nat → Int64} {Q : Option Value → XW → Prop} {x3 : Int32} {s0 : Int32}  : wp X (d + 1) mLaw 663 [some (.ref 1000050), some (.ref 0), some (.ref 124), some (.int x3)] [(.int s0)] (K0, R0, I, L) Q ↔ (inA (x3 + 1) nX = true ∧ wp X d m202 0 [some (.ref 124), some (.int (fX (Int32.toNatClampNeg (x3 + 1)))), none, none] [] (K0, R0, I, L) (fun r w1 => wp X (d + 1) mLaw 672 [some (.ref 1000050), some (.ref 0), some (.ref 124), some (.int x3)] (r.toList ++ [(.int s0)]) w1 Q)) := (w_aload_n (pc' := 664) claw_663 rfl rfl).trans ((w_aload_n (pc' := 665) claw_664 rfl rfl).trans ((w_iload_n (pc' := 666) claw_665 rfl rfl).trans ((w_iconst (pc' := 667) (v := 1) claw_666 rfl rfl).trans ((w_iadd (pc' := 668) claw_667 rfl).trans ((w_iald_c (pc' := 669) claw_668 kn_1000050 hX rfl).trans (and_congr_right (fun _ => (w_callv (pc' := 672) claw_669 mt202 rfl (Nat.le_of_ble_eq_true rfl) rfl kd_124 rfl rfl (Nat.le_of_ble_eq_true rfl) rfl rfl))))))))
theorem blaw_686 {X : Nat × (Nat → Int32)} {nX : Nat} {fX : Nat → Int32} (hX : cInts X 1000050 = some (nX, fX)) {d : Nat} {I : Nat → Nat → Int32} {L : Nat → Nat → Int64} {Q : Option Value → XW → Prop} {x3 : Int32} {s0 : Int32}  : wp X (d + 1) mLaw 686 [some (.ref 1000050), some (.ref 0), some (.ref 124), some (.int x3)] [(.int s0)] (K0, R0, I, L) Q ↔ (inA (x3 + 1) nX = true ∧ wp X d m203 0 [some (.ref 124), some (.int (fX (Int32.toNatClampNeg (x3 + 1)))), none, none, none, none, none] [] (K0, R0, I, L) (fun r w1 => wp X (d + 1) mLaw 695 [some (.ref 1000050), some (.ref 0), some (.ref 124), some (.int x3)] (r.toList ++ [(.int s0)]) w1 Q)) := (w_aload_n (pc' := 687) claw_686 rfl rfl).trans ((w_aload_n (pc' := 688) claw_687 rfl rfl).trans ((w_iload_n (pc' := 689) claw_688 rfl rfl).trans ((w_iconst (pc' := 690) (v := 1) claw_689 rfl rfl).trans ((w_iadd (pc' := 691) claw_690 rfl).trans ((w_iald_c (pc' := 692) claw_691 kn_1000050 hX rfl).trans (and_congr_right (fun _ => (w_callv (pc' := 695) claw_692 mt203 rfl (Nat.le_of_ble_eq_true rfl) rfl kd_124 rfl rfl (Nat.le_of_ble_eq_true rfl) rfl rfl))))))))
theorem blaw_714 {X : Nat × (Nat → Int32)} {nX : Nat} {fX : Nat → Int32} (hX : cInts X 1000050 = some (nX, fX)) {d : Nat} {I : Nat → Nat → Int32} {L : Nat → Nat → Int64} {Q : Option Value → XW → Prop} {x3 : Int32} {s0 : Int32}  : wp X (d + 1) mLaw 714 [some (.ref 1000050), some (.ref 0), some (.ref 124), some (.int x3)] [(.int s0)] (K0, R0, I, L) Q ↔ (inA (x3 + 1) nX = true ∧ (inA (x3 + 2) nX = true ∧ wp X d m204 0 [some (.ref 124), some (.int (fX (Int32.toNatClampNeg (x3 + 1)))), some (.int (fX (Int32.toNatClampNeg (x3 + 2))))] [] (K0, R0, I, L) (fun r w1 => wp X (d + 1) mLaw 728 [some (.ref 1000050), some (.ref 0), some (.ref 124), some (.int x3)] (r.toList ++ [(.int s0)]) w1 Q))) := (w_aload_n (pc' := 715) claw_714 rfl rfl).trans ((w_aload_n (pc' := 716) claw_715 rfl rfl).trans ((w_iload_n (pc' := 717) claw_716 rfl rfl).trans ((w_iconst (pc' := 718) (v := 1) claw_717 rfl rfl).trans ((w_iadd (pc' := 719) claw_718 rfl).trans ((w_iald_c (pc' := 720) claw_719 kn_1000050 hX rfl).trans (and_congr_right (fun _ => (w_aload_n (pc' := 721) claw_720 rfl rfl).trans ((w_iload_n (pc' := 722) claw_721 rfl rfl).trans ((w_iconst (pc' := 723) (v := 2) claw_722 rfl rfl).trans ((w_iadd (pc' := 724) claw_723 rfl).trans ((w_iald_c (pc' := 725) claw_724 kn_1000050 hX rfl).trans (and_congr_right (fun _ => (w_callv (pc' := 728) claw_725 mt204 rfl (Nat.le_of_ble_eq_true rfl) rfl kd_124 rfl rfl (Nat.le_of_ble_eq_true rfl) rfl rfl))))))))))))))
theorem blaw_747 {X : Nat × (Nat → Int32)} {nX : Nat} {fX : Nat → Int32} (hX : cInts X 1000050 = some (nX, fX)) {d : Nat} {I : Nat → Nat → Int32} {L : Nat → Nat → Int64} {Q : Option Value → XW → Prop} {x3 : Int32} {s0 : Int32}  : wp X (d + 1) mLaw 747 [some (.ref 1000050), some (.ref 0), some (.ref 124), some (.int x3)] [(.int s0)] (K0, R0, I, L) Q ↔ (inA (x3 + 1) nX = true ∧ (inA (x3 + 2) nX = true ∧ wp X d m205 0 [some (.ref 124), some (.int (fX (Int32.toNatClampNeg (x3 + 1)))), some (.int (fX (Int32.toNatClampNeg (x3 + 2)))), none, none, none, none] [] (K0, R0, I, L) (fun r w1 => wp X (d + 1) mLaw 761 [some (.ref 1000050), some (.ref 0), some (.ref 124), some (.int x3)] (r.toList ++ [(.int s0)]) w1 Q))) := (w_aload_n (pc' := 748) claw_747 rfl rfl).trans ((w_aload_n (pc' := 749) claw_748 rfl rfl).trans ((w_iload_n (pc' := 750) claw_749 rfl rfl).trans ((w_iconst (pc' := 751) (v := 1) claw_750 rfl rfl).trans ((w_iadd (pc' := 752) claw_751 rfl).trans ((w_iald_c (pc' := 753) claw_752 kn_1000050 hX rfl).trans (and_congr_right (fun _ => (w_aload_n (pc' := 754) claw_753 rfl rfl).trans ((w_iload_n (pc' := 755) claw_754 rfl rfl).trans ((w_iconst (pc' := 756) (v := 2) claw_755 rfl rfl).trans ((w_iadd (pc' := 757) claw_756 rfl).trans ((w_iald_c (pc' := 758) claw_757 kn_1000050 hX rfl).trans (and_congr_right (fun _ => (w_callv (pc' := 761) claw_758 mt205 rfl (Nat.le_of_ble_eq_true rfl) rfl kd_124 rfl rfl (Nat.le_of_ble_eq_true rfl) rfl rfl))))))))))))))
theorem blaw_780 {X : Nat × (Nat → Int32)} {nX : Nat} {fX : Nat → Int32} (hX : cInts X 1000050 = some (nX, fX)) {d : Nat} {I : Nat → Nat → Int32} {L : Nat → Nat → Int64} {Q : Option Value → XW → Prop} {x3 : Int32} {s0 : Int32}  : wp X (d + 1) mLaw 780 [some (.ref 1000050), some (.ref 0), some (.ref 124), some (.int x3)] [(.int s0)] (K0, R0, I, L) Q ↔ (inA (x3 + 1) nX = true ∧ (inA (x3 + 2) nX = true ∧ wp X d m207 0 [some (.ref 124), some (.int (fX (Int32.toNatClampNeg (x3 + 1)))), some (.int (fX (Int32.toNatClampNeg (x3 + 2)))), none, none, none, none] [] (K0, R0, I, L) (fun r w1 => wp X (d + 1) mLaw 794 [some (.ref 1000050), some (.ref 0), some (.ref 124), some (.int x3)] (r.toList ++ [(.int s0)]) w1 Q))) := (w_aload_n (pc' := 781) claw_780 rfl rfl).trans ((w_aload_n (pc' := 782) claw_781 rfl rfl).trans ((w_iload_n (pc' := 783) claw_782 rfl rfl).trans ((w_iconst (pc' := 784) (v := 1) claw_783 rfl rfl).trans ((w_iadd (pc' := 785) claw_784 rfl).trans ((w_iald_c (pc' := 786) claw_785 kn_1000050 hX rfl).trans (and_congr_right (fun _ => (w_aload_n (pc' := 787) claw_786 rfl rfl).trans ((w_iload_n (pc' := 788) claw_787 rfl rfl).trans ((w_iconst (pc' := 789) (v := 2) claw_788 rfl rfl).trans ((w_iadd (pc' := 790) claw_789 rfl).trans ((w_iald_c (pc' := 791) claw_790 kn_1000050 hX rfl).trans (and_congr_right (fun _ => (w_callv (pc' := 794) claw_791 mt207 rfl (Nat.le_of_ble_eq_true rfl) rfl kd_124 rfl rfl (Nat.le_of_ble_eq_true rfl) rfl rfl))))))))))))))
theorem blaw_818 {X : Nat × (Nat → Int32)} {nX : Nat} {fX : Nat → Int32} (hX : cInts X 1000050 = some (nX, fX)) {d : Nat} {I : Nat → Nat → Int32} {L : Nat → Nat → Int64} {Q : Option Value → XW → Prop} {x3 : Int32} {s0 : Int64}  : wp X (d + 1) mLaw 818 [some (.ref 1000050), some (.ref 0), some (.ref 124), some (.int x3)] [(.long (s0))] (K0, R0, I, L) Q ↔ (inA (x3 + 1) nX = true ∧ (inA (x3 + 2) nX = true ∧ (inA (x3 + 3) nX = true ∧ wp X d m208 0 [some (.ref 124), some (.int (fX (Int32.toNatClampNeg (x3 + 1)))), some (.int (fX (Int32.toNatClampNeg (x3 + 2)))), some (.int (fX (Int32.toNatClampNeg (x3 + 3)))), none, none] [] (K0, R0, I, L) (fun r w1 => wp X (d + 1) mLaw 837 [some (.ref 1000050), some (.ref 0), some (.ref 124), some (.int x3)] (r.toList ++ [(.long (s0))]) w1 Q)))) := (w_aload_n (pc' := 819) claw_818 rfl rfl).trans ((w_aload_n (pc' := 820) claw_819 rfl rfl).trans ((w_iload_n (pc' := 821) claw_820 rfl rfl).trans ((w_iconst (pc' := 822) (v := 1) claw_821 rfl rfl).trans ((w_iadd (pc' := 823) claw_822 rfl).trans ((w_iald_c (pc' := 824) claw_823 kn_1000050 hX rfl).trans (and_congr_right (fun _ => (w_aload_n (pc' := 825) claw_824 rfl rfl).trans ((w_iload_n (pc' := 826) claw_825 rfl rfl).trans ((w_iconst (pc' := 827) (v := 2) claw_826 rfl rfl).trans ((w_iadd (pc' := 828) claw_827 rfl).trans ((w_iald_c (pc' := 829) claw_828 kn_1000050 hX rfl).trans (and_congr_right (fun _ => (w_aload_n (pc' := 830) claw_829 rfl rfl).trans ((w_iload_n (pc' := 831) claw_830 rfl rfl).trans ((w_iconst (pc' := 832) (v := 3) claw_831 rfl rfl).trans ((w_iadd (pc' := 833) claw_832 rfl).trans ((w_iald_c (pc' := 834) claw_833 kn_1000050 hX rfl).trans (and_congr_right (fun _ => (w_callv (pc' := 837) claw_834 mt208 rfl (Nat.le_of_ble_eq_true rfl) rfl kd_124 rfl rfl (Nat.le_of_ble_eq_true rfl) rfl rfl))))))))))))))))))))
theorem blaw_852 {X : Nat × (Nat → Int32)} {nX : Nat} {fX : Nat → Int32} (hX : cInts X 1000050 = some (nX, fX)) {d : Nat} {I : Nat → Nat → Int32} {L : Nat → Nat → Int64} {Q : Option Value → XW → Prop} {x3 : Int32} {s0 : Int64}  : wp X (d + 1) mLaw 852 [some (.ref 1000050), some (.ref 0), some (.ref 124), some (.int x3)] [(.long (s0))] (K0, R0, I, L) Q ↔ (inA (x3 + 1) nX = true ∧ wp X d m211 0 [some (.ref 124), some (.int (fX (Int32.toNatClampNeg (x3 + 1)))), none, none] [] (K0, R0, I, L) (fun r w1 => wp X (d + 1) mLaw 861 [some (.ref 1000050), some (.ref 0), some (.ref 124), some (.int x3)] (r.toList ++ [(.long (s0))]) w1 Q)) := (w_aload_n (pc' := 853) claw_852 rfl rfl).trans ((w_aload_n (pc' := 854) claw_853 rfl rfl).trans ((w_iload_n (pc' := 855) claw_854 rfl rfl).trans ((w_iconst (pc' := 856) (v := 1) claw_855 rfl rfl).trans ((w_iadd (pc' := 857) claw_856 rfl).trans ((w_iald_c (pc' := 858) claw_857 kn_1000050 hX rfl).trans (and_congr_right (fun _ => (w_callv (pc' := 861) claw_858 mt211 rfl (Nat.le_of_ble_eq_true rfl) rfl kd_124 rfl rfl (Nat.le_of_ble_eq_true rfl) rfl rfl))))))))
theorem blaw_881 {X : Nat × (Nat → Int32)} {nX : Nat} {fX : Nat → Int32} (hX : cInts X 1000050 = some (nX, fX)) {d : Nat} {I : Nat → Nat → Int32} {L : Nat → Nat → Int64} {Q : Option Value → XW → Prop} {x3 : Int32} {s0 : Int32}  : wp X (d + 1) mLaw 881 [some (.ref 1000050), some (.ref 0), some (.ref 124), some (.int x3)] [(.int s0)] (K0, R0, I, L) Q ↔ (inA (x3 + 1) nX = true ∧ (inA (x3 + 2) nX = true ∧ wp X d m212 0 [some (.ref 124), some (.int (fX (Int32.toNatClampNeg (x3 + 1)))), some (.int (fX (Int32.toNatClampNeg (x3 + 2))))] [] (K0, R0, I, L) (fun r w1 => wp X (d + 1) mLaw 895 [some (.ref 1000050), some (.ref 0), some (.ref 124), some (.int x3)] (r.toList ++ [(.int s0)]) w1 Q))) := (w_aload_n (pc' := 882) claw_881 rfl rfl).trans ((w_aload_n (pc' := 883) claw_882 rfl rfl).trans ((w_iload_n (pc' := 884) claw_883 rfl rfl).trans ((w_iconst (pc' := 885) (v := 1) claw_884 rfl rfl).trans ((w_iadd (pc' := 886) claw_885 rfl).trans ((w_iald_c (pc' := 887) claw_886 kn_1000050 hX rfl).trans (and_congr_right (fun _ => (w_aload_n (pc' := 888) claw_887 rfl rfl).trans ((w_iload_n (pc' := 889) claw_888 rfl rfl).trans ((w_iconst (pc' := 890) (v := 2) claw_889 rfl rfl).trans ((w_iadd (pc' := 891) claw_890 rfl).trans ((w_iald_c (pc' := 892) claw_891 kn_1000050 hX rfl).trans (and_congr_right (fun _ => (w_callv (pc' := 895) claw_892 mt212 rfl (Nat.le_of_ble_eq_true rfl) rfl kd_124 rfl rfl (Nat.le_of_ble_eq_true rfl) rfl rfl))))))))))))))
theorem blaw_909 {X : Nat × (Nat → Int32)} {nX : Nat} {fX : Nat → Int32} (hX : cInts X 1000050 = some (nX, fX)) {d : Nat} {I : Nat → Nat → Int32} {L : Nat → Nat → Int64} {Q : Option Value → XW → Prop} {x3 : Int32} {s0 : Int32}  : wp X (d + 1) mLaw 909 [some (.ref 1000050), some (.ref 0), some (.ref 124), some (.int x3)] [(.int s0)] (K0, R0, I, L) Q ↔ (inA (x3 + 1) nX = true ∧ wp X d m213 0 [some (.ref 124), some (.int (fX (Int32.toNatClampNeg (x3 + 1)))), none, none] [] (K0, R0, I, L) (fun r w1 => wp X (d + 1) mLaw 918 [some (.ref 1000050), some (.ref 0), some (.ref 124), some (.int x3)] (r.toList ++ [(.int s0)]) w1 Q)) := (w_aload_n (pc' := 910) claw_909 rfl rfl).trans ((w_aload_n (pc' := 911) claw_910 rfl rfl).trans ((w_iload_n (pc' := 912) claw_911 rfl rfl).trans ((w_iconst (pc' := 913) (v := 1) claw_912 rfl rfl).trans ((w_iadd (pc' := 914) claw_913 rfl).trans ((w_iald_c (pc' := 915) claw_914 kn_1000050 hX rfl).trans (and_congr_right (fun _ => (w_callv (pc' := 918) claw_915 mt213 rfl (Nat.le_of_ble_eq_true rfl) rfl kd_124 rfl rfl (Nat.le_of_ble_eq_true rfl) rfl rfl))))))))
theorem blaw_937 {X : Nat × (Nat → Int32)} {nX : Nat} {fX : Nat → Int32} (hX : cInts X 1000050 = some (nX, fX)) {d : Nat} {I : Nat → Nat → Int32} {L : Nat → Nat → Int64} {Q : Option Value → XW → Prop} {x3 : Int32} {s0 : Int32}  : wp X (d + 1) mLaw 937 [some (.ref 1000050), some (.ref 0), some (.ref 124), some (.int x3)] [(.int s0)] (K0, R0, I, L) Q ↔ (inA (x3 + 1) nX = true ∧ (inA (x3 + 2) nX = true ∧ wp X d m214 0 [some (.ref 124), some (.int (fX (Int32.toNatClampNeg (x3 + 1)))), some (.int (fX (Int32.toNatClampNeg (x3 + 2))))] [] (K0, R0, I, L) (fun r w1 => wp X (d + 1) mLaw 951 [some (.ref 1000050), some (.ref 0), some (.ref 124), some (.int x3)] (r.toList ++ [(.int s0)]) w1 Q))) := (w_aload_n (pc' := 938) claw_937 rfl rfl).trans ((w_aload_n (pc' := 939) claw_938 rfl rfl).trans ((w_iload_n (pc' := 940) claw_939 rfl rfl).trans ((w_iconst (pc' := 941) (v := 1) claw_940 rfl rfl).trans ((w_iadd (pc' := 942) claw_941 rfl).trans ((w_iald_c (pc' := 943) claw_942 kn_1000050 hX rfl).trans (and_congr_right (fun _ => (w_aload_n (pc' := 944) claw_943 rfl rfl).trans ((w_iload_n (pc' := 945) claw_944 rfl rfl).trans ((w_iconst (pc' := 946) (v := 2) claw_945 rfl rfl).trans ((w_iadd (pc' := 947) claw_946 rfl).trans ((w_iald_c (pc' := 948) claw_947 kn_1000050 hX rfl).trans (and_congr_right (fun _ => (w_callv (pc' := 951) claw_948 mt214 rfl (Nat.le_of_ble_eq_true rfl) rfl kd_124 rfl rfl (Nat.le_of_ble_eq_true rfl) rfl rfl))))))))))))))
theorem blaw_960 {X : Nat × (Nat → Int32)} {d : Nat} {I : Nat → Nat → Int32} {L : Nat → Nat → Int64} {Q : Option Value → XW → Prop} {x3 : Int32} {s0 : Int32}  : wp X (d + 1) mLaw 960 [some (.ref 1000050), some (.ref 0), some (.ref 124), some (.int x3)] [(.int s0)] (K0, R0, I, L) Q ↔ wp X d m215 0 [some (.ref 124), none] [] (K0, R0, I, L) (fun r w1 => wp X (d + 1) mLaw 964 [some (.ref 1000050), some (.ref 0), some (.ref 124), some (.int x3)] (r.toList ++ [(.int s0)]) w1 Q) := (w_aload_n (pc' := 961) claw_960 rfl rfl).trans ((w_callv (pc' := 964) claw_961 mt215 rfl (Nat.le_of_ble_eq_true rfl) rfl kd_124 rfl rfl (Nat.le_of_ble_eq_true rfl) rfl rfl))
theorem blaw_983 {X : Nat × (Nat → Int32)} {nX : Nat} {fX : Nat → Int32} (hX : cInts X 1000050 = some (nX, fX)) {d : Nat} {I : Nat → Nat → Int32} {L : Nat → Nat → Int64} {Q : Option Value → XW → Prop} {x3 : Int32} {s0 : Int32}  : wp X (d + 1) mLaw 983 [some (.ref 1000050), some (.ref 0), some (.ref 124), some (.int x3)] [(.int s0)] (K0, R0, I, L) Q ↔ (inA (x3 + 1) nX = true ∧ (inA (x3 + 2) nX = true ∧ wp X d m216 0 [some (.ref 124), some (.int (fX (Int32.toNatClampNeg (x3 + 1)))), some (.int (fX (Int32.toNatClampNeg (x3 + 2)))), none] [] (K0, R0, I, L) (fun r w1 => wp X (d + 1) mLaw 997 [some (.ref 1000050), some (.ref 0), some (.ref 124), some (.int x3)] (r.toList ++ [(.int s0)]) w1 Q))) := (w_aload_n (pc' := 984) claw_983 rfl rfl).trans ((w_aload_n (pc' := 985) claw_984 rfl rfl).trans ((w_iload_n (pc' := 986) claw_985 rfl rfl).trans ((w_iconst (pc' := 987) (v := 1) claw_986 rfl rfl).trans ((w_iadd (pc' := 988) claw_987 rfl).trans ((w_iald_c (pc' := 989) claw_988 kn_1000050 hX rfl).trans (and_congr_right (fun _ => (w_aload_n (pc' := 990) claw_989 rfl rfl).trans ((w_iload_n (pc' := 991) claw_990 rfl rfl).trans ((w_iconst (pc' := 992) (v := 2) claw_991 rfl rfl).trans ((w_iadd (pc' := 993) claw_992 rfl).trans ((w_iald_c (pc' := 994) claw_993 kn_1000050 hX rfl).trans (and_congr_right (fun _ => (w_callv (pc' := 997) claw_994 mt216 rfl (Nat.le_of_ble_eq_true rfl) rfl kd_124 rfl rfl (Nat.le_of_ble_eq_true rfl) rfl rfl))))))))))))))
theorem blaw_1006 {X : Nat × (Nat → Int32)} {d : Nat} {I : Nat → Nat → Int32} {L : Nat → Nat → Int64} {Q : Option Value → XW → Prop} {x3 : Int32} {s0 : Int32}  : wp X (d + 1) mLaw 1006 [some (.ref 1000050), some (.ref 0), some (.ref 124), some (.int x3)] [(.int s0)] (K0, R0, I, L) Q ↔ wp X d m218 0 [some (.ref 124), none] [] (K0, R0, I, L) (fun r w1 => wp X (d + 1) mLaw 1010 [some (.ref 1000050), some (.ref 0), some (.ref 124), some (.int x3)] (r.toList ++ [(.int s0)]) w1 Q) := (w_aload_n (pc' := 1007) claw_1006 rfl rfl).trans ((w_callv (pc' := 1010) claw_1007 mt218 rfl (Nat.le_of_ble_eq_true rfl) rfl kd_124 rfl rfl (Nat.le_of_ble_eq_true rfl) rfl rfl))
theorem blaw_1019 {X : Nat × (Nat → Int32)} {d : Nat} {I : Nat → Nat → Int32} {L : Nat → Nat → Int64} {Q : Option Value → XW → Prop} {x3 : Int32} {s0 : Int32}  : wp X (d + 1) mLaw 1019 [some (.ref 1000050), some (.ref 0), some (.ref 124), some (.int x3)] [(.int s0)] (K0, R0, I, L) Q ↔ wp X d m219 0 [some (.ref 124), none] [] (K0, R0, I, L) (fun r w1 => wp X (d + 1) mLaw 1023 [some (.ref 1000050), some (.ref 0), some (.ref 124), some (.int x3)] (r.toList ++ [(.int s0)]) w1 Q) := (w_aload_n (pc' := 1020) claw_1019 rfl rfl).trans ((w_callv (pc' := 1023) claw_1020 mt219 rfl (Nat.le_of_ble_eq_true rfl) rfl kd_124 rfl rfl (Nat.le_of_ble_eq_true rfl) rfl rfl))
theorem blaw_1047 {X : Nat × (Nat → Int32)} {nX : Nat} {fX : Nat → Int32} (hX : cInts X 1000050 = some (nX, fX)) {d : Nat} {I : Nat → Nat → Int32} {L : Nat → Nat → Int64} {Q : Option Value → XW → Prop} {x3 : Int32} {s0 : Int32}  : wp X (d + 1) mLaw 1047 [some (.ref 1000050), some (.ref 0), some (.ref 124), some (.int x3)] [(.int s0)] (K0, R0, I, L) Q ↔ (inA (x3 + 1) nX = true ∧ (inA (x3 + 2) nX = true ∧ (inA (x3 + 3) nX = true ∧ wp X d m220 0 [some (.ref 124), some (.int (fX (Int32.toNatClampNeg (x3 + 1)))), some (.int (fX (Int32.toNatClampNeg (x3 + 2)))), some (.int (fX (Int32.toNatClampNeg (x3 + 3))))] [] (K0, R0, I, L) (fun r w1 => wp X (d + 1) mLaw 1066 [some (.ref 1000050), some (.ref 0), some (.ref 124), some (.int x3)] (r.toList ++ [(.int s0)]) w1 Q)))) := (w_aload_n (pc' := 1048) claw_1047 rfl rfl).trans ((w_aload_n (pc' := 1049) claw_1048 rfl rfl).trans ((w_iload_n (pc' := 1050) claw_1049 rfl rfl).trans ((w_iconst (pc' := 1051) (v := 1) claw_1050 rfl rfl).trans ((w_iadd (pc' := 1052) claw_1051 rfl).trans ((w_iald_c (pc' := 1053) claw_1052 kn_1000050 hX rfl).trans (and_congr_right (fun _ => (w_aload_n (pc' := 1054) claw_1053 rfl rfl).trans ((w_iload_n (pc' := 1055) claw_1054 rfl rfl).trans ((w_iconst (pc' := 1056) (v := 2) claw_1055 rfl rfl).trans ((w_iadd (pc' := 1057) claw_1056 rfl).trans ((w_iald_c (pc' := 1058) claw_1057 kn_1000050 hX rfl).trans (and_congr_right (fun _ => (w_aload_n (pc' := 1059) claw_1058 rfl rfl).trans ((w_iload_n (pc' := 1060) claw_1059 rfl rfl).trans ((w_iconst (pc' := 1061) (v := 3) claw_1060 rfl rfl).trans ((w_iadd (pc' := 1062) claw_1061 rfl).trans ((w_iald_c (pc' := 1063) claw_1062 kn_1000050 hX rfl).trans (and_congr_right (fun _ => (w_callv (pc' := 1066) claw_1063 mt220 rfl (Nat.le_of_ble_eq_true rfl) rfl kd_124 rfl rfl (Nat.le_of_ble_eq_true rfl) rfl rfl))))))))))))))))))))
theorem blaw_1080 {X : Nat × (Nat → Int32)} {nX : Nat} {fX : Nat → Int32} (hX : cInts X 1000050 = some (nX, fX)) {d : Nat} {I : Nat → Nat → Int32} {L : Nat → Nat → Int64} {Q : Option Value → XW → Prop} {x3 : Int32} {s0 : Int32}  : wp X (d + 1) mLaw 1080 [some (.ref 1000050), some (.ref 0), some (.ref 124), some (.int x3)] [(.int s0)] (K0, R0, I, L) Q ↔ (inA (x3 + 1) nX = true ∧ wp X d m229 0 [some (.ref 124), some (.int (fX (Int32.toNatClampNeg (x3 + 1))))] [] (K0, R0, I, L) (fun r w1 => wp X (d + 1) mLaw 1089 [some (.ref 1000050), some (.ref 0), some (.ref 124), some (.int x3)] (r.toList ++ [(.int s0)]) w1 Q)) := (w_aload_n (pc' := 1081) claw_1080 rfl rfl).trans ((w_aload_n (pc' := 1082) claw_1081 rfl rfl).trans ((w_iload_n (pc' := 1083) claw_1082 rfl rfl).trans ((w_iconst (pc' := 1084) (v := 1) claw_1083 rfl rfl).trans ((w_iadd (pc' := 1085) claw_1084 rfl).trans ((w_iald_c (pc' := 1086) claw_1085 kn_1000050 hX rfl).trans (and_congr_right (fun _ => (w_callv (pc' := 1089) claw_1086 mt229 rfl (Nat.le_of_ble_eq_true rfl) rfl kd_124 rfl rfl (Nat.le_of_ble_eq_true rfl) rfl rfl))))))))
theorem blaw_1108 {X : Nat × (Nat → Int32)} {nX : Nat} {fX : Nat → Int32} (hX : cInts X 1000050 = some (nX, fX)) {d : Nat} {I : Nat → Nat → Int32} {L : Nat → Nat → Int64} {Q : Option Value → XW → Prop} {x3 : Int32} {s0 : Int32}  : wp X (d + 1) mLaw 1108 [some (.ref 1000050), some (.ref 0), some (.ref 124), some (.int x3)] [(.int s0)] (K0, R0, I, L) Q ↔ (inA (x3 + 1) nX = true ∧ (inA (x3 + 2) nX = true ∧ wp X d m230 0 [some (.ref 124), some (.int (fX (Int32.toNatClampNeg (x3 + 1)))), some (.int (fX (Int32.toNatClampNeg (x3 + 2)))), none] [] (K0, R0, I, L) (fun r w1 => wp X (d + 1) mLaw 1122 [some (.ref 1000050), some (.ref 0), some (.ref 124), some (.int x3)] (r.toList ++ [(.int s0)]) w1 Q))) := (w_aload_n (pc' := 1109) claw_1108 rfl rfl).trans ((w_aload_n (pc' := 1110) claw_1109 rfl rfl).trans ((w_iload_n (pc' := 1111) claw_1110 rfl rfl).trans ((w_iconst (pc' := 1112) (v := 1) claw_1111 rfl rfl).trans ((w_iadd (pc' := 1113) claw_1112 rfl).trans ((w_iald_c (pc' := 1114) claw_1113 kn_1000050 hX rfl).trans (and_congr_right (fun _ => (w_aload_n (pc' := 1115) claw_1114 rfl rfl).trans ((w_iload_n (pc' := 1116) claw_1115 rfl rfl).trans ((w_iconst (pc' := 1117) (v := 2) claw_1116 rfl rfl).trans ((w_iadd (pc' := 1118) claw_1117 rfl).trans ((w_iald_c (pc' := 1119) claw_1118 kn_1000050 hX rfl).trans (and_congr_right (fun _ => (w_callv (pc' := 1122) claw_1119 mt230 rfl (Nat.le_of_ble_eq_true rfl) rfl kd_124 rfl rfl (Nat.le_of_ble_eq_true rfl) rfl rfl))))))))))))))
theorem blaw_1136 {X : Nat × (Nat → Int32)} {nX : Nat} {fX : Nat → Int32} (hX : cInts X 1000050 = some (nX, fX)) {d : Nat} {I : Nat → Nat → Int32} {L : Nat → Nat → Int64} {Q : Option Value → XW → Prop} {x3 : Int32} {s0 : Int32}  : wp X (d + 1) mLaw 1136 [some (.ref 1000050), some (.ref 0), some (.ref 124), some (.int x3)] [(.int s0)] (K0, R0, I, L) Q ↔ (inA (x3 + 1) nX = true ∧ wp X d m231 0 [some (.ref 124), some (.int (fX (Int32.toNatClampNeg (x3 + 1))))] [] (K0, R0, I, L) (fun r w1 => wp X (d + 1) mLaw 1145 [some (.ref 1000050), some (.ref 0), some (.ref 124), some (.int x3)] (r.toList ++ [(.int s0)]) w1 Q)) := (w_aload_n (pc' := 1137) claw_1136 rfl rfl).trans ((w_aload_n (pc' := 1138) claw_1137 rfl rfl).trans ((w_iload_n (pc' := 1139) claw_1138 rfl rfl).trans ((w_iconst (pc' := 1140) (v := 1) claw_1139 rfl rfl).trans ((w_iadd (pc' := 1141) claw_1140 rfl).trans ((w_iald_c (pc' := 1142) claw_1141 kn_1000050 hX rfl).trans (and_congr_right (fun _ => (w_callv (pc' := 1145) claw_1142 mt231 rfl (Nat.le_of_ble_eq_true rfl) rfl kd_124 rfl rfl (Nat.le_of_ble_eq_true rfl) rfl rfl))))))))
theorem blaw_1169 {X : Nat × (Nat → Int32)} {nX : Nat} {fX : Nat → Int32} (hX : cInts X 1000050 = some (nX, fX)) {d : Nat} {I : Nat → Nat → Int32} {L : Nat → Nat → Int64} {Q : Option Value → XW → Prop} {x3 : Int32} {s0 : Int32}  : wp X (d + 1) mLaw 1169 [some (.ref 1000050), some (.ref 0), some (.ref 124), some (.int x3)] [(.int s0)] (K0, R0, I, L) Q ↔ (inA (x3 + 1) nX = true ∧ (inA (x3 + 2) nX = true ∧ (inA (x3 + 3) nX = true ∧ wp X d m232 0 [some (.ref 124), some (.int (fX (Int32.toNatClampNeg (x3 + 1)))), some (.int (fX (Int32.toNatClampNeg (x3 + 2)))), some (.int (fX (Int32.toNatClampNeg (x3 + 3)))), none] [] (K0, R0, I, L) (fun r w1 => wp X (d + 1) mLaw 1188 [some (.ref 1000050), some (.ref 0), some (.ref 124), some (.int x3)] (r.toList ++ [(.int s0)]) w1 Q)))) := (w_aload_n (pc' := 1170) claw_1169 rfl rfl).trans ((w_aload_n (pc' := 1171) claw_1170 rfl rfl).trans ((w_iload_n (pc' := 1172) claw_1171 rfl rfl).trans ((w_iconst (pc' := 1173) (v := 1) claw_1172 rfl rfl).trans ((w_iadd (pc' := 1174) claw_1173 rfl).trans ((w_iald_c (pc' := 1175) claw_1174 kn_1000050 hX rfl).trans (and_congr_right (fun _ => (w_aload_n (pc' := 1176) claw_1175 rfl rfl).trans ((w_iload_n (pc' := 1177) claw_1176 rfl rfl).trans ((w_iconst (pc' := 1178) (v := 2) claw_1177 rfl rfl).trans ((w_iadd (pc' := 1179) claw_1178 rfl).trans ((w_iald_c (pc' := 1180) claw_1179 kn_1000050 hX rfl).trans (and_congr_right (fun _ => (w_aload_n (pc' := 1181) claw_1180 rfl rfl).trans ((w_iload_n (pc' := 1182) claw_1181 rfl rfl).trans ((w_iconst (pc' := 1183) (v := 3) claw_1182 rfl rfl).trans ((w_iadd (pc' := 1184) claw_1183 rfl).trans ((w_iald_c (pc' := 1185) claw_1184 kn_1000050 hX rfl).trans (and_congr_right (fun _ => (w_callv (pc' := 1188) claw_1185 mt232 rfl (Nat.le_of_ble_eq_true rfl) rfl kd_124 rfl rfl (Nat.le_of_ble_eq_true rfl) rfl rfl))))))))))))))))))))
theorem blaw_1227 {X : Nat × (Nat → Int32)} {nX : Nat} {fX : Nat → Int32} (hX : cInts X 1000050 = some (nX, fX)) {d : Nat} {I : Nat → Nat → Int32} {L : Nat → Nat → Int64} {Q : Option Value → XW → Prop} {x3 : Int32} {s0 : Int32}  : wp X (d + 1) mLaw 1227 [some (.ref 1000050), some (.ref 0), some (.ref 124), some (.int x3)] [(.int s0)] (K0, R0, I, L) Q ↔ (inA (x3 + 1) nX = true ∧ (inA (x3 + 2) nX = true ∧ (inA (x3 + 3) nX = true ∧ (inA (x3 + 4) nX = true ∧ wp X d m233 0 [some (.ref 124), some (.int (fX (Int32.toNatClampNeg (x3 + 1)))), some (.int (fX (Int32.toNatClampNeg (x3 + 2)))), some (.long ((((Int32.toInt64 (fX (Int32.toNatClampNeg (x3 + 3)))) <<< (Int32.toInt64 32 &&& 63)) ||| ((Int32.toInt64 (fX (Int32.toNatClampNeg (x3 + 4)))) &&& 4294967295)))), none] [] (K0, R0, I, L) (fun r w1 => wp X (d + 1) mLaw 1261 [some (.ref 1000050), some (.ref 0), some (.ref 124), some (.int x3)] (r.toList ++ [(.int s0)]) w1 Q))))) := (w_aload_n (pc' := 1228) claw_1227 rfl rfl).trans ((w_aload_n (pc' := 1229) claw_1228 rfl rfl).trans ((w_iload_n (pc' := 1230) claw_1229 rfl rfl).trans ((w_iconst (pc' := 1231) (v := 1) claw_1230 rfl rfl).trans ((w_iadd (pc' := 1232) claw_1231 rfl).trans ((w_iald_c (pc' := 1233) claw_1232 kn_1000050 hX rfl).trans (and_congr_right (fun _ => (w_aload_n (pc' := 1234) claw_1233 rfl rfl).trans ((w_iload_n (pc' := 1235) claw_1234 rfl rfl).trans ((w_iconst (pc' := 1236) (v := 2) claw_1235 rfl rfl).trans ((w_iadd (pc' := 1237) claw_1236 rfl).trans ((w_iald_c (pc' := 1238) claw_1237 kn_1000050 hX rfl).trans (and_congr_right (fun _ => (w_aload_n (pc' := 1239) claw_1238 rfl rfl).trans ((w_iload_n (pc' := 1240) claw_1239 rfl rfl).trans ((w_iconst (pc' := 1241) (v := 3) claw_1240 rfl rfl).trans ((w_iadd (pc' := 1242) claw_1241 rfl).trans ((w_iald_c (pc' := 1243) claw_1242 kn_1000050 hX rfl).trans (and_congr_right (fun _ => (w_i2l (pc' := 1244) claw_1243 rfl).trans ((w_bipush (pc' := 1246) (v := 32) claw_1244 rfl rfl).trans ((w_lshl (pc' := 1247) claw_1246 rfl).trans ((w_aload_n (pc' := 1248) claw_1247 rfl rfl).trans ((w_iload_n (pc' := 1249) claw_1248 rfl rfl).trans ((w_iconst (pc' := 1250) (v := 4) claw_1249 rfl rfl).trans ((w_iadd (pc' := 1251) claw_1250 rfl).trans ((w_iald_c (pc' := 1252) claw_1251 kn_1000050 hX rfl).trans (and_congr_right (fun _ => (w_i2l (pc' := 1253) claw_1252 rfl).trans ((w_ldc2_w (pc' := 1256) (v := 4294967295) claw_1253 rfl rfl).trans ((w_land (pc' := 1257) claw_1256 rfl).trans ((w_lor (pc' := 1258) claw_1257 rfl).trans ((w_callv (pc' := 1261) claw_1258 mt233 rfl (Nat.le_of_ble_eq_true rfl) rfl kd_124 rfl rfl (Nat.le_of_ble_eq_true rfl) rfl rfl)))))))))))))))))))))))))))))))))
theorem blaw_1280 {X : Nat × (Nat → Int32)} {nX : Nat} {fX : Nat → Int32} (hX : cInts X 1000050 = some (nX, fX)) {d : Nat} {I : Nat → Nat → Int32} {L : Nat → Nat → Int64} {Q : Option Value → XW → Prop} {x3 : Int32} {s0 : Int64}  : wp X (d + 1) mLaw 1280 [some (.ref 1000050), some (.ref 0), some (.ref 124), some (.int x3)] [(.long (s0))] (K0, R0, I, L) Q ↔ (inA (x3 + 1) nX = true ∧ (inA (x3 + 2) nX = true ∧ wp X d m235 0 [some (.ref 124), some (.int (fX (Int32.toNatClampNeg (x3 + 1)))), some (.int (fX (Int32.toNatClampNeg (x3 + 2))))] [] (K0, R0, I, L) (fun r w1 => wp X (d + 1) mLaw 1294 [some (.ref 1000050), some (.ref 0), some (.ref 124), some (.int x3)] (r.toList ++ [(.long (s0))]) w1 Q))) := (w_aload_n (pc' := 1281) claw_1280 rfl rfl).trans ((w_aload_n (pc' := 1282) claw_1281 rfl rfl).trans ((w_iload_n (pc' := 1283) claw_1282 rfl rfl).trans ((w_iconst (pc' := 1284) (v := 1) claw_1283 rfl rfl).trans ((w_iadd (pc' := 1285) claw_1284 rfl).trans ((w_iald_c (pc' := 1286) claw_1285 kn_1000050 hX rfl).trans (and_congr_right (fun _ => (w_aload_n (pc' := 1287) claw_1286 rfl rfl).trans ((w_iload_n (pc' := 1288) claw_1287 rfl rfl).trans ((w_iconst (pc' := 1289) (v := 2) claw_1288 rfl rfl).trans ((w_iadd (pc' := 1290) claw_1289 rfl).trans ((w_iald_c (pc' := 1291) claw_1290 kn_1000050 hX rfl).trans (and_congr_right (fun _ => (w_callv (pc' := 1294) claw_1291 mt235 rfl (Nat.le_of_ble_eq_true rfl) rfl kd_124 rfl rfl (Nat.le_of_ble_eq_true rfl) rfl rfl))))))))))))))
theorem blaw_1329 {X : Nat × (Nat → Int32)} {nX : Nat} {fX : Nat → Int32} (hX : cInts X 1000050 = some (nX, fX)) {d : Nat} {I : Nat → Nat → Int32} {L : Nat → Nat → Int64} {Q : Option Value → XW → Prop} {x3 : Int32} {s0 : Int32}  : wp X (d + 1) mLaw 1329 [some (.ref 1000050), some (.ref 0), some (.ref 124), some (.int x3)] [(.int s0)] (K0, R0, I, L) Q ↔ (inA (x3 + 1) nX = true ∧ (inA (x3 + 2) nX = true ∧ (inA (x3 + 3) nX = true ∧ (inA (x3 + 4) nX = true ∧ (inA (x3 + 5) nX = true ∧ wp X d m236 0 [some (.ref 124), some (.int (fX (Int32.toNatClampNeg (x3 + 1)))), some (.int (fX (Int32.toNatClampNeg (x3 + 2)))), some (.int (fX (Int32.toNatClampNeg (x3 + 3)))), some (.int (fX (Int32.toNatClampNeg (x3 + 4)))), some (.int (fX (Int32.toNatClampNeg (x3 + 5)))), none] [] (K0, R0, I, L) (fun r w1 => wp X (d + 1) mLaw 1358 [some (.ref 1000050), some (.ref 0), some (.ref 124), some (.int x3)] (r.toList ++ [(.int s0)]) w1 Q)))))) := (w_aload_n (pc' := 1330) claw_1329 rfl rfl).trans ((w_aload_n (pc' := 1331) claw_1330 rfl rfl).trans ((w_iload_n (pc' := 1332) claw_1331 rfl rfl).trans ((w_iconst (pc' := 1333) (v := 1) claw_1332 rfl rfl).trans ((w_iadd (pc' := 1334) claw_1333 rfl).trans ((w_iald_c (pc' := 1335) claw_1334 kn_1000050 hX rfl).trans (and_congr_right (fun _ => (w_aload_n (pc' := 1336) claw_1335 rfl rfl).trans ((w_iload_n (pc' := 1337) claw_1336 rfl rfl).trans ((w_iconst (pc' := 1338) (v := 2) claw_1337 rfl rfl).trans ((w_iadd (pc' := 1339) claw_1338 rfl).trans ((w_iald_c (pc' := 1340) claw_1339 kn_1000050 hX rfl).trans (and_congr_right (fun _ => (w_aload_n (pc' := 1341) claw_1340 rfl rfl).trans ((w_iload_n (pc' := 1342) claw_1341 rfl rfl).trans ((w_iconst (pc' := 1343) (v := 3) claw_1342 rfl rfl).trans ((w_iadd (pc' := 1344) claw_1343 rfl).trans ((w_iald_c (pc' := 1345) claw_1344 kn_1000050 hX rfl).trans (and_congr_right (fun _ => (w_aload_n (pc' := 1346) claw_1345 rfl rfl).trans ((w_iload_n (pc' := 1347) claw_1346 rfl rfl).trans ((w_iconst (pc' := 1348) (v := 4) claw_1347 rfl rfl).trans ((w_iadd (pc' := 1349) claw_1348 rfl).trans ((w_iald_c (pc' := 1350) claw_1349 kn_1000050 hX rfl).trans (and_congr_right (fun _ => (w_aload_n (pc' := 1351) claw_1350 rfl rfl).trans ((w_iload_n (pc' := 1352) claw_1351 rfl rfl).trans ((w_iconst (pc' := 1353) (v := 5) claw_1352 rfl rfl).trans ((w_iadd (pc' := 1354) claw_1353 rfl).trans ((w_iald_c (pc' := 1355) claw_1354 kn_1000050 hX rfl).trans (and_congr_right (fun _ => (w_callv (pc' := 1358) claw_1355 mt236 rfl (Nat.le_of_ble_eq_true rfl) rfl kd_124 rfl rfl (Nat.le_of_ble_eq_true rfl) rfl rfl))))))))))))))))))))))))))))))))
theorem blaw_230 {X : Nat × (Nat → Int32)} {d : Nat} {I : Nat → Nat → Int32} {L : Nat → Nat → Int64} {Q : Option Value → XW → Prop} {x3 : Int32} {s0 : Int32} {s1 : Int32}  : wp X d mLaw 230 [some (.ref 1000050), some (.ref 0), some (.ref 124), some (.int x3)] [(.int s1), (.int s0)] (K0, R0, I, L) Q ↔ (if s0 = s1 then wp X d mLaw 18 [some (.ref 1000050), some (.ref 0), some (.ref 124), some (.int (x3 + 6))] [] (K0, R0, I, L) Q else Q (some (.int 0)) (K0, R0, I, L)) := (w_icmp_eq (pc' := 233) claw_230 rfl).trans (ite_iff ((w_iinc (pc' := 1366) (v := (x3 + 6)) (ls' := [some (.ref 1000050), some (.ref 0), some (.ref 124), some (.int (x3 + 6))]) claw_1363 (Nat.le_of_ble_eq_true rfl) rfl rfl rfl rfl).trans ((w_goto claw_1366))) ((w_iconst (pc' := 234) (v := 0) claw_233 rfl rfl).trans ((w_zret (ty := .boolean) claw_234 rfl (by decide)).trans (and_iff_right (by decide)))))
theorem blaw_263 {X : Nat × (Nat → Int32)} {d : Nat} {I : Nat → Nat → Int32} {L : Nat → Nat → Int64} {Q : Option Value → XW → Prop} {x3 : Int32} {s0 : Int32} {s1 : Int32}  : wp X d mLaw 263 [some (.ref 1000050), some (.ref 0), some (.ref 124), some (.int x3)] [(.int s1), (.int s0)] (K0, R0, I, L) Q ↔ (if s0 = s1 then wp X d mLaw 18 [some (.ref 1000050), some (.ref 0), some (.ref 124), some (.int (x3 + 6))] [] (K0, R0, I, L) Q else Q (some (.int 0)) (K0, R0, I, L)) := (w_icmp_eq (pc' := 266) claw_263 rfl).trans (ite_iff ((w_iinc (pc' := 1366) (v := (x3 + 6)) (ls' := [some (.ref 1000050), some (.ref 0), some (.ref 124), some (.int (x3 + 6))]) claw_1363 (Nat.le_of_ble_eq_true rfl) rfl rfl rfl rfl).trans ((w_goto claw_1366))) ((w_iconst (pc' := 267) (v := 0) claw_266 rfl rfl).trans ((w_zret (ty := .boolean) claw_267 rfl (by decide)).trans (and_iff_right (by decide)))))
theorem blaw_306 {X : Nat × (Nat → Int32)} {d : Nat} {I : Nat → Nat → Int32} {L : Nat → Nat → Int64} {Q : Option Value → XW → Prop} {x3 : Int32} {s0 : Int32} {s1 : Int32}  : wp X d mLaw 306 [some (.ref 1000050), some (.ref 0), some (.ref 124), some (.int x3)] [(.int s1), (.int s0)] (K0, R0, I, L) Q ↔ (if s0 = s1 then wp X d mLaw 18 [some (.ref 1000050), some (.ref 0), some (.ref 124), some (.int (x3 + 6))] [] (K0, R0, I, L) Q else Q (some (.int 0)) (K0, R0, I, L)) := (w_icmp_eq (pc' := 309) claw_306 rfl).trans (ite_iff ((w_iinc (pc' := 1366) (v := (x3 + 6)) (ls' := [some (.ref 1000050), some (.ref 0), some (.ref 124), some (.int (x3 + 6))]) claw_1363 (Nat.le_of_ble_eq_true rfl) rfl rfl rfl rfl).trans ((w_goto claw_1366))) ((w_iconst (pc' := 310) (v := 0) claw_309 rfl rfl).trans ((w_zret (ty := .boolean) claw_310 rfl (by decide)).trans (and_iff_right (by decide)))))
theorem blaw_349 {X : Nat × (Nat → Int32)} {d : Nat} {I : Nat → Nat → Int32} {L : Nat → Nat → Int64} {Q : Option Value → XW → Prop} {x3 : Int32} {s0 : Int32} {s1 : Int32}  : wp X d mLaw 349 [some (.ref 1000050), some (.ref 0), some (.ref 124), some (.int x3)] [(.int s1), (.int s0)] (K0, R0, I, L) Q ↔ (if s0 = s1 then wp X d mLaw 18 [some (.ref 1000050), some (.ref 0), some (.ref 124), some (.int (x3 + 6))] [] (K0, R0, I, L) Q else Q (some (.int 0)) (K0, R0, I, L)) := (w_icmp_eq (pc' := 352) claw_349 rfl).trans (ite_iff ((w_iinc (pc' := 1366) (v := (x3 + 6)) (ls' := [some (.ref 1000050), some (.ref 0), some (.ref 124), some (.int (x3 + 6))]) claw_1363 (Nat.le_of_ble_eq_true rfl) rfl rfl rfl rfl).trans ((w_goto claw_1366))) ((w_iconst (pc' := 353) (v := 0) claw_352 rfl rfl).trans ((w_zret (ty := .boolean) claw_353 rfl (by decide)).trans (and_iff_right (by decide)))))
theorem blaw_372 {X : Nat × (Nat → Int32)} {d : Nat} {I : Nat → Nat → Int32} {L : Nat → Nat → Int64} {Q : Option Value → XW → Prop} {x3 : Int32} {s0 : Int32} {s1 : Int32}  : wp X d mLaw 372 [some (.ref 1000050), some (.ref 0), some (.ref 124), some (.int x3)] [(.int s1), (.int s0)] (K0, R0, I, L) Q ↔ (if s0 = s1 then wp X d mLaw 18 [some (.ref 1000050), some (.ref 0), some (.ref 124), some (.int (x3 + 6))] [] (K0, R0, I, L) Q else Q (some (.int 0)) (K0, R0, I, L)) := (w_icmp_eq (pc' := 375) claw_372 rfl).trans (ite_iff ((w_iinc (pc' := 1366) (v := (x3 + 6)) (ls' := [some (.ref 1000050), some (.ref 0), some (.ref 124), some (.int (x3 + 6))]) claw_1363 (Nat.le_of_ble_eq_true rfl) rfl rfl rfl rfl).trans ((w_goto claw_1366))) ((w_iconst (pc' := 376) (v := 0) claw_375 rfl rfl).trans ((w_zret (ty := .boolean) claw_376 rfl (by decide)).trans (and_iff_right (by decide)))))
theorem blaw_385 {X : Nat × (Nat → Int32)} {d : Nat} {I : Nat → Nat → Int32} {L : Nat → Nat → Int64} {Q : Option Value → XW → Prop} {x3 : Int32} {s0 : Int32} {s1 : Int32}  : wp X d mLaw 385 [some (.ref 1000050), some (.ref 0), some (.ref 124), some (.int x3)] [(.int s1), (.int s0)] (K0, R0, I, L) Q ↔ (if s0 = s1 then wp X d mLaw 18 [some (.ref 1000050), some (.ref 0), some (.ref 124), some (.int (x3 + 6))] [] (K0, R0, I, L) Q else Q (some (.int 0)) (K0, R0, I, L)) := (w_icmp_eq (pc' := 388) claw_385 rfl).trans (ite_iff ((w_iinc (pc' := 1366) (v := (x3 + 6)) (ls' := [some (.ref 1000050), some (.ref 0), some (.ref 124), some (.int (x3 + 6))]) claw_1363 (Nat.le_of_ble_eq_true rfl) rfl rfl rfl rfl).trans ((w_goto claw_1366))) ((w_iconst (pc' := 389) (v := 0) claw_388 rfl rfl).trans ((w_zret (ty := .boolean) claw_389 rfl (by decide)).trans (and_iff_right (by decide)))))
theorem blaw_408 {X : Nat × (Nat → Int32)} {d : Nat} {I : Nat → Nat → Int32} {L : Nat → Nat → Int64} {Q : Option Value → XW → Prop} {x3 : Int32} {s0 : Int32} {s1 : Int32}  : wp X d mLaw 408 [some (.ref 1000050), some (.ref 0), some (.ref 124), some (.int x3)] [(.int s1), (.int s0)] (K0, R0, I, L) Q ↔ (if s0 = s1 then wp X d mLaw 18 [some (.ref 1000050), some (.ref 0), some (.ref 124), some (.int (x3 + 6))] [] (K0, R0, I, L) Q else Q (some (.int 0)) (K0, R0, I, L)) := (w_icmp_eq (pc' := 411) claw_408 rfl).trans (ite_iff ((w_iinc (pc' := 1366) (v := (x3 + 6)) (ls' := [some (.ref 1000050), some (.ref 0), some (.ref 124), some (.int (x3 + 6))]) claw_1363 (Nat.le_of_ble_eq_true rfl) rfl rfl rfl rfl).trans ((w_goto claw_1366))) ((w_iconst (pc' := 412) (v := 0) claw_411 rfl rfl).trans ((w_zret (ty := .boolean) claw_412 rfl (by decide)).trans (and_iff_right (by decide)))))
theorem blaw_441 {X : Nat × (Nat → Int32)} {d : Nat} {I : Nat → Nat → Int32} {L : Nat → Nat → Int64} {Q : Option Value → XW → Prop} {x3 : Int32} {s0 : Int32} {s1 : Int32}  : wp X d mLaw 441 [some (.ref 1000050), some (.ref 0), some (.ref 124), some (.int x3)] [(.int s1), (.int s0)] (K0, R0, I, L) Q ↔ (if s0 = s1 then wp X d mLaw 18 [some (.ref 1000050), some (.ref 0), some (.ref 124), some (.int (x3 + 6))] [] (K0, R0, I, L) Q else Q (some (.int 0)) (K0, R0, I, L)) := (w_icmp_eq (pc' := 444) claw_441 rfl).trans (ite_iff ((w_iinc (pc' := 1366) (v := (x3 + 6)) (ls' := [some (.ref 1000050), some (.ref 0), some (.ref 124), some (.int (x3 + 6))]) claw_1363 (Nat.le_of_ble_eq_true rfl) rfl rfl rfl rfl).trans ((w_goto claw_1366))) ((w_iconst (pc' := 445) (v := 0) claw_444 rfl rfl).trans ((w_zret (ty := .boolean) claw_445 rfl (by decide)).trans (and_iff_right (by decide)))))
theorem blaw_464 {X : Nat × (Nat → Int32)} {d : Nat} {I : Nat → Nat → Int32} {L : Nat → Nat → Int64} {Q : Option Value → XW → Prop} {x3 : Int32} {s0 : Int32} {s1 : Int32}  : wp X d mLaw 464 [some (.ref 1000050), some (.ref 0), some (.ref 124), some (.int x3)] [(.int s1), (.int s0)] (K0, R0, I, L) Q ↔ (if s0 = s1 then wp X d mLaw 18 [some (.ref 1000050), some (.ref 0), some (.ref 124), some (.int (x3 + 6))] [] (K0, R0, I, L) Q else Q (some (.int 0)) (K0, R0, I, L)) := (w_icmp_eq (pc' := 467) claw_464 rfl).trans (ite_iff ((w_iinc (pc' := 1366) (v := (x3 + 6)) (ls' := [some (.ref 1000050), some (.ref 0), some (.ref 124), some (.int (x3 + 6))]) claw_1363 (Nat.le_of_ble_eq_true rfl) rfl rfl rfl rfl).trans ((w_goto claw_1366))) ((w_iconst (pc' := 468) (v := 0) claw_467 rfl rfl).trans ((w_zret (ty := .boolean) claw_468 rfl (by decide)).trans (and_iff_right (by decide)))))
theorem blaw_507 {X : Nat × (Nat → Int32)} {d : Nat} {I : Nat → Nat → Int32} {L : Nat → Nat → Int64} {Q : Option Value → XW → Prop} {x3 : Int32} {s0 : Int32} {s1 : Int32}  : wp X d mLaw 507 [some (.ref 1000050), some (.ref 0), some (.ref 124), some (.int x3)] [(.int s1), (.int s0)] (K0, R0, I, L) Q ↔ (if s0 = s1 then wp X d mLaw 18 [some (.ref 1000050), some (.ref 0), some (.ref 124), some (.int (x3 + 6))] [] (K0, R0, I, L) Q else Q (some (.int 0)) (K0, R0, I, L)) := (w_icmp_eq (pc' := 510) claw_507 rfl).trans (ite_iff ((w_iinc (pc' := 1366) (v := (x3 + 6)) (ls' := [some (.ref 1000050), some (.ref 0), some (.ref 124), some (.int (x3 + 6))]) claw_1363 (Nat.le_of_ble_eq_true rfl) rfl rfl rfl rfl).trans ((w_goto claw_1366))) ((w_iconst (pc' := 511) (v := 0) claw_510 rfl rfl).trans ((w_zret (ty := .boolean) claw_511 rfl (by decide)).trans (and_iff_right (by decide)))))
theorem blaw_550 {X : Nat × (Nat → Int32)} {d : Nat} {I : Nat → Nat → Int32} {L : Nat → Nat → Int64} {Q : Option Value → XW → Prop} {x3 : Int32} {s0 : Int32} {s1 : Int32}  : wp X d mLaw 550 [some (.ref 1000050), some (.ref 0), some (.ref 124), some (.int x3)] [(.int s1), (.int s0)] (K0, R0, I, L) Q ↔ (if s0 = s1 then wp X d mLaw 18 [some (.ref 1000050), some (.ref 0), some (.ref 124), some (.int (x3 + 6))] [] (K0, R0, I, L) Q else Q (some (.int 0)) (K0, R0, I, L)) := (w_icmp_eq (pc' := 553) claw_550 rfl).trans (ite_iff ((w_iinc (pc' := 1366) (v := (x3 + 6)) (ls' := [some (.ref 1000050), some (.ref 0), some (.ref 124), some (.int (x3 + 6))]) claw_1363 (Nat.le_of_ble_eq_true rfl) rfl rfl rfl rfl).trans ((w_goto claw_1366))) ((w_iconst (pc' := 554) (v := 0) claw_553 rfl rfl).trans ((w_zret (ty := .boolean) claw_554 rfl (by decide)).trans (and_iff_right (by decide)))))
theorem blaw_593 {X : Nat × (Nat → Int32)} {d : Nat} {I : Nat → Nat → Int32} {L : Nat → Nat → Int64} {Q : Option Value → XW → Prop} {x3 : Int32} {s0 : Int32} {s1 : Int32}  : wp X d mLaw 593 [some (.ref 1000050), some (.ref 0), some (.ref 124), some (.int x3)] [(.int s1), (.int s0)] (K0, R0, I, L) Q ↔ (if s0 = s1 then wp X d mLaw 18 [some (.ref 1000050), some (.ref 0), some (.ref 124), some (.int (x3 + 6))] [] (K0, R0, I, L) Q else Q (some (.int 0)) (K0, R0, I, L)) := (w_icmp_eq (pc' := 596) claw_593 rfl).trans (ite_iff ((w_iinc (pc' := 1366) (v := (x3 + 6)) (ls' := [some (.ref 1000050), some (.ref 0), some (.ref 124), some (.int (x3 + 6))]) claw_1363 (Nat.le_of_ble_eq_true rfl) rfl rfl rfl rfl).trans ((w_goto claw_1366))) ((w_iconst (pc' := 597) (v := 0) claw_596 rfl rfl).trans ((w_zret (ty := .boolean) claw_597 rfl (by decide)).trans (and_iff_right (by decide)))))
theorem blaw_616 {X : Nat × (Nat → Int32)} {d : Nat} {I : Nat → Nat → Int32} {L : Nat → Nat → Int64} {Q : Option Value → XW → Prop} {x3 : Int32} {s0 : Int32} {s1 : Int32}  : wp X d mLaw 616 [some (.ref 1000050), some (.ref 0), some (.ref 124), some (.int x3)] [(.int s1), (.int s0)] (K0, R0, I, L) Q ↔ (if s0 = s1 then wp X d mLaw 18 [some (.ref 1000050), some (.ref 0), some (.ref 124), some (.int (x3 + 6))] [] (K0, R0, I, L) Q else Q (some (.int 0)) (K0, R0, I, L)) := (w_icmp_eq (pc' := 619) claw_616 rfl).trans (ite_iff ((w_iinc (pc' := 1366) (v := (x3 + 6)) (ls' := [some (.ref 1000050), some (.ref 0), some (.ref 124), some (.int (x3 + 6))]) claw_1363 (Nat.le_of_ble_eq_true rfl) rfl rfl rfl rfl).trans ((w_goto claw_1366))) ((w_iconst (pc' := 620) (v := 0) claw_619 rfl rfl).trans ((w_zret (ty := .boolean) claw_620 rfl (by decide)).trans (and_iff_right (by decide)))))
theorem blaw_649 {X : Nat × (Nat → Int32)} {d : Nat} {I : Nat → Nat → Int32} {L : Nat → Nat → Int64} {Q : Option Value → XW → Prop} {x3 : Int32} {s0 : Int32} {s1 : Int32}  : wp X d mLaw 649 [some (.ref 1000050), some (.ref 0), some (.ref 124), some (.int x3)] [(.int s1), (.int s0)] (K0, R0, I, L) Q ↔ (if s0 = s1 then wp X d mLaw 18 [some (.ref 1000050), some (.ref 0), some (.ref 124), some (.int (x3 + 6))] [] (K0, R0, I, L) Q else Q (some (.int 0)) (K0, R0, I, L)) := (w_icmp_eq (pc' := 652) claw_649 rfl).trans (ite_iff ((w_iinc (pc' := 1366) (v := (x3 + 6)) (ls' := [some (.ref 1000050), some (.ref 0), some (.ref 124), some (.int (x3 + 6))]) claw_1363 (Nat.le_of_ble_eq_true rfl) rfl rfl rfl rfl).trans ((w_goto claw_1366))) ((w_iconst (pc' := 653) (v := 0) claw_652 rfl rfl).trans ((w_zret (ty := .boolean) claw_653 rfl (by decide)).trans (and_iff_right (by decide)))))
theorem blaw_672 {X : Nat × (Nat → Int32)} {d : Nat} {I : Nat → Nat → Int32} {L : Nat → Nat → Int64} {Q : Option Value → XW → Prop} {x3 : Int32} {s0 : Int32} {s1 : Int32}  : wp X d mLaw 672 [some (.ref 1000050), some (.ref 0), some (.ref 124), some (.int x3)] [(.int s1), (.int s0)] (K0, R0, I, L) Q ↔ (if s0 = s1 then wp X d mLaw 18 [some (.ref 1000050), some (.ref 0), some (.ref 124), some (.int (x3 + 6))] [] (K0, R0, I, L) Q else Q (some (.int 0)) (K0, R0, I, L)) := (w_icmp_eq (pc' := 675) claw_672 rfl).trans (ite_iff ((w_iinc (pc' := 1366) (v := (x3 + 6)) (ls' := [some (.ref 1000050), some (.ref 0), some (.ref 124), some (.int (x3 + 6))]) claw_1363 (Nat.le_of_ble_eq_true rfl) rfl rfl rfl rfl).trans ((w_goto claw_1366))) ((w_iconst (pc' := 676) (v := 0) claw_675 rfl rfl).trans ((w_zret (ty := .boolean) claw_676 rfl (by decide)).trans (and_iff_right (by decide)))))
theorem blaw_695 {X : Nat × (Nat → Int32)} {d : Nat} {I : Nat → Nat → Int32} {L : Nat → Nat → Int64} {Q : Option Value → XW → Prop} {x3 : Int32} {s0 : Int32} {s1 : Int32}  : wp X d mLaw 695 [some (.ref 1000050), some (.ref 0), some (.ref 124), some (.int x3)] [(.int s1), (.int s0)] (K0, R0, I, L) Q ↔ (if s0 = s1 then wp X d mLaw 18 [some (.ref 1000050), some (.ref 0), some (.ref 124), some (.int (x3 + 6))] [] (K0, R0, I, L) Q else Q (some (.int 0)) (K0, R0, I, L)) := (w_icmp_eq (pc' := 698) claw_695 rfl).trans (ite_iff ((w_iinc (pc' := 1366) (v := (x3 + 6)) (ls' := [some (.ref 1000050), some (.ref 0), some (.ref 124), some (.int (x3 + 6))]) claw_1363 (Nat.le_of_ble_eq_true rfl) rfl rfl rfl rfl).trans ((w_goto claw_1366))) ((w_iconst (pc' := 699) (v := 0) claw_698 rfl rfl).trans ((w_zret (ty := .boolean) claw_699 rfl (by decide)).trans (and_iff_right (by decide)))))
theorem blaw_728 {X : Nat × (Nat → Int32)} {d : Nat} {I : Nat → Nat → Int32} {L : Nat → Nat → Int64} {Q : Option Value → XW → Prop} {x3 : Int32} {s0 : Int32} {s1 : Int32}  : wp X d mLaw 728 [some (.ref 1000050), some (.ref 0), some (.ref 124), some (.int x3)] [(.int s1), (.int s0)] (K0, R0, I, L) Q ↔ (if s0 = s1 then wp X d mLaw 18 [some (.ref 1000050), some (.ref 0), some (.ref 124), some (.int (x3 + 6))] [] (K0, R0, I, L) Q else Q (some (.int 0)) (K0, R0, I, L)) := (w_icmp_eq (pc' := 731) claw_728 rfl).trans (ite_iff ((w_iinc (pc' := 1366) (v := (x3 + 6)) (ls' := [some (.ref 1000050), some (.ref 0), some (.ref 124), some (.int (x3 + 6))]) claw_1363 (Nat.le_of_ble_eq_true rfl) rfl rfl rfl rfl).trans ((w_goto claw_1366))) ((w_iconst (pc' := 732) (v := 0) claw_731 rfl rfl).trans ((w_zret (ty := .boolean) claw_732 rfl (by decide)).trans (and_iff_right (by decide)))))
theorem blaw_761 {X : Nat × (Nat → Int32)} {d : Nat} {I : Nat → Nat → Int32} {L : Nat → Nat → Int64} {Q : Option Value → XW → Prop} {x3 : Int32} {s0 : Int32} {s1 : Int32}  : wp X d mLaw 761 [some (.ref 1000050), some (.ref 0), some (.ref 124), some (.int x3)] [(.int s1), (.int s0)] (K0, R0, I, L) Q ↔ (if s0 = s1 then wp X d mLaw 18 [some (.ref 1000050), some (.ref 0), some (.ref 124), some (.int (x3 + 6))] [] (K0, R0, I, L) Q else Q (some (.int 0)) (K0, R0, I, L)) := (w_icmp_eq (pc' := 764) claw_761 rfl).trans (ite_iff ((w_iinc (pc' := 1366) (v := (x3 + 6)) (ls' := [some (.ref 1000050), some (.ref 0), some (.ref 124), some (.int (x3 + 6))]) claw_1363 (Nat.le_of_ble_eq_true rfl) rfl rfl rfl rfl).trans ((w_goto claw_1366))) ((w_iconst (pc' := 765) (v := 0) claw_764 rfl rfl).trans ((w_zret (ty := .boolean) claw_765 rfl (by decide)).trans (and_iff_right (by decide)))))
theorem blaw_794 {X : Nat × (Nat → Int32)} {d : Nat} {I : Nat → Nat → Int32} {L : Nat → Nat → Int64} {Q : Option Value → XW → Prop} {x3 : Int32} {s0 : Int32} {s1 : Int32}  : wp X d mLaw 794 [some (.ref 1000050), some (.ref 0), some (.ref 124), some (.int x3)] [(.int s1), (.int s0)] (K0, R0, I, L) Q ↔ (if s0 = s1 then wp X d mLaw 18 [some (.ref 1000050), some (.ref 0), some (.ref 124), some (.int (x3 + 6))] [] (K0, R0, I, L) Q else Q (some (.int 0)) (K0, R0, I, L)) := (w_icmp_eq (pc' := 797) claw_794 rfl).trans (ite_iff ((w_iinc (pc' := 1366) (v := (x3 + 6)) (ls' := [some (.ref 1000050), some (.ref 0), some (.ref 124), some (.int (x3 + 6))]) claw_1363 (Nat.le_of_ble_eq_true rfl) rfl rfl rfl rfl).trans ((w_goto claw_1366))) ((w_iconst (pc' := 798) (v := 0) claw_797 rfl rfl).trans ((w_zret (ty := .boolean) claw_798 rfl (by decide)).trans (and_iff_right (by decide)))))
theorem blaw_837 {X : Nat × (Nat → Int32)} {d : Nat} {I : Nat → Nat → Int32} {L : Nat → Nat → Int64} {Q : Option Value → XW → Prop} {x3 : Int32} {s0 : Int64} {s1 : Int64}  : wp X d mLaw 837 [some (.ref 1000050), some (.ref 0), some (.ref 124), some (.int x3)] [(.long (s1)), (.long (s0))] (K0, R0, I, L) Q ↔ (if (lg_cmp s0 s1) = 0 then wp X d mLaw 18 [some (.ref 1000050), some (.ref 0), some (.ref 124), some (.int (x3 + 6))] [] (K0, R0, I, L) Q else Q (some (.int 0)) (K0, R0, I, L)) := (w_lcmp (pc' := 838) claw_837 rfl).trans ((w_if_eq (pc' := 841) claw_838 rfl).trans (ite_iff ((w_iinc (pc' := 1366) (v := (x3 + 6)) (ls' := [some (.ref 1000050), some (.ref 0), some (.ref 124), some (.int (x3 + 6))]) claw_1363 (Nat.le_of_ble_eq_true rfl) rfl rfl rfl rfl).trans ((w_goto claw_1366))) ((w_iconst (pc' := 842) (v := 0) claw_841 rfl rfl).trans ((w_zret (ty := .boolean) claw_842 rfl (by decide)).trans (and_iff_right (by decide))))))
theorem blaw_861 {X : Nat × (Nat → Int32)} {d : Nat} {I : Nat → Nat → Int32} {L : Nat → Nat → Int64} {Q : Option Value → XW → Prop} {x3 : Int32} {s0 : Int64} {s1 : Int64}  : wp X d mLaw 861 [some (.ref 1000050), some (.ref 0), some (.ref 124), some (.int x3)] [(.long (s1)), (.long (s0))] (K0, R0, I, L) Q ↔ (if (lg_cmp s0 s1) = 0 then wp X d mLaw 18 [some (.ref 1000050), some (.ref 0), some (.ref 124), some (.int (x3 + 6))] [] (K0, R0, I, L) Q else Q (some (.int 0)) (K0, R0, I, L)) := (w_lcmp (pc' := 862) claw_861 rfl).trans ((w_if_eq (pc' := 865) claw_862 rfl).trans (ite_iff ((w_iinc (pc' := 1366) (v := (x3 + 6)) (ls' := [some (.ref 1000050), some (.ref 0), some (.ref 124), some (.int (x3 + 6))]) claw_1363 (Nat.le_of_ble_eq_true rfl) rfl rfl rfl rfl).trans ((w_goto claw_1366))) ((w_iconst (pc' := 866) (v := 0) claw_865 rfl rfl).trans ((w_zret (ty := .boolean) claw_866 rfl (by decide)).trans (and_iff_right (by decide))))))
theorem blaw_895 {X : Nat × (Nat → Int32)} {d : Nat} {I : Nat → Nat → Int32} {L : Nat → Nat → Int64} {Q : Option Value → XW → Prop} {x3 : Int32} {s0 : Int32} {s1 : Int32}  : wp X d mLaw 895 [some (.ref 1000050), some (.ref 0), some (.ref 124), some (.int x3)] [(.int s1), (.int s0)] (K0, R0, I, L) Q ↔ (if s0 = s1 then wp X d mLaw 18 [some (.ref 1000050), some (.ref 0), some (.ref 124), some (.int (x3 + 6))] [] (K0, R0, I, L) Q else Q (some (.int 0)) (K0, R0, I, L)) := (w_icmp_eq (pc' := 898) claw_895 rfl).trans (ite_iff ((w_iinc (pc' := 1366) (v := (x3 + 6)) (ls' := [some (.ref 1000050), some (.ref 0), some (.ref 124), some (.int (x3 + 6))]) claw_1363 (Nat.le_of_ble_eq_true rfl) rfl rfl rfl rfl).trans ((w_goto claw_1366))) ((w_iconst (pc' := 899) (v := 0) claw_898 rfl rfl).trans ((w_zret (ty := .boolean) claw_899 rfl (by decide)).trans (and_iff_right (by decide)))))
theorem blaw_918 {X : Nat × (Nat → Int32)} {d : Nat} {I : Nat → Nat → Int32} {L : Nat → Nat → Int64} {Q : Option Value → XW → Prop} {x3 : Int32} {s0 : Int32} {s1 : Int32}  : wp X d mLaw 918 [some (.ref 1000050), some (.ref 0), some (.ref 124), some (.int x3)] [(.int s1), (.int s0)] (K0, R0, I, L) Q ↔ (if s0 = s1 then wp X d mLaw 18 [some (.ref 1000050), some (.ref 0), some (.ref 124), some (.int (x3 + 6))] [] (K0, R0, I, L) Q else Q (some (.int 0)) (K0, R0, I, L)) := (w_icmp_eq (pc' := 921) claw_918 rfl).trans (ite_iff ((w_iinc (pc' := 1366) (v := (x3 + 6)) (ls' := [some (.ref 1000050), some (.ref 0), some (.ref 124), some (.int (x3 + 6))]) claw_1363 (Nat.le_of_ble_eq_true rfl) rfl rfl rfl rfl).trans ((w_goto claw_1366))) ((w_iconst (pc' := 922) (v := 0) claw_921 rfl rfl).trans ((w_zret (ty := .boolean) claw_922 rfl (by decide)).trans (and_iff_right (by decide)))))
theorem blaw_951 {X : Nat × (Nat → Int32)} {d : Nat} {I : Nat → Nat → Int32} {L : Nat → Nat → Int64} {Q : Option Value → XW → Prop} {x3 : Int32} {s0 : Int32} {s1 : Int32}  : wp X d mLaw 951 [some (.ref 1000050), some (.ref 0), some (.ref 124), some (.int x3)] [(.int s1), (.int s0)] (K0, R0, I, L) Q ↔ (if s0 = s1 then wp X d mLaw 18 [some (.ref 1000050), some (.ref 0), some (.ref 124), some (.int (x3 + 6))] [] (K0, R0, I, L) Q else Q (some (.int 0)) (K0, R0, I, L)) := (w_icmp_eq (pc' := 954) claw_951 rfl).trans (ite_iff ((w_iinc (pc' := 1366) (v := (x3 + 6)) (ls' := [some (.ref 1000050), some (.ref 0), some (.ref 124), some (.int (x3 + 6))]) claw_1363 (Nat.le_of_ble_eq_true rfl) rfl rfl rfl rfl).trans ((w_goto claw_1366))) ((w_iconst (pc' := 955) (v := 0) claw_954 rfl rfl).trans ((w_zret (ty := .boolean) claw_955 rfl (by decide)).trans (and_iff_right (by decide)))))
theorem blaw_964 {X : Nat × (Nat → Int32)} {d : Nat} {I : Nat → Nat → Int32} {L : Nat → Nat → Int64} {Q : Option Value → XW → Prop} {x3 : Int32} {s0 : Int32} {s1 : Int32}  : wp X d mLaw 964 [some (.ref 1000050), some (.ref 0), some (.ref 124), some (.int x3)] [(.int s1), (.int s0)] (K0, R0, I, L) Q ↔ (if s0 = s1 then wp X d mLaw 18 [some (.ref 1000050), some (.ref 0), some (.ref 124), some (.int (x3 + 6))] [] (K0, R0, I, L) Q else Q (some (.int 0)) (K0, R0, I, L)) := (w_icmp_eq (pc' := 967) claw_964 rfl).trans (ite_iff ((w_iinc (pc' := 1366) (v := (x3 + 6)) (ls' := [some (.ref 1000050), some (.ref 0), some (.ref 124), some (.int (x3 + 6))]) claw_1363 (Nat.le_of_ble_eq_true rfl) rfl rfl rfl rfl).trans ((w_goto claw_1366))) ((w_iconst (pc' := 968) (v := 0) claw_967 rfl rfl).trans ((w_zret (ty := .boolean) claw_968 rfl (by decide)).trans (and_iff_right (by decide)))))
theorem blaw_997 {X : Nat × (Nat → Int32)} {d : Nat} {I : Nat → Nat → Int32} {L : Nat → Nat → Int64} {Q : Option Value → XW → Prop} {x3 : Int32} {s0 : Int32} {s1 : Int32}  : wp X d mLaw 997 [some (.ref 1000050), some (.ref 0), some (.ref 124), some (.int x3)] [(.int s1), (.int s0)] (K0, R0, I, L) Q ↔ (if s0 = s1 then wp X d mLaw 18 [some (.ref 1000050), some (.ref 0), some (.ref 124), some (.int (x3 + 6))] [] (K0, R0, I, L) Q else Q (some (.int 0)) (K0, R0, I, L)) := (w_icmp_eq (pc' := 1000) claw_997 rfl).trans (ite_iff ((w_iinc (pc' := 1366) (v := (x3 + 6)) (ls' := [some (.ref 1000050), some (.ref 0), some (.ref 124), some (.int (x3 + 6))]) claw_1363 (Nat.le_of_ble_eq_true rfl) rfl rfl rfl rfl).trans ((w_goto claw_1366))) ((w_iconst (pc' := 1001) (v := 0) claw_1000 rfl rfl).trans ((w_zret (ty := .boolean) claw_1001 rfl (by decide)).trans (and_iff_right (by decide)))))
theorem blaw_1010 {X : Nat × (Nat → Int32)} {d : Nat} {I : Nat → Nat → Int32} {L : Nat → Nat → Int64} {Q : Option Value → XW → Prop} {x3 : Int32} {s0 : Int32} {s1 : Int32}  : wp X d mLaw 1010 [some (.ref 1000050), some (.ref 0), some (.ref 124), some (.int x3)] [(.int s1), (.int s0)] (K0, R0, I, L) Q ↔ (if s0 = s1 then wp X d mLaw 18 [some (.ref 1000050), some (.ref 0), some (.ref 124), some (.int (x3 + 6))] [] (K0, R0, I, L) Q else Q (some (.int 0)) (K0, R0, I, L)) := (w_icmp_eq (pc' := 1013) claw_1010 rfl).trans (ite_iff ((w_iinc (pc' := 1366) (v := (x3 + 6)) (ls' := [some (.ref 1000050), some (.ref 0), some (.ref 124), some (.int (x3 + 6))]) claw_1363 (Nat.le_of_ble_eq_true rfl) rfl rfl rfl rfl).trans ((w_goto claw_1366))) ((w_iconst (pc' := 1014) (v := 0) claw_1013 rfl rfl).trans ((w_zret (ty := .boolean) claw_1014 rfl (by decide)).trans (and_iff_right (by decide)))))
theorem blaw_1023 {X : Nat × (Nat → Int32)} {d : Nat} {I : Nat → Nat → Int32} {L : Nat → Nat → Int64} {Q : Option Value → XW → Prop} {x3 : Int32} {s0 : Int32} {s1 : Int32}  : wp X d mLaw 1023 [some (.ref 1000050), some (.ref 0), some (.ref 124), some (.int x3)] [(.int s1), (.int s0)] (K0, R0, I, L) Q ↔ (if s0 = s1 then wp X d mLaw 18 [some (.ref 1000050), some (.ref 0), some (.ref 124), some (.int (x3 + 6))] [] (K0, R0, I, L) Q else Q (some (.int 0)) (K0, R0, I, L)) := (w_icmp_eq (pc' := 1026) claw_1023 rfl).trans (ite_iff ((w_iinc (pc' := 1366) (v := (x3 + 6)) (ls' := [some (.ref 1000050), some (.ref 0), some (.ref 124), some (.int (x3 + 6))]) claw_1363 (Nat.le_of_ble_eq_true rfl) rfl rfl rfl rfl).trans ((w_goto claw_1366))) ((w_iconst (pc' := 1027) (v := 0) claw_1026 rfl rfl).trans ((w_zret (ty := .boolean) claw_1027 rfl (by decide)).trans (and_iff_right (by decide)))))
theorem blaw_1066 {X : Nat × (Nat → Int32)} {d : Nat} {I : Nat → Nat → Int32} {L : Nat → Nat → Int64} {Q : Option Value → XW → Prop} {x3 : Int32} {s0 : Int32} {s1 : Int32}  : wp X d mLaw 1066 [some (.ref 1000050), some (.ref 0), some (.ref 124), some (.int x3)] [(.int s1), (.int s0)] (K0, R0, I, L) Q ↔ (if s0 = s1 then wp X d mLaw 18 [some (.ref 1000050), some (.ref 0), some (.ref 124), some (.int (x3 + 6))] [] (K0, R0, I, L) Q else Q (some (.int 0)) (K0, R0, I, L)) := (w_icmp_eq (pc' := 1069) claw_1066 rfl).trans (ite_iff ((w_iinc (pc' := 1366) (v := (x3 + 6)) (ls' := [some (.ref 1000050), some (.ref 0), some (.ref 124), some (.int (x3 + 6))]) claw_1363 (Nat.le_of_ble_eq_true rfl) rfl rfl rfl rfl).trans ((w_goto claw_1366))) ((w_iconst (pc' := 1070) (v := 0) claw_1069 rfl rfl).trans ((w_zret (ty := .boolean) claw_1070 rfl (by decide)).trans (and_iff_right (by decide)))))
theorem blaw_1089 {X : Nat × (Nat → Int32)} {d : Nat} {I : Nat → Nat → Int32} {L : Nat → Nat → Int64} {Q : Option Value → XW → Prop} {x3 : Int32} {s0 : Int32} {s1 : Int32}  : wp X d mLaw 1089 [some (.ref 1000050), some (.ref 0), some (.ref 124), some (.int x3)] [(.int s1), (.int s0)] (K0, R0, I, L) Q ↔ (if s0 = s1 then wp X d mLaw 18 [some (.ref 1000050), some (.ref 0), some (.ref 124), some (.int (x3 + 6))] [] (K0, R0, I, L) Q else Q (some (.int 0)) (K0, R0, I, L)) := (w_icmp_eq (pc' := 1092) claw_1089 rfl).trans (ite_iff ((w_iinc (pc' := 1366) (v := (x3 + 6)) (ls' := [some (.ref 1000050), some (.ref 0), some (.ref 124), some (.int (x3 + 6))]) claw_1363 (Nat.le_of_ble_eq_true rfl) rfl rfl rfl rfl).trans ((w_goto claw_1366))) ((w_iconst (pc' := 1093) (v := 0) claw_1092 rfl rfl).trans ((w_zret (ty := .boolean) claw_1093 rfl (by decide)).trans (and_iff_right (by decide)))))
theorem blaw_1122 {X : Nat × (Nat → Int32)} {d : Nat} {I : Nat → Nat → Int32} {L : Nat → Nat → Int64} {Q : Option Value → XW → Prop} {x3 : Int32} {s0 : Int32} {s1 : Int32}  : wp X d mLaw 1122 [some (.ref 1000050), some (.ref 0), some (.ref 124), some (.int x3)] [(.int s1), (.int s0)] (K0, R0, I, L) Q ↔ (if s0 = s1 then wp X d mLaw 18 [some (.ref 1000050), some (.ref 0), some (.ref 124), some (.int (x3 + 6))] [] (K0, R0, I, L) Q else Q (some (.int 0)) (K0, R0, I, L)) := (w_icmp_eq (pc' := 1125) claw_1122 rfl).trans (ite_iff ((w_iinc (pc' := 1366) (v := (x3 + 6)) (ls' := [some (.ref 1000050), some (.ref 0), some (.ref 124), some (.int (x3 + 6))]) claw_1363 (Nat.le_of_ble_eq_true rfl) rfl rfl rfl rfl).trans ((w_goto claw_1366))) ((w_iconst (pc' := 1126) (v := 0) claw_1125 rfl rfl).trans ((w_zret (ty := .boolean) claw_1126 rfl (by decide)).trans (and_iff_right (by decide)))))
theorem blaw_1145 {X : Nat × (Nat → Int32)} {d : Nat} {I : Nat → Nat → Int32} {L : Nat → Nat → Int64} {Q : Option Value → XW → Prop} {x3 : Int32} {s0 : Int32} {s1 : Int32}  : wp X d mLaw 1145 [some (.ref 1000050), some (.ref 0), some (.ref 124), some (.int x3)] [(.int s1), (.int s0)] (K0, R0, I, L) Q ↔ (if s0 = s1 then wp X d mLaw 18 [some (.ref 1000050), some (.ref 0), some (.ref 124), some (.int (x3 + 6))] [] (K0, R0, I, L) Q else Q (some (.int 0)) (K0, R0, I, L)) := (w_icmp_eq (pc' := 1148) claw_1145 rfl).trans (ite_iff ((w_iinc (pc' := 1366) (v := (x3 + 6)) (ls' := [some (.ref 1000050), some (.ref 0), some (.ref 124), some (.int (x3 + 6))]) claw_1363 (Nat.le_of_ble_eq_true rfl) rfl rfl rfl rfl).trans ((w_goto claw_1366))) ((w_iconst (pc' := 1149) (v := 0) claw_1148 rfl rfl).trans ((w_zret (ty := .boolean) claw_1149 rfl (by decide)).trans (and_iff_right (by decide)))))
theorem blaw_1188 {X : Nat × (Nat → Int32)} {d : Nat} {I : Nat → Nat → Int32} {L : Nat → Nat → Int64} {Q : Option Value → XW → Prop} {x3 : Int32} {s0 : Int32} {s1 : Int32}  : wp X d mLaw 1188 [some (.ref 1000050), some (.ref 0), some (.ref 124), some (.int x3)] [(.int s1), (.int s0)] (K0, R0, I, L) Q ↔ (if s0 = s1 then wp X d mLaw 18 [some (.ref 1000050), some (.ref 0), some (.ref 124), some (.int (x3 + 6))] [] (K0, R0, I, L) Q else Q (some (.int 0)) (K0, R0, I, L)) := (w_icmp_eq (pc' := 1191) claw_1188 rfl).trans (ite_iff ((w_iinc (pc' := 1366) (v := (x3 + 6)) (ls' := [some (.ref 1000050), some (.ref 0), some (.ref 124), some (.int (x3 + 6))]) claw_1363 (Nat.le_of_ble_eq_true rfl) rfl rfl rfl rfl).trans ((w_goto claw_1366))) ((w_iconst (pc' := 1192) (v := 0) claw_1191 rfl rfl).trans ((w_zret (ty := .boolean) claw_1192 rfl (by decide)).trans (and_iff_right (by decide)))))
theorem blaw_1261 {X : Nat × (Nat → Int32)} {d : Nat} {I : Nat → Nat → Int32} {L : Nat → Nat → Int64} {Q : Option Value → XW → Prop} {x3 : Int32} {s0 : Int32} {s1 : Int32}  : wp X d mLaw 1261 [some (.ref 1000050), some (.ref 0), some (.ref 124), some (.int x3)] [(.int s1), (.int s0)] (K0, R0, I, L) Q ↔ (if s0 = s1 then wp X d mLaw 18 [some (.ref 1000050), some (.ref 0), some (.ref 124), some (.int (x3 + 6))] [] (K0, R0, I, L) Q else Q (some (.int 0)) (K0, R0, I, L)) := (w_icmp_eq (pc' := 1264) claw_1261 rfl).trans (ite_iff ((w_iinc (pc' := 1366) (v := (x3 + 6)) (ls' := [some (.ref 1000050), some (.ref 0), some (.ref 124), some (.int (x3 + 6))]) claw_1363 (Nat.le_of_ble_eq_true rfl) rfl rfl rfl rfl).trans ((w_goto claw_1366))) ((w_iconst (pc' := 1265) (v := 0) claw_1264 rfl rfl).trans ((w_zret (ty := .boolean) claw_1265 rfl (by decide)).trans (and_iff_right (by decide)))))
theorem blaw_1294 {X : Nat × (Nat → Int32)} {d : Nat} {I : Nat → Nat → Int32} {L : Nat → Nat → Int64} {Q : Option Value → XW → Prop} {x3 : Int32} {s0 : Int64} {s1 : Int64}  : wp X d mLaw 1294 [some (.ref 1000050), some (.ref 0), some (.ref 124), some (.int x3)] [(.long (s1)), (.long (s0))] (K0, R0, I, L) Q ↔ (if (lg_cmp s0 s1) = 0 then wp X d mLaw 18 [some (.ref 1000050), some (.ref 0), some (.ref 124), some (.int (x3 + 6))] [] (K0, R0, I, L) Q else Q (some (.int 0)) (K0, R0, I, L)) := (w_lcmp (pc' := 1295) claw_1294 rfl).trans ((w_if_eq (pc' := 1298) claw_1295 rfl).trans (ite_iff ((w_iinc (pc' := 1366) (v := (x3 + 6)) (ls' := [some (.ref 1000050), some (.ref 0), some (.ref 124), some (.int (x3 + 6))]) claw_1363 (Nat.le_of_ble_eq_true rfl) rfl rfl rfl rfl).trans ((w_goto claw_1366))) ((w_iconst (pc' := 1299) (v := 0) claw_1298 rfl rfl).trans ((w_zret (ty := .boolean) claw_1299 rfl (by decide)).trans (and_iff_right (by decide))))))
theorem blaw_1358 {X : Nat × (Nat → Int32)} {d : Nat} {I : Nat → Nat → Int32} {L : Nat → Nat → Int64} {Q : Option Value → XW → Prop} {x3 : Int32} {s0 : Int32} {s1 : Int32}  : wp X d mLaw 1358 [some (.ref 1000050), some (.ref 0), some (.ref 124), some (.int x3)] [(.int s1), (.int s0)] (K0, R0, I, L) Q ↔ (if s0 = s1 then wp X d mLaw 18 [some (.ref 1000050), some (.ref 0), some (.ref 124), some (.int (x3 + 6))] [] (K0, R0, I, L) Q else Q (some (.int 0)) (K0, R0, I, L)) := (w_icmp_eq (pc' := 1361) claw_1358 rfl).trans (ite_iff ((w_iinc (pc' := 1366) (v := (x3 + 6)) (ls' := [some (.ref 1000050), some (.ref 0), some (.ref 124), some (.int (x3 + 6))]) claw_1363 (Nat.le_of_ble_eq_true rfl) rfl rfl rfl rfl).trans ((w_goto claw_1366))) ((w_iconst (pc' := 1362) (v := 0) claw_1361 rfl rfl).trans ((w_zret (ty := .boolean) claw_1362 rfl (by decide)).trans (and_iff_right (by decide)))))
