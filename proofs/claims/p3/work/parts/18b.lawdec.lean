/-! ===== the law's instructions ===== -/
def lrL_law_k0 : List (Nat × Instr × Nat) := [(0, .new 7, 3), (3, .dup, 1), (4, .invokespecial 9, 3), (7, .astore_n 1, 1), (8, .new 10, 3), (11, .dup, 1), (12, .invokespecial 12, 3), (15, .astore_n 2, 1), (16, .iconst 0, 1), (17, .istore_n 3, 1), (18, .iload_n 3, 1), (19, .aload_n 0, 1), (20, .arraylength, 1), (21, .iconst 5, 1), (22, .isub, 1), (23, .if_icmp .gt 1401, 3), (26, .aload_n 0, 1), (27, .iload_n 3, 1), (28, .iaload, 1), (29, .bipush 63, 2), (31, .iand, 1), (32, .tableswitch 1386 0 39 #[176, 199, 222, 235, 248, 271, 304, 337, 370, 403, 426, 469, 502, 545, 588, 621, 654, 687, 710, 733, 756, 779, 802, 825, 858, 901, 924, 957, 1000, 1043, 1066, 1089, 1122, 1165, 1188, 1211, 1254, 1297, 1350, 1363], 176), (208, .aload_n 1, 1), (209, .aload_n 0, 1), (210, .iload_n 3, 1), (211, .iconst 1, 1), (212, .iadd, 1), (213, .iaload, 1), (214, .invokevirtual 13, 3), (217, .pop, 1), (218, .aload_n 2, 1), (219, .aload_n 0, 1), (220, .iload_n 3, 1), (221, .iconst 1, 1), (222, .iadd, 1), (223, .iaload, 1), (224, .invokevirtual 17, 3), (227, .pop, 1), (228, .goto 1190, 3), (231, .aload_n 1, 1)]
theorem arL_law_k0 : lrL_law_k0.all (fun r => decRow cL_law r.1 r.2.1 r.2.2) = true := by decide +kernel
theorem dL_law_0 : decode cL_law 0 = .ok (.new 7, 3) := decRow_at arL_law_k0 0 rfl
theorem dL_law_3 : decode cL_law 3 = .ok (.dup, 1) := decRow_at arL_law_k0 1 rfl
theorem dL_law_4 : decode cL_law 4 = .ok (.invokespecial 9, 3) := decRow_at arL_law_k0 2 rfl
theorem dL_law_7 : decode cL_law 7 = .ok (.astore_n 1, 1) := decRow_at arL_law_k0 3 rfl
theorem dL_law_8 : decode cL_law 8 = .ok (.new 10, 3) := decRow_at arL_law_k0 4 rfl
theorem dL_law_11 : decode cL_law 11 = .ok (.dup, 1) := decRow_at arL_law_k0 5 rfl
theorem dL_law_12 : decode cL_law 12 = .ok (.invokespecial 12, 3) := decRow_at arL_law_k0 6 rfl
theorem dL_law_15 : decode cL_law 15 = .ok (.astore_n 2, 1) := decRow_at arL_law_k0 7 rfl
theorem dL_law_16 : decode cL_law 16 = .ok (.iconst 0, 1) := decRow_at arL_law_k0 8 rfl
theorem dL_law_17 : decode cL_law 17 = .ok (.istore_n 3, 1) := decRow_at arL_law_k0 9 rfl
theorem dL_law_18 : decode cL_law 18 = .ok (.iload_n 3, 1) := decRow_at arL_law_k0 10 rfl
theorem dL_law_19 : decode cL_law 19 = .ok (.aload_n 0, 1) := decRow_at arL_law_k0 11 rfl
theorem dL_law_20 : decode cL_law 20 = .ok (.arraylength, 1) := decRow_at arL_law_k0 12 rfl
theorem dL_law_21 : decode cL_law 21 = .ok (.iconst 5, 1) := decRow_at arL_law_k0 13 rfl
theorem dL_law_22 : decode cL_law 22 = .ok (.isub, 1) := decRow_at arL_law_k0 14 rfl
theorem dL_law_23 : decode cL_law 23 = .ok (.if_icmp .gt 1401, 3) := decRow_at arL_law_k0 15 rfl
theorem dL_law_26 : decode cL_law 26 = .ok (.aload_n 0, 1) := decRow_at arL_law_k0 16 rfl
theorem dL_law_27 : decode cL_law 27 = .ok (.iload_n 3, 1) := decRow_at arL_law_k0 17 rfl
theorem dL_law_28 : decode cL_law 28 = .ok (.iaload, 1) := decRow_at arL_law_k0 18 rfl
theorem dL_law_29 : decode cL_law 29 = .ok (.bipush 63, 2) := decRow_at arL_law_k0 19 rfl
theorem dL_law_31 : decode cL_law 31 = .ok (.iand, 1) := decRow_at arL_law_k0 20 rfl
theorem dL_law_32 : decode cL_law 32 = .ok (.tableswitch 1386 0 39 #[176, 199, 222, 235, 248, 271, 304, 337, 370, 403, 426, 469, 502, 545, 588, 621, 654, 687, 710, 733, 756, 779, 802, 825, 858, 901, 924, 957, 1000, 1043, 1066, 1089, 1122, 1165, 1188, 1211, 1254, 1297, 1350, 1363], 176) := decRow_at arL_law_k0 21 rfl
theorem dL_law_208 : decode cL_law 208 = .ok (.aload_n 1, 1) := decRow_at arL_law_k0 22 rfl
theorem dL_law_209 : decode cL_law 209 = .ok (.aload_n 0, 1) := decRow_at arL_law_k0 23 rfl
theorem dL_law_210 : decode cL_law 210 = .ok (.iload_n 3, 1) := decRow_at arL_law_k0 24 rfl
theorem dL_law_211 : decode cL_law 211 = .ok (.iconst 1, 1) := decRow_at arL_law_k0 25 rfl
theorem dL_law_212 : decode cL_law 212 = .ok (.iadd, 1) := decRow_at arL_law_k0 26 rfl
theorem dL_law_213 : decode cL_law 213 = .ok (.iaload, 1) := decRow_at arL_law_k0 27 rfl
theorem dL_law_214 : decode cL_law 214 = .ok (.invokevirtual 13, 3) := decRow_at arL_law_k0 28 rfl
theorem dL_law_217 : decode cL_law 217 = .ok (.pop, 1) := decRow_at arL_law_k0 29 rfl
theorem dL_law_218 : decode cL_law 218 = .ok (.aload_n 2, 1) := decRow_at arL_law_k0 30 rfl
theorem dL_law_219 : decode cL_law 219 = .ok (.aload_n 0, 1) := decRow_at arL_law_k0 31 rfl
theorem dL_law_220 : decode cL_law 220 = .ok (.iload_n 3, 1) := decRow_at arL_law_k0 32 rfl
theorem dL_law_221 : decode cL_law 221 = .ok (.iconst 1, 1) := decRow_at arL_law_k0 33 rfl
theorem dL_law_222 : decode cL_law 222 = .ok (.iadd, 1) := decRow_at arL_law_k0 34 rfl
theorem dL_law_223 : decode cL_law 223 = .ok (.iaload, 1) := decRow_at arL_law_k0 35 rfl
theorem dL_law_224 : decode cL_law 224 = .ok (.invokevirtual 17, 3) := decRow_at arL_law_k0 36 rfl
theorem dL_law_227 : decode cL_law 227 = .ok (.pop, 1) := decRow_at arL_law_k0 37 rfl
theorem dL_law_228 : decode cL_law 228 = .ok (.goto 1190, 3) := decRow_at arL_law_k0 38 rfl
theorem dL_law_231 : decode cL_law 231 = .ok (.aload_n 1, 1) := decRow_at arL_law_k0 39 rfl
def lrL_law_k1 : List (Nat × Instr × Nat) := [(232, .aload_n 0, 1), (233, .iload_n 3, 1), (234, .iconst 1, 1), (235, .iadd, 1), (236, .iaload, 1), (237, .invokevirtual 18, 3), (240, .aload_n 2, 1), (241, .aload_n 0, 1), (242, .iload_n 3, 1), (243, .iconst 1, 1), (244, .iadd, 1), (245, .iaload, 1), (246, .invokevirtual 21, 3), (249, .if_icmp .eq 1169, 3), (252, .iconst 0, 1), (253, .ireturn, 1), (254, .aload_n 1, 1), (255, .invokevirtual 22, 3), (258, .pop, 1), (259, .aload_n 2, 1), (260, .invokevirtual 26, 3), (263, .pop, 1), (264, .goto 1154, 3), (267, .aload_n 1, 1), (268, .invokevirtual 27, 3), (271, .pop, 1), (272, .aload_n 2, 1), (273, .invokevirtual 30, 3), (276, .pop, 1), (277, .goto 1141, 3), (280, .aload_n 1, 1), (281, .aload_n 0, 1), (282, .iload_n 3, 1), (283, .iconst 1, 1), (284, .iadd, 1), (285, .iaload, 1), (286, .invokevirtual 31, 3), (289, .pop, 1), (290, .aload_n 2, 1), (291, .aload_n 0, 1)]
theorem arL_law_k1 : lrL_law_k1.all (fun r => decRow cL_law r.1 r.2.1 r.2.2) = true := by decide +kernel
theorem dL_law_232 : decode cL_law 232 = .ok (.aload_n 0, 1) := decRow_at arL_law_k1 0 rfl
theorem dL_law_233 : decode cL_law 233 = .ok (.iload_n 3, 1) := decRow_at arL_law_k1 1 rfl
theorem dL_law_234 : decode cL_law 234 = .ok (.iconst 1, 1) := decRow_at arL_law_k1 2 rfl
theorem dL_law_235 : decode cL_law 235 = .ok (.iadd, 1) := decRow_at arL_law_k1 3 rfl
theorem dL_law_236 : decode cL_law 236 = .ok (.iaload, 1) := decRow_at arL_law_k1 4 rfl
theorem dL_law_237 : decode cL_law 237 = .ok (.invokevirtual 18, 3) := decRow_at arL_law_k1 5 rfl
theorem dL_law_240 : decode cL_law 240 = .ok (.aload_n 2, 1) := decRow_at arL_law_k1 6 rfl
theorem dL_law_241 : decode cL_law 241 = .ok (.aload_n 0, 1) := decRow_at arL_law_k1 7 rfl
theorem dL_law_242 : decode cL_law 242 = .ok (.iload_n 3, 1) := decRow_at arL_law_k1 8 rfl
theorem dL_law_243 : decode cL_law 243 = .ok (.iconst 1, 1) := decRow_at arL_law_k1 9 rfl
theorem dL_law_244 : decode cL_law 244 = .ok (.iadd, 1) := decRow_at arL_law_k1 10 rfl
theorem dL_law_245 : decode cL_law 245 = .ok (.iaload, 1) := decRow_at arL_law_k1 11 rfl
theorem dL_law_246 : decode cL_law 246 = .ok (.invokevirtual 21, 3) := decRow_at arL_law_k1 12 rfl
theorem dL_law_249 : decode cL_law 249 = .ok (.if_icmp .eq 1169, 3) := decRow_at arL_law_k1 13 rfl
theorem dL_law_252 : decode cL_law 252 = .ok (.iconst 0, 1) := decRow_at arL_law_k1 14 rfl
theorem dL_law_253 : decode cL_law 253 = .ok (.ireturn, 1) := decRow_at arL_law_k1 15 rfl
theorem dL_law_254 : decode cL_law 254 = .ok (.aload_n 1, 1) := decRow_at arL_law_k1 16 rfl
theorem dL_law_255 : decode cL_law 255 = .ok (.invokevirtual 22, 3) := decRow_at arL_law_k1 17 rfl
theorem dL_law_258 : decode cL_law 258 = .ok (.pop, 1) := decRow_at arL_law_k1 18 rfl
theorem dL_law_259 : decode cL_law 259 = .ok (.aload_n 2, 1) := decRow_at arL_law_k1 19 rfl
theorem dL_law_260 : decode cL_law 260 = .ok (.invokevirtual 26, 3) := decRow_at arL_law_k1 20 rfl
theorem dL_law_263 : decode cL_law 263 = .ok (.pop, 1) := decRow_at arL_law_k1 21 rfl
theorem dL_law_264 : decode cL_law 264 = .ok (.goto 1154, 3) := decRow_at arL_law_k1 22 rfl
theorem dL_law_267 : decode cL_law 267 = .ok (.aload_n 1, 1) := decRow_at arL_law_k1 23 rfl
theorem dL_law_268 : decode cL_law 268 = .ok (.invokevirtual 27, 3) := decRow_at arL_law_k1 24 rfl
theorem dL_law_271 : decode cL_law 271 = .ok (.pop, 1) := decRow_at arL_law_k1 25 rfl
theorem dL_law_272 : decode cL_law 272 = .ok (.aload_n 2, 1) := decRow_at arL_law_k1 26 rfl
theorem dL_law_273 : decode cL_law 273 = .ok (.invokevirtual 30, 3) := decRow_at arL_law_k1 27 rfl
theorem dL_law_276 : decode cL_law 276 = .ok (.pop, 1) := decRow_at arL_law_k1 28 rfl
theorem dL_law_277 : decode cL_law 277 = .ok (.goto 1141, 3) := decRow_at arL_law_k1 29 rfl
theorem dL_law_280 : decode cL_law 280 = .ok (.aload_n 1, 1) := decRow_at arL_law_k1 30 rfl
theorem dL_law_281 : decode cL_law 281 = .ok (.aload_n 0, 1) := decRow_at arL_law_k1 31 rfl
theorem dL_law_282 : decode cL_law 282 = .ok (.iload_n 3, 1) := decRow_at arL_law_k1 32 rfl
theorem dL_law_283 : decode cL_law 283 = .ok (.iconst 1, 1) := decRow_at arL_law_k1 33 rfl
theorem dL_law_284 : decode cL_law 284 = .ok (.iadd, 1) := decRow_at arL_law_k1 34 rfl
theorem dL_law_285 : decode cL_law 285 = .ok (.iaload, 1) := decRow_at arL_law_k1 35 rfl
theorem dL_law_286 : decode cL_law 286 = .ok (.invokevirtual 31, 3) := decRow_at arL_law_k1 36 rfl
theorem dL_law_289 : decode cL_law 289 = .ok (.pop, 1) := decRow_at arL_law_k1 37 rfl
theorem dL_law_290 : decode cL_law 290 = .ok (.aload_n 2, 1) := decRow_at arL_law_k1 38 rfl
theorem dL_law_291 : decode cL_law 291 = .ok (.aload_n 0, 1) := decRow_at arL_law_k1 39 rfl
def lrL_law_k2 : List (Nat × Instr × Nat) := [(292, .iload_n 3, 1), (293, .iconst 1, 1), (294, .iadd, 1), (295, .iaload, 1), (296, .invokevirtual 34, 3), (299, .pop, 1), (300, .goto 1118, 3), (303, .aload_n 1, 1), (304, .aload_n 0, 1), (305, .iload_n 3, 1), (306, .iconst 1, 1), (307, .iadd, 1), (308, .iaload, 1), (309, .aload_n 0, 1), (310, .iload_n 3, 1), (311, .iconst 2, 1), (312, .iadd, 1), (313, .iaload, 1), (314, .invokevirtual 35, 3), (317, .pop, 1), (318, .aload_n 2, 1), (319, .aload_n 0, 1), (320, .iload_n 3, 1), (321, .iconst 1, 1), (322, .iadd, 1), (323, .iaload, 1), (324, .aload_n 0, 1), (325, .iload_n 3, 1), (326, .iconst 2, 1), (327, .iadd, 1), (328, .iaload, 1), (329, .invokevirtual 39, 3), (332, .pop, 1), (333, .goto 1085, 3), (336, .aload_n 1, 1), (337, .aload_n 0, 1), (338, .iload_n 3, 1), (339, .iconst 1, 1), (340, .iadd, 1), (341, .iaload, 1)]
theorem arL_law_k2 : lrL_law_k2.all (fun r => decRow cL_law r.1 r.2.1 r.2.2) = true := by decide +kernel
theorem dL_law_292 : decode cL_law 292 = .ok (.iload_n 3, 1) := decRow_at arL_law_k2 0 rfl
theorem dL_law_293 : decode cL_law 293 = .ok (.iconst 1, 1) := decRow_at arL_law_k2 1 rfl
theorem dL_law_294 : decode cL_law 294 = .ok (.iadd, 1) := decRow_at arL_law_k2 2 rfl
theorem dL_law_295 : decode cL_law 295 = .ok (.iaload, 1) := decRow_at arL_law_k2 3 rfl
theorem dL_law_296 : decode cL_law 296 = .ok (.invokevirtual 34, 3) := decRow_at arL_law_k2 4 rfl
theorem dL_law_299 : decode cL_law 299 = .ok (.pop, 1) := decRow_at arL_law_k2 5 rfl
theorem dL_law_300 : decode cL_law 300 = .ok (.goto 1118, 3) := decRow_at arL_law_k2 6 rfl
theorem dL_law_303 : decode cL_law 303 = .ok (.aload_n 1, 1) := decRow_at arL_law_k2 7 rfl
theorem dL_law_304 : decode cL_law 304 = .ok (.aload_n 0, 1) := decRow_at arL_law_k2 8 rfl
theorem dL_law_305 : decode cL_law 305 = .ok (.iload_n 3, 1) := decRow_at arL_law_k2 9 rfl
theorem dL_law_306 : decode cL_law 306 = .ok (.iconst 1, 1) := decRow_at arL_law_k2 10 rfl
theorem dL_law_307 : decode cL_law 307 = .ok (.iadd, 1) := decRow_at arL_law_k2 11 rfl
theorem dL_law_308 : decode cL_law 308 = .ok (.iaload, 1) := decRow_at arL_law_k2 12 rfl
theorem dL_law_309 : decode cL_law 309 = .ok (.aload_n 0, 1) := decRow_at arL_law_k2 13 rfl
theorem dL_law_310 : decode cL_law 310 = .ok (.iload_n 3, 1) := decRow_at arL_law_k2 14 rfl
theorem dL_law_311 : decode cL_law 311 = .ok (.iconst 2, 1) := decRow_at arL_law_k2 15 rfl
theorem dL_law_312 : decode cL_law 312 = .ok (.iadd, 1) := decRow_at arL_law_k2 16 rfl
theorem dL_law_313 : decode cL_law 313 = .ok (.iaload, 1) := decRow_at arL_law_k2 17 rfl
theorem dL_law_314 : decode cL_law 314 = .ok (.invokevirtual 35, 3) := decRow_at arL_law_k2 18 rfl
theorem dL_law_317 : decode cL_law 317 = .ok (.pop, 1) := decRow_at arL_law_k2 19 rfl
theorem dL_law_318 : decode cL_law 318 = .ok (.aload_n 2, 1) := decRow_at arL_law_k2 20 rfl
theorem dL_law_319 : decode cL_law 319 = .ok (.aload_n 0, 1) := decRow_at arL_law_k2 21 rfl
theorem dL_law_320 : decode cL_law 320 = .ok (.iload_n 3, 1) := decRow_at arL_law_k2 22 rfl
theorem dL_law_321 : decode cL_law 321 = .ok (.iconst 1, 1) := decRow_at arL_law_k2 23 rfl
theorem dL_law_322 : decode cL_law 322 = .ok (.iadd, 1) := decRow_at arL_law_k2 24 rfl
theorem dL_law_323 : decode cL_law 323 = .ok (.iaload, 1) := decRow_at arL_law_k2 25 rfl
theorem dL_law_324 : decode cL_law 324 = .ok (.aload_n 0, 1) := decRow_at arL_law_k2 26 rfl
theorem dL_law_325 : decode cL_law 325 = .ok (.iload_n 3, 1) := decRow_at arL_law_k2 27 rfl
theorem dL_law_326 : decode cL_law 326 = .ok (.iconst 2, 1) := decRow_at arL_law_k2 28 rfl
theorem dL_law_327 : decode cL_law 327 = .ok (.iadd, 1) := decRow_at arL_law_k2 29 rfl
theorem dL_law_328 : decode cL_law 328 = .ok (.iaload, 1) := decRow_at arL_law_k2 30 rfl
theorem dL_law_329 : decode cL_law 329 = .ok (.invokevirtual 39, 3) := decRow_at arL_law_k2 31 rfl
theorem dL_law_332 : decode cL_law 332 = .ok (.pop, 1) := decRow_at arL_law_k2 32 rfl
theorem dL_law_333 : decode cL_law 333 = .ok (.goto 1085, 3) := decRow_at arL_law_k2 33 rfl
theorem dL_law_336 : decode cL_law 336 = .ok (.aload_n 1, 1) := decRow_at arL_law_k2 34 rfl
theorem dL_law_337 : decode cL_law 337 = .ok (.aload_n 0, 1) := decRow_at arL_law_k2 35 rfl
theorem dL_law_338 : decode cL_law 338 = .ok (.iload_n 3, 1) := decRow_at arL_law_k2 36 rfl
theorem dL_law_339 : decode cL_law 339 = .ok (.iconst 1, 1) := decRow_at arL_law_k2 37 rfl
theorem dL_law_340 : decode cL_law 340 = .ok (.iadd, 1) := decRow_at arL_law_k2 38 rfl
theorem dL_law_341 : decode cL_law 341 = .ok (.iaload, 1) := decRow_at arL_law_k2 39 rfl
def lrL_law_k3 : List (Nat × Instr × Nat) := [(342, .aload_n 0, 1), (343, .iload_n 3, 1), (344, .iconst 2, 1), (345, .iadd, 1), (346, .iaload, 1), (347, .invokevirtual 40, 3), (350, .pop, 1), (351, .aload_n 2, 1), (352, .aload_n 0, 1), (353, .iload_n 3, 1), (354, .iconst 1, 1), (355, .iadd, 1), (356, .iaload, 1), (357, .aload_n 0, 1), (358, .iload_n 3, 1), (359, .iconst 2, 1), (360, .iadd, 1), (361, .iaload, 1), (362, .invokevirtual 43, 3), (365, .pop, 1), (366, .goto 1052, 3), (369, .aload_n 1, 1), (370, .aload_n 0, 1), (371, .iload_n 3, 1), (372, .iconst 1, 1), (373, .iadd, 1), (374, .iaload, 1), (375, .aload_n 0, 1), (376, .iload_n 3, 1), (377, .iconst 2, 1), (378, .iadd, 1), (379, .iaload, 1), (380, .invokevirtual 44, 3), (383, .pop, 1), (384, .aload_n 2, 1), (385, .aload_n 0, 1), (386, .iload_n 3, 1), (387, .iconst 1, 1), (388, .iadd, 1), (389, .iaload, 1)]
theorem arL_law_k3 : lrL_law_k3.all (fun r => decRow cL_law r.1 r.2.1 r.2.2) = true := by decide +kernel
theorem dL_law_342 : decode cL_law 342 = .ok (.aload_n 0, 1) := decRow_at arL_law_k3 0 rfl
theorem dL_law_343 : decode cL_law 343 = .ok (.iload_n 3, 1) := decRow_at arL_law_k3 1 rfl
theorem dL_law_344 : decode cL_law 344 = .ok (.iconst 2, 1) := decRow_at arL_law_k3 2 rfl
theorem dL_law_345 : decode cL_law 345 = .ok (.iadd, 1) := decRow_at arL_law_k3 3 rfl
theorem dL_law_346 : decode cL_law 346 = .ok (.iaload, 1) := decRow_at arL_law_k3 4 rfl
theorem dL_law_347 : decode cL_law 347 = .ok (.invokevirtual 40, 3) := decRow_at arL_law_k3 5 rfl
theorem dL_law_350 : decode cL_law 350 = .ok (.pop, 1) := decRow_at arL_law_k3 6 rfl
theorem dL_law_351 : decode cL_law 351 = .ok (.aload_n 2, 1) := decRow_at arL_law_k3 7 rfl
theorem dL_law_352 : decode cL_law 352 = .ok (.aload_n 0, 1) := decRow_at arL_law_k3 8 rfl
theorem dL_law_353 : decode cL_law 353 = .ok (.iload_n 3, 1) := decRow_at arL_law_k3 9 rfl
theorem dL_law_354 : decode cL_law 354 = .ok (.iconst 1, 1) := decRow_at arL_law_k3 10 rfl
theorem dL_law_355 : decode cL_law 355 = .ok (.iadd, 1) := decRow_at arL_law_k3 11 rfl
theorem dL_law_356 : decode cL_law 356 = .ok (.iaload, 1) := decRow_at arL_law_k3 12 rfl
theorem dL_law_357 : decode cL_law 357 = .ok (.aload_n 0, 1) := decRow_at arL_law_k3 13 rfl
theorem dL_law_358 : decode cL_law 358 = .ok (.iload_n 3, 1) := decRow_at arL_law_k3 14 rfl
theorem dL_law_359 : decode cL_law 359 = .ok (.iconst 2, 1) := decRow_at arL_law_k3 15 rfl
theorem dL_law_360 : decode cL_law 360 = .ok (.iadd, 1) := decRow_at arL_law_k3 16 rfl
theorem dL_law_361 : decode cL_law 361 = .ok (.iaload, 1) := decRow_at arL_law_k3 17 rfl
theorem dL_law_362 : decode cL_law 362 = .ok (.invokevirtual 43, 3) := decRow_at arL_law_k3 18 rfl
theorem dL_law_365 : decode cL_law 365 = .ok (.pop, 1) := decRow_at arL_law_k3 19 rfl
theorem dL_law_366 : decode cL_law 366 = .ok (.goto 1052, 3) := decRow_at arL_law_k3 20 rfl
theorem dL_law_369 : decode cL_law 369 = .ok (.aload_n 1, 1) := decRow_at arL_law_k3 21 rfl
theorem dL_law_370 : decode cL_law 370 = .ok (.aload_n 0, 1) := decRow_at arL_law_k3 22 rfl
theorem dL_law_371 : decode cL_law 371 = .ok (.iload_n 3, 1) := decRow_at arL_law_k3 23 rfl
theorem dL_law_372 : decode cL_law 372 = .ok (.iconst 1, 1) := decRow_at arL_law_k3 24 rfl
theorem dL_law_373 : decode cL_law 373 = .ok (.iadd, 1) := decRow_at arL_law_k3 25 rfl
theorem dL_law_374 : decode cL_law 374 = .ok (.iaload, 1) := decRow_at arL_law_k3 26 rfl
theorem dL_law_375 : decode cL_law 375 = .ok (.aload_n 0, 1) := decRow_at arL_law_k3 27 rfl
theorem dL_law_376 : decode cL_law 376 = .ok (.iload_n 3, 1) := decRow_at arL_law_k3 28 rfl
theorem dL_law_377 : decode cL_law 377 = .ok (.iconst 2, 1) := decRow_at arL_law_k3 29 rfl
theorem dL_law_378 : decode cL_law 378 = .ok (.iadd, 1) := decRow_at arL_law_k3 30 rfl
theorem dL_law_379 : decode cL_law 379 = .ok (.iaload, 1) := decRow_at arL_law_k3 31 rfl
theorem dL_law_380 : decode cL_law 380 = .ok (.invokevirtual 44, 3) := decRow_at arL_law_k3 32 rfl
theorem dL_law_383 : decode cL_law 383 = .ok (.pop, 1) := decRow_at arL_law_k3 33 rfl
theorem dL_law_384 : decode cL_law 384 = .ok (.aload_n 2, 1) := decRow_at arL_law_k3 34 rfl
theorem dL_law_385 : decode cL_law 385 = .ok (.aload_n 0, 1) := decRow_at arL_law_k3 35 rfl
theorem dL_law_386 : decode cL_law 386 = .ok (.iload_n 3, 1) := decRow_at arL_law_k3 36 rfl
theorem dL_law_387 : decode cL_law 387 = .ok (.iconst 1, 1) := decRow_at arL_law_k3 37 rfl
theorem dL_law_388 : decode cL_law 388 = .ok (.iadd, 1) := decRow_at arL_law_k3 38 rfl
theorem dL_law_389 : decode cL_law 389 = .ok (.iaload, 1) := decRow_at arL_law_k3 39 rfl
def lrL_law_k4 : List (Nat × Instr × Nat) := [(390, .aload_n 0, 1), (391, .iload_n 3, 1), (392, .iconst 2, 1), (393, .iadd, 1), (394, .iaload, 1), (395, .invokevirtual 47, 3), (398, .pop, 1), (399, .goto 1019, 3), (402, .aload_n 1, 1), (403, .aload_n 0, 1), (404, .iload_n 3, 1), (405, .iconst 1, 1), (406, .iadd, 1), (407, .iaload, 1), (408, .aload_n 0, 1), (409, .iload_n 3, 1), (410, .iconst 2, 1), (411, .iadd, 1), (412, .iaload, 1), (413, .invokevirtual 48, 3), (416, .pop, 1), (417, .aload_n 2, 1), (418, .aload_n 0, 1), (419, .iload_n 3, 1), (420, .iconst 1, 1), (421, .iadd, 1), (422, .iaload, 1), (423, .aload_n 0, 1), (424, .iload_n 3, 1), (425, .iconst 2, 1), (426, .iadd, 1), (427, .iaload, 1), (428, .invokevirtual 51, 3), (431, .pop, 1), (432, .goto 986, 3), (435, .aload_n 1, 1), (436, .aload_n 0, 1), (437, .iload_n 3, 1), (438, .iconst 1, 1), (439, .iadd, 1)]
theorem arL_law_k4 : lrL_law_k4.all (fun r => decRow cL_law r.1 r.2.1 r.2.2) = true := by decide +kernel
theorem dL_law_390 : decode cL_law 390 = .ok (.aload_n 0, 1) := decRow_at arL_law_k4 0 rfl
theorem dL_law_391 : decode cL_law 391 = .ok (.iload_n 3, 1) := decRow_at arL_law_k4 1 rfl
theorem dL_law_392 : decode cL_law 392 = .ok (.iconst 2, 1) := decRow_at arL_law_k4 2 rfl
theorem dL_law_393 : decode cL_law 393 = .ok (.iadd, 1) := decRow_at arL_law_k4 3 rfl
theorem dL_law_394 : decode cL_law 394 = .ok (.iaload, 1) := decRow_at arL_law_k4 4 rfl
theorem dL_law_395 : decode cL_law 395 = .ok (.invokevirtual 47, 3) := decRow_at arL_law_k4 5 rfl
theorem dL_law_398 : decode cL_law 398 = .ok (.pop, 1) := decRow_at arL_law_k4 6 rfl
theorem dL_law_399 : decode cL_law 399 = .ok (.goto 1019, 3) := decRow_at arL_law_k4 7 rfl
theorem dL_law_402 : decode cL_law 402 = .ok (.aload_n 1, 1) := decRow_at arL_law_k4 8 rfl
theorem dL_law_403 : decode cL_law 403 = .ok (.aload_n 0, 1) := decRow_at arL_law_k4 9 rfl
theorem dL_law_404 : decode cL_law 404 = .ok (.iload_n 3, 1) := decRow_at arL_law_k4 10 rfl
theorem dL_law_405 : decode cL_law 405 = .ok (.iconst 1, 1) := decRow_at arL_law_k4 11 rfl
theorem dL_law_406 : decode cL_law 406 = .ok (.iadd, 1) := decRow_at arL_law_k4 12 rfl
theorem dL_law_407 : decode cL_law 407 = .ok (.iaload, 1) := decRow_at arL_law_k4 13 rfl
theorem dL_law_408 : decode cL_law 408 = .ok (.aload_n 0, 1) := decRow_at arL_law_k4 14 rfl
theorem dL_law_409 : decode cL_law 409 = .ok (.iload_n 3, 1) := decRow_at arL_law_k4 15 rfl
theorem dL_law_410 : decode cL_law 410 = .ok (.iconst 2, 1) := decRow_at arL_law_k4 16 rfl
theorem dL_law_411 : decode cL_law 411 = .ok (.iadd, 1) := decRow_at arL_law_k4 17 rfl
theorem dL_law_412 : decode cL_law 412 = .ok (.iaload, 1) := decRow_at arL_law_k4 18 rfl
theorem dL_law_413 : decode cL_law 413 = .ok (.invokevirtual 48, 3) := decRow_at arL_law_k4 19 rfl
theorem dL_law_416 : decode cL_law 416 = .ok (.pop, 1) := decRow_at arL_law_k4 20 rfl
theorem dL_law_417 : decode cL_law 417 = .ok (.aload_n 2, 1) := decRow_at arL_law_k4 21 rfl
theorem dL_law_418 : decode cL_law 418 = .ok (.aload_n 0, 1) := decRow_at arL_law_k4 22 rfl
theorem dL_law_419 : decode cL_law 419 = .ok (.iload_n 3, 1) := decRow_at arL_law_k4 23 rfl
theorem dL_law_420 : decode cL_law 420 = .ok (.iconst 1, 1) := decRow_at arL_law_k4 24 rfl
theorem dL_law_421 : decode cL_law 421 = .ok (.iadd, 1) := decRow_at arL_law_k4 25 rfl
theorem dL_law_422 : decode cL_law 422 = .ok (.iaload, 1) := decRow_at arL_law_k4 26 rfl
theorem dL_law_423 : decode cL_law 423 = .ok (.aload_n 0, 1) := decRow_at arL_law_k4 27 rfl
theorem dL_law_424 : decode cL_law 424 = .ok (.iload_n 3, 1) := decRow_at arL_law_k4 28 rfl
theorem dL_law_425 : decode cL_law 425 = .ok (.iconst 2, 1) := decRow_at arL_law_k4 29 rfl
theorem dL_law_426 : decode cL_law 426 = .ok (.iadd, 1) := decRow_at arL_law_k4 30 rfl
theorem dL_law_427 : decode cL_law 427 = .ok (.iaload, 1) := decRow_at arL_law_k4 31 rfl
theorem dL_law_428 : decode cL_law 428 = .ok (.invokevirtual 51, 3) := decRow_at arL_law_k4 32 rfl
theorem dL_law_431 : decode cL_law 431 = .ok (.pop, 1) := decRow_at arL_law_k4 33 rfl
theorem dL_law_432 : decode cL_law 432 = .ok (.goto 986, 3) := decRow_at arL_law_k4 34 rfl
theorem dL_law_435 : decode cL_law 435 = .ok (.aload_n 1, 1) := decRow_at arL_law_k4 35 rfl
theorem dL_law_436 : decode cL_law 436 = .ok (.aload_n 0, 1) := decRow_at arL_law_k4 36 rfl
theorem dL_law_437 : decode cL_law 437 = .ok (.iload_n 3, 1) := decRow_at arL_law_k4 37 rfl
theorem dL_law_438 : decode cL_law 438 = .ok (.iconst 1, 1) := decRow_at arL_law_k4 38 rfl
theorem dL_law_439 : decode cL_law 439 = .ok (.iadd, 1) := decRow_at arL_law_k4 39 rfl
def lrL_law_k5 : List (Nat × Instr × Nat) := [(440, .iaload, 1), (441, .invokevirtual 52, 3), (444, .pop, 1), (445, .aload_n 2, 1), (446, .aload_n 0, 1), (447, .iload_n 3, 1), (448, .iconst 1, 1), (449, .iadd, 1), (450, .iaload, 1), (451, .invokevirtual 55, 3), (454, .pop, 1), (455, .goto 963, 3), (458, .aload_n 1, 1), (459, .aload_n 0, 1), (460, .iload_n 3, 1), (461, .iconst 1, 1), (462, .iadd, 1), (463, .iaload, 1), (464, .aload_n 0, 1), (465, .iload_n 3, 1), (466, .iconst 2, 1), (467, .iadd, 1), (468, .iaload, 1), (469, .aload_n 0, 1), (470, .iload_n 3, 1), (471, .iconst 3, 1), (472, .iadd, 1), (473, .iaload, 1), (474, .invokevirtual 56, 3), (477, .pop, 1), (478, .aload_n 2, 1), (479, .aload_n 0, 1), (480, .iload_n 3, 1), (481, .iconst 1, 1), (482, .iadd, 1), (483, .iaload, 1), (484, .aload_n 0, 1), (485, .iload_n 3, 1), (486, .iconst 2, 1), (487, .iadd, 1)]
theorem arL_law_k5 : lrL_law_k5.all (fun r => decRow cL_law r.1 r.2.1 r.2.2) = true := by decide +kernel
theorem dL_law_440 : decode cL_law 440 = .ok (.iaload, 1) := decRow_at arL_law_k5 0 rfl
theorem dL_law_441 : decode cL_law 441 = .ok (.invokevirtual 52, 3) := decRow_at arL_law_k5 1 rfl
theorem dL_law_444 : decode cL_law 444 = .ok (.pop, 1) := decRow_at arL_law_k5 2 rfl
theorem dL_law_445 : decode cL_law 445 = .ok (.aload_n 2, 1) := decRow_at arL_law_k5 3 rfl
theorem dL_law_446 : decode cL_law 446 = .ok (.aload_n 0, 1) := decRow_at arL_law_k5 4 rfl
theorem dL_law_447 : decode cL_law 447 = .ok (.iload_n 3, 1) := decRow_at arL_law_k5 5 rfl
theorem dL_law_448 : decode cL_law 448 = .ok (.iconst 1, 1) := decRow_at arL_law_k5 6 rfl
theorem dL_law_449 : decode cL_law 449 = .ok (.iadd, 1) := decRow_at arL_law_k5 7 rfl
theorem dL_law_450 : decode cL_law 450 = .ok (.iaload, 1) := decRow_at arL_law_k5 8 rfl
theorem dL_law_451 : decode cL_law 451 = .ok (.invokevirtual 55, 3) := decRow_at arL_law_k5 9 rfl
theorem dL_law_454 : decode cL_law 454 = .ok (.pop, 1) := decRow_at arL_law_k5 10 rfl
theorem dL_law_455 : decode cL_law 455 = .ok (.goto 963, 3) := decRow_at arL_law_k5 11 rfl
theorem dL_law_458 : decode cL_law 458 = .ok (.aload_n 1, 1) := decRow_at arL_law_k5 12 rfl
theorem dL_law_459 : decode cL_law 459 = .ok (.aload_n 0, 1) := decRow_at arL_law_k5 13 rfl
theorem dL_law_460 : decode cL_law 460 = .ok (.iload_n 3, 1) := decRow_at arL_law_k5 14 rfl
theorem dL_law_461 : decode cL_law 461 = .ok (.iconst 1, 1) := decRow_at arL_law_k5 15 rfl
theorem dL_law_462 : decode cL_law 462 = .ok (.iadd, 1) := decRow_at arL_law_k5 16 rfl
theorem dL_law_463 : decode cL_law 463 = .ok (.iaload, 1) := decRow_at arL_law_k5 17 rfl
theorem dL_law_464 : decode cL_law 464 = .ok (.aload_n 0, 1) := decRow_at arL_law_k5 18 rfl
theorem dL_law_465 : decode cL_law 465 = .ok (.iload_n 3, 1) := decRow_at arL_law_k5 19 rfl
theorem dL_law_466 : decode cL_law 466 = .ok (.iconst 2, 1) := decRow_at arL_law_k5 20 rfl
theorem dL_law_467 : decode cL_law 467 = .ok (.iadd, 1) := decRow_at arL_law_k5 21 rfl
theorem dL_law_468 : decode cL_law 468 = .ok (.iaload, 1) := decRow_at arL_law_k5 22 rfl
theorem dL_law_469 : decode cL_law 469 = .ok (.aload_n 0, 1) := decRow_at arL_law_k5 23 rfl
theorem dL_law_470 : decode cL_law 470 = .ok (.iload_n 3, 1) := decRow_at arL_law_k5 24 rfl
theorem dL_law_471 : decode cL_law 471 = .ok (.iconst 3, 1) := decRow_at arL_law_k5 25 rfl
theorem dL_law_472 : decode cL_law 472 = .ok (.iadd, 1) := decRow_at arL_law_k5 26 rfl
theorem dL_law_473 : decode cL_law 473 = .ok (.iaload, 1) := decRow_at arL_law_k5 27 rfl
theorem dL_law_474 : decode cL_law 474 = .ok (.invokevirtual 56, 3) := decRow_at arL_law_k5 28 rfl
theorem dL_law_477 : decode cL_law 477 = .ok (.pop, 1) := decRow_at arL_law_k5 29 rfl
theorem dL_law_478 : decode cL_law 478 = .ok (.aload_n 2, 1) := decRow_at arL_law_k5 30 rfl
theorem dL_law_479 : decode cL_law 479 = .ok (.aload_n 0, 1) := decRow_at arL_law_k5 31 rfl
theorem dL_law_480 : decode cL_law 480 = .ok (.iload_n 3, 1) := decRow_at arL_law_k5 32 rfl
theorem dL_law_481 : decode cL_law 481 = .ok (.iconst 1, 1) := decRow_at arL_law_k5 33 rfl
theorem dL_law_482 : decode cL_law 482 = .ok (.iadd, 1) := decRow_at arL_law_k5 34 rfl
theorem dL_law_483 : decode cL_law 483 = .ok (.iaload, 1) := decRow_at arL_law_k5 35 rfl
theorem dL_law_484 : decode cL_law 484 = .ok (.aload_n 0, 1) := decRow_at arL_law_k5 36 rfl
theorem dL_law_485 : decode cL_law 485 = .ok (.iload_n 3, 1) := decRow_at arL_law_k5 37 rfl
theorem dL_law_486 : decode cL_law 486 = .ok (.iconst 2, 1) := decRow_at arL_law_k5 38 rfl
theorem dL_law_487 : decode cL_law 487 = .ok (.iadd, 1) := decRow_at arL_law_k5 39 rfl
def lrL_law_k6 : List (Nat × Instr × Nat) := [(488, .iaload, 1), (489, .aload_n 0, 1), (490, .iload_n 3, 1), (491, .iconst 3, 1), (492, .iadd, 1), (493, .iaload, 1), (494, .invokevirtual 60, 3), (497, .pop, 1), (498, .goto 920, 3), (501, .aload_n 1, 1), (502, .aload_n 0, 1), (503, .iload_n 3, 1), (504, .iconst 1, 1), (505, .iadd, 1), (506, .iaload, 1), (507, .aload_n 0, 1), (508, .iload_n 3, 1), (509, .iconst 2, 1), (510, .iadd, 1), (511, .iaload, 1), (512, .invokevirtual 61, 3), (515, .pop, 1), (516, .aload_n 2, 1), (517, .aload_n 0, 1), (518, .iload_n 3, 1), (519, .iconst 1, 1), (520, .iadd, 1), (521, .iaload, 1), (522, .aload_n 0, 1), (523, .iload_n 3, 1), (524, .iconst 2, 1), (525, .iadd, 1), (526, .iaload, 1), (527, .invokevirtual 64, 3), (530, .pop, 1), (531, .goto 887, 3), (534, .aload_n 1, 1), (535, .aload_n 0, 1), (536, .iload_n 3, 1), (537, .iconst 1, 1)]
theorem arL_law_k6 : lrL_law_k6.all (fun r => decRow cL_law r.1 r.2.1 r.2.2) = true := by decide +kernel
theorem dL_law_488 : decode cL_law 488 = .ok (.iaload, 1) := decRow_at arL_law_k6 0 rfl
theorem dL_law_489 : decode cL_law 489 = .ok (.aload_n 0, 1) := decRow_at arL_law_k6 1 rfl
theorem dL_law_490 : decode cL_law 490 = .ok (.iload_n 3, 1) := decRow_at arL_law_k6 2 rfl
theorem dL_law_491 : decode cL_law 491 = .ok (.iconst 3, 1) := decRow_at arL_law_k6 3 rfl
theorem dL_law_492 : decode cL_law 492 = .ok (.iadd, 1) := decRow_at arL_law_k6 4 rfl
theorem dL_law_493 : decode cL_law 493 = .ok (.iaload, 1) := decRow_at arL_law_k6 5 rfl
theorem dL_law_494 : decode cL_law 494 = .ok (.invokevirtual 60, 3) := decRow_at arL_law_k6 6 rfl
theorem dL_law_497 : decode cL_law 497 = .ok (.pop, 1) := decRow_at arL_law_k6 7 rfl
theorem dL_law_498 : decode cL_law 498 = .ok (.goto 920, 3) := decRow_at arL_law_k6 8 rfl
theorem dL_law_501 : decode cL_law 501 = .ok (.aload_n 1, 1) := decRow_at arL_law_k6 9 rfl
theorem dL_law_502 : decode cL_law 502 = .ok (.aload_n 0, 1) := decRow_at arL_law_k6 10 rfl
theorem dL_law_503 : decode cL_law 503 = .ok (.iload_n 3, 1) := decRow_at arL_law_k6 11 rfl
theorem dL_law_504 : decode cL_law 504 = .ok (.iconst 1, 1) := decRow_at arL_law_k6 12 rfl
theorem dL_law_505 : decode cL_law 505 = .ok (.iadd, 1) := decRow_at arL_law_k6 13 rfl
theorem dL_law_506 : decode cL_law 506 = .ok (.iaload, 1) := decRow_at arL_law_k6 14 rfl
theorem dL_law_507 : decode cL_law 507 = .ok (.aload_n 0, 1) := decRow_at arL_law_k6 15 rfl
theorem dL_law_508 : decode cL_law 508 = .ok (.iload_n 3, 1) := decRow_at arL_law_k6 16 rfl
theorem dL_law_509 : decode cL_law 509 = .ok (.iconst 2, 1) := decRow_at arL_law_k6 17 rfl
theorem dL_law_510 : decode cL_law 510 = .ok (.iadd, 1) := decRow_at arL_law_k6 18 rfl
theorem dL_law_511 : decode cL_law 511 = .ok (.iaload, 1) := decRow_at arL_law_k6 19 rfl
theorem dL_law_512 : decode cL_law 512 = .ok (.invokevirtual 61, 3) := decRow_at arL_law_k6 20 rfl
theorem dL_law_515 : decode cL_law 515 = .ok (.pop, 1) := decRow_at arL_law_k6 21 rfl
theorem dL_law_516 : decode cL_law 516 = .ok (.aload_n 2, 1) := decRow_at arL_law_k6 22 rfl
theorem dL_law_517 : decode cL_law 517 = .ok (.aload_n 0, 1) := decRow_at arL_law_k6 23 rfl
theorem dL_law_518 : decode cL_law 518 = .ok (.iload_n 3, 1) := decRow_at arL_law_k6 24 rfl
theorem dL_law_519 : decode cL_law 519 = .ok (.iconst 1, 1) := decRow_at arL_law_k6 25 rfl
theorem dL_law_520 : decode cL_law 520 = .ok (.iadd, 1) := decRow_at arL_law_k6 26 rfl
theorem dL_law_521 : decode cL_law 521 = .ok (.iaload, 1) := decRow_at arL_law_k6 27 rfl
theorem dL_law_522 : decode cL_law 522 = .ok (.aload_n 0, 1) := decRow_at arL_law_k6 28 rfl
theorem dL_law_523 : decode cL_law 523 = .ok (.iload_n 3, 1) := decRow_at arL_law_k6 29 rfl
theorem dL_law_524 : decode cL_law 524 = .ok (.iconst 2, 1) := decRow_at arL_law_k6 30 rfl
theorem dL_law_525 : decode cL_law 525 = .ok (.iadd, 1) := decRow_at arL_law_k6 31 rfl
theorem dL_law_526 : decode cL_law 526 = .ok (.iaload, 1) := decRow_at arL_law_k6 32 rfl
theorem dL_law_527 : decode cL_law 527 = .ok (.invokevirtual 64, 3) := decRow_at arL_law_k6 33 rfl
theorem dL_law_530 : decode cL_law 530 = .ok (.pop, 1) := decRow_at arL_law_k6 34 rfl
theorem dL_law_531 : decode cL_law 531 = .ok (.goto 887, 3) := decRow_at arL_law_k6 35 rfl
theorem dL_law_534 : decode cL_law 534 = .ok (.aload_n 1, 1) := decRow_at arL_law_k6 36 rfl
theorem dL_law_535 : decode cL_law 535 = .ok (.aload_n 0, 1) := decRow_at arL_law_k6 37 rfl
theorem dL_law_536 : decode cL_law 536 = .ok (.iload_n 3, 1) := decRow_at arL_law_k6 38 rfl
theorem dL_law_537 : decode cL_law 537 = .ok (.iconst 1, 1) := decRow_at arL_law_k6 39 rfl
def lrL_law_k7 : List (Nat × Instr × Nat) := [(538, .iadd, 1), (539, .iaload, 1), (540, .aload_n 0, 1), (541, .iload_n 3, 1), (542, .iconst 2, 1), (543, .iadd, 1), (544, .iaload, 1), (545, .aload_n 0, 1), (546, .iload_n 3, 1), (547, .iconst 3, 1), (548, .iadd, 1), (549, .iaload, 1), (550, .invokevirtual 65, 3), (553, .pop, 1), (554, .aload_n 2, 1), (555, .aload_n 0, 1), (556, .iload_n 3, 1), (557, .iconst 1, 1), (558, .iadd, 1), (559, .iaload, 1), (560, .aload_n 0, 1), (561, .iload_n 3, 1), (562, .iconst 2, 1), (563, .iadd, 1), (564, .iaload, 1), (565, .aload_n 0, 1), (566, .iload_n 3, 1), (567, .iconst 3, 1), (568, .iadd, 1), (569, .iaload, 1), (570, .invokevirtual 68, 3), (573, .pop, 1), (574, .goto 844, 3), (577, .aload_n 1, 1), (578, .aload_n 0, 1), (579, .iload_n 3, 1), (580, .iconst 1, 1), (581, .iadd, 1), (582, .iaload, 1), (583, .aload_n 0, 1)]
theorem arL_law_k7 : lrL_law_k7.all (fun r => decRow cL_law r.1 r.2.1 r.2.2) = true := by decide +kernel
theorem dL_law_538 : decode cL_law 538 = .ok (.iadd, 1) := decRow_at arL_law_k7 0 rfl
theorem dL_law_539 : decode cL_law 539 = .ok (.iaload, 1) := decRow_at arL_law_k7 1 rfl
theorem dL_law_540 : decode cL_law 540 = .ok (.aload_n 0, 1) := decRow_at arL_law_k7 2 rfl
theorem dL_law_541 : decode cL_law 541 = .ok (.iload_n 3, 1) := decRow_at arL_law_k7 3 rfl
theorem dL_law_542 : decode cL_law 542 = .ok (.iconst 2, 1) := decRow_at arL_law_k7 4 rfl
theorem dL_law_543 : decode cL_law 543 = .ok (.iadd, 1) := decRow_at arL_law_k7 5 rfl
theorem dL_law_544 : decode cL_law 544 = .ok (.iaload, 1) := decRow_at arL_law_k7 6 rfl
theorem dL_law_545 : decode cL_law 545 = .ok (.aload_n 0, 1) := decRow_at arL_law_k7 7 rfl
theorem dL_law_546 : decode cL_law 546 = .ok (.iload_n 3, 1) := decRow_at arL_law_k7 8 rfl
theorem dL_law_547 : decode cL_law 547 = .ok (.iconst 3, 1) := decRow_at arL_law_k7 9 rfl
theorem dL_law_548 : decode cL_law 548 = .ok (.iadd, 1) := decRow_at arL_law_k7 10 rfl
theorem dL_law_549 : decode cL_law 549 = .ok (.iaload, 1) := decRow_at arL_law_k7 11 rfl
theorem dL_law_550 : decode cL_law 550 = .ok (.invokevirtual 65, 3) := decRow_at arL_law_k7 12 rfl
theorem dL_law_553 : decode cL_law 553 = .ok (.pop, 1) := decRow_at arL_law_k7 13 rfl
theorem dL_law_554 : decode cL_law 554 = .ok (.aload_n 2, 1) := decRow_at arL_law_k7 14 rfl
theorem dL_law_555 : decode cL_law 555 = .ok (.aload_n 0, 1) := decRow_at arL_law_k7 15 rfl
theorem dL_law_556 : decode cL_law 556 = .ok (.iload_n 3, 1) := decRow_at arL_law_k7 16 rfl
theorem dL_law_557 : decode cL_law 557 = .ok (.iconst 1, 1) := decRow_at arL_law_k7 17 rfl
theorem dL_law_558 : decode cL_law 558 = .ok (.iadd, 1) := decRow_at arL_law_k7 18 rfl
theorem dL_law_559 : decode cL_law 559 = .ok (.iaload, 1) := decRow_at arL_law_k7 19 rfl
theorem dL_law_560 : decode cL_law 560 = .ok (.aload_n 0, 1) := decRow_at arL_law_k7 20 rfl
theorem dL_law_561 : decode cL_law 561 = .ok (.iload_n 3, 1) := decRow_at arL_law_k7 21 rfl
theorem dL_law_562 : decode cL_law 562 = .ok (.iconst 2, 1) := decRow_at arL_law_k7 22 rfl
theorem dL_law_563 : decode cL_law 563 = .ok (.iadd, 1) := decRow_at arL_law_k7 23 rfl
theorem dL_law_564 : decode cL_law 564 = .ok (.iaload, 1) := decRow_at arL_law_k7 24 rfl
theorem dL_law_565 : decode cL_law 565 = .ok (.aload_n 0, 1) := decRow_at arL_law_k7 25 rfl
theorem dL_law_566 : decode cL_law 566 = .ok (.iload_n 3, 1) := decRow_at arL_law_k7 26 rfl
theorem dL_law_567 : decode cL_law 567 = .ok (.iconst 3, 1) := decRow_at arL_law_k7 27 rfl
theorem dL_law_568 : decode cL_law 568 = .ok (.iadd, 1) := decRow_at arL_law_k7 28 rfl
theorem dL_law_569 : decode cL_law 569 = .ok (.iaload, 1) := decRow_at arL_law_k7 29 rfl
theorem dL_law_570 : decode cL_law 570 = .ok (.invokevirtual 68, 3) := decRow_at arL_law_k7 30 rfl
theorem dL_law_573 : decode cL_law 573 = .ok (.pop, 1) := decRow_at arL_law_k7 31 rfl
theorem dL_law_574 : decode cL_law 574 = .ok (.goto 844, 3) := decRow_at arL_law_k7 32 rfl
theorem dL_law_577 : decode cL_law 577 = .ok (.aload_n 1, 1) := decRow_at arL_law_k7 33 rfl
theorem dL_law_578 : decode cL_law 578 = .ok (.aload_n 0, 1) := decRow_at arL_law_k7 34 rfl
theorem dL_law_579 : decode cL_law 579 = .ok (.iload_n 3, 1) := decRow_at arL_law_k7 35 rfl
theorem dL_law_580 : decode cL_law 580 = .ok (.iconst 1, 1) := decRow_at arL_law_k7 36 rfl
theorem dL_law_581 : decode cL_law 581 = .ok (.iadd, 1) := decRow_at arL_law_k7 37 rfl
theorem dL_law_582 : decode cL_law 582 = .ok (.iaload, 1) := decRow_at arL_law_k7 38 rfl
theorem dL_law_583 : decode cL_law 583 = .ok (.aload_n 0, 1) := decRow_at arL_law_k7 39 rfl
def lrL_law_k8 : List (Nat × Instr × Nat) := [(584, .iload_n 3, 1), (585, .iconst 2, 1), (586, .iadd, 1), (587, .iaload, 1), (588, .aload_n 0, 1), (589, .iload_n 3, 1), (590, .iconst 3, 1), (591, .iadd, 1), (592, .iaload, 1), (593, .invokevirtual 69, 3), (596, .pop, 1), (597, .aload_n 2, 1), (598, .aload_n 0, 1), (599, .iload_n 3, 1), (600, .iconst 1, 1), (601, .iadd, 1), (602, .iaload, 1), (603, .aload_n 0, 1), (604, .iload_n 3, 1), (605, .iconst 2, 1), (606, .iadd, 1), (607, .iaload, 1), (608, .aload_n 0, 1), (609, .iload_n 3, 1), (610, .iconst 3, 1), (611, .iadd, 1), (612, .iaload, 1), (613, .invokevirtual 72, 3), (616, .pop, 1), (617, .goto 801, 3), (620, .aload_n 1, 1), (621, .aload_n 0, 1), (622, .iload_n 3, 1), (623, .iconst 1, 1), (624, .iadd, 1), (625, .iaload, 1), (626, .aload_n 0, 1), (627, .iload_n 3, 1), (628, .iconst 2, 1), (629, .iadd, 1)]
theorem arL_law_k8 : lrL_law_k8.all (fun r => decRow cL_law r.1 r.2.1 r.2.2) = true := by decide +kernel
theorem dL_law_584 : decode cL_law 584 = .ok (.iload_n 3, 1) := decRow_at arL_law_k8 0 rfl
theorem dL_law_585 : decode cL_law 585 = .ok (.iconst 2, 1) := decRow_at arL_law_k8 1 rfl
theorem dL_law_586 : decode cL_law 586 = .ok (.iadd, 1) := decRow_at arL_law_k8 2 rfl
theorem dL_law_587 : decode cL_law 587 = .ok (.iaload, 1) := decRow_at arL_law_k8 3 rfl
theorem dL_law_588 : decode cL_law 588 = .ok (.aload_n 0, 1) := decRow_at arL_law_k8 4 rfl
theorem dL_law_589 : decode cL_law 589 = .ok (.iload_n 3, 1) := decRow_at arL_law_k8 5 rfl
theorem dL_law_590 : decode cL_law 590 = .ok (.iconst 3, 1) := decRow_at arL_law_k8 6 rfl
theorem dL_law_591 : decode cL_law 591 = .ok (.iadd, 1) := decRow_at arL_law_k8 7 rfl
theorem dL_law_592 : decode cL_law 592 = .ok (.iaload, 1) := decRow_at arL_law_k8 8 rfl
theorem dL_law_593 : decode cL_law 593 = .ok (.invokevirtual 69, 3) := decRow_at arL_law_k8 9 rfl
theorem dL_law_596 : decode cL_law 596 = .ok (.pop, 1) := decRow_at arL_law_k8 10 rfl
theorem dL_law_597 : decode cL_law 597 = .ok (.aload_n 2, 1) := decRow_at arL_law_k8 11 rfl
theorem dL_law_598 : decode cL_law 598 = .ok (.aload_n 0, 1) := decRow_at arL_law_k8 12 rfl
theorem dL_law_599 : decode cL_law 599 = .ok (.iload_n 3, 1) := decRow_at arL_law_k8 13 rfl
theorem dL_law_600 : decode cL_law 600 = .ok (.iconst 1, 1) := decRow_at arL_law_k8 14 rfl
theorem dL_law_601 : decode cL_law 601 = .ok (.iadd, 1) := decRow_at arL_law_k8 15 rfl
theorem dL_law_602 : decode cL_law 602 = .ok (.iaload, 1) := decRow_at arL_law_k8 16 rfl
theorem dL_law_603 : decode cL_law 603 = .ok (.aload_n 0, 1) := decRow_at arL_law_k8 17 rfl
theorem dL_law_604 : decode cL_law 604 = .ok (.iload_n 3, 1) := decRow_at arL_law_k8 18 rfl
theorem dL_law_605 : decode cL_law 605 = .ok (.iconst 2, 1) := decRow_at arL_law_k8 19 rfl
theorem dL_law_606 : decode cL_law 606 = .ok (.iadd, 1) := decRow_at arL_law_k8 20 rfl
theorem dL_law_607 : decode cL_law 607 = .ok (.iaload, 1) := decRow_at arL_law_k8 21 rfl
theorem dL_law_608 : decode cL_law 608 = .ok (.aload_n 0, 1) := decRow_at arL_law_k8 22 rfl
theorem dL_law_609 : decode cL_law 609 = .ok (.iload_n 3, 1) := decRow_at arL_law_k8 23 rfl
theorem dL_law_610 : decode cL_law 610 = .ok (.iconst 3, 1) := decRow_at arL_law_k8 24 rfl
theorem dL_law_611 : decode cL_law 611 = .ok (.iadd, 1) := decRow_at arL_law_k8 25 rfl
theorem dL_law_612 : decode cL_law 612 = .ok (.iaload, 1) := decRow_at arL_law_k8 26 rfl
theorem dL_law_613 : decode cL_law 613 = .ok (.invokevirtual 72, 3) := decRow_at arL_law_k8 27 rfl
theorem dL_law_616 : decode cL_law 616 = .ok (.pop, 1) := decRow_at arL_law_k8 28 rfl
theorem dL_law_617 : decode cL_law 617 = .ok (.goto 801, 3) := decRow_at arL_law_k8 29 rfl
theorem dL_law_620 : decode cL_law 620 = .ok (.aload_n 1, 1) := decRow_at arL_law_k8 30 rfl
theorem dL_law_621 : decode cL_law 621 = .ok (.aload_n 0, 1) := decRow_at arL_law_k8 31 rfl
theorem dL_law_622 : decode cL_law 622 = .ok (.iload_n 3, 1) := decRow_at arL_law_k8 32 rfl
theorem dL_law_623 : decode cL_law 623 = .ok (.iconst 1, 1) := decRow_at arL_law_k8 33 rfl
theorem dL_law_624 : decode cL_law 624 = .ok (.iadd, 1) := decRow_at arL_law_k8 34 rfl
theorem dL_law_625 : decode cL_law 625 = .ok (.iaload, 1) := decRow_at arL_law_k8 35 rfl
theorem dL_law_626 : decode cL_law 626 = .ok (.aload_n 0, 1) := decRow_at arL_law_k8 36 rfl
theorem dL_law_627 : decode cL_law 627 = .ok (.iload_n 3, 1) := decRow_at arL_law_k8 37 rfl
theorem dL_law_628 : decode cL_law 628 = .ok (.iconst 2, 1) := decRow_at arL_law_k8 38 rfl
theorem dL_law_629 : decode cL_law 629 = .ok (.iadd, 1) := decRow_at arL_law_k8 39 rfl
def lrL_law_k9 : List (Nat × Instr × Nat) := [(630, .iaload, 1), (631, .invokevirtual 73, 3), (634, .pop, 1), (635, .aload_n 2, 1), (636, .aload_n 0, 1), (637, .iload_n 3, 1), (638, .iconst 1, 1), (639, .iadd, 1), (640, .iaload, 1), (641, .aload_n 0, 1), (642, .iload_n 3, 1), (643, .iconst 2, 1), (644, .iadd, 1), (645, .iaload, 1), (646, .invokevirtual 76, 3), (649, .pop, 1), (650, .goto 768, 3), (653, .aload_n 1, 1), (654, .aload_n 0, 1), (655, .iload_n 3, 1), (656, .iconst 1, 1), (657, .iadd, 1), (658, .iaload, 1), (659, .aload_n 0, 1), (660, .iload_n 3, 1), (661, .iconst 2, 1), (662, .iadd, 1), (663, .iaload, 1), (664, .invokevirtual 77, 3), (667, .pop, 1), (668, .aload_n 2, 1), (669, .aload_n 0, 1), (670, .iload_n 3, 1), (671, .iconst 1, 1), (672, .iadd, 1), (673, .iaload, 1), (674, .aload_n 0, 1), (675, .iload_n 3, 1), (676, .iconst 2, 1), (677, .iadd, 1)]
theorem arL_law_k9 : lrL_law_k9.all (fun r => decRow cL_law r.1 r.2.1 r.2.2) = true := by decide +kernel
theorem dL_law_630 : decode cL_law 630 = .ok (.iaload, 1) := decRow_at arL_law_k9 0 rfl
theorem dL_law_631 : decode cL_law 631 = .ok (.invokevirtual 73, 3) := decRow_at arL_law_k9 1 rfl
theorem dL_law_634 : decode cL_law 634 = .ok (.pop, 1) := decRow_at arL_law_k9 2 rfl
theorem dL_law_635 : decode cL_law 635 = .ok (.aload_n 2, 1) := decRow_at arL_law_k9 3 rfl
theorem dL_law_636 : decode cL_law 636 = .ok (.aload_n 0, 1) := decRow_at arL_law_k9 4 rfl
theorem dL_law_637 : decode cL_law 637 = .ok (.iload_n 3, 1) := decRow_at arL_law_k9 5 rfl
theorem dL_law_638 : decode cL_law 638 = .ok (.iconst 1, 1) := decRow_at arL_law_k9 6 rfl
theorem dL_law_639 : decode cL_law 639 = .ok (.iadd, 1) := decRow_at arL_law_k9 7 rfl
theorem dL_law_640 : decode cL_law 640 = .ok (.iaload, 1) := decRow_at arL_law_k9 8 rfl
theorem dL_law_641 : decode cL_law 641 = .ok (.aload_n 0, 1) := decRow_at arL_law_k9 9 rfl
theorem dL_law_642 : decode cL_law 642 = .ok (.iload_n 3, 1) := decRow_at arL_law_k9 10 rfl
theorem dL_law_643 : decode cL_law 643 = .ok (.iconst 2, 1) := decRow_at arL_law_k9 11 rfl
theorem dL_law_644 : decode cL_law 644 = .ok (.iadd, 1) := decRow_at arL_law_k9 12 rfl
theorem dL_law_645 : decode cL_law 645 = .ok (.iaload, 1) := decRow_at arL_law_k9 13 rfl
theorem dL_law_646 : decode cL_law 646 = .ok (.invokevirtual 76, 3) := decRow_at arL_law_k9 14 rfl
theorem dL_law_649 : decode cL_law 649 = .ok (.pop, 1) := decRow_at arL_law_k9 15 rfl
theorem dL_law_650 : decode cL_law 650 = .ok (.goto 768, 3) := decRow_at arL_law_k9 16 rfl
theorem dL_law_653 : decode cL_law 653 = .ok (.aload_n 1, 1) := decRow_at arL_law_k9 17 rfl
theorem dL_law_654 : decode cL_law 654 = .ok (.aload_n 0, 1) := decRow_at arL_law_k9 18 rfl
theorem dL_law_655 : decode cL_law 655 = .ok (.iload_n 3, 1) := decRow_at arL_law_k9 19 rfl
theorem dL_law_656 : decode cL_law 656 = .ok (.iconst 1, 1) := decRow_at arL_law_k9 20 rfl
theorem dL_law_657 : decode cL_law 657 = .ok (.iadd, 1) := decRow_at arL_law_k9 21 rfl
theorem dL_law_658 : decode cL_law 658 = .ok (.iaload, 1) := decRow_at arL_law_k9 22 rfl
theorem dL_law_659 : decode cL_law 659 = .ok (.aload_n 0, 1) := decRow_at arL_law_k9 23 rfl
theorem dL_law_660 : decode cL_law 660 = .ok (.iload_n 3, 1) := decRow_at arL_law_k9 24 rfl
theorem dL_law_661 : decode cL_law 661 = .ok (.iconst 2, 1) := decRow_at arL_law_k9 25 rfl
theorem dL_law_662 : decode cL_law 662 = .ok (.iadd, 1) := decRow_at arL_law_k9 26 rfl
theorem dL_law_663 : decode cL_law 663 = .ok (.iaload, 1) := decRow_at arL_law_k9 27 rfl
theorem dL_law_664 : decode cL_law 664 = .ok (.invokevirtual 77, 3) := decRow_at arL_law_k9 28 rfl
theorem dL_law_667 : decode cL_law 667 = .ok (.pop, 1) := decRow_at arL_law_k9 29 rfl
theorem dL_law_668 : decode cL_law 668 = .ok (.aload_n 2, 1) := decRow_at arL_law_k9 30 rfl
theorem dL_law_669 : decode cL_law 669 = .ok (.aload_n 0, 1) := decRow_at arL_law_k9 31 rfl
theorem dL_law_670 : decode cL_law 670 = .ok (.iload_n 3, 1) := decRow_at arL_law_k9 32 rfl
theorem dL_law_671 : decode cL_law 671 = .ok (.iconst 1, 1) := decRow_at arL_law_k9 33 rfl
theorem dL_law_672 : decode cL_law 672 = .ok (.iadd, 1) := decRow_at arL_law_k9 34 rfl
theorem dL_law_673 : decode cL_law 673 = .ok (.iaload, 1) := decRow_at arL_law_k9 35 rfl
theorem dL_law_674 : decode cL_law 674 = .ok (.aload_n 0, 1) := decRow_at arL_law_k9 36 rfl
theorem dL_law_675 : decode cL_law 675 = .ok (.iload_n 3, 1) := decRow_at arL_law_k9 37 rfl
theorem dL_law_676 : decode cL_law 676 = .ok (.iconst 2, 1) := decRow_at arL_law_k9 38 rfl
theorem dL_law_677 : decode cL_law 677 = .ok (.iadd, 1) := decRow_at arL_law_k9 39 rfl
def lrL_law_k10 : List (Nat × Instr × Nat) := [(678, .iaload, 1), (679, .invokevirtual 80, 3), (682, .pop, 1), (683, .goto 735, 3), (686, .aload_n 1, 1), (687, .aload_n 0, 1), (688, .iload_n 3, 1), (689, .iconst 1, 1), (690, .iadd, 1), (691, .iaload, 1), (692, .aload_n 0, 1), (693, .iload_n 3, 1), (694, .iconst 2, 1), (695, .iadd, 1), (696, .iaload, 1), (697, .invokevirtual 81, 3), (700, .pop, 1), (701, .aload_n 2, 1), (702, .aload_n 0, 1), (703, .iload_n 3, 1), (704, .iconst 1, 1), (705, .iadd, 1), (706, .iaload, 1), (707, .aload_n 0, 1), (708, .iload_n 3, 1), (709, .iconst 2, 1), (710, .iadd, 1), (711, .iaload, 1), (712, .invokevirtual 84, 3), (715, .pop, 1), (716, .goto 702, 3), (719, .aload_n 1, 1), (720, .aload_n 0, 1), (721, .iload_n 3, 1), (722, .iconst 1, 1), (723, .iadd, 1), (724, .iaload, 1), (725, .invokevirtual 85, 3), (728, .pop, 1), (729, .aload_n 2, 1)]
theorem arL_law_k10 : lrL_law_k10.all (fun r => decRow cL_law r.1 r.2.1 r.2.2) = true := by decide +kernel
theorem dL_law_678 : decode cL_law 678 = .ok (.iaload, 1) := decRow_at arL_law_k10 0 rfl
theorem dL_law_679 : decode cL_law 679 = .ok (.invokevirtual 80, 3) := decRow_at arL_law_k10 1 rfl
theorem dL_law_682 : decode cL_law 682 = .ok (.pop, 1) := decRow_at arL_law_k10 2 rfl
theorem dL_law_683 : decode cL_law 683 = .ok (.goto 735, 3) := decRow_at arL_law_k10 3 rfl
theorem dL_law_686 : decode cL_law 686 = .ok (.aload_n 1, 1) := decRow_at arL_law_k10 4 rfl
theorem dL_law_687 : decode cL_law 687 = .ok (.aload_n 0, 1) := decRow_at arL_law_k10 5 rfl
theorem dL_law_688 : decode cL_law 688 = .ok (.iload_n 3, 1) := decRow_at arL_law_k10 6 rfl
theorem dL_law_689 : decode cL_law 689 = .ok (.iconst 1, 1) := decRow_at arL_law_k10 7 rfl
theorem dL_law_690 : decode cL_law 690 = .ok (.iadd, 1) := decRow_at arL_law_k10 8 rfl
theorem dL_law_691 : decode cL_law 691 = .ok (.iaload, 1) := decRow_at arL_law_k10 9 rfl
theorem dL_law_692 : decode cL_law 692 = .ok (.aload_n 0, 1) := decRow_at arL_law_k10 10 rfl
theorem dL_law_693 : decode cL_law 693 = .ok (.iload_n 3, 1) := decRow_at arL_law_k10 11 rfl
theorem dL_law_694 : decode cL_law 694 = .ok (.iconst 2, 1) := decRow_at arL_law_k10 12 rfl
theorem dL_law_695 : decode cL_law 695 = .ok (.iadd, 1) := decRow_at arL_law_k10 13 rfl
theorem dL_law_696 : decode cL_law 696 = .ok (.iaload, 1) := decRow_at arL_law_k10 14 rfl
theorem dL_law_697 : decode cL_law 697 = .ok (.invokevirtual 81, 3) := decRow_at arL_law_k10 15 rfl
theorem dL_law_700 : decode cL_law 700 = .ok (.pop, 1) := decRow_at arL_law_k10 16 rfl
theorem dL_law_701 : decode cL_law 701 = .ok (.aload_n 2, 1) := decRow_at arL_law_k10 17 rfl
theorem dL_law_702 : decode cL_law 702 = .ok (.aload_n 0, 1) := decRow_at arL_law_k10 18 rfl
theorem dL_law_703 : decode cL_law 703 = .ok (.iload_n 3, 1) := decRow_at arL_law_k10 19 rfl
theorem dL_law_704 : decode cL_law 704 = .ok (.iconst 1, 1) := decRow_at arL_law_k10 20 rfl
theorem dL_law_705 : decode cL_law 705 = .ok (.iadd, 1) := decRow_at arL_law_k10 21 rfl
theorem dL_law_706 : decode cL_law 706 = .ok (.iaload, 1) := decRow_at arL_law_k10 22 rfl
theorem dL_law_707 : decode cL_law 707 = .ok (.aload_n 0, 1) := decRow_at arL_law_k10 23 rfl
theorem dL_law_708 : decode cL_law 708 = .ok (.iload_n 3, 1) := decRow_at arL_law_k10 24 rfl
theorem dL_law_709 : decode cL_law 709 = .ok (.iconst 2, 1) := decRow_at arL_law_k10 25 rfl
theorem dL_law_710 : decode cL_law 710 = .ok (.iadd, 1) := decRow_at arL_law_k10 26 rfl
theorem dL_law_711 : decode cL_law 711 = .ok (.iaload, 1) := decRow_at arL_law_k10 27 rfl
theorem dL_law_712 : decode cL_law 712 = .ok (.invokevirtual 84, 3) := decRow_at arL_law_k10 28 rfl
theorem dL_law_715 : decode cL_law 715 = .ok (.pop, 1) := decRow_at arL_law_k10 29 rfl
theorem dL_law_716 : decode cL_law 716 = .ok (.goto 702, 3) := decRow_at arL_law_k10 30 rfl
theorem dL_law_719 : decode cL_law 719 = .ok (.aload_n 1, 1) := decRow_at arL_law_k10 31 rfl
theorem dL_law_720 : decode cL_law 720 = .ok (.aload_n 0, 1) := decRow_at arL_law_k10 32 rfl
theorem dL_law_721 : decode cL_law 721 = .ok (.iload_n 3, 1) := decRow_at arL_law_k10 33 rfl
theorem dL_law_722 : decode cL_law 722 = .ok (.iconst 1, 1) := decRow_at arL_law_k10 34 rfl
theorem dL_law_723 : decode cL_law 723 = .ok (.iadd, 1) := decRow_at arL_law_k10 35 rfl
theorem dL_law_724 : decode cL_law 724 = .ok (.iaload, 1) := decRow_at arL_law_k10 36 rfl
theorem dL_law_725 : decode cL_law 725 = .ok (.invokevirtual 85, 3) := decRow_at arL_law_k10 37 rfl
theorem dL_law_728 : decode cL_law 728 = .ok (.pop, 1) := decRow_at arL_law_k10 38 rfl
theorem dL_law_729 : decode cL_law 729 = .ok (.aload_n 2, 1) := decRow_at arL_law_k10 39 rfl
def lrL_law_k11 : List (Nat × Instr × Nat) := [(730, .aload_n 0, 1), (731, .iload_n 3, 1), (732, .iconst 1, 1), (733, .iadd, 1), (734, .iaload, 1), (735, .invokevirtual 88, 3), (738, .pop, 1), (739, .goto 679, 3), (742, .aload_n 1, 1), (743, .aload_n 0, 1), (744, .iload_n 3, 1), (745, .iconst 1, 1), (746, .iadd, 1), (747, .iaload, 1), (748, .invokevirtual 89, 3), (751, .pop, 1), (752, .aload_n 2, 1), (753, .aload_n 0, 1), (754, .iload_n 3, 1), (755, .iconst 1, 1), (756, .iadd, 1), (757, .iaload, 1), (758, .invokevirtual 92, 3), (761, .pop, 1), (762, .goto 656, 3), (765, .aload_n 1, 1), (766, .aload_n 0, 1), (767, .iload_n 3, 1), (768, .iconst 1, 1), (769, .iadd, 1), (770, .iaload, 1), (771, .invokevirtual 93, 3), (774, .pop, 1), (775, .aload_n 2, 1), (776, .aload_n 0, 1), (777, .iload_n 3, 1), (778, .iconst 1, 1), (779, .iadd, 1), (780, .iaload, 1), (781, .invokevirtual 96, 3)]
theorem arL_law_k11 : lrL_law_k11.all (fun r => decRow cL_law r.1 r.2.1 r.2.2) = true := by decide +kernel
theorem dL_law_730 : decode cL_law 730 = .ok (.aload_n 0, 1) := decRow_at arL_law_k11 0 rfl
theorem dL_law_731 : decode cL_law 731 = .ok (.iload_n 3, 1) := decRow_at arL_law_k11 1 rfl
theorem dL_law_732 : decode cL_law 732 = .ok (.iconst 1, 1) := decRow_at arL_law_k11 2 rfl
theorem dL_law_733 : decode cL_law 733 = .ok (.iadd, 1) := decRow_at arL_law_k11 3 rfl
theorem dL_law_734 : decode cL_law 734 = .ok (.iaload, 1) := decRow_at arL_law_k11 4 rfl
theorem dL_law_735 : decode cL_law 735 = .ok (.invokevirtual 88, 3) := decRow_at arL_law_k11 5 rfl
theorem dL_law_738 : decode cL_law 738 = .ok (.pop, 1) := decRow_at arL_law_k11 6 rfl
theorem dL_law_739 : decode cL_law 739 = .ok (.goto 679, 3) := decRow_at arL_law_k11 7 rfl
theorem dL_law_742 : decode cL_law 742 = .ok (.aload_n 1, 1) := decRow_at arL_law_k11 8 rfl
theorem dL_law_743 : decode cL_law 743 = .ok (.aload_n 0, 1) := decRow_at arL_law_k11 9 rfl
theorem dL_law_744 : decode cL_law 744 = .ok (.iload_n 3, 1) := decRow_at arL_law_k11 10 rfl
theorem dL_law_745 : decode cL_law 745 = .ok (.iconst 1, 1) := decRow_at arL_law_k11 11 rfl
theorem dL_law_746 : decode cL_law 746 = .ok (.iadd, 1) := decRow_at arL_law_k11 12 rfl
theorem dL_law_747 : decode cL_law 747 = .ok (.iaload, 1) := decRow_at arL_law_k11 13 rfl
theorem dL_law_748 : decode cL_law 748 = .ok (.invokevirtual 89, 3) := decRow_at arL_law_k11 14 rfl
theorem dL_law_751 : decode cL_law 751 = .ok (.pop, 1) := decRow_at arL_law_k11 15 rfl
theorem dL_law_752 : decode cL_law 752 = .ok (.aload_n 2, 1) := decRow_at arL_law_k11 16 rfl
theorem dL_law_753 : decode cL_law 753 = .ok (.aload_n 0, 1) := decRow_at arL_law_k11 17 rfl
theorem dL_law_754 : decode cL_law 754 = .ok (.iload_n 3, 1) := decRow_at arL_law_k11 18 rfl
theorem dL_law_755 : decode cL_law 755 = .ok (.iconst 1, 1) := decRow_at arL_law_k11 19 rfl
theorem dL_law_756 : decode cL_law 756 = .ok (.iadd, 1) := decRow_at arL_law_k11 20 rfl
theorem dL_law_757 : decode cL_law 757 = .ok (.iaload, 1) := decRow_at arL_law_k11 21 rfl
theorem dL_law_758 : decode cL_law 758 = .ok (.invokevirtual 92, 3) := decRow_at arL_law_k11 22 rfl
theorem dL_law_761 : decode cL_law 761 = .ok (.pop, 1) := decRow_at arL_law_k11 23 rfl
theorem dL_law_762 : decode cL_law 762 = .ok (.goto 656, 3) := decRow_at arL_law_k11 24 rfl
theorem dL_law_765 : decode cL_law 765 = .ok (.aload_n 1, 1) := decRow_at arL_law_k11 25 rfl
theorem dL_law_766 : decode cL_law 766 = .ok (.aload_n 0, 1) := decRow_at arL_law_k11 26 rfl
theorem dL_law_767 : decode cL_law 767 = .ok (.iload_n 3, 1) := decRow_at arL_law_k11 27 rfl
theorem dL_law_768 : decode cL_law 768 = .ok (.iconst 1, 1) := decRow_at arL_law_k11 28 rfl
theorem dL_law_769 : decode cL_law 769 = .ok (.iadd, 1) := decRow_at arL_law_k11 29 rfl
theorem dL_law_770 : decode cL_law 770 = .ok (.iaload, 1) := decRow_at arL_law_k11 30 rfl
theorem dL_law_771 : decode cL_law 771 = .ok (.invokevirtual 93, 3) := decRow_at arL_law_k11 31 rfl
theorem dL_law_774 : decode cL_law 774 = .ok (.pop, 1) := decRow_at arL_law_k11 32 rfl
theorem dL_law_775 : decode cL_law 775 = .ok (.aload_n 2, 1) := decRow_at arL_law_k11 33 rfl
theorem dL_law_776 : decode cL_law 776 = .ok (.aload_n 0, 1) := decRow_at arL_law_k11 34 rfl
theorem dL_law_777 : decode cL_law 777 = .ok (.iload_n 3, 1) := decRow_at arL_law_k11 35 rfl
theorem dL_law_778 : decode cL_law 778 = .ok (.iconst 1, 1) := decRow_at arL_law_k11 36 rfl
theorem dL_law_779 : decode cL_law 779 = .ok (.iadd, 1) := decRow_at arL_law_k11 37 rfl
theorem dL_law_780 : decode cL_law 780 = .ok (.iaload, 1) := decRow_at arL_law_k11 38 rfl
theorem dL_law_781 : decode cL_law 781 = .ok (.invokevirtual 96, 3) := decRow_at arL_law_k11 39 rfl
def lrL_law_k12 : List (Nat × Instr × Nat) := [(784, .pop, 1), (785, .goto 633, 3), (788, .aload_n 1, 1), (789, .aload_n 0, 1), (790, .iload_n 3, 1), (791, .iconst 1, 1), (792, .iadd, 1), (793, .iaload, 1), (794, .invokevirtual 97, 3), (797, .pop, 1), (798, .aload_n 2, 1), (799, .aload_n 0, 1), (800, .iload_n 3, 1), (801, .iconst 1, 1), (802, .iadd, 1), (803, .iaload, 1), (804, .invokevirtual 100, 3), (807, .pop, 1), (808, .goto 610, 3), (811, .aload_n 1, 1), (812, .aload_n 0, 1), (813, .iload_n 3, 1), (814, .iconst 1, 1), (815, .iadd, 1), (816, .iaload, 1), (817, .invokevirtual 101, 3), (820, .pop, 1), (821, .aload_n 2, 1), (822, .aload_n 0, 1), (823, .iload_n 3, 1), (824, .iconst 1, 1), (825, .iadd, 1), (826, .iaload, 1), (827, .invokevirtual 104, 3), (830, .pop, 1), (831, .goto 587, 3), (834, .aload_n 1, 1), (835, .aload_n 0, 1), (836, .iload_n 3, 1), (837, .iconst 1, 1)]
theorem arL_law_k12 : lrL_law_k12.all (fun r => decRow cL_law r.1 r.2.1 r.2.2) = true := by decide +kernel
theorem dL_law_784 : decode cL_law 784 = .ok (.pop, 1) := decRow_at arL_law_k12 0 rfl
theorem dL_law_785 : decode cL_law 785 = .ok (.goto 633, 3) := decRow_at arL_law_k12 1 rfl
theorem dL_law_788 : decode cL_law 788 = .ok (.aload_n 1, 1) := decRow_at arL_law_k12 2 rfl
theorem dL_law_789 : decode cL_law 789 = .ok (.aload_n 0, 1) := decRow_at arL_law_k12 3 rfl
theorem dL_law_790 : decode cL_law 790 = .ok (.iload_n 3, 1) := decRow_at arL_law_k12 4 rfl
theorem dL_law_791 : decode cL_law 791 = .ok (.iconst 1, 1) := decRow_at arL_law_k12 5 rfl
theorem dL_law_792 : decode cL_law 792 = .ok (.iadd, 1) := decRow_at arL_law_k12 6 rfl
theorem dL_law_793 : decode cL_law 793 = .ok (.iaload, 1) := decRow_at arL_law_k12 7 rfl
theorem dL_law_794 : decode cL_law 794 = .ok (.invokevirtual 97, 3) := decRow_at arL_law_k12 8 rfl
theorem dL_law_797 : decode cL_law 797 = .ok (.pop, 1) := decRow_at arL_law_k12 9 rfl
theorem dL_law_798 : decode cL_law 798 = .ok (.aload_n 2, 1) := decRow_at arL_law_k12 10 rfl
theorem dL_law_799 : decode cL_law 799 = .ok (.aload_n 0, 1) := decRow_at arL_law_k12 11 rfl
theorem dL_law_800 : decode cL_law 800 = .ok (.iload_n 3, 1) := decRow_at arL_law_k12 12 rfl
theorem dL_law_801 : decode cL_law 801 = .ok (.iconst 1, 1) := decRow_at arL_law_k12 13 rfl
theorem dL_law_802 : decode cL_law 802 = .ok (.iadd, 1) := decRow_at arL_law_k12 14 rfl
theorem dL_law_803 : decode cL_law 803 = .ok (.iaload, 1) := decRow_at arL_law_k12 15 rfl
theorem dL_law_804 : decode cL_law 804 = .ok (.invokevirtual 100, 3) := decRow_at arL_law_k12 16 rfl
theorem dL_law_807 : decode cL_law 807 = .ok (.pop, 1) := decRow_at arL_law_k12 17 rfl
theorem dL_law_808 : decode cL_law 808 = .ok (.goto 610, 3) := decRow_at arL_law_k12 18 rfl
theorem dL_law_811 : decode cL_law 811 = .ok (.aload_n 1, 1) := decRow_at arL_law_k12 19 rfl
theorem dL_law_812 : decode cL_law 812 = .ok (.aload_n 0, 1) := decRow_at arL_law_k12 20 rfl
theorem dL_law_813 : decode cL_law 813 = .ok (.iload_n 3, 1) := decRow_at arL_law_k12 21 rfl
theorem dL_law_814 : decode cL_law 814 = .ok (.iconst 1, 1) := decRow_at arL_law_k12 22 rfl
theorem dL_law_815 : decode cL_law 815 = .ok (.iadd, 1) := decRow_at arL_law_k12 23 rfl
theorem dL_law_816 : decode cL_law 816 = .ok (.iaload, 1) := decRow_at arL_law_k12 24 rfl
theorem dL_law_817 : decode cL_law 817 = .ok (.invokevirtual 101, 3) := decRow_at arL_law_k12 25 rfl
theorem dL_law_820 : decode cL_law 820 = .ok (.pop, 1) := decRow_at arL_law_k12 26 rfl
theorem dL_law_821 : decode cL_law 821 = .ok (.aload_n 2, 1) := decRow_at arL_law_k12 27 rfl
theorem dL_law_822 : decode cL_law 822 = .ok (.aload_n 0, 1) := decRow_at arL_law_k12 28 rfl
theorem dL_law_823 : decode cL_law 823 = .ok (.iload_n 3, 1) := decRow_at arL_law_k12 29 rfl
theorem dL_law_824 : decode cL_law 824 = .ok (.iconst 1, 1) := decRow_at arL_law_k12 30 rfl
theorem dL_law_825 : decode cL_law 825 = .ok (.iadd, 1) := decRow_at arL_law_k12 31 rfl
theorem dL_law_826 : decode cL_law 826 = .ok (.iaload, 1) := decRow_at arL_law_k12 32 rfl
theorem dL_law_827 : decode cL_law 827 = .ok (.invokevirtual 104, 3) := decRow_at arL_law_k12 33 rfl
theorem dL_law_830 : decode cL_law 830 = .ok (.pop, 1) := decRow_at arL_law_k12 34 rfl
theorem dL_law_831 : decode cL_law 831 = .ok (.goto 587, 3) := decRow_at arL_law_k12 35 rfl
theorem dL_law_834 : decode cL_law 834 = .ok (.aload_n 1, 1) := decRow_at arL_law_k12 36 rfl
theorem dL_law_835 : decode cL_law 835 = .ok (.aload_n 0, 1) := decRow_at arL_law_k12 37 rfl
theorem dL_law_836 : decode cL_law 836 = .ok (.iload_n 3, 1) := decRow_at arL_law_k12 38 rfl
theorem dL_law_837 : decode cL_law 837 = .ok (.iconst 1, 1) := decRow_at arL_law_k12 39 rfl
def lrL_law_k13 : List (Nat × Instr × Nat) := [(838, .iadd, 1), (839, .iaload, 1), (840, .invokevirtual 105, 3), (843, .pop, 1), (844, .aload_n 2, 1), (845, .aload_n 0, 1), (846, .iload_n 3, 1), (847, .iconst 1, 1), (848, .iadd, 1), (849, .iaload, 1), (850, .invokevirtual 108, 3), (853, .pop, 1), (854, .goto 564, 3), (857, .aload_n 1, 1), (858, .aload_n 0, 1), (859, .iload_n 3, 1), (860, .iconst 1, 1), (861, .iadd, 1), (862, .iaload, 1), (863, .aload_n 0, 1), (864, .iload_n 3, 1), (865, .iconst 2, 1), (866, .iadd, 1), (867, .iaload, 1), (868, .invokevirtual 109, 3), (871, .pop, 1), (872, .aload_n 2, 1), (873, .aload_n 0, 1), (874, .iload_n 3, 1), (875, .iconst 1, 1), (876, .iadd, 1), (877, .iaload, 1), (878, .aload_n 0, 1), (879, .iload_n 3, 1), (880, .iconst 2, 1), (881, .iadd, 1), (882, .iaload, 1), (883, .invokevirtual 112, 3), (886, .pop, 1), (887, .goto 531, 3)]
theorem arL_law_k13 : lrL_law_k13.all (fun r => decRow cL_law r.1 r.2.1 r.2.2) = true := by decide +kernel
theorem dL_law_838 : decode cL_law 838 = .ok (.iadd, 1) := decRow_at arL_law_k13 0 rfl
theorem dL_law_839 : decode cL_law 839 = .ok (.iaload, 1) := decRow_at arL_law_k13 1 rfl
theorem dL_law_840 : decode cL_law 840 = .ok (.invokevirtual 105, 3) := decRow_at arL_law_k13 2 rfl
theorem dL_law_843 : decode cL_law 843 = .ok (.pop, 1) := decRow_at arL_law_k13 3 rfl
theorem dL_law_844 : decode cL_law 844 = .ok (.aload_n 2, 1) := decRow_at arL_law_k13 4 rfl
theorem dL_law_845 : decode cL_law 845 = .ok (.aload_n 0, 1) := decRow_at arL_law_k13 5 rfl
theorem dL_law_846 : decode cL_law 846 = .ok (.iload_n 3, 1) := decRow_at arL_law_k13 6 rfl
theorem dL_law_847 : decode cL_law 847 = .ok (.iconst 1, 1) := decRow_at arL_law_k13 7 rfl
theorem dL_law_848 : decode cL_law 848 = .ok (.iadd, 1) := decRow_at arL_law_k13 8 rfl
theorem dL_law_849 : decode cL_law 849 = .ok (.iaload, 1) := decRow_at arL_law_k13 9 rfl
theorem dL_law_850 : decode cL_law 850 = .ok (.invokevirtual 108, 3) := decRow_at arL_law_k13 10 rfl
theorem dL_law_853 : decode cL_law 853 = .ok (.pop, 1) := decRow_at arL_law_k13 11 rfl
theorem dL_law_854 : decode cL_law 854 = .ok (.goto 564, 3) := decRow_at arL_law_k13 12 rfl
theorem dL_law_857 : decode cL_law 857 = .ok (.aload_n 1, 1) := decRow_at arL_law_k13 13 rfl
theorem dL_law_858 : decode cL_law 858 = .ok (.aload_n 0, 1) := decRow_at arL_law_k13 14 rfl
theorem dL_law_859 : decode cL_law 859 = .ok (.iload_n 3, 1) := decRow_at arL_law_k13 15 rfl
theorem dL_law_860 : decode cL_law 860 = .ok (.iconst 1, 1) := decRow_at arL_law_k13 16 rfl
theorem dL_law_861 : decode cL_law 861 = .ok (.iadd, 1) := decRow_at arL_law_k13 17 rfl
theorem dL_law_862 : decode cL_law 862 = .ok (.iaload, 1) := decRow_at arL_law_k13 18 rfl
theorem dL_law_863 : decode cL_law 863 = .ok (.aload_n 0, 1) := decRow_at arL_law_k13 19 rfl
theorem dL_law_864 : decode cL_law 864 = .ok (.iload_n 3, 1) := decRow_at arL_law_k13 20 rfl
theorem dL_law_865 : decode cL_law 865 = .ok (.iconst 2, 1) := decRow_at arL_law_k13 21 rfl
theorem dL_law_866 : decode cL_law 866 = .ok (.iadd, 1) := decRow_at arL_law_k13 22 rfl
theorem dL_law_867 : decode cL_law 867 = .ok (.iaload, 1) := decRow_at arL_law_k13 23 rfl
theorem dL_law_868 : decode cL_law 868 = .ok (.invokevirtual 109, 3) := decRow_at arL_law_k13 24 rfl
theorem dL_law_871 : decode cL_law 871 = .ok (.pop, 1) := decRow_at arL_law_k13 25 rfl
theorem dL_law_872 : decode cL_law 872 = .ok (.aload_n 2, 1) := decRow_at arL_law_k13 26 rfl
theorem dL_law_873 : decode cL_law 873 = .ok (.aload_n 0, 1) := decRow_at arL_law_k13 27 rfl
theorem dL_law_874 : decode cL_law 874 = .ok (.iload_n 3, 1) := decRow_at arL_law_k13 28 rfl
theorem dL_law_875 : decode cL_law 875 = .ok (.iconst 1, 1) := decRow_at arL_law_k13 29 rfl
theorem dL_law_876 : decode cL_law 876 = .ok (.iadd, 1) := decRow_at arL_law_k13 30 rfl
theorem dL_law_877 : decode cL_law 877 = .ok (.iaload, 1) := decRow_at arL_law_k13 31 rfl
theorem dL_law_878 : decode cL_law 878 = .ok (.aload_n 0, 1) := decRow_at arL_law_k13 32 rfl
theorem dL_law_879 : decode cL_law 879 = .ok (.iload_n 3, 1) := decRow_at arL_law_k13 33 rfl
theorem dL_law_880 : decode cL_law 880 = .ok (.iconst 2, 1) := decRow_at arL_law_k13 34 rfl
theorem dL_law_881 : decode cL_law 881 = .ok (.iadd, 1) := decRow_at arL_law_k13 35 rfl
theorem dL_law_882 : decode cL_law 882 = .ok (.iaload, 1) := decRow_at arL_law_k13 36 rfl
theorem dL_law_883 : decode cL_law 883 = .ok (.invokevirtual 112, 3) := decRow_at arL_law_k13 37 rfl
theorem dL_law_886 : decode cL_law 886 = .ok (.pop, 1) := decRow_at arL_law_k13 38 rfl
theorem dL_law_887 : decode cL_law 887 = .ok (.goto 531, 3) := decRow_at arL_law_k13 39 rfl
def lrL_law_k14 : List (Nat × Instr × Nat) := [(890, .aload_n 1, 1), (891, .aload_n 0, 1), (892, .iload_n 3, 1), (893, .iconst 1, 1), (894, .iadd, 1), (895, .iaload, 1), (896, .aload_n 0, 1), (897, .iload_n 3, 1), (898, .iconst 2, 1), (899, .iadd, 1), (900, .iaload, 1), (901, .aload_n 0, 1), (902, .iload_n 3, 1), (903, .iconst 3, 1), (904, .iadd, 1), (905, .iaload, 1), (906, .invokevirtual 113, 3), (909, .pop, 1), (910, .aload_n 2, 1), (911, .aload_n 0, 1), (912, .iload_n 3, 1), (913, .iconst 1, 1), (914, .iadd, 1), (915, .iaload, 1), (916, .aload_n 0, 1), (917, .iload_n 3, 1), (918, .iconst 2, 1), (919, .iadd, 1), (920, .iaload, 1), (921, .aload_n 0, 1), (922, .iload_n 3, 1), (923, .iconst 3, 1), (924, .iadd, 1), (925, .iaload, 1), (926, .invokevirtual 116, 3), (929, .pop, 1), (930, .goto 488, 3), (933, .aload_n 1, 1), (934, .aload_n 0, 1), (935, .iload_n 3, 1)]
theorem arL_law_k14 : lrL_law_k14.all (fun r => decRow cL_law r.1 r.2.1 r.2.2) = true := by decide +kernel
theorem dL_law_890 : decode cL_law 890 = .ok (.aload_n 1, 1) := decRow_at arL_law_k14 0 rfl
theorem dL_law_891 : decode cL_law 891 = .ok (.aload_n 0, 1) := decRow_at arL_law_k14 1 rfl
theorem dL_law_892 : decode cL_law 892 = .ok (.iload_n 3, 1) := decRow_at arL_law_k14 2 rfl
theorem dL_law_893 : decode cL_law 893 = .ok (.iconst 1, 1) := decRow_at arL_law_k14 3 rfl
theorem dL_law_894 : decode cL_law 894 = .ok (.iadd, 1) := decRow_at arL_law_k14 4 rfl
theorem dL_law_895 : decode cL_law 895 = .ok (.iaload, 1) := decRow_at arL_law_k14 5 rfl
theorem dL_law_896 : decode cL_law 896 = .ok (.aload_n 0, 1) := decRow_at arL_law_k14 6 rfl
theorem dL_law_897 : decode cL_law 897 = .ok (.iload_n 3, 1) := decRow_at arL_law_k14 7 rfl
theorem dL_law_898 : decode cL_law 898 = .ok (.iconst 2, 1) := decRow_at arL_law_k14 8 rfl
theorem dL_law_899 : decode cL_law 899 = .ok (.iadd, 1) := decRow_at arL_law_k14 9 rfl
theorem dL_law_900 : decode cL_law 900 = .ok (.iaload, 1) := decRow_at arL_law_k14 10 rfl
theorem dL_law_901 : decode cL_law 901 = .ok (.aload_n 0, 1) := decRow_at arL_law_k14 11 rfl
theorem dL_law_902 : decode cL_law 902 = .ok (.iload_n 3, 1) := decRow_at arL_law_k14 12 rfl
theorem dL_law_903 : decode cL_law 903 = .ok (.iconst 3, 1) := decRow_at arL_law_k14 13 rfl
theorem dL_law_904 : decode cL_law 904 = .ok (.iadd, 1) := decRow_at arL_law_k14 14 rfl
theorem dL_law_905 : decode cL_law 905 = .ok (.iaload, 1) := decRow_at arL_law_k14 15 rfl
theorem dL_law_906 : decode cL_law 906 = .ok (.invokevirtual 113, 3) := decRow_at arL_law_k14 16 rfl
theorem dL_law_909 : decode cL_law 909 = .ok (.pop, 1) := decRow_at arL_law_k14 17 rfl
theorem dL_law_910 : decode cL_law 910 = .ok (.aload_n 2, 1) := decRow_at arL_law_k14 18 rfl
theorem dL_law_911 : decode cL_law 911 = .ok (.aload_n 0, 1) := decRow_at arL_law_k14 19 rfl
theorem dL_law_912 : decode cL_law 912 = .ok (.iload_n 3, 1) := decRow_at arL_law_k14 20 rfl
theorem dL_law_913 : decode cL_law 913 = .ok (.iconst 1, 1) := decRow_at arL_law_k14 21 rfl
theorem dL_law_914 : decode cL_law 914 = .ok (.iadd, 1) := decRow_at arL_law_k14 22 rfl
theorem dL_law_915 : decode cL_law 915 = .ok (.iaload, 1) := decRow_at arL_law_k14 23 rfl
theorem dL_law_916 : decode cL_law 916 = .ok (.aload_n 0, 1) := decRow_at arL_law_k14 24 rfl
theorem dL_law_917 : decode cL_law 917 = .ok (.iload_n 3, 1) := decRow_at arL_law_k14 25 rfl
theorem dL_law_918 : decode cL_law 918 = .ok (.iconst 2, 1) := decRow_at arL_law_k14 26 rfl
theorem dL_law_919 : decode cL_law 919 = .ok (.iadd, 1) := decRow_at arL_law_k14 27 rfl
theorem dL_law_920 : decode cL_law 920 = .ok (.iaload, 1) := decRow_at arL_law_k14 28 rfl
theorem dL_law_921 : decode cL_law 921 = .ok (.aload_n 0, 1) := decRow_at arL_law_k14 29 rfl
theorem dL_law_922 : decode cL_law 922 = .ok (.iload_n 3, 1) := decRow_at arL_law_k14 30 rfl
theorem dL_law_923 : decode cL_law 923 = .ok (.iconst 3, 1) := decRow_at arL_law_k14 31 rfl
theorem dL_law_924 : decode cL_law 924 = .ok (.iadd, 1) := decRow_at arL_law_k14 32 rfl
theorem dL_law_925 : decode cL_law 925 = .ok (.iaload, 1) := decRow_at arL_law_k14 33 rfl
theorem dL_law_926 : decode cL_law 926 = .ok (.invokevirtual 116, 3) := decRow_at arL_law_k14 34 rfl
theorem dL_law_929 : decode cL_law 929 = .ok (.pop, 1) := decRow_at arL_law_k14 35 rfl
theorem dL_law_930 : decode cL_law 930 = .ok (.goto 488, 3) := decRow_at arL_law_k14 36 rfl
theorem dL_law_933 : decode cL_law 933 = .ok (.aload_n 1, 1) := decRow_at arL_law_k14 37 rfl
theorem dL_law_934 : decode cL_law 934 = .ok (.aload_n 0, 1) := decRow_at arL_law_k14 38 rfl
theorem dL_law_935 : decode cL_law 935 = .ok (.iload_n 3, 1) := decRow_at arL_law_k14 39 rfl
def lrL_law_k15 : List (Nat × Instr × Nat) := [(936, .iconst 1, 1), (937, .iadd, 1), (938, .iaload, 1), (939, .invokevirtual 117, 3), (942, .pop, 1), (943, .aload_n 2, 1), (944, .aload_n 0, 1), (945, .iload_n 3, 1), (946, .iconst 1, 1), (947, .iadd, 1), (948, .iaload, 1), (949, .invokevirtual 120, 3), (952, .pop, 1), (953, .goto 465, 3), (956, .aload_n 1, 1), (957, .aload_n 0, 1), (958, .iload_n 3, 1), (959, .iconst 1, 1), (960, .iadd, 1), (961, .iaload, 1), (962, .aload_n 0, 1), (963, .iload_n 3, 1), (964, .iconst 2, 1), (965, .iadd, 1), (966, .iaload, 1), (967, .invokevirtual 121, 3), (970, .pop2, 1), (971, .aload_n 2, 1), (972, .aload_n 0, 1), (973, .iload_n 3, 1), (974, .iconst 1, 1), (975, .iadd, 1), (976, .iaload, 1), (977, .aload_n 0, 1), (978, .iload_n 3, 1), (979, .iconst 2, 1), (980, .iadd, 1), (981, .iaload, 1), (982, .invokevirtual 125, 3), (985, .pop2, 1)]
theorem arL_law_k15 : lrL_law_k15.all (fun r => decRow cL_law r.1 r.2.1 r.2.2) = true := by decide +kernel
theorem dL_law_936 : decode cL_law 936 = .ok (.iconst 1, 1) := decRow_at arL_law_k15 0 rfl
theorem dL_law_937 : decode cL_law 937 = .ok (.iadd, 1) := decRow_at arL_law_k15 1 rfl
theorem dL_law_938 : decode cL_law 938 = .ok (.iaload, 1) := decRow_at arL_law_k15 2 rfl
theorem dL_law_939 : decode cL_law 939 = .ok (.invokevirtual 117, 3) := decRow_at arL_law_k15 3 rfl
theorem dL_law_942 : decode cL_law 942 = .ok (.pop, 1) := decRow_at arL_law_k15 4 rfl
theorem dL_law_943 : decode cL_law 943 = .ok (.aload_n 2, 1) := decRow_at arL_law_k15 5 rfl
theorem dL_law_944 : decode cL_law 944 = .ok (.aload_n 0, 1) := decRow_at arL_law_k15 6 rfl
theorem dL_law_945 : decode cL_law 945 = .ok (.iload_n 3, 1) := decRow_at arL_law_k15 7 rfl
theorem dL_law_946 : decode cL_law 946 = .ok (.iconst 1, 1) := decRow_at arL_law_k15 8 rfl
theorem dL_law_947 : decode cL_law 947 = .ok (.iadd, 1) := decRow_at arL_law_k15 9 rfl
theorem dL_law_948 : decode cL_law 948 = .ok (.iaload, 1) := decRow_at arL_law_k15 10 rfl
theorem dL_law_949 : decode cL_law 949 = .ok (.invokevirtual 120, 3) := decRow_at arL_law_k15 11 rfl
theorem dL_law_952 : decode cL_law 952 = .ok (.pop, 1) := decRow_at arL_law_k15 12 rfl
theorem dL_law_953 : decode cL_law 953 = .ok (.goto 465, 3) := decRow_at arL_law_k15 13 rfl
theorem dL_law_956 : decode cL_law 956 = .ok (.aload_n 1, 1) := decRow_at arL_law_k15 14 rfl
theorem dL_law_957 : decode cL_law 957 = .ok (.aload_n 0, 1) := decRow_at arL_law_k15 15 rfl
theorem dL_law_958 : decode cL_law 958 = .ok (.iload_n 3, 1) := decRow_at arL_law_k15 16 rfl
theorem dL_law_959 : decode cL_law 959 = .ok (.iconst 1, 1) := decRow_at arL_law_k15 17 rfl
theorem dL_law_960 : decode cL_law 960 = .ok (.iadd, 1) := decRow_at arL_law_k15 18 rfl
theorem dL_law_961 : decode cL_law 961 = .ok (.iaload, 1) := decRow_at arL_law_k15 19 rfl
theorem dL_law_962 : decode cL_law 962 = .ok (.aload_n 0, 1) := decRow_at arL_law_k15 20 rfl
theorem dL_law_963 : decode cL_law 963 = .ok (.iload_n 3, 1) := decRow_at arL_law_k15 21 rfl
theorem dL_law_964 : decode cL_law 964 = .ok (.iconst 2, 1) := decRow_at arL_law_k15 22 rfl
theorem dL_law_965 : decode cL_law 965 = .ok (.iadd, 1) := decRow_at arL_law_k15 23 rfl
theorem dL_law_966 : decode cL_law 966 = .ok (.iaload, 1) := decRow_at arL_law_k15 24 rfl
theorem dL_law_967 : decode cL_law 967 = .ok (.invokevirtual 121, 3) := decRow_at arL_law_k15 25 rfl
theorem dL_law_970 : decode cL_law 970 = .ok (.pop2, 1) := decRow_at arL_law_k15 26 rfl
theorem dL_law_971 : decode cL_law 971 = .ok (.aload_n 2, 1) := decRow_at arL_law_k15 27 rfl
theorem dL_law_972 : decode cL_law 972 = .ok (.aload_n 0, 1) := decRow_at arL_law_k15 28 rfl
theorem dL_law_973 : decode cL_law 973 = .ok (.iload_n 3, 1) := decRow_at arL_law_k15 29 rfl
theorem dL_law_974 : decode cL_law 974 = .ok (.iconst 1, 1) := decRow_at arL_law_k15 30 rfl
theorem dL_law_975 : decode cL_law 975 = .ok (.iadd, 1) := decRow_at arL_law_k15 31 rfl
theorem dL_law_976 : decode cL_law 976 = .ok (.iaload, 1) := decRow_at arL_law_k15 32 rfl
theorem dL_law_977 : decode cL_law 977 = .ok (.aload_n 0, 1) := decRow_at arL_law_k15 33 rfl
theorem dL_law_978 : decode cL_law 978 = .ok (.iload_n 3, 1) := decRow_at arL_law_k15 34 rfl
theorem dL_law_979 : decode cL_law 979 = .ok (.iconst 2, 1) := decRow_at arL_law_k15 35 rfl
theorem dL_law_980 : decode cL_law 980 = .ok (.iadd, 1) := decRow_at arL_law_k15 36 rfl
theorem dL_law_981 : decode cL_law 981 = .ok (.iaload, 1) := decRow_at arL_law_k15 37 rfl
theorem dL_law_982 : decode cL_law 982 = .ok (.invokevirtual 125, 3) := decRow_at arL_law_k15 38 rfl
theorem dL_law_985 : decode cL_law 985 = .ok (.pop2, 1) := decRow_at arL_law_k15 39 rfl
def lrL_law_k16 : List (Nat × Instr × Nat) := [(986, .goto 432, 3), (989, .aload_n 1, 1), (990, .aload_n 0, 1), (991, .iload_n 3, 1), (992, .iconst 1, 1), (993, .iadd, 1), (994, .iaload, 1), (995, .aload_n 0, 1), (996, .iload_n 3, 1), (997, .iconst 2, 1), (998, .iadd, 1), (999, .iaload, 1), (1000, .aload_n 0, 1), (1001, .iload_n 3, 1), (1002, .iconst 3, 1), (1003, .iadd, 1), (1004, .iaload, 1), (1005, .invokevirtual 126, 3), (1008, .pop2, 1), (1009, .aload_n 2, 1), (1010, .aload_n 0, 1), (1011, .iload_n 3, 1), (1012, .iconst 1, 1), (1013, .iadd, 1), (1014, .iaload, 1), (1015, .aload_n 0, 1), (1016, .iload_n 3, 1), (1017, .iconst 2, 1), (1018, .iadd, 1), (1019, .iaload, 1), (1020, .aload_n 0, 1), (1021, .iload_n 3, 1), (1022, .iconst 3, 1), (1023, .iadd, 1), (1024, .iaload, 1), (1025, .invokevirtual 130, 3), (1028, .pop2, 1), (1029, .goto 389, 3), (1032, .aload_n 1, 1), (1033, .aload_n 0, 1)]
theorem arL_law_k16 : lrL_law_k16.all (fun r => decRow cL_law r.1 r.2.1 r.2.2) = true := by decide +kernel
theorem dL_law_986 : decode cL_law 986 = .ok (.goto 432, 3) := decRow_at arL_law_k16 0 rfl
theorem dL_law_989 : decode cL_law 989 = .ok (.aload_n 1, 1) := decRow_at arL_law_k16 1 rfl
theorem dL_law_990 : decode cL_law 990 = .ok (.aload_n 0, 1) := decRow_at arL_law_k16 2 rfl
theorem dL_law_991 : decode cL_law 991 = .ok (.iload_n 3, 1) := decRow_at arL_law_k16 3 rfl
theorem dL_law_992 : decode cL_law 992 = .ok (.iconst 1, 1) := decRow_at arL_law_k16 4 rfl
theorem dL_law_993 : decode cL_law 993 = .ok (.iadd, 1) := decRow_at arL_law_k16 5 rfl
theorem dL_law_994 : decode cL_law 994 = .ok (.iaload, 1) := decRow_at arL_law_k16 6 rfl
theorem dL_law_995 : decode cL_law 995 = .ok (.aload_n 0, 1) := decRow_at arL_law_k16 7 rfl
theorem dL_law_996 : decode cL_law 996 = .ok (.iload_n 3, 1) := decRow_at arL_law_k16 8 rfl
theorem dL_law_997 : decode cL_law 997 = .ok (.iconst 2, 1) := decRow_at arL_law_k16 9 rfl
theorem dL_law_998 : decode cL_law 998 = .ok (.iadd, 1) := decRow_at arL_law_k16 10 rfl
theorem dL_law_999 : decode cL_law 999 = .ok (.iaload, 1) := decRow_at arL_law_k16 11 rfl
theorem dL_law_1000 : decode cL_law 1000 = .ok (.aload_n 0, 1) := decRow_at arL_law_k16 12 rfl
theorem dL_law_1001 : decode cL_law 1001 = .ok (.iload_n 3, 1) := decRow_at arL_law_k16 13 rfl
theorem dL_law_1002 : decode cL_law 1002 = .ok (.iconst 3, 1) := decRow_at arL_law_k16 14 rfl
theorem dL_law_1003 : decode cL_law 1003 = .ok (.iadd, 1) := decRow_at arL_law_k16 15 rfl
theorem dL_law_1004 : decode cL_law 1004 = .ok (.iaload, 1) := decRow_at arL_law_k16 16 rfl
theorem dL_law_1005 : decode cL_law 1005 = .ok (.invokevirtual 126, 3) := decRow_at arL_law_k16 17 rfl
theorem dL_law_1008 : decode cL_law 1008 = .ok (.pop2, 1) := decRow_at arL_law_k16 18 rfl
theorem dL_law_1009 : decode cL_law 1009 = .ok (.aload_n 2, 1) := decRow_at arL_law_k16 19 rfl
theorem dL_law_1010 : decode cL_law 1010 = .ok (.aload_n 0, 1) := decRow_at arL_law_k16 20 rfl
theorem dL_law_1011 : decode cL_law 1011 = .ok (.iload_n 3, 1) := decRow_at arL_law_k16 21 rfl
theorem dL_law_1012 : decode cL_law 1012 = .ok (.iconst 1, 1) := decRow_at arL_law_k16 22 rfl
theorem dL_law_1013 : decode cL_law 1013 = .ok (.iadd, 1) := decRow_at arL_law_k16 23 rfl
theorem dL_law_1014 : decode cL_law 1014 = .ok (.iaload, 1) := decRow_at arL_law_k16 24 rfl
theorem dL_law_1015 : decode cL_law 1015 = .ok (.aload_n 0, 1) := decRow_at arL_law_k16 25 rfl
theorem dL_law_1016 : decode cL_law 1016 = .ok (.iload_n 3, 1) := decRow_at arL_law_k16 26 rfl
theorem dL_law_1017 : decode cL_law 1017 = .ok (.iconst 2, 1) := decRow_at arL_law_k16 27 rfl
theorem dL_law_1018 : decode cL_law 1018 = .ok (.iadd, 1) := decRow_at arL_law_k16 28 rfl
theorem dL_law_1019 : decode cL_law 1019 = .ok (.iaload, 1) := decRow_at arL_law_k16 29 rfl
theorem dL_law_1020 : decode cL_law 1020 = .ok (.aload_n 0, 1) := decRow_at arL_law_k16 30 rfl
theorem dL_law_1021 : decode cL_law 1021 = .ok (.iload_n 3, 1) := decRow_at arL_law_k16 31 rfl
theorem dL_law_1022 : decode cL_law 1022 = .ok (.iconst 3, 1) := decRow_at arL_law_k16 32 rfl
theorem dL_law_1023 : decode cL_law 1023 = .ok (.iadd, 1) := decRow_at arL_law_k16 33 rfl
theorem dL_law_1024 : decode cL_law 1024 = .ok (.iaload, 1) := decRow_at arL_law_k16 34 rfl
theorem dL_law_1025 : decode cL_law 1025 = .ok (.invokevirtual 130, 3) := decRow_at arL_law_k16 35 rfl
theorem dL_law_1028 : decode cL_law 1028 = .ok (.pop2, 1) := decRow_at arL_law_k16 36 rfl
theorem dL_law_1029 : decode cL_law 1029 = .ok (.goto 389, 3) := decRow_at arL_law_k16 37 rfl
theorem dL_law_1032 : decode cL_law 1032 = .ok (.aload_n 1, 1) := decRow_at arL_law_k16 38 rfl
theorem dL_law_1033 : decode cL_law 1033 = .ok (.aload_n 0, 1) := decRow_at arL_law_k16 39 rfl
def lrL_law_k17 : List (Nat × Instr × Nat) := [(1034, .iload_n 3, 1), (1035, .iconst 1, 1), (1036, .iadd, 1), (1037, .iaload, 1), (1038, .aload_n 0, 1), (1039, .iload_n 3, 1), (1040, .iconst 2, 1), (1041, .iadd, 1), (1042, .iaload, 1), (1043, .aload_n 0, 1), (1044, .iload_n 3, 1), (1045, .iconst 3, 1), (1046, .iadd, 1), (1047, .iaload, 1), (1048, .invokevirtual 131, 3), (1051, .pop, 1), (1052, .aload_n 2, 1), (1053, .aload_n 0, 1), (1054, .iload_n 3, 1), (1055, .iconst 1, 1), (1056, .iadd, 1), (1057, .iaload, 1), (1058, .aload_n 0, 1), (1059, .iload_n 3, 1), (1060, .iconst 2, 1), (1061, .iadd, 1), (1062, .iaload, 1), (1063, .aload_n 0, 1), (1064, .iload_n 3, 1), (1065, .iconst 3, 1), (1066, .iadd, 1), (1067, .iaload, 1), (1068, .invokevirtual 134, 3), (1071, .pop, 1), (1072, .goto 346, 3), (1075, .aload_n 1, 1), (1076, .aload_n 0, 1), (1077, .iload_n 3, 1), (1078, .iconst 1, 1), (1079, .iadd, 1)]
theorem arL_law_k17 : lrL_law_k17.all (fun r => decRow cL_law r.1 r.2.1 r.2.2) = true := by decide +kernel
theorem dL_law_1034 : decode cL_law 1034 = .ok (.iload_n 3, 1) := decRow_at arL_law_k17 0 rfl
theorem dL_law_1035 : decode cL_law 1035 = .ok (.iconst 1, 1) := decRow_at arL_law_k17 1 rfl
theorem dL_law_1036 : decode cL_law 1036 = .ok (.iadd, 1) := decRow_at arL_law_k17 2 rfl
theorem dL_law_1037 : decode cL_law 1037 = .ok (.iaload, 1) := decRow_at arL_law_k17 3 rfl
theorem dL_law_1038 : decode cL_law 1038 = .ok (.aload_n 0, 1) := decRow_at arL_law_k17 4 rfl
theorem dL_law_1039 : decode cL_law 1039 = .ok (.iload_n 3, 1) := decRow_at arL_law_k17 5 rfl
theorem dL_law_1040 : decode cL_law 1040 = .ok (.iconst 2, 1) := decRow_at arL_law_k17 6 rfl
theorem dL_law_1041 : decode cL_law 1041 = .ok (.iadd, 1) := decRow_at arL_law_k17 7 rfl
theorem dL_law_1042 : decode cL_law 1042 = .ok (.iaload, 1) := decRow_at arL_law_k17 8 rfl
theorem dL_law_1043 : decode cL_law 1043 = .ok (.aload_n 0, 1) := decRow_at arL_law_k17 9 rfl
theorem dL_law_1044 : decode cL_law 1044 = .ok (.iload_n 3, 1) := decRow_at arL_law_k17 10 rfl
theorem dL_law_1045 : decode cL_law 1045 = .ok (.iconst 3, 1) := decRow_at arL_law_k17 11 rfl
theorem dL_law_1046 : decode cL_law 1046 = .ok (.iadd, 1) := decRow_at arL_law_k17 12 rfl
theorem dL_law_1047 : decode cL_law 1047 = .ok (.iaload, 1) := decRow_at arL_law_k17 13 rfl
theorem dL_law_1048 : decode cL_law 1048 = .ok (.invokevirtual 131, 3) := decRow_at arL_law_k17 14 rfl
theorem dL_law_1051 : decode cL_law 1051 = .ok (.pop, 1) := decRow_at arL_law_k17 15 rfl
theorem dL_law_1052 : decode cL_law 1052 = .ok (.aload_n 2, 1) := decRow_at arL_law_k17 16 rfl
theorem dL_law_1053 : decode cL_law 1053 = .ok (.aload_n 0, 1) := decRow_at arL_law_k17 17 rfl
theorem dL_law_1054 : decode cL_law 1054 = .ok (.iload_n 3, 1) := decRow_at arL_law_k17 18 rfl
theorem dL_law_1055 : decode cL_law 1055 = .ok (.iconst 1, 1) := decRow_at arL_law_k17 19 rfl
theorem dL_law_1056 : decode cL_law 1056 = .ok (.iadd, 1) := decRow_at arL_law_k17 20 rfl
theorem dL_law_1057 : decode cL_law 1057 = .ok (.iaload, 1) := decRow_at arL_law_k17 21 rfl
theorem dL_law_1058 : decode cL_law 1058 = .ok (.aload_n 0, 1) := decRow_at arL_law_k17 22 rfl
theorem dL_law_1059 : decode cL_law 1059 = .ok (.iload_n 3, 1) := decRow_at arL_law_k17 23 rfl
theorem dL_law_1060 : decode cL_law 1060 = .ok (.iconst 2, 1) := decRow_at arL_law_k17 24 rfl
theorem dL_law_1061 : decode cL_law 1061 = .ok (.iadd, 1) := decRow_at arL_law_k17 25 rfl
theorem dL_law_1062 : decode cL_law 1062 = .ok (.iaload, 1) := decRow_at arL_law_k17 26 rfl
theorem dL_law_1063 : decode cL_law 1063 = .ok (.aload_n 0, 1) := decRow_at arL_law_k17 27 rfl
theorem dL_law_1064 : decode cL_law 1064 = .ok (.iload_n 3, 1) := decRow_at arL_law_k17 28 rfl
theorem dL_law_1065 : decode cL_law 1065 = .ok (.iconst 3, 1) := decRow_at arL_law_k17 29 rfl
theorem dL_law_1066 : decode cL_law 1066 = .ok (.iadd, 1) := decRow_at arL_law_k17 30 rfl
theorem dL_law_1067 : decode cL_law 1067 = .ok (.iaload, 1) := decRow_at arL_law_k17 31 rfl
theorem dL_law_1068 : decode cL_law 1068 = .ok (.invokevirtual 134, 3) := decRow_at arL_law_k17 32 rfl
theorem dL_law_1071 : decode cL_law 1071 = .ok (.pop, 1) := decRow_at arL_law_k17 33 rfl
theorem dL_law_1072 : decode cL_law 1072 = .ok (.goto 346, 3) := decRow_at arL_law_k17 34 rfl
theorem dL_law_1075 : decode cL_law 1075 = .ok (.aload_n 1, 1) := decRow_at arL_law_k17 35 rfl
theorem dL_law_1076 : decode cL_law 1076 = .ok (.aload_n 0, 1) := decRow_at arL_law_k17 36 rfl
theorem dL_law_1077 : decode cL_law 1077 = .ok (.iload_n 3, 1) := decRow_at arL_law_k17 37 rfl
theorem dL_law_1078 : decode cL_law 1078 = .ok (.iconst 1, 1) := decRow_at arL_law_k17 38 rfl
theorem dL_law_1079 : decode cL_law 1079 = .ok (.iadd, 1) := decRow_at arL_law_k17 39 rfl
def lrL_law_k18 : List (Nat × Instr × Nat) := [(1080, .iaload, 1), (1081, .invokevirtual 135, 3), (1084, .pop, 1), (1085, .aload_n 2, 1), (1086, .aload_n 0, 1), (1087, .iload_n 3, 1), (1088, .iconst 1, 1), (1089, .iadd, 1), (1090, .iaload, 1), (1091, .invokevirtual 138, 3), (1094, .pop, 1), (1095, .goto 323, 3), (1098, .aload_n 1, 1), (1099, .aload_n 0, 1), (1100, .iload_n 3, 1), (1101, .iconst 1, 1), (1102, .iadd, 1), (1103, .iaload, 1), (1104, .invokevirtual 139, 3), (1107, .pop, 1), (1108, .aload_n 2, 1), (1109, .aload_n 0, 1), (1110, .iload_n 3, 1), (1111, .iconst 1, 1), (1112, .iadd, 1), (1113, .iaload, 1), (1114, .invokevirtual 142, 3), (1117, .pop, 1), (1118, .goto 300, 3), (1121, .aload_n 1, 1), (1122, .aload_n 0, 1), (1123, .iload_n 3, 1), (1124, .iconst 1, 1), (1125, .iadd, 1), (1126, .iaload, 1), (1127, .aload_n 0, 1), (1128, .iload_n 3, 1), (1129, .iconst 2, 1), (1130, .iadd, 1), (1131, .iaload, 1)]
theorem arL_law_k18 : lrL_law_k18.all (fun r => decRow cL_law r.1 r.2.1 r.2.2) = true := by decide +kernel
theorem dL_law_1080 : decode cL_law 1080 = .ok (.iaload, 1) := decRow_at arL_law_k18 0 rfl
theorem dL_law_1081 : decode cL_law 1081 = .ok (.invokevirtual 135, 3) := decRow_at arL_law_k18 1 rfl
theorem dL_law_1084 : decode cL_law 1084 = .ok (.pop, 1) := decRow_at arL_law_k18 2 rfl
theorem dL_law_1085 : decode cL_law 1085 = .ok (.aload_n 2, 1) := decRow_at arL_law_k18 3 rfl
theorem dL_law_1086 : decode cL_law 1086 = .ok (.aload_n 0, 1) := decRow_at arL_law_k18 4 rfl
theorem dL_law_1087 : decode cL_law 1087 = .ok (.iload_n 3, 1) := decRow_at arL_law_k18 5 rfl
theorem dL_law_1088 : decode cL_law 1088 = .ok (.iconst 1, 1) := decRow_at arL_law_k18 6 rfl
theorem dL_law_1089 : decode cL_law 1089 = .ok (.iadd, 1) := decRow_at arL_law_k18 7 rfl
theorem dL_law_1090 : decode cL_law 1090 = .ok (.iaload, 1) := decRow_at arL_law_k18 8 rfl
theorem dL_law_1091 : decode cL_law 1091 = .ok (.invokevirtual 138, 3) := decRow_at arL_law_k18 9 rfl
theorem dL_law_1094 : decode cL_law 1094 = .ok (.pop, 1) := decRow_at arL_law_k18 10 rfl
theorem dL_law_1095 : decode cL_law 1095 = .ok (.goto 323, 3) := decRow_at arL_law_k18 11 rfl
theorem dL_law_1098 : decode cL_law 1098 = .ok (.aload_n 1, 1) := decRow_at arL_law_k18 12 rfl
theorem dL_law_1099 : decode cL_law 1099 = .ok (.aload_n 0, 1) := decRow_at arL_law_k18 13 rfl
theorem dL_law_1100 : decode cL_law 1100 = .ok (.iload_n 3, 1) := decRow_at arL_law_k18 14 rfl
theorem dL_law_1101 : decode cL_law 1101 = .ok (.iconst 1, 1) := decRow_at arL_law_k18 15 rfl
theorem dL_law_1102 : decode cL_law 1102 = .ok (.iadd, 1) := decRow_at arL_law_k18 16 rfl
theorem dL_law_1103 : decode cL_law 1103 = .ok (.iaload, 1) := decRow_at arL_law_k18 17 rfl
theorem dL_law_1104 : decode cL_law 1104 = .ok (.invokevirtual 139, 3) := decRow_at arL_law_k18 18 rfl
theorem dL_law_1107 : decode cL_law 1107 = .ok (.pop, 1) := decRow_at arL_law_k18 19 rfl
theorem dL_law_1108 : decode cL_law 1108 = .ok (.aload_n 2, 1) := decRow_at arL_law_k18 20 rfl
theorem dL_law_1109 : decode cL_law 1109 = .ok (.aload_n 0, 1) := decRow_at arL_law_k18 21 rfl
theorem dL_law_1110 : decode cL_law 1110 = .ok (.iload_n 3, 1) := decRow_at arL_law_k18 22 rfl
theorem dL_law_1111 : decode cL_law 1111 = .ok (.iconst 1, 1) := decRow_at arL_law_k18 23 rfl
theorem dL_law_1112 : decode cL_law 1112 = .ok (.iadd, 1) := decRow_at arL_law_k18 24 rfl
theorem dL_law_1113 : decode cL_law 1113 = .ok (.iaload, 1) := decRow_at arL_law_k18 25 rfl
theorem dL_law_1114 : decode cL_law 1114 = .ok (.invokevirtual 142, 3) := decRow_at arL_law_k18 26 rfl
theorem dL_law_1117 : decode cL_law 1117 = .ok (.pop, 1) := decRow_at arL_law_k18 27 rfl
theorem dL_law_1118 : decode cL_law 1118 = .ok (.goto 300, 3) := decRow_at arL_law_k18 28 rfl
theorem dL_law_1121 : decode cL_law 1121 = .ok (.aload_n 1, 1) := decRow_at arL_law_k18 29 rfl
theorem dL_law_1122 : decode cL_law 1122 = .ok (.aload_n 0, 1) := decRow_at arL_law_k18 30 rfl
theorem dL_law_1123 : decode cL_law 1123 = .ok (.iload_n 3, 1) := decRow_at arL_law_k18 31 rfl
theorem dL_law_1124 : decode cL_law 1124 = .ok (.iconst 1, 1) := decRow_at arL_law_k18 32 rfl
theorem dL_law_1125 : decode cL_law 1125 = .ok (.iadd, 1) := decRow_at arL_law_k18 33 rfl
theorem dL_law_1126 : decode cL_law 1126 = .ok (.iaload, 1) := decRow_at arL_law_k18 34 rfl
theorem dL_law_1127 : decode cL_law 1127 = .ok (.aload_n 0, 1) := decRow_at arL_law_k18 35 rfl
theorem dL_law_1128 : decode cL_law 1128 = .ok (.iload_n 3, 1) := decRow_at arL_law_k18 36 rfl
theorem dL_law_1129 : decode cL_law 1129 = .ok (.iconst 2, 1) := decRow_at arL_law_k18 37 rfl
theorem dL_law_1130 : decode cL_law 1130 = .ok (.iadd, 1) := decRow_at arL_law_k18 38 rfl
theorem dL_law_1131 : decode cL_law 1131 = .ok (.iaload, 1) := decRow_at arL_law_k18 39 rfl
def lrL_law_k19 : List (Nat × Instr × Nat) := [(1132, .invokevirtual 143, 3), (1135, .pop, 1), (1136, .aload_n 2, 1), (1137, .aload_n 0, 1), (1138, .iload_n 3, 1), (1139, .iconst 1, 1), (1140, .iadd, 1), (1141, .iaload, 1), (1142, .aload_n 0, 1), (1143, .iload_n 3, 1), (1144, .iconst 2, 1), (1145, .iadd, 1), (1146, .iaload, 1), (1147, .invokevirtual 146, 3), (1150, .pop, 1), (1151, .goto 267, 3), (1154, .aload_n 1, 1), (1155, .aload_n 0, 1), (1156, .iload_n 3, 1), (1157, .iconst 1, 1), (1158, .iadd, 1), (1159, .iaload, 1), (1160, .aload_n 0, 1), (1161, .iload_n 3, 1), (1162, .iconst 2, 1), (1163, .iadd, 1), (1164, .iaload, 1), (1165, .aload_n 0, 1), (1166, .iload_n 3, 1), (1167, .iconst 3, 1), (1168, .iadd, 1), (1169, .iaload, 1), (1170, .invokevirtual 147, 3), (1173, .pop, 1), (1174, .aload_n 2, 1), (1175, .aload_n 0, 1), (1176, .iload_n 3, 1), (1177, .iconst 1, 1), (1178, .iadd, 1), (1179, .iaload, 1)]
theorem arL_law_k19 : lrL_law_k19.all (fun r => decRow cL_law r.1 r.2.1 r.2.2) = true := by decide +kernel
theorem dL_law_1132 : decode cL_law 1132 = .ok (.invokevirtual 143, 3) := decRow_at arL_law_k19 0 rfl
theorem dL_law_1135 : decode cL_law 1135 = .ok (.pop, 1) := decRow_at arL_law_k19 1 rfl
theorem dL_law_1136 : decode cL_law 1136 = .ok (.aload_n 2, 1) := decRow_at arL_law_k19 2 rfl
theorem dL_law_1137 : decode cL_law 1137 = .ok (.aload_n 0, 1) := decRow_at arL_law_k19 3 rfl
theorem dL_law_1138 : decode cL_law 1138 = .ok (.iload_n 3, 1) := decRow_at arL_law_k19 4 rfl
theorem dL_law_1139 : decode cL_law 1139 = .ok (.iconst 1, 1) := decRow_at arL_law_k19 5 rfl
theorem dL_law_1140 : decode cL_law 1140 = .ok (.iadd, 1) := decRow_at arL_law_k19 6 rfl
theorem dL_law_1141 : decode cL_law 1141 = .ok (.iaload, 1) := decRow_at arL_law_k19 7 rfl
theorem dL_law_1142 : decode cL_law 1142 = .ok (.aload_n 0, 1) := decRow_at arL_law_k19 8 rfl
theorem dL_law_1143 : decode cL_law 1143 = .ok (.iload_n 3, 1) := decRow_at arL_law_k19 9 rfl
theorem dL_law_1144 : decode cL_law 1144 = .ok (.iconst 2, 1) := decRow_at arL_law_k19 10 rfl
theorem dL_law_1145 : decode cL_law 1145 = .ok (.iadd, 1) := decRow_at arL_law_k19 11 rfl
theorem dL_law_1146 : decode cL_law 1146 = .ok (.iaload, 1) := decRow_at arL_law_k19 12 rfl
theorem dL_law_1147 : decode cL_law 1147 = .ok (.invokevirtual 146, 3) := decRow_at arL_law_k19 13 rfl
theorem dL_law_1150 : decode cL_law 1150 = .ok (.pop, 1) := decRow_at arL_law_k19 14 rfl
theorem dL_law_1151 : decode cL_law 1151 = .ok (.goto 267, 3) := decRow_at arL_law_k19 15 rfl
theorem dL_law_1154 : decode cL_law 1154 = .ok (.aload_n 1, 1) := decRow_at arL_law_k19 16 rfl
theorem dL_law_1155 : decode cL_law 1155 = .ok (.aload_n 0, 1) := decRow_at arL_law_k19 17 rfl
theorem dL_law_1156 : decode cL_law 1156 = .ok (.iload_n 3, 1) := decRow_at arL_law_k19 18 rfl
theorem dL_law_1157 : decode cL_law 1157 = .ok (.iconst 1, 1) := decRow_at arL_law_k19 19 rfl
theorem dL_law_1158 : decode cL_law 1158 = .ok (.iadd, 1) := decRow_at arL_law_k19 20 rfl
theorem dL_law_1159 : decode cL_law 1159 = .ok (.iaload, 1) := decRow_at arL_law_k19 21 rfl
theorem dL_law_1160 : decode cL_law 1160 = .ok (.aload_n 0, 1) := decRow_at arL_law_k19 22 rfl
theorem dL_law_1161 : decode cL_law 1161 = .ok (.iload_n 3, 1) := decRow_at arL_law_k19 23 rfl
theorem dL_law_1162 : decode cL_law 1162 = .ok (.iconst 2, 1) := decRow_at arL_law_k19 24 rfl
theorem dL_law_1163 : decode cL_law 1163 = .ok (.iadd, 1) := decRow_at arL_law_k19 25 rfl
theorem dL_law_1164 : decode cL_law 1164 = .ok (.iaload, 1) := decRow_at arL_law_k19 26 rfl
theorem dL_law_1165 : decode cL_law 1165 = .ok (.aload_n 0, 1) := decRow_at arL_law_k19 27 rfl
theorem dL_law_1166 : decode cL_law 1166 = .ok (.iload_n 3, 1) := decRow_at arL_law_k19 28 rfl
theorem dL_law_1167 : decode cL_law 1167 = .ok (.iconst 3, 1) := decRow_at arL_law_k19 29 rfl
theorem dL_law_1168 : decode cL_law 1168 = .ok (.iadd, 1) := decRow_at arL_law_k19 30 rfl
theorem dL_law_1169 : decode cL_law 1169 = .ok (.iaload, 1) := decRow_at arL_law_k19 31 rfl
theorem dL_law_1170 : decode cL_law 1170 = .ok (.invokevirtual 147, 3) := decRow_at arL_law_k19 32 rfl
theorem dL_law_1173 : decode cL_law 1173 = .ok (.pop, 1) := decRow_at arL_law_k19 33 rfl
theorem dL_law_1174 : decode cL_law 1174 = .ok (.aload_n 2, 1) := decRow_at arL_law_k19 34 rfl
theorem dL_law_1175 : decode cL_law 1175 = .ok (.aload_n 0, 1) := decRow_at arL_law_k19 35 rfl
theorem dL_law_1176 : decode cL_law 1176 = .ok (.iload_n 3, 1) := decRow_at arL_law_k19 36 rfl
theorem dL_law_1177 : decode cL_law 1177 = .ok (.iconst 1, 1) := decRow_at arL_law_k19 37 rfl
theorem dL_law_1178 : decode cL_law 1178 = .ok (.iadd, 1) := decRow_at arL_law_k19 38 rfl
theorem dL_law_1179 : decode cL_law 1179 = .ok (.iaload, 1) := decRow_at arL_law_k19 39 rfl
def lrL_law_k20 : List (Nat × Instr × Nat) := [(1180, .aload_n 0, 1), (1181, .iload_n 3, 1), (1182, .iconst 2, 1), (1183, .iadd, 1), (1184, .iaload, 1), (1185, .aload_n 0, 1), (1186, .iload_n 3, 1), (1187, .iconst 3, 1), (1188, .iadd, 1), (1189, .iaload, 1), (1190, .invokevirtual 150, 3), (1193, .pop, 1), (1194, .goto 224, 3), (1197, .aload_n 1, 1), (1198, .aload_n 0, 1), (1199, .iload_n 3, 1), (1200, .iconst 1, 1), (1201, .iadd, 1), (1202, .iaload, 1), (1203, .invokevirtual 151, 3), (1206, .pop, 1), (1207, .aload_n 2, 1), (1208, .aload_n 0, 1), (1209, .iload_n 3, 1), (1210, .iconst 1, 1), (1211, .iadd, 1), (1212, .iaload, 1), (1213, .invokevirtual 154, 3), (1216, .pop, 1), (1217, .goto 201, 3), (1220, .aload_n 1, 1), (1221, .aload_n 0, 1), (1222, .iload_n 3, 1), (1223, .iconst 1, 1), (1224, .iadd, 1), (1225, .iaload, 1), (1226, .invokevirtual 155, 3), (1229, .pop, 1), (1230, .aload_n 2, 1), (1231, .aload_n 0, 1)]
theorem arL_law_k20 : lrL_law_k20.all (fun r => decRow cL_law r.1 r.2.1 r.2.2) = true := by decide +kernel
theorem dL_law_1180 : decode cL_law 1180 = .ok (.aload_n 0, 1) := decRow_at arL_law_k20 0 rfl
theorem dL_law_1181 : decode cL_law 1181 = .ok (.iload_n 3, 1) := decRow_at arL_law_k20 1 rfl
theorem dL_law_1182 : decode cL_law 1182 = .ok (.iconst 2, 1) := decRow_at arL_law_k20 2 rfl
theorem dL_law_1183 : decode cL_law 1183 = .ok (.iadd, 1) := decRow_at arL_law_k20 3 rfl
theorem dL_law_1184 : decode cL_law 1184 = .ok (.iaload, 1) := decRow_at arL_law_k20 4 rfl
theorem dL_law_1185 : decode cL_law 1185 = .ok (.aload_n 0, 1) := decRow_at arL_law_k20 5 rfl
theorem dL_law_1186 : decode cL_law 1186 = .ok (.iload_n 3, 1) := decRow_at arL_law_k20 6 rfl
theorem dL_law_1187 : decode cL_law 1187 = .ok (.iconst 3, 1) := decRow_at arL_law_k20 7 rfl
theorem dL_law_1188 : decode cL_law 1188 = .ok (.iadd, 1) := decRow_at arL_law_k20 8 rfl
theorem dL_law_1189 : decode cL_law 1189 = .ok (.iaload, 1) := decRow_at arL_law_k20 9 rfl
theorem dL_law_1190 : decode cL_law 1190 = .ok (.invokevirtual 150, 3) := decRow_at arL_law_k20 10 rfl
theorem dL_law_1193 : decode cL_law 1193 = .ok (.pop, 1) := decRow_at arL_law_k20 11 rfl
theorem dL_law_1194 : decode cL_law 1194 = .ok (.goto 224, 3) := decRow_at arL_law_k20 12 rfl
theorem dL_law_1197 : decode cL_law 1197 = .ok (.aload_n 1, 1) := decRow_at arL_law_k20 13 rfl
theorem dL_law_1198 : decode cL_law 1198 = .ok (.aload_n 0, 1) := decRow_at arL_law_k20 14 rfl
theorem dL_law_1199 : decode cL_law 1199 = .ok (.iload_n 3, 1) := decRow_at arL_law_k20 15 rfl
theorem dL_law_1200 : decode cL_law 1200 = .ok (.iconst 1, 1) := decRow_at arL_law_k20 16 rfl
theorem dL_law_1201 : decode cL_law 1201 = .ok (.iadd, 1) := decRow_at arL_law_k20 17 rfl
theorem dL_law_1202 : decode cL_law 1202 = .ok (.iaload, 1) := decRow_at arL_law_k20 18 rfl
theorem dL_law_1203 : decode cL_law 1203 = .ok (.invokevirtual 151, 3) := decRow_at arL_law_k20 19 rfl
theorem dL_law_1206 : decode cL_law 1206 = .ok (.pop, 1) := decRow_at arL_law_k20 20 rfl
theorem dL_law_1207 : decode cL_law 1207 = .ok (.aload_n 2, 1) := decRow_at arL_law_k20 21 rfl
theorem dL_law_1208 : decode cL_law 1208 = .ok (.aload_n 0, 1) := decRow_at arL_law_k20 22 rfl
theorem dL_law_1209 : decode cL_law 1209 = .ok (.iload_n 3, 1) := decRow_at arL_law_k20 23 rfl
theorem dL_law_1210 : decode cL_law 1210 = .ok (.iconst 1, 1) := decRow_at arL_law_k20 24 rfl
theorem dL_law_1211 : decode cL_law 1211 = .ok (.iadd, 1) := decRow_at arL_law_k20 25 rfl
theorem dL_law_1212 : decode cL_law 1212 = .ok (.iaload, 1) := decRow_at arL_law_k20 26 rfl
theorem dL_law_1213 : decode cL_law 1213 = .ok (.invokevirtual 154, 3) := decRow_at arL_law_k20 27 rfl
theorem dL_law_1216 : decode cL_law 1216 = .ok (.pop, 1) := decRow_at arL_law_k20 28 rfl
theorem dL_law_1217 : decode cL_law 1217 = .ok (.goto 201, 3) := decRow_at arL_law_k20 29 rfl
theorem dL_law_1220 : decode cL_law 1220 = .ok (.aload_n 1, 1) := decRow_at arL_law_k20 30 rfl
theorem dL_law_1221 : decode cL_law 1221 = .ok (.aload_n 0, 1) := decRow_at arL_law_k20 31 rfl
theorem dL_law_1222 : decode cL_law 1222 = .ok (.iload_n 3, 1) := decRow_at arL_law_k20 32 rfl
theorem dL_law_1223 : decode cL_law 1223 = .ok (.iconst 1, 1) := decRow_at arL_law_k20 33 rfl
theorem dL_law_1224 : decode cL_law 1224 = .ok (.iadd, 1) := decRow_at arL_law_k20 34 rfl
theorem dL_law_1225 : decode cL_law 1225 = .ok (.iaload, 1) := decRow_at arL_law_k20 35 rfl
theorem dL_law_1226 : decode cL_law 1226 = .ok (.invokevirtual 155, 3) := decRow_at arL_law_k20 36 rfl
theorem dL_law_1229 : decode cL_law 1229 = .ok (.pop, 1) := decRow_at arL_law_k20 37 rfl
theorem dL_law_1230 : decode cL_law 1230 = .ok (.aload_n 2, 1) := decRow_at arL_law_k20 38 rfl
theorem dL_law_1231 : decode cL_law 1231 = .ok (.aload_n 0, 1) := decRow_at arL_law_k20 39 rfl
def lrL_law_k21 : List (Nat × Instr × Nat) := [(1232, .iload_n 3, 1), (1233, .iconst 1, 1), (1234, .iadd, 1), (1235, .iaload, 1), (1236, .invokevirtual 158, 3), (1239, .pop, 1), (1240, .goto 178, 3), (1243, .aload_n 1, 1), (1244, .aload_n 0, 1), (1245, .iload_n 3, 1), (1246, .iconst 1, 1), (1247, .iadd, 1), (1248, .iaload, 1), (1249, .aload_n 0, 1), (1250, .iload_n 3, 1), (1251, .iconst 2, 1), (1252, .iadd, 1), (1253, .iaload, 1), (1254, .aload_n 0, 1), (1255, .iload_n 3, 1), (1256, .iconst 3, 1), (1257, .iadd, 1), (1258, .iaload, 1), (1259, .invokevirtual 159, 3), (1262, .pop, 1), (1263, .aload_n 2, 1), (1264, .aload_n 0, 1), (1265, .iload_n 3, 1), (1266, .iconst 1, 1), (1267, .iadd, 1), (1268, .iaload, 1), (1269, .aload_n 0, 1), (1270, .iload_n 3, 1), (1271, .iconst 2, 1), (1272, .iadd, 1), (1273, .iaload, 1), (1274, .aload_n 0, 1), (1275, .iload_n 3, 1), (1276, .iconst 3, 1), (1277, .iadd, 1)]
theorem arL_law_k21 : lrL_law_k21.all (fun r => decRow cL_law r.1 r.2.1 r.2.2) = true := by decide +kernel
theorem dL_law_1232 : decode cL_law 1232 = .ok (.iload_n 3, 1) := decRow_at arL_law_k21 0 rfl
theorem dL_law_1233 : decode cL_law 1233 = .ok (.iconst 1, 1) := decRow_at arL_law_k21 1 rfl
theorem dL_law_1234 : decode cL_law 1234 = .ok (.iadd, 1) := decRow_at arL_law_k21 2 rfl
theorem dL_law_1235 : decode cL_law 1235 = .ok (.iaload, 1) := decRow_at arL_law_k21 3 rfl
theorem dL_law_1236 : decode cL_law 1236 = .ok (.invokevirtual 158, 3) := decRow_at arL_law_k21 4 rfl
theorem dL_law_1239 : decode cL_law 1239 = .ok (.pop, 1) := decRow_at arL_law_k21 5 rfl
theorem dL_law_1240 : decode cL_law 1240 = .ok (.goto 178, 3) := decRow_at arL_law_k21 6 rfl
theorem dL_law_1243 : decode cL_law 1243 = .ok (.aload_n 1, 1) := decRow_at arL_law_k21 7 rfl
theorem dL_law_1244 : decode cL_law 1244 = .ok (.aload_n 0, 1) := decRow_at arL_law_k21 8 rfl
theorem dL_law_1245 : decode cL_law 1245 = .ok (.iload_n 3, 1) := decRow_at arL_law_k21 9 rfl
theorem dL_law_1246 : decode cL_law 1246 = .ok (.iconst 1, 1) := decRow_at arL_law_k21 10 rfl
theorem dL_law_1247 : decode cL_law 1247 = .ok (.iadd, 1) := decRow_at arL_law_k21 11 rfl
theorem dL_law_1248 : decode cL_law 1248 = .ok (.iaload, 1) := decRow_at arL_law_k21 12 rfl
theorem dL_law_1249 : decode cL_law 1249 = .ok (.aload_n 0, 1) := decRow_at arL_law_k21 13 rfl
theorem dL_law_1250 : decode cL_law 1250 = .ok (.iload_n 3, 1) := decRow_at arL_law_k21 14 rfl
theorem dL_law_1251 : decode cL_law 1251 = .ok (.iconst 2, 1) := decRow_at arL_law_k21 15 rfl
theorem dL_law_1252 : decode cL_law 1252 = .ok (.iadd, 1) := decRow_at arL_law_k21 16 rfl
theorem dL_law_1253 : decode cL_law 1253 = .ok (.iaload, 1) := decRow_at arL_law_k21 17 rfl
theorem dL_law_1254 : decode cL_law 1254 = .ok (.aload_n 0, 1) := decRow_at arL_law_k21 18 rfl
theorem dL_law_1255 : decode cL_law 1255 = .ok (.iload_n 3, 1) := decRow_at arL_law_k21 19 rfl
theorem dL_law_1256 : decode cL_law 1256 = .ok (.iconst 3, 1) := decRow_at arL_law_k21 20 rfl
theorem dL_law_1257 : decode cL_law 1257 = .ok (.iadd, 1) := decRow_at arL_law_k21 21 rfl
theorem dL_law_1258 : decode cL_law 1258 = .ok (.iaload, 1) := decRow_at arL_law_k21 22 rfl
theorem dL_law_1259 : decode cL_law 1259 = .ok (.invokevirtual 159, 3) := decRow_at arL_law_k21 23 rfl
theorem dL_law_1262 : decode cL_law 1262 = .ok (.pop, 1) := decRow_at arL_law_k21 24 rfl
theorem dL_law_1263 : decode cL_law 1263 = .ok (.aload_n 2, 1) := decRow_at arL_law_k21 25 rfl
theorem dL_law_1264 : decode cL_law 1264 = .ok (.aload_n 0, 1) := decRow_at arL_law_k21 26 rfl
theorem dL_law_1265 : decode cL_law 1265 = .ok (.iload_n 3, 1) := decRow_at arL_law_k21 27 rfl
theorem dL_law_1266 : decode cL_law 1266 = .ok (.iconst 1, 1) := decRow_at arL_law_k21 28 rfl
theorem dL_law_1267 : decode cL_law 1267 = .ok (.iadd, 1) := decRow_at arL_law_k21 29 rfl
theorem dL_law_1268 : decode cL_law 1268 = .ok (.iaload, 1) := decRow_at arL_law_k21 30 rfl
theorem dL_law_1269 : decode cL_law 1269 = .ok (.aload_n 0, 1) := decRow_at arL_law_k21 31 rfl
theorem dL_law_1270 : decode cL_law 1270 = .ok (.iload_n 3, 1) := decRow_at arL_law_k21 32 rfl
theorem dL_law_1271 : decode cL_law 1271 = .ok (.iconst 2, 1) := decRow_at arL_law_k21 33 rfl
theorem dL_law_1272 : decode cL_law 1272 = .ok (.iadd, 1) := decRow_at arL_law_k21 34 rfl
theorem dL_law_1273 : decode cL_law 1273 = .ok (.iaload, 1) := decRow_at arL_law_k21 35 rfl
theorem dL_law_1274 : decode cL_law 1274 = .ok (.aload_n 0, 1) := decRow_at arL_law_k21 36 rfl
theorem dL_law_1275 : decode cL_law 1275 = .ok (.iload_n 3, 1) := decRow_at arL_law_k21 37 rfl
theorem dL_law_1276 : decode cL_law 1276 = .ok (.iconst 3, 1) := decRow_at arL_law_k21 38 rfl
theorem dL_law_1277 : decode cL_law 1277 = .ok (.iadd, 1) := decRow_at arL_law_k21 39 rfl
def lrL_law_k22 : List (Nat × Instr × Nat) := [(1278, .iaload, 1), (1279, .invokevirtual 162, 3), (1282, .pop, 1), (1283, .goto 135, 3), (1286, .aload_n 1, 1), (1287, .aload_n 0, 1), (1288, .iload_n 3, 1), (1289, .iconst 1, 1), (1290, .iadd, 1), (1291, .iaload, 1), (1292, .aload_n 0, 1), (1293, .iload_n 3, 1), (1294, .iconst 2, 1), (1295, .iadd, 1), (1296, .iaload, 1), (1297, .aload_n 0, 1), (1298, .iload_n 3, 1), (1299, .iconst 3, 1), (1300, .iadd, 1), (1301, .iaload, 1), (1302, .invokevirtual 163, 3), (1305, .pop, 1), (1306, .aload_n 2, 1), (1307, .aload_n 0, 1), (1308, .iload_n 3, 1), (1309, .iconst 1, 1), (1310, .iadd, 1), (1311, .iaload, 1), (1312, .aload_n 0, 1), (1313, .iload_n 3, 1), (1314, .iconst 2, 1), (1315, .iadd, 1), (1316, .iaload, 1), (1317, .aload_n 0, 1), (1318, .iload_n 3, 1), (1319, .iconst 3, 1), (1320, .iadd, 1), (1321, .iaload, 1), (1322, .invokevirtual 166, 3), (1325, .pop, 1)]
theorem arL_law_k22 : lrL_law_k22.all (fun r => decRow cL_law r.1 r.2.1 r.2.2) = true := by decide +kernel
theorem dL_law_1278 : decode cL_law 1278 = .ok (.iaload, 1) := decRow_at arL_law_k22 0 rfl
theorem dL_law_1279 : decode cL_law 1279 = .ok (.invokevirtual 162, 3) := decRow_at arL_law_k22 1 rfl
theorem dL_law_1282 : decode cL_law 1282 = .ok (.pop, 1) := decRow_at arL_law_k22 2 rfl
theorem dL_law_1283 : decode cL_law 1283 = .ok (.goto 135, 3) := decRow_at arL_law_k22 3 rfl
theorem dL_law_1286 : decode cL_law 1286 = .ok (.aload_n 1, 1) := decRow_at arL_law_k22 4 rfl
theorem dL_law_1287 : decode cL_law 1287 = .ok (.aload_n 0, 1) := decRow_at arL_law_k22 5 rfl
theorem dL_law_1288 : decode cL_law 1288 = .ok (.iload_n 3, 1) := decRow_at arL_law_k22 6 rfl
theorem dL_law_1289 : decode cL_law 1289 = .ok (.iconst 1, 1) := decRow_at arL_law_k22 7 rfl
theorem dL_law_1290 : decode cL_law 1290 = .ok (.iadd, 1) := decRow_at arL_law_k22 8 rfl
theorem dL_law_1291 : decode cL_law 1291 = .ok (.iaload, 1) := decRow_at arL_law_k22 9 rfl
theorem dL_law_1292 : decode cL_law 1292 = .ok (.aload_n 0, 1) := decRow_at arL_law_k22 10 rfl
theorem dL_law_1293 : decode cL_law 1293 = .ok (.iload_n 3, 1) := decRow_at arL_law_k22 11 rfl
theorem dL_law_1294 : decode cL_law 1294 = .ok (.iconst 2, 1) := decRow_at arL_law_k22 12 rfl
theorem dL_law_1295 : decode cL_law 1295 = .ok (.iadd, 1) := decRow_at arL_law_k22 13 rfl
theorem dL_law_1296 : decode cL_law 1296 = .ok (.iaload, 1) := decRow_at arL_law_k22 14 rfl
theorem dL_law_1297 : decode cL_law 1297 = .ok (.aload_n 0, 1) := decRow_at arL_law_k22 15 rfl
theorem dL_law_1298 : decode cL_law 1298 = .ok (.iload_n 3, 1) := decRow_at arL_law_k22 16 rfl
theorem dL_law_1299 : decode cL_law 1299 = .ok (.iconst 3, 1) := decRow_at arL_law_k22 17 rfl
theorem dL_law_1300 : decode cL_law 1300 = .ok (.iadd, 1) := decRow_at arL_law_k22 18 rfl
theorem dL_law_1301 : decode cL_law 1301 = .ok (.iaload, 1) := decRow_at arL_law_k22 19 rfl
theorem dL_law_1302 : decode cL_law 1302 = .ok (.invokevirtual 163, 3) := decRow_at arL_law_k22 20 rfl
theorem dL_law_1305 : decode cL_law 1305 = .ok (.pop, 1) := decRow_at arL_law_k22 21 rfl
theorem dL_law_1306 : decode cL_law 1306 = .ok (.aload_n 2, 1) := decRow_at arL_law_k22 22 rfl
theorem dL_law_1307 : decode cL_law 1307 = .ok (.aload_n 0, 1) := decRow_at arL_law_k22 23 rfl
theorem dL_law_1308 : decode cL_law 1308 = .ok (.iload_n 3, 1) := decRow_at arL_law_k22 24 rfl
theorem dL_law_1309 : decode cL_law 1309 = .ok (.iconst 1, 1) := decRow_at arL_law_k22 25 rfl
theorem dL_law_1310 : decode cL_law 1310 = .ok (.iadd, 1) := decRow_at arL_law_k22 26 rfl
theorem dL_law_1311 : decode cL_law 1311 = .ok (.iaload, 1) := decRow_at arL_law_k22 27 rfl
theorem dL_law_1312 : decode cL_law 1312 = .ok (.aload_n 0, 1) := decRow_at arL_law_k22 28 rfl
theorem dL_law_1313 : decode cL_law 1313 = .ok (.iload_n 3, 1) := decRow_at arL_law_k22 29 rfl
theorem dL_law_1314 : decode cL_law 1314 = .ok (.iconst 2, 1) := decRow_at arL_law_k22 30 rfl
theorem dL_law_1315 : decode cL_law 1315 = .ok (.iadd, 1) := decRow_at arL_law_k22 31 rfl
theorem dL_law_1316 : decode cL_law 1316 = .ok (.iaload, 1) := decRow_at arL_law_k22 32 rfl
theorem dL_law_1317 : decode cL_law 1317 = .ok (.aload_n 0, 1) := decRow_at arL_law_k22 33 rfl
theorem dL_law_1318 : decode cL_law 1318 = .ok (.iload_n 3, 1) := decRow_at arL_law_k22 34 rfl
theorem dL_law_1319 : decode cL_law 1319 = .ok (.iconst 3, 1) := decRow_at arL_law_k22 35 rfl
theorem dL_law_1320 : decode cL_law 1320 = .ok (.iadd, 1) := decRow_at arL_law_k22 36 rfl
theorem dL_law_1321 : decode cL_law 1321 = .ok (.iaload, 1) := decRow_at arL_law_k22 37 rfl
theorem dL_law_1322 : decode cL_law 1322 = .ok (.invokevirtual 166, 3) := decRow_at arL_law_k22 38 rfl
theorem dL_law_1325 : decode cL_law 1325 = .ok (.pop, 1) := decRow_at arL_law_k22 39 rfl
def lrL_law_k23 : List (Nat × Instr × Nat) := [(1326, .goto 92, 3), (1329, .aload_n 1, 1), (1330, .aload_n 0, 1), (1331, .iload_n 3, 1), (1332, .iconst 1, 1), (1333, .iadd, 1), (1334, .iaload, 1), (1335, .aload_n 0, 1), (1336, .iload_n 3, 1), (1337, .iconst 2, 1), (1338, .iadd, 1), (1339, .iaload, 1), (1340, .aload_n 0, 1), (1341, .iload_n 3, 1), (1342, .iconst 3, 1), (1343, .iadd, 1), (1344, .iaload, 1), (1345, .aload_n 0, 1), (1346, .iload_n 3, 1), (1347, .iconst 4, 1), (1348, .iadd, 1), (1349, .iaload, 1), (1350, .invokevirtual 167, 3), (1353, .pop, 1), (1354, .aload_n 2, 1), (1355, .aload_n 0, 1), (1356, .iload_n 3, 1), (1357, .iconst 1, 1), (1358, .iadd, 1), (1359, .iaload, 1), (1360, .aload_n 0, 1), (1361, .iload_n 3, 1), (1362, .iconst 2, 1), (1363, .iadd, 1), (1364, .iaload, 1), (1365, .aload_n 0, 1), (1366, .iload_n 3, 1), (1367, .iconst 3, 1), (1368, .iadd, 1), (1369, .iaload, 1)]
theorem arL_law_k23 : lrL_law_k23.all (fun r => decRow cL_law r.1 r.2.1 r.2.2) = true := by decide +kernel
theorem dL_law_1326 : decode cL_law 1326 = .ok (.goto 92, 3) := decRow_at arL_law_k23 0 rfl
theorem dL_law_1329 : decode cL_law 1329 = .ok (.aload_n 1, 1) := decRow_at arL_law_k23 1 rfl
theorem dL_law_1330 : decode cL_law 1330 = .ok (.aload_n 0, 1) := decRow_at arL_law_k23 2 rfl
theorem dL_law_1331 : decode cL_law 1331 = .ok (.iload_n 3, 1) := decRow_at arL_law_k23 3 rfl
theorem dL_law_1332 : decode cL_law 1332 = .ok (.iconst 1, 1) := decRow_at arL_law_k23 4 rfl
theorem dL_law_1333 : decode cL_law 1333 = .ok (.iadd, 1) := decRow_at arL_law_k23 5 rfl
theorem dL_law_1334 : decode cL_law 1334 = .ok (.iaload, 1) := decRow_at arL_law_k23 6 rfl
theorem dL_law_1335 : decode cL_law 1335 = .ok (.aload_n 0, 1) := decRow_at arL_law_k23 7 rfl
theorem dL_law_1336 : decode cL_law 1336 = .ok (.iload_n 3, 1) := decRow_at arL_law_k23 8 rfl
theorem dL_law_1337 : decode cL_law 1337 = .ok (.iconst 2, 1) := decRow_at arL_law_k23 9 rfl
theorem dL_law_1338 : decode cL_law 1338 = .ok (.iadd, 1) := decRow_at arL_law_k23 10 rfl
theorem dL_law_1339 : decode cL_law 1339 = .ok (.iaload, 1) := decRow_at arL_law_k23 11 rfl
theorem dL_law_1340 : decode cL_law 1340 = .ok (.aload_n 0, 1) := decRow_at arL_law_k23 12 rfl
theorem dL_law_1341 : decode cL_law 1341 = .ok (.iload_n 3, 1) := decRow_at arL_law_k23 13 rfl
theorem dL_law_1342 : decode cL_law 1342 = .ok (.iconst 3, 1) := decRow_at arL_law_k23 14 rfl
theorem dL_law_1343 : decode cL_law 1343 = .ok (.iadd, 1) := decRow_at arL_law_k23 15 rfl
theorem dL_law_1344 : decode cL_law 1344 = .ok (.iaload, 1) := decRow_at arL_law_k23 16 rfl
theorem dL_law_1345 : decode cL_law 1345 = .ok (.aload_n 0, 1) := decRow_at arL_law_k23 17 rfl
theorem dL_law_1346 : decode cL_law 1346 = .ok (.iload_n 3, 1) := decRow_at arL_law_k23 18 rfl
theorem dL_law_1347 : decode cL_law 1347 = .ok (.iconst 4, 1) := decRow_at arL_law_k23 19 rfl
theorem dL_law_1348 : decode cL_law 1348 = .ok (.iadd, 1) := decRow_at arL_law_k23 20 rfl
theorem dL_law_1349 : decode cL_law 1349 = .ok (.iaload, 1) := decRow_at arL_law_k23 21 rfl
theorem dL_law_1350 : decode cL_law 1350 = .ok (.invokevirtual 167, 3) := decRow_at arL_law_k23 22 rfl
theorem dL_law_1353 : decode cL_law 1353 = .ok (.pop, 1) := decRow_at arL_law_k23 23 rfl
theorem dL_law_1354 : decode cL_law 1354 = .ok (.aload_n 2, 1) := decRow_at arL_law_k23 24 rfl
theorem dL_law_1355 : decode cL_law 1355 = .ok (.aload_n 0, 1) := decRow_at arL_law_k23 25 rfl
theorem dL_law_1356 : decode cL_law 1356 = .ok (.iload_n 3, 1) := decRow_at arL_law_k23 26 rfl
theorem dL_law_1357 : decode cL_law 1357 = .ok (.iconst 1, 1) := decRow_at arL_law_k23 27 rfl
theorem dL_law_1358 : decode cL_law 1358 = .ok (.iadd, 1) := decRow_at arL_law_k23 28 rfl
theorem dL_law_1359 : decode cL_law 1359 = .ok (.iaload, 1) := decRow_at arL_law_k23 29 rfl
theorem dL_law_1360 : decode cL_law 1360 = .ok (.aload_n 0, 1) := decRow_at arL_law_k23 30 rfl
theorem dL_law_1361 : decode cL_law 1361 = .ok (.iload_n 3, 1) := decRow_at arL_law_k23 31 rfl
theorem dL_law_1362 : decode cL_law 1362 = .ok (.iconst 2, 1) := decRow_at arL_law_k23 32 rfl
theorem dL_law_1363 : decode cL_law 1363 = .ok (.iadd, 1) := decRow_at arL_law_k23 33 rfl
theorem dL_law_1364 : decode cL_law 1364 = .ok (.iaload, 1) := decRow_at arL_law_k23 34 rfl
theorem dL_law_1365 : decode cL_law 1365 = .ok (.aload_n 0, 1) := decRow_at arL_law_k23 35 rfl
theorem dL_law_1366 : decode cL_law 1366 = .ok (.iload_n 3, 1) := decRow_at arL_law_k23 36 rfl
theorem dL_law_1367 : decode cL_law 1367 = .ok (.iconst 3, 1) := decRow_at arL_law_k23 37 rfl
theorem dL_law_1368 : decode cL_law 1368 = .ok (.iadd, 1) := decRow_at arL_law_k23 38 rfl
theorem dL_law_1369 : decode cL_law 1369 = .ok (.iaload, 1) := decRow_at arL_law_k23 39 rfl
def lrL_law_k24 : List (Nat × Instr × Nat) := [(1370, .aload_n 0, 1), (1371, .iload_n 3, 1), (1372, .iconst 4, 1), (1373, .iadd, 1), (1374, .iaload, 1), (1375, .invokevirtual 171, 3), (1378, .pop, 1), (1379, .goto 39, 3), (1382, .aload_n 1, 1), (1383, .invokevirtual 172, 3), (1386, .pop, 1), (1387, .aload_n 2, 1), (1388, .invokevirtual 175, 3), (1391, .pop, 1), (1392, .goto 26, 3), (1395, .aload_n 1, 1), (1396, .aload_n 0, 1), (1397, .iload_n 3, 1), (1398, .iconst 1, 1), (1399, .iadd, 1), (1400, .iaload, 1), (1401, .invokevirtual 176, 3), (1404, .pop, 1), (1405, .aload_n 2, 1), (1406, .aload_n 0, 1), (1407, .iload_n 3, 1), (1408, .iconst 1, 1), (1409, .iadd, 1), (1410, .iaload, 1), (1411, .invokevirtual 179, 3), (1414, .pop, 1), (1415, .goto 3, 3), (1418, .iinc 3 5, 3), (1421, .goto (-1403), 3), (1424, .iconst 1, 1), (1425, .ireturn, 1)]
theorem arL_law_k24 : lrL_law_k24.all (fun r => decRow cL_law r.1 r.2.1 r.2.2) = true := by decide +kernel
theorem dL_law_1370 : decode cL_law 1370 = .ok (.aload_n 0, 1) := decRow_at arL_law_k24 0 rfl
theorem dL_law_1371 : decode cL_law 1371 = .ok (.iload_n 3, 1) := decRow_at arL_law_k24 1 rfl
theorem dL_law_1372 : decode cL_law 1372 = .ok (.iconst 4, 1) := decRow_at arL_law_k24 2 rfl
theorem dL_law_1373 : decode cL_law 1373 = .ok (.iadd, 1) := decRow_at arL_law_k24 3 rfl
theorem dL_law_1374 : decode cL_law 1374 = .ok (.iaload, 1) := decRow_at arL_law_k24 4 rfl
theorem dL_law_1375 : decode cL_law 1375 = .ok (.invokevirtual 171, 3) := decRow_at arL_law_k24 5 rfl
theorem dL_law_1378 : decode cL_law 1378 = .ok (.pop, 1) := decRow_at arL_law_k24 6 rfl
theorem dL_law_1379 : decode cL_law 1379 = .ok (.goto 39, 3) := decRow_at arL_law_k24 7 rfl
theorem dL_law_1382 : decode cL_law 1382 = .ok (.aload_n 1, 1) := decRow_at arL_law_k24 8 rfl
theorem dL_law_1383 : decode cL_law 1383 = .ok (.invokevirtual 172, 3) := decRow_at arL_law_k24 9 rfl
theorem dL_law_1386 : decode cL_law 1386 = .ok (.pop, 1) := decRow_at arL_law_k24 10 rfl
theorem dL_law_1387 : decode cL_law 1387 = .ok (.aload_n 2, 1) := decRow_at arL_law_k24 11 rfl
theorem dL_law_1388 : decode cL_law 1388 = .ok (.invokevirtual 175, 3) := decRow_at arL_law_k24 12 rfl
theorem dL_law_1391 : decode cL_law 1391 = .ok (.pop, 1) := decRow_at arL_law_k24 13 rfl
theorem dL_law_1392 : decode cL_law 1392 = .ok (.goto 26, 3) := decRow_at arL_law_k24 14 rfl
theorem dL_law_1395 : decode cL_law 1395 = .ok (.aload_n 1, 1) := decRow_at arL_law_k24 15 rfl
theorem dL_law_1396 : decode cL_law 1396 = .ok (.aload_n 0, 1) := decRow_at arL_law_k24 16 rfl
theorem dL_law_1397 : decode cL_law 1397 = .ok (.iload_n 3, 1) := decRow_at arL_law_k24 17 rfl
theorem dL_law_1398 : decode cL_law 1398 = .ok (.iconst 1, 1) := decRow_at arL_law_k24 18 rfl
theorem dL_law_1399 : decode cL_law 1399 = .ok (.iadd, 1) := decRow_at arL_law_k24 19 rfl
theorem dL_law_1400 : decode cL_law 1400 = .ok (.iaload, 1) := decRow_at arL_law_k24 20 rfl
theorem dL_law_1401 : decode cL_law 1401 = .ok (.invokevirtual 176, 3) := decRow_at arL_law_k24 21 rfl
theorem dL_law_1404 : decode cL_law 1404 = .ok (.pop, 1) := decRow_at arL_law_k24 22 rfl
theorem dL_law_1405 : decode cL_law 1405 = .ok (.aload_n 2, 1) := decRow_at arL_law_k24 23 rfl
theorem dL_law_1406 : decode cL_law 1406 = .ok (.aload_n 0, 1) := decRow_at arL_law_k24 24 rfl
theorem dL_law_1407 : decode cL_law 1407 = .ok (.iload_n 3, 1) := decRow_at arL_law_k24 25 rfl
theorem dL_law_1408 : decode cL_law 1408 = .ok (.iconst 1, 1) := decRow_at arL_law_k24 26 rfl
theorem dL_law_1409 : decode cL_law 1409 = .ok (.iadd, 1) := decRow_at arL_law_k24 27 rfl
theorem dL_law_1410 : decode cL_law 1410 = .ok (.iaload, 1) := decRow_at arL_law_k24 28 rfl
theorem dL_law_1411 : decode cL_law 1411 = .ok (.invokevirtual 179, 3) := decRow_at arL_law_k24 29 rfl
theorem dL_law_1414 : decode cL_law 1414 = .ok (.pop, 1) := decRow_at arL_law_k24 30 rfl
theorem dL_law_1415 : decode cL_law 1415 = .ok (.goto 3, 3) := decRow_at arL_law_k24 31 rfl
theorem dL_law_1418 : decode cL_law 1418 = .ok (.iinc 3 5, 3) := decRow_at arL_law_k24 32 rfl
theorem dL_law_1421 : decode cL_law 1421 = .ok (.goto (-1403), 3) := decRow_at arL_law_k24 33 rfl
theorem dL_law_1424 : decode cL_law 1424 = .ok (.iconst 1, 1) := decRow_at arL_law_k24 34 rfl
theorem dL_law_1425 : decode cL_law 1425 = .ok (.ireturn, 1) := decRow_at arL_law_k24 35 rfl
