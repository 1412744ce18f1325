/-! the instructions by method and place -/
set_option maxRecDepth 20000 in
theorem p205_0 : vm_P 205 0 = some (vm_m205, (0, .new 7, 3, 9, 0, 0)) := rfl
set_option maxRecDepth 20000 in
theorem p205_3 : vm_P 205 3 = some (vm_m205, (3, .dup, 1, 0, 0, 0)) := rfl
set_option maxRecDepth 20000 in
theorem p205_4 : vm_P 205 4 = some (vm_m205, (4, .invokespecial 9, 3, 2, 92, 0)) := rfl
set_option maxRecDepth 20000 in
theorem p205_7 : vm_P 205 7 = some (vm_m205, (7, .astore_n 1, 1, 0, 0, 0)) := rfl
set_option maxRecDepth 20000 in
theorem p205_8 : vm_P 205 8 = some (vm_m205, (8, .new 10, 3, 10, 0, 0)) := rfl
set_option maxRecDepth 20000 in
theorem p205_11 : vm_P 205 11 = some (vm_m205, (11, .dup, 1, 0, 0, 0)) := rfl
set_option maxRecDepth 20000 in
theorem p205_12 : vm_P 205 12 = some (vm_m205, (12, .invokespecial 12, 3, 2, 127, 0)) := rfl
set_option maxRecDepth 20000 in
theorem p205_15 : vm_P 205 15 = some (vm_m205, (15, .astore_n 2, 1, 0, 0, 0)) := rfl
set_option maxRecDepth 20000 in
theorem p205_16 : vm_P 205 16 = some (vm_m205, (16, .iconst 0, 1, 0, 0, 0)) := rfl
set_option maxRecDepth 20000 in
theorem p205_17 : vm_P 205 17 = some (vm_m205, (17, .istore_n 3, 1, 0, 0, 0)) := rfl
set_option maxRecDepth 20000 in
theorem p205_18 : vm_P 205 18 = some (vm_m205, (18, .iload_n 3, 1, 0, 0, 0)) := rfl
set_option maxRecDepth 20000 in
theorem p205_19 : vm_P 205 19 = some (vm_m205, (19, .aload_n 0, 1, 0, 0, 0)) := rfl
set_option maxRecDepth 20000 in
theorem p205_20 : vm_P 205 20 = some (vm_m205, (20, .arraylength, 1, 0, 0, 0)) := rfl
set_option maxRecDepth 20000 in
theorem p205_21 : vm_P 205 21 = some (vm_m205, (21, .iconst 5, 1, 0, 0, 0)) := rfl
set_option maxRecDepth 20000 in
theorem p205_22 : vm_P 205 22 = some (vm_m205, (22, .isub, 1, 0, 0, 0)) := rfl
set_option maxRecDepth 20000 in
theorem p205_23 : vm_P 205 23 = some (vm_m205, (23, .if_icmp .gt 937, 3, 0, 0, 0)) := rfl
set_option maxRecDepth 20000 in
theorem p205_26 : vm_P 205 26 = some (vm_m205, (26, .aload_n 0, 1, 0, 0, 0)) := rfl
set_option maxRecDepth 20000 in
theorem p205_27 : vm_P 205 27 = some (vm_m205, (27, .iload_n 3, 1, 0, 0, 0)) := rfl
set_option maxRecDepth 20000 in
theorem p205_28 : vm_P 205 28 = some (vm_m205, (28, .iaload, 1, 0, 0, 0)) := rfl
set_option maxRecDepth 20000 in
theorem p205_29 : vm_P 205 29 = some (vm_m205, (29, .bipush 31, 2, 0, 0, 0)) := rfl
set_option maxRecDepth 20000 in
theorem p205_31 : vm_P 205 31 = some (vm_m205, (31, .iand, 1, 0, 0, 0)) := rfl
set_option maxRecDepth 20000 in
theorem p205_32 : vm_P 205 32 = some (vm_m205, (32, .tableswitch 922 0 27 #[128, 151, 164, 177, 190, 223, 246, 279, 312, 335, 368, 401, 444, 457, 480, 523, 566, 609, 632, 675, 698, 711, 734, 777, 830, 873, 886, 899], 128, 0, 0, 0)) := rfl
set_option maxRecDepth 20000 in
theorem p205_160 : vm_P 205 160 = some (vm_m205, (160, .aload_n 1, 1, 0, 0, 0)) := rfl
set_option maxRecDepth 20000 in
theorem p205_161 : vm_P 205 161 = some (vm_m205, (161, .aload_n 0, 1, 0, 0, 0)) := rfl
set_option maxRecDepth 20000 in
theorem p205_162 : vm_P 205 162 = some (vm_m205, (162, .iload_n 3, 1, 0, 0, 0)) := rfl
set_option maxRecDepth 20000 in
theorem p205_163 : vm_P 205 163 = some (vm_m205, (163, .iconst 1, 1, 0, 0, 0)) := rfl
set_option maxRecDepth 20000 in
theorem p205_164 : vm_P 205 164 = some (vm_m205, (164, .iadd, 1, 0, 0, 0)) := rfl
set_option maxRecDepth 20000 in
theorem p205_165 : vm_P 205 165 = some (vm_m205, (165, .iaload, 1, 0, 0, 0)) := rfl
set_option maxRecDepth 20000 in
theorem p205_166 : vm_P 205 166 = some (vm_m205, (166, .invokevirtual 13, 3, 0, 93, 901)) := rfl
set_option maxRecDepth 20000 in
theorem p205_169 : vm_P 205 169 = some (vm_m205, (169, .aload_n 2, 1, 0, 0, 0)) := rfl
set_option maxRecDepth 20000 in
theorem p205_170 : vm_P 205 170 = some (vm_m205, (170, .aload_n 0, 1, 0, 0, 0)) := rfl
set_option maxRecDepth 20000 in
theorem p205_171 : vm_P 205 171 = some (vm_m205, (171, .iload_n 3, 1, 0, 0, 0)) := rfl
set_option maxRecDepth 20000 in
theorem p205_172 : vm_P 205 172 = some (vm_m205, (172, .iconst 1, 1, 0, 0, 0)) := rfl
set_option maxRecDepth 20000 in
theorem p205_173 : vm_P 205 173 = some (vm_m205, (173, .iadd, 1, 0, 0, 0)) := rfl
set_option maxRecDepth 20000 in
theorem p205_174 : vm_P 205 174 = some (vm_m205, (174, .iaload, 1, 0, 0, 0)) := rfl
set_option maxRecDepth 20000 in
theorem p205_175 : vm_P 205 175 = some (vm_m205, (175, .invokevirtual 17, 3, 0, 134, 1001)) := rfl
set_option maxRecDepth 20000 in
theorem p205_178 : vm_P 205 178 = some (vm_m205, (178, .if_icmp .eq 776, 3, 0, 0, 0)) := rfl
set_option maxRecDepth 20000 in
theorem p205_181 : vm_P 205 181 = some (vm_m205, (181, .iconst 0, 1, 0, 0, 0)) := rfl
set_option maxRecDepth 20000 in
theorem p205_182 : vm_P 205 182 = some (vm_m205, (182, .ireturn, 1, 0, 0, 0)) := rfl
set_option maxRecDepth 20000 in
theorem p205_183 : vm_P 205 183 = some (vm_m205, (183, .aload_n 1, 1, 0, 0, 0)) := rfl
set_option maxRecDepth 20000 in
theorem p205_184 : vm_P 205 184 = some (vm_m205, (184, .invokevirtual 18, 3, 0, 94, 900)) := rfl
set_option maxRecDepth 20000 in
theorem p205_187 : vm_P 205 187 = some (vm_m205, (187, .aload_n 2, 1, 0, 0, 0)) := rfl
set_option maxRecDepth 20000 in
theorem p205_188 : vm_P 205 188 = some (vm_m205, (188, .invokevirtual 22, 3, 0, 135, 1000)) := rfl
set_option maxRecDepth 20000 in
theorem p205_191 : vm_P 205 191 = some (vm_m205, (191, .if_icmp .eq 763, 3, 0, 0, 0)) := rfl
set_option maxRecDepth 20000 in
theorem p205_194 : vm_P 205 194 = some (vm_m205, (194, .iconst 0, 1, 0, 0, 0)) := rfl
set_option maxRecDepth 20000 in
theorem p205_195 : vm_P 205 195 = some (vm_m205, (195, .ireturn, 1, 0, 0, 0)) := rfl
set_option maxRecDepth 20000 in
theorem p205_196 : vm_P 205 196 = some (vm_m205, (196, .aload_n 1, 1, 0, 0, 0)) := rfl
set_option maxRecDepth 20000 in
theorem p205_197 : vm_P 205 197 = some (vm_m205, (197, .invokevirtual 23, 3, 0, 95, 900)) := rfl
set_option maxRecDepth 20000 in
theorem p205_200 : vm_P 205 200 = some (vm_m205, (200, .aload_n 2, 1, 0, 0, 0)) := rfl
set_option maxRecDepth 20000 in
theorem p205_201 : vm_P 205 201 = some (vm_m205, (201, .invokevirtual 26, 3, 0, 145, 1000)) := rfl
set_option maxRecDepth 20000 in
theorem p205_204 : vm_P 205 204 = some (vm_m205, (204, .if_icmp .eq 750, 3, 0, 0, 0)) := rfl
set_option maxRecDepth 20000 in
theorem p205_207 : vm_P 205 207 = some (vm_m205, (207, .iconst 0, 1, 0, 0, 0)) := rfl
set_option maxRecDepth 20000 in
theorem p205_208 : vm_P 205 208 = some (vm_m205, (208, .ireturn, 1, 0, 0, 0)) := rfl
set_option maxRecDepth 20000 in
theorem p205_209 : vm_P 205 209 = some (vm_m205, (209, .aload_n 1, 1, 0, 0, 0)) := rfl
set_option maxRecDepth 20000 in
theorem p205_210 : vm_P 205 210 = some (vm_m205, (210, .invokevirtual 27, 3, 0, 96, 900)) := rfl
set_option maxRecDepth 20000 in
theorem p205_213 : vm_P 205 213 = some (vm_m205, (213, .aload_n 2, 1, 0, 0, 0)) := rfl
set_option maxRecDepth 20000 in
theorem p205_214 : vm_P 205 214 = some (vm_m205, (214, .invokevirtual 30, 3, 0, 147, 1000)) := rfl
set_option maxRecDepth 20000 in
theorem p205_217 : vm_P 205 217 = some (vm_m205, (217, .if_icmp .eq 737, 3, 0, 0, 0)) := rfl
set_option maxRecDepth 20000 in
theorem p205_220 : vm_P 205 220 = some (vm_m205, (220, .iconst 0, 1, 0, 0, 0)) := rfl
set_option maxRecDepth 20000 in
theorem p205_221 : vm_P 205 221 = some (vm_m205, (221, .ireturn, 1, 0, 0, 0)) := rfl
set_option maxRecDepth 20000 in
theorem p205_222 : vm_P 205 222 = some (vm_m205, (222, .aload_n 1, 1, 0, 0, 0)) := rfl
set_option maxRecDepth 20000 in
theorem p205_223 : vm_P 205 223 = some (vm_m205, (223, .aload_n 0, 1, 0, 0, 0)) := rfl
set_option maxRecDepth 20000 in
theorem p205_224 : vm_P 205 224 = some (vm_m205, (224, .iload_n 3, 1, 0, 0, 0)) := rfl
set_option maxRecDepth 20000 in
theorem p205_225 : vm_P 205 225 = some (vm_m205, (225, .iconst 1, 1, 0, 0, 0)) := rfl
set_option maxRecDepth 20000 in
theorem p205_226 : vm_P 205 226 = some (vm_m205, (226, .iadd, 1, 0, 0, 0)) := rfl
set_option maxRecDepth 20000 in
theorem p205_227 : vm_P 205 227 = some (vm_m205, (227, .iaload, 1, 0, 0, 0)) := rfl
set_option maxRecDepth 20000 in
theorem p205_228 : vm_P 205 228 = some (vm_m205, (228, .aload_n 0, 1, 0, 0, 0)) := rfl
set_option maxRecDepth 20000 in
theorem p205_229 : vm_P 205 229 = some (vm_m205, (229, .iload_n 3, 1, 0, 0, 0)) := rfl
set_option maxRecDepth 20000 in
theorem p205_230 : vm_P 205 230 = some (vm_m205, (230, .iconst 2, 1, 0, 0, 0)) := rfl
set_option maxRecDepth 20000 in
theorem p205_231 : vm_P 205 231 = some (vm_m205, (231, .iadd, 1, 0, 0, 0)) := rfl
set_option maxRecDepth 20000 in
theorem p205_232 : vm_P 205 232 = some (vm_m205, (232, .iaload, 1, 0, 0, 0)) := rfl
set_option maxRecDepth 20000 in
theorem p205_233 : vm_P 205 233 = some (vm_m205, (233, .invokevirtual 31, 3, 0, 97, 902)) := rfl
set_option maxRecDepth 20000 in
theorem p205_236 : vm_P 205 236 = some (vm_m205, (236, .aload_n 2, 1, 0, 0, 0)) := rfl
set_option maxRecDepth 20000 in
theorem p205_237 : vm_P 205 237 = some (vm_m205, (237, .aload_n 0, 1, 0, 0, 0)) := rfl
set_option maxRecDepth 20000 in
theorem p205_238 : vm_P 205 238 = some (vm_m205, (238, .iload_n 3, 1, 0, 0, 0)) := rfl
set_option maxRecDepth 20000 in
theorem p205_239 : vm_P 205 239 = some (vm_m205, (239, .iconst 1, 1, 0, 0, 0)) := rfl
set_option maxRecDepth 20000 in
theorem p205_240 : vm_P 205 240 = some (vm_m205, (240, .iadd, 1, 0, 0, 0)) := rfl
set_option maxRecDepth 20000 in
theorem p205_241 : vm_P 205 241 = some (vm_m205, (241, .iaload, 1, 0, 0, 0)) := rfl
set_option maxRecDepth 20000 in
theorem p205_242 : vm_P 205 242 = some (vm_m205, (242, .aload_n 0, 1, 0, 0, 0)) := rfl
set_option maxRecDepth 20000 in
theorem p205_243 : vm_P 205 243 = some (vm_m205, (243, .iload_n 3, 1, 0, 0, 0)) := rfl
set_option maxRecDepth 20000 in
theorem p205_244 : vm_P 205 244 = some (vm_m205, (244, .iconst 2, 1, 0, 0, 0)) := rfl
set_option maxRecDepth 20000 in
theorem p205_245 : vm_P 205 245 = some (vm_m205, (245, .iadd, 1, 0, 0, 0)) := rfl
set_option maxRecDepth 20000 in
theorem p205_246 : vm_P 205 246 = some (vm_m205, (246, .iaload, 1, 0, 0, 0)) := rfl
set_option maxRecDepth 20000 in
theorem p205_247 : vm_P 205 247 = some (vm_m205, (247, .invokevirtual 35, 3, 0, 154, 1002)) := rfl
set_option maxRecDepth 20000 in
theorem p205_250 : vm_P 205 250 = some (vm_m205, (250, .if_icmp .eq 704, 3, 0, 0, 0)) := rfl
set_option maxRecDepth 20000 in
theorem p205_253 : vm_P 205 253 = some (vm_m205, (253, .iconst 0, 1, 0, 0, 0)) := rfl
set_option maxRecDepth 20000 in
theorem p205_254 : vm_P 205 254 = some (vm_m205, (254, .ireturn, 1, 0, 0, 0)) := rfl
set_option maxRecDepth 20000 in
theorem p205_255 : vm_P 205 255 = some (vm_m205, (255, .aload_n 1, 1, 0, 0, 0)) := rfl
set_option maxRecDepth 20000 in
theorem p205_256 : vm_P 205 256 = some (vm_m205, (256, .aload_n 0, 1, 0, 0, 0)) := rfl
set_option maxRecDepth 20000 in
theorem p205_257 : vm_P 205 257 = some (vm_m205, (257, .iload_n 3, 1, 0, 0, 0)) := rfl
set_option maxRecDepth 20000 in
theorem p205_258 : vm_P 205 258 = some (vm_m205, (258, .iconst 1, 1, 0, 0, 0)) := rfl
set_option maxRecDepth 20000 in
theorem p205_259 : vm_P 205 259 = some (vm_m205, (259, .iadd, 1, 0, 0, 0)) := rfl
set_option maxRecDepth 20000 in
theorem p205_260 : vm_P 205 260 = some (vm_m205, (260, .iaload, 1, 0, 0, 0)) := rfl
set_option maxRecDepth 20000 in
theorem p205_261 : vm_P 205 261 = some (vm_m205, (261, .invokevirtual 36, 3, 0, 98, 901)) := rfl
set_option maxRecDepth 20000 in
theorem p205_264 : vm_P 205 264 = some (vm_m205, (264, .aload_n 2, 1, 0, 0, 0)) := rfl
set_option maxRecDepth 20000 in
theorem p205_265 : vm_P 205 265 = some (vm_m205, (265, .aload_n 0, 1, 0, 0, 0)) := rfl
set_option maxRecDepth 20000 in
theorem p205_266 : vm_P 205 266 = some (vm_m205, (266, .iload_n 3, 1, 0, 0, 0)) := rfl
set_option maxRecDepth 20000 in
theorem p205_267 : vm_P 205 267 = some (vm_m205, (267, .iconst 1, 1, 0, 0, 0)) := rfl
set_option maxRecDepth 20000 in
theorem p205_268 : vm_P 205 268 = some (vm_m205, (268, .iadd, 1, 0, 0, 0)) := rfl
set_option maxRecDepth 20000 in
theorem p205_269 : vm_P 205 269 = some (vm_m205, (269, .iaload, 1, 0, 0, 0)) := rfl
set_option maxRecDepth 20000 in
theorem p205_270 : vm_P 205 270 = some (vm_m205, (270, .invokevirtual 39, 3, 0, 155, 1001)) := rfl
set_option maxRecDepth 20000 in
theorem p205_273 : vm_P 205 273 = some (vm_m205, (273, .if_icmp .eq 681, 3, 0, 0, 0)) := rfl
set_option maxRecDepth 20000 in
theorem p205_276 : vm_P 205 276 = some (vm_m205, (276, .iconst 0, 1, 0, 0, 0)) := rfl
set_option maxRecDepth 20000 in
theorem p205_277 : vm_P 205 277 = some (vm_m205, (277, .ireturn, 1, 0, 0, 0)) := rfl
set_option maxRecDepth 20000 in
theorem p205_278 : vm_P 205 278 = some (vm_m205, (278, .aload_n 1, 1, 0, 0, 0)) := rfl
set_option maxRecDepth 20000 in
theorem p205_279 : vm_P 205 279 = some (vm_m205, (279, .aload_n 0, 1, 0, 0, 0)) := rfl
set_option maxRecDepth 20000 in
theorem p205_280 : vm_P 205 280 = some (vm_m205, (280, .iload_n 3, 1, 0, 0, 0)) := rfl
set_option maxRecDepth 20000 in
theorem p205_281 : vm_P 205 281 = some (vm_m205, (281, .iconst 1, 1, 0, 0, 0)) := rfl
set_option maxRecDepth 20000 in
theorem p205_282 : vm_P 205 282 = some (vm_m205, (282, .iadd, 1, 0, 0, 0)) := rfl
set_option maxRecDepth 20000 in
theorem p205_283 : vm_P 205 283 = some (vm_m205, (283, .iaload, 1, 0, 0, 0)) := rfl
set_option maxRecDepth 20000 in
theorem p205_284 : vm_P 205 284 = some (vm_m205, (284, .aload_n 0, 1, 0, 0, 0)) := rfl
set_option maxRecDepth 20000 in
theorem p205_285 : vm_P 205 285 = some (vm_m205, (285, .iload_n 3, 1, 0, 0, 0)) := rfl
set_option maxRecDepth 20000 in
theorem p205_286 : vm_P 205 286 = some (vm_m205, (286, .iconst 2, 1, 0, 0, 0)) := rfl
set_option maxRecDepth 20000 in
theorem p205_287 : vm_P 205 287 = some (vm_m205, (287, .iadd, 1, 0, 0, 0)) := rfl
set_option maxRecDepth 20000 in
theorem p205_288 : vm_P 205 288 = some (vm_m205, (288, .iaload, 1, 0, 0, 0)) := rfl
set_option maxRecDepth 20000 in
theorem p205_289 : vm_P 205 289 = some (vm_m205, (289, .invokevirtual 40, 3, 0, 99, 902)) := rfl
set_option maxRecDepth 20000 in
theorem p205_292 : vm_P 205 292 = some (vm_m205, (292, .aload_n 2, 1, 0, 0, 0)) := rfl
set_option maxRecDepth 20000 in
theorem p205_293 : vm_P 205 293 = some (vm_m205, (293, .aload_n 0, 1, 0, 0, 0)) := rfl
set_option maxRecDepth 20000 in
theorem p205_294 : vm_P 205 294 = some (vm_m205, (294, .iload_n 3, 1, 0, 0, 0)) := rfl
set_option maxRecDepth 20000 in
theorem p205_295 : vm_P 205 295 = some (vm_m205, (295, .iconst 1, 1, 0, 0, 0)) := rfl
set_option maxRecDepth 20000 in
theorem p205_296 : vm_P 205 296 = some (vm_m205, (296, .iadd, 1, 0, 0, 0)) := rfl
set_option maxRecDepth 20000 in
theorem p205_297 : vm_P 205 297 = some (vm_m205, (297, .iaload, 1, 0, 0, 0)) := rfl
set_option maxRecDepth 20000 in
theorem p205_298 : vm_P 205 298 = some (vm_m205, (298, .aload_n 0, 1, 0, 0, 0)) := rfl
set_option maxRecDepth 20000 in
theorem p205_299 : vm_P 205 299 = some (vm_m205, (299, .iload_n 3, 1, 0, 0, 0)) := rfl
set_option maxRecDepth 20000 in
theorem p205_300 : vm_P 205 300 = some (vm_m205, (300, .iconst 2, 1, 0, 0, 0)) := rfl
set_option maxRecDepth 20000 in
theorem p205_301 : vm_P 205 301 = some (vm_m205, (301, .iadd, 1, 0, 0, 0)) := rfl
set_option maxRecDepth 20000 in
theorem p205_302 : vm_P 205 302 = some (vm_m205, (302, .iaload, 1, 0, 0, 0)) := rfl
set_option maxRecDepth 20000 in
theorem p205_303 : vm_P 205 303 = some (vm_m205, (303, .invokevirtual 43, 3, 0, 156, 1002)) := rfl
set_option maxRecDepth 20000 in
theorem p205_306 : vm_P 205 306 = some (vm_m205, (306, .if_icmp .eq 648, 3, 0, 0, 0)) := rfl
set_option maxRecDepth 20000 in
theorem p205_309 : vm_P 205 309 = some (vm_m205, (309, .iconst 0, 1, 0, 0, 0)) := rfl
set_option maxRecDepth 20000 in
theorem p205_310 : vm_P 205 310 = some (vm_m205, (310, .ireturn, 1, 0, 0, 0)) := rfl
set_option maxRecDepth 20000 in
theorem p205_311 : vm_P 205 311 = some (vm_m205, (311, .aload_n 1, 1, 0, 0, 0)) := rfl
set_option maxRecDepth 20000 in
theorem p205_312 : vm_P 205 312 = some (vm_m205, (312, .aload_n 0, 1, 0, 0, 0)) := rfl
set_option maxRecDepth 20000 in
theorem p205_313 : vm_P 205 313 = some (vm_m205, (313, .iload_n 3, 1, 0, 0, 0)) := rfl
set_option maxRecDepth 20000 in
theorem p205_314 : vm_P 205 314 = some (vm_m205, (314, .iconst 1, 1, 0, 0, 0)) := rfl
set_option maxRecDepth 20000 in
theorem p205_315 : vm_P 205 315 = some (vm_m205, (315, .iadd, 1, 0, 0, 0)) := rfl
set_option maxRecDepth 20000 in
theorem p205_316 : vm_P 205 316 = some (vm_m205, (316, .iaload, 1, 0, 0, 0)) := rfl
set_option maxRecDepth 20000 in
theorem p205_317 : vm_P 205 317 = some (vm_m205, (317, .aload_n 0, 1, 0, 0, 0)) := rfl
set_option maxRecDepth 20000 in
theorem p205_318 : vm_P 205 318 = some (vm_m205, (318, .iload_n 3, 1, 0, 0, 0)) := rfl
set_option maxRecDepth 20000 in
theorem p205_319 : vm_P 205 319 = some (vm_m205, (319, .iconst 2, 1, 0, 0, 0)) := rfl
set_option maxRecDepth 20000 in
theorem p205_320 : vm_P 205 320 = some (vm_m205, (320, .iadd, 1, 0, 0, 0)) := rfl
set_option maxRecDepth 20000 in
theorem p205_321 : vm_P 205 321 = some (vm_m205, (321, .iaload, 1, 0, 0, 0)) := rfl
set_option maxRecDepth 20000 in
theorem p205_322 : vm_P 205 322 = some (vm_m205, (322, .invokevirtual 44, 3, 0, 100, 902)) := rfl
set_option maxRecDepth 20000 in
theorem p205_325 : vm_P 205 325 = some (vm_m205, (325, .aload_n 2, 1, 0, 0, 0)) := rfl
set_option maxRecDepth 20000 in
theorem p205_326 : vm_P 205 326 = some (vm_m205, (326, .aload_n 0, 1, 0, 0, 0)) := rfl
set_option maxRecDepth 20000 in
theorem p205_327 : vm_P 205 327 = some (vm_m205, (327, .iload_n 3, 1, 0, 0, 0)) := rfl
set_option maxRecDepth 20000 in
theorem p205_328 : vm_P 205 328 = some (vm_m205, (328, .iconst 1, 1, 0, 0, 0)) := rfl
set_option maxRecDepth 20000 in
theorem p205_329 : vm_P 205 329 = some (vm_m205, (329, .iadd, 1, 0, 0, 0)) := rfl
set_option maxRecDepth 20000 in
theorem p205_330 : vm_P 205 330 = some (vm_m205, (330, .iaload, 1, 0, 0, 0)) := rfl
set_option maxRecDepth 20000 in
theorem p205_331 : vm_P 205 331 = some (vm_m205, (331, .aload_n 0, 1, 0, 0, 0)) := rfl
set_option maxRecDepth 20000 in
theorem p205_332 : vm_P 205 332 = some (vm_m205, (332, .iload_n 3, 1, 0, 0, 0)) := rfl
set_option maxRecDepth 20000 in
theorem p205_333 : vm_P 205 333 = some (vm_m205, (333, .iconst 2, 1, 0, 0, 0)) := rfl
set_option maxRecDepth 20000 in
theorem p205_334 : vm_P 205 334 = some (vm_m205, (334, .iadd, 1, 0, 0, 0)) := rfl
set_option maxRecDepth 20000 in
theorem p205_335 : vm_P 205 335 = some (vm_m205, (335, .iaload, 1, 0, 0, 0)) := rfl
set_option maxRecDepth 20000 in
theorem p205_336 : vm_P 205 336 = some (vm_m205, (336, .invokevirtual 47, 3, 0, 166, 1002)) := rfl
set_option maxRecDepth 20000 in
theorem p205_339 : vm_P 205 339 = some (vm_m205, (339, .if_icmp .eq 615, 3, 0, 0, 0)) := rfl
set_option maxRecDepth 20000 in
theorem p205_342 : vm_P 205 342 = some (vm_m205, (342, .iconst 0, 1, 0, 0, 0)) := rfl
set_option maxRecDepth 20000 in
theorem p205_343 : vm_P 205 343 = some (vm_m205, (343, .ireturn, 1, 0, 0, 0)) := rfl
set_option maxRecDepth 20000 in
theorem p205_344 : vm_P 205 344 = some (vm_m205, (344, .aload_n 1, 1, 0, 0, 0)) := rfl
set_option maxRecDepth 20000 in
theorem p205_345 : vm_P 205 345 = some (vm_m205, (345, .aload_n 0, 1, 0, 0, 0)) := rfl
set_option maxRecDepth 20000 in
theorem p205_346 : vm_P 205 346 = some (vm_m205, (346, .iload_n 3, 1, 0, 0, 0)) := rfl
set_option maxRecDepth 20000 in
theorem p205_347 : vm_P 205 347 = some (vm_m205, (347, .iconst 1, 1, 0, 0, 0)) := rfl
set_option maxRecDepth 20000 in
theorem p205_348 : vm_P 205 348 = some (vm_m205, (348, .iadd, 1, 0, 0, 0)) := rfl
set_option maxRecDepth 20000 in
theorem p205_349 : vm_P 205 349 = some (vm_m205, (349, .iaload, 1, 0, 0, 0)) := rfl
set_option maxRecDepth 20000 in
theorem p205_350 : vm_P 205 350 = some (vm_m205, (350, .invokevirtual 48, 3, 0, 101, 901)) := rfl
set_option maxRecDepth 20000 in
theorem p205_353 : vm_P 205 353 = some (vm_m205, (353, .aload_n 2, 1, 0, 0, 0)) := rfl
set_option maxRecDepth 20000 in
theorem p205_354 : vm_P 205 354 = some (vm_m205, (354, .aload_n 0, 1, 0, 0, 0)) := rfl
set_option maxRecDepth 20000 in
theorem p205_355 : vm_P 205 355 = some (vm_m205, (355, .iload_n 3, 1, 0, 0, 0)) := rfl
set_option maxRecDepth 20000 in
theorem p205_356 : vm_P 205 356 = some (vm_m205, (356, .iconst 1, 1, 0, 0, 0)) := rfl
set_option maxRecDepth 20000 in
theorem p205_357 : vm_P 205 357 = some (vm_m205, (357, .iadd, 1, 0, 0, 0)) := rfl
set_option maxRecDepth 20000 in
theorem p205_358 : vm_P 205 358 = some (vm_m205, (358, .iaload, 1, 0, 0, 0)) := rfl
set_option maxRecDepth 20000 in
theorem p205_359 : vm_P 205 359 = some (vm_m205, (359, .invokevirtual 51, 3, 0, 167, 1001)) := rfl
set_option maxRecDepth 20000 in
theorem p205_362 : vm_P 205 362 = some (vm_m205, (362, .if_icmp .eq 592, 3, 0, 0, 0)) := rfl
set_option maxRecDepth 20000 in
theorem p205_365 : vm_P 205 365 = some (vm_m205, (365, .iconst 0, 1, 0, 0, 0)) := rfl
set_option maxRecDepth 20000 in
theorem p205_366 : vm_P 205 366 = some (vm_m205, (366, .ireturn, 1, 0, 0, 0)) := rfl
set_option maxRecDepth 20000 in
theorem p205_367 : vm_P 205 367 = some (vm_m205, (367, .aload_n 1, 1, 0, 0, 0)) := rfl
set_option maxRecDepth 20000 in
theorem p205_368 : vm_P 205 368 = some (vm_m205, (368, .aload_n 0, 1, 0, 0, 0)) := rfl
set_option maxRecDepth 20000 in
theorem p205_369 : vm_P 205 369 = some (vm_m205, (369, .iload_n 3, 1, 0, 0, 0)) := rfl
set_option maxRecDepth 20000 in
theorem p205_370 : vm_P 205 370 = some (vm_m205, (370, .iconst 1, 1, 0, 0, 0)) := rfl
set_option maxRecDepth 20000 in
theorem p205_371 : vm_P 205 371 = some (vm_m205, (371, .iadd, 1, 0, 0, 0)) := rfl
set_option maxRecDepth 20000 in
theorem p205_372 : vm_P 205 372 = some (vm_m205, (372, .iaload, 1, 0, 0, 0)) := rfl
set_option maxRecDepth 20000 in
theorem p205_373 : vm_P 205 373 = some (vm_m205, (373, .aload_n 0, 1, 0, 0, 0)) := rfl
set_option maxRecDepth 20000 in
theorem p205_374 : vm_P 205 374 = some (vm_m205, (374, .iload_n 3, 1, 0, 0, 0)) := rfl
set_option maxRecDepth 20000 in
theorem p205_375 : vm_P 205 375 = some (vm_m205, (375, .iconst 2, 1, 0, 0, 0)) := rfl
set_option maxRecDepth 20000 in
theorem p205_376 : vm_P 205 376 = some (vm_m205, (376, .iadd, 1, 0, 0, 0)) := rfl
set_option maxRecDepth 20000 in
theorem p205_377 : vm_P 205 377 = some (vm_m205, (377, .iaload, 1, 0, 0, 0)) := rfl
set_option maxRecDepth 20000 in
theorem p205_378 : vm_P 205 378 = some (vm_m205, (378, .invokevirtual 52, 3, 0, 102, 902)) := rfl
set_option maxRecDepth 20000 in
theorem p205_381 : vm_P 205 381 = some (vm_m205, (381, .aload_n 2, 1, 0, 0, 0)) := rfl
set_option maxRecDepth 20000 in
theorem p205_382 : vm_P 205 382 = some (vm_m205, (382, .aload_n 0, 1, 0, 0, 0)) := rfl
set_option maxRecDepth 20000 in
theorem p205_383 : vm_P 205 383 = some (vm_m205, (383, .iload_n 3, 1, 0, 0, 0)) := rfl
set_option maxRecDepth 20000 in
theorem p205_384 : vm_P 205 384 = some (vm_m205, (384, .iconst 1, 1, 0, 0, 0)) := rfl
set_option maxRecDepth 20000 in
theorem p205_385 : vm_P 205 385 = some (vm_m205, (385, .iadd, 1, 0, 0, 0)) := rfl
set_option maxRecDepth 20000 in
theorem p205_386 : vm_P 205 386 = some (vm_m205, (386, .iaload, 1, 0, 0, 0)) := rfl
set_option maxRecDepth 20000 in
theorem p205_387 : vm_P 205 387 = some (vm_m205, (387, .aload_n 0, 1, 0, 0, 0)) := rfl
set_option maxRecDepth 20000 in
theorem p205_388 : vm_P 205 388 = some (vm_m205, (388, .iload_n 3, 1, 0, 0, 0)) := rfl
set_option maxRecDepth 20000 in
theorem p205_389 : vm_P 205 389 = some (vm_m205, (389, .iconst 2, 1, 0, 0, 0)) := rfl
set_option maxRecDepth 20000 in
theorem p205_390 : vm_P 205 390 = some (vm_m205, (390, .iadd, 1, 0, 0, 0)) := rfl
set_option maxRecDepth 20000 in
theorem p205_391 : vm_P 205 391 = some (vm_m205, (391, .iaload, 1, 0, 0, 0)) := rfl
set_option maxRecDepth 20000 in
theorem p205_392 : vm_P 205 392 = some (vm_m205, (392, .invokevirtual 55, 3, 0, 170, 1002)) := rfl
set_option maxRecDepth 20000 in
theorem p205_395 : vm_P 205 395 = some (vm_m205, (395, .if_icmp .eq 559, 3, 0, 0, 0)) := rfl
set_option maxRecDepth 20000 in
theorem p205_398 : vm_P 205 398 = some (vm_m205, (398, .iconst 0, 1, 0, 0, 0)) := rfl
set_option maxRecDepth 20000 in
theorem p205_399 : vm_P 205 399 = some (vm_m205, (399, .ireturn, 1, 0, 0, 0)) := rfl
set_option maxRecDepth 20000 in
theorem p205_400 : vm_P 205 400 = some (vm_m205, (400, .aload_n 1, 1, 0, 0, 0)) := rfl
set_option maxRecDepth 20000 in
theorem p205_401 : vm_P 205 401 = some (vm_m205, (401, .aload_n 0, 1, 0, 0, 0)) := rfl
set_option maxRecDepth 20000 in
theorem p205_402 : vm_P 205 402 = some (vm_m205, (402, .iload_n 3, 1, 0, 0, 0)) := rfl
set_option maxRecDepth 20000 in
theorem p205_403 : vm_P 205 403 = some (vm_m205, (403, .iconst 1, 1, 0, 0, 0)) := rfl
set_option maxRecDepth 20000 in
theorem p205_404 : vm_P 205 404 = some (vm_m205, (404, .iadd, 1, 0, 0, 0)) := rfl
set_option maxRecDepth 20000 in
theorem p205_405 : vm_P 205 405 = some (vm_m205, (405, .iaload, 1, 0, 0, 0)) := rfl
set_option maxRecDepth 20000 in
theorem p205_406 : vm_P 205 406 = some (vm_m205, (406, .aload_n 0, 1, 0, 0, 0)) := rfl
set_option maxRecDepth 20000 in
theorem p205_407 : vm_P 205 407 = some (vm_m205, (407, .iload_n 3, 1, 0, 0, 0)) := rfl
set_option maxRecDepth 20000 in
theorem p205_408 : vm_P 205 408 = some (vm_m205, (408, .iconst 2, 1, 0, 0, 0)) := rfl
set_option maxRecDepth 20000 in
theorem p205_409 : vm_P 205 409 = some (vm_m205, (409, .iadd, 1, 0, 0, 0)) := rfl
set_option maxRecDepth 20000 in
theorem p205_410 : vm_P 205 410 = some (vm_m205, (410, .iaload, 1, 0, 0, 0)) := rfl
set_option maxRecDepth 20000 in
theorem p205_411 : vm_P 205 411 = some (vm_m205, (411, .invokevirtual 56, 3, 0, 103, 902)) := rfl
set_option maxRecDepth 20000 in
theorem p205_414 : vm_P 205 414 = some (vm_m205, (414, .aload_n 2, 1, 0, 0, 0)) := rfl
set_option maxRecDepth 20000 in
theorem p205_415 : vm_P 205 415 = some (vm_m205, (415, .aload_n 0, 1, 0, 0, 0)) := rfl
set_option maxRecDepth 20000 in
theorem p205_416 : vm_P 205 416 = some (vm_m205, (416, .iload_n 3, 1, 0, 0, 0)) := rfl
set_option maxRecDepth 20000 in
theorem p205_417 : vm_P 205 417 = some (vm_m205, (417, .iconst 1, 1, 0, 0, 0)) := rfl
set_option maxRecDepth 20000 in
theorem p205_418 : vm_P 205 418 = some (vm_m205, (418, .iadd, 1, 0, 0, 0)) := rfl
set_option maxRecDepth 20000 in
theorem p205_419 : vm_P 205 419 = some (vm_m205, (419, .iaload, 1, 0, 0, 0)) := rfl
set_option maxRecDepth 20000 in
theorem p205_420 : vm_P 205 420 = some (vm_m205, (420, .aload_n 0, 1, 0, 0, 0)) := rfl
set_option maxRecDepth 20000 in
theorem p205_421 : vm_P 205 421 = some (vm_m205, (421, .iload_n 3, 1, 0, 0, 0)) := rfl
set_option maxRecDepth 20000 in
theorem p205_422 : vm_P 205 422 = some (vm_m205, (422, .iconst 2, 1, 0, 0, 0)) := rfl
set_option maxRecDepth 20000 in
theorem p205_423 : vm_P 205 423 = some (vm_m205, (423, .iadd, 1, 0, 0, 0)) := rfl
set_option maxRecDepth 20000 in
theorem p205_424 : vm_P 205 424 = some (vm_m205, (424, .iaload, 1, 0, 0, 0)) := rfl
set_option maxRecDepth 20000 in
theorem p205_425 : vm_P 205 425 = some (vm_m205, (425, .invokevirtual 59, 3, 0, 171, 1002)) := rfl
set_option maxRecDepth 20000 in
theorem p205_428 : vm_P 205 428 = some (vm_m205, (428, .if_icmp .eq 526, 3, 0, 0, 0)) := rfl
set_option maxRecDepth 20000 in
theorem p205_431 : vm_P 205 431 = some (vm_m205, (431, .iconst 0, 1, 0, 0, 0)) := rfl
set_option maxRecDepth 20000 in
theorem p205_432 : vm_P 205 432 = some (vm_m205, (432, .ireturn, 1, 0, 0, 0)) := rfl
set_option maxRecDepth 20000 in
theorem p205_433 : vm_P 205 433 = some (vm_m205, (433, .aload_n 1, 1, 0, 0, 0)) := rfl
set_option maxRecDepth 20000 in
theorem p205_434 : vm_P 205 434 = some (vm_m205, (434, .aload_n 0, 1, 0, 0, 0)) := rfl
set_option maxRecDepth 20000 in
theorem p205_435 : vm_P 205 435 = some (vm_m205, (435, .iload_n 3, 1, 0, 0, 0)) := rfl
set_option maxRecDepth 20000 in
theorem p205_436 : vm_P 205 436 = some (vm_m205, (436, .iconst 1, 1, 0, 0, 0)) := rfl
set_option maxRecDepth 20000 in
theorem p205_437 : vm_P 205 437 = some (vm_m205, (437, .iadd, 1, 0, 0, 0)) := rfl
set_option maxRecDepth 20000 in
theorem p205_438 : vm_P 205 438 = some (vm_m205, (438, .iaload, 1, 0, 0, 0)) := rfl
set_option maxRecDepth 20000 in
theorem p205_439 : vm_P 205 439 = some (vm_m205, (439, .aload_n 0, 1, 0, 0, 0)) := rfl
set_option maxRecDepth 20000 in
theorem p205_440 : vm_P 205 440 = some (vm_m205, (440, .iload_n 3, 1, 0, 0, 0)) := rfl
set_option maxRecDepth 20000 in
theorem p205_441 : vm_P 205 441 = some (vm_m205, (441, .iconst 2, 1, 0, 0, 0)) := rfl
set_option maxRecDepth 20000 in
theorem p205_442 : vm_P 205 442 = some (vm_m205, (442, .iadd, 1, 0, 0, 0)) := rfl
set_option maxRecDepth 20000 in
theorem p205_443 : vm_P 205 443 = some (vm_m205, (443, .iaload, 1, 0, 0, 0)) := rfl
set_option maxRecDepth 20000 in
theorem p205_444 : vm_P 205 444 = some (vm_m205, (444, .aload_n 0, 1, 0, 0, 0)) := rfl
set_option maxRecDepth 20000 in
theorem p205_445 : vm_P 205 445 = some (vm_m205, (445, .iload_n 3, 1, 0, 0, 0)) := rfl
set_option maxRecDepth 20000 in
theorem p205_446 : vm_P 205 446 = some (vm_m205, (446, .iconst 3, 1, 0, 0, 0)) := rfl
set_option maxRecDepth 20000 in
theorem p205_447 : vm_P 205 447 = some (vm_m205, (447, .iadd, 1, 0, 0, 0)) := rfl
set_option maxRecDepth 20000 in
theorem p205_448 : vm_P 205 448 = some (vm_m205, (448, .iaload, 1, 0, 0, 0)) := rfl
set_option maxRecDepth 20000 in
theorem p205_449 : vm_P 205 449 = some (vm_m205, (449, .invokevirtual 60, 3, 0, 104, 903)) := rfl
set_option maxRecDepth 20000 in
theorem p205_452 : vm_P 205 452 = some (vm_m205, (452, .aload_n 2, 1, 0, 0, 0)) := rfl
set_option maxRecDepth 20000 in
theorem p205_453 : vm_P 205 453 = some (vm_m205, (453, .aload_n 0, 1, 0, 0, 0)) := rfl
set_option maxRecDepth 20000 in
theorem p205_454 : vm_P 205 454 = some (vm_m205, (454, .iload_n 3, 1, 0, 0, 0)) := rfl
set_option maxRecDepth 20000 in
theorem p205_455 : vm_P 205 455 = some (vm_m205, (455, .iconst 1, 1, 0, 0, 0)) := rfl
set_option maxRecDepth 20000 in
theorem p205_456 : vm_P 205 456 = some (vm_m205, (456, .iadd, 1, 0, 0, 0)) := rfl
set_option maxRecDepth 20000 in
theorem p205_457 : vm_P 205 457 = some (vm_m205, (457, .iaload, 1, 0, 0, 0)) := rfl
set_option maxRecDepth 20000 in
theorem p205_458 : vm_P 205 458 = some (vm_m205, (458, .aload_n 0, 1, 0, 0, 0)) := rfl
set_option maxRecDepth 20000 in
theorem p205_459 : vm_P 205 459 = some (vm_m205, (459, .iload_n 3, 1, 0, 0, 0)) := rfl
set_option maxRecDepth 20000 in
theorem p205_460 : vm_P 205 460 = some (vm_m205, (460, .iconst 2, 1, 0, 0, 0)) := rfl
set_option maxRecDepth 20000 in
theorem p205_461 : vm_P 205 461 = some (vm_m205, (461, .iadd, 1, 0, 0, 0)) := rfl
set_option maxRecDepth 20000 in
theorem p205_462 : vm_P 205 462 = some (vm_m205, (462, .iaload, 1, 0, 0, 0)) := rfl
set_option maxRecDepth 20000 in
theorem p205_463 : vm_P 205 463 = some (vm_m205, (463, .aload_n 0, 1, 0, 0, 0)) := rfl
set_option maxRecDepth 20000 in
theorem p205_464 : vm_P 205 464 = some (vm_m205, (464, .iload_n 3, 1, 0, 0, 0)) := rfl
set_option maxRecDepth 20000 in
theorem p205_465 : vm_P 205 465 = some (vm_m205, (465, .iconst 3, 1, 0, 0, 0)) := rfl
set_option maxRecDepth 20000 in
theorem p205_466 : vm_P 205 466 = some (vm_m205, (466, .iadd, 1, 0, 0, 0)) := rfl
set_option maxRecDepth 20000 in
theorem p205_467 : vm_P 205 467 = some (vm_m205, (467, .iaload, 1, 0, 0, 0)) := rfl
set_option maxRecDepth 20000 in
theorem p205_468 : vm_P 205 468 = some (vm_m205, (468, .invokevirtual 64, 3, 0, 173, 1003)) := rfl
set_option maxRecDepth 20000 in
theorem p205_471 : vm_P 205 471 = some (vm_m205, (471, .if_icmp .eq 483, 3, 0, 0, 0)) := rfl
set_option maxRecDepth 20000 in
theorem p205_474 : vm_P 205 474 = some (vm_m205, (474, .iconst 0, 1, 0, 0, 0)) := rfl
set_option maxRecDepth 20000 in
theorem p205_475 : vm_P 205 475 = some (vm_m205, (475, .ireturn, 1, 0, 0, 0)) := rfl
set_option maxRecDepth 20000 in
theorem p205_476 : vm_P 205 476 = some (vm_m205, (476, .aload_n 1, 1, 0, 0, 0)) := rfl
set_option maxRecDepth 20000 in
theorem p205_477 : vm_P 205 477 = some (vm_m205, (477, .invokevirtual 65, 3, 0, 105, 900)) := rfl
set_option maxRecDepth 20000 in
theorem p205_480 : vm_P 205 480 = some (vm_m205, (480, .aload_n 2, 1, 0, 0, 0)) := rfl
set_option maxRecDepth 20000 in
theorem p205_481 : vm_P 205 481 = some (vm_m205, (481, .invokevirtual 68, 3, 0, 174, 1000)) := rfl
set_option maxRecDepth 20000 in
theorem p205_484 : vm_P 205 484 = some (vm_m205, (484, .if_icmp .eq 470, 3, 0, 0, 0)) := rfl
set_option maxRecDepth 20000 in
theorem p205_487 : vm_P 205 487 = some (vm_m205, (487, .iconst 0, 1, 0, 0, 0)) := rfl
set_option maxRecDepth 20000 in
theorem p205_488 : vm_P 205 488 = some (vm_m205, (488, .ireturn, 1, 0, 0, 0)) := rfl
set_option maxRecDepth 20000 in
theorem p205_489 : vm_P 205 489 = some (vm_m205, (489, .aload_n 1, 1, 0, 0, 0)) := rfl
set_option maxRecDepth 20000 in
theorem p205_490 : vm_P 205 490 = some (vm_m205, (490, .aload_n 0, 1, 0, 0, 0)) := rfl
set_option maxRecDepth 20000 in
theorem p205_491 : vm_P 205 491 = some (vm_m205, (491, .iload_n 3, 1, 0, 0, 0)) := rfl
set_option maxRecDepth 20000 in
theorem p205_492 : vm_P 205 492 = some (vm_m205, (492, .iconst 1, 1, 0, 0, 0)) := rfl
set_option maxRecDepth 20000 in
theorem p205_493 : vm_P 205 493 = some (vm_m205, (493, .iadd, 1, 0, 0, 0)) := rfl
set_option maxRecDepth 20000 in
theorem p205_494 : vm_P 205 494 = some (vm_m205, (494, .iaload, 1, 0, 0, 0)) := rfl
set_option maxRecDepth 20000 in
theorem p205_495 : vm_P 205 495 = some (vm_m205, (495, .invokevirtual 69, 3, 0, 106, 901)) := rfl
set_option maxRecDepth 20000 in
theorem p205_498 : vm_P 205 498 = some (vm_m205, (498, .aload_n 2, 1, 0, 0, 0)) := rfl
set_option maxRecDepth 20000 in
theorem p205_499 : vm_P 205 499 = some (vm_m205, (499, .aload_n 0, 1, 0, 0, 0)) := rfl
set_option maxRecDepth 20000 in
theorem p205_500 : vm_P 205 500 = some (vm_m205, (500, .iload_n 3, 1, 0, 0, 0)) := rfl
set_option maxRecDepth 20000 in
theorem p205_501 : vm_P 205 501 = some (vm_m205, (501, .iconst 1, 1, 0, 0, 0)) := rfl
set_option maxRecDepth 20000 in
theorem p205_502 : vm_P 205 502 = some (vm_m205, (502, .iadd, 1, 0, 0, 0)) := rfl
set_option maxRecDepth 20000 in
theorem p205_503 : vm_P 205 503 = some (vm_m205, (503, .iaload, 1, 0, 0, 0)) := rfl
set_option maxRecDepth 20000 in
theorem p205_504 : vm_P 205 504 = some (vm_m205, (504, .invokevirtual 72, 3, 0, 175, 1001)) := rfl
set_option maxRecDepth 20000 in
theorem p205_507 : vm_P 205 507 = some (vm_m205, (507, .if_icmp .eq 447, 3, 0, 0, 0)) := rfl
set_option maxRecDepth 20000 in
theorem p205_510 : vm_P 205 510 = some (vm_m205, (510, .iconst 0, 1, 0, 0, 0)) := rfl
set_option maxRecDepth 20000 in
theorem p205_511 : vm_P 205 511 = some (vm_m205, (511, .ireturn, 1, 0, 0, 0)) := rfl
set_option maxRecDepth 20000 in
theorem p205_512 : vm_P 205 512 = some (vm_m205, (512, .aload_n 1, 1, 0, 0, 0)) := rfl
set_option maxRecDepth 20000 in
theorem p205_513 : vm_P 205 513 = some (vm_m205, (513, .aload_n 0, 1, 0, 0, 0)) := rfl
set_option maxRecDepth 20000 in
theorem p205_514 : vm_P 205 514 = some (vm_m205, (514, .iload_n 3, 1, 0, 0, 0)) := rfl
set_option maxRecDepth 20000 in
theorem p205_515 : vm_P 205 515 = some (vm_m205, (515, .iconst 1, 1, 0, 0, 0)) := rfl
set_option maxRecDepth 20000 in
theorem p205_516 : vm_P 205 516 = some (vm_m205, (516, .iadd, 1, 0, 0, 0)) := rfl
set_option maxRecDepth 20000 in
theorem p205_517 : vm_P 205 517 = some (vm_m205, (517, .iaload, 1, 0, 0, 0)) := rfl
set_option maxRecDepth 20000 in
theorem p205_518 : vm_P 205 518 = some (vm_m205, (518, .aload_n 0, 1, 0, 0, 0)) := rfl
set_option maxRecDepth 20000 in
theorem p205_519 : vm_P 205 519 = some (vm_m205, (519, .iload_n 3, 1, 0, 0, 0)) := rfl
set_option maxRecDepth 20000 in
theorem p205_520 : vm_P 205 520 = some (vm_m205, (520, .iconst 2, 1, 0, 0, 0)) := rfl
set_option maxRecDepth 20000 in
theorem p205_521 : vm_P 205 521 = some (vm_m205, (521, .iadd, 1, 0, 0, 0)) := rfl
set_option maxRecDepth 20000 in
theorem p205_522 : vm_P 205 522 = some (vm_m205, (522, .iaload, 1, 0, 0, 0)) := rfl
set_option maxRecDepth 20000 in
theorem p205_523 : vm_P 205 523 = some (vm_m205, (523, .aload_n 0, 1, 0, 0, 0)) := rfl
set_option maxRecDepth 20000 in
theorem p205_524 : vm_P 205 524 = some (vm_m205, (524, .iload_n 3, 1, 0, 0, 0)) := rfl
set_option maxRecDepth 20000 in
theorem p205_525 : vm_P 205 525 = some (vm_m205, (525, .iconst 3, 1, 0, 0, 0)) := rfl
set_option maxRecDepth 20000 in
theorem p205_526 : vm_P 205 526 = some (vm_m205, (526, .iadd, 1, 0, 0, 0)) := rfl
set_option maxRecDepth 20000 in
theorem p205_527 : vm_P 205 527 = some (vm_m205, (527, .iaload, 1, 0, 0, 0)) := rfl
set_option maxRecDepth 20000 in
theorem p205_528 : vm_P 205 528 = some (vm_m205, (528, .invokevirtual 73, 3, 0, 107, 903)) := rfl
set_option maxRecDepth 20000 in
theorem p205_531 : vm_P 205 531 = some (vm_m205, (531, .aload_n 2, 1, 0, 0, 0)) := rfl
set_option maxRecDepth 20000 in
theorem p205_532 : vm_P 205 532 = some (vm_m205, (532, .aload_n 0, 1, 0, 0, 0)) := rfl
set_option maxRecDepth 20000 in
theorem p205_533 : vm_P 205 533 = some (vm_m205, (533, .iload_n 3, 1, 0, 0, 0)) := rfl
set_option maxRecDepth 20000 in
theorem p205_534 : vm_P 205 534 = some (vm_m205, (534, .iconst 1, 1, 0, 0, 0)) := rfl
set_option maxRecDepth 20000 in
theorem p205_535 : vm_P 205 535 = some (vm_m205, (535, .iadd, 1, 0, 0, 0)) := rfl
set_option maxRecDepth 20000 in
theorem p205_536 : vm_P 205 536 = some (vm_m205, (536, .iaload, 1, 0, 0, 0)) := rfl
set_option maxRecDepth 20000 in
theorem p205_537 : vm_P 205 537 = some (vm_m205, (537, .aload_n 0, 1, 0, 0, 0)) := rfl
set_option maxRecDepth 20000 in
theorem p205_538 : vm_P 205 538 = some (vm_m205, (538, .iload_n 3, 1, 0, 0, 0)) := rfl
set_option maxRecDepth 20000 in
theorem p205_539 : vm_P 205 539 = some (vm_m205, (539, .iconst 2, 1, 0, 0, 0)) := rfl
set_option maxRecDepth 20000 in
theorem p205_540 : vm_P 205 540 = some (vm_m205, (540, .iadd, 1, 0, 0, 0)) := rfl
set_option maxRecDepth 20000 in
theorem p205_541 : vm_P 205 541 = some (vm_m205, (541, .iaload, 1, 0, 0, 0)) := rfl
set_option maxRecDepth 20000 in
theorem p205_542 : vm_P 205 542 = some (vm_m205, (542, .aload_n 0, 1, 0, 0, 0)) := rfl
set_option maxRecDepth 20000 in
theorem p205_543 : vm_P 205 543 = some (vm_m205, (543, .iload_n 3, 1, 0, 0, 0)) := rfl
set_option maxRecDepth 20000 in
theorem p205_544 : vm_P 205 544 = some (vm_m205, (544, .iconst 3, 1, 0, 0, 0)) := rfl
set_option maxRecDepth 20000 in
theorem p205_545 : vm_P 205 545 = some (vm_m205, (545, .iadd, 1, 0, 0, 0)) := rfl
set_option maxRecDepth 20000 in
theorem p205_546 : vm_P 205 546 = some (vm_m205, (546, .iaload, 1, 0, 0, 0)) := rfl
set_option maxRecDepth 20000 in
theorem p205_547 : vm_P 205 547 = some (vm_m205, (547, .invokevirtual 76, 3, 0, 180, 1003)) := rfl
set_option maxRecDepth 20000 in
theorem p205_550 : vm_P 205 550 = some (vm_m205, (550, .if_icmp .eq 404, 3, 0, 0, 0)) := rfl
set_option maxRecDepth 20000 in
theorem p205_553 : vm_P 205 553 = some (vm_m205, (553, .iconst 0, 1, 0, 0, 0)) := rfl
set_option maxRecDepth 20000 in
theorem p205_554 : vm_P 205 554 = some (vm_m205, (554, .ireturn, 1, 0, 0, 0)) := rfl
set_option maxRecDepth 20000 in
theorem p205_555 : vm_P 205 555 = some (vm_m205, (555, .aload_n 1, 1, 0, 0, 0)) := rfl
set_option maxRecDepth 20000 in
theorem p205_556 : vm_P 205 556 = some (vm_m205, (556, .aload_n 0, 1, 0, 0, 0)) := rfl
set_option maxRecDepth 20000 in
theorem p205_557 : vm_P 205 557 = some (vm_m205, (557, .iload_n 3, 1, 0, 0, 0)) := rfl
set_option maxRecDepth 20000 in
theorem p205_558 : vm_P 205 558 = some (vm_m205, (558, .iconst 1, 1, 0, 0, 0)) := rfl
set_option maxRecDepth 20000 in
theorem p205_559 : vm_P 205 559 = some (vm_m205, (559, .iadd, 1, 0, 0, 0)) := rfl
set_option maxRecDepth 20000 in
theorem p205_560 : vm_P 205 560 = some (vm_m205, (560, .iaload, 1, 0, 0, 0)) := rfl
set_option maxRecDepth 20000 in
theorem p205_561 : vm_P 205 561 = some (vm_m205, (561, .aload_n 0, 1, 0, 0, 0)) := rfl
set_option maxRecDepth 20000 in
theorem p205_562 : vm_P 205 562 = some (vm_m205, (562, .iload_n 3, 1, 0, 0, 0)) := rfl
set_option maxRecDepth 20000 in
theorem p205_563 : vm_P 205 563 = some (vm_m205, (563, .iconst 2, 1, 0, 0, 0)) := rfl
set_option maxRecDepth 20000 in
theorem p205_564 : vm_P 205 564 = some (vm_m205, (564, .iadd, 1, 0, 0, 0)) := rfl
set_option maxRecDepth 20000 in
theorem p205_565 : vm_P 205 565 = some (vm_m205, (565, .iaload, 1, 0, 0, 0)) := rfl
set_option maxRecDepth 20000 in
theorem p205_566 : vm_P 205 566 = some (vm_m205, (566, .aload_n 0, 1, 0, 0, 0)) := rfl
set_option maxRecDepth 20000 in
theorem p205_567 : vm_P 205 567 = some (vm_m205, (567, .iload_n 3, 1, 0, 0, 0)) := rfl
set_option maxRecDepth 20000 in
theorem p205_568 : vm_P 205 568 = some (vm_m205, (568, .iconst 3, 1, 0, 0, 0)) := rfl
set_option maxRecDepth 20000 in
theorem p205_569 : vm_P 205 569 = some (vm_m205, (569, .iadd, 1, 0, 0, 0)) := rfl
set_option maxRecDepth 20000 in
theorem p205_570 : vm_P 205 570 = some (vm_m205, (570, .iaload, 1, 0, 0, 0)) := rfl
set_option maxRecDepth 20000 in
theorem p205_571 : vm_P 205 571 = some (vm_m205, (571, .invokevirtual 77, 3, 0, 108, 903)) := rfl
set_option maxRecDepth 20000 in
theorem p205_574 : vm_P 205 574 = some (vm_m205, (574, .aload_n 2, 1, 0, 0, 0)) := rfl
set_option maxRecDepth 20000 in
theorem p205_575 : vm_P 205 575 = some (vm_m205, (575, .aload_n 0, 1, 0, 0, 0)) := rfl
set_option maxRecDepth 20000 in
theorem p205_576 : vm_P 205 576 = some (vm_m205, (576, .iload_n 3, 1, 0, 0, 0)) := rfl
set_option maxRecDepth 20000 in
theorem p205_577 : vm_P 205 577 = some (vm_m205, (577, .iconst 1, 1, 0, 0, 0)) := rfl
set_option maxRecDepth 20000 in
theorem p205_578 : vm_P 205 578 = some (vm_m205, (578, .iadd, 1, 0, 0, 0)) := rfl
set_option maxRecDepth 20000 in
theorem p205_579 : vm_P 205 579 = some (vm_m205, (579, .iaload, 1, 0, 0, 0)) := rfl
set_option maxRecDepth 20000 in
theorem p205_580 : vm_P 205 580 = some (vm_m205, (580, .aload_n 0, 1, 0, 0, 0)) := rfl
set_option maxRecDepth 20000 in
theorem p205_581 : vm_P 205 581 = some (vm_m205, (581, .iload_n 3, 1, 0, 0, 0)) := rfl
set_option maxRecDepth 20000 in
theorem p205_582 : vm_P 205 582 = some (vm_m205, (582, .iconst 2, 1, 0, 0, 0)) := rfl
set_option maxRecDepth 20000 in
theorem p205_583 : vm_P 205 583 = some (vm_m205, (583, .iadd, 1, 0, 0, 0)) := rfl
set_option maxRecDepth 20000 in
theorem p205_584 : vm_P 205 584 = some (vm_m205, (584, .iaload, 1, 0, 0, 0)) := rfl
set_option maxRecDepth 20000 in
theorem p205_585 : vm_P 205 585 = some (vm_m205, (585, .aload_n 0, 1, 0, 0, 0)) := rfl
set_option maxRecDepth 20000 in
theorem p205_586 : vm_P 205 586 = some (vm_m205, (586, .iload_n 3, 1, 0, 0, 0)) := rfl
set_option maxRecDepth 20000 in
theorem p205_587 : vm_P 205 587 = some (vm_m205, (587, .iconst 3, 1, 0, 0, 0)) := rfl
set_option maxRecDepth 20000 in
theorem p205_588 : vm_P 205 588 = some (vm_m205, (588, .iadd, 1, 0, 0, 0)) := rfl
set_option maxRecDepth 20000 in
theorem p205_589 : vm_P 205 589 = some (vm_m205, (589, .iaload, 1, 0, 0, 0)) := rfl
set_option maxRecDepth 20000 in
theorem p205_590 : vm_P 205 590 = some (vm_m205, (590, .invokevirtual 80, 3, 0, 183, 1003)) := rfl
set_option maxRecDepth 20000 in
theorem p205_593 : vm_P 205 593 = some (vm_m205, (593, .if_icmp .eq 361, 3, 0, 0, 0)) := rfl
set_option maxRecDepth 20000 in
theorem p205_596 : vm_P 205 596 = some (vm_m205, (596, .iconst 0, 1, 0, 0, 0)) := rfl
set_option maxRecDepth 20000 in
theorem p205_597 : vm_P 205 597 = some (vm_m205, (597, .ireturn, 1, 0, 0, 0)) := rfl
set_option maxRecDepth 20000 in
theorem p205_598 : vm_P 205 598 = some (vm_m205, (598, .aload_n 1, 1, 0, 0, 0)) := rfl
set_option maxRecDepth 20000 in
theorem p205_599 : vm_P 205 599 = some (vm_m205, (599, .aload_n 0, 1, 0, 0, 0)) := rfl
set_option maxRecDepth 20000 in
theorem p205_600 : vm_P 205 600 = some (vm_m205, (600, .iload_n 3, 1, 0, 0, 0)) := rfl
set_option maxRecDepth 20000 in
theorem p205_601 : vm_P 205 601 = some (vm_m205, (601, .iconst 1, 1, 0, 0, 0)) := rfl
set_option maxRecDepth 20000 in
theorem p205_602 : vm_P 205 602 = some (vm_m205, (602, .iadd, 1, 0, 0, 0)) := rfl
set_option maxRecDepth 20000 in
theorem p205_603 : vm_P 205 603 = some (vm_m205, (603, .iaload, 1, 0, 0, 0)) := rfl
set_option maxRecDepth 20000 in
theorem p205_604 : vm_P 205 604 = some (vm_m205, (604, .aload_n 0, 1, 0, 0, 0)) := rfl
set_option maxRecDepth 20000 in
theorem p205_605 : vm_P 205 605 = some (vm_m205, (605, .iload_n 3, 1, 0, 0, 0)) := rfl
set_option maxRecDepth 20000 in
theorem p205_606 : vm_P 205 606 = some (vm_m205, (606, .iconst 2, 1, 0, 0, 0)) := rfl
set_option maxRecDepth 20000 in
theorem p205_607 : vm_P 205 607 = some (vm_m205, (607, .iadd, 1, 0, 0, 0)) := rfl
set_option maxRecDepth 20000 in
theorem p205_608 : vm_P 205 608 = some (vm_m205, (608, .iaload, 1, 0, 0, 0)) := rfl
set_option maxRecDepth 20000 in
theorem p205_609 : vm_P 205 609 = some (vm_m205, (609, .aload_n 0, 1, 0, 0, 0)) := rfl
set_option maxRecDepth 20000 in
theorem p205_610 : vm_P 205 610 = some (vm_m205, (610, .iload_n 3, 1, 0, 0, 0)) := rfl
set_option maxRecDepth 20000 in
theorem p205_611 : vm_P 205 611 = some (vm_m205, (611, .iconst 3, 1, 0, 0, 0)) := rfl
set_option maxRecDepth 20000 in
theorem p205_612 : vm_P 205 612 = some (vm_m205, (612, .iadd, 1, 0, 0, 0)) := rfl
set_option maxRecDepth 20000 in
theorem p205_613 : vm_P 205 613 = some (vm_m205, (613, .iaload, 1, 0, 0, 0)) := rfl
set_option maxRecDepth 20000 in
theorem p205_614 : vm_P 205 614 = some (vm_m205, (614, .invokevirtual 81, 3, 0, 109, 903)) := rfl
set_option maxRecDepth 20000 in
theorem p205_617 : vm_P 205 617 = some (vm_m205, (617, .aload_n 2, 1, 0, 0, 0)) := rfl
set_option maxRecDepth 20000 in
theorem p205_618 : vm_P 205 618 = some (vm_m205, (618, .aload_n 0, 1, 0, 0, 0)) := rfl
set_option maxRecDepth 20000 in
theorem p205_619 : vm_P 205 619 = some (vm_m205, (619, .iload_n 3, 1, 0, 0, 0)) := rfl
set_option maxRecDepth 20000 in
theorem p205_620 : vm_P 205 620 = some (vm_m205, (620, .iconst 1, 1, 0, 0, 0)) := rfl
set_option maxRecDepth 20000 in
theorem p205_621 : vm_P 205 621 = some (vm_m205, (621, .iadd, 1, 0, 0, 0)) := rfl
set_option maxRecDepth 20000 in
theorem p205_622 : vm_P 205 622 = some (vm_m205, (622, .iaload, 1, 0, 0, 0)) := rfl
set_option maxRecDepth 20000 in
theorem p205_623 : vm_P 205 623 = some (vm_m205, (623, .aload_n 0, 1, 0, 0, 0)) := rfl
set_option maxRecDepth 20000 in
theorem p205_624 : vm_P 205 624 = some (vm_m205, (624, .iload_n 3, 1, 0, 0, 0)) := rfl
set_option maxRecDepth 20000 in
theorem p205_625 : vm_P 205 625 = some (vm_m205, (625, .iconst 2, 1, 0, 0, 0)) := rfl
set_option maxRecDepth 20000 in
theorem p205_626 : vm_P 205 626 = some (vm_m205, (626, .iadd, 1, 0, 0, 0)) := rfl
set_option maxRecDepth 20000 in
theorem p205_627 : vm_P 205 627 = some (vm_m205, (627, .iaload, 1, 0, 0, 0)) := rfl
set_option maxRecDepth 20000 in
theorem p205_628 : vm_P 205 628 = some (vm_m205, (628, .aload_n 0, 1, 0, 0, 0)) := rfl
set_option maxRecDepth 20000 in
theorem p205_629 : vm_P 205 629 = some (vm_m205, (629, .iload_n 3, 1, 0, 0, 0)) := rfl
set_option maxRecDepth 20000 in
theorem p205_630 : vm_P 205 630 = some (vm_m205, (630, .iconst 3, 1, 0, 0, 0)) := rfl
set_option maxRecDepth 20000 in
theorem p205_631 : vm_P 205 631 = some (vm_m205, (631, .iadd, 1, 0, 0, 0)) := rfl
set_option maxRecDepth 20000 in
theorem p205_632 : vm_P 205 632 = some (vm_m205, (632, .iaload, 1, 0, 0, 0)) := rfl
set_option maxRecDepth 20000 in
theorem p205_633 : vm_P 205 633 = some (vm_m205, (633, .invokevirtual 84, 3, 0, 186, 1003)) := rfl
set_option maxRecDepth 20000 in
theorem p205_636 : vm_P 205 636 = some (vm_m205, (636, .if_icmp .eq 318, 3, 0, 0, 0)) := rfl
set_option maxRecDepth 20000 in
theorem p205_639 : vm_P 205 639 = some (vm_m205, (639, .iconst 0, 1, 0, 0, 0)) := rfl
set_option maxRecDepth 20000 in
theorem p205_640 : vm_P 205 640 = some (vm_m205, (640, .ireturn, 1, 0, 0, 0)) := rfl
set_option maxRecDepth 20000 in
theorem p205_641 : vm_P 205 641 = some (vm_m205, (641, .aload_n 1, 1, 0, 0, 0)) := rfl
set_option maxRecDepth 20000 in
theorem p205_642 : vm_P 205 642 = some (vm_m205, (642, .aload_n 0, 1, 0, 0, 0)) := rfl
set_option maxRecDepth 20000 in
theorem p205_643 : vm_P 205 643 = some (vm_m205, (643, .iload_n 3, 1, 0, 0, 0)) := rfl
set_option maxRecDepth 20000 in
theorem p205_644 : vm_P 205 644 = some (vm_m205, (644, .iconst 1, 1, 0, 0, 0)) := rfl
set_option maxRecDepth 20000 in
theorem p205_645 : vm_P 205 645 = some (vm_m205, (645, .iadd, 1, 0, 0, 0)) := rfl
set_option maxRecDepth 20000 in
theorem p205_646 : vm_P 205 646 = some (vm_m205, (646, .iaload, 1, 0, 0, 0)) := rfl
set_option maxRecDepth 20000 in
theorem p205_647 : vm_P 205 647 = some (vm_m205, (647, .invokevirtual 85, 3, 0, 110, 901)) := rfl
set_option maxRecDepth 20000 in
theorem p205_650 : vm_P 205 650 = some (vm_m205, (650, .aload_n 2, 1, 0, 0, 0)) := rfl
set_option maxRecDepth 20000 in
theorem p205_651 : vm_P 205 651 = some (vm_m205, (651, .aload_n 0, 1, 0, 0, 0)) := rfl
set_option maxRecDepth 20000 in
theorem p205_652 : vm_P 205 652 = some (vm_m205, (652, .iload_n 3, 1, 0, 0, 0)) := rfl
set_option maxRecDepth 20000 in
theorem p205_653 : vm_P 205 653 = some (vm_m205, (653, .iconst 1, 1, 0, 0, 0)) := rfl
set_option maxRecDepth 20000 in
theorem p205_654 : vm_P 205 654 = some (vm_m205, (654, .iadd, 1, 0, 0, 0)) := rfl
set_option maxRecDepth 20000 in
theorem p205_655 : vm_P 205 655 = some (vm_m205, (655, .iaload, 1, 0, 0, 0)) := rfl
set_option maxRecDepth 20000 in
theorem p205_656 : vm_P 205 656 = some (vm_m205, (656, .invokevirtual 88, 3, 0, 187, 1001)) := rfl
set_option maxRecDepth 20000 in
theorem p205_659 : vm_P 205 659 = some (vm_m205, (659, .if_icmp .eq 295, 3, 0, 0, 0)) := rfl
set_option maxRecDepth 20000 in
theorem p205_662 : vm_P 205 662 = some (vm_m205, (662, .iconst 0, 1, 0, 0, 0)) := rfl
set_option maxRecDepth 20000 in
theorem p205_663 : vm_P 205 663 = some (vm_m205, (663, .ireturn, 1, 0, 0, 0)) := rfl
set_option maxRecDepth 20000 in
theorem p205_664 : vm_P 205 664 = some (vm_m205, (664, .aload_n 1, 1, 0, 0, 0)) := rfl
set_option maxRecDepth 20000 in
theorem p205_665 : vm_P 205 665 = some (vm_m205, (665, .aload_n 0, 1, 0, 0, 0)) := rfl
set_option maxRecDepth 20000 in
theorem p205_666 : vm_P 205 666 = some (vm_m205, (666, .iload_n 3, 1, 0, 0, 0)) := rfl
set_option maxRecDepth 20000 in
theorem p205_667 : vm_P 205 667 = some (vm_m205, (667, .iconst 1, 1, 0, 0, 0)) := rfl
set_option maxRecDepth 20000 in
theorem p205_668 : vm_P 205 668 = some (vm_m205, (668, .iadd, 1, 0, 0, 0)) := rfl
set_option maxRecDepth 20000 in
theorem p205_669 : vm_P 205 669 = some (vm_m205, (669, .iaload, 1, 0, 0, 0)) := rfl
set_option maxRecDepth 20000 in
theorem p205_670 : vm_P 205 670 = some (vm_m205, (670, .aload_n 0, 1, 0, 0, 0)) := rfl
set_option maxRecDepth 20000 in
theorem p205_671 : vm_P 205 671 = some (vm_m205, (671, .iload_n 3, 1, 0, 0, 0)) := rfl
set_option maxRecDepth 20000 in
theorem p205_672 : vm_P 205 672 = some (vm_m205, (672, .iconst 2, 1, 0, 0, 0)) := rfl
set_option maxRecDepth 20000 in
theorem p205_673 : vm_P 205 673 = some (vm_m205, (673, .iadd, 1, 0, 0, 0)) := rfl
set_option maxRecDepth 20000 in
theorem p205_674 : vm_P 205 674 = some (vm_m205, (674, .iaload, 1, 0, 0, 0)) := rfl
set_option maxRecDepth 20000 in
theorem p205_675 : vm_P 205 675 = some (vm_m205, (675, .aload_n 0, 1, 0, 0, 0)) := rfl
set_option maxRecDepth 20000 in
theorem p205_676 : vm_P 205 676 = some (vm_m205, (676, .iload_n 3, 1, 0, 0, 0)) := rfl
set_option maxRecDepth 20000 in
theorem p205_677 : vm_P 205 677 = some (vm_m205, (677, .iconst 3, 1, 0, 0, 0)) := rfl
set_option maxRecDepth 20000 in
theorem p205_678 : vm_P 205 678 = some (vm_m205, (678, .iadd, 1, 0, 0, 0)) := rfl
set_option maxRecDepth 20000 in
theorem p205_679 : vm_P 205 679 = some (vm_m205, (679, .iaload, 1, 0, 0, 0)) := rfl
set_option maxRecDepth 20000 in
theorem p205_680 : vm_P 205 680 = some (vm_m205, (680, .invokevirtual 89, 3, 0, 111, 903)) := rfl
set_option maxRecDepth 20000 in
theorem p205_683 : vm_P 205 683 = some (vm_m205, (683, .aload_n 2, 1, 0, 0, 0)) := rfl
set_option maxRecDepth 20000 in
theorem p205_684 : vm_P 205 684 = some (vm_m205, (684, .aload_n 0, 1, 0, 0, 0)) := rfl
set_option maxRecDepth 20000 in
theorem p205_685 : vm_P 205 685 = some (vm_m205, (685, .iload_n 3, 1, 0, 0, 0)) := rfl
set_option maxRecDepth 20000 in
theorem p205_686 : vm_P 205 686 = some (vm_m205, (686, .iconst 1, 1, 0, 0, 0)) := rfl
set_option maxRecDepth 20000 in
theorem p205_687 : vm_P 205 687 = some (vm_m205, (687, .iadd, 1, 0, 0, 0)) := rfl
set_option maxRecDepth 20000 in
theorem p205_688 : vm_P 205 688 = some (vm_m205, (688, .iaload, 1, 0, 0, 0)) := rfl
set_option maxRecDepth 20000 in
theorem p205_689 : vm_P 205 689 = some (vm_m205, (689, .aload_n 0, 1, 0, 0, 0)) := rfl
set_option maxRecDepth 20000 in
theorem p205_690 : vm_P 205 690 = some (vm_m205, (690, .iload_n 3, 1, 0, 0, 0)) := rfl
set_option maxRecDepth 20000 in
theorem p205_691 : vm_P 205 691 = some (vm_m205, (691, .iconst 2, 1, 0, 0, 0)) := rfl
set_option maxRecDepth 20000 in
theorem p205_692 : vm_P 205 692 = some (vm_m205, (692, .iadd, 1, 0, 0, 0)) := rfl
set_option maxRecDepth 20000 in
theorem p205_693 : vm_P 205 693 = some (vm_m205, (693, .iaload, 1, 0, 0, 0)) := rfl
set_option maxRecDepth 20000 in
theorem p205_694 : vm_P 205 694 = some (vm_m205, (694, .aload_n 0, 1, 0, 0, 0)) := rfl
set_option maxRecDepth 20000 in
theorem p205_695 : vm_P 205 695 = some (vm_m205, (695, .iload_n 3, 1, 0, 0, 0)) := rfl
set_option maxRecDepth 20000 in
theorem p205_696 : vm_P 205 696 = some (vm_m205, (696, .iconst 3, 1, 0, 0, 0)) := rfl
set_option maxRecDepth 20000 in
theorem p205_697 : vm_P 205 697 = some (vm_m205, (697, .iadd, 1, 0, 0, 0)) := rfl
set_option maxRecDepth 20000 in
theorem p205_698 : vm_P 205 698 = some (vm_m205, (698, .iaload, 1, 0, 0, 0)) := rfl
set_option maxRecDepth 20000 in
theorem p205_699 : vm_P 205 699 = some (vm_m205, (699, .invokevirtual 92, 3, 0, 189, 1003)) := rfl
set_option maxRecDepth 20000 in
theorem p205_702 : vm_P 205 702 = some (vm_m205, (702, .if_icmp .eq 252, 3, 0, 0, 0)) := rfl
set_option maxRecDepth 20000 in
theorem p205_705 : vm_P 205 705 = some (vm_m205, (705, .iconst 0, 1, 0, 0, 0)) := rfl
set_option maxRecDepth 20000 in
theorem p205_706 : vm_P 205 706 = some (vm_m205, (706, .ireturn, 1, 0, 0, 0)) := rfl
set_option maxRecDepth 20000 in
theorem p205_707 : vm_P 205 707 = some (vm_m205, (707, .aload_n 1, 1, 0, 0, 0)) := rfl
set_option maxRecDepth 20000 in
theorem p205_708 : vm_P 205 708 = some (vm_m205, (708, .aload_n 0, 1, 0, 0, 0)) := rfl
set_option maxRecDepth 20000 in
theorem p205_709 : vm_P 205 709 = some (vm_m205, (709, .iload_n 3, 1, 0, 0, 0)) := rfl
set_option maxRecDepth 20000 in
theorem p205_710 : vm_P 205 710 = some (vm_m205, (710, .iconst 1, 1, 0, 0, 0)) := rfl
set_option maxRecDepth 20000 in
theorem p205_711 : vm_P 205 711 = some (vm_m205, (711, .iadd, 1, 0, 0, 0)) := rfl
set_option maxRecDepth 20000 in
theorem p205_712 : vm_P 205 712 = some (vm_m205, (712, .iaload, 1, 0, 0, 0)) := rfl
set_option maxRecDepth 20000 in
theorem p205_713 : vm_P 205 713 = some (vm_m205, (713, .invokevirtual 93, 3, 0, 112, 901)) := rfl
set_option maxRecDepth 20000 in
theorem p205_716 : vm_P 205 716 = some (vm_m205, (716, .aload_n 2, 1, 0, 0, 0)) := rfl
set_option maxRecDepth 20000 in
theorem p205_717 : vm_P 205 717 = some (vm_m205, (717, .aload_n 0, 1, 0, 0, 0)) := rfl
set_option maxRecDepth 20000 in
theorem p205_718 : vm_P 205 718 = some (vm_m205, (718, .iload_n 3, 1, 0, 0, 0)) := rfl
set_option maxRecDepth 20000 in
theorem p205_719 : vm_P 205 719 = some (vm_m205, (719, .iconst 1, 1, 0, 0, 0)) := rfl
set_option maxRecDepth 20000 in
theorem p205_720 : vm_P 205 720 = some (vm_m205, (720, .iadd, 1, 0, 0, 0)) := rfl
set_option maxRecDepth 20000 in
theorem p205_721 : vm_P 205 721 = some (vm_m205, (721, .iaload, 1, 0, 0, 0)) := rfl
set_option maxRecDepth 20000 in
theorem p205_722 : vm_P 205 722 = some (vm_m205, (722, .invokevirtual 96, 3, 0, 190, 1001)) := rfl
set_option maxRecDepth 20000 in
theorem p205_725 : vm_P 205 725 = some (vm_m205, (725, .if_icmp .eq 229, 3, 0, 0, 0)) := rfl
set_option maxRecDepth 20000 in
theorem p205_728 : vm_P 205 728 = some (vm_m205, (728, .iconst 0, 1, 0, 0, 0)) := rfl
set_option maxRecDepth 20000 in
theorem p205_729 : vm_P 205 729 = some (vm_m205, (729, .ireturn, 1, 0, 0, 0)) := rfl
set_option maxRecDepth 20000 in
theorem p205_730 : vm_P 205 730 = some (vm_m205, (730, .aload_n 1, 1, 0, 0, 0)) := rfl
set_option maxRecDepth 20000 in
theorem p205_731 : vm_P 205 731 = some (vm_m205, (731, .invokevirtual 97, 3, 0, 113, 900)) := rfl
set_option maxRecDepth 20000 in
theorem p205_734 : vm_P 205 734 = some (vm_m205, (734, .aload_n 2, 1, 0, 0, 0)) := rfl
set_option maxRecDepth 20000 in
theorem p205_735 : vm_P 205 735 = some (vm_m205, (735, .invokevirtual 100, 3, 0, 191, 1000)) := rfl
set_option maxRecDepth 20000 in
theorem p205_738 : vm_P 205 738 = some (vm_m205, (738, .if_icmp .eq 216, 3, 0, 0, 0)) := rfl
set_option maxRecDepth 20000 in
theorem p205_741 : vm_P 205 741 = some (vm_m205, (741, .iconst 0, 1, 0, 0, 0)) := rfl
set_option maxRecDepth 20000 in
theorem p205_742 : vm_P 205 742 = some (vm_m205, (742, .ireturn, 1, 0, 0, 0)) := rfl
set_option maxRecDepth 20000 in
theorem p205_743 : vm_P 205 743 = some (vm_m205, (743, .aload_n 1, 1, 0, 0, 0)) := rfl
set_option maxRecDepth 20000 in
theorem p205_744 : vm_P 205 744 = some (vm_m205, (744, .aload_n 0, 1, 0, 0, 0)) := rfl
set_option maxRecDepth 20000 in
theorem p205_745 : vm_P 205 745 = some (vm_m205, (745, .iload_n 3, 1, 0, 0, 0)) := rfl
set_option maxRecDepth 20000 in
theorem p205_746 : vm_P 205 746 = some (vm_m205, (746, .iconst 1, 1, 0, 0, 0)) := rfl
set_option maxRecDepth 20000 in
theorem p205_747 : vm_P 205 747 = some (vm_m205, (747, .iadd, 1, 0, 0, 0)) := rfl
set_option maxRecDepth 20000 in
theorem p205_748 : vm_P 205 748 = some (vm_m205, (748, .iaload, 1, 0, 0, 0)) := rfl
set_option maxRecDepth 20000 in
theorem p205_749 : vm_P 205 749 = some (vm_m205, (749, .invokevirtual 101, 3, 0, 114, 901)) := rfl
set_option maxRecDepth 20000 in
theorem p205_752 : vm_P 205 752 = some (vm_m205, (752, .aload_n 2, 1, 0, 0, 0)) := rfl
set_option maxRecDepth 20000 in
theorem p205_753 : vm_P 205 753 = some (vm_m205, (753, .aload_n 0, 1, 0, 0, 0)) := rfl
set_option maxRecDepth 20000 in
theorem p205_754 : vm_P 205 754 = some (vm_m205, (754, .iload_n 3, 1, 0, 0, 0)) := rfl
set_option maxRecDepth 20000 in
theorem p205_755 : vm_P 205 755 = some (vm_m205, (755, .iconst 1, 1, 0, 0, 0)) := rfl
set_option maxRecDepth 20000 in
theorem p205_756 : vm_P 205 756 = some (vm_m205, (756, .iadd, 1, 0, 0, 0)) := rfl
set_option maxRecDepth 20000 in
theorem p205_757 : vm_P 205 757 = some (vm_m205, (757, .iaload, 1, 0, 0, 0)) := rfl
set_option maxRecDepth 20000 in
theorem p205_758 : vm_P 205 758 = some (vm_m205, (758, .invokevirtual 104, 3, 0, 192, 1001)) := rfl
set_option maxRecDepth 20000 in
theorem p205_761 : vm_P 205 761 = some (vm_m205, (761, .if_icmp .eq 193, 3, 0, 0, 0)) := rfl
set_option maxRecDepth 20000 in
theorem p205_764 : vm_P 205 764 = some (vm_m205, (764, .iconst 0, 1, 0, 0, 0)) := rfl
set_option maxRecDepth 20000 in
theorem p205_765 : vm_P 205 765 = some (vm_m205, (765, .ireturn, 1, 0, 0, 0)) := rfl
set_option maxRecDepth 20000 in
theorem p205_766 : vm_P 205 766 = some (vm_m205, (766, .aload_n 1, 1, 0, 0, 0)) := rfl
set_option maxRecDepth 20000 in
theorem p205_767 : vm_P 205 767 = some (vm_m205, (767, .aload_n 0, 1, 0, 0, 0)) := rfl
set_option maxRecDepth 20000 in
theorem p205_768 : vm_P 205 768 = some (vm_m205, (768, .iload_n 3, 1, 0, 0, 0)) := rfl
set_option maxRecDepth 20000 in
theorem p205_769 : vm_P 205 769 = some (vm_m205, (769, .iconst 1, 1, 0, 0, 0)) := rfl
set_option maxRecDepth 20000 in
theorem p205_770 : vm_P 205 770 = some (vm_m205, (770, .iadd, 1, 0, 0, 0)) := rfl
set_option maxRecDepth 20000 in
theorem p205_771 : vm_P 205 771 = some (vm_m205, (771, .iaload, 1, 0, 0, 0)) := rfl
set_option maxRecDepth 20000 in
theorem p205_772 : vm_P 205 772 = some (vm_m205, (772, .aload_n 0, 1, 0, 0, 0)) := rfl
set_option maxRecDepth 20000 in
theorem p205_773 : vm_P 205 773 = some (vm_m205, (773, .iload_n 3, 1, 0, 0, 0)) := rfl
set_option maxRecDepth 20000 in
theorem p205_774 : vm_P 205 774 = some (vm_m205, (774, .iconst 2, 1, 0, 0, 0)) := rfl
set_option maxRecDepth 20000 in
theorem p205_775 : vm_P 205 775 = some (vm_m205, (775, .iadd, 1, 0, 0, 0)) := rfl
set_option maxRecDepth 20000 in
theorem p205_776 : vm_P 205 776 = some (vm_m205, (776, .iaload, 1, 0, 0, 0)) := rfl
set_option maxRecDepth 20000 in
theorem p205_777 : vm_P 205 777 = some (vm_m205, (777, .aload_n 0, 1, 0, 0, 0)) := rfl
set_option maxRecDepth 20000 in
theorem p205_778 : vm_P 205 778 = some (vm_m205, (778, .iload_n 3, 1, 0, 0, 0)) := rfl
set_option maxRecDepth 20000 in
theorem p205_779 : vm_P 205 779 = some (vm_m205, (779, .iconst 3, 1, 0, 0, 0)) := rfl
set_option maxRecDepth 20000 in
theorem p205_780 : vm_P 205 780 = some (vm_m205, (780, .iadd, 1, 0, 0, 0)) := rfl
set_option maxRecDepth 20000 in
theorem p205_781 : vm_P 205 781 = some (vm_m205, (781, .iaload, 1, 0, 0, 0)) := rfl
set_option maxRecDepth 20000 in
theorem p205_782 : vm_P 205 782 = some (vm_m205, (782, .invokevirtual 105, 3, 0, 115, 903)) := rfl
set_option maxRecDepth 20000 in
theorem p205_785 : vm_P 205 785 = some (vm_m205, (785, .aload_n 2, 1, 0, 0, 0)) := rfl
set_option maxRecDepth 20000 in
theorem p205_786 : vm_P 205 786 = some (vm_m205, (786, .aload_n 0, 1, 0, 0, 0)) := rfl
set_option maxRecDepth 20000 in
theorem p205_787 : vm_P 205 787 = some (vm_m205, (787, .iload_n 3, 1, 0, 0, 0)) := rfl
set_option maxRecDepth 20000 in
theorem p205_788 : vm_P 205 788 = some (vm_m205, (788, .iconst 1, 1, 0, 0, 0)) := rfl
set_option maxRecDepth 20000 in
theorem p205_789 : vm_P 205 789 = some (vm_m205, (789, .iadd, 1, 0, 0, 0)) := rfl
set_option maxRecDepth 20000 in
theorem p205_790 : vm_P 205 790 = some (vm_m205, (790, .iaload, 1, 0, 0, 0)) := rfl
set_option maxRecDepth 20000 in
theorem p205_791 : vm_P 205 791 = some (vm_m205, (791, .aload_n 0, 1, 0, 0, 0)) := rfl
set_option maxRecDepth 20000 in
theorem p205_792 : vm_P 205 792 = some (vm_m205, (792, .iload_n 3, 1, 0, 0, 0)) := rfl
set_option maxRecDepth 20000 in
theorem p205_793 : vm_P 205 793 = some (vm_m205, (793, .iconst 2, 1, 0, 0, 0)) := rfl
set_option maxRecDepth 20000 in
theorem p205_794 : vm_P 205 794 = some (vm_m205, (794, .iadd, 1, 0, 0, 0)) := rfl
set_option maxRecDepth 20000 in
theorem p205_795 : vm_P 205 795 = some (vm_m205, (795, .iaload, 1, 0, 0, 0)) := rfl
set_option maxRecDepth 20000 in
theorem p205_796 : vm_P 205 796 = some (vm_m205, (796, .aload_n 0, 1, 0, 0, 0)) := rfl
set_option maxRecDepth 20000 in
theorem p205_797 : vm_P 205 797 = some (vm_m205, (797, .iload_n 3, 1, 0, 0, 0)) := rfl
set_option maxRecDepth 20000 in
theorem p205_798 : vm_P 205 798 = some (vm_m205, (798, .iconst 3, 1, 0, 0, 0)) := rfl
set_option maxRecDepth 20000 in
theorem p205_799 : vm_P 205 799 = some (vm_m205, (799, .iadd, 1, 0, 0, 0)) := rfl
set_option maxRecDepth 20000 in
theorem p205_800 : vm_P 205 800 = some (vm_m205, (800, .iaload, 1, 0, 0, 0)) := rfl
set_option maxRecDepth 20000 in
theorem p205_801 : vm_P 205 801 = some (vm_m205, (801, .invokevirtual 108, 3, 0, 193, 1003)) := rfl
set_option maxRecDepth 20000 in
theorem p205_804 : vm_P 205 804 = some (vm_m205, (804, .if_icmp .eq 150, 3, 0, 0, 0)) := rfl
set_option maxRecDepth 20000 in
theorem p205_807 : vm_P 205 807 = some (vm_m205, (807, .iconst 0, 1, 0, 0, 0)) := rfl
set_option maxRecDepth 20000 in
theorem p205_808 : vm_P 205 808 = some (vm_m205, (808, .ireturn, 1, 0, 0, 0)) := rfl
set_option maxRecDepth 20000 in
theorem p205_809 : vm_P 205 809 = some (vm_m205, (809, .aload_n 1, 1, 0, 0, 0)) := rfl
set_option maxRecDepth 20000 in
theorem p205_810 : vm_P 205 810 = some (vm_m205, (810, .aload_n 0, 1, 0, 0, 0)) := rfl
set_option maxRecDepth 20000 in
theorem p205_811 : vm_P 205 811 = some (vm_m205, (811, .iload_n 3, 1, 0, 0, 0)) := rfl
set_option maxRecDepth 20000 in
theorem p205_812 : vm_P 205 812 = some (vm_m205, (812, .iconst 1, 1, 0, 0, 0)) := rfl
set_option maxRecDepth 20000 in
theorem p205_813 : vm_P 205 813 = some (vm_m205, (813, .iadd, 1, 0, 0, 0)) := rfl
set_option maxRecDepth 20000 in
theorem p205_814 : vm_P 205 814 = some (vm_m205, (814, .iaload, 1, 0, 0, 0)) := rfl
set_option maxRecDepth 20000 in
theorem p205_815 : vm_P 205 815 = some (vm_m205, (815, .aload_n 0, 1, 0, 0, 0)) := rfl
set_option maxRecDepth 20000 in
theorem p205_816 : vm_P 205 816 = some (vm_m205, (816, .iload_n 3, 1, 0, 0, 0)) := rfl
set_option maxRecDepth 20000 in
theorem p205_817 : vm_P 205 817 = some (vm_m205, (817, .iconst 2, 1, 0, 0, 0)) := rfl
set_option maxRecDepth 20000 in
theorem p205_818 : vm_P 205 818 = some (vm_m205, (818, .iadd, 1, 0, 0, 0)) := rfl
set_option maxRecDepth 20000 in
theorem p205_819 : vm_P 205 819 = some (vm_m205, (819, .iaload, 1, 0, 0, 0)) := rfl
set_option maxRecDepth 20000 in
theorem p205_820 : vm_P 205 820 = some (vm_m205, (820, .aload_n 0, 1, 0, 0, 0)) := rfl
set_option maxRecDepth 20000 in
theorem p205_821 : vm_P 205 821 = some (vm_m205, (821, .iload_n 3, 1, 0, 0, 0)) := rfl
set_option maxRecDepth 20000 in
theorem p205_822 : vm_P 205 822 = some (vm_m205, (822, .iconst 3, 1, 0, 0, 0)) := rfl
set_option maxRecDepth 20000 in
theorem p205_823 : vm_P 205 823 = some (vm_m205, (823, .iadd, 1, 0, 0, 0)) := rfl
set_option maxRecDepth 20000 in
theorem p205_824 : vm_P 205 824 = some (vm_m205, (824, .iaload, 1, 0, 0, 0)) := rfl
set_option maxRecDepth 20000 in
theorem p205_825 : vm_P 205 825 = some (vm_m205, (825, .aload_n 0, 1, 0, 0, 0)) := rfl
set_option maxRecDepth 20000 in
theorem p205_826 : vm_P 205 826 = some (vm_m205, (826, .iload_n 3, 1, 0, 0, 0)) := rfl
set_option maxRecDepth 20000 in
theorem p205_827 : vm_P 205 827 = some (vm_m205, (827, .iconst 4, 1, 0, 0, 0)) := rfl
set_option maxRecDepth 20000 in
theorem p205_828 : vm_P 205 828 = some (vm_m205, (828, .iadd, 1, 0, 0, 0)) := rfl
set_option maxRecDepth 20000 in
theorem p205_829 : vm_P 205 829 = some (vm_m205, (829, .iaload, 1, 0, 0, 0)) := rfl
set_option maxRecDepth 20000 in
theorem p205_830 : vm_P 205 830 = some (vm_m205, (830, .invokevirtual 109, 3, 0, 116, 904)) := rfl
set_option maxRecDepth 20000 in
theorem p205_833 : vm_P 205 833 = some (vm_m205, (833, .aload_n 2, 1, 0, 0, 0)) := rfl
set_option maxRecDepth 20000 in
theorem p205_834 : vm_P 205 834 = some (vm_m205, (834, .aload_n 0, 1, 0, 0, 0)) := rfl
set_option maxRecDepth 20000 in
theorem p205_835 : vm_P 205 835 = some (vm_m205, (835, .iload_n 3, 1, 0, 0, 0)) := rfl
set_option maxRecDepth 20000 in
theorem p205_836 : vm_P 205 836 = some (vm_m205, (836, .iconst 1, 1, 0, 0, 0)) := rfl
set_option maxRecDepth 20000 in
theorem p205_837 : vm_P 205 837 = some (vm_m205, (837, .iadd, 1, 0, 0, 0)) := rfl
set_option maxRecDepth 20000 in
theorem p205_838 : vm_P 205 838 = some (vm_m205, (838, .iaload, 1, 0, 0, 0)) := rfl
set_option maxRecDepth 20000 in
theorem p205_839 : vm_P 205 839 = some (vm_m205, (839, .aload_n 0, 1, 0, 0, 0)) := rfl
set_option maxRecDepth 20000 in
theorem p205_840 : vm_P 205 840 = some (vm_m205, (840, .iload_n 3, 1, 0, 0, 0)) := rfl
set_option maxRecDepth 20000 in
theorem p205_841 : vm_P 205 841 = some (vm_m205, (841, .iconst 2, 1, 0, 0, 0)) := rfl
set_option maxRecDepth 20000 in
theorem p205_842 : vm_P 205 842 = some (vm_m205, (842, .iadd, 1, 0, 0, 0)) := rfl
set_option maxRecDepth 20000 in
theorem p205_843 : vm_P 205 843 = some (vm_m205, (843, .iaload, 1, 0, 0, 0)) := rfl
set_option maxRecDepth 20000 in
theorem p205_844 : vm_P 205 844 = some (vm_m205, (844, .aload_n 0, 1, 0, 0, 0)) := rfl
set_option maxRecDepth 20000 in
theorem p205_845 : vm_P 205 845 = some (vm_m205, (845, .iload_n 3, 1, 0, 0, 0)) := rfl
set_option maxRecDepth 20000 in
theorem p205_846 : vm_P 205 846 = some (vm_m205, (846, .iconst 3, 1, 0, 0, 0)) := rfl
set_option maxRecDepth 20000 in
theorem p205_847 : vm_P 205 847 = some (vm_m205, (847, .iadd, 1, 0, 0, 0)) := rfl
set_option maxRecDepth 20000 in
theorem p205_848 : vm_P 205 848 = some (vm_m205, (848, .iaload, 1, 0, 0, 0)) := rfl
set_option maxRecDepth 20000 in
theorem p205_849 : vm_P 205 849 = some (vm_m205, (849, .aload_n 0, 1, 0, 0, 0)) := rfl
set_option maxRecDepth 20000 in
theorem p205_850 : vm_P 205 850 = some (vm_m205, (850, .iload_n 3, 1, 0, 0, 0)) := rfl
set_option maxRecDepth 20000 in
theorem p205_851 : vm_P 205 851 = some (vm_m205, (851, .iconst 4, 1, 0, 0, 0)) := rfl
set_option maxRecDepth 20000 in
theorem p205_852 : vm_P 205 852 = some (vm_m205, (852, .iadd, 1, 0, 0, 0)) := rfl
set_option maxRecDepth 20000 in
theorem p205_853 : vm_P 205 853 = some (vm_m205, (853, .iaload, 1, 0, 0, 0)) := rfl
set_option maxRecDepth 20000 in
theorem p205_854 : vm_P 205 854 = some (vm_m205, (854, .invokevirtual 113, 3, 0, 195, 1004)) := rfl
set_option maxRecDepth 20000 in
theorem p205_857 : vm_P 205 857 = some (vm_m205, (857, .if_icmp .eq 97, 3, 0, 0, 0)) := rfl
set_option maxRecDepth 20000 in
theorem p205_860 : vm_P 205 860 = some (vm_m205, (860, .iconst 0, 1, 0, 0, 0)) := rfl
set_option maxRecDepth 20000 in
theorem p205_861 : vm_P 205 861 = some (vm_m205, (861, .ireturn, 1, 0, 0, 0)) := rfl
set_option maxRecDepth 20000 in
theorem p205_862 : vm_P 205 862 = some (vm_m205, (862, .aload_n 1, 1, 0, 0, 0)) := rfl
set_option maxRecDepth 20000 in
theorem p205_863 : vm_P 205 863 = some (vm_m205, (863, .aload_n 0, 1, 0, 0, 0)) := rfl
set_option maxRecDepth 20000 in
theorem p205_864 : vm_P 205 864 = some (vm_m205, (864, .iload_n 3, 1, 0, 0, 0)) := rfl
set_option maxRecDepth 20000 in
theorem p205_865 : vm_P 205 865 = some (vm_m205, (865, .iconst 1, 1, 0, 0, 0)) := rfl
set_option maxRecDepth 20000 in
theorem p205_866 : vm_P 205 866 = some (vm_m205, (866, .iadd, 1, 0, 0, 0)) := rfl
set_option maxRecDepth 20000 in
theorem p205_867 : vm_P 205 867 = some (vm_m205, (867, .iaload, 1, 0, 0, 0)) := rfl
set_option maxRecDepth 20000 in
theorem p205_868 : vm_P 205 868 = some (vm_m205, (868, .aload_n 0, 1, 0, 0, 0)) := rfl
set_option maxRecDepth 20000 in
theorem p205_869 : vm_P 205 869 = some (vm_m205, (869, .iload_n 3, 1, 0, 0, 0)) := rfl
set_option maxRecDepth 20000 in
theorem p205_870 : vm_P 205 870 = some (vm_m205, (870, .iconst 2, 1, 0, 0, 0)) := rfl
set_option maxRecDepth 20000 in
theorem p205_871 : vm_P 205 871 = some (vm_m205, (871, .iadd, 1, 0, 0, 0)) := rfl
set_option maxRecDepth 20000 in
theorem p205_872 : vm_P 205 872 = some (vm_m205, (872, .iaload, 1, 0, 0, 0)) := rfl
set_option maxRecDepth 20000 in
theorem p205_873 : vm_P 205 873 = some (vm_m205, (873, .aload_n 0, 1, 0, 0, 0)) := rfl
set_option maxRecDepth 20000 in
theorem p205_874 : vm_P 205 874 = some (vm_m205, (874, .iload_n 3, 1, 0, 0, 0)) := rfl
set_option maxRecDepth 20000 in
theorem p205_875 : vm_P 205 875 = some (vm_m205, (875, .iconst 3, 1, 0, 0, 0)) := rfl
set_option maxRecDepth 20000 in
theorem p205_876 : vm_P 205 876 = some (vm_m205, (876, .iadd, 1, 0, 0, 0)) := rfl
set_option maxRecDepth 20000 in
theorem p205_877 : vm_P 205 877 = some (vm_m205, (877, .iaload, 1, 0, 0, 0)) := rfl
set_option maxRecDepth 20000 in
theorem p205_878 : vm_P 205 878 = some (vm_m205, (878, .invokevirtual 114, 3, 0, 117, 903)) := rfl
set_option maxRecDepth 20000 in
theorem p205_881 : vm_P 205 881 = some (vm_m205, (881, .aload_n 2, 1, 0, 0, 0)) := rfl
set_option maxRecDepth 20000 in
theorem p205_882 : vm_P 205 882 = some (vm_m205, (882, .aload_n 0, 1, 0, 0, 0)) := rfl
set_option maxRecDepth 20000 in
theorem p205_883 : vm_P 205 883 = some (vm_m205, (883, .iload_n 3, 1, 0, 0, 0)) := rfl
set_option maxRecDepth 20000 in
theorem p205_884 : vm_P 205 884 = some (vm_m205, (884, .iconst 1, 1, 0, 0, 0)) := rfl
set_option maxRecDepth 20000 in
theorem p205_885 : vm_P 205 885 = some (vm_m205, (885, .iadd, 1, 0, 0, 0)) := rfl
set_option maxRecDepth 20000 in
theorem p205_886 : vm_P 205 886 = some (vm_m205, (886, .iaload, 1, 0, 0, 0)) := rfl
set_option maxRecDepth 20000 in
theorem p205_887 : vm_P 205 887 = some (vm_m205, (887, .aload_n 0, 1, 0, 0, 0)) := rfl
set_option maxRecDepth 20000 in
theorem p205_888 : vm_P 205 888 = some (vm_m205, (888, .iload_n 3, 1, 0, 0, 0)) := rfl
set_option maxRecDepth 20000 in
theorem p205_889 : vm_P 205 889 = some (vm_m205, (889, .iconst 2, 1, 0, 0, 0)) := rfl
set_option maxRecDepth 20000 in
theorem p205_890 : vm_P 205 890 = some (vm_m205, (890, .iadd, 1, 0, 0, 0)) := rfl
set_option maxRecDepth 20000 in
theorem p205_891 : vm_P 205 891 = some (vm_m205, (891, .iaload, 1, 0, 0, 0)) := rfl
set_option maxRecDepth 20000 in
theorem p205_892 : vm_P 205 892 = some (vm_m205, (892, .aload_n 0, 1, 0, 0, 0)) := rfl
set_option maxRecDepth 20000 in
theorem p205_893 : vm_P 205 893 = some (vm_m205, (893, .iload_n 3, 1, 0, 0, 0)) := rfl
set_option maxRecDepth 20000 in
theorem p205_894 : vm_P 205 894 = some (vm_m205, (894, .iconst 3, 1, 0, 0, 0)) := rfl
set_option maxRecDepth 20000 in
theorem p205_895 : vm_P 205 895 = some (vm_m205, (895, .iadd, 1, 0, 0, 0)) := rfl
set_option maxRecDepth 20000 in
theorem p205_896 : vm_P 205 896 = some (vm_m205, (896, .iaload, 1, 0, 0, 0)) := rfl
set_option maxRecDepth 20000 in
theorem p205_897 : vm_P 205 897 = some (vm_m205, (897, .invokevirtual 117, 3, 0, 197, 1003)) := rfl
set_option maxRecDepth 20000 in
theorem p205_900 : vm_P 205 900 = some (vm_m205, (900, .if_icmp .eq 54, 3, 0, 0, 0)) := rfl
set_option maxRecDepth 20000 in
theorem p205_903 : vm_P 205 903 = some (vm_m205, (903, .iconst 0, 1, 0, 0, 0)) := rfl
set_option maxRecDepth 20000 in
theorem p205_904 : vm_P 205 904 = some (vm_m205, (904, .ireturn, 1, 0, 0, 0)) := rfl
set_option maxRecDepth 20000 in
theorem p205_905 : vm_P 205 905 = some (vm_m205, (905, .aload_n 1, 1, 0, 0, 0)) := rfl
set_option maxRecDepth 20000 in
theorem p205_906 : vm_P 205 906 = some (vm_m205, (906, .invokevirtual 118, 3, 0, 118, 900)) := rfl
set_option maxRecDepth 20000 in
theorem p205_909 : vm_P 205 909 = some (vm_m205, (909, .aload_n 2, 1, 0, 0, 0)) := rfl
set_option maxRecDepth 20000 in
theorem p205_910 : vm_P 205 910 = some (vm_m205, (910, .invokevirtual 121, 3, 0, 198, 1000)) := rfl
set_option maxRecDepth 20000 in
theorem p205_913 : vm_P 205 913 = some (vm_m205, (913, .if_icmp .eq 41, 3, 0, 0, 0)) := rfl
set_option maxRecDepth 20000 in
theorem p205_916 : vm_P 205 916 = some (vm_m205, (916, .iconst 0, 1, 0, 0, 0)) := rfl
set_option maxRecDepth 20000 in
theorem p205_917 : vm_P 205 917 = some (vm_m205, (917, .ireturn, 1, 0, 0, 0)) := rfl
set_option maxRecDepth 20000 in
theorem p205_918 : vm_P 205 918 = some (vm_m205, (918, .aload_n 1, 1, 0, 0, 0)) := rfl
set_option maxRecDepth 20000 in
theorem p205_919 : vm_P 205 919 = some (vm_m205, (919, .invokevirtual 122, 3, 0, 119, 900)) := rfl
set_option maxRecDepth 20000 in
theorem p205_922 : vm_P 205 922 = some (vm_m205, (922, .aload_n 2, 1, 0, 0, 0)) := rfl
set_option maxRecDepth 20000 in
theorem p205_923 : vm_P 205 923 = some (vm_m205, (923, .invokevirtual 125, 3, 0, 199, 1000)) := rfl
set_option maxRecDepth 20000 in
theorem p205_926 : vm_P 205 926 = some (vm_m205, (926, .if_icmp .eq 28, 3, 0, 0, 0)) := rfl
set_option maxRecDepth 20000 in
theorem p205_929 : vm_P 205 929 = some (vm_m205, (929, .iconst 0, 1, 0, 0, 0)) := rfl
set_option maxRecDepth 20000 in
theorem p205_930 : vm_P 205 930 = some (vm_m205, (930, .ireturn, 1, 0, 0, 0)) := rfl
set_option maxRecDepth 20000 in
theorem p205_931 : vm_P 205 931 = some (vm_m205, (931, .aload_n 1, 1, 0, 0, 0)) := rfl
set_option maxRecDepth 20000 in
theorem p205_932 : vm_P 205 932 = some (vm_m205, (932, .aload_n 0, 1, 0, 0, 0)) := rfl
set_option maxRecDepth 20000 in
theorem p205_933 : vm_P 205 933 = some (vm_m205, (933, .iload_n 3, 1, 0, 0, 0)) := rfl
set_option maxRecDepth 20000 in
theorem p205_934 : vm_P 205 934 = some (vm_m205, (934, .iconst 1, 1, 0, 0, 0)) := rfl
set_option maxRecDepth 20000 in
theorem p205_935 : vm_P 205 935 = some (vm_m205, (935, .iadd, 1, 0, 0, 0)) := rfl
set_option maxRecDepth 20000 in
theorem p205_936 : vm_P 205 936 = some (vm_m205, (936, .iaload, 1, 0, 0, 0)) := rfl
set_option maxRecDepth 20000 in
theorem p205_937 : vm_P 205 937 = some (vm_m205, (937, .invokevirtual 126, 3, 0, 120, 901)) := rfl
set_option maxRecDepth 20000 in
theorem p205_940 : vm_P 205 940 = some (vm_m205, (940, .aload_n 2, 1, 0, 0, 0)) := rfl
set_option maxRecDepth 20000 in
theorem p205_941 : vm_P 205 941 = some (vm_m205, (941, .aload_n 0, 1, 0, 0, 0)) := rfl
set_option maxRecDepth 20000 in
theorem p205_942 : vm_P 205 942 = some (vm_m205, (942, .iload_n 3, 1, 0, 0, 0)) := rfl
set_option maxRecDepth 20000 in
theorem p205_943 : vm_P 205 943 = some (vm_m205, (943, .iconst 1, 1, 0, 0, 0)) := rfl
set_option maxRecDepth 20000 in
theorem p205_944 : vm_P 205 944 = some (vm_m205, (944, .iadd, 1, 0, 0, 0)) := rfl
set_option maxRecDepth 20000 in
theorem p205_945 : vm_P 205 945 = some (vm_m205, (945, .iaload, 1, 0, 0, 0)) := rfl
set_option maxRecDepth 20000 in
theorem p205_946 : vm_P 205 946 = some (vm_m205, (946, .invokevirtual 129, 3, 0, 201, 1001)) := rfl
set_option maxRecDepth 20000 in
theorem p205_949 : vm_P 205 949 = some (vm_m205, (949, .if_icmp .eq 5, 3, 0, 0, 0)) := rfl
set_option maxRecDepth 20000 in
theorem p205_952 : vm_P 205 952 = some (vm_m205, (952, .iconst 0, 1, 0, 0, 0)) := rfl
set_option maxRecDepth 20000 in
theorem p205_953 : vm_P 205 953 = some (vm_m205, (953, .ireturn, 1, 0, 0, 0)) := rfl
set_option maxRecDepth 20000 in
theorem p205_954 : vm_P 205 954 = some (vm_m205, (954, .iinc 3 5, 3, 0, 0, 0)) := rfl
set_option maxRecDepth 20000 in
theorem p205_957 : vm_P 205 957 = some (vm_m205, (957, .goto (-939), 3, 0, 0, 0)) := rfl
set_option maxRecDepth 20000 in
theorem p205_960 : vm_P 205 960 = some (vm_m205, (960, .iconst 1, 1, 0, 0, 0)) := rfl
set_option maxRecDepth 20000 in
theorem p205_961 : vm_P 205 961 = some (vm_m205, (961, .ireturn, 1, 0, 0, 0)) := rfl
