/-! the instructions by method and place -/
theorem p127_0 : vm_P 127 0 = some (vm_m127, (0, .aload_n 0, 1, 0, 0, 0)) := rfl
theorem p127_1 : vm_P 127 1 = some (vm_m127, (1, .invokespecial 1, 3, 5, 0, 0)) := rfl
theorem p127_4 : vm_P 127 4 = some (vm_m127, (4, .aload_n 0, 1, 0, 0, 0)) := rfl
theorem p127_5 : vm_P 127 5 = some (vm_m127, (5, .bipush 71, 2, 0, 0, 0)) := rfl
theorem p127_7 : vm_P 127 7 = some (vm_m127, (7, .newarray .int, 2, 0, 0, 0)) := rfl
theorem p127_9 : vm_P 127 9 = some (vm_m127, (9, .putfield 7, 3, 10, 0, 0)) := rfl
theorem p127_12 : vm_P 127 12 = some (vm_m127, (12, .aload_n 0, 1, 0, 0, 0)) := rfl
theorem p127_13 : vm_P 127 13 = some (vm_m127, (13, .bipush 71, 2, 0, 0, 0)) := rfl
theorem p127_15 : vm_P 127 15 = some (vm_m127, (15, .newarray .int, 2, 0, 0, 0)) := rfl
theorem p127_17 : vm_P 127 17 = some (vm_m127, (17, .putfield 13, 3, 10, 1, 0)) := rfl
theorem p127_20 : vm_P 127 20 = some (vm_m127, (20, .aload_n 0, 1, 0, 0, 0)) := rfl
theorem p127_21 : vm_P 127 21 = some (vm_m127, (21, .bipush 33, 2, 0, 0, 0)) := rfl
theorem p127_23 : vm_P 127 23 = some (vm_m127, (23, .newarray .int, 2, 0, 0, 0)) := rfl
theorem p127_25 : vm_P 127 25 = some (vm_m127, (25, .putfield 16, 3, 10, 2, 0)) := rfl
theorem p127_28 : vm_P 127 28 = some (vm_m127, (28, .aload_n 0, 1, 0, 0, 0)) := rfl
theorem p127_29 : vm_P 127 29 = some (vm_m127, (29, .bipush 33, 2, 0, 0, 0)) := rfl
theorem p127_31 : vm_P 127 31 = some (vm_m127, (31, .newarray .int, 2, 0, 0, 0)) := rfl
theorem p127_33 : vm_P 127 33 = some (vm_m127, (33, .putfield 19, 3, 10, 3, 0)) := rfl
theorem p127_36 : vm_P 127 36 = some (vm_m127, (36, .aload_n 0, 1, 0, 0, 0)) := rfl
theorem p127_37 : vm_P 127 37 = some (vm_m127, (37, .sipush 264, 3, 0, 0, 0)) := rfl
theorem p127_40 : vm_P 127 40 = some (vm_m127, (40, .newarray .int, 2, 0, 0, 0)) := rfl
theorem p127_42 : vm_P 127 42 = some (vm_m127, (42, .putfield 22, 3, 10, 4, 0)) := rfl
theorem p127_45 : vm_P 127 45 = some (vm_m127, (45, .aload_n 0, 1, 0, 0, 0)) := rfl
theorem p127_46 : vm_P 127 46 = some (vm_m127, (46, .bipush 66, 2, 0, 0, 0)) := rfl
theorem p127_48 : vm_P 127 48 = some (vm_m127, (48, .newarray .int, 2, 0, 0, 0)) := rfl
theorem p127_50 : vm_P 127 50 = some (vm_m127, (50, .putfield 25, 3, 10, 6, 0)) := rfl
theorem p127_53 : vm_P 127 53 = some (vm_m127, (53, .aload_n 0, 1, 0, 0, 0)) := rfl
theorem p127_54 : vm_P 127 54 = some (vm_m127, (54, .bipush 6, 2, 0, 0, 0)) := rfl
theorem p127_56 : vm_P 127 56 = some (vm_m127, (56, .newarray .int, 2, 0, 0, 0)) := rfl
theorem p127_58 : vm_P 127 58 = some (vm_m127, (58, .putfield 28, 3, 10, 8, 0)) := rfl
theorem p127_61 : vm_P 127 61 = some (vm_m127, (61, .aload_n 0, 1, 0, 0, 0)) := rfl
theorem p127_62 : vm_P 127 62 = some (vm_m127, (62, .sipush 200, 3, 0, 0, 0)) := rfl
theorem p127_65 : vm_P 127 65 = some (vm_m127, (65, .newarray .int, 2, 0, 0, 0)) := rfl
theorem p127_67 : vm_P 127 67 = some (vm_m127, (67, .putfield 31, 3, 10, 10, 0)) := rfl
theorem p127_70 : vm_P 127 70 = some (vm_m127, (70, .aload_n 0, 1, 0, 0, 0)) := rfl
theorem p127_71 : vm_P 127 71 = some (vm_m127, (71, .bipush 6, 2, 0, 0, 0)) := rfl
theorem p127_73 : vm_P 127 73 = some (vm_m127, (73, .newarray .int, 2, 0, 0, 0)) := rfl
theorem p127_75 : vm_P 127 75 = some (vm_m127, (75, .putfield 34, 3, 10, 14, 0)) := rfl
theorem p127_78 : vm_P 127 78 = some (vm_m127, (78, .aload_n 0, 1, 0, 0, 0)) := rfl
theorem p127_79 : vm_P 127 79 = some (vm_m127, (79, .bipush 6, 2, 0, 0, 0)) := rfl
theorem p127_81 : vm_P 127 81 = some (vm_m127, (81, .newarray .int, 2, 0, 0, 0)) := rfl
theorem p127_83 : vm_P 127 83 = some (vm_m127, (83, .putfield 37, 3, 10, 15, 0)) := rfl
theorem p127_86 : vm_P 127 86 = some (vm_m127, (86, .aload_n 0, 1, 0, 0, 0)) := rfl
theorem p127_87 : vm_P 127 87 = some (vm_m127, (87, .iconst 4, 1, 0, 0, 0)) := rfl
theorem p127_88 : vm_P 127 88 = some (vm_m127, (88, .newarray .int, 2, 0, 0, 0)) := rfl
theorem p127_90 : vm_P 127 90 = some (vm_m127, (90, .putfield 40, 3, 10, 16, 0)) := rfl
theorem p127_93 : vm_P 127 93 = some (vm_m127, (93, .aload_n 0, 1, 0, 0, 0)) := rfl
theorem p127_94 : vm_P 127 94 = some (vm_m127, (94, .bipush 81, 2, 0, 0, 0)) := rfl
theorem p127_96 : vm_P 127 96 = some (vm_m127, (96, .newarray .int, 2, 0, 0, 0)) := rfl
theorem p127_98 : vm_P 127 98 = some (vm_m127, (98, .putfield 43, 3, 10, 17, 0)) := rfl
theorem p127_101 : vm_P 127 101 = some (vm_m127, (101, .aload_n 0, 1, 0, 0, 0)) := rfl
theorem p127_102 : vm_P 127 102 = some (vm_m127, (102, .bipush 81, 2, 0, 0, 0)) := rfl
theorem p127_104 : vm_P 127 104 = some (vm_m127, (104, .newarray .int, 2, 0, 0, 0)) := rfl
theorem p127_106 : vm_P 127 106 = some (vm_m127, (106, .putfield 46, 3, 10, 18, 0)) := rfl
theorem p127_109 : vm_P 127 109 = some (vm_m127, (109, .aload_n 0, 1, 0, 0, 0)) := rfl
theorem p127_110 : vm_P 127 110 = some (vm_m127, (110, .bipush 81, 2, 0, 0, 0)) := rfl
theorem p127_112 : vm_P 127 112 = some (vm_m127, (112, .newarray .int, 2, 0, 0, 0)) := rfl
theorem p127_114 : vm_P 127 114 = some (vm_m127, (114, .putfield 49, 3, 10, 19, 0)) := rfl
theorem p127_117 : vm_P 127 117 = some (vm_m127, (117, .aload_n 0, 1, 0, 0, 0)) := rfl
theorem p127_118 : vm_P 127 118 = some (vm_m127, (118, .bipush 81, 2, 0, 0, 0)) := rfl
theorem p127_120 : vm_P 127 120 = some (vm_m127, (120, .newarray .int, 2, 0, 0, 0)) := rfl
theorem p127_122 : vm_P 127 122 = some (vm_m127, (122, .putfield 52, 3, 10, 20, 0)) := rfl
theorem p127_125 : vm_P 127 125 = some (vm_m127, (125, .aload_n 0, 1, 0, 0, 0)) := rfl
theorem p127_126 : vm_P 127 126 = some (vm_m127, (126, .bipush 9, 2, 0, 0, 0)) := rfl
theorem p127_128 : vm_P 127 128 = some (vm_m127, (128, .newarray .int, 2, 0, 0, 0)) := rfl
theorem p127_130 : vm_P 127 130 = some (vm_m127, (130, .putfield 55, 3, 10, 21, 0)) := rfl
theorem p127_133 : vm_P 127 133 = some (vm_m127, (133, .aload_n 0, 1, 0, 0, 0)) := rfl
theorem p127_134 : vm_P 127 134 = some (vm_m127, (134, .bipush 9, 2, 0, 0, 0)) := rfl
theorem p127_136 : vm_P 127 136 = some (vm_m127, (136, .newarray .int, 2, 0, 0, 0)) := rfl
theorem p127_138 : vm_P 127 138 = some (vm_m127, (138, .putfield 58, 3, 10, 22, 0)) := rfl
theorem p127_141 : vm_P 127 141 = some (vm_m127, (141, .aload_n 0, 1, 0, 0, 0)) := rfl
theorem p127_142 : vm_P 127 142 = some (vm_m127, (142, .getfield 7, 3, 10, 0, 0)) := rfl
theorem p127_145 : vm_P 127 145 = some (vm_m127, (145, .sipush 1203, 3, 0, 0, 0)) := rfl
theorem p127_148 : vm_P 127 148 = some (vm_m127, (148, .invokestatic 61, 3, 1, 131, 2)) := rfl
theorem p127_151 : vm_P 127 151 = some (vm_m127, (151, .aload_n 0, 1, 0, 0, 0)) := rfl
theorem p127_152 : vm_P 127 152 = some (vm_m127, (152, .getfield 7, 3, 10, 0, 0)) := rfl
theorem p127_155 : vm_P 127 155 = some (vm_m127, (155, .sipush 2194, 3, 0, 0, 0)) := rfl
theorem p127_158 : vm_P 127 158 = some (vm_m127, (158, .invokestatic 61, 3, 1, 131, 2)) := rfl
theorem p127_161 : vm_P 127 161 = some (vm_m127, (161, .aload_n 0, 1, 0, 0, 0)) := rfl
theorem p127_162 : vm_P 127 162 = some (vm_m127, (162, .getfield 7, 3, 10, 0, 0)) := rfl
theorem p127_165 : vm_P 127 165 = some (vm_m127, (165, .sipush 4330, 3, 0, 0, 0)) := rfl
theorem p127_168 : vm_P 127 168 = some (vm_m127, (168, .invokestatic 61, 3, 1, 131, 2)) := rfl
theorem p127_171 : vm_P 127 171 = some (vm_m127, (171, .aload_n 0, 1, 0, 0, 0)) := rfl
theorem p127_172 : vm_P 127 172 = some (vm_m127, (172, .getfield 7, 3, 10, 0, 0)) := rfl
theorem p127_175 : vm_P 127 175 = some (vm_m127, (175, .sipush 952, 3, 0, 0, 0)) := rfl
theorem p127_178 : vm_P 127 178 = some (vm_m127, (178, .invokestatic 61, 3, 1, 131, 2)) := rfl
theorem p127_181 : vm_P 127 181 = some (vm_m127, (181, .aload_n 0, 1, 0, 0, 0)) := rfl
theorem p127_182 : vm_P 127 182 = some (vm_m127, (182, .getfield 7, 3, 10, 0, 0)) := rfl
theorem p127_185 : vm_P 127 185 = some (vm_m127, (185, .sipush 5149, 3, 0, 0, 0)) := rfl
theorem p127_188 : vm_P 127 188 = some (vm_m127, (188, .invokestatic 61, 3, 1, 131, 2)) := rfl
theorem p127_191 : vm_P 127 191 = some (vm_m127, (191, .aload_n 0, 1, 0, 0, 0)) := rfl
theorem p127_192 : vm_P 127 192 = some (vm_m127, (192, .getfield 7, 3, 10, 0, 0)) := rfl
theorem p127_195 : vm_P 127 195 = some (vm_m127, (195, .sipush 9995, 3, 0, 0, 0)) := rfl
theorem p127_198 : vm_P 127 198 = some (vm_m127, (198, .invokestatic 61, 3, 1, 131, 2)) := rfl
theorem p127_201 : vm_P 127 201 = some (vm_m127, (201, .aload_n 0, 1, 0, 0, 0)) := rfl
theorem p127_202 : vm_P 127 202 = some (vm_m127, (202, .getfield 7, 3, 10, 0, 0)) := rfl
theorem p127_205 : vm_P 127 205 = some (vm_m127, (205, .iconst 1, 1, 0, 0, 0)) := rfl
theorem p127_206 : vm_P 127 206 = some (vm_m127, (206, .iconst 4, 1, 0, 0, 0)) := rfl
theorem p127_207 : vm_P 127 207 = some (vm_m127, (207, .iastore, 1, 0, 0, 0)) := rfl
theorem p127_208 : vm_P 127 208 = some (vm_m127, (208, .aload_n 0, 1, 0, 0, 0)) := rfl
theorem p127_209 : vm_P 127 209 = some (vm_m127, (209, .getfield 7, 3, 10, 0, 0)) := rfl
theorem p127_212 : vm_P 127 212 = some (vm_m127, (212, .bipush 40, 2, 0, 0, 0)) := rfl
theorem p127_214 : vm_P 127 214 = some (vm_m127, (214, .iconst 1, 1, 0, 0, 0)) := rfl
theorem p127_215 : vm_P 127 215 = some (vm_m127, (215, .iastore, 1, 0, 0, 0)) := rfl
theorem p127_216 : vm_P 127 216 = some (vm_m127, (216, .aload_n 0, 1, 0, 0, 0)) := rfl
theorem p127_217 : vm_P 127 217 = some (vm_m127, (217, .getfield 7, 3, 10, 0, 0)) := rfl
theorem p127_220 : vm_P 127 220 = some (vm_m127, (220, .bipush 42, 2, 0, 0, 0)) := rfl
theorem p127_222 : vm_P 127 222 = some (vm_m127, (222, .iconst 2, 1, 0, 0, 0)) := rfl
theorem p127_223 : vm_P 127 223 = some (vm_m127, (223, .iastore, 1, 0, 0, 0)) := rfl
theorem p127_224 : vm_P 127 224 = some (vm_m127, (224, .aload_n 0, 1, 0, 0, 0)) := rfl
theorem p127_225 : vm_P 127 225 = some (vm_m127, (225, .getfield 7, 3, 10, 0, 0)) := rfl
theorem p127_228 : vm_P 127 228 = some (vm_m127, (228, .iconst 0, 1, 0, 0, 0)) := rfl
theorem p127_229 : vm_P 127 229 = some (vm_m127, (229, .bipush 9, 2, 0, 0, 0)) := rfl
theorem p127_231 : vm_P 127 231 = some (vm_m127, (231, .sipush 3212, 3, 0, 0, 0)) := rfl
theorem p127_234 : vm_P 127 234 = some (vm_m127, (234, .invokestatic 65, 3, 1, 132, 4)) := rfl
theorem p127_237 : vm_P 127 237 = some (vm_m127, (237, .aload_n 0, 1, 0, 0, 0)) := rfl
theorem p127_238 : vm_P 127 238 = some (vm_m127, (238, .getfield 7, 3, 10, 0, 0)) := rfl
theorem p127_241 : vm_P 127 241 = some (vm_m127, (241, .iconst 2, 1, 0, 0, 0)) := rfl
theorem p127_242 : vm_P 127 242 = some (vm_m127, (242, .iconst 5, 1, 0, 0, 0)) := rfl
theorem p127_243 : vm_P 127 243 = some (vm_m127, (243, .sipush 1420, 3, 0, 0, 0)) := rfl
theorem p127_246 : vm_P 127 246 = some (vm_m127, (246, .invokestatic 65, 3, 1, 132, 4)) := rfl
theorem p127_249 : vm_P 127 249 = some (vm_m127, (249, .aload_n 0, 1, 0, 0, 0)) := rfl
theorem p127_250 : vm_P 127 250 = some (vm_m127, (250, .getfield 7, 3, 10, 0, 0)) := rfl
theorem p127_253 : vm_P 127 253 = some (vm_m127, (253, .iconst 0, 1, 0, 0, 0)) := rfl
theorem p127_254 : vm_P 127 254 = some (vm_m127, (254, .bipush 12, 2, 0, 0, 0)) := rfl
theorem p127_256 : vm_P 127 256 = some (vm_m127, (256, .bipush 33, 2, 0, 0, 0)) := rfl
theorem p127_258 : vm_P 127 258 = some (vm_m127, (258, .invokestatic 65, 3, 1, 132, 4)) := rfl
theorem p127_261 : vm_P 127 261 = some (vm_m127, (261, .aload_n 0, 1, 0, 0, 0)) := rfl
theorem p127_262 : vm_P 127 262 = some (vm_m127, (262, .invokevirtual 69, 3, 0, 133, 1000)) := rfl
theorem p127_265 : vm_P 127 265 = some (vm_m127, (265, .return_, 1, 0, 0, 0)) := rfl
theorem p128_0 : vm_P 128 0 = some (vm_m128, (0, .lload_n 0, 1, 0, 0, 0)) := rfl
theorem p128_1 : vm_P 128 1 = some (vm_m128, (1, .lload_n 2, 1, 0, 0, 0)) := rfl
theorem p128_2 : vm_P 128 2 = some (vm_m128, (2, .lcmp, 1, 0, 0, 0)) := rfl
theorem p128_3 : vm_P 128 3 = some (vm_m128, (3, .ifCond .lt 14, 3, 0, 0, 0)) := rfl
theorem p128_6 : vm_P 128 6 = some (vm_m128, (6, .lload_n 0, 1, 0, 0, 0)) := rfl
theorem p128_7 : vm_P 128 7 = some (vm_m128, (7, .lload 4, 2, 0, 0, 0)) := rfl
theorem p128_9 : vm_P 128 9 = some (vm_m128, (9, .lcmp, 1, 0, 0, 0)) := rfl
theorem p128_10 : vm_P 128 10 = some (vm_m128, (10, .ifCond .gt 7, 3, 0, 0, 0)) := rfl
theorem p128_13 : vm_P 128 13 = some (vm_m128, (13, .iconst 1, 1, 0, 0, 0)) := rfl
theorem p128_14 : vm_P 128 14 = some (vm_m128, (14, .goto 4, 3, 0, 0, 0)) := rfl
theorem p128_17 : vm_P 128 17 = some (vm_m128, (17, .iconst 0, 1, 0, 0, 0)) := rfl
theorem p128_18 : vm_P 128 18 = some (vm_m128, (18, .ireturn, 1, 0, 0, 0)) := rfl
theorem p129_0 : vm_P 129 0 = some (vm_m129, (0, .iload_n 0, 1, 0, 0, 0)) := rfl
theorem p129_1 : vm_P 129 1 = some (vm_m129, (1, .iload_n 1, 1, 0, 0, 0)) := rfl
theorem p129_2 : vm_P 129 2 = some (vm_m129, (2, .ishr, 1, 0, 0, 0)) := rfl
theorem p129_3 : vm_P 129 3 = some (vm_m129, (3, .iconst 1, 1, 0, 0, 0)) := rfl
theorem p129_4 : vm_P 129 4 = some (vm_m129, (4, .iand, 1, 0, 0, 0)) := rfl
theorem p129_5 : vm_P 129 5 = some (vm_m129, (5, .iconst 1, 1, 0, 0, 0)) := rfl
theorem p129_6 : vm_P 129 6 = some (vm_m129, (6, .if_icmp .ne 7, 3, 0, 0, 0)) := rfl
theorem p129_9 : vm_P 129 9 = some (vm_m129, (9, .iconst 1, 1, 0, 0, 0)) := rfl
theorem p129_10 : vm_P 129 10 = some (vm_m129, (10, .goto 4, 3, 0, 0, 0)) := rfl
theorem p129_13 : vm_P 129 13 = some (vm_m129, (13, .iconst 0, 1, 0, 0, 0)) := rfl
theorem p129_14 : vm_P 129 14 = some (vm_m129, (14, .ireturn, 1, 0, 0, 0)) := rfl
theorem p130_0 : vm_P 130 0 = some (vm_m130, (0, .iconst 0, 1, 0, 0, 0)) := rfl
theorem p130_1 : vm_P 130 1 = some (vm_m130, (1, .istore 5, 2, 0, 0, 0)) := rfl
theorem p130_3 : vm_P 130 3 = some (vm_m130, (3, .iload 5, 2, 0, 0, 0)) := rfl
theorem p130_5 : vm_P 130 5 = some (vm_m130, (5, .iload 4, 2, 0, 0, 0)) := rfl
theorem p130_7 : vm_P 130 7 = some (vm_m130, (7, .if_icmp .ge 21, 3, 0, 0, 0)) := rfl
theorem p130_10 : vm_P 130 10 = some (vm_m130, (10, .aload_n 2, 1, 0, 0, 0)) := rfl
theorem p130_11 : vm_P 130 11 = some (vm_m130, (11, .iload_n 3, 1, 0, 0, 0)) := rfl
theorem p130_12 : vm_P 130 12 = some (vm_m130, (12, .iload 5, 2, 0, 0, 0)) := rfl
theorem p130_14 : vm_P 130 14 = some (vm_m130, (14, .iadd, 1, 0, 0, 0)) := rfl
theorem p130_15 : vm_P 130 15 = some (vm_m130, (15, .aload_n 0, 1, 0, 0, 0)) := rfl
theorem p130_16 : vm_P 130 16 = some (vm_m130, (16, .iload_n 1, 1, 0, 0, 0)) := rfl
theorem p130_17 : vm_P 130 17 = some (vm_m130, (17, .iload 5, 2, 0, 0, 0)) := rfl
theorem p130_19 : vm_P 130 19 = some (vm_m130, (19, .iadd, 1, 0, 0, 0)) := rfl
theorem p130_20 : vm_P 130 20 = some (vm_m130, (20, .iaload, 1, 0, 0, 0)) := rfl
theorem p130_21 : vm_P 130 21 = some (vm_m130, (21, .iastore, 1, 0, 0, 0)) := rfl
theorem p130_22 : vm_P 130 22 = some (vm_m130, (22, .iinc 5 1, 3, 0, 0, 0)) := rfl
theorem p130_25 : vm_P 130 25 = some (vm_m130, (25, .goto (-22), 3, 0, 0, 0)) := rfl
theorem p130_28 : vm_P 130 28 = some (vm_m130, (28, .return_, 1, 0, 0, 0)) := rfl
theorem p131_0 : vm_P 131 0 = some (vm_m131, (0, .iload_n 1, 1, 0, 0, 0)) := rfl
theorem p131_1 : vm_P 131 1 = some (vm_m131, (1, .istore_n 2, 1, 0, 0, 0)) := rfl
theorem p131_2 : vm_P 131 2 = some (vm_m131, (2, .iconst 3, 1, 0, 0, 0)) := rfl
theorem p131_3 : vm_P 131 3 = some (vm_m131, (3, .istore_n 3, 1, 0, 0, 0)) := rfl
theorem p131_4 : vm_P 131 4 = some (vm_m131, (4, .iload_n 3, 1, 0, 0, 0)) := rfl
theorem p131_5 : vm_P 131 5 = some (vm_m131, (5, .ifCond .lt 29, 3, 0, 0, 0)) := rfl
theorem p131_8 : vm_P 131 8 = some (vm_m131, (8, .aload_n 0, 1, 0, 0, 0)) := rfl
theorem p131_9 : vm_P 131 9 = some (vm_m131, (9, .iconst 3, 1, 0, 0, 0)) := rfl
theorem p131_10 : vm_P 131 10 = some (vm_m131, (10, .iconst 4, 1, 0, 0, 0)) := rfl
theorem p131_11 : vm_P 131 11 = some (vm_m131, (11, .aload_n 0, 1, 0, 0, 0)) := rfl
theorem p131_12 : vm_P 131 12 = some (vm_m131, (12, .iconst 0, 1, 0, 0, 0)) := rfl
theorem p131_13 : vm_P 131 13 = some (vm_m131, (13, .iaload, 1, 0, 0, 0)) := rfl
theorem p131_14 : vm_P 131 14 = some (vm_m131, (14, .imul, 1, 0, 0, 0)) := rfl
theorem p131_15 : vm_P 131 15 = some (vm_m131, (15, .iadd, 1, 0, 0, 0)) := rfl
theorem p131_16 : vm_P 131 16 = some (vm_m131, (16, .iload_n 3, 1, 0, 0, 0)) := rfl
theorem p131_17 : vm_P 131 17 = some (vm_m131, (17, .iadd, 1, 0, 0, 0)) := rfl
theorem p131_18 : vm_P 131 18 = some (vm_m131, (18, .iload_n 2, 1, 0, 0, 0)) := rfl
theorem p131_19 : vm_P 131 19 = some (vm_m131, (19, .bipush 10, 2, 0, 0, 0)) := rfl
theorem p131_21 : vm_P 131 21 = some (vm_m131, (21, .irem, 1, 0, 0, 0)) := rfl
theorem p131_22 : vm_P 131 22 = some (vm_m131, (22, .iastore, 1, 0, 0, 0)) := rfl
theorem p131_23 : vm_P 131 23 = some (vm_m131, (23, .iload_n 2, 1, 0, 0, 0)) := rfl
theorem p131_24 : vm_P 131 24 = some (vm_m131, (24, .bipush 10, 2, 0, 0, 0)) := rfl
theorem p131_26 : vm_P 131 26 = some (vm_m131, (26, .idiv, 1, 0, 0, 0)) := rfl
theorem p131_27 : vm_P 131 27 = some (vm_m131, (27, .istore_n 2, 1, 0, 0, 0)) := rfl
theorem p131_28 : vm_P 131 28 = some (vm_m131, (28, .iinc 3 (-1), 3, 0, 0, 0)) := rfl
theorem p131_31 : vm_P 131 31 = some (vm_m131, (31, .goto (-27), 3, 0, 0, 0)) := rfl
theorem p131_34 : vm_P 131 34 = some (vm_m131, (34, .aload_n 0, 1, 0, 0, 0)) := rfl
theorem p131_35 : vm_P 131 35 = some (vm_m131, (35, .iconst 0, 1, 0, 0, 0)) := rfl
theorem p131_36 : vm_P 131 36 = some (vm_m131, (36, .dup2, 1, 0, 0, 0)) := rfl
theorem p131_37 : vm_P 131 37 = some (vm_m131, (37, .iaload, 1, 0, 0, 0)) := rfl
theorem p131_38 : vm_P 131 38 = some (vm_m131, (38, .iconst 1, 1, 0, 0, 0)) := rfl
theorem p131_39 : vm_P 131 39 = some (vm_m131, (39, .iadd, 1, 0, 0, 0)) := rfl
theorem p131_40 : vm_P 131 40 = some (vm_m131, (40, .iastore, 1, 0, 0, 0)) := rfl
theorem p131_41 : vm_P 131 41 = some (vm_m131, (41, .return_, 1, 0, 0, 0)) := rfl
theorem p132_0 : vm_P 132 0 = some (vm_m132, (0, .aload_n 0, 1, 0, 0, 0)) := rfl
theorem p132_1 : vm_P 132 1 = some (vm_m132, (1, .iconst 2, 1, 0, 0, 0)) := rfl
theorem p132_2 : vm_P 132 2 = some (vm_m132, (2, .iaload, 1, 0, 0, 0)) := rfl
theorem p132_3 : vm_P 132 3 = some (vm_m132, (3, .istore 4, 2, 0, 0, 0)) := rfl
theorem p132_5 : vm_P 132 5 = some (vm_m132, (5, .iload_n 3, 1, 0, 0, 0)) := rfl
theorem p132_6 : vm_P 132 6 = some (vm_m132, (6, .istore 5, 2, 0, 0, 0)) := rfl
theorem p132_8 : vm_P 132 8 = some (vm_m132, (8, .aload_n 0, 1, 0, 0, 0)) := rfl
theorem p132_9 : vm_P 132 9 = some (vm_m132, (9, .bipush 47, 2, 0, 0, 0)) := rfl
theorem p132_11 : vm_P 132 11 = some (vm_m132, (11, .iload 4, 2, 0, 0, 0)) := rfl
theorem p132_13 : vm_P 132 13 = some (vm_m132, (13, .iadd, 1, 0, 0, 0)) := rfl
theorem p132_14 : vm_P 132 14 = some (vm_m132, (14, .iload_n 1, 1, 0, 0, 0)) := rfl
theorem p132_15 : vm_P 132 15 = some (vm_m132, (15, .iastore, 1, 0, 0, 0)) := rfl
theorem p132_16 : vm_P 132 16 = some (vm_m132, (16, .aload_n 0, 1, 0, 0, 0)) := rfl
theorem p132_17 : vm_P 132 17 = some (vm_m132, (17, .bipush 51, 2, 0, 0, 0)) := rfl
theorem p132_19 : vm_P 132 19 = some (vm_m132, (19, .iload 4, 2, 0, 0, 0)) := rfl
theorem p132_21 : vm_P 132 21 = some (vm_m132, (21, .iadd, 1, 0, 0, 0)) := rfl
theorem p132_22 : vm_P 132 22 = some (vm_m132, (22, .iload_n 2, 1, 0, 0, 0)) := rfl
theorem p132_23 : vm_P 132 23 = some (vm_m132, (23, .iastore, 1, 0, 0, 0)) := rfl
theorem p132_24 : vm_P 132 24 = some (vm_m132, (24, .iconst 3, 1, 0, 0, 0)) := rfl
theorem p132_25 : vm_P 132 25 = some (vm_m132, (25, .istore 6, 2, 0, 0, 0)) := rfl
theorem p132_27 : vm_P 132 27 = some (vm_m132, (27, .iload 6, 2, 0, 0, 0)) := rfl
theorem p132_29 : vm_P 132 29 = some (vm_m132, (29, .ifCond .lt 33, 3, 0, 0, 0)) := rfl
theorem p132_32 : vm_P 132 32 = some (vm_m132, (32, .aload_n 0, 1, 0, 0, 0)) := rfl
theorem p132_33 : vm_P 132 33 = some (vm_m132, (33, .bipush 55, 2, 0, 0, 0)) := rfl
theorem p132_35 : vm_P 132 35 = some (vm_m132, (35, .iconst 4, 1, 0, 0, 0)) := rfl
theorem p132_36 : vm_P 132 36 = some (vm_m132, (36, .iload 4, 2, 0, 0, 0)) := rfl
theorem p132_38 : vm_P 132 38 = some (vm_m132, (38, .imul, 1, 0, 0, 0)) := rfl
theorem p132_39 : vm_P 132 39 = some (vm_m132, (39, .iadd, 1, 0, 0, 0)) := rfl
theorem p132_40 : vm_P 132 40 = some (vm_m132, (40, .iload 6, 2, 0, 0, 0)) := rfl
theorem p132_42 : vm_P 132 42 = some (vm_m132, (42, .iadd, 1, 0, 0, 0)) := rfl
theorem p132_43 : vm_P 132 43 = some (vm_m132, (43, .iload 5, 2, 0, 0, 0)) := rfl
theorem p132_45 : vm_P 132 45 = some (vm_m132, (45, .bipush 10, 2, 0, 0, 0)) := rfl
theorem p132_47 : vm_P 132 47 = some (vm_m132, (47, .irem, 1, 0, 0, 0)) := rfl
theorem p132_48 : vm_P 132 48 = some (vm_m132, (48, .iastore, 1, 0, 0, 0)) := rfl
theorem p132_49 : vm_P 132 49 = some (vm_m132, (49, .iload 5, 2, 0, 0, 0)) := rfl
theorem p132_51 : vm_P 132 51 = some (vm_m132, (51, .bipush 10, 2, 0, 0, 0)) := rfl
theorem p132_53 : vm_P 132 53 = some (vm_m132, (53, .idiv, 1, 0, 0, 0)) := rfl
theorem p132_54 : vm_P 132 54 = some (vm_m132, (54, .istore 5, 2, 0, 0, 0)) := rfl
theorem p132_56 : vm_P 132 56 = some (vm_m132, (56, .iinc 6 (-1), 3, 0, 0, 0)) := rfl
theorem p132_59 : vm_P 132 59 = some (vm_m132, (59, .goto (-32), 3, 0, 0, 0)) := rfl
theorem p132_62 : vm_P 132 62 = some (vm_m132, (62, .aload_n 0, 1, 0, 0, 0)) := rfl
theorem p132_63 : vm_P 132 63 = some (vm_m132, (63, .iconst 2, 1, 0, 0, 0)) := rfl
theorem p132_64 : vm_P 132 64 = some (vm_m132, (64, .dup2, 1, 0, 0, 0)) := rfl
theorem p132_65 : vm_P 132 65 = some (vm_m132, (65, .iaload, 1, 0, 0, 0)) := rfl
theorem p132_66 : vm_P 132 66 = some (vm_m132, (66, .iconst 1, 1, 0, 0, 0)) := rfl
theorem p132_67 : vm_P 132 67 = some (vm_m132, (67, .iadd, 1, 0, 0, 0)) := rfl
theorem p132_68 : vm_P 132 68 = some (vm_m132, (68, .iastore, 1, 0, 0, 0)) := rfl
theorem p132_69 : vm_P 132 69 = some (vm_m132, (69, .return_, 1, 0, 0, 0)) := rfl
theorem p133_0 : vm_P 133 0 = some (vm_m133, (0, .iconst 0, 1, 0, 0, 0)) := rfl
theorem p133_1 : vm_P 133 1 = some (vm_m133, (1, .istore_n 1, 1, 0, 0, 0)) := rfl
theorem p133_2 : vm_P 133 2 = some (vm_m133, (2, .iload_n 1, 1, 0, 0, 0)) := rfl
theorem p133_3 : vm_P 133 3 = some (vm_m133, (3, .bipush 33, 2, 0, 0, 0)) := rfl
theorem p133_5 : vm_P 133 5 = some (vm_m133, (5, .if_icmp .ge 16, 3, 0, 0, 0)) := rfl
theorem p133_8 : vm_P 133 8 = some (vm_m133, (8, .aload_n 0, 1, 0, 0, 0)) := rfl
theorem p133_9 : vm_P 133 9 = some (vm_m133, (9, .getfield 16, 3, 10, 2, 0)) := rfl
theorem p133_12 : vm_P 133 12 = some (vm_m133, (12, .iload_n 1, 1, 0, 0, 0)) := rfl
theorem p133_13 : vm_P 133 13 = some (vm_m133, (13, .iconst 0, 1, 0, 0, 0)) := rfl
theorem p133_14 : vm_P 133 14 = some (vm_m133, (14, .iastore, 1, 0, 0, 0)) := rfl
theorem p133_15 : vm_P 133 15 = some (vm_m133, (15, .iinc 1 1, 3, 0, 0, 0)) := rfl
theorem p133_18 : vm_P 133 18 = some (vm_m133, (18, .goto (-16), 3, 0, 0, 0)) := rfl
theorem p133_21 : vm_P 133 21 = some (vm_m133, (21, .iconst 0, 1, 0, 0, 0)) := rfl
theorem p133_22 : vm_P 133 22 = some (vm_m133, (22, .istore_n 1, 1, 0, 0, 0)) := rfl
theorem p133_23 : vm_P 133 23 = some (vm_m133, (23, .iload_n 1, 1, 0, 0, 0)) := rfl
theorem p133_24 : vm_P 133 24 = some (vm_m133, (24, .iconst 4, 1, 0, 0, 0)) := rfl
theorem p133_25 : vm_P 133 25 = some (vm_m133, (25, .if_icmp .ge 134, 3, 0, 0, 0)) := rfl
theorem p133_28 : vm_P 133 28 = some (vm_m133, (28, .iload_n 1, 1, 0, 0, 0)) := rfl
theorem p133_29 : vm_P 133 29 = some (vm_m133, (29, .aload_n 0, 1, 0, 0, 0)) := rfl
theorem p133_30 : vm_P 133 30 = some (vm_m133, (30, .getfield 7, 3, 10, 0, 0)) := rfl
theorem p133_33 : vm_P 133 33 = some (vm_m133, (33, .iconst 2, 1, 0, 0, 0)) := rfl
theorem p133_34 : vm_P 133 34 = some (vm_m133, (34, .iaload, 1, 0, 0, 0)) := rfl
theorem p133_35 : vm_P 133 35 = some (vm_m133, (35, .if_icmp .ge 7, 3, 0, 0, 0)) := rfl
theorem p133_38 : vm_P 133 38 = some (vm_m133, (38, .iconst 1, 1, 0, 0, 0)) := rfl
theorem p133_39 : vm_P 133 39 = some (vm_m133, (39, .goto 4, 3, 0, 0, 0)) := rfl
theorem p133_42 : vm_P 133 42 = some (vm_m133, (42, .iconst 0, 1, 0, 0, 0)) := rfl
theorem p133_43 : vm_P 133 43 = some (vm_m133, (43, .istore_n 2, 1, 0, 0, 0)) := rfl
theorem p133_44 : vm_P 133 44 = some (vm_m133, (44, .aload_n 0, 1, 0, 0, 0)) := rfl
theorem p133_45 : vm_P 133 45 = some (vm_m133, (45, .getfield 16, 3, 10, 2, 0)) := rfl
theorem p133_48 : vm_P 133 48 = some (vm_m133, (48, .iconst 0, 1, 0, 0, 0)) := rfl
theorem p133_49 : vm_P 133 49 = some (vm_m133, (49, .iload_n 1, 1, 0, 0, 0)) := rfl
theorem p133_50 : vm_P 133 50 = some (vm_m133, (50, .iadd, 1, 0, 0, 0)) := rfl
theorem p133_51 : vm_P 133 51 = some (vm_m133, (51, .iload_n 2, 1, 0, 0, 0)) := rfl
theorem p133_52 : vm_P 133 52 = some (vm_m133, (52, .ifCond .eq 15, 3, 0, 0, 0)) := rfl
theorem p133_55 : vm_P 133 55 = some (vm_m133, (55, .aload_n 0, 1, 0, 0, 0)) := rfl
theorem p133_56 : vm_P 133 56 = some (vm_m133, (56, .getfield 7, 3, 10, 0, 0)) := rfl
theorem p133_59 : vm_P 133 59 = some (vm_m133, (59, .bipush 51, 2, 0, 0, 0)) := rfl
theorem p133_61 : vm_P 133 61 = some (vm_m133, (61, .iload_n 1, 1, 0, 0, 0)) := rfl
theorem p133_62 : vm_P 133 62 = some (vm_m133, (62, .iadd, 1, 0, 0, 0)) := rfl
theorem p133_63 : vm_P 133 63 = some (vm_m133, (63, .iaload, 1, 0, 0, 0)) := rfl
theorem p133_64 : vm_P 133 64 = some (vm_m133, (64, .goto 4, 3, 0, 0, 0)) := rfl
theorem p133_67 : vm_P 133 67 = some (vm_m133, (67, .iconst 0, 1, 0, 0, 0)) := rfl
theorem p133_68 : vm_P 133 68 = some (vm_m133, (68, .iastore, 1, 0, 0, 0)) := rfl
theorem p133_69 : vm_P 133 69 = some (vm_m133, (69, .aload_n 0, 1, 0, 0, 0)) := rfl
theorem p133_70 : vm_P 133 70 = some (vm_m133, (70, .getfield 16, 3, 10, 2, 0)) := rfl
theorem p133_73 : vm_P 133 73 = some (vm_m133, (73, .iconst 4, 1, 0, 0, 0)) := rfl
theorem p133_74 : vm_P 133 74 = some (vm_m133, (74, .iload_n 1, 1, 0, 0, 0)) := rfl
theorem p133_75 : vm_P 133 75 = some (vm_m133, (75, .iadd, 1, 0, 0, 0)) := rfl
theorem p133_76 : vm_P 133 76 = some (vm_m133, (76, .iload_n 2, 1, 0, 0, 0)) := rfl
theorem p133_77 : vm_P 133 77 = some (vm_m133, (77, .ifCond .eq 15, 3, 0, 0, 0)) := rfl
theorem p133_80 : vm_P 133 80 = some (vm_m133, (80, .aload_n 0, 1, 0, 0, 0)) := rfl
theorem p133_81 : vm_P 133 81 = some (vm_m133, (81, .getfield 7, 3, 10, 0, 0)) := rfl
theorem p133_84 : vm_P 133 84 = some (vm_m133, (84, .bipush 47, 2, 0, 0, 0)) := rfl
theorem p133_86 : vm_P 133 86 = some (vm_m133, (86, .iload_n 1, 1, 0, 0, 0)) := rfl
theorem p133_87 : vm_P 133 87 = some (vm_m133, (87, .iadd, 1, 0, 0, 0)) := rfl
theorem p133_88 : vm_P 133 88 = some (vm_m133, (88, .iaload, 1, 0, 0, 0)) := rfl
theorem p133_89 : vm_P 133 89 = some (vm_m133, (89, .goto 5, 3, 0, 0, 0)) := rfl
theorem p133_92 : vm_P 133 92 = some (vm_m133, (92, .bipush (-4), 2, 0, 0, 0)) := rfl
theorem p133_94 : vm_P 133 94 = some (vm_m133, (94, .iastore, 1, 0, 0, 0)) := rfl
theorem p133_95 : vm_P 133 95 = some (vm_m133, (95, .aload_n 0, 1, 0, 0, 0)) := rfl
theorem p133_96 : vm_P 133 96 = some (vm_m133, (96, .getfield 16, 3, 10, 2, 0)) := rfl
theorem p133_99 : vm_P 133 99 = some (vm_m133, (99, .bipush 24, 2, 0, 0, 0)) := rfl
theorem p133_101 : vm_P 133 101 = some (vm_m133, (101, .iload_n 1, 1, 0, 0, 0)) := rfl
theorem p133_102 : vm_P 133 102 = some (vm_m133, (102, .iadd, 1, 0, 0, 0)) := rfl
theorem p133_103 : vm_P 133 103 = some (vm_m133, (103, .bipush (-4), 2, 0, 0, 0)) := rfl
theorem p133_105 : vm_P 133 105 = some (vm_m133, (105, .iastore, 1, 0, 0, 0)) := rfl
theorem p133_106 : vm_P 133 106 = some (vm_m133, (106, .iconst 0, 1, 0, 0, 0)) := rfl
theorem p133_107 : vm_P 133 107 = some (vm_m133, (107, .istore_n 3, 1, 0, 0, 0)) := rfl
theorem p133_108 : vm_P 133 108 = some (vm_m133, (108, .iload_n 3, 1, 0, 0, 0)) := rfl
theorem p133_109 : vm_P 133 109 = some (vm_m133, (109, .iconst 4, 1, 0, 0, 0)) := rfl
theorem p133_110 : vm_P 133 110 = some (vm_m133, (110, .if_icmp .ge 43, 3, 0, 0, 0)) := rfl
theorem p133_113 : vm_P 133 113 = some (vm_m133, (113, .aload_n 0, 1, 0, 0, 0)) := rfl
theorem p133_114 : vm_P 133 114 = some (vm_m133, (114, .getfield 16, 3, 10, 2, 0)) := rfl
theorem p133_117 : vm_P 133 117 = some (vm_m133, (117, .bipush 8, 2, 0, 0, 0)) := rfl
theorem p133_119 : vm_P 133 119 = some (vm_m133, (119, .iconst 4, 1, 0, 0, 0)) := rfl
theorem p133_120 : vm_P 133 120 = some (vm_m133, (120, .iload_n 1, 1, 0, 0, 0)) := rfl
theorem p133_121 : vm_P 133 121 = some (vm_m133, (121, .imul, 1, 0, 0, 0)) := rfl
theorem p133_122 : vm_P 133 122 = some (vm_m133, (122, .iadd, 1, 0, 0, 0)) := rfl
theorem p133_123 : vm_P 133 123 = some (vm_m133, (123, .iload_n 3, 1, 0, 0, 0)) := rfl
theorem p133_124 : vm_P 133 124 = some (vm_m133, (124, .iadd, 1, 0, 0, 0)) := rfl
theorem p133_125 : vm_P 133 125 = some (vm_m133, (125, .iload_n 2, 1, 0, 0, 0)) := rfl
theorem p133_126 : vm_P 133 126 = some (vm_m133, (126, .ifCond .eq 19, 3, 0, 0, 0)) := rfl
theorem p133_129 : vm_P 133 129 = some (vm_m133, (129, .aload_n 0, 1, 0, 0, 0)) := rfl
theorem p133_130 : vm_P 133 130 = some (vm_m133, (130, .getfield 7, 3, 10, 0, 0)) := rfl
theorem p133_133 : vm_P 133 133 = some (vm_m133, (133, .bipush 55, 2, 0, 0, 0)) := rfl
theorem p133_135 : vm_P 133 135 = some (vm_m133, (135, .iconst 4, 1, 0, 0, 0)) := rfl
theorem p133_136 : vm_P 133 136 = some (vm_m133, (136, .iload_n 1, 1, 0, 0, 0)) := rfl
theorem p133_137 : vm_P 133 137 = some (vm_m133, (137, .imul, 1, 0, 0, 0)) := rfl
theorem p133_138 : vm_P 133 138 = some (vm_m133, (138, .iadd, 1, 0, 0, 0)) := rfl
theorem p133_139 : vm_P 133 139 = some (vm_m133, (139, .iload_n 3, 1, 0, 0, 0)) := rfl
theorem p133_140 : vm_P 133 140 = some (vm_m133, (140, .iadd, 1, 0, 0, 0)) := rfl
theorem p133_141 : vm_P 133 141 = some (vm_m133, (141, .iaload, 1, 0, 0, 0)) := rfl
theorem p133_142 : vm_P 133 142 = some (vm_m133, (142, .goto 4, 3, 0, 0, 0)) := rfl
theorem p133_145 : vm_P 133 145 = some (vm_m133, (145, .iconst 0, 1, 0, 0, 0)) := rfl
theorem p133_146 : vm_P 133 146 = some (vm_m133, (146, .iastore, 1, 0, 0, 0)) := rfl
theorem p133_147 : vm_P 133 147 = some (vm_m133, (147, .iinc 3 1, 3, 0, 0, 0)) := rfl
theorem p133_150 : vm_P 133 150 = some (vm_m133, (150, .goto (-42), 3, 0, 0, 0)) := rfl
theorem p133_153 : vm_P 133 153 = some (vm_m133, (153, .iinc 1 1, 3, 0, 0, 0)) := rfl
theorem p133_156 : vm_P 133 156 = some (vm_m133, (156, .goto (-133), 3, 0, 0, 0)) := rfl
theorem p133_159 : vm_P 133 159 = some (vm_m133, (159, .aload_n 0, 1, 0, 0, 0)) := rfl
theorem p133_160 : vm_P 133 160 = some (vm_m133, (160, .iconst 0, 1, 0, 0, 0)) := rfl
theorem p133_161 : vm_P 133 161 = some (vm_m133, (161, .putfield 72, 3, 10, 5, 0)) := rfl
theorem p133_164 : vm_P 133 164 = some (vm_m133, (164, .aload_n 0, 1, 0, 0, 0)) := rfl
theorem p133_165 : vm_P 133 165 = some (vm_m133, (165, .iconst 0, 1, 0, 0, 0)) := rfl
theorem p133_166 : vm_P 133 166 = some (vm_m133, (166, .putfield 76, 3, 10, 7, 0)) := rfl
theorem p133_169 : vm_P 133 169 = some (vm_m133, (169, .aload_n 0, 1, 0, 0, 0)) := rfl
theorem p133_170 : vm_P 133 170 = some (vm_m133, (170, .iconst 0, 1, 0, 0, 0)) := rfl
theorem p133_171 : vm_P 133 171 = some (vm_m133, (171, .putfield 79, 3, 10, 9, 0)) := rfl
theorem p133_174 : vm_P 133 174 = some (vm_m133, (174, .return_, 1, 0, 0, 0)) := rfl
theorem p134_0 : vm_P 134 0 = some (vm_m134, (0, .iload_n 1, 1, 0, 0, 0)) := rfl
theorem p134_1 : vm_P 134 1 = some (vm_m134, (1, .i2l, 1, 0, 0, 0)) := rfl
theorem p134_2 : vm_P 134 2 = some (vm_m134, (2, .ldc2_w 82, 3, 3, 0, 0)) := rfl
theorem p134_5 : vm_P 134 5 = some (vm_m134, (5, .ldc2_w 84, 3, 4, 0, 0)) := rfl
theorem p134_8 : vm_P 134 8 = some (vm_m134, (8, .invokestatic 86, 3, 1, 128, 3)) := rfl
theorem p134_11 : vm_P 134 11 = some (vm_m134, (11, .ifCond .ne 5, 3, 0, 0, 0)) := rfl
theorem p134_14 : vm_P 134 14 = some (vm_m134, (14, .iconst (-1), 1, 0, 0, 0)) := rfl
theorem p134_15 : vm_P 134 15 = some (vm_m134, (15, .ireturn, 1, 0, 0, 0)) := rfl
theorem p134_16 : vm_P 134 16 = some (vm_m134, (16, .aload_n 0, 1, 0, 0, 0)) := rfl
theorem p134_17 : vm_P 134 17 = some (vm_m134, (17, .getfield 90, 3, 10, 11, 0)) := rfl
theorem p134_20 : vm_P 134 20 = some (vm_m134, (20, .sipush 200, 3, 0, 0, 0)) := rfl
theorem p134_23 : vm_P 134 23 = some (vm_m134, (23, .if_icmp .ne 6, 3, 0, 0, 0)) := rfl
theorem p134_26 : vm_P 134 26 = some (vm_m134, (26, .bipush (-3), 2, 0, 0, 0)) := rfl
theorem p134_28 : vm_P 134 28 = some (vm_m134, (28, .ireturn, 1, 0, 0, 0)) := rfl
theorem p134_29 : vm_P 134 29 = some (vm_m134, (29, .aload_n 0, 1, 0, 0, 0)) := rfl
theorem p134_30 : vm_P 134 30 = some (vm_m134, (30, .getfield 31, 3, 10, 10, 0)) := rfl
theorem p134_33 : vm_P 134 33 = some (vm_m134, (33, .aload_n 0, 1, 0, 0, 0)) := rfl
theorem p134_34 : vm_P 134 34 = some (vm_m134, (34, .getfield 90, 3, 10, 11, 0)) := rfl
theorem p134_37 : vm_P 134 37 = some (vm_m134, (37, .iload_n 1, 1, 0, 0, 0)) := rfl
theorem p134_38 : vm_P 134 38 = some (vm_m134, (38, .iastore, 1, 0, 0, 0)) := rfl
theorem p134_39 : vm_P 134 39 = some (vm_m134, (39, .aload_n 0, 1, 0, 0, 0)) := rfl
theorem p134_40 : vm_P 134 40 = some (vm_m134, (40, .dup, 1, 0, 0, 0)) := rfl
theorem p134_41 : vm_P 134 41 = some (vm_m134, (41, .getfield 90, 3, 10, 11, 0)) := rfl
theorem p134_44 : vm_P 134 44 = some (vm_m134, (44, .iconst 1, 1, 0, 0, 0)) := rfl
theorem p134_45 : vm_P 134 45 = some (vm_m134, (45, .iadd, 1, 0, 0, 0)) := rfl
theorem p134_46 : vm_P 134 46 = some (vm_m134, (46, .putfield 90, 3, 10, 11, 0)) := rfl
theorem p134_49 : vm_P 134 49 = some (vm_m134, (49, .aload_n 0, 1, 0, 0, 0)) := rfl
theorem p134_50 : vm_P 134 50 = some (vm_m134, (50, .getfield 90, 3, 10, 11, 0)) := rfl
theorem p134_53 : vm_P 134 53 = some (vm_m134, (53, .ireturn, 1, 0, 0, 0)) := rfl
theorem p135_0 : vm_P 135 0 = some (vm_m135, (0, .aload_n 0, 1, 0, 0, 0)) := rfl
theorem p135_1 : vm_P 135 1 = some (vm_m135, (1, .getfield 90, 3, 10, 11, 0)) := rfl
theorem p135_4 : vm_P 135 4 = some (vm_m135, (4, .istore_n 1, 1, 0, 0, 0)) := rfl
theorem p135_5 : vm_P 135 5 = some (vm_m135, (5, .aload_n 0, 1, 0, 0, 0)) := rfl
theorem p135_6 : vm_P 135 6 = some (vm_m135, (6, .iconst 0, 1, 0, 0, 0)) := rfl
theorem p135_7 : vm_P 135 7 = some (vm_m135, (7, .putfield 90, 3, 10, 11, 0)) := rfl
theorem p135_10 : vm_P 135 10 = some (vm_m135, (10, .iload_n 1, 1, 0, 0, 0)) := rfl
theorem p135_11 : vm_P 135 11 = some (vm_m135, (11, .ireturn, 1, 0, 0, 0)) := rfl
theorem p136_0 : vm_P 136 0 = some (vm_m136, (0, .aload_n 0, 1, 0, 0, 0)) := rfl
theorem p136_1 : vm_P 136 1 = some (vm_m136, (1, .getfield 93, 3, 10, 12, 0)) := rfl
theorem p136_4 : vm_P 136 4 = some (vm_m136, (4, .aload_n 0, 1, 0, 0, 0)) := rfl
theorem p136_5 : vm_P 136 5 = some (vm_m136, (5, .getfield 90, 3, 10, 11, 0)) := rfl
theorem p136_8 : vm_P 136 8 = some (vm_m136, (8, .if_icmp .ge 15, 3, 0, 0, 0)) := rfl
theorem p136_11 : vm_P 136 11 = some (vm_m136, (11, .aload_n 0, 1, 0, 0, 0)) := rfl
theorem p136_12 : vm_P 136 12 = some (vm_m136, (12, .getfield 31, 3, 10, 10, 0)) := rfl
theorem p136_15 : vm_P 136 15 = some (vm_m136, (15, .aload_n 0, 1, 0, 0, 0)) := rfl
theorem p136_16 : vm_P 136 16 = some (vm_m136, (16, .getfield 93, 3, 10, 12, 0)) := rfl
theorem p136_19 : vm_P 136 19 = some (vm_m136, (19, .iaload, 1, 0, 0, 0)) := rfl
theorem p136_20 : vm_P 136 20 = some (vm_m136, (20, .goto 4, 3, 0, 0, 0)) := rfl
theorem p136_23 : vm_P 136 23 = some (vm_m136, (23, .iconst (-1), 1, 0, 0, 0)) := rfl
theorem p136_24 : vm_P 136 24 = some (vm_m136, (24, .ireturn, 1, 0, 0, 0)) := rfl
theorem p137_0 : vm_P 137 0 = some (vm_m137, (0, .aload_n 0, 1, 0, 0, 0)) := rfl
theorem p137_1 : vm_P 137 1 = some (vm_m137, (1, .invokevirtual 96, 3, 0, 136, 1000)) := rfl
theorem p137_4 : vm_P 137 4 = some (vm_m137, (4, .iload_n 1, 1, 0, 0, 0)) := rfl
theorem p137_5 : vm_P 137 5 = some (vm_m137, (5, .if_icmp .ne 7, 3, 0, 0, 0)) := rfl
theorem p137_8 : vm_P 137 8 = some (vm_m137, (8, .iconst 1, 1, 0, 0, 0)) := rfl
theorem p137_9 : vm_P 137 9 = some (vm_m137, (9, .goto 4, 3, 0, 0, 0)) := rfl
theorem p137_12 : vm_P 137 12 = some (vm_m137, (12, .iconst 0, 1, 0, 0, 0)) := rfl
theorem p137_13 : vm_P 137 13 = some (vm_m137, (13, .istore_n 2, 1, 0, 0, 0)) := rfl
theorem p137_14 : vm_P 137 14 = some (vm_m137, (14, .aload_n 0, 1, 0, 0, 0)) := rfl
theorem p137_15 : vm_P 137 15 = some (vm_m137, (15, .dup, 1, 0, 0, 0)) := rfl
theorem p137_16 : vm_P 137 16 = some (vm_m137, (16, .getfield 93, 3, 10, 12, 0)) := rfl
theorem p137_19 : vm_P 137 19 = some (vm_m137, (19, .iload_n 2, 1, 0, 0, 0)) := rfl
theorem p137_20 : vm_P 137 20 = some (vm_m137, (20, .ifCond .eq 7, 3, 0, 0, 0)) := rfl
theorem p137_23 : vm_P 137 23 = some (vm_m137, (23, .iconst 1, 1, 0, 0, 0)) := rfl
theorem p137_24 : vm_P 137 24 = some (vm_m137, (24, .goto 4, 3, 0, 0, 0)) := rfl
theorem p137_27 : vm_P 137 27 = some (vm_m137, (27, .iconst 0, 1, 0, 0, 0)) := rfl
theorem p137_28 : vm_P 137 28 = some (vm_m137, (28, .iadd, 1, 0, 0, 0)) := rfl
theorem p137_29 : vm_P 137 29 = some (vm_m137, (29, .putfield 93, 3, 10, 12, 0)) := rfl
theorem p137_32 : vm_P 137 32 = some (vm_m137, (32, .iload_n 2, 1, 0, 0, 0)) := rfl
theorem p137_33 : vm_P 137 33 = some (vm_m137, (33, .ireturn, 1, 0, 0, 0)) := rfl
theorem p138_0 : vm_P 138 0 = some (vm_m138, (0, .iload_n 0, 1, 0, 0, 0)) := rfl
theorem p138_1 : vm_P 138 1 = some (vm_m138, (1, .i2l, 1, 0, 0, 0)) := rfl
theorem p138_2 : vm_P 138 2 = some (vm_m138, (2, .ldc2_w 100, 3, 5, 0, 0)) := rfl
theorem p138_5 : vm_P 138 5 = some (vm_m138, (5, .ldc2_w 102, 3, 6, 0, 0)) := rfl
theorem p138_8 : vm_P 138 8 = some (vm_m138, (8, .invokestatic 86, 3, 1, 128, 3)) := rfl
theorem p138_11 : vm_P 138 11 = some (vm_m138, (11, .ireturn, 1, 0, 0, 0)) := rfl
theorem p139_0 : vm_P 139 0 = some (vm_m139, (0, .aload_n 0, 1, 0, 0, 0)) := rfl
theorem p139_1 : vm_P 139 1 = some (vm_m139, (1, .invokevirtual 96, 3, 0, 136, 1000)) := rfl
theorem p139_4 : vm_P 139 4 = some (vm_m139, (4, .invokestatic 104, 3, 1, 138, 1)) := rfl
theorem p139_7 : vm_P 139 7 = some (vm_m139, (7, .ifCond .ne 5, 3, 0, 0, 0)) := rfl
theorem p139_10 : vm_P 139 10 = some (vm_m139, (10, .iconst 0, 1, 0, 0, 0)) := rfl
theorem p139_11 : vm_P 139 11 = some (vm_m139, (11, .ireturn, 1, 0, 0, 0)) := rfl
theorem p139_12 : vm_P 139 12 = some (vm_m139, (12, .aload_n 0, 1, 0, 0, 0)) := rfl
theorem p139_13 : vm_P 139 13 = some (vm_m139, (13, .aload_n 0, 1, 0, 0, 0)) := rfl
theorem p139_14 : vm_P 139 14 = some (vm_m139, (14, .invokevirtual 96, 3, 0, 136, 1000)) := rfl
theorem p139_17 : vm_P 139 17 = some (vm_m139, (17, .bipush 48, 2, 0, 0, 0)) := rfl
theorem p139_19 : vm_P 139 19 = some (vm_m139, (19, .isub, 1, 0, 0, 0)) := rfl
theorem p139_20 : vm_P 139 20 = some (vm_m139, (20, .putfield 108, 3, 10, 13, 0)) := rfl
theorem p139_23 : vm_P 139 23 = some (vm_m139, (23, .aload_n 0, 1, 0, 0, 0)) := rfl
theorem p139_24 : vm_P 139 24 = some (vm_m139, (24, .dup, 1, 0, 0, 0)) := rfl
theorem p139_25 : vm_P 139 25 = some (vm_m139, (25, .getfield 93, 3, 10, 12, 0)) := rfl
theorem p139_28 : vm_P 139 28 = some (vm_m139, (28, .iconst 1, 1, 0, 0, 0)) := rfl
theorem p139_29 : vm_P 139 29 = some (vm_m139, (29, .iadd, 1, 0, 0, 0)) := rfl
theorem p139_30 : vm_P 139 30 = some (vm_m139, (30, .putfield 93, 3, 10, 12, 0)) := rfl
theorem p139_33 : vm_P 139 33 = some (vm_m139, (33, .aload_n 0, 1, 0, 0, 0)) := rfl
theorem p139_34 : vm_P 139 34 = some (vm_m139, (34, .invokevirtual 96, 3, 0, 136, 1000)) := rfl
theorem p139_37 : vm_P 139 37 = some (vm_m139, (37, .invokestatic 104, 3, 1, 138, 1)) := rfl
theorem p139_40 : vm_P 139 40 = some (vm_m139, (40, .ifCond .eq 32, 3, 0, 0, 0)) := rfl
theorem p139_43 : vm_P 139 43 = some (vm_m139, (43, .aload_n 0, 1, 0, 0, 0)) := rfl
theorem p139_44 : vm_P 139 44 = some (vm_m139, (44, .bipush 10, 2, 0, 0, 0)) := rfl
theorem p139_46 : vm_P 139 46 = some (vm_m139, (46, .aload_n 0, 1, 0, 0, 0)) := rfl
theorem p139_47 : vm_P 139 47 = some (vm_m139, (47, .getfield 108, 3, 10, 13, 0)) := rfl
theorem p139_50 : vm_P 139 50 = some (vm_m139, (50, .imul, 1, 0, 0, 0)) := rfl
theorem p139_51 : vm_P 139 51 = some (vm_m139, (51, .aload_n 0, 1, 0, 0, 0)) := rfl
theorem p139_52 : vm_P 139 52 = some (vm_m139, (52, .invokevirtual 96, 3, 0, 136, 1000)) := rfl
theorem p139_55 : vm_P 139 55 = some (vm_m139, (55, .iadd, 1, 0, 0, 0)) := rfl
theorem p139_56 : vm_P 139 56 = some (vm_m139, (56, .bipush 48, 2, 0, 0, 0)) := rfl
theorem p139_58 : vm_P 139 58 = some (vm_m139, (58, .isub, 1, 0, 0, 0)) := rfl
theorem p139_59 : vm_P 139 59 = some (vm_m139, (59, .putfield 108, 3, 10, 13, 0)) := rfl
theorem p139_62 : vm_P 139 62 = some (vm_m139, (62, .aload_n 0, 1, 0, 0, 0)) := rfl
theorem p139_63 : vm_P 139 63 = some (vm_m139, (63, .dup, 1, 0, 0, 0)) := rfl
theorem p139_64 : vm_P 139 64 = some (vm_m139, (64, .getfield 93, 3, 10, 12, 0)) := rfl
theorem p139_67 : vm_P 139 67 = some (vm_m139, (67, .iconst 1, 1, 0, 0, 0)) := rfl
theorem p139_68 : vm_P 139 68 = some (vm_m139, (68, .iadd, 1, 0, 0, 0)) := rfl
theorem p139_69 : vm_P 139 69 = some (vm_m139, (69, .putfield 93, 3, 10, 12, 0)) := rfl
theorem p139_72 : vm_P 139 72 = some (vm_m139, (72, .aload_n 0, 1, 0, 0, 0)) := rfl
theorem p139_73 : vm_P 139 73 = some (vm_m139, (73, .getfield 108, 3, 10, 13, 0)) := rfl
theorem p139_76 : vm_P 139 76 = some (vm_m139, (76, .i2l, 1, 0, 0, 0)) := rfl
theorem p139_77 : vm_P 139 77 = some (vm_m139, (77, .iload_n 1, 1, 0, 0, 0)) := rfl
theorem p139_78 : vm_P 139 78 = some (vm_m139, (78, .i2l, 1, 0, 0, 0)) := rfl
theorem p139_79 : vm_P 139 79 = some (vm_m139, (79, .iload_n 2, 1, 0, 0, 0)) := rfl
theorem p139_80 : vm_P 139 80 = some (vm_m139, (80, .i2l, 1, 0, 0, 0)) := rfl
theorem p139_81 : vm_P 139 81 = some (vm_m139, (81, .invokestatic 86, 3, 1, 128, 3)) := rfl
theorem p139_84 : vm_P 139 84 = some (vm_m139, (84, .ireturn, 1, 0, 0, 0)) := rfl
theorem p140_0 : vm_P 140 0 = some (vm_m140, (0, .iconst 0, 1, 0, 0, 0)) := rfl
theorem p140_1 : vm_P 140 1 = some (vm_m140, (1, .istore_n 1, 1, 0, 0, 0)) := rfl
theorem p140_2 : vm_P 140 2 = some (vm_m140, (2, .iconst 0, 1, 0, 0, 0)) := rfl
theorem p140_3 : vm_P 140 3 = some (vm_m140, (3, .istore_n 2, 1, 0, 0, 0)) := rfl
theorem p140_4 : vm_P 140 4 = some (vm_m140, (4, .aload_n 0, 1, 0, 0, 0)) := rfl
theorem p140_5 : vm_P 140 5 = some (vm_m140, (5, .invokevirtual 96, 3, 0, 136, 1000)) := rfl
theorem p140_8 : vm_P 140 8 = some (vm_m140, (8, .invokestatic 104, 3, 1, 138, 1)) := rfl
theorem p140_11 : vm_P 140 11 = some (vm_m140, (11, .ifCond .eq 37, 3, 0, 0, 0)) := rfl
theorem p140_14 : vm_P 140 14 = some (vm_m140, (14, .iload_n 2, 1, 0, 0, 0)) := rfl
theorem p140_15 : vm_P 140 15 = some (vm_m140, (15, .iconst 4, 1, 0, 0, 0)) := rfl
theorem p140_16 : vm_P 140 16 = some (vm_m140, (16, .if_icmp .ge 32, 3, 0, 0, 0)) := rfl
theorem p140_19 : vm_P 140 19 = some (vm_m140, (19, .bipush 10, 2, 0, 0, 0)) := rfl
theorem p140_21 : vm_P 140 21 = some (vm_m140, (21, .iload_n 1, 1, 0, 0, 0)) := rfl
theorem p140_22 : vm_P 140 22 = some (vm_m140, (22, .imul, 1, 0, 0, 0)) := rfl
theorem p140_23 : vm_P 140 23 = some (vm_m140, (23, .aload_n 0, 1, 0, 0, 0)) := rfl
theorem p140_24 : vm_P 140 24 = some (vm_m140, (24, .invokevirtual 96, 3, 0, 136, 1000)) := rfl
theorem p140_27 : vm_P 140 27 = some (vm_m140, (27, .iadd, 1, 0, 0, 0)) := rfl
theorem p140_28 : vm_P 140 28 = some (vm_m140, (28, .bipush 48, 2, 0, 0, 0)) := rfl
theorem p140_30 : vm_P 140 30 = some (vm_m140, (30, .isub, 1, 0, 0, 0)) := rfl
theorem p140_31 : vm_P 140 31 = some (vm_m140, (31, .istore_n 1, 1, 0, 0, 0)) := rfl
theorem p140_32 : vm_P 140 32 = some (vm_m140, (32, .iinc 2 1, 3, 0, 0, 0)) := rfl
theorem p140_35 : vm_P 140 35 = some (vm_m140, (35, .aload_n 0, 1, 0, 0, 0)) := rfl
theorem p140_36 : vm_P 140 36 = some (vm_m140, (36, .dup, 1, 0, 0, 0)) := rfl
theorem p140_37 : vm_P 140 37 = some (vm_m140, (37, .getfield 93, 3, 10, 12, 0)) := rfl
theorem p140_40 : vm_P 140 40 = some (vm_m140, (40, .iconst 1, 1, 0, 0, 0)) := rfl
theorem p140_41 : vm_P 140 41 = some (vm_m140, (41, .iadd, 1, 0, 0, 0)) := rfl
theorem p140_42 : vm_P 140 42 = some (vm_m140, (42, .putfield 93, 3, 10, 12, 0)) := rfl
theorem p140_45 : vm_P 140 45 = some (vm_m140, (45, .goto (-41), 3, 0, 0, 0)) := rfl
theorem p140_48 : vm_P 140 48 = some (vm_m140, (48, .iload_n 2, 1, 0, 0, 0)) := rfl
theorem p140_49 : vm_P 140 49 = some (vm_m140, (49, .iconst 4, 1, 0, 0, 0)) := rfl
theorem p140_50 : vm_P 140 50 = some (vm_m140, (50, .if_icmp .lt 14, 3, 0, 0, 0)) := rfl
theorem p140_53 : vm_P 140 53 = some (vm_m140, (53, .aload_n 0, 1, 0, 0, 0)) := rfl
theorem p140_54 : vm_P 140 54 = some (vm_m140, (54, .getfield 13, 3, 10, 1, 0)) := rfl
theorem p140_57 : vm_P 140 57 = some (vm_m140, (57, .iconst 0, 1, 0, 0, 0)) := rfl
theorem p140_58 : vm_P 140 58 = some (vm_m140, (58, .iaload, 1, 0, 0, 0)) := rfl
theorem p140_59 : vm_P 140 59 = some (vm_m140, (59, .bipush 9, 2, 0, 0, 0)) := rfl
theorem p140_61 : vm_P 140 61 = some (vm_m140, (61, .if_icmp .ne 5, 3, 0, 0, 0)) := rfl
theorem p140_64 : vm_P 140 64 = some (vm_m140, (64, .iconst 0, 1, 0, 0, 0)) := rfl
theorem p140_65 : vm_P 140 65 = some (vm_m140, (65, .ireturn, 1, 0, 0, 0)) := rfl
theorem p140_66 : vm_P 140 66 = some (vm_m140, (66, .aload_n 0, 1, 0, 0, 0)) := rfl
theorem p140_67 : vm_P 140 67 = some (vm_m140, (67, .getfield 13, 3, 10, 1, 0)) := rfl
theorem p140_70 : vm_P 140 70 = some (vm_m140, (70, .iload_n 1, 1, 0, 0, 0)) := rfl
theorem p140_71 : vm_P 140 71 = some (vm_m140, (71, .invokestatic 61, 3, 1, 131, 2)) := rfl
theorem p140_74 : vm_P 140 74 = some (vm_m140, (74, .iconst 1, 1, 0, 0, 0)) := rfl
theorem p140_75 : vm_P 140 75 = some (vm_m140, (75, .ireturn, 1, 0, 0, 0)) := rfl
theorem p141_0 : vm_P 141 0 = some (vm_m141, (0, .aload_n 0, 1, 0, 0, 0)) := rfl
theorem p141_1 : vm_P 141 1 = some (vm_m141, (1, .getfield 13, 3, 10, 1, 0)) := rfl
theorem p141_4 : vm_P 141 4 = some (vm_m141, (4, .iconst 1, 1, 0, 0, 0)) := rfl
theorem p141_5 : vm_P 141 5 = some (vm_m141, (5, .iaload, 1, 0, 0, 0)) := rfl
theorem p141_6 : vm_P 141 6 = some (vm_m141, (6, .bipush 8, 2, 0, 0, 0)) := rfl
theorem p141_8 : vm_P 141 8 = some (vm_m141, (8, .if_icmp .eq 12, 3, 0, 0, 0)) := rfl
theorem p141_11 : vm_P 141 11 = some (vm_m141, (11, .aload_n 0, 1, 0, 0, 0)) := rfl
theorem p141_12 : vm_P 141 12 = some (vm_m141, (12, .iconst 0, 1, 0, 0, 0)) := rfl
theorem p141_13 : vm_P 141 13 = some (vm_m141, (13, .iconst 3, 1, 0, 0, 0)) := rfl
theorem p141_14 : vm_P 141 14 = some (vm_m141, (14, .invokevirtual 111, 3, 0, 139, 1002)) := rfl
theorem p141_17 : vm_P 141 17 = some (vm_m141, (17, .ifCond .ne 5, 3, 0, 0, 0)) := rfl
theorem p141_20 : vm_P 141 20 = some (vm_m141, (20, .iconst 0, 1, 0, 0, 0)) := rfl
theorem p141_21 : vm_P 141 21 = some (vm_m141, (21, .ireturn, 1, 0, 0, 0)) := rfl
theorem p141_22 : vm_P 141 22 = some (vm_m141, (22, .aload_n 0, 1, 0, 0, 0)) := rfl
theorem p141_23 : vm_P 141 23 = some (vm_m141, (23, .getfield 13, 3, 10, 1, 0)) := rfl
theorem p141_26 : vm_P 141 26 = some (vm_m141, (26, .bipush 39, 2, 0, 0, 0)) := rfl
theorem p141_28 : vm_P 141 28 = some (vm_m141, (28, .aload_n 0, 1, 0, 0, 0)) := rfl
theorem p141_29 : vm_P 141 29 = some (vm_m141, (29, .getfield 13, 3, 10, 1, 0)) := rfl
theorem p141_32 : vm_P 141 32 = some (vm_m141, (32, .iconst 1, 1, 0, 0, 0)) := rfl
theorem p141_33 : vm_P 141 33 = some (vm_m141, (33, .iaload, 1, 0, 0, 0)) := rfl
theorem p141_34 : vm_P 141 34 = some (vm_m141, (34, .iadd, 1, 0, 0, 0)) := rfl
theorem p141_35 : vm_P 141 35 = some (vm_m141, (35, .aload_n 0, 1, 0, 0, 0)) := rfl
theorem p141_36 : vm_P 141 36 = some (vm_m141, (36, .getfield 108, 3, 10, 13, 0)) := rfl
theorem p141_39 : vm_P 141 39 = some (vm_m141, (39, .iastore, 1, 0, 0, 0)) := rfl
theorem p141_40 : vm_P 141 40 = some (vm_m141, (40, .aload_n 0, 1, 0, 0, 0)) := rfl
theorem p141_41 : vm_P 141 41 = some (vm_m141, (41, .getfield 13, 3, 10, 1, 0)) := rfl
theorem p141_44 : vm_P 141 44 = some (vm_m141, (44, .iconst 1, 1, 0, 0, 0)) := rfl
theorem p141_45 : vm_P 141 45 = some (vm_m141, (45, .dup2, 1, 0, 0, 0)) := rfl
theorem p141_46 : vm_P 141 46 = some (vm_m141, (46, .iaload, 1, 0, 0, 0)) := rfl
theorem p141_47 : vm_P 141 47 = some (vm_m141, (47, .iconst 1, 1, 0, 0, 0)) := rfl
theorem p141_48 : vm_P 141 48 = some (vm_m141, (48, .iadd, 1, 0, 0, 0)) := rfl
theorem p141_49 : vm_P 141 49 = some (vm_m141, (49, .iastore, 1, 0, 0, 0)) := rfl
theorem p141_50 : vm_P 141 50 = some (vm_m141, (50, .iconst 1, 1, 0, 0, 0)) := rfl
theorem p141_51 : vm_P 141 51 = some (vm_m141, (51, .ireturn, 1, 0, 0, 0)) := rfl
theorem p142_0 : vm_P 142 0 = some (vm_m142, (0, .aload_n 0, 1, 0, 0, 0)) := rfl
theorem p142_1 : vm_P 142 1 = some (vm_m142, (1, .getfield 13, 3, 10, 1, 0)) := rfl
theorem p142_4 : vm_P 142 4 = some (vm_m142, (4, .iconst 2, 1, 0, 0, 0)) := rfl
theorem p142_5 : vm_P 142 5 = some (vm_m142, (5, .iaload, 1, 0, 0, 0)) := rfl
theorem p142_6 : vm_P 142 6 = some (vm_m142, (6, .iconst 4, 1, 0, 0, 0)) := rfl
theorem p142_7 : vm_P 142 7 = some (vm_m142, (7, .if_icmp .eq 28, 3, 0, 0, 0)) := rfl
theorem p142_10 : vm_P 142 10 = some (vm_m142, (10, .aload_n 0, 1, 0, 0, 0)) := rfl
theorem p142_11 : vm_P 142 11 = some (vm_m142, (11, .iconst 0, 1, 0, 0, 0)) := rfl
theorem p142_12 : vm_P 142 12 = some (vm_m142, (12, .aload_n 0, 1, 0, 0, 0)) := rfl
theorem p142_13 : vm_P 142 13 = some (vm_m142, (13, .getfield 13, 3, 10, 1, 0)) := rfl
theorem p142_16 : vm_P 142 16 = some (vm_m142, (16, .iconst 0, 1, 0, 0, 0)) := rfl
theorem p142_17 : vm_P 142 17 = some (vm_m142, (17, .iaload, 1, 0, 0, 0)) := rfl
theorem p142_18 : vm_P 142 18 = some (vm_m142, (18, .iconst 1, 1, 0, 0, 0)) := rfl
theorem p142_19 : vm_P 142 19 = some (vm_m142, (19, .isub, 1, 0, 0, 0)) := rfl
theorem p142_20 : vm_P 142 20 = some (vm_m142, (20, .invokevirtual 111, 3, 0, 139, 1002)) := rfl
theorem p142_23 : vm_P 142 23 = some (vm_m142, (23, .ifCond .eq 12, 3, 0, 0, 0)) := rfl
theorem p142_26 : vm_P 142 26 = some (vm_m142, (26, .aload_n 0, 1, 0, 0, 0)) := rfl
theorem p142_27 : vm_P 142 27 = some (vm_m142, (27, .bipush 44, 2, 0, 0, 0)) := rfl
theorem p142_29 : vm_P 142 29 = some (vm_m142, (29, .invokevirtual 115, 3, 0, 137, 1001)) := rfl
theorem p142_32 : vm_P 142 32 = some (vm_m142, (32, .ifCond .ne 5, 3, 0, 0, 0)) := rfl
theorem p142_35 : vm_P 142 35 = some (vm_m142, (35, .iconst 0, 1, 0, 0, 0)) := rfl
theorem p142_36 : vm_P 142 36 = some (vm_m142, (36, .ireturn, 1, 0, 0, 0)) := rfl
theorem p142_37 : vm_P 142 37 = some (vm_m142, (37, .aload_n 0, 1, 0, 0, 0)) := rfl
theorem p142_38 : vm_P 142 38 = some (vm_m142, (38, .getfield 108, 3, 10, 13, 0)) := rfl
theorem p142_41 : vm_P 142 41 = some (vm_m142, (41, .istore_n 1, 1, 0, 0, 0)) := rfl
theorem p142_42 : vm_P 142 42 = some (vm_m142, (42, .aload_n 0, 1, 0, 0, 0)) := rfl
theorem p142_43 : vm_P 142 43 = some (vm_m142, (43, .iconst 1, 1, 0, 0, 0)) := rfl
theorem p142_44 : vm_P 142 44 = some (vm_m142, (44, .bipush 20, 2, 0, 0, 0)) := rfl
theorem p142_46 : vm_P 142 46 = some (vm_m142, (46, .invokevirtual 111, 3, 0, 139, 1002)) := rfl
theorem p142_49 : vm_P 142 49 = some (vm_m142, (49, .ifCond .ne 5, 3, 0, 0, 0)) := rfl
theorem p142_52 : vm_P 142 52 = some (vm_m142, (52, .iconst 0, 1, 0, 0, 0)) := rfl
theorem p142_53 : vm_P 142 53 = some (vm_m142, (53, .ireturn, 1, 0, 0, 0)) := rfl
theorem p142_54 : vm_P 142 54 = some (vm_m142, (54, .aload_n 0, 1, 0, 0, 0)) := rfl
theorem p142_55 : vm_P 142 55 = some (vm_m142, (55, .getfield 108, 3, 10, 13, 0)) := rfl
theorem p142_58 : vm_P 142 58 = some (vm_m142, (58, .istore_n 2, 1, 0, 0, 0)) := rfl
theorem p142_59 : vm_P 142 59 = some (vm_m142, (59, .iconst 0, 1, 0, 0, 0)) := rfl
theorem p142_60 : vm_P 142 60 = some (vm_m142, (60, .istore_n 3, 1, 0, 0, 0)) := rfl
theorem p142_61 : vm_P 142 61 = some (vm_m142, (61, .iconst 0, 1, 0, 0, 0)) := rfl
theorem p142_62 : vm_P 142 62 = some (vm_m142, (62, .istore 4, 2, 0, 0, 0)) := rfl
theorem p142_64 : vm_P 142 64 = some (vm_m142, (64, .iload 4, 2, 0, 0, 0)) := rfl
theorem p142_66 : vm_P 142 66 = some (vm_m142, (66, .iconst 4, 1, 0, 0, 0)) := rfl
theorem p142_67 : vm_P 142 67 = some (vm_m142, (67, .if_icmp .ge 40, 3, 0, 0, 0)) := rfl
theorem p142_70 : vm_P 142 70 = some (vm_m142, (70, .aload_n 0, 1, 0, 0, 0)) := rfl
theorem p142_71 : vm_P 142 71 = some (vm_m142, (71, .bipush 44, 2, 0, 0, 0)) := rfl
theorem p142_73 : vm_P 142 73 = some (vm_m142, (73, .invokevirtual 115, 3, 0, 137, 1001)) := rfl
theorem p142_76 : vm_P 142 76 = some (vm_m142, (76, .ifCond .eq 13, 3, 0, 0, 0)) := rfl
theorem p142_79 : vm_P 142 79 = some (vm_m142, (79, .aload_n 0, 1, 0, 0, 0)) := rfl
theorem p142_80 : vm_P 142 80 = some (vm_m142, (80, .iconst 0, 1, 0, 0, 0)) := rfl
theorem p142_81 : vm_P 142 81 = some (vm_m142, (81, .bipush 9, 2, 0, 0, 0)) := rfl
theorem p142_83 : vm_P 142 83 = some (vm_m142, (83, .invokevirtual 111, 3, 0, 139, 1002)) := rfl
theorem p142_86 : vm_P 142 86 = some (vm_m142, (86, .ifCond .ne 5, 3, 0, 0, 0)) := rfl
theorem p142_89 : vm_P 142 89 = some (vm_m142, (89, .iconst 0, 1, 0, 0, 0)) := rfl
theorem p142_90 : vm_P 142 90 = some (vm_m142, (90, .ireturn, 1, 0, 0, 0)) := rfl
theorem p142_91 : vm_P 142 91 = some (vm_m142, (91, .bipush 10, 2, 0, 0, 0)) := rfl
theorem p142_93 : vm_P 142 93 = some (vm_m142, (93, .iload_n 3, 1, 0, 0, 0)) := rfl
theorem p142_94 : vm_P 142 94 = some (vm_m142, (94, .imul, 1, 0, 0, 0)) := rfl
theorem p142_95 : vm_P 142 95 = some (vm_m142, (95, .aload_n 0, 1, 0, 0, 0)) := rfl
theorem p142_96 : vm_P 142 96 = some (vm_m142, (96, .getfield 108, 3, 10, 13, 0)) := rfl
theorem p142_99 : vm_P 142 99 = some (vm_m142, (99, .iadd, 1, 0, 0, 0)) := rfl
theorem p142_100 : vm_P 142 100 = some (vm_m142, (100, .istore_n 3, 1, 0, 0, 0)) := rfl
theorem p142_101 : vm_P 142 101 = some (vm_m142, (101, .iinc 4 1, 3, 0, 0, 0)) := rfl
theorem p142_104 : vm_P 142 104 = some (vm_m142, (104, .goto (-40), 3, 0, 0, 0)) := rfl
theorem p142_107 : vm_P 142 107 = some (vm_m142, (107, .aload_n 0, 1, 0, 0, 0)) := rfl
theorem p142_108 : vm_P 142 108 = some (vm_m142, (108, .getfield 13, 3, 10, 1, 0)) := rfl
theorem p142_111 : vm_P 142 111 = some (vm_m142, (111, .iload_n 1, 1, 0, 0, 0)) := rfl
theorem p142_112 : vm_P 142 112 = some (vm_m142, (112, .iload_n 2, 1, 0, 0, 0)) := rfl
theorem p142_113 : vm_P 142 113 = some (vm_m142, (113, .iload_n 3, 1, 0, 0, 0)) := rfl
theorem p142_114 : vm_P 142 114 = some (vm_m142, (114, .invokestatic 65, 3, 1, 132, 4)) := rfl
theorem p142_117 : vm_P 142 117 = some (vm_m142, (117, .iconst 1, 1, 0, 0, 0)) := rfl
theorem p142_118 : vm_P 142 118 = some (vm_m142, (118, .ireturn, 1, 0, 0, 0)) := rfl
theorem p143_0 : vm_P 143 0 = some (vm_m143, (0, .aload_n 0, 1, 0, 0, 0)) := rfl
theorem p143_1 : vm_P 143 1 = some (vm_m143, (1, .invokevirtual 96, 3, 0, 136, 1000)) := rfl
theorem p143_4 : vm_P 143 4 = some (vm_m143, (4, .istore_n 1, 1, 0, 0, 0)) := rfl
theorem p143_5 : vm_P 143 5 = some (vm_m143, (5, .aload_n 0, 1, 0, 0, 0)) := rfl
theorem p143_6 : vm_P 143 6 = some (vm_m143, (6, .dup, 1, 0, 0, 0)) := rfl
theorem p143_7 : vm_P 143 7 = some (vm_m143, (7, .getfield 93, 3, 10, 12, 0)) := rfl
theorem p143_10 : vm_P 143 10 = some (vm_m143, (10, .iconst 1, 1, 0, 0, 0)) := rfl
theorem p143_11 : vm_P 143 11 = some (vm_m143, (11, .iadd, 1, 0, 0, 0)) := rfl
theorem p143_12 : vm_P 143 12 = some (vm_m143, (12, .putfield 93, 3, 10, 12, 0)) := rfl
theorem p143_15 : vm_P 143 15 = some (vm_m143, (15, .iload_n 1, 1, 0, 0, 0)) := rfl
theorem p143_16 : vm_P 143 16 = some (vm_m143, (16, .lookupswitch 51 #[(99, 46), (114, 41), (116, 36)], 36, 0, 0, 0)) := rfl
theorem p143_52 : vm_P 143 52 = some (vm_m143, (52, .aload_n 0, 1, 0, 0, 0)) := rfl
theorem p143_53 : vm_P 143 53 = some (vm_m143, (53, .invokevirtual 118, 3, 0, 140, 1000)) := rfl
theorem p143_56 : vm_P 143 56 = some (vm_m143, (56, .ireturn, 1, 0, 0, 0)) := rfl
theorem p143_57 : vm_P 143 57 = some (vm_m143, (57, .aload_n 0, 1, 0, 0, 0)) := rfl
theorem p143_58 : vm_P 143 58 = some (vm_m143, (58, .invokevirtual 122, 3, 0, 141, 1000)) := rfl
theorem p143_61 : vm_P 143 61 = some (vm_m143, (61, .ireturn, 1, 0, 0, 0)) := rfl
theorem p143_62 : vm_P 143 62 = some (vm_m143, (62, .aload_n 0, 1, 0, 0, 0)) := rfl
theorem p143_63 : vm_P 143 63 = some (vm_m143, (63, .invokevirtual 125, 3, 0, 142, 1000)) := rfl
theorem p143_66 : vm_P 143 66 = some (vm_m143, (66, .ireturn, 1, 0, 0, 0)) := rfl
theorem p143_67 : vm_P 143 67 = some (vm_m143, (67, .iconst 0, 1, 0, 0, 0)) := rfl
theorem p143_68 : vm_P 143 68 = some (vm_m143, (68, .ireturn, 1, 0, 0, 0)) := rfl
theorem p144_0 : vm_P 144 0 = some (vm_m144, (0, .iconst 0, 1, 0, 0, 0)) := rfl
theorem p144_1 : vm_P 144 1 = some (vm_m144, (1, .istore_n 1, 1, 0, 0, 0)) := rfl
theorem p144_2 : vm_P 144 2 = some (vm_m144, (2, .iload_n 1, 1, 0, 0, 0)) := rfl
theorem p144_3 : vm_P 144 3 = some (vm_m144, (3, .bipush 71, 2, 0, 0, 0)) := rfl
theorem p144_5 : vm_P 144 5 = some (vm_m144, (5, .if_icmp .ge 16, 3, 0, 0, 0)) := rfl
theorem p144_8 : vm_P 144 8 = some (vm_m144, (8, .aload_n 0, 1, 0, 0, 0)) := rfl
theorem p144_9 : vm_P 144 9 = some (vm_m144, (9, .getfield 13, 3, 10, 1, 0)) := rfl
theorem p144_12 : vm_P 144 12 = some (vm_m144, (12, .iload_n 1, 1, 0, 0, 0)) := rfl
theorem p144_13 : vm_P 144 13 = some (vm_m144, (13, .iconst 0, 1, 0, 0, 0)) := rfl
theorem p144_14 : vm_P 144 14 = some (vm_m144, (14, .iastore, 1, 0, 0, 0)) := rfl
theorem p144_15 : vm_P 144 15 = some (vm_m144, (15, .iinc 1 1, 3, 0, 0, 0)) := rfl
theorem p144_18 : vm_P 144 18 = some (vm_m144, (18, .goto (-16), 3, 0, 0, 0)) := rfl
theorem p144_21 : vm_P 144 21 = some (vm_m144, (21, .aload_n 0, 1, 0, 0, 0)) := rfl
theorem p144_22 : vm_P 144 22 = some (vm_m144, (22, .iconst 0, 1, 0, 0, 0)) := rfl
theorem p144_23 : vm_P 144 23 = some (vm_m144, (23, .putfield 93, 3, 10, 12, 0)) := rfl
theorem p144_26 : vm_P 144 26 = some (vm_m144, (26, .aload_n 0, 1, 0, 0, 0)) := rfl
theorem p144_27 : vm_P 144 27 = some (vm_m144, (27, .getfield 93, 3, 10, 12, 0)) := rfl
theorem p144_30 : vm_P 144 30 = some (vm_m144, (30, .aload_n 0, 1, 0, 0, 0)) := rfl
theorem p144_31 : vm_P 144 31 = some (vm_m144, (31, .getfield 90, 3, 10, 11, 0)) := rfl
theorem p144_34 : vm_P 144 34 = some (vm_m144, (34, .if_icmp .ge 29, 3, 0, 0, 0)) := rfl
theorem p144_37 : vm_P 144 37 = some (vm_m144, (37, .aload_n 0, 1, 0, 0, 0)) := rfl
theorem p144_38 : vm_P 144 38 = some (vm_m144, (38, .getfield 93, 3, 10, 12, 0)) := rfl
theorem p144_41 : vm_P 144 41 = some (vm_m144, (41, .istore_n 1, 1, 0, 0, 0)) := rfl
theorem p144_42 : vm_P 144 42 = some (vm_m144, (42, .aload_n 0, 1, 0, 0, 0)) := rfl
theorem p144_43 : vm_P 144 43 = some (vm_m144, (43, .invokevirtual 128, 3, 0, 143, 1000)) := rfl
theorem p144_46 : vm_P 144 46 = some (vm_m144, (46, .ifCond .eq 12, 3, 0, 0, 0)) := rfl
theorem p144_49 : vm_P 144 49 = some (vm_m144, (49, .aload_n 0, 1, 0, 0, 0)) := rfl
theorem p144_50 : vm_P 144 50 = some (vm_m144, (50, .bipush 59, 2, 0, 0, 0)) := rfl
theorem p144_52 : vm_P 144 52 = some (vm_m144, (52, .invokevirtual 115, 3, 0, 137, 1001)) := rfl
theorem p144_55 : vm_P 144 55 = some (vm_m144, (55, .ifCond .ne 5, 3, 0, 0, 0)) := rfl
theorem p144_58 : vm_P 144 58 = some (vm_m144, (58, .iload_n 1, 1, 0, 0, 0)) := rfl
theorem p144_59 : vm_P 144 59 = some (vm_m144, (59, .ireturn, 1, 0, 0, 0)) := rfl
theorem p144_60 : vm_P 144 60 = some (vm_m144, (60, .goto (-34), 3, 0, 0, 0)) := rfl
theorem p144_63 : vm_P 144 63 = some (vm_m144, (63, .bipush (-4), 2, 0, 0, 0)) := rfl
theorem p144_65 : vm_P 144 65 = some (vm_m144, (65, .ireturn, 1, 0, 0, 0)) := rfl
theorem p145_0 : vm_P 145 0 = some (vm_m145, (0, .aload_n 0, 1, 0, 0, 0)) := rfl
theorem p145_1 : vm_P 145 1 = some (vm_m145, (1, .invokevirtual 131, 3, 0, 144, 1000)) := rfl
theorem p145_4 : vm_P 145 4 = some (vm_m145, (4, .ireturn, 1, 0, 0, 0)) := rfl
theorem p146_0 : vm_P 146 0 = some (vm_m146, (0, .iconst 1, 1, 0, 0, 0)) := rfl
theorem p146_1 : vm_P 146 1 = some (vm_m146, (1, .istore_n 1, 1, 0, 0, 0)) := rfl
theorem p146_2 : vm_P 146 2 = some (vm_m146, (2, .iconst 0, 1, 0, 0, 0)) := rfl
theorem p146_3 : vm_P 146 3 = some (vm_m146, (3, .istore_n 2, 1, 0, 0, 0)) := rfl
theorem p146_4 : vm_P 146 4 = some (vm_m146, (4, .iload_n 2, 1, 0, 0, 0)) := rfl
theorem p146_5 : vm_P 146 5 = some (vm_m146, (5, .iconst 4, 1, 0, 0, 0)) := rfl
theorem p146_6 : vm_P 146 6 = some (vm_m146, (6, .aload_n 0, 1, 0, 0, 0)) := rfl
theorem p146_7 : vm_P 146 7 = some (vm_m146, (7, .getfield 13, 3, 10, 1, 0)) := rfl
theorem p146_10 : vm_P 146 10 = some (vm_m146, (10, .iconst 0, 1, 0, 0, 0)) := rfl
theorem p146_11 : vm_P 146 11 = some (vm_m146, (11, .iaload, 1, 0, 0, 0)) := rfl
theorem p146_12 : vm_P 146 12 = some (vm_m146, (12, .imul, 1, 0, 0, 0)) := rfl
theorem p146_13 : vm_P 146 13 = some (vm_m146, (13, .if_icmp .ge 49, 3, 0, 0, 0)) := rfl
theorem p146_16 : vm_P 146 16 = some (vm_m146, (16, .iload_n 1, 1, 0, 0, 0)) := rfl
theorem p146_17 : vm_P 146 17 = some (vm_m146, (17, .ifCond .eq 37, 3, 0, 0, 0)) := rfl
theorem p146_20 : vm_P 146 20 = some (vm_m146, (20, .aload_n 0, 1, 0, 0, 0)) := rfl
theorem p146_21 : vm_P 146 21 = some (vm_m146, (21, .getfield 13, 3, 10, 1, 0)) := rfl
theorem p146_24 : vm_P 146 24 = some (vm_m146, (24, .iconst 3, 1, 0, 0, 0)) := rfl
theorem p146_25 : vm_P 146 25 = some (vm_m146, (25, .iload_n 2, 1, 0, 0, 0)) := rfl
theorem p146_26 : vm_P 146 26 = some (vm_m146, (26, .iadd, 1, 0, 0, 0)) := rfl
theorem p146_27 : vm_P 146 27 = some (vm_m146, (27, .iaload, 1, 0, 0, 0)) := rfl
theorem p146_28 : vm_P 146 28 = some (vm_m146, (28, .bipush 9, 2, 0, 0, 0)) := rfl
theorem p146_30 : vm_P 146 30 = some (vm_m146, (30, .if_icmp .eq 20, 3, 0, 0, 0)) := rfl
theorem p146_33 : vm_P 146 33 = some (vm_m146, (33, .aload_n 0, 1, 0, 0, 0)) := rfl
theorem p146_34 : vm_P 146 34 = some (vm_m146, (34, .getfield 13, 3, 10, 1, 0)) := rfl
theorem p146_37 : vm_P 146 37 = some (vm_m146, (37, .iconst 3, 1, 0, 0, 0)) := rfl
theorem p146_38 : vm_P 146 38 = some (vm_m146, (38, .iload_n 2, 1, 0, 0, 0)) := rfl
theorem p146_39 : vm_P 146 39 = some (vm_m146, (39, .iadd, 1, 0, 0, 0)) := rfl
theorem p146_40 : vm_P 146 40 = some (vm_m146, (40, .iaload, 1, 0, 0, 0)) := rfl
theorem p146_41 : vm_P 146 41 = some (vm_m146, (41, .aload_n 0, 1, 0, 0, 0)) := rfl
theorem p146_42 : vm_P 146 42 = some (vm_m146, (42, .getfield 13, 3, 10, 1, 0)) := rfl
theorem p146_45 : vm_P 146 45 = some (vm_m146, (45, .iconst 0, 1, 0, 0, 0)) := rfl
theorem p146_46 : vm_P 146 46 = some (vm_m146, (46, .iaload, 1, 0, 0, 0)) := rfl
theorem p146_47 : vm_P 146 47 = some (vm_m146, (47, .if_icmp .ge 7, 3, 0, 0, 0)) := rfl
theorem p146_50 : vm_P 146 50 = some (vm_m146, (50, .iconst 1, 1, 0, 0, 0)) := rfl
theorem p146_51 : vm_P 146 51 = some (vm_m146, (51, .goto 4, 3, 0, 0, 0)) := rfl
theorem p146_54 : vm_P 146 54 = some (vm_m146, (54, .iconst 0, 1, 0, 0, 0)) := rfl
theorem p146_55 : vm_P 146 55 = some (vm_m146, (55, .istore_n 1, 1, 0, 0, 0)) := rfl
theorem p146_56 : vm_P 146 56 = some (vm_m146, (56, .iinc 2 1, 3, 0, 0, 0)) := rfl
theorem p146_59 : vm_P 146 59 = some (vm_m146, (59, .goto (-55), 3, 0, 0, 0)) := rfl
theorem p146_62 : vm_P 146 62 = some (vm_m146, (62, .iload_n 1, 1, 0, 0, 0)) := rfl
theorem p146_63 : vm_P 146 63 = some (vm_m146, (63, .ireturn, 1, 0, 0, 0)) := rfl
theorem p147_0 : vm_P 147 0 = some (vm_m147, (0, .aload_n 0, 1, 0, 0, 0)) := rfl
theorem p147_1 : vm_P 147 1 = some (vm_m147, (1, .invokevirtual 131, 3, 0, 144, 1000)) := rfl
theorem p147_4 : vm_P 147 4 = some (vm_m147, (4, .bipush (-4), 2, 0, 0, 0)) := rfl
theorem p147_6 : vm_P 147 6 = some (vm_m147, (6, .if_icmp .ne 19, 3, 0, 0, 0)) := rfl
theorem p147_9 : vm_P 147 9 = some (vm_m147, (9, .aload_n 0, 1, 0, 0, 0)) := rfl
theorem p147_10 : vm_P 147 10 = some (vm_m147, (10, .getfield 13, 3, 10, 1, 0)) := rfl
theorem p147_13 : vm_P 147 13 = some (vm_m147, (13, .iconst 2, 1, 0, 0, 0)) := rfl
theorem p147_14 : vm_P 147 14 = some (vm_m147, (14, .iaload, 1, 0, 0, 0)) := rfl
theorem p147_15 : vm_P 147 15 = some (vm_m147, (15, .ifCond .eq 10, 3, 0, 0, 0)) := rfl
theorem p147_18 : vm_P 147 18 = some (vm_m147, (18, .aload_n 0, 1, 0, 0, 0)) := rfl
theorem p147_19 : vm_P 147 19 = some (vm_m147, (19, .invokevirtual 134, 3, 0, 146, 1000)) := rfl
theorem p147_22 : vm_P 147 22 = some (vm_m147, (22, .ifCond .ne 6, 3, 0, 0, 0)) := rfl
theorem p147_25 : vm_P 147 25 = some (vm_m147, (25, .bipush (-2), 2, 0, 0, 0)) := rfl
theorem p147_27 : vm_P 147 27 = some (vm_m147, (27, .ireturn, 1, 0, 0, 0)) := rfl
theorem p147_28 : vm_P 147 28 = some (vm_m147, (28, .aload_n 0, 1, 0, 0, 0)) := rfl
theorem p147_29 : vm_P 147 29 = some (vm_m147, (29, .getfield 13, 3, 10, 1, 0)) := rfl
theorem p147_32 : vm_P 147 32 = some (vm_m147, (32, .iconst 0, 1, 0, 0, 0)) := rfl
theorem p147_33 : vm_P 147 33 = some (vm_m147, (33, .aload_n 0, 1, 0, 0, 0)) := rfl
theorem p147_34 : vm_P 147 34 = some (vm_m147, (34, .getfield 7, 3, 10, 0, 0)) := rfl
theorem p147_37 : vm_P 147 37 = some (vm_m147, (37, .iconst 0, 1, 0, 0, 0)) := rfl
theorem p147_38 : vm_P 147 38 = some (vm_m147, (38, .bipush 71, 2, 0, 0, 0)) := rfl
theorem p147_40 : vm_P 147 40 = some (vm_m147, (40, .invokestatic 137, 3, 1, 130, 5)) := rfl
theorem p147_43 : vm_P 147 43 = some (vm_m147, (43, .aload_n 0, 1, 0, 0, 0)) := rfl
theorem p147_44 : vm_P 147 44 = some (vm_m147, (44, .invokevirtual 69, 3, 0, 133, 1000)) := rfl
theorem p147_47 : vm_P 147 47 = some (vm_m147, (47, .aload_n 0, 1, 0, 0, 0)) := rfl
theorem p147_48 : vm_P 147 48 = some (vm_m147, (48, .getfield 7, 3, 10, 0, 0)) := rfl
theorem p147_51 : vm_P 147 51 = some (vm_m147, (51, .iconst 2, 1, 0, 0, 0)) := rfl
theorem p147_52 : vm_P 147 52 = some (vm_m147, (52, .iaload, 1, 0, 0, 0)) := rfl
theorem p147_53 : vm_P 147 53 = some (vm_m147, (53, .ireturn, 1, 0, 0, 0)) := rfl
theorem p148_0 : vm_P 148 0 = some (vm_m148, (0, .iload_n 1, 1, 0, 0, 0)) := rfl
theorem p148_1 : vm_P 148 1 = some (vm_m148, (1, .i2l, 1, 0, 0, 0)) := rfl
theorem p148_2 : vm_P 148 2 = some (vm_m148, (2, .lconst 0, 1, 0, 0, 0)) := rfl
theorem p148_3 : vm_P 148 3 = some (vm_m148, (3, .aload_n 0, 1, 0, 0, 0)) := rfl
theorem p148_4 : vm_P 148 4 = some (vm_m148, (4, .getfield 7, 3, 10, 0, 0)) := rfl
theorem p148_7 : vm_P 148 7 = some (vm_m148, (7, .iconst 0, 1, 0, 0, 0)) := rfl
theorem p148_8 : vm_P 148 8 = some (vm_m148, (8, .iaload, 1, 0, 0, 0)) := rfl
theorem p148_9 : vm_P 148 9 = some (vm_m148, (9, .iconst 1, 1, 0, 0, 0)) := rfl
theorem p148_10 : vm_P 148 10 = some (vm_m148, (10, .isub, 1, 0, 0, 0)) := rfl
theorem p148_11 : vm_P 148 11 = some (vm_m148, (11, .i2l, 1, 0, 0, 0)) := rfl
theorem p148_12 : vm_P 148 12 = some (vm_m148, (12, .invokestatic 86, 3, 1, 128, 3)) := rfl
theorem p148_15 : vm_P 148 15 = some (vm_m148, (15, .ireturn, 1, 0, 0, 0)) := rfl
theorem p149_0 : vm_P 149 0 = some (vm_m149, (0, .iload_n 0, 1, 0, 0, 0)) := rfl
theorem p149_1 : vm_P 149 1 = some (vm_m149, (1, .i2l, 1, 0, 0, 0)) := rfl
theorem p149_2 : vm_P 149 2 = some (vm_m149, (2, .lconst 0, 1, 0, 0, 0)) := rfl
theorem p149_3 : vm_P 149 3 = some (vm_m149, (3, .ldc2_w 141, 3, 7, 0, 0)) := rfl
theorem p149_6 : vm_P 149 6 = some (vm_m149, (6, .invokestatic 86, 3, 1, 128, 3)) := rfl
theorem p149_9 : vm_P 149 9 = some (vm_m149, (9, .ireturn, 1, 0, 0, 0)) := rfl
theorem p150_0 : vm_P 150 0 = some (vm_m150, (0, .iload_n 1, 1, 0, 0, 0)) := rfl
theorem p150_1 : vm_P 150 1 = some (vm_m150, (1, .i2l, 1, 0, 0, 0)) := rfl
theorem p150_2 : vm_P 150 2 = some (vm_m150, (2, .lconst 0, 1, 0, 0, 0)) := rfl
theorem p150_3 : vm_P 150 3 = some (vm_m150, (3, .aload_n 0, 1, 0, 0, 0)) := rfl
theorem p150_4 : vm_P 150 4 = some (vm_m150, (4, .getfield 7, 3, 10, 0, 0)) := rfl
theorem p150_7 : vm_P 150 7 = some (vm_m150, (7, .iconst 2, 1, 0, 0, 0)) := rfl
theorem p150_8 : vm_P 150 8 = some (vm_m150, (8, .iaload, 1, 0, 0, 0)) := rfl
theorem p150_9 : vm_P 150 9 = some (vm_m150, (9, .iconst 1, 1, 0, 0, 0)) := rfl
theorem p150_10 : vm_P 150 10 = some (vm_m150, (10, .isub, 1, 0, 0, 0)) := rfl
theorem p150_11 : vm_P 150 11 = some (vm_m150, (11, .i2l, 1, 0, 0, 0)) := rfl
theorem p150_12 : vm_P 150 12 = some (vm_m150, (12, .invokestatic 86, 3, 1, 128, 3)) := rfl
theorem p150_15 : vm_P 150 15 = some (vm_m150, (15, .ireturn, 1, 0, 0, 0)) := rfl
theorem p151_0 : vm_P 151 0 = some (vm_m151, (0, .aload_n 0, 1, 0, 0, 0)) := rfl
theorem p151_1 : vm_P 151 1 = some (vm_m151, (1, .getfield 7, 3, 10, 0, 0)) := rfl
theorem p151_4 : vm_P 151 4 = some (vm_m151, (4, .iconst 3, 1, 0, 0, 0)) := rfl
theorem p151_5 : vm_P 151 5 = some (vm_m151, (5, .iconst 4, 1, 0, 0, 0)) := rfl
theorem p151_6 : vm_P 151 6 = some (vm_m151, (6, .iload_n 1, 1, 0, 0, 0)) := rfl
theorem p151_7 : vm_P 151 7 = some (vm_m151, (7, .imul, 1, 0, 0, 0)) := rfl
theorem p151_8 : vm_P 151 8 = some (vm_m151, (8, .iadd, 1, 0, 0, 0)) := rfl
theorem p151_9 : vm_P 151 9 = some (vm_m151, (9, .iload_n 2, 1, 0, 0, 0)) := rfl
theorem p151_10 : vm_P 151 10 = some (vm_m151, (10, .iadd, 1, 0, 0, 0)) := rfl
theorem p151_11 : vm_P 151 11 = some (vm_m151, (11, .iaload, 1, 0, 0, 0)) := rfl
theorem p151_12 : vm_P 151 12 = some (vm_m151, (12, .istore_n 3, 1, 0, 0, 0)) := rfl
theorem p151_13 : vm_P 151 13 = some (vm_m151, (13, .iload_n 3, 1, 0, 0, 0)) := rfl
theorem p151_14 : vm_P 151 14 = some (vm_m151, (14, .bipush 9, 2, 0, 0, 0)) := rfl
theorem p151_16 : vm_P 151 16 = some (vm_m151, (16, .if_icmp .ne 8, 3, 0, 0, 0)) := rfl
theorem p151_19 : vm_P 151 19 = some (vm_m151, (19, .bipush (-4), 2, 0, 0, 0)) := rfl
theorem p151_21 : vm_P 151 21 = some (vm_m151, (21, .goto 4, 3, 0, 0, 0)) := rfl
theorem p151_24 : vm_P 151 24 = some (vm_m151, (24, .iload_n 3, 1, 0, 0, 0)) := rfl
theorem p151_25 : vm_P 151 25 = some (vm_m151, (25, .ireturn, 1, 0, 0, 0)) := rfl
theorem p152_0 : vm_P 152 0 = some (vm_m152, (0, .aload_n 0, 1, 0, 0, 0)) := rfl
theorem p152_1 : vm_P 152 1 = some (vm_m152, (1, .iload_n 1, 1, 0, 0, 0)) := rfl
theorem p152_2 : vm_P 152 2 = some (vm_m152, (2, .iload_n 2, 1, 0, 0, 0)) := rfl
theorem p152_3 : vm_P 152 3 = some (vm_m152, (3, .invokevirtual 143, 3, 0, 151, 1002)) := rfl
theorem p152_6 : vm_P 152 6 = some (vm_m152, (6, .istore_n 3, 1, 0, 0, 0)) := rfl
theorem p152_7 : vm_P 152 7 = some (vm_m152, (7, .iload_n 3, 1, 0, 0, 0)) := rfl
theorem p152_8 : vm_P 152 8 = some (vm_m152, (8, .bipush (-4), 2, 0, 0, 0)) := rfl
theorem p152_10 : vm_P 152 10 = some (vm_m152, (10, .if_icmp .ne 7, 3, 0, 0, 0)) := rfl
theorem p152_13 : vm_P 152 13 = some (vm_m152, (13, .iload_n 1, 1, 0, 0, 0)) := rfl
theorem p152_14 : vm_P 152 14 = some (vm_m152, (14, .goto 4, 3, 0, 0, 0)) := rfl
theorem p152_17 : vm_P 152 17 = some (vm_m152, (17, .iload_n 3, 1, 0, 0, 0)) := rfl
theorem p152_18 : vm_P 152 18 = some (vm_m152, (18, .ireturn, 1, 0, 0, 0)) := rfl
theorem p153_0 : vm_P 153 0 = some (vm_m153, (0, .aload_n 0, 1, 0, 0, 0)) := rfl
theorem p153_1 : vm_P 153 1 = some (vm_m153, (1, .getfield 7, 3, 10, 0, 0)) := rfl
theorem p153_4 : vm_P 153 4 = some (vm_m153, (4, .iconst 1, 1, 0, 0, 0)) := rfl
theorem p153_5 : vm_P 153 5 = some (vm_m153, (5, .iaload, 1, 0, 0, 0)) := rfl
theorem p153_6 : vm_P 153 6 = some (vm_m153, (6, .ifCond .ne 7, 3, 0, 0, 0)) := rfl
theorem p153_9 : vm_P 153 9 = some (vm_m153, (9, .iconst 0, 1, 0, 0, 0)) := rfl
theorem p153_10 : vm_P 153 10 = some (vm_m153, (10, .goto 19, 3, 0, 0, 0)) := rfl
theorem p153_13 : vm_P 153 13 = some (vm_m153, (13, .aload_n 0, 1, 0, 0, 0)) := rfl
theorem p153_14 : vm_P 153 14 = some (vm_m153, (14, .getfield 7, 3, 10, 0, 0)) := rfl
theorem p153_17 : vm_P 153 17 = some (vm_m153, (17, .bipush 39, 2, 0, 0, 0)) := rfl
theorem p153_19 : vm_P 153 19 = some (vm_m153, (19, .iload_n 1, 1, 0, 0, 0)) := rfl
theorem p153_20 : vm_P 153 20 = some (vm_m153, (20, .aload_n 0, 1, 0, 0, 0)) := rfl
theorem p153_21 : vm_P 153 21 = some (vm_m153, (21, .getfield 7, 3, 10, 0, 0)) := rfl
theorem p153_24 : vm_P 153 24 = some (vm_m153, (24, .iconst 1, 1, 0, 0, 0)) := rfl
theorem p153_25 : vm_P 153 25 = some (vm_m153, (25, .iaload, 1, 0, 0, 0)) := rfl
theorem p153_26 : vm_P 153 26 = some (vm_m153, (26, .irem, 1, 0, 0, 0)) := rfl
theorem p153_27 : vm_P 153 27 = some (vm_m153, (27, .iadd, 1, 0, 0, 0)) := rfl
theorem p153_28 : vm_P 153 28 = some (vm_m153, (28, .iaload, 1, 0, 0, 0)) := rfl
theorem p153_29 : vm_P 153 29 = some (vm_m153, (29, .ireturn, 1, 0, 0, 0)) := rfl
theorem p154_0 : vm_P 154 0 = some (vm_m154, (0, .aload_n 0, 1, 0, 0, 0)) := rfl
theorem p154_1 : vm_P 154 1 = some (vm_m154, (1, .iload_n 1, 1, 0, 0, 0)) := rfl
theorem p154_2 : vm_P 154 2 = some (vm_m154, (2, .invokevirtual 147, 3, 0, 148, 1001)) := rfl
theorem p154_5 : vm_P 154 5 = some (vm_m154, (5, .ifCond .eq 19, 3, 0, 0, 0)) := rfl
theorem p154_8 : vm_P 154 8 = some (vm_m154, (8, .iload_n 2, 1, 0, 0, 0)) := rfl
theorem p154_9 : vm_P 154 9 = some (vm_m154, (9, .invokestatic 150, 3, 1, 149, 1)) := rfl
theorem p154_12 : vm_P 154 12 = some (vm_m154, (12, .ifCond .eq 12, 3, 0, 0, 0)) := rfl
theorem p154_15 : vm_P 154 15 = some (vm_m154, (15, .aload_n 0, 1, 0, 0, 0)) := rfl
theorem p154_16 : vm_P 154 16 = some (vm_m154, (16, .iload_n 1, 1, 0, 0, 0)) := rfl
theorem p154_17 : vm_P 154 17 = some (vm_m154, (17, .iload_n 2, 1, 0, 0, 0)) := rfl
theorem p154_18 : vm_P 154 18 = some (vm_m154, (18, .invokevirtual 143, 3, 0, 151, 1002)) := rfl
theorem p154_21 : vm_P 154 21 = some (vm_m154, (21, .goto 4, 3, 0, 0, 0)) := rfl
theorem p154_24 : vm_P 154 24 = some (vm_m154, (24, .iconst (-1), 1, 0, 0, 0)) := rfl
theorem p154_25 : vm_P 154 25 = some (vm_m154, (25, .ireturn, 1, 0, 0, 0)) := rfl
theorem p155_0 : vm_P 155 0 = some (vm_m155, (0, .iload_n 1, 1, 0, 0, 0)) := rfl
theorem p155_1 : vm_P 155 1 = some (vm_m155, (1, .i2l, 1, 0, 0, 0)) := rfl
theorem p155_2 : vm_P 155 2 = some (vm_m155, (2, .lconst 0, 1, 0, 0, 0)) := rfl
theorem p155_3 : vm_P 155 3 = some (vm_m155, (3, .ldc2_w 153, 3, 8, 0, 0)) := rfl
theorem p155_6 : vm_P 155 6 = some (vm_m155, (6, .invokestatic 86, 3, 1, 128, 3)) := rfl
theorem p155_9 : vm_P 155 9 = some (vm_m155, (9, .ifCond .eq 19, 3, 0, 0, 0)) := rfl
theorem p155_12 : vm_P 155 12 = some (vm_m155, (12, .aload_n 0, 1, 0, 0, 0)) := rfl
theorem p155_13 : vm_P 155 13 = some (vm_m155, (13, .aload_n 0, 1, 0, 0, 0)) := rfl
theorem p155_14 : vm_P 155 14 = some (vm_m155, (14, .getfield 16, 3, 10, 2, 0)) := rfl
theorem p155_17 : vm_P 155 17 = some (vm_m155, (17, .bipush 32, 2, 0, 0, 0)) := rfl
theorem p155_19 : vm_P 155 19 = some (vm_m155, (19, .iaload, 1, 0, 0, 0)) := rfl
theorem p155_20 : vm_P 155 20 = some (vm_m155, (20, .iload_n 1, 1, 0, 0, 0)) := rfl
theorem p155_21 : vm_P 155 21 = some (vm_m155, (21, .iadd, 1, 0, 0, 0)) := rfl
theorem p155_22 : vm_P 155 22 = some (vm_m155, (22, .invokevirtual 155, 3, 0, 153, 1001)) := rfl
theorem p155_25 : vm_P 155 25 = some (vm_m155, (25, .goto 4, 3, 0, 0, 0)) := rfl
theorem p155_28 : vm_P 155 28 = some (vm_m155, (28, .iconst (-1), 1, 0, 0, 0)) := rfl
theorem p155_29 : vm_P 155 29 = some (vm_m155, (29, .ireturn, 1, 0, 0, 0)) := rfl
theorem p156_0 : vm_P 156 0 = some (vm_m156, (0, .aload_n 0, 1, 0, 0, 0)) := rfl
theorem p156_1 : vm_P 156 1 = some (vm_m156, (1, .iload_n 1, 1, 0, 0, 0)) := rfl
theorem p156_2 : vm_P 156 2 = some (vm_m156, (2, .invokevirtual 159, 3, 0, 150, 1001)) := rfl
theorem p156_5 : vm_P 156 5 = some (vm_m156, (5, .ifCond .ne 5, 3, 0, 0, 0)) := rfl
theorem p156_8 : vm_P 156 8 = some (vm_m156, (8, .iconst (-1), 1, 0, 0, 0)) := rfl
theorem p156_9 : vm_P 156 9 = some (vm_m156, (9, .ireturn, 1, 0, 0, 0)) := rfl
theorem p156_10 : vm_P 156 10 = some (vm_m156, (10, .iload_n 2, 1, 0, 0, 0)) := rfl
theorem p156_11 : vm_P 156 11 = some (vm_m156, (11, .tableswitch 99 0 7 #[45, 54, 63, 63, 63, 63, 79, 89], 45, 0, 0, 0)) := rfl
theorem p156_56 : vm_P 156 56 = some (vm_m156, (56, .aload_n 0, 1, 0, 0, 0)) := rfl
theorem p156_57 : vm_P 156 57 = some (vm_m156, (57, .getfield 16, 3, 10, 2, 0)) := rfl
theorem p156_60 : vm_P 156 60 = some (vm_m156, (60, .iconst 0, 1, 0, 0, 0)) := rfl
theorem p156_61 : vm_P 156 61 = some (vm_m156, (61, .iload_n 1, 1, 0, 0, 0)) := rfl
theorem p156_62 : vm_P 156 62 = some (vm_m156, (62, .iadd, 1, 0, 0, 0)) := rfl
theorem p156_63 : vm_P 156 63 = some (vm_m156, (63, .iaload, 1, 0, 0, 0)) := rfl
theorem p156_64 : vm_P 156 64 = some (vm_m156, (64, .ireturn, 1, 0, 0, 0)) := rfl
theorem p156_65 : vm_P 156 65 = some (vm_m156, (65, .aload_n 0, 1, 0, 0, 0)) := rfl
theorem p156_66 : vm_P 156 66 = some (vm_m156, (66, .getfield 16, 3, 10, 2, 0)) := rfl
theorem p156_69 : vm_P 156 69 = some (vm_m156, (69, .iconst 4, 1, 0, 0, 0)) := rfl
theorem p156_70 : vm_P 156 70 = some (vm_m156, (70, .iload_n 1, 1, 0, 0, 0)) := rfl
theorem p156_71 : vm_P 156 71 = some (vm_m156, (71, .iadd, 1, 0, 0, 0)) := rfl
theorem p156_72 : vm_P 156 72 = some (vm_m156, (72, .iaload, 1, 0, 0, 0)) := rfl
theorem p156_73 : vm_P 156 73 = some (vm_m156, (73, .ireturn, 1, 0, 0, 0)) := rfl
theorem p156_74 : vm_P 156 74 = some (vm_m156, (74, .aload_n 0, 1, 0, 0, 0)) := rfl
theorem p156_75 : vm_P 156 75 = some (vm_m156, (75, .getfield 16, 3, 10, 2, 0)) := rfl
theorem p156_78 : vm_P 156 78 = some (vm_m156, (78, .bipush 8, 2, 0, 0, 0)) := rfl
theorem p156_80 : vm_P 156 80 = some (vm_m156, (80, .iconst 4, 1, 0, 0, 0)) := rfl
theorem p156_81 : vm_P 156 81 = some (vm_m156, (81, .iload_n 1, 1, 0, 0, 0)) := rfl
theorem p156_82 : vm_P 156 82 = some (vm_m156, (82, .imul, 1, 0, 0, 0)) := rfl
theorem p156_83 : vm_P 156 83 = some (vm_m156, (83, .iadd, 1, 0, 0, 0)) := rfl
theorem p156_84 : vm_P 156 84 = some (vm_m156, (84, .iload_n 2, 1, 0, 0, 0)) := rfl
theorem p156_85 : vm_P 156 85 = some (vm_m156, (85, .iadd, 1, 0, 0, 0)) := rfl
theorem p156_86 : vm_P 156 86 = some (vm_m156, (86, .iconst 2, 1, 0, 0, 0)) := rfl
theorem p156_87 : vm_P 156 87 = some (vm_m156, (87, .isub, 1, 0, 0, 0)) := rfl
theorem p156_88 : vm_P 156 88 = some (vm_m156, (88, .iaload, 1, 0, 0, 0)) := rfl
theorem p156_89 : vm_P 156 89 = some (vm_m156, (89, .ireturn, 1, 0, 0, 0)) := rfl
theorem p156_90 : vm_P 156 90 = some (vm_m156, (90, .aload_n 0, 1, 0, 0, 0)) := rfl
theorem p156_91 : vm_P 156 91 = some (vm_m156, (91, .getfield 16, 3, 10, 2, 0)) := rfl
theorem p156_94 : vm_P 156 94 = some (vm_m156, (94, .bipush 24, 2, 0, 0, 0)) := rfl
theorem p156_96 : vm_P 156 96 = some (vm_m156, (96, .iload_n 1, 1, 0, 0, 0)) := rfl
theorem p156_97 : vm_P 156 97 = some (vm_m156, (97, .iadd, 1, 0, 0, 0)) := rfl
theorem p156_98 : vm_P 156 98 = some (vm_m156, (98, .iaload, 1, 0, 0, 0)) := rfl
theorem p156_99 : vm_P 156 99 = some (vm_m156, (99, .ireturn, 1, 0, 0, 0)) := rfl
theorem p156_100 : vm_P 156 100 = some (vm_m156, (100, .aload_n 0, 1, 0, 0, 0)) := rfl
theorem p156_101 : vm_P 156 101 = some (vm_m156, (101, .getfield 16, 3, 10, 2, 0)) := rfl
theorem p156_104 : vm_P 156 104 = some (vm_m156, (104, .bipush 28, 2, 0, 0, 0)) := rfl
theorem p156_106 : vm_P 156 106 = some (vm_m156, (106, .iload_n 1, 1, 0, 0, 0)) := rfl
theorem p156_107 : vm_P 156 107 = some (vm_m156, (107, .iadd, 1, 0, 0, 0)) := rfl
theorem p156_108 : vm_P 156 108 = some (vm_m156, (108, .iaload, 1, 0, 0, 0)) := rfl
theorem p156_109 : vm_P 156 109 = some (vm_m156, (109, .ireturn, 1, 0, 0, 0)) := rfl
theorem p156_110 : vm_P 156 110 = some (vm_m156, (110, .iconst (-1), 1, 0, 0, 0)) := rfl
theorem p156_111 : vm_P 156 111 = some (vm_m156, (111, .ireturn, 1, 0, 0, 0)) := rfl
theorem p157_0 : vm_P 157 0 = some (vm_m157, (0, .iload_n 0, 1, 0, 0, 0)) := rfl
theorem p157_1 : vm_P 157 1 = some (vm_m157, (1, .iload_n 1, 1, 0, 0, 0)) := rfl
theorem p157_2 : vm_P 157 2 = some (vm_m157, (2, .ifCond .ne 7, 3, 0, 0, 0)) := rfl
theorem p157_5 : vm_P 157 5 = some (vm_m157, (5, .iconst 4, 1, 0, 0, 0)) := rfl
theorem p157_6 : vm_P 157 6 = some (vm_m157, (6, .goto 24, 3, 0, 0, 0)) := rfl
theorem p157_9 : vm_P 157 9 = some (vm_m157, (9, .iload_n 1, 1, 0, 0, 0)) := rfl
theorem p157_10 : vm_P 157 10 = some (vm_m157, (10, .iconst 1, 1, 0, 0, 0)) := rfl
theorem p157_11 : vm_P 157 11 = some (vm_m157, (11, .if_icmp .ne 8, 3, 0, 0, 0)) := rfl
theorem p157_14 : vm_P 157 14 = some (vm_m157, (14, .bipush 6, 2, 0, 0, 0)) := rfl
theorem p157_16 : vm_P 157 16 = some (vm_m157, (16, .goto 14, 3, 0, 0, 0)) := rfl
theorem p157_19 : vm_P 157 19 = some (vm_m157, (19, .iload_n 1, 1, 0, 0, 0)) := rfl
theorem p157_20 : vm_P 157 20 = some (vm_m157, (20, .iconst 2, 1, 0, 0, 0)) := rfl
theorem p157_21 : vm_P 157 21 = some (vm_m157, (21, .if_icmp .ne 8, 3, 0, 0, 0)) := rfl
theorem p157_24 : vm_P 157 24 = some (vm_m157, (24, .bipush (-2), 2, 0, 0, 0)) := rfl
theorem p157_26 : vm_P 157 26 = some (vm_m157, (26, .goto 4, 3, 0, 0, 0)) := rfl
theorem p157_29 : vm_P 157 29 = some (vm_m157, (29, .iconst 1, 1, 0, 0, 0)) := rfl
theorem p157_30 : vm_P 157 30 = some (vm_m157, (30, .iadd, 1, 0, 0, 0)) := rfl
theorem p157_31 : vm_P 157 31 = some (vm_m157, (31, .istore_n 2, 1, 0, 0, 0)) := rfl
theorem p157_32 : vm_P 157 32 = some (vm_m157, (32, .iload_n 2, 1, 0, 0, 0)) := rfl
theorem p157_33 : vm_P 157 33 = some (vm_m157, (33, .bipush 20, 2, 0, 0, 0)) := rfl
theorem p157_35 : vm_P 157 35 = some (vm_m157, (35, .if_icmp .le 8, 3, 0, 0, 0)) := rfl
theorem p157_38 : vm_P 157 38 = some (vm_m157, (38, .bipush 20, 2, 0, 0, 0)) := rfl
theorem p157_40 : vm_P 157 40 = some (vm_m157, (40, .goto 12, 3, 0, 0, 0)) := rfl
theorem p157_43 : vm_P 157 43 = some (vm_m157, (43, .iload_n 2, 1, 0, 0, 0)) := rfl
theorem p157_44 : vm_P 157 44 = some (vm_m157, (44, .ifCond .ge 7, 3, 0, 0, 0)) := rfl
theorem p157_47 : vm_P 157 47 = some (vm_m157, (47, .iconst 0, 1, 0, 0, 0)) := rfl
theorem p157_48 : vm_P 157 48 = some (vm_m157, (48, .goto 4, 3, 0, 0, 0)) := rfl
theorem p157_51 : vm_P 157 51 = some (vm_m157, (51, .iload_n 2, 1, 0, 0, 0)) := rfl
theorem p157_52 : vm_P 157 52 = some (vm_m157, (52, .ireturn, 1, 0, 0, 0)) := rfl
theorem p158_0 : vm_P 158 0 = some (vm_m158, (0, .iload_n 0, 1, 0, 0, 0)) := rfl
theorem p158_1 : vm_P 158 1 = some (vm_m158, (1, .iconst 1, 1, 0, 0, 0)) := rfl
theorem p158_2 : vm_P 158 2 = some (vm_m158, (2, .isub, 1, 0, 0, 0)) := rfl
theorem p158_3 : vm_P 158 3 = some (vm_m158, (3, .iload_n 1, 1, 0, 0, 0)) := rfl
theorem p158_4 : vm_P 158 4 = some (vm_m158, (4, .iconst 3, 1, 0, 0, 0)) := rfl
theorem p158_5 : vm_P 158 5 = some (vm_m158, (5, .if_icmp .ne 7, 3, 0, 0, 0)) := rfl
theorem p158_8 : vm_P 158 8 = some (vm_m158, (8, .iconst 0, 1, 0, 0, 0)) := rfl
theorem p158_9 : vm_P 158 9 = some (vm_m158, (9, .goto 4, 3, 0, 0, 0)) := rfl
theorem p158_12 : vm_P 158 12 = some (vm_m158, (12, .iload_n 2, 1, 0, 0, 0)) := rfl
theorem p158_13 : vm_P 158 13 = some (vm_m158, (13, .isub, 1, 0, 0, 0)) := rfl
theorem p158_14 : vm_P 158 14 = some (vm_m158, (14, .iload_n 1, 1, 0, 0, 0)) := rfl
theorem p158_15 : vm_P 158 15 = some (vm_m158, (15, .iconst 1, 1, 0, 0, 0)) := rfl
theorem p158_16 : vm_P 158 16 = some (vm_m158, (16, .if_icmp .ne 7, 3, 0, 0, 0)) := rfl
theorem p158_19 : vm_P 158 19 = some (vm_m158, (19, .iconst 1, 1, 0, 0, 0)) := rfl
theorem p158_20 : vm_P 158 20 = some (vm_m158, (20, .goto 4, 3, 0, 0, 0)) := rfl
theorem p158_23 : vm_P 158 23 = some (vm_m158, (23, .iconst 0, 1, 0, 0, 0)) := rfl
theorem p158_24 : vm_P 158 24 = some (vm_m158, (24, .isub, 1, 0, 0, 0)) := rfl
theorem p158_25 : vm_P 158 25 = some (vm_m158, (25, .istore_n 3, 1, 0, 0, 0)) := rfl
theorem p158_26 : vm_P 158 26 = some (vm_m158, (26, .iload_n 3, 1, 0, 0, 0)) := rfl
theorem p158_27 : vm_P 158 27 = some (vm_m158, (27, .ifCond .ge 7, 3, 0, 0, 0)) := rfl
theorem p158_30 : vm_P 158 30 = some (vm_m158, (30, .iconst 0, 1, 0, 0, 0)) := rfl
theorem p158_31 : vm_P 158 31 = some (vm_m158, (31, .goto 4, 3, 0, 0, 0)) := rfl
theorem p158_34 : vm_P 158 34 = some (vm_m158, (34, .iload_n 3, 1, 0, 0, 0)) := rfl
theorem p158_35 : vm_P 158 35 = some (vm_m158, (35, .ireturn, 1, 0, 0, 0)) := rfl
theorem p159_0 : vm_P 159 0 = some (vm_m159, (0, .aload_n 0, 1, 0, 0, 0)) := rfl
theorem p159_1 : vm_P 159 1 = some (vm_m159, (1, .getfield 16, 3, 10, 2, 0)) := rfl
theorem p159_4 : vm_P 159 4 = some (vm_m159, (4, .iconst 0, 1, 0, 0, 0)) := rfl
theorem p159_5 : vm_P 159 5 = some (vm_m159, (5, .iload_n 1, 1, 0, 0, 0)) := rfl
theorem p159_6 : vm_P 159 6 = some (vm_m159, (6, .iadd, 1, 0, 0, 0)) := rfl
theorem p159_7 : vm_P 159 7 = some (vm_m159, (7, .iaload, 1, 0, 0, 0)) := rfl
theorem p159_8 : vm_P 159 8 = some (vm_m159, (8, .ifCond .le 7, 3, 0, 0, 0)) := rfl
theorem p159_11 : vm_P 159 11 = some (vm_m159, (11, .iconst 1, 1, 0, 0, 0)) := rfl
theorem p159_12 : vm_P 159 12 = some (vm_m159, (12, .goto 4, 3, 0, 0, 0)) := rfl
theorem p159_15 : vm_P 159 15 = some (vm_m159, (15, .iconst 0, 1, 0, 0, 0)) := rfl
theorem p159_16 : vm_P 159 16 = some (vm_m159, (16, .ireturn, 1, 0, 0, 0)) := rfl
theorem p160_0 : vm_P 160 0 = some (vm_m160, (0, .aload_n 0, 1, 0, 0, 0)) := rfl
theorem p160_1 : vm_P 160 1 = some (vm_m160, (1, .iconst 0, 1, 0, 0, 0)) := rfl
theorem p160_2 : vm_P 160 2 = some (vm_m160, (2, .iload_n 1, 1, 0, 0, 0)) := rfl
theorem p160_3 : vm_P 160 3 = some (vm_m160, (3, .iadd, 1, 0, 0, 0)) := rfl
theorem p160_4 : vm_P 160 4 = some (vm_m160, (4, .iconst 0, 1, 0, 0, 0)) := rfl
theorem p160_5 : vm_P 160 5 = some (vm_m160, (5, .iastore, 1, 0, 0, 0)) := rfl
theorem p160_6 : vm_P 160 6 = some (vm_m160, (6, .aload_n 0, 1, 0, 0, 0)) := rfl
theorem p160_7 : vm_P 160 7 = some (vm_m160, (7, .iconst 4, 1, 0, 0, 0)) := rfl
theorem p160_8 : vm_P 160 8 = some (vm_m160, (8, .iload_n 1, 1, 0, 0, 0)) := rfl
theorem p160_9 : vm_P 160 9 = some (vm_m160, (9, .iadd, 1, 0, 0, 0)) := rfl
theorem p160_10 : vm_P 160 10 = some (vm_m160, (10, .bipush (-4), 2, 0, 0, 0)) := rfl
theorem p160_12 : vm_P 160 12 = some (vm_m160, (12, .iastore, 1, 0, 0, 0)) := rfl
theorem p160_13 : vm_P 160 13 = some (vm_m160, (13, .aload_n 0, 1, 0, 0, 0)) := rfl
theorem p160_14 : vm_P 160 14 = some (vm_m160, (14, .bipush 24, 2, 0, 0, 0)) := rfl
theorem p160_16 : vm_P 160 16 = some (vm_m160, (16, .iload_n 1, 1, 0, 0, 0)) := rfl
theorem p160_17 : vm_P 160 17 = some (vm_m160, (17, .iadd, 1, 0, 0, 0)) := rfl
theorem p160_18 : vm_P 160 18 = some (vm_m160, (18, .bipush (-4), 2, 0, 0, 0)) := rfl
theorem p160_20 : vm_P 160 20 = some (vm_m160, (20, .iastore, 1, 0, 0, 0)) := rfl
theorem p160_21 : vm_P 160 21 = some (vm_m160, (21, .return_, 1, 0, 0, 0)) := rfl
theorem p161_0 : vm_P 161 0 = some (vm_m161, (0, .aload_n 0, 1, 0, 0, 0)) := rfl
theorem p161_1 : vm_P 161 1 = some (vm_m161, (1, .iconst 0, 1, 0, 0, 0)) := rfl
theorem p161_2 : vm_P 161 2 = some (vm_m161, (2, .iload_n 1, 1, 0, 0, 0)) := rfl
theorem p161_3 : vm_P 161 3 = some (vm_m161, (3, .iadd, 1, 0, 0, 0)) := rfl
theorem p161_4 : vm_P 161 4 = some (vm_m161, (4, .iaload, 1, 0, 0, 0)) := rfl
theorem p161_5 : vm_P 161 5 = some (vm_m161, (5, .ifCond .le 20, 3, 0, 0, 0)) := rfl
theorem p161_8 : vm_P 161 8 = some (vm_m161, (8, .aload_n 0, 1, 0, 0, 0)) := rfl
theorem p161_9 : vm_P 161 9 = some (vm_m161, (9, .bipush 8, 2, 0, 0, 0)) := rfl
theorem p161_11 : vm_P 161 11 = some (vm_m161, (11, .iconst 4, 1, 0, 0, 0)) := rfl
theorem p161_12 : vm_P 161 12 = some (vm_m161, (12, .iload_n 1, 1, 0, 0, 0)) := rfl
theorem p161_13 : vm_P 161 13 = some (vm_m161, (13, .imul, 1, 0, 0, 0)) := rfl
theorem p161_14 : vm_P 161 14 = some (vm_m161, (14, .iadd, 1, 0, 0, 0)) := rfl
theorem p161_15 : vm_P 161 15 = some (vm_m161, (15, .iload_n 2, 1, 0, 0, 0)) := rfl
theorem p161_16 : vm_P 161 16 = some (vm_m161, (16, .iadd, 1, 0, 0, 0)) := rfl
theorem p161_17 : vm_P 161 17 = some (vm_m161, (17, .iaload, 1, 0, 0, 0)) := rfl
theorem p161_18 : vm_P 161 18 = some (vm_m161, (18, .ifCond .le 7, 3, 0, 0, 0)) := rfl
theorem p161_21 : vm_P 161 21 = some (vm_m161, (21, .iconst 1, 1, 0, 0, 0)) := rfl
theorem p161_22 : vm_P 161 22 = some (vm_m161, (22, .goto 4, 3, 0, 0, 0)) := rfl
theorem p161_25 : vm_P 161 25 = some (vm_m161, (25, .iconst 0, 1, 0, 0, 0)) := rfl
theorem p161_26 : vm_P 161 26 = some (vm_m161, (26, .ireturn, 1, 0, 0, 0)) := rfl
theorem p162_0 : vm_P 162 0 = some (vm_m162, (0, .aload_n 1, 1, 0, 0, 0)) := rfl
theorem p162_1 : vm_P 162 1 = some (vm_m162, (1, .bipush 8, 2, 0, 0, 0)) := rfl
theorem p162_3 : vm_P 162 3 = some (vm_m162, (3, .iconst 4, 1, 0, 0, 0)) := rfl
theorem p162_4 : vm_P 162 4 = some (vm_m162, (4, .iload_n 2, 1, 0, 0, 0)) := rfl
theorem p162_5 : vm_P 162 5 = some (vm_m162, (5, .imul, 1, 0, 0, 0)) := rfl
theorem p162_6 : vm_P 162 6 = some (vm_m162, (6, .iadd, 1, 0, 0, 0)) := rfl
theorem p162_7 : vm_P 162 7 = some (vm_m162, (7, .iload_n 3, 1, 0, 0, 0)) := rfl
theorem p162_8 : vm_P 162 8 = some (vm_m162, (8, .iadd, 1, 0, 0, 0)) := rfl
theorem p162_9 : vm_P 162 9 = some (vm_m162, (9, .dup2, 1, 0, 0, 0)) := rfl
theorem p162_10 : vm_P 162 10 = some (vm_m162, (10, .iaload, 1, 0, 0, 0)) := rfl
theorem p162_11 : vm_P 162 11 = some (vm_m162, (11, .iconst 1, 1, 0, 0, 0)) := rfl
theorem p162_12 : vm_P 162 12 = some (vm_m162, (12, .isub, 1, 0, 0, 0)) := rfl
theorem p162_13 : vm_P 162 13 = some (vm_m162, (13, .iastore, 1, 0, 0, 0)) := rfl
theorem p162_14 : vm_P 162 14 = some (vm_m162, (14, .aload_n 1, 1, 0, 0, 0)) := rfl
theorem p162_15 : vm_P 162 15 = some (vm_m162, (15, .iconst 0, 1, 0, 0, 0)) := rfl
theorem p162_16 : vm_P 162 16 = some (vm_m162, (16, .iload_n 2, 1, 0, 0, 0)) := rfl
theorem p162_17 : vm_P 162 17 = some (vm_m162, (17, .iadd, 1, 0, 0, 0)) := rfl
theorem p162_18 : vm_P 162 18 = some (vm_m162, (18, .aload_n 1, 1, 0, 0, 0)) := rfl
theorem p162_19 : vm_P 162 19 = some (vm_m162, (19, .iconst 0, 1, 0, 0, 0)) := rfl
theorem p162_20 : vm_P 162 20 = some (vm_m162, (20, .iload_n 2, 1, 0, 0, 0)) := rfl
theorem p162_21 : vm_P 162 21 = some (vm_m162, (21, .iadd, 1, 0, 0, 0)) := rfl
theorem p162_22 : vm_P 162 22 = some (vm_m162, (22, .iaload, 1, 0, 0, 0)) := rfl
theorem p162_23 : vm_P 162 23 = some (vm_m162, (23, .iload_n 3, 1, 0, 0, 0)) := rfl
theorem p162_24 : vm_P 162 24 = some (vm_m162, (24, .invokestatic 162, 3, 1, 157, 2)) := rfl
theorem p162_27 : vm_P 162 27 = some (vm_m162, (27, .iastore, 1, 0, 0, 0)) := rfl
theorem p162_28 : vm_P 162 28 = some (vm_m162, (28, .aload_n 1, 1, 0, 0, 0)) := rfl
theorem p162_29 : vm_P 162 29 = some (vm_m162, (29, .bipush 24, 2, 0, 0, 0)) := rfl
theorem p162_31 : vm_P 162 31 = some (vm_m162, (31, .iload_n 2, 1, 0, 0, 0)) := rfl
theorem p162_32 : vm_P 162 32 = some (vm_m162, (32, .iadd, 1, 0, 0, 0)) := rfl
theorem p162_33 : vm_P 162 33 = some (vm_m162, (33, .iload_n 3, 1, 0, 0, 0)) := rfl
theorem p162_34 : vm_P 162 34 = some (vm_m162, (34, .iastore, 1, 0, 0, 0)) := rfl
theorem p162_35 : vm_P 162 35 = some (vm_m162, (35, .aload_n 1, 1, 0, 0, 0)) := rfl
theorem p162_36 : vm_P 162 36 = some (vm_m162, (36, .iconst 0, 1, 0, 0, 0)) := rfl
theorem p162_37 : vm_P 162 37 = some (vm_m162, (37, .iload_n 2, 1, 0, 0, 0)) := rfl
theorem p162_38 : vm_P 162 38 = some (vm_m162, (38, .iadd, 1, 0, 0, 0)) := rfl
theorem p162_39 : vm_P 162 39 = some (vm_m162, (39, .iaload, 1, 0, 0, 0)) := rfl
theorem p162_40 : vm_P 162 40 = some (vm_m162, (40, .ifCond .ne 9, 3, 0, 0, 0)) := rfl
theorem p162_43 : vm_P 162 43 = some (vm_m162, (43, .aload_n 1, 1, 0, 0, 0)) := rfl
theorem p162_44 : vm_P 162 44 = some (vm_m162, (44, .iload_n 2, 1, 0, 0, 0)) := rfl
theorem p162_45 : vm_P 162 45 = some (vm_m162, (45, .invokestatic 165, 3, 1, 160, 2)) := rfl
theorem p162_48 : vm_P 162 48 = some (vm_m162, (48, .return_, 1, 0, 0, 0)) := rfl
theorem p162_49 : vm_P 162 49 = some (vm_m162, (49, .aload_n 0, 1, 0, 0, 0)) := rfl
theorem p162_50 : vm_P 162 50 = some (vm_m162, (50, .aload_n 1, 1, 0, 0, 0)) := rfl
theorem p162_51 : vm_P 162 51 = some (vm_m162, (51, .iconst 4, 1, 0, 0, 0)) := rfl
theorem p162_52 : vm_P 162 52 = some (vm_m162, (52, .iload_n 2, 1, 0, 0, 0)) := rfl
theorem p162_53 : vm_P 162 53 = some (vm_m162, (53, .iadd, 1, 0, 0, 0)) := rfl
theorem p162_54 : vm_P 162 54 = some (vm_m162, (54, .iaload, 1, 0, 0, 0)) := rfl
theorem p162_55 : vm_P 162 55 = some (vm_m162, (55, .iload_n 3, 1, 0, 0, 0)) := rfl
theorem p162_56 : vm_P 162 56 = some (vm_m162, (56, .invokevirtual 143, 3, 0, 151, 1002)) := rfl
theorem p162_59 : vm_P 162 59 = some (vm_m162, (59, .istore 4, 2, 0, 0, 0)) := rfl
theorem p162_61 : vm_P 162 61 = some (vm_m162, (61, .aload_n 1, 1, 0, 0, 0)) := rfl
theorem p162_62 : vm_P 162 62 = some (vm_m162, (62, .iconst 4, 1, 0, 0, 0)) := rfl
theorem p162_63 : vm_P 162 63 = some (vm_m162, (63, .iload_n 2, 1, 0, 0, 0)) := rfl
theorem p162_64 : vm_P 162 64 = some (vm_m162, (64, .iadd, 1, 0, 0, 0)) := rfl
theorem p162_65 : vm_P 162 65 = some (vm_m162, (65, .iload 4, 2, 0, 0, 0)) := rfl
theorem p162_67 : vm_P 162 67 = some (vm_m162, (67, .bipush (-4), 2, 0, 0, 0)) := rfl
theorem p162_69 : vm_P 162 69 = some (vm_m162, (69, .if_icmp .ne 11, 3, 0, 0, 0)) := rfl
theorem p162_72 : vm_P 162 72 = some (vm_m162, (72, .aload_n 1, 1, 0, 0, 0)) := rfl
theorem p162_73 : vm_P 162 73 = some (vm_m162, (73, .iconst 4, 1, 0, 0, 0)) := rfl
theorem p162_74 : vm_P 162 74 = some (vm_m162, (74, .iload_n 2, 1, 0, 0, 0)) := rfl
theorem p162_75 : vm_P 162 75 = some (vm_m162, (75, .iadd, 1, 0, 0, 0)) := rfl
theorem p162_76 : vm_P 162 76 = some (vm_m162, (76, .iaload, 1, 0, 0, 0)) := rfl
theorem p162_77 : vm_P 162 77 = some (vm_m162, (77, .goto 5, 3, 0, 0, 0)) := rfl
theorem p162_80 : vm_P 162 80 = some (vm_m162, (80, .iload 4, 2, 0, 0, 0)) := rfl
theorem p162_82 : vm_P 162 82 = some (vm_m162, (82, .iastore, 1, 0, 0, 0)) := rfl
theorem p162_83 : vm_P 162 83 = some (vm_m162, (83, .aload_n 1, 1, 0, 0, 0)) := rfl
theorem p162_84 : vm_P 162 84 = some (vm_m162, (84, .bipush 28, 2, 0, 0, 0)) := rfl
theorem p162_86 : vm_P 162 86 = some (vm_m162, (86, .iload_n 2, 1, 0, 0, 0)) := rfl
theorem p162_87 : vm_P 162 87 = some (vm_m162, (87, .iadd, 1, 0, 0, 0)) := rfl
theorem p162_88 : vm_P 162 88 = some (vm_m162, (88, .dup2, 1, 0, 0, 0)) := rfl
theorem p162_89 : vm_P 162 89 = some (vm_m162, (89, .iaload, 1, 0, 0, 0)) := rfl
theorem p162_90 : vm_P 162 90 = some (vm_m162, (90, .iload 4, 2, 0, 0, 0)) := rfl
theorem p162_92 : vm_P 162 92 = some (vm_m162, (92, .bipush (-4), 2, 0, 0, 0)) := rfl
theorem p162_94 : vm_P 162 94 = some (vm_m162, (94, .if_icmp .ne 7, 3, 0, 0, 0)) := rfl
theorem p162_97 : vm_P 162 97 = some (vm_m162, (97, .iconst 0, 1, 0, 0, 0)) := rfl
theorem p162_98 : vm_P 162 98 = some (vm_m162, (98, .goto 4, 3, 0, 0, 0)) := rfl
theorem p162_101 : vm_P 162 101 = some (vm_m162, (101, .iconst 1, 1, 0, 0, 0)) := rfl
theorem p162_102 : vm_P 162 102 = some (vm_m162, (102, .iadd, 1, 0, 0, 0)) := rfl
theorem p162_103 : vm_P 162 103 = some (vm_m162, (103, .iastore, 1, 0, 0, 0)) := rfl
theorem p162_104 : vm_P 162 104 = some (vm_m162, (104, .return_, 1, 0, 0, 0)) := rfl
theorem p163_0 : vm_P 163 0 = some (vm_m163, (0, .aload_n 0, 1, 0, 0, 0)) := rfl
theorem p163_1 : vm_P 163 1 = some (vm_m163, (1, .aload_n 1, 1, 0, 0, 0)) := rfl
theorem p163_2 : vm_P 163 2 = some (vm_m163, (2, .bipush 32, 2, 0, 0, 0)) := rfl
theorem p163_4 : vm_P 163 4 = some (vm_m163, (4, .iaload, 1, 0, 0, 0)) := rfl
theorem p163_5 : vm_P 163 5 = some (vm_m163, (5, .invokevirtual 155, 3, 0, 153, 1001)) := rfl
theorem p163_8 : vm_P 163 8 = some (vm_m163, (8, .istore_n 2, 1, 0, 0, 0)) := rfl
theorem p163_9 : vm_P 163 9 = some (vm_m163, (9, .iconst 0, 1, 0, 0, 0)) := rfl
theorem p163_10 : vm_P 163 10 = some (vm_m163, (10, .istore_n 3, 1, 0, 0, 0)) := rfl
theorem p163_11 : vm_P 163 11 = some (vm_m163, (11, .iload_n 3, 1, 0, 0, 0)) := rfl
theorem p163_12 : vm_P 163 12 = some (vm_m163, (12, .aload_n 0, 1, 0, 0, 0)) := rfl
theorem p163_13 : vm_P 163 13 = some (vm_m163, (13, .getfield 7, 3, 10, 0, 0)) := rfl
theorem p163_16 : vm_P 163 16 = some (vm_m163, (16, .iconst 2, 1, 0, 0, 0)) := rfl
theorem p163_17 : vm_P 163 17 = some (vm_m163, (17, .iaload, 1, 0, 0, 0)) := rfl
theorem p163_18 : vm_P 163 18 = some (vm_m163, (18, .if_icmp .ge 50, 3, 0, 0, 0)) := rfl
theorem p163_21 : vm_P 163 21 = some (vm_m163, (21, .aload_n 1, 1, 0, 0, 0)) := rfl
theorem p163_22 : vm_P 163 22 = some (vm_m163, (22, .iconst 0, 1, 0, 0, 0)) := rfl
theorem p163_23 : vm_P 163 23 = some (vm_m163, (23, .iload_n 3, 1, 0, 0, 0)) := rfl
theorem p163_24 : vm_P 163 24 = some (vm_m163, (24, .iadd, 1, 0, 0, 0)) := rfl
theorem p163_25 : vm_P 163 25 = some (vm_m163, (25, .iaload, 1, 0, 0, 0)) := rfl
theorem p163_26 : vm_P 163 26 = some (vm_m163, (26, .ifCond .le 36, 3, 0, 0, 0)) := rfl
theorem p163_29 : vm_P 163 29 = some (vm_m163, (29, .aload_n 1, 1, 0, 0, 0)) := rfl
theorem p163_30 : vm_P 163 30 = some (vm_m163, (30, .iconst 0, 1, 0, 0, 0)) := rfl
theorem p163_31 : vm_P 163 31 = some (vm_m163, (31, .iload_n 3, 1, 0, 0, 0)) := rfl
theorem p163_32 : vm_P 163 32 = some (vm_m163, (32, .iadd, 1, 0, 0, 0)) := rfl
theorem p163_33 : vm_P 163 33 = some (vm_m163, (33, .aload_n 1, 1, 0, 0, 0)) := rfl
theorem p163_34 : vm_P 163 34 = some (vm_m163, (34, .iconst 0, 1, 0, 0, 0)) := rfl
theorem p163_35 : vm_P 163 35 = some (vm_m163, (35, .iload_n 3, 1, 0, 0, 0)) := rfl
theorem p163_36 : vm_P 163 36 = some (vm_m163, (36, .iadd, 1, 0, 0, 0)) := rfl
theorem p163_37 : vm_P 163 37 = some (vm_m163, (37, .iaload, 1, 0, 0, 0)) := rfl
theorem p163_38 : vm_P 163 38 = some (vm_m163, (38, .aload_n 1, 1, 0, 0, 0)) := rfl
theorem p163_39 : vm_P 163 39 = some (vm_m163, (39, .bipush 24, 2, 0, 0, 0)) := rfl
theorem p163_41 : vm_P 163 41 = some (vm_m163, (41, .iload_n 3, 1, 0, 0, 0)) := rfl
theorem p163_42 : vm_P 163 42 = some (vm_m163, (42, .iadd, 1, 0, 0, 0)) := rfl
theorem p163_43 : vm_P 163 43 = some (vm_m163, (43, .iaload, 1, 0, 0, 0)) := rfl
theorem p163_44 : vm_P 163 44 = some (vm_m163, (44, .iload_n 2, 1, 0, 0, 0)) := rfl
theorem p163_45 : vm_P 163 45 = some (vm_m163, (45, .invokestatic 168, 3, 1, 158, 3)) := rfl
theorem p163_48 : vm_P 163 48 = some (vm_m163, (48, .iastore, 1, 0, 0, 0)) := rfl
theorem p163_49 : vm_P 163 49 = some (vm_m163, (49, .aload_n 1, 1, 0, 0, 0)) := rfl
theorem p163_50 : vm_P 163 50 = some (vm_m163, (50, .iconst 0, 1, 0, 0, 0)) := rfl
theorem p163_51 : vm_P 163 51 = some (vm_m163, (51, .iload_n 3, 1, 0, 0, 0)) := rfl
theorem p163_52 : vm_P 163 52 = some (vm_m163, (52, .iadd, 1, 0, 0, 0)) := rfl
theorem p163_53 : vm_P 163 53 = some (vm_m163, (53, .iaload, 1, 0, 0, 0)) := rfl
theorem p163_54 : vm_P 163 54 = some (vm_m163, (54, .ifCond .ne 8, 3, 0, 0, 0)) := rfl
theorem p163_57 : vm_P 163 57 = some (vm_m163, (57, .aload_n 1, 1, 0, 0, 0)) := rfl
theorem p163_58 : vm_P 163 58 = some (vm_m163, (58, .iload_n 3, 1, 0, 0, 0)) := rfl
theorem p163_59 : vm_P 163 59 = some (vm_m163, (59, .invokestatic 165, 3, 1, 160, 2)) := rfl
theorem p163_62 : vm_P 163 62 = some (vm_m163, (62, .iinc 3 1, 3, 0, 0, 0)) := rfl
theorem p163_65 : vm_P 163 65 = some (vm_m163, (65, .goto (-54), 3, 0, 0, 0)) := rfl
theorem p163_68 : vm_P 163 68 = some (vm_m163, (68, .aload_n 1, 1, 0, 0, 0)) := rfl
theorem p163_69 : vm_P 163 69 = some (vm_m163, (69, .bipush 32, 2, 0, 0, 0)) := rfl
theorem p163_71 : vm_P 163 71 = some (vm_m163, (71, .dup2, 1, 0, 0, 0)) := rfl
theorem p163_72 : vm_P 163 72 = some (vm_m163, (72, .iaload, 1, 0, 0, 0)) := rfl
theorem p163_73 : vm_P 163 73 = some (vm_m163, (73, .iconst 1, 1, 0, 0, 0)) := rfl
theorem p163_74 : vm_P 163 74 = some (vm_m163, (74, .iadd, 1, 0, 0, 0)) := rfl
theorem p163_75 : vm_P 163 75 = some (vm_m163, (75, .iastore, 1, 0, 0, 0)) := rfl
theorem p163_76 : vm_P 163 76 = some (vm_m163, (76, .return_, 1, 0, 0, 0)) := rfl
theorem p164_0 : vm_P 164 0 = some (vm_m164, (0, .iconst 0, 1, 0, 0, 0)) := rfl
theorem p164_1 : vm_P 164 1 = some (vm_m164, (1, .istore_n 2, 1, 0, 0, 0)) := rfl
theorem p164_2 : vm_P 164 2 = some (vm_m164, (2, .iconst 0, 1, 0, 0, 0)) := rfl
theorem p164_3 : vm_P 164 3 = some (vm_m164, (3, .istore_n 3, 1, 0, 0, 0)) := rfl
theorem p164_4 : vm_P 164 4 = some (vm_m164, (4, .iload_n 3, 1, 0, 0, 0)) := rfl
theorem p164_5 : vm_P 164 5 = some (vm_m164, (5, .iconst 4, 1, 0, 0, 0)) := rfl
theorem p164_6 : vm_P 164 6 = some (vm_m164, (6, .if_icmp .ge 25, 3, 0, 0, 0)) := rfl
theorem p164_9 : vm_P 164 9 = some (vm_m164, (9, .iload_n 2, 1, 0, 0, 0)) := rfl
theorem p164_10 : vm_P 164 10 = some (vm_m164, (10, .aload_n 1, 1, 0, 0, 0)) := rfl
theorem p164_11 : vm_P 164 11 = some (vm_m164, (11, .iconst 0, 1, 0, 0, 0)) := rfl
theorem p164_12 : vm_P 164 12 = some (vm_m164, (12, .iload_n 3, 1, 0, 0, 0)) := rfl
theorem p164_13 : vm_P 164 13 = some (vm_m164, (13, .iadd, 1, 0, 0, 0)) := rfl
theorem p164_14 : vm_P 164 14 = some (vm_m164, (14, .iaload, 1, 0, 0, 0)) := rfl
theorem p164_15 : vm_P 164 15 = some (vm_m164, (15, .ifCond .le 7, 3, 0, 0, 0)) := rfl
theorem p164_18 : vm_P 164 18 = some (vm_m164, (18, .iconst 1, 1, 0, 0, 0)) := rfl
theorem p164_19 : vm_P 164 19 = some (vm_m164, (19, .goto 4, 3, 0, 0, 0)) := rfl
theorem p164_22 : vm_P 164 22 = some (vm_m164, (22, .iconst 0, 1, 0, 0, 0)) := rfl
theorem p164_23 : vm_P 164 23 = some (vm_m164, (23, .iadd, 1, 0, 0, 0)) := rfl
theorem p164_24 : vm_P 164 24 = some (vm_m164, (24, .istore_n 2, 1, 0, 0, 0)) := rfl
theorem p164_25 : vm_P 164 25 = some (vm_m164, (25, .iinc 3 1, 3, 0, 0, 0)) := rfl
theorem p164_28 : vm_P 164 28 = some (vm_m164, (28, .goto (-24), 3, 0, 0, 0)) := rfl
theorem p164_31 : vm_P 164 31 = some (vm_m164, (31, .iload_n 2, 1, 0, 0, 0)) := rfl
theorem p164_32 : vm_P 164 32 = some (vm_m164, (32, .ireturn, 1, 0, 0, 0)) := rfl
theorem p165_0 : vm_P 165 0 = some (vm_m165, (0, .aload_n 0, 1, 0, 0, 0)) := rfl
theorem p165_1 : vm_P 165 1 = some (vm_m165, (1, .getfield 72, 3, 10, 5, 0)) := rfl
theorem p165_4 : vm_P 165 4 = some (vm_m165, (4, .bipush 8, 2, 0, 0, 0)) := rfl
theorem p165_6 : vm_P 165 6 = some (vm_m165, (6, .if_icmp .ne 43, 3, 0, 0, 0)) := rfl
theorem p165_9 : vm_P 165 9 = some (vm_m165, (9, .iconst 0, 1, 0, 0, 0)) := rfl
theorem p165_10 : vm_P 165 10 = some (vm_m165, (10, .istore_n 1, 1, 0, 0, 0)) := rfl
theorem p165_11 : vm_P 165 11 = some (vm_m165, (11, .iload_n 1, 1, 0, 0, 0)) := rfl
theorem p165_12 : vm_P 165 12 = some (vm_m165, (12, .sipush 231, 3, 0, 0, 0)) := rfl
theorem p165_15 : vm_P 165 15 = some (vm_m165, (15, .if_icmp .ge 24, 3, 0, 0, 0)) := rfl
theorem p165_18 : vm_P 165 18 = some (vm_m165, (18, .aload_n 0, 1, 0, 0, 0)) := rfl
theorem p165_19 : vm_P 165 19 = some (vm_m165, (19, .getfield 22, 3, 10, 4, 0)) := rfl
theorem p165_22 : vm_P 165 22 = some (vm_m165, (22, .iload_n 1, 1, 0, 0, 0)) := rfl
theorem p165_23 : vm_P 165 23 = some (vm_m165, (23, .aload_n 0, 1, 0, 0, 0)) := rfl
theorem p165_24 : vm_P 165 24 = some (vm_m165, (24, .getfield 22, 3, 10, 4, 0)) := rfl
theorem p165_27 : vm_P 165 27 = some (vm_m165, (27, .iload_n 1, 1, 0, 0, 0)) := rfl
theorem p165_28 : vm_P 165 28 = some (vm_m165, (28, .bipush 33, 2, 0, 0, 0)) := rfl
theorem p165_30 : vm_P 165 30 = some (vm_m165, (30, .iadd, 1, 0, 0, 0)) := rfl
theorem p165_31 : vm_P 165 31 = some (vm_m165, (31, .iaload, 1, 0, 0, 0)) := rfl
theorem p165_32 : vm_P 165 32 = some (vm_m165, (32, .iastore, 1, 0, 0, 0)) := rfl
theorem p165_33 : vm_P 165 33 = some (vm_m165, (33, .iinc 1 1, 3, 0, 0, 0)) := rfl
theorem p165_36 : vm_P 165 36 = some (vm_m165, (36, .goto (-25), 3, 0, 0, 0)) := rfl
theorem p165_39 : vm_P 165 39 = some (vm_m165, (39, .aload_n 0, 1, 0, 0, 0)) := rfl
theorem p165_40 : vm_P 165 40 = some (vm_m165, (40, .dup, 1, 0, 0, 0)) := rfl
theorem p165_41 : vm_P 165 41 = some (vm_m165, (41, .getfield 72, 3, 10, 5, 0)) := rfl
theorem p165_44 : vm_P 165 44 = some (vm_m165, (44, .iconst 1, 1, 0, 0, 0)) := rfl
theorem p165_45 : vm_P 165 45 = some (vm_m165, (45, .isub, 1, 0, 0, 0)) := rfl
theorem p165_46 : vm_P 165 46 = some (vm_m165, (46, .putfield 72, 3, 10, 5, 0)) := rfl
theorem p165_49 : vm_P 165 49 = some (vm_m165, (49, .aload_n 0, 1, 0, 0, 0)) := rfl
theorem p165_50 : vm_P 165 50 = some (vm_m165, (50, .getfield 16, 3, 10, 2, 0)) := rfl
theorem p165_53 : vm_P 165 53 = some (vm_m165, (53, .iconst 0, 1, 0, 0, 0)) := rfl
theorem p165_54 : vm_P 165 54 = some (vm_m165, (54, .aload_n 0, 1, 0, 0, 0)) := rfl
theorem p165_55 : vm_P 165 55 = some (vm_m165, (55, .getfield 22, 3, 10, 4, 0)) := rfl
theorem p165_58 : vm_P 165 58 = some (vm_m165, (58, .bipush 33, 2, 0, 0, 0)) := rfl
theorem p165_60 : vm_P 165 60 = some (vm_m165, (60, .aload_n 0, 1, 0, 0, 0)) := rfl
theorem p165_61 : vm_P 165 61 = some (vm_m165, (61, .getfield 72, 3, 10, 5, 0)) := rfl
theorem p165_64 : vm_P 165 64 = some (vm_m165, (64, .imul, 1, 0, 0, 0)) := rfl
theorem p165_65 : vm_P 165 65 = some (vm_m165, (65, .bipush 33, 2, 0, 0, 0)) := rfl
theorem p165_67 : vm_P 165 67 = some (vm_m165, (67, .invokestatic 137, 3, 1, 130, 5)) := rfl
theorem p165_70 : vm_P 165 70 = some (vm_m165, (70, .aload_n 0, 1, 0, 0, 0)) := rfl
theorem p165_71 : vm_P 165 71 = some (vm_m165, (71, .dup, 1, 0, 0, 0)) := rfl
theorem p165_72 : vm_P 165 72 = some (vm_m165, (72, .getfield 72, 3, 10, 5, 0)) := rfl
theorem p165_75 : vm_P 165 75 = some (vm_m165, (75, .iconst 1, 1, 0, 0, 0)) := rfl
theorem p165_76 : vm_P 165 76 = some (vm_m165, (76, .iadd, 1, 0, 0, 0)) := rfl
theorem p165_77 : vm_P 165 77 = some (vm_m165, (77, .putfield 72, 3, 10, 5, 0)) := rfl
theorem p165_80 : vm_P 165 80 = some (vm_m165, (80, .return_, 1, 0, 0, 0)) := rfl
theorem p166_0 : vm_P 166 0 = some (vm_m166, (0, .aload_n 0, 1, 0, 0, 0)) := rfl
theorem p166_1 : vm_P 166 1 = some (vm_m166, (1, .iload_n 1, 1, 0, 0, 0)) := rfl
theorem p166_2 : vm_P 166 2 = some (vm_m166, (2, .invokevirtual 159, 3, 0, 150, 1001)) := rfl
theorem p166_5 : vm_P 166 5 = some (vm_m166, (5, .ifCond .eq 10, 3, 0, 0, 0)) := rfl
theorem p166_8 : vm_P 166 8 = some (vm_m166, (8, .iload_n 2, 1, 0, 0, 0)) := rfl
theorem p166_9 : vm_P 166 9 = some (vm_m166, (9, .invokestatic 150, 3, 1, 149, 1)) := rfl
theorem p166_12 : vm_P 166 12 = some (vm_m166, (12, .ifCond .ne 5, 3, 0, 0, 0)) := rfl
theorem p166_15 : vm_P 166 15 = some (vm_m166, (15, .iconst (-1), 1, 0, 0, 0)) := rfl
theorem p166_16 : vm_P 166 16 = some (vm_m166, (16, .ireturn, 1, 0, 0, 0)) := rfl
theorem p166_17 : vm_P 166 17 = some (vm_m166, (17, .aload_n 0, 1, 0, 0, 0)) := rfl
theorem p166_18 : vm_P 166 18 = some (vm_m166, (18, .getfield 16, 3, 10, 2, 0)) := rfl
theorem p166_21 : vm_P 166 21 = some (vm_m166, (21, .iload_n 1, 1, 0, 0, 0)) := rfl
theorem p166_22 : vm_P 166 22 = some (vm_m166, (22, .iload_n 2, 1, 0, 0, 0)) := rfl
theorem p166_23 : vm_P 166 23 = some (vm_m166, (23, .invokestatic 172, 3, 1, 161, 3)) := rfl
theorem p166_26 : vm_P 166 26 = some (vm_m166, (26, .ifCond .ne 6, 3, 0, 0, 0)) := rfl
theorem p166_29 : vm_P 166 29 = some (vm_m166, (29, .bipush (-2), 2, 0, 0, 0)) := rfl
theorem p166_31 : vm_P 166 31 = some (vm_m166, (31, .ireturn, 1, 0, 0, 0)) := rfl
theorem p166_32 : vm_P 166 32 = some (vm_m166, (32, .aload_n 0, 1, 0, 0, 0)) := rfl
theorem p166_33 : vm_P 166 33 = some (vm_m166, (33, .invokevirtual 176, 3, 0, 165, 1000)) := rfl
theorem p166_36 : vm_P 166 36 = some (vm_m166, (36, .aload_n 0, 1, 0, 0, 0)) := rfl
theorem p166_37 : vm_P 166 37 = some (vm_m166, (37, .aload_n 0, 1, 0, 0, 0)) := rfl
theorem p166_38 : vm_P 166 38 = some (vm_m166, (38, .getfield 16, 3, 10, 2, 0)) := rfl
theorem p166_41 : vm_P 166 41 = some (vm_m166, (41, .iload_n 1, 1, 0, 0, 0)) := rfl
theorem p166_42 : vm_P 166 42 = some (vm_m166, (42, .iload_n 2, 1, 0, 0, 0)) := rfl
theorem p166_43 : vm_P 166 43 = some (vm_m166, (43, .invokevirtual 179, 3, 0, 162, 1003)) := rfl
theorem p166_46 : vm_P 166 46 = some (vm_m166, (46, .aload_n 0, 1, 0, 0, 0)) := rfl
theorem p166_47 : vm_P 166 47 = some (vm_m166, (47, .getfield 16, 3, 10, 2, 0)) := rfl
theorem p166_50 : vm_P 166 50 = some (vm_m166, (50, .iconst 4, 1, 0, 0, 0)) := rfl
theorem p166_51 : vm_P 166 51 = some (vm_m166, (51, .iload_n 1, 1, 0, 0, 0)) := rfl
theorem p166_52 : vm_P 166 52 = some (vm_m166, (52, .iadd, 1, 0, 0, 0)) := rfl
theorem p166_53 : vm_P 166 53 = some (vm_m166, (53, .iaload, 1, 0, 0, 0)) := rfl
theorem p166_54 : vm_P 166 54 = some (vm_m166, (54, .ireturn, 1, 0, 0, 0)) := rfl
theorem p167_0 : vm_P 167 0 = some (vm_m167, (0, .iload_n 1, 1, 0, 0, 0)) := rfl
theorem p167_1 : vm_P 167 1 = some (vm_m167, (1, .i2l, 1, 0, 0, 0)) := rfl
theorem p167_2 : vm_P 167 2 = some (vm_m167, (2, .lconst 1, 1, 0, 0, 0)) := rfl
theorem p167_3 : vm_P 167 3 = some (vm_m167, (3, .ldc2_w 183, 3, 9, 0, 0)) := rfl
theorem p167_6 : vm_P 167 6 = some (vm_m167, (6, .invokestatic 86, 3, 1, 128, 3)) := rfl
theorem p167_9 : vm_P 167 9 = some (vm_m167, (9, .ifCond .ne 5, 3, 0, 0, 0)) := rfl
theorem p167_12 : vm_P 167 12 = some (vm_m167, (12, .iconst (-1), 1, 0, 0, 0)) := rfl
theorem p167_13 : vm_P 167 13 = some (vm_m167, (13, .ireturn, 1, 0, 0, 0)) := rfl
theorem p167_14 : vm_P 167 14 = some (vm_m167, (14, .aload_n 0, 1, 0, 0, 0)) := rfl
theorem p167_15 : vm_P 167 15 = some (vm_m167, (15, .invokevirtual 176, 3, 0, 165, 1000)) := rfl
theorem p167_18 : vm_P 167 18 = some (vm_m167, (18, .iconst 0, 1, 0, 0, 0)) := rfl
theorem p167_19 : vm_P 167 19 = some (vm_m167, (19, .istore_n 2, 1, 0, 0, 0)) := rfl
theorem p167_20 : vm_P 167 20 = some (vm_m167, (20, .iload_n 2, 1, 0, 0, 0)) := rfl
theorem p167_21 : vm_P 167 21 = some (vm_m167, (21, .iload_n 1, 1, 0, 0, 0)) := rfl
theorem p167_22 : vm_P 167 22 = some (vm_m167, (22, .if_icmp .ge 17, 3, 0, 0, 0)) := rfl
theorem p167_25 : vm_P 167 25 = some (vm_m167, (25, .aload_n 0, 1, 0, 0, 0)) := rfl
theorem p167_26 : vm_P 167 26 = some (vm_m167, (26, .aload_n 0, 1, 0, 0, 0)) := rfl
theorem p167_27 : vm_P 167 27 = some (vm_m167, (27, .getfield 16, 3, 10, 2, 0)) := rfl
theorem p167_30 : vm_P 167 30 = some (vm_m167, (30, .invokevirtual 185, 3, 0, 163, 1001)) := rfl
theorem p167_33 : vm_P 167 33 = some (vm_m167, (33, .iinc 2 1, 3, 0, 0, 0)) := rfl
theorem p167_36 : vm_P 167 36 = some (vm_m167, (36, .goto (-16), 3, 0, 0, 0)) := rfl
theorem p167_39 : vm_P 167 39 = some (vm_m167, (39, .aload_n 0, 1, 0, 0, 0)) := rfl
theorem p167_40 : vm_P 167 40 = some (vm_m167, (40, .aload_n 0, 1, 0, 0, 0)) := rfl
theorem p167_41 : vm_P 167 41 = some (vm_m167, (41, .getfield 16, 3, 10, 2, 0)) := rfl
theorem p167_44 : vm_P 167 44 = some (vm_m167, (44, .invokevirtual 189, 3, 0, 164, 1001)) := rfl
theorem p167_47 : vm_P 167 47 = some (vm_m167, (47, .ireturn, 1, 0, 0, 0)) := rfl
theorem p168_0 : vm_P 168 0 = some (vm_m168, (0, .iload_n 1, 1, 0, 0, 0)) := rfl
theorem p168_1 : vm_P 168 1 = some (vm_m168, (1, .iload_n 2, 1, 0, 0, 0)) := rfl
theorem p168_2 : vm_P 168 2 = some (vm_m168, (2, .if_icmp .eq 24, 3, 0, 0, 0)) := rfl
theorem p168_5 : vm_P 168 5 = some (vm_m168, (5, .aload_n 0, 1, 0, 0, 0)) := rfl
theorem p168_6 : vm_P 168 6 = some (vm_m168, (6, .iconst 0, 1, 0, 0, 0)) := rfl
theorem p168_7 : vm_P 168 7 = some (vm_m168, (7, .iload_n 1, 1, 0, 0, 0)) := rfl
theorem p168_8 : vm_P 168 8 = some (vm_m168, (8, .iadd, 1, 0, 0, 0)) := rfl
theorem p168_9 : vm_P 168 9 = some (vm_m168, (9, .iaload, 1, 0, 0, 0)) := rfl
theorem p168_10 : vm_P 168 10 = some (vm_m168, (10, .ifCond .ne 16, 3, 0, 0, 0)) := rfl
theorem p168_13 : vm_P 168 13 = some (vm_m168, (13, .aload_n 0, 1, 0, 0, 0)) := rfl
theorem p168_14 : vm_P 168 14 = some (vm_m168, (14, .iconst 0, 1, 0, 0, 0)) := rfl
theorem p168_15 : vm_P 168 15 = some (vm_m168, (15, .iload_n 2, 1, 0, 0, 0)) := rfl
theorem p168_16 : vm_P 168 16 = some (vm_m168, (16, .iadd, 1, 0, 0, 0)) := rfl
theorem p168_17 : vm_P 168 17 = some (vm_m168, (17, .iaload, 1, 0, 0, 0)) := rfl
theorem p168_18 : vm_P 168 18 = some (vm_m168, (18, .iconst 3, 1, 0, 0, 0)) := rfl
theorem p168_19 : vm_P 168 19 = some (vm_m168, (19, .if_icmp .le 7, 3, 0, 0, 0)) := rfl
theorem p168_22 : vm_P 168 22 = some (vm_m168, (22, .iconst 1, 1, 0, 0, 0)) := rfl
theorem p168_23 : vm_P 168 23 = some (vm_m168, (23, .goto 4, 3, 0, 0, 0)) := rfl
theorem p168_26 : vm_P 168 26 = some (vm_m168, (26, .iconst 0, 1, 0, 0, 0)) := rfl
theorem p168_27 : vm_P 168 27 = some (vm_m168, (27, .ireturn, 1, 0, 0, 0)) := rfl
theorem p169_0 : vm_P 169 0 = some (vm_m169, (0, .aload_n 0, 1, 0, 0, 0)) := rfl
theorem p169_1 : vm_P 169 1 = some (vm_m169, (1, .iconst 0, 1, 0, 0, 0)) := rfl
theorem p169_2 : vm_P 169 2 = some (vm_m169, (2, .iload_n 2, 1, 0, 0, 0)) := rfl
theorem p169_3 : vm_P 169 3 = some (vm_m169, (3, .iadd, 1, 0, 0, 0)) := rfl
theorem p169_4 : vm_P 169 4 = some (vm_m169, (4, .dup2, 1, 0, 0, 0)) := rfl
theorem p169_5 : vm_P 169 5 = some (vm_m169, (5, .iaload, 1, 0, 0, 0)) := rfl
theorem p169_6 : vm_P 169 6 = some (vm_m169, (6, .iconst 1, 1, 0, 0, 0)) := rfl
theorem p169_7 : vm_P 169 7 = some (vm_m169, (7, .isub, 1, 0, 0, 0)) := rfl
theorem p169_8 : vm_P 169 8 = some (vm_m169, (8, .iastore, 1, 0, 0, 0)) := rfl
theorem p169_9 : vm_P 169 9 = some (vm_m169, (9, .aload_n 0, 1, 0, 0, 0)) := rfl
theorem p169_10 : vm_P 169 10 = some (vm_m169, (10, .iconst 0, 1, 0, 0, 0)) := rfl
theorem p169_11 : vm_P 169 11 = some (vm_m169, (11, .iload_n 1, 1, 0, 0, 0)) := rfl
theorem p169_12 : vm_P 169 12 = some (vm_m169, (12, .iadd, 1, 0, 0, 0)) := rfl
theorem p169_13 : vm_P 169 13 = some (vm_m169, (13, .iconst 3, 1, 0, 0, 0)) := rfl
theorem p169_14 : vm_P 169 14 = some (vm_m169, (14, .iastore, 1, 0, 0, 0)) := rfl
theorem p169_15 : vm_P 169 15 = some (vm_m169, (15, .aload_n 0, 1, 0, 0, 0)) := rfl
theorem p169_16 : vm_P 169 16 = some (vm_m169, (16, .iconst 4, 1, 0, 0, 0)) := rfl
theorem p169_17 : vm_P 169 17 = some (vm_m169, (17, .iload_n 1, 1, 0, 0, 0)) := rfl
theorem p169_18 : vm_P 169 18 = some (vm_m169, (18, .iadd, 1, 0, 0, 0)) := rfl
theorem p169_19 : vm_P 169 19 = some (vm_m169, (19, .aload_n 0, 1, 0, 0, 0)) := rfl
theorem p169_20 : vm_P 169 20 = some (vm_m169, (20, .iconst 4, 1, 0, 0, 0)) := rfl
theorem p169_21 : vm_P 169 21 = some (vm_m169, (21, .iload_n 2, 1, 0, 0, 0)) := rfl
theorem p169_22 : vm_P 169 22 = some (vm_m169, (22, .iadd, 1, 0, 0, 0)) := rfl
theorem p169_23 : vm_P 169 23 = some (vm_m169, (23, .iaload, 1, 0, 0, 0)) := rfl
theorem p169_24 : vm_P 169 24 = some (vm_m169, (24, .iastore, 1, 0, 0, 0)) := rfl
theorem p169_25 : vm_P 169 25 = some (vm_m169, (25, .aload_n 0, 1, 0, 0, 0)) := rfl
theorem p169_26 : vm_P 169 26 = some (vm_m169, (26, .bipush 24, 2, 0, 0, 0)) := rfl
theorem p169_28 : vm_P 169 28 = some (vm_m169, (28, .iload_n 1, 1, 0, 0, 0)) := rfl
theorem p169_29 : vm_P 169 29 = some (vm_m169, (29, .iadd, 1, 0, 0, 0)) := rfl
theorem p169_30 : vm_P 169 30 = some (vm_m169, (30, .bipush (-4), 2, 0, 0, 0)) := rfl
theorem p169_32 : vm_P 169 32 = some (vm_m169, (32, .iastore, 1, 0, 0, 0)) := rfl
theorem p169_33 : vm_P 169 33 = some (vm_m169, (33, .return_, 1, 0, 0, 0)) := rfl
theorem p170_0 : vm_P 170 0 = some (vm_m170, (0, .aload_n 0, 1, 0, 0, 0)) := rfl
theorem p170_1 : vm_P 170 1 = some (vm_m170, (1, .iload_n 1, 1, 0, 0, 0)) := rfl
theorem p170_2 : vm_P 170 2 = some (vm_m170, (2, .invokevirtual 159, 3, 0, 150, 1001)) := rfl
theorem p170_5 : vm_P 170 5 = some (vm_m170, (5, .ifCond .eq 16, 3, 0, 0, 0)) := rfl
theorem p170_8 : vm_P 170 8 = some (vm_m170, (8, .aload_n 0, 1, 0, 0, 0)) := rfl
theorem p170_9 : vm_P 170 9 = some (vm_m170, (9, .iload_n 2, 1, 0, 0, 0)) := rfl
theorem p170_10 : vm_P 170 10 = some (vm_m170, (10, .invokevirtual 159, 3, 0, 150, 1001)) := rfl
theorem p170_13 : vm_P 170 13 = some (vm_m170, (13, .ifCond .eq 8, 3, 0, 0, 0)) := rfl
theorem p170_16 : vm_P 170 16 = some (vm_m170, (16, .iload_n 1, 1, 0, 0, 0)) := rfl
theorem p170_17 : vm_P 170 17 = some (vm_m170, (17, .iload_n 2, 1, 0, 0, 0)) := rfl
theorem p170_18 : vm_P 170 18 = some (vm_m170, (18, .if_icmp .ne 5, 3, 0, 0, 0)) := rfl
theorem p170_21 : vm_P 170 21 = some (vm_m170, (21, .iconst (-1), 1, 0, 0, 0)) := rfl
theorem p170_22 : vm_P 170 22 = some (vm_m170, (22, .ireturn, 1, 0, 0, 0)) := rfl
theorem p170_23 : vm_P 170 23 = some (vm_m170, (23, .aload_n 0, 1, 0, 0, 0)) := rfl
theorem p170_24 : vm_P 170 24 = some (vm_m170, (24, .getfield 16, 3, 10, 2, 0)) := rfl
theorem p170_27 : vm_P 170 27 = some (vm_m170, (27, .iload_n 1, 1, 0, 0, 0)) := rfl
theorem p170_28 : vm_P 170 28 = some (vm_m170, (28, .iload_n 2, 1, 0, 0, 0)) := rfl
theorem p170_29 : vm_P 170 29 = some (vm_m170, (29, .invokestatic 193, 3, 1, 168, 3)) := rfl
theorem p170_32 : vm_P 170 32 = some (vm_m170, (32, .ifCond .ne 6, 3, 0, 0, 0)) := rfl
theorem p170_35 : vm_P 170 35 = some (vm_m170, (35, .bipush (-2), 2, 0, 0, 0)) := rfl
theorem p170_37 : vm_P 170 37 = some (vm_m170, (37, .ireturn, 1, 0, 0, 0)) := rfl
theorem p170_38 : vm_P 170 38 = some (vm_m170, (38, .aload_n 0, 1, 0, 0, 0)) := rfl
theorem p170_39 : vm_P 170 39 = some (vm_m170, (39, .invokevirtual 176, 3, 0, 165, 1000)) := rfl
theorem p170_42 : vm_P 170 42 = some (vm_m170, (42, .aload_n 0, 1, 0, 0, 0)) := rfl
theorem p170_43 : vm_P 170 43 = some (vm_m170, (43, .getfield 16, 3, 10, 2, 0)) := rfl
theorem p170_46 : vm_P 170 46 = some (vm_m170, (46, .iload_n 1, 1, 0, 0, 0)) := rfl
theorem p170_47 : vm_P 170 47 = some (vm_m170, (47, .iload_n 2, 1, 0, 0, 0)) := rfl
theorem p170_48 : vm_P 170 48 = some (vm_m170, (48, .invokestatic 196, 3, 1, 169, 3)) := rfl
theorem p170_51 : vm_P 170 51 = some (vm_m170, (51, .aload_n 0, 1, 0, 0, 0)) := rfl
theorem p170_52 : vm_P 170 52 = some (vm_m170, (52, .getfield 16, 3, 10, 2, 0)) := rfl
theorem p170_55 : vm_P 170 55 = some (vm_m170, (55, .iconst 4, 1, 0, 0, 0)) := rfl
theorem p170_56 : vm_P 170 56 = some (vm_m170, (56, .iload_n 1, 1, 0, 0, 0)) := rfl
theorem p170_57 : vm_P 170 57 = some (vm_m170, (57, .iadd, 1, 0, 0, 0)) := rfl
theorem p170_58 : vm_P 170 58 = some (vm_m170, (58, .iaload, 1, 0, 0, 0)) := rfl
theorem p170_59 : vm_P 170 59 = some (vm_m170, (59, .ireturn, 1, 0, 0, 0)) := rfl
theorem p171_0 : vm_P 171 0 = some (vm_m171, (0, .aload_n 0, 1, 0, 0, 0)) := rfl
theorem p171_1 : vm_P 171 1 = some (vm_m171, (1, .iload_n 1, 1, 0, 0, 0)) := rfl
theorem p171_2 : vm_P 171 2 = some (vm_m171, (2, .invokevirtual 159, 3, 0, 150, 1001)) := rfl
theorem p171_5 : vm_P 171 5 = some (vm_m171, (5, .ifCond .eq 16, 3, 0, 0, 0)) := rfl
theorem p171_8 : vm_P 171 8 = some (vm_m171, (8, .aload_n 0, 1, 0, 0, 0)) := rfl
theorem p171_9 : vm_P 171 9 = some (vm_m171, (9, .iload_n 2, 1, 0, 0, 0)) := rfl
theorem p171_10 : vm_P 171 10 = some (vm_m171, (10, .invokevirtual 159, 3, 0, 150, 1001)) := rfl
theorem p171_13 : vm_P 171 13 = some (vm_m171, (13, .ifCond .eq 8, 3, 0, 0, 0)) := rfl
theorem p171_16 : vm_P 171 16 = some (vm_m171, (16, .iload_n 1, 1, 0, 0, 0)) := rfl
theorem p171_17 : vm_P 171 17 = some (vm_m171, (17, .iload_n 2, 1, 0, 0, 0)) := rfl
theorem p171_18 : vm_P 171 18 = some (vm_m171, (18, .if_icmp .ne 5, 3, 0, 0, 0)) := rfl
theorem p171_21 : vm_P 171 21 = some (vm_m171, (21, .iconst (-1), 1, 0, 0, 0)) := rfl
theorem p171_22 : vm_P 171 22 = some (vm_m171, (22, .ireturn, 1, 0, 0, 0)) := rfl
theorem p171_23 : vm_P 171 23 = some (vm_m171, (23, .aload_n 0, 1, 0, 0, 0)) := rfl
theorem p171_24 : vm_P 171 24 = some (vm_m171, (24, .iload_n 1, 1, 0, 0, 0)) := rfl
theorem p171_25 : vm_P 171 25 = some (vm_m171, (25, .invokevirtual 199, 3, 0, 159, 1001)) := rfl
theorem p171_28 : vm_P 171 28 = some (vm_m171, (28, .ifCond .eq 11, 3, 0, 0, 0)) := rfl
theorem p171_31 : vm_P 171 31 = some (vm_m171, (31, .aload_n 0, 1, 0, 0, 0)) := rfl
theorem p171_32 : vm_P 171 32 = some (vm_m171, (32, .iload_n 2, 1, 0, 0, 0)) := rfl
theorem p171_33 : vm_P 171 33 = some (vm_m171, (33, .invokevirtual 199, 3, 0, 159, 1001)) := rfl
theorem p171_36 : vm_P 171 36 = some (vm_m171, (36, .ifCond .ne 6, 3, 0, 0, 0)) := rfl
theorem p171_39 : vm_P 171 39 = some (vm_m171, (39, .bipush (-2), 2, 0, 0, 0)) := rfl
theorem p171_41 : vm_P 171 41 = some (vm_m171, (41, .ireturn, 1, 0, 0, 0)) := rfl
theorem p171_42 : vm_P 171 42 = some (vm_m171, (42, .aload_n 0, 1, 0, 0, 0)) := rfl
theorem p171_43 : vm_P 171 43 = some (vm_m171, (43, .invokevirtual 176, 3, 0, 165, 1000)) := rfl
theorem p171_46 : vm_P 171 46 = some (vm_m171, (46, .aload_n 0, 1, 0, 0, 0)) := rfl
theorem p171_47 : vm_P 171 47 = some (vm_m171, (47, .getfield 16, 3, 10, 2, 0)) := rfl
theorem p171_50 : vm_P 171 50 = some (vm_m171, (50, .iconst 0, 1, 0, 0, 0)) := rfl
theorem p171_51 : vm_P 171 51 = some (vm_m171, (51, .iload_n 1, 1, 0, 0, 0)) := rfl
theorem p171_52 : vm_P 171 52 = some (vm_m171, (52, .iadd, 1, 0, 0, 0)) := rfl
theorem p171_53 : vm_P 171 53 = some (vm_m171, (53, .iaload, 1, 0, 0, 0)) := rfl
theorem p171_54 : vm_P 171 54 = some (vm_m171, (54, .aload_n 0, 1, 0, 0, 0)) := rfl
theorem p171_55 : vm_P 171 55 = some (vm_m171, (55, .getfield 16, 3, 10, 2, 0)) := rfl
theorem p171_58 : vm_P 171 58 = some (vm_m171, (58, .iconst 0, 1, 0, 0, 0)) := rfl
theorem p171_59 : vm_P 171 59 = some (vm_m171, (59, .iload_n 2, 1, 0, 0, 0)) := rfl
theorem p171_60 : vm_P 171 60 = some (vm_m171, (60, .iadd, 1, 0, 0, 0)) := rfl
theorem p171_61 : vm_P 171 61 = some (vm_m171, (61, .iaload, 1, 0, 0, 0)) := rfl
theorem p171_62 : vm_P 171 62 = some (vm_m171, (62, .iadd, 1, 0, 0, 0)) := rfl
theorem p171_63 : vm_P 171 63 = some (vm_m171, (63, .istore_n 3, 1, 0, 0, 0)) := rfl
theorem p171_64 : vm_P 171 64 = some (vm_m171, (64, .aload_n 0, 1, 0, 0, 0)) := rfl
theorem p171_65 : vm_P 171 65 = some (vm_m171, (65, .getfield 16, 3, 10, 2, 0)) := rfl
theorem p171_68 : vm_P 171 68 = some (vm_m171, (68, .iconst 0, 1, 0, 0, 0)) := rfl
theorem p171_69 : vm_P 171 69 = some (vm_m171, (69, .iload_n 1, 1, 0, 0, 0)) := rfl
theorem p171_70 : vm_P 171 70 = some (vm_m171, (70, .iadd, 1, 0, 0, 0)) := rfl
theorem p171_71 : vm_P 171 71 = some (vm_m171, (71, .iload_n 3, 1, 0, 0, 0)) := rfl
theorem p171_72 : vm_P 171 72 = some (vm_m171, (72, .bipush 20, 2, 0, 0, 0)) := rfl
theorem p171_74 : vm_P 171 74 = some (vm_m171, (74, .if_icmp .le 8, 3, 0, 0, 0)) := rfl
theorem p171_77 : vm_P 171 77 = some (vm_m171, (77, .bipush 20, 2, 0, 0, 0)) := rfl
theorem p171_79 : vm_P 171 79 = some (vm_m171, (79, .goto 4, 3, 0, 0, 0)) := rfl
theorem p171_82 : vm_P 171 82 = some (vm_m171, (82, .iload_n 3, 1, 0, 0, 0)) := rfl
theorem p171_83 : vm_P 171 83 = some (vm_m171, (83, .iastore, 1, 0, 0, 0)) := rfl
theorem p171_84 : vm_P 171 84 = some (vm_m171, (84, .aload_n 0, 1, 0, 0, 0)) := rfl
theorem p171_85 : vm_P 171 85 = some (vm_m171, (85, .getfield 16, 3, 10, 2, 0)) := rfl
theorem p171_88 : vm_P 171 88 = some (vm_m171, (88, .iconst 4, 1, 0, 0, 0)) := rfl
theorem p171_89 : vm_P 171 89 = some (vm_m171, (89, .iload_n 1, 1, 0, 0, 0)) := rfl
theorem p171_90 : vm_P 171 90 = some (vm_m171, (90, .iadd, 1, 0, 0, 0)) := rfl
theorem p171_91 : vm_P 171 91 = some (vm_m171, (91, .aload_n 0, 1, 0, 0, 0)) := rfl
theorem p171_92 : vm_P 171 92 = some (vm_m171, (92, .getfield 16, 3, 10, 2, 0)) := rfl
theorem p171_95 : vm_P 171 95 = some (vm_m171, (95, .iconst 4, 1, 0, 0, 0)) := rfl
theorem p171_96 : vm_P 171 96 = some (vm_m171, (96, .iload_n 1, 1, 0, 0, 0)) := rfl
theorem p171_97 : vm_P 171 97 = some (vm_m171, (97, .iadd, 1, 0, 0, 0)) := rfl
theorem p171_98 : vm_P 171 98 = some (vm_m171, (98, .iaload, 1, 0, 0, 0)) := rfl
theorem p171_99 : vm_P 171 99 = some (vm_m171, (99, .aload_n 0, 1, 0, 0, 0)) := rfl
theorem p171_100 : vm_P 171 100 = some (vm_m171, (100, .getfield 16, 3, 10, 2, 0)) := rfl
theorem p171_103 : vm_P 171 103 = some (vm_m171, (103, .iconst 4, 1, 0, 0, 0)) := rfl
theorem p171_104 : vm_P 171 104 = some (vm_m171, (104, .iload_n 2, 1, 0, 0, 0)) := rfl
theorem p171_105 : vm_P 171 105 = some (vm_m171, (105, .iadd, 1, 0, 0, 0)) := rfl
theorem p171_106 : vm_P 171 106 = some (vm_m171, (106, .iaload, 1, 0, 0, 0)) := rfl
theorem p171_107 : vm_P 171 107 = some (vm_m171, (107, .if_icmp .ge 14, 3, 0, 0, 0)) := rfl
theorem p171_110 : vm_P 171 110 = some (vm_m171, (110, .aload_n 0, 1, 0, 0, 0)) := rfl
theorem p171_111 : vm_P 171 111 = some (vm_m171, (111, .getfield 16, 3, 10, 2, 0)) := rfl
theorem p171_114 : vm_P 171 114 = some (vm_m171, (114, .iconst 4, 1, 0, 0, 0)) := rfl
theorem p171_115 : vm_P 171 115 = some (vm_m171, (115, .iload_n 1, 1, 0, 0, 0)) := rfl
theorem p171_116 : vm_P 171 116 = some (vm_m171, (116, .iadd, 1, 0, 0, 0)) := rfl
theorem p171_117 : vm_P 171 117 = some (vm_m171, (117, .iaload, 1, 0, 0, 0)) := rfl
theorem p171_118 : vm_P 171 118 = some (vm_m171, (118, .goto 11, 3, 0, 0, 0)) := rfl
theorem p171_121 : vm_P 171 121 = some (vm_m171, (121, .aload_n 0, 1, 0, 0, 0)) := rfl
theorem p171_122 : vm_P 171 122 = some (vm_m171, (122, .getfield 16, 3, 10, 2, 0)) := rfl
theorem p171_125 : vm_P 171 125 = some (vm_m171, (125, .iconst 4, 1, 0, 0, 0)) := rfl
theorem p171_126 : vm_P 171 126 = some (vm_m171, (126, .iload_n 2, 1, 0, 0, 0)) := rfl
theorem p171_127 : vm_P 171 127 = some (vm_m171, (127, .iadd, 1, 0, 0, 0)) := rfl
theorem p171_128 : vm_P 171 128 = some (vm_m171, (128, .iaload, 1, 0, 0, 0)) := rfl
theorem p171_129 : vm_P 171 129 = some (vm_m171, (129, .iastore, 1, 0, 0, 0)) := rfl
theorem p171_130 : vm_P 171 130 = some (vm_m171, (130, .aload_n 0, 1, 0, 0, 0)) := rfl
theorem p171_131 : vm_P 171 131 = some (vm_m171, (131, .getfield 16, 3, 10, 2, 0)) := rfl
theorem p171_134 : vm_P 171 134 = some (vm_m171, (134, .iload_n 2, 1, 0, 0, 0)) := rfl
theorem p171_135 : vm_P 171 135 = some (vm_m171, (135, .invokestatic 165, 3, 1, 160, 2)) := rfl
theorem p171_138 : vm_P 171 138 = some (vm_m171, (138, .iconst 0, 1, 0, 0, 0)) := rfl
theorem p171_139 : vm_P 171 139 = some (vm_m171, (139, .istore 4, 2, 0, 0, 0)) := rfl
theorem p171_141 : vm_P 171 141 = some (vm_m171, (141, .iload 4, 2, 0, 0, 0)) := rfl
theorem p171_143 : vm_P 171 143 = some (vm_m171, (143, .iconst 4, 1, 0, 0, 0)) := rfl
theorem p171_144 : vm_P 171 144 = some (vm_m171, (144, .if_icmp .ge 83, 3, 0, 0, 0)) := rfl
theorem p171_147 : vm_P 171 147 = some (vm_m171, (147, .aload_n 0, 1, 0, 0, 0)) := rfl
theorem p171_148 : vm_P 171 148 = some (vm_m171, (148, .getfield 16, 3, 10, 2, 0)) := rfl
theorem p171_151 : vm_P 171 151 = some (vm_m171, (151, .bipush 8, 2, 0, 0, 0)) := rfl
theorem p171_153 : vm_P 171 153 = some (vm_m171, (153, .iconst 4, 1, 0, 0, 0)) := rfl
theorem p171_154 : vm_P 171 154 = some (vm_m171, (154, .iload_n 1, 1, 0, 0, 0)) := rfl
theorem p171_155 : vm_P 171 155 = some (vm_m171, (155, .imul, 1, 0, 0, 0)) := rfl
theorem p171_156 : vm_P 171 156 = some (vm_m171, (156, .iadd, 1, 0, 0, 0)) := rfl
theorem p171_157 : vm_P 171 157 = some (vm_m171, (157, .iload 4, 2, 0, 0, 0)) := rfl
theorem p171_159 : vm_P 171 159 = some (vm_m171, (159, .iadd, 1, 0, 0, 0)) := rfl
theorem p171_160 : vm_P 171 160 = some (vm_m171, (160, .iaload, 1, 0, 0, 0)) := rfl
theorem p171_161 : vm_P 171 161 = some (vm_m171, (161, .aload_n 0, 1, 0, 0, 0)) := rfl
theorem p171_162 : vm_P 171 162 = some (vm_m171, (162, .getfield 16, 3, 10, 2, 0)) := rfl
theorem p171_165 : vm_P 171 165 = some (vm_m171, (165, .bipush 8, 2, 0, 0, 0)) := rfl
theorem p171_167 : vm_P 171 167 = some (vm_m171, (167, .iconst 4, 1, 0, 0, 0)) := rfl
theorem p171_168 : vm_P 171 168 = some (vm_m171, (168, .iload_n 2, 1, 0, 0, 0)) := rfl
theorem p171_169 : vm_P 171 169 = some (vm_m171, (169, .imul, 1, 0, 0, 0)) := rfl
theorem p171_170 : vm_P 171 170 = some (vm_m171, (170, .iadd, 1, 0, 0, 0)) := rfl
theorem p171_171 : vm_P 171 171 = some (vm_m171, (171, .iload 4, 2, 0, 0, 0)) := rfl
theorem p171_173 : vm_P 171 173 = some (vm_m171, (173, .iadd, 1, 0, 0, 0)) := rfl
theorem p171_174 : vm_P 171 174 = some (vm_m171, (174, .iaload, 1, 0, 0, 0)) := rfl
theorem p171_175 : vm_P 171 175 = some (vm_m171, (175, .iadd, 1, 0, 0, 0)) := rfl
theorem p171_176 : vm_P 171 176 = some (vm_m171, (176, .istore 5, 2, 0, 0, 0)) := rfl
theorem p171_178 : vm_P 171 178 = some (vm_m171, (178, .aload_n 0, 1, 0, 0, 0)) := rfl
theorem p171_179 : vm_P 171 179 = some (vm_m171, (179, .getfield 16, 3, 10, 2, 0)) := rfl
theorem p171_182 : vm_P 171 182 = some (vm_m171, (182, .bipush 8, 2, 0, 0, 0)) := rfl
theorem p171_184 : vm_P 171 184 = some (vm_m171, (184, .iconst 4, 1, 0, 0, 0)) := rfl
theorem p171_185 : vm_P 171 185 = some (vm_m171, (185, .iload_n 1, 1, 0, 0, 0)) := rfl
theorem p171_186 : vm_P 171 186 = some (vm_m171, (186, .imul, 1, 0, 0, 0)) := rfl
theorem p171_187 : vm_P 171 187 = some (vm_m171, (187, .iadd, 1, 0, 0, 0)) := rfl
theorem p171_188 : vm_P 171 188 = some (vm_m171, (188, .iload 4, 2, 0, 0, 0)) := rfl
theorem p171_190 : vm_P 171 190 = some (vm_m171, (190, .iadd, 1, 0, 0, 0)) := rfl
theorem p171_191 : vm_P 171 191 = some (vm_m171, (191, .iload 5, 2, 0, 0, 0)) := rfl
theorem p171_193 : vm_P 171 193 = some (vm_m171, (193, .bipush 99, 2, 0, 0, 0)) := rfl
theorem p171_195 : vm_P 171 195 = some (vm_m171, (195, .if_icmp .le 8, 3, 0, 0, 0)) := rfl
theorem p171_198 : vm_P 171 198 = some (vm_m171, (198, .bipush 99, 2, 0, 0, 0)) := rfl
theorem p171_200 : vm_P 171 200 = some (vm_m171, (200, .goto 5, 3, 0, 0, 0)) := rfl
theorem p171_203 : vm_P 171 203 = some (vm_m171, (203, .iload 5, 2, 0, 0, 0)) := rfl
theorem p171_205 : vm_P 171 205 = some (vm_m171, (205, .iastore, 1, 0, 0, 0)) := rfl
theorem p171_206 : vm_P 171 206 = some (vm_m171, (206, .aload_n 0, 1, 0, 0, 0)) := rfl
theorem p171_207 : vm_P 171 207 = some (vm_m171, (207, .getfield 16, 3, 10, 2, 0)) := rfl
theorem p171_210 : vm_P 171 210 = some (vm_m171, (210, .bipush 8, 2, 0, 0, 0)) := rfl
theorem p171_212 : vm_P 171 212 = some (vm_m171, (212, .iconst 4, 1, 0, 0, 0)) := rfl
theorem p171_213 : vm_P 171 213 = some (vm_m171, (213, .iload_n 2, 1, 0, 0, 0)) := rfl
theorem p171_214 : vm_P 171 214 = some (vm_m171, (214, .imul, 1, 0, 0, 0)) := rfl
theorem p171_215 : vm_P 171 215 = some (vm_m171, (215, .iadd, 1, 0, 0, 0)) := rfl
theorem p171_216 : vm_P 171 216 = some (vm_m171, (216, .iload 4, 2, 0, 0, 0)) := rfl
theorem p171_218 : vm_P 171 218 = some (vm_m171, (218, .iadd, 1, 0, 0, 0)) := rfl
theorem p171_219 : vm_P 171 219 = some (vm_m171, (219, .iconst 0, 1, 0, 0, 0)) := rfl
theorem p171_220 : vm_P 171 220 = some (vm_m171, (220, .iastore, 1, 0, 0, 0)) := rfl
theorem p171_221 : vm_P 171 221 = some (vm_m171, (221, .iinc 4 1, 3, 0, 0, 0)) := rfl
theorem p171_224 : vm_P 171 224 = some (vm_m171, (224, .goto (-83), 3, 0, 0, 0)) := rfl
theorem p171_227 : vm_P 171 227 = some (vm_m171, (227, .aload_n 0, 1, 0, 0, 0)) := rfl
theorem p171_228 : vm_P 171 228 = some (vm_m171, (228, .getfield 16, 3, 10, 2, 0)) := rfl
theorem p171_231 : vm_P 171 231 = some (vm_m171, (231, .iconst 4, 1, 0, 0, 0)) := rfl
theorem p171_232 : vm_P 171 232 = some (vm_m171, (232, .iload_n 1, 1, 0, 0, 0)) := rfl
theorem p171_233 : vm_P 171 233 = some (vm_m171, (233, .iadd, 1, 0, 0, 0)) := rfl
theorem p171_234 : vm_P 171 234 = some (vm_m171, (234, .iaload, 1, 0, 0, 0)) := rfl
theorem p171_235 : vm_P 171 235 = some (vm_m171, (235, .ireturn, 1, 0, 0, 0)) := rfl
theorem p172_0 : vm_P 172 0 = some (vm_m172, (0, .aload_n 0, 1, 0, 0, 0)) := rfl
theorem p172_1 : vm_P 172 1 = some (vm_m172, (1, .getfield 16, 3, 10, 2, 0)) := rfl
theorem p172_4 : vm_P 172 4 = some (vm_m172, (4, .bipush 8, 2, 0, 0, 0)) := rfl
theorem p172_6 : vm_P 172 6 = some (vm_m172, (6, .iconst 4, 1, 0, 0, 0)) := rfl
theorem p172_7 : vm_P 172 7 = some (vm_m172, (7, .iload_n 1, 1, 0, 0, 0)) := rfl
theorem p172_8 : vm_P 172 8 = some (vm_m172, (8, .imul, 1, 0, 0, 0)) := rfl
theorem p172_9 : vm_P 172 9 = some (vm_m172, (9, .iadd, 1, 0, 0, 0)) := rfl
theorem p172_10 : vm_P 172 10 = some (vm_m172, (10, .iload_n 3, 1, 0, 0, 0)) := rfl
theorem p172_11 : vm_P 172 11 = some (vm_m172, (11, .iadd, 1, 0, 0, 0)) := rfl
theorem p172_12 : vm_P 172 12 = some (vm_m172, (12, .iaload, 1, 0, 0, 0)) := rfl
theorem p172_13 : vm_P 172 13 = some (vm_m172, (13, .ifCond .le 25, 3, 0, 0, 0)) := rfl
theorem p172_16 : vm_P 172 16 = some (vm_m172, (16, .aload_n 0, 1, 0, 0, 0)) := rfl
theorem p172_17 : vm_P 172 17 = some (vm_m172, (17, .getfield 16, 3, 10, 2, 0)) := rfl
theorem p172_20 : vm_P 172 20 = some (vm_m172, (20, .bipush 8, 2, 0, 0, 0)) := rfl
theorem p172_22 : vm_P 172 22 = some (vm_m172, (22, .iconst 4, 1, 0, 0, 0)) := rfl
theorem p172_23 : vm_P 172 23 = some (vm_m172, (23, .iload_n 2, 1, 0, 0, 0)) := rfl
theorem p172_24 : vm_P 172 24 = some (vm_m172, (24, .imul, 1, 0, 0, 0)) := rfl
theorem p172_25 : vm_P 172 25 = some (vm_m172, (25, .iadd, 1, 0, 0, 0)) := rfl
theorem p172_26 : vm_P 172 26 = some (vm_m172, (26, .iload_n 3, 1, 0, 0, 0)) := rfl
theorem p172_27 : vm_P 172 27 = some (vm_m172, (27, .iadd, 1, 0, 0, 0)) := rfl
theorem p172_28 : vm_P 172 28 = some (vm_m172, (28, .iaload, 1, 0, 0, 0)) := rfl
theorem p172_29 : vm_P 172 29 = some (vm_m172, (29, .bipush 99, 2, 0, 0, 0)) := rfl
theorem p172_31 : vm_P 172 31 = some (vm_m172, (31, .if_icmp .ge 7, 3, 0, 0, 0)) := rfl
theorem p172_34 : vm_P 172 34 = some (vm_m172, (34, .iconst 1, 1, 0, 0, 0)) := rfl
theorem p172_35 : vm_P 172 35 = some (vm_m172, (35, .goto 4, 3, 0, 0, 0)) := rfl
theorem p172_38 : vm_P 172 38 = some (vm_m172, (38, .iconst 0, 1, 0, 0, 0)) := rfl
theorem p172_39 : vm_P 172 39 = some (vm_m172, (39, .ireturn, 1, 0, 0, 0)) := rfl
theorem p173_0 : vm_P 173 0 = some (vm_m173, (0, .aload_n 0, 1, 0, 0, 0)) := rfl
theorem p173_1 : vm_P 173 1 = some (vm_m173, (1, .iload_n 1, 1, 0, 0, 0)) := rfl
theorem p173_2 : vm_P 173 2 = some (vm_m173, (2, .invokevirtual 159, 3, 0, 150, 1001)) := rfl
theorem p173_5 : vm_P 173 5 = some (vm_m173, (5, .ifCond .eq 23, 3, 0, 0, 0)) := rfl
theorem p173_8 : vm_P 173 8 = some (vm_m173, (8, .aload_n 0, 1, 0, 0, 0)) := rfl
theorem p173_9 : vm_P 173 9 = some (vm_m173, (9, .iload_n 2, 1, 0, 0, 0)) := rfl
theorem p173_10 : vm_P 173 10 = some (vm_m173, (10, .invokevirtual 159, 3, 0, 150, 1001)) := rfl
theorem p173_13 : vm_P 173 13 = some (vm_m173, (13, .ifCond .eq 15, 3, 0, 0, 0)) := rfl
theorem p173_16 : vm_P 173 16 = some (vm_m173, (16, .iload_n 1, 1, 0, 0, 0)) := rfl
theorem p173_17 : vm_P 173 17 = some (vm_m173, (17, .iload_n 2, 1, 0, 0, 0)) := rfl
theorem p173_18 : vm_P 173 18 = some (vm_m173, (18, .if_icmp .eq 10, 3, 0, 0, 0)) := rfl
theorem p173_21 : vm_P 173 21 = some (vm_m173, (21, .iload_n 3, 1, 0, 0, 0)) := rfl
theorem p173_22 : vm_P 173 22 = some (vm_m173, (22, .invokestatic 150, 3, 1, 149, 1)) := rfl
theorem p173_25 : vm_P 173 25 = some (vm_m173, (25, .ifCond .ne 5, 3, 0, 0, 0)) := rfl
theorem p173_28 : vm_P 173 28 = some (vm_m173, (28, .iconst (-1), 1, 0, 0, 0)) := rfl
theorem p173_29 : vm_P 173 29 = some (vm_m173, (29, .ireturn, 1, 0, 0, 0)) := rfl
theorem p173_30 : vm_P 173 30 = some (vm_m173, (30, .aload_n 0, 1, 0, 0, 0)) := rfl
theorem p173_31 : vm_P 173 31 = some (vm_m173, (31, .iload_n 1, 1, 0, 0, 0)) := rfl
theorem p173_32 : vm_P 173 32 = some (vm_m173, (32, .iload_n 2, 1, 0, 0, 0)) := rfl
theorem p173_33 : vm_P 173 33 = some (vm_m173, (33, .iload_n 3, 1, 0, 0, 0)) := rfl
theorem p173_34 : vm_P 173 34 = some (vm_m173, (34, .invokevirtual 202, 3, 0, 172, 1003)) := rfl
theorem p173_37 : vm_P 173 37 = some (vm_m173, (37, .ifCond .ne 6, 3, 0, 0, 0)) := rfl
theorem p173_40 : vm_P 173 40 = some (vm_m173, (40, .bipush (-2), 2, 0, 0, 0)) := rfl
theorem p173_42 : vm_P 173 42 = some (vm_m173, (42, .ireturn, 1, 0, 0, 0)) := rfl
theorem p173_43 : vm_P 173 43 = some (vm_m173, (43, .aload_n 0, 1, 0, 0, 0)) := rfl
theorem p173_44 : vm_P 173 44 = some (vm_m173, (44, .invokevirtual 176, 3, 0, 165, 1000)) := rfl
theorem p173_47 : vm_P 173 47 = some (vm_m173, (47, .aload_n 0, 1, 0, 0, 0)) := rfl
theorem p173_48 : vm_P 173 48 = some (vm_m173, (48, .getfield 16, 3, 10, 2, 0)) := rfl
theorem p173_51 : vm_P 173 51 = some (vm_m173, (51, .bipush 8, 2, 0, 0, 0)) := rfl
theorem p173_53 : vm_P 173 53 = some (vm_m173, (53, .iconst 4, 1, 0, 0, 0)) := rfl
theorem p173_54 : vm_P 173 54 = some (vm_m173, (54, .iload_n 1, 1, 0, 0, 0)) := rfl
theorem p173_55 : vm_P 173 55 = some (vm_m173, (55, .imul, 1, 0, 0, 0)) := rfl
theorem p173_56 : vm_P 173 56 = some (vm_m173, (56, .iadd, 1, 0, 0, 0)) := rfl
theorem p173_57 : vm_P 173 57 = some (vm_m173, (57, .iload_n 3, 1, 0, 0, 0)) := rfl
theorem p173_58 : vm_P 173 58 = some (vm_m173, (58, .iadd, 1, 0, 0, 0)) := rfl
theorem p173_59 : vm_P 173 59 = some (vm_m173, (59, .dup2, 1, 0, 0, 0)) := rfl
theorem p173_60 : vm_P 173 60 = some (vm_m173, (60, .iaload, 1, 0, 0, 0)) := rfl
theorem p173_61 : vm_P 173 61 = some (vm_m173, (61, .iconst 1, 1, 0, 0, 0)) := rfl
theorem p173_62 : vm_P 173 62 = some (vm_m173, (62, .isub, 1, 0, 0, 0)) := rfl
theorem p173_63 : vm_P 173 63 = some (vm_m173, (63, .iastore, 1, 0, 0, 0)) := rfl
theorem p173_64 : vm_P 173 64 = some (vm_m173, (64, .aload_n 0, 1, 0, 0, 0)) := rfl
theorem p173_65 : vm_P 173 65 = some (vm_m173, (65, .getfield 16, 3, 10, 2, 0)) := rfl
theorem p173_68 : vm_P 173 68 = some (vm_m173, (68, .bipush 8, 2, 0, 0, 0)) := rfl
theorem p173_70 : vm_P 173 70 = some (vm_m173, (70, .iconst 4, 1, 0, 0, 0)) := rfl
theorem p173_71 : vm_P 173 71 = some (vm_m173, (71, .iload_n 2, 1, 0, 0, 0)) := rfl
theorem p173_72 : vm_P 173 72 = some (vm_m173, (72, .imul, 1, 0, 0, 0)) := rfl
theorem p173_73 : vm_P 173 73 = some (vm_m173, (73, .iadd, 1, 0, 0, 0)) := rfl
theorem p173_74 : vm_P 173 74 = some (vm_m173, (74, .iload_n 3, 1, 0, 0, 0)) := rfl
theorem p173_75 : vm_P 173 75 = some (vm_m173, (75, .iadd, 1, 0, 0, 0)) := rfl
theorem p173_76 : vm_P 173 76 = some (vm_m173, (76, .dup2, 1, 0, 0, 0)) := rfl
theorem p173_77 : vm_P 173 77 = some (vm_m173, (77, .iaload, 1, 0, 0, 0)) := rfl
theorem p173_78 : vm_P 173 78 = some (vm_m173, (78, .iconst 1, 1, 0, 0, 0)) := rfl
theorem p173_79 : vm_P 173 79 = some (vm_m173, (79, .iadd, 1, 0, 0, 0)) := rfl
theorem p173_80 : vm_P 173 80 = some (vm_m173, (80, .iastore, 1, 0, 0, 0)) := rfl
theorem p173_81 : vm_P 173 81 = some (vm_m173, (81, .aload_n 0, 1, 0, 0, 0)) := rfl
theorem p173_82 : vm_P 173 82 = some (vm_m173, (82, .getfield 16, 3, 10, 2, 0)) := rfl
theorem p173_85 : vm_P 173 85 = some (vm_m173, (85, .bipush 8, 2, 0, 0, 0)) := rfl
theorem p173_87 : vm_P 173 87 = some (vm_m173, (87, .iconst 4, 1, 0, 0, 0)) := rfl
theorem p173_88 : vm_P 173 88 = some (vm_m173, (88, .iload_n 2, 1, 0, 0, 0)) := rfl
theorem p173_89 : vm_P 173 89 = some (vm_m173, (89, .imul, 1, 0, 0, 0)) := rfl
theorem p173_90 : vm_P 173 90 = some (vm_m173, (90, .iadd, 1, 0, 0, 0)) := rfl
theorem p173_91 : vm_P 173 91 = some (vm_m173, (91, .iload_n 3, 1, 0, 0, 0)) := rfl
theorem p173_92 : vm_P 173 92 = some (vm_m173, (92, .iadd, 1, 0, 0, 0)) := rfl
theorem p173_93 : vm_P 173 93 = some (vm_m173, (93, .iaload, 1, 0, 0, 0)) := rfl
theorem p173_94 : vm_P 173 94 = some (vm_m173, (94, .ireturn, 1, 0, 0, 0)) := rfl
theorem p174_0 : vm_P 174 0 = some (vm_m174, (0, .aload_n 0, 1, 0, 0, 0)) := rfl
theorem p174_1 : vm_P 174 1 = some (vm_m174, (1, .getfield 72, 3, 10, 5, 0)) := rfl
theorem p174_4 : vm_P 174 4 = some (vm_m174, (4, .ifCond .ne 6, 3, 0, 0, 0)) := rfl
theorem p174_7 : vm_P 174 7 = some (vm_m174, (7, .bipush (-2), 2, 0, 0, 0)) := rfl
theorem p174_9 : vm_P 174 9 = some (vm_m174, (9, .ireturn, 1, 0, 0, 0)) := rfl
theorem p174_10 : vm_P 174 10 = some (vm_m174, (10, .aload_n 0, 1, 0, 0, 0)) := rfl
theorem p174_11 : vm_P 174 11 = some (vm_m174, (11, .dup, 1, 0, 0, 0)) := rfl
theorem p174_12 : vm_P 174 12 = some (vm_m174, (12, .getfield 72, 3, 10, 5, 0)) := rfl
theorem p174_15 : vm_P 174 15 = some (vm_m174, (15, .iconst 1, 1, 0, 0, 0)) := rfl
theorem p174_16 : vm_P 174 16 = some (vm_m174, (16, .isub, 1, 0, 0, 0)) := rfl
theorem p174_17 : vm_P 174 17 = some (vm_m174, (17, .putfield 72, 3, 10, 5, 0)) := rfl
theorem p174_20 : vm_P 174 20 = some (vm_m174, (20, .aload_n 0, 1, 0, 0, 0)) := rfl
theorem p174_21 : vm_P 174 21 = some (vm_m174, (21, .getfield 22, 3, 10, 4, 0)) := rfl
theorem p174_24 : vm_P 174 24 = some (vm_m174, (24, .bipush 33, 2, 0, 0, 0)) := rfl
theorem p174_26 : vm_P 174 26 = some (vm_m174, (26, .aload_n 0, 1, 0, 0, 0)) := rfl
theorem p174_27 : vm_P 174 27 = some (vm_m174, (27, .getfield 72, 3, 10, 5, 0)) := rfl
theorem p174_30 : vm_P 174 30 = some (vm_m174, (30, .imul, 1, 0, 0, 0)) := rfl
theorem p174_31 : vm_P 174 31 = some (vm_m174, (31, .aload_n 0, 1, 0, 0, 0)) := rfl
theorem p174_32 : vm_P 174 32 = some (vm_m174, (32, .getfield 16, 3, 10, 2, 0)) := rfl
theorem p174_35 : vm_P 174 35 = some (vm_m174, (35, .iconst 0, 1, 0, 0, 0)) := rfl
theorem p174_36 : vm_P 174 36 = some (vm_m174, (36, .bipush 33, 2, 0, 0, 0)) := rfl
theorem p174_38 : vm_P 174 38 = some (vm_m174, (38, .invokestatic 137, 3, 1, 130, 5)) := rfl
theorem p174_41 : vm_P 174 41 = some (vm_m174, (41, .aload_n 0, 1, 0, 0, 0)) := rfl
theorem p174_42 : vm_P 174 42 = some (vm_m174, (42, .getfield 72, 3, 10, 5, 0)) := rfl
theorem p174_45 : vm_P 174 45 = some (vm_m174, (45, .ireturn, 1, 0, 0, 0)) := rfl
theorem p175_0 : vm_P 175 0 = some (vm_m175, (0, .aload_n 0, 1, 0, 0, 0)) := rfl
theorem p175_1 : vm_P 175 1 = some (vm_m175, (1, .iload_n 1, 1, 0, 0, 0)) := rfl
theorem p175_2 : vm_P 175 2 = some (vm_m175, (2, .invokevirtual 159, 3, 0, 150, 1001)) := rfl
theorem p175_5 : vm_P 175 5 = some (vm_m175, (5, .ifCond .ne 5, 3, 0, 0, 0)) := rfl
theorem p175_8 : vm_P 175 8 = some (vm_m175, (8, .iconst (-1), 1, 0, 0, 0)) := rfl
theorem p175_9 : vm_P 175 9 = some (vm_m175, (9, .ireturn, 1, 0, 0, 0)) := rfl
theorem p175_10 : vm_P 175 10 = some (vm_m175, (10, .aload_n 0, 1, 0, 0, 0)) := rfl
theorem p175_11 : vm_P 175 11 = some (vm_m175, (11, .getfield 16, 3, 10, 2, 0)) := rfl
theorem p175_14 : vm_P 175 14 = some (vm_m175, (14, .iconst 0, 1, 0, 0, 0)) := rfl
theorem p175_15 : vm_P 175 15 = some (vm_m175, (15, .iload_n 1, 1, 0, 0, 0)) := rfl
theorem p175_16 : vm_P 175 16 = some (vm_m175, (16, .iadd, 1, 0, 0, 0)) := rfl
theorem p175_17 : vm_P 175 17 = some (vm_m175, (17, .iaload, 1, 0, 0, 0)) := rfl
theorem p175_18 : vm_P 175 18 = some (vm_m175, (18, .istore_n 2, 1, 0, 0, 0)) := rfl
theorem p175_19 : vm_P 175 19 = some (vm_m175, (19, .iconst 0, 1, 0, 0, 0)) := rfl
theorem p175_20 : vm_P 175 20 = some (vm_m175, (20, .istore_n 3, 1, 0, 0, 0)) := rfl
theorem p175_21 : vm_P 175 21 = some (vm_m175, (21, .iload_n 3, 1, 0, 0, 0)) := rfl
theorem p175_22 : vm_P 175 22 = some (vm_m175, (22, .bipush 61, 2, 0, 0, 0)) := rfl
theorem p175_24 : vm_P 175 24 = some (vm_m175, (24, .if_icmp .ge 42, 3, 0, 0, 0)) := rfl
theorem p175_27 : vm_P 175 27 = some (vm_m175, (27, .iload_n 2, 1, 0, 0, 0)) := rfl
theorem p175_28 : vm_P 175 28 = some (vm_m175, (28, .ifCond .ne 5, 3, 0, 0, 0)) := rfl
theorem p175_31 : vm_P 175 31 = some (vm_m175, (31, .iload_n 3, 1, 0, 0, 0)) := rfl
theorem p175_32 : vm_P 175 32 = some (vm_m175, (32, .ireturn, 1, 0, 0, 0)) := rfl
theorem p175_33 : vm_P 175 33 = some (vm_m175, (33, .iload_n 2, 1, 0, 0, 0)) := rfl
theorem p175_34 : vm_P 175 34 = some (vm_m175, (34, .aload_n 0, 1, 0, 0, 0)) := rfl
theorem p175_35 : vm_P 175 35 = some (vm_m175, (35, .getfield 16, 3, 10, 2, 0)) := rfl
theorem p175_38 : vm_P 175 38 = some (vm_m175, (38, .bipush 24, 2, 0, 0, 0)) := rfl
theorem p175_40 : vm_P 175 40 = some (vm_m175, (40, .iload_n 1, 1, 0, 0, 0)) := rfl
theorem p175_41 : vm_P 175 41 = some (vm_m175, (41, .iadd, 1, 0, 0, 0)) := rfl
theorem p175_42 : vm_P 175 42 = some (vm_m175, (42, .iaload, 1, 0, 0, 0)) := rfl
theorem p175_43 : vm_P 175 43 = some (vm_m175, (43, .aload_n 0, 1, 0, 0, 0)) := rfl
theorem p175_44 : vm_P 175 44 = some (vm_m175, (44, .aload_n 0, 1, 0, 0, 0)) := rfl
theorem p175_45 : vm_P 175 45 = some (vm_m175, (45, .getfield 16, 3, 10, 2, 0)) := rfl
theorem p175_48 : vm_P 175 48 = some (vm_m175, (48, .bipush 32, 2, 0, 0, 0)) := rfl
theorem p175_50 : vm_P 175 50 = some (vm_m175, (50, .iaload, 1, 0, 0, 0)) := rfl
theorem p175_51 : vm_P 175 51 = some (vm_m175, (51, .iload_n 3, 1, 0, 0, 0)) := rfl
theorem p175_52 : vm_P 175 52 = some (vm_m175, (52, .iadd, 1, 0, 0, 0)) := rfl
theorem p175_53 : vm_P 175 53 = some (vm_m175, (53, .invokevirtual 155, 3, 0, 153, 1001)) := rfl
theorem p175_56 : vm_P 175 56 = some (vm_m175, (56, .invokestatic 168, 3, 1, 158, 3)) := rfl
theorem p175_59 : vm_P 175 59 = some (vm_m175, (59, .istore_n 2, 1, 0, 0, 0)) := rfl
theorem p175_60 : vm_P 175 60 = some (vm_m175, (60, .iinc 3 1, 3, 0, 0, 0)) := rfl
theorem p175_63 : vm_P 175 63 = some (vm_m175, (63, .goto (-42), 3, 0, 0, 0)) := rfl
theorem p175_66 : vm_P 175 66 = some (vm_m175, (66, .bipush (-4), 2, 0, 0, 0)) := rfl
theorem p175_68 : vm_P 175 68 = some (vm_m175, (68, .ireturn, 1, 0, 0, 0)) := rfl
theorem p176_0 : vm_P 176 0 = some (vm_m176, (0, .aload_n 0, 1, 0, 0, 0)) := rfl
theorem p176_1 : vm_P 176 1 = some (vm_m176, (1, .getfield 16, 3, 10, 2, 0)) := rfl
theorem p176_4 : vm_P 176 4 = some (vm_m176, (4, .bipush 8, 2, 0, 0, 0)) := rfl
theorem p176_6 : vm_P 176 6 = some (vm_m176, (6, .iconst 4, 1, 0, 0, 0)) := rfl
theorem p176_7 : vm_P 176 7 = some (vm_m176, (7, .iload_n 1, 1, 0, 0, 0)) := rfl
theorem p176_8 : vm_P 176 8 = some (vm_m176, (8, .imul, 1, 0, 0, 0)) := rfl
theorem p176_9 : vm_P 176 9 = some (vm_m176, (9, .iadd, 1, 0, 0, 0)) := rfl
theorem p176_10 : vm_P 176 10 = some (vm_m176, (10, .aload_n 0, 1, 0, 0, 0)) := rfl
theorem p176_11 : vm_P 176 11 = some (vm_m176, (11, .getfield 40, 3, 10, 16, 0)) := rfl
theorem p176_14 : vm_P 176 14 = some (vm_m176, (14, .iconst 0, 1, 0, 0, 0)) := rfl
theorem p176_15 : vm_P 176 15 = some (vm_m176, (15, .iconst 4, 1, 0, 0, 0)) := rfl
theorem p176_16 : vm_P 176 16 = some (vm_m176, (16, .invokestatic 137, 3, 1, 130, 5)) := rfl
theorem p176_19 : vm_P 176 19 = some (vm_m176, (19, .return_, 1, 0, 0, 0)) := rfl
theorem p177_0 : vm_P 177 0 = some (vm_m177, (0, .iload_n 3, 1, 0, 0, 0)) := rfl
theorem p177_1 : vm_P 177 1 = some (vm_m177, (1, .istore 4, 2, 0, 0, 0)) := rfl
theorem p177_3 : vm_P 177 3 = some (vm_m177, (3, .iload_n 2, 1, 0, 0, 0)) := rfl
theorem p177_4 : vm_P 177 4 = some (vm_m177, (4, .iconst 1, 1, 0, 0, 0)) := rfl
theorem p177_5 : vm_P 177 5 = some (vm_m177, (5, .isub, 1, 0, 0, 0)) := rfl
theorem p177_6 : vm_P 177 6 = some (vm_m177, (6, .istore 5, 2, 0, 0, 0)) := rfl
theorem p177_8 : vm_P 177 8 = some (vm_m177, (8, .iload 5, 2, 0, 0, 0)) := rfl
theorem p177_10 : vm_P 177 10 = some (vm_m177, (10, .ifCond .lt 26, 3, 0, 0, 0)) := rfl
theorem p177_13 : vm_P 177 13 = some (vm_m177, (13, .aload_n 0, 1, 0, 0, 0)) := rfl
theorem p177_14 : vm_P 177 14 = some (vm_m177, (14, .getfield 34, 3, 10, 14, 0)) := rfl
theorem p177_17 : vm_P 177 17 = some (vm_m177, (17, .iload 5, 2, 0, 0, 0)) := rfl
theorem p177_19 : vm_P 177 19 = some (vm_m177, (19, .iload 4, 2, 0, 0, 0)) := rfl
theorem p177_21 : vm_P 177 21 = some (vm_m177, (21, .iconst 5, 1, 0, 0, 0)) := rfl
theorem p177_22 : vm_P 177 22 = some (vm_m177, (22, .irem, 1, 0, 0, 0)) := rfl
theorem p177_23 : vm_P 177 23 = some (vm_m177, (23, .iastore, 1, 0, 0, 0)) := rfl
theorem p177_24 : vm_P 177 24 = some (vm_m177, (24, .iload 4, 2, 0, 0, 0)) := rfl
theorem p177_26 : vm_P 177 26 = some (vm_m177, (26, .iconst 5, 1, 0, 0, 0)) := rfl
theorem p177_27 : vm_P 177 27 = some (vm_m177, (27, .idiv, 1, 0, 0, 0)) := rfl
theorem p177_28 : vm_P 177 28 = some (vm_m177, (28, .istore 4, 2, 0, 0, 0)) := rfl
theorem p177_30 : vm_P 177 30 = some (vm_m177, (30, .iinc 5 (-1), 3, 0, 0, 0)) := rfl
theorem p177_33 : vm_P 177 33 = some (vm_m177, (33, .goto (-25), 3, 0, 0, 0)) := rfl
theorem p177_36 : vm_P 177 36 = some (vm_m177, (36, .aload_n 0, 1, 0, 0, 0)) := rfl
theorem p177_37 : vm_P 177 37 = some (vm_m177, (37, .getfield 16, 3, 10, 2, 0)) := rfl
theorem p177_40 : vm_P 177 40 = some (vm_m177, (40, .iconst 0, 1, 0, 0, 0)) := rfl
theorem p177_41 : vm_P 177 41 = some (vm_m177, (41, .iload_n 1, 1, 0, 0, 0)) := rfl
theorem p177_42 : vm_P 177 42 = some (vm_m177, (42, .iadd, 1, 0, 0, 0)) := rfl
theorem p177_43 : vm_P 177 43 = some (vm_m177, (43, .iaload, 1, 0, 0, 0)) := rfl
theorem p177_44 : vm_P 177 44 = some (vm_m177, (44, .istore 5, 2, 0, 0, 0)) := rfl
theorem p177_46 : vm_P 177 46 = some (vm_m177, (46, .aload_n 0, 1, 0, 0, 0)) := rfl
theorem p177_47 : vm_P 177 47 = some (vm_m177, (47, .getfield 16, 3, 10, 2, 0)) := rfl
theorem p177_50 : vm_P 177 50 = some (vm_m177, (50, .bipush 24, 2, 0, 0, 0)) := rfl
theorem p177_52 : vm_P 177 52 = some (vm_m177, (52, .iload_n 1, 1, 0, 0, 0)) := rfl
theorem p177_53 : vm_P 177 53 = some (vm_m177, (53, .iadd, 1, 0, 0, 0)) := rfl
theorem p177_54 : vm_P 177 54 = some (vm_m177, (54, .iaload, 1, 0, 0, 0)) := rfl
theorem p177_55 : vm_P 177 55 = some (vm_m177, (55, .istore 6, 2, 0, 0, 0)) := rfl
theorem p177_57 : vm_P 177 57 = some (vm_m177, (57, .iconst 0, 1, 0, 0, 0)) := rfl
theorem p177_58 : vm_P 177 58 = some (vm_m177, (58, .istore 7, 2, 0, 0, 0)) := rfl
theorem p177_60 : vm_P 177 60 = some (vm_m177, (60, .iconst 0, 1, 0, 0, 0)) := rfl
theorem p177_61 : vm_P 177 61 = some (vm_m177, (61, .istore 8, 2, 0, 0, 0)) := rfl
theorem p177_63 : vm_P 177 63 = some (vm_m177, (63, .iload 8, 2, 0, 0, 0)) := rfl
theorem p177_65 : vm_P 177 65 = some (vm_m177, (65, .iload_n 2, 1, 0, 0, 0)) := rfl
theorem p177_66 : vm_P 177 66 = some (vm_m177, (66, .if_icmp .ge 114, 3, 0, 0, 0)) := rfl
theorem p177_69 : vm_P 177 69 = some (vm_m177, (69, .aload_n 0, 1, 0, 0, 0)) := rfl
theorem p177_70 : vm_P 177 70 = some (vm_m177, (70, .getfield 34, 3, 10, 14, 0)) := rfl
theorem p177_73 : vm_P 177 73 = some (vm_m177, (73, .iload 8, 2, 0, 0, 0)) := rfl
theorem p177_75 : vm_P 177 75 = some (vm_m177, (75, .iaload, 1, 0, 0, 0)) := rfl
theorem p177_76 : vm_P 177 76 = some (vm_m177, (76, .istore 9, 2, 0, 0, 0)) := rfl
theorem p177_78 : vm_P 177 78 = some (vm_m177, (78, .iload 9, 2, 0, 0, 0)) := rfl
theorem p177_80 : vm_P 177 80 = some (vm_m177, (80, .iconst 4, 1, 0, 0, 0)) := rfl
theorem p177_81 : vm_P 177 81 = some (vm_m177, (81, .if_icmp .ge 47, 3, 0, 0, 0)) := rfl
theorem p177_84 : vm_P 177 84 = some (vm_m177, (84, .aload_n 0, 1, 0, 0, 0)) := rfl
theorem p177_85 : vm_P 177 85 = some (vm_m177, (85, .getfield 40, 3, 10, 16, 0)) := rfl
theorem p177_88 : vm_P 177 88 = some (vm_m177, (88, .iload 9, 2, 0, 0, 0)) := rfl
theorem p177_90 : vm_P 177 90 = some (vm_m177, (90, .iaload, 1, 0, 0, 0)) := rfl
theorem p177_91 : vm_P 177 91 = some (vm_m177, (91, .ifCond .ne 10, 3, 0, 0, 0)) := rfl
theorem p177_94 : vm_P 177 94 = some (vm_m177, (94, .aload_n 0, 1, 0, 0, 0)) := rfl
theorem p177_95 : vm_P 177 95 = some (vm_m177, (95, .iload 8, 2, 0, 0, 0)) := rfl
theorem p177_97 : vm_P 177 97 = some (vm_m177, (97, .invokevirtual 206, 3, 0, 178, 1001)) := rfl
theorem p177_100 : vm_P 177 100 = some (vm_m177, (100, .ireturn, 1, 0, 0, 0)) := rfl
theorem p177_101 : vm_P 177 101 = some (vm_m177, (101, .aload_n 0, 1, 0, 0, 0)) := rfl
theorem p177_102 : vm_P 177 102 = some (vm_m177, (102, .getfield 40, 3, 10, 16, 0)) := rfl
theorem p177_105 : vm_P 177 105 = some (vm_m177, (105, .iload 9, 2, 0, 0, 0)) := rfl
theorem p177_107 : vm_P 177 107 = some (vm_m177, (107, .dup2, 1, 0, 0, 0)) := rfl
theorem p177_108 : vm_P 177 108 = some (vm_m177, (108, .iaload, 1, 0, 0, 0)) := rfl
theorem p177_109 : vm_P 177 109 = some (vm_m177, (109, .iconst 1, 1, 0, 0, 0)) := rfl
theorem p177_110 : vm_P 177 110 = some (vm_m177, (110, .isub, 1, 0, 0, 0)) := rfl
theorem p177_111 : vm_P 177 111 = some (vm_m177, (111, .iastore, 1, 0, 0, 0)) := rfl
theorem p177_112 : vm_P 177 112 = some (vm_m177, (112, .iinc 7 1, 3, 0, 0, 0)) := rfl
theorem p177_115 : vm_P 177 115 = some (vm_m177, (115, .iload 5, 2, 0, 0, 0)) := rfl
theorem p177_117 : vm_P 177 117 = some (vm_m177, (117, .iload 9, 2, 0, 0, 0)) := rfl
theorem p177_119 : vm_P 177 119 = some (vm_m177, (119, .invokestatic 162, 3, 1, 157, 2)) := rfl
theorem p177_122 : vm_P 177 122 = some (vm_m177, (122, .istore 5, 2, 0, 0, 0)) := rfl
theorem p177_124 : vm_P 177 124 = some (vm_m177, (124, .iload 9, 2, 0, 0, 0)) := rfl
theorem p177_126 : vm_P 177 126 = some (vm_m177, (126, .istore 6, 2, 0, 0, 0)) := rfl
theorem p177_128 : vm_P 177 128 = some (vm_m177, (128, .iload 5, 2, 0, 0, 0)) := rfl
theorem p177_130 : vm_P 177 130 = some (vm_m177, (130, .ifCond .ne 7, 3, 0, 0, 0)) := rfl
theorem p177_133 : vm_P 177 133 = some (vm_m177, (133, .iconst 0, 1, 0, 0, 0)) := rfl
theorem p177_134 : vm_P 177 134 = some (vm_m177, (134, .goto 24, 3, 0, 0, 0)) := rfl
theorem p177_137 : vm_P 177 137 = some (vm_m177, (137, .iload 5, 2, 0, 0, 0)) := rfl
theorem p177_139 : vm_P 177 139 = some (vm_m177, (139, .iload 6, 2, 0, 0, 0)) := rfl
theorem p177_141 : vm_P 177 141 = some (vm_m177, (141, .aload_n 0, 1, 0, 0, 0)) := rfl
theorem p177_142 : vm_P 177 142 = some (vm_m177, (142, .aload_n 0, 1, 0, 0, 0)) := rfl
theorem p177_143 : vm_P 177 143 = some (vm_m177, (143, .getfield 16, 3, 10, 2, 0)) := rfl
theorem p177_146 : vm_P 177 146 = some (vm_m177, (146, .bipush 32, 2, 0, 0, 0)) := rfl
theorem p177_148 : vm_P 177 148 = some (vm_m177, (148, .iaload, 1, 0, 0, 0)) := rfl
theorem p177_149 : vm_P 177 149 = some (vm_m177, (149, .iload 8, 2, 0, 0, 0)) := rfl
theorem p177_151 : vm_P 177 151 = some (vm_m177, (151, .iadd, 1, 0, 0, 0)) := rfl
theorem p177_152 : vm_P 177 152 = some (vm_m177, (152, .invokevirtual 155, 3, 0, 153, 1001)) := rfl
theorem p177_155 : vm_P 177 155 = some (vm_m177, (155, .invokestatic 168, 3, 1, 158, 3)) := rfl
theorem p177_158 : vm_P 177 158 = some (vm_m177, (158, .istore 5, 2, 0, 0, 0)) := rfl
theorem p177_160 : vm_P 177 160 = some (vm_m177, (160, .iload 5, 2, 0, 0, 0)) := rfl
theorem p177_162 : vm_P 177 162 = some (vm_m177, (162, .ifCond .ne 12, 3, 0, 0, 0)) := rfl
theorem p177_165 : vm_P 177 165 = some (vm_m177, (165, .aload_n 0, 1, 0, 0, 0)) := rfl
theorem p177_166 : vm_P 177 166 = some (vm_m177, (166, .iload 8, 2, 0, 0, 0)) := rfl
theorem p177_168 : vm_P 177 168 = some (vm_m177, (168, .iconst 1, 1, 0, 0, 0)) := rfl
theorem p177_169 : vm_P 177 169 = some (vm_m177, (169, .iadd, 1, 0, 0, 0)) := rfl
theorem p177_170 : vm_P 177 170 = some (vm_m177, (170, .invokevirtual 206, 3, 0, 178, 1001)) := rfl
theorem p177_173 : vm_P 177 173 = some (vm_m177, (173, .ireturn, 1, 0, 0, 0)) := rfl
theorem p177_174 : vm_P 177 174 = some (vm_m177, (174, .iinc 8 1, 3, 0, 0, 0)) := rfl
theorem p177_177 : vm_P 177 177 = some (vm_m177, (177, .goto (-114), 3, 0, 0, 0)) := rfl
theorem p177_180 : vm_P 177 180 = some (vm_m177, (180, .aload_n 0, 1, 0, 0, 0)) := rfl
theorem p177_181 : vm_P 177 181 = some (vm_m177, (181, .iload_n 2, 1, 0, 0, 0)) := rfl
theorem p177_182 : vm_P 177 182 = some (vm_m177, (182, .invokevirtual 206, 3, 0, 178, 1001)) := rfl
theorem p177_185 : vm_P 177 185 = some (vm_m177, (185, .istore 8, 2, 0, 0, 0)) := rfl
theorem p177_187 : vm_P 177 187 = some (vm_m177, (187, .iload 7, 2, 0, 0, 0)) := rfl
theorem p177_189 : vm_P 177 189 = some (vm_m177, (189, .ireturn, 1, 0, 0, 0)) := rfl
theorem p178_0 : vm_P 178 0 = some (vm_m178, (0, .iconst 0, 1, 0, 0, 0)) := rfl
theorem p178_1 : vm_P 178 1 = some (vm_m178, (1, .istore_n 2, 1, 0, 0, 0)) := rfl
theorem p178_2 : vm_P 178 2 = some (vm_m178, (2, .iload_n 2, 1, 0, 0, 0)) := rfl
theorem p178_3 : vm_P 178 3 = some (vm_m178, (3, .iload_n 1, 1, 0, 0, 0)) := rfl
theorem p178_4 : vm_P 178 4 = some (vm_m178, (4, .if_icmp .ge 34, 3, 0, 0, 0)) := rfl
theorem p178_7 : vm_P 178 7 = some (vm_m178, (7, .aload_n 0, 1, 0, 0, 0)) := rfl
theorem p178_8 : vm_P 178 8 = some (vm_m178, (8, .getfield 34, 3, 10, 14, 0)) := rfl
theorem p178_11 : vm_P 178 11 = some (vm_m178, (11, .iload_n 2, 1, 0, 0, 0)) := rfl
theorem p178_12 : vm_P 178 12 = some (vm_m178, (12, .iaload, 1, 0, 0, 0)) := rfl
theorem p178_13 : vm_P 178 13 = some (vm_m178, (13, .iconst 4, 1, 0, 0, 0)) := rfl
theorem p178_14 : vm_P 178 14 = some (vm_m178, (14, .if_icmp .ge 18, 3, 0, 0, 0)) := rfl
theorem p178_17 : vm_P 178 17 = some (vm_m178, (17, .aload_n 0, 1, 0, 0, 0)) := rfl
theorem p178_18 : vm_P 178 18 = some (vm_m178, (18, .getfield 40, 3, 10, 16, 0)) := rfl
theorem p178_21 : vm_P 178 21 = some (vm_m178, (21, .aload_n 0, 1, 0, 0, 0)) := rfl
theorem p178_22 : vm_P 178 22 = some (vm_m178, (22, .getfield 34, 3, 10, 14, 0)) := rfl
theorem p178_25 : vm_P 178 25 = some (vm_m178, (25, .iload_n 2, 1, 0, 0, 0)) := rfl
theorem p178_26 : vm_P 178 26 = some (vm_m178, (26, .iaload, 1, 0, 0, 0)) := rfl
theorem p178_27 : vm_P 178 27 = some (vm_m178, (27, .dup2, 1, 0, 0, 0)) := rfl
theorem p178_28 : vm_P 178 28 = some (vm_m178, (28, .iaload, 1, 0, 0, 0)) := rfl
theorem p178_29 : vm_P 178 29 = some (vm_m178, (29, .iconst 1, 1, 0, 0, 0)) := rfl
theorem p178_30 : vm_P 178 30 = some (vm_m178, (30, .iadd, 1, 0, 0, 0)) := rfl
theorem p178_31 : vm_P 178 31 = some (vm_m178, (31, .iastore, 1, 0, 0, 0)) := rfl
theorem p178_32 : vm_P 178 32 = some (vm_m178, (32, .iinc 2 1, 3, 0, 0, 0)) := rfl
theorem p178_35 : vm_P 178 35 = some (vm_m178, (35, .goto (-33), 3, 0, 0, 0)) := rfl
theorem p178_38 : vm_P 178 38 = some (vm_m178, (38, .ldc 209, 2, 0, 0, 0)) := rfl
theorem p178_40 : vm_P 178 40 = some (vm_m178, (40, .ireturn, 1, 0, 0, 0)) := rfl
theorem p179_0 : vm_P 179 0 = some (vm_m179, (0, .iconst 1, 1, 0, 0, 0)) := rfl
theorem p179_1 : vm_P 179 1 = some (vm_m179, (1, .istore_n 3, 1, 0, 0, 0)) := rfl
theorem p179_2 : vm_P 179 2 = some (vm_m179, (2, .iconst 0, 1, 0, 0, 0)) := rfl
theorem p179_3 : vm_P 179 3 = some (vm_m179, (3, .istore 4, 2, 0, 0, 0)) := rfl
theorem p179_5 : vm_P 179 5 = some (vm_m179, (5, .iload 4, 2, 0, 0, 0)) := rfl
theorem p179_7 : vm_P 179 7 = some (vm_m179, (7, .iload_n 2, 1, 0, 0, 0)) := rfl
theorem p179_8 : vm_P 179 8 = some (vm_m179, (8, .if_icmp .ge 13, 3, 0, 0, 0)) := rfl
theorem p179_11 : vm_P 179 11 = some (vm_m179, (11, .iload_n 3, 1, 0, 0, 0)) := rfl
theorem p179_12 : vm_P 179 12 = some (vm_m179, (12, .iconst 5, 1, 0, 0, 0)) := rfl
theorem p179_13 : vm_P 179 13 = some (vm_m179, (13, .imul, 1, 0, 0, 0)) := rfl
theorem p179_14 : vm_P 179 14 = some (vm_m179, (14, .istore_n 3, 1, 0, 0, 0)) := rfl
theorem p179_15 : vm_P 179 15 = some (vm_m179, (15, .iinc 4 1, 3, 0, 0, 0)) := rfl
theorem p179_18 : vm_P 179 18 = some (vm_m179, (18, .goto (-13), 3, 0, 0, 0)) := rfl
theorem p179_21 : vm_P 179 21 = some (vm_m179, (21, .ldc 209, 2, 0, 0, 0)) := rfl
theorem p179_23 : vm_P 179 23 = some (vm_m179, (23, .istore 4, 2, 0, 0, 0)) := rfl
theorem p179_25 : vm_P 179 25 = some (vm_m179, (25, .iconst 0, 1, 0, 0, 0)) := rfl
theorem p179_26 : vm_P 179 26 = some (vm_m179, (26, .istore 5, 2, 0, 0, 0)) := rfl
theorem p179_28 : vm_P 179 28 = some (vm_m179, (28, .iload 5, 2, 0, 0, 0)) := rfl
theorem p179_30 : vm_P 179 30 = some (vm_m179, (30, .iload_n 3, 1, 0, 0, 0)) := rfl
theorem p179_31 : vm_P 179 31 = some (vm_m179, (31, .if_icmp .ge 44, 3, 0, 0, 0)) := rfl
theorem p179_34 : vm_P 179 34 = some (vm_m179, (34, .aload_n 0, 1, 0, 0, 0)) := rfl
theorem p179_35 : vm_P 179 35 = some (vm_m179, (35, .iload_n 1, 1, 0, 0, 0)) := rfl
theorem p179_36 : vm_P 179 36 = some (vm_m179, (36, .iload_n 2, 1, 0, 0, 0)) := rfl
theorem p179_37 : vm_P 179 37 = some (vm_m179, (37, .iload 5, 2, 0, 0, 0)) := rfl
theorem p179_39 : vm_P 179 39 = some (vm_m179, (39, .invokevirtual 210, 3, 0, 177, 1003)) := rfl
theorem p179_42 : vm_P 179 42 = some (vm_m179, (42, .istore 6, 2, 0, 0, 0)) := rfl
theorem p179_44 : vm_P 179 44 = some (vm_m179, (44, .iload 6, 2, 0, 0, 0)) := rfl
theorem p179_46 : vm_P 179 46 = some (vm_m179, (46, .iload 4, 2, 0, 0, 0)) := rfl
theorem p179_48 : vm_P 179 48 = some (vm_m179, (48, .if_icmp .ge 21, 3, 0, 0, 0)) := rfl
theorem p179_51 : vm_P 179 51 = some (vm_m179, (51, .iload 6, 2, 0, 0, 0)) := rfl
theorem p179_53 : vm_P 179 53 = some (vm_m179, (53, .istore 4, 2, 0, 0, 0)) := rfl
theorem p179_55 : vm_P 179 55 = some (vm_m179, (55, .aload_n 0, 1, 0, 0, 0)) := rfl
theorem p179_56 : vm_P 179 56 = some (vm_m179, (56, .getfield 34, 3, 10, 14, 0)) := rfl
theorem p179_59 : vm_P 179 59 = some (vm_m179, (59, .iconst 0, 1, 0, 0, 0)) := rfl
theorem p179_60 : vm_P 179 60 = some (vm_m179, (60, .aload_n 0, 1, 0, 0, 0)) := rfl
theorem p179_61 : vm_P 179 61 = some (vm_m179, (61, .getfield 37, 3, 10, 15, 0)) := rfl
theorem p179_64 : vm_P 179 64 = some (vm_m179, (64, .iconst 0, 1, 0, 0, 0)) := rfl
theorem p179_65 : vm_P 179 65 = some (vm_m179, (65, .iload_n 2, 1, 0, 0, 0)) := rfl
theorem p179_66 : vm_P 179 66 = some (vm_m179, (66, .invokestatic 137, 3, 1, 130, 5)) := rfl
theorem p179_69 : vm_P 179 69 = some (vm_m179, (69, .iinc 5 1, 3, 0, 0, 0)) := rfl
theorem p179_72 : vm_P 179 72 = some (vm_m179, (72, .goto (-44), 3, 0, 0, 0)) := rfl
theorem p179_75 : vm_P 179 75 = some (vm_m179, (75, .iload 4, 2, 0, 0, 0)) := rfl
theorem p179_77 : vm_P 179 77 = some (vm_m179, (77, .ireturn, 1, 0, 0, 0)) := rfl
theorem p180_0 : vm_P 180 0 = some (vm_m180, (0, .aload_n 0, 1, 0, 0, 0)) := rfl
theorem p180_1 : vm_P 180 1 = some (vm_m180, (1, .iload_n 1, 1, 0, 0, 0)) := rfl
theorem p180_2 : vm_P 180 2 = some (vm_m180, (2, .invokevirtual 159, 3, 0, 150, 1001)) := rfl
theorem p180_5 : vm_P 180 5 = some (vm_m180, (5, .ifCond .eq 20, 3, 0, 0, 0)) := rfl
theorem p180_8 : vm_P 180 8 = some (vm_m180, (8, .iload_n 2, 1, 0, 0, 0)) := rfl
theorem p180_9 : vm_P 180 9 = some (vm_m180, (9, .i2l, 1, 0, 0, 0)) := rfl
theorem p180_10 : vm_P 180 10 = some (vm_m180, (10, .lconst 1, 1, 0, 0, 0)) := rfl
theorem p180_11 : vm_P 180 11 = some (vm_m180, (11, .ldc2_w 213, 3, 10, 0, 0)) := rfl
theorem p180_14 : vm_P 180 14 = some (vm_m180, (14, .invokestatic 86, 3, 1, 128, 3)) := rfl
theorem p180_17 : vm_P 180 17 = some (vm_m180, (17, .ifCond .eq 8, 3, 0, 0, 0)) := rfl
theorem p180_20 : vm_P 180 20 = some (vm_m180, (20, .iload_n 3, 1, 0, 0, 0)) := rfl
theorem p180_21 : vm_P 180 21 = some (vm_m180, (21, .iconst (-1), 1, 0, 0, 0)) := rfl
theorem p180_22 : vm_P 180 22 = some (vm_m180, (22, .if_icmp .ge 5, 3, 0, 0, 0)) := rfl
theorem p180_25 : vm_P 180 25 = some (vm_m180, (25, .iconst (-1), 1, 0, 0, 0)) := rfl
theorem p180_26 : vm_P 180 26 = some (vm_m180, (26, .ireturn, 1, 0, 0, 0)) := rfl
theorem p180_27 : vm_P 180 27 = some (vm_m180, (27, .aload_n 0, 1, 0, 0, 0)) := rfl
theorem p180_28 : vm_P 180 28 = some (vm_m180, (28, .iload_n 1, 1, 0, 0, 0)) := rfl
theorem p180_29 : vm_P 180 29 = some (vm_m180, (29, .invokevirtual 199, 3, 0, 159, 1001)) := rfl
theorem p180_32 : vm_P 180 32 = some (vm_m180, (32, .ifCond .ne 6, 3, 0, 0, 0)) := rfl
theorem p180_35 : vm_P 180 35 = some (vm_m180, (35, .bipush (-2), 2, 0, 0, 0)) := rfl
theorem p180_37 : vm_P 180 37 = some (vm_m180, (37, .ireturn, 1, 0, 0, 0)) := rfl
theorem p180_38 : vm_P 180 38 = some (vm_m180, (38, .aload_n 0, 1, 0, 0, 0)) := rfl
theorem p180_39 : vm_P 180 39 = some (vm_m180, (39, .iload_n 1, 1, 0, 0, 0)) := rfl
theorem p180_40 : vm_P 180 40 = some (vm_m180, (40, .invokevirtual 215, 3, 0, 176, 1001)) := rfl
theorem p180_43 : vm_P 180 43 = some (vm_m180, (43, .aload_n 0, 1, 0, 0, 0)) := rfl
theorem p180_44 : vm_P 180 44 = some (vm_m180, (44, .iload_n 1, 1, 0, 0, 0)) := rfl
theorem p180_45 : vm_P 180 45 = some (vm_m180, (45, .iload_n 2, 1, 0, 0, 0)) := rfl
theorem p180_46 : vm_P 180 46 = some (vm_m180, (46, .invokevirtual 219, 3, 0, 179, 1002)) := rfl
theorem p180_49 : vm_P 180 49 = some (vm_m180, (49, .istore 4, 2, 0, 0, 0)) := rfl
theorem p180_51 : vm_P 180 51 = some (vm_m180, (51, .iload 4, 2, 0, 0, 0)) := rfl
theorem p180_53 : vm_P 180 53 = some (vm_m180, (53, .ldc 209, 2, 0, 0, 0)) := rfl
theorem p180_55 : vm_P 180 55 = some (vm_m180, (55, .if_icmp .eq 8, 3, 0, 0, 0)) := rfl
theorem p180_58 : vm_P 180 58 = some (vm_m180, (58, .iload_n 3, 1, 0, 0, 0)) := rfl
theorem p180_59 : vm_P 180 59 = some (vm_m180, (59, .iconst (-1), 1, 0, 0, 0)) := rfl
theorem p180_60 : vm_P 180 60 = some (vm_m180, (60, .if_icmp .ne 18, 3, 0, 0, 0)) := rfl
theorem p180_63 : vm_P 180 63 = some (vm_m180, (63, .iload 4, 2, 0, 0, 0)) := rfl
theorem p180_65 : vm_P 180 65 = some (vm_m180, (65, .ldc 209, 2, 0, 0, 0)) := rfl
theorem p180_67 : vm_P 180 67 = some (vm_m180, (67, .if_icmp .ne 8, 3, 0, 0, 0)) := rfl
theorem p180_70 : vm_P 180 70 = some (vm_m180, (70, .bipush (-4), 2, 0, 0, 0)) := rfl
theorem p180_72 : vm_P 180 72 = some (vm_m180, (72, .goto 5, 3, 0, 0, 0)) := rfl
theorem p180_75 : vm_P 180 75 = some (vm_m180, (75, .iload 4, 2, 0, 0, 0)) := rfl
theorem p180_77 : vm_P 180 77 = some (vm_m180, (77, .ireturn, 1, 0, 0, 0)) := rfl
theorem p180_78 : vm_P 180 78 = some (vm_m180, (78, .iload_n 3, 1, 0, 0, 0)) := rfl
theorem p180_79 : vm_P 180 79 = some (vm_m180, (79, .iload_n 2, 1, 0, 0, 0)) := rfl
theorem p180_80 : vm_P 180 80 = some (vm_m180, (80, .if_icmp .ge 22, 3, 0, 0, 0)) := rfl
theorem p180_83 : vm_P 180 83 = some (vm_m180, (83, .aload_n 0, 1, 0, 0, 0)) := rfl
theorem p180_84 : vm_P 180 84 = some (vm_m180, (84, .getfield 37, 3, 10, 15, 0)) := rfl
theorem p180_87 : vm_P 180 87 = some (vm_m180, (87, .iload_n 3, 1, 0, 0, 0)) := rfl
theorem p180_88 : vm_P 180 88 = some (vm_m180, (88, .iaload, 1, 0, 0, 0)) := rfl
theorem p180_89 : vm_P 180 89 = some (vm_m180, (89, .iconst 4, 1, 0, 0, 0)) := rfl
theorem p180_90 : vm_P 180 90 = some (vm_m180, (90, .if_icmp .ge 12, 3, 0, 0, 0)) := rfl
theorem p180_93 : vm_P 180 93 = some (vm_m180, (93, .aload_n 0, 1, 0, 0, 0)) := rfl
theorem p180_94 : vm_P 180 94 = some (vm_m180, (94, .getfield 37, 3, 10, 15, 0)) := rfl
theorem p180_97 : vm_P 180 97 = some (vm_m180, (97, .iload_n 3, 1, 0, 0, 0)) := rfl
theorem p180_98 : vm_P 180 98 = some (vm_m180, (98, .iaload, 1, 0, 0, 0)) := rfl
theorem p180_99 : vm_P 180 99 = some (vm_m180, (99, .goto 5, 3, 0, 0, 0)) := rfl
theorem p180_102 : vm_P 180 102 = some (vm_m180, (102, .bipush (-4), 2, 0, 0, 0)) := rfl
theorem p180_104 : vm_P 180 104 = some (vm_m180, (104, .ireturn, 1, 0, 0, 0)) := rfl
theorem p181_0 : vm_P 181 0 = some (vm_m181, (0, .aload_n 0, 1, 0, 0, 0)) := rfl
theorem p181_1 : vm_P 181 1 = some (vm_m181, (1, .getfield 16, 3, 10, 2, 0)) := rfl
theorem p181_4 : vm_P 181 4 = some (vm_m181, (4, .iconst 0, 1, 0, 0, 0)) := rfl
theorem p181_5 : vm_P 181 5 = some (vm_m181, (5, .iload_n 1, 1, 0, 0, 0)) := rfl
theorem p181_6 : vm_P 181 6 = some (vm_m181, (6, .iadd, 1, 0, 0, 0)) := rfl
theorem p181_7 : vm_P 181 7 = some (vm_m181, (7, .iaload, 1, 0, 0, 0)) := rfl
theorem p181_8 : vm_P 181 8 = some (vm_m181, (8, .istore 4, 2, 0, 0, 0)) := rfl
theorem p181_10 : vm_P 181 10 = some (vm_m181, (10, .aload_n 0, 1, 0, 0, 0)) := rfl
theorem p181_11 : vm_P 181 11 = some (vm_m181, (11, .getfield 16, 3, 10, 2, 0)) := rfl
theorem p181_14 : vm_P 181 14 = some (vm_m181, (14, .iconst 4, 1, 0, 0, 0)) := rfl
theorem p181_15 : vm_P 181 15 = some (vm_m181, (15, .iload_n 1, 1, 0, 0, 0)) := rfl
theorem p181_16 : vm_P 181 16 = some (vm_m181, (16, .iadd, 1, 0, 0, 0)) := rfl
theorem p181_17 : vm_P 181 17 = some (vm_m181, (17, .iaload, 1, 0, 0, 0)) := rfl
theorem p181_18 : vm_P 181 18 = some (vm_m181, (18, .istore 5, 2, 0, 0, 0)) := rfl
theorem p181_20 : vm_P 181 20 = some (vm_m181, (20, .aload_n 0, 1, 0, 0, 0)) := rfl
theorem p181_21 : vm_P 181 21 = some (vm_m181, (21, .iload_n 1, 1, 0, 0, 0)) := rfl
theorem p181_22 : vm_P 181 22 = some (vm_m181, (22, .invokevirtual 215, 3, 0, 176, 1001)) := rfl
theorem p181_25 : vm_P 181 25 = some (vm_m181, (25, .iconst 0, 1, 0, 0, 0)) := rfl
theorem p181_26 : vm_P 181 26 = some (vm_m181, (26, .istore 6, 2, 0, 0, 0)) := rfl
theorem p181_28 : vm_P 181 28 = some (vm_m181, (28, .iload 6, 2, 0, 0, 0)) := rfl
theorem p181_30 : vm_P 181 30 = some (vm_m181, (30, .iload_n 3, 1, 0, 0, 0)) := rfl
theorem p181_31 : vm_P 181 31 = some (vm_m181, (31, .if_icmp .ge 78, 3, 0, 0, 0)) := rfl
theorem p181_34 : vm_P 181 34 = some (vm_m181, (34, .aload_n 0, 1, 0, 0, 0)) := rfl
theorem p181_35 : vm_P 181 35 = some (vm_m181, (35, .getfield 40, 3, 10, 16, 0)) := rfl
theorem p181_38 : vm_P 181 38 = some (vm_m181, (38, .aload_n 0, 1, 0, 0, 0)) := rfl
theorem p181_39 : vm_P 181 39 = some (vm_m181, (39, .getfield 34, 3, 10, 14, 0)) := rfl
theorem p181_42 : vm_P 181 42 = some (vm_m181, (42, .iload 6, 2, 0, 0, 0)) := rfl
theorem p181_44 : vm_P 181 44 = some (vm_m181, (44, .iaload, 1, 0, 0, 0)) := rfl
theorem p181_45 : vm_P 181 45 = some (vm_m181, (45, .iaload, 1, 0, 0, 0)) := rfl
theorem p181_46 : vm_P 181 46 = some (vm_m181, (46, .ifCond .ne 5, 3, 0, 0, 0)) := rfl
theorem p181_49 : vm_P 181 49 = some (vm_m181, (49, .iconst 0, 1, 0, 0, 0)) := rfl
theorem p181_50 : vm_P 181 50 = some (vm_m181, (50, .ireturn, 1, 0, 0, 0)) := rfl
theorem p181_51 : vm_P 181 51 = some (vm_m181, (51, .aload_n 0, 1, 0, 0, 0)) := rfl
theorem p181_52 : vm_P 181 52 = some (vm_m181, (52, .getfield 40, 3, 10, 16, 0)) := rfl
theorem p181_55 : vm_P 181 55 = some (vm_m181, (55, .aload_n 0, 1, 0, 0, 0)) := rfl
theorem p181_56 : vm_P 181 56 = some (vm_m181, (56, .getfield 34, 3, 10, 14, 0)) := rfl
theorem p181_59 : vm_P 181 59 = some (vm_m181, (59, .iload 6, 2, 0, 0, 0)) := rfl
theorem p181_61 : vm_P 181 61 = some (vm_m181, (61, .iaload, 1, 0, 0, 0)) := rfl
theorem p181_62 : vm_P 181 62 = some (vm_m181, (62, .dup2, 1, 0, 0, 0)) := rfl
theorem p181_63 : vm_P 181 63 = some (vm_m181, (63, .iaload, 1, 0, 0, 0)) := rfl
theorem p181_64 : vm_P 181 64 = some (vm_m181, (64, .iconst 1, 1, 0, 0, 0)) := rfl
theorem p181_65 : vm_P 181 65 = some (vm_m181, (65, .isub, 1, 0, 0, 0)) := rfl
theorem p181_66 : vm_P 181 66 = some (vm_m181, (66, .iastore, 1, 0, 0, 0)) := rfl
theorem p181_67 : vm_P 181 67 = some (vm_m181, (67, .iload 4, 2, 0, 0, 0)) := rfl
theorem p181_69 : vm_P 181 69 = some (vm_m181, (69, .aload_n 0, 1, 0, 0, 0)) := rfl
theorem p181_70 : vm_P 181 70 = some (vm_m181, (70, .getfield 34, 3, 10, 14, 0)) := rfl
theorem p181_73 : vm_P 181 73 = some (vm_m181, (73, .iload 6, 2, 0, 0, 0)) := rfl
theorem p181_75 : vm_P 181 75 = some (vm_m181, (75, .iaload, 1, 0, 0, 0)) := rfl
theorem p181_76 : vm_P 181 76 = some (vm_m181, (76, .invokestatic 162, 3, 1, 157, 2)) := rfl
theorem p181_79 : vm_P 181 79 = some (vm_m181, (79, .istore 4, 2, 0, 0, 0)) := rfl
theorem p181_81 : vm_P 181 81 = some (vm_m181, (81, .iload 4, 2, 0, 0, 0)) := rfl
theorem p181_83 : vm_P 181 83 = some (vm_m181, (83, .ifCond .ne 5, 3, 0, 0, 0)) := rfl
theorem p181_86 : vm_P 181 86 = some (vm_m181, (86, .iconst 0, 1, 0, 0, 0)) := rfl
theorem p181_87 : vm_P 181 87 = some (vm_m181, (87, .ireturn, 1, 0, 0, 0)) := rfl
theorem p181_88 : vm_P 181 88 = some (vm_m181, (88, .aload_n 0, 1, 0, 0, 0)) := rfl
theorem p181_89 : vm_P 181 89 = some (vm_m181, (89, .iload 5, 2, 0, 0, 0)) := rfl
theorem p181_91 : vm_P 181 91 = some (vm_m181, (91, .aload_n 0, 1, 0, 0, 0)) := rfl
theorem p181_92 : vm_P 181 92 = some (vm_m181, (92, .getfield 34, 3, 10, 14, 0)) := rfl
theorem p181_95 : vm_P 181 95 = some (vm_m181, (95, .iload 6, 2, 0, 0, 0)) := rfl
theorem p181_97 : vm_P 181 97 = some (vm_m181, (97, .iaload, 1, 0, 0, 0)) := rfl
theorem p181_98 : vm_P 181 98 = some (vm_m181, (98, .invokevirtual 222, 3, 0, 152, 1002)) := rfl
theorem p181_101 : vm_P 181 101 = some (vm_m181, (101, .istore 5, 2, 0, 0, 0)) := rfl
theorem p181_103 : vm_P 181 103 = some (vm_m181, (103, .iinc 6 1, 3, 0, 0, 0)) := rfl
theorem p181_106 : vm_P 181 106 = some (vm_m181, (106, .goto (-78), 3, 0, 0, 0)) := rfl
theorem p181_109 : vm_P 181 109 = some (vm_m181, (109, .iload 5, 2, 0, 0, 0)) := rfl
theorem p181_111 : vm_P 181 111 = some (vm_m181, (111, .iload_n 2, 1, 0, 0, 0)) := rfl
theorem p181_112 : vm_P 181 112 = some (vm_m181, (112, .if_icmp .ne 7, 3, 0, 0, 0)) := rfl
theorem p181_115 : vm_P 181 115 = some (vm_m181, (115, .iconst 1, 1, 0, 0, 0)) := rfl
theorem p181_116 : vm_P 181 116 = some (vm_m181, (116, .goto 4, 3, 0, 0, 0)) := rfl
theorem p181_119 : vm_P 181 119 = some (vm_m181, (119, .iconst 0, 1, 0, 0, 0)) := rfl
theorem p181_120 : vm_P 181 120 = some (vm_m181, (120, .ireturn, 1, 0, 0, 0)) := rfl
theorem p182_0 : vm_P 182 0 = some (vm_m182, (0, .iconst 1, 1, 0, 0, 0)) := rfl
theorem p182_1 : vm_P 182 1 = some (vm_m182, (1, .istore_n 3, 1, 0, 0, 0)) := rfl
theorem p182_2 : vm_P 182 2 = some (vm_m182, (2, .iconst 0, 1, 0, 0, 0)) := rfl
theorem p182_3 : vm_P 182 3 = some (vm_m182, (3, .istore 4, 2, 0, 0, 0)) := rfl
theorem p182_5 : vm_P 182 5 = some (vm_m182, (5, .iload 4, 2, 0, 0, 0)) := rfl
theorem p182_7 : vm_P 182 7 = some (vm_m182, (7, .bipush 7, 2, 0, 0, 0)) := rfl
theorem p182_9 : vm_P 182 9 = some (vm_m182, (9, .if_icmp .ge 80, 3, 0, 0, 0)) := rfl
theorem p182_12 : vm_P 182 12 = some (vm_m182, (12, .iconst 0, 1, 0, 0, 0)) := rfl
theorem p182_13 : vm_P 182 13 = some (vm_m182, (13, .istore 5, 2, 0, 0, 0)) := rfl
theorem p182_15 : vm_P 182 15 = some (vm_m182, (15, .iload 5, 2, 0, 0, 0)) := rfl
theorem p182_17 : vm_P 182 17 = some (vm_m182, (17, .iload_n 3, 1, 0, 0, 0)) := rfl
theorem p182_18 : vm_P 182 18 = some (vm_m182, (18, .if_icmp .ge 61, 3, 0, 0, 0)) := rfl
theorem p182_21 : vm_P 182 21 = some (vm_m182, (21, .iload 5, 2, 0, 0, 0)) := rfl
theorem p182_23 : vm_P 182 23 = some (vm_m182, (23, .istore 6, 2, 0, 0, 0)) := rfl
theorem p182_25 : vm_P 182 25 = some (vm_m182, (25, .iload 4, 2, 0, 0, 0)) := rfl
theorem p182_27 : vm_P 182 27 = some (vm_m182, (27, .iconst 1, 1, 0, 0, 0)) := rfl
theorem p182_28 : vm_P 182 28 = some (vm_m182, (28, .isub, 1, 0, 0, 0)) := rfl
theorem p182_29 : vm_P 182 29 = some (vm_m182, (29, .istore 7, 2, 0, 0, 0)) := rfl
theorem p182_31 : vm_P 182 31 = some (vm_m182, (31, .iload 7, 2, 0, 0, 0)) := rfl
theorem p182_33 : vm_P 182 33 = some (vm_m182, (33, .ifCond .lt 26, 3, 0, 0, 0)) := rfl
theorem p182_36 : vm_P 182 36 = some (vm_m182, (36, .aload_n 0, 1, 0, 0, 0)) := rfl
theorem p182_37 : vm_P 182 37 = some (vm_m182, (37, .getfield 34, 3, 10, 14, 0)) := rfl
theorem p182_40 : vm_P 182 40 = some (vm_m182, (40, .iload 7, 2, 0, 0, 0)) := rfl
theorem p182_42 : vm_P 182 42 = some (vm_m182, (42, .iload 6, 2, 0, 0, 0)) := rfl
theorem p182_44 : vm_P 182 44 = some (vm_m182, (44, .iconst 4, 1, 0, 0, 0)) := rfl
theorem p182_45 : vm_P 182 45 = some (vm_m182, (45, .irem, 1, 0, 0, 0)) := rfl
theorem p182_46 : vm_P 182 46 = some (vm_m182, (46, .iastore, 1, 0, 0, 0)) := rfl
theorem p182_47 : vm_P 182 47 = some (vm_m182, (47, .iload 6, 2, 0, 0, 0)) := rfl
theorem p182_49 : vm_P 182 49 = some (vm_m182, (49, .iconst 4, 1, 0, 0, 0)) := rfl
theorem p182_50 : vm_P 182 50 = some (vm_m182, (50, .idiv, 1, 0, 0, 0)) := rfl
theorem p182_51 : vm_P 182 51 = some (vm_m182, (51, .istore 6, 2, 0, 0, 0)) := rfl
theorem p182_53 : vm_P 182 53 = some (vm_m182, (53, .iinc 7 (-1), 3, 0, 0, 0)) := rfl
theorem p182_56 : vm_P 182 56 = some (vm_m182, (56, .goto (-25), 3, 0, 0, 0)) := rfl
theorem p182_59 : vm_P 182 59 = some (vm_m182, (59, .aload_n 0, 1, 0, 0, 0)) := rfl
theorem p182_60 : vm_P 182 60 = some (vm_m182, (60, .iload_n 1, 1, 0, 0, 0)) := rfl
theorem p182_61 : vm_P 182 61 = some (vm_m182, (61, .iload_n 2, 1, 0, 0, 0)) := rfl
theorem p182_62 : vm_P 182 62 = some (vm_m182, (62, .iload 4, 2, 0, 0, 0)) := rfl
theorem p182_64 : vm_P 182 64 = some (vm_m182, (64, .invokevirtual 225, 3, 0, 181, 1003)) := rfl
theorem p182_67 : vm_P 182 67 = some (vm_m182, (67, .ifCond .eq 6, 3, 0, 0, 0)) := rfl
theorem p182_70 : vm_P 182 70 = some (vm_m182, (70, .iload 4, 2, 0, 0, 0)) := rfl
theorem p182_72 : vm_P 182 72 = some (vm_m182, (72, .ireturn, 1, 0, 0, 0)) := rfl
theorem p182_73 : vm_P 182 73 = some (vm_m182, (73, .iinc 5 1, 3, 0, 0, 0)) := rfl
theorem p182_76 : vm_P 182 76 = some (vm_m182, (76, .goto (-61), 3, 0, 0, 0)) := rfl
theorem p182_79 : vm_P 182 79 = some (vm_m182, (79, .iload_n 3, 1, 0, 0, 0)) := rfl
theorem p182_80 : vm_P 182 80 = some (vm_m182, (80, .iconst 4, 1, 0, 0, 0)) := rfl
theorem p182_81 : vm_P 182 81 = some (vm_m182, (81, .imul, 1, 0, 0, 0)) := rfl
theorem p182_82 : vm_P 182 82 = some (vm_m182, (82, .istore_n 3, 1, 0, 0, 0)) := rfl
theorem p182_83 : vm_P 182 83 = some (vm_m182, (83, .iinc 4 1, 3, 0, 0, 0)) := rfl
theorem p182_86 : vm_P 182 86 = some (vm_m182, (86, .goto (-81), 3, 0, 0, 0)) := rfl
theorem p182_89 : vm_P 182 89 = some (vm_m182, (89, .bipush (-4), 2, 0, 0, 0)) := rfl
theorem p182_91 : vm_P 182 91 = some (vm_m182, (91, .ireturn, 1, 0, 0, 0)) := rfl
theorem p183_0 : vm_P 183 0 = some (vm_m183, (0, .aload_n 0, 1, 0, 0, 0)) := rfl
theorem p183_1 : vm_P 183 1 = some (vm_m183, (1, .iload_n 1, 1, 0, 0, 0)) := rfl
theorem p183_2 : vm_P 183 2 = some (vm_m183, (2, .invokevirtual 159, 3, 0, 150, 1001)) := rfl
theorem p183_5 : vm_P 183 5 = some (vm_m183, (5, .ifCond .eq 16, 3, 0, 0, 0)) := rfl
theorem p183_8 : vm_P 183 8 = some (vm_m183, (8, .aload_n 0, 1, 0, 0, 0)) := rfl
theorem p183_9 : vm_P 183 9 = some (vm_m183, (9, .iload_n 2, 1, 0, 0, 0)) := rfl
theorem p183_10 : vm_P 183 10 = some (vm_m183, (10, .invokevirtual 147, 3, 0, 148, 1001)) := rfl
theorem p183_13 : vm_P 183 13 = some (vm_m183, (13, .ifCond .eq 8, 3, 0, 0, 0)) := rfl
theorem p183_16 : vm_P 183 16 = some (vm_m183, (16, .iload_n 3, 1, 0, 0, 0)) := rfl
theorem p183_17 : vm_P 183 17 = some (vm_m183, (17, .iconst (-1), 1, 0, 0, 0)) := rfl
theorem p183_18 : vm_P 183 18 = some (vm_m183, (18, .if_icmp .ge 5, 3, 0, 0, 0)) := rfl
theorem p183_21 : vm_P 183 21 = some (vm_m183, (21, .iconst (-1), 1, 0, 0, 0)) := rfl
theorem p183_22 : vm_P 183 22 = some (vm_m183, (22, .ireturn, 1, 0, 0, 0)) := rfl
theorem p183_23 : vm_P 183 23 = some (vm_m183, (23, .aload_n 0, 1, 0, 0, 0)) := rfl
theorem p183_24 : vm_P 183 24 = some (vm_m183, (24, .iload_n 1, 1, 0, 0, 0)) := rfl
theorem p183_25 : vm_P 183 25 = some (vm_m183, (25, .invokevirtual 199, 3, 0, 159, 1001)) := rfl
theorem p183_28 : vm_P 183 28 = some (vm_m183, (28, .ifCond .ne 6, 3, 0, 0, 0)) := rfl
theorem p183_31 : vm_P 183 31 = some (vm_m183, (31, .bipush (-2), 2, 0, 0, 0)) := rfl
theorem p183_33 : vm_P 183 33 = some (vm_m183, (33, .ireturn, 1, 0, 0, 0)) := rfl
theorem p183_34 : vm_P 183 34 = some (vm_m183, (34, .aload_n 0, 1, 0, 0, 0)) := rfl
theorem p183_35 : vm_P 183 35 = some (vm_m183, (35, .iload_n 1, 1, 0, 0, 0)) := rfl
theorem p183_36 : vm_P 183 36 = some (vm_m183, (36, .iload_n 2, 1, 0, 0, 0)) := rfl
theorem p183_37 : vm_P 183 37 = some (vm_m183, (37, .invokevirtual 228, 3, 0, 182, 1002)) := rfl
theorem p183_40 : vm_P 183 40 = some (vm_m183, (40, .istore 4, 2, 0, 0, 0)) := rfl
theorem p183_42 : vm_P 183 42 = some (vm_m183, (42, .iload 4, 2, 0, 0, 0)) := rfl
theorem p183_44 : vm_P 183 44 = some (vm_m183, (44, .bipush (-4), 2, 0, 0, 0)) := rfl
theorem p183_46 : vm_P 183 46 = some (vm_m183, (46, .if_icmp .eq 8, 3, 0, 0, 0)) := rfl
theorem p183_49 : vm_P 183 49 = some (vm_m183, (49, .iload_n 3, 1, 0, 0, 0)) := rfl
theorem p183_50 : vm_P 183 50 = some (vm_m183, (50, .iconst (-1), 1, 0, 0, 0)) := rfl
theorem p183_51 : vm_P 183 51 = some (vm_m183, (51, .if_icmp .ne 8, 3, 0, 0, 0)) := rfl
theorem p183_54 : vm_P 183 54 = some (vm_m183, (54, .iload 4, 2, 0, 0, 0)) := rfl
theorem p183_56 : vm_P 183 56 = some (vm_m183, (56, .goto 20, 3, 0, 0, 0)) := rfl
theorem p183_59 : vm_P 183 59 = some (vm_m183, (59, .iload_n 3, 1, 0, 0, 0)) := rfl
theorem p183_60 : vm_P 183 60 = some (vm_m183, (60, .iload 4, 2, 0, 0, 0)) := rfl
theorem p183_62 : vm_P 183 62 = some (vm_m183, (62, .if_icmp .ge 12, 3, 0, 0, 0)) := rfl
theorem p183_65 : vm_P 183 65 = some (vm_m183, (65, .aload_n 0, 1, 0, 0, 0)) := rfl
theorem p183_66 : vm_P 183 66 = some (vm_m183, (66, .getfield 34, 3, 10, 14, 0)) := rfl
theorem p183_69 : vm_P 183 69 = some (vm_m183, (69, .iload_n 3, 1, 0, 0, 0)) := rfl
theorem p183_70 : vm_P 183 70 = some (vm_m183, (70, .iaload, 1, 0, 0, 0)) := rfl
theorem p183_71 : vm_P 183 71 = some (vm_m183, (71, .goto 5, 3, 0, 0, 0)) := rfl
theorem p183_74 : vm_P 183 74 = some (vm_m183, (74, .bipush (-4), 2, 0, 0, 0)) := rfl
theorem p183_76 : vm_P 183 76 = some (vm_m183, (76, .ireturn, 1, 0, 0, 0)) := rfl
theorem p184_0 : vm_P 184 0 = some (vm_m184, (0, .iconst 0, 1, 0, 0, 0)) := rfl
theorem p184_1 : vm_P 184 1 = some (vm_m184, (1, .istore_n 3, 1, 0, 0, 0)) := rfl
theorem p184_2 : vm_P 184 2 = some (vm_m184, (2, .iload_n 3, 1, 0, 0, 0)) := rfl
theorem p184_3 : vm_P 184 3 = some (vm_m184, (3, .bipush 81, 2, 0, 0, 0)) := rfl
theorem p184_5 : vm_P 184 5 = some (vm_m184, (5, .if_icmp .ge 17, 3, 0, 0, 0)) := rfl
theorem p184_8 : vm_P 184 8 = some (vm_m184, (8, .aload_n 0, 1, 0, 0, 0)) := rfl
theorem p184_9 : vm_P 184 9 = some (vm_m184, (9, .getfield 49, 3, 10, 19, 0)) := rfl
theorem p184_12 : vm_P 184 12 = some (vm_m184, (12, .iload_n 3, 1, 0, 0, 0)) := rfl
theorem p184_13 : vm_P 184 13 = some (vm_m184, (13, .bipush (-4), 2, 0, 0, 0)) := rfl
theorem p184_15 : vm_P 184 15 = some (vm_m184, (15, .iastore, 1, 0, 0, 0)) := rfl
theorem p184_16 : vm_P 184 16 = some (vm_m184, (16, .iinc 3 1, 3, 0, 0, 0)) := rfl
theorem p184_19 : vm_P 184 19 = some (vm_m184, (19, .goto (-17), 3, 0, 0, 0)) := rfl
theorem p184_22 : vm_P 184 22 = some (vm_m184, (22, .bipush 9, 2, 0, 0, 0)) := rfl
theorem p184_24 : vm_P 184 24 = some (vm_m184, (24, .iload_n 1, 1, 0, 0, 0)) := rfl
theorem p184_25 : vm_P 184 25 = some (vm_m184, (25, .imul, 1, 0, 0, 0)) := rfl
theorem p184_26 : vm_P 184 26 = some (vm_m184, (26, .iload_n 2, 1, 0, 0, 0)) := rfl
theorem p184_27 : vm_P 184 27 = some (vm_m184, (27, .iadd, 1, 0, 0, 0)) := rfl
theorem p184_28 : vm_P 184 28 = some (vm_m184, (28, .istore_n 3, 1, 0, 0, 0)) := rfl
theorem p184_29 : vm_P 184 29 = some (vm_m184, (29, .iconst 1, 1, 0, 0, 0)) := rfl
theorem p184_30 : vm_P 184 30 = some (vm_m184, (30, .istore 4, 2, 0, 0, 0)) := rfl
theorem p184_32 : vm_P 184 32 = some (vm_m184, (32, .aload_n 0, 1, 0, 0, 0)) := rfl
theorem p184_33 : vm_P 184 33 = some (vm_m184, (33, .getfield 43, 3, 10, 17, 0)) := rfl
theorem p184_36 : vm_P 184 36 = some (vm_m184, (36, .iconst 0, 1, 0, 0, 0)) := rfl
theorem p184_37 : vm_P 184 37 = some (vm_m184, (37, .iload_n 3, 1, 0, 0, 0)) := rfl
theorem p184_38 : vm_P 184 38 = some (vm_m184, (38, .iastore, 1, 0, 0, 0)) := rfl
theorem p184_39 : vm_P 184 39 = some (vm_m184, (39, .aload_n 0, 1, 0, 0, 0)) := rfl
theorem p184_40 : vm_P 184 40 = some (vm_m184, (40, .getfield 49, 3, 10, 19, 0)) := rfl
theorem p184_43 : vm_P 184 43 = some (vm_m184, (43, .iload_n 3, 1, 0, 0, 0)) := rfl
theorem p184_44 : vm_P 184 44 = some (vm_m184, (44, .iconst (-1), 1, 0, 0, 0)) := rfl
theorem p184_45 : vm_P 184 45 = some (vm_m184, (45, .iastore, 1, 0, 0, 0)) := rfl
theorem p184_46 : vm_P 184 46 = some (vm_m184, (46, .iconst 0, 1, 0, 0, 0)) := rfl
theorem p184_47 : vm_P 184 47 = some (vm_m184, (47, .istore 5, 2, 0, 0, 0)) := rfl
theorem p184_49 : vm_P 184 49 = some (vm_m184, (49, .iload 5, 2, 0, 0, 0)) := rfl
theorem p184_51 : vm_P 184 51 = some (vm_m184, (51, .iload 4, 2, 0, 0, 0)) := rfl
theorem p184_53 : vm_P 184 53 = some (vm_m184, (53, .if_icmp .ge 123, 3, 0, 0, 0)) := rfl
theorem p184_56 : vm_P 184 56 = some (vm_m184, (56, .aload_n 0, 1, 0, 0, 0)) := rfl
theorem p184_57 : vm_P 184 57 = some (vm_m184, (57, .getfield 43, 3, 10, 17, 0)) := rfl
theorem p184_60 : vm_P 184 60 = some (vm_m184, (60, .iload 5, 2, 0, 0, 0)) := rfl
theorem p184_62 : vm_P 184 62 = some (vm_m184, (62, .iaload, 1, 0, 0, 0)) := rfl
theorem p184_63 : vm_P 184 63 = some (vm_m184, (63, .istore 6, 2, 0, 0, 0)) := rfl
theorem p184_65 : vm_P 184 65 = some (vm_m184, (65, .iload 6, 2, 0, 0, 0)) := rfl
theorem p184_67 : vm_P 184 67 = some (vm_m184, (67, .bipush 9, 2, 0, 0, 0)) := rfl
theorem p184_69 : vm_P 184 69 = some (vm_m184, (69, .idiv, 1, 0, 0, 0)) := rfl
theorem p184_70 : vm_P 184 70 = some (vm_m184, (70, .iload 6, 2, 0, 0, 0)) := rfl
theorem p184_72 : vm_P 184 72 = some (vm_m184, (72, .bipush 9, 2, 0, 0, 0)) := rfl
theorem p184_74 : vm_P 184 74 = some (vm_m184, (74, .irem, 1, 0, 0, 0)) := rfl
theorem p184_75 : vm_P 184 75 = some (vm_m184, (75, .if_icmp .ne 10, 3, 0, 0, 0)) := rfl
theorem p184_78 : vm_P 184 78 = some (vm_m184, (78, .aload_n 0, 1, 0, 0, 0)) := rfl
theorem p184_79 : vm_P 184 79 = some (vm_m184, (79, .iload 6, 2, 0, 0, 0)) := rfl
theorem p184_81 : vm_P 184 81 = some (vm_m184, (81, .invokevirtual 231, 3, 0, 185, 1001)) := rfl
theorem p184_84 : vm_P 184 84 = some (vm_m184, (84, .ireturn, 1, 0, 0, 0)) := rfl
theorem p184_85 : vm_P 184 85 = some (vm_m184, (85, .iconst 0, 1, 0, 0, 0)) := rfl
theorem p184_86 : vm_P 184 86 = some (vm_m184, (86, .istore 7, 2, 0, 0, 0)) := rfl
theorem p184_88 : vm_P 184 88 = some (vm_m184, (88, .iload 7, 2, 0, 0, 0)) := rfl
theorem p184_90 : vm_P 184 90 = some (vm_m184, (90, .iconst 4, 1, 0, 0, 0)) := rfl
theorem p184_91 : vm_P 184 91 = some (vm_m184, (91, .if_icmp .ge 79, 3, 0, 0, 0)) := rfl
theorem p184_94 : vm_P 184 94 = some (vm_m184, (94, .bipush 9, 2, 0, 0, 0)) := rfl
theorem p184_96 : vm_P 184 96 = some (vm_m184, (96, .aload_n 0, 1, 0, 0, 0)) := rfl
theorem p184_97 : vm_P 184 97 = some (vm_m184, (97, .iload 6, 2, 0, 0, 0)) := rfl
theorem p184_99 : vm_P 184 99 = some (vm_m184, (99, .bipush 9, 2, 0, 0, 0)) := rfl
theorem p184_101 : vm_P 184 101 = some (vm_m184, (101, .idiv, 1, 0, 0, 0)) := rfl
theorem p184_102 : vm_P 184 102 = some (vm_m184, (102, .iload 7, 2, 0, 0, 0)) := rfl
theorem p184_104 : vm_P 184 104 = some (vm_m184, (104, .invokevirtual 222, 3, 0, 152, 1002)) := rfl
theorem p184_107 : vm_P 184 107 = some (vm_m184, (107, .imul, 1, 0, 0, 0)) := rfl
theorem p184_108 : vm_P 184 108 = some (vm_m184, (108, .aload_n 0, 1, 0, 0, 0)) := rfl
theorem p184_109 : vm_P 184 109 = some (vm_m184, (109, .iload 6, 2, 0, 0, 0)) := rfl
theorem p184_111 : vm_P 184 111 = some (vm_m184, (111, .bipush 9, 2, 0, 0, 0)) := rfl
theorem p184_113 : vm_P 184 113 = some (vm_m184, (113, .irem, 1, 0, 0, 0)) := rfl
theorem p184_114 : vm_P 184 114 = some (vm_m184, (114, .iload 7, 2, 0, 0, 0)) := rfl
theorem p184_116 : vm_P 184 116 = some (vm_m184, (116, .invokevirtual 222, 3, 0, 152, 1002)) := rfl
theorem p184_119 : vm_P 184 119 = some (vm_m184, (119, .iadd, 1, 0, 0, 0)) := rfl
theorem p184_120 : vm_P 184 120 = some (vm_m184, (120, .istore 8, 2, 0, 0, 0)) := rfl
theorem p184_122 : vm_P 184 122 = some (vm_m184, (122, .aload_n 0, 1, 0, 0, 0)) := rfl
theorem p184_123 : vm_P 184 123 = some (vm_m184, (123, .getfield 49, 3, 10, 19, 0)) := rfl
theorem p184_126 : vm_P 184 126 = some (vm_m184, (126, .iload 8, 2, 0, 0, 0)) := rfl
theorem p184_128 : vm_P 184 128 = some (vm_m184, (128, .iaload, 1, 0, 0, 0)) := rfl
theorem p184_129 : vm_P 184 129 = some (vm_m184, (129, .bipush (-4), 2, 0, 0, 0)) := rfl
theorem p184_131 : vm_P 184 131 = some (vm_m184, (131, .if_icmp .ne 33, 3, 0, 0, 0)) := rfl
theorem p184_134 : vm_P 184 134 = some (vm_m184, (134, .aload_n 0, 1, 0, 0, 0)) := rfl
theorem p184_135 : vm_P 184 135 = some (vm_m184, (135, .getfield 49, 3, 10, 19, 0)) := rfl
theorem p184_138 : vm_P 184 138 = some (vm_m184, (138, .iload 8, 2, 0, 0, 0)) := rfl
theorem p184_140 : vm_P 184 140 = some (vm_m184, (140, .iload 6, 2, 0, 0, 0)) := rfl
theorem p184_142 : vm_P 184 142 = some (vm_m184, (142, .iastore, 1, 0, 0, 0)) := rfl
theorem p184_143 : vm_P 184 143 = some (vm_m184, (143, .aload_n 0, 1, 0, 0, 0)) := rfl
theorem p184_144 : vm_P 184 144 = some (vm_m184, (144, .getfield 46, 3, 10, 18, 0)) := rfl
theorem p184_147 : vm_P 184 147 = some (vm_m184, (147, .iload 8, 2, 0, 0, 0)) := rfl
theorem p184_149 : vm_P 184 149 = some (vm_m184, (149, .iload 7, 2, 0, 0, 0)) := rfl
theorem p184_151 : vm_P 184 151 = some (vm_m184, (151, .iastore, 1, 0, 0, 0)) := rfl
theorem p184_152 : vm_P 184 152 = some (vm_m184, (152, .aload_n 0, 1, 0, 0, 0)) := rfl
theorem p184_153 : vm_P 184 153 = some (vm_m184, (153, .getfield 43, 3, 10, 17, 0)) := rfl
theorem p184_156 : vm_P 184 156 = some (vm_m184, (156, .iload 4, 2, 0, 0, 0)) := rfl
theorem p184_158 : vm_P 184 158 = some (vm_m184, (158, .iload 8, 2, 0, 0, 0)) := rfl
theorem p184_160 : vm_P 184 160 = some (vm_m184, (160, .iastore, 1, 0, 0, 0)) := rfl
theorem p184_161 : vm_P 184 161 = some (vm_m184, (161, .iinc 4 1, 3, 0, 0, 0)) := rfl
theorem p184_164 : vm_P 184 164 = some (vm_m184, (164, .iinc 7 1, 3, 0, 0, 0)) := rfl
theorem p184_167 : vm_P 184 167 = some (vm_m184, (167, .goto (-79), 3, 0, 0, 0)) := rfl
theorem p184_170 : vm_P 184 170 = some (vm_m184, (170, .iinc 5 1, 3, 0, 0, 0)) := rfl
theorem p184_173 : vm_P 184 173 = some (vm_m184, (173, .goto (-124), 3, 0, 0, 0)) := rfl
theorem p184_176 : vm_P 184 176 = some (vm_m184, (176, .bipush (-4), 2, 0, 0, 0)) := rfl
theorem p184_178 : vm_P 184 178 = some (vm_m184, (178, .ireturn, 1, 0, 0, 0)) := rfl
theorem p185_0 : vm_P 185 0 = some (vm_m185, (0, .iconst 0, 1, 0, 0, 0)) := rfl
theorem p185_1 : vm_P 185 1 = some (vm_m185, (1, .istore_n 2, 1, 0, 0, 0)) := rfl
theorem p185_2 : vm_P 185 2 = some (vm_m185, (2, .iload_n 1, 1, 0, 0, 0)) := rfl
theorem p185_3 : vm_P 185 3 = some (vm_m185, (3, .istore_n 3, 1, 0, 0, 0)) := rfl
theorem p185_4 : vm_P 185 4 = some (vm_m185, (4, .aload_n 0, 1, 0, 0, 0)) := rfl
theorem p185_5 : vm_P 185 5 = some (vm_m185, (5, .getfield 49, 3, 10, 19, 0)) := rfl
theorem p185_8 : vm_P 185 8 = some (vm_m185, (8, .iload_n 3, 1, 0, 0, 0)) := rfl
theorem p185_9 : vm_P 185 9 = some (vm_m185, (9, .iaload, 1, 0, 0, 0)) := rfl
theorem p185_10 : vm_P 185 10 = some (vm_m185, (10, .iconst (-1), 1, 0, 0, 0)) := rfl
theorem p185_11 : vm_P 185 11 = some (vm_m185, (11, .if_icmp .eq 16, 3, 0, 0, 0)) := rfl
theorem p185_14 : vm_P 185 14 = some (vm_m185, (14, .iinc 2 1, 3, 0, 0, 0)) := rfl
theorem p185_17 : vm_P 185 17 = some (vm_m185, (17, .aload_n 0, 1, 0, 0, 0)) := rfl
theorem p185_18 : vm_P 185 18 = some (vm_m185, (18, .getfield 49, 3, 10, 19, 0)) := rfl
theorem p185_21 : vm_P 185 21 = some (vm_m185, (21, .iload_n 3, 1, 0, 0, 0)) := rfl
theorem p185_22 : vm_P 185 22 = some (vm_m185, (22, .iaload, 1, 0, 0, 0)) := rfl
theorem p185_23 : vm_P 185 23 = some (vm_m185, (23, .istore_n 3, 1, 0, 0, 0)) := rfl
theorem p185_24 : vm_P 185 24 = some (vm_m185, (24, .goto (-20), 3, 0, 0, 0)) := rfl
theorem p185_27 : vm_P 185 27 = some (vm_m185, (27, .iload_n 2, 1, 0, 0, 0)) := rfl
theorem p185_28 : vm_P 185 28 = some (vm_m185, (28, .iconst 1, 1, 0, 0, 0)) := rfl
theorem p185_29 : vm_P 185 29 = some (vm_m185, (29, .isub, 1, 0, 0, 0)) := rfl
theorem p185_30 : vm_P 185 30 = some (vm_m185, (30, .istore_n 3, 1, 0, 0, 0)) := rfl
theorem p185_31 : vm_P 185 31 = some (vm_m185, (31, .iload_n 1, 1, 0, 0, 0)) := rfl
theorem p185_32 : vm_P 185 32 = some (vm_m185, (32, .istore 4, 2, 0, 0, 0)) := rfl
theorem p185_34 : vm_P 185 34 = some (vm_m185, (34, .aload_n 0, 1, 0, 0, 0)) := rfl
theorem p185_35 : vm_P 185 35 = some (vm_m185, (35, .getfield 49, 3, 10, 19, 0)) := rfl
theorem p185_38 : vm_P 185 38 = some (vm_m185, (38, .iload 4, 2, 0, 0, 0)) := rfl
theorem p185_40 : vm_P 185 40 = some (vm_m185, (40, .iaload, 1, 0, 0, 0)) := rfl
theorem p185_41 : vm_P 185 41 = some (vm_m185, (41, .iconst (-1), 1, 0, 0, 0)) := rfl
theorem p185_42 : vm_P 185 42 = some (vm_m185, (42, .if_icmp .eq 31, 3, 0, 0, 0)) := rfl
theorem p185_45 : vm_P 185 45 = some (vm_m185, (45, .aload_n 0, 1, 0, 0, 0)) := rfl
theorem p185_46 : vm_P 185 46 = some (vm_m185, (46, .getfield 52, 3, 10, 20, 0)) := rfl
theorem p185_49 : vm_P 185 49 = some (vm_m185, (49, .iload_n 3, 1, 0, 0, 0)) := rfl
theorem p185_50 : vm_P 185 50 = some (vm_m185, (50, .aload_n 0, 1, 0, 0, 0)) := rfl
theorem p185_51 : vm_P 185 51 = some (vm_m185, (51, .getfield 46, 3, 10, 18, 0)) := rfl
theorem p185_54 : vm_P 185 54 = some (vm_m185, (54, .iload 4, 2, 0, 0, 0)) := rfl
theorem p185_56 : vm_P 185 56 = some (vm_m185, (56, .iaload, 1, 0, 0, 0)) := rfl
theorem p185_57 : vm_P 185 57 = some (vm_m185, (57, .iastore, 1, 0, 0, 0)) := rfl
theorem p185_58 : vm_P 185 58 = some (vm_m185, (58, .iinc 3 (-1), 3, 0, 0, 0)) := rfl
theorem p185_61 : vm_P 185 61 = some (vm_m185, (61, .aload_n 0, 1, 0, 0, 0)) := rfl
theorem p185_62 : vm_P 185 62 = some (vm_m185, (62, .getfield 49, 3, 10, 19, 0)) := rfl
theorem p185_65 : vm_P 185 65 = some (vm_m185, (65, .iload 4, 2, 0, 0, 0)) := rfl
theorem p185_67 : vm_P 185 67 = some (vm_m185, (67, .iaload, 1, 0, 0, 0)) := rfl
theorem p185_68 : vm_P 185 68 = some (vm_m185, (68, .istore 4, 2, 0, 0, 0)) := rfl
theorem p185_70 : vm_P 185 70 = some (vm_m185, (70, .goto (-36), 3, 0, 0, 0)) := rfl
theorem p185_73 : vm_P 185 73 = some (vm_m185, (73, .iload_n 2, 1, 0, 0, 0)) := rfl
theorem p185_74 : vm_P 185 74 = some (vm_m185, (74, .ireturn, 1, 0, 0, 0)) := rfl
theorem p186_0 : vm_P 186 0 = some (vm_m186, (0, .aload_n 0, 1, 0, 0, 0)) := rfl
theorem p186_1 : vm_P 186 1 = some (vm_m186, (1, .iload_n 1, 1, 0, 0, 0)) := rfl
theorem p186_2 : vm_P 186 2 = some (vm_m186, (2, .invokevirtual 159, 3, 0, 150, 1001)) := rfl
theorem p186_5 : vm_P 186 5 = some (vm_m186, (5, .ifCond .eq 21, 3, 0, 0, 0)) := rfl
theorem p186_8 : vm_P 186 8 = some (vm_m186, (8, .aload_n 0, 1, 0, 0, 0)) := rfl
theorem p186_9 : vm_P 186 9 = some (vm_m186, (9, .iload_n 2, 1, 0, 0, 0)) := rfl
theorem p186_10 : vm_P 186 10 = some (vm_m186, (10, .invokevirtual 159, 3, 0, 150, 1001)) := rfl
theorem p186_13 : vm_P 186 13 = some (vm_m186, (13, .ifCond .eq 13, 3, 0, 0, 0)) := rfl
theorem p186_16 : vm_P 186 16 = some (vm_m186, (16, .iload_n 1, 1, 0, 0, 0)) := rfl
theorem p186_17 : vm_P 186 17 = some (vm_m186, (17, .iload_n 2, 1, 0, 0, 0)) := rfl
theorem p186_18 : vm_P 186 18 = some (vm_m186, (18, .if_icmp .eq 8, 3, 0, 0, 0)) := rfl
theorem p186_21 : vm_P 186 21 = some (vm_m186, (21, .iload_n 3, 1, 0, 0, 0)) := rfl
theorem p186_22 : vm_P 186 22 = some (vm_m186, (22, .iconst (-1), 1, 0, 0, 0)) := rfl
theorem p186_23 : vm_P 186 23 = some (vm_m186, (23, .if_icmp .ge 5, 3, 0, 0, 0)) := rfl
theorem p186_26 : vm_P 186 26 = some (vm_m186, (26, .iconst (-1), 1, 0, 0, 0)) := rfl
theorem p186_27 : vm_P 186 27 = some (vm_m186, (27, .ireturn, 1, 0, 0, 0)) := rfl
theorem p186_28 : vm_P 186 28 = some (vm_m186, (28, .aload_n 0, 1, 0, 0, 0)) := rfl
theorem p186_29 : vm_P 186 29 = some (vm_m186, (29, .iload_n 1, 1, 0, 0, 0)) := rfl
theorem p186_30 : vm_P 186 30 = some (vm_m186, (30, .invokevirtual 199, 3, 0, 159, 1001)) := rfl
theorem p186_33 : vm_P 186 33 = some (vm_m186, (33, .ifCond .eq 11, 3, 0, 0, 0)) := rfl
theorem p186_36 : vm_P 186 36 = some (vm_m186, (36, .aload_n 0, 1, 0, 0, 0)) := rfl
theorem p186_37 : vm_P 186 37 = some (vm_m186, (37, .iload_n 2, 1, 0, 0, 0)) := rfl
theorem p186_38 : vm_P 186 38 = some (vm_m186, (38, .invokevirtual 199, 3, 0, 159, 1001)) := rfl
theorem p186_41 : vm_P 186 41 = some (vm_m186, (41, .ifCond .ne 6, 3, 0, 0, 0)) := rfl
theorem p186_44 : vm_P 186 44 = some (vm_m186, (44, .bipush (-2), 2, 0, 0, 0)) := rfl
theorem p186_46 : vm_P 186 46 = some (vm_m186, (46, .ireturn, 1, 0, 0, 0)) := rfl
theorem p186_47 : vm_P 186 47 = some (vm_m186, (47, .aload_n 0, 1, 0, 0, 0)) := rfl
theorem p186_48 : vm_P 186 48 = some (vm_m186, (48, .aload_n 0, 1, 0, 0, 0)) := rfl
theorem p186_49 : vm_P 186 49 = some (vm_m186, (49, .getfield 16, 3, 10, 2, 0)) := rfl
theorem p186_52 : vm_P 186 52 = some (vm_m186, (52, .iconst 4, 1, 0, 0, 0)) := rfl
theorem p186_53 : vm_P 186 53 = some (vm_m186, (53, .iload_n 1, 1, 0, 0, 0)) := rfl
theorem p186_54 : vm_P 186 54 = some (vm_m186, (54, .iadd, 1, 0, 0, 0)) := rfl
theorem p186_55 : vm_P 186 55 = some (vm_m186, (55, .iaload, 1, 0, 0, 0)) := rfl
theorem p186_56 : vm_P 186 56 = some (vm_m186, (56, .aload_n 0, 1, 0, 0, 0)) := rfl
theorem p186_57 : vm_P 186 57 = some (vm_m186, (57, .getfield 16, 3, 10, 2, 0)) := rfl
theorem p186_60 : vm_P 186 60 = some (vm_m186, (60, .iconst 4, 1, 0, 0, 0)) := rfl
theorem p186_61 : vm_P 186 61 = some (vm_m186, (61, .iload_n 2, 1, 0, 0, 0)) := rfl
theorem p186_62 : vm_P 186 62 = some (vm_m186, (62, .iadd, 1, 0, 0, 0)) := rfl
theorem p186_63 : vm_P 186 63 = some (vm_m186, (63, .iaload, 1, 0, 0, 0)) := rfl
theorem p186_64 : vm_P 186 64 = some (vm_m186, (64, .invokevirtual 234, 3, 0, 184, 1002)) := rfl
theorem p186_67 : vm_P 186 67 = some (vm_m186, (67, .istore 4, 2, 0, 0, 0)) := rfl
theorem p186_69 : vm_P 186 69 = some (vm_m186, (69, .iload 4, 2, 0, 0, 0)) := rfl
theorem p186_71 : vm_P 186 71 = some (vm_m186, (71, .bipush (-4), 2, 0, 0, 0)) := rfl
theorem p186_73 : vm_P 186 73 = some (vm_m186, (73, .if_icmp .eq 8, 3, 0, 0, 0)) := rfl
theorem p186_76 : vm_P 186 76 = some (vm_m186, (76, .iload_n 3, 1, 0, 0, 0)) := rfl
theorem p186_77 : vm_P 186 77 = some (vm_m186, (77, .iconst (-1), 1, 0, 0, 0)) := rfl
theorem p186_78 : vm_P 186 78 = some (vm_m186, (78, .if_icmp .ne 8, 3, 0, 0, 0)) := rfl
theorem p186_81 : vm_P 186 81 = some (vm_m186, (81, .iload 4, 2, 0, 0, 0)) := rfl
theorem p186_83 : vm_P 186 83 = some (vm_m186, (83, .goto 20, 3, 0, 0, 0)) := rfl
theorem p186_86 : vm_P 186 86 = some (vm_m186, (86, .iload_n 3, 1, 0, 0, 0)) := rfl
theorem p186_87 : vm_P 186 87 = some (vm_m186, (87, .iload 4, 2, 0, 0, 0)) := rfl
theorem p186_89 : vm_P 186 89 = some (vm_m186, (89, .if_icmp .ge 12, 3, 0, 0, 0)) := rfl
theorem p186_92 : vm_P 186 92 = some (vm_m186, (92, .aload_n 0, 1, 0, 0, 0)) := rfl
theorem p186_93 : vm_P 186 93 = some (vm_m186, (93, .getfield 52, 3, 10, 20, 0)) := rfl
theorem p186_96 : vm_P 186 96 = some (vm_m186, (96, .iload_n 3, 1, 0, 0, 0)) := rfl
theorem p186_97 : vm_P 186 97 = some (vm_m186, (97, .iaload, 1, 0, 0, 0)) := rfl
theorem p186_98 : vm_P 186 98 = some (vm_m186, (98, .goto 5, 3, 0, 0, 0)) := rfl
theorem p186_101 : vm_P 186 101 = some (vm_m186, (101, .bipush (-4), 2, 0, 0, 0)) := rfl
theorem p186_103 : vm_P 186 103 = some (vm_m186, (103, .ireturn, 1, 0, 0, 0)) := rfl
theorem p187_0 : vm_P 187 0 = some (vm_m187, (0, .aload_n 0, 1, 0, 0, 0)) := rfl
theorem p187_1 : vm_P 187 1 = some (vm_m187, (1, .iload_n 1, 1, 0, 0, 0)) := rfl
theorem p187_2 : vm_P 187 2 = some (vm_m187, (2, .invokevirtual 159, 3, 0, 150, 1001)) := rfl
theorem p187_5 : vm_P 187 5 = some (vm_m187, (5, .ifCond .ne 5, 3, 0, 0, 0)) := rfl
theorem p187_8 : vm_P 187 8 = some (vm_m187, (8, .iconst (-1), 1, 0, 0, 0)) := rfl
theorem p187_9 : vm_P 187 9 = some (vm_m187, (9, .ireturn, 1, 0, 0, 0)) := rfl
theorem p187_10 : vm_P 187 10 = some (vm_m187, (10, .aload_n 0, 1, 0, 0, 0)) := rfl
theorem p187_11 : vm_P 187 11 = some (vm_m187, (11, .iload_n 1, 1, 0, 0, 0)) := rfl
theorem p187_12 : vm_P 187 12 = some (vm_m187, (12, .invokevirtual 199, 3, 0, 159, 1001)) := rfl
theorem p187_15 : vm_P 187 15 = some (vm_m187, (15, .ifCond .ne 6, 3, 0, 0, 0)) := rfl
theorem p187_18 : vm_P 187 18 = some (vm_m187, (18, .bipush (-2), 2, 0, 0, 0)) := rfl
theorem p187_20 : vm_P 187 20 = some (vm_m187, (20, .ireturn, 1, 0, 0, 0)) := rfl
theorem p187_21 : vm_P 187 21 = some (vm_m187, (21, .iconst 1, 1, 0, 0, 0)) := rfl
theorem p187_22 : vm_P 187 22 = some (vm_m187, (22, .aload_n 0, 1, 0, 0, 0)) := rfl
theorem p187_23 : vm_P 187 23 = some (vm_m187, (23, .getfield 16, 3, 10, 2, 0)) := rfl
theorem p187_26 : vm_P 187 26 = some (vm_m187, (26, .iconst 4, 1, 0, 0, 0)) := rfl
theorem p187_27 : vm_P 187 27 = some (vm_m187, (27, .iload_n 1, 1, 0, 0, 0)) := rfl
theorem p187_28 : vm_P 187 28 = some (vm_m187, (28, .iadd, 1, 0, 0, 0)) := rfl
theorem p187_29 : vm_P 187 29 = some (vm_m187, (29, .iaload, 1, 0, 0, 0)) := rfl
theorem p187_30 : vm_P 187 30 = some (vm_m187, (30, .ishl, 1, 0, 0, 0)) := rfl
theorem p187_31 : vm_P 187 31 = some (vm_m187, (31, .istore_n 2, 1, 0, 0, 0)) := rfl
theorem p187_32 : vm_P 187 32 = some (vm_m187, (32, .iconst 0, 1, 0, 0, 0)) := rfl
theorem p187_33 : vm_P 187 33 = some (vm_m187, (33, .istore_n 3, 1, 0, 0, 0)) := rfl
theorem p187_34 : vm_P 187 34 = some (vm_m187, (34, .iload_n 2, 1, 0, 0, 0)) := rfl
theorem p187_35 : vm_P 187 35 = some (vm_m187, (35, .iload_n 3, 1, 0, 0, 0)) := rfl
theorem p187_36 : vm_P 187 36 = some (vm_m187, (36, .if_icmp .eq 69, 3, 0, 0, 0)) := rfl
theorem p187_39 : vm_P 187 39 = some (vm_m187, (39, .iload_n 2, 1, 0, 0, 0)) := rfl
theorem p187_40 : vm_P 187 40 = some (vm_m187, (40, .istore_n 3, 1, 0, 0, 0)) := rfl
theorem p187_41 : vm_P 187 41 = some (vm_m187, (41, .iconst 0, 1, 0, 0, 0)) := rfl
theorem p187_42 : vm_P 187 42 = some (vm_m187, (42, .istore 4, 2, 0, 0, 0)) := rfl
theorem p187_44 : vm_P 187 44 = some (vm_m187, (44, .iload 4, 2, 0, 0, 0)) := rfl
theorem p187_46 : vm_P 187 46 = some (vm_m187, (46, .aload_n 0, 1, 0, 0, 0)) := rfl
theorem p187_47 : vm_P 187 47 = some (vm_m187, (47, .getfield 7, 3, 10, 0, 0)) := rfl
theorem p187_50 : vm_P 187 50 = some (vm_m187, (50, .iconst 0, 1, 0, 0, 0)) := rfl
theorem p187_51 : vm_P 187 51 = some (vm_m187, (51, .iaload, 1, 0, 0, 0)) := rfl
theorem p187_52 : vm_P 187 52 = some (vm_m187, (52, .if_icmp .ge 50, 3, 0, 0, 0)) := rfl
theorem p187_55 : vm_P 187 55 = some (vm_m187, (55, .iconst 0, 1, 0, 0, 0)) := rfl
theorem p187_56 : vm_P 187 56 = some (vm_m187, (56, .istore 5, 2, 0, 0, 0)) := rfl
theorem p187_58 : vm_P 187 58 = some (vm_m187, (58, .iload 5, 2, 0, 0, 0)) := rfl
theorem p187_60 : vm_P 187 60 = some (vm_m187, (60, .iconst 4, 1, 0, 0, 0)) := rfl
theorem p187_61 : vm_P 187 61 = some (vm_m187, (61, .if_icmp .ge 35, 3, 0, 0, 0)) := rfl
theorem p187_64 : vm_P 187 64 = some (vm_m187, (64, .iload_n 2, 1, 0, 0, 0)) := rfl
theorem p187_65 : vm_P 187 65 = some (vm_m187, (65, .iload_n 3, 1, 0, 0, 0)) := rfl
theorem p187_66 : vm_P 187 66 = some (vm_m187, (66, .iload 4, 2, 0, 0, 0)) := rfl
theorem p187_68 : vm_P 187 68 = some (vm_m187, (68, .invokestatic 237, 3, 1, 129, 2)) := rfl
theorem p187_71 : vm_P 187 71 = some (vm_m187, (71, .ifCond .eq 16, 3, 0, 0, 0)) := rfl
theorem p187_74 : vm_P 187 74 = some (vm_m187, (74, .iconst 1, 1, 0, 0, 0)) := rfl
theorem p187_75 : vm_P 187 75 = some (vm_m187, (75, .aload_n 0, 1, 0, 0, 0)) := rfl
theorem p187_76 : vm_P 187 76 = some (vm_m187, (76, .iload 4, 2, 0, 0, 0)) := rfl
theorem p187_78 : vm_P 187 78 = some (vm_m187, (78, .iload 5, 2, 0, 0, 0)) := rfl
theorem p187_80 : vm_P 187 80 = some (vm_m187, (80, .invokevirtual 222, 3, 0, 152, 1002)) := rfl
theorem p187_83 : vm_P 187 83 = some (vm_m187, (83, .ishl, 1, 0, 0, 0)) := rfl
theorem p187_84 : vm_P 187 84 = some (vm_m187, (84, .goto 4, 3, 0, 0, 0)) := rfl
theorem p187_87 : vm_P 187 87 = some (vm_m187, (87, .iconst 0, 1, 0, 0, 0)) := rfl
theorem p187_88 : vm_P 187 88 = some (vm_m187, (88, .ior, 1, 0, 0, 0)) := rfl
theorem p187_89 : vm_P 187 89 = some (vm_m187, (89, .istore_n 2, 1, 0, 0, 0)) := rfl
theorem p187_90 : vm_P 187 90 = some (vm_m187, (90, .iinc 5 1, 3, 0, 0, 0)) := rfl
theorem p187_93 : vm_P 187 93 = some (vm_m187, (93, .goto (-35), 3, 0, 0, 0)) := rfl
theorem p187_96 : vm_P 187 96 = some (vm_m187, (96, .iinc 4 1, 3, 0, 0, 0)) := rfl
theorem p187_99 : vm_P 187 99 = some (vm_m187, (99, .goto (-55), 3, 0, 0, 0)) := rfl
theorem p187_102 : vm_P 187 102 = some (vm_m187, (102, .goto (-68), 3, 0, 0, 0)) := rfl
theorem p187_105 : vm_P 187 105 = some (vm_m187, (105, .iload_n 2, 1, 0, 0, 0)) := rfl
theorem p187_106 : vm_P 187 106 = some (vm_m187, (106, .ireturn, 1, 0, 0, 0)) := rfl
theorem p188_0 : vm_P 188 0 = some (vm_m188, (0, .aload_n 0, 1, 0, 0, 0)) := rfl
theorem p188_1 : vm_P 188 1 = some (vm_m188, (1, .iload_n 1, 1, 0, 0, 0)) := rfl
theorem p188_2 : vm_P 188 2 = some (vm_m188, (2, .invokevirtual 215, 3, 0, 176, 1001)) := rfl
theorem p188_5 : vm_P 188 5 = some (vm_m188, (5, .aload_n 0, 1, 0, 0, 0)) := rfl
theorem p188_6 : vm_P 188 6 = some (vm_m188, (6, .getfield 40, 3, 10, 16, 0)) := rfl
theorem p188_9 : vm_P 188 9 = some (vm_m188, (9, .iload_n 3, 1, 0, 0, 0)) := rfl
theorem p188_10 : vm_P 188 10 = some (vm_m188, (10, .dup2, 1, 0, 0, 0)) := rfl
theorem p188_11 : vm_P 188 11 = some (vm_m188, (11, .iaload, 1, 0, 0, 0)) := rfl
theorem p188_12 : vm_P 188 12 = some (vm_m188, (12, .iload 4, 2, 0, 0, 0)) := rfl
theorem p188_14 : vm_P 188 14 = some (vm_m188, (14, .iadd, 1, 0, 0, 0)) := rfl
theorem p188_15 : vm_P 188 15 = some (vm_m188, (15, .iastore, 1, 0, 0, 0)) := rfl
theorem p188_16 : vm_P 188 16 = some (vm_m188, (16, .aload_n 0, 1, 0, 0, 0)) := rfl
theorem p188_17 : vm_P 188 17 = some (vm_m188, (17, .iload_n 1, 1, 0, 0, 0)) := rfl
theorem p188_18 : vm_P 188 18 = some (vm_m188, (18, .iload_n 2, 1, 0, 0, 0)) := rfl
theorem p188_19 : vm_P 188 19 = some (vm_m188, (19, .invokevirtual 219, 3, 0, 179, 1002)) := rfl
theorem p188_22 : vm_P 188 22 = some (vm_m188, (22, .ldc 209, 2, 0, 0, 0)) := rfl
theorem p188_24 : vm_P 188 24 = some (vm_m188, (24, .if_icmp .ge 7, 3, 0, 0, 0)) := rfl
theorem p188_27 : vm_P 188 27 = some (vm_m188, (27, .iconst 1, 1, 0, 0, 0)) := rfl
theorem p188_28 : vm_P 188 28 = some (vm_m188, (28, .goto 4, 3, 0, 0, 0)) := rfl
theorem p188_31 : vm_P 188 31 = some (vm_m188, (31, .iconst 0, 1, 0, 0, 0)) := rfl
theorem p188_32 : vm_P 188 32 = some (vm_m188, (32, .ireturn, 1, 0, 0, 0)) := rfl
theorem p189_0 : vm_P 189 0 = some (vm_m189, (0, .aload_n 0, 1, 0, 0, 0)) := rfl
theorem p189_1 : vm_P 189 1 = some (vm_m189, (1, .iload_n 1, 1, 0, 0, 0)) := rfl
theorem p189_2 : vm_P 189 2 = some (vm_m189, (2, .invokevirtual 159, 3, 0, 150, 1001)) := rfl
theorem p189_5 : vm_P 189 5 = some (vm_m189, (5, .ifCond .eq 28, 3, 0, 0, 0)) := rfl
theorem p189_8 : vm_P 189 8 = some (vm_m189, (8, .aload_n 0, 1, 0, 0, 0)) := rfl
theorem p189_9 : vm_P 189 9 = some (vm_m189, (9, .iload_n 2, 1, 0, 0, 0)) := rfl
theorem p189_10 : vm_P 189 10 = some (vm_m189, (10, .invokevirtual 159, 3, 0, 150, 1001)) := rfl
theorem p189_13 : vm_P 189 13 = some (vm_m189, (13, .ifCond .eq 20, 3, 0, 0, 0)) := rfl
theorem p189_16 : vm_P 189 16 = some (vm_m189, (16, .iload_n 1, 1, 0, 0, 0)) := rfl
theorem p189_17 : vm_P 189 17 = some (vm_m189, (17, .iload_n 2, 1, 0, 0, 0)) := rfl
theorem p189_18 : vm_P 189 18 = some (vm_m189, (18, .if_icmp .eq 15, 3, 0, 0, 0)) := rfl
theorem p189_21 : vm_P 189 21 = some (vm_m189, (21, .iload_n 3, 1, 0, 0, 0)) := rfl
theorem p189_22 : vm_P 189 22 = some (vm_m189, (22, .i2l, 1, 0, 0, 0)) := rfl
theorem p189_23 : vm_P 189 23 = some (vm_m189, (23, .lconst 1, 1, 0, 0, 0)) := rfl
theorem p189_24 : vm_P 189 24 = some (vm_m189, (24, .ldc2_w 213, 3, 10, 0, 0)) := rfl
theorem p189_27 : vm_P 189 27 = some (vm_m189, (27, .invokestatic 86, 3, 1, 128, 3)) := rfl
theorem p189_30 : vm_P 189 30 = some (vm_m189, (30, .ifCond .ne 5, 3, 0, 0, 0)) := rfl
theorem p189_33 : vm_P 189 33 = some (vm_m189, (33, .iconst (-1), 1, 0, 0, 0)) := rfl
theorem p189_34 : vm_P 189 34 = some (vm_m189, (34, .ireturn, 1, 0, 0, 0)) := rfl
theorem p189_35 : vm_P 189 35 = some (vm_m189, (35, .aload_n 0, 1, 0, 0, 0)) := rfl
theorem p189_36 : vm_P 189 36 = some (vm_m189, (36, .iload_n 1, 1, 0, 0, 0)) := rfl
theorem p189_37 : vm_P 189 37 = some (vm_m189, (37, .invokevirtual 199, 3, 0, 159, 1001)) := rfl
theorem p189_40 : vm_P 189 40 = some (vm_m189, (40, .ifCond .eq 11, 3, 0, 0, 0)) := rfl
theorem p189_43 : vm_P 189 43 = some (vm_m189, (43, .aload_n 0, 1, 0, 0, 0)) := rfl
theorem p189_44 : vm_P 189 44 = some (vm_m189, (44, .iload_n 2, 1, 0, 0, 0)) := rfl
theorem p189_45 : vm_P 189 45 = some (vm_m189, (45, .invokevirtual 199, 3, 0, 159, 1001)) := rfl
theorem p189_48 : vm_P 189 48 = some (vm_m189, (48, .ifCond .ne 6, 3, 0, 0, 0)) := rfl
theorem p189_51 : vm_P 189 51 = some (vm_m189, (51, .bipush (-2), 2, 0, 0, 0)) := rfl
theorem p189_53 : vm_P 189 53 = some (vm_m189, (53, .ireturn, 1, 0, 0, 0)) := rfl
theorem p189_54 : vm_P 189 54 = some (vm_m189, (54, .iconst 0, 1, 0, 0, 0)) := rfl
theorem p189_55 : vm_P 189 55 = some (vm_m189, (55, .istore 4, 2, 0, 0, 0)) := rfl
theorem p189_57 : vm_P 189 57 = some (vm_m189, (57, .iload 4, 2, 0, 0, 0)) := rfl
theorem p189_59 : vm_P 189 59 = some (vm_m189, (59, .iconst 4, 1, 0, 0, 0)) := rfl
theorem p189_60 : vm_P 189 60 = some (vm_m189, (60, .if_icmp .ge 47, 3, 0, 0, 0)) := rfl
theorem p189_63 : vm_P 189 63 = some (vm_m189, (63, .aload_n 0, 1, 0, 0, 0)) := rfl
theorem p189_64 : vm_P 189 64 = some (vm_m189, (64, .iload_n 1, 1, 0, 0, 0)) := rfl
theorem p189_65 : vm_P 189 65 = some (vm_m189, (65, .iload_n 2, 1, 0, 0, 0)) := rfl
theorem p189_66 : vm_P 189 66 = some (vm_m189, (66, .iload 4, 2, 0, 0, 0)) := rfl
theorem p189_68 : vm_P 189 68 = some (vm_m189, (68, .invokevirtual 202, 3, 0, 172, 1003)) := rfl
theorem p189_71 : vm_P 189 71 = some (vm_m189, (71, .ifCond .eq 30, 3, 0, 0, 0)) := rfl
theorem p189_74 : vm_P 189 74 = some (vm_m189, (74, .aload_n 0, 1, 0, 0, 0)) := rfl
theorem p189_75 : vm_P 189 75 = some (vm_m189, (75, .iload_n 1, 1, 0, 0, 0)) := rfl
theorem p189_76 : vm_P 189 76 = some (vm_m189, (76, .iload_n 3, 1, 0, 0, 0)) := rfl
theorem p189_77 : vm_P 189 77 = some (vm_m189, (77, .iload 4, 2, 0, 0, 0)) := rfl
theorem p189_79 : vm_P 189 79 = some (vm_m189, (79, .iconst (-1), 1, 0, 0, 0)) := rfl
theorem p189_80 : vm_P 189 80 = some (vm_m189, (80, .invokevirtual 240, 3, 0, 188, 1004)) := rfl
theorem p189_83 : vm_P 189 83 = some (vm_m189, (83, .ifCond .eq 18, 3, 0, 0, 0)) := rfl
theorem p189_86 : vm_P 189 86 = some (vm_m189, (86, .aload_n 0, 1, 0, 0, 0)) := rfl
theorem p189_87 : vm_P 189 87 = some (vm_m189, (87, .iload_n 2, 1, 0, 0, 0)) := rfl
theorem p189_88 : vm_P 189 88 = some (vm_m189, (88, .iload_n 3, 1, 0, 0, 0)) := rfl
theorem p189_89 : vm_P 189 89 = some (vm_m189, (89, .iload 4, 2, 0, 0, 0)) := rfl
theorem p189_91 : vm_P 189 91 = some (vm_m189, (91, .iconst 1, 1, 0, 0, 0)) := rfl
theorem p189_92 : vm_P 189 92 = some (vm_m189, (92, .invokevirtual 240, 3, 0, 188, 1004)) := rfl
theorem p189_95 : vm_P 189 95 = some (vm_m189, (95, .ifCond .eq 6, 3, 0, 0, 0)) := rfl
theorem p189_98 : vm_P 189 98 = some (vm_m189, (98, .iload 4, 2, 0, 0, 0)) := rfl
theorem p189_100 : vm_P 189 100 = some (vm_m189, (100, .ireturn, 1, 0, 0, 0)) := rfl
theorem p189_101 : vm_P 189 101 = some (vm_m189, (101, .iinc 4 1, 3, 0, 0, 0)) := rfl
theorem p189_104 : vm_P 189 104 = some (vm_m189, (104, .goto (-47), 3, 0, 0, 0)) := rfl
theorem p189_107 : vm_P 189 107 = some (vm_m189, (107, .bipush (-4), 2, 0, 0, 0)) := rfl
theorem p189_109 : vm_P 189 109 = some (vm_m189, (109, .ireturn, 1, 0, 0, 0)) := rfl
theorem p190_0 : vm_P 190 0 = some (vm_m190, (0, .iload_n 1, 1, 0, 0, 0)) := rfl
theorem p190_1 : vm_P 190 1 = some (vm_m190, (1, .invokestatic 150, 3, 1, 149, 1)) := rfl
theorem p190_4 : vm_P 190 4 = some (vm_m190, (4, .ifCond .ne 5, 3, 0, 0, 0)) := rfl
theorem p190_7 : vm_P 190 7 = some (vm_m190, (7, .iconst (-1), 1, 0, 0, 0)) := rfl
theorem p190_8 : vm_P 190 8 = some (vm_m190, (8, .ireturn, 1, 0, 0, 0)) := rfl
theorem p190_9 : vm_P 190 9 = some (vm_m190, (9, .aload_n 0, 1, 0, 0, 0)) := rfl
theorem p190_10 : vm_P 190 10 = some (vm_m190, (10, .getfield 79, 3, 10, 9, 0)) := rfl
theorem p190_13 : vm_P 190 13 = some (vm_m190, (13, .bipush 6, 2, 0, 0, 0)) := rfl
theorem p190_15 : vm_P 190 15 = some (vm_m190, (15, .if_icmp .ne 6, 3, 0, 0, 0)) := rfl
theorem p190_18 : vm_P 190 18 = some (vm_m190, (18, .bipush (-3), 2, 0, 0, 0)) := rfl
theorem p190_20 : vm_P 190 20 = some (vm_m190, (20, .ireturn, 1, 0, 0, 0)) := rfl
theorem p190_21 : vm_P 190 21 = some (vm_m190, (21, .aload_n 0, 1, 0, 0, 0)) := rfl
theorem p190_22 : vm_P 190 22 = some (vm_m190, (22, .getfield 28, 3, 10, 8, 0)) := rfl
theorem p190_25 : vm_P 190 25 = some (vm_m190, (25, .aload_n 0, 1, 0, 0, 0)) := rfl
theorem p190_26 : vm_P 190 26 = some (vm_m190, (26, .getfield 79, 3, 10, 9, 0)) := rfl
theorem p190_29 : vm_P 190 29 = some (vm_m190, (29, .iload_n 1, 1, 0, 0, 0)) := rfl
theorem p190_30 : vm_P 190 30 = some (vm_m190, (30, .iastore, 1, 0, 0, 0)) := rfl
theorem p190_31 : vm_P 190 31 = some (vm_m190, (31, .aload_n 0, 1, 0, 0, 0)) := rfl
theorem p190_32 : vm_P 190 32 = some (vm_m190, (32, .dup, 1, 0, 0, 0)) := rfl
theorem p190_33 : vm_P 190 33 = some (vm_m190, (33, .getfield 79, 3, 10, 9, 0)) := rfl
theorem p190_36 : vm_P 190 36 = some (vm_m190, (36, .iconst 1, 1, 0, 0, 0)) := rfl
theorem p190_37 : vm_P 190 37 = some (vm_m190, (37, .iadd, 1, 0, 0, 0)) := rfl
theorem p190_38 : vm_P 190 38 = some (vm_m190, (38, .putfield 79, 3, 10, 9, 0)) := rfl
theorem p190_41 : vm_P 190 41 = some (vm_m190, (41, .aload_n 0, 1, 0, 0, 0)) := rfl
theorem p190_42 : vm_P 190 42 = some (vm_m190, (42, .getfield 79, 3, 10, 9, 0)) := rfl
theorem p190_45 : vm_P 190 45 = some (vm_m190, (45, .ireturn, 1, 0, 0, 0)) := rfl
theorem p191_0 : vm_P 191 0 = some (vm_m191, (0, .aload_n 0, 1, 0, 0, 0)) := rfl
theorem p191_1 : vm_P 191 1 = some (vm_m191, (1, .getfield 79, 3, 10, 9, 0)) := rfl
theorem p191_4 : vm_P 191 4 = some (vm_m191, (4, .istore_n 1, 1, 0, 0, 0)) := rfl
theorem p191_5 : vm_P 191 5 = some (vm_m191, (5, .aload_n 0, 1, 0, 0, 0)) := rfl
theorem p191_6 : vm_P 191 6 = some (vm_m191, (6, .iconst 0, 1, 0, 0, 0)) := rfl
theorem p191_7 : vm_P 191 7 = some (vm_m191, (7, .putfield 79, 3, 10, 9, 0)) := rfl
theorem p191_10 : vm_P 191 10 = some (vm_m191, (10, .iload_n 1, 1, 0, 0, 0)) := rfl
theorem p191_11 : vm_P 191 11 = some (vm_m191, (11, .ireturn, 1, 0, 0, 0)) := rfl
theorem p192_0 : vm_P 192 0 = some (vm_m192, (0, .aload_n 0, 1, 0, 0, 0)) := rfl
theorem p192_1 : vm_P 192 1 = some (vm_m192, (1, .iload_n 1, 1, 0, 0, 0)) := rfl
theorem p192_2 : vm_P 192 2 = some (vm_m192, (2, .invokevirtual 159, 3, 0, 150, 1001)) := rfl
theorem p192_5 : vm_P 192 5 = some (vm_m192, (5, .ifCond .ne 5, 3, 0, 0, 0)) := rfl
theorem p192_8 : vm_P 192 8 = some (vm_m192, (8, .iconst (-1), 1, 0, 0, 0)) := rfl
theorem p192_9 : vm_P 192 9 = some (vm_m192, (9, .ireturn, 1, 0, 0, 0)) := rfl
theorem p192_10 : vm_P 192 10 = some (vm_m192, (10, .aload_n 0, 1, 0, 0, 0)) := rfl
theorem p192_11 : vm_P 192 11 = some (vm_m192, (11, .iload_n 1, 1, 0, 0, 0)) := rfl
theorem p192_12 : vm_P 192 12 = some (vm_m192, (12, .invokevirtual 199, 3, 0, 159, 1001)) := rfl
theorem p192_15 : vm_P 192 15 = some (vm_m192, (15, .ifCond .ne 6, 3, 0, 0, 0)) := rfl
theorem p192_18 : vm_P 192 18 = some (vm_m192, (18, .bipush (-2), 2, 0, 0, 0)) := rfl
theorem p192_20 : vm_P 192 20 = some (vm_m192, (20, .ireturn, 1, 0, 0, 0)) := rfl
theorem p192_21 : vm_P 192 21 = some (vm_m192, (21, .iconst 0, 1, 0, 0, 0)) := rfl
theorem p192_22 : vm_P 192 22 = some (vm_m192, (22, .istore_n 2, 1, 0, 0, 0)) := rfl
theorem p192_23 : vm_P 192 23 = some (vm_m192, (23, .iconst 0, 1, 0, 0, 0)) := rfl
theorem p192_24 : vm_P 192 24 = some (vm_m192, (24, .istore_n 3, 1, 0, 0, 0)) := rfl
theorem p192_25 : vm_P 192 25 = some (vm_m192, (25, .iload_n 3, 1, 0, 0, 0)) := rfl
theorem p192_26 : vm_P 192 26 = some (vm_m192, (26, .aload_n 0, 1, 0, 0, 0)) := rfl
theorem p192_27 : vm_P 192 27 = some (vm_m192, (27, .getfield 7, 3, 10, 0, 0)) := rfl
theorem p192_30 : vm_P 192 30 = some (vm_m192, (30, .iconst 0, 1, 0, 0, 0)) := rfl
theorem p192_31 : vm_P 192 31 = some (vm_m192, (31, .iaload, 1, 0, 0, 0)) := rfl
theorem p192_32 : vm_P 192 32 = some (vm_m192, (32, .if_icmp .ge 68, 3, 0, 0, 0)) := rfl
theorem p192_35 : vm_P 192 35 = some (vm_m192, (35, .iload_n 3, 1, 0, 0, 0)) := rfl
theorem p192_36 : vm_P 192 36 = some (vm_m192, (36, .istore 4, 2, 0, 0, 0)) := rfl
theorem p192_38 : vm_P 192 38 = some (vm_m192, (38, .iconst 0, 1, 0, 0, 0)) := rfl
theorem p192_39 : vm_P 192 39 = some (vm_m192, (39, .istore 5, 2, 0, 0, 0)) := rfl
theorem p192_41 : vm_P 192 41 = some (vm_m192, (41, .iload 5, 2, 0, 0, 0)) := rfl
theorem p192_43 : vm_P 192 43 = some (vm_m192, (43, .aload_n 0, 1, 0, 0, 0)) := rfl
theorem p192_44 : vm_P 192 44 = some (vm_m192, (44, .getfield 79, 3, 10, 9, 0)) := rfl
theorem p192_47 : vm_P 192 47 = some (vm_m192, (47, .if_icmp .ge 24, 3, 0, 0, 0)) := rfl
theorem p192_50 : vm_P 192 50 = some (vm_m192, (50, .aload_n 0, 1, 0, 0, 0)) := rfl
theorem p192_51 : vm_P 192 51 = some (vm_m192, (51, .iload 4, 2, 0, 0, 0)) := rfl
theorem p192_53 : vm_P 192 53 = some (vm_m192, (53, .aload_n 0, 1, 0, 0, 0)) := rfl
theorem p192_54 : vm_P 192 54 = some (vm_m192, (54, .getfield 28, 3, 10, 8, 0)) := rfl
theorem p192_57 : vm_P 192 57 = some (vm_m192, (57, .iload 5, 2, 0, 0, 0)) := rfl
theorem p192_59 : vm_P 192 59 = some (vm_m192, (59, .iaload, 1, 0, 0, 0)) := rfl
theorem p192_60 : vm_P 192 60 = some (vm_m192, (60, .invokevirtual 222, 3, 0, 152, 1002)) := rfl
theorem p192_63 : vm_P 192 63 = some (vm_m192, (63, .istore 4, 2, 0, 0, 0)) := rfl
theorem p192_65 : vm_P 192 65 = some (vm_m192, (65, .iinc 5 1, 3, 0, 0, 0)) := rfl
theorem p192_68 : vm_P 192 68 = some (vm_m192, (68, .goto (-27), 3, 0, 0, 0)) := rfl
theorem p192_71 : vm_P 192 71 = some (vm_m192, (71, .iload_n 2, 1, 0, 0, 0)) := rfl
theorem p192_72 : vm_P 192 72 = some (vm_m192, (72, .iload 4, 2, 0, 0, 0)) := rfl
theorem p192_74 : vm_P 192 74 = some (vm_m192, (74, .aload_n 0, 1, 0, 0, 0)) := rfl
theorem p192_75 : vm_P 192 75 = some (vm_m192, (75, .getfield 16, 3, 10, 2, 0)) := rfl
theorem p192_78 : vm_P 192 78 = some (vm_m192, (78, .iconst 4, 1, 0, 0, 0)) := rfl
theorem p192_79 : vm_P 192 79 = some (vm_m192, (79, .iload_n 1, 1, 0, 0, 0)) := rfl
theorem p192_80 : vm_P 192 80 = some (vm_m192, (80, .iadd, 1, 0, 0, 0)) := rfl
theorem p192_81 : vm_P 192 81 = some (vm_m192, (81, .iaload, 1, 0, 0, 0)) := rfl
theorem p192_82 : vm_P 192 82 = some (vm_m192, (82, .if_icmp .ne 9, 3, 0, 0, 0)) := rfl
theorem p192_85 : vm_P 192 85 = some (vm_m192, (85, .iconst 1, 1, 0, 0, 0)) := rfl
theorem p192_86 : vm_P 192 86 = some (vm_m192, (86, .iload_n 3, 1, 0, 0, 0)) := rfl
theorem p192_87 : vm_P 192 87 = some (vm_m192, (87, .ishl, 1, 0, 0, 0)) := rfl
theorem p192_88 : vm_P 192 88 = some (vm_m192, (88, .goto 4, 3, 0, 0, 0)) := rfl
theorem p192_91 : vm_P 192 91 = some (vm_m192, (91, .iconst 0, 1, 0, 0, 0)) := rfl
theorem p192_92 : vm_P 192 92 = some (vm_m192, (92, .ior, 1, 0, 0, 0)) := rfl
theorem p192_93 : vm_P 192 93 = some (vm_m192, (93, .istore_n 2, 1, 0, 0, 0)) := rfl
theorem p192_94 : vm_P 192 94 = some (vm_m192, (94, .iinc 3 1, 3, 0, 0, 0)) := rfl
theorem p192_97 : vm_P 192 97 = some (vm_m192, (97, .goto (-72), 3, 0, 0, 0)) := rfl
theorem p192_100 : vm_P 192 100 = some (vm_m192, (100, .iload_n 2, 1, 0, 0, 0)) := rfl
theorem p192_101 : vm_P 192 101 = some (vm_m192, (101, .ireturn, 1, 0, 0, 0)) := rfl
theorem p193_0 : vm_P 193 0 = some (vm_m193, (0, .aload_n 0, 1, 0, 0, 0)) := rfl
theorem p193_1 : vm_P 193 1 = some (vm_m193, (1, .iload_n 1, 1, 0, 0, 0)) := rfl
theorem p193_2 : vm_P 193 2 = some (vm_m193, (2, .invokevirtual 159, 3, 0, 150, 1001)) := rfl
theorem p193_5 : vm_P 193 5 = some (vm_m193, (5, .ifCond .eq 23, 3, 0, 0, 0)) := rfl
theorem p193_8 : vm_P 193 8 = some (vm_m193, (8, .aload_n 0, 1, 0, 0, 0)) := rfl
theorem p193_9 : vm_P 193 9 = some (vm_m193, (9, .iload_n 2, 1, 0, 0, 0)) := rfl
theorem p193_10 : vm_P 193 10 = some (vm_m193, (10, .invokevirtual 147, 3, 0, 148, 1001)) := rfl
theorem p193_13 : vm_P 193 13 = some (vm_m193, (13, .ifCond .eq 15, 3, 0, 0, 0)) := rfl
theorem p193_16 : vm_P 193 16 = some (vm_m193, (16, .iload_n 3, 1, 0, 0, 0)) := rfl
theorem p193_17 : vm_P 193 17 = some (vm_m193, (17, .i2l, 1, 0, 0, 0)) := rfl
theorem p193_18 : vm_P 193 18 = some (vm_m193, (18, .lconst 0, 1, 0, 0, 0)) := rfl
theorem p193_19 : vm_P 193 19 = some (vm_m193, (19, .ldc2_w 244, 3, 11, 0, 0)) := rfl
theorem p193_22 : vm_P 193 22 = some (vm_m193, (22, .invokestatic 86, 3, 1, 128, 3)) := rfl
theorem p193_25 : vm_P 193 25 = some (vm_m193, (25, .ifCond .ne 5, 3, 0, 0, 0)) := rfl
theorem p193_28 : vm_P 193 28 = some (vm_m193, (28, .iconst (-1), 1, 0, 0, 0)) := rfl
theorem p193_29 : vm_P 193 29 = some (vm_m193, (29, .ireturn, 1, 0, 0, 0)) := rfl
theorem p193_30 : vm_P 193 30 = some (vm_m193, (30, .aload_n 0, 1, 0, 0, 0)) := rfl
theorem p193_31 : vm_P 193 31 = some (vm_m193, (31, .iload_n 1, 1, 0, 0, 0)) := rfl
theorem p193_32 : vm_P 193 32 = some (vm_m193, (32, .invokevirtual 199, 3, 0, 159, 1001)) := rfl
theorem p193_35 : vm_P 193 35 = some (vm_m193, (35, .ifCond .ne 6, 3, 0, 0, 0)) := rfl
theorem p193_38 : vm_P 193 38 = some (vm_m193, (38, .bipush (-2), 2, 0, 0, 0)) := rfl
theorem p193_40 : vm_P 193 40 = some (vm_m193, (40, .ireturn, 1, 0, 0, 0)) := rfl
theorem p193_41 : vm_P 193 41 = some (vm_m193, (41, .iconst 0, 1, 0, 0, 0)) := rfl
theorem p193_42 : vm_P 193 42 = some (vm_m193, (42, .istore 4, 2, 0, 0, 0)) := rfl
theorem p193_44 : vm_P 193 44 = some (vm_m193, (44, .iload 4, 2, 0, 0, 0)) := rfl
theorem p193_46 : vm_P 193 46 = some (vm_m193, (46, .bipush 9, 2, 0, 0, 0)) := rfl
theorem p193_48 : vm_P 193 48 = some (vm_m193, (48, .if_icmp .ge 27, 3, 0, 0, 0)) := rfl
theorem p193_51 : vm_P 193 51 = some (vm_m193, (51, .aload_n 0, 1, 0, 0, 0)) := rfl
theorem p193_52 : vm_P 193 52 = some (vm_m193, (52, .getfield 55, 3, 10, 21, 0)) := rfl
theorem p193_55 : vm_P 193 55 = some (vm_m193, (55, .iload 4, 2, 0, 0, 0)) := rfl
theorem p193_57 : vm_P 193 57 = some (vm_m193, (57, .iload 4, 2, 0, 0, 0)) := rfl
theorem p193_59 : vm_P 193 59 = some (vm_m193, (59, .iload_n 2, 1, 0, 0, 0)) := rfl
theorem p193_60 : vm_P 193 60 = some (vm_m193, (60, .if_icmp .ne 7, 3, 0, 0, 0)) := rfl
theorem p193_63 : vm_P 193 63 = some (vm_m193, (63, .iconst 1, 1, 0, 0, 0)) := rfl
theorem p193_64 : vm_P 193 64 = some (vm_m193, (64, .goto 4, 3, 0, 0, 0)) := rfl
theorem p193_67 : vm_P 193 67 = some (vm_m193, (67, .iconst 0, 1, 0, 0, 0)) := rfl
theorem p193_68 : vm_P 193 68 = some (vm_m193, (68, .iastore, 1, 0, 0, 0)) := rfl
theorem p193_69 : vm_P 193 69 = some (vm_m193, (69, .iinc 4 1, 3, 0, 0, 0)) := rfl
theorem p193_72 : vm_P 193 72 = some (vm_m193, (72, .goto (-28), 3, 0, 0, 0)) := rfl
theorem p193_75 : vm_P 193 75 = some (vm_m193, (75, .iconst 0, 1, 0, 0, 0)) := rfl
theorem p193_76 : vm_P 193 76 = some (vm_m193, (76, .istore 4, 2, 0, 0, 0)) := rfl
theorem p193_78 : vm_P 193 78 = some (vm_m193, (78, .iload 4, 2, 0, 0, 0)) := rfl
theorem p193_80 : vm_P 193 80 = some (vm_m193, (80, .iload_n 3, 1, 0, 0, 0)) := rfl
theorem p193_81 : vm_P 193 81 = some (vm_m193, (81, .if_icmp .ge 106, 3, 0, 0, 0)) := rfl
theorem p193_84 : vm_P 193 84 = some (vm_m193, (84, .iconst 0, 1, 0, 0, 0)) := rfl
theorem p193_85 : vm_P 193 85 = some (vm_m193, (85, .istore 5, 2, 0, 0, 0)) := rfl
theorem p193_87 : vm_P 193 87 = some (vm_m193, (87, .iload 5, 2, 0, 0, 0)) := rfl
theorem p193_89 : vm_P 193 89 = some (vm_m193, (89, .bipush 9, 2, 0, 0, 0)) := rfl
theorem p193_91 : vm_P 193 91 = some (vm_m193, (91, .if_icmp .ge 17, 3, 0, 0, 0)) := rfl
theorem p193_94 : vm_P 193 94 = some (vm_m193, (94, .aload_n 0, 1, 0, 0, 0)) := rfl
theorem p193_95 : vm_P 193 95 = some (vm_m193, (95, .getfield 58, 3, 10, 22, 0)) := rfl
theorem p193_98 : vm_P 193 98 = some (vm_m193, (98, .iload 5, 2, 0, 0, 0)) := rfl
theorem p193_100 : vm_P 193 100 = some (vm_m193, (100, .iconst 0, 1, 0, 0, 0)) := rfl
theorem p193_101 : vm_P 193 101 = some (vm_m193, (101, .iastore, 1, 0, 0, 0)) := rfl
theorem p193_102 : vm_P 193 102 = some (vm_m193, (102, .iinc 5 1, 3, 0, 0, 0)) := rfl
theorem p193_105 : vm_P 193 105 = some (vm_m193, (105, .goto (-18), 3, 0, 0, 0)) := rfl
theorem p193_108 : vm_P 193 108 = some (vm_m193, (108, .iconst 0, 1, 0, 0, 0)) := rfl
theorem p193_109 : vm_P 193 109 = some (vm_m193, (109, .istore 5, 2, 0, 0, 0)) := rfl
theorem p193_111 : vm_P 193 111 = some (vm_m193, (111, .iload 5, 2, 0, 0, 0)) := rfl
theorem p193_113 : vm_P 193 113 = some (vm_m193, (113, .aload_n 0, 1, 0, 0, 0)) := rfl
theorem p193_114 : vm_P 193 114 = some (vm_m193, (114, .getfield 7, 3, 10, 0, 0)) := rfl
theorem p193_117 : vm_P 193 117 = some (vm_m193, (117, .iconst 0, 1, 0, 0, 0)) := rfl
theorem p193_118 : vm_P 193 118 = some (vm_m193, (118, .iaload, 1, 0, 0, 0)) := rfl
theorem p193_119 : vm_P 193 119 = some (vm_m193, (119, .if_icmp .ge 47, 3, 0, 0, 0)) := rfl
theorem p193_122 : vm_P 193 122 = some (vm_m193, (122, .iconst 0, 1, 0, 0, 0)) := rfl
theorem p193_123 : vm_P 193 123 = some (vm_m193, (123, .istore 6, 2, 0, 0, 0)) := rfl
theorem p193_125 : vm_P 193 125 = some (vm_m193, (125, .iload 6, 2, 0, 0, 0)) := rfl
theorem p193_127 : vm_P 193 127 = some (vm_m193, (127, .iconst 4, 1, 0, 0, 0)) := rfl
theorem p193_128 : vm_P 193 128 = some (vm_m193, (128, .if_icmp .ge 32, 3, 0, 0, 0)) := rfl
theorem p193_131 : vm_P 193 131 = some (vm_m193, (131, .aload_n 0, 1, 0, 0, 0)) := rfl
theorem p193_132 : vm_P 193 132 = some (vm_m193, (132, .getfield 58, 3, 10, 22, 0)) := rfl
theorem p193_135 : vm_P 193 135 = some (vm_m193, (135, .aload_n 0, 1, 0, 0, 0)) := rfl
theorem p193_136 : vm_P 193 136 = some (vm_m193, (136, .iload 5, 2, 0, 0, 0)) := rfl
theorem p193_138 : vm_P 193 138 = some (vm_m193, (138, .iload 6, 2, 0, 0, 0)) := rfl
theorem p193_140 : vm_P 193 140 = some (vm_m193, (140, .invokevirtual 222, 3, 0, 152, 1002)) := rfl
theorem p193_143 : vm_P 193 143 = some (vm_m193, (143, .dup2, 1, 0, 0, 0)) := rfl
theorem p193_144 : vm_P 193 144 = some (vm_m193, (144, .iaload, 1, 0, 0, 0)) := rfl
theorem p193_145 : vm_P 193 145 = some (vm_m193, (145, .aload_n 0, 1, 0, 0, 0)) := rfl
theorem p193_146 : vm_P 193 146 = some (vm_m193, (146, .getfield 55, 3, 10, 21, 0)) := rfl
theorem p193_149 : vm_P 193 149 = some (vm_m193, (149, .iload 5, 2, 0, 0, 0)) := rfl
theorem p193_151 : vm_P 193 151 = some (vm_m193, (151, .iaload, 1, 0, 0, 0)) := rfl
theorem p193_152 : vm_P 193 152 = some (vm_m193, (152, .iadd, 1, 0, 0, 0)) := rfl
theorem p193_153 : vm_P 193 153 = some (vm_m193, (153, .iastore, 1, 0, 0, 0)) := rfl
theorem p193_154 : vm_P 193 154 = some (vm_m193, (154, .iinc 6 1, 3, 0, 0, 0)) := rfl
theorem p193_157 : vm_P 193 157 = some (vm_m193, (157, .goto (-32), 3, 0, 0, 0)) := rfl
theorem p193_160 : vm_P 193 160 = some (vm_m193, (160, .iinc 5 1, 3, 0, 0, 0)) := rfl
theorem p193_163 : vm_P 193 163 = some (vm_m193, (163, .goto (-52), 3, 0, 0, 0)) := rfl
theorem p193_166 : vm_P 193 166 = some (vm_m193, (166, .aload_n 0, 1, 0, 0, 0)) := rfl
theorem p193_167 : vm_P 193 167 = some (vm_m193, (167, .getfield 58, 3, 10, 22, 0)) := rfl
theorem p193_170 : vm_P 193 170 = some (vm_m193, (170, .iconst 0, 1, 0, 0, 0)) := rfl
theorem p193_171 : vm_P 193 171 = some (vm_m193, (171, .aload_n 0, 1, 0, 0, 0)) := rfl
theorem p193_172 : vm_P 193 172 = some (vm_m193, (172, .getfield 55, 3, 10, 21, 0)) := rfl
theorem p193_175 : vm_P 193 175 = some (vm_m193, (175, .iconst 0, 1, 0, 0, 0)) := rfl
theorem p193_176 : vm_P 193 176 = some (vm_m193, (176, .bipush 9, 2, 0, 0, 0)) := rfl
theorem p193_178 : vm_P 193 178 = some (vm_m193, (178, .invokestatic 137, 3, 1, 130, 5)) := rfl
theorem p193_181 : vm_P 193 181 = some (vm_m193, (181, .iinc 4 1, 3, 0, 0, 0)) := rfl
theorem p193_184 : vm_P 193 184 = some (vm_m193, (184, .goto (-106), 3, 0, 0, 0)) := rfl
theorem p193_187 : vm_P 193 187 = some (vm_m193, (187, .aload_n 0, 1, 0, 0, 0)) := rfl
theorem p193_188 : vm_P 193 188 = some (vm_m193, (188, .getfield 55, 3, 10, 21, 0)) := rfl
theorem p193_191 : vm_P 193 191 = some (vm_m193, (191, .aload_n 0, 1, 0, 0, 0)) := rfl
theorem p193_192 : vm_P 193 192 = some (vm_m193, (192, .getfield 16, 3, 10, 2, 0)) := rfl
theorem p193_195 : vm_P 193 195 = some (vm_m193, (195, .iconst 4, 1, 0, 0, 0)) := rfl
theorem p193_196 : vm_P 193 196 = some (vm_m193, (196, .iload_n 1, 1, 0, 0, 0)) := rfl
theorem p193_197 : vm_P 193 197 = some (vm_m193, (197, .iadd, 1, 0, 0, 0)) := rfl
theorem p193_198 : vm_P 193 198 = some (vm_m193, (198, .iaload, 1, 0, 0, 0)) := rfl
theorem p193_199 : vm_P 193 199 = some (vm_m193, (199, .iaload, 1, 0, 0, 0)) := rfl
theorem p193_200 : vm_P 193 200 = some (vm_m193, (200, .ireturn, 1, 0, 0, 0)) := rfl
theorem p194_0 : vm_P 194 0 = some (vm_m194, (0, .lload_n 0, 1, 0, 0, 0)) := rfl
theorem p194_1 : vm_P 194 1 = some (vm_m194, (1, .lstore 5, 2, 0, 0, 0)) := rfl
theorem p194_3 : vm_P 194 3 = some (vm_m194, (3, .lload_n 2, 1, 0, 0, 0)) := rfl
theorem p194_4 : vm_P 194 4 = some (vm_m194, (4, .lstore 7, 2, 0, 0, 0)) := rfl
theorem p194_6 : vm_P 194 6 = some (vm_m194, (6, .lload 7, 2, 0, 0, 0)) := rfl
theorem p194_8 : vm_P 194 8 = some (vm_m194, (8, .lconst 0, 1, 0, 0, 0)) := rfl
theorem p194_9 : vm_P 194 9 = some (vm_m194, (9, .lcmp, 1, 0, 0, 0)) := rfl
theorem p194_10 : vm_P 194 10 = some (vm_m194, (10, .ifCond .eq 21, 3, 0, 0, 0)) := rfl
theorem p194_13 : vm_P 194 13 = some (vm_m194, (13, .lload 5, 2, 0, 0, 0)) := rfl
theorem p194_15 : vm_P 194 15 = some (vm_m194, (15, .lload 7, 2, 0, 0, 0)) := rfl
theorem p194_17 : vm_P 194 17 = some (vm_m194, (17, .lrem, 1, 0, 0, 0)) := rfl
theorem p194_18 : vm_P 194 18 = some (vm_m194, (18, .lstore 9, 2, 0, 0, 0)) := rfl
theorem p194_20 : vm_P 194 20 = some (vm_m194, (20, .lload 7, 2, 0, 0, 0)) := rfl
theorem p194_22 : vm_P 194 22 = some (vm_m194, (22, .lstore 5, 2, 0, 0, 0)) := rfl
theorem p194_24 : vm_P 194 24 = some (vm_m194, (24, .lload 9, 2, 0, 0, 0)) := rfl
theorem p194_26 : vm_P 194 26 = some (vm_m194, (26, .lstore 7, 2, 0, 0, 0)) := rfl
theorem p194_28 : vm_P 194 28 = some (vm_m194, (28, .goto (-22), 3, 0, 0, 0)) := rfl
theorem p194_31 : vm_P 194 31 = some (vm_m194, (31, .iload 4, 2, 0, 0, 0)) := rfl
theorem p194_33 : vm_P 194 33 = some (vm_m194, (33, .ifCond .ne 10, 3, 0, 0, 0)) := rfl
theorem p194_36 : vm_P 194 36 = some (vm_m194, (36, .lload_n 0, 1, 0, 0, 0)) := rfl
theorem p194_37 : vm_P 194 37 = some (vm_m194, (37, .lload 5, 2, 0, 0, 0)) := rfl
theorem p194_39 : vm_P 194 39 = some (vm_m194, (39, .ldiv, 1, 0, 0, 0)) := rfl
theorem p194_40 : vm_P 194 40 = some (vm_m194, (40, .goto 7, 3, 0, 0, 0)) := rfl
theorem p194_43 : vm_P 194 43 = some (vm_m194, (43, .lload_n 2, 1, 0, 0, 0)) := rfl
theorem p194_44 : vm_P 194 44 = some (vm_m194, (44, .lload 5, 2, 0, 0, 0)) := rfl
theorem p194_46 : vm_P 194 46 = some (vm_m194, (46, .ldiv, 1, 0, 0, 0)) := rfl
theorem p194_47 : vm_P 194 47 = some (vm_m194, (47, .l2i, 1, 0, 0, 0)) := rfl
theorem p194_48 : vm_P 194 48 = some (vm_m194, (48, .ireturn, 1, 0, 0, 0)) := rfl
theorem p195_0 : vm_P 195 0 = some (vm_m195, (0, .aload_n 0, 1, 0, 0, 0)) := rfl
theorem p195_1 : vm_P 195 1 = some (vm_m195, (1, .iload_n 1, 1, 0, 0, 0)) := rfl
theorem p195_2 : vm_P 195 2 = some (vm_m195, (2, .invokevirtual 159, 3, 0, 150, 1001)) := rfl
theorem p195_5 : vm_P 195 5 = some (vm_m195, (5, .ifCond .eq 38, 3, 0, 0, 0)) := rfl
theorem p195_8 : vm_P 195 8 = some (vm_m195, (8, .iload_n 2, 1, 0, 0, 0)) := rfl
theorem p195_9 : vm_P 195 9 = some (vm_m195, (9, .i2l, 1, 0, 0, 0)) := rfl
theorem p195_10 : vm_P 195 10 = some (vm_m195, (10, .lconst 0, 1, 0, 0, 0)) := rfl
theorem p195_11 : vm_P 195 11 = some (vm_m195, (11, .ldc2_w 244, 3, 11, 0, 0)) := rfl
theorem p195_14 : vm_P 195 14 = some (vm_m195, (14, .invokestatic 86, 3, 1, 128, 3)) := rfl
theorem p195_17 : vm_P 195 17 = some (vm_m195, (17, .ifCond .eq 26, 3, 0, 0, 0)) := rfl
theorem p195_20 : vm_P 195 20 = some (vm_m195, (20, .iload_n 3, 1, 0, 0, 0)) := rfl
theorem p195_21 : vm_P 195 21 = some (vm_m195, (21, .i2l, 1, 0, 0, 0)) := rfl
theorem p195_22 : vm_P 195 22 = some (vm_m195, (22, .lconst 0, 1, 0, 0, 0)) := rfl
theorem p195_23 : vm_P 195 23 = some (vm_m195, (23, .ldc2_w 246, 3, 12, 0, 0)) := rfl
theorem p195_26 : vm_P 195 26 = some (vm_m195, (26, .invokestatic 86, 3, 1, 128, 3)) := rfl
theorem p195_29 : vm_P 195 29 = some (vm_m195, (29, .ifCond .eq 14, 3, 0, 0, 0)) := rfl
theorem p195_32 : vm_P 195 32 = some (vm_m195, (32, .iload 4, 2, 0, 0, 0)) := rfl
theorem p195_34 : vm_P 195 34 = some (vm_m195, (34, .i2l, 1, 0, 0, 0)) := rfl
theorem p195_35 : vm_P 195 35 = some (vm_m195, (35, .lconst 0, 1, 0, 0, 0)) := rfl
theorem p195_36 : vm_P 195 36 = some (vm_m195, (36, .lconst 1, 1, 0, 0, 0)) := rfl
theorem p195_37 : vm_P 195 37 = some (vm_m195, (37, .invokestatic 86, 3, 1, 128, 3)) := rfl
theorem p195_40 : vm_P 195 40 = some (vm_m195, (40, .ifCond .ne 5, 3, 0, 0, 0)) := rfl
theorem p195_43 : vm_P 195 43 = some (vm_m195, (43, .iconst (-1), 1, 0, 0, 0)) := rfl
theorem p195_44 : vm_P 195 44 = some (vm_m195, (44, .ireturn, 1, 0, 0, 0)) := rfl
theorem p195_45 : vm_P 195 45 = some (vm_m195, (45, .lconst 0, 1, 0, 0, 0)) := rfl
theorem p195_46 : vm_P 195 46 = some (vm_m195, (46, .lstore 5, 2, 0, 0, 0)) := rfl
theorem p195_48 : vm_P 195 48 = some (vm_m195, (48, .lconst 1, 1, 0, 0, 0)) := rfl
theorem p195_49 : vm_P 195 49 = some (vm_m195, (49, .lstore 7, 2, 0, 0, 0)) := rfl
theorem p195_51 : vm_P 195 51 = some (vm_m195, (51, .iconst 0, 1, 0, 0, 0)) := rfl
theorem p195_52 : vm_P 195 52 = some (vm_m195, (52, .istore 9, 2, 0, 0, 0)) := rfl
theorem p195_54 : vm_P 195 54 = some (vm_m195, (54, .iload 9, 2, 0, 0, 0)) := rfl
theorem p195_56 : vm_P 195 56 = some (vm_m195, (56, .iload_n 2, 1, 0, 0, 0)) := rfl
theorem p195_57 : vm_P 195 57 = some (vm_m195, (57, .if_icmp .ge 17, 3, 0, 0, 0)) := rfl
theorem p195_60 : vm_P 195 60 = some (vm_m195, (60, .lload 7, 2, 0, 0, 0)) := rfl
theorem p195_62 : vm_P 195 62 = some (vm_m195, (62, .ldc2_w 246, 3, 12, 0, 0)) := rfl
theorem p195_65 : vm_P 195 65 = some (vm_m195, (65, .lmul, 1, 0, 0, 0)) := rfl
theorem p195_66 : vm_P 195 66 = some (vm_m195, (66, .lstore 7, 2, 0, 0, 0)) := rfl
theorem p195_68 : vm_P 195 68 = some (vm_m195, (68, .iinc 9 1, 3, 0, 0, 0)) := rfl
theorem p195_71 : vm_P 195 71 = some (vm_m195, (71, .goto (-17), 3, 0, 0, 0)) := rfl
theorem p195_74 : vm_P 195 74 = some (vm_m195, (74, .iconst 0, 1, 0, 0, 0)) := rfl
theorem p195_75 : vm_P 195 75 = some (vm_m195, (75, .istore 9, 2, 0, 0, 0)) := rfl
theorem p195_77 : vm_P 195 77 = some (vm_m195, (77, .iload 9, 2, 0, 0, 0)) := rfl
theorem p195_79 : vm_P 195 79 = some (vm_m195, (79, .iconst 1, 1, 0, 0, 0)) := rfl
theorem p195_80 : vm_P 195 80 = some (vm_m195, (80, .iload_n 2, 1, 0, 0, 0)) := rfl
theorem p195_81 : vm_P 195 81 = some (vm_m195, (81, .ishl, 1, 0, 0, 0)) := rfl
theorem p195_82 : vm_P 195 82 = some (vm_m195, (82, .if_icmp .ge 133, 3, 0, 0, 0)) := rfl
theorem p195_85 : vm_P 195 85 = some (vm_m195, (85, .lconst 1, 1, 0, 0, 0)) := rfl
theorem p195_86 : vm_P 195 86 = some (vm_m195, (86, .lstore 10, 2, 0, 0, 0)) := rfl
theorem p195_88 : vm_P 195 88 = some (vm_m195, (88, .aload_n 0, 1, 0, 0, 0)) := rfl
theorem p195_89 : vm_P 195 89 = some (vm_m195, (89, .getfield 16, 3, 10, 2, 0)) := rfl
theorem p195_92 : vm_P 195 92 = some (vm_m195, (92, .iconst 0, 1, 0, 0, 0)) := rfl
theorem p195_93 : vm_P 195 93 = some (vm_m195, (93, .iload_n 1, 1, 0, 0, 0)) := rfl
theorem p195_94 : vm_P 195 94 = some (vm_m195, (94, .iadd, 1, 0, 0, 0)) := rfl
theorem p195_95 : vm_P 195 95 = some (vm_m195, (95, .iaload, 1, 0, 0, 0)) := rfl
theorem p195_96 : vm_P 195 96 = some (vm_m195, (96, .istore 12, 2, 0, 0, 0)) := rfl
theorem p195_98 : vm_P 195 98 = some (vm_m195, (98, .iconst 0, 1, 0, 0, 0)) := rfl
theorem p195_99 : vm_P 195 99 = some (vm_m195, (99, .istore 13, 2, 0, 0, 0)) := rfl
theorem p195_101 : vm_P 195 101 = some (vm_m195, (101, .iload 13, 2, 0, 0, 0)) := rfl
theorem p195_103 : vm_P 195 103 = some (vm_m195, (103, .iload_n 2, 1, 0, 0, 0)) := rfl
theorem p195_104 : vm_P 195 104 = some (vm_m195, (104, .if_icmp .ge 89, 3, 0, 0, 0)) := rfl
theorem p195_107 : vm_P 195 107 = some (vm_m195, (107, .lload 10, 2, 0, 0, 0)) := rfl
theorem p195_109 : vm_P 195 109 = some (vm_m195, (109, .iload 9, 2, 0, 0, 0)) := rfl
theorem p195_111 : vm_P 195 111 = some (vm_m195, (111, .iload 13, 2, 0, 0, 0)) := rfl
theorem p195_113 : vm_P 195 113 = some (vm_m195, (113, .invokestatic 237, 3, 1, 129, 2)) := rfl
theorem p195_116 : vm_P 195 116 = some (vm_m195, (116, .ifCond .eq 8, 3, 0, 0, 0)) := rfl
theorem p195_119 : vm_P 195 119 = some (vm_m195, (119, .iload_n 3, 1, 0, 0, 0)) := rfl
theorem p195_120 : vm_P 195 120 = some (vm_m195, (120, .i2l, 1, 0, 0, 0)) := rfl
theorem p195_121 : vm_P 195 121 = some (vm_m195, (121, .goto 8, 3, 0, 0, 0)) := rfl
theorem p195_124 : vm_P 195 124 = some (vm_m195, (124, .bipush 10, 2, 0, 0, 0)) := rfl
theorem p195_126 : vm_P 195 126 = some (vm_m195, (126, .iload_n 3, 1, 0, 0, 0)) := rfl
theorem p195_127 : vm_P 195 127 = some (vm_m195, (127, .isub, 1, 0, 0, 0)) := rfl
theorem p195_128 : vm_P 195 128 = some (vm_m195, (128, .i2l, 1, 0, 0, 0)) := rfl
theorem p195_129 : vm_P 195 129 = some (vm_m195, (129, .lmul, 1, 0, 0, 0)) := rfl
theorem p195_130 : vm_P 195 130 = some (vm_m195, (130, .lstore 10, 2, 0, 0, 0)) := rfl
theorem p195_132 : vm_P 195 132 = some (vm_m195, (132, .iload 12, 2, 0, 0, 0)) := rfl
theorem p195_134 : vm_P 195 134 = some (vm_m195, (134, .ifCond .ne 7, 3, 0, 0, 0)) := rfl
theorem p195_137 : vm_P 195 137 = some (vm_m195, (137, .iconst 0, 1, 0, 0, 0)) := rfl
theorem p195_138 : vm_P 195 138 = some (vm_m195, (138, .goto 47, 3, 0, 0, 0)) := rfl
theorem p195_141 : vm_P 195 141 = some (vm_m195, (141, .iload 12, 2, 0, 0, 0)) := rfl
theorem p195_143 : vm_P 195 143 = some (vm_m195, (143, .aload_n 0, 1, 0, 0, 0)) := rfl
theorem p195_144 : vm_P 195 144 = some (vm_m195, (144, .getfield 16, 3, 10, 2, 0)) := rfl
theorem p195_147 : vm_P 195 147 = some (vm_m195, (147, .bipush 24, 2, 0, 0, 0)) := rfl
theorem p195_149 : vm_P 195 149 = some (vm_m195, (149, .iload_n 1, 1, 0, 0, 0)) := rfl
theorem p195_150 : vm_P 195 150 = some (vm_m195, (150, .iadd, 1, 0, 0, 0)) := rfl
theorem p195_151 : vm_P 195 151 = some (vm_m195, (151, .iaload, 1, 0, 0, 0)) := rfl
theorem p195_152 : vm_P 195 152 = some (vm_m195, (152, .aload_n 0, 1, 0, 0, 0)) := rfl
theorem p195_153 : vm_P 195 153 = some (vm_m195, (153, .aload_n 0, 1, 0, 0, 0)) := rfl
theorem p195_154 : vm_P 195 154 = some (vm_m195, (154, .getfield 16, 3, 10, 2, 0)) := rfl
theorem p195_157 : vm_P 195 157 = some (vm_m195, (157, .bipush 32, 2, 0, 0, 0)) := rfl
theorem p195_159 : vm_P 195 159 = some (vm_m195, (159, .iaload, 1, 0, 0, 0)) := rfl
theorem p195_160 : vm_P 195 160 = some (vm_m195, (160, .iload 13, 2, 0, 0, 0)) := rfl
theorem p195_162 : vm_P 195 162 = some (vm_m195, (162, .iadd, 1, 0, 0, 0)) := rfl
theorem p195_163 : vm_P 195 163 = some (vm_m195, (163, .invokevirtual 155, 3, 0, 153, 1001)) := rfl
theorem p195_166 : vm_P 195 166 = some (vm_m195, (166, .iload 9, 2, 0, 0, 0)) := rfl
theorem p195_168 : vm_P 195 168 = some (vm_m195, (168, .iload 13, 2, 0, 0, 0)) := rfl
theorem p195_170 : vm_P 195 170 = some (vm_m195, (170, .invokestatic 237, 3, 1, 129, 2)) := rfl
theorem p195_173 : vm_P 195 173 = some (vm_m195, (173, .ifCond .eq 7, 3, 0, 0, 0)) := rfl
theorem p195_176 : vm_P 195 176 = some (vm_m195, (176, .iconst 2, 1, 0, 0, 0)) := rfl
theorem p195_177 : vm_P 195 177 = some (vm_m195, (177, .goto 4, 3, 0, 0, 0)) := rfl
theorem p195_180 : vm_P 195 180 = some (vm_m195, (180, .iconst 0, 1, 0, 0, 0)) := rfl
theorem p195_181 : vm_P 195 181 = some (vm_m195, (181, .iadd, 1, 0, 0, 0)) := rfl
theorem p195_182 : vm_P 195 182 = some (vm_m195, (182, .invokestatic 168, 3, 1, 158, 3)) := rfl
theorem p195_185 : vm_P 195 185 = some (vm_m195, (185, .istore 12, 2, 0, 0, 0)) := rfl
theorem p195_187 : vm_P 195 187 = some (vm_m195, (187, .iinc 13 1, 3, 0, 0, 0)) := rfl
theorem p195_190 : vm_P 195 190 = some (vm_m195, (190, .goto (-89), 3, 0, 0, 0)) := rfl
theorem p195_193 : vm_P 195 193 = some (vm_m195, (193, .lload 5, 2, 0, 0, 0)) := rfl
theorem p195_195 : vm_P 195 195 = some (vm_m195, (195, .iload 12, 2, 0, 0, 0)) := rfl
theorem p195_197 : vm_P 195 197 = some (vm_m195, (197, .ifCond .le 8, 3, 0, 0, 0)) := rfl
theorem p195_200 : vm_P 195 200 = some (vm_m195, (200, .lload 10, 2, 0, 0, 0)) := rfl
theorem p195_202 : vm_P 195 202 = some (vm_m195, (202, .goto 4, 3, 0, 0, 0)) := rfl
theorem p195_205 : vm_P 195 205 = some (vm_m195, (205, .lconst 0, 1, 0, 0, 0)) := rfl
theorem p195_206 : vm_P 195 206 = some (vm_m195, (206, .ladd, 1, 0, 0, 0)) := rfl
theorem p195_207 : vm_P 195 207 = some (vm_m195, (207, .lstore 5, 2, 0, 0, 0)) := rfl
theorem p195_209 : vm_P 195 209 = some (vm_m195, (209, .iinc 9 1, 3, 0, 0, 0)) := rfl
theorem p195_212 : vm_P 195 212 = some (vm_m195, (212, .goto (-135), 3, 0, 0, 0)) := rfl
theorem p195_215 : vm_P 195 215 = some (vm_m195, (215, .lload 5, 2, 0, 0, 0)) := rfl
theorem p195_217 : vm_P 195 217 = some (vm_m195, (217, .lload 7, 2, 0, 0, 0)) := rfl
theorem p195_219 : vm_P 195 219 = some (vm_m195, (219, .iload 4, 2, 0, 0, 0)) := rfl
theorem p195_221 : vm_P 195 221 = some (vm_m195, (221, .invokestatic 248, 3, 1, 194, 3)) := rfl
theorem p195_224 : vm_P 195 224 = some (vm_m195, (224, .ireturn, 1, 0, 0, 0)) := rfl
theorem p196_0 : vm_P 196 0 = some (vm_m196, (0, .iconst 0, 1, 0, 0, 0)) := rfl
theorem p196_1 : vm_P 196 1 = some (vm_m196, (1, .istore_n 1, 1, 0, 0, 0)) := rfl
theorem p196_2 : vm_P 196 2 = some (vm_m196, (2, .iconst 0, 1, 0, 0, 0)) := rfl
theorem p196_3 : vm_P 196 3 = some (vm_m196, (3, .istore_n 2, 1, 0, 0, 0)) := rfl
theorem p196_4 : vm_P 196 4 = some (vm_m196, (4, .iload_n 2, 1, 0, 0, 0)) := rfl
theorem p196_5 : vm_P 196 5 = some (vm_m196, (5, .iconst 4, 1, 0, 0, 0)) := rfl
theorem p196_6 : vm_P 196 6 = some (vm_m196, (6, .if_icmp .ge 18, 3, 0, 0, 0)) := rfl
theorem p196_9 : vm_P 196 9 = some (vm_m196, (9, .iload_n 1, 1, 0, 0, 0)) := rfl
theorem p196_10 : vm_P 196 10 = some (vm_m196, (10, .aload_n 0, 1, 0, 0, 0)) := rfl
theorem p196_11 : vm_P 196 11 = some (vm_m196, (11, .bipush 28, 2, 0, 0, 0)) := rfl
theorem p196_13 : vm_P 196 13 = some (vm_m196, (13, .iload_n 2, 1, 0, 0, 0)) := rfl
theorem p196_14 : vm_P 196 14 = some (vm_m196, (14, .iadd, 1, 0, 0, 0)) := rfl
theorem p196_15 : vm_P 196 15 = some (vm_m196, (15, .iaload, 1, 0, 0, 0)) := rfl
theorem p196_16 : vm_P 196 16 = some (vm_m196, (16, .iadd, 1, 0, 0, 0)) := rfl
theorem p196_17 : vm_P 196 17 = some (vm_m196, (17, .istore_n 1, 1, 0, 0, 0)) := rfl
theorem p196_18 : vm_P 196 18 = some (vm_m196, (18, .iinc 2 1, 3, 0, 0, 0)) := rfl
theorem p196_21 : vm_P 196 21 = some (vm_m196, (21, .goto (-17), 3, 0, 0, 0)) := rfl
theorem p196_24 : vm_P 196 24 = some (vm_m196, (24, .iload_n 1, 1, 0, 0, 0)) := rfl
theorem p196_25 : vm_P 196 25 = some (vm_m196, (25, .ireturn, 1, 0, 0, 0)) := rfl
theorem p197_0 : vm_P 197 0 = some (vm_m197, (0, .iload_n 1, 1, 0, 0, 0)) := rfl
theorem p197_1 : vm_P 197 1 = some (vm_m197, (1, .i2l, 1, 0, 0, 0)) := rfl
theorem p197_2 : vm_P 197 2 = some (vm_m197, (2, .lconst 0, 1, 0, 0, 0)) := rfl
theorem p197_3 : vm_P 197 3 = some (vm_m197, (3, .ldc2_w 252, 3, 13, 0, 0)) := rfl
theorem p197_6 : vm_P 197 6 = some (vm_m197, (6, .invokestatic 86, 3, 1, 128, 3)) := rfl
theorem p197_9 : vm_P 197 9 = some (vm_m197, (9, .ifCond .eq 25, 3, 0, 0, 0)) := rfl
theorem p197_12 : vm_P 197 12 = some (vm_m197, (12, .iload_n 2, 1, 0, 0, 0)) := rfl
theorem p197_13 : vm_P 197 13 = some (vm_m197, (13, .i2l, 1, 0, 0, 0)) := rfl
theorem p197_14 : vm_P 197 14 = some (vm_m197, (14, .lconst 1, 1, 0, 0, 0)) := rfl
theorem p197_15 : vm_P 197 15 = some (vm_m197, (15, .ldc2_w 254, 3, 14, 0, 0)) := rfl
theorem p197_18 : vm_P 197 18 = some (vm_m197, (18, .invokestatic 86, 3, 1, 128, 3)) := rfl
theorem p197_21 : vm_P 197 21 = some (vm_m197, (21, .ifCond .eq 13, 3, 0, 0, 0)) := rfl
theorem p197_24 : vm_P 197 24 = some (vm_m197, (24, .iload_n 3, 1, 0, 0, 0)) := rfl
theorem p197_25 : vm_P 197 25 = some (vm_m197, (25, .i2l, 1, 0, 0, 0)) := rfl
theorem p197_26 : vm_P 197 26 = some (vm_m197, (26, .lconst 0, 1, 0, 0, 0)) := rfl
theorem p197_27 : vm_P 197 27 = some (vm_m197, (27, .lconst 1, 1, 0, 0, 0)) := rfl
theorem p197_28 : vm_P 197 28 = some (vm_m197, (28, .invokestatic 86, 3, 1, 128, 3)) := rfl
theorem p197_31 : vm_P 197 31 = some (vm_m197, (31, .ifCond .ne 5, 3, 0, 0, 0)) := rfl
theorem p197_34 : vm_P 197 34 = some (vm_m197, (34, .iconst (-1), 1, 0, 0, 0)) := rfl
theorem p197_35 : vm_P 197 35 = some (vm_m197, (35, .ireturn, 1, 0, 0, 0)) := rfl
theorem p197_36 : vm_P 197 36 = some (vm_m197, (36, .aload_n 0, 1, 0, 0, 0)) := rfl
theorem p197_37 : vm_P 197 37 = some (vm_m197, (37, .getfield 16, 3, 10, 2, 0)) := rfl
theorem p197_40 : vm_P 197 40 = some (vm_m197, (40, .iconst 0, 1, 0, 0, 0)) := rfl
theorem p197_41 : vm_P 197 41 = some (vm_m197, (41, .aload_n 0, 1, 0, 0, 0)) := rfl
theorem p197_42 : vm_P 197 42 = some (vm_m197, (42, .getfield 19, 3, 10, 3, 0)) := rfl
theorem p197_45 : vm_P 197 45 = some (vm_m197, (45, .iconst 0, 1, 0, 0, 0)) := rfl
theorem p197_46 : vm_P 197 46 = some (vm_m197, (46, .bipush 33, 2, 0, 0, 0)) := rfl
theorem p197_48 : vm_P 197 48 = some (vm_m197, (48, .invokestatic 137, 3, 1, 130, 5)) := rfl
theorem p197_51 : vm_P 197 51 = some (vm_m197, (51, .iconst 0, 1, 0, 0, 0)) := rfl
theorem p197_52 : vm_P 197 52 = some (vm_m197, (52, .istore 4, 2, 0, 0, 0)) := rfl
theorem p197_54 : vm_P 197 54 = some (vm_m197, (54, .iload 4, 2, 0, 0, 0)) := rfl
theorem p197_56 : vm_P 197 56 = some (vm_m197, (56, .iload_n 2, 1, 0, 0, 0)) := rfl
theorem p197_57 : vm_P 197 57 = some (vm_m197, (57, .if_icmp .ge 166, 3, 0, 0, 0)) := rfl
theorem p197_60 : vm_P 197 60 = some (vm_m197, (60, .ldc2_w 256, 3, 0, 0, 0)) := rfl
theorem p197_63 : vm_P 197 63 = some (vm_m197, (63, .iload_n 1, 1, 0, 0, 0)) := rfl
theorem p197_64 : vm_P 197 64 = some (vm_m197, (64, .i2l, 1, 0, 0, 0)) := rfl
theorem p197_65 : vm_P 197 65 = some (vm_m197, (65, .lmul, 1, 0, 0, 0)) := rfl
theorem p197_66 : vm_P 197 66 = some (vm_m197, (66, .ldc2_w 258, 3, 1, 0, 0)) := rfl
theorem p197_69 : vm_P 197 69 = some (vm_m197, (69, .iload 4, 2, 0, 0, 0)) := rfl
theorem p197_71 : vm_P 197 71 = some (vm_m197, (71, .i2l, 1, 0, 0, 0)) := rfl
theorem p197_72 : vm_P 197 72 = some (vm_m197, (72, .lmul, 1, 0, 0, 0)) := rfl
theorem p197_73 : vm_P 197 73 = some (vm_m197, (73, .ladd, 1, 0, 0, 0)) := rfl
theorem p197_74 : vm_P 197 74 = some (vm_m197, (74, .lconst 1, 1, 0, 0, 0)) := rfl
theorem p197_75 : vm_P 197 75 = some (vm_m197, (75, .ladd, 1, 0, 0, 0)) := rfl
theorem p197_76 : vm_P 197 76 = some (vm_m197, (76, .lstore 5, 2, 0, 0, 0)) := rfl
theorem p197_78 : vm_P 197 78 = some (vm_m197, (78, .lload 5, 2, 0, 0, 0)) := rfl
theorem p197_80 : vm_P 197 80 = some (vm_m197, (80, .lload 5, 2, 0, 0, 0)) := rfl
theorem p197_82 : vm_P 197 82 = some (vm_m197, (82, .lmul, 1, 0, 0, 0)) := rfl
theorem p197_83 : vm_P 197 83 = some (vm_m197, (83, .ldc2_w 260, 3, 2, 0, 0)) := rfl
theorem p197_86 : vm_P 197 86 = some (vm_m197, (86, .lrem, 1, 0, 0, 0)) := rfl
theorem p197_87 : vm_P 197 87 = some (vm_m197, (87, .l2i, 1, 0, 0, 0)) := rfl
theorem p197_88 : vm_P 197 88 = some (vm_m197, (88, .istore 7, 2, 0, 0, 0)) := rfl
theorem p197_90 : vm_P 197 90 = some (vm_m197, (90, .iload 7, 2, 0, 0, 0)) := rfl
theorem p197_92 : vm_P 197 92 = some (vm_m197, (92, .bipush 8, 2, 0, 0, 0)) := rfl
theorem p197_94 : vm_P 197 94 = some (vm_m197, (94, .irem, 1, 0, 0, 0)) := rfl
theorem p197_95 : vm_P 197 95 = some (vm_m197, (95, .istore 8, 2, 0, 0, 0)) := rfl
theorem p197_97 : vm_P 197 97 = some (vm_m197, (97, .iload 7, 2, 0, 0, 0)) := rfl
theorem p197_99 : vm_P 197 99 = some (vm_m197, (99, .bipush 8, 2, 0, 0, 0)) := rfl
theorem p197_101 : vm_P 197 101 = some (vm_m197, (101, .idiv, 1, 0, 0, 0)) := rfl
theorem p197_102 : vm_P 197 102 = some (vm_m197, (102, .aload_n 0, 1, 0, 0, 0)) := rfl
theorem p197_103 : vm_P 197 103 = some (vm_m197, (103, .getfield 7, 3, 10, 0, 0)) := rfl
theorem p197_106 : vm_P 197 106 = some (vm_m197, (106, .iconst 2, 1, 0, 0, 0)) := rfl
theorem p197_107 : vm_P 197 107 = some (vm_m197, (107, .iaload, 1, 0, 0, 0)) := rfl
theorem p197_108 : vm_P 197 108 = some (vm_m197, (108, .irem, 1, 0, 0, 0)) := rfl
theorem p197_109 : vm_P 197 109 = some (vm_m197, (109, .istore 9, 2, 0, 0, 0)) := rfl
theorem p197_111 : vm_P 197 111 = some (vm_m197, (111, .iload 7, 2, 0, 0, 0)) := rfl
theorem p197_113 : vm_P 197 113 = some (vm_m197, (113, .bipush 64, 2, 0, 0, 0)) := rfl
theorem p197_115 : vm_P 197 115 = some (vm_m197, (115, .idiv, 1, 0, 0, 0)) := rfl
theorem p197_116 : vm_P 197 116 = some (vm_m197, (116, .aload_n 0, 1, 0, 0, 0)) := rfl
theorem p197_117 : vm_P 197 117 = some (vm_m197, (117, .getfield 7, 3, 10, 0, 0)) := rfl
theorem p197_120 : vm_P 197 120 = some (vm_m197, (120, .iconst 2, 1, 0, 0, 0)) := rfl
theorem p197_121 : vm_P 197 121 = some (vm_m197, (121, .iaload, 1, 0, 0, 0)) := rfl
theorem p197_122 : vm_P 197 122 = some (vm_m197, (122, .irem, 1, 0, 0, 0)) := rfl
theorem p197_123 : vm_P 197 123 = some (vm_m197, (123, .istore 10, 2, 0, 0, 0)) := rfl
theorem p197_125 : vm_P 197 125 = some (vm_m197, (125, .iload 7, 2, 0, 0, 0)) := rfl
theorem p197_127 : vm_P 197 127 = some (vm_m197, (127, .bipush 64, 2, 0, 0, 0)) := rfl
theorem p197_129 : vm_P 197 129 = some (vm_m197, (129, .idiv, 1, 0, 0, 0)) := rfl
theorem p197_130 : vm_P 197 130 = some (vm_m197, (130, .iconst 4, 1, 0, 0, 0)) := rfl
theorem p197_131 : vm_P 197 131 = some (vm_m197, (131, .irem, 1, 0, 0, 0)) := rfl
theorem p197_132 : vm_P 197 132 = some (vm_m197, (132, .istore 11, 2, 0, 0, 0)) := rfl
theorem p197_134 : vm_P 197 134 = some (vm_m197, (134, .iload 8, 2, 0, 0, 0)) := rfl
theorem p197_136 : vm_P 197 136 = some (vm_m197, (136, .iconst 5, 1, 0, 0, 0)) := rfl
theorem p197_137 : vm_P 197 137 = some (vm_m197, (137, .if_icmp .le 14, 3, 0, 0, 0)) := rfl
theorem p197_140 : vm_P 197 140 = some (vm_m197, (140, .aload_n 0, 1, 0, 0, 0)) := rfl
theorem p197_141 : vm_P 197 141 = some (vm_m197, (141, .aload_n 0, 1, 0, 0, 0)) := rfl
theorem p197_142 : vm_P 197 142 = some (vm_m197, (142, .getfield 19, 3, 10, 3, 0)) := rfl
theorem p197_145 : vm_P 197 145 = some (vm_m197, (145, .invokevirtual 185, 3, 0, 163, 1001)) := rfl
theorem p197_148 : vm_P 197 148 = some (vm_m197, (148, .goto 69, 3, 0, 0, 0)) := rfl
theorem p197_151 : vm_P 197 151 = some (vm_m197, (151, .iload 8, 2, 0, 0, 0)) := rfl
theorem p197_153 : vm_P 197 153 = some (vm_m197, (153, .iconst 5, 1, 0, 0, 0)) := rfl
theorem p197_154 : vm_P 197 154 = some (vm_m197, (154, .if_icmp .ne 31, 3, 0, 0, 0)) := rfl
theorem p197_157 : vm_P 197 157 = some (vm_m197, (157, .aload_n 0, 1, 0, 0, 0)) := rfl
theorem p197_158 : vm_P 197 158 = some (vm_m197, (158, .getfield 19, 3, 10, 3, 0)) := rfl
theorem p197_161 : vm_P 197 161 = some (vm_m197, (161, .iload 9, 2, 0, 0, 0)) := rfl
theorem p197_163 : vm_P 197 163 = some (vm_m197, (163, .iload 10, 2, 0, 0, 0)) := rfl
theorem p197_165 : vm_P 197 165 = some (vm_m197, (165, .invokestatic 193, 3, 1, 168, 3)) := rfl
theorem p197_168 : vm_P 197 168 = some (vm_m197, (168, .ifCond .eq 17, 3, 0, 0, 0)) := rfl
theorem p197_171 : vm_P 197 171 = some (vm_m197, (171, .aload_n 0, 1, 0, 0, 0)) := rfl
theorem p197_172 : vm_P 197 172 = some (vm_m197, (172, .getfield 19, 3, 10, 3, 0)) := rfl
theorem p197_175 : vm_P 197 175 = some (vm_m197, (175, .iload 9, 2, 0, 0, 0)) := rfl
theorem p197_177 : vm_P 197 177 = some (vm_m197, (177, .iload 10, 2, 0, 0, 0)) := rfl
theorem p197_179 : vm_P 197 179 = some (vm_m197, (179, .invokestatic 196, 3, 1, 169, 3)) := rfl
theorem p197_182 : vm_P 197 182 = some (vm_m197, (182, .goto 35, 3, 0, 0, 0)) := rfl
theorem p197_185 : vm_P 197 185 = some (vm_m197, (185, .iload 8, 2, 0, 0, 0)) := rfl
theorem p197_187 : vm_P 197 187 = some (vm_m197, (187, .iconst 5, 1, 0, 0, 0)) := rfl
theorem p197_188 : vm_P 197 188 = some (vm_m197, (188, .if_icmp .ge 29, 3, 0, 0, 0)) := rfl
theorem p197_191 : vm_P 197 191 = some (vm_m197, (191, .aload_n 0, 1, 0, 0, 0)) := rfl
theorem p197_192 : vm_P 197 192 = some (vm_m197, (192, .getfield 19, 3, 10, 3, 0)) := rfl
theorem p197_195 : vm_P 197 195 = some (vm_m197, (195, .iload 9, 2, 0, 0, 0)) := rfl
theorem p197_197 : vm_P 197 197 = some (vm_m197, (197, .iload 11, 2, 0, 0, 0)) := rfl
theorem p197_199 : vm_P 197 199 = some (vm_m197, (199, .invokestatic 172, 3, 1, 161, 3)) := rfl
theorem p197_202 : vm_P 197 202 = some (vm_m197, (202, .ifCond .eq 15, 3, 0, 0, 0)) := rfl
theorem p197_205 : vm_P 197 205 = some (vm_m197, (205, .aload_n 0, 1, 0, 0, 0)) := rfl
theorem p197_206 : vm_P 197 206 = some (vm_m197, (206, .aload_n 0, 1, 0, 0, 0)) := rfl
theorem p197_207 : vm_P 197 207 = some (vm_m197, (207, .getfield 19, 3, 10, 3, 0)) := rfl
theorem p197_210 : vm_P 197 210 = some (vm_m197, (210, .iload 9, 2, 0, 0, 0)) := rfl
theorem p197_212 : vm_P 197 212 = some (vm_m197, (212, .iload 11, 2, 0, 0, 0)) := rfl
theorem p197_214 : vm_P 197 214 = some (vm_m197, (214, .invokevirtual 179, 3, 0, 162, 1003)) := rfl
theorem p197_217 : vm_P 197 217 = some (vm_m197, (217, .iinc 4 1, 3, 0, 0, 0)) := rfl
theorem p197_220 : vm_P 197 220 = some (vm_m197, (220, .goto (-166), 3, 0, 0, 0)) := rfl
theorem p197_223 : vm_P 197 223 = some (vm_m197, (223, .iload_n 3, 1, 0, 0, 0)) := rfl
theorem p197_224 : vm_P 197 224 = some (vm_m197, (224, .ifCond .ne 14, 3, 0, 0, 0)) := rfl
theorem p197_227 : vm_P 197 227 = some (vm_m197, (227, .aload_n 0, 1, 0, 0, 0)) := rfl
theorem p197_228 : vm_P 197 228 = some (vm_m197, (228, .aload_n 0, 1, 0, 0, 0)) := rfl
theorem p197_229 : vm_P 197 229 = some (vm_m197, (229, .getfield 19, 3, 10, 3, 0)) := rfl
theorem p197_232 : vm_P 197 232 = some (vm_m197, (232, .invokevirtual 189, 3, 0, 164, 1001)) := rfl
theorem p197_235 : vm_P 197 235 = some (vm_m197, (235, .goto 18, 3, 0, 0, 0)) := rfl
theorem p197_238 : vm_P 197 238 = some (vm_m197, (238, .aload_n 0, 1, 0, 0, 0)) := rfl
theorem p197_239 : vm_P 197 239 = some (vm_m197, (239, .getfield 19, 3, 10, 3, 0)) := rfl
theorem p197_242 : vm_P 197 242 = some (vm_m197, (242, .invokestatic 262, 3, 1, 196, 1)) := rfl
theorem p197_245 : vm_P 197 245 = some (vm_m197, (245, .aload_n 0, 1, 0, 0, 0)) := rfl
theorem p197_246 : vm_P 197 246 = some (vm_m197, (246, .getfield 16, 3, 10, 2, 0)) := rfl
theorem p197_249 : vm_P 197 249 = some (vm_m197, (249, .invokestatic 262, 3, 1, 196, 1)) := rfl
theorem p197_252 : vm_P 197 252 = some (vm_m197, (252, .isub, 1, 0, 0, 0)) := rfl
theorem p197_253 : vm_P 197 253 = some (vm_m197, (253, .ireturn, 1, 0, 0, 0)) := rfl
theorem p198_0 : vm_P 198 0 = some (vm_m198, (0, .aload_n 0, 1, 0, 0, 0)) := rfl
theorem p198_1 : vm_P 198 1 = some (vm_m198, (1, .getfield 76, 3, 10, 7, 0)) := rfl
theorem p198_4 : vm_P 198 4 = some (vm_m198, (4, .iconst 2, 1, 0, 0, 0)) := rfl
theorem p198_5 : vm_P 198 5 = some (vm_m198, (5, .if_icmp .ne 6, 3, 0, 0, 0)) := rfl
theorem p198_8 : vm_P 198 8 = some (vm_m198, (8, .bipush (-3), 2, 0, 0, 0)) := rfl
theorem p198_10 : vm_P 198 10 = some (vm_m198, (10, .ireturn, 1, 0, 0, 0)) := rfl
theorem p198_11 : vm_P 198 11 = some (vm_m198, (11, .aload_n 0, 1, 0, 0, 0)) := rfl
theorem p198_12 : vm_P 198 12 = some (vm_m198, (12, .getfield 16, 3, 10, 2, 0)) := rfl
theorem p198_15 : vm_P 198 15 = some (vm_m198, (15, .iconst 0, 1, 0, 0, 0)) := rfl
theorem p198_16 : vm_P 198 16 = some (vm_m198, (16, .aload_n 0, 1, 0, 0, 0)) := rfl
theorem p198_17 : vm_P 198 17 = some (vm_m198, (17, .getfield 25, 3, 10, 6, 0)) := rfl
theorem p198_20 : vm_P 198 20 = some (vm_m198, (20, .bipush 33, 2, 0, 0, 0)) := rfl
theorem p198_22 : vm_P 198 22 = some (vm_m198, (22, .aload_n 0, 1, 0, 0, 0)) := rfl
theorem p198_23 : vm_P 198 23 = some (vm_m198, (23, .getfield 76, 3, 10, 7, 0)) := rfl
theorem p198_26 : vm_P 198 26 = some (vm_m198, (26, .imul, 1, 0, 0, 0)) := rfl
theorem p198_27 : vm_P 198 27 = some (vm_m198, (27, .bipush 33, 2, 0, 0, 0)) := rfl
theorem p198_29 : vm_P 198 29 = some (vm_m198, (29, .invokestatic 137, 3, 1, 130, 5)) := rfl
theorem p198_32 : vm_P 198 32 = some (vm_m198, (32, .aload_n 0, 1, 0, 0, 0)) := rfl
theorem p198_33 : vm_P 198 33 = some (vm_m198, (33, .dup, 1, 0, 0, 0)) := rfl
theorem p198_34 : vm_P 198 34 = some (vm_m198, (34, .getfield 76, 3, 10, 7, 0)) := rfl
theorem p198_37 : vm_P 198 37 = some (vm_m198, (37, .iconst 1, 1, 0, 0, 0)) := rfl
theorem p198_38 : vm_P 198 38 = some (vm_m198, (38, .iadd, 1, 0, 0, 0)) := rfl
theorem p198_39 : vm_P 198 39 = some (vm_m198, (39, .putfield 76, 3, 10, 7, 0)) := rfl
theorem p198_42 : vm_P 198 42 = some (vm_m198, (42, .aload_n 0, 1, 0, 0, 0)) := rfl
theorem p198_43 : vm_P 198 43 = some (vm_m198, (43, .getfield 76, 3, 10, 7, 0)) := rfl
theorem p198_46 : vm_P 198 46 = some (vm_m198, (46, .ireturn, 1, 0, 0, 0)) := rfl
theorem p199_0 : vm_P 199 0 = some (vm_m199, (0, .aload_n 0, 1, 0, 0, 0)) := rfl
theorem p199_1 : vm_P 199 1 = some (vm_m199, (1, .getfield 76, 3, 10, 7, 0)) := rfl
theorem p199_4 : vm_P 199 4 = some (vm_m199, (4, .ifCond .ne 6, 3, 0, 0, 0)) := rfl
theorem p199_7 : vm_P 199 7 = some (vm_m199, (7, .bipush (-2), 2, 0, 0, 0)) := rfl
theorem p199_9 : vm_P 199 9 = some (vm_m199, (9, .ireturn, 1, 0, 0, 0)) := rfl
theorem p199_10 : vm_P 199 10 = some (vm_m199, (10, .aload_n 0, 1, 0, 0, 0)) := rfl
theorem p199_11 : vm_P 199 11 = some (vm_m199, (11, .dup, 1, 0, 0, 0)) := rfl
theorem p199_12 : vm_P 199 12 = some (vm_m199, (12, .getfield 76, 3, 10, 7, 0)) := rfl
theorem p199_15 : vm_P 199 15 = some (vm_m199, (15, .iconst 1, 1, 0, 0, 0)) := rfl
theorem p199_16 : vm_P 199 16 = some (vm_m199, (16, .isub, 1, 0, 0, 0)) := rfl
theorem p199_17 : vm_P 199 17 = some (vm_m199, (17, .putfield 76, 3, 10, 7, 0)) := rfl
theorem p199_20 : vm_P 199 20 = some (vm_m199, (20, .aload_n 0, 1, 0, 0, 0)) := rfl
theorem p199_21 : vm_P 199 21 = some (vm_m199, (21, .getfield 25, 3, 10, 6, 0)) := rfl
theorem p199_24 : vm_P 199 24 = some (vm_m199, (24, .bipush 33, 2, 0, 0, 0)) := rfl
theorem p199_26 : vm_P 199 26 = some (vm_m199, (26, .aload_n 0, 1, 0, 0, 0)) := rfl
theorem p199_27 : vm_P 199 27 = some (vm_m199, (27, .getfield 76, 3, 10, 7, 0)) := rfl
theorem p199_30 : vm_P 199 30 = some (vm_m199, (30, .imul, 1, 0, 0, 0)) := rfl
theorem p199_31 : vm_P 199 31 = some (vm_m199, (31, .aload_n 0, 1, 0, 0, 0)) := rfl
theorem p199_32 : vm_P 199 32 = some (vm_m199, (32, .getfield 16, 3, 10, 2, 0)) := rfl
theorem p199_35 : vm_P 199 35 = some (vm_m199, (35, .iconst 0, 1, 0, 0, 0)) := rfl
theorem p199_36 : vm_P 199 36 = some (vm_m199, (36, .bipush 33, 2, 0, 0, 0)) := rfl
theorem p199_38 : vm_P 199 38 = some (vm_m199, (38, .invokestatic 137, 3, 1, 130, 5)) := rfl
theorem p199_41 : vm_P 199 41 = some (vm_m199, (41, .aload_n 0, 1, 0, 0, 0)) := rfl
theorem p199_42 : vm_P 199 42 = some (vm_m199, (42, .iconst 0, 1, 0, 0, 0)) := rfl
theorem p199_43 : vm_P 199 43 = some (vm_m199, (43, .putfield 72, 3, 10, 5, 0)) := rfl
theorem p199_46 : vm_P 199 46 = some (vm_m199, (46, .aload_n 0, 1, 0, 0, 0)) := rfl
theorem p199_47 : vm_P 199 47 = some (vm_m199, (47, .getfield 76, 3, 10, 7, 0)) := rfl
theorem p199_50 : vm_P 199 50 = some (vm_m199, (50, .ireturn, 1, 0, 0, 0)) := rfl
theorem p200_0 : vm_P 200 0 = some (vm_m200, (0, .iconst 0, 1, 0, 0, 0)) := rfl
theorem p200_1 : vm_P 200 1 = some (vm_m200, (1, .istore_n 1, 1, 0, 0, 0)) := rfl
theorem p200_2 : vm_P 200 2 = some (vm_m200, (2, .iconst 0, 1, 0, 0, 0)) := rfl
theorem p200_3 : vm_P 200 3 = some (vm_m200, (3, .istore_n 2, 1, 0, 0, 0)) := rfl
theorem p200_4 : vm_P 200 4 = some (vm_m200, (4, .iload_n 2, 1, 0, 0, 0)) := rfl
theorem p200_5 : vm_P 200 5 = some (vm_m200, (5, .bipush 16, 2, 0, 0, 0)) := rfl
theorem p200_7 : vm_P 200 7 = some (vm_m200, (7, .if_icmp .ge 21, 3, 0, 0, 0)) := rfl
theorem p200_10 : vm_P 200 10 = some (vm_m200, (10, .iload_n 1, 1, 0, 0, 0)) := rfl
theorem p200_11 : vm_P 200 11 = some (vm_m200, (11, .aload_n 0, 1, 0, 0, 0)) := rfl
theorem p200_12 : vm_P 200 12 = some (vm_m200, (12, .getfield 16, 3, 10, 2, 0)) := rfl
theorem p200_15 : vm_P 200 15 = some (vm_m200, (15, .bipush 8, 2, 0, 0, 0)) := rfl
theorem p200_17 : vm_P 200 17 = some (vm_m200, (17, .iload_n 2, 1, 0, 0, 0)) := rfl
theorem p200_18 : vm_P 200 18 = some (vm_m200, (18, .iadd, 1, 0, 0, 0)) := rfl
theorem p200_19 : vm_P 200 19 = some (vm_m200, (19, .iaload, 1, 0, 0, 0)) := rfl
theorem p200_20 : vm_P 200 20 = some (vm_m200, (20, .iadd, 1, 0, 0, 0)) := rfl
theorem p200_21 : vm_P 200 21 = some (vm_m200, (21, .istore_n 1, 1, 0, 0, 0)) := rfl
theorem p200_22 : vm_P 200 22 = some (vm_m200, (22, .iinc 2 1, 3, 0, 0, 0)) := rfl
theorem p200_25 : vm_P 200 25 = some (vm_m200, (25, .goto (-21), 3, 0, 0, 0)) := rfl
theorem p200_28 : vm_P 200 28 = some (vm_m200, (28, .iload_n 1, 1, 0, 0, 0)) := rfl
theorem p200_29 : vm_P 200 29 = some (vm_m200, (29, .ireturn, 1, 0, 0, 0)) := rfl
theorem p201_0 : vm_P 201 0 = some (vm_m201, (0, .iload_n 1, 1, 0, 0, 0)) := rfl
theorem p201_1 : vm_P 201 1 = some (vm_m201, (1, .tableswitch 119 0 9 #[55, 62, 69, 77, 86, 91, 99, 104, 109, 114], 55, 0, 0, 0)) := rfl
theorem p201_56 : vm_P 201 56 = some (vm_m201, (56, .aload_n 0, 1, 0, 0, 0)) := rfl
theorem p201_57 : vm_P 201 57 = some (vm_m201, (57, .getfield 7, 3, 10, 0, 0)) := rfl
theorem p201_60 : vm_P 201 60 = some (vm_m201, (60, .iconst 0, 1, 0, 0, 0)) := rfl
theorem p201_61 : vm_P 201 61 = some (vm_m201, (61, .iaload, 1, 0, 0, 0)) := rfl
theorem p201_62 : vm_P 201 62 = some (vm_m201, (62, .ireturn, 1, 0, 0, 0)) := rfl
theorem p201_63 : vm_P 201 63 = some (vm_m201, (63, .aload_n 0, 1, 0, 0, 0)) := rfl
theorem p201_64 : vm_P 201 64 = some (vm_m201, (64, .getfield 7, 3, 10, 0, 0)) := rfl
theorem p201_67 : vm_P 201 67 = some (vm_m201, (67, .iconst 2, 1, 0, 0, 0)) := rfl
theorem p201_68 : vm_P 201 68 = some (vm_m201, (68, .iaload, 1, 0, 0, 0)) := rfl
theorem p201_69 : vm_P 201 69 = some (vm_m201, (69, .ireturn, 1, 0, 0, 0)) := rfl
theorem p201_70 : vm_P 201 70 = some (vm_m201, (70, .aload_n 0, 1, 0, 0, 0)) := rfl
theorem p201_71 : vm_P 201 71 = some (vm_m201, (71, .getfield 16, 3, 10, 2, 0)) := rfl
theorem p201_74 : vm_P 201 74 = some (vm_m201, (74, .bipush 32, 2, 0, 0, 0)) := rfl
theorem p201_76 : vm_P 201 76 = some (vm_m201, (76, .iaload, 1, 0, 0, 0)) := rfl
theorem p201_77 : vm_P 201 77 = some (vm_m201, (77, .ireturn, 1, 0, 0, 0)) := rfl
theorem p201_78 : vm_P 201 78 = some (vm_m201, (78, .aload_n 0, 1, 0, 0, 0)) := rfl
theorem p201_79 : vm_P 201 79 = some (vm_m201, (79, .aload_n 0, 1, 0, 0, 0)) := rfl
theorem p201_80 : vm_P 201 80 = some (vm_m201, (80, .getfield 16, 3, 10, 2, 0)) := rfl
theorem p201_83 : vm_P 201 83 = some (vm_m201, (83, .invokevirtual 189, 3, 0, 164, 1001)) := rfl
theorem p201_86 : vm_P 201 86 = some (vm_m201, (86, .ireturn, 1, 0, 0, 0)) := rfl
theorem p201_87 : vm_P 201 87 = some (vm_m201, (87, .aload_n 0, 1, 0, 0, 0)) := rfl
theorem p201_88 : vm_P 201 88 = some (vm_m201, (88, .invokevirtual 265, 3, 0, 200, 1000)) := rfl
theorem p201_91 : vm_P 201 91 = some (vm_m201, (91, .ireturn, 1, 0, 0, 0)) := rfl
theorem p201_92 : vm_P 201 92 = some (vm_m201, (92, .aload_n 0, 1, 0, 0, 0)) := rfl
theorem p201_93 : vm_P 201 93 = some (vm_m201, (93, .getfield 16, 3, 10, 2, 0)) := rfl
theorem p201_96 : vm_P 201 96 = some (vm_m201, (96, .invokestatic 262, 3, 1, 196, 1)) := rfl
theorem p201_99 : vm_P 201 99 = some (vm_m201, (99, .ireturn, 1, 0, 0, 0)) := rfl
theorem p201_100 : vm_P 201 100 = some (vm_m201, (100, .aload_n 0, 1, 0, 0, 0)) := rfl
theorem p201_101 : vm_P 201 101 = some (vm_m201, (101, .getfield 79, 3, 10, 9, 0)) := rfl
theorem p201_104 : vm_P 201 104 = some (vm_m201, (104, .ireturn, 1, 0, 0, 0)) := rfl
theorem p201_105 : vm_P 201 105 = some (vm_m201, (105, .aload_n 0, 1, 0, 0, 0)) := rfl
theorem p201_106 : vm_P 201 106 = some (vm_m201, (106, .getfield 72, 3, 10, 5, 0)) := rfl
theorem p201_109 : vm_P 201 109 = some (vm_m201, (109, .ireturn, 1, 0, 0, 0)) := rfl
theorem p201_110 : vm_P 201 110 = some (vm_m201, (110, .aload_n 0, 1, 0, 0, 0)) := rfl
theorem p201_111 : vm_P 201 111 = some (vm_m201, (111, .getfield 76, 3, 10, 7, 0)) := rfl
theorem p201_114 : vm_P 201 114 = some (vm_m201, (114, .ireturn, 1, 0, 0, 0)) := rfl
theorem p201_115 : vm_P 201 115 = some (vm_m201, (115, .aload_n 0, 1, 0, 0, 0)) := rfl
theorem p201_116 : vm_P 201 116 = some (vm_m201, (116, .getfield 90, 3, 10, 11, 0)) := rfl
theorem p201_119 : vm_P 201 119 = some (vm_m201, (119, .ireturn, 1, 0, 0, 0)) := rfl
theorem p201_120 : vm_P 201 120 = some (vm_m201, (120, .iconst (-1), 1, 0, 0, 0)) := rfl
theorem p201_121 : vm_P 201 121 = some (vm_m201, (121, .ireturn, 1, 0, 0, 0)) := rfl
theorem p202_0 : vm_P 202 0 = some (vm_m202, (0, .iload_n 0, 1, 0, 0, 0)) := rfl
theorem p202_1 : vm_P 202 1 = some (vm_m202, (1, .iload_n 1, 1, 0, 0, 0)) := rfl
theorem p202_2 : vm_P 202 2 = some (vm_m202, (2, .if_icmp .lt 7, 3, 0, 0, 0)) := rfl
theorem p202_5 : vm_P 202 5 = some (vm_m202, (5, .iload_n 0, 1, 0, 0, 0)) := rfl
theorem p202_6 : vm_P 202 6 = some (vm_m202, (6, .goto 4, 3, 0, 0, 0)) := rfl
theorem p202_9 : vm_P 202 9 = some (vm_m202, (9, .iload_n 1, 1, 0, 0, 0)) := rfl
theorem p202_10 : vm_P 202 10 = some (vm_m202, (10, .ireturn, 1, 0, 0, 0)) := rfl
theorem p203_0 : vm_P 203 0 = some (vm_m203, (0, .iload_n 0, 1, 0, 0, 0)) := rfl
theorem p203_1 : vm_P 203 1 = some (vm_m203, (1, .iload_n 1, 1, 0, 0, 0)) := rfl
theorem p203_2 : vm_P 203 2 = some (vm_m203, (2, .if_icmp .gt 7, 3, 0, 0, 0)) := rfl
theorem p203_5 : vm_P 203 5 = some (vm_m203, (5, .iload_n 0, 1, 0, 0, 0)) := rfl
theorem p203_6 : vm_P 203 6 = some (vm_m203, (6, .goto 4, 3, 0, 0, 0)) := rfl
theorem p203_9 : vm_P 203 9 = some (vm_m203, (9, .iload_n 1, 1, 0, 0, 0)) := rfl
theorem p203_10 : vm_P 203 10 = some (vm_m203, (10, .ireturn, 1, 0, 0, 0)) := rfl
theorem p204_0 : vm_P 204 0 = some (vm_m204, (0, .iload_n 0, 1, 0, 0, 0)) := rfl
theorem p204_1 : vm_P 204 1 = some (vm_m204, (1, .iload_n 1, 1, 0, 0, 0)) := rfl
theorem p204_2 : vm_P 204 2 = some (vm_m204, (2, .irem, 1, 0, 0, 0)) := rfl
theorem p204_3 : vm_P 204 3 = some (vm_m204, (3, .istore_n 2, 1, 0, 0, 0)) := rfl
theorem p204_4 : vm_P 204 4 = some (vm_m204, (4, .iload_n 0, 1, 0, 0, 0)) := rfl
theorem p204_5 : vm_P 204 5 = some (vm_m204, (5, .iload_n 1, 1, 0, 0, 0)) := rfl
theorem p204_6 : vm_P 204 6 = some (vm_m204, (6, .ixor, 1, 0, 0, 0)) := rfl
theorem p204_7 : vm_P 204 7 = some (vm_m204, (7, .ifCond .ge 11, 3, 0, 0, 0)) := rfl
theorem p204_10 : vm_P 204 10 = some (vm_m204, (10, .iload_n 2, 1, 0, 0, 0)) := rfl
theorem p204_11 : vm_P 204 11 = some (vm_m204, (11, .ifCond .eq 7, 3, 0, 0, 0)) := rfl
theorem p204_14 : vm_P 204 14 = some (vm_m204, (14, .iload_n 2, 1, 0, 0, 0)) := rfl
theorem p204_15 : vm_P 204 15 = some (vm_m204, (15, .iload_n 1, 1, 0, 0, 0)) := rfl
theorem p204_16 : vm_P 204 16 = some (vm_m204, (16, .iadd, 1, 0, 0, 0)) := rfl
theorem p204_17 : vm_P 204 17 = some (vm_m204, (17, .ireturn, 1, 0, 0, 0)) := rfl
theorem p204_18 : vm_P 204 18 = some (vm_m204, (18, .iload_n 2, 1, 0, 0, 0)) := rfl
theorem p204_19 : vm_P 204 19 = some (vm_m204, (19, .ireturn, 1, 0, 0, 0)) := rfl
