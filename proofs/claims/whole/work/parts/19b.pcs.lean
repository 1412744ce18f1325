/-! the instructions by method and place -/
theorem p92_0 : vm_P 92 0 = some (vm_m92, (0, .aload_n 0, 1, 0, 0, 0)) := rfl
theorem p92_1 : vm_P 92 1 = some (vm_m92, (1, .invokespecial 1, 3, 5, 0, 0)) := rfl
theorem p92_4 : vm_P 92 4 = some (vm_m92, (4, .aload_n 0, 1, 0, 0, 0)) := rfl
theorem p92_5 : vm_P 92 5 = some (vm_m92, (5, .new 7, 3, 5, 0, 0)) := rfl
theorem p92_8 : vm_P 92 8 = some (vm_m92, (8, .dup, 1, 0, 0, 0)) := rfl
theorem p92_9 : vm_P 92 9 = some (vm_m92, (9, .sipush 200, 3, 0, 0, 0)) := rfl
theorem p92_12 : vm_P 92 12 = some (vm_m92, (12, .invokespecial 11, 3, 2, 54, 1)) := rfl
theorem p92_15 : vm_P 92 15 = some (vm_m92, (15, .putfield 14, 3, 9, 0, 0)) := rfl
theorem p92_18 : vm_P 92 18 = some (vm_m92, (18, .aload_n 0, 1, 0, 0, 0)) := rfl
theorem p92_19 : vm_P 92 19 = some (vm_m92, (19, .new 7, 3, 5, 0, 0)) := rfl
theorem p92_22 : vm_P 92 22 = some (vm_m92, (22, .dup, 1, 0, 0, 0)) := rfl
theorem p92_23 : vm_P 92 23 = some (vm_m92, (23, .bipush 6, 2, 0, 0, 0)) := rfl
theorem p92_25 : vm_P 92 25 = some (vm_m92, (25, .invokespecial 11, 3, 2, 54, 1)) := rfl
theorem p92_28 : vm_P 92 28 = some (vm_m92, (28, .putfield 18, 3, 9, 1, 0)) := rfl
theorem p92_31 : vm_P 92 31 = some (vm_m92, (31, .aload_n 0, 1, 0, 0, 0)) := rfl
theorem p92_32 : vm_P 92 32 = some (vm_m92, (32, .new 21, 3, 7, 0, 0)) := rfl
theorem p92_35 : vm_P 92 35 = some (vm_m92, (35, .dup, 1, 0, 0, 0)) := rfl
theorem p92_36 : vm_P 92 36 = some (vm_m92, (36, .invokespecial 23, 3, 4, 70, 0)) := rfl
theorem p92_39 : vm_P 92 39 = some (vm_m92, (39, .putfield 24, 3, 9, 2, 0)) := rfl
theorem p92_42 : vm_P 92 42 = some (vm_m92, (42, .aload_n 0, 1, 0, 0, 0)) := rfl
theorem p92_43 : vm_P 92 43 = some (vm_m92, (43, .new 28, 3, 0, 0, 0)) := rfl
theorem p92_46 : vm_P 92 46 = some (vm_m92, (46, .dup, 1, 0, 0, 0)) := rfl
theorem p92_47 : vm_P 92 47 = some (vm_m92, (47, .aload_n 0, 1, 0, 0, 0)) := rfl
theorem p92_48 : vm_P 92 48 = some (vm_m92, (48, .getfield 24, 3, 9, 2, 0)) := rfl
theorem p92_51 : vm_P 92 51 = some (vm_m92, (51, .invokespecial 30, 3, 2, 0, 1)) := rfl
theorem p92_54 : vm_P 92 54 = some (vm_m92, (54, .putfield 33, 3, 9, 3, 0)) := rfl
theorem p92_57 : vm_P 92 57 = some (vm_m92, (57, .aload_n 0, 1, 0, 0, 0)) := rfl
theorem p92_58 : vm_P 92 58 = some (vm_m92, (58, .new 28, 3, 0, 0, 0)) := rfl
theorem p92_61 : vm_P 92 61 = some (vm_m92, (61, .dup, 1, 0, 0, 0)) := rfl
theorem p92_62 : vm_P 92 62 = some (vm_m92, (62, .aload_n 0, 1, 0, 0, 0)) := rfl
theorem p92_63 : vm_P 92 63 = some (vm_m92, (63, .getfield 24, 3, 9, 2, 0)) := rfl
theorem p92_66 : vm_P 92 66 = some (vm_m92, (66, .invokespecial 30, 3, 2, 0, 1)) := rfl
theorem p92_69 : vm_P 92 69 = some (vm_m92, (69, .putfield 37, 3, 9, 4, 0)) := rfl
theorem p92_72 : vm_P 92 72 = some (vm_m92, (72, .aload_n 0, 1, 0, 0, 0)) := rfl
theorem p92_73 : vm_P 92 73 = some (vm_m92, (73, .new 40, 3, 6, 0, 0)) := rfl
theorem p92_76 : vm_P 92 76 = some (vm_m92, (76, .dup, 1, 0, 0, 0)) := rfl
theorem p92_77 : vm_P 92 77 = some (vm_m92, (77, .bipush 8, 2, 0, 0, 0)) := rfl
theorem p92_79 : vm_P 92 79 = some (vm_m92, (79, .aload_n 0, 1, 0, 0, 0)) := rfl
theorem p92_80 : vm_P 92 80 = some (vm_m92, (80, .getfield 24, 3, 9, 2, 0)) := rfl
theorem p92_83 : vm_P 92 83 = some (vm_m92, (83, .invokespecial 42, 3, 2, 63, 2)) := rfl
theorem p92_86 : vm_P 92 86 = some (vm_m92, (86, .putfield 45, 3, 9, 5, 0)) := rfl
theorem p92_89 : vm_P 92 89 = some (vm_m92, (89, .aload_n 0, 1, 0, 0, 0)) := rfl
theorem p92_90 : vm_P 92 90 = some (vm_m92, (90, .new 40, 3, 6, 0, 0)) := rfl
theorem p92_93 : vm_P 92 93 = some (vm_m92, (93, .dup, 1, 0, 0, 0)) := rfl
theorem p92_94 : vm_P 92 94 = some (vm_m92, (94, .iconst 2, 1, 0, 0, 0)) := rfl
theorem p92_95 : vm_P 92 95 = some (vm_m92, (95, .aload_n 0, 1, 0, 0, 0)) := rfl
theorem p92_96 : vm_P 92 96 = some (vm_m92, (96, .getfield 24, 3, 9, 2, 0)) := rfl
theorem p92_99 : vm_P 92 99 = some (vm_m92, (99, .invokespecial 42, 3, 2, 63, 2)) := rfl
theorem p92_102 : vm_P 92 102 = some (vm_m92, (102, .putfield 49, 3, 9, 6, 0)) := rfl
theorem p92_105 : vm_P 92 105 = some (vm_m92, (105, .aload_n 0, 1, 0, 0, 0)) := rfl
theorem p92_106 : vm_P 92 106 = some (vm_m92, (106, .new 52, 3, 4, 0, 0)) := rfl
theorem p92_109 : vm_P 92 109 = some (vm_m92, (109, .dup, 1, 0, 0, 0)) := rfl
theorem p92_110 : vm_P 92 110 = some (vm_m92, (110, .aload_n 0, 1, 0, 0, 0)) := rfl
theorem p92_111 : vm_P 92 111 = some (vm_m92, (111, .getfield 14, 3, 9, 0, 0)) := rfl
theorem p92_114 : vm_P 92 114 = some (vm_m92, (114, .invokespecial 54, 3, 2, 43, 1)) := rfl
theorem p92_117 : vm_P 92 117 = some (vm_m92, (117, .putfield 57, 3, 9, 7, 0)) := rfl
theorem p92_120 : vm_P 92 120 = some (vm_m92, (120, .aload_n 0, 1, 0, 0, 0)) := rfl
theorem p92_121 : vm_P 92 121 = some (vm_m92, (121, .new 61, 3, 2, 0, 0)) := rfl
theorem p92_124 : vm_P 92 124 = some (vm_m92, (124, .dup, 1, 0, 0, 0)) := rfl
theorem p92_125 : vm_P 92 125 = some (vm_m92, (125, .aload_n 0, 1, 0, 0, 0)) := rfl
theorem p92_126 : vm_P 92 126 = some (vm_m92, (126, .getfield 24, 3, 9, 2, 0)) := rfl
theorem p92_129 : vm_P 92 129 = some (vm_m92, (129, .invokespecial 63, 3, 2, 33, 1)) := rfl
theorem p92_132 : vm_P 92 132 = some (vm_m92, (132, .putfield 64, 3, 9, 8, 0)) := rfl
theorem p92_135 : vm_P 92 135 = some (vm_m92, (135, .aload_n 0, 1, 0, 0, 0)) := rfl
theorem p92_136 : vm_P 92 136 = some (vm_m92, (136, .new 68, 3, 8, 0, 0)) := rfl
theorem p92_139 : vm_P 92 139 = some (vm_m92, (139, .dup, 1, 0, 0, 0)) := rfl
theorem p92_140 : vm_P 92 140 = some (vm_m92, (140, .aload_n 0, 1, 0, 0, 0)) := rfl
theorem p92_141 : vm_P 92 141 = some (vm_m92, (141, .getfield 24, 3, 9, 2, 0)) := rfl
theorem p92_144 : vm_P 92 144 = some (vm_m92, (144, .invokespecial 70, 3, 2, 87, 1)) := rfl
theorem p92_147 : vm_P 92 147 = some (vm_m92, (147, .putfield 71, 3, 9, 9, 0)) := rfl
theorem p92_150 : vm_P 92 150 = some (vm_m92, (150, .aload_n 0, 1, 0, 0, 0)) := rfl
theorem p92_151 : vm_P 92 151 = some (vm_m92, (151, .new 75, 3, 3, 0, 0)) := rfl
theorem p92_154 : vm_P 92 154 = some (vm_m92, (154, .dup, 1, 0, 0, 0)) := rfl
theorem p92_155 : vm_P 92 155 = some (vm_m92, (155, .aload_n 0, 1, 0, 0, 0)) := rfl
theorem p92_156 : vm_P 92 156 = some (vm_m92, (156, .getfield 24, 3, 9, 2, 0)) := rfl
theorem p92_159 : vm_P 92 159 = some (vm_m92, (159, .invokespecial 77, 3, 2, 38, 1)) := rfl
theorem p92_162 : vm_P 92 162 = some (vm_m92, (162, .putfield 78, 3, 9, 10, 0)) := rfl
theorem p92_165 : vm_P 92 165 = some (vm_m92, (165, .aload_n 0, 1, 0, 0, 0)) := rfl
theorem p92_166 : vm_P 92 166 = some (vm_m92, (166, .new 82, 3, 1, 0, 0)) := rfl
theorem p92_169 : vm_P 92 169 = some (vm_m92, (169, .dup, 1, 0, 0, 0)) := rfl
theorem p92_170 : vm_P 92 170 = some (vm_m92, (170, .aload_n 0, 1, 0, 0, 0)) := rfl
theorem p92_171 : vm_P 92 171 = some (vm_m92, (171, .getfield 24, 3, 9, 2, 0)) := rfl
theorem p92_174 : vm_P 92 174 = some (vm_m92, (174, .invokespecial 84, 3, 2, 25, 1)) := rfl
theorem p92_177 : vm_P 92 177 = some (vm_m92, (177, .putfield 85, 3, 9, 11, 0)) := rfl
theorem p92_180 : vm_P 92 180 = some (vm_m92, (180, .iconst 0, 1, 0, 0, 0)) := rfl
theorem p92_181 : vm_P 92 181 = some (vm_m92, (181, .istore_n 1, 1, 0, 0, 0)) := rfl
theorem p92_182 : vm_P 92 182 = some (vm_m92, (182, .iload_n 1, 1, 0, 0, 0)) := rfl
theorem p92_183 : vm_P 92 183 = some (vm_m92, (183, .ldc 89, 2, 99, 0, 0)) := rfl
theorem p92_185 : vm_P 92 185 = some (vm_m92, (185, .invokevirtual 91, 3, 6, 0, 0)) := rfl
theorem p92_188 : vm_P 92 188 = some (vm_m92, (188, .if_icmp .ge 22, 3, 0, 0, 0)) := rfl
theorem p92_191 : vm_P 92 191 = some (vm_m92, (191, .aload_n 0, 1, 0, 0, 0)) := rfl
theorem p92_192 : vm_P 92 192 = some (vm_m92, (192, .getfield 14, 3, 9, 0, 0)) := rfl
theorem p92_195 : vm_P 92 195 = some (vm_m92, (195, .ldc 89, 2, 99, 0, 0)) := rfl
theorem p92_197 : vm_P 92 197 = some (vm_m92, (197, .iload_n 1, 1, 0, 0, 0)) := rfl
theorem p92_198 : vm_P 92 198 = some (vm_m92, (198, .invokevirtual 97, 3, 7, 0, 0)) := rfl
theorem p92_201 : vm_P 92 201 = some (vm_m92, (201, .invokevirtual 101, 3, 0, 58, 501)) := rfl
theorem p92_204 : vm_P 92 204 = some (vm_m92, (204, .iinc 1 1, 3, 0, 0, 0)) := rfl
theorem p92_207 : vm_P 92 207 = some (vm_m92, (207, .goto (-25), 3, 0, 0, 0)) := rfl
theorem p92_210 : vm_P 92 210 = some (vm_m92, (210, .aload_n 0, 1, 0, 0, 0)) := rfl
theorem p92_211 : vm_P 92 211 = some (vm_m92, (211, .invokevirtual 104, 3, 0, 121, 900)) := rfl
theorem p92_214 : vm_P 92 214 = some (vm_m92, (214, .pop, 1, 0, 0, 0)) := rfl
theorem p92_215 : vm_P 92 215 = some (vm_m92, (215, .aload_n 0, 1, 0, 0, 0)) := rfl
theorem p92_216 : vm_P 92 216 = some (vm_m92, (216, .getfield 14, 3, 9, 0, 0)) := rfl
theorem p92_219 : vm_P 92 219 = some (vm_m92, (219, .invokevirtual 108, 3, 0, 57, 500)) := rfl
theorem p92_222 : vm_P 92 222 = some (vm_m92, (222, .return_, 1, 0, 0, 0)) := rfl
theorem p93_0 : vm_P 93 0 = some (vm_m93, (0, .iload_n 1, 1, 0, 0, 0)) := rfl
theorem p93_1 : vm_P 93 1 = some (vm_m93, (1, .bipush 32, 2, 0, 0, 0)) := rfl
theorem p93_3 : vm_P 93 3 = some (vm_m93, (3, .bipush 126, 2, 0, 0, 0)) := rfl
theorem p93_5 : vm_P 93 5 = some (vm_m93, (5, .invokestatic 111, 3, 1, 126, 3)) := rfl
theorem p93_8 : vm_P 93 8 = some (vm_m93, (8, .ifCond .ne 5, 3, 0, 0, 0)) := rfl
theorem p93_11 : vm_P 93 11 = some (vm_m93, (11, .iconst (-1), 1, 0, 0, 0)) := rfl
theorem p93_12 : vm_P 93 12 = some (vm_m93, (12, .ireturn, 1, 0, 0, 0)) := rfl
theorem p93_13 : vm_P 93 13 = some (vm_m93, (13, .aload_n 0, 1, 0, 0, 0)) := rfl
theorem p93_14 : vm_P 93 14 = some (vm_m93, (14, .getfield 14, 3, 9, 0, 0)) := rfl
theorem p93_17 : vm_P 93 17 = some (vm_m93, (17, .invokevirtual 115, 3, 0, 56, 500)) := rfl
theorem p93_20 : vm_P 93 20 = some (vm_m93, (20, .ifCond .eq 6, 3, 0, 0, 0)) := rfl
theorem p93_23 : vm_P 93 23 = some (vm_m93, (23, .bipush (-3), 2, 0, 0, 0)) := rfl
theorem p93_25 : vm_P 93 25 = some (vm_m93, (25, .ireturn, 1, 0, 0, 0)) := rfl
theorem p93_26 : vm_P 93 26 = some (vm_m93, (26, .aload_n 0, 1, 0, 0, 0)) := rfl
theorem p93_27 : vm_P 93 27 = some (vm_m93, (27, .getfield 14, 3, 9, 0, 0)) := rfl
theorem p93_30 : vm_P 93 30 = some (vm_m93, (30, .iload_n 1, 1, 0, 0, 0)) := rfl
theorem p93_31 : vm_P 93 31 = some (vm_m93, (31, .invokevirtual 101, 3, 0, 58, 501)) := rfl
theorem p93_34 : vm_P 93 34 = some (vm_m93, (34, .aload_n 0, 1, 0, 0, 0)) := rfl
theorem p93_35 : vm_P 93 35 = some (vm_m93, (35, .getfield 14, 3, 9, 0, 0)) := rfl
theorem p93_38 : vm_P 93 38 = some (vm_m93, (38, .invokevirtual 118, 3, 0, 55, 500)) := rfl
theorem p93_41 : vm_P 93 41 = some (vm_m93, (41, .ireturn, 1, 0, 0, 0)) := rfl
theorem p94_0 : vm_P 94 0 = some (vm_m94, (0, .aload_n 0, 1, 0, 0, 0)) := rfl
theorem p94_1 : vm_P 94 1 = some (vm_m94, (1, .getfield 14, 3, 9, 0, 0)) := rfl
theorem p94_4 : vm_P 94 4 = some (vm_m94, (4, .invokevirtual 118, 3, 0, 55, 500)) := rfl
theorem p94_7 : vm_P 94 7 = some (vm_m94, (7, .istore_n 1, 1, 0, 0, 0)) := rfl
theorem p94_8 : vm_P 94 8 = some (vm_m94, (8, .aload_n 0, 1, 0, 0, 0)) := rfl
theorem p94_9 : vm_P 94 9 = some (vm_m94, (9, .getfield 14, 3, 9, 0, 0)) := rfl
theorem p94_12 : vm_P 94 12 = some (vm_m94, (12, .invokevirtual 108, 3, 0, 57, 500)) := rfl
theorem p94_15 : vm_P 94 15 = some (vm_m94, (15, .iload_n 1, 1, 0, 0, 0)) := rfl
theorem p94_16 : vm_P 94 16 = some (vm_m94, (16, .ireturn, 1, 0, 0, 0)) := rfl
theorem p95_0 : vm_P 95 0 = some (vm_m95, (0, .aload_n 0, 1, 0, 0, 0)) := rfl
theorem p95_1 : vm_P 95 1 = some (vm_m95, (1, .getfield 57, 3, 9, 7, 0)) := rfl
theorem p95_4 : vm_P 95 4 = some (vm_m95, (4, .invokevirtual 121, 3, 0, 47, 400)) := rfl
theorem p95_7 : vm_P 95 7 = some (vm_m95, (7, .ireturn, 1, 0, 0, 0)) := rfl
theorem p96_0 : vm_P 96 0 = some (vm_m96, (0, .aload_n 0, 1, 0, 0, 0)) := rfl
theorem p96_1 : vm_P 96 1 = some (vm_m96, (1, .invokevirtual 104, 3, 0, 121, 900)) := rfl
theorem p96_4 : vm_P 96 4 = some (vm_m96, (4, .ifCond .eq 13, 3, 0, 0, 0)) := rfl
theorem p96_7 : vm_P 96 7 = some (vm_m96, (7, .aload_n 0, 1, 0, 0, 0)) := rfl
theorem p96_8 : vm_P 96 8 = some (vm_m96, (8, .getfield 33, 3, 9, 3, 0)) := rfl
theorem p96_11 : vm_P 96 11 = some (vm_m96, (11, .invokevirtual 124, 3, 0, 4, 0)) := rfl
theorem p96_14 : vm_P 96 14 = some (vm_m96, (14, .goto 5, 3, 0, 0, 0)) := rfl
theorem p96_17 : vm_P 96 17 = some (vm_m96, (17, .bipush (-2), 2, 0, 0, 0)) := rfl
theorem p96_19 : vm_P 96 19 = some (vm_m96, (19, .ireturn, 1, 0, 0, 0)) := rfl
theorem p97_0 : vm_P 97 0 = some (vm_m97, (0, .aload_n 0, 1, 0, 0, 0)) := rfl
theorem p97_1 : vm_P 97 1 = some (vm_m97, (1, .getfield 24, 3, 9, 2, 0)) := rfl
theorem p97_4 : vm_P 97 4 = some (vm_m97, (4, .iload_n 1, 1, 0, 0, 0)) := rfl
theorem p97_5 : vm_P 97 5 = some (vm_m97, (5, .invokevirtual 127, 3, 0, 76, 701)) := rfl
theorem p97_8 : vm_P 97 8 = some (vm_m97, (8, .ifCond .eq 22, 3, 0, 0, 0)) := rfl
theorem p97_11 : vm_P 97 11 = some (vm_m97, (11, .iload_n 2, 1, 0, 0, 0)) := rfl
theorem p97_12 : vm_P 97 12 = some (vm_m97, (12, .invokestatic 131, 3, 1, 125, 1)) := rfl
theorem p97_15 : vm_P 97 15 = some (vm_m97, (15, .ifCond .eq 15, 3, 0, 0, 0)) := rfl
theorem p97_18 : vm_P 97 18 = some (vm_m97, (18, .aload_n 0, 1, 0, 0, 0)) := rfl
theorem p97_19 : vm_P 97 19 = some (vm_m97, (19, .getfield 24, 3, 9, 2, 0)) := rfl
theorem p97_22 : vm_P 97 22 = some (vm_m97, (22, .iload_n 1, 1, 0, 0, 0)) := rfl
theorem p97_23 : vm_P 97 23 = some (vm_m97, (23, .iload_n 2, 1, 0, 0, 0)) := rfl
theorem p97_24 : vm_P 97 24 = some (vm_m97, (24, .invokevirtual 134, 3, 0, 78, 702)) := rfl
theorem p97_27 : vm_P 97 27 = some (vm_m97, (27, .goto 4, 3, 0, 0, 0)) := rfl
theorem p97_30 : vm_P 97 30 = some (vm_m97, (30, .iconst (-1), 1, 0, 0, 0)) := rfl
theorem p97_31 : vm_P 97 31 = some (vm_m97, (31, .ireturn, 1, 0, 0, 0)) := rfl
theorem p98_0 : vm_P 98 0 = some (vm_m98, (0, .iload_n 1, 1, 0, 0, 0)) := rfl
theorem p98_1 : vm_P 98 1 = some (vm_m98, (1, .iconst 0, 1, 0, 0, 0)) := rfl
theorem p98_2 : vm_P 98 2 = some (vm_m98, (2, .bipush 99, 2, 0, 0, 0)) := rfl
theorem p98_4 : vm_P 98 4 = some (vm_m98, (4, .invokestatic 111, 3, 1, 126, 3)) := rfl
theorem p98_7 : vm_P 98 7 = some (vm_m98, (7, .ifCond .eq 22, 3, 0, 0, 0)) := rfl
theorem p98_10 : vm_P 98 10 = some (vm_m98, (10, .aload_n 0, 1, 0, 0, 0)) := rfl
theorem p98_11 : vm_P 98 11 = some (vm_m98, (11, .getfield 24, 3, 9, 2, 0)) := rfl
theorem p98_14 : vm_P 98 14 = some (vm_m98, (14, .aload_n 0, 1, 0, 0, 0)) := rfl
theorem p98_15 : vm_P 98 15 = some (vm_m98, (15, .getfield 33, 3, 9, 3, 0)) := rfl
theorem p98_18 : vm_P 98 18 = some (vm_m98, (18, .invokevirtual 138, 3, 0, 5, 0)) := rfl
theorem p98_21 : vm_P 98 21 = some (vm_m98, (21, .iload_n 1, 1, 0, 0, 0)) := rfl
theorem p98_22 : vm_P 98 22 = some (vm_m98, (22, .iadd, 1, 0, 0, 0)) := rfl
theorem p98_23 : vm_P 98 23 = some (vm_m98, (23, .invokevirtual 141, 3, 0, 80, 701)) := rfl
theorem p98_26 : vm_P 98 26 = some (vm_m98, (26, .goto 4, 3, 0, 0, 0)) := rfl
theorem p98_29 : vm_P 98 29 = some (vm_m98, (29, .iconst (-1), 1, 0, 0, 0)) := rfl
theorem p98_30 : vm_P 98 30 = some (vm_m98, (30, .ireturn, 1, 0, 0, 0)) := rfl
theorem p99_0 : vm_P 99 0 = some (vm_m99, (0, .aload_n 0, 1, 0, 0, 0)) := rfl
theorem p99_1 : vm_P 99 1 = some (vm_m99, (1, .getfield 33, 3, 9, 3, 0)) := rfl
theorem p99_4 : vm_P 99 4 = some (vm_m99, (4, .iload_n 1, 1, 0, 0, 0)) := rfl
theorem p99_5 : vm_P 99 5 = some (vm_m99, (5, .invokevirtual 145, 3, 0, 6, 1)) := rfl
theorem p99_8 : vm_P 99 8 = some (vm_m99, (8, .ifCond .eq 25, 3, 0, 0, 0)) := rfl
theorem p99_11 : vm_P 99 11 = some (vm_m99, (11, .iload_n 2, 1, 0, 0, 0)) := rfl
theorem p99_12 : vm_P 99 12 = some (vm_m99, (12, .iconst 0, 1, 0, 0, 0)) := rfl
theorem p99_13 : vm_P 99 13 = some (vm_m99, (13, .bipush 7, 2, 0, 0, 0)) := rfl
theorem p99_15 : vm_P 99 15 = some (vm_m99, (15, .invokestatic 111, 3, 1, 126, 3)) := rfl
theorem p99_18 : vm_P 99 18 = some (vm_m99, (18, .ifCond .eq 15, 3, 0, 0, 0)) := rfl
theorem p99_21 : vm_P 99 21 = some (vm_m99, (21, .aload_n 0, 1, 0, 0, 0)) := rfl
theorem p99_22 : vm_P 99 22 = some (vm_m99, (22, .getfield 33, 3, 9, 3, 0)) := rfl
theorem p99_25 : vm_P 99 25 = some (vm_m99, (25, .iload_n 1, 1, 0, 0, 0)) := rfl
theorem p99_26 : vm_P 99 26 = some (vm_m99, (26, .iload_n 2, 1, 0, 0, 0)) := rfl
theorem p99_27 : vm_P 99 27 = some (vm_m99, (27, .invokevirtual 148, 3, 0, 7, 2)) := rfl
theorem p99_30 : vm_P 99 30 = some (vm_m99, (30, .goto 4, 3, 0, 0, 0)) := rfl
theorem p99_33 : vm_P 99 33 = some (vm_m99, (33, .iconst (-1), 1, 0, 0, 0)) := rfl
theorem p99_34 : vm_P 99 34 = some (vm_m99, (34, .ireturn, 1, 0, 0, 0)) := rfl
theorem p100_0 : vm_P 100 0 = some (vm_m100, (0, .aload_n 0, 1, 0, 0, 0)) := rfl
theorem p100_1 : vm_P 100 1 = some (vm_m100, (1, .getfield 33, 3, 9, 3, 0)) := rfl
theorem p100_4 : vm_P 100 4 = some (vm_m100, (4, .iload_n 1, 1, 0, 0, 0)) := rfl
theorem p100_5 : vm_P 100 5 = some (vm_m100, (5, .invokevirtual 145, 3, 0, 6, 1)) := rfl
theorem p100_8 : vm_P 100 8 = some (vm_m100, (8, .ifCond .eq 10, 3, 0, 0, 0)) := rfl
theorem p100_11 : vm_P 100 11 = some (vm_m100, (11, .iload_n 2, 1, 0, 0, 0)) := rfl
theorem p100_12 : vm_P 100 12 = some (vm_m100, (12, .invokestatic 131, 3, 1, 125, 1)) := rfl
theorem p100_15 : vm_P 100 15 = some (vm_m100, (15, .ifCond .ne 5, 3, 0, 0, 0)) := rfl
theorem p100_18 : vm_P 100 18 = some (vm_m100, (18, .iconst (-1), 1, 0, 0, 0)) := rfl
theorem p100_19 : vm_P 100 19 = some (vm_m100, (19, .ireturn, 1, 0, 0, 0)) := rfl
theorem p100_20 : vm_P 100 20 = some (vm_m100, (20, .aload_n 0, 1, 0, 0, 0)) := rfl
theorem p100_21 : vm_P 100 21 = some (vm_m100, (21, .getfield 33, 3, 9, 3, 0)) := rfl
theorem p100_24 : vm_P 100 24 = some (vm_m100, (24, .iload_n 1, 1, 0, 0, 0)) := rfl
theorem p100_25 : vm_P 100 25 = some (vm_m100, (25, .iload_n 2, 1, 0, 0, 0)) := rfl
theorem p100_26 : vm_P 100 26 = some (vm_m100, (26, .invokevirtual 151, 3, 0, 11, 2)) := rfl
theorem p100_29 : vm_P 100 29 = some (vm_m100, (29, .ifCond .ne 6, 3, 0, 0, 0)) := rfl
theorem p100_32 : vm_P 100 32 = some (vm_m100, (32, .bipush (-2), 2, 0, 0, 0)) := rfl
theorem p100_34 : vm_P 100 34 = some (vm_m100, (34, .ireturn, 1, 0, 0, 0)) := rfl
theorem p100_35 : vm_P 100 35 = some (vm_m100, (35, .aload_n 0, 1, 0, 0, 0)) := rfl
theorem p100_36 : vm_P 100 36 = some (vm_m100, (36, .getfield 45, 3, 9, 5, 0)) := rfl
theorem p100_39 : vm_P 100 39 = some (vm_m100, (39, .aload_n 0, 1, 0, 0, 0)) := rfl
theorem p100_40 : vm_P 100 40 = some (vm_m100, (40, .getfield 33, 3, 9, 3, 0)) := rfl
theorem p100_43 : vm_P 100 43 = some (vm_m100, (43, .invokevirtual 155, 3, 0, 67, 601)) := rfl
theorem p100_46 : vm_P 100 46 = some (vm_m100, (46, .aload_n 0, 1, 0, 0, 0)) := rfl
theorem p100_47 : vm_P 100 47 = some (vm_m100, (47, .getfield 33, 3, 9, 3, 0)) := rfl
theorem p100_50 : vm_P 100 50 = some (vm_m100, (50, .iload_n 1, 1, 0, 0, 0)) := rfl
theorem p100_51 : vm_P 100 51 = some (vm_m100, (51, .iload_n 2, 1, 0, 0, 0)) := rfl
theorem p100_52 : vm_P 100 52 = some (vm_m100, (52, .invokevirtual 159, 3, 0, 12, 2)) := rfl
theorem p100_55 : vm_P 100 55 = some (vm_m100, (55, .aload_n 0, 1, 0, 0, 0)) := rfl
theorem p100_56 : vm_P 100 56 = some (vm_m100, (56, .getfield 33, 3, 9, 3, 0)) := rfl
theorem p100_59 : vm_P 100 59 = some (vm_m100, (59, .iload_n 1, 1, 0, 0, 0)) := rfl
theorem p100_60 : vm_P 100 60 = some (vm_m100, (60, .iconst 1, 1, 0, 0, 0)) := rfl
theorem p100_61 : vm_P 100 61 = some (vm_m100, (61, .invokevirtual 148, 3, 0, 7, 2)) := rfl
theorem p100_64 : vm_P 100 64 = some (vm_m100, (64, .ireturn, 1, 0, 0, 0)) := rfl
theorem p101_0 : vm_P 101 0 = some (vm_m101, (0, .iload_n 1, 1, 0, 0, 0)) := rfl
theorem p101_1 : vm_P 101 1 = some (vm_m101, (1, .iconst 1, 1, 0, 0, 0)) := rfl
theorem p101_2 : vm_P 101 2 = some (vm_m101, (2, .bipush 24, 2, 0, 0, 0)) := rfl
theorem p101_4 : vm_P 101 4 = some (vm_m101, (4, .invokestatic 111, 3, 1, 126, 3)) := rfl
theorem p101_7 : vm_P 101 7 = some (vm_m101, (7, .ifCond .ne 5, 3, 0, 0, 0)) := rfl
theorem p101_10 : vm_P 101 10 = some (vm_m101, (10, .iconst (-1), 1, 0, 0, 0)) := rfl
theorem p101_11 : vm_P 101 11 = some (vm_m101, (11, .ireturn, 1, 0, 0, 0)) := rfl
theorem p101_12 : vm_P 101 12 = some (vm_m101, (12, .aload_n 0, 1, 0, 0, 0)) := rfl
theorem p101_13 : vm_P 101 13 = some (vm_m101, (13, .getfield 45, 3, 9, 5, 0)) := rfl
theorem p101_16 : vm_P 101 16 = some (vm_m101, (16, .aload_n 0, 1, 0, 0, 0)) := rfl
theorem p101_17 : vm_P 101 17 = some (vm_m101, (17, .getfield 33, 3, 9, 3, 0)) := rfl
theorem p101_20 : vm_P 101 20 = some (vm_m101, (20, .invokevirtual 155, 3, 0, 67, 601)) := rfl
theorem p101_23 : vm_P 101 23 = some (vm_m101, (23, .iconst 0, 1, 0, 0, 0)) := rfl
theorem p101_24 : vm_P 101 24 = some (vm_m101, (24, .istore_n 2, 1, 0, 0, 0)) := rfl
theorem p101_25 : vm_P 101 25 = some (vm_m101, (25, .iload_n 2, 1, 0, 0, 0)) := rfl
theorem p101_26 : vm_P 101 26 = some (vm_m101, (26, .iload_n 1, 1, 0, 0, 0)) := rfl
theorem p101_27 : vm_P 101 27 = some (vm_m101, (27, .if_icmp .ge 16, 3, 0, 0, 0)) := rfl
theorem p101_30 : vm_P 101 30 = some (vm_m101, (30, .aload_n 0, 1, 0, 0, 0)) := rfl
theorem p101_31 : vm_P 101 31 = some (vm_m101, (31, .getfield 33, 3, 9, 3, 0)) := rfl
theorem p101_34 : vm_P 101 34 = some (vm_m101, (34, .invokevirtual 163, 3, 0, 14, 0)) := rfl
theorem p101_37 : vm_P 101 37 = some (vm_m101, (37, .iinc 2 1, 3, 0, 0, 0)) := rfl
theorem p101_40 : vm_P 101 40 = some (vm_m101, (40, .goto (-15), 3, 0, 0, 0)) := rfl
theorem p101_43 : vm_P 101 43 = some (vm_m101, (43, .aload_n 0, 1, 0, 0, 0)) := rfl
theorem p101_44 : vm_P 101 44 = some (vm_m101, (44, .getfield 33, 3, 9, 3, 0)) := rfl
theorem p101_47 : vm_P 101 47 = some (vm_m101, (47, .invokevirtual 166, 3, 0, 22, 0)) := rfl
theorem p101_50 : vm_P 101 50 = some (vm_m101, (50, .ireturn, 1, 0, 0, 0)) := rfl
theorem p102_0 : vm_P 102 0 = some (vm_m102, (0, .aload_n 0, 1, 0, 0, 0)) := rfl
theorem p102_1 : vm_P 102 1 = some (vm_m102, (1, .iload_n 1, 1, 0, 0, 0)) := rfl
theorem p102_2 : vm_P 102 2 = some (vm_m102, (2, .iload_n 2, 1, 0, 0, 0)) := rfl
theorem p102_3 : vm_P 102 3 = some (vm_m102, (3, .invokevirtual 169, 3, 0, 123, 902)) := rfl
theorem p102_6 : vm_P 102 6 = some (vm_m102, (6, .ifCond .ne 5, 3, 0, 0, 0)) := rfl
theorem p102_9 : vm_P 102 9 = some (vm_m102, (9, .iconst (-1), 1, 0, 0, 0)) := rfl
theorem p102_10 : vm_P 102 10 = some (vm_m102, (10, .ireturn, 1, 0, 0, 0)) := rfl
theorem p102_11 : vm_P 102 11 = some (vm_m102, (11, .aload_n 0, 1, 0, 0, 0)) := rfl
theorem p102_12 : vm_P 102 12 = some (vm_m102, (12, .getfield 33, 3, 9, 3, 0)) := rfl
theorem p102_15 : vm_P 102 15 = some (vm_m102, (15, .iload_n 1, 1, 0, 0, 0)) := rfl
theorem p102_16 : vm_P 102 16 = some (vm_m102, (16, .iload_n 2, 1, 0, 0, 0)) := rfl
theorem p102_17 : vm_P 102 17 = some (vm_m102, (17, .invokevirtual 172, 3, 0, 15, 2)) := rfl
theorem p102_20 : vm_P 102 20 = some (vm_m102, (20, .ifCond .ne 6, 3, 0, 0, 0)) := rfl
theorem p102_23 : vm_P 102 23 = some (vm_m102, (23, .bipush (-2), 2, 0, 0, 0)) := rfl
theorem p102_25 : vm_P 102 25 = some (vm_m102, (25, .ireturn, 1, 0, 0, 0)) := rfl
theorem p102_26 : vm_P 102 26 = some (vm_m102, (26, .aload_n 0, 1, 0, 0, 0)) := rfl
theorem p102_27 : vm_P 102 27 = some (vm_m102, (27, .getfield 45, 3, 9, 5, 0)) := rfl
theorem p102_30 : vm_P 102 30 = some (vm_m102, (30, .aload_n 0, 1, 0, 0, 0)) := rfl
theorem p102_31 : vm_P 102 31 = some (vm_m102, (31, .getfield 33, 3, 9, 3, 0)) := rfl
theorem p102_34 : vm_P 102 34 = some (vm_m102, (34, .invokevirtual 155, 3, 0, 67, 601)) := rfl
theorem p102_37 : vm_P 102 37 = some (vm_m102, (37, .aload_n 0, 1, 0, 0, 0)) := rfl
theorem p102_38 : vm_P 102 38 = some (vm_m102, (38, .getfield 33, 3, 9, 3, 0)) := rfl
theorem p102_41 : vm_P 102 41 = some (vm_m102, (41, .iload_n 1, 1, 0, 0, 0)) := rfl
theorem p102_42 : vm_P 102 42 = some (vm_m102, (42, .iload_n 2, 1, 0, 0, 0)) := rfl
theorem p102_43 : vm_P 102 43 = some (vm_m102, (43, .invokevirtual 175, 3, 0, 16, 2)) := rfl
theorem p102_46 : vm_P 102 46 = some (vm_m102, (46, .aload_n 0, 1, 0, 0, 0)) := rfl
theorem p102_47 : vm_P 102 47 = some (vm_m102, (47, .getfield 33, 3, 9, 3, 0)) := rfl
theorem p102_50 : vm_P 102 50 = some (vm_m102, (50, .iload_n 1, 1, 0, 0, 0)) := rfl
theorem p102_51 : vm_P 102 51 = some (vm_m102, (51, .iconst 1, 1, 0, 0, 0)) := rfl
theorem p102_52 : vm_P 102 52 = some (vm_m102, (52, .invokevirtual 148, 3, 0, 7, 2)) := rfl
theorem p102_55 : vm_P 102 55 = some (vm_m102, (55, .ireturn, 1, 0, 0, 0)) := rfl
theorem p103_0 : vm_P 103 0 = some (vm_m103, (0, .aload_n 0, 1, 0, 0, 0)) := rfl
theorem p103_1 : vm_P 103 1 = some (vm_m103, (1, .iload_n 1, 1, 0, 0, 0)) := rfl
theorem p103_2 : vm_P 103 2 = some (vm_m103, (2, .iload_n 2, 1, 0, 0, 0)) := rfl
theorem p103_3 : vm_P 103 3 = some (vm_m103, (3, .invokevirtual 169, 3, 0, 123, 902)) := rfl
theorem p103_6 : vm_P 103 6 = some (vm_m103, (6, .ifCond .ne 5, 3, 0, 0, 0)) := rfl
theorem p103_9 : vm_P 103 9 = some (vm_m103, (9, .iconst (-1), 1, 0, 0, 0)) := rfl
theorem p103_10 : vm_P 103 10 = some (vm_m103, (10, .ireturn, 1, 0, 0, 0)) := rfl
theorem p103_11 : vm_P 103 11 = some (vm_m103, (11, .aload_n 0, 1, 0, 0, 0)) := rfl
theorem p103_12 : vm_P 103 12 = some (vm_m103, (12, .getfield 33, 3, 9, 3, 0)) := rfl
theorem p103_15 : vm_P 103 15 = some (vm_m103, (15, .iload_n 1, 1, 0, 0, 0)) := rfl
theorem p103_16 : vm_P 103 16 = some (vm_m103, (16, .invokevirtual 178, 3, 0, 10, 1)) := rfl
theorem p103_19 : vm_P 103 19 = some (vm_m103, (19, .ifCond .eq 14, 3, 0, 0, 0)) := rfl
theorem p103_22 : vm_P 103 22 = some (vm_m103, (22, .aload_n 0, 1, 0, 0, 0)) := rfl
theorem p103_23 : vm_P 103 23 = some (vm_m103, (23, .getfield 33, 3, 9, 3, 0)) := rfl
theorem p103_26 : vm_P 103 26 = some (vm_m103, (26, .iload_n 2, 1, 0, 0, 0)) := rfl
theorem p103_27 : vm_P 103 27 = some (vm_m103, (27, .invokevirtual 178, 3, 0, 10, 1)) := rfl
theorem p103_30 : vm_P 103 30 = some (vm_m103, (30, .ifCond .ne 6, 3, 0, 0, 0)) := rfl
theorem p103_33 : vm_P 103 33 = some (vm_m103, (33, .bipush (-2), 2, 0, 0, 0)) := rfl
theorem p103_35 : vm_P 103 35 = some (vm_m103, (35, .ireturn, 1, 0, 0, 0)) := rfl
theorem p103_36 : vm_P 103 36 = some (vm_m103, (36, .aload_n 0, 1, 0, 0, 0)) := rfl
theorem p103_37 : vm_P 103 37 = some (vm_m103, (37, .getfield 45, 3, 9, 5, 0)) := rfl
theorem p103_40 : vm_P 103 40 = some (vm_m103, (40, .aload_n 0, 1, 0, 0, 0)) := rfl
theorem p103_41 : vm_P 103 41 = some (vm_m103, (41, .getfield 33, 3, 9, 3, 0)) := rfl
theorem p103_44 : vm_P 103 44 = some (vm_m103, (44, .invokevirtual 155, 3, 0, 67, 601)) := rfl
theorem p103_47 : vm_P 103 47 = some (vm_m103, (47, .aload_n 0, 1, 0, 0, 0)) := rfl
theorem p103_48 : vm_P 103 48 = some (vm_m103, (48, .getfield 33, 3, 9, 3, 0)) := rfl
theorem p103_51 : vm_P 103 51 = some (vm_m103, (51, .iload_n 1, 1, 0, 0, 0)) := rfl
theorem p103_52 : vm_P 103 52 = some (vm_m103, (52, .iload_n 2, 1, 0, 0, 0)) := rfl
theorem p103_53 : vm_P 103 53 = some (vm_m103, (53, .invokevirtual 181, 3, 0, 17, 2)) := rfl
theorem p103_56 : vm_P 103 56 = some (vm_m103, (56, .aload_n 0, 1, 0, 0, 0)) := rfl
theorem p103_57 : vm_P 103 57 = some (vm_m103, (57, .getfield 33, 3, 9, 3, 0)) := rfl
theorem p103_60 : vm_P 103 60 = some (vm_m103, (60, .iload_n 1, 1, 0, 0, 0)) := rfl
theorem p103_61 : vm_P 103 61 = some (vm_m103, (61, .iconst 1, 1, 0, 0, 0)) := rfl
theorem p103_62 : vm_P 103 62 = some (vm_m103, (62, .invokevirtual 148, 3, 0, 7, 2)) := rfl
theorem p103_65 : vm_P 103 65 = some (vm_m103, (65, .ireturn, 1, 0, 0, 0)) := rfl
theorem p104_0 : vm_P 104 0 = some (vm_m104, (0, .aload_n 0, 1, 0, 0, 0)) := rfl
theorem p104_1 : vm_P 104 1 = some (vm_m104, (1, .iload_n 1, 1, 0, 0, 0)) := rfl
theorem p104_2 : vm_P 104 2 = some (vm_m104, (2, .iload_n 2, 1, 0, 0, 0)) := rfl
theorem p104_3 : vm_P 104 3 = some (vm_m104, (3, .invokevirtual 169, 3, 0, 123, 902)) := rfl
theorem p104_6 : vm_P 104 6 = some (vm_m104, (6, .ifCond .eq 10, 3, 0, 0, 0)) := rfl
theorem p104_9 : vm_P 104 9 = some (vm_m104, (9, .iload_n 3, 1, 0, 0, 0)) := rfl
theorem p104_10 : vm_P 104 10 = some (vm_m104, (10, .invokestatic 131, 3, 1, 125, 1)) := rfl
theorem p104_13 : vm_P 104 13 = some (vm_m104, (13, .ifCond .ne 5, 3, 0, 0, 0)) := rfl
theorem p104_16 : vm_P 104 16 = some (vm_m104, (16, .iconst (-1), 1, 0, 0, 0)) := rfl
theorem p104_17 : vm_P 104 17 = some (vm_m104, (17, .ireturn, 1, 0, 0, 0)) := rfl
theorem p104_18 : vm_P 104 18 = some (vm_m104, (18, .aload_n 0, 1, 0, 0, 0)) := rfl
theorem p104_19 : vm_P 104 19 = some (vm_m104, (19, .getfield 33, 3, 9, 3, 0)) := rfl
theorem p104_22 : vm_P 104 22 = some (vm_m104, (22, .iload_n 1, 1, 0, 0, 0)) := rfl
theorem p104_23 : vm_P 104 23 = some (vm_m104, (23, .iload_n 2, 1, 0, 0, 0)) := rfl
theorem p104_24 : vm_P 104 24 = some (vm_m104, (24, .iload_n 3, 1, 0, 0, 0)) := rfl
theorem p104_25 : vm_P 104 25 = some (vm_m104, (25, .invokevirtual 184, 3, 0, 18, 3)) := rfl
theorem p104_28 : vm_P 104 28 = some (vm_m104, (28, .ifCond .ne 6, 3, 0, 0, 0)) := rfl
theorem p104_31 : vm_P 104 31 = some (vm_m104, (31, .bipush (-2), 2, 0, 0, 0)) := rfl
theorem p104_33 : vm_P 104 33 = some (vm_m104, (33, .ireturn, 1, 0, 0, 0)) := rfl
theorem p104_34 : vm_P 104 34 = some (vm_m104, (34, .aload_n 0, 1, 0, 0, 0)) := rfl
theorem p104_35 : vm_P 104 35 = some (vm_m104, (35, .getfield 45, 3, 9, 5, 0)) := rfl
theorem p104_38 : vm_P 104 38 = some (vm_m104, (38, .aload_n 0, 1, 0, 0, 0)) := rfl
theorem p104_39 : vm_P 104 39 = some (vm_m104, (39, .getfield 33, 3, 9, 3, 0)) := rfl
theorem p104_42 : vm_P 104 42 = some (vm_m104, (42, .invokevirtual 155, 3, 0, 67, 601)) := rfl
theorem p104_45 : vm_P 104 45 = some (vm_m104, (45, .aload_n 0, 1, 0, 0, 0)) := rfl
theorem p104_46 : vm_P 104 46 = some (vm_m104, (46, .getfield 33, 3, 9, 3, 0)) := rfl
theorem p104_49 : vm_P 104 49 = some (vm_m104, (49, .iload_n 1, 1, 0, 0, 0)) := rfl
theorem p104_50 : vm_P 104 50 = some (vm_m104, (50, .iload_n 2, 1, 0, 0, 0)) := rfl
theorem p104_51 : vm_P 104 51 = some (vm_m104, (51, .iload_n 3, 1, 0, 0, 0)) := rfl
theorem p104_52 : vm_P 104 52 = some (vm_m104, (52, .invokevirtual 187, 3, 0, 19, 3)) := rfl
theorem p104_55 : vm_P 104 55 = some (vm_m104, (55, .aload_n 0, 1, 0, 0, 0)) := rfl
theorem p104_56 : vm_P 104 56 = some (vm_m104, (56, .getfield 33, 3, 9, 3, 0)) := rfl
theorem p104_59 : vm_P 104 59 = some (vm_m104, (59, .iload_n 2, 1, 0, 0, 0)) := rfl
theorem p104_60 : vm_P 104 60 = some (vm_m104, (60, .iconst 2, 1, 0, 0, 0)) := rfl
theorem p104_61 : vm_P 104 61 = some (vm_m104, (61, .iload_n 3, 1, 0, 0, 0)) := rfl
theorem p104_62 : vm_P 104 62 = some (vm_m104, (62, .iadd, 1, 0, 0, 0)) := rfl
theorem p104_63 : vm_P 104 63 = some (vm_m104, (63, .invokevirtual 148, 3, 0, 7, 2)) := rfl
theorem p104_66 : vm_P 104 66 = some (vm_m104, (66, .ireturn, 1, 0, 0, 0)) := rfl
theorem p105_0 : vm_P 105 0 = some (vm_m105, (0, .aload_n 0, 1, 0, 0, 0)) := rfl
theorem p105_1 : vm_P 105 1 = some (vm_m105, (1, .getfield 45, 3, 9, 5, 0)) := rfl
theorem p105_4 : vm_P 105 4 = some (vm_m105, (4, .aload_n 0, 1, 0, 0, 0)) := rfl
theorem p105_5 : vm_P 105 5 = some (vm_m105, (5, .getfield 33, 3, 9, 3, 0)) := rfl
theorem p105_8 : vm_P 105 8 = some (vm_m105, (8, .invokevirtual 191, 3, 0, 68, 601)) := rfl
theorem p105_11 : vm_P 105 11 = some (vm_m105, (11, .ifCond .eq 13, 3, 0, 0, 0)) := rfl
theorem p105_14 : vm_P 105 14 = some (vm_m105, (14, .aload_n 0, 1, 0, 0, 0)) := rfl
theorem p105_15 : vm_P 105 15 = some (vm_m105, (15, .getfield 45, 3, 9, 5, 0)) := rfl
theorem p105_18 : vm_P 105 18 = some (vm_m105, (18, .invokevirtual 195, 3, 0, 64, 600)) := rfl
theorem p105_21 : vm_P 105 21 = some (vm_m105, (21, .goto 5, 3, 0, 0, 0)) := rfl
theorem p105_24 : vm_P 105 24 = some (vm_m105, (24, .bipush (-2), 2, 0, 0, 0)) := rfl
theorem p105_26 : vm_P 105 26 = some (vm_m105, (26, .ireturn, 1, 0, 0, 0)) := rfl
theorem p106_0 : vm_P 106 0 = some (vm_m106, (0, .aload_n 0, 1, 0, 0, 0)) := rfl
theorem p106_1 : vm_P 106 1 = some (vm_m106, (1, .getfield 33, 3, 9, 3, 0)) := rfl
theorem p106_4 : vm_P 106 4 = some (vm_m106, (4, .iload_n 1, 1, 0, 0, 0)) := rfl
theorem p106_5 : vm_P 106 5 = some (vm_m106, (5, .invokevirtual 145, 3, 0, 6, 1)) := rfl
theorem p106_8 : vm_P 106 8 = some (vm_m106, (8, .ifCond .eq 14, 3, 0, 0, 0)) := rfl
theorem p106_11 : vm_P 106 11 = some (vm_m106, (11, .aload_n 0, 1, 0, 0, 0)) := rfl
theorem p106_12 : vm_P 106 12 = some (vm_m106, (12, .getfield 33, 3, 9, 3, 0)) := rfl
theorem p106_15 : vm_P 106 15 = some (vm_m106, (15, .iload_n 1, 1, 0, 0, 0)) := rfl
theorem p106_16 : vm_P 106 16 = some (vm_m106, (16, .invokevirtual 196, 3, 0, 20, 1)) := rfl
theorem p106_19 : vm_P 106 19 = some (vm_m106, (19, .goto 4, 3, 0, 0, 0)) := rfl
theorem p106_22 : vm_P 106 22 = some (vm_m106, (22, .iconst (-1), 1, 0, 0, 0)) := rfl
theorem p106_23 : vm_P 106 23 = some (vm_m106, (23, .ireturn, 1, 0, 0, 0)) := rfl
theorem p107_0 : vm_P 107 0 = some (vm_m107, (0, .aload_n 0, 1, 0, 0, 0)) := rfl
theorem p107_1 : vm_P 107 1 = some (vm_m107, (1, .getfield 33, 3, 9, 3, 0)) := rfl
theorem p107_4 : vm_P 107 4 = some (vm_m107, (4, .iload_n 1, 1, 0, 0, 0)) := rfl
theorem p107_5 : vm_P 107 5 = some (vm_m107, (5, .invokevirtual 145, 3, 0, 6, 1)) := rfl
theorem p107_8 : vm_P 107 8 = some (vm_m107, (8, .ifCond .eq 18, 3, 0, 0, 0)) := rfl
theorem p107_11 : vm_P 107 11 = some (vm_m107, (11, .iload_n 2, 1, 0, 0, 0)) := rfl
theorem p107_12 : vm_P 107 12 = some (vm_m107, (12, .iconst 1, 1, 0, 0, 0)) := rfl
theorem p107_13 : vm_P 107 13 = some (vm_m107, (13, .bipush 6, 2, 0, 0, 0)) := rfl
theorem p107_15 : vm_P 107 15 = some (vm_m107, (15, .invokestatic 111, 3, 1, 126, 3)) := rfl
theorem p107_18 : vm_P 107 18 = some (vm_m107, (18, .ifCond .eq 8, 3, 0, 0, 0)) := rfl
theorem p107_21 : vm_P 107 21 = some (vm_m107, (21, .iload_n 3, 1, 0, 0, 0)) := rfl
theorem p107_22 : vm_P 107 22 = some (vm_m107, (22, .iconst (-1), 1, 0, 0, 0)) := rfl
theorem p107_23 : vm_P 107 23 = some (vm_m107, (23, .if_icmp .ge 5, 3, 0, 0, 0)) := rfl
theorem p107_26 : vm_P 107 26 = some (vm_m107, (26, .iconst (-1), 1, 0, 0, 0)) := rfl
theorem p107_27 : vm_P 107 27 = some (vm_m107, (27, .ireturn, 1, 0, 0, 0)) := rfl
theorem p107_28 : vm_P 107 28 = some (vm_m107, (28, .aload_n 0, 1, 0, 0, 0)) := rfl
theorem p107_29 : vm_P 107 29 = some (vm_m107, (29, .getfield 33, 3, 9, 3, 0)) := rfl
theorem p107_32 : vm_P 107 32 = some (vm_m107, (32, .iload_n 1, 1, 0, 0, 0)) := rfl
theorem p107_33 : vm_P 107 33 = some (vm_m107, (33, .invokevirtual 178, 3, 0, 10, 1)) := rfl
theorem p107_36 : vm_P 107 36 = some (vm_m107, (36, .ifCond .ne 6, 3, 0, 0, 0)) := rfl
theorem p107_39 : vm_P 107 39 = some (vm_m107, (39, .bipush (-2), 2, 0, 0, 0)) := rfl
theorem p107_41 : vm_P 107 41 = some (vm_m107, (41, .ireturn, 1, 0, 0, 0)) := rfl
theorem p107_42 : vm_P 107 42 = some (vm_m107, (42, .aload_n 0, 1, 0, 0, 0)) := rfl
theorem p107_43 : vm_P 107 43 = some (vm_m107, (43, .getfield 64, 3, 9, 8, 0)) := rfl
theorem p107_46 : vm_P 107 46 = some (vm_m107, (46, .aload_n 0, 1, 0, 0, 0)) := rfl
theorem p107_47 : vm_P 107 47 = some (vm_m107, (47, .getfield 33, 3, 9, 3, 0)) := rfl
theorem p107_50 : vm_P 107 50 = some (vm_m107, (50, .iload_n 1, 1, 0, 0, 0)) := rfl
theorem p107_51 : vm_P 107 51 = some (vm_m107, (51, .iload_n 2, 1, 0, 0, 0)) := rfl
theorem p107_52 : vm_P 107 52 = some (vm_m107, (52, .invokevirtual 199, 3, 0, 34, 203)) := rfl
theorem p107_55 : vm_P 107 55 = some (vm_m107, (55, .istore 4, 2, 0, 0, 0)) := rfl
theorem p107_57 : vm_P 107 57 = some (vm_m107, (57, .iload_n 3, 1, 0, 0, 0)) := rfl
theorem p107_58 : vm_P 107 58 = some (vm_m107, (58, .iconst (-1), 1, 0, 0, 0)) := rfl
theorem p107_59 : vm_P 107 59 = some (vm_m107, (59, .if_icmp .eq 10, 3, 0, 0, 0)) := rfl
theorem p107_62 : vm_P 107 62 = some (vm_m107, (62, .iload 4, 2, 0, 0, 0)) := rfl
theorem p107_64 : vm_P 107 64 = some (vm_m107, (64, .bipush (-4), 2, 0, 0, 0)) := rfl
theorem p107_66 : vm_P 107 66 = some (vm_m107, (66, .if_icmp .ne 8, 3, 0, 0, 0)) := rfl
theorem p107_69 : vm_P 107 69 = some (vm_m107, (69, .iload 4, 2, 0, 0, 0)) := rfl
theorem p107_71 : vm_P 107 71 = some (vm_m107, (71, .goto 11, 3, 0, 0, 0)) := rfl
theorem p107_74 : vm_P 107 74 = some (vm_m107, (74, .aload_n 0, 1, 0, 0, 0)) := rfl
theorem p107_75 : vm_P 107 75 = some (vm_m107, (75, .getfield 64, 3, 9, 8, 0)) := rfl
theorem p107_78 : vm_P 107 78 = some (vm_m107, (78, .iload_n 3, 1, 0, 0, 0)) := rfl
theorem p107_79 : vm_P 107 79 = some (vm_m107, (79, .invokevirtual 203, 3, 0, 35, 201)) := rfl
theorem p107_82 : vm_P 107 82 = some (vm_m107, (82, .ireturn, 1, 0, 0, 0)) := rfl
theorem p108_0 : vm_P 108 0 = some (vm_m108, (0, .aload_n 0, 1, 0, 0, 0)) := rfl
theorem p108_1 : vm_P 108 1 = some (vm_m108, (1, .getfield 33, 3, 9, 3, 0)) := rfl
theorem p108_4 : vm_P 108 4 = some (vm_m108, (4, .iload_n 1, 1, 0, 0, 0)) := rfl
theorem p108_5 : vm_P 108 5 = some (vm_m108, (5, .invokevirtual 145, 3, 0, 6, 1)) := rfl
theorem p108_8 : vm_P 108 8 = some (vm_m108, (8, .ifCond .eq 19, 3, 0, 0, 0)) := rfl
theorem p108_11 : vm_P 108 11 = some (vm_m108, (11, .aload_n 0, 1, 0, 0, 0)) := rfl
theorem p108_12 : vm_P 108 12 = some (vm_m108, (12, .getfield 24, 3, 9, 2, 0)) := rfl
theorem p108_15 : vm_P 108 15 = some (vm_m108, (15, .iload_n 2, 1, 0, 0, 0)) := rfl
theorem p108_16 : vm_P 108 16 = some (vm_m108, (16, .invokevirtual 127, 3, 0, 76, 701)) := rfl
theorem p108_19 : vm_P 108 19 = some (vm_m108, (19, .ifCond .eq 8, 3, 0, 0, 0)) := rfl
theorem p108_22 : vm_P 108 22 = some (vm_m108, (22, .iload_n 3, 1, 0, 0, 0)) := rfl
theorem p108_23 : vm_P 108 23 = some (vm_m108, (23, .iconst (-1), 1, 0, 0, 0)) := rfl
theorem p108_24 : vm_P 108 24 = some (vm_m108, (24, .if_icmp .ge 5, 3, 0, 0, 0)) := rfl
theorem p108_27 : vm_P 108 27 = some (vm_m108, (27, .iconst (-1), 1, 0, 0, 0)) := rfl
theorem p108_28 : vm_P 108 28 = some (vm_m108, (28, .ireturn, 1, 0, 0, 0)) := rfl
theorem p108_29 : vm_P 108 29 = some (vm_m108, (29, .aload_n 0, 1, 0, 0, 0)) := rfl
theorem p108_30 : vm_P 108 30 = some (vm_m108, (30, .getfield 33, 3, 9, 3, 0)) := rfl
theorem p108_33 : vm_P 108 33 = some (vm_m108, (33, .iload_n 1, 1, 0, 0, 0)) := rfl
theorem p108_34 : vm_P 108 34 = some (vm_m108, (34, .invokevirtual 178, 3, 0, 10, 1)) := rfl
theorem p108_37 : vm_P 108 37 = some (vm_m108, (37, .ifCond .ne 6, 3, 0, 0, 0)) := rfl
theorem p108_40 : vm_P 108 40 = some (vm_m108, (40, .bipush (-2), 2, 0, 0, 0)) := rfl
theorem p108_42 : vm_P 108 42 = some (vm_m108, (42, .ireturn, 1, 0, 0, 0)) := rfl
theorem p108_43 : vm_P 108 43 = some (vm_m108, (43, .aload_n 0, 1, 0, 0, 0)) := rfl
theorem p108_44 : vm_P 108 44 = some (vm_m108, (44, .getfield 71, 3, 9, 9, 0)) := rfl
theorem p108_47 : vm_P 108 47 = some (vm_m108, (47, .aload_n 0, 1, 0, 0, 0)) := rfl
theorem p108_48 : vm_P 108 48 = some (vm_m108, (48, .getfield 33, 3, 9, 3, 0)) := rfl
theorem p108_51 : vm_P 108 51 = some (vm_m108, (51, .iload_n 1, 1, 0, 0, 0)) := rfl
theorem p108_52 : vm_P 108 52 = some (vm_m108, (52, .iload_n 2, 1, 0, 0, 0)) := rfl
theorem p108_53 : vm_P 108 53 = some (vm_m108, (53, .invokevirtual 206, 3, 0, 88, 803)) := rfl
theorem p108_56 : vm_P 108 56 = some (vm_m108, (56, .istore 4, 2, 0, 0, 0)) := rfl
theorem p108_58 : vm_P 108 58 = some (vm_m108, (58, .iload_n 3, 1, 0, 0, 0)) := rfl
theorem p108_59 : vm_P 108 59 = some (vm_m108, (59, .iconst (-1), 1, 0, 0, 0)) := rfl
theorem p108_60 : vm_P 108 60 = some (vm_m108, (60, .if_icmp .eq 10, 3, 0, 0, 0)) := rfl
theorem p108_63 : vm_P 108 63 = some (vm_m108, (63, .iload 4, 2, 0, 0, 0)) := rfl
theorem p108_65 : vm_P 108 65 = some (vm_m108, (65, .bipush (-4), 2, 0, 0, 0)) := rfl
theorem p108_67 : vm_P 108 67 = some (vm_m108, (67, .if_icmp .ne 8, 3, 0, 0, 0)) := rfl
theorem p108_70 : vm_P 108 70 = some (vm_m108, (70, .iload 4, 2, 0, 0, 0)) := rfl
theorem p108_72 : vm_P 108 72 = some (vm_m108, (72, .goto 11, 3, 0, 0, 0)) := rfl
theorem p108_75 : vm_P 108 75 = some (vm_m108, (75, .aload_n 0, 1, 0, 0, 0)) := rfl
theorem p108_76 : vm_P 108 76 = some (vm_m108, (76, .getfield 71, 3, 9, 9, 0)) := rfl
theorem p108_79 : vm_P 108 79 = some (vm_m108, (79, .iload_n 3, 1, 0, 0, 0)) := rfl
theorem p108_80 : vm_P 108 80 = some (vm_m108, (80, .invokevirtual 207, 3, 0, 89, 801)) := rfl
theorem p108_83 : vm_P 108 83 = some (vm_m108, (83, .ireturn, 1, 0, 0, 0)) := rfl
theorem p109_0 : vm_P 109 0 = some (vm_m109, (0, .aload_n 0, 1, 0, 0, 0)) := rfl
theorem p109_1 : vm_P 109 1 = some (vm_m109, (1, .iload_n 1, 1, 0, 0, 0)) := rfl
theorem p109_2 : vm_P 109 2 = some (vm_m109, (2, .iload_n 2, 1, 0, 0, 0)) := rfl
theorem p109_3 : vm_P 109 3 = some (vm_m109, (3, .invokevirtual 169, 3, 0, 123, 902)) := rfl
theorem p109_6 : vm_P 109 6 = some (vm_m109, (6, .ifCond .eq 8, 3, 0, 0, 0)) := rfl
theorem p109_9 : vm_P 109 9 = some (vm_m109, (9, .iload_n 3, 1, 0, 0, 0)) := rfl
theorem p109_10 : vm_P 109 10 = some (vm_m109, (10, .iconst (-1), 1, 0, 0, 0)) := rfl
theorem p109_11 : vm_P 109 11 = some (vm_m109, (11, .if_icmp .ge 5, 3, 0, 0, 0)) := rfl
theorem p109_14 : vm_P 109 14 = some (vm_m109, (14, .iconst (-1), 1, 0, 0, 0)) := rfl
theorem p109_15 : vm_P 109 15 = some (vm_m109, (15, .ireturn, 1, 0, 0, 0)) := rfl
theorem p109_16 : vm_P 109 16 = some (vm_m109, (16, .aload_n 0, 1, 0, 0, 0)) := rfl
theorem p109_17 : vm_P 109 17 = some (vm_m109, (17, .getfield 33, 3, 9, 3, 0)) := rfl
theorem p109_20 : vm_P 109 20 = some (vm_m109, (20, .iload_n 1, 1, 0, 0, 0)) := rfl
theorem p109_21 : vm_P 109 21 = some (vm_m109, (21, .invokevirtual 178, 3, 0, 10, 1)) := rfl
theorem p109_24 : vm_P 109 24 = some (vm_m109, (24, .ifCond .eq 14, 3, 0, 0, 0)) := rfl
theorem p109_27 : vm_P 109 27 = some (vm_m109, (27, .aload_n 0, 1, 0, 0, 0)) := rfl
theorem p109_28 : vm_P 109 28 = some (vm_m109, (28, .getfield 33, 3, 9, 3, 0)) := rfl
theorem p109_31 : vm_P 109 31 = some (vm_m109, (31, .iload_n 2, 1, 0, 0, 0)) := rfl
theorem p109_32 : vm_P 109 32 = some (vm_m109, (32, .invokevirtual 178, 3, 0, 10, 1)) := rfl
theorem p109_35 : vm_P 109 35 = some (vm_m109, (35, .ifCond .ne 6, 3, 0, 0, 0)) := rfl
theorem p109_38 : vm_P 109 38 = some (vm_m109, (38, .bipush (-2), 2, 0, 0, 0)) := rfl
theorem p109_40 : vm_P 109 40 = some (vm_m109, (40, .ireturn, 1, 0, 0, 0)) := rfl
theorem p109_41 : vm_P 109 41 = some (vm_m109, (41, .aload_n 0, 1, 0, 0, 0)) := rfl
theorem p109_42 : vm_P 109 42 = some (vm_m109, (42, .getfield 78, 3, 9, 10, 0)) := rfl
theorem p109_45 : vm_P 109 45 = some (vm_m109, (45, .aload_n 0, 1, 0, 0, 0)) := rfl
theorem p109_46 : vm_P 109 46 = some (vm_m109, (46, .getfield 33, 3, 9, 3, 0)) := rfl
theorem p109_49 : vm_P 109 49 = some (vm_m109, (49, .iload_n 1, 1, 0, 0, 0)) := rfl
theorem p109_50 : vm_P 109 50 = some (vm_m109, (50, .iconst 1, 1, 0, 0, 0)) := rfl
theorem p109_51 : vm_P 109 51 = some (vm_m109, (51, .invokevirtual 148, 3, 0, 7, 2)) := rfl
theorem p109_54 : vm_P 109 54 = some (vm_m109, (54, .aload_n 0, 1, 0, 0, 0)) := rfl
theorem p109_55 : vm_P 109 55 = some (vm_m109, (55, .getfield 33, 3, 9, 3, 0)) := rfl
theorem p109_58 : vm_P 109 58 = some (vm_m109, (58, .iload_n 2, 1, 0, 0, 0)) := rfl
theorem p109_59 : vm_P 109 59 = some (vm_m109, (59, .iconst 1, 1, 0, 0, 0)) := rfl
theorem p109_60 : vm_P 109 60 = some (vm_m109, (60, .invokevirtual 148, 3, 0, 7, 2)) := rfl
theorem p109_63 : vm_P 109 63 = some (vm_m109, (63, .invokevirtual 210, 3, 0, 39, 302)) := rfl
theorem p109_66 : vm_P 109 66 = some (vm_m109, (66, .istore 4, 2, 0, 0, 0)) := rfl
theorem p109_68 : vm_P 109 68 = some (vm_m109, (68, .iload_n 3, 1, 0, 0, 0)) := rfl
theorem p109_69 : vm_P 109 69 = some (vm_m109, (69, .iconst (-1), 1, 0, 0, 0)) := rfl
theorem p109_70 : vm_P 109 70 = some (vm_m109, (70, .if_icmp .eq 10, 3, 0, 0, 0)) := rfl
theorem p109_73 : vm_P 109 73 = some (vm_m109, (73, .iload 4, 2, 0, 0, 0)) := rfl
theorem p109_75 : vm_P 109 75 = some (vm_m109, (75, .bipush (-4), 2, 0, 0, 0)) := rfl
theorem p109_77 : vm_P 109 77 = some (vm_m109, (77, .if_icmp .ne 8, 3, 0, 0, 0)) := rfl
theorem p109_80 : vm_P 109 80 = some (vm_m109, (80, .iload 4, 2, 0, 0, 0)) := rfl
theorem p109_82 : vm_P 109 82 = some (vm_m109, (82, .goto 11, 3, 0, 0, 0)) := rfl
theorem p109_85 : vm_P 109 85 = some (vm_m109, (85, .aload_n 0, 1, 0, 0, 0)) := rfl
theorem p109_86 : vm_P 109 86 = some (vm_m109, (86, .getfield 78, 3, 9, 10, 0)) := rfl
theorem p109_89 : vm_P 109 89 = some (vm_m109, (89, .iload_n 3, 1, 0, 0, 0)) := rfl
theorem p109_90 : vm_P 109 90 = some (vm_m109, (90, .invokevirtual 213, 3, 0, 40, 301)) := rfl
theorem p109_93 : vm_P 109 93 = some (vm_m109, (93, .ireturn, 1, 0, 0, 0)) := rfl
theorem p110_0 : vm_P 110 0 = some (vm_m110, (0, .aload_n 0, 1, 0, 0, 0)) := rfl
theorem p110_1 : vm_P 110 1 = some (vm_m110, (1, .getfield 33, 3, 9, 3, 0)) := rfl
theorem p110_4 : vm_P 110 4 = some (vm_m110, (4, .iload_n 1, 1, 0, 0, 0)) := rfl
theorem p110_5 : vm_P 110 5 = some (vm_m110, (5, .invokevirtual 145, 3, 0, 6, 1)) := rfl
theorem p110_8 : vm_P 110 8 = some (vm_m110, (8, .ifCond .ne 5, 3, 0, 0, 0)) := rfl
theorem p110_11 : vm_P 110 11 = some (vm_m110, (11, .iconst (-1), 1, 0, 0, 0)) := rfl
theorem p110_12 : vm_P 110 12 = some (vm_m110, (12, .ireturn, 1, 0, 0, 0)) := rfl
theorem p110_13 : vm_P 110 13 = some (vm_m110, (13, .aload_n 0, 1, 0, 0, 0)) := rfl
theorem p110_14 : vm_P 110 14 = some (vm_m110, (14, .getfield 33, 3, 9, 3, 0)) := rfl
theorem p110_17 : vm_P 110 17 = some (vm_m110, (17, .iload_n 1, 1, 0, 0, 0)) := rfl
theorem p110_18 : vm_P 110 18 = some (vm_m110, (18, .invokevirtual 178, 3, 0, 10, 1)) := rfl
theorem p110_21 : vm_P 110 21 = some (vm_m110, (21, .ifCond .eq 22, 3, 0, 0, 0)) := rfl
theorem p110_24 : vm_P 110 24 = some (vm_m110, (24, .aload_n 0, 1, 0, 0, 0)) := rfl
theorem p110_25 : vm_P 110 25 = some (vm_m110, (25, .getfield 24, 3, 9, 2, 0)) := rfl
theorem p110_28 : vm_P 110 28 = some (vm_m110, (28, .aload_n 0, 1, 0, 0, 0)) := rfl
theorem p110_29 : vm_P 110 29 = some (vm_m110, (29, .getfield 33, 3, 9, 3, 0)) := rfl
theorem p110_32 : vm_P 110 32 = some (vm_m110, (32, .iload_n 1, 1, 0, 0, 0)) := rfl
theorem p110_33 : vm_P 110 33 = some (vm_m110, (33, .iconst 1, 1, 0, 0, 0)) := rfl
theorem p110_34 : vm_P 110 34 = some (vm_m110, (34, .invokevirtual 148, 3, 0, 7, 2)) := rfl
theorem p110_37 : vm_P 110 37 = some (vm_m110, (37, .invokevirtual 214, 3, 0, 81, 701)) := rfl
theorem p110_40 : vm_P 110 40 = some (vm_m110, (40, .goto 5, 3, 0, 0, 0)) := rfl
theorem p110_43 : vm_P 110 43 = some (vm_m110, (43, .bipush (-2), 2, 0, 0, 0)) := rfl
theorem p110_45 : vm_P 110 45 = some (vm_m110, (45, .ireturn, 1, 0, 0, 0)) := rfl
theorem p111_0 : vm_P 111 0 = some (vm_m111, (0, .aload_n 0, 1, 0, 0, 0)) := rfl
theorem p111_1 : vm_P 111 1 = some (vm_m111, (1, .iload_n 1, 1, 0, 0, 0)) := rfl
theorem p111_2 : vm_P 111 2 = some (vm_m111, (2, .iload_n 2, 1, 0, 0, 0)) := rfl
theorem p111_3 : vm_P 111 3 = some (vm_m111, (3, .invokevirtual 169, 3, 0, 123, 902)) := rfl
theorem p111_6 : vm_P 111 6 = some (vm_m111, (6, .ifCond .eq 13, 3, 0, 0, 0)) := rfl
theorem p111_9 : vm_P 111 9 = some (vm_m111, (9, .iload_n 3, 1, 0, 0, 0)) := rfl
theorem p111_10 : vm_P 111 10 = some (vm_m111, (10, .iconst 1, 1, 0, 0, 0)) := rfl
theorem p111_11 : vm_P 111 11 = some (vm_m111, (11, .bipush 6, 2, 0, 0, 0)) := rfl
theorem p111_13 : vm_P 111 13 = some (vm_m111, (13, .invokestatic 111, 3, 1, 126, 3)) := rfl
theorem p111_16 : vm_P 111 16 = some (vm_m111, (16, .ifCond .ne 5, 3, 0, 0, 0)) := rfl
theorem p111_19 : vm_P 111 19 = some (vm_m111, (19, .iconst (-1), 1, 0, 0, 0)) := rfl
theorem p111_20 : vm_P 111 20 = some (vm_m111, (20, .ireturn, 1, 0, 0, 0)) := rfl
theorem p111_21 : vm_P 111 21 = some (vm_m111, (21, .aload_n 0, 1, 0, 0, 0)) := rfl
theorem p111_22 : vm_P 111 22 = some (vm_m111, (22, .getfield 33, 3, 9, 3, 0)) := rfl
theorem p111_25 : vm_P 111 25 = some (vm_m111, (25, .iload_n 1, 1, 0, 0, 0)) := rfl
theorem p111_26 : vm_P 111 26 = some (vm_m111, (26, .invokevirtual 178, 3, 0, 10, 1)) := rfl
theorem p111_29 : vm_P 111 29 = some (vm_m111, (29, .ifCond .eq 14, 3, 0, 0, 0)) := rfl
theorem p111_32 : vm_P 111 32 = some (vm_m111, (32, .aload_n 0, 1, 0, 0, 0)) := rfl
theorem p111_33 : vm_P 111 33 = some (vm_m111, (33, .getfield 33, 3, 9, 3, 0)) := rfl
theorem p111_36 : vm_P 111 36 = some (vm_m111, (36, .iload_n 2, 1, 0, 0, 0)) := rfl
theorem p111_37 : vm_P 111 37 = some (vm_m111, (37, .invokevirtual 178, 3, 0, 10, 1)) := rfl
theorem p111_40 : vm_P 111 40 = some (vm_m111, (40, .ifCond .ne 6, 3, 0, 0, 0)) := rfl
theorem p111_43 : vm_P 111 43 = some (vm_m111, (43, .bipush (-2), 2, 0, 0, 0)) := rfl
theorem p111_45 : vm_P 111 45 = some (vm_m111, (45, .ireturn, 1, 0, 0, 0)) := rfl
theorem p111_46 : vm_P 111 46 = some (vm_m111, (46, .iconst 0, 1, 0, 0, 0)) := rfl
theorem p111_47 : vm_P 111 47 = some (vm_m111, (47, .istore 4, 2, 0, 0, 0)) := rfl
theorem p111_49 : vm_P 111 49 = some (vm_m111, (49, .iload 4, 2, 0, 0, 0)) := rfl
theorem p111_51 : vm_P 111 51 = some (vm_m111, (51, .iconst 4, 1, 0, 0, 0)) := rfl
theorem p111_52 : vm_P 111 52 = some (vm_m111, (52, .if_icmp .ge 24, 3, 0, 0, 0)) := rfl
theorem p111_55 : vm_P 111 55 = some (vm_m111, (55, .aload_n 0, 1, 0, 0, 0)) := rfl
theorem p111_56 : vm_P 111 56 = some (vm_m111, (56, .iload_n 1, 1, 0, 0, 0)) := rfl
theorem p111_57 : vm_P 111 57 = some (vm_m111, (57, .iload_n 2, 1, 0, 0, 0)) := rfl
theorem p111_58 : vm_P 111 58 = some (vm_m111, (58, .iload 4, 2, 0, 0, 0)) := rfl
theorem p111_60 : vm_P 111 60 = some (vm_m111, (60, .iload_n 3, 1, 0, 0, 0)) := rfl
theorem p111_61 : vm_P 111 61 = some (vm_m111, (61, .invokevirtual 217, 3, 0, 122, 904)) := rfl
theorem p111_64 : vm_P 111 64 = some (vm_m111, (64, .ifCond .eq 6, 3, 0, 0, 0)) := rfl
theorem p111_67 : vm_P 111 67 = some (vm_m111, (67, .iload 4, 2, 0, 0, 0)) := rfl
theorem p111_69 : vm_P 111 69 = some (vm_m111, (69, .ireturn, 1, 0, 0, 0)) := rfl
theorem p111_70 : vm_P 111 70 = some (vm_m111, (70, .iinc 4 1, 3, 0, 0, 0)) := rfl
theorem p111_73 : vm_P 111 73 = some (vm_m111, (73, .goto (-24), 3, 0, 0, 0)) := rfl
theorem p111_76 : vm_P 111 76 = some (vm_m111, (76, .bipush (-4), 2, 0, 0, 0)) := rfl
theorem p111_78 : vm_P 111 78 = some (vm_m111, (78, .ireturn, 1, 0, 0, 0)) := rfl
theorem p112_0 : vm_P 112 0 = some (vm_m112, (0, .iload_n 1, 1, 0, 0, 0)) := rfl
theorem p112_1 : vm_P 112 1 = some (vm_m112, (1, .invokestatic 131, 3, 1, 125, 1)) := rfl
theorem p112_4 : vm_P 112 4 = some (vm_m112, (4, .ifCond .ne 5, 3, 0, 0, 0)) := rfl
theorem p112_7 : vm_P 112 7 = some (vm_m112, (7, .iconst (-1), 1, 0, 0, 0)) := rfl
theorem p112_8 : vm_P 112 8 = some (vm_m112, (8, .ireturn, 1, 0, 0, 0)) := rfl
theorem p112_9 : vm_P 112 9 = some (vm_m112, (9, .aload_n 0, 1, 0, 0, 0)) := rfl
theorem p112_10 : vm_P 112 10 = some (vm_m112, (10, .getfield 18, 3, 9, 1, 0)) := rfl
theorem p112_13 : vm_P 112 13 = some (vm_m112, (13, .invokevirtual 115, 3, 0, 56, 500)) := rfl
theorem p112_16 : vm_P 112 16 = some (vm_m112, (16, .ifCond .eq 6, 3, 0, 0, 0)) := rfl
theorem p112_19 : vm_P 112 19 = some (vm_m112, (19, .bipush (-3), 2, 0, 0, 0)) := rfl
theorem p112_21 : vm_P 112 21 = some (vm_m112, (21, .ireturn, 1, 0, 0, 0)) := rfl
theorem p112_22 : vm_P 112 22 = some (vm_m112, (22, .aload_n 0, 1, 0, 0, 0)) := rfl
theorem p112_23 : vm_P 112 23 = some (vm_m112, (23, .getfield 18, 3, 9, 1, 0)) := rfl
theorem p112_26 : vm_P 112 26 = some (vm_m112, (26, .iload_n 1, 1, 0, 0, 0)) := rfl
theorem p112_27 : vm_P 112 27 = some (vm_m112, (27, .invokevirtual 101, 3, 0, 58, 501)) := rfl
theorem p112_30 : vm_P 112 30 = some (vm_m112, (30, .aload_n 0, 1, 0, 0, 0)) := rfl
theorem p112_31 : vm_P 112 31 = some (vm_m112, (31, .getfield 18, 3, 9, 1, 0)) := rfl
theorem p112_34 : vm_P 112 34 = some (vm_m112, (34, .invokevirtual 118, 3, 0, 55, 500)) := rfl
theorem p112_37 : vm_P 112 37 = some (vm_m112, (37, .ireturn, 1, 0, 0, 0)) := rfl
theorem p113_0 : vm_P 113 0 = some (vm_m113, (0, .aload_n 0, 1, 0, 0, 0)) := rfl
theorem p113_1 : vm_P 113 1 = some (vm_m113, (1, .getfield 18, 3, 9, 1, 0)) := rfl
theorem p113_4 : vm_P 113 4 = some (vm_m113, (4, .invokevirtual 118, 3, 0, 55, 500)) := rfl
theorem p113_7 : vm_P 113 7 = some (vm_m113, (7, .istore_n 1, 1, 0, 0, 0)) := rfl
theorem p113_8 : vm_P 113 8 = some (vm_m113, (8, .aload_n 0, 1, 0, 0, 0)) := rfl
theorem p113_9 : vm_P 113 9 = some (vm_m113, (9, .getfield 18, 3, 9, 1, 0)) := rfl
theorem p113_12 : vm_P 113 12 = some (vm_m113, (12, .invokevirtual 108, 3, 0, 57, 500)) := rfl
theorem p113_15 : vm_P 113 15 = some (vm_m113, (15, .iload_n 1, 1, 0, 0, 0)) := rfl
theorem p113_16 : vm_P 113 16 = some (vm_m113, (16, .ireturn, 1, 0, 0, 0)) := rfl
theorem p114_0 : vm_P 114 0 = some (vm_m114, (0, .aload_n 0, 1, 0, 0, 0)) := rfl
theorem p114_1 : vm_P 114 1 = some (vm_m114, (1, .getfield 33, 3, 9, 3, 0)) := rfl
theorem p114_4 : vm_P 114 4 = some (vm_m114, (4, .iload_n 1, 1, 0, 0, 0)) := rfl
theorem p114_5 : vm_P 114 5 = some (vm_m114, (5, .invokevirtual 145, 3, 0, 6, 1)) := rfl
theorem p114_8 : vm_P 114 8 = some (vm_m114, (8, .ifCond .ne 5, 3, 0, 0, 0)) := rfl
theorem p114_11 : vm_P 114 11 = some (vm_m114, (11, .iconst (-1), 1, 0, 0, 0)) := rfl
theorem p114_12 : vm_P 114 12 = some (vm_m114, (12, .ireturn, 1, 0, 0, 0)) := rfl
theorem p114_13 : vm_P 114 13 = some (vm_m114, (13, .aload_n 0, 1, 0, 0, 0)) := rfl
theorem p114_14 : vm_P 114 14 = some (vm_m114, (14, .getfield 33, 3, 9, 3, 0)) := rfl
theorem p114_17 : vm_P 114 17 = some (vm_m114, (17, .iload_n 1, 1, 0, 0, 0)) := rfl
theorem p114_18 : vm_P 114 18 = some (vm_m114, (18, .invokevirtual 178, 3, 0, 10, 1)) := rfl
theorem p114_21 : vm_P 114 21 = some (vm_m114, (21, .ifCond .eq 26, 3, 0, 0, 0)) := rfl
theorem p114_24 : vm_P 114 24 = some (vm_m114, (24, .aload_n 0, 1, 0, 0, 0)) := rfl
theorem p114_25 : vm_P 114 25 = some (vm_m114, (25, .getfield 24, 3, 9, 2, 0)) := rfl
theorem p114_28 : vm_P 114 28 = some (vm_m114, (28, .aload_n 0, 1, 0, 0, 0)) := rfl
theorem p114_29 : vm_P 114 29 = some (vm_m114, (29, .getfield 18, 3, 9, 1, 0)) := rfl
theorem p114_32 : vm_P 114 32 = some (vm_m114, (32, .aload_n 0, 1, 0, 0, 0)) := rfl
theorem p114_33 : vm_P 114 33 = some (vm_m114, (33, .getfield 33, 3, 9, 3, 0)) := rfl
theorem p114_36 : vm_P 114 36 = some (vm_m114, (36, .iload_n 1, 1, 0, 0, 0)) := rfl
theorem p114_37 : vm_P 114 37 = some (vm_m114, (37, .iconst 1, 1, 0, 0, 0)) := rfl
theorem p114_38 : vm_P 114 38 = some (vm_m114, (38, .invokevirtual 148, 3, 0, 7, 2)) := rfl
theorem p114_41 : vm_P 114 41 = some (vm_m114, (41, .invokevirtual 221, 3, 0, 83, 702)) := rfl
theorem p114_44 : vm_P 114 44 = some (vm_m114, (44, .goto 5, 3, 0, 0, 0)) := rfl
theorem p114_47 : vm_P 114 47 = some (vm_m114, (47, .bipush (-2), 2, 0, 0, 0)) := rfl
theorem p114_49 : vm_P 114 49 = some (vm_m114, (49, .ireturn, 1, 0, 0, 0)) := rfl
theorem p115_0 : vm_P 115 0 = some (vm_m115, (0, .aload_n 0, 1, 0, 0, 0)) := rfl
theorem p115_1 : vm_P 115 1 = some (vm_m115, (1, .getfield 33, 3, 9, 3, 0)) := rfl
theorem p115_4 : vm_P 115 4 = some (vm_m115, (4, .iload_n 1, 1, 0, 0, 0)) := rfl
theorem p115_5 : vm_P 115 5 = some (vm_m115, (5, .invokevirtual 145, 3, 0, 6, 1)) := rfl
theorem p115_8 : vm_P 115 8 = some (vm_m115, (8, .ifCond .eq 24, 3, 0, 0, 0)) := rfl
theorem p115_11 : vm_P 115 11 = some (vm_m115, (11, .aload_n 0, 1, 0, 0, 0)) := rfl
theorem p115_12 : vm_P 115 12 = some (vm_m115, (12, .getfield 24, 3, 9, 2, 0)) := rfl
theorem p115_15 : vm_P 115 15 = some (vm_m115, (15, .iload_n 2, 1, 0, 0, 0)) := rfl
theorem p115_16 : vm_P 115 16 = some (vm_m115, (16, .invokevirtual 127, 3, 0, 76, 701)) := rfl
theorem p115_19 : vm_P 115 19 = some (vm_m115, (19, .ifCond .eq 13, 3, 0, 0, 0)) := rfl
theorem p115_22 : vm_P 115 22 = some (vm_m115, (22, .iload_n 3, 1, 0, 0, 0)) := rfl
theorem p115_23 : vm_P 115 23 = some (vm_m115, (23, .iconst 0, 1, 0, 0, 0)) := rfl
theorem p115_24 : vm_P 115 24 = some (vm_m115, (24, .bipush 8, 2, 0, 0, 0)) := rfl
theorem p115_26 : vm_P 115 26 = some (vm_m115, (26, .invokestatic 111, 3, 1, 126, 3)) := rfl
theorem p115_29 : vm_P 115 29 = some (vm_m115, (29, .ifCond .ne 5, 3, 0, 0, 0)) := rfl
theorem p115_32 : vm_P 115 32 = some (vm_m115, (32, .iconst (-1), 1, 0, 0, 0)) := rfl
theorem p115_33 : vm_P 115 33 = some (vm_m115, (33, .ireturn, 1, 0, 0, 0)) := rfl
theorem p115_34 : vm_P 115 34 = some (vm_m115, (34, .aload_n 0, 1, 0, 0, 0)) := rfl
theorem p115_35 : vm_P 115 35 = some (vm_m115, (35, .getfield 33, 3, 9, 3, 0)) := rfl
theorem p115_38 : vm_P 115 38 = some (vm_m115, (38, .iload_n 1, 1, 0, 0, 0)) := rfl
theorem p115_39 : vm_P 115 39 = some (vm_m115, (39, .invokevirtual 178, 3, 0, 10, 1)) := rfl
theorem p115_42 : vm_P 115 42 = some (vm_m115, (42, .ifCond .eq 24, 3, 0, 0, 0)) := rfl
theorem p115_45 : vm_P 115 45 = some (vm_m115, (45, .aload_n 0, 1, 0, 0, 0)) := rfl
theorem p115_46 : vm_P 115 46 = some (vm_m115, (46, .getfield 24, 3, 9, 2, 0)) := rfl
theorem p115_49 : vm_P 115 49 = some (vm_m115, (49, .iload_n 2, 1, 0, 0, 0)) := rfl
theorem p115_50 : vm_P 115 50 = some (vm_m115, (50, .aload_n 0, 1, 0, 0, 0)) := rfl
theorem p115_51 : vm_P 115 51 = some (vm_m115, (51, .getfield 33, 3, 9, 3, 0)) := rfl
theorem p115_54 : vm_P 115 54 = some (vm_m115, (54, .iload_n 1, 1, 0, 0, 0)) := rfl
theorem p115_55 : vm_P 115 55 = some (vm_m115, (55, .iconst 1, 1, 0, 0, 0)) := rfl
theorem p115_56 : vm_P 115 56 = some (vm_m115, (56, .invokevirtual 148, 3, 0, 7, 2)) := rfl
theorem p115_59 : vm_P 115 59 = some (vm_m115, (59, .iload_n 3, 1, 0, 0, 0)) := rfl
theorem p115_60 : vm_P 115 60 = some (vm_m115, (60, .invokevirtual 225, 3, 0, 85, 703)) := rfl
theorem p115_63 : vm_P 115 63 = some (vm_m115, (63, .goto 5, 3, 0, 0, 0)) := rfl
theorem p115_66 : vm_P 115 66 = some (vm_m115, (66, .bipush (-2), 2, 0, 0, 0)) := rfl
theorem p115_68 : vm_P 115 68 = some (vm_m115, (68, .ireturn, 1, 0, 0, 0)) := rfl
theorem p116_0 : vm_P 116 0 = some (vm_m116, (0, .aload_n 0, 1, 0, 0, 0)) := rfl
theorem p116_1 : vm_P 116 1 = some (vm_m116, (1, .getfield 33, 3, 9, 3, 0)) := rfl
theorem p116_4 : vm_P 116 4 = some (vm_m116, (4, .iload_n 1, 1, 0, 0, 0)) := rfl
theorem p116_5 : vm_P 116 5 = some (vm_m116, (5, .invokevirtual 145, 3, 0, 6, 1)) := rfl
theorem p116_8 : vm_P 116 8 = some (vm_m116, (8, .ifCond .eq 33, 3, 0, 0, 0)) := rfl
theorem p116_11 : vm_P 116 11 = some (vm_m116, (11, .iload_n 2, 1, 0, 0, 0)) := rfl
theorem p116_12 : vm_P 116 12 = some (vm_m116, (12, .iconst 0, 1, 0, 0, 0)) := rfl
theorem p116_13 : vm_P 116 13 = some (vm_m116, (13, .bipush 8, 2, 0, 0, 0)) := rfl
theorem p116_15 : vm_P 116 15 = some (vm_m116, (15, .invokestatic 111, 3, 1, 126, 3)) := rfl
theorem p116_18 : vm_P 116 18 = some (vm_m116, (18, .ifCond .eq 23, 3, 0, 0, 0)) := rfl
theorem p116_21 : vm_P 116 21 = some (vm_m116, (21, .iload_n 3, 1, 0, 0, 0)) := rfl
theorem p116_22 : vm_P 116 22 = some (vm_m116, (22, .iconst 0, 1, 0, 0, 0)) := rfl
theorem p116_23 : vm_P 116 23 = some (vm_m116, (23, .bipush 10, 2, 0, 0, 0)) := rfl
theorem p116_25 : vm_P 116 25 = some (vm_m116, (25, .invokestatic 111, 3, 1, 126, 3)) := rfl
theorem p116_28 : vm_P 116 28 = some (vm_m116, (28, .ifCond .eq 13, 3, 0, 0, 0)) := rfl
theorem p116_31 : vm_P 116 31 = some (vm_m116, (31, .iload 4, 2, 0, 0, 0)) := rfl
theorem p116_33 : vm_P 116 33 = some (vm_m116, (33, .iconst 0, 1, 0, 0, 0)) := rfl
theorem p116_34 : vm_P 116 34 = some (vm_m116, (34, .iconst 1, 1, 0, 0, 0)) := rfl
theorem p116_35 : vm_P 116 35 = some (vm_m116, (35, .invokestatic 111, 3, 1, 126, 3)) := rfl
theorem p116_38 : vm_P 116 38 = some (vm_m116, (38, .ifCond .ne 5, 3, 0, 0, 0)) := rfl
theorem p116_41 : vm_P 116 41 = some (vm_m116, (41, .iconst (-1), 1, 0, 0, 0)) := rfl
theorem p116_42 : vm_P 116 42 = some (vm_m116, (42, .ireturn, 1, 0, 0, 0)) := rfl
theorem p116_43 : vm_P 116 43 = some (vm_m116, (43, .aload_n 0, 1, 0, 0, 0)) := rfl
theorem p116_44 : vm_P 116 44 = some (vm_m116, (44, .getfield 85, 3, 9, 11, 0)) := rfl
theorem p116_47 : vm_P 116 47 = some (vm_m116, (47, .aload_n 0, 1, 0, 0, 0)) := rfl
theorem p116_48 : vm_P 116 48 = some (vm_m116, (48, .getfield 33, 3, 9, 3, 0)) := rfl
theorem p116_51 : vm_P 116 51 = some (vm_m116, (51, .iload_n 1, 1, 0, 0, 0)) := rfl
theorem p116_52 : vm_P 116 52 = some (vm_m116, (52, .iload_n 2, 1, 0, 0, 0)) := rfl
theorem p116_53 : vm_P 116 53 = some (vm_m116, (53, .iload_n 3, 1, 0, 0, 0)) := rfl
theorem p116_54 : vm_P 116 54 = some (vm_m116, (54, .iload 4, 2, 0, 0, 0)) := rfl
theorem p116_56 : vm_P 116 56 = some (vm_m116, (56, .invokevirtual 229, 3, 0, 26, 105)) := rfl
theorem p116_59 : vm_P 116 59 = some (vm_m116, (59, .ireturn, 1, 0, 0, 0)) := rfl
theorem p117_0 : vm_P 117 0 = some (vm_m117, (0, .iload_n 1, 1, 0, 0, 0)) := rfl
theorem p117_1 : vm_P 117 1 = some (vm_m117, (1, .iconst 0, 1, 0, 0, 0)) := rfl
theorem p117_2 : vm_P 117 2 = some (vm_m117, (2, .sipush 9999, 3, 0, 0, 0)) := rfl
theorem p117_5 : vm_P 117 5 = some (vm_m117, (5, .invokestatic 111, 3, 1, 126, 3)) := rfl
theorem p117_8 : vm_P 117 8 = some (vm_m117, (8, .ifCond .eq 22, 3, 0, 0, 0)) := rfl
theorem p117_11 : vm_P 117 11 = some (vm_m117, (11, .iload_n 2, 1, 0, 0, 0)) := rfl
theorem p117_12 : vm_P 117 12 = some (vm_m117, (12, .iconst 1, 1, 0, 0, 0)) := rfl
theorem p117_13 : vm_P 117 13 = some (vm_m117, (13, .bipush 60, 2, 0, 0, 0)) := rfl
theorem p117_15 : vm_P 117 15 = some (vm_m117, (15, .invokestatic 111, 3, 1, 126, 3)) := rfl
theorem p117_18 : vm_P 117 18 = some (vm_m117, (18, .ifCond .eq 12, 3, 0, 0, 0)) := rfl
theorem p117_21 : vm_P 117 21 = some (vm_m117, (21, .iload_n 3, 1, 0, 0, 0)) := rfl
theorem p117_22 : vm_P 117 22 = some (vm_m117, (22, .iconst 0, 1, 0, 0, 0)) := rfl
theorem p117_23 : vm_P 117 23 = some (vm_m117, (23, .iconst 1, 1, 0, 0, 0)) := rfl
theorem p117_24 : vm_P 117 24 = some (vm_m117, (24, .invokestatic 111, 3, 1, 126, 3)) := rfl
theorem p117_27 : vm_P 117 27 = some (vm_m117, (27, .ifCond .ne 5, 3, 0, 0, 0)) := rfl
theorem p117_30 : vm_P 117 30 = some (vm_m117, (30, .iconst (-1), 1, 0, 0, 0)) := rfl
theorem p117_31 : vm_P 117 31 = some (vm_m117, (31, .ireturn, 1, 0, 0, 0)) := rfl
theorem p117_32 : vm_P 117 32 = some (vm_m117, (32, .aload_n 0, 1, 0, 0, 0)) := rfl
theorem p117_33 : vm_P 117 33 = some (vm_m117, (33, .getfield 37, 3, 9, 4, 0)) := rfl
theorem p117_36 : vm_P 117 36 = some (vm_m117, (36, .aload_n 0, 1, 0, 0, 0)) := rfl
theorem p117_37 : vm_P 117 37 = some (vm_m117, (37, .getfield 33, 3, 9, 3, 0)) := rfl
theorem p117_40 : vm_P 117 40 = some (vm_m117, (40, .invokevirtual 233, 3, 0, 2, 1)) := rfl
theorem p117_43 : vm_P 117 43 = some (vm_m117, (43, .iconst 0, 1, 0, 0, 0)) := rfl
theorem p117_44 : vm_P 117 44 = some (vm_m117, (44, .istore 4, 2, 0, 0, 0)) := rfl
theorem p117_46 : vm_P 117 46 = some (vm_m117, (46, .iload 4, 2, 0, 0, 0)) := rfl
theorem p117_48 : vm_P 117 48 = some (vm_m117, (48, .iload_n 2, 1, 0, 0, 0)) := rfl
theorem p117_49 : vm_P 117 49 = some (vm_m117, (49, .if_icmp .ge 22, 3, 0, 0, 0)) := rfl
theorem p117_52 : vm_P 117 52 = some (vm_m117, (52, .aload_n 0, 1, 0, 0, 0)) := rfl
theorem p117_53 : vm_P 117 53 = some (vm_m117, (53, .getfield 37, 3, 9, 4, 0)) := rfl
theorem p117_56 : vm_P 117 56 = some (vm_m117, (56, .iload_n 1, 1, 0, 0, 0)) := rfl
theorem p117_57 : vm_P 117 57 = some (vm_m117, (57, .iload 4, 2, 0, 0, 0)) := rfl
theorem p117_59 : vm_P 117 59 = some (vm_m117, (59, .invokestatic 236, 3, 1, 124, 2)) := rfl
theorem p117_62 : vm_P 117 62 = some (vm_m117, (62, .invokevirtual 239, 3, 0, 21, 1)) := rfl
theorem p117_65 : vm_P 117 65 = some (vm_m117, (65, .iinc 4 1, 3, 0, 0, 0)) := rfl
theorem p117_68 : vm_P 117 68 = some (vm_m117, (68, .goto (-22), 3, 0, 0, 0)) := rfl
theorem p117_71 : vm_P 117 71 = some (vm_m117, (71, .iload_n 3, 1, 0, 0, 0)) := rfl
theorem p117_72 : vm_P 117 72 = some (vm_m117, (72, .ifCond .ne 13, 3, 0, 0, 0)) := rfl
theorem p117_75 : vm_P 117 75 = some (vm_m117, (75, .aload_n 0, 1, 0, 0, 0)) := rfl
theorem p117_76 : vm_P 117 76 = some (vm_m117, (76, .getfield 37, 3, 9, 4, 0)) := rfl
theorem p117_79 : vm_P 117 79 = some (vm_m117, (79, .invokevirtual 166, 3, 0, 22, 0)) := rfl
theorem p117_82 : vm_P 117 82 = some (vm_m117, (82, .goto 18, 3, 0, 0, 0)) := rfl
theorem p117_85 : vm_P 117 85 = some (vm_m117, (85, .aload_n 0, 1, 0, 0, 0)) := rfl
theorem p117_86 : vm_P 117 86 = some (vm_m117, (86, .getfield 37, 3, 9, 4, 0)) := rfl
theorem p117_89 : vm_P 117 89 = some (vm_m117, (89, .invokevirtual 242, 3, 0, 24, 0)) := rfl
theorem p117_92 : vm_P 117 92 = some (vm_m117, (92, .aload_n 0, 1, 0, 0, 0)) := rfl
theorem p117_93 : vm_P 117 93 = some (vm_m117, (93, .getfield 33, 3, 9, 3, 0)) := rfl
theorem p117_96 : vm_P 117 96 = some (vm_m117, (96, .invokevirtual 242, 3, 0, 24, 0)) := rfl
theorem p117_99 : vm_P 117 99 = some (vm_m117, (99, .isub, 1, 0, 0, 0)) := rfl
theorem p117_100 : vm_P 117 100 = some (vm_m117, (100, .ireturn, 1, 0, 0, 0)) := rfl
theorem p118_0 : vm_P 118 0 = some (vm_m118, (0, .aload_n 0, 1, 0, 0, 0)) := rfl
theorem p118_1 : vm_P 118 1 = some (vm_m118, (1, .getfield 49, 3, 9, 6, 0)) := rfl
theorem p118_4 : vm_P 118 4 = some (vm_m118, (4, .invokevirtual 245, 3, 0, 65, 600)) := rfl
theorem p118_7 : vm_P 118 7 = some (vm_m118, (7, .ifCond .eq 6, 3, 0, 0, 0)) := rfl
theorem p118_10 : vm_P 118 10 = some (vm_m118, (10, .bipush (-3), 2, 0, 0, 0)) := rfl
theorem p118_12 : vm_P 118 12 = some (vm_m118, (12, .ireturn, 1, 0, 0, 0)) := rfl
theorem p118_13 : vm_P 118 13 = some (vm_m118, (13, .aload_n 0, 1, 0, 0, 0)) := rfl
theorem p118_14 : vm_P 118 14 = some (vm_m118, (14, .getfield 49, 3, 9, 6, 0)) := rfl
theorem p118_17 : vm_P 118 17 = some (vm_m118, (17, .aload_n 0, 1, 0, 0, 0)) := rfl
theorem p118_18 : vm_P 118 18 = some (vm_m118, (18, .getfield 33, 3, 9, 3, 0)) := rfl
theorem p118_21 : vm_P 118 21 = some (vm_m118, (21, .invokevirtual 155, 3, 0, 67, 601)) := rfl
theorem p118_24 : vm_P 118 24 = some (vm_m118, (24, .aload_n 0, 1, 0, 0, 0)) := rfl
theorem p118_25 : vm_P 118 25 = some (vm_m118, (25, .getfield 49, 3, 9, 6, 0)) := rfl
theorem p118_28 : vm_P 118 28 = some (vm_m118, (28, .invokevirtual 195, 3, 0, 64, 600)) := rfl
theorem p118_31 : vm_P 118 31 = some (vm_m118, (31, .ireturn, 1, 0, 0, 0)) := rfl
theorem p119_0 : vm_P 119 0 = some (vm_m119, (0, .aload_n 0, 1, 0, 0, 0)) := rfl
theorem p119_1 : vm_P 119 1 = some (vm_m119, (1, .getfield 49, 3, 9, 6, 0)) := rfl
theorem p119_4 : vm_P 119 4 = some (vm_m119, (4, .aload_n 0, 1, 0, 0, 0)) := rfl
theorem p119_5 : vm_P 119 5 = some (vm_m119, (5, .getfield 33, 3, 9, 3, 0)) := rfl
theorem p119_8 : vm_P 119 8 = some (vm_m119, (8, .invokevirtual 191, 3, 0, 68, 601)) := rfl
theorem p119_11 : vm_P 119 11 = some (vm_m119, (11, .ifCond .ne 6, 3, 0, 0, 0)) := rfl
theorem p119_14 : vm_P 119 14 = some (vm_m119, (14, .bipush (-2), 2, 0, 0, 0)) := rfl
theorem p119_16 : vm_P 119 16 = some (vm_m119, (16, .ireturn, 1, 0, 0, 0)) := rfl
theorem p119_17 : vm_P 119 17 = some (vm_m119, (17, .aload_n 0, 1, 0, 0, 0)) := rfl
theorem p119_18 : vm_P 119 18 = some (vm_m119, (18, .getfield 45, 3, 9, 5, 0)) := rfl
theorem p119_21 : vm_P 119 21 = some (vm_m119, (21, .invokevirtual 246, 3, 0, 66, 600)) := rfl
theorem p119_24 : vm_P 119 24 = some (vm_m119, (24, .aload_n 0, 1, 0, 0, 0)) := rfl
theorem p119_25 : vm_P 119 25 = some (vm_m119, (25, .getfield 49, 3, 9, 6, 0)) := rfl
theorem p119_28 : vm_P 119 28 = some (vm_m119, (28, .invokevirtual 195, 3, 0, 64, 600)) := rfl
theorem p119_31 : vm_P 119 31 = some (vm_m119, (31, .ireturn, 1, 0, 0, 0)) := rfl
theorem p120_0 : vm_P 120 0 = some (vm_m120, (0, .iload_n 1, 1, 0, 0, 0)) := rfl
theorem p120_1 : vm_P 120 1 = some (vm_m120, (1, .tableswitch 135 0 9 #[55, 63, 71, 79, 87, 95, 103, 111, 119, 127], 55, 0, 0, 0)) := rfl
theorem p120_56 : vm_P 120 56 = some (vm_m120, (56, .aload_n 0, 1, 0, 0, 0)) := rfl
theorem p120_57 : vm_P 120 57 = some (vm_m120, (57, .getfield 24, 3, 9, 2, 0)) := rfl
theorem p120_60 : vm_P 120 60 = some (vm_m120, (60, .invokevirtual 247, 3, 0, 75, 700)) := rfl
theorem p120_63 : vm_P 120 63 = some (vm_m120, (63, .ireturn, 1, 0, 0, 0)) := rfl
theorem p120_64 : vm_P 120 64 = some (vm_m120, (64, .aload_n 0, 1, 0, 0, 0)) := rfl
theorem p120_65 : vm_P 120 65 = some (vm_m120, (65, .getfield 33, 3, 9, 3, 0)) := rfl
theorem p120_68 : vm_P 120 68 = some (vm_m120, (68, .invokevirtual 124, 3, 0, 4, 0)) := rfl
theorem p120_71 : vm_P 120 71 = some (vm_m120, (71, .ireturn, 1, 0, 0, 0)) := rfl
theorem p120_72 : vm_P 120 72 = some (vm_m120, (72, .aload_n 0, 1, 0, 0, 0)) := rfl
theorem p120_73 : vm_P 120 73 = some (vm_m120, (73, .getfield 33, 3, 9, 3, 0)) := rfl
theorem p120_76 : vm_P 120 76 = some (vm_m120, (76, .invokevirtual 138, 3, 0, 5, 0)) := rfl
theorem p120_79 : vm_P 120 79 = some (vm_m120, (79, .ireturn, 1, 0, 0, 0)) := rfl
theorem p120_80 : vm_P 120 80 = some (vm_m120, (80, .aload_n 0, 1, 0, 0, 0)) := rfl
theorem p120_81 : vm_P 120 81 = some (vm_m120, (81, .getfield 33, 3, 9, 3, 0)) := rfl
theorem p120_84 : vm_P 120 84 = some (vm_m120, (84, .invokevirtual 166, 3, 0, 22, 0)) := rfl
theorem p120_87 : vm_P 120 87 = some (vm_m120, (87, .ireturn, 1, 0, 0, 0)) := rfl
theorem p120_88 : vm_P 120 88 = some (vm_m120, (88, .aload_n 0, 1, 0, 0, 0)) := rfl
theorem p120_89 : vm_P 120 89 = some (vm_m120, (89, .getfield 33, 3, 9, 3, 0)) := rfl
theorem p120_92 : vm_P 120 92 = some (vm_m120, (92, .invokevirtual 250, 3, 0, 23, 0)) := rfl
theorem p120_95 : vm_P 120 95 = some (vm_m120, (95, .ireturn, 1, 0, 0, 0)) := rfl
theorem p120_96 : vm_P 120 96 = some (vm_m120, (96, .aload_n 0, 1, 0, 0, 0)) := rfl
theorem p120_97 : vm_P 120 97 = some (vm_m120, (97, .getfield 33, 3, 9, 3, 0)) := rfl
theorem p120_100 : vm_P 120 100 = some (vm_m120, (100, .invokevirtual 242, 3, 0, 24, 0)) := rfl
theorem p120_103 : vm_P 120 103 = some (vm_m120, (103, .ireturn, 1, 0, 0, 0)) := rfl
theorem p120_104 : vm_P 120 104 = some (vm_m120, (104, .aload_n 0, 1, 0, 0, 0)) := rfl
theorem p120_105 : vm_P 120 105 = some (vm_m120, (105, .getfield 18, 3, 9, 1, 0)) := rfl
theorem p120_108 : vm_P 120 108 = some (vm_m120, (108, .invokevirtual 118, 3, 0, 55, 500)) := rfl
theorem p120_111 : vm_P 120 111 = some (vm_m120, (111, .ireturn, 1, 0, 0, 0)) := rfl
theorem p120_112 : vm_P 120 112 = some (vm_m120, (112, .aload_n 0, 1, 0, 0, 0)) := rfl
theorem p120_113 : vm_P 120 113 = some (vm_m120, (113, .getfield 45, 3, 9, 5, 0)) := rfl
theorem p120_116 : vm_P 120 116 = some (vm_m120, (116, .invokevirtual 195, 3, 0, 64, 600)) := rfl
theorem p120_119 : vm_P 120 119 = some (vm_m120, (119, .ireturn, 1, 0, 0, 0)) := rfl
theorem p120_120 : vm_P 120 120 = some (vm_m120, (120, .aload_n 0, 1, 0, 0, 0)) := rfl
theorem p120_121 : vm_P 120 121 = some (vm_m120, (121, .getfield 49, 3, 9, 6, 0)) := rfl
theorem p120_124 : vm_P 120 124 = some (vm_m120, (124, .invokevirtual 195, 3, 0, 64, 600)) := rfl
theorem p120_127 : vm_P 120 127 = some (vm_m120, (127, .ireturn, 1, 0, 0, 0)) := rfl
theorem p120_128 : vm_P 120 128 = some (vm_m120, (128, .aload_n 0, 1, 0, 0, 0)) := rfl
theorem p120_129 : vm_P 120 129 = some (vm_m120, (129, .getfield 14, 3, 9, 0, 0)) := rfl
theorem p120_132 : vm_P 120 132 = some (vm_m120, (132, .invokevirtual 118, 3, 0, 55, 500)) := rfl
theorem p120_135 : vm_P 120 135 = some (vm_m120, (135, .ireturn, 1, 0, 0, 0)) := rfl
theorem p120_136 : vm_P 120 136 = some (vm_m120, (136, .iconst (-1), 1, 0, 0, 0)) := rfl
theorem p120_137 : vm_P 120 137 = some (vm_m120, (137, .ireturn, 1, 0, 0, 0)) := rfl
theorem p121_0 : vm_P 121 0 = some (vm_m121, (0, .aload_n 0, 1, 0, 0, 0)) := rfl
theorem p121_1 : vm_P 121 1 = some (vm_m121, (1, .getfield 57, 3, 9, 7, 0)) := rfl
theorem p121_4 : vm_P 121 4 = some (vm_m121, (4, .invokevirtual 121, 3, 0, 47, 400)) := rfl
theorem p121_7 : vm_P 121 7 = some (vm_m121, (7, .bipush (-4), 2, 0, 0, 0)) := rfl
theorem p121_9 : vm_P 121 9 = some (vm_m121, (9, .if_icmp .ne 13, 3, 0, 0, 0)) := rfl
theorem p121_12 : vm_P 121 12 = some (vm_m121, (12, .aload_n 0, 1, 0, 0, 0)) := rfl
theorem p121_13 : vm_P 121 13 = some (vm_m121, (13, .getfield 57, 3, 9, 7, 0)) := rfl
theorem p121_16 : vm_P 121 16 = some (vm_m121, (16, .invokevirtual 253, 3, 0, 46, 400)) := rfl
theorem p121_19 : vm_P 121 19 = some (vm_m121, (19, .ifCond .ne 5, 3, 0, 0, 0)) := rfl
theorem p121_22 : vm_P 121 22 = some (vm_m121, (22, .iconst 0, 1, 0, 0, 0)) := rfl
theorem p121_23 : vm_P 121 23 = some (vm_m121, (23, .ireturn, 1, 0, 0, 0)) := rfl
theorem p121_24 : vm_P 121 24 = some (vm_m121, (24, .aload_n 0, 1, 0, 0, 0)) := rfl
theorem p121_25 : vm_P 121 25 = some (vm_m121, (25, .getfield 24, 3, 9, 2, 0)) := rfl
theorem p121_28 : vm_P 121 28 = some (vm_m121, (28, .aload_n 0, 1, 0, 0, 0)) := rfl
theorem p121_29 : vm_P 121 29 = some (vm_m121, (29, .getfield 57, 3, 9, 7, 0)) := rfl
theorem p121_32 : vm_P 121 32 = some (vm_m121, (32, .invokevirtual 256, 3, 0, 44, 400)) := rfl
theorem p121_35 : vm_P 121 35 = some (vm_m121, (35, .invokevirtual 259, 3, 0, 72, 701)) := rfl
theorem p121_38 : vm_P 121 38 = some (vm_m121, (38, .aload_n 0, 1, 0, 0, 0)) := rfl
theorem p121_39 : vm_P 121 39 = some (vm_m121, (39, .getfield 33, 3, 9, 3, 0)) := rfl
theorem p121_42 : vm_P 121 42 = some (vm_m121, (42, .aload_n 0, 1, 0, 0, 0)) := rfl
theorem p121_43 : vm_P 121 43 = some (vm_m121, (43, .getfield 57, 3, 9, 7, 0)) := rfl
theorem p121_46 : vm_P 121 46 = some (vm_m121, (46, .invokevirtual 261, 3, 0, 45, 400)) := rfl
theorem p121_49 : vm_P 121 49 = some (vm_m121, (49, .invokevirtual 233, 3, 0, 2, 1)) := rfl
theorem p121_52 : vm_P 121 52 = some (vm_m121, (52, .aload_n 0, 1, 0, 0, 0)) := rfl
theorem p121_53 : vm_P 121 53 = some (vm_m121, (53, .getfield 18, 3, 9, 1, 0)) := rfl
theorem p121_56 : vm_P 121 56 = some (vm_m121, (56, .invokevirtual 108, 3, 0, 57, 500)) := rfl
theorem p121_59 : vm_P 121 59 = some (vm_m121, (59, .aload_n 0, 1, 0, 0, 0)) := rfl
theorem p121_60 : vm_P 121 60 = some (vm_m121, (60, .getfield 45, 3, 9, 5, 0)) := rfl
theorem p121_63 : vm_P 121 63 = some (vm_m121, (63, .invokevirtual 246, 3, 0, 66, 600)) := rfl
theorem p121_66 : vm_P 121 66 = some (vm_m121, (66, .aload_n 0, 1, 0, 0, 0)) := rfl
theorem p121_67 : vm_P 121 67 = some (vm_m121, (67, .getfield 49, 3, 9, 6, 0)) := rfl
theorem p121_70 : vm_P 121 70 = some (vm_m121, (70, .invokevirtual 246, 3, 0, 66, 600)) := rfl
theorem p121_73 : vm_P 121 73 = some (vm_m121, (73, .iconst 1, 1, 0, 0, 0)) := rfl
theorem p121_74 : vm_P 121 74 = some (vm_m121, (74, .ireturn, 1, 0, 0, 0)) := rfl
theorem p122_0 : vm_P 122 0 = some (vm_m122, (0, .aload_n 0, 1, 0, 0, 0)) := rfl
theorem p122_1 : vm_P 122 1 = some (vm_m122, (1, .getfield 33, 3, 9, 3, 0)) := rfl
theorem p122_4 : vm_P 122 4 = some (vm_m122, (4, .iload_n 1, 1, 0, 0, 0)) := rfl
theorem p122_5 : vm_P 122 5 = some (vm_m122, (5, .iload_n 2, 1, 0, 0, 0)) := rfl
theorem p122_6 : vm_P 122 6 = some (vm_m122, (6, .iload_n 3, 1, 0, 0, 0)) := rfl
theorem p122_7 : vm_P 122 7 = some (vm_m122, (7, .invokevirtual 184, 3, 0, 18, 3)) := rfl
theorem p122_10 : vm_P 122 10 = some (vm_m122, (10, .ifCond .ne 5, 3, 0, 0, 0)) := rfl
theorem p122_13 : vm_P 122 13 = some (vm_m122, (13, .iconst 0, 1, 0, 0, 0)) := rfl
theorem p122_14 : vm_P 122 14 = some (vm_m122, (14, .ireturn, 1, 0, 0, 0)) := rfl
theorem p122_15 : vm_P 122 15 = some (vm_m122, (15, .aload_n 0, 1, 0, 0, 0)) := rfl
theorem p122_16 : vm_P 122 16 = some (vm_m122, (16, .getfield 37, 3, 9, 4, 0)) := rfl
theorem p122_19 : vm_P 122 19 = some (vm_m122, (19, .aload_n 0, 1, 0, 0, 0)) := rfl
theorem p122_20 : vm_P 122 20 = some (vm_m122, (20, .getfield 33, 3, 9, 3, 0)) := rfl
theorem p122_23 : vm_P 122 23 = some (vm_m122, (23, .invokevirtual 233, 3, 0, 2, 1)) := rfl
theorem p122_26 : vm_P 122 26 = some (vm_m122, (26, .aload_n 0, 1, 0, 0, 0)) := rfl
theorem p122_27 : vm_P 122 27 = some (vm_m122, (27, .getfield 37, 3, 9, 4, 0)) := rfl
theorem p122_30 : vm_P 122 30 = some (vm_m122, (30, .iload_n 1, 1, 0, 0, 0)) := rfl
theorem p122_31 : vm_P 122 31 = some (vm_m122, (31, .iload_n 2, 1, 0, 0, 0)) := rfl
theorem p122_32 : vm_P 122 32 = some (vm_m122, (32, .iload_n 3, 1, 0, 0, 0)) := rfl
theorem p122_33 : vm_P 122 33 = some (vm_m122, (33, .invokevirtual 187, 3, 0, 19, 3)) := rfl
theorem p122_36 : vm_P 122 36 = some (vm_m122, (36, .aload_n 0, 1, 0, 0, 0)) := rfl
theorem p122_37 : vm_P 122 37 = some (vm_m122, (37, .getfield 64, 3, 9, 8, 0)) := rfl
theorem p122_40 : vm_P 122 40 = some (vm_m122, (40, .aload_n 0, 1, 0, 0, 0)) := rfl
theorem p122_41 : vm_P 122 41 = some (vm_m122, (41, .getfield 37, 3, 9, 4, 0)) := rfl
theorem p122_44 : vm_P 122 44 = some (vm_m122, (44, .iload_n 1, 1, 0, 0, 0)) := rfl
theorem p122_45 : vm_P 122 45 = some (vm_m122, (45, .iload 4, 2, 0, 0, 0)) := rfl
theorem p122_47 : vm_P 122 47 = some (vm_m122, (47, .invokevirtual 199, 3, 0, 34, 203)) := rfl
theorem p122_50 : vm_P 122 50 = some (vm_m122, (50, .bipush (-4), 2, 0, 0, 0)) := rfl
theorem p122_52 : vm_P 122 52 = some (vm_m122, (52, .if_icmp .eq 26, 3, 0, 0, 0)) := rfl
theorem p122_55 : vm_P 122 55 = some (vm_m122, (55, .aload_n 0, 1, 0, 0, 0)) := rfl
theorem p122_56 : vm_P 122 56 = some (vm_m122, (56, .getfield 64, 3, 9, 8, 0)) := rfl
theorem p122_59 : vm_P 122 59 = some (vm_m122, (59, .aload_n 0, 1, 0, 0, 0)) := rfl
theorem p122_60 : vm_P 122 60 = some (vm_m122, (60, .getfield 37, 3, 9, 4, 0)) := rfl
theorem p122_63 : vm_P 122 63 = some (vm_m122, (63, .iload_n 2, 1, 0, 0, 0)) := rfl
theorem p122_64 : vm_P 122 64 = some (vm_m122, (64, .iload 4, 2, 0, 0, 0)) := rfl
theorem p122_66 : vm_P 122 66 = some (vm_m122, (66, .invokevirtual 199, 3, 0, 34, 203)) := rfl
theorem p122_69 : vm_P 122 69 = some (vm_m122, (69, .bipush (-4), 2, 0, 0, 0)) := rfl
theorem p122_71 : vm_P 122 71 = some (vm_m122, (71, .if_icmp .eq 7, 3, 0, 0, 0)) := rfl
theorem p122_74 : vm_P 122 74 = some (vm_m122, (74, .iconst 1, 1, 0, 0, 0)) := rfl
theorem p122_75 : vm_P 122 75 = some (vm_m122, (75, .goto 4, 3, 0, 0, 0)) := rfl
theorem p122_78 : vm_P 122 78 = some (vm_m122, (78, .iconst 0, 1, 0, 0, 0)) := rfl
theorem p122_79 : vm_P 122 79 = some (vm_m122, (79, .ireturn, 1, 0, 0, 0)) := rfl
theorem p123_0 : vm_P 123 0 = some (vm_m123, (0, .aload_n 0, 1, 0, 0, 0)) := rfl
theorem p123_1 : vm_P 123 1 = some (vm_m123, (1, .getfield 33, 3, 9, 3, 0)) := rfl
theorem p123_4 : vm_P 123 4 = some (vm_m123, (4, .iload_n 1, 1, 0, 0, 0)) := rfl
theorem p123_5 : vm_P 123 5 = some (vm_m123, (5, .invokevirtual 145, 3, 0, 6, 1)) := rfl
theorem p123_8 : vm_P 123 8 = some (vm_m123, (8, .ifCond .eq 23, 3, 0, 0, 0)) := rfl
theorem p123_11 : vm_P 123 11 = some (vm_m123, (11, .aload_n 0, 1, 0, 0, 0)) := rfl
theorem p123_12 : vm_P 123 12 = some (vm_m123, (12, .getfield 33, 3, 9, 3, 0)) := rfl
theorem p123_15 : vm_P 123 15 = some (vm_m123, (15, .iload_n 2, 1, 0, 0, 0)) := rfl
theorem p123_16 : vm_P 123 16 = some (vm_m123, (16, .invokevirtual 145, 3, 0, 6, 1)) := rfl
theorem p123_19 : vm_P 123 19 = some (vm_m123, (19, .ifCond .eq 12, 3, 0, 0, 0)) := rfl
theorem p123_22 : vm_P 123 22 = some (vm_m123, (22, .iload_n 1, 1, 0, 0, 0)) := rfl
theorem p123_23 : vm_P 123 23 = some (vm_m123, (23, .iload_n 2, 1, 0, 0, 0)) := rfl
theorem p123_24 : vm_P 123 24 = some (vm_m123, (24, .if_icmp .eq 7, 3, 0, 0, 0)) := rfl
theorem p123_27 : vm_P 123 27 = some (vm_m123, (27, .iconst 1, 1, 0, 0, 0)) := rfl
theorem p123_28 : vm_P 123 28 = some (vm_m123, (28, .goto 4, 3, 0, 0, 0)) := rfl
theorem p123_31 : vm_P 123 31 = some (vm_m123, (31, .iconst 0, 1, 0, 0, 0)) := rfl
theorem p123_32 : vm_P 123 32 = some (vm_m123, (32, .ireturn, 1, 0, 0, 0)) := rfl
theorem p124_0 : vm_P 124 0 = some (vm_m124, (0, .ldc2_w 264, 3, 0, 0, 0)) := rfl
theorem p124_3 : vm_P 124 3 = some (vm_m124, (3, .iload_n 0, 1, 0, 0, 0)) := rfl
theorem p124_4 : vm_P 124 4 = some (vm_m124, (4, .i2l, 1, 0, 0, 0)) := rfl
theorem p124_5 : vm_P 124 5 = some (vm_m124, (5, .lmul, 1, 0, 0, 0)) := rfl
theorem p124_6 : vm_P 124 6 = some (vm_m124, (6, .ldc2_w 266, 3, 1, 0, 0)) := rfl
theorem p124_9 : vm_P 124 9 = some (vm_m124, (9, .iload_n 1, 1, 0, 0, 0)) := rfl
theorem p124_10 : vm_P 124 10 = some (vm_m124, (10, .i2l, 1, 0, 0, 0)) := rfl
theorem p124_11 : vm_P 124 11 = some (vm_m124, (11, .lmul, 1, 0, 0, 0)) := rfl
theorem p124_12 : vm_P 124 12 = some (vm_m124, (12, .ladd, 1, 0, 0, 0)) := rfl
theorem p124_13 : vm_P 124 13 = some (vm_m124, (13, .lconst 1, 1, 0, 0, 0)) := rfl
theorem p124_14 : vm_P 124 14 = some (vm_m124, (14, .ladd, 1, 0, 0, 0)) := rfl
theorem p124_15 : vm_P 124 15 = some (vm_m124, (15, .lstore_n 2, 1, 0, 0, 0)) := rfl
theorem p124_16 : vm_P 124 16 = some (vm_m124, (16, .lload_n 2, 1, 0, 0, 0)) := rfl
theorem p124_17 : vm_P 124 17 = some (vm_m124, (17, .lload_n 2, 1, 0, 0, 0)) := rfl
theorem p124_18 : vm_P 124 18 = some (vm_m124, (18, .lmul, 1, 0, 0, 0)) := rfl
theorem p124_19 : vm_P 124 19 = some (vm_m124, (19, .ldc2_w 268, 3, 2, 0, 0)) := rfl
theorem p124_22 : vm_P 124 22 = some (vm_m124, (22, .lrem, 1, 0, 0, 0)) := rfl
theorem p124_23 : vm_P 124 23 = some (vm_m124, (23, .l2i, 1, 0, 0, 0)) := rfl
theorem p124_24 : vm_P 124 24 = some (vm_m124, (24, .ireturn, 1, 0, 0, 0)) := rfl
theorem p125_0 : vm_P 125 0 = some (vm_m125, (0, .iload_n 0, 1, 0, 0, 0)) := rfl
theorem p125_1 : vm_P 125 1 = some (vm_m125, (1, .ifCond .lt 12, 3, 0, 0, 0)) := rfl
theorem p125_4 : vm_P 125 4 = some (vm_m125, (4, .iload_n 0, 1, 0, 0, 0)) := rfl
theorem p125_5 : vm_P 125 5 = some (vm_m125, (5, .iconst 4, 1, 0, 0, 0)) := rfl
theorem p125_6 : vm_P 125 6 = some (vm_m125, (6, .if_icmp .ge 7, 3, 0, 0, 0)) := rfl
theorem p125_9 : vm_P 125 9 = some (vm_m125, (9, .iconst 1, 1, 0, 0, 0)) := rfl
theorem p125_10 : vm_P 125 10 = some (vm_m125, (10, .goto 4, 3, 0, 0, 0)) := rfl
theorem p125_13 : vm_P 125 13 = some (vm_m125, (13, .iconst 0, 1, 0, 0, 0)) := rfl
theorem p125_14 : vm_P 125 14 = some (vm_m125, (14, .ireturn, 1, 0, 0, 0)) := rfl
theorem p126_0 : vm_P 126 0 = some (vm_m126, (0, .iload_n 0, 1, 0, 0, 0)) := rfl
theorem p126_1 : vm_P 126 1 = some (vm_m126, (1, .iload_n 1, 1, 0, 0, 0)) := rfl
theorem p126_2 : vm_P 126 2 = some (vm_m126, (2, .if_icmp .lt 12, 3, 0, 0, 0)) := rfl
theorem p126_5 : vm_P 126 5 = some (vm_m126, (5, .iload_n 0, 1, 0, 0, 0)) := rfl
theorem p126_6 : vm_P 126 6 = some (vm_m126, (6, .iload_n 2, 1, 0, 0, 0)) := rfl
theorem p126_7 : vm_P 126 7 = some (vm_m126, (7, .if_icmp .gt 7, 3, 0, 0, 0)) := rfl
theorem p126_10 : vm_P 126 10 = some (vm_m126, (10, .iconst 1, 1, 0, 0, 0)) := rfl
theorem p126_11 : vm_P 126 11 = some (vm_m126, (11, .goto 4, 3, 0, 0, 0)) := rfl
theorem p126_14 : vm_P 126 14 = some (vm_m126, (14, .iconst 0, 1, 0, 0, 0)) := rfl
theorem p126_15 : vm_P 126 15 = some (vm_m126, (15, .ireturn, 1, 0, 0, 0)) := rfl
