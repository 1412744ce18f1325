/-! the instructions by method and place -/
theorem p0_0 : vm_P 0 0 = some (vm_m0, (0, .aload_n 0, 1, 0, 0, 0)) := rfl
theorem p0_1 : vm_P 0 1 = some (vm_m0, (1, .invokespecial 3, 3, 5, 0, 0)) := rfl
theorem p0_4 : vm_P 0 4 = some (vm_m0, (4, .aload_n 0, 1, 0, 0, 0)) := rfl
theorem p0_5 : vm_P 0 5 = some (vm_m0, (5, .new 9, 3, 5, 0, 0)) := rfl
theorem p0_8 : vm_P 0 8 = some (vm_m0, (8, .dup, 1, 0, 0, 0)) := rfl
theorem p0_9 : vm_P 0 9 = some (vm_m0, (9, .bipush 32, 2, 0, 0, 0)) := rfl
theorem p0_11 : vm_P 0 11 = some (vm_m0, (11, .invokespecial 13, 3, 2, 54, 1)) := rfl
theorem p0_14 : vm_P 0 14 = some (vm_m0, (14, .putfield 16, 3, 0, 1, 0)) := rfl
theorem p0_17 : vm_P 0 17 = some (vm_m0, (17, .aload_n 0, 1, 0, 0, 0)) := rfl
theorem p0_18 : vm_P 0 18 = some (vm_m0, (18, .aload_n 1, 1, 0, 0, 0)) := rfl
theorem p0_19 : vm_P 0 19 = some (vm_m0, (19, .putfield 20, 3, 0, 0, 0)) := rfl
theorem p0_22 : vm_P 0 22 = some (vm_m0, (22, .return_, 1, 0, 0, 0)) := rfl
theorem p1_0 : vm_P 1 0 = some (vm_m1, (0, .aload_n 0, 1, 0, 0, 0)) := rfl
theorem p1_1 : vm_P 1 1 = some (vm_m1, (1, .getfield 16, 3, 0, 1, 0)) := rfl
theorem p1_4 : vm_P 1 4 = some (vm_m1, (4, .invokevirtual 24, 3, 0, 57, 500)) := rfl
theorem p1_7 : vm_P 1 7 = some (vm_m1, (7, .aload_n 0, 1, 0, 0, 0)) := rfl
theorem p1_8 : vm_P 1 8 = some (vm_m1, (8, .iconst 0, 1, 0, 0, 0)) := rfl
theorem p1_9 : vm_P 1 9 = some (vm_m1, (9, .putfield 27, 3, 0, 2, 0)) := rfl
theorem p1_12 : vm_P 1 12 = some (vm_m1, (12, .return_, 1, 0, 0, 0)) := rfl
theorem p2_0 : vm_P 2 0 = some (vm_m2, (0, .aload_n 0, 1, 0, 0, 0)) := rfl
theorem p2_1 : vm_P 2 1 = some (vm_m2, (1, .getfield 16, 3, 0, 1, 0)) := rfl
theorem p2_4 : vm_P 2 4 = some (vm_m2, (4, .aload_n 1, 1, 0, 0, 0)) := rfl
theorem p2_5 : vm_P 2 5 = some (vm_m2, (5, .getfield 16, 3, 0, 1, 0)) := rfl
theorem p2_8 : vm_P 2 8 = some (vm_m2, (8, .invokevirtual 31, 3, 0, 62, 501)) := rfl
theorem p2_11 : vm_P 2 11 = some (vm_m2, (11, .aload_n 0, 1, 0, 0, 0)) := rfl
theorem p2_12 : vm_P 2 12 = some (vm_m2, (12, .aload_n 1, 1, 0, 0, 0)) := rfl
theorem p2_13 : vm_P 2 13 = some (vm_m2, (13, .getfield 27, 3, 0, 2, 0)) := rfl
theorem p2_16 : vm_P 2 16 = some (vm_m2, (16, .putfield 27, 3, 0, 2, 0)) := rfl
theorem p2_19 : vm_P 2 19 = some (vm_m2, (19, .return_, 1, 0, 0, 0)) := rfl
theorem p3_0 : vm_P 3 0 = some (vm_m3, (0, .aload_n 0, 1, 0, 0, 0)) := rfl
theorem p3_1 : vm_P 3 1 = some (vm_m3, (1, .getfield 16, 3, 0, 1, 0)) := rfl
theorem p3_4 : vm_P 3 4 = some (vm_m3, (4, .invokevirtual 35, 3, 0, 56, 500)) := rfl
theorem p3_7 : vm_P 3 7 = some (vm_m3, (7, .ifCond .ne 32, 3, 0, 0, 0)) := rfl
theorem p3_10 : vm_P 3 10 = some (vm_m3, (10, .aload_n 0, 1, 0, 0, 0)) := rfl
theorem p3_11 : vm_P 3 11 = some (vm_m3, (11, .getfield 20, 3, 0, 0, 0)) := rfl
theorem p3_14 : vm_P 3 14 = some (vm_m3, (14, .aload_n 1, 1, 0, 0, 0)) := rfl
theorem p3_15 : vm_P 3 15 = some (vm_m3, (15, .iconst 0, 1, 0, 0, 0)) := rfl
theorem p3_16 : vm_P 3 16 = some (vm_m3, (16, .invokevirtual 39, 3, 0, 59, 501)) := rfl
theorem p3_19 : vm_P 3 19 = some (vm_m3, (19, .invokevirtual 43, 3, 0, 76, 701)) := rfl
theorem p3_22 : vm_P 3 22 = some (vm_m3, (22, .ifCond .eq 17, 3, 0, 0, 0)) := rfl
theorem p3_25 : vm_P 3 25 = some (vm_m3, (25, .aload_n 1, 1, 0, 0, 0)) := rfl
theorem p3_26 : vm_P 3 26 = some (vm_m3, (26, .iconst 1, 1, 0, 0, 0)) := rfl
theorem p3_27 : vm_P 3 27 = some (vm_m3, (27, .invokevirtual 39, 3, 0, 59, 501)) := rfl
theorem p3_30 : vm_P 3 30 = some (vm_m3, (30, .iconst 1, 1, 0, 0, 0)) := rfl
theorem p3_31 : vm_P 3 31 = some (vm_m3, (31, .bipush 20, 2, 0, 0, 0)) := rfl
theorem p3_33 : vm_P 3 33 = some (vm_m3, (33, .invokestatic 49, 3, 3, 126, 3)) := rfl
theorem p3_36 : vm_P 3 36 = some (vm_m3, (36, .ifCond .ne 5, 3, 0, 0, 0)) := rfl
theorem p3_39 : vm_P 3 39 = some (vm_m3, (39, .iconst 0, 1, 0, 0, 0)) := rfl
theorem p3_40 : vm_P 3 40 = some (vm_m3, (40, .ireturn, 1, 0, 0, 0)) := rfl
theorem p3_41 : vm_P 3 41 = some (vm_m3, (41, .iconst 0, 1, 0, 0, 0)) := rfl
theorem p3_42 : vm_P 3 42 = some (vm_m3, (42, .istore_n 2, 1, 0, 0, 0)) := rfl
theorem p3_43 : vm_P 3 43 = some (vm_m3, (43, .iload_n 2, 1, 0, 0, 0)) := rfl
theorem p3_44 : vm_P 3 44 = some (vm_m3, (44, .iconst 4, 1, 0, 0, 0)) := rfl
theorem p3_45 : vm_P 3 45 = some (vm_m3, (45, .if_icmp .ge 27, 3, 0, 0, 0)) := rfl
theorem p3_48 : vm_P 3 48 = some (vm_m3, (48, .aload_n 1, 1, 0, 0, 0)) := rfl
theorem p3_49 : vm_P 3 49 = some (vm_m3, (49, .iconst 2, 1, 0, 0, 0)) := rfl
theorem p3_50 : vm_P 3 50 = some (vm_m3, (50, .iload_n 2, 1, 0, 0, 0)) := rfl
theorem p3_51 : vm_P 3 51 = some (vm_m3, (51, .iadd, 1, 0, 0, 0)) := rfl
theorem p3_52 : vm_P 3 52 = some (vm_m3, (52, .invokevirtual 39, 3, 0, 59, 501)) := rfl
theorem p3_55 : vm_P 3 55 = some (vm_m3, (55, .iconst 0, 1, 0, 0, 0)) := rfl
theorem p3_56 : vm_P 3 56 = some (vm_m3, (56, .bipush 9, 2, 0, 0, 0)) := rfl
theorem p3_58 : vm_P 3 58 = some (vm_m3, (58, .invokestatic 49, 3, 3, 126, 3)) := rfl
theorem p3_61 : vm_P 3 61 = some (vm_m3, (61, .ifCond .ne 5, 3, 0, 0, 0)) := rfl
theorem p3_64 : vm_P 3 64 = some (vm_m3, (64, .iconst 0, 1, 0, 0, 0)) := rfl
theorem p3_65 : vm_P 3 65 = some (vm_m3, (65, .ireturn, 1, 0, 0, 0)) := rfl
theorem p3_66 : vm_P 3 66 = some (vm_m3, (66, .iinc 2 1, 3, 0, 0, 0)) := rfl
theorem p3_69 : vm_P 3 69 = some (vm_m3, (69, .goto (-26), 3, 0, 0, 0)) := rfl
theorem p3_72 : vm_P 3 72 = some (vm_m3, (72, .aload_n 0, 1, 0, 0, 0)) := rfl
theorem p3_73 : vm_P 3 73 = some (vm_m3, (73, .getfield 16, 3, 0, 1, 0)) := rfl
theorem p3_76 : vm_P 3 76 = some (vm_m3, (76, .aload_n 1, 1, 0, 0, 0)) := rfl
theorem p3_77 : vm_P 3 77 = some (vm_m3, (77, .iconst 1, 1, 0, 0, 0)) := rfl
theorem p3_78 : vm_P 3 78 = some (vm_m3, (78, .invokevirtual 39, 3, 0, 59, 501)) := rfl
theorem p3_81 : vm_P 3 81 = some (vm_m3, (81, .invokevirtual 53, 3, 0, 58, 501)) := rfl
theorem p3_84 : vm_P 3 84 = some (vm_m3, (84, .aload_n 0, 1, 0, 0, 0)) := rfl
theorem p3_85 : vm_P 3 85 = some (vm_m3, (85, .getfield 16, 3, 0, 1, 0)) := rfl
theorem p3_88 : vm_P 3 88 = some (vm_m3, (88, .aload_n 1, 1, 0, 0, 0)) := rfl
theorem p3_89 : vm_P 3 89 = some (vm_m3, (89, .iconst 0, 1, 0, 0, 0)) := rfl
theorem p3_90 : vm_P 3 90 = some (vm_m3, (90, .invokevirtual 39, 3, 0, 59, 501)) := rfl
theorem p3_93 : vm_P 3 93 = some (vm_m3, (93, .invokevirtual 53, 3, 0, 58, 501)) := rfl
theorem p3_96 : vm_P 3 96 = some (vm_m3, (96, .iconst 0, 1, 0, 0, 0)) := rfl
theorem p3_97 : vm_P 3 97 = some (vm_m3, (97, .istore_n 2, 1, 0, 0, 0)) := rfl
theorem p3_98 : vm_P 3 98 = some (vm_m3, (98, .iload_n 2, 1, 0, 0, 0)) := rfl
theorem p3_99 : vm_P 3 99 = some (vm_m3, (99, .iconst 4, 1, 0, 0, 0)) := rfl
theorem p3_100 : vm_P 3 100 = some (vm_m3, (100, .if_icmp .ge 23, 3, 0, 0, 0)) := rfl
theorem p3_103 : vm_P 3 103 = some (vm_m3, (103, .aload_n 0, 1, 0, 0, 0)) := rfl
theorem p3_104 : vm_P 3 104 = some (vm_m3, (104, .getfield 16, 3, 0, 1, 0)) := rfl
theorem p3_107 : vm_P 3 107 = some (vm_m3, (107, .aload_n 1, 1, 0, 0, 0)) := rfl
theorem p3_108 : vm_P 3 108 = some (vm_m3, (108, .iconst 2, 1, 0, 0, 0)) := rfl
theorem p3_109 : vm_P 3 109 = some (vm_m3, (109, .iload_n 2, 1, 0, 0, 0)) := rfl
theorem p3_110 : vm_P 3 110 = some (vm_m3, (110, .iadd, 1, 0, 0, 0)) := rfl
theorem p3_111 : vm_P 3 111 = some (vm_m3, (111, .invokevirtual 39, 3, 0, 59, 501)) := rfl
theorem p3_114 : vm_P 3 114 = some (vm_m3, (114, .invokevirtual 53, 3, 0, 58, 501)) := rfl
theorem p3_117 : vm_P 3 117 = some (vm_m3, (117, .iinc 2 1, 3, 0, 0, 0)) := rfl
theorem p3_120 : vm_P 3 120 = some (vm_m3, (120, .goto (-22), 3, 0, 0, 0)) := rfl
theorem p3_123 : vm_P 3 123 = some (vm_m3, (123, .aload_n 0, 1, 0, 0, 0)) := rfl
theorem p3_124 : vm_P 3 124 = some (vm_m3, (124, .getfield 16, 3, 0, 1, 0)) := rfl
theorem p3_127 : vm_P 3 127 = some (vm_m3, (127, .bipush (-4), 2, 0, 0, 0)) := rfl
theorem p3_129 : vm_P 3 129 = some (vm_m3, (129, .invokevirtual 53, 3, 0, 58, 501)) := rfl
theorem p3_132 : vm_P 3 132 = some (vm_m3, (132, .aload_n 0, 1, 0, 0, 0)) := rfl
theorem p3_133 : vm_P 3 133 = some (vm_m3, (133, .getfield 16, 3, 0, 1, 0)) := rfl
theorem p3_136 : vm_P 3 136 = some (vm_m3, (136, .iconst 0, 1, 0, 0, 0)) := rfl
theorem p3_137 : vm_P 3 137 = some (vm_m3, (137, .invokevirtual 53, 3, 0, 58, 501)) := rfl
theorem p3_140 : vm_P 3 140 = some (vm_m3, (140, .iconst 1, 1, 0, 0, 0)) := rfl
theorem p3_141 : vm_P 3 141 = some (vm_m3, (141, .ireturn, 1, 0, 0, 0)) := rfl
theorem p4_0 : vm_P 4 0 = some (vm_m4, (0, .aload_n 0, 1, 0, 0, 0)) := rfl
theorem p4_1 : vm_P 4 1 = some (vm_m4, (1, .getfield 16, 3, 0, 1, 0)) := rfl
theorem p4_4 : vm_P 4 4 = some (vm_m4, (4, .invokevirtual 56, 3, 0, 55, 500)) := rfl
theorem p4_7 : vm_P 4 7 = some (vm_m4, (7, .bipush 8, 2, 0, 0, 0)) := rfl
theorem p4_9 : vm_P 4 9 = some (vm_m4, (9, .idiv, 1, 0, 0, 0)) := rfl
theorem p4_10 : vm_P 4 10 = some (vm_m4, (10, .ireturn, 1, 0, 0, 0)) := rfl
theorem p5_0 : vm_P 5 0 = some (vm_m5, (0, .aload_n 0, 1, 0, 0, 0)) := rfl
theorem p5_1 : vm_P 5 1 = some (vm_m5, (1, .getfield 27, 3, 0, 2, 0)) := rfl
theorem p5_4 : vm_P 5 4 = some (vm_m5, (4, .ireturn, 1, 0, 0, 0)) := rfl
theorem p6_0 : vm_P 6 0 = some (vm_m6, (0, .iload_n 1, 1, 0, 0, 0)) := rfl
theorem p6_1 : vm_P 6 1 = some (vm_m6, (1, .iconst 0, 1, 0, 0, 0)) := rfl
theorem p6_2 : vm_P 6 2 = some (vm_m6, (2, .aload_n 0, 1, 0, 0, 0)) := rfl
theorem p6_3 : vm_P 6 3 = some (vm_m6, (3, .invokevirtual 60, 3, 0, 4, 0)) := rfl
theorem p6_6 : vm_P 6 6 = some (vm_m6, (6, .iconst 1, 1, 0, 0, 0)) := rfl
theorem p6_7 : vm_P 6 7 = some (vm_m6, (7, .isub, 1, 0, 0, 0)) := rfl
theorem p6_8 : vm_P 6 8 = some (vm_m6, (8, .invokestatic 49, 3, 3, 126, 3)) := rfl
theorem p6_11 : vm_P 6 11 = some (vm_m6, (11, .ireturn, 1, 0, 0, 0)) := rfl
theorem p7_0 : vm_P 7 0 = some (vm_m7, (0, .aload_n 0, 1, 0, 0, 0)) := rfl
theorem p7_1 : vm_P 7 1 = some (vm_m7, (1, .getfield 16, 3, 0, 1, 0)) := rfl
theorem p7_4 : vm_P 7 4 = some (vm_m7, (4, .iload_n 1, 1, 0, 0, 0)) := rfl
theorem p7_5 : vm_P 7 5 = some (vm_m7, (5, .bipush 8, 2, 0, 0, 0)) := rfl
theorem p7_7 : vm_P 7 7 = some (vm_m7, (7, .imul, 1, 0, 0, 0)) := rfl
theorem p7_8 : vm_P 7 8 = some (vm_m7, (8, .iload_n 2, 1, 0, 0, 0)) := rfl
theorem p7_9 : vm_P 7 9 = some (vm_m7, (9, .iadd, 1, 0, 0, 0)) := rfl
theorem p7_10 : vm_P 7 10 = some (vm_m7, (10, .invokevirtual 39, 3, 0, 59, 501)) := rfl
theorem p7_13 : vm_P 7 13 = some (vm_m7, (13, .ireturn, 1, 0, 0, 0)) := rfl
theorem p8_0 : vm_P 8 0 = some (vm_m8, (0, .aload_n 0, 1, 0, 0, 0)) := rfl
theorem p8_1 : vm_P 8 1 = some (vm_m8, (1, .getfield 16, 3, 0, 1, 0)) := rfl
theorem p8_4 : vm_P 8 4 = some (vm_m8, (4, .iload_n 1, 1, 0, 0, 0)) := rfl
theorem p8_5 : vm_P 8 5 = some (vm_m8, (5, .bipush 8, 2, 0, 0, 0)) := rfl
theorem p8_7 : vm_P 8 7 = some (vm_m8, (7, .imul, 1, 0, 0, 0)) := rfl
theorem p8_8 : vm_P 8 8 = some (vm_m8, (8, .iload_n 2, 1, 0, 0, 0)) := rfl
theorem p8_9 : vm_P 8 9 = some (vm_m8, (9, .iadd, 1, 0, 0, 0)) := rfl
theorem p8_10 : vm_P 8 10 = some (vm_m8, (10, .iload_n 3, 1, 0, 0, 0)) := rfl
theorem p8_11 : vm_P 8 11 = some (vm_m8, (11, .invokevirtual 63, 3, 0, 60, 502)) := rfl
theorem p8_14 : vm_P 8 14 = some (vm_m8, (14, .return_, 1, 0, 0, 0)) := rfl
theorem p9_0 : vm_P 9 0 = some (vm_m9, (0, .aload_n 0, 1, 0, 0, 0)) := rfl
theorem p9_1 : vm_P 9 1 = some (vm_m9, (1, .iload_n 1, 1, 0, 0, 0)) := rfl
theorem p9_2 : vm_P 9 2 = some (vm_m9, (2, .iload_n 2, 1, 0, 0, 0)) := rfl
theorem p9_3 : vm_P 9 3 = some (vm_m9, (3, .aload_n 0, 1, 0, 0, 0)) := rfl
theorem p9_4 : vm_P 9 4 = some (vm_m9, (4, .iload_n 1, 1, 0, 0, 0)) := rfl
theorem p9_5 : vm_P 9 5 = some (vm_m9, (5, .iload_n 2, 1, 0, 0, 0)) := rfl
theorem p9_6 : vm_P 9 6 = some (vm_m9, (6, .invokevirtual 67, 3, 0, 7, 2)) := rfl
theorem p9_9 : vm_P 9 9 = some (vm_m9, (9, .iload_n 3, 1, 0, 0, 0)) := rfl
theorem p9_10 : vm_P 9 10 = some (vm_m9, (10, .iadd, 1, 0, 0, 0)) := rfl
theorem p9_11 : vm_P 9 11 = some (vm_m9, (11, .invokevirtual 70, 3, 0, 8, 3)) := rfl
theorem p9_14 : vm_P 9 14 = some (vm_m9, (14, .return_, 1, 0, 0, 0)) := rfl
theorem p10_0 : vm_P 10 0 = some (vm_m10, (0, .aload_n 0, 1, 0, 0, 0)) := rfl
theorem p10_1 : vm_P 10 1 = some (vm_m10, (1, .iload_n 1, 1, 0, 0, 0)) := rfl
theorem p10_2 : vm_P 10 2 = some (vm_m10, (2, .iconst 0, 1, 0, 0, 0)) := rfl
theorem p10_3 : vm_P 10 3 = some (vm_m10, (3, .invokevirtual 67, 3, 0, 7, 2)) := rfl
theorem p10_6 : vm_P 10 6 = some (vm_m10, (6, .iconst 1, 1, 0, 0, 0)) := rfl
theorem p10_7 : vm_P 10 7 = some (vm_m10, (7, .if_icmp .lt 7, 3, 0, 0, 0)) := rfl
theorem p10_10 : vm_P 10 10 = some (vm_m10, (10, .iconst 1, 1, 0, 0, 0)) := rfl
theorem p10_11 : vm_P 10 11 = some (vm_m10, (11, .goto 4, 3, 0, 0, 0)) := rfl
theorem p10_14 : vm_P 10 14 = some (vm_m10, (14, .iconst 0, 1, 0, 0, 0)) := rfl
theorem p10_15 : vm_P 10 15 = some (vm_m10, (15, .ireturn, 1, 0, 0, 0)) := rfl
theorem p11_0 : vm_P 11 0 = some (vm_m11, (0, .aload_n 0, 1, 0, 0, 0)) := rfl
theorem p11_1 : vm_P 11 1 = some (vm_m11, (1, .iload_n 1, 1, 0, 0, 0)) := rfl
theorem p11_2 : vm_P 11 2 = some (vm_m11, (2, .invokevirtual 73, 3, 0, 10, 1)) := rfl
theorem p11_5 : vm_P 11 5 = some (vm_m11, (5, .ifCond .eq 19, 3, 0, 0, 0)) := rfl
theorem p11_8 : vm_P 11 8 = some (vm_m11, (8, .aload_n 0, 1, 0, 0, 0)) := rfl
theorem p11_9 : vm_P 11 9 = some (vm_m11, (9, .iload_n 1, 1, 0, 0, 0)) := rfl
theorem p11_10 : vm_P 11 10 = some (vm_m11, (10, .iconst 2, 1, 0, 0, 0)) := rfl
theorem p11_11 : vm_P 11 11 = some (vm_m11, (11, .iload_n 2, 1, 0, 0, 0)) := rfl
theorem p11_12 : vm_P 11 12 = some (vm_m11, (12, .iadd, 1, 0, 0, 0)) := rfl
theorem p11_13 : vm_P 11 13 = some (vm_m11, (13, .invokevirtual 67, 3, 0, 7, 2)) := rfl
theorem p11_16 : vm_P 11 16 = some (vm_m11, (16, .iconst 1, 1, 0, 0, 0)) := rfl
theorem p11_17 : vm_P 11 17 = some (vm_m11, (17, .if_icmp .lt 7, 3, 0, 0, 0)) := rfl
theorem p11_20 : vm_P 11 20 = some (vm_m11, (20, .iconst 1, 1, 0, 0, 0)) := rfl
theorem p11_21 : vm_P 11 21 = some (vm_m11, (21, .goto 4, 3, 0, 0, 0)) := rfl
theorem p11_24 : vm_P 11 24 = some (vm_m11, (24, .iconst 0, 1, 0, 0, 0)) := rfl
theorem p11_25 : vm_P 11 25 = some (vm_m11, (25, .ireturn, 1, 0, 0, 0)) := rfl
theorem p12_0 : vm_P 12 0 = some (vm_m12, (0, .aload_n 0, 1, 0, 0, 0)) := rfl
theorem p12_1 : vm_P 12 1 = some (vm_m12, (1, .iload_n 1, 1, 0, 0, 0)) := rfl
theorem p12_2 : vm_P 12 2 = some (vm_m12, (2, .iconst 2, 1, 0, 0, 0)) := rfl
theorem p12_3 : vm_P 12 3 = some (vm_m12, (3, .iload_n 2, 1, 0, 0, 0)) := rfl
theorem p12_4 : vm_P 12 4 = some (vm_m12, (4, .iadd, 1, 0, 0, 0)) := rfl
theorem p12_5 : vm_P 12 5 = some (vm_m12, (5, .iconst (-1), 1, 0, 0, 0)) := rfl
theorem p12_6 : vm_P 12 6 = some (vm_m12, (6, .invokevirtual 76, 3, 0, 9, 3)) := rfl
theorem p12_9 : vm_P 12 9 = some (vm_m12, (9, .aload_n 0, 1, 0, 0, 0)) := rfl
theorem p12_10 : vm_P 12 10 = some (vm_m12, (10, .iload_n 1, 1, 0, 0, 0)) := rfl
theorem p12_11 : vm_P 12 11 = some (vm_m12, (11, .aload_n 0, 1, 0, 0, 0)) := rfl
theorem p12_12 : vm_P 12 12 = some (vm_m12, (12, .iload_n 1, 1, 0, 0, 0)) := rfl
theorem p12_13 : vm_P 12 13 = some (vm_m12, (13, .iconst 0, 1, 0, 0, 0)) := rfl
theorem p12_14 : vm_P 12 14 = some (vm_m12, (14, .invokevirtual 67, 3, 0, 7, 2)) := rfl
theorem p12_17 : vm_P 12 17 = some (vm_m12, (17, .iload_n 2, 1, 0, 0, 0)) := rfl
theorem p12_18 : vm_P 12 18 = some (vm_m12, (18, .invokestatic 79, 3, 1, 30, 2)) := rfl
theorem p12_21 : vm_P 12 21 = some (vm_m12, (21, .invokevirtual 84, 3, 0, 13, 2)) := rfl
theorem p12_24 : vm_P 12 24 = some (vm_m12, (24, .aload_n 0, 1, 0, 0, 0)) := rfl
theorem p12_25 : vm_P 12 25 = some (vm_m12, (25, .iload_n 1, 1, 0, 0, 0)) := rfl
theorem p12_26 : vm_P 12 26 = some (vm_m12, (26, .invokevirtual 73, 3, 0, 10, 1)) := rfl
theorem p12_29 : vm_P 12 29 = some (vm_m12, (29, .ifCond .ne 4, 3, 0, 0, 0)) := rfl
theorem p12_32 : vm_P 12 32 = some (vm_m12, (32, .return_, 1, 0, 0, 0)) := rfl
theorem p12_33 : vm_P 12 33 = some (vm_m12, (33, .aload_n 0, 1, 0, 0, 0)) := rfl
theorem p12_34 : vm_P 12 34 = some (vm_m12, (34, .iload_n 1, 1, 0, 0, 0)) := rfl
theorem p12_35 : vm_P 12 35 = some (vm_m12, (35, .bipush 6, 2, 0, 0, 0)) := rfl
theorem p12_37 : vm_P 12 37 = some (vm_m12, (37, .iload_n 2, 1, 0, 0, 0)) := rfl
theorem p12_38 : vm_P 12 38 = some (vm_m12, (38, .invokevirtual 70, 3, 0, 8, 3)) := rfl
theorem p12_41 : vm_P 12 41 = some (vm_m12, (41, .aload_n 0, 1, 0, 0, 0)) := rfl
theorem p12_42 : vm_P 12 42 = some (vm_m12, (42, .getfield 20, 3, 0, 0, 0)) := rfl
theorem p12_45 : vm_P 12 45 = some (vm_m12, (45, .aload_n 0, 1, 0, 0, 0)) := rfl
theorem p12_46 : vm_P 12 46 = some (vm_m12, (46, .iload_n 1, 1, 0, 0, 0)) := rfl
theorem p12_47 : vm_P 12 47 = some (vm_m12, (47, .iconst 1, 1, 0, 0, 0)) := rfl
theorem p12_48 : vm_P 12 48 = some (vm_m12, (48, .invokevirtual 67, 3, 0, 7, 2)) := rfl
theorem p12_51 : vm_P 12 51 = some (vm_m12, (51, .iload_n 2, 1, 0, 0, 0)) := rfl
theorem p12_52 : vm_P 12 52 = some (vm_m12, (52, .invokevirtual 87, 3, 0, 78, 702)) := rfl
theorem p12_55 : vm_P 12 55 = some (vm_m12, (55, .istore_n 3, 1, 0, 0, 0)) := rfl
theorem p12_56 : vm_P 12 56 = some (vm_m12, (56, .iload_n 3, 1, 0, 0, 0)) := rfl
theorem p12_57 : vm_P 12 57 = some (vm_m12, (57, .bipush (-4), 2, 0, 0, 0)) := rfl
theorem p12_59 : vm_P 12 59 = some (vm_m12, (59, .if_icmp .eq 18, 3, 0, 0, 0)) := rfl
theorem p12_62 : vm_P 12 62 = some (vm_m12, (62, .aload_n 0, 1, 0, 0, 0)) := rfl
theorem p12_63 : vm_P 12 63 = some (vm_m12, (63, .iload_n 1, 1, 0, 0, 0)) := rfl
theorem p12_64 : vm_P 12 64 = some (vm_m12, (64, .iconst 1, 1, 0, 0, 0)) := rfl
theorem p12_65 : vm_P 12 65 = some (vm_m12, (65, .iload_n 3, 1, 0, 0, 0)) := rfl
theorem p12_66 : vm_P 12 66 = some (vm_m12, (66, .invokevirtual 70, 3, 0, 8, 3)) := rfl
theorem p12_69 : vm_P 12 69 = some (vm_m12, (69, .aload_n 0, 1, 0, 0, 0)) := rfl
theorem p12_70 : vm_P 12 70 = some (vm_m12, (70, .iload_n 1, 1, 0, 0, 0)) := rfl
theorem p12_71 : vm_P 12 71 = some (vm_m12, (71, .bipush 7, 2, 0, 0, 0)) := rfl
theorem p12_73 : vm_P 12 73 = some (vm_m12, (73, .iconst 1, 1, 0, 0, 0)) := rfl
theorem p12_74 : vm_P 12 74 = some (vm_m12, (74, .invokevirtual 76, 3, 0, 9, 3)) := rfl
theorem p12_77 : vm_P 12 77 = some (vm_m12, (77, .return_, 1, 0, 0, 0)) := rfl
theorem p13_0 : vm_P 13 0 = some (vm_m13, (0, .aload_n 0, 1, 0, 0, 0)) := rfl
theorem p13_1 : vm_P 13 1 = some (vm_m13, (1, .iload_n 1, 1, 0, 0, 0)) := rfl
theorem p13_2 : vm_P 13 2 = some (vm_m13, (2, .iconst 0, 1, 0, 0, 0)) := rfl
theorem p13_3 : vm_P 13 3 = some (vm_m13, (3, .iload_n 2, 1, 0, 0, 0)) := rfl
theorem p13_4 : vm_P 13 4 = some (vm_m13, (4, .invokevirtual 70, 3, 0, 8, 3)) := rfl
theorem p13_7 : vm_P 13 7 = some (vm_m13, (7, .iload_n 2, 1, 0, 0, 0)) := rfl
theorem p13_8 : vm_P 13 8 = some (vm_m13, (8, .iconst 1, 1, 0, 0, 0)) := rfl
theorem p13_9 : vm_P 13 9 = some (vm_m13, (9, .if_icmp .ge 20, 3, 0, 0, 0)) := rfl
theorem p13_12 : vm_P 13 12 = some (vm_m13, (12, .aload_n 0, 1, 0, 0, 0)) := rfl
theorem p13_13 : vm_P 13 13 = some (vm_m13, (13, .iload_n 1, 1, 0, 0, 0)) := rfl
theorem p13_14 : vm_P 13 14 = some (vm_m13, (14, .iconst 1, 1, 0, 0, 0)) := rfl
theorem p13_15 : vm_P 13 15 = some (vm_m13, (15, .bipush (-4), 2, 0, 0, 0)) := rfl
theorem p13_17 : vm_P 13 17 = some (vm_m13, (17, .invokevirtual 70, 3, 0, 8, 3)) := rfl
theorem p13_20 : vm_P 13 20 = some (vm_m13, (20, .aload_n 0, 1, 0, 0, 0)) := rfl
theorem p13_21 : vm_P 13 21 = some (vm_m13, (21, .iload_n 1, 1, 0, 0, 0)) := rfl
theorem p13_22 : vm_P 13 22 = some (vm_m13, (22, .bipush 6, 2, 0, 0, 0)) := rfl
theorem p13_24 : vm_P 13 24 = some (vm_m13, (24, .bipush (-4), 2, 0, 0, 0)) := rfl
theorem p13_26 : vm_P 13 26 = some (vm_m13, (26, .invokevirtual 70, 3, 0, 8, 3)) := rfl
theorem p13_29 : vm_P 13 29 = some (vm_m13, (29, .return_, 1, 0, 0, 0)) := rfl
theorem p14_0 : vm_P 14 0 = some (vm_m14, (0, .aload_n 0, 1, 0, 0, 0)) := rfl
theorem p14_1 : vm_P 14 1 = some (vm_m14, (1, .getfield 20, 3, 0, 0, 0)) := rfl
theorem p14_4 : vm_P 14 4 = some (vm_m14, (4, .aload_n 0, 1, 0, 0, 0)) := rfl
theorem p14_5 : vm_P 14 5 = some (vm_m14, (5, .getfield 27, 3, 0, 2, 0)) := rfl
theorem p14_8 : vm_P 14 8 = some (vm_m14, (8, .invokevirtual 90, 3, 0, 80, 701)) := rfl
theorem p14_11 : vm_P 14 11 = some (vm_m14, (11, .istore_n 1, 1, 0, 0, 0)) := rfl
theorem p14_12 : vm_P 14 12 = some (vm_m14, (12, .iconst 0, 1, 0, 0, 0)) := rfl
theorem p14_13 : vm_P 14 13 = some (vm_m14, (13, .istore_n 2, 1, 0, 0, 0)) := rfl
theorem p14_14 : vm_P 14 14 = some (vm_m14, (14, .iload_n 2, 1, 0, 0, 0)) := rfl
theorem p14_15 : vm_P 14 15 = some (vm_m14, (15, .aload_n 0, 1, 0, 0, 0)) := rfl
theorem p14_16 : vm_P 14 16 = some (vm_m14, (16, .invokevirtual 60, 3, 0, 4, 0)) := rfl
theorem p14_19 : vm_P 14 19 = some (vm_m14, (19, .if_icmp .ge 39, 3, 0, 0, 0)) := rfl
theorem p14_22 : vm_P 14 22 = some (vm_m14, (22, .aload_n 0, 1, 0, 0, 0)) := rfl
theorem p14_23 : vm_P 14 23 = some (vm_m14, (23, .iload_n 2, 1, 0, 0, 0)) := rfl
theorem p14_24 : vm_P 14 24 = some (vm_m14, (24, .invokevirtual 73, 3, 0, 10, 1)) := rfl
theorem p14_27 : vm_P 14 27 = some (vm_m14, (27, .ifCond .eq 25, 3, 0, 0, 0)) := rfl
theorem p14_30 : vm_P 14 30 = some (vm_m14, (30, .aload_n 0, 1, 0, 0, 0)) := rfl
theorem p14_31 : vm_P 14 31 = some (vm_m14, (31, .iload_n 2, 1, 0, 0, 0)) := rfl
theorem p14_32 : vm_P 14 32 = some (vm_m14, (32, .aload_n 0, 1, 0, 0, 0)) := rfl
theorem p14_33 : vm_P 14 33 = some (vm_m14, (33, .iload_n 2, 1, 0, 0, 0)) := rfl
theorem p14_34 : vm_P 14 34 = some (vm_m14, (34, .iconst 0, 1, 0, 0, 0)) := rfl
theorem p14_35 : vm_P 14 35 = some (vm_m14, (35, .invokevirtual 67, 3, 0, 7, 2)) := rfl
theorem p14_38 : vm_P 14 38 = some (vm_m14, (38, .aload_n 0, 1, 0, 0, 0)) := rfl
theorem p14_39 : vm_P 14 39 = some (vm_m14, (39, .iload_n 2, 1, 0, 0, 0)) := rfl
theorem p14_40 : vm_P 14 40 = some (vm_m14, (40, .bipush 6, 2, 0, 0, 0)) := rfl
theorem p14_42 : vm_P 14 42 = some (vm_m14, (42, .invokevirtual 67, 3, 0, 7, 2)) := rfl
theorem p14_45 : vm_P 14 45 = some (vm_m14, (45, .iload_n 1, 1, 0, 0, 0)) := rfl
theorem p14_46 : vm_P 14 46 = some (vm_m14, (46, .invokestatic 93, 3, 1, 31, 3)) := rfl
theorem p14_49 : vm_P 14 49 = some (vm_m14, (49, .invokevirtual 84, 3, 0, 13, 2)) := rfl
theorem p14_52 : vm_P 14 52 = some (vm_m14, (52, .iinc 2 1, 3, 0, 0, 0)) := rfl
theorem p14_55 : vm_P 14 55 = some (vm_m14, (55, .goto (-41), 3, 0, 0, 0)) := rfl
theorem p14_58 : vm_P 14 58 = some (vm_m14, (58, .aload_n 0, 1, 0, 0, 0)) := rfl
theorem p14_59 : vm_P 14 59 = some (vm_m14, (59, .dup, 1, 0, 0, 0)) := rfl
theorem p14_60 : vm_P 14 60 = some (vm_m14, (60, .getfield 27, 3, 0, 2, 0)) := rfl
theorem p14_63 : vm_P 14 63 = some (vm_m14, (63, .iconst 1, 1, 0, 0, 0)) := rfl
theorem p14_64 : vm_P 14 64 = some (vm_m14, (64, .iadd, 1, 0, 0, 0)) := rfl
theorem p14_65 : vm_P 14 65 = some (vm_m14, (65, .putfield 27, 3, 0, 2, 0)) := rfl
theorem p14_68 : vm_P 14 68 = some (vm_m14, (68, .return_, 1, 0, 0, 0)) := rfl
theorem p15_0 : vm_P 15 0 = some (vm_m15, (0, .aload_n 0, 1, 0, 0, 0)) := rfl
theorem p15_1 : vm_P 15 1 = some (vm_m15, (1, .iload_n 1, 1, 0, 0, 0)) := rfl
theorem p15_2 : vm_P 15 2 = some (vm_m15, (2, .invokevirtual 73, 3, 0, 10, 1)) := rfl
theorem p15_5 : vm_P 15 5 = some (vm_m15, (5, .ifCond .ne 17, 3, 0, 0, 0)) := rfl
theorem p15_8 : vm_P 15 8 = some (vm_m15, (8, .aload_n 0, 1, 0, 0, 0)) := rfl
theorem p15_9 : vm_P 15 9 = some (vm_m15, (9, .iload_n 2, 1, 0, 0, 0)) := rfl
theorem p15_10 : vm_P 15 10 = some (vm_m15, (10, .iconst 0, 1, 0, 0, 0)) := rfl
theorem p15_11 : vm_P 15 11 = some (vm_m15, (11, .invokevirtual 67, 3, 0, 7, 2)) := rfl
theorem p15_14 : vm_P 15 14 = some (vm_m15, (14, .iconst 4, 1, 0, 0, 0)) := rfl
theorem p15_15 : vm_P 15 15 = some (vm_m15, (15, .if_icmp .lt 7, 3, 0, 0, 0)) := rfl
theorem p15_18 : vm_P 15 18 = some (vm_m15, (18, .iconst 1, 1, 0, 0, 0)) := rfl
theorem p15_19 : vm_P 15 19 = some (vm_m15, (19, .goto 4, 3, 0, 0, 0)) := rfl
theorem p15_22 : vm_P 15 22 = some (vm_m15, (22, .iconst 0, 1, 0, 0, 0)) := rfl
theorem p15_23 : vm_P 15 23 = some (vm_m15, (23, .ireturn, 1, 0, 0, 0)) := rfl
theorem p16_0 : vm_P 16 0 = some (vm_m16, (0, .aload_n 0, 1, 0, 0, 0)) := rfl
theorem p16_1 : vm_P 16 1 = some (vm_m16, (1, .iload_n 2, 1, 0, 0, 0)) := rfl
theorem p16_2 : vm_P 16 2 = some (vm_m16, (2, .iconst 0, 1, 0, 0, 0)) := rfl
theorem p16_3 : vm_P 16 3 = some (vm_m16, (3, .iconst (-1), 1, 0, 0, 0)) := rfl
theorem p16_4 : vm_P 16 4 = some (vm_m16, (4, .invokevirtual 76, 3, 0, 9, 3)) := rfl
theorem p16_7 : vm_P 16 7 = some (vm_m16, (7, .aload_n 0, 1, 0, 0, 0)) := rfl
theorem p16_8 : vm_P 16 8 = some (vm_m16, (8, .iload_n 1, 1, 0, 0, 0)) := rfl
theorem p16_9 : vm_P 16 9 = some (vm_m16, (9, .iconst 0, 1, 0, 0, 0)) := rfl
theorem p16_10 : vm_P 16 10 = some (vm_m16, (10, .iconst 3, 1, 0, 0, 0)) := rfl
theorem p16_11 : vm_P 16 11 = some (vm_m16, (11, .invokevirtual 70, 3, 0, 8, 3)) := rfl
theorem p16_14 : vm_P 16 14 = some (vm_m16, (14, .aload_n 0, 1, 0, 0, 0)) := rfl
theorem p16_15 : vm_P 16 15 = some (vm_m16, (15, .iload_n 1, 1, 0, 0, 0)) := rfl
theorem p16_16 : vm_P 16 16 = some (vm_m16, (16, .iconst 1, 1, 0, 0, 0)) := rfl
theorem p16_17 : vm_P 16 17 = some (vm_m16, (17, .aload_n 0, 1, 0, 0, 0)) := rfl
theorem p16_18 : vm_P 16 18 = some (vm_m16, (18, .iload_n 2, 1, 0, 0, 0)) := rfl
theorem p16_19 : vm_P 16 19 = some (vm_m16, (19, .iconst 1, 1, 0, 0, 0)) := rfl
theorem p16_20 : vm_P 16 20 = some (vm_m16, (20, .invokevirtual 67, 3, 0, 7, 2)) := rfl
theorem p16_23 : vm_P 16 23 = some (vm_m16, (23, .invokevirtual 70, 3, 0, 8, 3)) := rfl
theorem p16_26 : vm_P 16 26 = some (vm_m16, (26, .aload_n 0, 1, 0, 0, 0)) := rfl
theorem p16_27 : vm_P 16 27 = some (vm_m16, (27, .iload_n 1, 1, 0, 0, 0)) := rfl
theorem p16_28 : vm_P 16 28 = some (vm_m16, (28, .bipush 6, 2, 0, 0, 0)) := rfl
theorem p16_30 : vm_P 16 30 = some (vm_m16, (30, .bipush (-4), 2, 0, 0, 0)) := rfl
theorem p16_32 : vm_P 16 32 = some (vm_m16, (32, .invokevirtual 70, 3, 0, 8, 3)) := rfl
theorem p16_35 : vm_P 16 35 = some (vm_m16, (35, .return_, 1, 0, 0, 0)) := rfl
theorem p17_0 : vm_P 17 0 = some (vm_m17, (0, .aload_n 0, 1, 0, 0, 0)) := rfl
theorem p17_1 : vm_P 17 1 = some (vm_m17, (1, .iload_n 1, 1, 0, 0, 0)) := rfl
theorem p17_2 : vm_P 17 2 = some (vm_m17, (2, .iconst 0, 1, 0, 0, 0)) := rfl
theorem p17_3 : vm_P 17 3 = some (vm_m17, (3, .bipush 20, 2, 0, 0, 0)) := rfl
theorem p17_5 : vm_P 17 5 = some (vm_m17, (5, .aload_n 0, 1, 0, 0, 0)) := rfl
theorem p17_6 : vm_P 17 6 = some (vm_m17, (6, .iload_n 1, 1, 0, 0, 0)) := rfl
theorem p17_7 : vm_P 17 7 = some (vm_m17, (7, .iconst 0, 1, 0, 0, 0)) := rfl
theorem p17_8 : vm_P 17 8 = some (vm_m17, (8, .invokevirtual 67, 3, 0, 7, 2)) := rfl
theorem p17_11 : vm_P 17 11 = some (vm_m17, (11, .aload_n 0, 1, 0, 0, 0)) := rfl
theorem p17_12 : vm_P 17 12 = some (vm_m17, (12, .iload_n 2, 1, 0, 0, 0)) := rfl
theorem p17_13 : vm_P 17 13 = some (vm_m17, (13, .iconst 0, 1, 0, 0, 0)) := rfl
theorem p17_14 : vm_P 17 14 = some (vm_m17, (14, .invokevirtual 67, 3, 0, 7, 2)) := rfl
theorem p17_17 : vm_P 17 17 = some (vm_m17, (17, .iadd, 1, 0, 0, 0)) := rfl
theorem p17_18 : vm_P 17 18 = some (vm_m17, (18, .invokestatic 97, 3, 1, 203, 2)) := rfl
theorem p17_21 : vm_P 17 21 = some (vm_m17, (21, .invokevirtual 70, 3, 0, 8, 3)) := rfl
theorem p17_24 : vm_P 17 24 = some (vm_m17, (24, .aload_n 0, 1, 0, 0, 0)) := rfl
theorem p17_25 : vm_P 17 25 = some (vm_m17, (25, .iload_n 1, 1, 0, 0, 0)) := rfl
theorem p17_26 : vm_P 17 26 = some (vm_m17, (26, .iconst 1, 1, 0, 0, 0)) := rfl
theorem p17_27 : vm_P 17 27 = some (vm_m17, (27, .aload_n 0, 1, 0, 0, 0)) := rfl
theorem p17_28 : vm_P 17 28 = some (vm_m17, (28, .iload_n 1, 1, 0, 0, 0)) := rfl
theorem p17_29 : vm_P 17 29 = some (vm_m17, (29, .iconst 1, 1, 0, 0, 0)) := rfl
theorem p17_30 : vm_P 17 30 = some (vm_m17, (30, .invokevirtual 67, 3, 0, 7, 2)) := rfl
theorem p17_33 : vm_P 17 33 = some (vm_m17, (33, .aload_n 0, 1, 0, 0, 0)) := rfl
theorem p17_34 : vm_P 17 34 = some (vm_m17, (34, .iload_n 2, 1, 0, 0, 0)) := rfl
theorem p17_35 : vm_P 17 35 = some (vm_m17, (35, .iconst 1, 1, 0, 0, 0)) := rfl
theorem p17_36 : vm_P 17 36 = some (vm_m17, (36, .invokevirtual 67, 3, 0, 7, 2)) := rfl
theorem p17_39 : vm_P 17 39 = some (vm_m17, (39, .invokestatic 97, 3, 1, 203, 2)) := rfl
theorem p17_42 : vm_P 17 42 = some (vm_m17, (42, .invokevirtual 70, 3, 0, 8, 3)) := rfl
theorem p17_45 : vm_P 17 45 = some (vm_m17, (45, .iconst 0, 1, 0, 0, 0)) := rfl
theorem p17_46 : vm_P 17 46 = some (vm_m17, (46, .istore_n 3, 1, 0, 0, 0)) := rfl
theorem p17_47 : vm_P 17 47 = some (vm_m17, (47, .iload_n 3, 1, 0, 0, 0)) := rfl
theorem p17_48 : vm_P 17 48 = some (vm_m17, (48, .iconst 4, 1, 0, 0, 0)) := rfl
theorem p17_49 : vm_P 17 49 = some (vm_m17, (49, .if_icmp .ge 52, 3, 0, 0, 0)) := rfl
theorem p17_52 : vm_P 17 52 = some (vm_m17, (52, .aload_n 0, 1, 0, 0, 0)) := rfl
theorem p17_53 : vm_P 17 53 = some (vm_m17, (53, .iload_n 1, 1, 0, 0, 0)) := rfl
theorem p17_54 : vm_P 17 54 = some (vm_m17, (54, .iconst 2, 1, 0, 0, 0)) := rfl
theorem p17_55 : vm_P 17 55 = some (vm_m17, (55, .iload_n 3, 1, 0, 0, 0)) := rfl
theorem p17_56 : vm_P 17 56 = some (vm_m17, (56, .iadd, 1, 0, 0, 0)) := rfl
theorem p17_57 : vm_P 17 57 = some (vm_m17, (57, .invokevirtual 67, 3, 0, 7, 2)) := rfl
theorem p17_60 : vm_P 17 60 = some (vm_m17, (60, .aload_n 0, 1, 0, 0, 0)) := rfl
theorem p17_61 : vm_P 17 61 = some (vm_m17, (61, .iload_n 2, 1, 0, 0, 0)) := rfl
theorem p17_62 : vm_P 17 62 = some (vm_m17, (62, .iconst 2, 1, 0, 0, 0)) := rfl
theorem p17_63 : vm_P 17 63 = some (vm_m17, (63, .iload_n 3, 1, 0, 0, 0)) := rfl
theorem p17_64 : vm_P 17 64 = some (vm_m17, (64, .iadd, 1, 0, 0, 0)) := rfl
theorem p17_65 : vm_P 17 65 = some (vm_m17, (65, .invokevirtual 67, 3, 0, 7, 2)) := rfl
theorem p17_68 : vm_P 17 68 = some (vm_m17, (68, .iadd, 1, 0, 0, 0)) := rfl
theorem p17_69 : vm_P 17 69 = some (vm_m17, (69, .istore 4, 2, 0, 0, 0)) := rfl
theorem p17_71 : vm_P 17 71 = some (vm_m17, (71, .aload_n 0, 1, 0, 0, 0)) := rfl
theorem p17_72 : vm_P 17 72 = some (vm_m17, (72, .iload_n 1, 1, 0, 0, 0)) := rfl
theorem p17_73 : vm_P 17 73 = some (vm_m17, (73, .iconst 2, 1, 0, 0, 0)) := rfl
theorem p17_74 : vm_P 17 74 = some (vm_m17, (74, .iload_n 3, 1, 0, 0, 0)) := rfl
theorem p17_75 : vm_P 17 75 = some (vm_m17, (75, .iadd, 1, 0, 0, 0)) := rfl
theorem p17_76 : vm_P 17 76 = some (vm_m17, (76, .bipush 99, 2, 0, 0, 0)) := rfl
theorem p17_78 : vm_P 17 78 = some (vm_m17, (78, .iload 4, 2, 0, 0, 0)) := rfl
theorem p17_80 : vm_P 17 80 = some (vm_m17, (80, .invokestatic 97, 3, 1, 203, 2)) := rfl
theorem p17_83 : vm_P 17 83 = some (vm_m17, (83, .invokevirtual 70, 3, 0, 8, 3)) := rfl
theorem p17_86 : vm_P 17 86 = some (vm_m17, (86, .aload_n 0, 1, 0, 0, 0)) := rfl
theorem p17_87 : vm_P 17 87 = some (vm_m17, (87, .iload_n 2, 1, 0, 0, 0)) := rfl
theorem p17_88 : vm_P 17 88 = some (vm_m17, (88, .iconst 2, 1, 0, 0, 0)) := rfl
theorem p17_89 : vm_P 17 89 = some (vm_m17, (89, .iload_n 3, 1, 0, 0, 0)) := rfl
theorem p17_90 : vm_P 17 90 = some (vm_m17, (90, .iadd, 1, 0, 0, 0)) := rfl
theorem p17_91 : vm_P 17 91 = some (vm_m17, (91, .iconst 0, 1, 0, 0, 0)) := rfl
theorem p17_92 : vm_P 17 92 = some (vm_m17, (92, .invokevirtual 70, 3, 0, 8, 3)) := rfl
theorem p17_95 : vm_P 17 95 = some (vm_m17, (95, .iinc 3 1, 3, 0, 0, 0)) := rfl
theorem p17_98 : vm_P 17 98 = some (vm_m17, (98, .goto (-51), 3, 0, 0, 0)) := rfl
theorem p17_101 : vm_P 17 101 = some (vm_m17, (101, .aload_n 0, 1, 0, 0, 0)) := rfl
theorem p17_102 : vm_P 17 102 = some (vm_m17, (102, .iload_n 2, 1, 0, 0, 0)) := rfl
theorem p17_103 : vm_P 17 103 = some (vm_m17, (103, .iconst 0, 1, 0, 0, 0)) := rfl
theorem p17_104 : vm_P 17 104 = some (vm_m17, (104, .invokevirtual 84, 3, 0, 13, 2)) := rfl
theorem p17_107 : vm_P 17 107 = some (vm_m17, (107, .return_, 1, 0, 0, 0)) := rfl
theorem p18_0 : vm_P 18 0 = some (vm_m18, (0, .aload_n 0, 1, 0, 0, 0)) := rfl
theorem p18_1 : vm_P 18 1 = some (vm_m18, (1, .iload_n 1, 1, 0, 0, 0)) := rfl
theorem p18_2 : vm_P 18 2 = some (vm_m18, (2, .iconst 2, 1, 0, 0, 0)) := rfl
theorem p18_3 : vm_P 18 3 = some (vm_m18, (3, .iload_n 3, 1, 0, 0, 0)) := rfl
theorem p18_4 : vm_P 18 4 = some (vm_m18, (4, .iadd, 1, 0, 0, 0)) := rfl
theorem p18_5 : vm_P 18 5 = some (vm_m18, (5, .invokevirtual 67, 3, 0, 7, 2)) := rfl
theorem p18_8 : vm_P 18 8 = some (vm_m18, (8, .iconst 1, 1, 0, 0, 0)) := rfl
theorem p18_9 : vm_P 18 9 = some (vm_m18, (9, .if_icmp .lt 20, 3, 0, 0, 0)) := rfl
theorem p18_12 : vm_P 18 12 = some (vm_m18, (12, .aload_n 0, 1, 0, 0, 0)) := rfl
theorem p18_13 : vm_P 18 13 = some (vm_m18, (13, .iload_n 2, 1, 0, 0, 0)) := rfl
theorem p18_14 : vm_P 18 14 = some (vm_m18, (14, .iconst 2, 1, 0, 0, 0)) := rfl
theorem p18_15 : vm_P 18 15 = some (vm_m18, (15, .iload_n 3, 1, 0, 0, 0)) := rfl
theorem p18_16 : vm_P 18 16 = some (vm_m18, (16, .iadd, 1, 0, 0, 0)) := rfl
theorem p18_17 : vm_P 18 17 = some (vm_m18, (17, .invokevirtual 67, 3, 0, 7, 2)) := rfl
theorem p18_20 : vm_P 18 20 = some (vm_m18, (20, .bipush 99, 2, 0, 0, 0)) := rfl
theorem p18_22 : vm_P 18 22 = some (vm_m18, (22, .if_icmp .ge 7, 3, 0, 0, 0)) := rfl
theorem p18_25 : vm_P 18 25 = some (vm_m18, (25, .iconst 1, 1, 0, 0, 0)) := rfl
theorem p18_26 : vm_P 18 26 = some (vm_m18, (26, .goto 4, 3, 0, 0, 0)) := rfl
theorem p18_29 : vm_P 18 29 = some (vm_m18, (29, .iconst 0, 1, 0, 0, 0)) := rfl
theorem p18_30 : vm_P 18 30 = some (vm_m18, (30, .ireturn, 1, 0, 0, 0)) := rfl
theorem p19_0 : vm_P 19 0 = some (vm_m19, (0, .aload_n 0, 1, 0, 0, 0)) := rfl
theorem p19_1 : vm_P 19 1 = some (vm_m19, (1, .iload_n 1, 1, 0, 0, 0)) := rfl
theorem p19_2 : vm_P 19 2 = some (vm_m19, (2, .iconst 2, 1, 0, 0, 0)) := rfl
theorem p19_3 : vm_P 19 3 = some (vm_m19, (3, .iload_n 3, 1, 0, 0, 0)) := rfl
theorem p19_4 : vm_P 19 4 = some (vm_m19, (4, .iadd, 1, 0, 0, 0)) := rfl
theorem p19_5 : vm_P 19 5 = some (vm_m19, (5, .iconst (-1), 1, 0, 0, 0)) := rfl
theorem p19_6 : vm_P 19 6 = some (vm_m19, (6, .invokevirtual 76, 3, 0, 9, 3)) := rfl
theorem p19_9 : vm_P 19 9 = some (vm_m19, (9, .aload_n 0, 1, 0, 0, 0)) := rfl
theorem p19_10 : vm_P 19 10 = some (vm_m19, (10, .iload_n 2, 1, 0, 0, 0)) := rfl
theorem p19_11 : vm_P 19 11 = some (vm_m19, (11, .iconst 2, 1, 0, 0, 0)) := rfl
theorem p19_12 : vm_P 19 12 = some (vm_m19, (12, .iload_n 3, 1, 0, 0, 0)) := rfl
theorem p19_13 : vm_P 19 13 = some (vm_m19, (13, .iadd, 1, 0, 0, 0)) := rfl
theorem p19_14 : vm_P 19 14 = some (vm_m19, (14, .iconst 1, 1, 0, 0, 0)) := rfl
theorem p19_15 : vm_P 19 15 = some (vm_m19, (15, .invokevirtual 76, 3, 0, 9, 3)) := rfl
theorem p19_18 : vm_P 19 18 = some (vm_m19, (18, .return_, 1, 0, 0, 0)) := rfl
theorem p20_0 : vm_P 20 0 = some (vm_m20, (0, .aload_n 0, 1, 0, 0, 0)) := rfl
theorem p20_1 : vm_P 20 1 = some (vm_m20, (1, .iload_n 1, 1, 0, 0, 0)) := rfl
theorem p20_2 : vm_P 20 2 = some (vm_m20, (2, .iconst 0, 1, 0, 0, 0)) := rfl
theorem p20_3 : vm_P 20 3 = some (vm_m20, (3, .invokevirtual 67, 3, 0, 7, 2)) := rfl
theorem p20_6 : vm_P 20 6 = some (vm_m20, (6, .istore_n 2, 1, 0, 0, 0)) := rfl
theorem p20_7 : vm_P 20 7 = some (vm_m20, (7, .iconst 0, 1, 0, 0, 0)) := rfl
theorem p20_8 : vm_P 20 8 = some (vm_m20, (8, .istore_n 3, 1, 0, 0, 0)) := rfl
theorem p20_9 : vm_P 20 9 = some (vm_m20, (9, .iload_n 3, 1, 0, 0, 0)) := rfl
theorem p20_10 : vm_P 20 10 = some (vm_m20, (10, .bipush 60, 2, 0, 0, 0)) := rfl
theorem p20_12 : vm_P 20 12 = some (vm_m20, (12, .if_icmp .gt 41, 3, 0, 0, 0)) := rfl
theorem p20_15 : vm_P 20 15 = some (vm_m20, (15, .iload_n 2, 1, 0, 0, 0)) := rfl
theorem p20_16 : vm_P 20 16 = some (vm_m20, (16, .iconst 1, 1, 0, 0, 0)) := rfl
theorem p20_17 : vm_P 20 17 = some (vm_m20, (17, .if_icmp .ge 5, 3, 0, 0, 0)) := rfl
theorem p20_20 : vm_P 20 20 = some (vm_m20, (20, .iload_n 3, 1, 0, 0, 0)) := rfl
theorem p20_21 : vm_P 20 21 = some (vm_m20, (21, .ireturn, 1, 0, 0, 0)) := rfl
theorem p20_22 : vm_P 20 22 = some (vm_m20, (22, .iload_n 2, 1, 0, 0, 0)) := rfl
theorem p20_23 : vm_P 20 23 = some (vm_m20, (23, .aload_n 0, 1, 0, 0, 0)) := rfl
theorem p20_24 : vm_P 20 24 = some (vm_m20, (24, .iload_n 1, 1, 0, 0, 0)) := rfl
theorem p20_25 : vm_P 20 25 = some (vm_m20, (25, .bipush 6, 2, 0, 0, 0)) := rfl
theorem p20_27 : vm_P 20 27 = some (vm_m20, (27, .invokevirtual 67, 3, 0, 7, 2)) := rfl
theorem p20_30 : vm_P 20 30 = some (vm_m20, (30, .aload_n 0, 1, 0, 0, 0)) := rfl
theorem p20_31 : vm_P 20 31 = some (vm_m20, (31, .getfield 20, 3, 0, 0, 0)) := rfl
theorem p20_34 : vm_P 20 34 = some (vm_m20, (34, .aload_n 0, 1, 0, 0, 0)) := rfl
theorem p20_35 : vm_P 20 35 = some (vm_m20, (35, .getfield 27, 3, 0, 2, 0)) := rfl
theorem p20_38 : vm_P 20 38 = some (vm_m20, (38, .iload_n 3, 1, 0, 0, 0)) := rfl
theorem p20_39 : vm_P 20 39 = some (vm_m20, (39, .iadd, 1, 0, 0, 0)) := rfl
theorem p20_40 : vm_P 20 40 = some (vm_m20, (40, .invokevirtual 90, 3, 0, 80, 701)) := rfl
theorem p20_43 : vm_P 20 43 = some (vm_m20, (43, .invokestatic 93, 3, 1, 31, 3)) := rfl
theorem p20_46 : vm_P 20 46 = some (vm_m20, (46, .istore_n 2, 1, 0, 0, 0)) := rfl
theorem p20_47 : vm_P 20 47 = some (vm_m20, (47, .iinc 3 1, 3, 0, 0, 0)) := rfl
theorem p20_50 : vm_P 20 50 = some (vm_m20, (50, .goto (-41), 3, 0, 0, 0)) := rfl
theorem p20_53 : vm_P 20 53 = some (vm_m20, (53, .bipush (-4), 2, 0, 0, 0)) := rfl
theorem p20_55 : vm_P 20 55 = some (vm_m20, (55, .ireturn, 1, 0, 0, 0)) := rfl
theorem p21_0 : vm_P 21 0 = some (vm_m21, (0, .aload_n 0, 1, 0, 0, 0)) := rfl
theorem p21_1 : vm_P 21 1 = some (vm_m21, (1, .invokevirtual 60, 3, 0, 4, 0)) := rfl
theorem p21_4 : vm_P 21 4 = some (vm_m21, (4, .istore_n 2, 1, 0, 0, 0)) := rfl
theorem p21_5 : vm_P 21 5 = some (vm_m21, (5, .iload_n 2, 1, 0, 0, 0)) := rfl
theorem p21_6 : vm_P 21 6 = some (vm_m21, (6, .iconst 1, 1, 0, 0, 0)) := rfl
theorem p21_7 : vm_P 21 7 = some (vm_m21, (7, .if_icmp .ge 4, 3, 0, 0, 0)) := rfl
theorem p21_10 : vm_P 21 10 = some (vm_m21, (10, .return_, 1, 0, 0, 0)) := rfl
theorem p21_11 : vm_P 21 11 = some (vm_m21, (11, .iload_n 1, 1, 0, 0, 0)) := rfl
theorem p21_12 : vm_P 21 12 = some (vm_m21, (12, .bipush 8, 2, 0, 0, 0)) := rfl
theorem p21_14 : vm_P 21 14 = some (vm_m21, (14, .irem, 1, 0, 0, 0)) := rfl
theorem p21_15 : vm_P 21 15 = some (vm_m21, (15, .istore_n 3, 1, 0, 0, 0)) := rfl
theorem p21_16 : vm_P 21 16 = some (vm_m21, (16, .iload_n 1, 1, 0, 0, 0)) := rfl
theorem p21_17 : vm_P 21 17 = some (vm_m21, (17, .bipush 8, 2, 0, 0, 0)) := rfl
theorem p21_19 : vm_P 21 19 = some (vm_m21, (19, .idiv, 1, 0, 0, 0)) := rfl
theorem p21_20 : vm_P 21 20 = some (vm_m21, (20, .iload_n 2, 1, 0, 0, 0)) := rfl
theorem p21_21 : vm_P 21 21 = some (vm_m21, (21, .irem, 1, 0, 0, 0)) := rfl
theorem p21_22 : vm_P 21 22 = some (vm_m21, (22, .istore 4, 2, 0, 0, 0)) := rfl
theorem p21_24 : vm_P 21 24 = some (vm_m21, (24, .iload_n 1, 1, 0, 0, 0)) := rfl
theorem p21_25 : vm_P 21 25 = some (vm_m21, (25, .bipush 64, 2, 0, 0, 0)) := rfl
theorem p21_27 : vm_P 21 27 = some (vm_m21, (27, .idiv, 1, 0, 0, 0)) := rfl
theorem p21_28 : vm_P 21 28 = some (vm_m21, (28, .iconst 4, 1, 0, 0, 0)) := rfl
theorem p21_29 : vm_P 21 29 = some (vm_m21, (29, .irem, 1, 0, 0, 0)) := rfl
theorem p21_30 : vm_P 21 30 = some (vm_m21, (30, .istore 5, 2, 0, 0, 0)) := rfl
theorem p21_32 : vm_P 21 32 = some (vm_m21, (32, .iload_n 1, 1, 0, 0, 0)) := rfl
theorem p21_33 : vm_P 21 33 = some (vm_m21, (33, .bipush 64, 2, 0, 0, 0)) := rfl
theorem p21_35 : vm_P 21 35 = some (vm_m21, (35, .idiv, 1, 0, 0, 0)) := rfl
theorem p21_36 : vm_P 21 36 = some (vm_m21, (36, .iload_n 2, 1, 0, 0, 0)) := rfl
theorem p21_37 : vm_P 21 37 = some (vm_m21, (37, .irem, 1, 0, 0, 0)) := rfl
theorem p21_38 : vm_P 21 38 = some (vm_m21, (38, .istore 6, 2, 0, 0, 0)) := rfl
theorem p21_40 : vm_P 21 40 = some (vm_m21, (40, .iload_n 3, 1, 0, 0, 0)) := rfl
theorem p21_41 : vm_P 21 41 = some (vm_m21, (41, .bipush 6, 2, 0, 0, 0)) := rfl
theorem p21_43 : vm_P 21 43 = some (vm_m21, (43, .if_icmp .lt 10, 3, 0, 0, 0)) := rfl
theorem p21_46 : vm_P 21 46 = some (vm_m21, (46, .aload_n 0, 1, 0, 0, 0)) := rfl
theorem p21_47 : vm_P 21 47 = some (vm_m21, (47, .invokevirtual 102, 3, 0, 14, 0)) := rfl
theorem p21_50 : vm_P 21 50 = some (vm_m21, (50, .goto 54, 3, 0, 0, 0)) := rfl
theorem p21_53 : vm_P 21 53 = some (vm_m21, (53, .iload_n 3, 1, 0, 0, 0)) := rfl
theorem p21_54 : vm_P 21 54 = some (vm_m21, (54, .iconst 5, 1, 0, 0, 0)) := rfl
theorem p21_55 : vm_P 21 55 = some (vm_m21, (55, .if_icmp .ne 25, 3, 0, 0, 0)) := rfl
theorem p21_58 : vm_P 21 58 = some (vm_m21, (58, .aload_n 0, 1, 0, 0, 0)) := rfl
theorem p21_59 : vm_P 21 59 = some (vm_m21, (59, .iload 4, 2, 0, 0, 0)) := rfl
theorem p21_61 : vm_P 21 61 = some (vm_m21, (61, .iload 6, 2, 0, 0, 0)) := rfl
theorem p21_63 : vm_P 21 63 = some (vm_m21, (63, .invokevirtual 105, 3, 0, 15, 2)) := rfl
theorem p21_66 : vm_P 21 66 = some (vm_m21, (66, .ifCond .eq 14, 3, 0, 0, 0)) := rfl
theorem p21_69 : vm_P 21 69 = some (vm_m21, (69, .aload_n 0, 1, 0, 0, 0)) := rfl
theorem p21_70 : vm_P 21 70 = some (vm_m21, (70, .iload 4, 2, 0, 0, 0)) := rfl
theorem p21_72 : vm_P 21 72 = some (vm_m21, (72, .iload 6, 2, 0, 0, 0)) := rfl
theorem p21_74 : vm_P 21 74 = some (vm_m21, (74, .invokevirtual 109, 3, 0, 16, 2)) := rfl
theorem p21_77 : vm_P 21 77 = some (vm_m21, (77, .goto 27, 3, 0, 0, 0)) := rfl
theorem p21_80 : vm_P 21 80 = some (vm_m21, (80, .iload_n 3, 1, 0, 0, 0)) := rfl
theorem p21_81 : vm_P 21 81 = some (vm_m21, (81, .iconst 4, 1, 0, 0, 0)) := rfl
theorem p21_82 : vm_P 21 82 = some (vm_m21, (82, .if_icmp .gt 22, 3, 0, 0, 0)) := rfl
theorem p21_85 : vm_P 21 85 = some (vm_m21, (85, .aload_n 0, 1, 0, 0, 0)) := rfl
theorem p21_86 : vm_P 21 86 = some (vm_m21, (86, .iload 4, 2, 0, 0, 0)) := rfl
theorem p21_88 : vm_P 21 88 = some (vm_m21, (88, .iload 5, 2, 0, 0, 0)) := rfl
theorem p21_90 : vm_P 21 90 = some (vm_m21, (90, .invokevirtual 112, 3, 0, 11, 2)) := rfl
theorem p21_93 : vm_P 21 93 = some (vm_m21, (93, .ifCond .eq 11, 3, 0, 0, 0)) := rfl
theorem p21_96 : vm_P 21 96 = some (vm_m21, (96, .aload_n 0, 1, 0, 0, 0)) := rfl
theorem p21_97 : vm_P 21 97 = some (vm_m21, (97, .iload 4, 2, 0, 0, 0)) := rfl
theorem p21_99 : vm_P 21 99 = some (vm_m21, (99, .iload 5, 2, 0, 0, 0)) := rfl
theorem p21_101 : vm_P 21 101 = some (vm_m21, (101, .invokevirtual 115, 3, 0, 12, 2)) := rfl
theorem p21_104 : vm_P 21 104 = some (vm_m21, (104, .return_, 1, 0, 0, 0)) := rfl
theorem p22_0 : vm_P 22 0 = some (vm_m22, (0, .iconst 0, 1, 0, 0, 0)) := rfl
theorem p22_1 : vm_P 22 1 = some (vm_m22, (1, .istore_n 1, 1, 0, 0, 0)) := rfl
theorem p22_2 : vm_P 22 2 = some (vm_m22, (2, .iconst 0, 1, 0, 0, 0)) := rfl
theorem p22_3 : vm_P 22 3 = some (vm_m22, (3, .istore_n 2, 1, 0, 0, 0)) := rfl
theorem p22_4 : vm_P 22 4 = some (vm_m22, (4, .iload_n 2, 1, 0, 0, 0)) := rfl
theorem p22_5 : vm_P 22 5 = some (vm_m22, (5, .aload_n 0, 1, 0, 0, 0)) := rfl
theorem p22_6 : vm_P 22 6 = some (vm_m22, (6, .invokevirtual 60, 3, 0, 4, 0)) := rfl
theorem p22_9 : vm_P 22 9 = some (vm_m22, (9, .if_icmp .ge 20, 3, 0, 0, 0)) := rfl
theorem p22_12 : vm_P 22 12 = some (vm_m22, (12, .aload_n 0, 1, 0, 0, 0)) := rfl
theorem p22_13 : vm_P 22 13 = some (vm_m22, (13, .iload_n 2, 1, 0, 0, 0)) := rfl
theorem p22_14 : vm_P 22 14 = some (vm_m22, (14, .invokevirtual 73, 3, 0, 10, 1)) := rfl
theorem p22_17 : vm_P 22 17 = some (vm_m22, (17, .ifCond .eq 6, 3, 0, 0, 0)) := rfl
theorem p22_20 : vm_P 22 20 = some (vm_m22, (20, .iinc 1 1, 3, 0, 0, 0)) := rfl
theorem p22_23 : vm_P 22 23 = some (vm_m22, (23, .iinc 2 1, 3, 0, 0, 0)) := rfl
theorem p22_26 : vm_P 22 26 = some (vm_m22, (26, .goto (-22), 3, 0, 0, 0)) := rfl
theorem p22_29 : vm_P 22 29 = some (vm_m22, (29, .iload_n 1, 1, 0, 0, 0)) := rfl
theorem p22_30 : vm_P 22 30 = some (vm_m22, (30, .ireturn, 1, 0, 0, 0)) := rfl
theorem p23_0 : vm_P 23 0 = some (vm_m23, (0, .iconst 0, 1, 0, 0, 0)) := rfl
theorem p23_1 : vm_P 23 1 = some (vm_m23, (1, .istore_n 1, 1, 0, 0, 0)) := rfl
theorem p23_2 : vm_P 23 2 = some (vm_m23, (2, .iconst 0, 1, 0, 0, 0)) := rfl
theorem p23_3 : vm_P 23 3 = some (vm_m23, (3, .istore_n 2, 1, 0, 0, 0)) := rfl
theorem p23_4 : vm_P 23 4 = some (vm_m23, (4, .iload_n 2, 1, 0, 0, 0)) := rfl
theorem p23_5 : vm_P 23 5 = some (vm_m23, (5, .aload_n 0, 1, 0, 0, 0)) := rfl
theorem p23_6 : vm_P 23 6 = some (vm_m23, (6, .invokevirtual 60, 3, 0, 4, 0)) := rfl
theorem p23_9 : vm_P 23 9 = some (vm_m23, (9, .if_icmp .ge 33, 3, 0, 0, 0)) := rfl
theorem p23_12 : vm_P 23 12 = some (vm_m23, (12, .iconst 0, 1, 0, 0, 0)) := rfl
theorem p23_13 : vm_P 23 13 = some (vm_m23, (13, .istore_n 3, 1, 0, 0, 0)) := rfl
theorem p23_14 : vm_P 23 14 = some (vm_m23, (14, .iload_n 3, 1, 0, 0, 0)) := rfl
theorem p23_15 : vm_P 23 15 = some (vm_m23, (15, .iconst 4, 1, 0, 0, 0)) := rfl
theorem p23_16 : vm_P 23 16 = some (vm_m23, (16, .if_icmp .ge 20, 3, 0, 0, 0)) := rfl
theorem p23_19 : vm_P 23 19 = some (vm_m23, (19, .iload_n 1, 1, 0, 0, 0)) := rfl
theorem p23_20 : vm_P 23 20 = some (vm_m23, (20, .aload_n 0, 1, 0, 0, 0)) := rfl
theorem p23_21 : vm_P 23 21 = some (vm_m23, (21, .iload_n 2, 1, 0, 0, 0)) := rfl
theorem p23_22 : vm_P 23 22 = some (vm_m23, (22, .iconst 2, 1, 0, 0, 0)) := rfl
theorem p23_23 : vm_P 23 23 = some (vm_m23, (23, .iload_n 3, 1, 0, 0, 0)) := rfl
theorem p23_24 : vm_P 23 24 = some (vm_m23, (24, .iadd, 1, 0, 0, 0)) := rfl
theorem p23_25 : vm_P 23 25 = some (vm_m23, (25, .invokevirtual 67, 3, 0, 7, 2)) := rfl
theorem p23_28 : vm_P 23 28 = some (vm_m23, (28, .iadd, 1, 0, 0, 0)) := rfl
theorem p23_29 : vm_P 23 29 = some (vm_m23, (29, .istore_n 1, 1, 0, 0, 0)) := rfl
theorem p23_30 : vm_P 23 30 = some (vm_m23, (30, .iinc 3 1, 3, 0, 0, 0)) := rfl
theorem p23_33 : vm_P 23 33 = some (vm_m23, (33, .goto (-19), 3, 0, 0, 0)) := rfl
theorem p23_36 : vm_P 23 36 = some (vm_m23, (36, .iinc 2 1, 3, 0, 0, 0)) := rfl
theorem p23_39 : vm_P 23 39 = some (vm_m23, (39, .goto (-35), 3, 0, 0, 0)) := rfl
theorem p23_42 : vm_P 23 42 = some (vm_m23, (42, .iload_n 1, 1, 0, 0, 0)) := rfl
theorem p23_43 : vm_P 23 43 = some (vm_m23, (43, .ireturn, 1, 0, 0, 0)) := rfl
theorem p24_0 : vm_P 24 0 = some (vm_m24, (0, .iconst 0, 1, 0, 0, 0)) := rfl
theorem p24_1 : vm_P 24 1 = some (vm_m24, (1, .istore_n 1, 1, 0, 0, 0)) := rfl
theorem p24_2 : vm_P 24 2 = some (vm_m24, (2, .iconst 0, 1, 0, 0, 0)) := rfl
theorem p24_3 : vm_P 24 3 = some (vm_m24, (3, .istore_n 2, 1, 0, 0, 0)) := rfl
theorem p24_4 : vm_P 24 4 = some (vm_m24, (4, .iload_n 2, 1, 0, 0, 0)) := rfl
theorem p24_5 : vm_P 24 5 = some (vm_m24, (5, .aload_n 0, 1, 0, 0, 0)) := rfl
theorem p24_6 : vm_P 24 6 = some (vm_m24, (6, .invokevirtual 60, 3, 0, 4, 0)) := rfl
theorem p24_9 : vm_P 24 9 = some (vm_m24, (9, .if_icmp .ge 19, 3, 0, 0, 0)) := rfl
theorem p24_12 : vm_P 24 12 = some (vm_m24, (12, .iload_n 1, 1, 0, 0, 0)) := rfl
theorem p24_13 : vm_P 24 13 = some (vm_m24, (13, .aload_n 0, 1, 0, 0, 0)) := rfl
theorem p24_14 : vm_P 24 14 = some (vm_m24, (14, .iload_n 2, 1, 0, 0, 0)) := rfl
theorem p24_15 : vm_P 24 15 = some (vm_m24, (15, .bipush 7, 2, 0, 0, 0)) := rfl
theorem p24_17 : vm_P 24 17 = some (vm_m24, (17, .invokevirtual 67, 3, 0, 7, 2)) := rfl
theorem p24_20 : vm_P 24 20 = some (vm_m24, (20, .iadd, 1, 0, 0, 0)) := rfl
theorem p24_21 : vm_P 24 21 = some (vm_m24, (21, .istore_n 1, 1, 0, 0, 0)) := rfl
theorem p24_22 : vm_P 24 22 = some (vm_m24, (22, .iinc 2 1, 3, 0, 0, 0)) := rfl
theorem p24_25 : vm_P 24 25 = some (vm_m24, (25, .goto (-21), 3, 0, 0, 0)) := rfl
theorem p24_28 : vm_P 24 28 = some (vm_m24, (28, .iload_n 1, 1, 0, 0, 0)) := rfl
theorem p24_29 : vm_P 24 29 = some (vm_m24, (29, .ireturn, 1, 0, 0, 0)) := rfl
theorem p25_0 : vm_P 25 0 = some (vm_m25, (0, .aload_n 0, 1, 0, 0, 0)) := rfl
theorem p25_1 : vm_P 25 1 = some (vm_m25, (1, .invokespecial 3, 3, 5, 0, 0)) := rfl
theorem p25_4 : vm_P 25 4 = some (vm_m25, (4, .aload_n 0, 1, 0, 0, 0)) := rfl
theorem p25_5 : vm_P 25 5 = some (vm_m25, (5, .new 9, 3, 5, 0, 0)) := rfl
theorem p25_8 : vm_P 25 8 = some (vm_m25, (8, .dup, 1, 0, 0, 0)) := rfl
theorem p25_9 : vm_P 25 9 = some (vm_m25, (9, .bipush 21, 2, 0, 0, 0)) := rfl
theorem p25_11 : vm_P 25 11 = some (vm_m25, (11, .invokespecial 11, 3, 2, 54, 1)) := rfl
theorem p25_14 : vm_P 25 14 = some (vm_m25, (14, .putfield 14, 3, 1, 1, 0)) := rfl
theorem p25_17 : vm_P 25 17 = some (vm_m25, (17, .aload_n 0, 1, 0, 0, 0)) := rfl
theorem p25_18 : vm_P 25 18 = some (vm_m25, (18, .new 9, 3, 5, 0, 0)) := rfl
theorem p25_21 : vm_P 25 21 = some (vm_m25, (21, .dup, 1, 0, 0, 0)) := rfl
theorem p25_22 : vm_P 25 22 = some (vm_m25, (22, .bipush 21, 2, 0, 0, 0)) := rfl
theorem p25_24 : vm_P 25 24 = some (vm_m25, (24, .invokespecial 11, 3, 2, 54, 1)) := rfl
theorem p25_27 : vm_P 25 27 = some (vm_m25, (27, .putfield 20, 3, 1, 2, 0)) := rfl
theorem p25_30 : vm_P 25 30 = some (vm_m25, (30, .aload_n 0, 1, 0, 0, 0)) := rfl
theorem p25_31 : vm_P 25 31 = some (vm_m25, (31, .aload_n 1, 1, 0, 0, 0)) := rfl
theorem p25_32 : vm_P 25 32 = some (vm_m25, (32, .putfield 23, 3, 1, 0, 0)) := rfl
theorem p25_35 : vm_P 25 35 = some (vm_m25, (35, .return_, 1, 0, 0, 0)) := rfl
theorem p26_0 : vm_P 26 0 = some (vm_m26, (0, .aload_n 0, 1, 0, 0, 0)) := rfl
theorem p26_1 : vm_P 26 1 = some (vm_m26, (1, .getfield 14, 3, 1, 1, 0)) := rfl
theorem p26_4 : vm_P 26 4 = some (vm_m26, (4, .iconst 0, 1, 0, 0, 0)) := rfl
theorem p26_5 : vm_P 26 5 = some (vm_m26, (5, .invokevirtual 27, 3, 0, 61, 501)) := rfl
theorem p26_8 : vm_P 26 8 = some (vm_m26, (8, .aload_n 0, 1, 0, 0, 0)) := rfl
theorem p26_9 : vm_P 26 9 = some (vm_m26, (9, .getfield 14, 3, 1, 1, 0)) := rfl
theorem p26_12 : vm_P 26 12 = some (vm_m26, (12, .aload_n 1, 1, 0, 0, 0)) := rfl
theorem p26_13 : vm_P 26 13 = some (vm_m26, (13, .iload_n 2, 1, 0, 0, 0)) := rfl
theorem p26_14 : vm_P 26 14 = some (vm_m26, (14, .iconst 0, 1, 0, 0, 0)) := rfl
theorem p26_15 : vm_P 26 15 = some (vm_m26, (15, .invokevirtual 32, 3, 0, 7, 2)) := rfl
theorem p26_18 : vm_P 26 18 = some (vm_m26, (18, .iconst 1, 1, 0, 0, 0)) := rfl
theorem p26_19 : vm_P 26 19 = some (vm_m26, (19, .invokevirtual 36, 3, 0, 60, 502)) := rfl
theorem p26_22 : vm_P 26 22 = some (vm_m26, (22, .iconst 1, 1, 0, 0, 0)) := rfl
theorem p26_23 : vm_P 26 23 = some (vm_m26, (23, .istore 6, 2, 0, 0, 0)) := rfl
theorem p26_25 : vm_P 26 25 = some (vm_m26, (25, .iconst 0, 1, 0, 0, 0)) := rfl
theorem p26_26 : vm_P 26 26 = some (vm_m26, (26, .istore 7, 2, 0, 0, 0)) := rfl
theorem p26_28 : vm_P 26 28 = some (vm_m26, (28, .iload 7, 2, 0, 0, 0)) := rfl
theorem p26_30 : vm_P 26 30 = some (vm_m26, (30, .iload_n 3, 1, 0, 0, 0)) := rfl
theorem p26_31 : vm_P 26 31 = some (vm_m26, (31, .if_icmp .ge 43, 3, 0, 0, 0)) := rfl
theorem p26_34 : vm_P 26 34 = some (vm_m26, (34, .aload_n 0, 1, 0, 0, 0)) := rfl
theorem p26_35 : vm_P 26 35 = some (vm_m26, (35, .aload_n 1, 1, 0, 0, 0)) := rfl
theorem p26_36 : vm_P 26 36 = some (vm_m26, (36, .iload_n 2, 1, 0, 0, 0)) := rfl
theorem p26_37 : vm_P 26 37 = some (vm_m26, (37, .bipush 6, 2, 0, 0, 0)) := rfl
theorem p26_39 : vm_P 26 39 = some (vm_m26, (39, .invokevirtual 32, 3, 0, 7, 2)) := rfl
theorem p26_42 : vm_P 26 42 = some (vm_m26, (42, .aload_n 0, 1, 0, 0, 0)) := rfl
theorem p26_43 : vm_P 26 43 = some (vm_m26, (43, .getfield 23, 3, 1, 0, 0)) := rfl
theorem p26_46 : vm_P 26 46 = some (vm_m26, (46, .aload_n 1, 1, 0, 0, 0)) := rfl
theorem p26_47 : vm_P 26 47 = some (vm_m26, (47, .invokevirtual 40, 3, 0, 5, 0)) := rfl
theorem p26_50 : vm_P 26 50 = some (vm_m26, (50, .iload 7, 2, 0, 0, 0)) := rfl
theorem p26_52 : vm_P 26 52 = some (vm_m26, (52, .iadd, 1, 0, 0, 0)) := rfl
theorem p26_53 : vm_P 26 53 = some (vm_m26, (53, .invokevirtual 44, 3, 0, 80, 701)) := rfl
theorem p26_56 : vm_P 26 56 = some (vm_m26, (56, .iload 4, 2, 0, 0, 0)) := rfl
theorem p26_58 : vm_P 26 58 = some (vm_m26, (58, .invokevirtual 50, 3, 0, 27, 103)) := rfl
theorem p26_61 : vm_P 26 61 = some (vm_m26, (61, .iload 6, 2, 0, 0, 0)) := rfl
theorem p26_63 : vm_P 26 63 = some (vm_m26, (63, .bipush 10, 2, 0, 0, 0)) := rfl
theorem p26_65 : vm_P 26 65 = some (vm_m26, (65, .imul, 1, 0, 0, 0)) := rfl
theorem p26_66 : vm_P 26 66 = some (vm_m26, (66, .istore 6, 2, 0, 0, 0)) := rfl
theorem p26_68 : vm_P 26 68 = some (vm_m26, (68, .iinc 7 1, 3, 0, 0, 0)) := rfl
theorem p26_71 : vm_P 26 71 = some (vm_m26, (71, .goto (-43), 3, 0, 0, 0)) := rfl
theorem p26_74 : vm_P 26 74 = some (vm_m26, (74, .iconst 0, 1, 0, 0, 0)) := rfl
theorem p26_75 : vm_P 26 75 = some (vm_m26, (75, .istore 7, 2, 0, 0, 0)) := rfl
theorem p26_77 : vm_P 26 77 = some (vm_m26, (77, .iconst 1, 1, 0, 0, 0)) := rfl
theorem p26_78 : vm_P 26 78 = some (vm_m26, (78, .istore 8, 2, 0, 0, 0)) := rfl
theorem p26_80 : vm_P 26 80 = some (vm_m26, (80, .iload 8, 2, 0, 0, 0)) := rfl
theorem p26_82 : vm_P 26 82 = some (vm_m26, (82, .bipush 20, 2, 0, 0, 0)) := rfl
theorem p26_84 : vm_P 26 84 = some (vm_m26, (84, .if_icmp .gt 23, 3, 0, 0, 0)) := rfl
theorem p26_87 : vm_P 26 87 = some (vm_m26, (87, .iload 7, 2, 0, 0, 0)) := rfl
theorem p26_89 : vm_P 26 89 = some (vm_m26, (89, .aload_n 0, 1, 0, 0, 0)) := rfl
theorem p26_90 : vm_P 26 90 = some (vm_m26, (90, .getfield 14, 3, 1, 1, 0)) := rfl
theorem p26_93 : vm_P 26 93 = some (vm_m26, (93, .iload 8, 2, 0, 0, 0)) := rfl
theorem p26_95 : vm_P 26 95 = some (vm_m26, (95, .invokevirtual 54, 3, 0, 59, 501)) := rfl
theorem p26_98 : vm_P 26 98 = some (vm_m26, (98, .iadd, 1, 0, 0, 0)) := rfl
theorem p26_99 : vm_P 26 99 = some (vm_m26, (99, .istore 7, 2, 0, 0, 0)) := rfl
theorem p26_101 : vm_P 26 101 = some (vm_m26, (101, .iinc 8 1, 3, 0, 0, 0)) := rfl
theorem p26_104 : vm_P 26 104 = some (vm_m26, (104, .goto (-24), 3, 0, 0, 0)) := rfl
theorem p26_107 : vm_P 26 107 = some (vm_m26, (107, .iload 6, 2, 0, 0, 0)) := rfl
theorem p26_109 : vm_P 26 109 = some (vm_m26, (109, .iload 7, 2, 0, 0, 0)) := rfl
theorem p26_111 : vm_P 26 111 = some (vm_m26, (111, .invokestatic 56, 3, 1, 29, 2)) := rfl
theorem p26_114 : vm_P 26 114 = some (vm_m26, (114, .istore 8, 2, 0, 0, 0)) := rfl
theorem p26_116 : vm_P 26 116 = some (vm_m26, (116, .iload 8, 2, 0, 0, 0)) := rfl
theorem p26_118 : vm_P 26 118 = some (vm_m26, (118, .iconst 1, 1, 0, 0, 0)) := rfl
theorem p26_119 : vm_P 26 119 = some (vm_m26, (119, .if_icmp .ge 5, 3, 0, 0, 0)) := rfl
theorem p26_122 : vm_P 26 122 = some (vm_m26, (122, .iconst (-1), 1, 0, 0, 0)) := rfl
theorem p26_123 : vm_P 26 123 = some (vm_m26, (123, .ireturn, 1, 0, 0, 0)) := rfl
theorem p26_124 : vm_P 26 124 = some (vm_m26, (124, .iload 5, 2, 0, 0, 0)) := rfl
theorem p26_126 : vm_P 26 126 = some (vm_m26, (126, .ifCond .ne 11, 3, 0, 0, 0)) := rfl
theorem p26_129 : vm_P 26 129 = some (vm_m26, (129, .iload 7, 2, 0, 0, 0)) := rfl
theorem p26_131 : vm_P 26 131 = some (vm_m26, (131, .iload 8, 2, 0, 0, 0)) := rfl
theorem p26_133 : vm_P 26 133 = some (vm_m26, (133, .idiv, 1, 0, 0, 0)) := rfl
theorem p26_134 : vm_P 26 134 = some (vm_m26, (134, .goto 8, 3, 0, 0, 0)) := rfl
theorem p26_137 : vm_P 26 137 = some (vm_m26, (137, .iload 6, 2, 0, 0, 0)) := rfl
theorem p26_139 : vm_P 26 139 = some (vm_m26, (139, .iload 8, 2, 0, 0, 0)) := rfl
theorem p26_141 : vm_P 26 141 = some (vm_m26, (141, .idiv, 1, 0, 0, 0)) := rfl
theorem p26_142 : vm_P 26 142 = some (vm_m26, (142, .ireturn, 1, 0, 0, 0)) := rfl
theorem p27_0 : vm_P 27 0 = some (vm_m27, (0, .aload_n 0, 1, 0, 0, 0)) := rfl
theorem p27_1 : vm_P 27 1 = some (vm_m27, (1, .getfield 20, 3, 1, 2, 0)) := rfl
theorem p27_4 : vm_P 27 4 = some (vm_m27, (4, .iconst 0, 1, 0, 0, 0)) := rfl
theorem p27_5 : vm_P 27 5 = some (vm_m27, (5, .invokevirtual 27, 3, 0, 61, 501)) := rfl
theorem p27_8 : vm_P 27 8 = some (vm_m27, (8, .iconst 1, 1, 0, 0, 0)) := rfl
theorem p27_9 : vm_P 27 9 = some (vm_m27, (9, .istore 4, 2, 0, 0, 0)) := rfl
theorem p27_11 : vm_P 27 11 = some (vm_m27, (11, .iload 4, 2, 0, 0, 0)) := rfl
theorem p27_13 : vm_P 27 13 = some (vm_m27, (13, .bipush 20, 2, 0, 0, 0)) := rfl
theorem p27_15 : vm_P 27 15 = some (vm_m27, (15, .if_icmp .gt 58, 3, 0, 0, 0)) := rfl
theorem p27_18 : vm_P 27 18 = some (vm_m27, (18, .aload_n 0, 1, 0, 0, 0)) := rfl
theorem p27_19 : vm_P 27 19 = some (vm_m27, (19, .iload 4, 2, 0, 0, 0)) := rfl
theorem p27_21 : vm_P 27 21 = some (vm_m27, (21, .iload_n 1, 1, 0, 0, 0)) := rfl
theorem p27_22 : vm_P 27 22 = some (vm_m27, (22, .iload_n 2, 1, 0, 0, 0)) := rfl
theorem p27_23 : vm_P 27 23 = some (vm_m27, (23, .invokestatic 59, 3, 1, 31, 3)) := rfl
theorem p27_26 : vm_P 27 26 = some (vm_m27, (26, .aload_n 0, 1, 0, 0, 0)) := rfl
theorem p27_27 : vm_P 27 27 = some (vm_m27, (27, .getfield 14, 3, 1, 1, 0)) := rfl
theorem p27_30 : vm_P 27 30 = some (vm_m27, (30, .iload 4, 2, 0, 0, 0)) := rfl
theorem p27_32 : vm_P 27 32 = some (vm_m27, (32, .invokevirtual 54, 3, 0, 59, 501)) := rfl
theorem p27_35 : vm_P 27 35 = some (vm_m27, (35, .bipush 10, 2, 0, 0, 0)) := rfl
theorem p27_37 : vm_P 27 37 = some (vm_m27, (37, .iload_n 3, 1, 0, 0, 0)) := rfl
theorem p27_38 : vm_P 27 38 = some (vm_m27, (38, .isub, 1, 0, 0, 0)) := rfl
theorem p27_39 : vm_P 27 39 = some (vm_m27, (39, .imul, 1, 0, 0, 0)) := rfl
theorem p27_40 : vm_P 27 40 = some (vm_m27, (40, .invokevirtual 65, 3, 0, 28, 102)) := rfl
theorem p27_43 : vm_P 27 43 = some (vm_m27, (43, .aload_n 0, 1, 0, 0, 0)) := rfl
theorem p27_44 : vm_P 27 44 = some (vm_m27, (44, .iload 4, 2, 0, 0, 0)) := rfl
theorem p27_46 : vm_P 27 46 = some (vm_m27, (46, .iload_n 1, 1, 0, 0, 0)) := rfl
theorem p27_47 : vm_P 27 47 = some (vm_m27, (47, .iload_n 2, 1, 0, 0, 0)) := rfl
theorem p27_48 : vm_P 27 48 = some (vm_m27, (48, .iconst 2, 1, 0, 0, 0)) := rfl
theorem p27_49 : vm_P 27 49 = some (vm_m27, (49, .iadd, 1, 0, 0, 0)) := rfl
theorem p27_50 : vm_P 27 50 = some (vm_m27, (50, .invokestatic 59, 3, 1, 31, 3)) := rfl
theorem p27_53 : vm_P 27 53 = some (vm_m27, (53, .aload_n 0, 1, 0, 0, 0)) := rfl
theorem p27_54 : vm_P 27 54 = some (vm_m27, (54, .getfield 14, 3, 1, 1, 0)) := rfl
theorem p27_57 : vm_P 27 57 = some (vm_m27, (57, .iload 4, 2, 0, 0, 0)) := rfl
theorem p27_59 : vm_P 27 59 = some (vm_m27, (59, .invokevirtual 54, 3, 0, 59, 501)) := rfl
theorem p27_62 : vm_P 27 62 = some (vm_m27, (62, .iload_n 3, 1, 0, 0, 0)) := rfl
theorem p27_63 : vm_P 27 63 = some (vm_m27, (63, .imul, 1, 0, 0, 0)) := rfl
theorem p27_64 : vm_P 27 64 = some (vm_m27, (64, .invokevirtual 65, 3, 0, 28, 102)) := rfl
theorem p27_67 : vm_P 27 67 = some (vm_m27, (67, .iinc 4 1, 3, 0, 0, 0)) := rfl
theorem p27_70 : vm_P 27 70 = some (vm_m27, (70, .goto (-59), 3, 0, 0, 0)) := rfl
theorem p27_73 : vm_P 27 73 = some (vm_m27, (73, .aload_n 0, 1, 0, 0, 0)) := rfl
theorem p27_74 : vm_P 27 74 = some (vm_m27, (74, .getfield 14, 3, 1, 1, 0)) := rfl
theorem p27_77 : vm_P 27 77 = some (vm_m27, (77, .aload_n 0, 1, 0, 0, 0)) := rfl
theorem p27_78 : vm_P 27 78 = some (vm_m27, (78, .getfield 20, 3, 1, 2, 0)) := rfl
theorem p27_81 : vm_P 27 81 = some (vm_m27, (81, .invokevirtual 68, 3, 0, 62, 501)) := rfl
theorem p27_84 : vm_P 27 84 = some (vm_m27, (84, .return_, 1, 0, 0, 0)) := rfl
theorem p28_0 : vm_P 28 0 = some (vm_m28, (0, .aload_n 0, 1, 0, 0, 0)) := rfl
theorem p28_1 : vm_P 28 1 = some (vm_m28, (1, .getfield 20, 3, 1, 2, 0)) := rfl
theorem p28_4 : vm_P 28 4 = some (vm_m28, (4, .iload_n 1, 1, 0, 0, 0)) := rfl
theorem p28_5 : vm_P 28 5 = some (vm_m28, (5, .aload_n 0, 1, 0, 0, 0)) := rfl
theorem p28_6 : vm_P 28 6 = some (vm_m28, (6, .getfield 20, 3, 1, 2, 0)) := rfl
theorem p28_9 : vm_P 28 9 = some (vm_m28, (9, .iload_n 1, 1, 0, 0, 0)) := rfl
theorem p28_10 : vm_P 28 10 = some (vm_m28, (10, .invokevirtual 54, 3, 0, 59, 501)) := rfl
theorem p28_13 : vm_P 28 13 = some (vm_m28, (13, .iload_n 2, 1, 0, 0, 0)) := rfl
theorem p28_14 : vm_P 28 14 = some (vm_m28, (14, .iadd, 1, 0, 0, 0)) := rfl
theorem p28_15 : vm_P 28 15 = some (vm_m28, (15, .invokevirtual 36, 3, 0, 60, 502)) := rfl
theorem p28_18 : vm_P 28 18 = some (vm_m28, (18, .return_, 1, 0, 0, 0)) := rfl
theorem p29_0 : vm_P 29 0 = some (vm_m29, (0, .iload_n 0, 1, 0, 0, 0)) := rfl
theorem p29_1 : vm_P 29 1 = some (vm_m29, (1, .istore_n 2, 1, 0, 0, 0)) := rfl
theorem p29_2 : vm_P 29 2 = some (vm_m29, (2, .iload_n 1, 1, 0, 0, 0)) := rfl
theorem p29_3 : vm_P 29 3 = some (vm_m29, (3, .istore_n 3, 1, 0, 0, 0)) := rfl
theorem p29_4 : vm_P 29 4 = some (vm_m29, (4, .iconst 0, 1, 0, 0, 0)) := rfl
theorem p29_5 : vm_P 29 5 = some (vm_m29, (5, .istore 4, 2, 0, 0, 0)) := rfl
theorem p29_7 : vm_P 29 7 = some (vm_m29, (7, .iload 4, 2, 0, 0, 0)) := rfl
theorem p29_9 : vm_P 29 9 = some (vm_m29, (9, .bipush 100, 2, 0, 0, 0)) := rfl
theorem p29_11 : vm_P 29 11 = some (vm_m29, (11, .if_icmp .ge 23, 3, 0, 0, 0)) := rfl
theorem p29_14 : vm_P 29 14 = some (vm_m29, (14, .iload_n 3, 1, 0, 0, 0)) := rfl
theorem p29_15 : vm_P 29 15 = some (vm_m29, (15, .ifCond .le 19, 3, 0, 0, 0)) := rfl
theorem p29_18 : vm_P 29 18 = some (vm_m29, (18, .iload_n 2, 1, 0, 0, 0)) := rfl
theorem p29_19 : vm_P 29 19 = some (vm_m29, (19, .iload_n 3, 1, 0, 0, 0)) := rfl
theorem p29_20 : vm_P 29 20 = some (vm_m29, (20, .irem, 1, 0, 0, 0)) := rfl
theorem p29_21 : vm_P 29 21 = some (vm_m29, (21, .istore 5, 2, 0, 0, 0)) := rfl
theorem p29_23 : vm_P 29 23 = some (vm_m29, (23, .iload_n 3, 1, 0, 0, 0)) := rfl
theorem p29_24 : vm_P 29 24 = some (vm_m29, (24, .istore_n 2, 1, 0, 0, 0)) := rfl
theorem p29_25 : vm_P 29 25 = some (vm_m29, (25, .iload 5, 2, 0, 0, 0)) := rfl
theorem p29_27 : vm_P 29 27 = some (vm_m29, (27, .istore_n 3, 1, 0, 0, 0)) := rfl
theorem p29_28 : vm_P 29 28 = some (vm_m29, (28, .iinc 4 1, 3, 0, 0, 0)) := rfl
theorem p29_31 : vm_P 29 31 = some (vm_m29, (31, .goto (-24), 3, 0, 0, 0)) := rfl
theorem p29_34 : vm_P 29 34 = some (vm_m29, (34, .iload_n 2, 1, 0, 0, 0)) := rfl
theorem p29_35 : vm_P 29 35 = some (vm_m29, (35, .ireturn, 1, 0, 0, 0)) := rfl
theorem p30_0 : vm_P 30 0 = some (vm_m30, (0, .iconst 0, 1, 0, 0, 0)) := rfl
theorem p30_1 : vm_P 30 1 = some (vm_m30, (1, .bipush 20, 2, 0, 0, 0)) := rfl
theorem p30_3 : vm_P 30 3 = some (vm_m30, (3, .iload_n 0, 1, 0, 0, 0)) := rfl
theorem p30_4 : vm_P 30 4 = some (vm_m30, (4, .iload_n 1, 1, 0, 0, 0)) := rfl
theorem p30_5 : vm_P 30 5 = some (vm_m30, (5, .invokestatic 9, 3, 1, 32, 1)) := rfl
theorem p30_8 : vm_P 30 8 = some (vm_m30, (8, .iadd, 1, 0, 0, 0)) := rfl
theorem p30_9 : vm_P 30 9 = some (vm_m30, (9, .invokestatic 15, 3, 1, 203, 2)) := rfl
theorem p30_12 : vm_P 30 12 = some (vm_m30, (12, .invokestatic 21, 3, 1, 202, 2)) := rfl
theorem p30_15 : vm_P 30 15 = some (vm_m30, (15, .ireturn, 1, 0, 0, 0)) := rfl
theorem p31_0 : vm_P 31 0 = some (vm_m31, (0, .iconst 1, 1, 0, 0, 0)) := rfl
theorem p31_1 : vm_P 31 1 = some (vm_m31, (1, .istore_n 3, 1, 0, 0, 0)) := rfl
theorem p31_2 : vm_P 31 2 = some (vm_m31, (2, .iload_n 1, 1, 0, 0, 0)) := rfl
theorem p31_3 : vm_P 31 3 = some (vm_m31, (3, .iconst 3, 1, 0, 0, 0)) := rfl
theorem p31_4 : vm_P 31 4 = some (vm_m31, (4, .if_icmp .eq 7, 3, 0, 0, 0)) := rfl
theorem p31_7 : vm_P 31 7 = some (vm_m31, (7, .iload_n 3, 1, 0, 0, 0)) := rfl
theorem p31_8 : vm_P 31 8 = some (vm_m31, (8, .iload_n 2, 1, 0, 0, 0)) := rfl
theorem p31_9 : vm_P 31 9 = some (vm_m31, (9, .iadd, 1, 0, 0, 0)) := rfl
theorem p31_10 : vm_P 31 10 = some (vm_m31, (10, .istore_n 3, 1, 0, 0, 0)) := rfl
theorem p31_11 : vm_P 31 11 = some (vm_m31, (11, .iload_n 1, 1, 0, 0, 0)) := rfl
theorem p31_12 : vm_P 31 12 = some (vm_m31, (12, .iconst 1, 1, 0, 0, 0)) := rfl
theorem p31_13 : vm_P 31 13 = some (vm_m31, (13, .if_icmp .ne 6, 3, 0, 0, 0)) := rfl
theorem p31_16 : vm_P 31 16 = some (vm_m31, (16, .iinc 3 1, 3, 0, 0, 0)) := rfl
theorem p31_19 : vm_P 31 19 = some (vm_m31, (19, .iconst 0, 1, 0, 0, 0)) := rfl
theorem p31_20 : vm_P 31 20 = some (vm_m31, (20, .iload_n 0, 1, 0, 0, 0)) := rfl
theorem p31_21 : vm_P 31 21 = some (vm_m31, (21, .iload_n 3, 1, 0, 0, 0)) := rfl
theorem p31_22 : vm_P 31 22 = some (vm_m31, (22, .isub, 1, 0, 0, 0)) := rfl
theorem p31_23 : vm_P 31 23 = some (vm_m31, (23, .invokestatic 21, 3, 1, 202, 2)) := rfl
theorem p31_26 : vm_P 31 26 = some (vm_m31, (26, .ireturn, 1, 0, 0, 0)) := rfl
theorem p32_0 : vm_P 32 0 = some (vm_m32, (0, .iload_n 0, 1, 0, 0, 0)) := rfl
theorem p32_1 : vm_P 32 1 = some (vm_m32, (1, .tableswitch 41 0 3 #[31, 33, 36, 39], 31, 0, 0, 0)) := rfl
theorem p32_32 : vm_P 32 32 = some (vm_m32, (32, .iconst 4, 1, 0, 0, 0)) := rfl
theorem p32_33 : vm_P 32 33 = some (vm_m32, (33, .ireturn, 1, 0, 0, 0)) := rfl
theorem p32_34 : vm_P 32 34 = some (vm_m32, (34, .bipush 6, 2, 0, 0, 0)) := rfl
theorem p32_36 : vm_P 32 36 = some (vm_m32, (36, .ireturn, 1, 0, 0, 0)) := rfl
theorem p32_37 : vm_P 32 37 = some (vm_m32, (37, .bipush (-2), 2, 0, 0, 0)) := rfl
theorem p32_39 : vm_P 32 39 = some (vm_m32, (39, .ireturn, 1, 0, 0, 0)) := rfl
theorem p32_40 : vm_P 32 40 = some (vm_m32, (40, .iconst 1, 1, 0, 0, 0)) := rfl
theorem p32_41 : vm_P 32 41 = some (vm_m32, (41, .ireturn, 1, 0, 0, 0)) := rfl
theorem p32_42 : vm_P 32 42 = some (vm_m32, (42, .iconst 0, 1, 0, 0, 0)) := rfl
theorem p32_43 : vm_P 32 43 = some (vm_m32, (43, .ireturn, 1, 0, 0, 0)) := rfl
theorem p33_0 : vm_P 33 0 = some (vm_m33, (0, .aload_n 0, 1, 0, 0, 0)) := rfl
theorem p33_1 : vm_P 33 1 = some (vm_m33, (1, .invokespecial 3, 3, 5, 0, 0)) := rfl
theorem p33_4 : vm_P 33 4 = some (vm_m33, (4, .aload_n 0, 1, 0, 0, 0)) := rfl
theorem p33_5 : vm_P 33 5 = some (vm_m33, (5, .new 9, 3, 5, 0, 0)) := rfl
theorem p33_8 : vm_P 33 8 = some (vm_m33, (8, .dup, 1, 0, 0, 0)) := rfl
theorem p33_9 : vm_P 33 9 = some (vm_m33, (9, .iconst 4, 1, 0, 0, 0)) := rfl
theorem p33_10 : vm_P 33 10 = some (vm_m33, (10, .invokespecial 11, 3, 2, 54, 1)) := rfl
theorem p33_13 : vm_P 33 13 = some (vm_m33, (13, .putfield 14, 3, 2, 1, 0)) := rfl
theorem p33_16 : vm_P 33 16 = some (vm_m33, (16, .aload_n 0, 1, 0, 0, 0)) := rfl
theorem p33_17 : vm_P 33 17 = some (vm_m33, (17, .new 9, 3, 5, 0, 0)) := rfl
theorem p33_20 : vm_P 33 20 = some (vm_m33, (20, .dup, 1, 0, 0, 0)) := rfl
theorem p33_21 : vm_P 33 21 = some (vm_m33, (21, .bipush 6, 2, 0, 0, 0)) := rfl
theorem p33_23 : vm_P 33 23 = some (vm_m33, (23, .invokespecial 11, 3, 2, 54, 1)) := rfl
theorem p33_26 : vm_P 33 26 = some (vm_m33, (26, .putfield 20, 3, 2, 2, 0)) := rfl
theorem p33_29 : vm_P 33 29 = some (vm_m33, (29, .aload_n 0, 1, 0, 0, 0)) := rfl
theorem p33_30 : vm_P 33 30 = some (vm_m33, (30, .aload_n 1, 1, 0, 0, 0)) := rfl
theorem p33_31 : vm_P 33 31 = some (vm_m33, (31, .putfield 23, 3, 2, 0, 0)) := rfl
theorem p33_34 : vm_P 33 34 = some (vm_m33, (34, .return_, 1, 0, 0, 0)) := rfl
theorem p34_0 : vm_P 34 0 = some (vm_m34, (0, .aload_n 0, 1, 0, 0, 0)) := rfl
theorem p34_1 : vm_P 34 1 = some (vm_m34, (1, .aload_n 1, 1, 0, 0, 0)) := rfl
theorem p34_2 : vm_P 34 2 = some (vm_m34, (2, .invokevirtual 27, 3, 0, 5, 0)) := rfl
theorem p34_5 : vm_P 34 5 = some (vm_m34, (5, .putfield 33, 3, 2, 3, 0)) := rfl
theorem p34_8 : vm_P 34 8 = some (vm_m34, (8, .aload_n 0, 1, 0, 0, 0)) := rfl
theorem p34_9 : vm_P 34 9 = some (vm_m34, (9, .bipush 6, 2, 0, 0, 0)) := rfl
theorem p34_11 : vm_P 34 11 = some (vm_m34, (11, .iload_n 3, 1, 0, 0, 0)) := rfl
theorem p34_12 : vm_P 34 12 = some (vm_m34, (12, .invokestatic 37, 3, 1, 203, 2)) := rfl
theorem p34_15 : vm_P 34 15 = some (vm_m34, (15, .putfield 43, 3, 2, 4, 0)) := rfl
theorem p34_18 : vm_P 34 18 = some (vm_m34, (18, .aload_n 0, 1, 0, 0, 0)) := rfl
theorem p34_19 : vm_P 34 19 = some (vm_m34, (19, .getfield 14, 3, 2, 1, 0)) := rfl
theorem p34_22 : vm_P 34 22 = some (vm_m34, (22, .invokevirtual 45, 3, 0, 57, 500)) := rfl
theorem p34_25 : vm_P 34 25 = some (vm_m34, (25, .iconst 0, 1, 0, 0, 0)) := rfl
theorem p34_26 : vm_P 34 26 = some (vm_m34, (26, .istore 4, 2, 0, 0, 0)) := rfl
theorem p34_28 : vm_P 34 28 = some (vm_m34, (28, .iload 4, 2, 0, 0, 0)) := rfl
theorem p34_30 : vm_P 34 30 = some (vm_m34, (30, .iconst 4, 1, 0, 0, 0)) := rfl
theorem p34_31 : vm_P 34 31 = some (vm_m34, (31, .if_icmp .ge 25, 3, 0, 0, 0)) := rfl
theorem p34_34 : vm_P 34 34 = some (vm_m34, (34, .aload_n 0, 1, 0, 0, 0)) := rfl
theorem p34_35 : vm_P 34 35 = some (vm_m34, (35, .getfield 14, 3, 2, 1, 0)) := rfl
theorem p34_38 : vm_P 34 38 = some (vm_m34, (38, .aload_n 1, 1, 0, 0, 0)) := rfl
theorem p34_39 : vm_P 34 39 = some (vm_m34, (39, .iload_n 2, 1, 0, 0, 0)) := rfl
theorem p34_40 : vm_P 34 40 = some (vm_m34, (40, .iconst 2, 1, 0, 0, 0)) := rfl
theorem p34_41 : vm_P 34 41 = some (vm_m34, (41, .iload 4, 2, 0, 0, 0)) := rfl
theorem p34_43 : vm_P 34 43 = some (vm_m34, (43, .iadd, 1, 0, 0, 0)) := rfl
theorem p34_44 : vm_P 34 44 = some (vm_m34, (44, .invokevirtual 48, 3, 0, 7, 2)) := rfl
theorem p34_47 : vm_P 34 47 = some (vm_m34, (47, .invokevirtual 51, 3, 0, 58, 501)) := rfl
theorem p34_50 : vm_P 34 50 = some (vm_m34, (50, .iinc 4 1, 3, 0, 0, 0)) := rfl
theorem p34_53 : vm_P 34 53 = some (vm_m34, (53, .goto (-25), 3, 0, 0, 0)) := rfl
theorem p34_56 : vm_P 34 56 = some (vm_m34, (56, .aload_n 0, 1, 0, 0, 0)) := rfl
theorem p34_57 : vm_P 34 57 = some (vm_m34, (57, .getfield 20, 3, 2, 2, 0)) := rfl
theorem p34_60 : vm_P 34 60 = some (vm_m34, (60, .bipush (-4), 2, 0, 0, 0)) := rfl
theorem p34_62 : vm_P 34 62 = some (vm_m34, (62, .invokevirtual 54, 3, 0, 61, 501)) := rfl
theorem p34_65 : vm_P 34 65 = some (vm_m34, (65, .iconst 0, 1, 0, 0, 0)) := rfl
theorem p34_66 : vm_P 34 66 = some (vm_m34, (66, .istore 4, 2, 0, 0, 0)) := rfl
theorem p34_68 : vm_P 34 68 = some (vm_m34, (68, .iload 4, 2, 0, 0, 0)) := rfl
theorem p34_70 : vm_P 34 70 = some (vm_m34, (70, .aload_n 0, 1, 0, 0, 0)) := rfl
theorem p34_71 : vm_P 34 71 = some (vm_m34, (71, .getfield 43, 3, 2, 4, 0)) := rfl
theorem p34_74 : vm_P 34 74 = some (vm_m34, (74, .if_icmp .gt 35, 3, 0, 0, 0)) := rfl
theorem p34_77 : vm_P 34 77 = some (vm_m34, (77, .aload_n 0, 1, 0, 0, 0)) := rfl
theorem p34_78 : vm_P 34 78 = some (vm_m34, (78, .iconst 0, 1, 0, 0, 0)) := rfl
theorem p34_79 : vm_P 34 79 = some (vm_m34, (79, .aload_n 1, 1, 0, 0, 0)) := rfl
theorem p34_80 : vm_P 34 80 = some (vm_m34, (80, .iload_n 2, 1, 0, 0, 0)) := rfl
theorem p34_81 : vm_P 34 81 = some (vm_m34, (81, .iconst 0, 1, 0, 0, 0)) := rfl
theorem p34_82 : vm_P 34 82 = some (vm_m34, (82, .invokevirtual 48, 3, 0, 7, 2)) := rfl
theorem p34_85 : vm_P 34 85 = some (vm_m34, (85, .aload_n 1, 1, 0, 0, 0)) := rfl
theorem p34_86 : vm_P 34 86 = some (vm_m34, (86, .iload_n 2, 1, 0, 0, 0)) := rfl
theorem p34_87 : vm_P 34 87 = some (vm_m34, (87, .bipush 6, 2, 0, 0, 0)) := rfl
theorem p34_89 : vm_P 34 89 = some (vm_m34, (89, .invokevirtual 48, 3, 0, 7, 2)) := rfl
theorem p34_92 : vm_P 34 92 = some (vm_m34, (92, .iload 4, 2, 0, 0, 0)) := rfl
theorem p34_94 : vm_P 34 94 = some (vm_m34, (94, .invokevirtual 57, 3, 0, 36, 204)) := rfl
theorem p34_97 : vm_P 34 97 = some (vm_m34, (97, .ifCond .eq 6, 3, 0, 0, 0)) := rfl
theorem p34_100 : vm_P 34 100 = some (vm_m34, (100, .iload 4, 2, 0, 0, 0)) := rfl
theorem p34_102 : vm_P 34 102 = some (vm_m34, (102, .ireturn, 1, 0, 0, 0)) := rfl
theorem p34_103 : vm_P 34 103 = some (vm_m34, (103, .iinc 4 1, 3, 0, 0, 0)) := rfl
theorem p34_106 : vm_P 34 106 = some (vm_m34, (106, .goto (-38), 3, 0, 0, 0)) := rfl
theorem p34_109 : vm_P 34 109 = some (vm_m34, (109, .bipush (-4), 2, 0, 0, 0)) := rfl
theorem p34_111 : vm_P 34 111 = some (vm_m34, (111, .ireturn, 1, 0, 0, 0)) := rfl
theorem p35_0 : vm_P 35 0 = some (vm_m35, (0, .iload_n 1, 1, 0, 0, 0)) := rfl
theorem p35_1 : vm_P 35 1 = some (vm_m35, (1, .aload_n 0, 1, 0, 0, 0)) := rfl
theorem p35_2 : vm_P 35 2 = some (vm_m35, (2, .getfield 43, 3, 2, 4, 0)) := rfl
theorem p35_5 : vm_P 35 5 = some (vm_m35, (5, .if_icmp .ge 14, 3, 0, 0, 0)) := rfl
theorem p35_8 : vm_P 35 8 = some (vm_m35, (8, .aload_n 0, 1, 0, 0, 0)) := rfl
theorem p35_9 : vm_P 35 9 = some (vm_m35, (9, .getfield 20, 3, 2, 2, 0)) := rfl
theorem p35_12 : vm_P 35 12 = some (vm_m35, (12, .iload_n 1, 1, 0, 0, 0)) := rfl
theorem p35_13 : vm_P 35 13 = some (vm_m35, (13, .invokevirtual 61, 3, 0, 59, 501)) := rfl
theorem p35_16 : vm_P 35 16 = some (vm_m35, (16, .goto 5, 3, 0, 0, 0)) := rfl
theorem p35_19 : vm_P 35 19 = some (vm_m35, (19, .bipush (-4), 2, 0, 0, 0)) := rfl
theorem p35_21 : vm_P 35 21 = some (vm_m35, (21, .ireturn, 1, 0, 0, 0)) := rfl
theorem p36_0 : vm_P 36 0 = some (vm_m36, (0, .iload_n 2, 1, 0, 0, 0)) := rfl
theorem p36_1 : vm_P 36 1 = some (vm_m36, (1, .iconst 1, 1, 0, 0, 0)) := rfl
theorem p36_2 : vm_P 36 2 = some (vm_m36, (2, .if_icmp .lt 14, 3, 0, 0, 0)) := rfl
theorem p36_5 : vm_P 36 5 = some (vm_m36, (5, .iload 4, 2, 0, 0, 0)) := rfl
theorem p36_7 : vm_P 36 7 = some (vm_m36, (7, .aload_n 0, 1, 0, 0, 0)) := rfl
theorem p36_8 : vm_P 36 8 = some (vm_m36, (8, .getfield 43, 3, 2, 4, 0)) := rfl
theorem p36_11 : vm_P 36 11 = some (vm_m36, (11, .iload_n 1, 1, 0, 0, 0)) := rfl
theorem p36_12 : vm_P 36 12 = some (vm_m36, (12, .isub, 1, 0, 0, 0)) := rfl
theorem p36_13 : vm_P 36 13 = some (vm_m36, (13, .if_icmp .le 5, 3, 0, 0, 0)) := rfl
theorem p36_16 : vm_P 36 16 = some (vm_m36, (16, .iconst 0, 1, 0, 0, 0)) := rfl
theorem p36_17 : vm_P 36 17 = some (vm_m36, (17, .ireturn, 1, 0, 0, 0)) := rfl
theorem p36_18 : vm_P 36 18 = some (vm_m36, (18, .iload_n 1, 1, 0, 0, 0)) := rfl
theorem p36_19 : vm_P 36 19 = some (vm_m36, (19, .aload_n 0, 1, 0, 0, 0)) := rfl
theorem p36_20 : vm_P 36 20 = some (vm_m36, (20, .getfield 43, 3, 2, 4, 0)) := rfl
theorem p36_23 : vm_P 36 23 = some (vm_m36, (23, .if_icmp .lt 5, 3, 0, 0, 0)) := rfl
theorem p36_26 : vm_P 36 26 = some (vm_m36, (26, .iconst 1, 1, 0, 0, 0)) := rfl
theorem p36_27 : vm_P 36 27 = some (vm_m36, (27, .ireturn, 1, 0, 0, 0)) := rfl
theorem p36_28 : vm_P 36 28 = some (vm_m36, (28, .iconst 0, 1, 0, 0, 0)) := rfl
theorem p36_29 : vm_P 36 29 = some (vm_m36, (29, .istore 5, 2, 0, 0, 0)) := rfl
theorem p36_31 : vm_P 36 31 = some (vm_m36, (31, .iload 5, 2, 0, 0, 0)) := rfl
theorem p36_33 : vm_P 36 33 = some (vm_m36, (33, .iconst 4, 1, 0, 0, 0)) := rfl
theorem p36_34 : vm_P 36 34 = some (vm_m36, (34, .if_icmp .ge 29, 3, 0, 0, 0)) := rfl
theorem p36_37 : vm_P 36 37 = some (vm_m36, (37, .iload 4, 2, 0, 0, 0)) := rfl
theorem p36_39 : vm_P 36 39 = some (vm_m36, (39, .ifCond .le 24, 3, 0, 0, 0)) := rfl
theorem p36_42 : vm_P 36 42 = some (vm_m36, (42, .aload_n 0, 1, 0, 0, 0)) := rfl
theorem p36_43 : vm_P 36 43 = some (vm_m36, (43, .iload 5, 2, 0, 0, 0)) := rfl
theorem p36_45 : vm_P 36 45 = some (vm_m36, (45, .iload_n 1, 1, 0, 0, 0)) := rfl
theorem p36_46 : vm_P 36 46 = some (vm_m36, (46, .iload_n 2, 1, 0, 0, 0)) := rfl
theorem p36_47 : vm_P 36 47 = some (vm_m36, (47, .iload 4, 2, 0, 0, 0)) := rfl
theorem p36_49 : vm_P 36 49 = some (vm_m36, (49, .invokevirtual 64, 3, 0, 37, 204)) := rfl
theorem p36_52 : vm_P 36 52 = some (vm_m36, (52, .ifCond .eq 5, 3, 0, 0, 0)) := rfl
theorem p36_55 : vm_P 36 55 = some (vm_m36, (55, .iconst 1, 1, 0, 0, 0)) := rfl
theorem p36_56 : vm_P 36 56 = some (vm_m36, (56, .ireturn, 1, 0, 0, 0)) := rfl
theorem p36_57 : vm_P 36 57 = some (vm_m36, (57, .iinc 5 1, 3, 0, 0, 0)) := rfl
theorem p36_60 : vm_P 36 60 = some (vm_m36, (60, .goto (-29), 3, 0, 0, 0)) := rfl
theorem p36_63 : vm_P 36 63 = some (vm_m36, (63, .aload_n 0, 1, 0, 0, 0)) := rfl
theorem p36_64 : vm_P 36 64 = some (vm_m36, (64, .getfield 20, 3, 2, 2, 0)) := rfl
theorem p36_67 : vm_P 36 67 = some (vm_m36, (67, .iload_n 1, 1, 0, 0, 0)) := rfl
theorem p36_68 : vm_P 36 68 = some (vm_m36, (68, .bipush (-4), 2, 0, 0, 0)) := rfl
theorem p36_70 : vm_P 36 70 = some (vm_m36, (70, .invokevirtual 67, 3, 0, 60, 502)) := rfl
theorem p36_73 : vm_P 36 73 = some (vm_m36, (73, .aload_n 0, 1, 0, 0, 0)) := rfl
theorem p36_74 : vm_P 36 74 = some (vm_m36, (74, .iload_n 1, 1, 0, 0, 0)) := rfl
theorem p36_75 : vm_P 36 75 = some (vm_m36, (75, .iconst 1, 1, 0, 0, 0)) := rfl
theorem p36_76 : vm_P 36 76 = some (vm_m36, (76, .iadd, 1, 0, 0, 0)) := rfl
theorem p36_77 : vm_P 36 77 = some (vm_m36, (77, .iload_n 2, 1, 0, 0, 0)) := rfl
theorem p36_78 : vm_P 36 78 = some (vm_m36, (78, .iload_n 3, 1, 0, 0, 0)) := rfl
theorem p36_79 : vm_P 36 79 = some (vm_m36, (79, .aload_n 0, 1, 0, 0, 0)) := rfl
theorem p36_80 : vm_P 36 80 = some (vm_m36, (80, .getfield 23, 3, 2, 0, 0)) := rfl
theorem p36_83 : vm_P 36 83 = some (vm_m36, (83, .aload_n 0, 1, 0, 0, 0)) := rfl
theorem p36_84 : vm_P 36 84 = some (vm_m36, (84, .getfield 33, 3, 2, 3, 0)) := rfl
theorem p36_87 : vm_P 36 87 = some (vm_m36, (87, .iload_n 1, 1, 0, 0, 0)) := rfl
theorem p36_88 : vm_P 36 88 = some (vm_m36, (88, .iadd, 1, 0, 0, 0)) := rfl
theorem p36_89 : vm_P 36 89 = some (vm_m36, (89, .invokevirtual 71, 3, 0, 80, 701)) := rfl
theorem p36_92 : vm_P 36 92 = some (vm_m36, (92, .invokestatic 76, 3, 1, 31, 3)) := rfl
theorem p36_95 : vm_P 36 95 = some (vm_m36, (95, .iload_n 3, 1, 0, 0, 0)) := rfl
theorem p36_96 : vm_P 36 96 = some (vm_m36, (96, .iload 4, 2, 0, 0, 0)) := rfl
theorem p36_98 : vm_P 36 98 = some (vm_m36, (98, .invokevirtual 57, 3, 0, 36, 204)) := rfl
theorem p36_101 : vm_P 36 101 = some (vm_m36, (101, .ireturn, 1, 0, 0, 0)) := rfl
theorem p37_0 : vm_P 37 0 = some (vm_m37, (0, .iload_n 3, 1, 0, 0, 0)) := rfl
theorem p37_1 : vm_P 37 1 = some (vm_m37, (1, .iload_n 1, 1, 0, 0, 0)) := rfl
theorem p37_2 : vm_P 37 2 = some (vm_m37, (2, .invokestatic 82, 3, 1, 30, 2)) := rfl
theorem p37_5 : vm_P 37 5 = some (vm_m37, (5, .istore 5, 2, 0, 0, 0)) := rfl
theorem p37_7 : vm_P 37 7 = some (vm_m37, (7, .aload_n 0, 1, 0, 0, 0)) := rfl
theorem p37_8 : vm_P 37 8 = some (vm_m37, (8, .getfield 14, 3, 2, 1, 0)) := rfl
theorem p37_11 : vm_P 37 11 = some (vm_m37, (11, .iload_n 1, 1, 0, 0, 0)) := rfl
theorem p37_12 : vm_P 37 12 = some (vm_m37, (12, .invokevirtual 61, 3, 0, 59, 501)) := rfl
theorem p37_15 : vm_P 37 15 = some (vm_m37, (15, .iconst 1, 1, 0, 0, 0)) := rfl
theorem p37_16 : vm_P 37 16 = some (vm_m37, (16, .if_icmp .lt 9, 3, 0, 0, 0)) := rfl
theorem p37_19 : vm_P 37 19 = some (vm_m37, (19, .iload 5, 2, 0, 0, 0)) := rfl
theorem p37_21 : vm_P 37 21 = some (vm_m37, (21, .iconst 1, 1, 0, 0, 0)) := rfl
theorem p37_22 : vm_P 37 22 = some (vm_m37, (22, .if_icmp .ge 5, 3, 0, 0, 0)) := rfl
theorem p37_25 : vm_P 37 25 = some (vm_m37, (25, .iconst 0, 1, 0, 0, 0)) := rfl
theorem p37_26 : vm_P 37 26 = some (vm_m37, (26, .ireturn, 1, 0, 0, 0)) := rfl
theorem p37_27 : vm_P 37 27 = some (vm_m37, (27, .aload_n 0, 1, 0, 0, 0)) := rfl
theorem p37_28 : vm_P 37 28 = some (vm_m37, (28, .getfield 14, 3, 2, 1, 0)) := rfl
theorem p37_31 : vm_P 37 31 = some (vm_m37, (31, .iload_n 1, 1, 0, 0, 0)) := rfl
theorem p37_32 : vm_P 37 32 = some (vm_m37, (32, .aload_n 0, 1, 0, 0, 0)) := rfl
theorem p37_33 : vm_P 37 33 = some (vm_m37, (33, .getfield 14, 3, 2, 1, 0)) := rfl
theorem p37_36 : vm_P 37 36 = some (vm_m37, (36, .iload_n 1, 1, 0, 0, 0)) := rfl
theorem p37_37 : vm_P 37 37 = some (vm_m37, (37, .invokevirtual 61, 3, 0, 59, 501)) := rfl
theorem p37_40 : vm_P 37 40 = some (vm_m37, (40, .iconst 1, 1, 0, 0, 0)) := rfl
theorem p37_41 : vm_P 37 41 = some (vm_m37, (41, .isub, 1, 0, 0, 0)) := rfl
theorem p37_42 : vm_P 37 42 = some (vm_m37, (42, .invokevirtual 67, 3, 0, 60, 502)) := rfl
theorem p37_45 : vm_P 37 45 = some (vm_m37, (45, .aload_n 0, 1, 0, 0, 0)) := rfl
theorem p37_46 : vm_P 37 46 = some (vm_m37, (46, .getfield 20, 3, 2, 2, 0)) := rfl
theorem p37_49 : vm_P 37 49 = some (vm_m37, (49, .iload_n 2, 1, 0, 0, 0)) := rfl
theorem p37_50 : vm_P 37 50 = some (vm_m37, (50, .iload_n 1, 1, 0, 0, 0)) := rfl
theorem p37_51 : vm_P 37 51 = some (vm_m37, (51, .invokevirtual 67, 3, 0, 60, 502)) := rfl
theorem p37_54 : vm_P 37 54 = some (vm_m37, (54, .aload_n 0, 1, 0, 0, 0)) := rfl
theorem p37_55 : vm_P 37 55 = some (vm_m37, (55, .iload_n 2, 1, 0, 0, 0)) := rfl
theorem p37_56 : vm_P 37 56 = some (vm_m37, (56, .iconst 1, 1, 0, 0, 0)) := rfl
theorem p37_57 : vm_P 37 57 = some (vm_m37, (57, .iadd, 1, 0, 0, 0)) := rfl
theorem p37_58 : vm_P 37 58 = some (vm_m37, (58, .iload 5, 2, 0, 0, 0)) := rfl
theorem p37_60 : vm_P 37 60 = some (vm_m37, (60, .iload_n 1, 1, 0, 0, 0)) := rfl
theorem p37_61 : vm_P 37 61 = some (vm_m37, (61, .aload_n 0, 1, 0, 0, 0)) := rfl
theorem p37_62 : vm_P 37 62 = some (vm_m37, (62, .getfield 23, 3, 2, 0, 0)) := rfl
theorem p37_65 : vm_P 37 65 = some (vm_m37, (65, .aload_n 0, 1, 0, 0, 0)) := rfl
theorem p37_66 : vm_P 37 66 = some (vm_m37, (66, .getfield 33, 3, 2, 3, 0)) := rfl
theorem p37_69 : vm_P 37 69 = some (vm_m37, (69, .iload_n 2, 1, 0, 0, 0)) := rfl
theorem p37_70 : vm_P 37 70 = some (vm_m37, (70, .iadd, 1, 0, 0, 0)) := rfl
theorem p37_71 : vm_P 37 71 = some (vm_m37, (71, .invokevirtual 71, 3, 0, 80, 701)) := rfl
theorem p37_74 : vm_P 37 74 = some (vm_m37, (74, .invokestatic 76, 3, 1, 31, 3)) := rfl
theorem p37_77 : vm_P 37 77 = some (vm_m37, (77, .iload_n 1, 1, 0, 0, 0)) := rfl
theorem p37_78 : vm_P 37 78 = some (vm_m37, (78, .iload 4, 2, 0, 0, 0)) := rfl
theorem p37_80 : vm_P 37 80 = some (vm_m37, (80, .iconst 1, 1, 0, 0, 0)) := rfl
theorem p37_81 : vm_P 37 81 = some (vm_m37, (81, .isub, 1, 0, 0, 0)) := rfl
theorem p37_82 : vm_P 37 82 = some (vm_m37, (82, .invokevirtual 57, 3, 0, 36, 204)) := rfl
theorem p37_85 : vm_P 37 85 = some (vm_m37, (85, .istore 6, 2, 0, 0, 0)) := rfl
theorem p37_87 : vm_P 37 87 = some (vm_m37, (87, .aload_n 0, 1, 0, 0, 0)) := rfl
theorem p37_88 : vm_P 37 88 = some (vm_m37, (88, .getfield 14, 3, 2, 1, 0)) := rfl
theorem p37_91 : vm_P 37 91 = some (vm_m37, (91, .iload_n 1, 1, 0, 0, 0)) := rfl
theorem p37_92 : vm_P 37 92 = some (vm_m37, (92, .aload_n 0, 1, 0, 0, 0)) := rfl
theorem p37_93 : vm_P 37 93 = some (vm_m37, (93, .getfield 14, 3, 2, 1, 0)) := rfl
theorem p37_96 : vm_P 37 96 = some (vm_m37, (96, .iload_n 1, 1, 0, 0, 0)) := rfl
theorem p37_97 : vm_P 37 97 = some (vm_m37, (97, .invokevirtual 61, 3, 0, 59, 501)) := rfl
theorem p37_100 : vm_P 37 100 = some (vm_m37, (100, .iconst 1, 1, 0, 0, 0)) := rfl
theorem p37_101 : vm_P 37 101 = some (vm_m37, (101, .iadd, 1, 0, 0, 0)) := rfl
theorem p37_102 : vm_P 37 102 = some (vm_m37, (102, .invokevirtual 67, 3, 0, 60, 502)) := rfl
theorem p37_105 : vm_P 37 105 = some (vm_m37, (105, .iload 6, 2, 0, 0, 0)) := rfl
theorem p37_107 : vm_P 37 107 = some (vm_m37, (107, .ireturn, 1, 0, 0, 0)) := rfl
theorem p38_0 : vm_P 38 0 = some (vm_m38, (0, .aload_n 0, 1, 0, 0, 0)) := rfl
theorem p38_1 : vm_P 38 1 = some (vm_m38, (1, .invokespecial 3, 3, 5, 0, 0)) := rfl
theorem p38_4 : vm_P 38 4 = some (vm_m38, (4, .aload_n 0, 1, 0, 0, 0)) := rfl
theorem p38_5 : vm_P 38 5 = some (vm_m38, (5, .new 9, 3, 5, 0, 0)) := rfl
theorem p38_8 : vm_P 38 8 = some (vm_m38, (8, .dup, 1, 0, 0, 0)) := rfl
theorem p38_9 : vm_P 38 9 = some (vm_m38, (9, .bipush 81, 2, 0, 0, 0)) := rfl
theorem p38_11 : vm_P 38 11 = some (vm_m38, (11, .invokespecial 13, 3, 2, 54, 1)) := rfl
theorem p38_14 : vm_P 38 14 = some (vm_m38, (14, .putfield 16, 3, 3, 1, 0)) := rfl
theorem p38_17 : vm_P 38 17 = some (vm_m38, (17, .aload_n 0, 1, 0, 0, 0)) := rfl
theorem p38_18 : vm_P 38 18 = some (vm_m38, (18, .new 9, 3, 5, 0, 0)) := rfl
theorem p38_21 : vm_P 38 21 = some (vm_m38, (21, .dup, 1, 0, 0, 0)) := rfl
theorem p38_22 : vm_P 38 22 = some (vm_m38, (22, .bipush 81, 2, 0, 0, 0)) := rfl
theorem p38_24 : vm_P 38 24 = some (vm_m38, (24, .invokespecial 13, 3, 2, 54, 1)) := rfl
theorem p38_27 : vm_P 38 27 = some (vm_m38, (27, .putfield 20, 3, 3, 2, 0)) := rfl
theorem p38_30 : vm_P 38 30 = some (vm_m38, (30, .aload_n 0, 1, 0, 0, 0)) := rfl
theorem p38_31 : vm_P 38 31 = some (vm_m38, (31, .new 9, 3, 5, 0, 0)) := rfl
theorem p38_34 : vm_P 38 34 = some (vm_m38, (34, .dup, 1, 0, 0, 0)) := rfl
theorem p38_35 : vm_P 38 35 = some (vm_m38, (35, .bipush 81, 2, 0, 0, 0)) := rfl
theorem p38_37 : vm_P 38 37 = some (vm_m38, (37, .invokespecial 13, 3, 2, 54, 1)) := rfl
theorem p38_40 : vm_P 38 40 = some (vm_m38, (40, .putfield 23, 3, 3, 3, 0)) := rfl
theorem p38_43 : vm_P 38 43 = some (vm_m38, (43, .aload_n 0, 1, 0, 0, 0)) := rfl
theorem p38_44 : vm_P 38 44 = some (vm_m38, (44, .new 9, 3, 5, 0, 0)) := rfl
theorem p38_47 : vm_P 38 47 = some (vm_m38, (47, .dup, 1, 0, 0, 0)) := rfl
theorem p38_48 : vm_P 38 48 = some (vm_m38, (48, .bipush 81, 2, 0, 0, 0)) := rfl
theorem p38_50 : vm_P 38 50 = some (vm_m38, (50, .invokespecial 13, 3, 2, 54, 1)) := rfl
theorem p38_53 : vm_P 38 53 = some (vm_m38, (53, .putfield 26, 3, 3, 4, 0)) := rfl
theorem p38_56 : vm_P 38 56 = some (vm_m38, (56, .aload_n 0, 1, 0, 0, 0)) := rfl
theorem p38_57 : vm_P 38 57 = some (vm_m38, (57, .new 9, 3, 5, 0, 0)) := rfl
theorem p38_60 : vm_P 38 60 = some (vm_m38, (60, .dup, 1, 0, 0, 0)) := rfl
theorem p38_61 : vm_P 38 61 = some (vm_m38, (61, .bipush 81, 2, 0, 0, 0)) := rfl
theorem p38_63 : vm_P 38 63 = some (vm_m38, (63, .invokespecial 13, 3, 2, 54, 1)) := rfl
theorem p38_66 : vm_P 38 66 = some (vm_m38, (66, .putfield 29, 3, 3, 5, 0)) := rfl
theorem p38_69 : vm_P 38 69 = some (vm_m38, (69, .aload_n 0, 1, 0, 0, 0)) := rfl
theorem p38_70 : vm_P 38 70 = some (vm_m38, (70, .aload_n 1, 1, 0, 0, 0)) := rfl
theorem p38_71 : vm_P 38 71 = some (vm_m38, (71, .putfield 32, 3, 3, 0, 0)) := rfl
theorem p38_74 : vm_P 38 74 = some (vm_m38, (74, .return_, 1, 0, 0, 0)) := rfl
theorem p39_0 : vm_P 39 0 = some (vm_m39, (0, .aload_n 0, 1, 0, 0, 0)) := rfl
theorem p39_1 : vm_P 39 1 = some (vm_m39, (1, .getfield 16, 3, 3, 1, 0)) := rfl
theorem p39_4 : vm_P 39 4 = some (vm_m39, (4, .invokevirtual 36, 3, 0, 57, 500)) := rfl
theorem p39_7 : vm_P 39 7 = some (vm_m39, (7, .aload_n 0, 1, 0, 0, 0)) := rfl
theorem p39_8 : vm_P 39 8 = some (vm_m39, (8, .getfield 20, 3, 3, 2, 0)) := rfl
theorem p39_11 : vm_P 39 11 = some (vm_m39, (11, .invokevirtual 36, 3, 0, 57, 500)) := rfl
theorem p39_14 : vm_P 39 14 = some (vm_m39, (14, .aload_n 0, 1, 0, 0, 0)) := rfl
theorem p39_15 : vm_P 39 15 = some (vm_m39, (15, .getfield 23, 3, 3, 3, 0)) := rfl
theorem p39_18 : vm_P 39 18 = some (vm_m39, (18, .invokevirtual 36, 3, 0, 57, 500)) := rfl
theorem p39_21 : vm_P 39 21 = some (vm_m39, (21, .aload_n 0, 1, 0, 0, 0)) := rfl
theorem p39_22 : vm_P 39 22 = some (vm_m39, (22, .getfield 29, 3, 3, 5, 0)) := rfl
theorem p39_25 : vm_P 39 25 = some (vm_m39, (25, .invokevirtual 36, 3, 0, 57, 500)) := rfl
theorem p39_28 : vm_P 39 28 = some (vm_m39, (28, .aload_n 0, 1, 0, 0, 0)) := rfl
theorem p39_29 : vm_P 39 29 = some (vm_m39, (29, .getfield 26, 3, 3, 4, 0)) := rfl
theorem p39_32 : vm_P 39 32 = some (vm_m39, (32, .iconst 0, 1, 0, 0, 0)) := rfl
theorem p39_33 : vm_P 39 33 = some (vm_m39, (33, .invokevirtual 39, 3, 0, 61, 501)) := rfl
theorem p39_36 : vm_P 39 36 = some (vm_m39, (36, .aload_n 0, 1, 0, 0, 0)) := rfl
theorem p39_37 : vm_P 39 37 = some (vm_m39, (37, .iload_n 1, 1, 0, 0, 0)) := rfl
theorem p39_38 : vm_P 39 38 = some (vm_m39, (38, .iload_n 2, 1, 0, 0, 0)) := rfl
theorem p39_39 : vm_P 39 39 = some (vm_m39, (39, .bipush (-4), 2, 0, 0, 0)) := rfl
theorem p39_41 : vm_P 39 41 = some (vm_m39, (41, .bipush (-4), 2, 0, 0, 0)) := rfl
theorem p39_43 : vm_P 39 43 = some (vm_m39, (43, .invokevirtual 42, 3, 0, 41, 304)) := rfl
theorem p39_46 : vm_P 39 46 = some (vm_m39, (46, .iconst 0, 1, 0, 0, 0)) := rfl
theorem p39_47 : vm_P 39 47 = some (vm_m39, (47, .istore_n 3, 1, 0, 0, 0)) := rfl
theorem p39_48 : vm_P 39 48 = some (vm_m39, (48, .iload_n 3, 1, 0, 0, 0)) := rfl
theorem p39_49 : vm_P 39 49 = some (vm_m39, (49, .bipush 81, 2, 0, 0, 0)) := rfl
theorem p39_51 : vm_P 39 51 = some (vm_m39, (51, .if_icmp .ge 103, 3, 0, 0, 0)) := rfl
theorem p39_54 : vm_P 39 54 = some (vm_m39, (54, .iload_n 3, 1, 0, 0, 0)) := rfl
theorem p39_55 : vm_P 39 55 = some (vm_m39, (55, .aload_n 0, 1, 0, 0, 0)) := rfl
theorem p39_56 : vm_P 39 56 = some (vm_m39, (56, .getfield 16, 3, 3, 1, 0)) := rfl
theorem p39_59 : vm_P 39 59 = some (vm_m39, (59, .invokevirtual 46, 3, 0, 55, 500)) := rfl
theorem p39_62 : vm_P 39 62 = some (vm_m39, (62, .if_icmp .ge 92, 3, 0, 0, 0)) := rfl
theorem p39_65 : vm_P 39 65 = some (vm_m39, (65, .aload_n 0, 1, 0, 0, 0)) := rfl
theorem p39_66 : vm_P 39 66 = some (vm_m39, (66, .getfield 16, 3, 3, 1, 0)) := rfl
theorem p39_69 : vm_P 39 69 = some (vm_m39, (69, .iload_n 3, 1, 0, 0, 0)) := rfl
theorem p39_70 : vm_P 39 70 = some (vm_m39, (70, .invokevirtual 50, 3, 0, 59, 501)) := rfl
theorem p39_73 : vm_P 39 73 = some (vm_m39, (73, .bipush 9, 2, 0, 0, 0)) := rfl
theorem p39_75 : vm_P 39 75 = some (vm_m39, (75, .idiv, 1, 0, 0, 0)) := rfl
theorem p39_76 : vm_P 39 76 = some (vm_m39, (76, .istore 4, 2, 0, 0, 0)) := rfl
theorem p39_78 : vm_P 39 78 = some (vm_m39, (78, .aload_n 0, 1, 0, 0, 0)) := rfl
theorem p39_79 : vm_P 39 79 = some (vm_m39, (79, .getfield 16, 3, 3, 1, 0)) := rfl
theorem p39_82 : vm_P 39 82 = some (vm_m39, (82, .iload_n 3, 1, 0, 0, 0)) := rfl
theorem p39_83 : vm_P 39 83 = some (vm_m39, (83, .invokevirtual 50, 3, 0, 59, 501)) := rfl
theorem p39_86 : vm_P 39 86 = some (vm_m39, (86, .bipush 9, 2, 0, 0, 0)) := rfl
theorem p39_88 : vm_P 39 88 = some (vm_m39, (88, .irem, 1, 0, 0, 0)) := rfl
theorem p39_89 : vm_P 39 89 = some (vm_m39, (89, .istore 5, 2, 0, 0, 0)) := rfl
theorem p39_91 : vm_P 39 91 = some (vm_m39, (91, .iload 4, 2, 0, 0, 0)) := rfl
theorem p39_93 : vm_P 39 93 = some (vm_m39, (93, .iload 5, 2, 0, 0, 0)) := rfl
theorem p39_95 : vm_P 39 95 = some (vm_m39, (95, .if_icmp .ne 9, 3, 0, 0, 0)) := rfl
theorem p39_98 : vm_P 39 98 = some (vm_m39, (98, .aload_n 0, 1, 0, 0, 0)) := rfl
theorem p39_99 : vm_P 39 99 = some (vm_m39, (99, .iload_n 3, 1, 0, 0, 0)) := rfl
theorem p39_100 : vm_P 39 100 = some (vm_m39, (100, .invokevirtual 54, 3, 0, 42, 301)) := rfl
theorem p39_103 : vm_P 39 103 = some (vm_m39, (103, .ireturn, 1, 0, 0, 0)) := rfl
theorem p39_104 : vm_P 39 104 = some (vm_m39, (104, .iconst 0, 1, 0, 0, 0)) := rfl
theorem p39_105 : vm_P 39 105 = some (vm_m39, (105, .istore 6, 2, 0, 0, 0)) := rfl
theorem p39_107 : vm_P 39 107 = some (vm_m39, (107, .iload 6, 2, 0, 0, 0)) := rfl
theorem p39_109 : vm_P 39 109 = some (vm_m39, (109, .iconst 4, 1, 0, 0, 0)) := rfl
theorem p39_110 : vm_P 39 110 = some (vm_m39, (110, .if_icmp .ge 38, 3, 0, 0, 0)) := rfl
theorem p39_113 : vm_P 39 113 = some (vm_m39, (113, .aload_n 0, 1, 0, 0, 0)) := rfl
theorem p39_114 : vm_P 39 114 = some (vm_m39, (114, .aload_n 0, 1, 0, 0, 0)) := rfl
theorem p39_115 : vm_P 39 115 = some (vm_m39, (115, .getfield 32, 3, 3, 0, 0)) := rfl
theorem p39_118 : vm_P 39 118 = some (vm_m39, (118, .iload 4, 2, 0, 0, 0)) := rfl
theorem p39_120 : vm_P 39 120 = some (vm_m39, (120, .iload 6, 2, 0, 0, 0)) := rfl
theorem p39_122 : vm_P 39 122 = some (vm_m39, (122, .invokevirtual 57, 3, 0, 79, 702)) := rfl
theorem p39_125 : vm_P 39 125 = some (vm_m39, (125, .aload_n 0, 1, 0, 0, 0)) := rfl
theorem p39_126 : vm_P 39 126 = some (vm_m39, (126, .getfield 32, 3, 3, 0, 0)) := rfl
theorem p39_129 : vm_P 39 129 = some (vm_m39, (129, .iload 5, 2, 0, 0, 0)) := rfl
theorem p39_131 : vm_P 39 131 = some (vm_m39, (131, .iload 6, 2, 0, 0, 0)) := rfl
theorem p39_133 : vm_P 39 133 = some (vm_m39, (133, .invokevirtual 57, 3, 0, 79, 702)) := rfl
theorem p39_136 : vm_P 39 136 = some (vm_m39, (136, .iload_n 3, 1, 0, 0, 0)) := rfl
theorem p39_137 : vm_P 39 137 = some (vm_m39, (137, .iload 6, 2, 0, 0, 0)) := rfl
theorem p39_139 : vm_P 39 139 = some (vm_m39, (139, .invokevirtual 42, 3, 0, 41, 304)) := rfl
theorem p39_142 : vm_P 39 142 = some (vm_m39, (142, .iinc 6 1, 3, 0, 0, 0)) := rfl
theorem p39_145 : vm_P 39 145 = some (vm_m39, (145, .goto (-38), 3, 0, 0, 0)) := rfl
theorem p39_148 : vm_P 39 148 = some (vm_m39, (148, .iinc 3 1, 3, 0, 0, 0)) := rfl
theorem p39_151 : vm_P 39 151 = some (vm_m39, (151, .goto (-103), 3, 0, 0, 0)) := rfl
theorem p39_154 : vm_P 39 154 = some (vm_m39, (154, .bipush (-4), 2, 0, 0, 0)) := rfl
theorem p39_156 : vm_P 39 156 = some (vm_m39, (156, .ireturn, 1, 0, 0, 0)) := rfl
theorem p40_0 : vm_P 40 0 = some (vm_m40, (0, .iload_n 1, 1, 0, 0, 0)) := rfl
theorem p40_1 : vm_P 40 1 = some (vm_m40, (1, .aload_n 0, 1, 0, 0, 0)) := rfl
theorem p40_2 : vm_P 40 2 = some (vm_m40, (2, .getfield 29, 3, 3, 5, 0)) := rfl
theorem p40_5 : vm_P 40 5 = some (vm_m40, (5, .invokevirtual 46, 3, 0, 55, 500)) := rfl
theorem p40_8 : vm_P 40 8 = some (vm_m40, (8, .if_icmp .ge 24, 3, 0, 0, 0)) := rfl
theorem p40_11 : vm_P 40 11 = some (vm_m40, (11, .aload_n 0, 1, 0, 0, 0)) := rfl
theorem p40_12 : vm_P 40 12 = some (vm_m40, (12, .getfield 29, 3, 3, 5, 0)) := rfl
theorem p40_15 : vm_P 40 15 = some (vm_m40, (15, .aload_n 0, 1, 0, 0, 0)) := rfl
theorem p40_16 : vm_P 40 16 = some (vm_m40, (16, .getfield 29, 3, 3, 5, 0)) := rfl
theorem p40_19 : vm_P 40 19 = some (vm_m40, (19, .invokevirtual 46, 3, 0, 55, 500)) := rfl
theorem p40_22 : vm_P 40 22 = some (vm_m40, (22, .iconst 1, 1, 0, 0, 0)) := rfl
theorem p40_23 : vm_P 40 23 = some (vm_m40, (23, .isub, 1, 0, 0, 0)) := rfl
theorem p40_24 : vm_P 40 24 = some (vm_m40, (24, .iload_n 1, 1, 0, 0, 0)) := rfl
theorem p40_25 : vm_P 40 25 = some (vm_m40, (25, .isub, 1, 0, 0, 0)) := rfl
theorem p40_26 : vm_P 40 26 = some (vm_m40, (26, .invokevirtual 50, 3, 0, 59, 501)) := rfl
theorem p40_29 : vm_P 40 29 = some (vm_m40, (29, .goto 5, 3, 0, 0, 0)) := rfl
theorem p40_32 : vm_P 40 32 = some (vm_m40, (32, .bipush (-4), 2, 0, 0, 0)) := rfl
theorem p40_34 : vm_P 40 34 = some (vm_m40, (34, .ireturn, 1, 0, 0, 0)) := rfl
theorem p41_0 : vm_P 41 0 = some (vm_m41, (0, .iload_n 1, 1, 0, 0, 0)) := rfl
theorem p41_1 : vm_P 41 1 = some (vm_m41, (1, .bipush 9, 2, 0, 0, 0)) := rfl
theorem p41_3 : vm_P 41 3 = some (vm_m41, (3, .imul, 1, 0, 0, 0)) := rfl
theorem p41_4 : vm_P 41 4 = some (vm_m41, (4, .iload_n 2, 1, 0, 0, 0)) := rfl
theorem p41_5 : vm_P 41 5 = some (vm_m41, (5, .iadd, 1, 0, 0, 0)) := rfl
theorem p41_6 : vm_P 41 6 = some (vm_m41, (6, .istore 5, 2, 0, 0, 0)) := rfl
theorem p41_8 : vm_P 41 8 = some (vm_m41, (8, .aload_n 0, 1, 0, 0, 0)) := rfl
theorem p41_9 : vm_P 41 9 = some (vm_m41, (9, .getfield 26, 3, 3, 4, 0)) := rfl
theorem p41_12 : vm_P 41 12 = some (vm_m41, (12, .iload 5, 2, 0, 0, 0)) := rfl
theorem p41_14 : vm_P 41 14 = some (vm_m41, (14, .invokevirtual 50, 3, 0, 59, 501)) := rfl
theorem p41_17 : vm_P 41 17 = some (vm_m41, (17, .ifCond .ne 39, 3, 0, 0, 0)) := rfl
theorem p41_20 : vm_P 41 20 = some (vm_m41, (20, .aload_n 0, 1, 0, 0, 0)) := rfl
theorem p41_21 : vm_P 41 21 = some (vm_m41, (21, .getfield 26, 3, 3, 4, 0)) := rfl
theorem p41_24 : vm_P 41 24 = some (vm_m41, (24, .iload 5, 2, 0, 0, 0)) := rfl
theorem p41_26 : vm_P 41 26 = some (vm_m41, (26, .iconst 1, 1, 0, 0, 0)) := rfl
theorem p41_27 : vm_P 41 27 = some (vm_m41, (27, .invokevirtual 63, 3, 0, 60, 502)) := rfl
theorem p41_30 : vm_P 41 30 = some (vm_m41, (30, .aload_n 0, 1, 0, 0, 0)) := rfl
theorem p41_31 : vm_P 41 31 = some (vm_m41, (31, .getfield 16, 3, 3, 1, 0)) := rfl
theorem p41_34 : vm_P 41 34 = some (vm_m41, (34, .iload 5, 2, 0, 0, 0)) := rfl
theorem p41_36 : vm_P 41 36 = some (vm_m41, (36, .invokevirtual 67, 3, 0, 58, 501)) := rfl
theorem p41_39 : vm_P 41 39 = some (vm_m41, (39, .aload_n 0, 1, 0, 0, 0)) := rfl
theorem p41_40 : vm_P 41 40 = some (vm_m41, (40, .getfield 20, 3, 3, 2, 0)) := rfl
theorem p41_43 : vm_P 41 43 = some (vm_m41, (43, .iload_n 3, 1, 0, 0, 0)) := rfl
theorem p41_44 : vm_P 41 44 = some (vm_m41, (44, .invokevirtual 67, 3, 0, 58, 501)) := rfl
theorem p41_47 : vm_P 41 47 = some (vm_m41, (47, .aload_n 0, 1, 0, 0, 0)) := rfl
theorem p41_48 : vm_P 41 48 = some (vm_m41, (48, .getfield 23, 3, 3, 3, 0)) := rfl
theorem p41_51 : vm_P 41 51 = some (vm_m41, (51, .iload 4, 2, 0, 0, 0)) := rfl
theorem p41_53 : vm_P 41 53 = some (vm_m41, (53, .invokevirtual 67, 3, 0, 58, 501)) := rfl
theorem p41_56 : vm_P 41 56 = some (vm_m41, (56, .return_, 1, 0, 0, 0)) := rfl
theorem p42_0 : vm_P 42 0 = some (vm_m42, (0, .iload_n 1, 1, 0, 0, 0)) := rfl
theorem p42_1 : vm_P 42 1 = some (vm_m42, (1, .istore_n 2, 1, 0, 0, 0)) := rfl
theorem p42_2 : vm_P 42 2 = some (vm_m42, (2, .iconst 0, 1, 0, 0, 0)) := rfl
theorem p42_3 : vm_P 42 3 = some (vm_m42, (3, .istore_n 3, 1, 0, 0, 0)) := rfl
theorem p42_4 : vm_P 42 4 = some (vm_m42, (4, .iload_n 3, 1, 0, 0, 0)) := rfl
theorem p42_5 : vm_P 42 5 = some (vm_m42, (5, .bipush 81, 2, 0, 0, 0)) := rfl
theorem p42_7 : vm_P 42 7 = some (vm_m42, (7, .if_icmp .ge 37, 3, 0, 0, 0)) := rfl
theorem p42_10 : vm_P 42 10 = some (vm_m42, (10, .iload_n 2, 1, 0, 0, 0)) := rfl
theorem p42_11 : vm_P 42 11 = some (vm_m42, (11, .ifCond .le 33, 3, 0, 0, 0)) := rfl
theorem p42_14 : vm_P 42 14 = some (vm_m42, (14, .aload_n 0, 1, 0, 0, 0)) := rfl
theorem p42_15 : vm_P 42 15 = some (vm_m42, (15, .getfield 29, 3, 3, 5, 0)) := rfl
theorem p42_18 : vm_P 42 18 = some (vm_m42, (18, .aload_n 0, 1, 0, 0, 0)) := rfl
theorem p42_19 : vm_P 42 19 = some (vm_m42, (19, .getfield 23, 3, 3, 3, 0)) := rfl
theorem p42_22 : vm_P 42 22 = some (vm_m42, (22, .iload_n 2, 1, 0, 0, 0)) := rfl
theorem p42_23 : vm_P 42 23 = some (vm_m42, (23, .invokevirtual 50, 3, 0, 59, 501)) := rfl
theorem p42_26 : vm_P 42 26 = some (vm_m42, (26, .invokevirtual 67, 3, 0, 58, 501)) := rfl
theorem p42_29 : vm_P 42 29 = some (vm_m42, (29, .aload_n 0, 1, 0, 0, 0)) := rfl
theorem p42_30 : vm_P 42 30 = some (vm_m42, (30, .getfield 20, 3, 3, 2, 0)) := rfl
theorem p42_33 : vm_P 42 33 = some (vm_m42, (33, .iload_n 2, 1, 0, 0, 0)) := rfl
theorem p42_34 : vm_P 42 34 = some (vm_m42, (34, .invokevirtual 50, 3, 0, 59, 501)) := rfl
theorem p42_37 : vm_P 42 37 = some (vm_m42, (37, .istore_n 2, 1, 0, 0, 0)) := rfl
theorem p42_38 : vm_P 42 38 = some (vm_m42, (38, .iinc 3 1, 3, 0, 0, 0)) := rfl
theorem p42_41 : vm_P 42 41 = some (vm_m42, (41, .goto (-37), 3, 0, 0, 0)) := rfl
theorem p42_44 : vm_P 42 44 = some (vm_m42, (44, .aload_n 0, 1, 0, 0, 0)) := rfl
theorem p42_45 : vm_P 42 45 = some (vm_m42, (45, .getfield 29, 3, 3, 5, 0)) := rfl
theorem p42_48 : vm_P 42 48 = some (vm_m42, (48, .invokevirtual 46, 3, 0, 55, 500)) := rfl
theorem p42_51 : vm_P 42 51 = some (vm_m42, (51, .ireturn, 1, 0, 0, 0)) := rfl
theorem p43_0 : vm_P 43 0 = some (vm_m43, (0, .aload_n 0, 1, 0, 0, 0)) := rfl
theorem p43_1 : vm_P 43 1 = some (vm_m43, (1, .invokespecial 3, 3, 5, 0, 0)) := rfl
theorem p43_4 : vm_P 43 4 = some (vm_m43, (4, .aload_n 0, 1, 0, 0, 0)) := rfl
theorem p43_5 : vm_P 43 5 = some (vm_m43, (5, .new 9, 3, 5, 0, 0)) := rfl
theorem p43_8 : vm_P 43 8 = some (vm_m43, (8, .dup, 1, 0, 0, 0)) := rfl
theorem p43_9 : vm_P 43 9 = some (vm_m43, (9, .bipush 6, 2, 0, 0, 0)) := rfl
theorem p43_11 : vm_P 43 11 = some (vm_m43, (11, .invokespecial 13, 3, 2, 54, 1)) := rfl
theorem p43_14 : vm_P 43 14 = some (vm_m43, (14, .putfield 16, 3, 4, 1, 0)) := rfl
theorem p43_17 : vm_P 43 17 = some (vm_m43, (17, .aload_n 0, 1, 0, 0, 0)) := rfl
theorem p43_18 : vm_P 43 18 = some (vm_m43, (18, .new 20, 3, 7, 0, 0)) := rfl
theorem p43_21 : vm_P 43 21 = some (vm_m43, (21, .dup, 1, 0, 0, 0)) := rfl
theorem p43_22 : vm_P 43 22 = some (vm_m43, (22, .invokespecial 22, 3, 4, 70, 0)) := rfl
theorem p43_25 : vm_P 43 25 = some (vm_m43, (25, .putfield 23, 3, 4, 2, 0)) := rfl
theorem p43_28 : vm_P 43 28 = some (vm_m43, (28, .aload_n 0, 1, 0, 0, 0)) := rfl
theorem p43_29 : vm_P 43 29 = some (vm_m43, (29, .new 27, 3, 0, 0, 0)) := rfl
theorem p43_32 : vm_P 43 32 = some (vm_m43, (32, .dup, 1, 0, 0, 0)) := rfl
theorem p43_33 : vm_P 43 33 = some (vm_m43, (33, .aload_n 0, 1, 0, 0, 0)) := rfl
theorem p43_34 : vm_P 43 34 = some (vm_m43, (34, .getfield 23, 3, 4, 2, 0)) := rfl
theorem p43_37 : vm_P 43 37 = some (vm_m43, (37, .invokespecial 29, 3, 2, 0, 1)) := rfl
theorem p43_40 : vm_P 43 40 = some (vm_m43, (40, .putfield 32, 3, 4, 3, 0)) := rfl
theorem p43_43 : vm_P 43 43 = some (vm_m43, (43, .aload_n 0, 1, 0, 0, 0)) := rfl
theorem p43_44 : vm_P 43 44 = some (vm_m43, (44, .aload_n 1, 1, 0, 0, 0)) := rfl
theorem p43_45 : vm_P 43 45 = some (vm_m43, (45, .putfield 36, 3, 4, 0, 0)) := rfl
theorem p43_48 : vm_P 43 48 = some (vm_m43, (48, .return_, 1, 0, 0, 0)) := rfl
theorem p44_0 : vm_P 44 0 = some (vm_m44, (0, .aload_n 0, 1, 0, 0, 0)) := rfl
theorem p44_1 : vm_P 44 1 = some (vm_m44, (1, .getfield 23, 3, 4, 2, 0)) := rfl
theorem p44_4 : vm_P 44 4 = some (vm_m44, (4, .areturn, 1, 0, 0, 0)) := rfl
theorem p45_0 : vm_P 45 0 = some (vm_m45, (0, .aload_n 0, 1, 0, 0, 0)) := rfl
theorem p45_1 : vm_P 45 1 = some (vm_m45, (1, .getfield 32, 3, 4, 3, 0)) := rfl
theorem p45_4 : vm_P 45 4 = some (vm_m45, (4, .areturn, 1, 0, 0, 0)) := rfl
theorem p46_0 : vm_P 46 0 = some (vm_m46, (0, .aload_n 0, 1, 0, 0, 0)) := rfl
theorem p46_1 : vm_P 46 1 = some (vm_m46, (1, .getfield 32, 3, 4, 3, 0)) := rfl
theorem p46_4 : vm_P 46 4 = some (vm_m46, (4, .invokevirtual 39, 3, 0, 4, 0)) := rfl
theorem p46_7 : vm_P 46 7 = some (vm_m46, (7, .iconst 1, 1, 0, 0, 0)) := rfl
theorem p46_8 : vm_P 46 8 = some (vm_m46, (8, .if_icmp .lt 17, 3, 0, 0, 0)) := rfl
theorem p46_11 : vm_P 46 11 = some (vm_m46, (11, .aload_n 0, 1, 0, 0, 0)) := rfl
theorem p46_12 : vm_P 46 12 = some (vm_m46, (12, .getfield 23, 3, 4, 2, 0)) := rfl
theorem p46_15 : vm_P 46 15 = some (vm_m46, (15, .invokevirtual 43, 3, 0, 77, 700)) := rfl
theorem p46_18 : vm_P 46 18 = some (vm_m46, (18, .ifCond .eq 7, 3, 0, 0, 0)) := rfl
theorem p46_21 : vm_P 46 21 = some (vm_m46, (21, .iconst 1, 1, 0, 0, 0)) := rfl
theorem p46_22 : vm_P 46 22 = some (vm_m46, (22, .goto 4, 3, 0, 0, 0)) := rfl
theorem p46_25 : vm_P 46 25 = some (vm_m46, (25, .iconst 0, 1, 0, 0, 0)) := rfl
theorem p46_26 : vm_P 46 26 = some (vm_m46, (26, .ireturn, 1, 0, 0, 0)) := rfl
theorem p47_0 : vm_P 47 0 = some (vm_m47, (0, .aload_n 0, 1, 0, 0, 0)) := rfl
theorem p47_1 : vm_P 47 1 = some (vm_m47, (1, .getfield 23, 3, 4, 2, 0)) := rfl
theorem p47_4 : vm_P 47 4 = some (vm_m47, (4, .invokevirtual 47, 3, 0, 71, 700)) := rfl
theorem p47_7 : vm_P 47 7 = some (vm_m47, (7, .aload_n 0, 1, 0, 0, 0)) := rfl
theorem p47_8 : vm_P 47 8 = some (vm_m47, (8, .getfield 32, 3, 4, 3, 0)) := rfl
theorem p47_11 : vm_P 47 11 = some (vm_m47, (11, .invokevirtual 50, 3, 0, 1, 0)) := rfl
theorem p47_14 : vm_P 47 14 = some (vm_m47, (14, .aload_n 0, 1, 0, 0, 0)) := rfl
theorem p47_15 : vm_P 47 15 = some (vm_m47, (15, .iconst 0, 1, 0, 0, 0)) := rfl
theorem p47_16 : vm_P 47 16 = some (vm_m47, (16, .putfield 51, 3, 4, 4, 0)) := rfl
theorem p47_19 : vm_P 47 19 = some (vm_m47, (19, .iconst 0, 1, 0, 0, 0)) := rfl
theorem p47_20 : vm_P 47 20 = some (vm_m47, (20, .istore_n 1, 1, 0, 0, 0)) := rfl
theorem p47_21 : vm_P 47 21 = some (vm_m47, (21, .iload_n 1, 1, 0, 0, 0)) := rfl
theorem p47_22 : vm_P 47 22 = some (vm_m47, (22, .sipush 200, 3, 0, 0, 0)) := rfl
theorem p47_25 : vm_P 47 25 = some (vm_m47, (25, .if_icmp .ge 37, 3, 0, 0, 0)) := rfl
theorem p47_28 : vm_P 47 28 = some (vm_m47, (28, .aload_n 0, 1, 0, 0, 0)) := rfl
theorem p47_29 : vm_P 47 29 = some (vm_m47, (29, .getfield 51, 3, 4, 4, 0)) := rfl
theorem p47_32 : vm_P 47 32 = some (vm_m47, (32, .aload_n 0, 1, 0, 0, 0)) := rfl
theorem p47_33 : vm_P 47 33 = some (vm_m47, (33, .getfield 36, 3, 4, 0, 0)) := rfl
theorem p47_36 : vm_P 47 36 = some (vm_m47, (36, .invokevirtual 55, 3, 0, 55, 500)) := rfl
theorem p47_39 : vm_P 47 39 = some (vm_m47, (39, .if_icmp .ge 23, 3, 0, 0, 0)) := rfl
theorem p47_42 : vm_P 47 42 = some (vm_m47, (42, .aload_n 0, 1, 0, 0, 0)) := rfl
theorem p47_43 : vm_P 47 43 = some (vm_m47, (43, .getfield 51, 3, 4, 4, 0)) := rfl
theorem p47_46 : vm_P 47 46 = some (vm_m47, (46, .istore_n 2, 1, 0, 0, 0)) := rfl
theorem p47_47 : vm_P 47 47 = some (vm_m47, (47, .aload_n 0, 1, 0, 0, 0)) := rfl
theorem p47_48 : vm_P 47 48 = some (vm_m47, (48, .invokevirtual 58, 3, 0, 48, 400)) := rfl
theorem p47_51 : vm_P 47 51 = some (vm_m47, (51, .ifCond .ne 5, 3, 0, 0, 0)) := rfl
theorem p47_54 : vm_P 47 54 = some (vm_m47, (54, .iload_n 2, 1, 0, 0, 0)) := rfl
theorem p47_55 : vm_P 47 55 = some (vm_m47, (55, .ireturn, 1, 0, 0, 0)) := rfl
theorem p47_56 : vm_P 47 56 = some (vm_m47, (56, .iinc 1 1, 3, 0, 0, 0)) := rfl
theorem p47_59 : vm_P 47 59 = some (vm_m47, (59, .goto (-38), 3, 0, 0, 0)) := rfl
theorem p47_62 : vm_P 47 62 = some (vm_m47, (62, .bipush (-4), 2, 0, 0, 0)) := rfl
theorem p47_64 : vm_P 47 64 = some (vm_m47, (64, .ireturn, 1, 0, 0, 0)) := rfl
theorem p48_0 : vm_P 48 0 = some (vm_m48, (0, .aload_n 0, 1, 0, 0, 0)) := rfl
theorem p48_1 : vm_P 48 1 = some (vm_m48, (1, .invokevirtual 61, 3, 0, 52, 400)) := rfl
theorem p48_4 : vm_P 48 4 = some (vm_m48, (4, .lookupswitch 125 #[(99, 96), (114, 64), (116, 36)], 36, 0, 0, 0)) := rfl
theorem p48_40 : vm_P 48 40 = some (vm_m48, (40, .aload_n 0, 1, 0, 0, 0)) := rfl
theorem p48_41 : vm_P 48 41 = some (vm_m48, (41, .iconst 4, 1, 0, 0, 0)) := rfl
theorem p48_42 : vm_P 48 42 = some (vm_m48, (42, .invokevirtual 64, 3, 0, 49, 401)) := rfl
theorem p48_45 : vm_P 48 45 = some (vm_m48, (45, .ifCond .eq 21, 3, 0, 0, 0)) := rfl
theorem p48_48 : vm_P 48 48 = some (vm_m48, (48, .aload_n 0, 1, 0, 0, 0)) := rfl
theorem p48_49 : vm_P 48 49 = some (vm_m48, (49, .getfield 23, 3, 4, 2, 0)) := rfl
theorem p48_52 : vm_P 48 52 = some (vm_m48, (52, .aload_n 0, 1, 0, 0, 0)) := rfl
theorem p48_53 : vm_P 48 53 = some (vm_m48, (53, .getfield 16, 3, 4, 1, 0)) := rfl
theorem p48_56 : vm_P 48 56 = some (vm_m48, (56, .invokevirtual 68, 3, 0, 73, 701)) := rfl
theorem p48_59 : vm_P 48 59 = some (vm_m48, (59, .ifCond .eq 7, 3, 0, 0, 0)) := rfl
theorem p48_62 : vm_P 48 62 = some (vm_m48, (62, .iconst 1, 1, 0, 0, 0)) := rfl
theorem p48_63 : vm_P 48 63 = some (vm_m48, (63, .goto 4, 3, 0, 0, 0)) := rfl
theorem p48_66 : vm_P 48 66 = some (vm_m48, (66, .iconst 0, 1, 0, 0, 0)) := rfl
theorem p48_67 : vm_P 48 67 = some (vm_m48, (67, .ireturn, 1, 0, 0, 0)) := rfl
theorem p48_68 : vm_P 48 68 = some (vm_m48, (68, .aload_n 0, 1, 0, 0, 0)) := rfl
theorem p48_69 : vm_P 48 69 = some (vm_m48, (69, .iconst 1, 1, 0, 0, 0)) := rfl
theorem p48_70 : vm_P 48 70 = some (vm_m48, (70, .invokevirtual 72, 3, 0, 50, 401)) := rfl
theorem p48_73 : vm_P 48 73 = some (vm_m48, (73, .ifCond .eq 25, 3, 0, 0, 0)) := rfl
theorem p48_76 : vm_P 48 76 = some (vm_m48, (76, .aload_n 0, 1, 0, 0, 0)) := rfl
theorem p48_77 : vm_P 48 77 = some (vm_m48, (77, .getfield 23, 3, 4, 2, 0)) := rfl
theorem p48_80 : vm_P 48 80 = some (vm_m48, (80, .aload_n 0, 1, 0, 0, 0)) := rfl
theorem p48_81 : vm_P 48 81 = some (vm_m48, (81, .getfield 16, 3, 4, 1, 0)) := rfl
theorem p48_84 : vm_P 48 84 = some (vm_m48, (84, .iconst 0, 1, 0, 0, 0)) := rfl
theorem p48_85 : vm_P 48 85 = some (vm_m48, (85, .invokevirtual 75, 3, 0, 59, 501)) := rfl
theorem p48_88 : vm_P 48 88 = some (vm_m48, (88, .invokevirtual 79, 3, 0, 74, 701)) := rfl
theorem p48_91 : vm_P 48 91 = some (vm_m48, (91, .ifCond .eq 7, 3, 0, 0, 0)) := rfl
theorem p48_94 : vm_P 48 94 = some (vm_m48, (94, .iconst 1, 1, 0, 0, 0)) := rfl
theorem p48_95 : vm_P 48 95 = some (vm_m48, (95, .goto 4, 3, 0, 0, 0)) := rfl
theorem p48_98 : vm_P 48 98 = some (vm_m48, (98, .iconst 0, 1, 0, 0, 0)) := rfl
theorem p48_99 : vm_P 48 99 = some (vm_m48, (99, .ireturn, 1, 0, 0, 0)) := rfl
theorem p48_100 : vm_P 48 100 = some (vm_m48, (100, .aload_n 0, 1, 0, 0, 0)) := rfl
theorem p48_101 : vm_P 48 101 = some (vm_m48, (101, .bipush 6, 2, 0, 0, 0)) := rfl
theorem p48_103 : vm_P 48 103 = some (vm_m48, (103, .invokevirtual 72, 3, 0, 50, 401)) := rfl
theorem p48_106 : vm_P 48 106 = some (vm_m48, (106, .ifCond .eq 21, 3, 0, 0, 0)) := rfl
theorem p48_109 : vm_P 48 109 = some (vm_m48, (109, .aload_n 0, 1, 0, 0, 0)) := rfl
theorem p48_110 : vm_P 48 110 = some (vm_m48, (110, .getfield 32, 3, 4, 3, 0)) := rfl
theorem p48_113 : vm_P 48 113 = some (vm_m48, (113, .aload_n 0, 1, 0, 0, 0)) := rfl
theorem p48_114 : vm_P 48 114 = some (vm_m48, (114, .getfield 16, 3, 4, 1, 0)) := rfl
theorem p48_117 : vm_P 48 117 = some (vm_m48, (117, .invokevirtual 82, 3, 0, 3, 1)) := rfl
theorem p48_120 : vm_P 48 120 = some (vm_m48, (120, .ifCond .eq 7, 3, 0, 0, 0)) := rfl
theorem p48_123 : vm_P 48 123 = some (vm_m48, (123, .iconst 1, 1, 0, 0, 0)) := rfl
theorem p48_124 : vm_P 48 124 = some (vm_m48, (124, .goto 4, 3, 0, 0, 0)) := rfl
theorem p48_127 : vm_P 48 127 = some (vm_m48, (127, .iconst 0, 1, 0, 0, 0)) := rfl
theorem p48_128 : vm_P 48 128 = some (vm_m48, (128, .ireturn, 1, 0, 0, 0)) := rfl
theorem p48_129 : vm_P 48 129 = some (vm_m48, (129, .iconst 0, 1, 0, 0, 0)) := rfl
theorem p48_130 : vm_P 48 130 = some (vm_m48, (130, .ireturn, 1, 0, 0, 0)) := rfl
theorem p49_0 : vm_P 49 0 = some (vm_m49, (0, .aload_n 0, 1, 0, 0, 0)) := rfl
theorem p49_1 : vm_P 49 1 = some (vm_m49, (1, .getfield 16, 3, 4, 1, 0)) := rfl
theorem p49_4 : vm_P 49 4 = some (vm_m49, (4, .invokevirtual 85, 3, 0, 57, 500)) := rfl
theorem p49_7 : vm_P 49 7 = some (vm_m49, (7, .iconst 0, 1, 0, 0, 0)) := rfl
theorem p49_8 : vm_P 49 8 = some (vm_m49, (8, .istore_n 2, 1, 0, 0, 0)) := rfl
theorem p49_9 : vm_P 49 9 = some (vm_m49, (9, .iload_n 2, 1, 0, 0, 0)) := rfl
theorem p49_10 : vm_P 49 10 = some (vm_m49, (10, .iload_n 1, 1, 0, 0, 0)) := rfl
theorem p49_11 : vm_P 49 11 = some (vm_m49, (11, .if_icmp .ge 33, 3, 0, 0, 0)) := rfl
theorem p49_14 : vm_P 49 14 = some (vm_m49, (14, .aload_n 0, 1, 0, 0, 0)) := rfl
theorem p49_15 : vm_P 49 15 = some (vm_m49, (15, .invokevirtual 61, 3, 0, 52, 400)) := rfl
theorem p49_18 : vm_P 49 18 = some (vm_m49, (18, .invokestatic 86, 3, 1, 53, 1)) := rfl
theorem p49_21 : vm_P 49 21 = some (vm_m49, (21, .istore_n 3, 1, 0, 0, 0)) := rfl
theorem p49_22 : vm_P 49 22 = some (vm_m49, (22, .iload_n 3, 1, 0, 0, 0)) := rfl
theorem p49_23 : vm_P 49 23 = some (vm_m49, (23, .bipush (-4), 2, 0, 0, 0)) := rfl
theorem p49_25 : vm_P 49 25 = some (vm_m49, (25, .if_icmp .ne 5, 3, 0, 0, 0)) := rfl
theorem p49_28 : vm_P 49 28 = some (vm_m49, (28, .iconst 0, 1, 0, 0, 0)) := rfl
theorem p49_29 : vm_P 49 29 = some (vm_m49, (29, .ireturn, 1, 0, 0, 0)) := rfl
theorem p49_30 : vm_P 49 30 = some (vm_m49, (30, .aload_n 0, 1, 0, 0, 0)) := rfl
theorem p49_31 : vm_P 49 31 = some (vm_m49, (31, .getfield 16, 3, 4, 1, 0)) := rfl
theorem p49_34 : vm_P 49 34 = some (vm_m49, (34, .iload_n 3, 1, 0, 0, 0)) := rfl
theorem p49_35 : vm_P 49 35 = some (vm_m49, (35, .invokevirtual 89, 3, 0, 58, 501)) := rfl
theorem p49_38 : vm_P 49 38 = some (vm_m49, (38, .iinc 2 1, 3, 0, 0, 0)) := rfl
theorem p49_41 : vm_P 49 41 = some (vm_m49, (41, .goto (-32), 3, 0, 0, 0)) := rfl
theorem p49_44 : vm_P 49 44 = some (vm_m49, (44, .aload_n 0, 1, 0, 0, 0)) := rfl
theorem p49_45 : vm_P 49 45 = some (vm_m49, (45, .invokevirtual 61, 3, 0, 52, 400)) := rfl
theorem p49_48 : vm_P 49 48 = some (vm_m49, (48, .bipush 59, 2, 0, 0, 0)) := rfl
theorem p49_50 : vm_P 49 50 = some (vm_m49, (50, .if_icmp .ne 7, 3, 0, 0, 0)) := rfl
theorem p49_53 : vm_P 49 53 = some (vm_m49, (53, .iconst 1, 1, 0, 0, 0)) := rfl
theorem p49_54 : vm_P 49 54 = some (vm_m49, (54, .goto 4, 3, 0, 0, 0)) := rfl
theorem p49_57 : vm_P 49 57 = some (vm_m49, (57, .iconst 0, 1, 0, 0, 0)) := rfl
theorem p49_58 : vm_P 49 58 = some (vm_m49, (58, .ireturn, 1, 0, 0, 0)) := rfl
theorem p50_0 : vm_P 50 0 = some (vm_m50, (0, .aload_n 0, 1, 0, 0, 0)) := rfl
theorem p50_1 : vm_P 50 1 = some (vm_m50, (1, .getfield 16, 3, 4, 1, 0)) := rfl
theorem p50_4 : vm_P 50 4 = some (vm_m50, (4, .invokevirtual 85, 3, 0, 57, 500)) := rfl
theorem p50_7 : vm_P 50 7 = some (vm_m50, (7, .iconst 0, 1, 0, 0, 0)) := rfl
theorem p50_8 : vm_P 50 8 = some (vm_m50, (8, .istore_n 2, 1, 0, 0, 0)) := rfl
theorem p50_9 : vm_P 50 9 = some (vm_m50, (9, .iload_n 2, 1, 0, 0, 0)) := rfl
theorem p50_10 : vm_P 50 10 = some (vm_m50, (10, .iload_n 1, 1, 0, 0, 0)) := rfl
theorem p50_11 : vm_P 50 11 = some (vm_m50, (11, .if_icmp .ge 55, 3, 0, 0, 0)) := rfl
theorem p50_14 : vm_P 50 14 = some (vm_m50, (14, .aload_n 0, 1, 0, 0, 0)) := rfl
theorem p50_15 : vm_P 50 15 = some (vm_m50, (15, .invokevirtual 92, 3, 0, 51, 400)) := rfl
theorem p50_18 : vm_P 50 18 = some (vm_m50, (18, .istore_n 3, 1, 0, 0, 0)) := rfl
theorem p50_19 : vm_P 50 19 = some (vm_m50, (19, .iload_n 2, 1, 0, 0, 0)) := rfl
theorem p50_20 : vm_P 50 20 = some (vm_m50, (20, .iload_n 1, 1, 0, 0, 0)) := rfl
theorem p50_21 : vm_P 50 21 = some (vm_m50, (21, .iconst 1, 1, 0, 0, 0)) := rfl
theorem p50_22 : vm_P 50 22 = some (vm_m50, (22, .isub, 1, 0, 0, 0)) := rfl
theorem p50_23 : vm_P 50 23 = some (vm_m50, (23, .if_icmp .ge 8, 3, 0, 0, 0)) := rfl
theorem p50_26 : vm_P 50 26 = some (vm_m50, (26, .bipush 44, 2, 0, 0, 0)) := rfl
theorem p50_28 : vm_P 50 28 = some (vm_m50, (28, .goto 5, 3, 0, 0, 0)) := rfl
theorem p50_31 : vm_P 50 31 = some (vm_m50, (31, .bipush 59, 2, 0, 0, 0)) := rfl
theorem p50_33 : vm_P 50 33 = some (vm_m50, (33, .istore 4, 2, 0, 0, 0)) := rfl
theorem p50_35 : vm_P 50 35 = some (vm_m50, (35, .iload_n 3, 1, 0, 0, 0)) := rfl
theorem p50_36 : vm_P 50 36 = some (vm_m50, (36, .bipush (-4), 2, 0, 0, 0)) := rfl
theorem p50_38 : vm_P 50 38 = some (vm_m50, (38, .if_icmp .eq 12, 3, 0, 0, 0)) := rfl
theorem p50_41 : vm_P 50 41 = some (vm_m50, (41, .aload_n 0, 1, 0, 0, 0)) := rfl
theorem p50_42 : vm_P 50 42 = some (vm_m50, (42, .invokevirtual 61, 3, 0, 52, 400)) := rfl
theorem p50_45 : vm_P 50 45 = some (vm_m50, (45, .iload 4, 2, 0, 0, 0)) := rfl
theorem p50_47 : vm_P 50 47 = some (vm_m50, (47, .if_icmp .eq 5, 3, 0, 0, 0)) := rfl
theorem p50_50 : vm_P 50 50 = some (vm_m50, (50, .iconst 0, 1, 0, 0, 0)) := rfl
theorem p50_51 : vm_P 50 51 = some (vm_m50, (51, .ireturn, 1, 0, 0, 0)) := rfl
theorem p50_52 : vm_P 50 52 = some (vm_m50, (52, .aload_n 0, 1, 0, 0, 0)) := rfl
theorem p50_53 : vm_P 50 53 = some (vm_m50, (53, .getfield 16, 3, 4, 1, 0)) := rfl
theorem p50_56 : vm_P 50 56 = some (vm_m50, (56, .iload_n 3, 1, 0, 0, 0)) := rfl
theorem p50_57 : vm_P 50 57 = some (vm_m50, (57, .invokevirtual 89, 3, 0, 58, 501)) := rfl
theorem p50_60 : vm_P 50 60 = some (vm_m50, (60, .iinc 2 1, 3, 0, 0, 0)) := rfl
theorem p50_63 : vm_P 50 63 = some (vm_m50, (63, .goto (-54), 3, 0, 0, 0)) := rfl
theorem p50_66 : vm_P 50 66 = some (vm_m50, (66, .iconst 1, 1, 0, 0, 0)) := rfl
theorem p50_67 : vm_P 50 67 = some (vm_m50, (67, .ireturn, 1, 0, 0, 0)) := rfl
theorem p51_0 : vm_P 51 0 = some (vm_m51, (0, .aload_n 0, 1, 0, 0, 0)) := rfl
theorem p51_1 : vm_P 51 1 = some (vm_m51, (1, .getfield 36, 3, 4, 0, 0)) := rfl
theorem p51_4 : vm_P 51 4 = some (vm_m51, (4, .aload_n 0, 1, 0, 0, 0)) := rfl
theorem p51_5 : vm_P 51 5 = some (vm_m51, (5, .getfield 51, 3, 4, 4, 0)) := rfl
theorem p51_8 : vm_P 51 8 = some (vm_m51, (8, .invokevirtual 75, 3, 0, 59, 501)) := rfl
theorem p51_11 : vm_P 51 11 = some (vm_m51, (11, .invokestatic 86, 3, 1, 53, 1)) := rfl
theorem p51_14 : vm_P 51 14 = some (vm_m51, (14, .istore_n 1, 1, 0, 0, 0)) := rfl
theorem p51_15 : vm_P 51 15 = some (vm_m51, (15, .aload_n 0, 1, 0, 0, 0)) := rfl
theorem p51_16 : vm_P 51 16 = some (vm_m51, (16, .getfield 36, 3, 4, 0, 0)) := rfl
theorem p51_19 : vm_P 51 19 = some (vm_m51, (19, .aload_n 0, 1, 0, 0, 0)) := rfl
theorem p51_20 : vm_P 51 20 = some (vm_m51, (20, .getfield 51, 3, 4, 4, 0)) := rfl
theorem p51_23 : vm_P 51 23 = some (vm_m51, (23, .iconst 1, 1, 0, 0, 0)) := rfl
theorem p51_24 : vm_P 51 24 = some (vm_m51, (24, .iadd, 1, 0, 0, 0)) := rfl
theorem p51_25 : vm_P 51 25 = some (vm_m51, (25, .invokevirtual 75, 3, 0, 59, 501)) := rfl
theorem p51_28 : vm_P 51 28 = some (vm_m51, (28, .invokestatic 86, 3, 1, 53, 1)) := rfl
theorem p51_31 : vm_P 51 31 = some (vm_m51, (31, .istore_n 2, 1, 0, 0, 0)) := rfl
theorem p51_32 : vm_P 51 32 = some (vm_m51, (32, .iload_n 1, 1, 0, 0, 0)) := rfl
theorem p51_33 : vm_P 51 33 = some (vm_m51, (33, .bipush (-4), 2, 0, 0, 0)) := rfl
theorem p51_35 : vm_P 51 35 = some (vm_m51, (35, .if_icmp .eq 9, 3, 0, 0, 0)) := rfl
theorem p51_38 : vm_P 51 38 = some (vm_m51, (38, .iload_n 2, 1, 0, 0, 0)) := rfl
theorem p51_39 : vm_P 51 39 = some (vm_m51, (39, .bipush (-4), 2, 0, 0, 0)) := rfl
theorem p51_41 : vm_P 51 41 = some (vm_m51, (41, .if_icmp .ne 15, 3, 0, 0, 0)) := rfl
theorem p51_44 : vm_P 51 44 = some (vm_m51, (44, .aload_n 0, 1, 0, 0, 0)) := rfl
theorem p51_45 : vm_P 51 45 = some (vm_m51, (45, .dup, 1, 0, 0, 0)) := rfl
theorem p51_46 : vm_P 51 46 = some (vm_m51, (46, .getfield 51, 3, 4, 4, 0)) := rfl
theorem p51_49 : vm_P 51 49 = some (vm_m51, (49, .iconst 1, 1, 0, 0, 0)) := rfl
theorem p51_50 : vm_P 51 50 = some (vm_m51, (50, .iadd, 1, 0, 0, 0)) := rfl
theorem p51_51 : vm_P 51 51 = some (vm_m51, (51, .putfield 51, 3, 4, 4, 0)) := rfl
theorem p51_54 : vm_P 51 54 = some (vm_m51, (54, .iload_n 1, 1, 0, 0, 0)) := rfl
theorem p51_55 : vm_P 51 55 = some (vm_m51, (55, .ireturn, 1, 0, 0, 0)) := rfl
theorem p51_56 : vm_P 51 56 = some (vm_m51, (56, .aload_n 0, 1, 0, 0, 0)) := rfl
theorem p51_57 : vm_P 51 57 = some (vm_m51, (57, .dup, 1, 0, 0, 0)) := rfl
theorem p51_58 : vm_P 51 58 = some (vm_m51, (58, .getfield 51, 3, 4, 4, 0)) := rfl
theorem p51_61 : vm_P 51 61 = some (vm_m51, (61, .iconst 2, 1, 0, 0, 0)) := rfl
theorem p51_62 : vm_P 51 62 = some (vm_m51, (62, .iadd, 1, 0, 0, 0)) := rfl
theorem p51_63 : vm_P 51 63 = some (vm_m51, (63, .putfield 51, 3, 4, 4, 0)) := rfl
theorem p51_66 : vm_P 51 66 = some (vm_m51, (66, .bipush 10, 2, 0, 0, 0)) := rfl
theorem p51_68 : vm_P 51 68 = some (vm_m51, (68, .iload_n 1, 1, 0, 0, 0)) := rfl
theorem p51_69 : vm_P 51 69 = some (vm_m51, (69, .imul, 1, 0, 0, 0)) := rfl
theorem p51_70 : vm_P 51 70 = some (vm_m51, (70, .iload_n 2, 1, 0, 0, 0)) := rfl
theorem p51_71 : vm_P 51 71 = some (vm_m51, (71, .iadd, 1, 0, 0, 0)) := rfl
theorem p51_72 : vm_P 51 72 = some (vm_m51, (72, .ireturn, 1, 0, 0, 0)) := rfl
theorem p52_0 : vm_P 52 0 = some (vm_m52, (0, .aload_n 0, 1, 0, 0, 0)) := rfl
theorem p52_1 : vm_P 52 1 = some (vm_m52, (1, .getfield 36, 3, 4, 0, 0)) := rfl
theorem p52_4 : vm_P 52 4 = some (vm_m52, (4, .aload_n 0, 1, 0, 0, 0)) := rfl
theorem p52_5 : vm_P 52 5 = some (vm_m52, (5, .getfield 51, 3, 4, 4, 0)) := rfl
theorem p52_8 : vm_P 52 8 = some (vm_m52, (8, .invokevirtual 75, 3, 0, 59, 501)) := rfl
theorem p52_11 : vm_P 52 11 = some (vm_m52, (11, .istore_n 1, 1, 0, 0, 0)) := rfl
theorem p52_12 : vm_P 52 12 = some (vm_m52, (12, .aload_n 0, 1, 0, 0, 0)) := rfl
theorem p52_13 : vm_P 52 13 = some (vm_m52, (13, .dup, 1, 0, 0, 0)) := rfl
theorem p52_14 : vm_P 52 14 = some (vm_m52, (14, .getfield 51, 3, 4, 4, 0)) := rfl
theorem p52_17 : vm_P 52 17 = some (vm_m52, (17, .iconst 1, 1, 0, 0, 0)) := rfl
theorem p52_18 : vm_P 52 18 = some (vm_m52, (18, .iadd, 1, 0, 0, 0)) := rfl
theorem p52_19 : vm_P 52 19 = some (vm_m52, (19, .putfield 51, 3, 4, 4, 0)) := rfl
theorem p52_22 : vm_P 52 22 = some (vm_m52, (22, .iload_n 1, 1, 0, 0, 0)) := rfl
theorem p52_23 : vm_P 52 23 = some (vm_m52, (23, .ireturn, 1, 0, 0, 0)) := rfl
theorem p53_0 : vm_P 53 0 = some (vm_m53, (0, .iload_n 0, 1, 0, 0, 0)) := rfl
theorem p53_1 : vm_P 53 1 = some (vm_m53, (1, .bipush 48, 2, 0, 0, 0)) := rfl
theorem p53_3 : vm_P 53 3 = some (vm_m53, (3, .if_icmp .lt 16, 3, 0, 0, 0)) := rfl
theorem p53_6 : vm_P 53 6 = some (vm_m53, (6, .iload_n 0, 1, 0, 0, 0)) := rfl
theorem p53_7 : vm_P 53 7 = some (vm_m53, (7, .bipush 57, 2, 0, 0, 0)) := rfl
theorem p53_9 : vm_P 53 9 = some (vm_m53, (9, .if_icmp .gt 10, 3, 0, 0, 0)) := rfl
theorem p53_12 : vm_P 53 12 = some (vm_m53, (12, .iload_n 0, 1, 0, 0, 0)) := rfl
theorem p53_13 : vm_P 53 13 = some (vm_m53, (13, .bipush 48, 2, 0, 0, 0)) := rfl
theorem p53_15 : vm_P 53 15 = some (vm_m53, (15, .isub, 1, 0, 0, 0)) := rfl
theorem p53_16 : vm_P 53 16 = some (vm_m53, (16, .goto 5, 3, 0, 0, 0)) := rfl
theorem p53_19 : vm_P 53 19 = some (vm_m53, (19, .bipush (-4), 2, 0, 0, 0)) := rfl
theorem p53_21 : vm_P 53 21 = some (vm_m53, (21, .ireturn, 1, 0, 0, 0)) := rfl
theorem p54_0 : vm_P 54 0 = some (vm_m54, (0, .aload_n 0, 1, 0, 0, 0)) := rfl
theorem p54_1 : vm_P 54 1 = some (vm_m54, (1, .invokespecial 3, 3, 5, 0, 0)) := rfl
theorem p54_4 : vm_P 54 4 = some (vm_m54, (4, .aload_n 0, 1, 0, 0, 0)) := rfl
theorem p54_5 : vm_P 54 5 = some (vm_m54, (5, .iconst 0, 1, 0, 0, 0)) := rfl
theorem p54_6 : vm_P 54 6 = some (vm_m54, (6, .iload_n 1, 1, 0, 0, 0)) := rfl
theorem p54_7 : vm_P 54 7 = some (vm_m54, (7, .invokestatic 9, 3, 1, 202, 2)) := rfl
theorem p54_10 : vm_P 54 10 = some (vm_m54, (10, .newarray .int, 2, 0, 0, 0)) := rfl
theorem p54_12 : vm_P 54 12 = some (vm_m54, (12, .putfield 15, 3, 5, 0, 0)) := rfl
theorem p54_15 : vm_P 54 15 = some (vm_m54, (15, .return_, 1, 0, 0, 0)) := rfl
theorem p55_0 : vm_P 55 0 = some (vm_m55, (0, .aload_n 0, 1, 0, 0, 0)) := rfl
theorem p55_1 : vm_P 55 1 = some (vm_m55, (1, .getfield 21, 3, 5, 1, 0)) := rfl
theorem p55_4 : vm_P 55 4 = some (vm_m55, (4, .ireturn, 1, 0, 0, 0)) := rfl
theorem p56_0 : vm_P 56 0 = some (vm_m56, (0, .aload_n 0, 1, 0, 0, 0)) := rfl
theorem p56_1 : vm_P 56 1 = some (vm_m56, (1, .getfield 21, 3, 5, 1, 0)) := rfl
theorem p56_4 : vm_P 56 4 = some (vm_m56, (4, .aload_n 0, 1, 0, 0, 0)) := rfl
theorem p56_5 : vm_P 56 5 = some (vm_m56, (5, .getfield 15, 3, 5, 0, 0)) := rfl
theorem p56_8 : vm_P 56 8 = some (vm_m56, (8, .arraylength, 1, 0, 0, 0)) := rfl
theorem p56_9 : vm_P 56 9 = some (vm_m56, (9, .if_icmp .lt 7, 3, 0, 0, 0)) := rfl
theorem p56_12 : vm_P 56 12 = some (vm_m56, (12, .iconst 1, 1, 0, 0, 0)) := rfl
theorem p56_13 : vm_P 56 13 = some (vm_m56, (13, .goto 4, 3, 0, 0, 0)) := rfl
theorem p56_16 : vm_P 56 16 = some (vm_m56, (16, .iconst 0, 1, 0, 0, 0)) := rfl
theorem p56_17 : vm_P 56 17 = some (vm_m56, (17, .ireturn, 1, 0, 0, 0)) := rfl
theorem p57_0 : vm_P 57 0 = some (vm_m57, (0, .aload_n 0, 1, 0, 0, 0)) := rfl
theorem p57_1 : vm_P 57 1 = some (vm_m57, (1, .iconst 0, 1, 0, 0, 0)) := rfl
theorem p57_2 : vm_P 57 2 = some (vm_m57, (2, .putfield 21, 3, 5, 1, 0)) := rfl
theorem p57_5 : vm_P 57 5 = some (vm_m57, (5, .return_, 1, 0, 0, 0)) := rfl
theorem p58_0 : vm_P 58 0 = some (vm_m58, (0, .aload_n 0, 1, 0, 0, 0)) := rfl
theorem p58_1 : vm_P 58 1 = some (vm_m58, (1, .getfield 21, 3, 5, 1, 0)) := rfl
theorem p58_4 : vm_P 58 4 = some (vm_m58, (4, .ifCond .lt 35, 3, 0, 0, 0)) := rfl
theorem p58_7 : vm_P 58 7 = some (vm_m58, (7, .aload_n 0, 1, 0, 0, 0)) := rfl
theorem p58_8 : vm_P 58 8 = some (vm_m58, (8, .getfield 21, 3, 5, 1, 0)) := rfl
theorem p58_11 : vm_P 58 11 = some (vm_m58, (11, .aload_n 0, 1, 0, 0, 0)) := rfl
theorem p58_12 : vm_P 58 12 = some (vm_m58, (12, .getfield 15, 3, 5, 0, 0)) := rfl
theorem p58_15 : vm_P 58 15 = some (vm_m58, (15, .arraylength, 1, 0, 0, 0)) := rfl
theorem p58_16 : vm_P 58 16 = some (vm_m58, (16, .if_icmp .ge 23, 3, 0, 0, 0)) := rfl
theorem p58_19 : vm_P 58 19 = some (vm_m58, (19, .aload_n 0, 1, 0, 0, 0)) := rfl
theorem p58_20 : vm_P 58 20 = some (vm_m58, (20, .getfield 15, 3, 5, 0, 0)) := rfl
theorem p58_23 : vm_P 58 23 = some (vm_m58, (23, .aload_n 0, 1, 0, 0, 0)) := rfl
theorem p58_24 : vm_P 58 24 = some (vm_m58, (24, .getfield 21, 3, 5, 1, 0)) := rfl
theorem p58_27 : vm_P 58 27 = some (vm_m58, (27, .iload_n 1, 1, 0, 0, 0)) := rfl
theorem p58_28 : vm_P 58 28 = some (vm_m58, (28, .iastore, 1, 0, 0, 0)) := rfl
theorem p58_29 : vm_P 58 29 = some (vm_m58, (29, .aload_n 0, 1, 0, 0, 0)) := rfl
theorem p58_30 : vm_P 58 30 = some (vm_m58, (30, .dup, 1, 0, 0, 0)) := rfl
theorem p58_31 : vm_P 58 31 = some (vm_m58, (31, .getfield 21, 3, 5, 1, 0)) := rfl
theorem p58_34 : vm_P 58 34 = some (vm_m58, (34, .iconst 1, 1, 0, 0, 0)) := rfl
theorem p58_35 : vm_P 58 35 = some (vm_m58, (35, .iadd, 1, 0, 0, 0)) := rfl
theorem p58_36 : vm_P 58 36 = some (vm_m58, (36, .putfield 21, 3, 5, 1, 0)) := rfl
theorem p58_39 : vm_P 58 39 = some (vm_m58, (39, .return_, 1, 0, 0, 0)) := rfl
theorem p59_0 : vm_P 59 0 = some (vm_m59, (0, .iload_n 1, 1, 0, 0, 0)) := rfl
theorem p59_1 : vm_P 59 1 = some (vm_m59, (1, .ifCond .lt 29, 3, 0, 0, 0)) := rfl
theorem p59_4 : vm_P 59 4 = some (vm_m59, (4, .iload_n 1, 1, 0, 0, 0)) := rfl
theorem p59_5 : vm_P 59 5 = some (vm_m59, (5, .aload_n 0, 1, 0, 0, 0)) := rfl
theorem p59_6 : vm_P 59 6 = some (vm_m59, (6, .getfield 21, 3, 5, 1, 0)) := rfl
theorem p59_9 : vm_P 59 9 = some (vm_m59, (9, .if_icmp .ge 21, 3, 0, 0, 0)) := rfl
theorem p59_12 : vm_P 59 12 = some (vm_m59, (12, .iload_n 1, 1, 0, 0, 0)) := rfl
theorem p59_13 : vm_P 59 13 = some (vm_m59, (13, .aload_n 0, 1, 0, 0, 0)) := rfl
theorem p59_14 : vm_P 59 14 = some (vm_m59, (14, .getfield 15, 3, 5, 0, 0)) := rfl
theorem p59_17 : vm_P 59 17 = some (vm_m59, (17, .arraylength, 1, 0, 0, 0)) := rfl
theorem p59_18 : vm_P 59 18 = some (vm_m59, (18, .if_icmp .ge 12, 3, 0, 0, 0)) := rfl
theorem p59_21 : vm_P 59 21 = some (vm_m59, (21, .aload_n 0, 1, 0, 0, 0)) := rfl
theorem p59_22 : vm_P 59 22 = some (vm_m59, (22, .getfield 15, 3, 5, 0, 0)) := rfl
theorem p59_25 : vm_P 59 25 = some (vm_m59, (25, .iload_n 1, 1, 0, 0, 0)) := rfl
theorem p59_26 : vm_P 59 26 = some (vm_m59, (26, .iaload, 1, 0, 0, 0)) := rfl
theorem p59_27 : vm_P 59 27 = some (vm_m59, (27, .goto 5, 3, 0, 0, 0)) := rfl
theorem p59_30 : vm_P 59 30 = some (vm_m59, (30, .bipush (-4), 2, 0, 0, 0)) := rfl
theorem p59_32 : vm_P 59 32 = some (vm_m59, (32, .ireturn, 1, 0, 0, 0)) := rfl
theorem p60_0 : vm_P 60 0 = some (vm_m60, (0, .iload_n 1, 1, 0, 0, 0)) := rfl
theorem p60_1 : vm_P 60 1 = some (vm_m60, (1, .ifCond .lt 27, 3, 0, 0, 0)) := rfl
theorem p60_4 : vm_P 60 4 = some (vm_m60, (4, .iload_n 1, 1, 0, 0, 0)) := rfl
theorem p60_5 : vm_P 60 5 = some (vm_m60, (5, .aload_n 0, 1, 0, 0, 0)) := rfl
theorem p60_6 : vm_P 60 6 = some (vm_m60, (6, .getfield 21, 3, 5, 1, 0)) := rfl
theorem p60_9 : vm_P 60 9 = some (vm_m60, (9, .if_icmp .ge 19, 3, 0, 0, 0)) := rfl
theorem p60_12 : vm_P 60 12 = some (vm_m60, (12, .iload_n 1, 1, 0, 0, 0)) := rfl
theorem p60_13 : vm_P 60 13 = some (vm_m60, (13, .aload_n 0, 1, 0, 0, 0)) := rfl
theorem p60_14 : vm_P 60 14 = some (vm_m60, (14, .getfield 15, 3, 5, 0, 0)) := rfl
theorem p60_17 : vm_P 60 17 = some (vm_m60, (17, .arraylength, 1, 0, 0, 0)) := rfl
theorem p60_18 : vm_P 60 18 = some (vm_m60, (18, .if_icmp .ge 10, 3, 0, 0, 0)) := rfl
theorem p60_21 : vm_P 60 21 = some (vm_m60, (21, .aload_n 0, 1, 0, 0, 0)) := rfl
theorem p60_22 : vm_P 60 22 = some (vm_m60, (22, .getfield 15, 3, 5, 0, 0)) := rfl
theorem p60_25 : vm_P 60 25 = some (vm_m60, (25, .iload_n 1, 1, 0, 0, 0)) := rfl
theorem p60_26 : vm_P 60 26 = some (vm_m60, (26, .iload_n 2, 1, 0, 0, 0)) := rfl
theorem p60_27 : vm_P 60 27 = some (vm_m60, (27, .iastore, 1, 0, 0, 0)) := rfl
theorem p60_28 : vm_P 60 28 = some (vm_m60, (28, .return_, 1, 0, 0, 0)) := rfl
theorem p61_0 : vm_P 61 0 = some (vm_m61, (0, .aload_n 0, 1, 0, 0, 0)) := rfl
theorem p61_1 : vm_P 61 1 = some (vm_m61, (1, .aload_n 0, 1, 0, 0, 0)) := rfl
theorem p61_2 : vm_P 61 2 = some (vm_m61, (2, .getfield 15, 3, 5, 0, 0)) := rfl
theorem p61_5 : vm_P 61 5 = some (vm_m61, (5, .arraylength, 1, 0, 0, 0)) := rfl
theorem p61_6 : vm_P 61 6 = some (vm_m61, (6, .putfield 21, 3, 5, 1, 0)) := rfl
theorem p61_9 : vm_P 61 9 = some (vm_m61, (9, .iconst 0, 1, 0, 0, 0)) := rfl
theorem p61_10 : vm_P 61 10 = some (vm_m61, (10, .istore_n 2, 1, 0, 0, 0)) := rfl
theorem p61_11 : vm_P 61 11 = some (vm_m61, (11, .iload_n 2, 1, 0, 0, 0)) := rfl
theorem p61_12 : vm_P 61 12 = some (vm_m61, (12, .aload_n 0, 1, 0, 0, 0)) := rfl
theorem p61_13 : vm_P 61 13 = some (vm_m61, (13, .getfield 15, 3, 5, 0, 0)) := rfl
theorem p61_16 : vm_P 61 16 = some (vm_m61, (16, .arraylength, 1, 0, 0, 0)) := rfl
theorem p61_17 : vm_P 61 17 = some (vm_m61, (17, .if_icmp .ge 16, 3, 0, 0, 0)) := rfl
theorem p61_20 : vm_P 61 20 = some (vm_m61, (20, .aload_n 0, 1, 0, 0, 0)) := rfl
theorem p61_21 : vm_P 61 21 = some (vm_m61, (21, .getfield 15, 3, 5, 0, 0)) := rfl
theorem p61_24 : vm_P 61 24 = some (vm_m61, (24, .iload_n 2, 1, 0, 0, 0)) := rfl
theorem p61_25 : vm_P 61 25 = some (vm_m61, (25, .iload_n 1, 1, 0, 0, 0)) := rfl
theorem p61_26 : vm_P 61 26 = some (vm_m61, (26, .iastore, 1, 0, 0, 0)) := rfl
theorem p61_27 : vm_P 61 27 = some (vm_m61, (27, .iinc 2 1, 3, 0, 0, 0)) := rfl
theorem p61_30 : vm_P 61 30 = some (vm_m61, (30, .goto (-19), 3, 0, 0, 0)) := rfl
theorem p61_33 : vm_P 61 33 = some (vm_m61, (33, .return_, 1, 0, 0, 0)) := rfl
theorem p62_0 : vm_P 62 0 = some (vm_m62, (0, .aload_n 0, 1, 0, 0, 0)) := rfl
theorem p62_1 : vm_P 62 1 = some (vm_m62, (1, .invokevirtual 25, 3, 0, 57, 500)) := rfl
theorem p62_4 : vm_P 62 4 = some (vm_m62, (4, .iconst 0, 1, 0, 0, 0)) := rfl
theorem p62_5 : vm_P 62 5 = some (vm_m62, (5, .istore_n 2, 1, 0, 0, 0)) := rfl
theorem p62_6 : vm_P 62 6 = some (vm_m62, (6, .iload_n 2, 1, 0, 0, 0)) := rfl
theorem p62_7 : vm_P 62 7 = some (vm_m62, (7, .aload_n 1, 1, 0, 0, 0)) := rfl
theorem p62_8 : vm_P 62 8 = some (vm_m62, (8, .invokevirtual 28, 3, 0, 55, 500)) := rfl
theorem p62_11 : vm_P 62 11 = some (vm_m62, (11, .if_icmp .ge 18, 3, 0, 0, 0)) := rfl
theorem p62_14 : vm_P 62 14 = some (vm_m62, (14, .aload_n 0, 1, 0, 0, 0)) := rfl
theorem p62_15 : vm_P 62 15 = some (vm_m62, (15, .aload_n 1, 1, 0, 0, 0)) := rfl
theorem p62_16 : vm_P 62 16 = some (vm_m62, (16, .iload_n 2, 1, 0, 0, 0)) := rfl
theorem p62_17 : vm_P 62 17 = some (vm_m62, (17, .invokevirtual 31, 3, 0, 59, 501)) := rfl
theorem p62_20 : vm_P 62 20 = some (vm_m62, (20, .invokevirtual 35, 3, 0, 58, 501)) := rfl
theorem p62_23 : vm_P 62 23 = some (vm_m62, (23, .iinc 2 1, 3, 0, 0, 0)) := rfl
theorem p62_26 : vm_P 62 26 = some (vm_m62, (26, .goto (-20), 3, 0, 0, 0)) := rfl
theorem p62_29 : vm_P 62 29 = some (vm_m62, (29, .return_, 1, 0, 0, 0)) := rfl
theorem p63_0 : vm_P 63 0 = some (vm_m63, (0, .aload_n 0, 1, 0, 0, 0)) := rfl
theorem p63_1 : vm_P 63 1 = some (vm_m63, (1, .invokespecial 1, 3, 5, 0, 0)) := rfl
theorem p63_4 : vm_P 63 4 = some (vm_m63, (4, .aload_n 0, 1, 0, 0, 0)) := rfl
theorem p63_5 : vm_P 63 5 = some (vm_m63, (5, .iconst 1, 1, 0, 0, 0)) := rfl
theorem p63_6 : vm_P 63 6 = some (vm_m63, (6, .iload_n 1, 1, 0, 0, 0)) := rfl
theorem p63_7 : vm_P 63 7 = some (vm_m63, (7, .invokestatic 7, 3, 1, 202, 2)) := rfl
theorem p63_10 : vm_P 63 10 = some (vm_m63, (10, .anewarray 13, 3, 0, 0, 0)) := rfl
theorem p63_13 : vm_P 63 13 = some (vm_m63, (13, .putfield 15, 3, 6, 0, 0)) := rfl
theorem p63_16 : vm_P 63 16 = some (vm_m63, (16, .iconst 0, 1, 0, 0, 0)) := rfl
theorem p63_17 : vm_P 63 17 = some (vm_m63, (17, .istore_n 3, 1, 0, 0, 0)) := rfl
theorem p63_18 : vm_P 63 18 = some (vm_m63, (18, .iload_n 3, 1, 0, 0, 0)) := rfl
theorem p63_19 : vm_P 63 19 = some (vm_m63, (19, .aload_n 0, 1, 0, 0, 0)) := rfl
theorem p63_20 : vm_P 63 20 = some (vm_m63, (20, .getfield 15, 3, 6, 0, 0)) := rfl
theorem p63_23 : vm_P 63 23 = some (vm_m63, (23, .arraylength, 1, 0, 0, 0)) := rfl
theorem p63_24 : vm_P 63 24 = some (vm_m63, (24, .if_icmp .ge 23, 3, 0, 0, 0)) := rfl
theorem p63_27 : vm_P 63 27 = some (vm_m63, (27, .aload_n 0, 1, 0, 0, 0)) := rfl
theorem p63_28 : vm_P 63 28 = some (vm_m63, (28, .getfield 15, 3, 6, 0, 0)) := rfl
theorem p63_31 : vm_P 63 31 = some (vm_m63, (31, .iload_n 3, 1, 0, 0, 0)) := rfl
theorem p63_32 : vm_P 63 32 = some (vm_m63, (32, .new 13, 3, 0, 0, 0)) := rfl
theorem p63_35 : vm_P 63 35 = some (vm_m63, (35, .dup, 1, 0, 0, 0)) := rfl
theorem p63_36 : vm_P 63 36 = some (vm_m63, (36, .aload_n 2, 1, 0, 0, 0)) := rfl
theorem p63_37 : vm_P 63 37 = some (vm_m63, (37, .invokespecial 21, 3, 2, 0, 1)) := rfl
theorem p63_40 : vm_P 63 40 = some (vm_m63, (40, .aastore, 1, 0, 0, 0)) := rfl
theorem p63_41 : vm_P 63 41 = some (vm_m63, (41, .iinc 3 1, 3, 0, 0, 0)) := rfl
theorem p63_44 : vm_P 63 44 = some (vm_m63, (44, .goto (-26), 3, 0, 0, 0)) := rfl
theorem p63_47 : vm_P 63 47 = some (vm_m63, (47, .return_, 1, 0, 0, 0)) := rfl
theorem p64_0 : vm_P 64 0 = some (vm_m64, (0, .aload_n 0, 1, 0, 0, 0)) := rfl
theorem p64_1 : vm_P 64 1 = some (vm_m64, (1, .getfield 24, 3, 6, 2, 0)) := rfl
theorem p64_4 : vm_P 64 4 = some (vm_m64, (4, .ireturn, 1, 0, 0, 0)) := rfl
theorem p65_0 : vm_P 65 0 = some (vm_m65, (0, .aload_n 0, 1, 0, 0, 0)) := rfl
theorem p65_1 : vm_P 65 1 = some (vm_m65, (1, .getfield 24, 3, 6, 2, 0)) := rfl
theorem p65_4 : vm_P 65 4 = some (vm_m65, (4, .aload_n 0, 1, 0, 0, 0)) := rfl
theorem p65_5 : vm_P 65 5 = some (vm_m65, (5, .getfield 15, 3, 6, 0, 0)) := rfl
theorem p65_8 : vm_P 65 8 = some (vm_m65, (8, .arraylength, 1, 0, 0, 0)) := rfl
theorem p65_9 : vm_P 65 9 = some (vm_m65, (9, .if_icmp .lt 7, 3, 0, 0, 0)) := rfl
theorem p65_12 : vm_P 65 12 = some (vm_m65, (12, .iconst 1, 1, 0, 0, 0)) := rfl
theorem p65_13 : vm_P 65 13 = some (vm_m65, (13, .goto 4, 3, 0, 0, 0)) := rfl
theorem p65_16 : vm_P 65 16 = some (vm_m65, (16, .iconst 0, 1, 0, 0, 0)) := rfl
theorem p65_17 : vm_P 65 17 = some (vm_m65, (17, .ireturn, 1, 0, 0, 0)) := rfl
theorem p66_0 : vm_P 66 0 = some (vm_m66, (0, .aload_n 0, 1, 0, 0, 0)) := rfl
theorem p66_1 : vm_P 66 1 = some (vm_m66, (1, .iconst 0, 1, 0, 0, 0)) := rfl
theorem p66_2 : vm_P 66 2 = some (vm_m66, (2, .putfield 24, 3, 6, 2, 0)) := rfl
theorem p66_5 : vm_P 66 5 = some (vm_m66, (5, .return_, 1, 0, 0, 0)) := rfl
theorem p67_0 : vm_P 67 0 = some (vm_m67, (0, .aload_n 0, 1, 0, 0, 0)) := rfl
theorem p67_1 : vm_P 67 1 = some (vm_m67, (1, .invokevirtual 28, 3, 0, 65, 600)) := rfl
theorem p67_4 : vm_P 67 4 = some (vm_m67, (4, .ifCond .eq 23, 3, 0, 0, 0)) := rfl
theorem p67_7 : vm_P 67 7 = some (vm_m67, (7, .aload_n 0, 1, 0, 0, 0)) := rfl
theorem p67_8 : vm_P 67 8 = some (vm_m67, (8, .dup, 1, 0, 0, 0)) := rfl
theorem p67_9 : vm_P 67 9 = some (vm_m67, (9, .getfield 32, 3, 6, 1, 0)) := rfl
theorem p67_12 : vm_P 67 12 = some (vm_m67, (12, .iconst 1, 1, 0, 0, 0)) := rfl
theorem p67_13 : vm_P 67 13 = some (vm_m67, (13, .iadd, 1, 0, 0, 0)) := rfl
theorem p67_14 : vm_P 67 14 = some (vm_m67, (14, .putfield 32, 3, 6, 1, 0)) := rfl
theorem p67_17 : vm_P 67 17 = some (vm_m67, (17, .aload_n 0, 1, 0, 0, 0)) := rfl
theorem p67_18 : vm_P 67 18 = some (vm_m67, (18, .dup, 1, 0, 0, 0)) := rfl
theorem p67_19 : vm_P 67 19 = some (vm_m67, (19, .getfield 24, 3, 6, 2, 0)) := rfl
theorem p67_22 : vm_P 67 22 = some (vm_m67, (22, .iconst 1, 1, 0, 0, 0)) := rfl
theorem p67_23 : vm_P 67 23 = some (vm_m67, (23, .isub, 1, 0, 0, 0)) := rfl
theorem p67_24 : vm_P 67 24 = some (vm_m67, (24, .putfield 24, 3, 6, 2, 0)) := rfl
theorem p67_27 : vm_P 67 27 = some (vm_m67, (27, .aload_n 0, 1, 0, 0, 0)) := rfl
theorem p67_28 : vm_P 67 28 = some (vm_m67, (28, .aload_n 0, 1, 0, 0, 0)) := rfl
theorem p67_29 : vm_P 67 29 = some (vm_m67, (29, .getfield 24, 3, 6, 2, 0)) := rfl
theorem p67_32 : vm_P 67 32 = some (vm_m67, (32, .invokevirtual 35, 3, 0, 69, 601)) := rfl
theorem p67_35 : vm_P 67 35 = some (vm_m67, (35, .astore_n 2, 1, 0, 0, 0)) := rfl
theorem p67_36 : vm_P 67 36 = some (vm_m67, (36, .aload_n 2, 1, 0, 0, 0)) := rfl
theorem p67_37 : vm_P 67 37 = some (vm_m67, (37, .ifnull 18, 3, 0, 0, 0)) := rfl
theorem p67_40 : vm_P 67 40 = some (vm_m67, (40, .aload_n 2, 1, 0, 0, 0)) := rfl
theorem p67_41 : vm_P 67 41 = some (vm_m67, (41, .aload_n 1, 1, 0, 0, 0)) := rfl
theorem p67_42 : vm_P 67 42 = some (vm_m67, (42, .invokevirtual 39, 3, 0, 2, 1)) := rfl
theorem p67_45 : vm_P 67 45 = some (vm_m67, (45, .aload_n 0, 1, 0, 0, 0)) := rfl
theorem p67_46 : vm_P 67 46 = some (vm_m67, (46, .dup, 1, 0, 0, 0)) := rfl
theorem p67_47 : vm_P 67 47 = some (vm_m67, (47, .getfield 24, 3, 6, 2, 0)) := rfl
theorem p67_50 : vm_P 67 50 = some (vm_m67, (50, .iconst 1, 1, 0, 0, 0)) := rfl
theorem p67_51 : vm_P 67 51 = some (vm_m67, (51, .iadd, 1, 0, 0, 0)) := rfl
theorem p67_52 : vm_P 67 52 = some (vm_m67, (52, .putfield 24, 3, 6, 2, 0)) := rfl
theorem p67_55 : vm_P 67 55 = some (vm_m67, (55, .return_, 1, 0, 0, 0)) := rfl
theorem p68_0 : vm_P 68 0 = some (vm_m68, (0, .aload_n 0, 1, 0, 0, 0)) := rfl
theorem p68_1 : vm_P 68 1 = some (vm_m68, (1, .getfield 24, 3, 6, 2, 0)) := rfl
theorem p68_4 : vm_P 68 4 = some (vm_m68, (4, .ifCond .le 16, 3, 0, 0, 0)) := rfl
theorem p68_7 : vm_P 68 7 = some (vm_m68, (7, .aload_n 0, 1, 0, 0, 0)) := rfl
theorem p68_8 : vm_P 68 8 = some (vm_m68, (8, .aload_n 0, 1, 0, 0, 0)) := rfl
theorem p68_9 : vm_P 68 9 = some (vm_m68, (9, .getfield 24, 3, 6, 2, 0)) := rfl
theorem p68_12 : vm_P 68 12 = some (vm_m68, (12, .iconst 1, 1, 0, 0, 0)) := rfl
theorem p68_13 : vm_P 68 13 = some (vm_m68, (13, .isub, 1, 0, 0, 0)) := rfl
theorem p68_14 : vm_P 68 14 = some (vm_m68, (14, .invokevirtual 35, 3, 0, 69, 601)) := rfl
theorem p68_17 : vm_P 68 17 = some (vm_m68, (17, .goto 4, 3, 0, 0, 0)) := rfl
theorem p68_20 : vm_P 68 20 = some (vm_m68, (20, .aconst_null, 1, 0, 0, 0)) := rfl
theorem p68_21 : vm_P 68 21 = some (vm_m68, (21, .astore_n 2, 1, 0, 0, 0)) := rfl
theorem p68_22 : vm_P 68 22 = some (vm_m68, (22, .aload_n 2, 1, 0, 0, 0)) := rfl
theorem p68_23 : vm_P 68 23 = some (vm_m68, (23, .ifnonnull 5, 3, 0, 0, 0)) := rfl
theorem p68_26 : vm_P 68 26 = some (vm_m68, (26, .iconst 0, 1, 0, 0, 0)) := rfl
theorem p68_27 : vm_P 68 27 = some (vm_m68, (27, .ireturn, 1, 0, 0, 0)) := rfl
theorem p68_28 : vm_P 68 28 = some (vm_m68, (28, .aload_n 1, 1, 0, 0, 0)) := rfl
theorem p68_29 : vm_P 68 29 = some (vm_m68, (29, .aload_n 2, 1, 0, 0, 0)) := rfl
theorem p68_30 : vm_P 68 30 = some (vm_m68, (30, .invokevirtual 39, 3, 0, 2, 1)) := rfl
theorem p68_33 : vm_P 68 33 = some (vm_m68, (33, .aload_n 0, 1, 0, 0, 0)) := rfl
theorem p68_34 : vm_P 68 34 = some (vm_m68, (34, .dup, 1, 0, 0, 0)) := rfl
theorem p68_35 : vm_P 68 35 = some (vm_m68, (35, .getfield 24, 3, 6, 2, 0)) := rfl
theorem p68_38 : vm_P 68 38 = some (vm_m68, (38, .iconst 1, 1, 0, 0, 0)) := rfl
theorem p68_39 : vm_P 68 39 = some (vm_m68, (39, .isub, 1, 0, 0, 0)) := rfl
theorem p68_40 : vm_P 68 40 = some (vm_m68, (40, .putfield 24, 3, 6, 2, 0)) := rfl
theorem p68_43 : vm_P 68 43 = some (vm_m68, (43, .iconst 1, 1, 0, 0, 0)) := rfl
theorem p68_44 : vm_P 68 44 = some (vm_m68, (44, .ireturn, 1, 0, 0, 0)) := rfl
theorem p69_0 : vm_P 69 0 = some (vm_m69, (0, .aload_n 0, 1, 0, 0, 0)) := rfl
theorem p69_1 : vm_P 69 1 = some (vm_m69, (1, .getfield 15, 3, 6, 0, 0)) := rfl
theorem p69_4 : vm_P 69 4 = some (vm_m69, (4, .arraylength, 1, 0, 0, 0)) := rfl
theorem p69_5 : vm_P 69 5 = some (vm_m69, (5, .istore_n 2, 1, 0, 0, 0)) := rfl
theorem p69_6 : vm_P 69 6 = some (vm_m69, (6, .iload_n 2, 1, 0, 0, 0)) := rfl
theorem p69_7 : vm_P 69 7 = some (vm_m69, (7, .ifCond .le 21, 3, 0, 0, 0)) := rfl
theorem p69_10 : vm_P 69 10 = some (vm_m69, (10, .aload_n 0, 1, 0, 0, 0)) := rfl
theorem p69_11 : vm_P 69 11 = some (vm_m69, (11, .getfield 15, 3, 6, 0, 0)) := rfl
theorem p69_14 : vm_P 69 14 = some (vm_m69, (14, .aload_n 0, 1, 0, 0, 0)) := rfl
theorem p69_15 : vm_P 69 15 = some (vm_m69, (15, .getfield 32, 3, 6, 1, 0)) := rfl
theorem p69_18 : vm_P 69 18 = some (vm_m69, (18, .iload_n 1, 1, 0, 0, 0)) := rfl
theorem p69_19 : vm_P 69 19 = some (vm_m69, (19, .iadd, 1, 0, 0, 0)) := rfl
theorem p69_20 : vm_P 69 20 = some (vm_m69, (20, .iload_n 2, 1, 0, 0, 0)) := rfl
theorem p69_21 : vm_P 69 21 = some (vm_m69, (21, .invokestatic 43, 3, 1, 204, 2)) := rfl
theorem p69_24 : vm_P 69 24 = some (vm_m69, (24, .aaload, 1, 0, 0, 0)) := rfl
theorem p69_25 : vm_P 69 25 = some (vm_m69, (25, .goto 4, 3, 0, 0, 0)) := rfl
theorem p69_28 : vm_P 69 28 = some (vm_m69, (28, .aconst_null, 1, 0, 0, 0)) := rfl
theorem p69_29 : vm_P 69 29 = some (vm_m69, (29, .areturn, 1, 0, 0, 0)) := rfl
theorem p70_0 : vm_P 70 0 = some (vm_m70, (0, .aload_n 0, 1, 0, 0, 0)) := rfl
theorem p70_1 : vm_P 70 1 = some (vm_m70, (1, .invokespecial 3, 3, 5, 0, 0)) := rfl
theorem p70_4 : vm_P 70 4 = some (vm_m70, (4, .aload_n 0, 1, 0, 0, 0)) := rfl
theorem p70_5 : vm_P 70 5 = some (vm_m70, (5, .new 9, 3, 5, 0, 0)) := rfl
theorem p70_8 : vm_P 70 8 = some (vm_m70, (8, .dup, 1, 0, 0, 0)) := rfl
theorem p70_9 : vm_P 70 9 = some (vm_m70, (9, .bipush 36, 2, 0, 0, 0)) := rfl
theorem p70_11 : vm_P 70 11 = some (vm_m70, (11, .invokespecial 11, 3, 2, 54, 1)) := rfl
theorem p70_14 : vm_P 70 14 = some (vm_m70, (14, .putfield 14, 3, 7, 0, 0)) := rfl
theorem p70_17 : vm_P 70 17 = some (vm_m70, (17, .aload_n 0, 1, 0, 0, 0)) := rfl
theorem p70_18 : vm_P 70 18 = some (vm_m70, (18, .new 9, 3, 5, 0, 0)) := rfl
theorem p70_21 : vm_P 70 21 = some (vm_m70, (21, .dup, 1, 0, 0, 0)) := rfl
theorem p70_22 : vm_P 70 22 = some (vm_m70, (22, .bipush 8, 2, 0, 0, 0)) := rfl
theorem p70_24 : vm_P 70 24 = some (vm_m70, (24, .invokespecial 11, 3, 2, 54, 1)) := rfl
theorem p70_27 : vm_P 70 27 = some (vm_m70, (27, .putfield 20, 3, 7, 1, 0)) := rfl
theorem p70_30 : vm_P 70 30 = some (vm_m70, (30, .aload_n 0, 1, 0, 0, 0)) := rfl
theorem p70_31 : vm_P 70 31 = some (vm_m70, (31, .new 9, 3, 5, 0, 0)) := rfl
theorem p70_34 : vm_P 70 34 = some (vm_m70, (34, .dup, 1, 0, 0, 0)) := rfl
theorem p70_35 : vm_P 70 35 = some (vm_m70, (35, .bipush 9, 2, 0, 0, 0)) := rfl
theorem p70_37 : vm_P 70 37 = some (vm_m70, (37, .invokespecial 11, 3, 2, 54, 1)) := rfl
theorem p70_40 : vm_P 70 40 = some (vm_m70, (40, .putfield 23, 3, 7, 2, 0)) := rfl
theorem p70_43 : vm_P 70 43 = some (vm_m70, (43, .aload_n 0, 1, 0, 0, 0)) := rfl
theorem p70_44 : vm_P 70 44 = some (vm_m70, (44, .new 9, 3, 5, 0, 0)) := rfl
theorem p70_47 : vm_P 70 47 = some (vm_m70, (47, .dup, 1, 0, 0, 0)) := rfl
theorem p70_48 : vm_P 70 48 = some (vm_m70, (48, .bipush 9, 2, 0, 0, 0)) := rfl
theorem p70_50 : vm_P 70 50 = some (vm_m70, (50, .invokespecial 11, 3, 2, 54, 1)) := rfl
theorem p70_53 : vm_P 70 53 = some (vm_m70, (53, .putfield 26, 3, 7, 3, 0)) := rfl
theorem p70_56 : vm_P 70 56 = some (vm_m70, (56, .return_, 1, 0, 0, 0)) := rfl
theorem p71_0 : vm_P 71 0 = some (vm_m71, (0, .aload_n 0, 1, 0, 0, 0)) := rfl
theorem p71_1 : vm_P 71 1 = some (vm_m71, (1, .iconst 0, 1, 0, 0, 0)) := rfl
theorem p71_2 : vm_P 71 2 = some (vm_m71, (2, .putfield 29, 3, 7, 4, 0)) := rfl
theorem p71_5 : vm_P 71 5 = some (vm_m71, (5, .aload_n 0, 1, 0, 0, 0)) := rfl
theorem p71_6 : vm_P 71 6 = some (vm_m71, (6, .getfield 14, 3, 7, 0, 0)) := rfl
theorem p71_9 : vm_P 71 9 = some (vm_m71, (9, .invokevirtual 33, 3, 0, 57, 500)) := rfl
theorem p71_12 : vm_P 71 12 = some (vm_m71, (12, .aload_n 0, 1, 0, 0, 0)) := rfl
theorem p71_13 : vm_P 71 13 = some (vm_m71, (13, .getfield 20, 3, 7, 1, 0)) := rfl
theorem p71_16 : vm_P 71 16 = some (vm_m71, (16, .invokevirtual 33, 3, 0, 57, 500)) := rfl
theorem p71_19 : vm_P 71 19 = some (vm_m71, (19, .return_, 1, 0, 0, 0)) := rfl
theorem p72_0 : vm_P 72 0 = some (vm_m72, (0, .aload_n 0, 1, 0, 0, 0)) := rfl
theorem p72_1 : vm_P 72 1 = some (vm_m72, (1, .aload_n 1, 1, 0, 0, 0)) := rfl
theorem p72_2 : vm_P 72 2 = some (vm_m72, (2, .getfield 29, 3, 7, 4, 0)) := rfl
theorem p72_5 : vm_P 72 5 = some (vm_m72, (5, .putfield 29, 3, 7, 4, 0)) := rfl
theorem p72_8 : vm_P 72 8 = some (vm_m72, (8, .aload_n 0, 1, 0, 0, 0)) := rfl
theorem p72_9 : vm_P 72 9 = some (vm_m72, (9, .getfield 14, 3, 7, 0, 0)) := rfl
theorem p72_12 : vm_P 72 12 = some (vm_m72, (12, .aload_n 1, 1, 0, 0, 0)) := rfl
theorem p72_13 : vm_P 72 13 = some (vm_m72, (13, .getfield 14, 3, 7, 0, 0)) := rfl
theorem p72_16 : vm_P 72 16 = some (vm_m72, (16, .invokevirtual 36, 3, 0, 62, 501)) := rfl
theorem p72_19 : vm_P 72 19 = some (vm_m72, (19, .aload_n 0, 1, 0, 0, 0)) := rfl
theorem p72_20 : vm_P 72 20 = some (vm_m72, (20, .getfield 20, 3, 7, 1, 0)) := rfl
theorem p72_23 : vm_P 72 23 = some (vm_m72, (23, .aload_n 1, 1, 0, 0, 0)) := rfl
theorem p72_24 : vm_P 72 24 = some (vm_m72, (24, .getfield 20, 3, 7, 1, 0)) := rfl
theorem p72_27 : vm_P 72 27 = some (vm_m72, (27, .invokevirtual 36, 3, 0, 62, 501)) := rfl
theorem p72_30 : vm_P 72 30 = some (vm_m72, (30, .return_, 1, 0, 0, 0)) := rfl
theorem p73_0 : vm_P 73 0 = some (vm_m73, (0, .aload_n 0, 1, 0, 0, 0)) := rfl
theorem p73_1 : vm_P 73 1 = some (vm_m73, (1, .getfield 14, 3, 7, 0, 0)) := rfl
theorem p73_4 : vm_P 73 4 = some (vm_m73, (4, .invokevirtual 40, 3, 0, 56, 500)) := rfl
theorem p73_7 : vm_P 73 7 = some (vm_m73, (7, .ifCond .eq 5, 3, 0, 0, 0)) := rfl
theorem p73_10 : vm_P 73 10 = some (vm_m73, (10, .iconst 0, 1, 0, 0, 0)) := rfl
theorem p73_11 : vm_P 73 11 = some (vm_m73, (11, .ireturn, 1, 0, 0, 0)) := rfl
theorem p73_12 : vm_P 73 12 = some (vm_m73, (12, .iconst 0, 1, 0, 0, 0)) := rfl
theorem p73_13 : vm_P 73 13 = some (vm_m73, (13, .istore_n 2, 1, 0, 0, 0)) := rfl
theorem p73_14 : vm_P 73 14 = some (vm_m73, (14, .iload_n 2, 1, 0, 0, 0)) := rfl
theorem p73_15 : vm_P 73 15 = some (vm_m73, (15, .iconst 4, 1, 0, 0, 0)) := rfl
theorem p73_16 : vm_P 73 16 = some (vm_m73, (16, .if_icmp .ge 21, 3, 0, 0, 0)) := rfl
theorem p73_19 : vm_P 73 19 = some (vm_m73, (19, .aload_n 0, 1, 0, 0, 0)) := rfl
theorem p73_20 : vm_P 73 20 = some (vm_m73, (20, .getfield 14, 3, 7, 0, 0)) := rfl
theorem p73_23 : vm_P 73 23 = some (vm_m73, (23, .aload_n 1, 1, 0, 0, 0)) := rfl
theorem p73_24 : vm_P 73 24 = some (vm_m73, (24, .iload_n 2, 1, 0, 0, 0)) := rfl
theorem p73_25 : vm_P 73 25 = some (vm_m73, (25, .invokevirtual 44, 3, 0, 59, 501)) := rfl
theorem p73_28 : vm_P 73 28 = some (vm_m73, (28, .invokevirtual 48, 3, 0, 58, 501)) := rfl
theorem p73_31 : vm_P 73 31 = some (vm_m73, (31, .iinc 2 1, 3, 0, 0, 0)) := rfl
theorem p73_34 : vm_P 73 34 = some (vm_m73, (34, .goto (-20), 3, 0, 0, 0)) := rfl
theorem p73_37 : vm_P 73 37 = some (vm_m73, (37, .aload_n 0, 1, 0, 0, 0)) := rfl
theorem p73_38 : vm_P 73 38 = some (vm_m73, (38, .dup, 1, 0, 0, 0)) := rfl
theorem p73_39 : vm_P 73 39 = some (vm_m73, (39, .getfield 29, 3, 7, 4, 0)) := rfl
theorem p73_42 : vm_P 73 42 = some (vm_m73, (42, .iconst 1, 1, 0, 0, 0)) := rfl
theorem p73_43 : vm_P 73 43 = some (vm_m73, (43, .iadd, 1, 0, 0, 0)) := rfl
theorem p73_44 : vm_P 73 44 = some (vm_m73, (44, .putfield 29, 3, 7, 4, 0)) := rfl
theorem p73_47 : vm_P 73 47 = some (vm_m73, (47, .iconst 1, 1, 0, 0, 0)) := rfl
theorem p73_48 : vm_P 73 48 = some (vm_m73, (48, .ireturn, 1, 0, 0, 0)) := rfl
theorem p74_0 : vm_P 74 0 = some (vm_m74, (0, .aload_n 0, 1, 0, 0, 0)) := rfl
theorem p74_1 : vm_P 74 1 = some (vm_m74, (1, .getfield 20, 3, 7, 1, 0)) := rfl
theorem p74_4 : vm_P 74 4 = some (vm_m74, (4, .invokevirtual 40, 3, 0, 56, 500)) := rfl
theorem p74_7 : vm_P 74 7 = some (vm_m74, (7, .ifCond .ne 12, 3, 0, 0, 0)) := rfl
theorem p74_10 : vm_P 74 10 = some (vm_m74, (10, .iload_n 1, 1, 0, 0, 0)) := rfl
theorem p74_11 : vm_P 74 11 = some (vm_m74, (11, .iconst 0, 1, 0, 0, 0)) := rfl
theorem p74_12 : vm_P 74 12 = some (vm_m74, (12, .iconst 3, 1, 0, 0, 0)) := rfl
theorem p74_13 : vm_P 74 13 = some (vm_m74, (13, .invokestatic 51, 3, 3, 126, 3)) := rfl
theorem p74_16 : vm_P 74 16 = some (vm_m74, (16, .ifCond .ne 5, 3, 0, 0, 0)) := rfl
theorem p74_19 : vm_P 74 19 = some (vm_m74, (19, .iconst 0, 1, 0, 0, 0)) := rfl
theorem p74_20 : vm_P 74 20 = some (vm_m74, (20, .ireturn, 1, 0, 0, 0)) := rfl
theorem p74_21 : vm_P 74 21 = some (vm_m74, (21, .aload_n 0, 1, 0, 0, 0)) := rfl
theorem p74_22 : vm_P 74 22 = some (vm_m74, (22, .getfield 20, 3, 7, 1, 0)) := rfl
theorem p74_25 : vm_P 74 25 = some (vm_m74, (25, .iload_n 1, 1, 0, 0, 0)) := rfl
theorem p74_26 : vm_P 74 26 = some (vm_m74, (26, .invokevirtual 48, 3, 0, 58, 501)) := rfl
theorem p74_29 : vm_P 74 29 = some (vm_m74, (29, .iconst 1, 1, 0, 0, 0)) := rfl
theorem p74_30 : vm_P 74 30 = some (vm_m74, (30, .ireturn, 1, 0, 0, 0)) := rfl
theorem p75_0 : vm_P 75 0 = some (vm_m75, (0, .aload_n 0, 1, 0, 0, 0)) := rfl
theorem p75_1 : vm_P 75 1 = some (vm_m75, (1, .getfield 29, 3, 7, 4, 0)) := rfl
theorem p75_4 : vm_P 75 4 = some (vm_m75, (4, .ireturn, 1, 0, 0, 0)) := rfl
theorem p76_0 : vm_P 76 0 = some (vm_m76, (0, .iload_n 1, 1, 0, 0, 0)) := rfl
theorem p76_1 : vm_P 76 1 = some (vm_m76, (1, .ifCond .lt 15, 3, 0, 0, 0)) := rfl
theorem p76_4 : vm_P 76 4 = some (vm_m76, (4, .iload_n 1, 1, 0, 0, 0)) := rfl
theorem p76_5 : vm_P 76 5 = some (vm_m76, (5, .aload_n 0, 1, 0, 0, 0)) := rfl
theorem p76_6 : vm_P 76 6 = some (vm_m76, (6, .getfield 29, 3, 7, 4, 0)) := rfl
theorem p76_9 : vm_P 76 9 = some (vm_m76, (9, .if_icmp .ge 7, 3, 0, 0, 0)) := rfl
theorem p76_12 : vm_P 76 12 = some (vm_m76, (12, .iconst 1, 1, 0, 0, 0)) := rfl
theorem p76_13 : vm_P 76 13 = some (vm_m76, (13, .goto 4, 3, 0, 0, 0)) := rfl
theorem p76_16 : vm_P 76 16 = some (vm_m76, (16, .iconst 0, 1, 0, 0, 0)) := rfl
theorem p76_17 : vm_P 76 17 = some (vm_m76, (17, .ireturn, 1, 0, 0, 0)) := rfl
theorem p77_0 : vm_P 77 0 = some (vm_m77, (0, .iconst 0, 1, 0, 0, 0)) := rfl
theorem p77_1 : vm_P 77 1 = some (vm_m77, (1, .istore_n 1, 1, 0, 0, 0)) := rfl
theorem p77_2 : vm_P 77 2 = some (vm_m77, (2, .iload_n 1, 1, 0, 0, 0)) := rfl
theorem p77_3 : vm_P 77 3 = some (vm_m77, (3, .aload_n 0, 1, 0, 0, 0)) := rfl
theorem p77_4 : vm_P 77 4 = some (vm_m77, (4, .getfield 14, 3, 7, 0, 0)) := rfl
theorem p77_7 : vm_P 77 7 = some (vm_m77, (7, .invokevirtual 55, 3, 0, 55, 500)) := rfl
theorem p77_10 : vm_P 77 10 = some (vm_m77, (10, .if_icmp .ge 34, 3, 0, 0, 0)) := rfl
theorem p77_13 : vm_P 77 13 = some (vm_m77, (13, .aload_n 0, 1, 0, 0, 0)) := rfl
theorem p77_14 : vm_P 77 14 = some (vm_m77, (14, .getfield 14, 3, 7, 0, 0)) := rfl
theorem p77_17 : vm_P 77 17 = some (vm_m77, (17, .iload_n 1, 1, 0, 0, 0)) := rfl
theorem p77_18 : vm_P 77 18 = some (vm_m77, (18, .invokevirtual 44, 3, 0, 59, 501)) := rfl
theorem p77_21 : vm_P 77 21 = some (vm_m77, (21, .istore_n 2, 1, 0, 0, 0)) := rfl
theorem p77_22 : vm_P 77 22 = some (vm_m77, (22, .iload_n 2, 1, 0, 0, 0)) := rfl
theorem p77_23 : vm_P 77 23 = some (vm_m77, (23, .bipush 9, 2, 0, 0, 0)) := rfl
theorem p77_25 : vm_P 77 25 = some (vm_m77, (25, .if_icmp .eq 13, 3, 0, 0, 0)) := rfl
theorem p77_28 : vm_P 77 28 = some (vm_m77, (28, .aload_n 0, 1, 0, 0, 0)) := rfl
theorem p77_29 : vm_P 77 29 = some (vm_m77, (29, .iload_n 2, 1, 0, 0, 0)) := rfl
theorem p77_30 : vm_P 77 30 = some (vm_m77, (30, .invokevirtual 59, 3, 0, 76, 701)) := rfl
theorem p77_33 : vm_P 77 33 = some (vm_m77, (33, .ifCond .ne 5, 3, 0, 0, 0)) := rfl
theorem p77_36 : vm_P 77 36 = some (vm_m77, (36, .iconst 0, 1, 0, 0, 0)) := rfl
theorem p77_37 : vm_P 77 37 = some (vm_m77, (37, .ireturn, 1, 0, 0, 0)) := rfl
theorem p77_38 : vm_P 77 38 = some (vm_m77, (38, .iinc 1 1, 3, 0, 0, 0)) := rfl
theorem p77_41 : vm_P 77 41 = some (vm_m77, (41, .goto (-39), 3, 0, 0, 0)) := rfl
theorem p77_44 : vm_P 77 44 = some (vm_m77, (44, .iconst 1, 1, 0, 0, 0)) := rfl
theorem p77_45 : vm_P 77 45 = some (vm_m77, (45, .ireturn, 1, 0, 0, 0)) := rfl
theorem p78_0 : vm_P 78 0 = some (vm_m78, (0, .aload_n 0, 1, 0, 0, 0)) := rfl
theorem p78_1 : vm_P 78 1 = some (vm_m78, (1, .iload_n 1, 1, 0, 0, 0)) := rfl
theorem p78_2 : vm_P 78 2 = some (vm_m78, (2, .invokevirtual 59, 3, 0, 76, 701)) := rfl
theorem p78_5 : vm_P 78 5 = some (vm_m78, (5, .ifCond .eq 10, 3, 0, 0, 0)) := rfl
theorem p78_8 : vm_P 78 8 = some (vm_m78, (8, .iload_n 2, 1, 0, 0, 0)) := rfl
theorem p78_9 : vm_P 78 9 = some (vm_m78, (9, .invokestatic 63, 3, 3, 125, 1)) := rfl
theorem p78_12 : vm_P 78 12 = some (vm_m78, (12, .ifCond .ne 6, 3, 0, 0, 0)) := rfl
theorem p78_15 : vm_P 78 15 = some (vm_m78, (15, .bipush (-4), 2, 0, 0, 0)) := rfl
theorem p78_17 : vm_P 78 17 = some (vm_m78, (17, .ireturn, 1, 0, 0, 0)) := rfl
theorem p78_18 : vm_P 78 18 = some (vm_m78, (18, .aload_n 0, 1, 0, 0, 0)) := rfl
theorem p78_19 : vm_P 78 19 = some (vm_m78, (19, .getfield 14, 3, 7, 0, 0)) := rfl
theorem p78_22 : vm_P 78 22 = some (vm_m78, (22, .iload_n 1, 1, 0, 0, 0)) := rfl
theorem p78_23 : vm_P 78 23 = some (vm_m78, (23, .iconst 4, 1, 0, 0, 0)) := rfl
theorem p78_24 : vm_P 78 24 = some (vm_m78, (24, .imul, 1, 0, 0, 0)) := rfl
theorem p78_25 : vm_P 78 25 = some (vm_m78, (25, .iload_n 2, 1, 0, 0, 0)) := rfl
theorem p78_26 : vm_P 78 26 = some (vm_m78, (26, .iadd, 1, 0, 0, 0)) := rfl
theorem p78_27 : vm_P 78 27 = some (vm_m78, (27, .invokevirtual 44, 3, 0, 59, 501)) := rfl
theorem p78_30 : vm_P 78 30 = some (vm_m78, (30, .istore_n 3, 1, 0, 0, 0)) := rfl
theorem p78_31 : vm_P 78 31 = some (vm_m78, (31, .iload_n 3, 1, 0, 0, 0)) := rfl
theorem p78_32 : vm_P 78 32 = some (vm_m78, (32, .bipush 9, 2, 0, 0, 0)) := rfl
theorem p78_34 : vm_P 78 34 = some (vm_m78, (34, .if_icmp .ne 8, 3, 0, 0, 0)) := rfl
theorem p78_37 : vm_P 78 37 = some (vm_m78, (37, .bipush (-4), 2, 0, 0, 0)) := rfl
theorem p78_39 : vm_P 78 39 = some (vm_m78, (39, .goto 4, 3, 0, 0, 0)) := rfl
theorem p78_42 : vm_P 78 42 = some (vm_m78, (42, .iload_n 3, 1, 0, 0, 0)) := rfl
theorem p78_43 : vm_P 78 43 = some (vm_m78, (43, .ireturn, 1, 0, 0, 0)) := rfl
theorem p79_0 : vm_P 79 0 = some (vm_m79, (0, .aload_n 0, 1, 0, 0, 0)) := rfl
theorem p79_1 : vm_P 79 1 = some (vm_m79, (1, .iload_n 1, 1, 0, 0, 0)) := rfl
theorem p79_2 : vm_P 79 2 = some (vm_m79, (2, .iload_n 2, 1, 0, 0, 0)) := rfl
theorem p79_3 : vm_P 79 3 = some (vm_m79, (3, .invokevirtual 66, 3, 0, 78, 702)) := rfl
theorem p79_6 : vm_P 79 6 = some (vm_m79, (6, .istore_n 3, 1, 0, 0, 0)) := rfl
theorem p79_7 : vm_P 79 7 = some (vm_m79, (7, .iload_n 3, 1, 0, 0, 0)) := rfl
theorem p79_8 : vm_P 79 8 = some (vm_m79, (8, .bipush (-4), 2, 0, 0, 0)) := rfl
theorem p79_10 : vm_P 79 10 = some (vm_m79, (10, .if_icmp .ne 7, 3, 0, 0, 0)) := rfl
theorem p79_13 : vm_P 79 13 = some (vm_m79, (13, .iload_n 1, 1, 0, 0, 0)) := rfl
theorem p79_14 : vm_P 79 14 = some (vm_m79, (14, .goto 4, 3, 0, 0, 0)) := rfl
theorem p79_17 : vm_P 79 17 = some (vm_m79, (17, .iload_n 3, 1, 0, 0, 0)) := rfl
theorem p79_18 : vm_P 79 18 = some (vm_m79, (18, .ireturn, 1, 0, 0, 0)) := rfl
theorem p80_0 : vm_P 80 0 = some (vm_m80, (0, .aload_n 0, 1, 0, 0, 0)) := rfl
theorem p80_1 : vm_P 80 1 = some (vm_m80, (1, .getfield 20, 3, 7, 1, 0)) := rfl
theorem p80_4 : vm_P 80 4 = some (vm_m80, (4, .invokevirtual 55, 3, 0, 55, 500)) := rfl
theorem p80_7 : vm_P 80 7 = some (vm_m80, (7, .istore_n 2, 1, 0, 0, 0)) := rfl
theorem p80_8 : vm_P 80 8 = some (vm_m80, (8, .iload_n 2, 1, 0, 0, 0)) := rfl
theorem p80_9 : vm_P 80 9 = some (vm_m80, (9, .ifCond .le 18, 3, 0, 0, 0)) := rfl
theorem p80_12 : vm_P 80 12 = some (vm_m80, (12, .aload_n 0, 1, 0, 0, 0)) := rfl
theorem p80_13 : vm_P 80 13 = some (vm_m80, (13, .getfield 20, 3, 7, 1, 0)) := rfl
theorem p80_16 : vm_P 80 16 = some (vm_m80, (16, .iload_n 1, 1, 0, 0, 0)) := rfl
theorem p80_17 : vm_P 80 17 = some (vm_m80, (17, .iload_n 2, 1, 0, 0, 0)) := rfl
theorem p80_18 : vm_P 80 18 = some (vm_m80, (18, .invokestatic 70, 3, 1, 204, 2)) := rfl
theorem p80_21 : vm_P 80 21 = some (vm_m80, (21, .invokevirtual 44, 3, 0, 59, 501)) := rfl
theorem p80_24 : vm_P 80 24 = some (vm_m80, (24, .goto 4, 3, 0, 0, 0)) := rfl
theorem p80_27 : vm_P 80 27 = some (vm_m80, (27, .iconst 0, 1, 0, 0, 0)) := rfl
theorem p80_28 : vm_P 80 28 = some (vm_m80, (28, .ireturn, 1, 0, 0, 0)) := rfl
theorem p81_0 : vm_P 81 0 = some (vm_m81, (0, .iconst 1, 1, 0, 0, 0)) := rfl
theorem p81_1 : vm_P 81 1 = some (vm_m81, (1, .iload_n 1, 1, 0, 0, 0)) := rfl
theorem p81_2 : vm_P 81 2 = some (vm_m81, (2, .ishl, 1, 0, 0, 0)) := rfl
theorem p81_3 : vm_P 81 3 = some (vm_m81, (3, .istore_n 2, 1, 0, 0, 0)) := rfl
theorem p81_4 : vm_P 81 4 = some (vm_m81, (4, .iconst 1, 1, 0, 0, 0)) := rfl
theorem p81_5 : vm_P 81 5 = some (vm_m81, (5, .istore_n 3, 1, 0, 0, 0)) := rfl
theorem p81_6 : vm_P 81 6 = some (vm_m81, (6, .iload_n 3, 1, 0, 0, 0)) := rfl
theorem p81_7 : vm_P 81 7 = some (vm_m81, (7, .aload_n 0, 1, 0, 0, 0)) := rfl
theorem p81_8 : vm_P 81 8 = some (vm_m81, (8, .getfield 29, 3, 7, 4, 0)) := rfl
theorem p81_11 : vm_P 81 11 = some (vm_m81, (11, .if_icmp .ge 17, 3, 0, 0, 0)) := rfl
theorem p81_14 : vm_P 81 14 = some (vm_m81, (14, .iload_n 2, 1, 0, 0, 0)) := rfl
theorem p81_15 : vm_P 81 15 = some (vm_m81, (15, .aload_n 0, 1, 0, 0, 0)) := rfl
theorem p81_16 : vm_P 81 16 = some (vm_m81, (16, .iload_n 2, 1, 0, 0, 0)) := rfl
theorem p81_17 : vm_P 81 17 = some (vm_m81, (17, .invokevirtual 75, 3, 0, 82, 701)) := rfl
theorem p81_20 : vm_P 81 20 = some (vm_m81, (20, .ior, 1, 0, 0, 0)) := rfl
theorem p81_21 : vm_P 81 21 = some (vm_m81, (21, .istore_n 2, 1, 0, 0, 0)) := rfl
theorem p81_22 : vm_P 81 22 = some (vm_m81, (22, .iinc 3 1, 3, 0, 0, 0)) := rfl
theorem p81_25 : vm_P 81 25 = some (vm_m81, (25, .goto (-19), 3, 0, 0, 0)) := rfl
theorem p81_28 : vm_P 81 28 = some (vm_m81, (28, .iload_n 2, 1, 0, 0, 0)) := rfl
theorem p81_29 : vm_P 81 29 = some (vm_m81, (29, .ireturn, 1, 0, 0, 0)) := rfl
theorem p82_0 : vm_P 82 0 = some (vm_m82, (0, .iconst 0, 1, 0, 0, 0)) := rfl
theorem p82_1 : vm_P 82 1 = some (vm_m82, (1, .istore_n 2, 1, 0, 0, 0)) := rfl
theorem p82_2 : vm_P 82 2 = some (vm_m82, (2, .iconst 0, 1, 0, 0, 0)) := rfl
theorem p82_3 : vm_P 82 3 = some (vm_m82, (3, .istore_n 3, 1, 0, 0, 0)) := rfl
theorem p82_4 : vm_P 82 4 = some (vm_m82, (4, .iload_n 3, 1, 0, 0, 0)) := rfl
theorem p82_5 : vm_P 82 5 = some (vm_m82, (5, .aload_n 0, 1, 0, 0, 0)) := rfl
theorem p82_6 : vm_P 82 6 = some (vm_m82, (6, .getfield 29, 3, 7, 4, 0)) := rfl
theorem p82_9 : vm_P 82 9 = some (vm_m82, (9, .if_icmp .ge 45, 3, 0, 0, 0)) := rfl
theorem p82_12 : vm_P 82 12 = some (vm_m82, (12, .iconst 0, 1, 0, 0, 0)) := rfl
theorem p82_13 : vm_P 82 13 = some (vm_m82, (13, .istore 4, 2, 0, 0, 0)) := rfl
theorem p82_15 : vm_P 82 15 = some (vm_m82, (15, .iload 4, 2, 0, 0, 0)) := rfl
theorem p82_17 : vm_P 82 17 = some (vm_m82, (17, .iconst 4, 1, 0, 0, 0)) := rfl
theorem p82_18 : vm_P 82 18 = some (vm_m82, (18, .if_icmp .ge 30, 3, 0, 0, 0)) := rfl
theorem p82_21 : vm_P 82 21 = some (vm_m82, (21, .iload_n 1, 1, 0, 0, 0)) := rfl
theorem p82_22 : vm_P 82 22 = some (vm_m82, (22, .iload_n 3, 1, 0, 0, 0)) := rfl
theorem p82_23 : vm_P 82 23 = some (vm_m82, (23, .ishr, 1, 0, 0, 0)) := rfl
theorem p82_24 : vm_P 82 24 = some (vm_m82, (24, .iconst 1, 1, 0, 0, 0)) := rfl
theorem p82_25 : vm_P 82 25 = some (vm_m82, (25, .iand, 1, 0, 0, 0)) := rfl
theorem p82_26 : vm_P 82 26 = some (vm_m82, (26, .iconst 1, 1, 0, 0, 0)) := rfl
theorem p82_27 : vm_P 82 27 = some (vm_m82, (27, .if_icmp .ne 21, 3, 0, 0, 0)) := rfl
theorem p82_30 : vm_P 82 30 = some (vm_m82, (30, .iload_n 2, 1, 0, 0, 0)) := rfl
theorem p82_31 : vm_P 82 31 = some (vm_m82, (31, .iconst 1, 1, 0, 0, 0)) := rfl
theorem p82_32 : vm_P 82 32 = some (vm_m82, (32, .aload_n 0, 1, 0, 0, 0)) := rfl
theorem p82_33 : vm_P 82 33 = some (vm_m82, (33, .iload_n 3, 1, 0, 0, 0)) := rfl
theorem p82_34 : vm_P 82 34 = some (vm_m82, (34, .iload 4, 2, 0, 0, 0)) := rfl
theorem p82_36 : vm_P 82 36 = some (vm_m82, (36, .invokevirtual 78, 3, 0, 79, 702)) := rfl
theorem p82_39 : vm_P 82 39 = some (vm_m82, (39, .ishl, 1, 0, 0, 0)) := rfl
theorem p82_40 : vm_P 82 40 = some (vm_m82, (40, .ior, 1, 0, 0, 0)) := rfl
theorem p82_41 : vm_P 82 41 = some (vm_m82, (41, .istore_n 2, 1, 0, 0, 0)) := rfl
theorem p82_42 : vm_P 82 42 = some (vm_m82, (42, .iinc 4 1, 3, 0, 0, 0)) := rfl
theorem p82_45 : vm_P 82 45 = some (vm_m82, (45, .goto (-30), 3, 0, 0, 0)) := rfl
theorem p82_48 : vm_P 82 48 = some (vm_m82, (48, .iinc 3 1, 3, 0, 0, 0)) := rfl
theorem p82_51 : vm_P 82 51 = some (vm_m82, (51, .goto (-47), 3, 0, 0, 0)) := rfl
theorem p82_54 : vm_P 82 54 = some (vm_m82, (54, .iload_n 2, 1, 0, 0, 0)) := rfl
theorem p82_55 : vm_P 82 55 = some (vm_m82, (55, .ireturn, 1, 0, 0, 0)) := rfl
theorem p83_0 : vm_P 83 0 = some (vm_m83, (0, .iconst 0, 1, 0, 0, 0)) := rfl
theorem p83_1 : vm_P 83 1 = some (vm_m83, (1, .istore_n 3, 1, 0, 0, 0)) := rfl
theorem p83_2 : vm_P 83 2 = some (vm_m83, (2, .iconst 0, 1, 0, 0, 0)) := rfl
theorem p83_3 : vm_P 83 3 = some (vm_m83, (3, .istore 4, 2, 0, 0, 0)) := rfl
theorem p83_5 : vm_P 83 5 = some (vm_m83, (5, .iload 4, 2, 0, 0, 0)) := rfl
theorem p83_7 : vm_P 83 7 = some (vm_m83, (7, .aload_n 0, 1, 0, 0, 0)) := rfl
theorem p83_8 : vm_P 83 8 = some (vm_m83, (8, .getfield 29, 3, 7, 4, 0)) := rfl
theorem p83_11 : vm_P 83 11 = some (vm_m83, (11, .if_icmp .ge 27, 3, 0, 0, 0)) := rfl
theorem p83_14 : vm_P 83 14 = some (vm_m83, (14, .aload_n 0, 1, 0, 0, 0)) := rfl
theorem p83_15 : vm_P 83 15 = some (vm_m83, (15, .iload 4, 2, 0, 0, 0)) := rfl
theorem p83_17 : vm_P 83 17 = some (vm_m83, (17, .aload_n 1, 1, 0, 0, 0)) := rfl
theorem p83_18 : vm_P 83 18 = some (vm_m83, (18, .invokevirtual 81, 3, 0, 84, 702)) := rfl
theorem p83_21 : vm_P 83 21 = some (vm_m83, (21, .iload_n 2, 1, 0, 0, 0)) := rfl
theorem p83_22 : vm_P 83 22 = some (vm_m83, (22, .if_icmp .ne 10, 3, 0, 0, 0)) := rfl
theorem p83_25 : vm_P 83 25 = some (vm_m83, (25, .iload_n 3, 1, 0, 0, 0)) := rfl
theorem p83_26 : vm_P 83 26 = some (vm_m83, (26, .iconst 1, 1, 0, 0, 0)) := rfl
theorem p83_27 : vm_P 83 27 = some (vm_m83, (27, .iload 4, 2, 0, 0, 0)) := rfl
theorem p83_29 : vm_P 83 29 = some (vm_m83, (29, .ishl, 1, 0, 0, 0)) := rfl
theorem p83_30 : vm_P 83 30 = some (vm_m83, (30, .ior, 1, 0, 0, 0)) := rfl
theorem p83_31 : vm_P 83 31 = some (vm_m83, (31, .istore_n 3, 1, 0, 0, 0)) := rfl
theorem p83_32 : vm_P 83 32 = some (vm_m83, (32, .iinc 4 1, 3, 0, 0, 0)) := rfl
theorem p83_35 : vm_P 83 35 = some (vm_m83, (35, .goto (-30), 3, 0, 0, 0)) := rfl
theorem p83_38 : vm_P 83 38 = some (vm_m83, (38, .iload_n 3, 1, 0, 0, 0)) := rfl
theorem p83_39 : vm_P 83 39 = some (vm_m83, (39, .ireturn, 1, 0, 0, 0)) := rfl
theorem p84_0 : vm_P 84 0 = some (vm_m84, (0, .iload_n 1, 1, 0, 0, 0)) := rfl
theorem p84_1 : vm_P 84 1 = some (vm_m84, (1, .istore_n 3, 1, 0, 0, 0)) := rfl
theorem p84_2 : vm_P 84 2 = some (vm_m84, (2, .iconst 0, 1, 0, 0, 0)) := rfl
theorem p84_3 : vm_P 84 3 = some (vm_m84, (3, .istore 4, 2, 0, 0, 0)) := rfl
theorem p84_5 : vm_P 84 5 = some (vm_m84, (5, .iload 4, 2, 0, 0, 0)) := rfl
theorem p84_7 : vm_P 84 7 = some (vm_m84, (7, .aload_n 2, 1, 0, 0, 0)) := rfl
theorem p84_8 : vm_P 84 8 = some (vm_m84, (8, .invokevirtual 55, 3, 0, 55, 500)) := rfl
theorem p84_11 : vm_P 84 11 = some (vm_m84, (11, .if_icmp .ge 21, 3, 0, 0, 0)) := rfl
theorem p84_14 : vm_P 84 14 = some (vm_m84, (14, .aload_n 0, 1, 0, 0, 0)) := rfl
theorem p84_15 : vm_P 84 15 = some (vm_m84, (15, .iload_n 3, 1, 0, 0, 0)) := rfl
theorem p84_16 : vm_P 84 16 = some (vm_m84, (16, .aload_n 2, 1, 0, 0, 0)) := rfl
theorem p84_17 : vm_P 84 17 = some (vm_m84, (17, .iload 4, 2, 0, 0, 0)) := rfl
theorem p84_19 : vm_P 84 19 = some (vm_m84, (19, .invokevirtual 44, 3, 0, 59, 501)) := rfl
theorem p84_22 : vm_P 84 22 = some (vm_m84, (22, .invokevirtual 78, 3, 0, 79, 702)) := rfl
theorem p84_25 : vm_P 84 25 = some (vm_m84, (25, .istore_n 3, 1, 0, 0, 0)) := rfl
theorem p84_26 : vm_P 84 26 = some (vm_m84, (26, .iinc 4 1, 3, 0, 0, 0)) := rfl
theorem p84_29 : vm_P 84 29 = some (vm_m84, (29, .goto (-24), 3, 0, 0, 0)) := rfl
theorem p84_32 : vm_P 84 32 = some (vm_m84, (32, .iload_n 3, 1, 0, 0, 0)) := rfl
theorem p84_33 : vm_P 84 33 = some (vm_m84, (33, .ireturn, 1, 0, 0, 0)) := rfl
theorem p85_0 : vm_P 85 0 = some (vm_m85, (0, .aload_n 0, 1, 0, 0, 0)) := rfl
theorem p85_1 : vm_P 85 1 = some (vm_m85, (1, .getfield 23, 3, 7, 2, 0)) := rfl
theorem p85_4 : vm_P 85 4 = some (vm_m85, (4, .iconst 0, 1, 0, 0, 0)) := rfl
theorem p85_5 : vm_P 85 5 = some (vm_m85, (5, .invokevirtual 85, 3, 0, 61, 501)) := rfl
theorem p85_8 : vm_P 85 8 = some (vm_m85, (8, .aload_n 0, 1, 0, 0, 0)) := rfl
theorem p85_9 : vm_P 85 9 = some (vm_m85, (9, .getfield 23, 3, 7, 2, 0)) := rfl
theorem p85_12 : vm_P 85 12 = some (vm_m85, (12, .iload_n 1, 1, 0, 0, 0)) := rfl
theorem p85_13 : vm_P 85 13 = some (vm_m85, (13, .iconst 1, 1, 0, 0, 0)) := rfl
theorem p85_14 : vm_P 85 14 = some (vm_m85, (14, .invokevirtual 88, 3, 0, 60, 502)) := rfl
theorem p85_17 : vm_P 85 17 = some (vm_m85, (17, .iconst 0, 1, 0, 0, 0)) := rfl
theorem p85_18 : vm_P 85 18 = some (vm_m85, (18, .istore 4, 2, 0, 0, 0)) := rfl
theorem p85_20 : vm_P 85 20 = some (vm_m85, (20, .iload 4, 2, 0, 0, 0)) := rfl
theorem p85_22 : vm_P 85 22 = some (vm_m85, (22, .iload_n 3, 1, 0, 0, 0)) := rfl
theorem p85_23 : vm_P 85 23 = some (vm_m85, (23, .if_icmp .ge 13, 3, 0, 0, 0)) := rfl
theorem p85_26 : vm_P 85 26 = some (vm_m85, (26, .aload_n 0, 1, 0, 0, 0)) := rfl
theorem p85_27 : vm_P 85 27 = some (vm_m85, (27, .invokevirtual 92, 3, 0, 86, 700)) := rfl
theorem p85_30 : vm_P 85 30 = some (vm_m85, (30, .iinc 4 1, 3, 0, 0, 0)) := rfl
theorem p85_33 : vm_P 85 33 = some (vm_m85, (33, .goto (-13), 3, 0, 0, 0)) := rfl
theorem p85_36 : vm_P 85 36 = some (vm_m85, (36, .aload_n 0, 1, 0, 0, 0)) := rfl
theorem p85_37 : vm_P 85 37 = some (vm_m85, (37, .getfield 23, 3, 7, 2, 0)) := rfl
theorem p85_40 : vm_P 85 40 = some (vm_m85, (40, .iload_n 2, 1, 0, 0, 0)) := rfl
theorem p85_41 : vm_P 85 41 = some (vm_m85, (41, .invokevirtual 44, 3, 0, 59, 501)) := rfl
theorem p85_44 : vm_P 85 44 = some (vm_m85, (44, .ireturn, 1, 0, 0, 0)) := rfl
theorem p86_0 : vm_P 86 0 = some (vm_m86, (0, .aload_n 0, 1, 0, 0, 0)) := rfl
theorem p86_1 : vm_P 86 1 = some (vm_m86, (1, .getfield 26, 3, 7, 3, 0)) := rfl
theorem p86_4 : vm_P 86 4 = some (vm_m86, (4, .iconst 0, 1, 0, 0, 0)) := rfl
theorem p86_5 : vm_P 86 5 = some (vm_m86, (5, .invokevirtual 85, 3, 0, 61, 501)) := rfl
theorem p86_8 : vm_P 86 8 = some (vm_m86, (8, .iconst 0, 1, 0, 0, 0)) := rfl
theorem p86_9 : vm_P 86 9 = some (vm_m86, (9, .istore_n 1, 1, 0, 0, 0)) := rfl
theorem p86_10 : vm_P 86 10 = some (vm_m86, (10, .iload_n 1, 1, 0, 0, 0)) := rfl
theorem p86_11 : vm_P 86 11 = some (vm_m86, (11, .aload_n 0, 1, 0, 0, 0)) := rfl
theorem p86_12 : vm_P 86 12 = some (vm_m86, (12, .getfield 29, 3, 7, 4, 0)) := rfl
theorem p86_15 : vm_P 86 15 = some (vm_m86, (15, .if_icmp .ge 54, 3, 0, 0, 0)) := rfl
theorem p86_18 : vm_P 86 18 = some (vm_m86, (18, .iconst 0, 1, 0, 0, 0)) := rfl
theorem p86_19 : vm_P 86 19 = some (vm_m86, (19, .istore_n 2, 1, 0, 0, 0)) := rfl
theorem p86_20 : vm_P 86 20 = some (vm_m86, (20, .iload_n 2, 1, 0, 0, 0)) := rfl
theorem p86_21 : vm_P 86 21 = some (vm_m86, (21, .iconst 4, 1, 0, 0, 0)) := rfl
theorem p86_22 : vm_P 86 22 = some (vm_m86, (22, .if_icmp .ge 41, 3, 0, 0, 0)) := rfl
theorem p86_25 : vm_P 86 25 = some (vm_m86, (25, .aload_n 0, 1, 0, 0, 0)) := rfl
theorem p86_26 : vm_P 86 26 = some (vm_m86, (26, .iload_n 1, 1, 0, 0, 0)) := rfl
theorem p86_27 : vm_P 86 27 = some (vm_m86, (27, .iload_n 2, 1, 0, 0, 0)) := rfl
theorem p86_28 : vm_P 86 28 = some (vm_m86, (28, .invokevirtual 78, 3, 0, 79, 702)) := rfl
theorem p86_31 : vm_P 86 31 = some (vm_m86, (31, .istore_n 3, 1, 0, 0, 0)) := rfl
theorem p86_32 : vm_P 86 32 = some (vm_m86, (32, .aload_n 0, 1, 0, 0, 0)) := rfl
theorem p86_33 : vm_P 86 33 = some (vm_m86, (33, .getfield 26, 3, 7, 3, 0)) := rfl
theorem p86_36 : vm_P 86 36 = some (vm_m86, (36, .iload_n 3, 1, 0, 0, 0)) := rfl
theorem p86_37 : vm_P 86 37 = some (vm_m86, (37, .aload_n 0, 1, 0, 0, 0)) := rfl
theorem p86_38 : vm_P 86 38 = some (vm_m86, (38, .getfield 26, 3, 7, 3, 0)) := rfl
theorem p86_41 : vm_P 86 41 = some (vm_m86, (41, .iload_n 3, 1, 0, 0, 0)) := rfl
theorem p86_42 : vm_P 86 42 = some (vm_m86, (42, .invokevirtual 44, 3, 0, 59, 501)) := rfl
theorem p86_45 : vm_P 86 45 = some (vm_m86, (45, .aload_n 0, 1, 0, 0, 0)) := rfl
theorem p86_46 : vm_P 86 46 = some (vm_m86, (46, .getfield 23, 3, 7, 2, 0)) := rfl
theorem p86_49 : vm_P 86 49 = some (vm_m86, (49, .iload_n 1, 1, 0, 0, 0)) := rfl
theorem p86_50 : vm_P 86 50 = some (vm_m86, (50, .invokevirtual 44, 3, 0, 59, 501)) := rfl
theorem p86_53 : vm_P 86 53 = some (vm_m86, (53, .iadd, 1, 0, 0, 0)) := rfl
theorem p86_54 : vm_P 86 54 = some (vm_m86, (54, .invokevirtual 88, 3, 0, 60, 502)) := rfl
theorem p86_57 : vm_P 86 57 = some (vm_m86, (57, .iinc 2 1, 3, 0, 0, 0)) := rfl
theorem p86_60 : vm_P 86 60 = some (vm_m86, (60, .goto (-40), 3, 0, 0, 0)) := rfl
theorem p86_63 : vm_P 86 63 = some (vm_m86, (63, .iinc 1 1, 3, 0, 0, 0)) := rfl
theorem p86_66 : vm_P 86 66 = some (vm_m86, (66, .goto (-56), 3, 0, 0, 0)) := rfl
theorem p86_69 : vm_P 86 69 = some (vm_m86, (69, .aload_n 0, 1, 0, 0, 0)) := rfl
theorem p86_70 : vm_P 86 70 = some (vm_m86, (70, .getfield 23, 3, 7, 2, 0)) := rfl
theorem p86_73 : vm_P 86 73 = some (vm_m86, (73, .aload_n 0, 1, 0, 0, 0)) := rfl
theorem p86_74 : vm_P 86 74 = some (vm_m86, (74, .getfield 26, 3, 7, 3, 0)) := rfl
theorem p86_77 : vm_P 86 77 = some (vm_m86, (77, .invokevirtual 36, 3, 0, 62, 501)) := rfl
theorem p86_80 : vm_P 86 80 = some (vm_m86, (80, .return_, 1, 0, 0, 0)) := rfl
theorem p87_0 : vm_P 87 0 = some (vm_m87, (0, .aload_n 0, 1, 0, 0, 0)) := rfl
theorem p87_1 : vm_P 87 1 = some (vm_m87, (1, .invokespecial 3, 3, 5, 0, 0)) := rfl
theorem p87_4 : vm_P 87 4 = some (vm_m87, (4, .aload_n 0, 1, 0, 0, 0)) := rfl
theorem p87_5 : vm_P 87 5 = some (vm_m87, (5, .new 9, 3, 5, 0, 0)) := rfl
theorem p87_8 : vm_P 87 8 = some (vm_m87, (8, .dup, 1, 0, 0, 0)) := rfl
theorem p87_9 : vm_P 87 9 = some (vm_m87, (9, .iconst 4, 1, 0, 0, 0)) := rfl
theorem p87_10 : vm_P 87 10 = some (vm_m87, (10, .invokespecial 11, 3, 2, 54, 1)) := rfl
theorem p87_13 : vm_P 87 13 = some (vm_m87, (13, .putfield 14, 3, 8, 1, 0)) := rfl
theorem p87_16 : vm_P 87 16 = some (vm_m87, (16, .aload_n 0, 1, 0, 0, 0)) := rfl
theorem p87_17 : vm_P 87 17 = some (vm_m87, (17, .new 9, 3, 5, 0, 0)) := rfl
theorem p87_20 : vm_P 87 20 = some (vm_m87, (20, .dup, 1, 0, 0, 0)) := rfl
theorem p87_21 : vm_P 87 21 = some (vm_m87, (21, .bipush 6, 2, 0, 0, 0)) := rfl
theorem p87_23 : vm_P 87 23 = some (vm_m87, (23, .invokespecial 11, 3, 2, 54, 1)) := rfl
theorem p87_26 : vm_P 87 26 = some (vm_m87, (26, .putfield 20, 3, 8, 2, 0)) := rfl
theorem p87_29 : vm_P 87 29 = some (vm_m87, (29, .aload_n 0, 1, 0, 0, 0)) := rfl
theorem p87_30 : vm_P 87 30 = some (vm_m87, (30, .aload_n 1, 1, 0, 0, 0)) := rfl
theorem p87_31 : vm_P 87 31 = some (vm_m87, (31, .putfield 23, 3, 8, 0, 0)) := rfl
theorem p87_34 : vm_P 87 34 = some (vm_m87, (34, .return_, 1, 0, 0, 0)) := rfl
theorem p88_0 : vm_P 88 0 = some (vm_m88, (0, .aload_n 0, 1, 0, 0, 0)) := rfl
theorem p88_1 : vm_P 88 1 = some (vm_m88, (1, .getfield 23, 3, 8, 0, 0)) := rfl
theorem p88_4 : vm_P 88 4 = some (vm_m88, (4, .aload_n 1, 1, 0, 0, 0)) := rfl
theorem p88_5 : vm_P 88 5 = some (vm_m88, (5, .iload_n 2, 1, 0, 0, 0)) := rfl
theorem p88_6 : vm_P 88 6 = some (vm_m88, (6, .iconst 1, 1, 0, 0, 0)) := rfl
theorem p88_7 : vm_P 88 7 = some (vm_m88, (7, .invokevirtual 29, 3, 0, 7, 2)) := rfl
theorem p88_10 : vm_P 88 10 = some (vm_m88, (10, .invokevirtual 33, 3, 0, 81, 701)) := rfl
theorem p88_13 : vm_P 88 13 = some (vm_m88, (13, .iload_n 3, 1, 0, 0, 0)) := rfl
theorem p88_14 : vm_P 88 14 = some (vm_m88, (14, .ishr, 1, 0, 0, 0)) := rfl
theorem p88_15 : vm_P 88 15 = some (vm_m88, (15, .iconst 1, 1, 0, 0, 0)) := rfl
theorem p88_16 : vm_P 88 16 = some (vm_m88, (16, .iand, 1, 0, 0, 0)) := rfl
theorem p88_17 : vm_P 88 17 = some (vm_m88, (17, .ifCond .ne 6, 3, 0, 0, 0)) := rfl
theorem p88_20 : vm_P 88 20 = some (vm_m88, (20, .bipush (-4), 2, 0, 0, 0)) := rfl
theorem p88_22 : vm_P 88 22 = some (vm_m88, (22, .ireturn, 1, 0, 0, 0)) := rfl
theorem p88_23 : vm_P 88 23 = some (vm_m88, (23, .aload_n 0, 1, 0, 0, 0)) := rfl
theorem p88_24 : vm_P 88 24 = some (vm_m88, (24, .iload_n 3, 1, 0, 0, 0)) := rfl
theorem p88_25 : vm_P 88 25 = some (vm_m88, (25, .putfield 39, 3, 8, 3, 0)) := rfl
theorem p88_28 : vm_P 88 28 = some (vm_m88, (28, .aload_n 0, 1, 0, 0, 0)) := rfl
theorem p88_29 : vm_P 88 29 = some (vm_m88, (29, .getfield 14, 3, 8, 1, 0)) := rfl
theorem p88_32 : vm_P 88 32 = some (vm_m88, (32, .invokevirtual 43, 3, 0, 57, 500)) := rfl
theorem p88_35 : vm_P 88 35 = some (vm_m88, (35, .iconst 0, 1, 0, 0, 0)) := rfl
theorem p88_36 : vm_P 88 36 = some (vm_m88, (36, .istore 4, 2, 0, 0, 0)) := rfl
theorem p88_38 : vm_P 88 38 = some (vm_m88, (38, .iload 4, 2, 0, 0, 0)) := rfl
theorem p88_40 : vm_P 88 40 = some (vm_m88, (40, .iconst 4, 1, 0, 0, 0)) := rfl
theorem p88_41 : vm_P 88 41 = some (vm_m88, (41, .if_icmp .ge 25, 3, 0, 0, 0)) := rfl
theorem p88_44 : vm_P 88 44 = some (vm_m88, (44, .aload_n 0, 1, 0, 0, 0)) := rfl
theorem p88_45 : vm_P 88 45 = some (vm_m88, (45, .getfield 14, 3, 8, 1, 0)) := rfl
theorem p88_48 : vm_P 88 48 = some (vm_m88, (48, .aload_n 1, 1, 0, 0, 0)) := rfl
theorem p88_49 : vm_P 88 49 = some (vm_m88, (49, .iload_n 2, 1, 0, 0, 0)) := rfl
theorem p88_50 : vm_P 88 50 = some (vm_m88, (50, .iconst 2, 1, 0, 0, 0)) := rfl
theorem p88_51 : vm_P 88 51 = some (vm_m88, (51, .iload 4, 2, 0, 0, 0)) := rfl
theorem p88_53 : vm_P 88 53 = some (vm_m88, (53, .iadd, 1, 0, 0, 0)) := rfl
theorem p88_54 : vm_P 88 54 = some (vm_m88, (54, .invokevirtual 29, 3, 0, 7, 2)) := rfl
theorem p88_57 : vm_P 88 57 = some (vm_m88, (57, .invokevirtual 46, 3, 0, 58, 501)) := rfl
theorem p88_60 : vm_P 88 60 = some (vm_m88, (60, .iinc 4 1, 3, 0, 0, 0)) := rfl
theorem p88_63 : vm_P 88 63 = some (vm_m88, (63, .goto (-25), 3, 0, 0, 0)) := rfl
theorem p88_66 : vm_P 88 66 = some (vm_m88, (66, .aload_n 0, 1, 0, 0, 0)) := rfl
theorem p88_67 : vm_P 88 67 = some (vm_m88, (67, .getfield 20, 3, 8, 2, 0)) := rfl
theorem p88_70 : vm_P 88 70 = some (vm_m88, (70, .bipush (-4), 2, 0, 0, 0)) := rfl
theorem p88_72 : vm_P 88 72 = some (vm_m88, (72, .invokevirtual 49, 3, 0, 61, 501)) := rfl
theorem p88_75 : vm_P 88 75 = some (vm_m88, (75, .iconst 0, 1, 0, 0, 0)) := rfl
theorem p88_76 : vm_P 88 76 = some (vm_m88, (76, .istore 4, 2, 0, 0, 0)) := rfl
theorem p88_78 : vm_P 88 78 = some (vm_m88, (78, .iload 4, 2, 0, 0, 0)) := rfl
theorem p88_80 : vm_P 88 80 = some (vm_m88, (80, .bipush 6, 2, 0, 0, 0)) := rfl
theorem p88_82 : vm_P 88 82 = some (vm_m88, (82, .if_icmp .gt 38, 3, 0, 0, 0)) := rfl
theorem p88_85 : vm_P 88 85 = some (vm_m88, (85, .aload_n 0, 1, 0, 0, 0)) := rfl
theorem p88_86 : vm_P 88 86 = some (vm_m88, (86, .iload 4, 2, 0, 0, 0)) := rfl
theorem p88_88 : vm_P 88 88 = some (vm_m88, (88, .putfield 52, 3, 8, 4, 0)) := rfl
theorem p88_91 : vm_P 88 91 = some (vm_m88, (91, .aload_n 0, 1, 0, 0, 0)) := rfl
theorem p88_92 : vm_P 88 92 = some (vm_m88, (92, .iconst 0, 1, 0, 0, 0)) := rfl
theorem p88_93 : vm_P 88 93 = some (vm_m88, (93, .aload_n 1, 1, 0, 0, 0)) := rfl
theorem p88_94 : vm_P 88 94 = some (vm_m88, (94, .iload_n 2, 1, 0, 0, 0)) := rfl
theorem p88_95 : vm_P 88 95 = some (vm_m88, (95, .iconst 0, 1, 0, 0, 0)) := rfl
theorem p88_96 : vm_P 88 96 = some (vm_m88, (96, .invokevirtual 29, 3, 0, 7, 2)) := rfl
theorem p88_99 : vm_P 88 99 = some (vm_m88, (99, .aload_n 1, 1, 0, 0, 0)) := rfl
theorem p88_100 : vm_P 88 100 = some (vm_m88, (100, .iload_n 2, 1, 0, 0, 0)) := rfl
theorem p88_101 : vm_P 88 101 = some (vm_m88, (101, .iconst 1, 1, 0, 0, 0)) := rfl
theorem p88_102 : vm_P 88 102 = some (vm_m88, (102, .invokevirtual 29, 3, 0, 7, 2)) := rfl
theorem p88_105 : vm_P 88 105 = some (vm_m88, (105, .invokevirtual 55, 3, 0, 90, 803)) := rfl
theorem p88_108 : vm_P 88 108 = some (vm_m88, (108, .ifCond .eq 6, 3, 0, 0, 0)) := rfl
theorem p88_111 : vm_P 88 111 = some (vm_m88, (111, .iload 4, 2, 0, 0, 0)) := rfl
theorem p88_113 : vm_P 88 113 = some (vm_m88, (113, .ireturn, 1, 0, 0, 0)) := rfl
theorem p88_114 : vm_P 88 114 = some (vm_m88, (114, .iinc 4 1, 3, 0, 0, 0)) := rfl
theorem p88_117 : vm_P 88 117 = some (vm_m88, (117, .goto (-39), 3, 0, 0, 0)) := rfl
theorem p88_120 : vm_P 88 120 = some (vm_m88, (120, .bipush (-4), 2, 0, 0, 0)) := rfl
theorem p88_122 : vm_P 88 122 = some (vm_m88, (122, .ireturn, 1, 0, 0, 0)) := rfl
theorem p89_0 : vm_P 89 0 = some (vm_m89, (0, .iload_n 1, 1, 0, 0, 0)) := rfl
theorem p89_1 : vm_P 89 1 = some (vm_m89, (1, .aload_n 0, 1, 0, 0, 0)) := rfl
theorem p89_2 : vm_P 89 2 = some (vm_m89, (2, .getfield 52, 3, 8, 4, 0)) := rfl
theorem p89_5 : vm_P 89 5 = some (vm_m89, (5, .if_icmp .ge 14, 3, 0, 0, 0)) := rfl
theorem p89_8 : vm_P 89 8 = some (vm_m89, (8, .aload_n 0, 1, 0, 0, 0)) := rfl
theorem p89_9 : vm_P 89 9 = some (vm_m89, (9, .getfield 20, 3, 8, 2, 0)) := rfl
theorem p89_12 : vm_P 89 12 = some (vm_m89, (12, .iload_n 1, 1, 0, 0, 0)) := rfl
theorem p89_13 : vm_P 89 13 = some (vm_m89, (13, .invokevirtual 59, 3, 0, 59, 501)) := rfl
theorem p89_16 : vm_P 89 16 = some (vm_m89, (16, .goto 5, 3, 0, 0, 0)) := rfl
theorem p89_19 : vm_P 89 19 = some (vm_m89, (19, .bipush (-4), 2, 0, 0, 0)) := rfl
theorem p89_21 : vm_P 89 21 = some (vm_m89, (21, .ireturn, 1, 0, 0, 0)) := rfl
theorem p90_0 : vm_P 90 0 = some (vm_m90, (0, .iload_n 1, 1, 0, 0, 0)) := rfl
theorem p90_1 : vm_P 90 1 = some (vm_m90, (1, .aload_n 0, 1, 0, 0, 0)) := rfl
theorem p90_2 : vm_P 90 2 = some (vm_m90, (2, .getfield 52, 3, 8, 4, 0)) := rfl
theorem p90_5 : vm_P 90 5 = some (vm_m90, (5, .if_icmp .lt 17, 3, 0, 0, 0)) := rfl
theorem p90_8 : vm_P 90 8 = some (vm_m90, (8, .iload_n 3, 1, 0, 0, 0)) := rfl
theorem p90_9 : vm_P 90 9 = some (vm_m90, (9, .aload_n 0, 1, 0, 0, 0)) := rfl
theorem p90_10 : vm_P 90 10 = some (vm_m90, (10, .getfield 39, 3, 8, 3, 0)) := rfl
theorem p90_13 : vm_P 90 13 = some (vm_m90, (13, .if_icmp .ne 7, 3, 0, 0, 0)) := rfl
theorem p90_16 : vm_P 90 16 = some (vm_m90, (16, .iconst 1, 1, 0, 0, 0)) := rfl
theorem p90_17 : vm_P 90 17 = some (vm_m90, (17, .goto 4, 3, 0, 0, 0)) := rfl
theorem p90_20 : vm_P 90 20 = some (vm_m90, (20, .iconst 0, 1, 0, 0, 0)) := rfl
theorem p90_21 : vm_P 90 21 = some (vm_m90, (21, .ireturn, 1, 0, 0, 0)) := rfl
theorem p90_22 : vm_P 90 22 = some (vm_m90, (22, .iconst 0, 1, 0, 0, 0)) := rfl
theorem p90_23 : vm_P 90 23 = some (vm_m90, (23, .istore 4, 2, 0, 0, 0)) := rfl
theorem p90_25 : vm_P 90 25 = some (vm_m90, (25, .iload 4, 2, 0, 0, 0)) := rfl
theorem p90_27 : vm_P 90 27 = some (vm_m90, (27, .iconst 4, 1, 0, 0, 0)) := rfl
theorem p90_28 : vm_P 90 28 = some (vm_m90, (28, .if_icmp .ge 23, 3, 0, 0, 0)) := rfl
theorem p90_31 : vm_P 90 31 = some (vm_m90, (31, .aload_n 0, 1, 0, 0, 0)) := rfl
theorem p90_32 : vm_P 90 32 = some (vm_m90, (32, .iload 4, 2, 0, 0, 0)) := rfl
theorem p90_34 : vm_P 90 34 = some (vm_m90, (34, .iload_n 1, 1, 0, 0, 0)) := rfl
theorem p90_35 : vm_P 90 35 = some (vm_m90, (35, .iload_n 2, 1, 0, 0, 0)) := rfl
theorem p90_36 : vm_P 90 36 = some (vm_m90, (36, .iload_n 3, 1, 0, 0, 0)) := rfl
theorem p90_37 : vm_P 90 37 = some (vm_m90, (37, .invokevirtual 61, 3, 0, 91, 804)) := rfl
theorem p90_40 : vm_P 90 40 = some (vm_m90, (40, .ifCond .eq 5, 3, 0, 0, 0)) := rfl
theorem p90_43 : vm_P 90 43 = some (vm_m90, (43, .iconst 1, 1, 0, 0, 0)) := rfl
theorem p90_44 : vm_P 90 44 = some (vm_m90, (44, .ireturn, 1, 0, 0, 0)) := rfl
theorem p90_45 : vm_P 90 45 = some (vm_m90, (45, .iinc 4 1, 3, 0, 0, 0)) := rfl
theorem p90_48 : vm_P 90 48 = some (vm_m90, (48, .goto (-23), 3, 0, 0, 0)) := rfl
theorem p90_51 : vm_P 90 51 = some (vm_m90, (51, .iconst 0, 1, 0, 0, 0)) := rfl
theorem p90_52 : vm_P 90 52 = some (vm_m90, (52, .ireturn, 1, 0, 0, 0)) := rfl
theorem p91_0 : vm_P 91 0 = some (vm_m91, (0, .iload_n 3, 1, 0, 0, 0)) := rfl
theorem p91_1 : vm_P 91 1 = some (vm_m91, (1, .iload_n 1, 1, 0, 0, 0)) := rfl
theorem p91_2 : vm_P 91 2 = some (vm_m91, (2, .invokestatic 65, 3, 1, 30, 2)) := rfl
theorem p91_5 : vm_P 91 5 = some (vm_m91, (5, .istore 5, 2, 0, 0, 0)) := rfl
theorem p91_7 : vm_P 91 7 = some (vm_m91, (7, .aload_n 0, 1, 0, 0, 0)) := rfl
theorem p91_8 : vm_P 91 8 = some (vm_m91, (8, .getfield 14, 3, 8, 1, 0)) := rfl
theorem p91_11 : vm_P 91 11 = some (vm_m91, (11, .iload_n 1, 1, 0, 0, 0)) := rfl
theorem p91_12 : vm_P 91 12 = some (vm_m91, (12, .invokevirtual 59, 3, 0, 59, 501)) := rfl
theorem p91_15 : vm_P 91 15 = some (vm_m91, (15, .iconst 1, 1, 0, 0, 0)) := rfl
theorem p91_16 : vm_P 91 16 = some (vm_m91, (16, .if_icmp .lt 9, 3, 0, 0, 0)) := rfl
theorem p91_19 : vm_P 91 19 = some (vm_m91, (19, .iload 5, 2, 0, 0, 0)) := rfl
theorem p91_21 : vm_P 91 21 = some (vm_m91, (21, .iconst 1, 1, 0, 0, 0)) := rfl
theorem p91_22 : vm_P 91 22 = some (vm_m91, (22, .if_icmp .ge 5, 3, 0, 0, 0)) := rfl
theorem p91_25 : vm_P 91 25 = some (vm_m91, (25, .iconst 0, 1, 0, 0, 0)) := rfl
theorem p91_26 : vm_P 91 26 = some (vm_m91, (26, .ireturn, 1, 0, 0, 0)) := rfl
theorem p91_27 : vm_P 91 27 = some (vm_m91, (27, .aload_n 0, 1, 0, 0, 0)) := rfl
theorem p91_28 : vm_P 91 28 = some (vm_m91, (28, .getfield 14, 3, 8, 1, 0)) := rfl
theorem p91_31 : vm_P 91 31 = some (vm_m91, (31, .iload_n 1, 1, 0, 0, 0)) := rfl
theorem p91_32 : vm_P 91 32 = some (vm_m91, (32, .aload_n 0, 1, 0, 0, 0)) := rfl
theorem p91_33 : vm_P 91 33 = some (vm_m91, (33, .getfield 14, 3, 8, 1, 0)) := rfl
theorem p91_36 : vm_P 91 36 = some (vm_m91, (36, .iload_n 1, 1, 0, 0, 0)) := rfl
theorem p91_37 : vm_P 91 37 = some (vm_m91, (37, .invokevirtual 59, 3, 0, 59, 501)) := rfl
theorem p91_40 : vm_P 91 40 = some (vm_m91, (40, .iconst 1, 1, 0, 0, 0)) := rfl
theorem p91_41 : vm_P 91 41 = some (vm_m91, (41, .isub, 1, 0, 0, 0)) := rfl
theorem p91_42 : vm_P 91 42 = some (vm_m91, (42, .invokevirtual 70, 3, 0, 60, 502)) := rfl
theorem p91_45 : vm_P 91 45 = some (vm_m91, (45, .aload_n 0, 1, 0, 0, 0)) := rfl
theorem p91_46 : vm_P 91 46 = some (vm_m91, (46, .getfield 20, 3, 8, 2, 0)) := rfl
theorem p91_49 : vm_P 91 49 = some (vm_m91, (49, .iload_n 2, 1, 0, 0, 0)) := rfl
theorem p91_50 : vm_P 91 50 = some (vm_m91, (50, .iload_n 1, 1, 0, 0, 0)) := rfl
theorem p91_51 : vm_P 91 51 = some (vm_m91, (51, .invokevirtual 70, 3, 0, 60, 502)) := rfl
theorem p91_54 : vm_P 91 54 = some (vm_m91, (54, .aload_n 0, 1, 0, 0, 0)) := rfl
theorem p91_55 : vm_P 91 55 = some (vm_m91, (55, .iload_n 2, 1, 0, 0, 0)) := rfl
theorem p91_56 : vm_P 91 56 = some (vm_m91, (56, .iconst 1, 1, 0, 0, 0)) := rfl
theorem p91_57 : vm_P 91 57 = some (vm_m91, (57, .iadd, 1, 0, 0, 0)) := rfl
theorem p91_58 : vm_P 91 58 = some (vm_m91, (58, .iload 5, 2, 0, 0, 0)) := rfl
theorem p91_60 : vm_P 91 60 = some (vm_m91, (60, .aload_n 0, 1, 0, 0, 0)) := rfl
theorem p91_61 : vm_P 91 61 = some (vm_m91, (61, .getfield 23, 3, 8, 0, 0)) := rfl
theorem p91_64 : vm_P 91 64 = some (vm_m91, (64, .iload 4, 2, 0, 0, 0)) := rfl
theorem p91_66 : vm_P 91 66 = some (vm_m91, (66, .iload_n 1, 1, 0, 0, 0)) := rfl
theorem p91_67 : vm_P 91 67 = some (vm_m91, (67, .invokevirtual 74, 3, 0, 79, 702)) := rfl
theorem p91_70 : vm_P 91 70 = some (vm_m91, (70, .invokevirtual 55, 3, 0, 90, 803)) := rfl
theorem p91_73 : vm_P 91 73 = some (vm_m91, (73, .istore 6, 2, 0, 0, 0)) := rfl
theorem p91_75 : vm_P 91 75 = some (vm_m91, (75, .aload_n 0, 1, 0, 0, 0)) := rfl
theorem p91_76 : vm_P 91 76 = some (vm_m91, (76, .getfield 14, 3, 8, 1, 0)) := rfl
theorem p91_79 : vm_P 91 79 = some (vm_m91, (79, .iload_n 1, 1, 0, 0, 0)) := rfl
theorem p91_80 : vm_P 91 80 = some (vm_m91, (80, .aload_n 0, 1, 0, 0, 0)) := rfl
theorem p91_81 : vm_P 91 81 = some (vm_m91, (81, .getfield 14, 3, 8, 1, 0)) := rfl
theorem p91_84 : vm_P 91 84 = some (vm_m91, (84, .iload_n 1, 1, 0, 0, 0)) := rfl
theorem p91_85 : vm_P 91 85 = some (vm_m91, (85, .invokevirtual 59, 3, 0, 59, 501)) := rfl
theorem p91_88 : vm_P 91 88 = some (vm_m91, (88, .iconst 1, 1, 0, 0, 0)) := rfl
theorem p91_89 : vm_P 91 89 = some (vm_m91, (89, .iadd, 1, 0, 0, 0)) := rfl
theorem p91_90 : vm_P 91 90 = some (vm_m91, (90, .invokevirtual 70, 3, 0, 60, 502)) := rfl
theorem p91_93 : vm_P 91 93 = some (vm_m91, (93, .iload 6, 2, 0, 0, 0)) := rfl
theorem p91_95 : vm_P 91 95 = some (vm_m91, (95, .ireturn, 1, 0, 0, 0)) := rfl
