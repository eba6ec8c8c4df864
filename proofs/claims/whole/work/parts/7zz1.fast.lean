/-! THE TWO MODELS WHEN THEY ARE MADE: the machine with its code read from a table, and the run of both constructors, by the kernel -/
def zi_t0 : List (Nat × Instr × Nat) := [(0, .aload_n 0, 1), (1, .invokespecial 1, 3), (4, .aload_n 0, 1), (5, .new 7, 3), (8, .dup, 1), (9, .invokespecial 9, 3), (12, .putfield 10, 3), (15, .aload_n 0, 1), (16, .new 16, 3), (19, .dup, 1), (20, .invokespecial 18, 3), (23, .putfield 19, 3), (26, .aload_n 0, 1), (27, .new 16, 3), (30, .dup, 1), (31, .invokespecial 18, 3), (34, .putfield 23, 3), (37, .aload_n 0, 1), (38, .new 26, 3), (41, .dup, 1), (42, .aload_n 0, 1), (43, .getfield 10, 3), (46, .aload_n 0, 1), (47, .getfield 23, 3), (50, .invokespecial 28, 3), (53, .putfield 31, 3), (56, .aload_n 0, 1), (57, .new 35, 3), (60, .dup, 1), (61, .invokespecial 37, 3), (64, .putfield 38, 3), (67, .aload_n 0, 1), (68, .new 35, 3), (71, .dup, 1), (72, .invokespecial 37, 3), (75, .putfield 42, 3), (78, .aload_n 0, 1), (79, .new 35, 3), (82, .dup, 1), (83, .invokespecial 37, 3), (86, .putfield 45, 3), (89, .aload_n 0, 1), (90, .new 48, 3), (93, .dup, 1), (94, .invokespecial 50, 3), (97, .putfield 51, 3), (100, .aload_n 0, 1), (101, .new 55, 3), (104, .dup, 1), (105, .invokespecial 57, 3), (108, .putfield 58, 3), (111, .aload_n 0, 1), (112, .new 62, 3), (115, .dup, 1), (116, .invokespecial 64, 3), (119, .putfield 65, 3), (122, .aload_n 0, 1), (123, .new 69, 3), (126, .dup, 1), (127, .invokespecial 71, 3), (130, .putfield 72, 3), (133, .aload_n 0, 1), (134, .new 76, 3), (137, .dup, 1), (138, .invokespecial 78, 3), (141, .putfield 79, 3), (144, .aload_n 0, 1), (145, .new 83, 3), (148, .dup, 1), (149, .invokespecial 85, 3), (152, .putfield 86, 3), (155, .aload_n 0, 1), (156, .bipush 6, 2), (158, .newarray .int, 2), (160, .putfield 90, 3), (163, .aload_n 0, 1), (164, .bipush 8, 2), (166, .newarray .int, 2), (168, .putfield 94, 3), (171, .aload_n 0, 1), (172, .bipush 6, 2), (174, .newarray .int, 2), (176, .putfield 97, 3), (179, .aload_n 0, 1), (180, .iconst 1, 1), (181, .putfield 100, 3), (184, .aload_n 0, 1), (185, .getfield 38, 3), (188, .aload_n 0, 1), (189, .getfield 19, 3), (192, .invokevirtual 104, 3), (195, .return_, 1)]
def zi_t55 : List (Nat × Instr × Nat) := [(0, .aload_n 0, 1), (1, .invokespecial 3, 3), (4, .aload_n 0, 1), (5, .iconst 5, 1), (6, .newarray .int, 2), (8, .putfield 9, 3), (11, .aload_n 0, 1), (12, .iconst 5, 1), (13, .newarray .int, 2), (15, .putfield 15, 3), (18, .return_, 1)]
def zi_t59 : List (Nat × Instr × Nat) := [(0, .aload_n 0, 1), (1, .invokespecial 3, 3), (4, .aload_n 0, 1), (5, .bipush 8, 2), (7, .newarray .int, 2), (9, .putfield 9, 3), (12, .aload_n 0, 1), (13, .bipush 8, 2), (15, .newarray .int, 2), (17, .putfield 15, 3), (20, .aload_n 0, 1), (21, .bipush 8, 2), (23, .newarray .int, 2), (25, .putfield 18, 3), (28, .aload_n 0, 1), (29, .bipush 40, 2), (31, .newarray .int, 2), (33, .putfield 21, 3), (36, .aload_n 0, 1), (37, .bipush 8, 2), (39, .newarray .int, 2), (41, .putfield 24, 3), (44, .aload_n 0, 1), (45, .bipush 8, 2), (47, .newarray .int, 2), (49, .putfield 27, 3), (52, .aload_n 0, 1), (53, .bipush 8, 2), (55, .newarray .int, 2), (57, .putfield 30, 3), (60, .aload_n 0, 1), (61, .bipush 8, 2), (63, .newarray .int, 2), (65, .putfield 33, 3), (68, .aload_n 0, 1), (69, .bipush 64, 2), (71, .newarray .int, 2), (73, .putfield 36, 3), (76, .aload_n 0, 1), (77, .sipush 1600, 3), (80, .newarray .int, 2), (82, .putfield 39, 3), (85, .aload_n 0, 1), (86, .invokevirtual 42, 3), (89, .return_, 1)]
def zi_t60 : List (Nat × Instr × Nat) := [(0, .aload_n 0, 1), (1, .iconst 0, 1), (2, .putfield 45, 3), (5, .aload_n 0, 1), (6, .iconst 0, 1), (7, .putfield 49, 3), (10, .aload_n 0, 1), (11, .iconst 0, 1), (12, .putfield 52, 3), (15, .aload_n 0, 1), (16, .iconst 0, 1), (17, .putfield 55, 3), (20, .aload_n 0, 1), (21, .bipush 50, 2), (23, .putfield 58, 3), (26, .iconst 0, 1), (27, .istore_n 1, 1), (28, .iload_n 1, 1), (29, .aload_n 0, 1), (30, .getfield 21, 3), (33, .arraylength, 1), (34, .if_icmp .ge 16, 3), (37, .aload_n 0, 1), (38, .getfield 21, 3), (41, .iload_n 1, 1), (42, .iconst 0, 1), (43, .iastore, 1), (44, .iinc 1 1, 3), (47, .goto (-19), 3), (50, .iconst 0, 1), (51, .istore_n 1, 1), (52, .iload_n 1, 1), (53, .aload_n 0, 1), (54, .getfield 36, 3), (57, .arraylength, 1), (58, .if_icmp .ge 16, 3), (61, .aload_n 0, 1), (62, .getfield 36, 3), (65, .iload_n 1, 1), (66, .iconst (-1), 1), (67, .iastore, 1), (68, .iinc 1 1, 3), (71, .goto (-19), 3), (74, .aload_n 0, 1), (75, .iconst 0, 1), (76, .putfield 61, 3), (79, .aload_n 0, 1), (80, .iconst 0, 1), (81, .putfield 64, 3), (84, .aload_n 0, 1), (85, .iconst 0, 1), (86, .putfield 67, 3), (89, .aload_n 0, 1), (90, .iconst 0, 1), (91, .putfield 70, 3), (94, .aload_n 0, 1), (95, .iconst 0, 1), (96, .putfield 73, 3), (99, .return_, 1)]
def zi_t66 : List (Nat × Instr × Nat) := [(0, .aload_n 0, 1), (1, .invokespecial 3, 3), (4, .aload_n 0, 1), (5, .bipush 20, 2), (7, .anewarray 9, 3), (10, .putfield 11, 3), (13, .aload_n 0, 1), (14, .bipush 20, 2), (16, .newarray .int, 2), (18, .putfield 17, 3), (21, .aload_n 0, 1), (22, .sipush 3260, 3), (25, .newarray .int, 2), (27, .putfield 21, 3), (30, .iconst 0, 1), (31, .istore_n 1, 1), (32, .iload_n 1, 1), (33, .bipush 20, 2), (35, .if_icmp .ge 22, 3), (38, .aload_n 0, 1), (39, .getfield 11, 3), (42, .iload_n 1, 1), (43, .new 9, 3), (46, .dup, 1), (47, .invokespecial 24, 3), (50, .aastore, 1), (51, .iinc 1 1, 3), (54, .goto (-22), 3), (57, .return_, 1)]
def zi_t73 : List (Nat × Instr × Nat) := [(0, .aload_n 0, 1), (1, .invokespecial 3, 3), (4, .aload_n 0, 1), (5, .iconst (-1), 1), (6, .putfield 9, 3), (9, .aload_n 0, 1), (10, .new 15, 3), (13, .dup, 1), (14, .aload_n 1, 1), (15, .invokespecial 17, 3), (18, .putfield 20, 3), (21, .aload_n 0, 1), (22, .aload_n 2, 1), (23, .putfield 24, 3), (26, .return_, 1)]
def zi_t103 : List (Nat × Instr × Nat) := [(0, .aload_n 0, 1), (1, .invokespecial 3, 3), (4, .aload_n 0, 1), (5, .sipush 188, 3), (8, .newarray .int, 2), (10, .putfield 11, 3), (13, .return_, 1)]
def zi_t112 : List (Nat × Instr × Nat) := [(0, .aload_n 0, 1), (1, .invokespecial 3, 3), (4, .aload_n 0, 1), (5, .bipush 8, 2), (7, .newarray .int, 2), (9, .putfield 9, 3), (12, .aload_n 0, 1), (13, .bipush 8, 2), (15, .newarray .int, 2), (17, .putfield 15, 3), (20, .aload_n 0, 1), (21, .bipush 8, 2), (23, .newarray .int, 2), (25, .putfield 18, 3), (28, .return_, 1)]
def zi_t120 : List (Nat × Instr × Nat) := [(0, .aload_n 0, 1), (1, .invokespecial 3, 3), (4, .aload_n 0, 1), (5, .bipush 64, 2), (7, .newarray .int, 2), (9, .putfield 11, 3), (12, .return_, 1)]
def zi_t126 : List (Nat × Instr × Nat) := [(0, .aload_n 0, 1), (1, .invokespecial 3, 3), (4, .aload_n 0, 1), (5, .bipush 8, 2), (7, .newarray .int, 2), (9, .putfield 9, 3), (12, .aload_n 0, 1), (13, .bipush 8, 2), (15, .newarray .int, 2), (17, .putfield 15, 3), (20, .aload_n 0, 1), (21, .bipush 8, 2), (23, .newarray .int, 2), (25, .putfield 18, 3), (28, .return_, 1)]
def zi_t131 : List (Nat × Instr × Nat) := [(0, .aload_n 0, 1), (1, .invokespecial 3, 3), (4, .aload_n 0, 1), (5, .bipush 25, 2), (7, .newarray .int, 2), (9, .putfield 9, 3), (12, .aload_n 0, 1), (13, .aload_n 1, 1), (14, .putfield 15, 3), (17, .iconst 0, 1), (18, .istore_n 2, 1), (19, .iconst 0, 1), (20, .istore_n 3, 1), (21, .iconst 0, 1), (22, .istore 4, 2), (24, .iconst 0, 1), (25, .istore 5, 2), (27, .iload 5, 2), (29, .ldc 19, 2), (31, .invokevirtual 21, 3), (34, .if_icmp .ge 69, 3), (37, .ldc 19, 2), (39, .iload 5, 2), (41, .invokevirtual 27, 3), (44, .istore 6, 2), (46, .iload 6, 2), (48, .bipush 32, 2), (50, .if_icmp .eq 25, 3), (53, .iload 4, 2), (55, .iload 6, 2), (57, .bipush 97, 2), (59, .isub, 1), (60, .iconst 1, 1), (61, .iadd, 1), (62, .iconst 5, 1), (63, .iload_n 3, 1), (64, .imul, 1), (65, .ishl, 1), (66, .ior, 1), (67, .istore 4, 2), (69, .iinc 3 1, 3), (72, .goto 25, 3), (75, .iload_n 2, 1), (76, .bipush 25, 2), (78, .if_icmp .ge 19, 3), (81, .aload_n 0, 1), (82, .getfield 9, 3), (85, .iload_n 2, 1), (86, .iinc 2 1, 3), (89, .iload 4, 2), (91, .iastore, 1), (92, .iconst 0, 1), (93, .istore_n 3, 1), (94, .iconst 0, 1), (95, .istore 4, 2), (97, .iinc 5 1, 3), (100, .goto (-73), 3), (103, .return_, 1)]
def zi_t140 : List (Nat × Instr × Nat) := [(0, .aload_n 0, 1), (1, .invokespecial 3, 3), (4, .aload_n 0, 1), (5, .sipush 1600, 3), (8, .newarray .int, 2), (10, .putfield 9, 3), (13, .return_, 1)]
def zi_t142 : List (Nat × Instr × Nat) := [(0, .aload_n 0, 1), (1, .invokespecial 3, 3), (4, .aload_n 0, 1), (5, .bipush 40, 2), (7, .newarray .int, 2), (9, .putfield 9, 3), (12, .aload_n 0, 1), (13, .bipush 8, 2), (15, .newarray .int, 2), (17, .putfield 15, 3), (20, .aload_n 0, 1), (21, .bipush 64, 2), (23, .newarray .int, 2), (25, .putfield 18, 3), (28, .return_, 1)]
def zi_t143 : List (Nat × Instr × Nat) := [(0, .aload_n 0, 1), (1, .iconst 0, 1), (2, .putfield 21, 3), (5, .aload_n 0, 1), (6, .iconst 0, 1), (7, .putfield 25, 3), (10, .iconst 0, 1), (11, .istore_n 2, 1), (12, .iload_n 2, 1), (13, .aload_n 0, 1), (14, .getfield 9, 3), (17, .arraylength, 1), (18, .if_icmp .ge 21, 3), (21, .aload_n 0, 1), (22, .getfield 9, 3), (25, .iload_n 2, 1), (26, .aload_n 1, 1), (27, .getfield 28, 3), (30, .iload_n 2, 1), (31, .iaload, 1), (32, .iastore, 1), (33, .iinc 2 1, 3), (36, .goto (-24), 3), (39, .iconst 0, 1), (40, .istore_n 2, 1), (41, .iload_n 2, 1), (42, .aload_n 0, 1), (43, .getfield 15, 3), (46, .arraylength, 1), (47, .if_icmp .ge 31, 3), (50, .aload_n 0, 1), (51, .getfield 15, 3), (54, .iload_n 2, 1), (55, .iload_n 2, 1), (56, .aload_n 1, 1), (57, .getfield 31, 3), (60, .if_icmp .ge 10, 3), (70, .iconst 0, 1), (71, .iastore, 1), (72, .iinc 2 1, 3), (75, .goto (-34), 3), (78, .iconst 0, 1), (79, .istore_n 2, 1), (80, .iload_n 2, 1), (81, .aload_n 0, 1), (82, .getfield 18, 3), (85, .arraylength, 1), (86, .if_icmp .ge 16, 3), (89, .aload_n 0, 1), (90, .getfield 18, 3), (93, .iload_n 2, 1), (94, .iconst 0, 1), (95, .iastore, 1), (96, .iinc 2 1, 3), (99, .goto (-19), 3), (102, .return_, 1)]
def zi_t153 : List (Nat × Instr × Nat) := [(0, .aload_n 0, 1), (1, .invokespecial 1, 3), (4, .aload_n 0, 1), (5, .sipush 1800, 3), (8, .newarray .int, 2), (10, .putfield 7, 3), (13, .aload_n 0, 1), (14, .iconst 0, 1), (15, .putfield 13, 3), (18, .aload_n 0, 1), (19, .iconst 0, 1), (20, .putfield 17, 3), (23, .aload_n 0, 1), (24, .iconst 0, 1), (25, .putfield 20, 3), (28, .aload_n 0, 1), (29, .iconst 0, 1), (30, .putfield 23, 3), (33, .aload_n 0, 1), (34, .iconst 0, 1), (35, .putfield 26, 3), (38, .aload_n 0, 1), (39, .iconst 0, 1), (40, .putfield 29, 3), (43, .aload_n 0, 1), (44, .lconst 0, 1), (45, .putfield 32, 3), (48, .aload_n 0, 1), (49, .iconst 0, 1), (50, .putfield 36, 3), (53, .aload_n 0, 1), (54, .iconst (-1), 1), (55, .putfield 39, 3), (58, .aload_n 0, 1), (59, .iconst 0, 1), (60, .putfield 42, 3), (63, .aload_n 0, 1), (64, .iconst (-1), 1), (65, .putfield 45, 3), (68, .aload_n 0, 1), (69, .iconst (-1), 1), (70, .putfield 48, 3), (73, .aload_n 0, 1), (74, .iconst 0, 1), (75, .putfield 51, 3), (78, .aload_n 0, 1), (79, .iconst 2, 1), (80, .newarray .int, 2), (82, .putfield 54, 3), (85, .aload_n 0, 1), (86, .bipush 16, 2), (88, .newarray .int, 2), (90, .putfield 57, 3), (93, .aload_n 0, 1), (94, .bipush 16, 2), (96, .newarray .int, 2), (98, .putfield 60, 3), (101, .aload_n 0, 1), (102, .iconst 2, 1), (103, .newarray .int, 2), (105, .putfield 63, 3), (108, .aload_n 0, 1), (109, .bipush 80, 2), (111, .newarray .int, 2), (113, .putfield 66, 3), (116, .aload_n 0, 1), (117, .iconst 2, 1), (118, .newarray .int, 2), (120, .putfield 69, 3), (123, .aload_n 0, 1), (124, .bipush 16, 2), (126, .newarray .int, 2), (128, .putfield 72, 3), (131, .aload_n 0, 1), (132, .bipush 16, 2), (134, .newarray .int, 2), (136, .putfield 75, 3), (139, .aload_n 0, 1), (140, .bipush 16, 2), (142, .newarray .int, 2), (144, .putfield 78, 3), (147, .aload_n 0, 1), (148, .sipush 128, 3), (151, .newarray .int, 2), (153, .putfield 81, 3), (156, .aload_n 0, 1), (157, .iconst 2, 1), (158, .newarray .int, 2), (160, .putfield 84, 3), (163, .aload_n 0, 1), (164, .iconst 2, 1), (165, .newarray .int, 2), (167, .putfield 87, 3), (170, .aload_n 0, 1), (171, .iconst 2, 1), (172, .newarray .int, 2), (174, .putfield 90, 3), (177, .aload_n 0, 1), (178, .iconst 2, 1), (179, .newarray .int, 2), (181, .putfield 93, 3), (184, .aload_n 0, 1), (185, .iconst 2, 1), (186, .newarray .int, 2), (188, .putfield 96, 3), (191, .aload_n 0, 1), (192, .sipush 3200, 3), (195, .newarray .int, 2), (197, .putfield 99, 3), (200, .aload_n 0, 1), (201, .sipush 3200, 3), (204, .newarray .int, 2), (206, .putfield 102, 3), (209, .aload_n 0, 1), (210, .bipush 16, 2), (212, .newarray .long, 2), (214, .putfield 105, 3), (217, .aload_n 0, 1), (218, .bipush 16, 2), (220, .newarray .long, 2), (222, .putfield 109, 3), (225, .aload_n 0, 1), (226, .iconst 0, 1), (227, .putfield 112, 3), (230, .aload_n 0, 1), (231, .iconst 1, 1), (232, .putfield 115, 3), (235, .aload_n 0, 1), (236, .bipush 20, 2), (238, .newarray .int, 2), (240, .putfield 118, 3), (243, .aload_n 0, 1), (244, .bipush 20, 2), (246, .newarray .int, 2), (248, .putfield 121, 3), (251, .aload_n 0, 1), (252, .bipush 20, 2), (254, .newarray .boolean, 2), (256, .putfield 124, 3), (259, .aload_n 0, 1), (260, .bipush 20, 2), (262, .newarray .int, 2), (264, .putfield 128, 3), (267, .aload_n 0, 1), (268, .bipush 20, 2), (270, .newarray .int, 2), (272, .putfield 131, 3), (275, .aload_n 0, 1), (276, .iconst 0, 1), (277, .putfield 134, 3), (280, .aload_n 0, 1), (281, .iconst 0, 1), (282, .putfield 137, 3), (285, .aload_n 0, 1), (286, .sipush 500, 3), (289, .newarray .int, 2), (291, .putfield 140, 3), (294, .aload_n 0, 1), (295, .iconst 0, 1), (296, .putfield 143, 3), (299, .aload_n 0, 1), (300, .iconst 0, 1), (301, .putfield 146, 3), (304, .aload_n 0, 1), (305, .bipush 6, 2), (307, .newarray .int, 2), (309, .putfield 150, 3), (312, .aload_n 0, 1), (313, .bipush 22, 2), (315, .newarray .int, 2), (317, .putfield 153, 3), (320, .aload_n 0, 1), (321, .bipush 22, 2), (323, .newarray .int, 2), (325, .putfield 156, 3), (328, .aload_n 0, 1), (329, .sipush 880, 3), (332, .newarray .int, 2), (334, .putfield 159, 3), (337, .aload_n 0, 1), (338, .sipush 176, 3), (341, .newarray .int, 2), (343, .putfield 162, 3), (346, .aload_n 0, 1), (347, .sipush 1408, 3), (350, .newarray .int, 2), (352, .putfield 165, 3), (355, .aload_n 0, 1), (356, .bipush 22, 2), (358, .newarray .int, 2), (360, .putfield 168, 3), (363, .aload_n 0, 1), (364, .sipush 1320, 3), (367, .newarray .int, 2), (369, .putfield 171, 3), (372, .aload_n 0, 1), (373, .sipush 1320, 3), (376, .newarray .int, 2), (378, .putfield 174, 3), (381, .aload_n 0, 1), (382, .sipush 1320, 3), (385, .newarray .int, 2), (387, .putfield 177, 3), (390, .aload_n 0, 1), (391, .sipush 1320, 3), (394, .newarray .int, 2), (396, .putfield 180, 3), (399, .aload_n 0, 1), (400, .iconst 0, 1), (401, .putfield 183, 3), (404, .aload_n 0, 1), (405, .iconst 0, 1), (406, .putfield 186, 3), (409, .aload_n 0, 1), (410, .lconst 1, 1), (411, .putfield 189, 3), (414, .aload_n 0, 1), (415, .sipush 500, 3), (418, .newarray .long, 2), (420, .putfield 192, 3), (423, .aload_n 0, 1), (424, .iconst 0, 1), (425, .putfield 195, 3), (428, .aload_n 0, 1), (429, .iconst 0, 1), (430, .putfield 198, 3), (433, .aload_n 0, 1), (434, .iconst 0, 1), (435, .putfield 201, 3), (438, .aload_n 0, 1), (439, .iconst 0, 1), (440, .putfield 204, 3), (443, .aload_n 0, 1), (444, .iconst 0, 1), (445, .putfield 207, 3), (448, .aload_n 0, 1), (449, .iconst 0, 1), (450, .putfield 210, 3), (453, .aload_n 0, 1), (454, .iconst 5, 1), (455, .newarray .int, 2), (457, .putfield 213, 3), (460, .aload_n 0, 1), (461, .bipush 8, 2), (463, .newarray .int, 2), (465, .putfield 216, 3), (468, .aload_n 0, 1), (469, .iconst 0, 1), (470, .putfield 219, 3), (473, .aload_n 0, 1), (474, .iconst 5, 1), (475, .newarray .int, 2), (477, .putfield 222, 3), (480, .aload_n 0, 1), (481, .iconst 0, 1), (482, .putfield 225, 3), (485, .aload_n 0, 1), (486, .bipush 40, 2), (488, .newarray .int, 2), (490, .putfield 228, 3), (493, .aload_n 0, 1), (494, .bipush 8, 2), (496, .newarray .int, 2), (498, .putfield 231, 3), (501, .aload_n 0, 1), (502, .bipush 8, 2), (504, .newarray .int, 2), (506, .putfield 234, 3), (509, .aload_n 0, 1), (510, .bipush 8, 2), (512, .newarray .int, 2), (514, .putfield 237, 3), (517, .aload_n 0, 1), (518, .bipush 8, 2), (520, .newarray .int, 2), (522, .putfield 240, 3), (525, .aload_n 0, 1), (526, .sipush 200, 3), (529, .newarray .int, 2), (531, .putfield 243, 3), (534, .aload_n 0, 1), (535, .iconst 0, 1), (536, .putfield 246, 3), (539, .aload_n 0, 1), (540, .getfield 87, 3), (543, .iconst 0, 1), (544, .iconst (-1), 1), (545, .iastore, 1), (546, .aload_n 0, 1), (547, .getfield 93, 3), (550, .iconst 0, 1), (551, .iconst (-1), 1), (552, .iastore, 1), (553, .aload_n 0, 1), (554, .getfield 84, 3), (557, .iconst 0, 1), (558, .bipush 50, 2), (560, .iastore, 1), (561, .return_, 1)]
def zi_tab : List (Nat × List (Nat × Instr × Nat)) := [(0, zi_t0), (55, zi_t55), (59, zi_t59), (60, zi_t60), (66, zi_t66), (73, zi_t73), (103, zi_t103), (112, zi_t112), (120, zi_t120), (126, zi_t126), (131, zi_t131), (140, zi_t140), (142, zi_t142), (143, zi_t143), (153, zi_t153)]
theorem zi_o0 : ∀ e ∈ zi_t0, decode (zm_code 0) e.1 = .ok e.2 := by decide +kernel
theorem zi_o55 : ∀ e ∈ zi_t55, decode (zm_code 55) e.1 = .ok e.2 := by decide +kernel
theorem zi_o59 : ∀ e ∈ zi_t59, decode (zm_code 59) e.1 = .ok e.2 := by decide +kernel
theorem zi_o60 : ∀ e ∈ zi_t60, decode (zm_code 60) e.1 = .ok e.2 := by decide +kernel
theorem zi_o66 : ∀ e ∈ zi_t66, decode (zm_code 66) e.1 = .ok e.2 := by decide +kernel
theorem zi_o73 : ∀ e ∈ zi_t73, decode (zm_code 73) e.1 = .ok e.2 := by decide +kernel
theorem zi_o103 : ∀ e ∈ zi_t103, decode (zm_code 103) e.1 = .ok e.2 := by decide +kernel
theorem zi_o112 : ∀ e ∈ zi_t112, decode (zm_code 112) e.1 = .ok e.2 := by decide +kernel
theorem zi_o120 : ∀ e ∈ zi_t120, decode (zm_code 120) e.1 = .ok e.2 := by decide +kernel
theorem zi_o126 : ∀ e ∈ zi_t126, decode (zm_code 126) e.1 = .ok e.2 := by decide +kernel
theorem zi_o131 : ∀ e ∈ zi_t131, decode (zm_code 131) e.1 = .ok e.2 := by decide +kernel
theorem zi_o140 : ∀ e ∈ zi_t140, decode (zm_code 140) e.1 = .ok e.2 := by decide +kernel
theorem zi_o142 : ∀ e ∈ zi_t142, decode (zm_code 142) e.1 = .ok e.2 := by decide +kernel
theorem zi_o143 : ∀ e ∈ zi_t143, decode (zm_code 143) e.1 = .ok e.2 := by decide +kernel
theorem zi_o153 : ∀ e ∈ zi_t153, decode (zm_code 153) e.1 = .ok e.2 := by decide +kernel
theorem zi_ok : ∀ q ∈ zi_tab, ∀ e ∈ q.2, decode (zm_code q.1) e.1 = .ok e.2 := by
  intro q hq
  unfold zi_tab at hq
  simp only [List.mem_cons, List.not_mem_nil, or_false] at hq
  rcases hq with rfl | rfl | rfl | rfl | rfl | rfl | rfl | rfl | rfl | rfl | rfl | rfl | rfl | rfl | rfl
  · exact zi_o0
  · exact zi_o55
  · exact zi_o59
  · exact zi_o60
  · exact zi_o66
  · exact zi_o73
  · exact zi_o103
  · exact zi_o112
  · exact zi_o120
  · exact zi_o126
  · exact zi_o131
  · exact zi_o140
  · exact zi_o142
  · exact zi_o143
  · exact zi_o153
def zi_in (y pc : Nat) : Option (Instr × Nat) := match zi_tab.find? (fun q => q.1 == y) with
  | some q => match q.2.find? (fun e => e.1 == pc) with
    | some e => some e.2
    | none => none
  | none => none
theorem zi_in_ok {y pc : Nat} {r : Instr × Nat} (h : zi_in y pc = some r) : decode (zm_code y) pc = .ok r := by
  unfold zi_in at h
  split at h
  · next q hq =>
    split at h
    · next e he =>
      cases h
      have h1 := List.mem_of_find?_eq_some hq
      have h2 := List.mem_of_find?_eq_some he
      have h3 := List.find?_some hq
      have h4 := List.find?_some he
      have e3 : q.1 = y := by simpa using h3
      have e4 : e.1 = pc := by simpa using h4
      have := zi_ok q h1 e h2
      rw [e3, e4] at this
      exact this
    · cases h
  · cases h
def zi_st (X : Option (Nat × (Int → Int))) (md : Bool) (rk y pc : Nat) (loc stk : List zm_V) (nx : Nat) (h : zm_H) : Option zm_N :=
  match zi_in y pc with
  | some (i, len) => zm_ck ((zm_len i = none ∨ zm_len i = some len) ∧ zm_sup i = true) (zm_fl i (zm_si X md rk y pc loc stk nx h i))
  | none => none
def zi_ex (X : Option (Nat × (Int → Int))) (md : Bool) : Nat → Nat → Nat → Nat → List zm_V → List zm_V → Nat × zm_H → Option (zm_V × Nat × zm_H)
  | 0, _, _, _, _, _, _ => none
  | f + 1, rk, y, pc, loc, stk, S => match zi_st X md rk y pc loc stk S.1 S.2 with
    | none => none
    | some (.inl (pc', loc', stk', S')) => zm_ck (S.1 ≤ S'.1 ∧ (md = true → S'.1 = S.1)) (zi_ex X md f rk y pc' loc' stk' S')
    | some (.inr (.inl v)) => some (v, S)
    | some (.inr (.inr (q, as, r))) => zm_ck ((zm_ini q as).length = zm_mx q) (match zi_ex none md f (zm_rk q as) q 0 (zm_ini q as) [] S with
      | none => none
      | some (v, S') => zi_ex X md f rk y (pc + 3) loc (zm_push v r) S')
theorem zi_st_ok {X : Option (Nat × (Int → Int))} {md : Bool} {rk y pc : Nat} {loc stk : List zm_V} {nx : Nat} {h : zm_H} {r : zm_N} (e : zi_st X md rk y pc loc stk nx h = some r) : zm_step X md rk y pc loc stk nx h = some r := by
  unfold zi_st at e
  split at e
  · next i len hi =>
    unfold zm_step
    rw [zi_in_ok hi]
    exact e
  · cases e
theorem zi_ex_ok : ∀ (f : Nat) (X : Option (Nat × (Int → Int))) (md : Bool) (rk y pc : Nat) (loc stk : List zm_V) (S : Nat × zm_H) (r : zm_V × Nat × zm_H), zi_ex X md f rk y pc loc stk S = some r → zm_ex X md f rk y pc loc stk S = some r := by
  intro f
  induction f with
  | zero => intro X md rk y pc loc stk S r h; cases h
  | succ f ih =>
    intro X md rk y pc loc stk S r h
    rw [zi_ex] at h
    rw [zm_ex]
    cases hs : zi_st X md rk y pc loc stk S.1 S.2 with
    | none => rw [hs] at h; cases h
    | some a =>
      rw [hs] at h
      rw [zi_st_ok hs]
      rcases a with ⟨pc', loc', stk', S'⟩ | v | ⟨q, as, rr⟩
      · dsimp only at h ⊢
        obtain ⟨hn, h⟩ := zm_ck_some h
        rw [zm_ck_t hn]
        exact ih _ _ _ _ _ _ _ _ _ h
      · exact h
      · dsimp only at h ⊢
        obtain ⟨hl, h⟩ := zm_ck_some h
        rw [zm_ck_t hl]
        cases hq : zi_ex none md f (zm_rk q as) q 0 (zm_ini q as) [] S with
        | none => rw [hq] at h; cases h
        | some b =>
          rw [hq] at h
          rw [ih _ _ _ _ _ _ _ _ _ hq]
          exact ih _ _ _ _ _ _ _ _ _ h
theorem zi_try : (zi_ex none false 3000 (zm_rk 60 [zm_A 18]) 60 0 (zm_ini 60 [zm_A 18]) [] (40, fun _ _ => 1)).isSome = true := by decide +kernel
