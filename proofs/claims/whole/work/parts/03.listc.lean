def tX0_init : xL := [(0, .aload_n 0, 1), (1, .invokespecial 3, 3), (4, .aload_n 0, 1), (5, .bipush 44, 2), (7, .newarray .int, 2), (9, .putfield 9, 3), (12, .aload_n 0, 1), (13, .invokevirtual 13, 3), (16, .return_, 1)]
set_option maxRecDepth 100000 in
theorem oX0_init : okT cX0_init tX0_init = true := by decide +kernel
abbrev mX0_init : xM := (yX0_init, cX0_init, 1, none)
set_option maxRecDepth 100000 in
theorem uX0_init : Cond.code yX0_init cX0_init 1 none ∈ lw_tbl := List.mem_of_getElem? (i := 103) rfl
def tX0_takeKey : xL := [(0, .aload_n 0, 1), (1, .getfield 9, 3), (4, .iconst 0, 1), (5, .lload_n 1, 1), (6, .bipush 32, 2), (8, .lushr, 1), (9, .l2i, 1), (10, .iastore, 1), (11, .aload_n 0, 1), (12, .getfield 9, 3), (15, .iconst 1, 1), (16, .lload_n 1, 1), (17, .l2i, 1), (18, .iastore, 1), (19, .aload_n 0, 1), (20, .getfield 9, 3), (23, .iconst 2, 1), (24, .lload_n 3, 1), (25, .bipush 32, 2), (27, .lushr, 1), (28, .l2i, 1), (29, .iastore, 1), (30, .aload_n 0, 1), (31, .getfield 9, 3), (34, .iconst 3, 1), (35, .lload_n 3, 1), (36, .l2i, 1), (37, .iastore, 1), (38, .aload_n 0, 1), (39, .invokevirtual 13, 3), (42, .return_, 1)]
set_option maxRecDepth 100000 in
theorem oX0_takeKey : okT cX0_takeKey tX0_takeKey = true := by decide +kernel
abbrev mX0_takeKey : xM := (yX0_takeKey, cX0_takeKey, 5, none)
set_option maxRecDepth 100000 in
theorem uX0_takeKey : Cond.code yX0_takeKey cX0_takeKey 5 none ∈ lw_tbl := List.mem_of_getElem? (i := 281) rfl
def tX0_expandKeys : xL := [(0, .iconst 1, 1), (1, .istore_n 1, 1), (2, .iconst 4, 1), (3, .istore_n 2, 1), (4, .iload_n 2, 1), (5, .bipush 44, 2), (7, .if_icmp .ge 89, 3), (10, .aload_n 0, 1), (11, .getfield 9, 3), (14, .iload_n 2, 1), (15, .iconst 1, 1), (16, .isub, 1), (17, .iaload, 1), (18, .istore_n 3, 1), (19, .iload_n 2, 1), (20, .iconst 4, 1), (21, .irem, 1), (22, .ifCond .ne 52, 3), (25, .iload_n 3, 1), (26, .bipush 8, 2), (28, .ishl, 1), (29, .iload_n 3, 1), (30, .bipush 24, 2), (32, .iushr, 1), (33, .ior, 1), (34, .istore 4, 2), (36, .iload 4, 2), (38, .iload 4, 2), (40, .iload 4, 2), (42, .iload 4, 2), (44, .invokestatic 16, 3), (47, .iload_n 1, 1), (48, .bipush 24, 2), (50, .ishl, 1), (51, .ixor, 1), (52, .istore_n 3, 1), (53, .iload_n 1, 1), (54, .sipush 128, 3), (57, .if_icmp .ge 9, 3), (60, .iload_n 1, 1), (61, .iconst 1, 1), (62, .ishl, 1), (63, .goto 10, 3), (66, .iload_n 1, 1), (67, .iconst 1, 1), (68, .ishl, 1), (69, .sipush 283, 3), (72, .ixor, 1), (73, .istore_n 1, 1), (74, .aload_n 0, 1), (75, .getfield 9, 3), (78, .iload_n 2, 1), (79, .aload_n 0, 1), (80, .getfield 9, 3), (83, .iload_n 2, 1), (84, .iconst 4, 1), (85, .isub, 1), (86, .iaload, 1), (87, .iload_n 3, 1), (88, .ixor, 1), (89, .iastore, 1), (90, .iinc 2 1, 3), (93, .goto (-89), 3), (96, .return_, 1)]
set_option maxRecDepth 100000 in
theorem oX0_expandKeys : okT cX0_expandKeys tX0_expandKeys = true := by decide +kernel
abbrev mX0_expandKeys : xM := (yX0_expandKeys, cX0_expandKeys, 5, none)
set_option maxRecDepth 100000 in
theorem uX0_expandKeys : Cond.code yX0_expandKeys cX0_expandKeys 5 none ∈ lw_tbl := List.mem_of_getElem? (i := 108) rfl
def tX0_makeBlock : xL := [(0, .aload_n 0, 1), (1, .aload_n 1, 1), (2, .iload_n 2, 1), (3, .invokevirtual 20, 3), (6, .aload_n 1, 1), (7, .iload_n 2, 1), (8, .invokevirtual 26, 3), (11, .invokevirtual 29, 3), (14, .aload_n 1, 1), (15, .iload_n 3, 1), (16, .aload_n 0, 1), (17, .getfield 33, 3), (20, .aload_n 0, 1), (21, .getfield 36, 3), (24, .invokevirtual 38, 3), (27, .return_, 1)]
set_option maxRecDepth 100000 in
theorem oX0_makeBlock : okT cX0_makeBlock tX0_makeBlock = true := by decide +kernel
abbrev mX0_makeBlock : xM := (yX0_makeBlock, cX0_makeBlock, 4, none)
set_option maxRecDepth 100000 in
theorem uX0_makeBlock : Cond.code yX0_makeBlock cX0_makeBlock 4 none ∈ lw_tbl := List.mem_of_getElem? (i := 298) rfl
def tX0_hashOne : xL := [(0, .aload_n 1, 1), (1, .iload 4, 2), (3, .aload_n 1, 1), (4, .iload_n 2, 1), (5, .invokevirtual 42, 3), (8, .aload_n 1, 1), (9, .iload 4, 2), (11, .invokevirtual 46, 3), (14, .aload_n 0, 1), (15, .aload_n 1, 1), (16, .iload_n 3, 1), (17, .iload 4, 2), (19, .invokevirtual 50, 3), (22, .return_, 1)]
set_option maxRecDepth 100000 in
theorem oX0_hashOne : okT cX0_hashOne tX0_hashOne = true := by decide +kernel
abbrev mX0_hashOne : xM := (yX0_hashOne, cX0_hashOne, 5, none)
set_option maxRecDepth 100000 in
theorem uX0_hashOne : Cond.code yX0_hashOne cX0_hashOne 5 none ∈ lw_tbl := List.mem_of_getElem? (i := 332) rfl
def tX0_hashTwo : xL := [(0, .aload_n 1, 1), (1, .iload 5, 2), (3, .aload_n 1, 1), (4, .iload_n 3, 1), (5, .invokevirtual 42, 3), (8, .aload_n 1, 1), (9, .iload 5, 2), (11, .invokevirtual 46, 3), (14, .aload_n 1, 1), (15, .iload 5, 2), (17, .aload_n 1, 1), (18, .iload_n 2, 1), (19, .invokevirtual 54, 3), (22, .aload_n 1, 1), (23, .iload 5, 2), (25, .invokevirtual 46, 3), (28, .aload_n 0, 1), (29, .aload_n 1, 1), (30, .iload 4, 2), (32, .iload 5, 2), (34, .invokevirtual 50, 3), (37, .return_, 1)]
set_option maxRecDepth 100000 in
theorem oX0_hashTwo : okT cX0_hashTwo tX0_hashTwo = true := by decide +kernel
abbrev mX0_hashTwo : xM := (yX0_hashTwo, cX0_hashTwo, 6, none)
set_option maxRecDepth 100000 in
theorem uX0_hashTwo : Cond.code yX0_hashTwo cX0_hashTwo 6 none ∈ lw_tbl := List.mem_of_getElem? (i := 347) rfl
def tX0_hashMade : xL := [(0, .aload_n 1, 1), (1, .iload_n 3, 1), (2, .iload_n 2, 1), (3, .invokevirtual 57, 3), (6, .aload_n 0, 1), (7, .aload_n 1, 1), (8, .iload_n 3, 1), (9, .invokevirtual 20, 3), (12, .aload_n 1, 1), (13, .iload_n 3, 1), (14, .invokevirtual 26, 3), (17, .invokevirtual 29, 3), (20, .aload_n 1, 1), (21, .iload_n 3, 1), (22, .aload_n 1, 1), (23, .iload_n 3, 1), (24, .invokevirtual 20, 3), (27, .aload_n 0, 1), (28, .getfield 33, 3), (31, .lxor, 1), (32, .aload_n 1, 1), (33, .iload_n 3, 1), (34, .invokevirtual 26, 3), (37, .aload_n 0, 1), (38, .getfield 36, 3), (41, .lxor, 1), (42, .invokevirtual 38, 3), (45, .return_, 1)]
set_option maxRecDepth 100000 in
theorem oX0_hashMade : okT cX0_hashMade tX0_hashMade = true := by decide +kernel
abbrev mX0_hashMade : xM := (yX0_hashMade, cX0_hashMade, 4, none)
set_option maxRecDepth 100000 in
theorem uX0_hashMade : Cond.code yX0_hashMade cX0_hashMade 4 none ∈ lw_tbl := List.mem_of_getElem? (i := 338) rfl
def tX0_encrypt : xL := [(0, .lload_n 1, 1), (1, .bipush 32, 2), (3, .lushr, 1), (4, .l2i, 1), (5, .aload_n 0, 1), (6, .getfield 9, 3), (9, .iconst 0, 1), (10, .iaload, 1), (11, .ixor, 1), (12, .istore 5, 2), (14, .lload_n 1, 1), (15, .l2i, 1), (16, .aload_n 0, 1), (17, .getfield 9, 3), (20, .iconst 1, 1), (21, .iaload, 1), (22, .ixor, 1), (23, .istore 6, 2), (25, .lload_n 3, 1), (26, .bipush 32, 2), (28, .lushr, 1), (29, .l2i, 1), (30, .aload_n 0, 1), (31, .getfield 9, 3), (34, .iconst 2, 1), (35, .iaload, 1), (36, .ixor, 1), (37, .istore 7, 2), (39, .lload_n 3, 1), (40, .l2i, 1), (41, .aload_n 0, 1), (42, .getfield 9, 3), (45, .iconst 3, 1), (46, .iaload, 1), (47, .ixor, 1), (48, .istore 8, 2), (50, .iconst 4, 1), (51, .istore 9, 2), (53, .iload 9, 2), (55, .bipush 40, 2), (57, .if_icmp .ge 115, 3), (60, .iload 5, 2), (62, .iload 6, 2), (64, .iload 7, 2), (66, .iload 8, 2), (68, .invokestatic 61, 3), (71, .aload_n 0, 1), (72, .getfield 9, 3), (75, .iload 9, 2), (77, .iaload, 1), (78, .ixor, 1), (79, .istore 10, 2), (81, .iload 6, 2), (83, .iload 7, 2), (85, .iload 8, 2), (87, .iload 5, 2), (89, .invokestatic 61, 3), (92, .aload_n 0, 1), (93, .getfield 9, 3), (96, .iload 9, 2), (98, .iconst 1, 1), (99, .iadd, 1), (100, .iaload, 1), (101, .ixor, 1), (102, .istore 11, 2), (104, .iload 7, 2), (106, .iload 8, 2), (108, .iload 5, 2), (110, .iload 6, 2), (112, .invokestatic 61, 3), (115, .aload_n 0, 1), (116, .getfield 9, 3), (119, .iload 9, 2), (121, .iconst 2, 1), (122, .iadd, 1), (123, .iaload, 1), (124, .ixor, 1), (125, .istore 12, 2), (127, .iload 8, 2), (129, .iload 5, 2), (131, .iload 6, 2), (133, .iload 7, 2), (135, .invokestatic 61, 3), (138, .aload_n 0, 1), (139, .getfield 9, 3), (142, .iload 9, 2), (144, .iconst 3, 1), (145, .iadd, 1), (146, .iaload, 1), (147, .ixor, 1), (148, .istore 13, 2), (150, .iload 10, 2), (152, .istore 5, 2), (154, .iload 11, 2), (156, .istore 6, 2), (158, .iload 12, 2), (160, .istore 7, 2), (162, .iload 13, 2), (164, .istore 8, 2), (166, .iinc 9 4, 3), (169, .goto (-116), 3), (172, .bipush 40, 2), (174, .istore 9, 2), (176, .aload_n 0, 1), (177, .iload 5, 2), (179, .iload 6, 2), (181, .iload 7, 2), (183, .iload 8, 2), (185, .invokestatic 16, 3), (188, .aload_n 0, 1), (189, .getfield 9, 3), (192, .iload 9, 2), (194, .iaload, 1), (195, .ixor, 1), (196, .iload 6, 2), (198, .iload 7, 2), (200, .iload 8, 2), (202, .iload 5, 2), (204, .invokestatic 16, 3), (207, .aload_n 0, 1), (208, .getfield 9, 3), (211, .iload 9, 2), (213, .iconst 1, 1), (214, .iadd, 1), (215, .iaload, 1), (216, .ixor, 1), (217, .invokestatic 64, 3), (220, .putfield 33, 3), (223, .aload_n 0, 1), (224, .iload 7, 2), (226, .iload 8, 2), (228, .iload 5, 2), (230, .iload 6, 2), (232, .invokestatic 16, 3), (235, .aload_n 0, 1), (236, .getfield 9, 3), (239, .iload 9, 2), (241, .iconst 2, 1), (242, .iadd, 1), (243, .iaload, 1), (244, .ixor, 1), (245, .iload 8, 2), (247, .iload 5, 2), (249, .iload 6, 2), (251, .iload 7, 2), (253, .invokestatic 16, 3), (256, .aload_n 0, 1), (257, .getfield 9, 3), (260, .iload 9, 2), (262, .iconst 3, 1), (263, .iadd, 1), (264, .iaload, 1), (265, .ixor, 1), (266, .invokestatic 64, 3), (269, .putfield 36, 3), (272, .aload_n 0, 1), (273, .dup, 1), (274, .getfield 68, 3), (277, .iconst 1, 1), (278, .iadd, 1), (279, .putfield 68, 3), (282, .return_, 1)]
set_option maxRecDepth 100000 in
theorem oX0_encrypt : okT cX0_encrypt tX0_encrypt = true := by decide +kernel
abbrev mX0_encrypt : xM := (yX0_encrypt, cX0_encrypt, 14, none)
set_option maxRecDepth 100000 in
theorem uX0_encrypt : Cond.code yX0_encrypt cX0_encrypt 14 none ∈ lw_tbl := List.mem_of_getElem? (i := 310) rfl
def tX0_mixedColumn : xL := [(0, .getstatic 72, 3), (3, .iload_n 0, 1), (4, .bipush 24, 2), (6, .iushr, 1), (7, .iaload, 1), (8, .istore 4, 2), (10, .getstatic 72, 3), (13, .iload_n 1, 1), (14, .bipush 16, 2), (16, .iushr, 1), (17, .sipush 255, 3), (20, .iand, 1), (21, .iaload, 1), (22, .istore 5, 2), (24, .getstatic 72, 3), (27, .iload_n 2, 1), (28, .bipush 8, 2), (30, .iushr, 1), (31, .sipush 255, 3), (34, .iand, 1), (35, .iaload, 1), (36, .istore 6, 2), (38, .getstatic 72, 3), (41, .iload_n 3, 1), (42, .sipush 255, 3), (45, .iand, 1), (46, .iaload, 1), (47, .istore 7, 2), (49, .iload 4, 2), (51, .iload 5, 2), (53, .bipush 8, 2), (55, .iushr, 1), (56, .iload 5, 2), (58, .bipush 24, 2), (60, .ishl, 1), (61, .ior, 1), (62, .ixor, 1), (63, .iload 6, 2), (65, .bipush 16, 2), (67, .iushr, 1), (68, .iload 6, 2), (70, .bipush 16, 2), (72, .ishl, 1), (73, .ior, 1), (74, .ixor, 1), (75, .iload 7, 2), (77, .bipush 24, 2), (79, .iushr, 1), (80, .iload 7, 2), (82, .bipush 8, 2), (84, .ishl, 1), (85, .ior, 1), (86, .ixor, 1), (87, .ireturn, 1)]
set_option maxRecDepth 100000 in
theorem oX0_mixedColumn : okT cX0_mixedColumn tX0_mixedColumn = true := by decide +kernel
abbrev mX0_mixedColumn : xM := (yX0_mixedColumn, cX0_mixedColumn, 8, (some .int))
set_option maxRecDepth 100000 in
theorem uX0_mixedColumn : Cond.code yX0_mixedColumn cX0_mixedColumn 8 (some .int) ∈ lw_tbl := List.mem_of_getElem? (i := 313) rfl
def tX0_lastColumn : xL := [(0, .getstatic 72, 3), (3, .iload_n 0, 1), (4, .bipush 24, 2), (6, .iushr, 1), (7, .iaload, 1), (8, .bipush 8, 2), (10, .ishl, 1), (11, .ldc 75, 2), (13, .iand, 1), (14, .getstatic 72, 3), (17, .iload_n 1, 1), (18, .bipush 16, 2), (20, .iushr, 1), (21, .sipush 255, 3), (24, .iand, 1), (25, .iaload, 1), (26, .ldc 76, 2), (28, .iand, 1), (29, .ior, 1), (30, .getstatic 72, 3), (33, .iload_n 2, 1), (34, .bipush 8, 2), (36, .iushr, 1), (37, .sipush 255, 3), (40, .iand, 1), (41, .iaload, 1), (42, .ldc 77, 2), (44, .iand, 1), (45, .ior, 1), (46, .getstatic 72, 3), (49, .iload_n 3, 1), (50, .sipush 255, 3), (53, .iand, 1), (54, .iaload, 1), (55, .bipush 8, 2), (57, .iushr, 1), (58, .sipush 255, 3), (61, .iand, 1), (62, .ior, 1), (63, .ireturn, 1)]
set_option maxRecDepth 100000 in
theorem oX0_lastColumn : okT cX0_lastColumn tX0_lastColumn = true := by decide +kernel
abbrev mX0_lastColumn : xM := (yX0_lastColumn, cX0_lastColumn, 4, (some .int))
set_option maxRecDepth 100000 in
theorem uX0_lastColumn : Cond.code yX0_lastColumn cX0_lastColumn 4 (some .int) ∈ lw_tbl := List.mem_of_getElem? (i := 111) rfl
def tX0_joined : xL := [(0, .iload_n 0, 1), (1, .i2l, 1), (2, .bipush 32, 2), (4, .lshl, 1), (5, .iload_n 1, 1), (6, .i2l, 1), (7, .ldc2_w 78, 3), (10, .land, 1), (11, .lor, 1), (12, .lreturn, 1)]
set_option maxRecDepth 100000 in
theorem oX0_joined : okT cX0_joined tX0_joined = true := by decide +kernel
abbrev mX0_joined : xM := (yX0_joined, cX0_joined, 2, (some .long))
set_option maxRecDepth 100000 in
theorem uX0_joined : Cond.code yX0_joined cX0_joined 2 (some .long) ∈ lw_tbl := List.mem_of_getElem? (i := 316) rfl
def tX1_init : xL := [(0, .aload_n 0, 1), (1, .invokespecial 3, 3), (4, .aload_n 0, 1), (5, .bipush 40, 2), (7, .newarray .int, 2), (9, .putfield 9, 3), (12, .aload_n 0, 1), (13, .bipush 40, 2), (15, .newarray .int, 2), (17, .putfield 15, 3), (20, .aload_n 0, 1), (21, .bipush 40, 2), (23, .newarray .int, 2), (25, .putfield 18, 3), (28, .aload_n 0, 1), (29, .bipush 40, 2), (31, .newarray .int, 2), (33, .putfield 21, 3), (36, .aload_n 0, 1), (37, .bipush 8, 2), (39, .newarray .int, 2), (41, .putfield 24, 3), (44, .return_, 1)]
set_option maxRecDepth 100000 in
theorem oX1_init : okT cX1_init tX1_init = true := by decide +kernel
abbrev mX1_init : xM := (yX1_init, cX1_init, 1, none)
set_option maxRecDepth 100000 in
theorem uX1_init : Cond.code yX1_init cX1_init 1 none ∈ lw_tbl := List.mem_of_getElem? (i := 165) rfl
def tX1_startWith : xL := [(0, .aload_n 0, 1), (1, .iload_n 1, 1), (2, .putfield 27, 3), (5, .aload_n 0, 1), (6, .iconst 0, 1), (7, .putfield 31, 3), (10, .aload_n 0, 1), (11, .iconst 0, 1), (12, .putfield 34, 3), (15, .aload_n 0, 1), (16, .iconst 0, 1), (17, .putfield 37, 3), (20, .return_, 1)]
set_option maxRecDepth 100000 in
theorem oX1_startWith : okT cX1_startWith tX1_startWith = true := by decide +kernel
abbrev mX1_startWith : xM := (yX1_startWith, cX1_startWith, 2, none)
set_option maxRecDepth 100000 in
theorem uX1_startWith : Cond.code yX1_startWith cX1_startWith 2 none ∈ lw_tbl := List.mem_of_getElem? (i := 402) rfl
def tX1_addGate : xL := [(0, .aload_n 0, 1), (1, .getfield 31, 3), (4, .bipush 40, 2), (6, .if_icmp .lt 4, 3), (9, .return_, 1), (10, .aload_n 0, 1), (11, .getfield 9, 3), (14, .aload_n 0, 1), (15, .getfield 31, 3), (18, .iload_n 1, 1), (19, .iastore, 1), (20, .aload_n 0, 1), (21, .getfield 15, 3), (24, .aload_n 0, 1), (25, .getfield 31, 3), (28, .iload_n 2, 1), (29, .iastore, 1), (30, .aload_n 0, 1), (31, .getfield 18, 3), (34, .aload_n 0, 1), (35, .getfield 31, 3), (38, .iload_n 3, 1), (39, .iastore, 1), (40, .aload_n 0, 1), (41, .getfield 21, 3), (44, .aload_n 0, 1), (45, .getfield 31, 3), (48, .bipush (-9), 2), (50, .iastore, 1), (51, .iload_n 1, 1), (52, .bipush 94, 2), (54, .if_icmp .eq 32, 3), (57, .iload_n 1, 1), (58, .bipush 33, 2), (60, .if_icmp .eq 26, 3), (63, .aload_n 0, 1), (64, .getfield 21, 3), (67, .aload_n 0, 1), (68, .getfield 31, 3), (71, .aload_n 0, 1), (72, .getfield 34, 3), (75, .iastore, 1), (76, .aload_n 0, 1), (77, .dup, 1), (78, .getfield 34, 3), (81, .iconst 1, 1), (82, .iadd, 1), (83, .putfield 34, 3), (86, .aload_n 0, 1), (87, .dup, 1), (88, .getfield 31, 3), (91, .iconst 1, 1), (92, .iadd, 1), (93, .putfield 31, 3), (96, .return_, 1)]
set_option maxRecDepth 100000 in
theorem oX1_addGate : okT cX1_addGate tX1_addGate = true := by decide +kernel
abbrev mX1_addGate : xM := (yX1_addGate, cX1_addGate, 4, none)
set_option maxRecDepth 100000 in
theorem uX1_addGate : Cond.code yX1_addGate cX1_addGate 4 none ∈ lw_tbl := List.mem_of_getElem? (i := 425) rfl
def tX1_addOutput : xL := [(0, .aload_n 0, 1), (1, .getfield 37, 3), (4, .bipush 8, 2), (6, .if_icmp .lt 4, 3), (9, .return_, 1), (10, .aload_n 0, 1), (11, .getfield 24, 3), (14, .aload_n 0, 1), (15, .getfield 37, 3), (18, .iload_n 1, 1), (19, .iastore, 1), (20, .aload_n 0, 1), (21, .dup, 1), (22, .getfield 37, 3), (25, .iconst 1, 1), (26, .iadd, 1), (27, .putfield 37, 3), (30, .return_, 1)]
set_option maxRecDepth 100000 in
theorem oX1_addOutput : okT cX1_addOutput tX1_addOutput = true := by decide +kernel
abbrev mX1_addOutput : xM := (yX1_addOutput, cX1_addOutput, 2, none)
set_option maxRecDepth 100000 in
theorem uX1_addOutput : Cond.code yX1_addOutput cX1_addOutput 2 none ∈ lw_tbl := List.mem_of_getElem? (i := 433) rfl
def tX1_wireCount : xL := [(0, .aload_n 0, 1), (1, .getfield 27, 3), (4, .aload_n 0, 1), (5, .getfield 31, 3), (8, .iadd, 1), (9, .ireturn, 1)]
set_option maxRecDepth 100000 in
theorem oX1_wireCount : okT cX1_wireCount tX1_wireCount = true := by decide +kernel
abbrev mX1_wireCount : xM := (yX1_wireCount, cX1_wireCount, 1, (some .int))
set_option maxRecDepth 100000 in
theorem uX1_wireCount : Cond.code yX1_wireCount cX1_wireCount 1 (some .int) ∈ lw_tbl := List.mem_of_getElem? (i := 421) rfl
def tX1_coinsFor : xL := [(0, .iconst 1, 1), (1, .aload_n 0, 1), (2, .getfield 27, 3), (5, .iadd, 1), (6, .istore_n 2, 1), (7, .iload_n 1, 1), (8, .ifCond .ne 12, 3), (11, .iload_n 2, 1), (12, .aload_n 0, 1), (13, .getfield 34, 3), (16, .iadd, 1), (17, .goto 4, 3), (20, .iload_n 2, 1), (21, .ireturn, 1)]
set_option maxRecDepth 100000 in
theorem oX1_coinsFor : okT cX1_coinsFor tX1_coinsFor = true := by decide +kernel
abbrev mX1_coinsFor : xM := (yX1_coinsFor, cX1_coinsFor, 3, (some .int))
set_option maxRecDepth 100000 in
theorem uX1_coinsFor : Cond.code yX1_coinsFor cX1_coinsFor 3 (some .int) ∈ lw_tbl := List.mem_of_getElem? (i := 475) rfl
def tX1_outputTruths : xL := [(0, .iload_n 1, 1), (1, .i2l, 1), (2, .lconst 1, 1), (3, .aload_n 0, 1), (4, .getfield 27, 3), (7, .lshl, 1), (8, .lconst 1, 1), (9, .lsub, 1), (10, .land, 1), (11, .lstore_n 2, 1), (12, .iconst 0, 1), (13, .istore 4, 2), (15, .iload 4, 2), (17, .aload_n 0, 1), (18, .getfield 31, 3), (21, .if_icmp .ge 77, 3), (24, .lload_n 2, 1), (25, .aload_n 0, 1), (26, .getfield 15, 3), (29, .iload 4, 2), (31, .iaload, 1), (32, .invokestatic 40, 3), (35, .istore 5, 2), (37, .aload_n 0, 1), (38, .getfield 9, 3), (41, .iload 4, 2), (43, .iaload, 1), (44, .bipush 33, 2), (46, .if_icmp .ne 7, 3), (49, .iconst 0, 1), (50, .goto 14, 3), (53, .lload_n 2, 1), (54, .aload_n 0, 1), (55, .getfield 18, 3), (58, .iload 4, 2), (60, .iaload, 1), (61, .invokestatic 40, 3), (64, .istore 6, 2), (66, .lload_n 2, 1), (67, .aload_n 0, 1), (68, .getfield 9, 3), (71, .iload 4, 2), (73, .iaload, 1), (74, .iload 5, 2), (76, .iload 6, 2), (78, .invokestatic 44, 3), (81, .i2l, 1), (82, .aload_n 0, 1), (83, .getfield 27, 3), (86, .iload 4, 2), (88, .iadd, 1), (89, .lshl, 1), (90, .lor, 1), (91, .lstore_n 2, 1), (92, .iinc 4 1, 3), (95, .goto (-80), 3), (98, .iconst 0, 1), (99, .istore 4, 2), (101, .iconst 0, 1), (102, .istore 5, 2), (104, .iload 5, 2), (106, .aload_n 0, 1), (107, .getfield 37, 3), (110, .if_icmp .ge 28, 3), (113, .iload 4, 2), (115, .lload_n 2, 1), (116, .aload_n 0, 1), (117, .getfield 24, 3), (120, .iload 5, 2), (122, .iaload, 1), (123, .invokestatic 40, 3), (126, .iload 5, 2), (128, .ishl, 1), (129, .ior, 1), (130, .istore 4, 2), (132, .iinc 5 1, 3), (135, .goto (-31), 3), (138, .iload 4, 2), (140, .ireturn, 1)]
set_option maxRecDepth 100000 in
theorem oX1_outputTruths : okT cX1_outputTruths tX1_outputTruths = true := by decide +kernel
abbrev mX1_outputTruths : xM := (yX1_outputTruths, cX1_outputTruths, 7, (some .int))
set_option maxRecDepth 100000 in
theorem uX1_outputTruths : Cond.code yX1_outputTruths cX1_outputTruths 7 (some .int) ∈ lw_tbl := List.mem_of_getElem? (i := 458) rfl
def tX1_bitOf : xL := [(0, .lload_n 0, 1), (1, .iload_n 2, 1), (2, .lushr, 1), (3, .l2i, 1), (4, .iconst 1, 1), (5, .iand, 1), (6, .ireturn, 1)]
set_option maxRecDepth 100000 in
theorem oX1_bitOf : okT cX1_bitOf tX1_bitOf = true := by decide +kernel
abbrev mX1_bitOf : xM := (yX1_bitOf, cX1_bitOf, 3, (some .int))
set_option maxRecDepth 100000 in
theorem uX1_bitOf : Cond.code yX1_bitOf cX1_bitOf 3 (some .int) ∈ lw_tbl := List.mem_of_getElem? (i := 461) rfl
def tX1_isSign : xL := [(0, .iload_n 0, 1), (1, .lookupswitch 69 #[(33, 67), (35, 67), (37, 67), (38, 67), (47, 67), (94, 67), (124, 67)], 67), (68, .iconst 1, 1), (69, .ireturn, 1), (70, .iconst 0, 1), (71, .ireturn, 1)]
set_option maxRecDepth 100000 in
theorem oX1_isSign : okT cX1_isSign tX1_isSign = true := by decide +kernel
abbrev mX1_isSign : xM := (yX1_isSign, cX1_isSign, 1, (some .boolean))
set_option maxRecDepth 100000 in
theorem uX1_isSign : Cond.code yX1_isSign cX1_isSign 1 (some .boolean) ∈ lw_tbl := List.mem_of_getElem? (i := 413) rfl
def tX1_turnsLeft : xL := [(0, .iload_n 0, 1), (1, .bipush 124, 2), (3, .if_icmp .eq 9, 3), (6, .iload_n 0, 1), (7, .bipush 35, 2), (9, .if_icmp .ne 7, 3), (12, .iconst 1, 1), (13, .goto 4, 3), (16, .iconst 0, 1), (17, .ireturn, 1)]
set_option maxRecDepth 100000 in
theorem oX1_turnsLeft : okT cX1_turnsLeft tX1_turnsLeft = true := by decide +kernel
abbrev mX1_turnsLeft : xM := (yX1_turnsLeft, cX1_turnsLeft, 1, (some .int))
set_option maxRecDepth 100000 in
theorem uX1_turnsLeft : Cond.code yX1_turnsLeft cX1_turnsLeft 1 (some .int) ∈ lw_tbl := List.mem_of_getElem? (i := 559) rfl
def tX1_turnsRight : xL := [(0, .iload_n 0, 1), (1, .bipush 124, 2), (3, .if_icmp .eq 15, 3), (6, .iload_n 0, 1), (7, .bipush 35, 2), (9, .if_icmp .eq 9, 3), (12, .iload_n 0, 1), (13, .bipush 47, 2), (15, .if_icmp .ne 7, 3), (18, .iconst 1, 1), (19, .goto 4, 3), (22, .iconst 0, 1), (23, .ireturn, 1)]
set_option maxRecDepth 100000 in
theorem oX1_turnsRight : okT cX1_turnsRight tX1_turnsRight = true := by decide +kernel
abbrev mX1_turnsRight : xM := (yX1_turnsRight, cX1_turnsRight, 1, (some .int))
set_option maxRecDepth 100000 in
theorem uX1_turnsRight : Cond.code yX1_turnsRight cX1_turnsRight 1 (some .int) ∈ lw_tbl := List.mem_of_getElem? (i := 562) rfl
def tX1_turnsWhatComes : xL := [(0, .iload_n 0, 1), (1, .bipush 124, 2), (3, .if_icmp .eq 9, 3), (6, .iload_n 0, 1), (7, .bipush 37, 2), (9, .if_icmp .ne 7, 3), (12, .iconst 1, 1), (13, .goto 4, 3), (16, .iconst 0, 1), (17, .ireturn, 1)]
set_option maxRecDepth 100000 in
theorem oX1_turnsWhatComes : okT cX1_turnsWhatComes tX1_turnsWhatComes = true := by decide +kernel
abbrev mX1_turnsWhatComes : xM := (yX1_turnsWhatComes, cX1_turnsWhatComes, 1, (some .int))
set_option maxRecDepth 100000 in
theorem uX1_turnsWhatComes : Cond.code yX1_turnsWhatComes cX1_turnsWhatComes 1 (some .int) ∈ lw_tbl := List.mem_of_getElem? (i := 578) rfl
def tX1_truthOf : xL := [(0, .iload_n 0, 1), (1, .lookupswitch 89 #[(35, 79), (37, 73), (38, 59), (47, 67), (94, 85), (124, 63)], 59), (60, .iload_n 1, 1), (61, .iload_n 2, 1), (62, .iand, 1), (63, .ireturn, 1), (64, .iload_n 1, 1), (65, .iload_n 2, 1), (66, .ior, 1), (67, .ireturn, 1), (68, .iload_n 1, 1), (69, .iconst 1, 1), (70, .iload_n 2, 1), (71, .isub, 1), (72, .iand, 1), (73, .ireturn, 1), (74, .iconst 1, 1), (75, .iload_n 1, 1), (76, .iload_n 2, 1), (77, .iand, 1), (78, .isub, 1), (79, .ireturn, 1), (80, .iconst 1, 1), (81, .iload_n 1, 1), (82, .iload_n 2, 1), (83, .ior, 1), (84, .isub, 1), (85, .ireturn, 1), (86, .iload_n 1, 1), (87, .iload_n 2, 1), (88, .ixor, 1), (89, .ireturn, 1), (90, .iconst 1, 1), (91, .iload_n 1, 1), (92, .isub, 1), (93, .ireturn, 1)]
set_option maxRecDepth 100000 in
theorem oX1_truthOf : okT cX1_truthOf tX1_truthOf = true := by decide +kernel
abbrev mX1_truthOf : xM := (yX1_truthOf, cX1_truthOf, 3, (some .int))
set_option maxRecDepth 100000 in
theorem uX1_truthOf : Cond.code yX1_truthOf cX1_truthOf 3 (some .int) ∈ lw_tbl := List.mem_of_getElem? (i := 464) rfl
def tX2_init : xL := [(0, .aload_n 0, 1), (1, .invokespecial 3, 3), (4, .aload_n 0, 1), (5, .aload_n 1, 1), (6, .putfield 9, 3), (9, .return_, 1)]
set_option maxRecDepth 100000 in
theorem oX2_init : okT cX2_init tX2_init = true := by decide +kernel
abbrev mX2_init : xM := (yX2_init, cX2_init, 2, none)
set_option maxRecDepth 100000 in
theorem uX2_init : Cond.code yX2_init cX2_init 2 none ∈ lw_tbl := List.mem_of_getElem? (i := 84) rfl
def tX2_readInto : xL := [(0, .aload_n 0, 1), (1, .iload_n 2, 1), (2, .putfield 15, 3), (5, .aload_n 0, 1), (6, .iconst 0, 1), (7, .putfield 19, 3), (10, .aload_n 0, 1), (11, .iconst (-1), 1), (12, .putfield 22, 3), (15, .aload_n 1, 1), (16, .aload_n 0, 1), (17, .iconst 1, 1), (18, .bipush 16, 2), (20, .invokevirtual 25, 3), (23, .invokevirtual 29, 3), (26, .aload_n 0, 1), (27, .bipush 59, 2), (29, .invokevirtual 35, 3), (32, .aload_n 0, 1), (33, .aload_n 1, 1), (34, .invokevirtual 38, 3), (37, .aload_n 0, 1), (38, .aload_n 1, 1), (39, .invokevirtual 42, 3), (42, .aload_n 0, 1), (43, .invokevirtual 45, 3), (46, .ifCond .eq 7, 3), (49, .iconst 0, 1), (50, .goto 11, 3), (53, .sipush (-1000), 3), (56, .aload_n 0, 1), (57, .getfield 22, 3), (60, .isub, 1), (61, .ireturn, 1)]
set_option maxRecDepth 100000 in
theorem oX2_readInto : okT cX2_readInto tX2_readInto = true := by decide +kernel
abbrev mX2_readInto : xM := (yX2_readInto, cX2_readInto, 3, (some .int))
set_option maxRecDepth 100000 in
theorem uX2_readInto : Cond.code yX2_readInto cX2_readInto 3 (some .int) ∈ lw_tbl := List.mem_of_getElem? (i := 374) rfl
def tX2_readGates : xL := [(0, .iconst 0, 1), (1, .istore_n 2, 1), (2, .iload_n 2, 1), (3, .bipush 40, 2), (5, .if_icmp .gt 86, 3), (8, .aload_n 0, 1), (9, .invokevirtual 45, 3), (12, .ifCond .eq 79, 3), (15, .aload_n 0, 1), (16, .invokevirtual 49, 3), (19, .aload_n 0, 1), (20, .invokevirtual 52, 3), (23, .istore_n 3, 1), (24, .iload_n 3, 1), (25, .bipush 62, 2), (27, .if_icmp .ne 14, 3), (30, .aload_n 0, 1), (31, .dup, 1), (32, .getfield 19, 3), (35, .iconst 1, 1), (36, .iadd, 1), (37, .putfield 19, 3), (40, .return_, 1), (41, .iload_n 2, 1), (42, .bipush 40, 2), (44, .if_icmp .eq 10, 3), (47, .iload_n 3, 1), (48, .invokestatic 56, 3), (51, .ifCond .ne 12, 3), (54, .aload_n 0, 1), (55, .aload_n 0, 1), (56, .getfield 19, 3), (59, .invokevirtual 60, 3), (62, .return_, 1), (63, .aload_n 0, 1), (64, .dup, 1), (65, .getfield 19, 3), (68, .iconst 1, 1), (69, .iadd, 1), (70, .putfield 19, 3), (73, .aload_n 0, 1), (74, .aload_n 1, 1), (75, .iload_n 3, 1), (76, .invokevirtual 63, 3), (79, .aload_n 0, 1), (80, .bipush 59, 2), (82, .invokevirtual 35, 3), (85, .iinc 2 1, 3), (88, .goto (-86), 3), (91, .return_, 1)]
set_option maxRecDepth 100000 in
theorem oX2_readGates : okT cX2_readGates tX2_readGates = true := by decide +kernel
abbrev mX2_readGates : xM := (yX2_readGates, cX2_readGates, 4, none)
set_option maxRecDepth 100000 in
theorem uX2_readGates : Cond.code yX2_readGates cX2_readGates 4 none ∈ lw_tbl := List.mem_of_getElem? (i := 410) rfl
def tX2_readGate : xL := [(0, .aload_n 1, 1), (1, .invokevirtual 67, 3), (4, .iconst 1, 1), (5, .isub, 1), (6, .istore_n 3, 1), (7, .aload_n 0, 1), (8, .iconst 0, 1), (9, .iload_n 3, 1), (10, .invokevirtual 25, 3), (13, .istore 4, 2), (15, .iload_n 2, 1), (16, .bipush 33, 2), (18, .if_icmp .ne 8, 3), (21, .bipush (-9), 2), (23, .goto 9, 3), (26, .aload_n 0, 1), (27, .iconst 0, 1), (28, .iload_n 3, 1), (29, .invokevirtual 25, 3), (32, .istore 5, 2), (34, .aload_n 0, 1), (35, .invokevirtual 45, 3), (38, .ifCond .eq 12, 3), (41, .aload_n 1, 1), (42, .iload_n 2, 1), (43, .iload 4, 2), (45, .iload 5, 2), (47, .invokevirtual 70, 3), (50, .return_, 1)]
set_option maxRecDepth 100000 in
theorem oX2_readGate : okT cX2_readGate tX2_readGate = true := by decide +kernel
abbrev mX2_readGate : xM := (yX2_readGate, cX2_readGate, 6, none)
set_option maxRecDepth 100000 in
theorem uX2_readGate : Cond.code yX2_readGate cX2_readGate 6 none ∈ lw_tbl := List.mem_of_getElem? (i := 417) rfl
def tX2_readOutputs : xL := [(0, .iconst 0, 1), (1, .istore_n 2, 1), (2, .iload_n 2, 1), (3, .bipush 8, 2), (5, .if_icmp .gt 72, 3), (8, .aload_n 0, 1), (9, .invokevirtual 45, 3), (12, .ifCond .eq 65, 3), (15, .aload_n 0, 1), (16, .invokevirtual 49, 3), (19, .iload_n 2, 1), (20, .ifCond .le 12, 3), (23, .aload_n 0, 1), (24, .invokevirtual 52, 3), (27, .iconst (-1), 1), (28, .if_icmp .ne 4, 3), (31, .return_, 1), (32, .iload_n 2, 1), (33, .bipush 8, 2), (35, .if_icmp .ne 12, 3), (38, .aload_n 0, 1), (39, .aload_n 0, 1), (40, .getfield 19, 3), (43, .invokevirtual 60, 3), (46, .return_, 1), (47, .aload_n 0, 1), (48, .iconst 0, 1), (49, .aload_n 1, 1), (50, .invokevirtual 67, 3), (53, .iconst 1, 1), (54, .isub, 1), (55, .invokevirtual 25, 3), (58, .istore_n 3, 1), (59, .aload_n 0, 1), (60, .invokevirtual 45, 3), (63, .ifCond .eq 8, 3), (66, .aload_n 1, 1), (67, .iload_n 3, 1), (68, .invokevirtual 74, 3), (71, .iinc 2 1, 3), (74, .goto (-72), 3), (77, .return_, 1)]
set_option maxRecDepth 100000 in
theorem oX2_readOutputs : okT cX2_readOutputs tX2_readOutputs = true := by decide +kernel
abbrev mX2_readOutputs : xM := (yX2_readOutputs, cX2_readOutputs, 4, none)
set_option maxRecDepth 100000 in
theorem uX2_readOutputs : Cond.code yX2_readOutputs cX2_readOutputs 4 none ∈ lw_tbl := List.mem_of_getElem? (i := 429) rfl
def tX2_readMark : xL := [(0, .aload_n 0, 1), (1, .invokevirtual 45, 3), (4, .ifCond .ne 4, 3), (7, .return_, 1), (8, .aload_n 0, 1), (9, .invokevirtual 49, 3), (12, .aload_n 0, 1), (13, .invokevirtual 52, 3), (16, .iload_n 1, 1), (17, .if_icmp .eq 12, 3), (20, .aload_n 0, 1), (21, .aload_n 0, 1), (22, .getfield 19, 3), (25, .invokevirtual 60, 3), (28, .return_, 1), (29, .aload_n 0, 1), (30, .dup, 1), (31, .getfield 19, 3), (34, .iconst 1, 1), (35, .iadd, 1), (36, .putfield 19, 3), (39, .return_, 1)]
set_option maxRecDepth 100000 in
theorem oX2_readMark : okT cX2_readMark tX2_readMark = true := by decide +kernel
abbrev mX2_readMark : xM := (yX2_readMark, cX2_readMark, 2, none)
set_option maxRecDepth 100000 in
theorem uX2_readMark : Cond.code yX2_readMark cX2_readMark 2 none ∈ lw_tbl := List.mem_of_getElem? (i := 406) rfl
def tX2_readNumber : xL := [(0, .aload_n 0, 1), (1, .invokevirtual 45, 3), (4, .ifCond .ne 5, 3), (7, .iconst 0, 1), (8, .ireturn, 1), (9, .aload_n 0, 1), (10, .invokevirtual 49, 3), (13, .aload_n 0, 1), (14, .getfield 19, 3), (17, .istore_n 3, 1), (18, .iconst 0, 1), (19, .istore 4, 2), (21, .aload_n 0, 1), (22, .getfield 19, 3), (25, .iload_n 3, 1), (26, .iconst 4, 1), (27, .iadd, 1), (28, .if_icmp .ge 41, 3), (31, .aload_n 0, 1), (32, .invokevirtual 52, 3), (35, .invokestatic 77, 3), (38, .ifCond .eq 31, 3), (41, .bipush 10, 2), (43, .iload 4, 2), (45, .imul, 1), (46, .aload_n 0, 1), (47, .invokevirtual 52, 3), (50, .iadd, 1), (51, .bipush 48, 2), (53, .isub, 1), (54, .istore 4, 2), (56, .aload_n 0, 1), (57, .dup, 1), (58, .getfield 19, 3), (61, .iconst 1, 1), (62, .iadd, 1), (63, .putfield 19, 3), (66, .goto (-45), 3), (69, .aload_n 0, 1), (70, .getfield 19, 3), (73, .iload_n 3, 1), (74, .if_icmp .eq 15, 3), (77, .iload 4, 2), (79, .iload_n 1, 1), (80, .if_icmp .lt 9, 3), (83, .iload 4, 2), (85, .iload_n 2, 1), (86, .if_icmp .le 10, 3), (89, .aload_n 0, 1), (90, .iload_n 3, 1), (91, .invokevirtual 60, 3), (94, .iconst 0, 1), (95, .ireturn, 1), (96, .aload_n 0, 1), (97, .invokevirtual 52, 3), (100, .invokestatic 77, 3), (103, .ifCond .eq 11, 3), (106, .aload_n 0, 1), (107, .aload_n 0, 1), (108, .getfield 19, 3), (111, .invokevirtual 60, 3), (114, .iload 4, 2), (116, .ireturn, 1)]
set_option maxRecDepth 100000 in
theorem oX2_readNumber : okT cX2_readNumber tX2_readNumber = true := by decide +kernel
abbrev mX2_readNumber : xM := (yX2_readNumber, cX2_readNumber, 5, (some .int))
set_option maxRecDepth 100000 in
theorem uX2_readNumber : Cond.code yX2_readNumber cX2_readNumber 5 (some .int) ∈ lw_tbl := List.mem_of_getElem? (i := 378) rfl
def tX2_skipBlanks : xL := [(0, .aload_n 0, 1), (1, .getfield 19, 3), (4, .aload_n 0, 1), (5, .getfield 15, 3), (8, .if_icmp .ge 25, 3), (11, .aload_n 0, 1), (12, .invokevirtual 52, 3), (15, .bipush 32, 2), (17, .if_icmp .ne 16, 3), (20, .aload_n 0, 1), (21, .dup, 1), (22, .getfield 19, 3), (25, .iconst 1, 1), (26, .iadd, 1), (27, .putfield 19, 3), (30, .goto (-30), 3), (33, .return_, 1)]
set_option maxRecDepth 100000 in
theorem oX2_skipBlanks : okT cX2_skipBlanks tX2_skipBlanks = true := by decide +kernel
abbrev mX2_skipBlanks : xM := (yX2_skipBlanks, cX2_skipBlanks, 1, none)
set_option maxRecDepth 100000 in
theorem uX2_skipBlanks : Cond.code yX2_skipBlanks cX2_skipBlanks 1 none ∈ lw_tbl := List.mem_of_getElem? (i := 386) rfl
def tX2_look : xL := [(0, .aload_n 0, 1), (1, .getfield 19, 3), (4, .aload_n 0, 1), (5, .getfield 15, 3), (8, .if_icmp .ge 17, 3), (11, .aload_n 0, 1), (12, .getfield 9, 3), (15, .aload_n 0, 1), (16, .getfield 19, 3), (19, .invokevirtual 80, 3), (22, .goto 4, 3), (25, .iconst (-1), 1), (26, .ireturn, 1)]
set_option maxRecDepth 100000 in
theorem oX2_look : okT cX2_look tX2_look = true := by decide +kernel
abbrev mX2_look : xM := (yX2_look, cX2_look, 1, (some .int))
set_option maxRecDepth 100000 in
theorem uX2_look : Cond.code yX2_look cX2_look 1 (some .int) ∈ lw_tbl := List.mem_of_getElem? (i := 390) rfl
def tX2_fail : xL := [(0, .aload_n 0, 1), (1, .iload_n 1, 1), (2, .putfield 22, 3), (5, .return_, 1)]
set_option maxRecDepth 100000 in
theorem oX2_fail : okT cX2_fail tX2_fail = true := by decide +kernel
abbrev mX2_fail : xM := (yX2_fail, cX2_fail, 2, none)
set_option maxRecDepth 100000 in
theorem uX2_fail : Cond.code yX2_fail cX2_fail 2 none ∈ lw_tbl := List.mem_of_getElem? (i := 398) rfl
def tX2_isFine : xL := [(0, .aload_n 0, 1), (1, .getfield 22, 3), (4, .iconst (-1), 1), (5, .if_icmp .ne 7, 3), (8, .iconst 1, 1), (9, .goto 4, 3), (12, .iconst 0, 1), (13, .ireturn, 1)]
set_option maxRecDepth 100000 in
theorem oX2_isFine : okT cX2_isFine tX2_isFine = true := by decide +kernel
abbrev mX2_isFine : xM := (yX2_isFine, cX2_isFine, 1, (some .boolean))
set_option maxRecDepth 100000 in
theorem uX2_isFine : Cond.code yX2_isFine cX2_isFine 1 (some .boolean) ∈ lw_tbl := List.mem_of_getElem? (i := 382) rfl
def tX2_isDigit : xL := [(0, .iload_n 0, 1), (1, .bipush 48, 2), (3, .if_icmp .lt 13, 3), (6, .iload_n 0, 1), (7, .bipush 57, 2), (9, .if_icmp .gt 7, 3), (12, .iconst 1, 1), (13, .goto 4, 3), (16, .iconst 0, 1), (17, .ireturn, 1)]
set_option maxRecDepth 100000 in
theorem oX2_isDigit : okT cX2_isDigit tX2_isDigit = true := by decide +kernel
abbrev mX2_isDigit : xM := (yX2_isDigit, cX2_isDigit, 1, (some .boolean))
set_option maxRecDepth 100000 in
theorem uX2_isDigit : Cond.code yX2_isDigit cX2_isDigit 1 (some .boolean) ∈ lw_tbl := List.mem_of_getElem? (i := 394) rfl
def tX3_init : xL := [(0, .aload_n 0, 1), (1, .invokespecial 3, 3), (4, .aload_n 0, 1), (5, .new 9, 3), (8, .dup, 1), (9, .bipush 57, 2), (11, .invokespecial 11, 3), (14, .putfield 14, 3), (17, .aload_n 0, 1), (18, .new 9, 3), (21, .dup, 1), (22, .sipush 160, 3), (25, .invokespecial 11, 3), (28, .putfield 20, 3), (31, .aload_n 0, 1), (32, .new 9, 3), (35, .dup, 1), (36, .bipush 56, 2), (38, .invokespecial 11, 3), (41, .putfield 23, 3), (44, .aload_n 0, 1), (45, .aload_n 1, 1), (46, .putfield 26, 3), (49, .aload_n 0, 1), (50, .iload_n 2, 1), (51, .putfield 30, 3), (54, .aload_n 0, 1), (55, .iload_n 3, 1), (56, .putfield 34, 3), (59, .aload_n 0, 1), (60, .iload 4, 2), (62, .putfield 37, 3), (65, .return_, 1)]
set_option maxRecDepth 100000 in
theorem oX3_init : okT cX3_init tX3_init = true := by decide +kernel
abbrev mX3_init : xM := (yX3_init, cX3_init, 5, none)
set_option maxRecDepth 100000 in
theorem uX3_init : Cond.code yX3_init cX3_init 5 none ∈ lw_tbl := List.mem_of_getElem? (i := 479) rfl
def tX3_takeCoins : xL := [(0, .aload_n 0, 1), (1, .getfield 14, 3), (4, .bipush 56, 2), (6, .aload_n 1, 1), (7, .iconst 0, 1), (8, .invokevirtual 40, 3), (11, .aload_n 0, 1), (12, .getfield 14, 3), (15, .bipush 56, 2), (17, .aload_n 0, 1), (18, .getfield 14, 3), (21, .bipush 56, 2), (23, .invokevirtual 44, 3), (26, .aload_n 0, 1), (27, .getfield 14, 3), (30, .bipush 56, 2), (32, .invokevirtual 48, 3), (35, .lconst 1, 1), (36, .lor, 1), (37, .invokevirtual 51, 3), (40, .bipush 16, 2), (42, .istore_n 2, 1), (43, .iconst 0, 1), (44, .istore_n 3, 1), (45, .iload_n 3, 1), (46, .aload_n 0, 1), (47, .getfield 26, 3), (50, .getfield 55, 3), (53, .if_icmp .ge 22, 3), (56, .aload_n 0, 1), (57, .getfield 14, 3), (60, .iload_n 3, 1), (61, .aload_n 1, 1), (62, .iload_n 2, 1), (63, .invokevirtual 40, 3), (66, .iinc 2 16, 3), (69, .iinc 3 1, 3), (72, .goto (-27), 3), (75, .iconst 0, 1), (76, .istore_n 3, 1), (77, .iload_n 3, 1), (78, .aload_n 0, 1), (79, .getfield 26, 3), (82, .getfield 60, 3), (85, .if_icmp .ge 51, 3), (88, .aload_n 0, 1), (89, .getfield 34, 3), (92, .ifCond .ne 44, 3), (95, .aload_n 0, 1), (96, .getfield 26, 3), (99, .getfield 63, 3), (102, .iload_n 3, 1), (103, .iaload, 1), (104, .bipush (-9), 2), (106, .if_icmp .eq 24, 3), (109, .aload_n 0, 1), (110, .getfield 14, 3), (113, .aload_n 0, 1), (114, .getfield 26, 3), (117, .getfield 55, 3), (120, .iload_n 3, 1), (121, .iadd, 1), (122, .aload_n 1, 1), (123, .iload_n 2, 1), (124, .invokevirtual 40, 3), (127, .iinc 2 16, 3), (130, .iinc 3 1, 3), (133, .goto (-56), 3), (136, .return_, 1)]
set_option maxRecDepth 100000 in
theorem oX3_takeCoins : okT cX3_takeCoins tX3_takeCoins = true := by decide +kernel
abbrev mX3_takeCoins : xM := (yX3_takeCoins, cX3_takeCoins, 4, none)
set_option maxRecDepth 100000 in
theorem uX3_takeCoins : Cond.code yX3_takeCoins cX3_takeCoins 4 none ∈ lw_tbl := List.mem_of_getElem? (i := 532) rfl
def tX3_isWire : xL := [(0, .iload_n 1, 1), (1, .ifCond .lt 18, 3), (4, .iload_n 1, 1), (5, .aload_n 0, 1), (6, .getfield 26, 3), (9, .invokevirtual 67, 3), (12, .if_icmp .ge 7, 3), (15, .iconst 1, 1), (16, .goto 4, 3), (19, .iconst 0, 1), (20, .ireturn, 1)]
set_option maxRecDepth 100000 in
theorem oX3_isWire : okT cX3_isWire tX3_isWire = true := by decide +kernel
abbrev mX3_isWire : xM := (yX3_isWire, cX3_isWire, 2, (some .boolean))
set_option maxRecDepth 100000 in
theorem uX3_isWire : Cond.code yX3_isWire cX3_isWire 2 (some .boolean) ∈ lw_tbl := List.mem_of_getElem? (i := 617) rfl
def tX3_isInput : xL := [(0, .iload_n 1, 1), (1, .ifCond .lt 18, 3), (4, .iload_n 1, 1), (5, .aload_n 0, 1), (6, .getfield 26, 3), (9, .getfield 55, 3), (12, .if_icmp .ge 7, 3), (15, .iconst 1, 1), (16, .goto 4, 3), (19, .iconst 0, 1), (20, .ireturn, 1)]
set_option maxRecDepth 100000 in
theorem oX3_isInput : okT cX3_isInput tX3_isInput = true := by decide +kernel
abbrev mX3_isInput : xM := (yX3_isInput, cX3_isInput, 2, (some .boolean))
set_option maxRecDepth 100000 in
theorem uX3_isInput : Cond.code yX3_isInput cX3_isInput 2 (some .boolean) ∈ lw_tbl := List.mem_of_getElem? (i := 609) rfl
def tX3_isRow : xL := [(0, .iload_n 1, 1), (1, .ifCond .lt 27, 3), (4, .iload_n 1, 1), (5, .aload_n 0, 1), (6, .getfield 26, 3), (9, .getfield 71, 3), (12, .if_icmp .ge 16, 3), (15, .iload_n 2, 1), (16, .ifCond .lt 12, 3), (19, .iload_n 2, 1), (20, .iconst 4, 1), (21, .if_icmp .ge 7, 3), (24, .iconst 1, 1), (25, .goto 4, 3), (28, .iconst 0, 1), (29, .ireturn, 1)]
set_option maxRecDepth 100000 in
theorem oX3_isRow : okT cX3_isRow tX3_isRow = true := by decide +kernel
abbrev mX3_isRow : xM := (yX3_isRow, cX3_isRow, 3, (some .boolean))
set_option maxRecDepth 100000 in
theorem uX3_isRow : Cond.code yX3_isRow cX3_isRow 3 (some .boolean) ∈ lw_tbl := List.mem_of_getElem? (i := 628) rfl
def tX3_isStored : xL := [(0, .aload_n 0, 1), (1, .getfield 34, 3), (4, .lookupswitch 40 #[(0, 28), (1, 30)], 28), (32, .iconst 1, 1), (33, .ireturn, 1), (34, .iload_n 1, 1), (35, .ifCond .eq 7, 3), (38, .iconst 1, 1), (39, .goto 4, 3), (42, .iconst 0, 1), (43, .ireturn, 1), (44, .iload_n 1, 1), (45, .iconst 2, 1), (46, .if_icmp .ge 7, 3), (49, .iconst 1, 1), (50, .goto 4, 3), (53, .iconst 0, 1), (54, .ireturn, 1)]
set_option maxRecDepth 100000 in
theorem oX3_isStored : okT cX3_isStored tX3_isStored = true := by decide +kernel
abbrev mX3_isStored : xM := (yX3_isStored, cX3_isStored, 2, (some .boolean))
set_option maxRecDepth 100000 in
theorem uX3_isStored : Cond.code yX3_isStored cX3_isStored 2 (some .boolean) ∈ lw_tbl := List.mem_of_getElem? (i := 632) rfl
def tX3_storedRows : xL := [(0, .aload_n 0, 1), (1, .getfield 26, 3), (4, .getfield 71, 3), (7, .iconst 4, 1), (8, .aload_n 0, 1), (9, .getfield 34, 3), (12, .isub, 1), (13, .imul, 1), (14, .ireturn, 1)]
set_option maxRecDepth 100000 in
theorem oX3_storedRows : okT cX3_storedRows tX3_storedRows = true := by decide +kernel
abbrev mX3_storedRows : xM := (yX3_storedRows, cX3_storedRows, 1, (some .int))
set_option maxRecDepth 100000 in
theorem uX3_storedRows : Cond.code yX3_storedRows cX3_storedRows 1 (some .int) ∈ lw_tbl := List.mem_of_getElem? (i := 596) rfl
def tX3_rowPlace : xL := [(0, .iconst 4, 1), (1, .iload_n 0, 1), (2, .imul, 1), (3, .iload_n 1, 1), (4, .iadd, 1), (5, .ireturn, 1)]
set_option maxRecDepth 100000 in
theorem oX3_rowPlace : okT cX3_rowPlace tX3_rowPlace = true := by decide +kernel
abbrev mX3_rowPlace : xM := (yX3_rowPlace, cX3_rowPlace, 2, (some .int))
set_option maxRecDepth 100000 in
theorem uX3_rowPlace : Cond.code yX3_rowPlace cX3_rowPlace 2 (some .int) ∈ lw_tbl := List.mem_of_getElem? (i := 566) rfl
def tX3_putLabelFor : xL := [(0, .aload_n 3, 1), (1, .iload 4, 2), (3, .aload_n 0, 1), (4, .getfield 14, 3), (7, .iload_n 2, 1), (8, .invokevirtual 74, 3), (11, .aload_n 3, 1), (12, .iload_n 1, 1), (13, .iload 4, 2), (15, .aload_n 0, 1), (16, .getfield 14, 3), (19, .bipush 56, 2), (21, .invokevirtual 78, 3), (24, .return_, 1)]
set_option maxRecDepth 100000 in
theorem oX3_putLabelFor : okT cX3_putLabelFor tX3_putLabelFor = true := by decide +kernel
abbrev mX3_putLabelFor : xM := (yX3_putLabelFor, cX3_putLabelFor, 5, none)
set_option maxRecDepth 100000 in
theorem uX3_putLabelFor : Cond.code yX3_putLabelFor cX3_putLabelFor 5 none ∈ lw_tbl := List.mem_of_getElem? (i := 544) rfl
def tX3_putInputs : xL := [(0, .iconst 0, 1), (1, .istore_n 3, 1), (2, .iload_n 3, 1), (3, .aload_n 0, 1), (4, .getfield 26, 3), (7, .getfield 55, 3), (10, .if_icmp .ge 21, 3), (13, .aload_n 0, 1), (14, .iload_n 1, 1), (15, .iload_n 3, 1), (16, .iushr, 1), (17, .iconst 1, 1), (18, .iand, 1), (19, .iload_n 3, 1), (20, .aload_n 2, 1), (21, .iload_n 3, 1), (22, .invokevirtual 82, 3), (25, .iinc 3 1, 3), (28, .goto (-26), 3), (31, .return_, 1)]
set_option maxRecDepth 100000 in
theorem oX3_putInputs : okT cX3_putInputs tX3_putInputs = true := by decide +kernel
abbrev mX3_putInputs : xM := (yX3_putInputs, cX3_putInputs, 4, none)
set_option maxRecDepth 100000 in
theorem uX3_putInputs : Cond.code yX3_putInputs cX3_putInputs 4 none ∈ lw_tbl := List.mem_of_getElem? (i := 660) rfl
def tX3_noteGiven : xL := [(0, .aload_n 0, 1), (1, .dup, 1), (2, .getfield 85, 3), (5, .iconst 1, 1), (6, .iload_n 1, 1), (7, .ishl, 1), (8, .ior, 1), (9, .putfield 85, 3), (12, .aload_n 0, 1), (13, .iconst 0, 1), (14, .putfield 88, 3), (17, .return_, 1)]
set_option maxRecDepth 100000 in
theorem oX3_noteGiven : okT cX3_noteGiven tX3_noteGiven = true := by decide +kernel
abbrev mX3_noteGiven : xM := (yX3_noteGiven, cX3_noteGiven, 2, none)
set_option maxRecDepth 100000 in
theorem uX3_noteGiven : Cond.code yX3_noteGiven cX3_noteGiven 2 none ∈ lw_tbl := List.mem_of_getElem? (i := 652) rfl
def tX3_noteMissing : xL := [(0, .aload_n 0, 1), (1, .dup, 1), (2, .getfield 85, 3), (5, .iconst 1, 1), (6, .iload_n 1, 1), (7, .ishl, 1), (8, .iconst (-1), 1), (9, .ixor, 1), (10, .iand, 1), (11, .putfield 85, 3), (14, .aload_n 0, 1), (15, .iconst 0, 1), (16, .putfield 88, 3), (19, .return_, 1)]
set_option maxRecDepth 100000 in
theorem oX3_noteMissing : okT cX3_noteMissing tX3_noteMissing = true := by decide +kernel
abbrev mX3_noteMissing : xM := (yX3_noteMissing, cX3_noteMissing, 2, none)
set_option maxRecDepth 100000 in
theorem uX3_noteMissing : Cond.code yX3_noteMissing cX3_noteMissing 2 none ∈ lw_tbl := List.mem_of_getElem? (i := 669) rfl
def tX3_hasAllInputs : xL := [(0, .aload_n 0, 1), (1, .getfield 85, 3), (4, .iconst 1, 1), (5, .aload_n 0, 1), (6, .getfield 26, 3), (9, .getfield 55, 3), (12, .ishl, 1), (13, .iconst 1, 1), (14, .isub, 1), (15, .if_icmp .ne 7, 3), (18, .iconst 1, 1), (19, .goto 4, 3), (22, .iconst 0, 1), (23, .ireturn, 1)]
set_option maxRecDepth 100000 in
theorem oX3_hasAllInputs : okT cX3_hasAllInputs tX3_hasAllInputs = true := by decide +kernel
abbrev mX3_hasAllInputs : xM := (yX3_hasAllInputs, cX3_hasAllInputs, 1, (some .boolean))
set_option maxRecDepth 100000 in
theorem uX3_hasAllInputs : Cond.code yX3_hasAllInputs cX3_hasAllInputs 1 (some .boolean) ∈ lw_tbl := List.mem_of_getElem? (i := 677) rfl
def tX3_hasLabel : xL := [(0, .aload_n 0, 1), (1, .iload_n 1, 1), (2, .invokevirtual 92, 3), (5, .ifCond .eq 23, 3), (8, .aload_n 0, 1), (9, .getfield 85, 3), (12, .iload_n 1, 1), (13, .iushr, 1), (14, .iconst 1, 1), (15, .iand, 1), (16, .iconst 1, 1), (17, .if_icmp .ne 7, 3), (20, .iconst 1, 1), (21, .goto 11, 3), (24, .iconst 0, 1), (25, .goto 7, 3), (28, .aload_n 0, 1), (29, .getfield 88, 3), (32, .ireturn, 1)]
set_option maxRecDepth 100000 in
theorem oX3_hasLabel : okT cX3_hasLabel tX3_hasLabel = true := by decide +kernel
abbrev mX3_hasLabel : xM := (yX3_hasLabel, cX3_hasLabel, 2, (some .boolean))
set_option maxRecDepth 100000 in
theorem uX3_hasLabel : Cond.code yX3_hasLabel cX3_hasLabel 2 (some .boolean) ∈ lw_tbl := List.mem_of_getElem? (i := 605) rfl
def tX3_hasAllOutputs : xL := [(0, .iconst 0, 1), (1, .istore_n 1, 1), (2, .iload_n 1, 1), (3, .aload_n 0, 1), (4, .getfield 26, 3), (7, .getfield 96, 3), (10, .if_icmp .ge 27, 3), (13, .aload_n 0, 1), (14, .aload_n 0, 1), (15, .getfield 26, 3), (18, .getfield 99, 3), (21, .iload_n 1, 1), (22, .iaload, 1), (23, .invokevirtual 102, 3), (26, .ifCond .ne 5, 3), (29, .iconst 0, 1), (30, .ireturn, 1), (31, .iinc 1 1, 3), (34, .goto (-32), 3), (37, .iconst 1, 1), (38, .ireturn, 1)]
set_option maxRecDepth 100000 in
theorem oX3_hasAllOutputs : okT cX3_hasAllOutputs tX3_hasAllOutputs = true := by decide +kernel
abbrev mX3_hasAllOutputs : xM := (yX3_hasAllOutputs, cX3_hasAllOutputs, 2, (some .boolean))
set_option maxRecDepth 100000 in
theorem uX3_hasAllOutputs : Cond.code yX3_hasAllOutputs cX3_hasAllOutputs 2 (some .boolean) ∈ lw_tbl := List.mem_of_getElem? (i := 728) rfl
def tX3_labelledWires : xL := [(0, .iconst 0, 1), (1, .istore_n 1, 1), (2, .iconst 0, 1), (3, .istore_n 2, 1), (4, .iload_n 2, 1), (5, .aload_n 0, 1), (6, .getfield 26, 3), (9, .invokevirtual 67, 3), (12, .if_icmp .ge 25, 3), (15, .iload_n 1, 1), (16, .aload_n 0, 1), (17, .iload_n 2, 1), (18, .invokevirtual 102, 3), (21, .ifCond .eq 7, 3), (24, .iconst 1, 1), (25, .goto 4, 3), (28, .iconst 0, 1), (29, .iadd, 1), (30, .istore_n 1, 1), (31, .iinc 2 1, 3), (34, .goto (-30), 3), (37, .iload_n 1, 1), (38, .ireturn, 1)]
set_option maxRecDepth 100000 in
theorem oX3_labelledWires : okT cX3_labelledWires tX3_labelledWires = true := by decide +kernel
abbrev mX3_labelledWires : xM := (yX3_labelledWires, cX3_labelledWires, 3, (some .int))
set_option maxRecDepth 100000 in
theorem uX3_labelledWires : Cond.code yX3_labelledWires cX3_labelledWires 3 (some .int) ∈ lw_tbl := List.mem_of_getElem? (i := 600) rfl
def tX3_openWire : xL := [(0, .aload_n 2, 1), (1, .iload_n 1, 1), (2, .invokevirtual 44, 3), (5, .aload_n 0, 1), (6, .getfield 14, 3), (9, .iload_n 1, 1), (10, .invokevirtual 44, 3), (13, .lxor, 1), (14, .lstore_n 3, 1), (15, .aload_n 2, 1), (16, .iload_n 1, 1), (17, .invokevirtual 48, 3), (20, .aload_n 0, 1), (21, .getfield 14, 3), (24, .iload_n 1, 1), (25, .invokevirtual 48, 3), (28, .lxor, 1), (29, .lstore 5, 2), (31, .lload_n 3, 1), (32, .lconst 0, 1), (33, .lcmp, 1), (34, .ifCond .ne 12, 3), (37, .lload 5, 2), (39, .lconst 0, 1), (40, .lcmp, 1), (41, .ifCond .ne 5, 3), (44, .iconst 0, 1), (45, .ireturn, 1), (46, .lload_n 3, 1), (47, .aload_n 0, 1), (48, .getfield 14, 3), (51, .bipush 56, 2), (53, .invokevirtual 44, 3), (56, .lcmp, 1), (57, .ifCond .ne 22, 3), (60, .lload 5, 2), (62, .aload_n 0, 1), (63, .getfield 14, 3), (66, .bipush 56, 2), (68, .invokevirtual 48, 3), (71, .lcmp, 1), (72, .ifCond .ne 7, 3), (75, .iconst 1, 1), (76, .goto 4, 3), (79, .iconst 2, 1), (80, .ireturn, 1)]
set_option maxRecDepth 100000 in
theorem oX3_openWire : okT cX3_openWire tX3_openWire = true := by decide +kernel
abbrev mX3_openWire : xM := (yX3_openWire, cX3_openWire, 7, (some .int))
set_option maxRecDepth 100000 in
theorem uX3_openWire : Cond.code yX3_openWire cX3_openWire 7 (some .int) ∈ lw_tbl := List.mem_of_getElem? (i := 720) rfl
def tX3_openOutputs : xL := [(0, .iconst 0, 1), (1, .istore_n 2, 1), (2, .iconst 0, 1), (3, .istore_n 3, 1), (4, .iload_n 3, 1), (5, .aload_n 0, 1), (6, .getfield 26, 3), (9, .getfield 96, 3), (12, .if_icmp .ge 43, 3), (15, .aload_n 0, 1), (16, .aload_n 0, 1), (17, .getfield 26, 3), (20, .getfield 99, 3), (23, .iload_n 3, 1), (24, .iaload, 1), (25, .aload_n 1, 1), (26, .invokevirtual 105, 3), (29, .istore 4, 2), (31, .iload 4, 2), (33, .iconst 2, 1), (34, .if_icmp .ne 8, 3), (37, .bipush (-100), 2), (39, .iload_n 3, 1), (40, .isub, 1), (41, .ireturn, 1), (42, .iload_n 2, 1), (43, .iload 4, 2), (45, .iload_n 3, 1), (46, .ishl, 1), (47, .ior, 1), (48, .istore_n 2, 1), (49, .iinc 3 1, 3), (52, .goto (-48), 3), (55, .iload_n 2, 1), (56, .ireturn, 1)]
set_option maxRecDepth 100000 in
theorem oX3_openOutputs : okT cX3_openOutputs tX3_openOutputs = true := by decide +kernel
abbrev mX3_openOutputs : xM := (yX3_openOutputs, cX3_openOutputs, 5, (some .int))
set_option maxRecDepth 100000 in
theorem uX3_openOutputs : Cond.code yX3_openOutputs cX3_openOutputs 5 (some .int) ∈ lw_tbl := List.mem_of_getElem? (i := 732) rfl
def tX4_init : xL := [(0, .aload_n 0, 1), (1, .invokespecial 3, 3), (4, .aload_n 0, 1), (5, .new 9, 3), (8, .dup, 1), (9, .bipush 9, 2), (11, .invokespecial 13, 3), (14, .putfield 16, 3), (17, .aload_n 0, 1), (18, .aload_n 1, 1), (19, .putfield 20, 3), (22, .return_, 1)]
set_option maxRecDepth 100000 in
theorem oX4_init : okT cX4_init tX4_init = true := by decide +kernel
abbrev mX4_init : xM := (yX4_init, cX4_init, 2, none)
set_option maxRecDepth 100000 in
theorem uX4_init : Cond.code yX4_init cX4_init 2 none ∈ lw_tbl := List.mem_of_getElem? (i := 136) rfl
def tX4_makeTables : xL := [(0, .aload_n 1, 1), (1, .getfield 24, 3), (4, .astore_n 2, 1), (5, .iconst 0, 1), (6, .istore_n 3, 1), (7, .iload_n 3, 1), (8, .aload_n 2, 1), (9, .getfield 30, 3), (12, .if_icmp .ge 123, 3), (15, .aload_n 2, 1), (16, .getfield 36, 3), (19, .iload_n 3, 1), (20, .iadd, 1), (21, .istore 4, 2), (23, .aload_n 2, 1), (24, .getfield 39, 3), (27, .iload_n 3, 1), (28, .iaload, 1), (29, .bipush 33, 2), (31, .if_icmp .ne 23, 3), (34, .aload_n 1, 1), (35, .iconst 1, 1), (36, .aload_n 2, 1), (37, .getfield 43, 3), (40, .iload_n 3, 1), (41, .iaload, 1), (42, .aload_n 1, 1), (43, .getfield 46, 3), (46, .iload 4, 2), (48, .invokevirtual 49, 3), (51, .goto 78, 3), (54, .aload_n 2, 1), (55, .getfield 39, 3), (58, .iload_n 3, 1), (59, .iaload, 1), (60, .bipush 94, 2), (62, .if_icmp .ne 44, 3), (65, .aload_n 1, 1), (66, .getfield 46, 3), (69, .iload 4, 2), (71, .aload_n 1, 1), (72, .getfield 46, 3), (75, .aload_n 2, 1), (76, .getfield 43, 3), (79, .iload_n 3, 1), (80, .iaload, 1), (81, .invokevirtual 53, 3), (84, .aload_n 1, 1), (85, .getfield 46, 3), (88, .iload 4, 2), (90, .aload_n 1, 1), (91, .getfield 46, 3), (94, .aload_n 2, 1), (95, .getfield 57, 3), (98, .iload_n 3, 1), (99, .iaload, 1), (100, .invokevirtual 60, 3), (103, .goto 26, 3), (106, .aload_n 1, 1), (107, .getfield 63, 3), (110, .iconst 2, 1), (111, .if_icmp .ne 12, 3), (114, .aload_n 0, 1), (115, .aload_n 1, 1), (116, .iload_n 3, 1), (117, .invokevirtual 66, 3), (120, .goto 9, 3), (123, .aload_n 0, 1), (124, .aload_n 1, 1), (125, .iload_n 3, 1), (126, .invokevirtual 70, 3), (129, .iinc 3 1, 3), (132, .goto (-125), 3), (135, .return_, 1)]
set_option maxRecDepth 100000 in
theorem oX4_makeTables : okT cX4_makeTables tX4_makeTables = true := by decide +kernel
abbrev mX4_makeTables : xM := (yX4_makeTables, cX4_makeTables, 5, none)
set_option maxRecDepth 100000 in
theorem uX4_makeTables : Cond.code yX4_makeTables cX4_makeTables 5 none ∈ lw_tbl := List.mem_of_getElem? (i := 540) rfl
def tX4_follow : xL := [(0, .aload_n 1, 1), (1, .getfield 24, 3), (4, .astore_n 3, 1), (5, .iconst 0, 1), (6, .istore 4, 2), (8, .iload 4, 2), (10, .aload_n 3, 1), (11, .getfield 30, 3), (14, .if_icmp .ge 117, 3), (17, .aload_n 3, 1), (18, .getfield 36, 3), (21, .iload 4, 2), (23, .iadd, 1), (24, .istore 5, 2), (26, .aload_n 3, 1), (27, .getfield 39, 3), (30, .iload 4, 2), (32, .iaload, 1), (33, .bipush 33, 2), (35, .if_icmp .ne 20, 3), (38, .aload_n 2, 1), (39, .iload 5, 2), (41, .aload_n 2, 1), (42, .aload_n 3, 1), (43, .getfield 43, 3), (46, .iload 4, 2), (48, .iaload, 1), (49, .invokevirtual 53, 3), (52, .goto 73, 3), (55, .aload_n 3, 1), (56, .getfield 39, 3), (59, .iload 4, 2), (61, .iaload, 1), (62, .bipush 94, 2), (64, .if_icmp .ne 34, 3), (67, .aload_n 2, 1), (68, .iload 5, 2), (70, .aload_n 2, 1), (71, .aload_n 3, 1), (72, .getfield 43, 3), (75, .iload 4, 2), (77, .iaload, 1), (78, .invokevirtual 53, 3), (81, .aload_n 2, 1), (82, .iload 5, 2), (84, .aload_n 2, 1), (85, .aload_n 3, 1), (86, .getfield 57, 3), (89, .iload 4, 2), (91, .iaload, 1), (92, .invokevirtual 60, 3), (95, .goto 30, 3), (98, .aload_n 1, 1), (99, .getfield 63, 3), (102, .iconst 2, 1), (103, .if_icmp .ne 14, 3), (106, .aload_n 0, 1), (107, .aload_n 1, 1), (108, .aload_n 2, 1), (109, .iload 4, 2), (111, .invokevirtual 73, 3), (114, .goto 11, 3), (117, .aload_n 0, 1), (118, .aload_n 1, 1), (119, .aload_n 2, 1), (120, .iload 4, 2), (122, .invokevirtual 77, 3), (125, .iinc 4 1, 3), (128, .goto (-120), 3), (131, .return_, 1)]
set_option maxRecDepth 100000 in
theorem oX4_follow : okT cX4_follow tX4_follow = true := by decide +kernel
abbrev mX4_follow : xM := (yX4_follow, cX4_follow, 6, none)
set_option maxRecDepth 100000 in
theorem uX4_follow : Cond.code yX4_follow cX4_follow 6 none ∈ lw_tbl := List.mem_of_getElem? (i := 681) rfl
def tX4_makeRows : xL := [(0, .aload_n 1, 1), (1, .getfield 24, 3), (4, .astore_n 3, 1), (5, .aload_n 3, 1), (6, .getfield 36, 3), (9, .iload_n 2, 1), (10, .iadd, 1), (11, .istore 4, 2), (13, .aload_n 3, 1), (14, .getfield 80, 3), (17, .iload_n 2, 1), (18, .iaload, 1), (19, .istore 5, 2), (21, .iconst 0, 1), (22, .istore 6, 2), (24, .iload 6, 2), (26, .iconst 4, 1), (27, .if_icmp .ge 198, 3), (30, .iload 6, 2), (32, .iconst 1, 1), (33, .iushr, 1), (34, .aload_n 1, 1), (35, .getfield 46, 3), (38, .aload_n 3, 1), (39, .getfield 43, 3), (42, .iload_n 2, 1), (43, .iaload, 1), (44, .invokevirtual 83, 3), (47, .ixor, 1), (48, .istore 7, 2), (50, .iload 6, 2), (52, .iconst 1, 1), (53, .iand, 1), (54, .aload_n 1, 1), (55, .getfield 46, 3), (58, .aload_n 3, 1), (59, .getfield 57, 3), (62, .iload_n 2, 1), (63, .iaload, 1), (64, .invokevirtual 83, 3), (67, .ixor, 1), (68, .istore 8, 2), (70, .aload_n 3, 1), (71, .getfield 39, 3), (74, .iload_n 2, 1), (75, .iaload, 1), (76, .iload 7, 2), (78, .iload 8, 2), (80, .invokestatic 87, 3), (83, .istore 9, 2), (85, .aload_n 1, 1), (86, .iload 7, 2), (88, .aload_n 3, 1), (89, .getfield 43, 3), (92, .iload_n 2, 1), (93, .iaload, 1), (94, .aload_n 0, 1), (95, .getfield 16, 3), (98, .iconst 0, 1), (99, .invokevirtual 49, 3), (102, .aload_n 1, 1), (103, .iload 8, 2), (105, .aload_n 3, 1), (106, .getfield 57, 3), (109, .iload_n 2, 1), (110, .iaload, 1), (111, .aload_n 0, 1), (112, .getfield 16, 3), (115, .iconst 1, 1), (116, .invokevirtual 49, 3), (119, .aload_n 0, 1), (120, .getfield 20, 3), (123, .aload_n 0, 1), (124, .getfield 16, 3), (127, .iconst 0, 1), (128, .iconst 1, 1), (129, .iload 5, 2), (131, .bipush 8, 2), (133, .invokevirtual 91, 3), (136, .aload_n 1, 1), (137, .getfield 63, 3), (140, .iconst 1, 1), (141, .if_icmp .ne 40, 3), (144, .iload 6, 2), (146, .ifCond .ne 35, 3), (149, .aload_n 1, 1), (150, .getfield 46, 3), (153, .iload 4, 2), (155, .aload_n 0, 1), (156, .getfield 16, 3), (159, .bipush 8, 2), (161, .invokevirtual 53, 3), (164, .aload_n 1, 1), (165, .getfield 46, 3), (168, .iload 9, 2), (170, .iload 4, 2), (172, .aload_n 1, 1), (173, .getfield 46, 3), (176, .bipush 56, 2), (178, .invokevirtual 97, 3), (181, .iload 5, 2), (183, .iload 6, 2), (185, .invokestatic 100, 3), (188, .istore 10, 2), (190, .aload_n 1, 1), (191, .iload 9, 2), (193, .iload 4, 2), (195, .aload_n 1, 1), (196, .getfield 104, 3), (199, .iload 10, 2), (201, .invokevirtual 49, 3), (204, .aload_n 1, 1), (205, .getfield 104, 3), (208, .iload 10, 2), (210, .aload_n 0, 1), (211, .getfield 16, 3), (214, .bipush 8, 2), (216, .invokevirtual 60, 3), (219, .iinc 6 1, 3), (222, .goto (-198), 3), (225, .return_, 1)]
set_option maxRecDepth 100000 in
theorem oX4_makeRows : okT cX4_makeRows tX4_makeRows = true := by decide +kernel
abbrev mX4_makeRows : xM := (yX4_makeRows, cX4_makeRows, 11, none)
set_option maxRecDepth 100000 in
theorem uX4_makeRows : Cond.code yX4_makeRows cX4_makeRows 11 none ∈ lw_tbl := List.mem_of_getElem? (i := 582) rfl
def tX4_followRows : xL := [(0, .aload_n 1, 1), (1, .getfield 24, 3), (4, .astore 4, 2), (6, .aload 4, 2), (8, .getfield 36, 3), (11, .iload_n 3, 1), (12, .iadd, 1), (13, .istore 5, 2), (15, .aload 4, 2), (17, .getfield 80, 3), (20, .iload_n 3, 1), (21, .iaload, 1), (22, .istore 6, 2), (24, .aload_n 0, 1), (25, .getfield 16, 3), (28, .iconst 0, 1), (29, .aload_n 2, 1), (30, .aload 4, 2), (32, .getfield 43, 3), (35, .iload_n 3, 1), (36, .iaload, 1), (37, .invokevirtual 53, 3), (40, .aload_n 0, 1), (41, .getfield 16, 3), (44, .iconst 1, 1), (45, .aload_n 2, 1), (46, .aload 4, 2), (48, .getfield 57, 3), (51, .iload_n 3, 1), (52, .iaload, 1), (53, .invokevirtual 53, 3), (56, .aload_n 0, 1), (57, .getfield 20, 3), (60, .aload_n 0, 1), (61, .getfield 16, 3), (64, .iconst 0, 1), (65, .iconst 1, 1), (66, .iload 6, 2), (68, .bipush 8, 2), (70, .invokevirtual 91, 3), (73, .aload_n 2, 1), (74, .iload 5, 2), (76, .aload_n 0, 1), (77, .getfield 16, 3), (80, .bipush 8, 2), (82, .invokevirtual 53, 3), (85, .aload_n 2, 1), (86, .iload 5, 2), (88, .aload_n 1, 1), (89, .getfield 104, 3), (92, .iload 6, 2), (94, .iconst 2, 1), (95, .aload_n 0, 1), (96, .getfield 16, 3), (99, .iconst 0, 1), (100, .invokevirtual 83, 3), (103, .imul, 1), (104, .aload_n 0, 1), (105, .getfield 16, 3), (108, .iconst 1, 1), (109, .invokevirtual 83, 3), (112, .iadd, 1), (113, .invokestatic 100, 3), (116, .invokevirtual 60, 3), (119, .return_, 1)]
set_option maxRecDepth 100000 in
theorem oX4_followRows : okT cX4_followRows tX4_followRows = true := by decide +kernel
abbrev mX4_followRows : xM := (yX4_followRows, cX4_followRows, 7, none)
set_option maxRecDepth 100000 in
theorem uX4_followRows : Cond.code yX4_followRows cX4_followRows 7 none ∈ lw_tbl := List.mem_of_getElem? (i := 689) rfl
def tX4_makeHalves : xL := [(0, .aload_n 1, 1), (1, .getfield 24, 3), (4, .astore_n 3, 1), (5, .aload_n 3, 1), (6, .getfield 39, 3), (9, .iload_n 2, 1), (10, .iaload, 1), (11, .istore 4, 2), (13, .iload 4, 2), (15, .invokestatic 107, 3), (18, .istore 5, 2), (20, .iload 4, 2), (22, .invokestatic 110, 3), (25, .istore 6, 2), (27, .aload_n 3, 1), (28, .getfield 80, 3), (31, .iload_n 2, 1), (32, .iaload, 1), (33, .istore 7, 2), (35, .aload_n 3, 1), (36, .getfield 36, 3), (39, .iload_n 2, 1), (40, .iadd, 1), (41, .istore 8, 2), (43, .aload_n 1, 1), (44, .iload 5, 2), (46, .aload_n 3, 1), (47, .getfield 43, 3), (50, .iload_n 2, 1), (51, .iaload, 1), (52, .aload_n 0, 1), (53, .getfield 16, 3), (56, .iconst 0, 1), (57, .invokevirtual 49, 3), (60, .aload_n 1, 1), (61, .iconst 1, 1), (62, .iload 5, 2), (64, .isub, 1), (65, .aload_n 3, 1), (66, .getfield 43, 3), (69, .iload_n 2, 1), (70, .iaload, 1), (71, .aload_n 0, 1), (72, .getfield 16, 3), (75, .iconst 2, 1), (76, .invokevirtual 49, 3), (79, .aload_n 1, 1), (80, .iload 6, 2), (82, .aload_n 3, 1), (83, .getfield 57, 3), (86, .iload_n 2, 1), (87, .iaload, 1), (88, .aload_n 0, 1), (89, .getfield 16, 3), (92, .iconst 1, 1), (93, .invokevirtual 49, 3), (96, .aload_n 1, 1), (97, .iconst 1, 1), (98, .iload 6, 2), (100, .isub, 1), (101, .aload_n 3, 1), (102, .getfield 57, 3), (105, .iload_n 2, 1), (106, .iaload, 1), (107, .aload_n 0, 1), (108, .getfield 16, 3), (111, .iconst 3, 1), (112, .invokevirtual 49, 3), (115, .aload_n 0, 1), (116, .getfield 20, 3), (119, .aload_n 0, 1), (120, .getfield 16, 3), (123, .iconst 0, 1), (124, .iconst 2, 1), (125, .iload 7, 2), (127, .imul, 1), (128, .iconst 4, 1), (129, .invokevirtual 113, 3), (132, .aload_n 0, 1), (133, .getfield 20, 3), (136, .aload_n 0, 1), (137, .getfield 16, 3), (140, .iconst 2, 1), (141, .iconst 2, 1), (142, .iload 7, 2), (144, .imul, 1), (145, .bipush 6, 2), (147, .invokevirtual 113, 3), (150, .aload_n 0, 1), (151, .getfield 20, 3), (154, .aload_n 0, 1), (155, .getfield 16, 3), (158, .iconst 1, 1), (159, .iconst 2, 1), (160, .iload 7, 2), (162, .imul, 1), (163, .iconst 1, 1), (164, .iadd, 1), (165, .iconst 5, 1), (166, .invokevirtual 113, 3), (169, .aload_n 0, 1), (170, .getfield 20, 3), (173, .aload_n 0, 1), (174, .getfield 16, 3), (177, .iconst 3, 1), (178, .iconst 2, 1), (179, .iload 7, 2), (181, .imul, 1), (182, .iconst 1, 1), (183, .iadd, 1), (184, .bipush 7, 2), (186, .invokevirtual 113, 3), (189, .iload 7, 2), (191, .iconst 0, 1), (192, .invokestatic 100, 3), (195, .istore 9, 2), (197, .iload 7, 2), (199, .iconst 1, 1), (200, .invokestatic 100, 3), (203, .istore 10, 2), (205, .aload_n 1, 1), (206, .getfield 104, 3), (209, .iload 9, 2), (211, .aload_n 0, 1), (212, .getfield 16, 3), (215, .iconst 4, 1), (216, .invokevirtual 53, 3), (219, .aload_n 1, 1), (220, .getfield 104, 3), (223, .iload 9, 2), (225, .aload_n 0, 1), (226, .getfield 16, 3), (229, .bipush 6, 2), (231, .invokevirtual 60, 3), (234, .aload_n 1, 1), (235, .getfield 104, 3), (238, .aload_n 0, 1), (239, .getfield 16, 3), (242, .iconst 1, 1), (243, .invokevirtual 83, 3), (246, .iload 9, 2), (248, .aload_n 1, 1), (249, .getfield 46, 3), (252, .bipush 56, 2), (254, .invokevirtual 97, 3), (257, .aload_n 1, 1), (258, .getfield 104, 3), (261, .iload 10, 2), (263, .aload_n 0, 1), (264, .getfield 16, 3), (267, .iconst 5, 1), (268, .invokevirtual 53, 3), (271, .aload_n 1, 1), (272, .getfield 104, 3), (275, .iload 10, 2), (277, .aload_n 0, 1), (278, .getfield 16, 3), (281, .bipush 7, 2), (283, .invokevirtual 60, 3), (286, .aload_n 1, 1), (287, .getfield 104, 3), (290, .iload 10, 2), (292, .aload_n 0, 1), (293, .getfield 16, 3), (296, .iconst 0, 1), (297, .invokevirtual 60, 3), (300, .aload_n 0, 1), (301, .aload_n 1, 1), (302, .iload 7, 2), (304, .aload_n 1, 1), (305, .getfield 46, 3), (308, .iload 8, 2), (310, .invokevirtual 117, 3), (313, .aload_n 1, 1), (314, .getfield 46, 3), (317, .iload 4, 2), (319, .invokestatic 121, 3), (322, .iload 8, 2), (324, .aload_n 1, 1), (325, .getfield 46, 3), (328, .bipush 56, 2), (330, .invokevirtual 97, 3), (333, .return_, 1)]
set_option maxRecDepth 100000 in
theorem oX4_makeHalves : okT cX4_makeHalves tX4_makeHalves = true := by decide +kernel
abbrev mX4_makeHalves : xM := (yX4_makeHalves, cX4_makeHalves, 11, none)
set_option maxRecDepth 100000 in
theorem uX4_makeHalves : Cond.code yX4_makeHalves cX4_makeHalves 11 none ∈ lw_tbl := List.mem_of_getElem? (i := 556) rfl
def tX4_followHalves : xL := [(0, .aload_n 1, 1), (1, .getfield 24, 3), (4, .astore 4, 2), (6, .aload 4, 2), (8, .getfield 80, 3), (11, .iload_n 3, 1), (12, .iaload, 1), (13, .istore 5, 2), (15, .aload_n 0, 1), (16, .getfield 16, 3), (19, .iconst 0, 1), (20, .aload_n 2, 1), (21, .aload 4, 2), (23, .getfield 43, 3), (26, .iload_n 3, 1), (27, .iaload, 1), (28, .invokevirtual 53, 3), (31, .aload_n 0, 1), (32, .getfield 16, 3), (35, .iconst 1, 1), (36, .aload_n 2, 1), (37, .aload 4, 2), (39, .getfield 57, 3), (42, .iload_n 3, 1), (43, .iaload, 1), (44, .invokevirtual 53, 3), (47, .aload_n 0, 1), (48, .getfield 20, 3), (51, .aload_n 0, 1), (52, .getfield 16, 3), (55, .iconst 0, 1), (56, .iconst 2, 1), (57, .iload 5, 2), (59, .imul, 1), (60, .iconst 4, 1), (61, .invokevirtual 113, 3), (64, .aload_n 0, 1), (65, .getfield 20, 3), (68, .aload_n 0, 1), (69, .getfield 16, 3), (72, .iconst 1, 1), (73, .iconst 2, 1), (74, .iload 5, 2), (76, .imul, 1), (77, .iconst 1, 1), (78, .iadd, 1), (79, .iconst 5, 1), (80, .invokevirtual 113, 3), (83, .aload_n 0, 1), (84, .aload_n 1, 1), (85, .iload 5, 2), (87, .aload_n 2, 1), (88, .aload 4, 2), (90, .getfield 36, 3), (93, .iload_n 3, 1), (94, .iadd, 1), (95, .invokevirtual 117, 3), (98, .return_, 1)]
set_option maxRecDepth 100000 in
theorem oX4_followHalves : okT cX4_followHalves tX4_followHalves = true := by decide +kernel
abbrev mX4_followHalves : xM := (yX4_followHalves, cX4_followHalves, 6, none)
set_option maxRecDepth 100000 in
theorem uX4_followHalves : Cond.code yX4_followHalves cX4_followHalves 6 none ∈ lw_tbl := List.mem_of_getElem? (i := 685) rfl
def tX4_joinHalves : xL := [(0, .aload_n 0, 1), (1, .getfield 16, 3), (4, .iconst 0, 1), (5, .invokevirtual 83, 3), (8, .istore 5, 2), (10, .aload_n 0, 1), (11, .getfield 16, 3), (14, .iconst 1, 1), (15, .invokevirtual 83, 3), (18, .istore 6, 2), (20, .aload_n 3, 1), (21, .iload 4, 2), (23, .aload_n 0, 1), (24, .getfield 16, 3), (27, .iconst 4, 1), (28, .invokevirtual 53, 3), (31, .aload_n 3, 1), (32, .iload 5, 2), (34, .iload 4, 2), (36, .aload_n 1, 1), (37, .getfield 104, 3), (40, .iload_n 2, 1), (41, .iconst 0, 1), (42, .invokestatic 100, 3), (45, .invokevirtual 97, 3), (48, .aload_n 3, 1), (49, .iload 4, 2), (51, .aload_n 0, 1), (52, .getfield 16, 3), (55, .iconst 5, 1), (56, .invokevirtual 60, 3), (59, .aload_n 3, 1), (60, .iload 6, 2), (62, .iload 4, 2), (64, .aload_n 1, 1), (65, .getfield 104, 3), (68, .iload_n 2, 1), (69, .iconst 1, 1), (70, .invokestatic 100, 3), (73, .invokevirtual 97, 3), (76, .aload_n 3, 1), (77, .iload 6, 2), (79, .iload 4, 2), (81, .aload_n 0, 1), (82, .getfield 16, 3), (85, .iconst 0, 1), (86, .invokevirtual 97, 3), (89, .return_, 1)]
set_option maxRecDepth 100000 in
theorem oX4_joinHalves : okT cX4_joinHalves tX4_joinHalves = true := by decide +kernel
abbrev mX4_joinHalves : xM := (yX4_joinHalves, cX4_joinHalves, 7, none)
set_option maxRecDepth 100000 in
theorem uX4_joinHalves : Cond.code yX4_joinHalves cX4_joinHalves 7 none ∈ lw_tbl := List.mem_of_getElem? (i := 575) rfl
def tX5_init : xL := [(0, .aload_n 0, 1), (1, .invokespecial 1, 3), (4, .aload_n 0, 1), (5, .iconst 2, 1), (6, .iload_n 1, 1), (7, .imul, 1), (8, .newarray .long, 2), (10, .putfield 7, 3), (13, .return_, 1)]
set_option maxRecDepth 100000 in
theorem oX5_init : okT cX5_init tX5_init = true := by decide +kernel
abbrev mX5_init : xM := (yX5_init, cX5_init, 2, none)
set_option maxRecDepth 100000 in
theorem uX5_init : Cond.code yX5_init cX5_init 2 none ∈ lw_tbl := List.mem_of_getElem? (i := 142) rfl
def tX5_put : xL := [(0, .aload_n 0, 1), (1, .getfield 7, 3), (4, .iconst 2, 1), (5, .iload_n 1, 1), (6, .imul, 1), (7, .lload_n 2, 1), (8, .lastore, 1), (9, .aload_n 0, 1), (10, .getfield 7, 3), (13, .iconst 2, 1), (14, .iload_n 1, 1), (15, .imul, 1), (16, .iconst 1, 1), (17, .iadd, 1), (18, .lload 4, 2), (20, .lastore, 1), (21, .return_, 1)]
set_option maxRecDepth 100000 in
theorem oX5_put : okT cX5_put tX5_put = true := by decide +kernel
abbrev mX5_put : xM := (yX5_put, cX5_put, 6, none)
set_option maxRecDepth 100000 in
theorem uX5_put : Cond.code yX5_put cX5_put 6 none ∈ lw_tbl := List.mem_of_getElem? (i := 294) rfl
def tX5_putFromTape : xL := [(0, .aload_n 0, 1), (1, .iload_n 1, 1), (2, .aload_n 2, 1), (3, .iload_n 3, 1), (4, .invokevirtual 13, 3), (7, .aload_n 2, 1), (8, .iload_n 3, 1), (9, .bipush 8, 2), (11, .iadd, 1), (12, .invokevirtual 13, 3), (15, .invokevirtual 19, 3), (18, .return_, 1)]
set_option maxRecDepth 100000 in
theorem oX5_putFromTape : okT cX5_putFromTape tX5_putFromTape = true := by decide +kernel
abbrev mX5_putFromTape : xM := (yX5_putFromTape, cX5_putFromTape, 4, none)
set_option maxRecDepth 100000 in
theorem uX5_putFromTape : Cond.code yX5_putFromTape cX5_putFromTape 4 none ∈ lw_tbl := List.mem_of_getElem? (i := 289) rfl
def tX5_copy : xL := [(0, .aload_n 0, 1), (1, .iload_n 1, 1), (2, .aload_n 2, 1), (3, .iload_n 3, 1), (4, .invokevirtual 23, 3), (7, .aload_n 2, 1), (8, .iload_n 3, 1), (9, .invokevirtual 26, 3), (12, .invokevirtual 19, 3), (15, .return_, 1)]
set_option maxRecDepth 100000 in
theorem oX5_copy : okT cX5_copy tX5_copy = true := by decide +kernel
abbrev mX5_copy : xM := (yX5_copy, cX5_copy, 4, none)
set_option maxRecDepth 100000 in
theorem uX5_copy : Cond.code yX5_copy cX5_copy 4 none ∈ lw_tbl := List.mem_of_getElem? (i := 322) rfl
def tX5_mix : xL := [(0, .aload_n 0, 1), (1, .getfield 7, 3), (4, .iconst 2, 1), (5, .iload_n 1, 1), (6, .imul, 1), (7, .dup2, 1), (8, .laload, 1), (9, .aload_n 2, 1), (10, .iload_n 3, 1), (11, .invokevirtual 23, 3), (14, .lxor, 1), (15, .lastore, 1), (16, .aload_n 0, 1), (17, .getfield 7, 3), (20, .iconst 2, 1), (21, .iload_n 1, 1), (22, .imul, 1), (23, .iconst 1, 1), (24, .iadd, 1), (25, .dup2, 1), (26, .laload, 1), (27, .aload_n 2, 1), (28, .iload_n 3, 1), (29, .invokevirtual 26, 3), (32, .lxor, 1), (33, .lastore, 1), (34, .return_, 1)]
set_option maxRecDepth 100000 in
theorem oX5_mix : okT cX5_mix tX5_mix = true := by decide +kernel
abbrev mX5_mix : xM := (yX5_mix, cX5_mix, 4, none)
set_option maxRecDepth 100000 in
theorem uX5_mix : Cond.code yX5_mix cX5_mix 4 none ∈ lw_tbl := List.mem_of_getElem? (i := 351) rfl
def tX5_mixIf : xL := [(0, .iload_n 1, 1), (1, .iconst 1, 1), (2, .if_icmp .ne 11, 3), (5, .aload_n 0, 1), (6, .iload_n 2, 1), (7, .aload_n 3, 1), (8, .iload 4, 2), (10, .invokevirtual 29, 3), (13, .return_, 1)]
set_option maxRecDepth 100000 in
theorem oX5_mixIf : okT cX5_mixIf tX5_mixIf = true := by decide +kernel
abbrev mX5_mixIf : xM := (yX5_mixIf, cX5_mixIf, 5, none)
set_option maxRecDepth 100000 in
theorem uX5_mixIf : Cond.code yX5_mixIf cX5_mixIf 5 none ∈ lw_tbl := List.mem_of_getElem? (i := 549) rfl
def tX5_mixByte : xL := [(0, .aload_n 0, 1), (1, .getfield 7, 3), (4, .iconst 2, 1), (5, .iload_n 1, 1), (6, .imul, 1), (7, .iload_n 2, 1), (8, .bipush 8, 2), (10, .idiv, 1), (11, .iadd, 1), (12, .dup2, 1), (13, .laload, 1), (14, .iload_n 3, 1), (15, .i2l, 1), (16, .ldc2_w 33, 3), (19, .land, 1), (20, .bipush 56, 2), (22, .bipush 8, 2), (24, .iload_n 2, 1), (25, .bipush 8, 2), (27, .irem, 1), (28, .imul, 1), (29, .isub, 1), (30, .lshl, 1), (31, .lxor, 1), (32, .lastore, 1), (33, .return_, 1)]
set_option maxRecDepth 100000 in
theorem oX5_mixByte : okT cX5_mixByte tX5_mixByte = true := by decide +kernel
abbrev mX5_mixByte : xM := (yX5_mixByte, cX5_mixByte, 4, none)
set_option maxRecDepth 100000 in
theorem uX5_mixByte : Cond.code yX5_mixByte cX5_mixByte 4 none ∈ lw_tbl := List.mem_of_getElem? (i := 641) rfl
def tX5_mixNumber : xL := [(0, .aload_n 0, 1), (1, .getfield 7, 3), (4, .iconst 2, 1), (5, .iload_n 1, 1), (6, .imul, 1), (7, .iconst 1, 1), (8, .iadd, 1), (9, .dup2, 1), (10, .laload, 1), (11, .iload_n 2, 1), (12, .i2l, 1), (13, .ldc2_w 35, 3), (16, .land, 1), (17, .lxor, 1), (18, .lastore, 1), (19, .return_, 1)]
set_option maxRecDepth 100000 in
theorem oX5_mixNumber : okT cX5_mixNumber tX5_mixNumber = true := by decide +kernel
abbrev mX5_mixNumber : xM := (yX5_mixNumber, cX5_mixNumber, 3, none)
set_option maxRecDepth 100000 in
theorem uX5_mixNumber : Cond.code yX5_mixNumber cX5_mixNumber 3 none ∈ lw_tbl := List.mem_of_getElem? (i := 342) rfl
def tX5_makeDouble : xL := [(0, .aload_n 0, 1), (1, .iload_n 1, 1), (2, .invokevirtual 23, 3), (5, .lstore_n 2, 1), (6, .aload_n 0, 1), (7, .iload_n 1, 1), (8, .invokevirtual 26, 3), (11, .lstore 4, 2), (13, .aload_n 0, 1), (14, .iload_n 1, 1), (15, .lload_n 2, 1), (16, .iconst 1, 1), (17, .lshl, 1), (18, .lload 4, 2), (20, .bipush 63, 2), (22, .lushr, 1), (23, .lor, 1), (24, .lload 4, 2), (26, .iconst 1, 1), (27, .lshl, 1), (28, .lload_n 2, 1), (29, .lconst 0, 1), (30, .lcmp, 1), (31, .ifCond .ge 9, 3), (34, .sipush 135, 3), (37, .goto 4, 3), (40, .iconst 0, 1), (41, .i2l, 1), (42, .lxor, 1), (43, .invokevirtual 19, 3), (46, .return_, 1)]
set_option maxRecDepth 100000 in
theorem oX5_makeDouble : okT cX5_makeDouble tX5_makeDouble = true := by decide +kernel
abbrev mX5_makeDouble : xM := (yX5_makeDouble, cX5_makeDouble, 6, none)
set_option maxRecDepth 100000 in
theorem uX5_makeDouble : Cond.code yX5_makeDouble cX5_makeDouble 6 none ∈ lw_tbl := List.mem_of_getElem? (i := 328) rfl
def tX5_high : xL := [(0, .aload_n 0, 1), (1, .getfield 7, 3), (4, .iconst 2, 1), (5, .iload_n 1, 1), (6, .imul, 1), (7, .laload, 1), (8, .lreturn, 1)]
set_option maxRecDepth 100000 in
theorem oX5_high : okT cX5_high tX5_high = true := by decide +kernel
abbrev mX5_high : xM := (yX5_high, cX5_high, 2, (some .long))
set_option maxRecDepth 100000 in
theorem uX5_high : Cond.code yX5_high cX5_high 2 (some .long) ∈ lw_tbl := List.mem_of_getElem? (i := 302) rfl
def tX5_low : xL := [(0, .aload_n 0, 1), (1, .getfield 7, 3), (4, .iconst 2, 1), (5, .iload_n 1, 1), (6, .imul, 1), (7, .iconst 1, 1), (8, .iadd, 1), (9, .laload, 1), (10, .lreturn, 1)]
set_option maxRecDepth 100000 in
theorem oX5_low : okT cX5_low tX5_low = true := by decide +kernel
abbrev mX5_low : xM := (yX5_low, cX5_low, 2, (some .long))
set_option maxRecDepth 100000 in
theorem uX5_low : Cond.code yX5_low cX5_low 2 (some .long) ∈ lw_tbl := List.mem_of_getElem? (i := 306) rfl
def tX5_colour : xL := [(0, .aload_n 0, 1), (1, .iload_n 1, 1), (2, .invokevirtual 26, 3), (5, .l2i, 1), (6, .iconst 1, 1), (7, .iand, 1), (8, .ireturn, 1)]
set_option maxRecDepth 100000 in
theorem oX5_colour : okT cX5_colour tX5_colour = true := by decide +kernel
abbrev mX5_colour : xM := (yX5_colour, cX5_colour, 2, (some .int))
set_option maxRecDepth 100000 in
theorem uX5_colour : Cond.code yX5_colour cX5_colour 2 (some .int) ∈ lw_tbl := List.mem_of_getElem? (i := 570) rfl
def tX5_byteOf : xL := [(0, .aload_n 0, 1), (1, .iload_n 1, 1), (2, .iconst 1, 1), (3, .iload_n 2, 1), (4, .invokevirtual 37, 3), (7, .l2i, 1), (8, .sipush 255, 3), (11, .iand, 1), (12, .ireturn, 1)]
set_option maxRecDepth 100000 in
theorem oX5_byteOf : okT cX5_byteOf tX5_byteOf = true := by decide +kernel
abbrev mX5_byteOf : xM := (yX5_byteOf, cX5_byteOf, 3, (some .int))
set_option maxRecDepth 100000 in
theorem uX5_byteOf : Cond.code yX5_byteOf cX5_byteOf 3 (some .int) ∈ lw_tbl := List.mem_of_getElem? (i := 362) rfl
def tX5_bitsOf : xL := [(0, .iload_n 2, 1), (1, .iload_n 3, 1), (2, .imul, 1), (3, .istore 4, 2), (5, .aload_n 0, 1), (6, .getfield 7, 3), (9, .iconst 2, 1), (10, .iload_n 1, 1), (11, .imul, 1), (12, .iload 4, 2), (14, .bipush 8, 2), (16, .idiv, 1), (17, .iadd, 1), (18, .laload, 1), (19, .bipush 64, 2), (21, .bipush 8, 2), (23, .iload_n 2, 1), (24, .iload 4, 2), (26, .bipush 8, 2), (28, .irem, 1), (29, .iadd, 1), (30, .imul, 1), (31, .isub, 1), (32, .lushr, 1), (33, .lreturn, 1)]
set_option maxRecDepth 100000 in
theorem oX5_bitsOf : okT cX5_bitsOf tX5_bitsOf = true := by decide +kernel
abbrev mX5_bitsOf : xM := (yX5_bitsOf, cX5_bitsOf, 5, (some .long))
set_option maxRecDepth 100000 in
theorem uX5_bitsOf : Cond.code yX5_bitsOf cX5_bitsOf 5 (some .long) ∈ lw_tbl := List.mem_of_getElem? (i := 366) rfl
def tX6_init : xL := [(0, .aload_n 0, 1), (1, .invokespecial 3, 3), (4, .aload_n 0, 1), (5, .sipush 4000, 3), (8, .newarray .byte, 2), (10, .putfield 9, 3), (13, .return_, 1)]
set_option maxRecDepth 100000 in
theorem oX6_init : okT cX6_init tX6_init = true := by decide +kernel
abbrev mX6_init : xM := (yX6_init, cX6_init, 1, none)
set_option maxRecDepth 100000 in
theorem uX6_init : Cond.code yX6_init cX6_init 1 none ∈ lw_tbl := List.mem_of_getElem? (i := 69) rfl
def tX6_append : xL := [(0, .iload_n 3, 1), (1, .sipush 4000, 3), (4, .aload_n 0, 1), (5, .getfield 15, 3), (8, .isub, 1), (9, .if_icmp .le 5, 3), (12, .iconst 0, 1), (13, .ireturn, 1), (14, .iload_n 3, 1), (15, .iconst 1, 1), (16, .isub, 1), (17, .istore 4, 2), (19, .iload 4, 2), (21, .ifCond .lt 37, 3), (24, .aload_n 0, 1), (25, .getfield 9, 3), (28, .aload_n 0, 1), (29, .getfield 15, 3), (32, .lload_n 1, 1), (33, .bipush 8, 2), (35, .iload 4, 2), (37, .imul, 1), (38, .lushr, 1), (39, .l2i, 1), (40, .i2b, 1), (41, .bastore, 1), (42, .aload_n 0, 1), (43, .dup, 1), (44, .getfield 15, 3), (47, .iconst 1, 1), (48, .iadd, 1), (49, .putfield 15, 3), (52, .iinc 4 (-1), 3), (55, .goto (-36), 3), (58, .iconst 1, 1), (59, .ireturn, 1)]
set_option maxRecDepth 100000 in
theorem oX6_append : okT cX6_append tX6_append = true := by decide +kernel
abbrev mX6_append : xM := (yX6_append, cX6_append, 5, (some .boolean))
set_option maxRecDepth 100000 in
theorem uX6_append : Cond.code yX6_append cX6_append 5 (some .boolean) ∈ lw_tbl := List.mem_of_getElem? (i := 257) rfl
def tX6_useUp : xL := [(0, .aload_n 0, 1), (1, .getfield 15, 3), (4, .istore_n 1, 1), (5, .aload_n 0, 1), (6, .iconst 0, 1), (7, .putfield 15, 3), (10, .iload_n 1, 1), (11, .ireturn, 1)]
set_option maxRecDepth 100000 in
theorem oX6_useUp : okT cX6_useUp tX6_useUp = true := by decide +kernel
abbrev mX6_useUp : xM := (yX6_useUp, cX6_useUp, 2, (some .int))
set_option maxRecDepth 100000 in
theorem uX6_useUp : Cond.code yX6_useUp cX6_useUp 2 (some .int) ∈ lw_tbl := List.mem_of_getElem? (i := 265) rfl
def tX6_byteAt : xL := [(0, .iload_n 1, 1), (1, .ifCond .lt 10, 3), (4, .iload_n 1, 1), (5, .sipush 4000, 3), (8, .if_icmp .lt 7, 3), (11, .iconst 0, 1), (12, .goto 13, 3), (15, .aload_n 0, 1), (16, .getfield 9, 3), (19, .iload_n 1, 1), (20, .baload, 1), (21, .sipush 255, 3), (24, .iand, 1), (25, .ireturn, 1)]
set_option maxRecDepth 100000 in
theorem oX6_byteAt : okT cX6_byteAt tX6_byteAt = true := by decide +kernel
abbrev mX6_byteAt : xM := (yX6_byteAt, cX6_byteAt, 2, (some .int))
set_option maxRecDepth 100000 in
theorem uX6_byteAt : Cond.code yX6_byteAt cX6_byteAt 2 (some .int) ∈ lw_tbl := List.mem_of_getElem? (i := 277) rfl
def tX6_eightBytes : xL := [(0, .lconst 0, 1), (1, .lstore_n 2, 1), (2, .iconst 0, 1), (3, .istore 4, 2), (5, .iload 4, 2), (7, .bipush 8, 2), (9, .if_icmp .ge 24, 3), (12, .lload_n 2, 1), (13, .bipush 8, 2), (15, .lshl, 1), (16, .aload_n 0, 1), (17, .iload_n 1, 1), (18, .iload 4, 2), (20, .iadd, 1), (21, .invokevirtual 19, 3), (24, .i2l, 1), (25, .lor, 1), (26, .lstore_n 2, 1), (27, .iinc 4 1, 3), (30, .goto (-25), 3), (33, .lload_n 2, 1), (34, .lreturn, 1)]
set_option maxRecDepth 100000 in
theorem oX6_eightBytes : okT cX6_eightBytes tX6_eightBytes = true := by decide +kernel
abbrev mX6_eightBytes : xM := (yX6_eightBytes, cX6_eightBytes, 5, (some .long))
set_option maxRecDepth 100000 in
theorem uX6_eightBytes : Cond.code yX6_eightBytes cX6_eightBytes 5 (some .long) ∈ lw_tbl := List.mem_of_getElem? (i := 273) rfl
def tX7_init : xL := [(0, .aload_n 0, 1), (1, .invokespecial 1, 3), (4, .aload_n 0, 1), (5, .new 7, 3), (8, .dup, 1), (9, .invokespecial 9, 3), (12, .putfield 10, 3), (15, .aload_n 0, 1), (16, .new 16, 3), (19, .dup, 1), (20, .aload_n 0, 1), (21, .getfield 10, 3), (24, .invokespecial 18, 3), (27, .putfield 21, 3), (30, .aload_n 0, 1), (31, .new 25, 3), (34, .dup, 1), (35, .invokespecial 27, 3), (38, .putfield 28, 3), (41, .aload_n 0, 1), (42, .new 32, 3), (45, .dup, 1), (46, .aload_n 0, 1), (47, .getfield 28, 3), (50, .invokespecial 34, 3), (53, .putfield 37, 3), (56, .aload_n 0, 1), (57, .new 41, 3), (60, .dup, 1), (61, .iconst 3, 1), (62, .invokespecial 43, 3), (65, .putfield 46, 3), (68, .aload_n 0, 1), (69, .new 41, 3), (72, .dup, 1), (73, .bipush 56, 2), (75, .invokespecial 43, 3), (78, .putfield 50, 3), (81, .aload_n 0, 1), (82, .bipush 6, 2), (84, .anewarray 53, 3), (87, .putfield 55, 3), (90, .aload_n 0, 1), (91, .bipush 6, 2), (93, .anewarray 59, 3), (96, .putfield 61, 3), (99, .iconst 0, 1), (100, .istore_n 1, 1), (101, .iload_n 1, 1), (102, .bipush 6, 2), (104, .if_icmp .ge 22, 3), (107, .aload_n 0, 1), (108, .getfield 55, 3), (111, .iload_n 1, 1), (112, .new 53, 3), (115, .dup, 1), (116, .invokespecial 65, 3), (119, .aastore, 1), (120, .iinc 1 1, 3), (123, .goto (-22), 3), (126, .return_, 1)]
set_option maxRecDepth 100000 in
theorem oX7_init : okT cX7_init tX7_init = true := by decide +kernel
abbrev mX7_init : xM := (yX7_init, cX7_init, 2, none)
set_option maxRecDepth 100000 in
theorem uX7_init : Cond.code yX7_init cX7_init 2 none ∈ lw_tbl := List.mem_of_getElem? (i := 61) rfl
def tX7_feed : xL := [(0, .iload_n 3, 1), (1, .iconst 1, 1), (2, .if_icmp .lt 9, 3), (5, .iload_n 3, 1), (6, .bipush 8, 2), (8, .if_icmp .le 5, 3), (11, .iconst (-1), 1), (12, .ireturn, 1), (13, .aload_n 0, 1), (14, .getfield 10, 3), (17, .lload_n 1, 1), (18, .iload_n 3, 1), (19, .invokevirtual 66, 3), (22, .ifCond .eq 13, 3), (25, .aload_n 0, 1), (26, .getfield 10, 3), (29, .getfield 70, 3), (32, .goto 5, 3), (35, .bipush (-2), 2), (37, .ireturn, 1)]
set_option maxRecDepth 100000 in
theorem oX7_feed : okT cX7_feed tX7_feed = true := by decide +kernel
abbrev mX7_feed : xM := (yX7_feed, cX7_feed, 4, (some .int))
set_option maxRecDepth 100000 in
theorem uX7_feed : Cond.code yX7_feed cX7_feed 4 (some .int) ∈ lw_tbl := List.mem_of_getElem? (i := 253) rfl
def tX7_clear : xL := [(0, .aload_n 0, 1), (1, .getfield 10, 3), (4, .invokevirtual 74, 3), (7, .ireturn, 1)]
set_option maxRecDepth 100000 in
theorem oX7_clear : okT cX7_clear tX7_clear = true := by decide +kernel
abbrev mX7_clear : xM := (yX7_clear, cX7_clear, 1, (some .int))
set_option maxRecDepth 100000 in
theorem uX7_clear : Cond.code yX7_clear cX7_clear 1 (some .int) ∈ lw_tbl := List.mem_of_getElem? (i := 261) rfl
def tX7_key : xL := [(0, .aload_n 0, 1), (1, .getfield 10, 3), (4, .invokevirtual 74, 3), (7, .istore_n 1, 1), (8, .aload_n 0, 1), (9, .getfield 78, 3), (12, .ifCond .le 6, 3), (15, .bipush (-3), 2), (17, .ireturn, 1), (18, .iload_n 1, 1), (19, .bipush 16, 2), (21, .if_icmp .ge 6, 3), (24, .bipush (-4), 2), (26, .ireturn, 1), (27, .aload_n 0, 1), (28, .getfield 28, 3), (31, .aload_n 0, 1), (32, .getfield 10, 3), (35, .iconst 0, 1), (36, .invokevirtual 81, 3), (39, .aload_n 0, 1), (40, .getfield 10, 3), (43, .bipush 8, 2), (45, .invokevirtual 81, 3), (48, .invokevirtual 85, 3), (51, .iconst 1, 1), (52, .ireturn, 1)]
set_option maxRecDepth 100000 in
theorem oX7_key : okT cX7_key tX7_key = true := by decide +kernel
abbrev mX7_key : xM := (yX7_key, cX7_key, 2, (some .int))
set_option maxRecDepth 100000 in
theorem uX7_key : Cond.code yX7_key cX7_key 2 (some .int) ∈ lw_tbl := List.mem_of_getElem? (i := 269) rfl
def tX7_make : xL := [(0, .aload_n 0, 1), (1, .getfield 10, 3), (4, .invokevirtual 74, 3), (7, .istore_n 3, 1), (8, .iload_n 1, 1), (9, .ifCond .lt 8, 3), (12, .iload_n 1, 1), (13, .iconst 3, 1), (14, .if_icmp .le 5, 3), (17, .iconst (-1), 1), (18, .ireturn, 1), (19, .iload_n 3, 1), (20, .iload_n 1, 1), (21, .iconst 3, 1), (22, .if_icmp .ne 8, 3), (25, .bipush 32, 2), (27, .goto 5, 3), (30, .bipush 16, 2), (32, .if_icmp .ge 6, 3), (35, .bipush (-4), 2), (37, .ireturn, 1), (38, .aload_n 0, 1), (39, .getfield 46, 3), (42, .iconst 0, 1), (43, .aload_n 0, 1), (44, .getfield 10, 3), (47, .iconst 0, 1), (48, .invokevirtual 89, 3), (51, .iload_n 1, 1), (52, .tableswitch 85 0 2 #[28, 44, 68], 28), (80, .aload_n 0, 1), (81, .getfield 28, 3), (84, .aload_n 0, 1), (85, .getfield 46, 3), (88, .iconst 0, 1), (89, .iconst 2, 1), (90, .invokevirtual 93, 3), (93, .goto 73, 3), (96, .aload_n 0, 1), (97, .getfield 46, 3), (100, .iconst 2, 1), (101, .aload_n 0, 1), (102, .getfield 46, 3), (105, .iconst 0, 1), (106, .invokevirtual 97, 3), (109, .aload_n 0, 1), (110, .getfield 46, 3), (113, .iconst 2, 1), (114, .invokevirtual 101, 3), (117, .goto 49, 3), (120, .aload_n 0, 1), (121, .getfield 28, 3), (124, .aload_n 0, 1), (125, .getfield 46, 3), (128, .iconst 0, 1), (129, .iload_n 2, 1), (130, .iconst 2, 1), (131, .invokevirtual 104, 3), (134, .goto 32, 3), (137, .aload_n 0, 1), (138, .getfield 46, 3), (141, .iconst 1, 1), (142, .aload_n 0, 1), (143, .getfield 10, 3), (146, .bipush 16, 2), (148, .invokevirtual 89, 3), (151, .aload_n 0, 1), (152, .getfield 28, 3), (155, .aload_n 0, 1), (156, .getfield 46, 3), (159, .iconst 0, 1), (160, .iconst 1, 1), (161, .iload_n 2, 1), (162, .iconst 2, 1), (163, .invokevirtual 108, 3), (166, .iconst 1, 1), (167, .ireturn, 1)]
set_option maxRecDepth 100000 in
theorem oX7_make : okT cX7_make tX7_make = true := by decide +kernel
abbrev mX7_make : xM := (yX7_make, cX7_make, 4, (some .int))
set_option maxRecDepth 100000 in
theorem uX7_make : Cond.code yX7_make cX7_make 4 (some .int) ∈ lw_tbl := List.mem_of_getElem? (i := 285) rfl
def tX7_result : xL := [(0, .iload_n 1, 1), (1, .invokestatic 112, 3), (4, .ifCond .eq 15, 3), (7, .aload_n 0, 1), (8, .getfield 46, 3), (11, .iconst 2, 1), (12, .iload_n 1, 1), (13, .invokevirtual 116, 3), (16, .goto 4, 3), (19, .iconst (-1), 1), (20, .ireturn, 1)]
set_option maxRecDepth 100000 in
theorem oX7_result : okT cX7_result tX7_result = true := by decide +kernel
abbrev mX7_result : xM := (yX7_result, cX7_result, 2, (some .int))
set_option maxRecDepth 100000 in
theorem uX7_result : Cond.code yX7_result cX7_result 2 (some .int) ∈ lw_tbl := List.mem_of_getElem? (i := 355) rfl
def tX7_circuit : xL := [(0, .aload_n 0, 1), (1, .getfield 10, 3), (4, .invokevirtual 74, 3), (7, .istore_n 1, 1), (8, .aload_n 0, 1), (9, .getfield 120, 3), (12, .bipush 6, 2), (14, .if_icmp .lt 6, 3), (17, .bipush (-2), 2), (19, .ireturn, 1), (20, .aload_n 0, 1), (21, .getfield 21, 3), (24, .aload_n 0, 1), (25, .getfield 55, 3), (28, .aload_n 0, 1), (29, .getfield 120, 3), (32, .aaload, 1), (33, .iload_n 1, 1), (34, .invokevirtual 123, 3), (37, .istore_n 2, 1), (38, .iload_n 2, 1), (39, .ifCond .eq 5, 3), (42, .iload_n 2, 1), (43, .ireturn, 1), (44, .aload_n 0, 1), (45, .dup, 1), (46, .getfield 120, 3), (49, .iconst 1, 1), (50, .iadd, 1), (51, .putfield 120, 3), (54, .aload_n 0, 1), (55, .getfield 120, 3), (58, .iconst 1, 1), (59, .isub, 1), (60, .ireturn, 1)]
set_option maxRecDepth 100000 in
theorem oX7_circuit : okT cX7_circuit tX7_circuit = true := by decide +kernel
abbrev mX7_circuit : xM := (yX7_circuit, cX7_circuit, 3, (some .int))
set_option maxRecDepth 100000 in
theorem uX7_circuit : Cond.code yX7_circuit cX7_circuit 3 (some .int) ∈ lw_tbl := List.mem_of_getElem? (i := 370) rfl
def tX7_about : xL := [(0, .aload_n 0, 1), (1, .iload_n 1, 1), (2, .invokevirtual 127, 3), (5, .astore_n 3, 1), (6, .aload_n 3, 1), (7, .ifnonnull 5, 3), (10, .iconst (-1), 1), (11, .ireturn, 1), (12, .iload_n 2, 1), (13, .tableswitch 60 0 4 #[35, 40, 45, 50, 55], 35), (48, .aload_n 3, 1), (49, .getfield 131, 3), (52, .ireturn, 1), (53, .aload_n 3, 1), (54, .getfield 134, 3), (57, .ireturn, 1), (58, .aload_n 3, 1), (59, .getfield 137, 3), (62, .ireturn, 1), (63, .aload_n 3, 1), (64, .getfield 140, 3), (67, .ireturn, 1), (68, .aload_n 3, 1), (69, .invokevirtual 143, 3), (72, .ireturn, 1), (73, .iconst (-1), 1), (74, .ireturn, 1)]
set_option maxRecDepth 100000 in
theorem oX7_about : okT cX7_about tX7_about = true := by decide +kernel
abbrev mX7_about : xM := (yX7_about, cX7_about, 4, (some .int))
set_option maxRecDepth 100000 in
theorem uX7_about : Cond.code yX7_about cX7_about 4 (some .int) ∈ lw_tbl := List.mem_of_getElem? (i := 437) rfl
def tX7_gate : xL := [(0, .aload_n 0, 1), (1, .iload_n 1, 1), (2, .invokevirtual 127, 3), (5, .astore 4, 2), (7, .aload 4, 2), (9, .ifnull 16, 3), (12, .iload_n 2, 1), (13, .ifCond .lt 12, 3), (16, .iload_n 2, 1), (17, .aload 4, 2), (19, .getfield 134, 3), (22, .if_icmp .lt 5, 3), (25, .iconst (-1), 1), (26, .ireturn, 1), (27, .iload_n 3, 1), (28, .tableswitch 64 0 3 #[32, 40, 48, 56], 32), (60, .aload 4, 2), (62, .getfield 146, 3), (65, .iload_n 2, 1), (66, .iaload, 1), (67, .ireturn, 1), (68, .aload 4, 2), (70, .getfield 150, 3), (73, .iload_n 2, 1), (74, .iaload, 1), (75, .ireturn, 1), (76, .aload 4, 2), (78, .getfield 153, 3), (81, .iload_n 2, 1), (82, .iaload, 1), (83, .ireturn, 1), (84, .aload 4, 2), (86, .getfield 156, 3), (89, .iload_n 2, 1), (90, .iaload, 1), (91, .ireturn, 1), (92, .iconst (-1), 1), (93, .ireturn, 1)]
set_option maxRecDepth 100000 in
theorem oX7_gate : okT cX7_gate tX7_gate = true := by decide +kernel
abbrev mX7_gate : xM := (yX7_gate, cX7_gate, 5, (some .int))
set_option maxRecDepth 100000 in
theorem uX7_gate : Cond.code yX7_gate cX7_gate 5 (some .int) ∈ lw_tbl := List.mem_of_getElem? (i := 446) rfl
def tX7_output : xL := [(0, .aload_n 0, 1), (1, .iload_n 1, 1), (2, .invokevirtual 127, 3), (5, .astore_n 3, 1), (6, .aload_n 3, 1), (7, .ifnull 15, 3), (10, .iload_n 2, 1), (11, .ifCond .lt 11, 3), (14, .iload_n 2, 1), (15, .aload_n 3, 1), (16, .getfield 137, 3), (19, .if_icmp .lt 7, 3), (22, .iconst (-1), 1), (23, .goto 9, 3), (26, .aload_n 3, 1), (27, .getfield 159, 3), (30, .iload_n 2, 1), (31, .iaload, 1), (32, .ireturn, 1)]
set_option maxRecDepth 100000 in
theorem oX7_output : okT cX7_output tX7_output = true := by decide +kernel
abbrev mX7_output : xM := (yX7_output, cX7_output, 4, (some .int))
set_option maxRecDepth 100000 in
theorem uX7_output : Cond.code yX7_output cX7_output 4 (some .int) ∈ lw_tbl := List.mem_of_getElem? (i := 450) rfl
def tX7_plain : xL := [(0, .aload_n 0, 1), (1, .iload_n 1, 1), (2, .invokevirtual 127, 3), (5, .astore_n 3, 1), (6, .aload_n 3, 1), (7, .ifnonnull 7, 3), (10, .iconst (-1), 1), (11, .goto 8, 3), (14, .aload_n 3, 1), (15, .iload_n 2, 1), (16, .invokevirtual 162, 3), (19, .ireturn, 1)]
set_option maxRecDepth 100000 in
theorem oX7_plain : okT cX7_plain tX7_plain = true := by decide +kernel
abbrev mX7_plain : xM := (yX7_plain, cX7_plain, 4, (some .int))
set_option maxRecDepth 100000 in
theorem uX7_plain : Cond.code yX7_plain cX7_plain 4 (some .int) ∈ lw_tbl := List.mem_of_getElem? (i := 454) rfl
def tX7_garble : xL := [(0, .aload_n 0, 1), (1, .getfield 10, 3), (4, .invokevirtual 74, 3), (7, .istore 4, 2), (9, .aload_n 0, 1), (10, .iload_n 1, 1), (11, .invokevirtual 127, 3), (14, .astore 5, 2), (16, .aload 5, 2), (18, .ifnull 19, 3), (21, .iload_n 2, 1), (22, .ifCond .lt 15, 3), (25, .iload_n 2, 1), (26, .iconst 2, 1), (27, .if_icmp .gt 10, 3), (30, .iload_n 3, 1), (31, .invokestatic 166, 3), (34, .ifCond .ne 5, 3), (37, .iconst (-1), 1), (38, .ireturn, 1), (39, .aload_n 0, 1), (40, .getfield 78, 3), (43, .bipush 6, 2), (45, .if_icmp .lt 6, 3), (48, .bipush (-2), 2), (50, .ireturn, 1), (51, .iload 4, 2), (53, .bipush 16, 2), (55, .aload 5, 2), (57, .iload_n 2, 1), (58, .invokevirtual 169, 3), (61, .imul, 1), (62, .if_icmp .ge 6, 3), (65, .bipush (-4), 2), (67, .ireturn, 1), (68, .new 59, 3), (71, .dup, 1), (72, .aload 5, 2), (74, .iload_n 1, 1), (75, .iload_n 2, 1), (76, .iload_n 3, 1), (77, .invokespecial 172, 3), (80, .astore 6, 2), (82, .aload 6, 2), (84, .aload_n 0, 1), (85, .getfield 10, 3), (88, .invokevirtual 175, 3), (91, .aload_n 0, 1), (92, .getfield 28, 3), (95, .getfield 178, 3), (98, .istore 7, 2), (100, .aload_n 0, 1), (101, .getfield 37, 3), (104, .aload 6, 2), (106, .invokevirtual 181, 3), (109, .aload 6, 2), (111, .aload_n 0, 1), (112, .getfield 28, 3), (115, .getfield 178, 3), (118, .iload 7, 2), (120, .isub, 1), (121, .putfield 185, 3), (124, .aload_n 0, 1), (125, .getfield 61, 3), (128, .aload_n 0, 1), (129, .getfield 78, 3), (132, .aload 6, 2), (134, .aastore, 1), (135, .aload_n 0, 1), (136, .dup, 1), (137, .getfield 78, 3), (140, .iconst 1, 1), (141, .iadd, 1), (142, .putfield 78, 3), (145, .aload_n 0, 1), (146, .getfield 78, 3), (149, .iconst 1, 1), (150, .isub, 1), (151, .ireturn, 1)]
set_option maxRecDepth 100000 in
theorem oX7_garble : okT cX7_garble tX7_garble = true := by decide +kernel
abbrev mX7_garble : xM := (yX7_garble, cX7_garble, 8, (some .int))
set_option maxRecDepth 100000 in
theorem uX7_garble : Cond.code yX7_garble cX7_garble 8 (some .int) ∈ lw_tbl := List.mem_of_getElem? (i := 468) rfl
def tX7_told : xL := [(0, .aload_n 0, 1), (1, .iload_n 1, 1), (2, .invokevirtual 188, 3), (5, .astore_n 3, 1), (6, .aload_n 3, 1), (7, .ifnonnull 5, 3), (10, .iconst (-1), 1), (11, .ireturn, 1), (12, .iload_n 2, 1), (13, .tableswitch 78 0 6 #[43, 48, 53, 58, 63, 68, 73], 43), (56, .aload_n 3, 1), (57, .getfield 192, 3), (60, .ireturn, 1), (61, .aload_n 3, 1), (62, .getfield 195, 3), (65, .ireturn, 1), (66, .aload_n 3, 1), (67, .getfield 198, 3), (70, .ireturn, 1), (71, .aload_n 3, 1), (72, .invokevirtual 201, 3), (75, .ireturn, 1), (76, .aload_n 3, 1), (77, .getfield 185, 3), (80, .ireturn, 1), (81, .aload_n 3, 1), (82, .invokevirtual 204, 3), (85, .ireturn, 1), (86, .aload_n 3, 1), (87, .getfield 207, 3), (90, .ireturn, 1), (91, .iconst (-1), 1), (92, .ireturn, 1)]
set_option maxRecDepth 100000 in
theorem oX7_told : okT cX7_told tX7_told = true := by decide +kernel
abbrev mX7_told : xM := (yX7_told, cX7_told, 4, (some .int))
set_option maxRecDepth 100000 in
theorem uX7_told : Cond.code yX7_told cX7_told 4 (some .int) ∈ lw_tbl := List.mem_of_getElem? (i := 588) rfl
def tX7_label : xL := [(0, .aload_n 0, 1), (1, .iload_n 1, 1), (2, .invokevirtual 188, 3), (5, .astore 5, 2), (7, .aload 5, 2), (9, .ifnull 11, 3), (12, .iload 4, 2), (14, .invokestatic 112, 3), (17, .ifCond .ne 5, 3), (20, .iconst (-1), 1), (21, .ireturn, 1), (22, .iload_n 2, 1), (23, .iconst (-1), 1), (24, .if_icmp .ne 16, 3), (27, .aload 5, 2), (29, .getfield 210, 3), (32, .bipush 56, 2), (34, .iload 4, 2), (36, .invokevirtual 116, 3), (39, .ireturn, 1), (40, .aload 5, 2), (42, .iload_n 2, 1), (43, .invokevirtual 213, 3), (46, .ifCond .eq 10, 3), (49, .iload_n 3, 1), (50, .invokestatic 216, 3), (53, .ifCond .ne 5, 3), (56, .iconst (-1), 1), (57, .ireturn, 1), (58, .aload 5, 2), (60, .getfield 210, 3), (63, .iload_n 2, 1), (64, .iload 4, 2), (66, .invokevirtual 116, 3), (69, .istore 6, 2), (71, .iload_n 3, 1), (72, .ifCond .ne 8, 3), (75, .iload 6, 2), (77, .goto 18, 3), (80, .iload 6, 2), (82, .aload 5, 2), (84, .getfield 210, 3), (87, .bipush 56, 2), (89, .iload 4, 2), (91, .invokevirtual 116, 3), (94, .ixor, 1), (95, .ireturn, 1)]
set_option maxRecDepth 100000 in
theorem oX7_label : okT cX7_label tX7_label = true := by decide +kernel
abbrev mX7_label : xM := (yX7_label, cX7_label, 7, (some .int))
set_option maxRecDepth 100000 in
theorem uX7_label : Cond.code yX7_label cX7_label 7 (some .int) ∈ lw_tbl := List.mem_of_getElem? (i := 613) rfl
def tX7_row : xL := [(0, .aload_n 0, 1), (1, .iload_n 1, 1), (2, .invokevirtual 188, 3), (5, .astore 5, 2), (7, .aload 5, 2), (9, .ifnull 21, 3), (12, .aload 5, 2), (14, .iload_n 2, 1), (15, .iload_n 3, 1), (16, .invokevirtual 219, 3), (19, .ifCond .eq 11, 3), (22, .iload 4, 2), (24, .invokestatic 112, 3), (27, .ifCond .ne 5, 3), (30, .iconst (-1), 1), (31, .ireturn, 1), (32, .aload 5, 2), (34, .iload_n 3, 1), (35, .invokevirtual 223, 3), (38, .ifCond .eq 21, 3), (41, .aload 5, 2), (43, .getfield 226, 3), (46, .iload_n 2, 1), (47, .iload_n 3, 1), (48, .invokestatic 229, 3), (51, .iload 4, 2), (53, .invokevirtual 116, 3), (56, .goto 5, 3), (59, .bipush (-9), 2), (61, .ireturn, 1)]
set_option maxRecDepth 100000 in
theorem oX7_row : okT cX7_row tX7_row = true := by decide +kernel
abbrev mX7_row : xM := (yX7_row, cX7_row, 6, (some .int))
set_option maxRecDepth 100000 in
theorem uX7_row : Cond.code yX7_row cX7_row 6 (some .int) ∈ lw_tbl := List.mem_of_getElem? (i := 624) rfl
def tX7_spoil : xL := [(0, .aload_n 0, 1), (1, .iload_n 1, 1), (2, .invokevirtual 188, 3), (5, .astore 6, 2), (7, .aload 6, 2), (9, .ifnull 30, 3), (12, .aload 6, 2), (14, .iload_n 2, 1), (15, .iload_n 3, 1), (16, .invokevirtual 219, 3), (19, .ifCond .eq 20, 3), (22, .iload 4, 2), (24, .invokestatic 112, 3), (27, .ifCond .eq 12, 3), (30, .aload 6, 2), (32, .iload_n 3, 1), (33, .invokevirtual 223, 3), (36, .ifCond .ne 5, 3), (39, .iconst (-1), 1), (40, .ireturn, 1), (41, .iload_n 2, 1), (42, .iload_n 3, 1), (43, .invokestatic 229, 3), (46, .istore 7, 2), (48, .aload 6, 2), (50, .getfield 226, 3), (53, .iload 7, 2), (55, .iload 4, 2), (57, .iload 5, 2), (59, .invokevirtual 232, 3), (62, .aload 6, 2), (64, .getfield 226, 3), (67, .iload 7, 2), (69, .iload 4, 2), (71, .invokevirtual 116, 3), (74, .ireturn, 1)]
set_option maxRecDepth 100000 in
theorem oX7_spoil : okT cX7_spoil tX7_spoil = true := by decide +kernel
abbrev mX7_spoil : xM := (yX7_spoil, cX7_spoil, 8, (some .int))
set_option maxRecDepth 100000 in
theorem uX7_spoil : Cond.code yX7_spoil cX7_spoil 8 (some .int) ∈ lw_tbl := List.mem_of_getElem? (i := 637) rfl
def tX7_choose : xL := [(0, .aload_n 0, 1), (1, .iload_n 1, 1), (2, .invokevirtual 188, 3), (5, .astore 4, 2), (7, .aload 4, 2), (9, .ifnull 19, 3), (12, .aload 4, 2), (14, .iload_n 2, 1), (15, .invokevirtual 236, 3), (18, .ifCond .eq 10, 3), (21, .iload_n 3, 1), (22, .invokestatic 216, 3), (25, .ifCond .ne 5, 3), (28, .iconst (-1), 1), (29, .ireturn, 1), (30, .aload 4, 2), (32, .iload_n 3, 1), (33, .iload_n 2, 1), (34, .aload 4, 2), (36, .getfield 239, 3), (39, .iload_n 2, 1), (40, .invokevirtual 242, 3), (43, .aload 4, 2), (45, .iload_n 2, 1), (46, .invokevirtual 246, 3), (49, .iconst 1, 1), (50, .ireturn, 1)]
set_option maxRecDepth 100000 in
theorem oX7_choose : okT cX7_choose tX7_choose = true := by decide +kernel
abbrev mX7_choose : xM := (yX7_choose, cX7_choose, 5, (some .int))
set_option maxRecDepth 100000 in
theorem uX7_choose : Cond.code yX7_choose cX7_choose 5 (some .int) ∈ lw_tbl := List.mem_of_getElem? (i := 646) rfl
def tX7_encode : xL := [(0, .aload_n 0, 1), (1, .iload_n 1, 1), (2, .invokevirtual 188, 3), (5, .astore_n 3, 1), (6, .aload_n 3, 1), (7, .ifnonnull 5, 3), (10, .iconst (-1), 1), (11, .ireturn, 1), (12, .aload_n 3, 1), (13, .iload_n 2, 1), (14, .aload_n 3, 1), (15, .getfield 239, 3), (18, .invokevirtual 249, 3), (21, .iconst 0, 1), (22, .istore 4, 2), (24, .iload 4, 2), (26, .aload_n 3, 1), (27, .getfield 253, 3), (30, .getfield 131, 3), (33, .if_icmp .ge 15, 3), (36, .aload_n 3, 1), (37, .iload 4, 2), (39, .invokevirtual 246, 3), (42, .iinc 4 1, 3), (45, .goto (-21), 3), (48, .aload_n 3, 1), (49, .getfield 253, 3), (52, .getfield 131, 3), (55, .ireturn, 1)]
set_option maxRecDepth 100000 in
theorem oX7_encode : okT cX7_encode tX7_encode = true := by decide +kernel
abbrev mX7_encode : xM := (yX7_encode, cX7_encode, 5, (some .int))
set_option maxRecDepth 100000 in
theorem uX7_encode : Cond.code yX7_encode cX7_encode 5 (some .int) ∈ lw_tbl := List.mem_of_getElem? (i := 656) rfl
def tX7_lay : xL := [(0, .iload_n 3, 1), (1, .iconst (-1), 1), (2, .if_icmp .ne 7, 3), (5, .iconst 0, 1), (6, .goto 10, 3), (9, .aload_n 0, 1), (10, .getfield 10, 3), (13, .invokevirtual 74, 3), (16, .istore 4, 2), (18, .aload_n 0, 1), (19, .iload_n 1, 1), (20, .invokevirtual 188, 3), (23, .astore 5, 2), (25, .aload 5, 2), (27, .ifnull 21, 3), (30, .aload 5, 2), (32, .iload_n 2, 1), (33, .invokevirtual 236, 3), (36, .ifCond .eq 12, 3), (39, .iload_n 3, 1), (40, .iconst (-1), 1), (41, .if_icmp .lt 7, 3), (44, .iload_n 3, 1), (45, .ifCond .le 5, 3), (48, .iconst (-1), 1), (49, .ireturn, 1), (50, .iload_n 3, 1), (51, .iconst (-1), 1), (52, .if_icmp .ne 11, 3), (55, .aload 5, 2), (57, .iload_n 2, 1), (58, .invokevirtual 257, 3), (61, .iconst 1, 1), (62, .ireturn, 1), (63, .iload 4, 2), (65, .bipush 16, 2), (67, .if_icmp .ge 6, 3), (70, .bipush (-4), 2), (72, .ireturn, 1), (73, .aload 5, 2), (75, .getfield 239, 3), (78, .iload_n 2, 1), (79, .aload_n 0, 1), (80, .getfield 10, 3), (83, .iconst 0, 1), (84, .invokevirtual 89, 3), (87, .aload 5, 2), (89, .iload_n 2, 1), (90, .invokevirtual 246, 3), (93, .iconst 1, 1), (94, .ireturn, 1)]
set_option maxRecDepth 100000 in
theorem oX7_lay : okT cX7_lay tX7_lay = true := by decide +kernel
abbrev mX7_lay : xM := (yX7_lay, cX7_lay, 6, (some .int))
set_option maxRecDepth 100000 in
theorem uX7_lay : Cond.code yX7_lay cX7_lay 6 (some .int) ∈ lw_tbl := List.mem_of_getElem? (i := 665) rfl
def tX7_workOut : xL := [(0, .aload_n 0, 1), (1, .iload_n 1, 1), (2, .invokevirtual 188, 3), (5, .astore_n 2, 1), (6, .aload_n 2, 1), (7, .ifnonnull 5, 3), (10, .iconst (-1), 1), (11, .ireturn, 1), (12, .aload_n 2, 1), (13, .invokevirtual 260, 3), (16, .ifCond .ne 6, 3), (19, .bipush (-11), 2), (21, .ireturn, 1), (22, .aload_n 0, 1), (23, .getfield 28, 3), (26, .getfield 178, 3), (29, .istore_n 3, 1), (30, .aload_n 0, 1), (31, .getfield 37, 3), (34, .aload_n 2, 1), (35, .aload_n 2, 1), (36, .getfield 239, 3), (39, .invokevirtual 264, 3), (42, .aload_n 2, 1), (43, .aload_n 0, 1), (44, .getfield 28, 3), (47, .getfield 178, 3), (50, .iload_n 3, 1), (51, .isub, 1), (52, .putfield 207, 3), (55, .aload_n 2, 1), (56, .iconst 1, 1), (57, .putfield 268, 3), (60, .aload_n 2, 1), (61, .getfield 253, 3), (64, .getfield 134, 3), (67, .ireturn, 1)]
set_option maxRecDepth 100000 in
theorem oX7_workOut : okT cX7_workOut tX7_workOut = true := by decide +kernel
abbrev mX7_workOut : xM := (yX7_workOut, cX7_workOut, 4, (some .int))
set_option maxRecDepth 100000 in
theorem uX7_workOut : Cond.code yX7_workOut cX7_workOut 4 (some .int) ∈ lw_tbl := List.mem_of_getElem? (i := 673) rfl
def tX7_active : xL := [(0, .aload_n 0, 1), (1, .iload_n 1, 1), (2, .invokevirtual 188, 3), (5, .astore 4, 2), (7, .aload 4, 2), (9, .ifnull 19, 3), (12, .aload 4, 2), (14, .iload_n 2, 1), (15, .invokevirtual 213, 3), (18, .ifCond .eq 10, 3), (21, .iload_n 3, 1), (22, .invokestatic 112, 3), (25, .ifCond .ne 5, 3), (28, .iconst (-1), 1), (29, .ireturn, 1), (30, .aload 4, 2), (32, .iload_n 2, 1), (33, .invokevirtual 272, 3), (36, .ifCond .eq 16, 3), (39, .aload 4, 2), (41, .getfield 239, 3), (44, .iload_n 2, 1), (45, .iload_n 3, 1), (46, .invokevirtual 116, 3), (49, .goto 5, 3), (52, .bipush (-11), 2), (54, .ireturn, 1)]
set_option maxRecDepth 100000 in
theorem oX7_active : okT cX7_active tX7_active = true := by decide +kernel
abbrev mX7_active : xM := (yX7_active, cX7_active, 5, (some .int))
set_option maxRecDepth 100000 in
theorem uX7_active : Cond.code yX7_active cX7_active 5 (some .int) ∈ lw_tbl := List.mem_of_getElem? (i := 693) rfl
def tX7_place : xL := [(0, .aload_n 0, 1), (1, .iload_n 1, 1), (2, .invokevirtual 188, 3), (5, .astore 5, 2), (7, .aload 5, 2), (9, .ifnull 19, 3), (12, .aload 5, 2), (14, .iload_n 2, 1), (15, .invokevirtual 213, 3), (18, .ifCond .eq 10, 3), (21, .iload_n 3, 1), (22, .invokestatic 166, 3), (25, .ifCond .ne 9, 3), (28, .aload_n 0, 1), (29, .iconst (-1), 1), (30, .invokevirtual 275, 3), (33, .lreturn, 1), (34, .aload 5, 2), (36, .iload_n 2, 1), (37, .invokevirtual 272, 3), (40, .ifCond .ne 10, 3), (43, .aload_n 0, 1), (44, .bipush (-11), 2), (46, .invokevirtual 275, 3), (49, .lreturn, 1), (50, .iload_n 3, 1), (51, .aload 5, 2), (53, .getfield 198, 3), (56, .if_icmp .eq 10, 3), (59, .aload_n 0, 1), (60, .bipush (-13), 2), (62, .invokevirtual 275, 3), (65, .lreturn, 1), (66, .iload_n 3, 1), (67, .iload 4, 2), (69, .invokestatic 278, 3), (72, .ifCond .ne 10, 3), (75, .aload_n 0, 1), (76, .bipush (-12), 2), (78, .invokevirtual 275, 3), (81, .lreturn, 1), (82, .aload_n 0, 1), (83, .iconst 0, 1), (84, .putfield 281, 3), (87, .aload 5, 2), (89, .getfield 239, 3), (92, .iload_n 2, 1), (93, .iload_n 3, 1), (94, .invokestatic 284, 3), (97, .iload 4, 2), (99, .invokevirtual 287, 3), (102, .iload_n 3, 1), (103, .invokestatic 291, 3), (106, .lreturn, 1)]
set_option maxRecDepth 100000 in
theorem oX7_place : okT cX7_place tX7_place = true := by decide +kernel
abbrev mX7_place : xM := (yX7_place, cX7_place, 6, (some .long))
set_option maxRecDepth 100000 in
theorem uX7_place : Cond.code yX7_place cX7_place 6 (some .long) ∈ lw_tbl := List.mem_of_getElem? (i := 698) rfl
def tX7_open : xL := [(0, .aload_n 0, 1), (1, .iload_n 1, 1), (2, .invokevirtual 188, 3), (5, .astore_n 3, 1), (6, .aload_n 3, 1), (7, .ifnull 18, 3), (10, .iload_n 2, 1), (11, .ifCond .lt 14, 3), (14, .iload_n 2, 1), (15, .aload_n 3, 1), (16, .getfield 253, 3), (19, .getfield 137, 3), (22, .if_icmp .lt 5, 3), (25, .iconst (-1), 1), (26, .ireturn, 1), (27, .aload_n 3, 1), (28, .getfield 253, 3), (31, .getfield 159, 3), (34, .iload_n 2, 1), (35, .iaload, 1), (36, .istore 4, 2), (38, .aload_n 3, 1), (39, .iload 4, 2), (41, .invokevirtual 272, 3), (44, .ifCond .eq 16, 3), (47, .aload_n 3, 1), (48, .iload 4, 2), (50, .aload_n 3, 1), (51, .getfield 239, 3), (54, .invokevirtual 295, 3), (57, .goto 5, 3), (60, .bipush (-11), 2), (62, .ireturn, 1)]
set_option maxRecDepth 100000 in
theorem oX7_open : okT cX7_open tX7_open = true := by decide +kernel
abbrev mX7_open : xM := (yX7_open, cX7_open, 5, (some .int))
set_option maxRecDepth 100000 in
theorem uX7_open : Cond.code yX7_open cX7_open 5 (some .int) ∈ lw_tbl := List.mem_of_getElem? (i := 716) rfl
def tX7_openAll : xL := [(0, .aload_n 0, 1), (1, .iload_n 1, 1), (2, .invokevirtual 188, 3), (5, .astore_n 2, 1), (6, .aload_n 2, 1), (7, .ifnonnull 5, 3), (10, .iconst (-1), 1), (11, .ireturn, 1), (12, .aload_n 2, 1), (13, .invokevirtual 299, 3), (16, .ifCond .eq 14, 3), (19, .aload_n 2, 1), (20, .aload_n 2, 1), (21, .getfield 239, 3), (24, .invokevirtual 302, 3), (27, .goto 5, 3), (30, .bipush (-11), 2), (32, .ireturn, 1)]
set_option maxRecDepth 100000 in
theorem oX7_openAll : okT cX7_openAll tX7_openAll = true := by decide +kernel
abbrev mX7_openAll : xM := (yX7_openAll, cX7_openAll, 3, (some .int))
set_option maxRecDepth 100000 in
theorem uX7_openAll : Cond.code yX7_openAll cX7_openAll 3 (some .int) ∈ lw_tbl := List.mem_of_getElem? (i := 724) rfl
def tX7_agrees : xL := [(0, .aload_n 0, 1), (1, .iload_n 1, 1), (2, .invokevirtual 188, 3), (5, .astore 4, 2), (7, .aload 4, 2), (9, .ifnull 27, 3), (12, .iload_n 2, 1), (13, .ifCond .lt 23, 3), (16, .iload_n 2, 1), (17, .iload_n 3, 1), (18, .if_icmp .gt 18, 3), (21, .iload_n 3, 1), (22, .ldc_w 306, 3), (25, .if_icmp .gt 11, 3), (28, .iload_n 3, 1), (29, .iload_n 2, 1), (30, .isub, 1), (31, .bipush 8, 2), (33, .if_icmp .le 5, 3), (36, .iconst (-1), 1), (37, .ireturn, 1), (38, .iload_n 2, 1), (39, .istore 5, 2), (41, .iload 5, 2), (43, .iload_n 3, 1), (44, .if_icmp .ge 57, 3), (47, .aload 4, 2), (49, .iload 5, 2), (51, .aload_n 0, 1), (52, .getfield 50, 3), (55, .invokevirtual 249, 3), (58, .aload_n 0, 1), (59, .getfield 37, 3), (62, .aload 4, 2), (64, .aload_n 0, 1), (65, .getfield 50, 3), (68, .invokevirtual 264, 3), (71, .aload 4, 2), (73, .aload_n 0, 1), (74, .getfield 50, 3), (77, .invokevirtual 302, 3), (80, .aload 4, 2), (82, .getfield 253, 3), (85, .iload 5, 2), (87, .invokevirtual 162, 3), (90, .if_icmp .eq 5, 3), (93, .iconst 0, 1), (94, .ireturn, 1), (95, .iinc 5 1, 3), (98, .goto (-57), 3), (101, .iconst 1, 1), (102, .ireturn, 1)]
set_option maxRecDepth 100000 in
theorem oX7_agrees : okT cX7_agrees tX7_agrees = true := by decide +kernel
abbrev mX7_agrees : xM := (yX7_agrees, cX7_agrees, 6, (some .int))
set_option maxRecDepth 100000 in
theorem uX7_agrees : Cond.code yX7_agrees cX7_agrees 6 (some .int) ∈ lw_tbl := List.mem_of_getElem? (i := 737) rfl
def tX7_count : xL := [(0, .iload_n 1, 1), (1, .tableswitch 57 0 3 #[31, 39, 44, 49], 31), (32, .aload_n 0, 1), (33, .getfield 10, 3), (36, .getfield 70, 3), (39, .ireturn, 1), (40, .aload_n 0, 1), (41, .getfield 120, 3), (44, .ireturn, 1), (45, .aload_n 0, 1), (46, .getfield 78, 3), (49, .ireturn, 1), (50, .aload_n 0, 1), (51, .getfield 28, 3), (54, .getfield 178, 3), (57, .ireturn, 1), (58, .iconst (-1), 1), (59, .ireturn, 1)]
set_option maxRecDepth 100000 in
theorem oX7_count : okT cX7_count tX7_count = true := by decide +kernel
abbrev mX7_count : xM := (yX7_count, cX7_count, 2, (some .int))
set_option maxRecDepth 100000 in
theorem uX7_count : Cond.code yX7_count cX7_count 2 (some .int) ∈ lw_tbl := List.mem_of_getElem? (i := 742) rfl
def tX7_status : xL := [(0, .aload_n 0, 1), (1, .getfield 281, 3), (4, .ireturn, 1)]
set_option maxRecDepth 100000 in
theorem oX7_status : okT cX7_status tX7_status = true := by decide +kernel
abbrev mX7_status : xM := (yX7_status, cX7_status, 1, (some .int))
set_option maxRecDepth 100000 in
theorem uX7_status : Cond.code yX7_status cX7_status 1 (some .int) ∈ lw_tbl := List.mem_of_getElem? (i := 746) rfl
def tX7_circuitAt : xL := [(0, .iload_n 1, 1), (1, .ifCond .lt 11, 3), (4, .iload_n 1, 1), (5, .aload_n 0, 1), (6, .getfield 120, 3), (9, .if_icmp .lt 7, 3), (12, .aconst_null, 1), (13, .goto 9, 3), (16, .aload_n 0, 1), (17, .getfield 55, 3), (20, .iload_n 1, 1), (21, .aaload, 1), (22, .areturn, 1)]
set_option maxRecDepth 100000 in
theorem oX7_circuitAt : okT cX7_circuitAt tX7_circuitAt = true := by decide +kernel
abbrev mX7_circuitAt : xM := (yX7_circuitAt, cX7_circuitAt, 2, (some (.object "GarbledWires$Circuit")))
set_option maxRecDepth 100000 in
theorem uX7_circuitAt : Cond.code yX7_circuitAt cX7_circuitAt 2 (some (.object "GarbledWires$Circuit")) ∈ lw_tbl := List.mem_of_getElem? (i := 441) rfl
def tX7_garbledAt : xL := [(0, .iload_n 1, 1), (1, .ifCond .lt 11, 3), (4, .iload_n 1, 1), (5, .aload_n 0, 1), (6, .getfield 78, 3), (9, .if_icmp .lt 7, 3), (12, .aconst_null, 1), (13, .goto 9, 3), (16, .aload_n 0, 1), (17, .getfield 61, 3), (20, .iload_n 1, 1), (21, .aaload, 1), (22, .areturn, 1)]
set_option maxRecDepth 100000 in
theorem oX7_garbledAt : okT cX7_garbledAt tX7_garbledAt = true := by decide +kernel
abbrev mX7_garbledAt : xM := (yX7_garbledAt, cX7_garbledAt, 2, (some (.object "GarbledWires$Garbled")))
set_option maxRecDepth 100000 in
theorem uX7_garbledAt : Cond.code yX7_garbledAt cX7_garbledAt 2 (some (.object "GarbledWires$Garbled")) ∈ lw_tbl := List.mem_of_getElem? (i := 592) rfl
def tX7_refusePlace : xL := [(0, .aload_n 0, 1), (1, .iload_n 1, 1), (2, .putfield 281, 3), (5, .lconst 0, 1), (6, .lreturn, 1)]
set_option maxRecDepth 100000 in
theorem oX7_refusePlace : okT cX7_refusePlace tX7_refusePlace = true := by decide +kernel
abbrev mX7_refusePlace : xM := (yX7_refusePlace, cX7_refusePlace, 2, (some .long))
set_option maxRecDepth 100000 in
theorem uX7_refusePlace : Cond.code yX7_refusePlace cX7_refusePlace 2 (some .long) ∈ lw_tbl := List.mem_of_getElem? (i := 702) rfl
def tX7_isByteOfLabel : xL := [(0, .iload_n 0, 1), (1, .ifCond .lt 13, 3), (4, .iload_n 0, 1), (5, .bipush 16, 2), (7, .if_icmp .ge 7, 3), (10, .iconst 1, 1), (11, .goto 4, 3), (14, .iconst 0, 1), (15, .ireturn, 1)]
set_option maxRecDepth 100000 in
theorem oX7_isByteOfLabel : okT cX7_isByteOfLabel tX7_isByteOfLabel = true := by decide +kernel
abbrev mX7_isByteOfLabel : xM := (yX7_isByteOfLabel, cX7_isByteOfLabel, 1, (some .boolean))
set_option maxRecDepth 100000 in
theorem uX7_isByteOfLabel : Cond.code yX7_isByteOfLabel cX7_isByteOfLabel 1 (some .boolean) ∈ lw_tbl := List.mem_of_getElem? (i := 358) rfl
def tX7_isTruth : xL := [(0, .iload_n 0, 1), (1, .ifCond .eq 8, 3), (4, .iload_n 0, 1), (5, .iconst 1, 1), (6, .if_icmp .ne 7, 3), (9, .iconst 1, 1), (10, .goto 4, 3), (13, .iconst 0, 1), (14, .ireturn, 1)]
set_option maxRecDepth 100000 in
theorem oX7_isTruth : okT cX7_isTruth tX7_isTruth = true := by decide +kernel
abbrev mX7_isTruth : xM := (yX7_isTruth, cX7_isTruth, 1, (some .boolean))
set_option maxRecDepth 100000 in
theorem uX7_isTruth : Cond.code yX7_isTruth cX7_isTruth 1 (some .boolean) ∈ lw_tbl := List.mem_of_getElem? (i := 620) rfl
def tX7_isKind : xL := [(0, .iload_n 0, 1), (1, .ifCond .lt 12, 3), (4, .iload_n 0, 1), (5, .iconst 4, 1), (6, .if_icmp .gt 7, 3), (9, .iconst 1, 1), (10, .goto 4, 3), (13, .iconst 0, 1), (14, .ireturn, 1)]
set_option maxRecDepth 100000 in
theorem oX7_isKind : okT cX7_isKind tX7_isKind = true := by decide +kernel
abbrev mX7_isKind : xM := (yX7_isKind, cX7_isKind, 1, (some .boolean))
set_option maxRecDepth 100000 in
theorem uX7_isKind : Cond.code yX7_isKind cX7_isKind 1 (some .boolean) ∈ lw_tbl := List.mem_of_getElem? (i := 471) rfl
def tX7_isPlace : xL := [(0, .iload_n 1, 1), (1, .invokestatic 112, 3), (4, .ifCond .eq 19, 3), (7, .iload_n 1, 1), (8, .iload_n 0, 1), (9, .invokestatic 284, 3), (12, .imul, 1), (13, .invokestatic 112, 3), (16, .ifCond .eq 7, 3), (19, .iconst 1, 1), (20, .goto 4, 3), (23, .iconst 0, 1), (24, .ireturn, 1)]
set_option maxRecDepth 100000 in
theorem oX7_isPlace : okT cX7_isPlace tX7_isPlace = true := by decide +kernel
abbrev mX7_isPlace : xM := (yX7_isPlace, cX7_isPlace, 2, (some .boolean))
set_option maxRecDepth 100000 in
theorem uX7_isPlace : Cond.code yX7_isPlace cX7_isPlace 2 (some .boolean) ∈ lw_tbl := List.mem_of_getElem? (i := 705) rfl
def tX7_bytesOfPlace : xL := [(0, .iload_n 0, 1), (1, .tableswitch 37 0 3 #[31, 33, 33, 35], 31), (32, .iconst 1, 1), (33, .ireturn, 1), (34, .iconst 2, 1), (35, .ireturn, 1), (36, .iconst 4, 1), (37, .ireturn, 1), (38, .bipush 8, 2), (40, .ireturn, 1)]
set_option maxRecDepth 100000 in
theorem oX7_bytesOfPlace : okT cX7_bytesOfPlace tX7_bytesOfPlace = true := by decide +kernel
abbrev mX7_bytesOfPlace : xM := (yX7_bytesOfPlace, cX7_bytesOfPlace, 1, (some .int))
set_option maxRecDepth 100000 in
theorem uX7_bytesOfPlace : Cond.code yX7_bytesOfPlace cX7_bytesOfPlace 1 (some .int) ∈ lw_tbl := List.mem_of_getElem? (i := 708) rfl
def tX7_asKind : xL := [(0, .iload_n 2, 1), (1, .tableswitch 50 0 3 #[31, 36, 41, 46], 31), (32, .lload_n 0, 1), (33, .l2i, 1), (34, .i2b, 1), (35, .i2l, 1), (36, .lreturn, 1), (37, .lload_n 0, 1), (38, .l2i, 1), (39, .i2s, 1), (40, .i2l, 1), (41, .lreturn, 1), (42, .lload_n 0, 1), (43, .l2i, 1), (44, .i2c, 1), (45, .i2l, 1), (46, .lreturn, 1), (47, .lload_n 0, 1), (48, .l2i, 1), (49, .i2l, 1), (50, .lreturn, 1), (51, .lload_n 0, 1), (52, .lreturn, 1)]
set_option maxRecDepth 100000 in
theorem oX7_asKind : okT cX7_asKind tX7_asKind = true := by decide +kernel
abbrev mX7_asKind : xM := (yX7_asKind, cX7_asKind, 3, (some .long))
set_option maxRecDepth 100000 in
theorem uX7_asKind : Cond.code yX7_asKind cX7_asKind 3 (some .long) ∈ lw_tbl := List.mem_of_getElem? (i := 712) rfl
