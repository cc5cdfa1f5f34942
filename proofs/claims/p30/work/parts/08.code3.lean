/-! ===== the code table, 3 ===== -/
def zl_X6_init_0 : List (Nat × zE) := [(0, .aload_n 0, 1, 0, 0, 0), (1, .invokespecial 1, 3, 900, 0, 695), (4, .aload_n 0, 1, 0, 0, 0), (5, .iconst 1, 1, 0, 0, 0), (6, .putfield 7, 3, 6, 5, 701), (9, .aload_n 0, 1, 0, 0, 0), (10, .iconst 1, 1, 0, 0, 0), (11, .putfield 13, 3, 6, 6, 702), (14, .aload_n 0, 1, 0, 0, 0), (15, .bipush 24, 2, 0, 0, 0)]
set_option maxRecDepth 100000 in
theorem zk_X6_init_0 : zl_X6_init_0.all (zgoodB zmt zm_X6_init) = true := by decide +kernel
def zl_X6_init_1 : List (Nat × zE) := [(17, .newarray .int, 2, 0, 0, 0), (19, .putfield 16, 3, 38, 8, 704), (22, .aload_n 0, 1, 0, 0, 0), (23, .bipush 24, 2, 0, 0, 0), (25, .newarray .int, 2, 0, 0, 0), (27, .putfield 20, 3, 38, 9, 705), (30, .aload_n 0, 1, 0, 0, 0), (31, .bipush 24, 2, 0, 0, 0), (33, .newarray .int, 2, 0, 0, 0), (35, .putfield 23, 3, 38, 10, 706)]
set_option maxRecDepth 100000 in
theorem zk_X6_init_1 : zl_X6_init_1.all (zgoodB zmt zm_X6_init) = true := by decide +kernel
def zl_X6_init_2 : List (Nat × zE) := [(38, .aload_n 0, 1, 0, 0, 0), (39, .bipush 8, 2, 0, 0, 0), (41, .newarray .int, 2, 0, 0, 0), (43, .putfield 26, 3, 38, 11, 707), (46, .aload_n 0, 1, 0, 0, 0), (47, .bipush 8, 2, 0, 0, 0), (49, .newarray .int, 2, 0, 0, 0), (51, .putfield 29, 3, 38, 12, 708), (54, .aload_n 0, 1, 0, 0, 0), (55, .iconst 4, 1, 0, 0, 0)]
set_option maxRecDepth 100000 in
theorem zk_X6_init_2 : zl_X6_init_2.all (zgoodB zmt zm_X6_init) = true := by decide +kernel
def zl_X6_init_3 : List (Nat × zE) := [(56, .newarray .int, 2, 0, 0, 0), (58, .dup, 1, 0, 0, 0), (59, .iconst 0, 1, 0, 0, 0), (60, .bipush (-9), 2, 0, 0, 0), (62, .iastore, 1, 0, 0, 0), (63, .dup, 1, 0, 0, 0), (64, .iconst 1, 1, 0, 0, 0), (65, .bipush (-9), 2, 0, 0, 0), (67, .iastore, 1, 0, 0, 0), (68, .dup, 1, 0, 0, 0)]
set_option maxRecDepth 100000 in
theorem zk_X6_init_3 : zl_X6_init_3.all (zgoodB zmt zm_X6_init) = true := by decide +kernel
def zl_X6_init_4 : List (Nat × zE) := [(69, .iconst 2, 1, 0, 0, 0), (70, .bipush (-9), 2, 0, 0, 0), (72, .iastore, 1, 0, 0, 0), (73, .dup, 1, 0, 0, 0), (74, .iconst 3, 1, 0, 0, 0), (75, .bipush (-9), 2, 0, 0, 0), (77, .iastore, 1, 0, 0, 0), (78, .putfield 32, 3, 38, 14, 710), (81, .aload_n 0, 1, 0, 0, 0), (82, .iconst 4, 1, 0, 0, 0)]
set_option maxRecDepth 100000 in
theorem zk_X6_init_4 : zl_X6_init_4.all (zgoodB zmt zm_X6_init) = true := by decide +kernel
def zl_X6_init_5 : List (Nat × zE) := [(83, .newarray .int, 2, 0, 0, 0), (85, .putfield 35, 3, 38, 15, 711), (88, .aload_n 0, 1, 0, 0, 0), (89, .sipush 288, 3, 0, 0, 0), (92, .newarray .int, 2, 0, 0, 0), (94, .putfield 38, 3, 38, 16, 712), (97, .aload_n 0, 1, 0, 0, 0), (98, .bipush 24, 2, 0, 0, 0), (100, .newarray .int, 2, 0, 0, 0), (102, .putfield 41, 3, 38, 17, 713)]
set_option maxRecDepth 100000 in
theorem zk_X6_init_5 : zl_X6_init_5.all (zgoodB zmt zm_X6_init) = true := by decide +kernel
def zl_X6_init_6 : List (Nat × zE) := [(105, .aload_n 0, 1, 0, 0, 0), (106, .bipush 6, 2, 0, 0, 0), (108, .newarray .int, 2, 0, 0, 0), (110, .dup, 1, 0, 0, 0), (111, .iconst 0, 1, 0, 0, 0), (112, .bipush (-9), 2, 0, 0, 0), (114, .iastore, 1, 0, 0, 0), (115, .dup, 1, 0, 0, 0), (116, .iconst 1, 1, 0, 0, 0), (117, .bipush (-9), 2, 0, 0, 0)]
set_option maxRecDepth 100000 in
theorem zk_X6_init_6 : zl_X6_init_6.all (zgoodB zmt zm_X6_init) = true := by decide +kernel
def zl_X6_init_7 : List (Nat × zE) := [(119, .iastore, 1, 0, 0, 0), (120, .dup, 1, 0, 0, 0), (121, .iconst 2, 1, 0, 0, 0), (122, .bipush (-9), 2, 0, 0, 0), (124, .iastore, 1, 0, 0, 0), (125, .dup, 1, 0, 0, 0), (126, .iconst 3, 1, 0, 0, 0), (127, .bipush (-9), 2, 0, 0, 0), (129, .iastore, 1, 0, 0, 0), (130, .dup, 1, 0, 0, 0)]
set_option maxRecDepth 100000 in
theorem zk_X6_init_7 : zl_X6_init_7.all (zgoodB zmt zm_X6_init) = true := by decide +kernel
def zl_X6_init_8 : List (Nat × zE) := [(131, .iconst 4, 1, 0, 0, 0), (132, .bipush (-9), 2, 0, 0, 0), (134, .iastore, 1, 0, 0, 0), (135, .dup, 1, 0, 0, 0), (136, .iconst 5, 1, 0, 0, 0), (137, .bipush (-9), 2, 0, 0, 0), (139, .iastore, 1, 0, 0, 0), (140, .putfield 44, 3, 38, 18, 714), (143, .aload_n 0, 1, 0, 0, 0), (144, .bipush 6, 2, 0, 0, 0)]
set_option maxRecDepth 100000 in
theorem zk_X6_init_8 : zl_X6_init_8.all (zgoodB zmt zm_X6_init) = true := by decide +kernel
def zl_X6_init_9 : List (Nat × zE) := [(146, .newarray .int, 2, 0, 0, 0), (148, .putfield 47, 3, 38, 19, 715), (151, .aload_n 0, 1, 0, 0, 0), (152, .bipush 6, 2, 0, 0, 0), (154, .newarray .int, 2, 0, 0, 0), (156, .putfield 50, 3, 38, 20, 716), (159, .aload_n 0, 1, 0, 0, 0), (160, .bipush 6, 2, 0, 0, 0), (162, .newarray .int, 2, 0, 0, 0), (164, .putfield 53, 3, 38, 21, 717)]
set_option maxRecDepth 100000 in
theorem zk_X6_init_9 : zl_X6_init_9.all (zgoodB zmt zm_X6_init) = true := by decide +kernel
def zl_X6_init_10 : List (Nat × zE) := [(167, .aload_n 0, 1, 0, 0, 0), (168, .sipush 144, 3, 0, 0, 0), (171, .newarray .int, 2, 0, 0, 0), (173, .putfield 56, 3, 38, 22, 718), (176, .aload_n 0, 1, 0, 0, 0), (177, .sipush 144, 3, 0, 0, 0), (180, .newarray .int, 2, 0, 0, 0), (182, .putfield 59, 3, 38, 23, 719), (185, .aload_n 0, 1, 0, 0, 0), (186, .sipush 144, 3, 0, 0, 0)]
set_option maxRecDepth 100000 in
theorem zk_X6_init_10 : zl_X6_init_10.all (zgoodB zmt zm_X6_init) = true := by decide +kernel
def zl_X6_init_11 : List (Nat × zE) := [(189, .newarray .int, 2, 0, 0, 0), (191, .putfield 62, 3, 38, 24, 720), (194, .aload_n 0, 1, 0, 0, 0), (195, .sipush 170, 3, 0, 0, 0), (198, .newarray .int, 2, 0, 0, 0), (200, .putfield 65, 3, 38, 25, 721), (203, .aload_n 0, 1, 0, 0, 0), (204, .sipush 170, 3, 0, 0, 0), (207, .newarray .int, 2, 0, 0, 0), (209, .putfield 68, 3, 38, 26, 722)]
set_option maxRecDepth 100000 in
theorem zk_X6_init_11 : zl_X6_init_11.all (zgoodB zmt zm_X6_init) = true := by decide +kernel
def zl_X6_init_12 : List (Nat × zE) := [(212, .aload_n 0, 1, 0, 0, 0), (213, .sipush 170, 3, 0, 0, 0), (216, .newarray .int, 2, 0, 0, 0), (218, .putfield 71, 3, 38, 27, 723), (221, .aload_n 0, 1, 0, 0, 0), (222, .sipush 170, 3, 0, 0, 0), (225, .newarray .int, 2, 0, 0, 0), (227, .putfield 74, 3, 38, 28, 724), (230, .aload_n 0, 1, 0, 0, 0), (231, .bipush 24, 2, 0, 0, 0)]
set_option maxRecDepth 100000 in
theorem zk_X6_init_12 : zl_X6_init_12.all (zgoodB zmt zm_X6_init) = true := by decide +kernel
def zl_X6_init_13 : List (Nat × zE) := [(233, .newarray .int, 2, 0, 0, 0), (235, .putfield 77, 3, 38, 36, 732), (238, .aload_n 0, 1, 0, 0, 0), (239, .bipush 24, 2, 0, 0, 0), (241, .newarray .int, 2, 0, 0, 0), (243, .putfield 80, 3, 38, 37, 733), (246, .aload_n 0, 1, 0, 0, 0), (247, .bipush 24, 2, 0, 0, 0), (249, .newarray .int, 2, 0, 0, 0), (251, .putfield 83, 3, 38, 38, 734)]
set_option maxRecDepth 100000 in
theorem zk_X6_init_13 : zl_X6_init_13.all (zgoodB zmt zm_X6_init) = true := by decide +kernel
def zl_X6_init_14 : List (Nat × zE) := [(254, .aload_n 0, 1, 0, 0, 0), (255, .bipush 15, 2, 0, 0, 0), (257, .newarray .int, 2, 0, 0, 0), (259, .putfield 86, 3, 38, 39, 735), (262, .return_, 1, 0, 0, 0)]
set_option maxRecDepth 100000 in
theorem zk_X6_init_14 : zl_X6_init_14.all (zgoodB zmt zm_X6_init) = true := by decide +kernel
def zp_X6_init : Nat → Option zE := (ztr 119 (ztr 56 (ztr 17 (zlf zl_X6_init_0) (ztr 38 (zlf zl_X6_init_1) (zlf zl_X6_init_2))) (ztr 83 (ztr 69 (zlf zl_X6_init_3) (zlf zl_X6_init_4)) (ztr 105 (zlf zl_X6_init_5) (zlf zl_X6_init_6)))) (ztr 189 (ztr 146 (ztr 131 (zlf zl_X6_init_7) (zlf zl_X6_init_8)) (ztr 167 (zlf zl_X6_init_9) (zlf zl_X6_init_10))) (ztr 233 (ztr 212 (zlf zl_X6_init_11) (zlf zl_X6_init_12)) (ztr 254 (zlf zl_X6_init_13) (zlf zl_X6_init_14)))))
theorem za_X6_init : zall (zgood zmt zm_X6_init) zp_X6_init := (zall_tr (zall_tr (zall_tr (zall_lf zl_X6_init_0 zk_X6_init_0) (zall_tr (zall_lf zl_X6_init_1 zk_X6_init_1) (zall_lf zl_X6_init_2 zk_X6_init_2))) (zall_tr (zall_tr (zall_lf zl_X6_init_3 zk_X6_init_3) (zall_lf zl_X6_init_4 zk_X6_init_4)) (zall_tr (zall_lf zl_X6_init_5 zk_X6_init_5) (zall_lf zl_X6_init_6 zk_X6_init_6)))) (zall_tr (zall_tr (zall_tr (zall_lf zl_X6_init_7 zk_X6_init_7) (zall_lf zl_X6_init_8 zk_X6_init_8)) (zall_tr (zall_lf zl_X6_init_9 zk_X6_init_9) (zall_lf zl_X6_init_10 zk_X6_init_10))) (zall_tr (zall_tr (zall_lf zl_X6_init_11 zk_X6_init_11) (zall_lf zl_X6_init_12 zk_X6_init_12)) (zall_tr (zall_lf zl_X6_init_13 zk_X6_init_13) (zall_lf zl_X6_init_14 zk_X6_init_14)))))
def zl_X6_fails_0 : List (Nat × zE) := [(0, .aload_n 0, 1, 0, 0, 0), (1, .iload_n 1, 1, 0, 0, 0), (2, .putfield 89, 3, 6, 0, 696), (5, .bipush (-10), 2, 0, 0, 0), (7, .iload_n 1, 1, 0, 0, 0), (8, .isub, 1, 0, 0, 0), (9, .ireturn, 1, 0, 0, 0)]
set_option maxRecDepth 100000 in
theorem zk_X6_fails_0 : zl_X6_fails_0.all (zgoodB zmt zm_X6_fails) = true := by decide +kernel
def zp_X6_fails : Nat → Option zE := (zlf zl_X6_fails_0)
theorem za_X6_fails : zall (zgood zmt zm_X6_fails) zp_X6_fails := (zall_lf zl_X6_fails_0 zk_X6_fails_0)
def zl_X6_lost_0 : List (Nat × zE) := [(0, .aload_n 0, 1, 0, 0, 0), (1, .iload_n 1, 1, 0, 0, 0), (2, .putfield 89, 3, 6, 0, 696), (5, .ldc2_w 92, 3, 9223372036854775808, 0, 837), (8, .lreturn, 1, 0, 0, 0)]
set_option maxRecDepth 100000 in
theorem zk_X6_lost_0 : zl_X6_lost_0.all (zgoodB zmt zm_X6_lost) = true := by decide +kernel
def zp_X6_lost : Nat → Option zE := (zlf zl_X6_lost_0)
theorem za_X6_lost : zall (zgood zmt zm_X6_lost) zp_X6_lost := (zall_lf zl_X6_lost_0 zk_X6_lost_0)
def zl_X6_within_0 : List (Nat × zE) := [(0, .lload_n 0, 1, 0, 0, 0), (1, .lload_n 2, 1, 0, 0, 0), (2, .lcmp, 1, 0, 0, 0), (3, .ifCond .lt 14, 3, 17, 0, 0), (6, .lload_n 0, 1, 0, 0, 0), (7, .lload 4, 2, 0, 0, 0), (9, .lcmp, 1, 0, 0, 0), (10, .ifCond .gt 7, 3, 17, 0, 0), (13, .iconst 1, 1, 0, 0, 0), (14, .goto 4, 3, 18, 0, 0)]
set_option maxRecDepth 100000 in
theorem zk_X6_within_0 : zl_X6_within_0.all (zgoodB zmt zm_X6_within) = true := by decide +kernel
def zl_X6_within_1 : List (Nat × zE) := [(17, .iconst 0, 1, 0, 0, 0), (18, .ireturn, 1, 1, 0, 0)]
set_option maxRecDepth 100000 in
theorem zk_X6_within_1 : zl_X6_within_1.all (zgoodB zmt zm_X6_within) = true := by decide +kernel
def zp_X6_within : Nat → Option zE := (ztr 17 (zlf zl_X6_within_0) (zlf zl_X6_within_1))
theorem za_X6_within : zall (zgood zmt zm_X6_within) zp_X6_within := (zall_tr (zall_lf zl_X6_within_0 zk_X6_within_0) (zall_lf zl_X6_within_1 zk_X6_within_1))
def zl_X6_size_0 : List (Nat × zE) := [(0, .lload_n 0, 1, 0, 0, 0), (1, .lconst 0, 1, 0, 0, 0), (2, .lcmp, 1, 0, 0, 0), (3, .ifCond .ge 8, 3, 11, 0, 0), (6, .lload_n 0, 1, 0, 0, 0), (7, .lneg, 1, 0, 0, 0), (8, .goto 4, 3, 12, 0, 0), (11, .lload_n 0, 1, 0, 0, 0), (12, .lreturn, 1, 0, 0, 0)]
set_option maxRecDepth 100000 in
theorem zk_X6_size_0 : zl_X6_size_0.all (zgoodB zmt zm_X6_size) = true := by decide +kernel
def zp_X6_size : Nat → Option zE := (zlf zl_X6_size_0)
theorem za_X6_size : zall (zgood zmt zm_X6_size) zp_X6_size := (zall_lf zl_X6_size_0 zk_X6_size_0)
def zl_X6_common_0 : List (Nat × zE) := [(0, .lload_n 0, 1, 0, 0, 0), (1, .invokestatic 94, 3, 101, 24609, 1698), (4, .lstore 4, 2, 0, 0, 0), (6, .lload_n 2, 1, 0, 0, 0), (7, .invokestatic 94, 3, 101, 24609, 1698), (10, .lstore 6, 2, 0, 0, 0), (12, .lload 6, 2, 0, 0, 0), (14, .lconst 0, 1, 0, 0, 0), (15, .lcmp, 1, 0, 0, 0), (16, .ifCond .eq 21, 3, 37, 0, 0)]
set_option maxRecDepth 100000 in
theorem zk_X6_common_0 : zl_X6_common_0.all (zgoodB zmt zm_X6_common) = true := by decide +kernel
def zl_X6_common_1 : List (Nat × zE) := [(19, .lload 4, 2, 0, 0, 0), (21, .lload 6, 2, 0, 0, 0), (23, .lrem, 1, 0, 0, 0), (24, .lstore 8, 2, 0, 0, 0), (26, .lload 6, 2, 0, 0, 0), (28, .lstore 4, 2, 0, 0, 0), (30, .lload 8, 2, 0, 0, 0), (32, .lstore 6, 2, 0, 0, 0), (34, .goto (-22), 3, 12, 0, 0), (37, .lload 4, 2, 0, 0, 0)]
set_option maxRecDepth 100000 in
theorem zk_X6_common_1 : zl_X6_common_1.all (zgoodB zmt zm_X6_common) = true := by decide +kernel
def zl_X6_common_2 : List (Nat × zE) := [(39, .lreturn, 1, 0, 0, 0)]
set_option maxRecDepth 100000 in
theorem zk_X6_common_2 : zl_X6_common_2.all (zgoodB zmt zm_X6_common) = true := by decide +kernel
def zp_X6_common : Nat → Option zE := (ztr 19 (zlf zl_X6_common_0) (ztr 39 (zlf zl_X6_common_1) (zlf zl_X6_common_2)))
theorem za_X6_common : zall (zgood zmt zm_X6_common) zp_X6_common := (zall_tr (zall_lf zl_X6_common_0 zk_X6_common_0) (zall_tr (zall_lf zl_X6_common_1 zk_X6_common_1) (zall_lf zl_X6_common_2 zk_X6_common_2)))
def zl_X6_fraction_0 : List (Nat × zE) := [(0, .lload_n 1, 1, 0, 0, 0), (1, .lload_n 3, 1, 0, 0, 0), (2, .invokestatic 98, 3, 102, 24738, 1692), (5, .lstore 5, 2, 0, 0, 0), (7, .aload_n 0, 1, 0, 0, 0), (8, .lload_n 1, 1, 0, 0, 0), (9, .lload 5, 2, 0, 0, 0), (11, .ldiv, 1, 0, 0, 0), (12, .putfield 102, 3, 22, 2, 698), (15, .aload_n 0, 1, 0, 0, 0)]
set_option maxRecDepth 100000 in
theorem zk_X6_fraction_0 : zl_X6_fraction_0.all (zgoodB zmt zm_X6_fraction) = true := by decide +kernel
def zl_X6_fraction_1 : List (Nat × zE) := [(16, .lload_n 3, 1, 0, 0, 0), (17, .lload 5, 2, 0, 0, 0), (19, .ldiv, 1, 0, 0, 0), (20, .putfield 106, 3, 22, 3, 699), (23, .return_, 1, 0, 0, 0)]
set_option maxRecDepth 100000 in
theorem zk_X6_fraction_1 : zl_X6_fraction_1.all (zgoodB zmt zm_X6_fraction) = true := by decide +kernel
def zp_X6_fraction : Nat → Option zE := (ztr 16 (zlf zl_X6_fraction_0) (zlf zl_X6_fraction_1))
theorem za_X6_fraction : zall (zgood zmt zm_X6_fraction) zp_X6_fraction := (zall_tr (zall_lf zl_X6_fraction_0 zk_X6_fraction_0) (zall_lf zl_X6_fraction_1 zk_X6_fraction_1))
def zl_X6_add_0 : List (Nat × zE) := [(0, .aload_n 0, 1, 0, 0, 0), (1, .getfield 106, 3, 6, 3, 699), (4, .lload_n 3, 1, 0, 0, 0), (5, .invokestatic 98, 3, 102, 24738, 1692), (8, .lstore 5, 2, 0, 0, 0), (10, .aload_n 0, 1, 0, 0, 0), (11, .aload_n 0, 1, 0, 0, 0), (12, .getfield 102, 3, 6, 2, 698), (15, .lload_n 3, 1, 0, 0, 0), (16, .lload 5, 2, 0, 0, 0)]
set_option maxRecDepth 100000 in
theorem zk_X6_add_0 : zl_X6_add_0.all (zgoodB zmt zm_X6_add) = true := by decide +kernel
def zl_X6_add_1 : List (Nat × zE) := [(18, .ldiv, 1, 0, 0, 0), (19, .lmul, 1, 0, 0, 0), (20, .lload_n 1, 1, 0, 0, 0), (21, .aload_n 0, 1, 0, 0, 0), (22, .getfield 106, 3, 6, 3, 699), (25, .lload 5, 2, 0, 0, 0), (27, .ldiv, 1, 0, 0, 0), (28, .lmul, 1, 0, 0, 0), (29, .ladd, 1, 0, 0, 0), (30, .aload_n 0, 1, 0, 0, 0)]
set_option maxRecDepth 100000 in
theorem zk_X6_add_1 : zl_X6_add_1.all (zgoodB zmt zm_X6_add) = true := by decide +kernel
def zl_X6_add_2 : List (Nat × zE) := [(31, .getfield 106, 3, 6, 3, 699), (34, .lload 5, 2, 0, 0, 0), (36, .ldiv, 1, 0, 0, 0), (37, .lload_n 3, 1, 0, 0, 0), (38, .lmul, 1, 0, 0, 0), (39, .invokevirtual 109, 3, 103, 24691, 1684), (42, .return_, 1, 0, 0, 0)]
set_option maxRecDepth 100000 in
theorem zk_X6_add_2 : zl_X6_add_2.all (zgoodB zmt zm_X6_add) = true := by decide +kernel
def zp_X6_add : Nat → Option zE := (ztr 18 (zlf zl_X6_add_0) (ztr 31 (zlf zl_X6_add_1) (zlf zl_X6_add_2)))
theorem za_X6_add : zall (zgood zmt zm_X6_add) zp_X6_add := (zall_tr (zall_lf zl_X6_add_0 zk_X6_add_0) (zall_tr (zall_lf zl_X6_add_1 zk_X6_add_1) (zall_lf zl_X6_add_2 zk_X6_add_2)))
def zl_X6_part_0 : List (Nat × zE) := [(0, .iload_n 1, 1, 0, 0, 0), (1, .ifCond .ne 10, 3, 11, 0, 0), (4, .aload_n 0, 1, 0, 0, 0), (5, .getfield 102, 3, 6, 2, 698), (8, .goto 7, 3, 15, 0, 0), (11, .aload_n 0, 1, 0, 0, 0), (12, .getfield 106, 3, 6, 3, 699), (15, .lreturn, 1, 0, 0, 0)]
set_option maxRecDepth 100000 in
theorem zk_X6_part_0 : zl_X6_part_0.all (zgoodB zmt zm_X6_part) = true := by decide +kernel
def zp_X6_part : Nat → Option zE := (zlf zl_X6_part_0)
theorem za_X6_part : zall (zgood zmt zm_X6_part) zp_X6_part := (zall_lf zl_X6_part_0 zk_X6_part_0)
def zl_X6_power_0 : List (Nat × zE) := [(0, .lconst 1, 1, 0, 0, 0), (1, .lstore_n 3, 1, 0, 0, 0), (2, .iconst 0, 1, 0, 0, 0), (3, .istore 5, 2, 0, 0, 0), (5, .iload 5, 2, 0, 0, 0), (7, .iload_n 2, 1, 0, 0, 0), (8, .if_icmp .ge 13, 3, 21, 0, 0), (11, .lload_n 3, 1, 0, 0, 0), (12, .lload_n 0, 1, 0, 0, 0), (13, .lmul, 1, 0, 0, 0)]
set_option maxRecDepth 100000 in
theorem zk_X6_power_0 : zl_X6_power_0.all (zgoodB zmt zm_X6_power) = true := by decide +kernel
def zl_X6_power_1 : List (Nat × zE) := [(14, .lstore_n 3, 1, 0, 0, 0), (15, .iinc 5 1, 3, 0, 0, 0), (18, .goto (-13), 3, 5, 0, 0), (21, .lload_n 3, 1, 0, 0, 0), (22, .lreturn, 1, 0, 0, 0)]
set_option maxRecDepth 100000 in
theorem zk_X6_power_1 : zl_X6_power_1.all (zgoodB zmt zm_X6_power) = true := by decide +kernel
def zp_X6_power : Nat → Option zE := (ztr 14 (zlf zl_X6_power_0) (zlf zl_X6_power_1))
theorem za_X6_power : zall (zgood zmt zm_X6_power) zp_X6_power := (zall_tr (zall_lf zl_X6_power_0 zk_X6_power_0) (zall_lf zl_X6_power_1 zk_X6_power_1))
def zl_X6_factorial_0 : List (Nat × zE) := [(0, .lconst 1, 1, 0, 0, 0), (1, .lstore_n 1, 1, 0, 0, 0), (2, .iconst 2, 1, 0, 0, 0), (3, .istore_n 3, 1, 0, 0, 0), (4, .iload_n 3, 1, 0, 0, 0), (5, .iload_n 0, 1, 0, 0, 0), (6, .if_icmp .gt 14, 3, 20, 0, 0), (9, .lload_n 1, 1, 0, 0, 0), (10, .iload_n 3, 1, 0, 0, 0), (11, .i2l, 1, 0, 0, 0)]
set_option maxRecDepth 100000 in
theorem zk_X6_factorial_0 : zl_X6_factorial_0.all (zgoodB zmt zm_X6_factorial) = true := by decide +kernel
def zl_X6_factorial_1 : List (Nat × zE) := [(12, .lmul, 1, 0, 0, 0), (13, .lstore_n 1, 1, 0, 0, 0), (14, .iinc 3 1, 3, 0, 0, 0), (17, .goto (-13), 3, 4, 0, 0), (20, .lload_n 1, 1, 0, 0, 0), (21, .lreturn, 1, 0, 0, 0)]
set_option maxRecDepth 100000 in
theorem zk_X6_factorial_1 : zl_X6_factorial_1.all (zgoodB zmt zm_X6_factorial) = true := by decide +kernel
def zp_X6_factorial : Nat → Option zE := (ztr 12 (zlf zl_X6_factorial_0) (zlf zl_X6_factorial_1))
theorem za_X6_factorial : zall (zgood zmt zm_X6_factorial) zp_X6_factorial := (zall_tr (zall_lf zl_X6_factorial_0 zk_X6_factorial_0) (zall_lf zl_X6_factorial_1 zk_X6_factorial_1))
def zl_X6_isPlace_0 : List (Nat × zE) := [(0, .iload_n 1, 1, 0, 0, 0), (1, .ifCond .lt 15, 3, 16, 0, 0), (4, .iload_n 1, 1, 0, 0, 0), (5, .aload_n 0, 1, 0, 0, 0), (6, .getfield 113, 3, 6, 7, 703), (9, .if_icmp .ge 7, 3, 16, 0, 0), (12, .iconst 1, 1, 0, 0, 0), (13, .goto 4, 3, 17, 0, 0), (16, .iconst 0, 1, 0, 0, 0), (17, .ireturn, 1, 1, 0, 0)]
set_option maxRecDepth 100000 in
theorem zk_X6_isPlace_0 : zl_X6_isPlace_0.all (zgoodB zmt zm_X6_isPlace) = true := by decide +kernel
def zp_X6_isPlace : Nat → Option zE := (zlf zl_X6_isPlace_0)
theorem za_X6_isPlace : zall (zgood zmt zm_X6_isPlace) zp_X6_isPlace := (zall_lf zl_X6_isPlace_0 zk_X6_isPlace_0)
def zl_X6_isPower_0 : List (Nat × zE) := [(0, .iload_n 0, 1, 0, 0, 0), (1, .ifCond .lt 25, 3, 26, 0, 0), (4, .iload_n 1, 1, 0, 0, 0), (5, .ifCond .lt 21, 3, 26, 0, 0), (8, .iload_n 0, 1, 0, 0, 0), (9, .bipush 6, 2, 0, 0, 0), (11, .if_icmp .gt 15, 3, 26, 0, 0), (14, .iload_n 1, 1, 0, 0, 0), (15, .bipush 6, 2, 0, 0, 0), (17, .iload_n 0, 1, 0, 0, 0)]
set_option maxRecDepth 100000 in
theorem zk_X6_isPower_0 : zl_X6_isPower_0.all (zgoodB zmt zm_X6_isPower) = true := by decide +kernel
def zl_X6_isPower_1 : List (Nat × zE) := [(18, .isub, 1, 0, 0, 0), (19, .if_icmp .gt 7, 3, 26, 0, 0), (22, .iconst 1, 1, 0, 0, 0), (23, .goto 4, 3, 27, 0, 0), (26, .iconst 0, 1, 0, 0, 0), (27, .ireturn, 1, 1, 0, 0)]
set_option maxRecDepth 100000 in
theorem zk_X6_isPower_1 : zl_X6_isPower_1.all (zgoodB zmt zm_X6_isPower) = true := by decide +kernel
def zp_X6_isPower : Nat → Option zE := (ztr 18 (zlf zl_X6_isPower_0) (zlf zl_X6_isPower_1))
theorem za_X6_isPower : zall (zgood zmt zm_X6_isPower) zp_X6_isPower := (zall_tr (zall_lf zl_X6_isPower_0 zk_X6_isPower_0) (zall_lf zl_X6_isPower_1 zk_X6_isPower_1))
def zl_X6_begin_0 : List (Nat × zE) := [(0, .iload_n 1, 1, 0, 0, 0), (1, .i2l, 1, 0, 0, 0), (2, .lconst 0, 1, 0, 0, 0), (3, .ldc2_w 116, 3, 2, 0, 821), (6, .invokestatic 118, 3, 100, 24675, 1644), (9, .ifCond .eq 27, 3, 36, 0, 0), (12, .iload_n 2, 1, 0, 0, 0), (13, .i2l, 1, 0, 0, 0), (14, .lconst 1, 1, 0, 0, 0), (15, .ldc2_w 122, 3, 12, 0, 825)]
set_option maxRecDepth 100000 in
theorem zk_X6_begin_0 : zl_X6_begin_0.all (zgoodB zmt zm_X6_begin) = true := by decide +kernel
def zl_X6_begin_1 : List (Nat × zE) := [(18, .invokestatic 118, 3, 100, 24675, 1644), (21, .ifCond .eq 15, 3, 36, 0, 0), (24, .iload_n 3, 1, 0, 0, 0), (25, .i2l, 1, 0, 0, 0), (26, .lconst 1, 1, 0, 0, 0), (27, .ldc2_w 124, 3, 10000, 0, 826), (30, .invokestatic 118, 3, 100, 24675, 1644), (33, .ifCond .ne 6, 3, 39, 0, 0), (36, .bipush (-2), 2, 0, 0, 0), (38, .ireturn, 1, 0, 0, 0)]
set_option maxRecDepth 100000 in
theorem zk_X6_begin_1 : zl_X6_begin_1.all (zgoodB zmt zm_X6_begin) = true := by decide +kernel
def zl_X6_begin_2 : List (Nat × zE) := [(39, .aload_n 0, 1, 0, 0, 0), (40, .iload_n 1, 1, 0, 0, 0), (41, .putfield 126, 3, 6, 4, 700), (44, .aload_n 0, 1, 0, 0, 0), (45, .iload_n 2, 1, 0, 0, 0), (46, .putfield 7, 3, 6, 5, 701), (49, .aload_n 0, 1, 0, 0, 0), (50, .iload_n 3, 1, 0, 0, 0), (51, .putfield 13, 3, 6, 6, 702), (54, .aload_n 0, 1, 0, 0, 0)]
set_option maxRecDepth 100000 in
theorem zk_X6_begin_2 : zl_X6_begin_2.all (zgoodB zmt zm_X6_begin) = true := by decide +kernel
def zl_X6_begin_3 : List (Nat × zE) := [(55, .iconst 0, 1, 0, 0, 0), (56, .putfield 113, 3, 6, 7, 703), (59, .iconst 1, 1, 0, 0, 0), (60, .ireturn, 1, 0, 0, 0)]
set_option maxRecDepth 100000 in
theorem zk_X6_begin_3 : zl_X6_begin_3.all (zgoodB zmt zm_X6_begin) = true := by decide +kernel
def zp_X6_begin : Nat → Option zE := (ztr 39 (ztr 18 (zlf zl_X6_begin_0) (zlf zl_X6_begin_1)) (ztr 55 (zlf zl_X6_begin_2) (zlf zl_X6_begin_3)))
theorem za_X6_begin : zall (zgood zmt zm_X6_begin) zp_X6_begin := (zall_tr (zall_tr (zall_lf zl_X6_begin_0 zk_X6_begin_0) (zall_lf zl_X6_begin_1 zk_X6_begin_1)) (zall_tr (zall_lf zl_X6_begin_2 zk_X6_begin_2) (zall_lf zl_X6_begin_3 zk_X6_begin_3)))
def zl_X6_momentOf_0 : List (Nat × zE) := [(0, .iload_n 1, 1, 0, 0, 0), (1, .iconst 2, 1, 0, 0, 0), (2, .irem, 1, 0, 0, 0), (3, .iconst 1, 1, 0, 0, 0), (4, .if_icmp .eq 10, 3, 14, 0, 0), (7, .iload_n 2, 1, 0, 0, 0), (8, .iconst 2, 1, 0, 0, 0), (9, .irem, 1, 0, 0, 0), (10, .iconst 1, 1, 0, 0, 0), (11, .if_icmp .ne 7, 3, 18, 0, 0)]
set_option maxRecDepth 100000 in
theorem zk_X6_momentOf_0 : zl_X6_momentOf_0.all (zgoodB zmt zm_X6_momentOf) = true := by decide +kernel
def zl_X6_momentOf_1 : List (Nat × zE) := [(14, .iconst 1, 1, 0, 0, 0), (15, .goto 4, 3, 19, 0, 0), (18, .iconst 0, 1, 0, 0, 0), (19, .istore_n 3, 1, 0, 0, 0), (20, .aload_n 0, 1, 0, 0, 0), (21, .getfield 126, 3, 6, 4, 700), (24, .iconst 1, 1, 0, 0, 0), (25, .if_icmp .eq 16, 3, 41, 0, 0), (28, .iload_n 3, 1, 0, 0, 0), (29, .ifCond .eq 12, 3, 41, 0, 0)]
set_option maxRecDepth 100000 in
theorem zk_X6_momentOf_1 : zl_X6_momentOf_1.all (zgoodB zmt zm_X6_momentOf) = true := by decide +kernel
def zl_X6_momentOf_2 : List (Nat × zE) := [(32, .aload_n 0, 1, 0, 0, 0), (33, .lconst 0, 1, 0, 0, 0), (34, .lconst 1, 1, 0, 0, 0), (35, .invokevirtual 109, 3, 103, 24691, 1684), (38, .goto 66, 3, 104, 0, 0), (41, .aload_n 0, 1, 0, 0, 0), (42, .getfield 126, 3, 6, 4, 700), (45, .ifCond .ne 22, 3, 67, 0, 0), (48, .aload_n 0, 1, 0, 0, 0), (49, .ldc2_w 129, 3, 4, 0, 852)]
set_option maxRecDepth 100000 in
theorem zk_X6_momentOf_2 : zl_X6_momentOf_2.all (zgoodB zmt zm_X6_momentOf) = true := by decide +kernel
def zl_X6_momentOf_3 : List (Nat × zE) := [(52, .iload_n 1, 1, 0, 0, 0), (53, .i2l, 1, 0, 0, 0), (54, .lconst 1, 1, 0, 0, 0), (55, .ladd, 1, 0, 0, 0), (56, .iload_n 2, 1, 0, 0, 0), (57, .i2l, 1, 0, 0, 0), (58, .lconst 1, 1, 0, 0, 0), (59, .ladd, 1, 0, 0, 0), (60, .lmul, 1, 0, 0, 0), (61, .invokevirtual 109, 3, 103, 24691, 1684)]
set_option maxRecDepth 100000 in
theorem zk_X6_momentOf_3 : zl_X6_momentOf_3.all (zgoodB zmt zm_X6_momentOf) = true := by decide +kernel
def zl_X6_momentOf_4 : List (Nat × zE) := [(64, .goto 40, 3, 104, 0, 0), (67, .aload_n 0, 1, 0, 0, 0), (68, .aload_n 0, 1, 0, 0, 0), (69, .getfield 126, 3, 6, 4, 700), (72, .iconst 2, 1, 0, 0, 0), (73, .if_icmp .ne 9, 3, 82, 0, 0), (76, .ldc2_w 129, 3, 4, 0, 852), (79, .goto 4, 3, 83, 0, 0), (82, .lconst 1, 1, 0, 0, 0), (83, .iload_n 1, 1, 0, 0, 0)]
set_option maxRecDepth 100000 in
theorem zk_X6_momentOf_4 : zl_X6_momentOf_4.all (zgoodB zmt zm_X6_momentOf) = true := by decide +kernel
def zl_X6_momentOf_5 : List (Nat × zE) := [(84, .invokestatic 131, 3, 107, 24641, 1706), (87, .lmul, 1, 0, 0, 0), (88, .iload_n 2, 1, 0, 0, 0), (89, .invokestatic 131, 3, 107, 24641, 1706), (92, .lmul, 1, 0, 0, 0), (93, .iload_n 1, 1, 0, 0, 0), (94, .iload_n 2, 1, 0, 0, 0), (95, .iadd, 1, 0, 0, 0), (96, .iconst 2, 1, 0, 0, 0), (97, .iadd, 1, 0, 0, 0)]
set_option maxRecDepth 100000 in
theorem zk_X6_momentOf_5 : zl_X6_momentOf_5.all (zgoodB zmt zm_X6_momentOf) = true := by decide +kernel
def zl_X6_momentOf_6 : List (Nat × zE) := [(98, .invokestatic 131, 3, 107, 24641, 1706), (101, .invokevirtual 109, 3, 103, 24691, 1684), (104, .return_, 1, 0, 0, 0)]
set_option maxRecDepth 100000 in
theorem zk_X6_momentOf_6 : zl_X6_momentOf_6.all (zgoodB zmt zm_X6_momentOf) = true := by decide +kernel
def zp_X6_momentOf : Nat → Option zE := (ztr 52 (ztr 14 (zlf zl_X6_momentOf_0) (ztr 32 (zlf zl_X6_momentOf_1) (zlf zl_X6_momentOf_2))) (ztr 84 (ztr 64 (zlf zl_X6_momentOf_3) (zlf zl_X6_momentOf_4)) (ztr 98 (zlf zl_X6_momentOf_5) (zlf zl_X6_momentOf_6))))
theorem za_X6_momentOf : zall (zgood zmt zm_X6_momentOf) zp_X6_momentOf := (zall_tr (zall_tr (zall_lf zl_X6_momentOf_0 zk_X6_momentOf_0) (zall_tr (zall_lf zl_X6_momentOf_1 zk_X6_momentOf_1) (zall_lf zl_X6_momentOf_2 zk_X6_momentOf_2))) (zall_tr (zall_tr (zall_lf zl_X6_momentOf_3 zk_X6_momentOf_3) (zall_lf zl_X6_momentOf_4 zk_X6_momentOf_4)) (zall_tr (zall_lf zl_X6_momentOf_5 zk_X6_momentOf_5) (zall_lf zl_X6_momentOf_6 zk_X6_momentOf_6))))
def zl_X6_sumOf_0 : List (Nat × zE) := [(0, .lconst 0, 1, 0, 0, 0), (1, .lstore_n 3, 1, 0, 0, 0), (2, .iconst 0, 1, 0, 0, 0), (3, .istore 5, 2, 0, 0, 0), (5, .iload 5, 2, 0, 0, 0), (7, .aload_n 0, 1, 0, 0, 0), (8, .getfield 113, 3, 6, 7, 703), (11, .if_icmp .ge 46, 3, 57, 0, 0), (14, .lload_n 3, 1, 0, 0, 0), (15, .aload_n 0, 1, 0, 0, 0)]
set_option maxRecDepth 100000 in
theorem zk_X6_sumOf_0 : zl_X6_sumOf_0.all (zgoodB zmt zm_X6_sumOf) = true := by decide +kernel
def zl_X6_sumOf_1 : List (Nat × zE) := [(16, .getfield 23, 3, 6, 10, 706), (19, .iload 5, 2, 0, 0, 0), (21, .iaload, 1, 0, 0, 0), (22, .i2l, 1, 0, 0, 0), (23, .aload_n 0, 1, 0, 0, 0), (24, .getfield 16, 3, 6, 8, 704), (27, .iload 5, 2, 0, 0, 0), (29, .iaload, 1, 0, 0, 0), (30, .i2l, 1, 0, 0, 0), (31, .iload_n 1, 1, 0, 0, 0)]
set_option maxRecDepth 100000 in
theorem zk_X6_sumOf_1 : zl_X6_sumOf_1.all (zgoodB zmt zm_X6_sumOf) = true := by decide +kernel
def zl_X6_sumOf_2 : List (Nat × zE) := [(32, .invokestatic 135, 3, 106, 24674, 1736), (35, .lmul, 1, 0, 0, 0), (36, .aload_n 0, 1, 0, 0, 0), (37, .getfield 20, 3, 6, 9, 705), (40, .iload 5, 2, 0, 0, 0), (42, .iaload, 1, 0, 0, 0), (43, .i2l, 1, 0, 0, 0), (44, .iload_n 2, 1, 0, 0, 0), (45, .invokestatic 135, 3, 106, 24674, 1736), (48, .lmul, 1, 0, 0, 0)]
set_option maxRecDepth 100000 in
theorem zk_X6_sumOf_2 : zl_X6_sumOf_2.all (zgoodB zmt zm_X6_sumOf) = true := by decide +kernel
def zl_X6_sumOf_3 : List (Nat × zE) := [(49, .ladd, 1, 0, 0, 0), (50, .lstore_n 3, 1, 0, 0, 0), (51, .iinc 5 1, 3, 0, 0, 0), (54, .goto (-49), 3, 5, 0, 0), (57, .aload_n 0, 1, 0, 0, 0), (58, .lload_n 3, 1, 0, 0, 0), (59, .aload_n 0, 1, 0, 0, 0), (60, .getfield 13, 3, 6, 6, 702), (63, .i2l, 1, 0, 0, 0), (64, .aload_n 0, 1, 0, 0, 0)]
set_option maxRecDepth 100000 in
theorem zk_X6_sumOf_3 : zl_X6_sumOf_3.all (zgoodB zmt zm_X6_sumOf) = true := by decide +kernel
def zl_X6_sumOf_4 : List (Nat × zE) := [(65, .getfield 7, 3, 6, 5, 701), (68, .i2l, 1, 0, 0, 0), (69, .iload_n 1, 1, 0, 0, 0), (70, .iload_n 2, 1, 0, 0, 0), (71, .iadd, 1, 0, 0, 0), (72, .invokestatic 135, 3, 106, 24674, 1736), (75, .lmul, 1, 0, 0, 0), (76, .invokevirtual 109, 3, 103, 24691, 1684), (79, .return_, 1, 0, 0, 0)]
set_option maxRecDepth 100000 in
theorem zk_X6_sumOf_4 : zl_X6_sumOf_4.all (zgoodB zmt zm_X6_sumOf) = true := by decide +kernel
def zp_X6_sumOf : Nat → Option zE := (ztr 32 (ztr 16 (zlf zl_X6_sumOf_0) (zlf zl_X6_sumOf_1)) (ztr 49 (zlf zl_X6_sumOf_2) (ztr 65 (zlf zl_X6_sumOf_3) (zlf zl_X6_sumOf_4))))
theorem za_X6_sumOf : zall (zgood zmt zm_X6_sumOf) zp_X6_sumOf := (zall_tr (zall_tr (zall_lf zl_X6_sumOf_0 zk_X6_sumOf_0) (zall_lf zl_X6_sumOf_1 zk_X6_sumOf_1)) (zall_tr (zall_lf zl_X6_sumOf_2 zk_X6_sumOf_2) (zall_tr (zall_lf zl_X6_sumOf_3 zk_X6_sumOf_3) (zall_lf zl_X6_sumOf_4 zk_X6_sumOf_4))))
def zl_X6_errorOf_0 : List (Nat × zE) := [(0, .aload_n 0, 1, 0, 0, 0), (1, .iload_n 1, 1, 0, 0, 0), (2, .iload_n 2, 1, 0, 0, 0), (3, .invokevirtual 139, 3, 111, 24643, 1676), (6, .aload_n 0, 1, 0, 0, 0), (7, .getfield 102, 3, 6, 2, 698), (10, .lstore_n 3, 1, 0, 0, 0), (11, .aload_n 0, 1, 0, 0, 0), (12, .getfield 106, 3, 6, 3, 699), (15, .lstore 5, 2, 0, 0, 0)]
set_option maxRecDepth 100000 in
theorem zk_X6_errorOf_0 : zl_X6_errorOf_0.all (zgoodB zmt zm_X6_errorOf) = true := by decide +kernel
def zl_X6_errorOf_1 : List (Nat × zE) := [(17, .aload_n 0, 1, 0, 0, 0), (18, .iload_n 1, 1, 0, 0, 0), (19, .iload_n 2, 1, 0, 0, 0), (20, .invokevirtual 143, 3, 112, 24675, 1728), (23, .aload_n 0, 1, 0, 0, 0), (24, .lload_n 3, 1, 0, 0, 0), (25, .lneg, 1, 0, 0, 0), (26, .lload 5, 2, 0, 0, 0), (28, .invokevirtual 146, 3, 104, 24691, 1758), (31, .return_, 1, 0, 0, 0)]
set_option maxRecDepth 100000 in
theorem zk_X6_errorOf_1 : zl_X6_errorOf_1.all (zgoodB zmt zm_X6_errorOf) = true := by decide +kernel
def zp_X6_errorOf : Nat → Option zE := (ztr 17 (zlf zl_X6_errorOf_0) (zlf zl_X6_errorOf_1))
theorem za_X6_errorOf : zall (zgood zmt zm_X6_errorOf) zp_X6_errorOf := (zall_tr (zall_lf zl_X6_errorOf_0 zk_X6_errorOf_0) (zall_lf zl_X6_errorOf_1 zk_X6_errorOf_1))
def zl_X6_isWhich_0 : List (Nat × zE) := [(0, .iload_n 0, 1, 0, 0, 0), (1, .ifCond .eq 8, 3, 9, 0, 0), (4, .iload_n 0, 1, 0, 0, 0), (5, .iconst 1, 1, 0, 0, 0), (6, .if_icmp .ne 7, 3, 13, 0, 0), (9, .iconst 1, 1, 0, 0, 0), (10, .goto 4, 3, 14, 0, 0), (13, .iconst 0, 1, 0, 0, 0), (14, .ireturn, 1, 1, 0, 0)]
set_option maxRecDepth 100000 in
theorem zk_X6_isWhich_0 : zl_X6_isWhich_0.all (zgoodB zmt zm_X6_isWhich) = true := by decide +kernel
def zp_X6_isWhich : Nat → Option zE := (zlf zl_X6_isWhich_0)
theorem za_X6_isWhich : zall (zgood zmt zm_X6_isWhich) zp_X6_isWhich := (zall_lf zl_X6_isWhich_0 zk_X6_isWhich_0)
def zl_X6_moment_0 : List (Nat × zE) := [(0, .iload_n 1, 1, 0, 0, 0), (1, .iload_n 2, 1, 0, 0, 0), (2, .invokestatic 149, 3, 109, 24610, 1662), (5, .ifCond .eq 10, 3, 15, 0, 0), (8, .iload_n 3, 1, 0, 0, 0), (9, .invokestatic 153, 3, 114, 24593, 1668), (12, .ifCond .ne 7, 3, 19, 0, 0), (15, .ldc2_w 92, 3, 9223372036854775808, 0, 837), (18, .lreturn, 1, 0, 0, 0), (19, .aload_n 0, 1, 0, 0, 0)]
set_option maxRecDepth 100000 in
theorem zk_X6_moment_0 : zl_X6_moment_0.all (zgoodB zmt zm_X6_moment) = true := by decide +kernel
def zl_X6_moment_1 : List (Nat × zE) := [(20, .iload_n 1, 1, 0, 0, 0), (21, .iload_n 2, 1, 0, 0, 0), (22, .invokevirtual 139, 3, 111, 24643, 1676), (25, .aload_n 0, 1, 0, 0, 0), (26, .iload_n 3, 1, 0, 0, 0), (27, .invokevirtual 157, 3, 105, 24610, 1712), (30, .lreturn, 1, 0, 0, 0)]
set_option maxRecDepth 100000 in
theorem zk_X6_moment_1 : zl_X6_moment_1.all (zgoodB zmt zm_X6_moment) = true := by decide +kernel
def zp_X6_moment : Nat → Option zE := (ztr 20 (zlf zl_X6_moment_0) (zlf zl_X6_moment_1))
theorem za_X6_moment : zall (zgood zmt zm_X6_moment) zp_X6_moment := (zall_tr (zall_lf zl_X6_moment_0 zk_X6_moment_0) (zall_lf zl_X6_moment_1 zk_X6_moment_1))
def zl_X6_sum_0 : List (Nat × zE) := [(0, .iload_n 1, 1, 0, 0, 0), (1, .iload_n 2, 1, 0, 0, 0), (2, .invokestatic 149, 3, 109, 24610, 1662), (5, .ifCond .eq 10, 3, 15, 0, 0), (8, .iload_n 3, 1, 0, 0, 0), (9, .invokestatic 153, 3, 114, 24593, 1668), (12, .ifCond .ne 7, 3, 19, 0, 0), (15, .ldc2_w 92, 3, 9223372036854775808, 0, 837), (18, .lreturn, 1, 0, 0, 0), (19, .aload_n 0, 1, 0, 0, 0)]
set_option maxRecDepth 100000 in
theorem zk_X6_sum_0 : zl_X6_sum_0.all (zgoodB zmt zm_X6_sum) = true := by decide +kernel
def zl_X6_sum_1 : List (Nat × zE) := [(20, .iload_n 1, 1, 0, 0, 0), (21, .iload_n 2, 1, 0, 0, 0), (22, .invokevirtual 143, 3, 112, 24675, 1728), (25, .aload_n 0, 1, 0, 0, 0), (26, .iload_n 3, 1, 0, 0, 0), (27, .invokevirtual 157, 3, 105, 24610, 1712), (30, .lreturn, 1, 0, 0, 0)]
set_option maxRecDepth 100000 in
theorem zk_X6_sum_1 : zl_X6_sum_1.all (zgoodB zmt zm_X6_sum) = true := by decide +kernel
def zp_X6_sum : Nat → Option zE := (ztr 20 (zlf zl_X6_sum_0) (zlf zl_X6_sum_1))
theorem za_X6_sum : zall (zgood zmt zm_X6_sum) zp_X6_sum := (zall_tr (zall_lf zl_X6_sum_0 zk_X6_sum_0) (zall_lf zl_X6_sum_1 zk_X6_sum_1))
def zl_X6_error_0 : List (Nat × zE) := [(0, .iload_n 1, 1, 0, 0, 0), (1, .iload_n 2, 1, 0, 0, 0), (2, .invokestatic 149, 3, 109, 24610, 1662), (5, .ifCond .eq 10, 3, 15, 0, 0), (8, .iload_n 3, 1, 0, 0, 0), (9, .invokestatic 153, 3, 114, 24593, 1668), (12, .ifCond .ne 7, 3, 19, 0, 0), (15, .ldc2_w 92, 3, 9223372036854775808, 0, 837), (18, .lreturn, 1, 0, 0, 0), (19, .aload_n 0, 1, 0, 0, 0)]
set_option maxRecDepth 100000 in
theorem zk_X6_error_0 : zl_X6_error_0.all (zgoodB zmt zm_X6_error) = true := by decide +kernel
def zl_X6_error_1 : List (Nat × zE) := [(20, .iload_n 1, 1, 0, 0, 0), (21, .iload_n 2, 1, 0, 0, 0), (22, .invokevirtual 160, 3, 113, 24691, 1750), (25, .aload_n 0, 1, 0, 0, 0), (26, .iload_n 3, 1, 0, 0, 0), (27, .invokevirtual 157, 3, 105, 24610, 1712), (30, .lreturn, 1, 0, 0, 0)]
set_option maxRecDepth 100000 in
theorem zk_X6_error_1 : zl_X6_error_1.all (zgoodB zmt zm_X6_error) = true := by decide +kernel
def zp_X6_error : Nat → Option zE := (ztr 20 (zlf zl_X6_error_0) (zlf zl_X6_error_1))
theorem za_X6_error : zall (zgood zmt zm_X6_error) zp_X6_error := (zall_tr (zall_lf zl_X6_error_0 zk_X6_error_0) (zall_lf zl_X6_error_1 zk_X6_error_1))
def zl_X6_take_0 : List (Nat × zE) := [(0, .iconst 0, 1, 0, 0, 0), (1, .istore_n 3, 1, 0, 0, 0), (2, .iload_n 3, 1, 0, 0, 0), (3, .aload_n 0, 1, 0, 0, 0), (4, .getfield 163, 3, 6, 13, 709), (7, .if_icmp .ge 39, 3, 46, 0, 0), (10, .aload_n 0, 1, 0, 0, 0), (11, .getfield 26, 3, 6, 11, 707), (14, .iload_n 3, 1, 0, 0, 0), (15, .iaload, 1, 0, 0, 0)]
set_option maxRecDepth 100000 in
theorem zk_X6_take_0 : zl_X6_take_0.all (zgoodB zmt zm_X6_take) = true := by decide +kernel
def zl_X6_take_1 : List (Nat × zE) := [(16, .iload_n 1, 1, 0, 0, 0), (17, .if_icmp .lt 23, 3, 40, 0, 0), (20, .aload_n 0, 1, 0, 0, 0), (21, .getfield 26, 3, 6, 11, 707), (24, .iload_n 3, 1, 0, 0, 0), (25, .iaload, 1, 0, 0, 0), (26, .iload_n 1, 1, 0, 0, 0), (27, .if_icmp .ne 19, 3, 46, 0, 0), (30, .aload_n 0, 1, 0, 0, 0), (31, .getfield 29, 3, 6, 12, 708)]
set_option maxRecDepth 100000 in
theorem zk_X6_take_1 : zl_X6_take_1.all (zgoodB zmt zm_X6_take) = true := by decide +kernel
def zl_X6_take_2 : List (Nat × zE) := [(34, .iload_n 3, 1, 0, 0, 0), (35, .iaload, 1, 0, 0, 0), (36, .iload_n 2, 1, 0, 0, 0), (37, .if_icmp .ge 9, 3, 46, 0, 0), (40, .iinc 3 1, 3, 0, 0, 0), (43, .goto (-41), 3, 2, 0, 0), (46, .iload_n 3, 1, 0, 0, 0), (47, .aload_n 0, 1, 0, 0, 0), (48, .getfield 163, 3, 6, 13, 709), (51, .if_icmp .ge 24, 3, 75, 0, 0)]
set_option maxRecDepth 100000 in
theorem zk_X6_take_2 : zl_X6_take_2.all (zgoodB zmt zm_X6_take) = true := by decide +kernel
def zl_X6_take_3 : List (Nat × zE) := [(54, .aload_n 0, 1, 0, 0, 0), (55, .getfield 26, 3, 6, 11, 707), (58, .iload_n 3, 1, 0, 0, 0), (59, .iaload, 1, 0, 0, 0), (60, .iload_n 1, 1, 0, 0, 0), (61, .if_icmp .ne 14, 3, 75, 0, 0), (64, .aload_n 0, 1, 0, 0, 0), (65, .getfield 29, 3, 6, 12, 708), (68, .iload_n 3, 1, 0, 0, 0), (69, .iaload, 1, 0, 0, 0)]
set_option maxRecDepth 100000 in
theorem zk_X6_take_3 : zl_X6_take_3.all (zgoodB zmt zm_X6_take) = true := by decide +kernel
def zl_X6_take_4 : List (Nat × zE) := [(70, .iload_n 2, 1, 0, 0, 0), (71, .if_icmp .ne 4, 3, 75, 0, 0), (74, .return_, 1, 0, 0, 0), (75, .aload_n 0, 1, 0, 0, 0), (76, .getfield 163, 3, 6, 13, 709), (79, .istore 4, 2, 0, 0, 0), (81, .iload 4, 2, 0, 0, 0), (83, .iload_n 3, 1, 0, 0, 0), (84, .if_icmp .le 41, 3, 125, 0, 0), (87, .aload_n 0, 1, 0, 0, 0)]
set_option maxRecDepth 100000 in
theorem zk_X6_take_4 : zl_X6_take_4.all (zgoodB zmt zm_X6_take) = true := by decide +kernel
def zl_X6_take_5 : List (Nat × zE) := [(88, .getfield 26, 3, 6, 11, 707), (91, .iload 4, 2, 0, 0, 0), (93, .aload_n 0, 1, 0, 0, 0), (94, .getfield 26, 3, 6, 11, 707), (97, .iload 4, 2, 0, 0, 0), (99, .iconst 1, 1, 0, 0, 0), (100, .isub, 1, 0, 0, 0), (101, .iaload, 1, 0, 0, 0), (102, .iastore, 1, 0, 0, 0), (103, .aload_n 0, 1, 0, 0, 0)]
set_option maxRecDepth 100000 in
theorem zk_X6_take_5 : zl_X6_take_5.all (zgoodB zmt zm_X6_take) = true := by decide +kernel
def zl_X6_take_6 : List (Nat × zE) := [(104, .getfield 29, 3, 6, 12, 708), (107, .iload 4, 2, 0, 0, 0), (109, .aload_n 0, 1, 0, 0, 0), (110, .getfield 29, 3, 6, 12, 708), (113, .iload 4, 2, 0, 0, 0), (115, .iconst 1, 1, 0, 0, 0), (116, .isub, 1, 0, 0, 0), (117, .iaload, 1, 0, 0, 0), (118, .iastore, 1, 0, 0, 0), (119, .iinc 4 (-1), 3, 0, 0, 0)]
set_option maxRecDepth 100000 in
theorem zk_X6_take_6 : zl_X6_take_6.all (zgoodB zmt zm_X6_take) = true := by decide +kernel
def zl_X6_take_7 : List (Nat × zE) := [(122, .goto (-41), 3, 81, 0, 0), (125, .aload_n 0, 1, 0, 0, 0), (126, .getfield 26, 3, 6, 11, 707), (129, .iload_n 3, 1, 0, 0, 0), (130, .iload_n 1, 1, 0, 0, 0), (131, .iastore, 1, 0, 0, 0), (132, .aload_n 0, 1, 0, 0, 0), (133, .getfield 29, 3, 6, 12, 708), (136, .iload_n 3, 1, 0, 0, 0), (137, .iload_n 2, 1, 0, 0, 0)]
set_option maxRecDepth 100000 in
theorem zk_X6_take_7 : zl_X6_take_7.all (zgoodB zmt zm_X6_take) = true := by decide +kernel
def zl_X6_take_8 : List (Nat × zE) := [(138, .iastore, 1, 0, 0, 0), (139, .aload_n 0, 1, 0, 0, 0), (140, .dup, 1, 0, 0, 0), (141, .getfield 163, 3, 6, 13, 709), (144, .iconst 1, 1, 0, 0, 0), (145, .iadd, 1, 0, 0, 0), (146, .putfield 163, 3, 6, 13, 709), (149, .return_, 1, 0, 0, 0)]
set_option maxRecDepth 100000 in
theorem zk_X6_take_8 : zl_X6_take_8.all (zgoodB zmt zm_X6_take) = true := by decide +kernel
def zp_X6_take : Nat → Option zE := (ztr 70 (ztr 34 (ztr 16 (zlf zl_X6_take_0) (zlf zl_X6_take_1)) (ztr 54 (zlf zl_X6_take_2) (zlf zl_X6_take_3))) (ztr 104 (ztr 88 (zlf zl_X6_take_4) (zlf zl_X6_take_5)) (ztr 122 (zlf zl_X6_take_6) (ztr 138 (zlf zl_X6_take_7) (zlf zl_X6_take_8)))))
theorem za_X6_take : zall (zgood zmt zm_X6_take) zp_X6_take := (zall_tr (zall_tr (zall_tr (zall_lf zl_X6_take_0 zk_X6_take_0) (zall_lf zl_X6_take_1 zk_X6_take_1)) (zall_tr (zall_lf zl_X6_take_2 zk_X6_take_2) (zall_lf zl_X6_take_3 zk_X6_take_3))) (zall_tr (zall_tr (zall_lf zl_X6_take_4 zk_X6_take_4) (zall_lf zl_X6_take_5 zk_X6_take_5)) (zall_tr (zall_lf zl_X6_take_6 zk_X6_take_6) (zall_tr (zall_lf zl_X6_take_7 zk_X6_take_7) (zall_lf zl_X6_take_8 zk_X6_take_8)))))
def zl_X6_findOrbit_0 : List (Nat × zE) := [(0, .aload_n 0, 1, 0, 0, 0), (1, .iconst 0, 1, 0, 0, 0), (2, .putfield 163, 3, 6, 13, 709), (5, .aload_n 0, 1, 0, 0, 0), (6, .getfield 126, 3, 6, 4, 700), (9, .iconst 1, 1, 0, 0, 0), (10, .if_icmp .ne 51, 3, 61, 0, 0), (13, .iload_n 3, 1, 0, 0, 0), (14, .iload_n 1, 1, 0, 0, 0), (15, .isub, 1, 0, 0, 0)]
set_option maxRecDepth 100000 in
theorem zk_X6_findOrbit_0 : zl_X6_findOrbit_0.all (zgoodB zmt zm_X6_findOrbit) = true := by decide +kernel
def zl_X6_findOrbit_1 : List (Nat × zE) := [(16, .iload_n 2, 1, 0, 0, 0), (17, .isub, 1, 0, 0, 0), (18, .istore 4, 2, 0, 0, 0), (20, .aload_n 0, 1, 0, 0, 0), (21, .iload_n 1, 1, 0, 0, 0), (22, .iload_n 2, 1, 0, 0, 0), (23, .invokevirtual 166, 3, 118, 24659, 1832), (26, .aload_n 0, 1, 0, 0, 0), (27, .iload_n 2, 1, 0, 0, 0), (28, .iload_n 1, 1, 0, 0, 0)]
set_option maxRecDepth 100000 in
theorem zk_X6_findOrbit_1 : zl_X6_findOrbit_1.all (zgoodB zmt zm_X6_findOrbit) = true := by decide +kernel
def zl_X6_findOrbit_2 : List (Nat × zE) := [(29, .invokevirtual 166, 3, 118, 24659, 1832), (32, .aload_n 0, 1, 0, 0, 0), (33, .iload_n 1, 1, 0, 0, 0), (34, .iload 4, 2, 0, 0, 0), (36, .invokevirtual 166, 3, 118, 24659, 1832), (39, .aload_n 0, 1, 0, 0, 0), (40, .iload 4, 2, 0, 0, 0), (42, .iload_n 1, 1, 0, 0, 0), (43, .invokevirtual 166, 3, 118, 24659, 1832), (46, .aload_n 0, 1, 0, 0, 0)]
set_option maxRecDepth 100000 in
theorem zk_X6_findOrbit_2 : zl_X6_findOrbit_2.all (zgoodB zmt zm_X6_findOrbit) = true := by decide +kernel
def zl_X6_findOrbit_3 : List (Nat × zE) := [(47, .iload_n 2, 1, 0, 0, 0), (48, .iload 4, 2, 0, 0, 0), (50, .invokevirtual 166, 3, 118, 24659, 1832), (53, .aload_n 0, 1, 0, 0, 0), (54, .iload 4, 2, 0, 0, 0), (56, .iload_n 2, 1, 0, 0, 0), (57, .invokevirtual 166, 3, 118, 24659, 1832), (60, .return_, 1, 0, 0, 0), (61, .iconst 0, 1, 0, 0, 0), (62, .istore 4, 2, 0, 0, 0)]
set_option maxRecDepth 100000 in
theorem zk_X6_findOrbit_3 : zl_X6_findOrbit_3.all (zgoodB zmt zm_X6_findOrbit) = true := by decide +kernel
def zl_X6_findOrbit_4 : List (Nat × zE) := [(64, .iload 4, 2, 0, 0, 0), (66, .iconst 4, 1, 0, 0, 0), (67, .if_icmp .ge 54, 3, 121, 0, 0), (70, .iload 4, 2, 0, 0, 0), (72, .iconst 2, 1, 0, 0, 0), (73, .irem, 1, 0, 0, 0), (74, .ifCond .ne 7, 3, 81, 0, 0), (77, .iload_n 1, 1, 0, 0, 0), (78, .goto 5, 3, 83, 0, 0), (81, .iload_n 1, 1, 0, 0, 0)]
set_option maxRecDepth 100000 in
theorem zk_X6_findOrbit_4 : zl_X6_findOrbit_4.all (zgoodB zmt zm_X6_findOrbit) = true := by decide +kernel
def zl_X6_findOrbit_5 : List (Nat × zE) := [(82, .ineg, 1, 0, 0, 0), (83, .istore 5, 2, 0, 0, 0), (85, .iload 4, 2, 0, 0, 0), (87, .iconst 2, 1, 0, 0, 0), (88, .if_icmp .ge 7, 3, 95, 0, 0), (91, .iload_n 2, 1, 0, 0, 0), (92, .goto 5, 3, 97, 0, 0), (95, .iload_n 2, 1, 0, 0, 0), (96, .ineg, 1, 0, 0, 0), (97, .istore 6, 2, 0, 0, 0)]
set_option maxRecDepth 100000 in
theorem zk_X6_findOrbit_5 : zl_X6_findOrbit_5.all (zgoodB zmt zm_X6_findOrbit) = true := by decide +kernel
def zl_X6_findOrbit_6 : List (Nat × zE) := [(99, .aload_n 0, 1, 0, 0, 0), (100, .iload 5, 2, 0, 0, 0), (102, .iload 6, 2, 0, 0, 0), (104, .invokevirtual 166, 3, 118, 24659, 1832), (107, .aload_n 0, 1, 0, 0, 0), (108, .iload 6, 2, 0, 0, 0), (110, .iload 5, 2, 0, 0, 0), (112, .invokevirtual 166, 3, 118, 24659, 1832), (115, .iinc 4 1, 3, 0, 0, 0), (118, .goto (-54), 3, 64, 0, 0)]
set_option maxRecDepth 100000 in
theorem zk_X6_findOrbit_6 : zl_X6_findOrbit_6.all (zgoodB zmt zm_X6_findOrbit) = true := by decide +kernel
def zl_X6_findOrbit_7 : List (Nat × zE) := [(121, .return_, 1, 0, 0, 0)]
set_option maxRecDepth 100000 in
theorem zk_X6_findOrbit_7 : zl_X6_findOrbit_7.all (zgoodB zmt zm_X6_findOrbit) = true := by decide +kernel
def zp_X6_findOrbit : Nat → Option zE := (ztr 64 (ztr 29 (ztr 16 (zlf zl_X6_findOrbit_0) (zlf zl_X6_findOrbit_1)) (ztr 47 (zlf zl_X6_findOrbit_2) (zlf zl_X6_findOrbit_3))) (ztr 99 (ztr 82 (zlf zl_X6_findOrbit_4) (zlf zl_X6_findOrbit_5)) (ztr 121 (zlf zl_X6_findOrbit_6) (zlf zl_X6_findOrbit_7))))
theorem za_X6_findOrbit : zall (zgood zmt zm_X6_findOrbit) zp_X6_findOrbit := (zall_tr (zall_tr (zall_tr (zall_lf zl_X6_findOrbit_0 zk_X6_findOrbit_0) (zall_lf zl_X6_findOrbit_1 zk_X6_findOrbit_1)) (zall_tr (zall_lf zl_X6_findOrbit_2 zk_X6_findOrbit_2) (zall_lf zl_X6_findOrbit_3 zk_X6_findOrbit_3))) (zall_tr (zall_tr (zall_lf zl_X6_findOrbit_4 zk_X6_findOrbit_4) (zall_lf zl_X6_findOrbit_5 zk_X6_findOrbit_5)) (zall_tr (zall_lf zl_X6_findOrbit_6 zk_X6_findOrbit_6) (zall_lf zl_X6_findOrbit_7 zk_X6_findOrbit_7))))
def zl_X6_isIn_0 : List (Nat × zE) := [(0, .aload_n 0, 1, 0, 0, 0), (1, .getfield 126, 3, 6, 4, 700), (4, .lookupswitch 77 #[(0, 28), (1, 56)], 28, 0, 0, 0), (32, .iload_n 1, 1, 0, 0, 0), (33, .i2l, 1, 0, 0, 0), (34, .invokestatic 94, 3, 101, 24609, 1698), (37, .iload_n 3, 1, 0, 0, 0), (38, .i2l, 1, 0, 0, 0), (39, .lcmp, 1, 0, 0, 0), (40, .ifCond .gt 18, 3, 58, 0, 0)]
set_option maxRecDepth 100000 in
theorem zk_X6_isIn_0 : zl_X6_isIn_0.all (zgoodB zmt zm_X6_isIn) = true := by decide +kernel
def zl_X6_isIn_1 : List (Nat × zE) := [(43, .iload_n 2, 1, 0, 0, 0), (44, .i2l, 1, 0, 0, 0), (45, .invokestatic 94, 3, 101, 24609, 1698), (48, .iload_n 3, 1, 0, 0, 0), (49, .i2l, 1, 0, 0, 0), (50, .lcmp, 1, 0, 0, 0), (51, .ifCond .gt 7, 3, 58, 0, 0), (54, .iconst 1, 1, 0, 0, 0), (55, .goto 4, 3, 59, 0, 0), (58, .iconst 0, 1, 0, 0, 0)]
set_option maxRecDepth 100000 in
theorem zk_X6_isIn_1 : zl_X6_isIn_1.all (zgoodB zmt zm_X6_isIn) = true := by decide +kernel
def zl_X6_isIn_2 : List (Nat × zE) := [(59, .ireturn, 1, 1, 0, 0), (60, .iload_n 1, 1, 0, 0, 0), (61, .ifCond .lt 18, 3, 79, 0, 0), (64, .iload_n 2, 1, 0, 0, 0), (65, .ifCond .lt 14, 3, 79, 0, 0), (68, .iload_n 1, 1, 0, 0, 0), (69, .iload_n 2, 1, 0, 0, 0), (70, .iadd, 1, 0, 0, 0), (71, .iload_n 3, 1, 0, 0, 0), (72, .if_icmp .gt 7, 3, 79, 0, 0)]
set_option maxRecDepth 100000 in
theorem zk_X6_isIn_2 : zl_X6_isIn_2.all (zgoodB zmt zm_X6_isIn) = true := by decide +kernel
def zl_X6_isIn_3 : List (Nat × zE) := [(75, .iconst 1, 1, 0, 0, 0), (76, .goto 4, 3, 80, 0, 0), (79, .iconst 0, 1, 0, 0, 0), (80, .ireturn, 1, 1, 0, 0), (81, .iload_n 1, 1, 0, 0, 0), (82, .i2l, 1, 0, 0, 0), (83, .invokestatic 94, 3, 101, 24609, 1698), (86, .iload_n 2, 1, 0, 0, 0), (87, .i2l, 1, 0, 0, 0), (88, .invokestatic 94, 3, 101, 24609, 1698)]
set_option maxRecDepth 100000 in
theorem zk_X6_isIn_3 : zl_X6_isIn_3.all (zgoodB zmt zm_X6_isIn) = true := by decide +kernel
def zl_X6_isIn_4 : List (Nat × zE) := [(91, .ladd, 1, 0, 0, 0), (92, .iload_n 3, 1, 0, 0, 0), (93, .i2l, 1, 0, 0, 0), (94, .lcmp, 1, 0, 0, 0), (95, .ifCond .gt 7, 3, 102, 0, 0), (98, .iconst 1, 1, 0, 0, 0), (99, .goto 4, 3, 103, 0, 0), (102, .iconst 0, 1, 0, 0, 0), (103, .ireturn, 1, 1, 0, 0)]
set_option maxRecDepth 100000 in
theorem zk_X6_isIn_4 : zl_X6_isIn_4.all (zgoodB zmt zm_X6_isIn) = true := by decide +kernel
def zp_X6_isIn : Nat → Option zE := (ztr 59 (ztr 43 (zlf zl_X6_isIn_0) (zlf zl_X6_isIn_1)) (ztr 75 (zlf zl_X6_isIn_2) (ztr 91 (zlf zl_X6_isIn_3) (zlf zl_X6_isIn_4))))
theorem za_X6_isIn : zall (zgood zmt zm_X6_isIn) zp_X6_isIn := (zall_tr (zall_tr (zall_lf zl_X6_isIn_0 zk_X6_isIn_0) (zall_lf zl_X6_isIn_1 zk_X6_isIn_1)) (zall_tr (zall_lf zl_X6_isIn_2 zk_X6_isIn_2) (zall_tr (zall_lf zl_X6_isIn_3 zk_X6_isIn_3) (zall_lf zl_X6_isIn_4 zk_X6_isIn_4))))
def zl_X6_placeAt_0 : List (Nat × zE) := [(0, .iconst 0, 1, 0, 0, 0), (1, .istore_n 3, 1, 0, 0, 0), (2, .iload_n 3, 1, 0, 0, 0), (3, .aload_n 0, 1, 0, 0, 0), (4, .getfield 113, 3, 6, 7, 703), (7, .if_icmp .ge 31, 3, 38, 0, 0), (10, .aload_n 0, 1, 0, 0, 0), (11, .getfield 16, 3, 6, 8, 704), (14, .iload_n 3, 1, 0, 0, 0), (15, .iaload, 1, 0, 0, 0)]
set_option maxRecDepth 100000 in
theorem zk_X6_placeAt_0 : zl_X6_placeAt_0.all (zgoodB zmt zm_X6_placeAt) = true := by decide +kernel
def zl_X6_placeAt_1 : List (Nat × zE) := [(16, .iload_n 1, 1, 0, 0, 0), (17, .if_icmp .ne 15, 3, 32, 0, 0), (20, .aload_n 0, 1, 0, 0, 0), (21, .getfield 20, 3, 6, 9, 705), (24, .iload_n 3, 1, 0, 0, 0), (25, .iaload, 1, 0, 0, 0), (26, .iload_n 2, 1, 0, 0, 0), (27, .if_icmp .ne 5, 3, 32, 0, 0), (30, .iload_n 3, 1, 0, 0, 0), (31, .ireturn, 1, 0, 0, 0)]
set_option maxRecDepth 100000 in
theorem zk_X6_placeAt_1 : zl_X6_placeAt_1.all (zgoodB zmt zm_X6_placeAt) = true := by decide +kernel
def zl_X6_placeAt_2 : List (Nat × zE) := [(32, .iinc 3 1, 3, 0, 0, 0), (35, .goto (-33), 3, 2, 0, 0), (38, .bipush (-9), 2, 0, 0, 0), (40, .ireturn, 1, 0, 0, 0)]
set_option maxRecDepth 100000 in
theorem zk_X6_placeAt_2 : zl_X6_placeAt_2.all (zgoodB zmt zm_X6_placeAt) = true := by decide +kernel
def zp_X6_placeAt : Nat → Option zE := (ztr 16 (zlf zl_X6_placeAt_0) (ztr 32 (zlf zl_X6_placeAt_1) (zlf zl_X6_placeAt_2)))
theorem za_X6_placeAt : zall (zgood zmt zm_X6_placeAt) zp_X6_placeAt := (zall_tr (zall_lf zl_X6_placeAt_0 zk_X6_placeAt_0) (zall_tr (zall_lf zl_X6_placeAt_1 zk_X6_placeAt_1) (zall_lf zl_X6_placeAt_2 zk_X6_placeAt_2)))
def zl_X6_isGrid_0 : List (Nat × zE) := [(0, .iload_n 0, 1, 0, 0, 0), (1, .i2l, 1, 0, 0, 0), (2, .ldc2_w 169, 3, 18446744073709551592, 0, 894), (5, .ldc2_w 171, 3, 24, 0, 895), (8, .invokestatic 118, 3, 100, 24675, 1644), (11, .ifCond .eq 21, 3, 32, 0, 0), (14, .iload_n 1, 1, 0, 0, 0), (15, .i2l, 1, 0, 0, 0), (16, .ldc2_w 169, 3, 18446744073709551592, 0, 894), (19, .ldc2_w 171, 3, 24, 0, 895)]
set_option maxRecDepth 100000 in
theorem zk_X6_isGrid_0 : zl_X6_isGrid_0.all (zgoodB zmt zm_X6_isGrid) = true := by decide +kernel
def zl_X6_isGrid_1 : List (Nat × zE) := [(22, .invokestatic 118, 3, 100, 24675, 1644), (25, .ifCond .eq 7, 3, 32, 0, 0), (28, .iconst 1, 1, 0, 0, 0), (29, .goto 4, 3, 33, 0, 0), (32, .iconst 0, 1, 0, 0, 0), (33, .ireturn, 1, 1, 0, 0)]
set_option maxRecDepth 100000 in
theorem zk_X6_isGrid_1 : zl_X6_isGrid_1.all (zgoodB zmt zm_X6_isGrid) = true := by decide +kernel
def zp_X6_isGrid : Nat → Option zE := (ztr 22 (zlf zl_X6_isGrid_0) (zlf zl_X6_isGrid_1))
theorem za_X6_isGrid : zall (zgood zmt zm_X6_isGrid) zp_X6_isGrid := (zall_tr (zall_lf zl_X6_isGrid_0 zk_X6_isGrid_0) (zall_lf zl_X6_isGrid_1 zk_X6_isGrid_1))
def zl_X6_isWeight_0 : List (Nat × zE) := [(0, .lload_n 0, 1, 0, 0, 0), (1, .ldc2_w 173, 3, 18446744073709541616, 0, 899), (4, .ldc2_w 124, 3, 10000, 0, 826), (7, .invokestatic 118, 3, 100, 24675, 1644), (10, .ireturn, 1, 1, 0, 0)]
set_option maxRecDepth 100000 in
theorem zk_X6_isWeight_0 : zl_X6_isWeight_0.all (zgoodB zmt zm_X6_isWeight) = true := by decide +kernel
def zp_X6_isWeight : Nat → Option zE := (zlf zl_X6_isWeight_0)
theorem za_X6_isWeight : zall (zgood zmt zm_X6_isWeight) zp_X6_isWeight := (zall_lf zl_X6_isWeight_0 zk_X6_isWeight_0)
def zl_X6_against_0 : List (Nat × zE) := [(0, .iload_n 1, 1, 0, 0, 0), (1, .iload_n 2, 1, 0, 0, 0), (2, .invokestatic 175, 3, 122, 24610, 1782), (5, .ifCond .eq 11, 3, 16, 0, 0), (8, .iload_n 3, 1, 0, 0, 0), (9, .i2l, 1, 0, 0, 0), (10, .invokestatic 178, 3, 123, 24609, 1792), (13, .ifCond .ne 6, 3, 19, 0, 0), (16, .bipush (-2), 2, 0, 0, 0), (18, .ireturn, 1, 0, 0, 0)]
set_option maxRecDepth 100000 in
theorem zk_X6_against_0 : zl_X6_against_0.all (zgoodB zmt zm_X6_against) = true := by decide +kernel
def zl_X6_against_1 : List (Nat × zE) := [(19, .aload_n 0, 1, 0, 0, 0), (20, .iload_n 1, 1, 0, 0, 0), (21, .iload_n 2, 1, 0, 0, 0), (22, .invokevirtual 182, 3, 121, 24643, 1800), (25, .istore 4, 2, 0, 0, 0), (27, .iload 4, 2, 0, 0, 0), (29, .bipush (-9), 2, 0, 0, 0), (31, .if_icmp .eq 27, 3, 58, 0, 0), (34, .aload_n 0, 1, 0, 0, 0), (35, .getfield 23, 3, 6, 10, 706)]
set_option maxRecDepth 100000 in
theorem zk_X6_against_1 : zl_X6_against_1.all (zgoodB zmt zm_X6_against) = true := by decide +kernel
def zl_X6_against_2 : List (Nat × zE) := [(38, .iload 4, 2, 0, 0, 0), (40, .iaload, 1, 0, 0, 0), (41, .i2l, 1, 0, 0, 0), (42, .iload_n 3, 1, 0, 0, 0), (43, .i2l, 1, 0, 0, 0), (44, .ladd, 1, 0, 0, 0), (45, .invokestatic 178, 3, 123, 24609, 1792), (48, .ifCond .eq 7, 3, 55, 0, 0), (51, .iconst 0, 1, 0, 0, 0), (52, .goto 5, 3, 57, 0, 0)]
set_option maxRecDepth 100000 in
theorem zk_X6_against_2 : zl_X6_against_2.all (zgoodB zmt zm_X6_against) = true := by decide +kernel
def zl_X6_against_3 : List (Nat × zE) := [(55, .bipush (-2), 2, 0, 0, 0), (57, .ireturn, 1, 0, 0, 0), (58, .aload_n 0, 1, 0, 0, 0), (59, .getfield 113, 3, 6, 7, 703), (62, .bipush 24, 2, 0, 0, 0), (64, .if_icmp .ne 8, 3, 72, 0, 0), (67, .bipush (-4), 2, 0, 0, 0), (69, .goto 4, 3, 73, 0, 0), (72, .iconst 0, 1, 0, 0, 0), (73, .ireturn, 1, 0, 0, 0)]
set_option maxRecDepth 100000 in
theorem zk_X6_against_3 : zl_X6_against_3.all (zgoodB zmt zm_X6_against) = true := by decide +kernel
def zp_X6_against : Nat → Option zE := (ztr 38 (ztr 19 (zlf zl_X6_against_0) (zlf zl_X6_against_1)) (ztr 55 (zlf zl_X6_against_2) (zlf zl_X6_against_3)))
theorem za_X6_against : zall (zgood zmt zm_X6_against) zp_X6_against := (zall_tr (zall_tr (zall_lf zl_X6_against_0 zk_X6_against_0) (zall_lf zl_X6_against_1 zk_X6_against_1)) (zall_tr (zall_lf zl_X6_against_2 zk_X6_against_2) (zall_lf zl_X6_against_3 zk_X6_against_3)))
def zl_X6_lay_0 : List (Nat × zE) := [(0, .aload_n 0, 1, 0, 0, 0), (1, .iload_n 1, 1, 0, 0, 0), (2, .iload_n 2, 1, 0, 0, 0), (3, .invokevirtual 182, 3, 121, 24643, 1800), (6, .istore 4, 2, 0, 0, 0), (8, .iload 4, 2, 0, 0, 0), (10, .bipush (-9), 2, 0, 0, 0), (12, .if_icmp .eq 17, 3, 29, 0, 0), (15, .aload_n 0, 1, 0, 0, 0), (16, .getfield 23, 3, 6, 10, 706)]
set_option maxRecDepth 100000 in
theorem zk_X6_lay_0 : zl_X6_lay_0.all (zgoodB zmt zm_X6_lay) = true := by decide +kernel
def zl_X6_lay_1 : List (Nat × zE) := [(19, .iload 4, 2, 0, 0, 0), (21, .dup2, 1, 0, 0, 0), (22, .iaload, 1, 0, 0, 0), (23, .iload_n 3, 1, 0, 0, 0), (24, .iadd, 1, 0, 0, 0), (25, .iastore, 1, 0, 0, 0), (26, .iload 4, 2, 0, 0, 0), (28, .ireturn, 1, 0, 0, 0), (29, .aload_n 0, 1, 0, 0, 0), (30, .getfield 16, 3, 6, 8, 704)]
set_option maxRecDepth 100000 in
theorem zk_X6_lay_1 : zl_X6_lay_1.all (zgoodB zmt zm_X6_lay) = true := by decide +kernel
def zl_X6_lay_2 : List (Nat × zE) := [(33, .aload_n 0, 1, 0, 0, 0), (34, .getfield 113, 3, 6, 7, 703), (37, .iload_n 1, 1, 0, 0, 0), (38, .iastore, 1, 0, 0, 0), (39, .aload_n 0, 1, 0, 0, 0), (40, .getfield 20, 3, 6, 9, 705), (43, .aload_n 0, 1, 0, 0, 0), (44, .getfield 113, 3, 6, 7, 703), (47, .iload_n 2, 1, 0, 0, 0), (48, .iastore, 1, 0, 0, 0)]
set_option maxRecDepth 100000 in
theorem zk_X6_lay_2 : zl_X6_lay_2.all (zgoodB zmt zm_X6_lay) = true := by decide +kernel
def zl_X6_lay_3 : List (Nat × zE) := [(49, .aload_n 0, 1, 0, 0, 0), (50, .getfield 23, 3, 6, 10, 706), (53, .aload_n 0, 1, 0, 0, 0), (54, .getfield 113, 3, 6, 7, 703), (57, .iload_n 3, 1, 0, 0, 0), (58, .iastore, 1, 0, 0, 0), (59, .aload_n 0, 1, 0, 0, 0), (60, .dup, 1, 0, 0, 0), (61, .getfield 113, 3, 6, 7, 703), (64, .iconst 1, 1, 0, 0, 0)]
set_option maxRecDepth 100000 in
theorem zk_X6_lay_3 : zl_X6_lay_3.all (zgoodB zmt zm_X6_lay) = true := by decide +kernel
def zl_X6_lay_4 : List (Nat × zE) := [(65, .iadd, 1, 0, 0, 0), (66, .putfield 113, 3, 6, 7, 703), (69, .aload_n 0, 1, 0, 0, 0), (70, .getfield 113, 3, 6, 7, 703), (73, .iconst 1, 1, 0, 0, 0), (74, .isub, 1, 0, 0, 0), (75, .ireturn, 1, 0, 0, 0)]
set_option maxRecDepth 100000 in
theorem zk_X6_lay_4 : zl_X6_lay_4.all (zgoodB zmt zm_X6_lay) = true := by decide +kernel
def zp_X6_lay : Nat → Option zE := (ztr 33 (ztr 19 (zlf zl_X6_lay_0) (zlf zl_X6_lay_1)) (ztr 49 (zlf zl_X6_lay_2) (ztr 65 (zlf zl_X6_lay_3) (zlf zl_X6_lay_4))))
theorem za_X6_lay : zall (zgood zmt zm_X6_lay) zp_X6_lay := (zall_tr (zall_tr (zall_lf zl_X6_lay_0 zk_X6_lay_0) (zall_lf zl_X6_lay_1 zk_X6_lay_1)) (zall_tr (zall_lf zl_X6_lay_2 zk_X6_lay_2) (zall_tr (zall_lf zl_X6_lay_3 zk_X6_lay_3) (zall_lf zl_X6_lay_4 zk_X6_lay_4))))
def zl_X6_place_0 : List (Nat × zE) := [(0, .aload_n 0, 1, 0, 0, 0), (1, .iload_n 1, 1, 0, 0, 0), (2, .iload_n 2, 1, 0, 0, 0), (3, .iload_n 3, 1, 0, 0, 0), (4, .invokevirtual 186, 3, 124, 24660, 1774), (7, .istore 4, 2, 0, 0, 0), (9, .iload 4, 2, 0, 0, 0), (11, .ifCond .eq 8, 3, 19, 0, 0), (14, .iload 4, 2, 0, 0, 0), (16, .goto 10, 3, 26, 0, 0)]
set_option maxRecDepth 100000 in
theorem zk_X6_place_0 : zl_X6_place_0.all (zgoodB zmt zm_X6_place) = true := by decide +kernel
def zl_X6_place_1 : List (Nat × zE) := [(19, .aload_n 0, 1, 0, 0, 0), (20, .iload_n 1, 1, 0, 0, 0), (21, .iload_n 2, 1, 0, 0, 0), (22, .iload_n 3, 1, 0, 0, 0), (23, .invokevirtual 190, 3, 125, 24660, 1808), (26, .ireturn, 1, 0, 0, 0)]
set_option maxRecDepth 100000 in
theorem zk_X6_place_1 : zl_X6_place_1.all (zgoodB zmt zm_X6_place) = true := by decide +kernel
def zp_X6_place : Nat → Option zE := (ztr 19 (zlf zl_X6_place_0) (zlf zl_X6_place_1))
theorem za_X6_place : zall (zgood zmt zm_X6_place) zp_X6_place := (zall_tr (zall_lf zl_X6_place_0 zk_X6_place_0) (zall_lf zl_X6_place_1 zk_X6_place_1))
def zl_X6_orbit_0 : List (Nat × zE) := [(0, .iload_n 1, 1, 0, 0, 0), (1, .iload_n 2, 1, 0, 0, 0), (2, .invokestatic 175, 3, 122, 24610, 1782), (5, .ifCond .eq 11, 3, 16, 0, 0), (8, .iload_n 3, 1, 0, 0, 0), (9, .i2l, 1, 0, 0, 0), (10, .invokestatic 178, 3, 123, 24609, 1792), (13, .ifCond .ne 6, 3, 19, 0, 0), (16, .bipush (-2), 2, 0, 0, 0), (18, .ireturn, 1, 0, 0, 0)]
set_option maxRecDepth 100000 in
theorem zk_X6_orbit_0 : zl_X6_orbit_0.all (zgoodB zmt zm_X6_orbit) = true := by decide +kernel
def zl_X6_orbit_1 : List (Nat × zE) := [(19, .aload_n 0, 1, 0, 0, 0), (20, .iload_n 1, 1, 0, 0, 0), (21, .iload_n 2, 1, 0, 0, 0), (22, .aload_n 0, 1, 0, 0, 0), (23, .getfield 7, 3, 6, 5, 701), (26, .invokevirtual 193, 3, 119, 24692, 1824), (29, .iconst 0, 1, 0, 0, 0), (30, .istore 4, 2, 0, 0, 0), (32, .iconst 0, 1, 0, 0, 0), (33, .istore 5, 2, 0, 0, 0)]
set_option maxRecDepth 100000 in
theorem zk_X6_orbit_1 : zl_X6_orbit_1.all (zgoodB zmt zm_X6_orbit) = true := by decide +kernel
def zl_X6_orbit_2 : List (Nat × zE) := [(35, .iload 5, 2, 0, 0, 0), (37, .aload_n 0, 1, 0, 0, 0), (38, .getfield 163, 3, 6, 13, 709), (41, .if_icmp .ge 93, 3, 134, 0, 0), (44, .aload_n 0, 1, 0, 0, 0), (45, .aload_n 0, 1, 0, 0, 0), (46, .getfield 26, 3, 6, 11, 707), (49, .iload 5, 2, 0, 0, 0), (51, .iaload, 1, 0, 0, 0), (52, .aload_n 0, 1, 0, 0, 0)]
set_option maxRecDepth 100000 in
theorem zk_X6_orbit_2 : zl_X6_orbit_2.all (zgoodB zmt zm_X6_orbit) = true := by decide +kernel
def zl_X6_orbit_3 : List (Nat × zE) := [(53, .getfield 29, 3, 6, 12, 708), (56, .iload 5, 2, 0, 0, 0), (58, .iaload, 1, 0, 0, 0), (59, .invokevirtual 182, 3, 121, 24643, 1800), (62, .istore 6, 2, 0, 0, 0), (64, .aload_n 0, 1, 0, 0, 0), (65, .getfield 26, 3, 6, 11, 707), (68, .iload 5, 2, 0, 0, 0), (70, .iaload, 1, 0, 0, 0), (71, .aload_n 0, 1, 0, 0, 0)]
set_option maxRecDepth 100000 in
theorem zk_X6_orbit_3 : zl_X6_orbit_3.all (zgoodB zmt zm_X6_orbit) = true := by decide +kernel
def zl_X6_orbit_4 : List (Nat × zE) := [(72, .getfield 29, 3, 6, 12, 708), (75, .iload 5, 2, 0, 0, 0), (77, .iaload, 1, 0, 0, 0), (78, .invokestatic 175, 3, 122, 24610, 1782), (81, .ifCond .eq 27, 3, 108, 0, 0), (84, .iload 6, 2, 0, 0, 0), (86, .bipush (-9), 2, 0, 0, 0), (88, .if_icmp .eq 23, 3, 111, 0, 0), (91, .aload_n 0, 1, 0, 0, 0), (92, .getfield 23, 3, 6, 10, 706)]
set_option maxRecDepth 100000 in
theorem zk_X6_orbit_4 : zl_X6_orbit_4.all (zgoodB zmt zm_X6_orbit) = true := by decide +kernel
def zl_X6_orbit_5 : List (Nat × zE) := [(95, .iload 6, 2, 0, 0, 0), (97, .iaload, 1, 0, 0, 0), (98, .i2l, 1, 0, 0, 0), (99, .iload_n 3, 1, 0, 0, 0), (100, .i2l, 1, 0, 0, 0), (101, .ladd, 1, 0, 0, 0), (102, .invokestatic 178, 3, 123, 24609, 1792), (105, .ifCond .ne 6, 3, 111, 0, 0), (108, .bipush (-2), 2, 0, 0, 0), (110, .ireturn, 1, 0, 0, 0)]
set_option maxRecDepth 100000 in
theorem zk_X6_orbit_5 : zl_X6_orbit_5.all (zgoodB zmt zm_X6_orbit) = true := by decide +kernel
def zl_X6_orbit_6 : List (Nat × zE) := [(111, .iload 4, 2, 0, 0, 0), (113, .iload 6, 2, 0, 0, 0), (115, .bipush (-9), 2, 0, 0, 0), (117, .if_icmp .ne 7, 3, 124, 0, 0), (120, .iconst 1, 1, 0, 0, 0), (121, .goto 4, 3, 125, 0, 0), (124, .iconst 0, 1, 0, 0, 0), (125, .iadd, 1, 0, 0, 0), (126, .istore 4, 2, 0, 0, 0), (128, .iinc 5 1, 3, 0, 0, 0)]
set_option maxRecDepth 100000 in
theorem zk_X6_orbit_6 : zl_X6_orbit_6.all (zgoodB zmt zm_X6_orbit) = true := by decide +kernel
def zl_X6_orbit_7 : List (Nat × zE) := [(131, .goto (-96), 3, 35, 0, 0), (134, .aload_n 0, 1, 0, 0, 0), (135, .getfield 113, 3, 6, 7, 703), (138, .iload 4, 2, 0, 0, 0), (140, .iadd, 1, 0, 0, 0), (141, .bipush 24, 2, 0, 0, 0), (143, .if_icmp .le 6, 3, 149, 0, 0), (146, .bipush (-4), 2, 0, 0, 0), (148, .ireturn, 1, 0, 0, 0), (149, .iconst 0, 1, 0, 0, 0)]
set_option maxRecDepth 100000 in
theorem zk_X6_orbit_7 : zl_X6_orbit_7.all (zgoodB zmt zm_X6_orbit) = true := by decide +kernel
def zl_X6_orbit_8 : List (Nat × zE) := [(150, .istore 5, 2, 0, 0, 0), (152, .iload 5, 2, 0, 0, 0), (154, .aload_n 0, 1, 0, 0, 0), (155, .getfield 163, 3, 6, 13, 709), (158, .if_icmp .ge 30, 3, 188, 0, 0), (161, .aload_n 0, 1, 0, 0, 0), (162, .aload_n 0, 1, 0, 0, 0), (163, .getfield 26, 3, 6, 11, 707), (166, .iload 5, 2, 0, 0, 0), (168, .iaload, 1, 0, 0, 0)]
set_option maxRecDepth 100000 in
theorem zk_X6_orbit_8 : zl_X6_orbit_8.all (zgoodB zmt zm_X6_orbit) = true := by decide +kernel
def zl_X6_orbit_9 : List (Nat × zE) := [(169, .aload_n 0, 1, 0, 0, 0), (170, .getfield 29, 3, 6, 12, 708), (173, .iload 5, 2, 0, 0, 0), (175, .iaload, 1, 0, 0, 0), (176, .iload_n 3, 1, 0, 0, 0), (177, .invokevirtual 190, 3, 125, 24660, 1808), (180, .istore 6, 2, 0, 0, 0), (182, .iinc 5 1, 3, 0, 0, 0), (185, .goto (-33), 3, 152, 0, 0), (188, .aload_n 0, 1, 0, 0, 0)]
set_option maxRecDepth 100000 in
theorem zk_X6_orbit_9 : zl_X6_orbit_9.all (zgoodB zmt zm_X6_orbit) = true := by decide +kernel
def zl_X6_orbit_10 : List (Nat × zE) := [(189, .getfield 163, 3, 6, 13, 709), (192, .ireturn, 1, 0, 0, 0)]
set_option maxRecDepth 100000 in
theorem zk_X6_orbit_10 : zl_X6_orbit_10.all (zgoodB zmt zm_X6_orbit) = true := by decide +kernel
def zp_X6_orbit : Nat → Option zE := (ztr 95 (ztr 35 (ztr 19 (zlf zl_X6_orbit_0) (zlf zl_X6_orbit_1)) (ztr 53 (zlf zl_X6_orbit_2) (ztr 72 (zlf zl_X6_orbit_3) (zlf zl_X6_orbit_4)))) (ztr 150 (ztr 111 (zlf zl_X6_orbit_5) (ztr 131 (zlf zl_X6_orbit_6) (zlf zl_X6_orbit_7))) (ztr 169 (zlf zl_X6_orbit_8) (ztr 189 (zlf zl_X6_orbit_9) (zlf zl_X6_orbit_10)))))
theorem za_X6_orbit : zall (zgood zmt zm_X6_orbit) zp_X6_orbit := (zall_tr (zall_tr (zall_tr (zall_lf zl_X6_orbit_0 zk_X6_orbit_0) (zall_lf zl_X6_orbit_1 zk_X6_orbit_1)) (zall_tr (zall_lf zl_X6_orbit_2 zk_X6_orbit_2) (zall_tr (zall_lf zl_X6_orbit_3 zk_X6_orbit_3) (zall_lf zl_X6_orbit_4 zk_X6_orbit_4)))) (zall_tr (zall_tr (zall_lf zl_X6_orbit_5 zk_X6_orbit_5) (zall_tr (zall_lf zl_X6_orbit_6 zk_X6_orbit_6) (zall_lf zl_X6_orbit_7 zk_X6_orbit_7))) (zall_tr (zall_lf zl_X6_orbit_8 zk_X6_orbit_8) (zall_tr (zall_lf zl_X6_orbit_9 zk_X6_orbit_9) (zall_lf zl_X6_orbit_10 zk_X6_orbit_10)))))
def zl_X6_places_0 : List (Nat × zE) := [(0, .aload_n 0, 1, 0, 0, 0), (1, .iconst 0, 1, 0, 0, 0), (2, .putfield 89, 3, 6, 0, 696), (5, .iload_n 1, 1, 0, 0, 0), (6, .i2l, 1, 0, 0, 0), (7, .lconst 0, 1, 0, 0, 0), (8, .ldc2_w 197, 3, 3, 0, 924), (11, .invokestatic 118, 3, 100, 24675, 1644), (14, .ifCond .ne 5, 3, 19, 0, 0), (17, .iconst (-1), 1, 0, 0, 0)]
set_option maxRecDepth 100000 in
theorem zk_X6_places_0 : zl_X6_places_0.all (zgoodB zmt zm_X6_places) = true := by decide +kernel
def zl_X6_places_1 : List (Nat × zE) := [(18, .ireturn, 1, 0, 0, 0), (19, .iload_n 2, 1, 0, 0, 0), (20, .i2l, 1, 0, 0, 0), (21, .lconst 0, 1, 0, 0, 0), (22, .ldc2_w 116, 3, 2, 0, 821), (25, .invokestatic 118, 3, 100, 24675, 1644), (28, .ifCond .ne 6, 3, 34, 0, 0), (31, .bipush (-2), 2, 0, 0, 0), (33, .ireturn, 1, 0, 0, 0), (34, .aload_n 0, 1, 0, 0, 0)]
set_option maxRecDepth 100000 in
theorem zk_X6_places_1 : zl_X6_places_1.all (zgoodB zmt zm_X6_places) = true := by decide +kernel
def zl_X6_places_2 : List (Nat × zE) := [(35, .getfield 32, 3, 6, 14, 710), (38, .iload_n 1, 1, 0, 0, 0), (39, .iaload, 1, 0, 0, 0), (40, .bipush (-9), 2, 0, 0, 0), (42, .if_icmp .eq 19, 3, 61, 0, 0), (45, .aload_n 0, 1, 0, 0, 0), (46, .getfield 32, 3, 6, 14, 710), (49, .iload_n 1, 1, 0, 0, 0), (50, .iaload, 1, 0, 0, 0), (51, .iload_n 2, 1, 0, 0, 0)]
set_option maxRecDepth 100000 in
theorem zk_X6_places_2 : zl_X6_places_2.all (zgoodB zmt zm_X6_places) = true := by decide +kernel
def zl_X6_places_3 : List (Nat × zE) := [(52, .if_icmp .eq 9, 3, 61, 0, 0), (55, .aload_n 0, 1, 0, 0, 0), (56, .iconst 2, 1, 0, 0, 0), (57, .invokevirtual 199, 3, 98, 24610, 1850), (60, .ireturn, 1, 0, 0, 0), (61, .aload_n 0, 1, 0, 0, 0), (62, .getfield 32, 3, 6, 14, 710), (65, .iload_n 1, 1, 0, 0, 0), (66, .iaload, 1, 0, 0, 0), (67, .bipush (-9), 2, 0, 0, 0)]
set_option maxRecDepth 100000 in
theorem zk_X6_places_3 : zl_X6_places_3.all (zgoodB zmt zm_X6_places) = true := by decide +kernel
def zl_X6_places_4 : List (Nat × zE) := [(69, .if_icmp .ne 9, 3, 78, 0, 0), (72, .aload_n 0, 1, 0, 0, 0), (73, .iconst 1, 1, 0, 0, 0), (74, .invokevirtual 199, 3, 98, 24610, 1850), (77, .ireturn, 1, 0, 0, 0), (78, .iload 4, 2, 0, 0, 0), (80, .ifCond .ge 9, 3, 89, 0, 0), (83, .aload_n 0, 1, 0, 0, 0), (84, .iconst 4, 1, 0, 0, 0), (85, .invokevirtual 199, 3, 98, 24610, 1850)]
set_option maxRecDepth 100000 in
theorem zk_X6_places_4 : zl_X6_places_4.all (zgoodB zmt zm_X6_places) = true := by decide +kernel
def zl_X6_places_5 : List (Nat × zE) := [(88, .ireturn, 1, 0, 0, 0), (89, .iload_n 3, 1, 0, 0, 0), (90, .ifCond .lt 33, 3, 123, 0, 0), (93, .iload_n 3, 1, 0, 0, 0), (94, .aload_n 0, 1, 0, 0, 0), (95, .getfield 35, 3, 6, 15, 711), (98, .iload_n 1, 1, 0, 0, 0), (99, .iaload, 1, 0, 0, 0), (100, .if_icmp .gt 23, 3, 123, 0, 0), (103, .ldc2_w 197, 3, 3, 0, 924)]
set_option maxRecDepth 100000 in
theorem zk_X6_places_5 : zl_X6_places_5.all (zgoodB zmt zm_X6_places) = true := by decide +kernel
def zl_X6_places_6 : List (Nat × zE) := [(106, .iload 4, 2, 0, 0, 0), (108, .i2l, 1, 0, 0, 0), (109, .lmul, 1, 0, 0, 0), (110, .aload_n 0, 1, 0, 0, 0), (111, .getfield 35, 3, 6, 15, 711), (114, .iload_n 1, 1, 0, 0, 0), (115, .iaload, 1, 0, 0, 0), (116, .iload_n 3, 1, 0, 0, 0), (117, .isub, 1, 0, 0, 0), (118, .i2l, 1, 0, 0, 0)]
set_option maxRecDepth 100000 in
theorem zk_X6_places_6 : zl_X6_places_6.all (zgoodB zmt zm_X6_places) = true := by decide +kernel
def zl_X6_places_7 : List (Nat × zE) := [(119, .lcmp, 1, 0, 0, 0), (120, .ifCond .le 9, 3, 129, 0, 0), (123, .aload_n 0, 1, 0, 0, 0), (124, .iconst 3, 1, 0, 0, 0), (125, .invokevirtual 199, 3, 98, 24610, 1850), (128, .ireturn, 1, 0, 0, 0), (129, .aload_n 0, 1, 0, 0, 0), (130, .getfield 113, 3, 6, 7, 703), (133, .istore 5, 2, 0, 0, 0), (135, .iconst 0, 1, 0, 0, 0)]
set_option maxRecDepth 100000 in
theorem zk_X6_places_7 : zl_X6_places_7.all (zgoodB zmt zm_X6_places) = true := by decide +kernel
def zl_X6_places_8 : List (Nat × zE) := [(136, .istore 6, 2, 0, 0, 0), (138, .iload 6, 2, 0, 0, 0), (140, .iload 5, 2, 0, 0, 0), (142, .if_icmp .ge 23, 3, 165, 0, 0), (145, .aload_n 0, 1, 0, 0, 0), (146, .getfield 41, 3, 6, 17, 713), (149, .iload 6, 2, 0, 0, 0), (151, .aload_n 0, 1, 0, 0, 0), (152, .getfield 23, 3, 6, 10, 706), (155, .iload 6, 2, 0, 0, 0)]
set_option maxRecDepth 100000 in
theorem zk_X6_places_8 : zl_X6_places_8.all (zgoodB zmt zm_X6_places) = true := by decide +kernel
def zl_X6_places_9 : List (Nat × zE) := [(157, .iaload, 1, 0, 0, 0), (158, .iastore, 1, 0, 0, 0), (159, .iinc 6 1, 3, 0, 0, 0), (162, .goto (-24), 3, 138, 0, 0), (165, .iconst 0, 1, 0, 0, 0), (166, .istore 6, 2, 0, 0, 0), (168, .iload 6, 2, 0, 0, 0), (170, .iload 4, 2, 0, 0, 0), (172, .if_icmp .ge 128, 3, 300, 0, 0), (175, .bipush 72, 2, 0, 0, 0)]
set_option maxRecDepth 100000 in
theorem zk_X6_places_9 : zl_X6_places_9.all (zgoodB zmt zm_X6_places) = true := by decide +kernel
def zl_X6_places_10 : List (Nat × zE) := [(177, .iload_n 1, 1, 0, 0, 0), (178, .imul, 1, 0, 0, 0), (179, .iload_n 3, 1, 0, 0, 0), (180, .iadd, 1, 0, 0, 0), (181, .iconst 3, 1, 0, 0, 0), (182, .iload 6, 2, 0, 0, 0), (184, .imul, 1, 0, 0, 0), (185, .iadd, 1, 0, 0, 0), (186, .istore 7, 2, 0, 0, 0), (188, .aload_n 0, 1, 0, 0, 0)]
set_option maxRecDepth 100000 in
theorem zk_X6_places_10 : zl_X6_places_10.all (zgoodB zmt zm_X6_places) = true := by decide +kernel
def zl_X6_places_11 : List (Nat × zE) := [(189, .aload_n 0, 1, 0, 0, 0), (190, .getfield 38, 3, 6, 16, 712), (193, .iload 7, 2, 0, 0, 0), (195, .iaload, 1, 0, 0, 0), (196, .aload_n 0, 1, 0, 0, 0), (197, .getfield 38, 3, 6, 16, 712), (200, .iload 7, 2, 0, 0, 0), (202, .iconst 1, 1, 0, 0, 0), (203, .iadd, 1, 0, 0, 0), (204, .iaload, 1, 0, 0, 0)]
set_option maxRecDepth 100000 in
theorem zk_X6_places_11 : zl_X6_places_11.all (zgoodB zmt zm_X6_places) = true := by decide +kernel
def zl_X6_places_12 : List (Nat × zE) := [(205, .aload_n 0, 1, 0, 0, 0), (206, .getfield 38, 3, 6, 16, 712), (209, .iload 7, 2, 0, 0, 0), (211, .iconst 2, 1, 0, 0, 0), (212, .iadd, 1, 0, 0, 0), (213, .iaload, 1, 0, 0, 0), (214, .invokevirtual 186, 3, 124, 24660, 1774), (217, .istore 8, 2, 0, 0, 0), (219, .iload 8, 2, 0, 0, 0), (221, .ifCond .eq 42, 3, 263, 0, 0)]
set_option maxRecDepth 100000 in
theorem zk_X6_places_12 : zl_X6_places_12.all (zgoodB zmt zm_X6_places) = true := by decide +kernel
def zl_X6_places_13 : List (Nat × zE) := [(224, .aload_n 0, 1, 0, 0, 0), (225, .iload 5, 2, 0, 0, 0), (227, .putfield 113, 3, 6, 7, 703), (230, .iconst 0, 1, 0, 0, 0), (231, .istore 9, 2, 0, 0, 0), (233, .iload 9, 2, 0, 0, 0), (235, .iload 5, 2, 0, 0, 0), (237, .if_icmp .ge 23, 3, 260, 0, 0), (240, .aload_n 0, 1, 0, 0, 0), (241, .getfield 23, 3, 6, 10, 706)]
set_option maxRecDepth 100000 in
theorem zk_X6_places_13 : zl_X6_places_13.all (zgoodB zmt zm_X6_places) = true := by decide +kernel
def zl_X6_places_14 : List (Nat × zE) := [(244, .iload 9, 2, 0, 0, 0), (246, .aload_n 0, 1, 0, 0, 0), (247, .getfield 41, 3, 6, 17, 713), (250, .iload 9, 2, 0, 0, 0), (252, .iaload, 1, 0, 0, 0), (253, .iastore, 1, 0, 0, 0), (254, .iinc 9 1, 3, 0, 0, 0), (257, .goto (-24), 3, 233, 0, 0), (260, .iload 8, 2, 0, 0, 0), (262, .ireturn, 1, 0, 0, 0)]
set_option maxRecDepth 100000 in
theorem zk_X6_places_14 : zl_X6_places_14.all (zgoodB zmt zm_X6_places) = true := by decide +kernel
def zl_X6_places_15 : List (Nat × zE) := [(263, .aload_n 0, 1, 0, 0, 0), (264, .aload_n 0, 1, 0, 0, 0), (265, .getfield 38, 3, 6, 16, 712), (268, .iload 7, 2, 0, 0, 0), (270, .iaload, 1, 0, 0, 0), (271, .aload_n 0, 1, 0, 0, 0), (272, .getfield 38, 3, 6, 16, 712), (275, .iload 7, 2, 0, 0, 0), (277, .iconst 1, 1, 0, 0, 0), (278, .iadd, 1, 0, 0, 0)]
set_option maxRecDepth 100000 in
theorem zk_X6_places_15 : zl_X6_places_15.all (zgoodB zmt zm_X6_places) = true := by decide +kernel
def zl_X6_places_16 : List (Nat × zE) := [(279, .iaload, 1, 0, 0, 0), (280, .aload_n 0, 1, 0, 0, 0), (281, .getfield 38, 3, 6, 16, 712), (284, .iload 7, 2, 0, 0, 0), (286, .iconst 2, 1, 0, 0, 0), (287, .iadd, 1, 0, 0, 0), (288, .iaload, 1, 0, 0, 0), (289, .invokevirtual 190, 3, 125, 24660, 1808), (292, .istore 9, 2, 0, 0, 0), (294, .iinc 6 1, 3, 0, 0, 0)]
set_option maxRecDepth 100000 in
theorem zk_X6_places_16 : zl_X6_places_16.all (zgoodB zmt zm_X6_places) = true := by decide +kernel
def zl_X6_places_17 : List (Nat × zE) := [(297, .goto (-129), 3, 168, 0, 0), (300, .aload_n 0, 1, 0, 0, 0), (301, .getfield 113, 3, 6, 7, 703), (304, .ireturn, 1, 0, 0, 0)]
set_option maxRecDepth 100000 in
theorem zk_X6_places_17 : zl_X6_places_17.all (zgoodB zmt zm_X6_places) = true := by decide +kernel
def zp_X6_places : Nat → Option zE := (ztr 157 (ztr 69 (ztr 35 (ztr 18 (zlf zl_X6_places_0) (zlf zl_X6_places_1)) (ztr 52 (zlf zl_X6_places_2) (zlf zl_X6_places_3))) (ztr 106 (ztr 88 (zlf zl_X6_places_4) (zlf zl_X6_places_5)) (ztr 119 (zlf zl_X6_places_6) (ztr 136 (zlf zl_X6_places_7) (zlf zl_X6_places_8))))) (ztr 224 (ztr 189 (ztr 177 (zlf zl_X6_places_9) (zlf zl_X6_places_10)) (ztr 205 (zlf zl_X6_places_11) (zlf zl_X6_places_12))) (ztr 263 (ztr 244 (zlf zl_X6_places_13) (zlf zl_X6_places_14)) (ztr 279 (zlf zl_X6_places_15) (ztr 297 (zlf zl_X6_places_16) (zlf zl_X6_places_17))))))
theorem za_X6_places : zall (zgood zmt zm_X6_places) zp_X6_places := (zall_tr (zall_tr (zall_tr (zall_tr (zall_lf zl_X6_places_0 zk_X6_places_0) (zall_lf zl_X6_places_1 zk_X6_places_1)) (zall_tr (zall_lf zl_X6_places_2 zk_X6_places_2) (zall_lf zl_X6_places_3 zk_X6_places_3))) (zall_tr (zall_tr (zall_lf zl_X6_places_4 zk_X6_places_4) (zall_lf zl_X6_places_5 zk_X6_places_5)) (zall_tr (zall_lf zl_X6_places_6 zk_X6_places_6) (zall_tr (zall_lf zl_X6_places_7 zk_X6_places_7) (zall_lf zl_X6_places_8 zk_X6_places_8))))) (zall_tr (zall_tr (zall_tr (zall_lf zl_X6_places_9 zk_X6_places_9) (zall_lf zl_X6_places_10 zk_X6_places_10)) (zall_tr (zall_lf zl_X6_places_11 zk_X6_places_11) (zall_lf zl_X6_places_12 zk_X6_places_12))) (zall_tr (zall_tr (zall_lf zl_X6_places_13 zk_X6_places_13) (zall_lf zl_X6_places_14 zk_X6_places_14)) (zall_tr (zall_lf zl_X6_places_15 zk_X6_places_15) (zall_tr (zall_lf zl_X6_places_16 zk_X6_places_16) (zall_lf zl_X6_places_17 zk_X6_places_17))))))
