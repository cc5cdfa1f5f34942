/-! ===== the code table, 4 ===== -/
def zl_X6_drop_0 : List (Nat × zE) := [(0, .aload_n 0, 1, 0, 0, 0), (1, .iload_n 1, 1, 0, 0, 0), (2, .invokevirtual 203, 3, 108, 24610, 1866), (5, .ifCond .ne 5, 3, 10, 0, 0), (8, .iconst (-1), 1, 0, 0, 0), (9, .ireturn, 1, 0, 0, 0), (10, .aload_n 0, 1, 0, 0, 0), (11, .dup, 1, 0, 0, 0), (12, .getfield 113, 3, 6, 7, 703), (15, .iconst 1, 1, 0, 0, 0)]
set_option maxRecDepth 100000 in
theorem zk_X6_drop_0 : zl_X6_drop_0.all (zgoodB zmt zm_X6_drop) = true := by decide +kernel
def zl_X6_drop_1 : List (Nat × zE) := [(16, .isub, 1, 0, 0, 0), (17, .putfield 113, 3, 6, 7, 703), (20, .iload_n 1, 1, 0, 0, 0), (21, .istore_n 2, 1, 0, 0, 0), (22, .iload_n 2, 1, 0, 0, 0), (23, .aload_n 0, 1, 0, 0, 0), (24, .getfield 113, 3, 6, 7, 703), (27, .if_icmp .ge 51, 3, 78, 0, 0), (30, .aload_n 0, 1, 0, 0, 0), (31, .getfield 16, 3, 6, 8, 704)]
set_option maxRecDepth 100000 in
theorem zk_X6_drop_1 : zl_X6_drop_1.all (zgoodB zmt zm_X6_drop) = true := by decide +kernel
def zl_X6_drop_2 : List (Nat × zE) := [(34, .iload_n 2, 1, 0, 0, 0), (35, .aload_n 0, 1, 0, 0, 0), (36, .getfield 16, 3, 6, 8, 704), (39, .iload_n 2, 1, 0, 0, 0), (40, .iconst 1, 1, 0, 0, 0), (41, .iadd, 1, 0, 0, 0), (42, .iaload, 1, 0, 0, 0), (43, .iastore, 1, 0, 0, 0), (44, .aload_n 0, 1, 0, 0, 0), (45, .getfield 20, 3, 6, 9, 705)]
set_option maxRecDepth 100000 in
theorem zk_X6_drop_2 : zl_X6_drop_2.all (zgoodB zmt zm_X6_drop) = true := by decide +kernel
def zl_X6_drop_3 : List (Nat × zE) := [(48, .iload_n 2, 1, 0, 0, 0), (49, .aload_n 0, 1, 0, 0, 0), (50, .getfield 20, 3, 6, 9, 705), (53, .iload_n 2, 1, 0, 0, 0), (54, .iconst 1, 1, 0, 0, 0), (55, .iadd, 1, 0, 0, 0), (56, .iaload, 1, 0, 0, 0), (57, .iastore, 1, 0, 0, 0), (58, .aload_n 0, 1, 0, 0, 0), (59, .getfield 23, 3, 6, 10, 706)]
set_option maxRecDepth 100000 in
theorem zk_X6_drop_3 : zl_X6_drop_3.all (zgoodB zmt zm_X6_drop) = true := by decide +kernel
def zl_X6_drop_4 : List (Nat × zE) := [(62, .iload_n 2, 1, 0, 0, 0), (63, .aload_n 0, 1, 0, 0, 0), (64, .getfield 23, 3, 6, 10, 706), (67, .iload_n 2, 1, 0, 0, 0), (68, .iconst 1, 1, 0, 0, 0), (69, .iadd, 1, 0, 0, 0), (70, .iaload, 1, 0, 0, 0), (71, .iastore, 1, 0, 0, 0), (72, .iinc 2 1, 3, 0, 0, 0), (75, .goto (-53), 3, 22, 0, 0)]
set_option maxRecDepth 100000 in
theorem zk_X6_drop_4 : zl_X6_drop_4.all (zgoodB zmt zm_X6_drop) = true := by decide +kernel
def zl_X6_drop_5 : List (Nat × zE) := [(78, .aload_n 0, 1, 0, 0, 0), (79, .getfield 113, 3, 6, 7, 703), (82, .ireturn, 1, 0, 0, 0)]
set_option maxRecDepth 100000 in
theorem zk_X6_drop_5 : zl_X6_drop_5.all (zgoodB zmt zm_X6_drop) = true := by decide +kernel
def zp_X6_drop : Nat → Option zE := (ztr 48 (ztr 16 (zlf zl_X6_drop_0) (ztr 34 (zlf zl_X6_drop_1) (zlf zl_X6_drop_2))) (ztr 62 (zlf zl_X6_drop_3) (ztr 78 (zlf zl_X6_drop_4) (zlf zl_X6_drop_5))))
theorem za_X6_drop : zall (zgood zmt zm_X6_drop) zp_X6_drop := (zall_tr (zall_tr (zall_lf zl_X6_drop_0 zk_X6_drop_0) (zall_tr (zall_lf zl_X6_drop_1 zk_X6_drop_1) (zall_lf zl_X6_drop_2 zk_X6_drop_2))) (zall_tr (zall_lf zl_X6_drop_3 zk_X6_drop_3) (zall_tr (zall_lf zl_X6_drop_4 zk_X6_drop_4) (zall_lf zl_X6_drop_5 zk_X6_drop_5))))
def zl_X6_orbitSize_0 : List (Nat × zE) := [(0, .aload_n 0, 1, 0, 0, 0), (1, .aload_n 0, 1, 0, 0, 0), (2, .getfield 16, 3, 6, 8, 704), (5, .iload_n 1, 1, 0, 0, 0), (6, .iaload, 1, 0, 0, 0), (7, .aload_n 0, 1, 0, 0, 0), (8, .getfield 20, 3, 6, 9, 705), (11, .iload_n 1, 1, 0, 0, 0), (12, .iaload, 1, 0, 0, 0), (13, .aload_n 0, 1, 0, 0, 0)]
set_option maxRecDepth 100000 in
theorem zk_X6_orbitSize_0 : zl_X6_orbitSize_0.all (zgoodB zmt zm_X6_orbitSize) = true := by decide +kernel
def zl_X6_orbitSize_1 : List (Nat × zE) := [(14, .getfield 7, 3, 6, 5, 701), (17, .invokevirtual 193, 3, 119, 24692, 1824), (20, .aload_n 0, 1, 0, 0, 0), (21, .getfield 163, 3, 6, 13, 709), (24, .ireturn, 1, 0, 0, 0)]
set_option maxRecDepth 100000 in
theorem zk_X6_orbitSize_1 : zl_X6_orbitSize_1.all (zgoodB zmt zm_X6_orbitSize) = true := by decide +kernel
def zp_X6_orbitSize : Nat → Option zE := (ztr 14 (zlf zl_X6_orbitSize_0) (zlf zl_X6_orbitSize_1))
theorem za_X6_orbitSize : zall (zgood zmt zm_X6_orbitSize) zp_X6_orbitSize := (zall_tr (zall_lf zl_X6_orbitSize_0 zk_X6_orbitSize_0) (zall_lf zl_X6_orbitSize_1 zk_X6_orbitSize_1))
def zl_X6_isInside_0 : List (Nat × zE) := [(0, .aload_n 0, 1, 0, 0, 0), (1, .aload_n 0, 1, 0, 0, 0), (2, .getfield 16, 3, 6, 8, 704), (5, .iload_n 1, 1, 0, 0, 0), (6, .iaload, 1, 0, 0, 0), (7, .aload_n 0, 1, 0, 0, 0), (8, .getfield 20, 3, 6, 9, 705), (11, .iload_n 1, 1, 0, 0, 0), (12, .iaload, 1, 0, 0, 0), (13, .aload_n 0, 1, 0, 0, 0)]
set_option maxRecDepth 100000 in
theorem zk_X6_isInside_0 : zl_X6_isInside_0.all (zgoodB zmt zm_X6_isInside) = true := by decide +kernel
def zl_X6_isInside_1 : List (Nat × zE) := [(14, .getfield 7, 3, 6, 5, 701), (17, .invokevirtual 206, 3, 120, 24644, 1898), (20, .ireturn, 1, 1, 0, 0)]
set_option maxRecDepth 100000 in
theorem zk_X6_isInside_1 : zl_X6_isInside_1.all (zgoodB zmt zm_X6_isInside) = true := by decide +kernel
def zp_X6_isInside : Nat → Option zE := (ztr 14 (zlf zl_X6_isInside_0) (zlf zl_X6_isInside_1))
theorem za_X6_isInside : zall (zgood zmt zm_X6_isInside) zp_X6_isInside := (zall_tr (zall_lf zl_X6_isInside_0 zk_X6_isInside_0) (zall_lf zl_X6_isInside_1 zk_X6_isInside_1))
def zl_X6_about_0 : List (Nat × zE) := [(0, .aload_n 0, 1, 0, 0, 0), (1, .iload_n 1, 1, 0, 0, 0), (2, .invokevirtual 203, 3, 108, 24610, 1866), (5, .ifCond .ne 5, 3, 10, 0, 0), (8, .iconst (-1), 1, 0, 0, 0), (9, .ireturn, 1, 0, 0, 0), (10, .iload_n 2, 1, 0, 0, 0), (11, .tableswitch 74 0 4 #[33, 40, 47, 54, 60], 33, 0, 0, 0), (44, .aload_n 0, 1, 0, 0, 0), (45, .getfield 16, 3, 6, 8, 704)]
set_option maxRecDepth 100000 in
theorem zk_X6_about_0 : zl_X6_about_0.all (zgoodB zmt zm_X6_about) = true := by decide +kernel
def zl_X6_about_1 : List (Nat × zE) := [(48, .iload_n 1, 1, 0, 0, 0), (49, .iaload, 1, 0, 0, 0), (50, .ireturn, 1, 0, 0, 0), (51, .aload_n 0, 1, 0, 0, 0), (52, .getfield 20, 3, 6, 9, 705), (55, .iload_n 1, 1, 0, 0, 0), (56, .iaload, 1, 0, 0, 0), (57, .ireturn, 1, 0, 0, 0), (58, .aload_n 0, 1, 0, 0, 0), (59, .getfield 23, 3, 6, 10, 706)]
set_option maxRecDepth 100000 in
theorem zk_X6_about_1 : zl_X6_about_1.all (zgoodB zmt zm_X6_about) = true := by decide +kernel
def zl_X6_about_2 : List (Nat × zE) := [(62, .iload_n 1, 1, 0, 0, 0), (63, .iaload, 1, 0, 0, 0), (64, .ireturn, 1, 0, 0, 0), (65, .aload_n 0, 1, 0, 0, 0), (66, .iload_n 1, 1, 0, 0, 0), (67, .invokevirtual 210, 3, 130, 24610, 1882), (70, .ireturn, 1, 0, 0, 0), (71, .aload_n 0, 1, 0, 0, 0), (72, .iload_n 1, 1, 0, 0, 0), (73, .invokevirtual 213, 3, 131, 24610, 1890)]
set_option maxRecDepth 100000 in
theorem zk_X6_about_2 : zl_X6_about_2.all (zgoodB zmt zm_X6_about) = true := by decide +kernel
def zl_X6_about_3 : List (Nat × zE) := [(76, .ifCond .eq 7, 3, 83, 0, 0), (79, .iconst 1, 1, 0, 0, 0), (80, .goto 4, 3, 84, 0, 0), (83, .iconst 0, 1, 0, 0, 0), (84, .ireturn, 1, 0, 0, 0), (85, .bipush (-2), 2, 0, 0, 0), (87, .ireturn, 1, 0, 0, 0)]
set_option maxRecDepth 100000 in
theorem zk_X6_about_3 : zl_X6_about_3.all (zgoodB zmt zm_X6_about) = true := by decide +kernel
def zp_X6_about : Nat → Option zE := (ztr 62 (ztr 48 (zlf zl_X6_about_0) (zlf zl_X6_about_1)) (ztr 76 (zlf zl_X6_about_2) (zlf zl_X6_about_3)))
theorem za_X6_about : zall (zgood zmt zm_X6_about) zp_X6_about := (zall_tr (zall_tr (zall_lf zl_X6_about_0 zk_X6_about_0) (zall_lf zl_X6_about_1 zk_X6_about_1)) (zall_tr (zall_lf zl_X6_about_2 zk_X6_about_2) (zall_lf zl_X6_about_3 zk_X6_about_3)))
def zl_X6_isRight_0 : List (Nat × zE) := [(0, .iload_n 1, 1, 0, 0, 0), (1, .istore_n 2, 1, 0, 0, 0), (2, .iload_n 2, 1, 0, 0, 0), (3, .ifCond .lt 28, 3, 31, 0, 0), (6, .aload_n 0, 1, 0, 0, 0), (7, .iload_n 2, 1, 0, 0, 0), (8, .iload_n 1, 1, 0, 0, 0), (9, .iload_n 2, 1, 0, 0, 0), (10, .isub, 1, 0, 0, 0), (11, .invokevirtual 160, 3, 113, 24691, 1750)]
set_option maxRecDepth 100000 in
theorem zk_X6_isRight_0 : zl_X6_isRight_0.all (zgoodB zmt zm_X6_isRight) = true := by decide +kernel
def zl_X6_isRight_1 : List (Nat × zE) := [(14, .aload_n 0, 1, 0, 0, 0), (15, .getfield 102, 3, 6, 2, 698), (18, .lconst 0, 1, 0, 0, 0), (19, .lcmp, 1, 0, 0, 0), (20, .ifCond .eq 5, 3, 25, 0, 0), (23, .iconst 0, 1, 0, 0, 0), (24, .ireturn, 1, 1, 0, 0), (25, .iinc 2 (-1), 3, 0, 0, 0), (28, .goto (-26), 3, 2, 0, 0), (31, .iconst 1, 1, 0, 0, 0)]
set_option maxRecDepth 100000 in
theorem zk_X6_isRight_1 : zl_X6_isRight_1.all (zgoodB zmt zm_X6_isRight) = true := by decide +kernel
def zl_X6_isRight_2 : List (Nat × zE) := [(32, .ireturn, 1, 1, 0, 0)]
set_option maxRecDepth 100000 in
theorem zk_X6_isRight_2 : zl_X6_isRight_2.all (zgoodB zmt zm_X6_isRight) = true := by decide +kernel
def zp_X6_isRight : Nat → Option zE := (ztr 14 (zlf zl_X6_isRight_0) (ztr 32 (zlf zl_X6_isRight_1) (zlf zl_X6_isRight_2)))
theorem za_X6_isRight : zall (zgood zmt zm_X6_isRight) zp_X6_isRight := (zall_tr (zall_lf zl_X6_isRight_0 zk_X6_isRight_0) (zall_tr (zall_lf zl_X6_isRight_1 zk_X6_isRight_1) (zall_lf zl_X6_isRight_2 zk_X6_isRight_2)))
def zl_X6_degree_0 : List (Nat × zE) := [(0, .iconst 0, 1, 0, 0, 0), (1, .istore_n 1, 1, 0, 0, 0), (2, .iload_n 1, 1, 0, 0, 0), (3, .bipush 6, 2, 0, 0, 0), (5, .if_icmp .gt 17, 3, 22, 0, 0), (8, .aload_n 0, 1, 0, 0, 0), (9, .iload_n 1, 1, 0, 0, 0), (10, .invokevirtual 216, 3, 133, 24626, 1914), (13, .ifCond .eq 9, 3, 22, 0, 0), (16, .iinc 1 1, 3, 0, 0, 0)]
set_option maxRecDepth 100000 in
theorem zk_X6_degree_0 : zl_X6_degree_0.all (zgoodB zmt zm_X6_degree) = true := by decide +kernel
def zl_X6_degree_1 : List (Nat × zE) := [(19, .goto (-17), 3, 2, 0, 0), (22, .iload_n 1, 1, 0, 0, 0), (23, .ifCond .ne 8, 3, 31, 0, 0), (26, .bipush (-9), 2, 0, 0, 0), (28, .goto 6, 3, 34, 0, 0), (31, .iload_n 1, 1, 0, 0, 0), (32, .iconst 1, 1, 0, 0, 0), (33, .isub, 1, 0, 0, 0), (34, .ireturn, 1, 0, 0, 0)]
set_option maxRecDepth 100000 in
theorem zk_X6_degree_1 : zl_X6_degree_1.all (zgoodB zmt zm_X6_degree) = true := by decide +kernel
def zp_X6_degree : Nat → Option zE := (ztr 19 (zlf zl_X6_degree_0) (zlf zl_X6_degree_1))
theorem za_X6_degree : zall (zgood zmt zm_X6_degree) zp_X6_degree := (zall_tr (zall_lf zl_X6_degree_0 zk_X6_degree_0) (zall_lf zl_X6_degree_1 zk_X6_degree_1))
def zl_X6_first_0 : List (Nat × zE) := [(0, .iload_n 1, 1, 0, 0, 0), (1, .i2l, 1, 0, 0, 0), (2, .lconst 0, 1, 0, 0, 0), (3, .lconst 1, 1, 0, 0, 0), (4, .invokestatic 118, 3, 100, 24675, 1644), (7, .ifCond .ne 6, 3, 13, 0, 0), (10, .bipush (-2), 2, 0, 0, 0), (12, .ireturn, 1, 0, 0, 0), (13, .iconst 0, 1, 0, 0, 0), (14, .istore_n 2, 1, 0, 0, 0)]
set_option maxRecDepth 100000 in
theorem zk_X6_first_0 : zl_X6_first_0.all (zgoodB zmt zm_X6_first) = true := by decide +kernel
def zl_X6_first_1 : List (Nat × zE) := [(15, .iload_n 2, 1, 0, 0, 0), (16, .bipush 6, 2, 0, 0, 0), (18, .if_icmp .gt 50, 3, 68, 0, 0), (21, .iload_n 2, 1, 0, 0, 0), (22, .istore_n 3, 1, 0, 0, 0), (23, .iload_n 3, 1, 0, 0, 0), (24, .ifCond .lt 38, 3, 62, 0, 0), (27, .aload_n 0, 1, 0, 0, 0), (28, .iload_n 3, 1, 0, 0, 0), (29, .iload_n 2, 1, 0, 0, 0)]
set_option maxRecDepth 100000 in
theorem zk_X6_first_1 : zl_X6_first_1.all (zgoodB zmt zm_X6_first) = true := by decide +kernel
def zl_X6_first_2 : List (Nat × zE) := [(30, .iload_n 3, 1, 0, 0, 0), (31, .isub, 1, 0, 0, 0), (32, .invokevirtual 160, 3, 113, 24691, 1750), (35, .aload_n 0, 1, 0, 0, 0), (36, .getfield 102, 3, 6, 2, 698), (39, .lconst 0, 1, 0, 0, 0), (40, .lcmp, 1, 0, 0, 0), (41, .ifCond .eq 15, 3, 56, 0, 0), (44, .iload_n 1, 1, 0, 0, 0), (45, .ifCond .ne 7, 3, 52, 0, 0)]
set_option maxRecDepth 100000 in
theorem zk_X6_first_2 : zl_X6_first_2.all (zgoodB zmt zm_X6_first) = true := by decide +kernel
def zl_X6_first_3 : List (Nat × zE) := [(48, .iload_n 3, 1, 0, 0, 0), (49, .goto 6, 3, 55, 0, 0), (52, .iload_n 2, 1, 0, 0, 0), (53, .iload_n 3, 1, 0, 0, 0), (54, .isub, 1, 0, 0, 0), (55, .ireturn, 1, 0, 0, 0), (56, .iinc 3 (-1), 3, 0, 0, 0), (59, .goto (-36), 3, 23, 0, 0), (62, .iinc 2 1, 3, 0, 0, 0), (65, .goto (-50), 3, 15, 0, 0)]
set_option maxRecDepth 100000 in
theorem zk_X6_first_3 : zl_X6_first_3.all (zgoodB zmt zm_X6_first) = true := by decide +kernel
def zl_X6_first_4 : List (Nat × zE) := [(68, .bipush (-3), 2, 0, 0, 0), (70, .ireturn, 1, 0, 0, 0)]
set_option maxRecDepth 100000 in
theorem zk_X6_first_4 : zl_X6_first_4.all (zgoodB zmt zm_X6_first) = true := by decide +kernel
def zp_X6_first : Nat → Option zE := (ztr 30 (ztr 15 (zlf zl_X6_first_0) (zlf zl_X6_first_1)) (ztr 48 (zlf zl_X6_first_2) (ztr 68 (zlf zl_X6_first_3) (zlf zl_X6_first_4))))
theorem za_X6_first : zall (zgood zmt zm_X6_first) zp_X6_first := (zall_tr (zall_tr (zall_lf zl_X6_first_0 zk_X6_first_0) (zall_lf zl_X6_first_1 zk_X6_first_1)) (zall_tr (zall_lf zl_X6_first_2 zk_X6_first_2) (zall_tr (zall_lf zl_X6_first_3 zk_X6_first_3) (zall_lf zl_X6_first_4 zk_X6_first_4))))
def zl_X6_isEven_0 : List (Nat × zE) := [(0, .aload_n 0, 1, 0, 0, 0), (1, .aload_n 0, 1, 0, 0, 0), (2, .getfield 16, 3, 6, 8, 704), (5, .iload_n 1, 1, 0, 0, 0), (6, .iaload, 1, 0, 0, 0), (7, .aload_n 0, 1, 0, 0, 0), (8, .getfield 20, 3, 6, 9, 705), (11, .iload_n 1, 1, 0, 0, 0), (12, .iaload, 1, 0, 0, 0), (13, .aload_n 0, 1, 0, 0, 0)]
set_option maxRecDepth 100000 in
theorem zk_X6_isEven_0 : zl_X6_isEven_0.all (zgoodB zmt zm_X6_isEven) = true := by decide +kernel
def zl_X6_isEven_1 : List (Nat × zE) := [(14, .getfield 7, 3, 6, 5, 701), (17, .invokevirtual 193, 3, 119, 24692, 1824), (20, .iconst 0, 1, 0, 0, 0), (21, .istore_n 2, 1, 0, 0, 0), (22, .iload_n 2, 1, 0, 0, 0), (23, .aload_n 0, 1, 0, 0, 0), (24, .getfield 163, 3, 6, 13, 709), (27, .if_icmp .ge 49, 3, 76, 0, 0), (30, .aload_n 0, 1, 0, 0, 0), (31, .aload_n 0, 1, 0, 0, 0)]
set_option maxRecDepth 100000 in
theorem zk_X6_isEven_1 : zl_X6_isEven_1.all (zgoodB zmt zm_X6_isEven) = true := by decide +kernel
def zl_X6_isEven_2 : List (Nat × zE) := [(32, .getfield 26, 3, 6, 11, 707), (35, .iload_n 2, 1, 0, 0, 0), (36, .iaload, 1, 0, 0, 0), (37, .aload_n 0, 1, 0, 0, 0), (38, .getfield 29, 3, 6, 12, 708), (41, .iload_n 2, 1, 0, 0, 0), (42, .iaload, 1, 0, 0, 0), (43, .invokevirtual 182, 3, 121, 24643, 1800), (46, .istore_n 3, 1, 0, 0, 0), (47, .iload_n 3, 1, 0, 0, 0)]
set_option maxRecDepth 100000 in
theorem zk_X6_isEven_2 : zl_X6_isEven_2.all (zgoodB zmt zm_X6_isEven) = true := by decide +kernel
def zl_X6_isEven_3 : List (Nat × zE) := [(48, .bipush (-9), 2, 0, 0, 0), (50, .if_icmp .eq 18, 3, 68, 0, 0), (53, .aload_n 0, 1, 0, 0, 0), (54, .getfield 23, 3, 6, 10, 706), (57, .iload_n 3, 1, 0, 0, 0), (58, .iaload, 1, 0, 0, 0), (59, .aload_n 0, 1, 0, 0, 0), (60, .getfield 23, 3, 6, 10, 706), (63, .iload_n 1, 1, 0, 0, 0), (64, .iaload, 1, 0, 0, 0)]
set_option maxRecDepth 100000 in
theorem zk_X6_isEven_3 : zl_X6_isEven_3.all (zgoodB zmt zm_X6_isEven) = true := by decide +kernel
def zl_X6_isEven_4 : List (Nat × zE) := [(65, .if_icmp .eq 5, 3, 70, 0, 0), (68, .iconst 0, 1, 0, 0, 0), (69, .ireturn, 1, 1, 0, 0), (70, .iinc 2 1, 3, 0, 0, 0), (73, .goto (-51), 3, 22, 0, 0), (76, .iconst 1, 1, 0, 0, 0), (77, .ireturn, 1, 1, 0, 0)]
set_option maxRecDepth 100000 in
theorem zk_X6_isEven_4 : zl_X6_isEven_4.all (zgoodB zmt zm_X6_isEven) = true := by decide +kernel
def zp_X6_isEven : Nat → Option zE := (ztr 32 (ztr 14 (zlf zl_X6_isEven_0) (zlf zl_X6_isEven_1)) (ztr 48 (zlf zl_X6_isEven_2) (ztr 65 (zlf zl_X6_isEven_3) (zlf zl_X6_isEven_4))))
theorem za_X6_isEven : zall (zgood zmt zm_X6_isEven) zp_X6_isEven := (zall_tr (zall_tr (zall_lf zl_X6_isEven_0 zk_X6_isEven_0) (zall_lf zl_X6_isEven_1 zk_X6_isEven_1)) (zall_tr (zall_lf zl_X6_isEven_2 zk_X6_isEven_2) (zall_tr (zall_lf zl_X6_isEven_3 zk_X6_isEven_3) (zall_lf zl_X6_isEven_4 zk_X6_isEven_4))))
def zl_X6_is_0 : List (Nat × zE) := [(0, .iload_n 1, 1, 0, 0, 0), (1, .i2l, 1, 0, 0, 0), (2, .lconst 0, 1, 0, 0, 0), (3, .ldc2_w 116, 3, 2, 0, 821), (6, .invokestatic 118, 3, 100, 24675, 1644), (9, .ifCond .ne 6, 3, 15, 0, 0), (12, .bipush (-2), 2, 0, 0, 0), (14, .ireturn, 1, 0, 0, 0), (15, .iconst 1, 1, 0, 0, 0), (16, .istore_n 2, 1, 0, 0, 0)]
set_option maxRecDepth 100000 in
theorem zk_X6_is_0 : zl_X6_is_0.all (zgoodB zmt zm_X6_is) = true := by decide +kernel
def zl_X6_is_1 : List (Nat × zE) := [(17, .iconst 0, 1, 0, 0, 0), (18, .istore_n 3, 1, 0, 0, 0), (19, .iload_n 3, 1, 0, 0, 0), (20, .aload_n 0, 1, 0, 0, 0), (21, .getfield 113, 3, 6, 7, 703), (24, .if_icmp .ge 51, 3, 75, 0, 0), (27, .iload_n 2, 1, 0, 0, 0), (28, .iload_n 1, 1, 0, 0, 0), (29, .ifCond .ne 11, 3, 40, 0, 0), (32, .aload_n 0, 1, 0, 0, 0)]
set_option maxRecDepth 100000 in
theorem zk_X6_is_1 : zl_X6_is_1.all (zgoodB zmt zm_X6_is) = true := by decide +kernel
def zl_X6_is_2 : List (Nat × zE) := [(33, .iload_n 3, 1, 0, 0, 0), (34, .invokevirtual 213, 3, 131, 24610, 1890), (37, .goto 30, 3, 67, 0, 0), (40, .iload_n 1, 1, 0, 0, 0), (41, .iconst 1, 1, 0, 0, 0), (42, .if_icmp .ne 20, 3, 62, 0, 0), (45, .aload_n 0, 1, 0, 0, 0), (46, .getfield 23, 3, 6, 10, 706), (49, .iload_n 3, 1, 0, 0, 0), (50, .iaload, 1, 0, 0, 0)]
set_option maxRecDepth 100000 in
theorem zk_X6_is_2 : zl_X6_is_2.all (zgoodB zmt zm_X6_is) = true := by decide +kernel
def zl_X6_is_3 : List (Nat × zE) := [(51, .ifCond .le 7, 3, 58, 0, 0), (54, .iconst 1, 1, 0, 0, 0), (55, .goto 12, 3, 67, 0, 0), (58, .iconst 0, 1, 0, 0, 0), (59, .goto 8, 3, 67, 0, 0), (62, .aload_n 0, 1, 0, 0, 0), (63, .iload_n 3, 1, 0, 0, 0), (64, .invokevirtual 219, 3, 136, 24642, 1938), (67, .iand, 1, 0, 0, 0), (68, .istore_n 2, 1, 0, 0, 0)]
set_option maxRecDepth 100000 in
theorem zk_X6_is_3 : zl_X6_is_3.all (zgoodB zmt zm_X6_is) = true := by decide +kernel
def zl_X6_is_4 : List (Nat × zE) := [(69, .iinc 3 1, 3, 0, 0, 0), (72, .goto (-53), 3, 19, 0, 0), (75, .iload_n 2, 1, 0, 0, 0), (76, .ifCond .eq 7, 3, 83, 0, 0), (79, .iconst 1, 1, 0, 0, 0), (80, .goto 4, 3, 84, 0, 0), (83, .iconst 0, 1, 0, 0, 0), (84, .ireturn, 1, 0, 0, 0)]
set_option maxRecDepth 100000 in
theorem zk_X6_is_4 : zl_X6_is_4.all (zgoodB zmt zm_X6_is) = true := by decide +kernel
def zp_X6_is : Nat → Option zE := (ztr 33 (ztr 17 (zlf zl_X6_is_0) (zlf zl_X6_is_1)) (ztr 51 (zlf zl_X6_is_2) (ztr 69 (zlf zl_X6_is_3) (zlf zl_X6_is_4))))
theorem za_X6_is : zall (zgood zmt zm_X6_is) zp_X6_is := (zall_tr (zall_tr (zall_lf zl_X6_is_0 zk_X6_is_0) (zall_lf zl_X6_is_1 zk_X6_is_1)) (zall_tr (zall_lf zl_X6_is_2 zk_X6_is_2) (zall_tr (zall_lf zl_X6_is_3 zk_X6_is_3) (zall_lf zl_X6_is_4 zk_X6_is_4))))
def zl_X6_least_0 : List (Nat × zE) := [(0, .iload_n 1, 1, 0, 0, 0), (1, .i2l, 1, 0, 0, 0), (2, .lconst 0, 1, 0, 0, 0), (3, .ldc2_w 222, 3, 6, 0, 977), (6, .invokestatic 118, 3, 100, 24675, 1644), (9, .ifCond .ne 6, 3, 15, 0, 0), (12, .bipush (-2), 2, 0, 0, 0), (14, .ireturn, 1, 0, 0, 0), (15, .iload_n 1, 1, 0, 0, 0), (16, .iconst 2, 1, 0, 0, 0)]
set_option maxRecDepth 100000 in
theorem zk_X6_least_0 : zl_X6_least_0.all (zgoodB zmt zm_X6_least) = true := by decide +kernel
def zl_X6_least_1 : List (Nat × zE) := [(17, .idiv, 1, 0, 0, 0), (18, .istore_n 2, 1, 0, 0, 0), (19, .iload_n 2, 1, 0, 0, 0), (20, .iconst 1, 1, 0, 0, 0), (21, .iadd, 1, 0, 0, 0), (22, .iload_n 2, 1, 0, 0, 0), (23, .iconst 2, 1, 0, 0, 0), (24, .iadd, 1, 0, 0, 0), (25, .imul, 1, 0, 0, 0), (26, .iconst 2, 1, 0, 0, 0)]
set_option maxRecDepth 100000 in
theorem zk_X6_least_1 : zl_X6_least_1.all (zgoodB zmt zm_X6_least) = true := by decide +kernel
def zl_X6_least_2 : List (Nat × zE) := [(27, .idiv, 1, 0, 0, 0), (28, .ireturn, 1, 0, 0, 0)]
set_option maxRecDepth 100000 in
theorem zk_X6_least_2 : zl_X6_least_2.all (zgoodB zmt zm_X6_least) = true := by decide +kernel
def zp_X6_least : Nat → Option zE := (ztr 17 (zlf zl_X6_least_0) (ztr 27 (zlf zl_X6_least_1) (zlf zl_X6_least_2)))
theorem za_X6_least : zall (zgood zmt zm_X6_least) zp_X6_least := (zall_tr (zall_lf zl_X6_least_0 zk_X6_least_0) (zall_tr (zall_lf zl_X6_least_1 zk_X6_least_1) (zall_lf zl_X6_least_2 zk_X6_least_2)))
def zl_X6_keep_0 : List (Nat × zE) := [(0, .iload_n 1, 1, 0, 0, 0), (1, .i2l, 1, 0, 0, 0), (2, .lconst 0, 1, 0, 0, 0), (3, .ldc2_w 224, 3, 5, 0, 982), (6, .invokestatic 118, 3, 100, 24675, 1644), (9, .ifCond .ne 5, 3, 14, 0, 0), (12, .iconst (-1), 1, 0, 0, 0), (13, .ireturn, 1, 0, 0, 0), (14, .aload_n 0, 1, 0, 0, 0), (15, .getfield 44, 3, 6, 18, 714)]
set_option maxRecDepth 100000 in
theorem zk_X6_keep_0 : zl_X6_keep_0.all (zgoodB zmt zm_X6_keep) = true := by decide +kernel
def zl_X6_keep_1 : List (Nat × zE) := [(18, .iload_n 1, 1, 0, 0, 0), (19, .aload_n 0, 1, 0, 0, 0), (20, .getfield 113, 3, 6, 7, 703), (23, .iastore, 1, 0, 0, 0), (24, .aload_n 0, 1, 0, 0, 0), (25, .getfield 47, 3, 6, 19, 715), (28, .iload_n 1, 1, 0, 0, 0), (29, .aload_n 0, 1, 0, 0, 0), (30, .getfield 126, 3, 6, 4, 700), (33, .iastore, 1, 0, 0, 0)]
set_option maxRecDepth 100000 in
theorem zk_X6_keep_1 : zl_X6_keep_1.all (zgoodB zmt zm_X6_keep) = true := by decide +kernel
def zl_X6_keep_2 : List (Nat × zE) := [(34, .aload_n 0, 1, 0, 0, 0), (35, .getfield 50, 3, 6, 20, 716), (38, .iload_n 1, 1, 0, 0, 0), (39, .aload_n 0, 1, 0, 0, 0), (40, .getfield 7, 3, 6, 5, 701), (43, .iastore, 1, 0, 0, 0), (44, .aload_n 0, 1, 0, 0, 0), (45, .getfield 53, 3, 6, 21, 717), (48, .iload_n 1, 1, 0, 0, 0), (49, .aload_n 0, 1, 0, 0, 0)]
set_option maxRecDepth 100000 in
theorem zk_X6_keep_2 : zl_X6_keep_2.all (zgoodB zmt zm_X6_keep) = true := by decide +kernel
def zl_X6_keep_3 : List (Nat × zE) := [(50, .getfield 13, 3, 6, 6, 702), (53, .iastore, 1, 0, 0, 0), (54, .iconst 0, 1, 0, 0, 0), (55, .istore_n 2, 1, 0, 0, 0), (56, .iload_n 2, 1, 0, 0, 0), (57, .aload_n 0, 1, 0, 0, 0), (58, .getfield 113, 3, 6, 7, 703), (61, .if_icmp .ge 60, 3, 121, 0, 0), (64, .aload_n 0, 1, 0, 0, 0), (65, .getfield 56, 3, 6, 22, 718)]
set_option maxRecDepth 100000 in
theorem zk_X6_keep_3 : zl_X6_keep_3.all (zgoodB zmt zm_X6_keep) = true := by decide +kernel
def zl_X6_keep_4 : List (Nat × zE) := [(68, .bipush 24, 2, 0, 0, 0), (70, .iload_n 1, 1, 0, 0, 0), (71, .imul, 1, 0, 0, 0), (72, .iload_n 2, 1, 0, 0, 0), (73, .iadd, 1, 0, 0, 0), (74, .aload_n 0, 1, 0, 0, 0), (75, .getfield 16, 3, 6, 8, 704), (78, .iload_n 2, 1, 0, 0, 0), (79, .iaload, 1, 0, 0, 0), (80, .iastore, 1, 0, 0, 0)]
set_option maxRecDepth 100000 in
theorem zk_X6_keep_4 : zl_X6_keep_4.all (zgoodB zmt zm_X6_keep) = true := by decide +kernel
def zl_X6_keep_5 : List (Nat × zE) := [(81, .aload_n 0, 1, 0, 0, 0), (82, .getfield 59, 3, 6, 23, 719), (85, .bipush 24, 2, 0, 0, 0), (87, .iload_n 1, 1, 0, 0, 0), (88, .imul, 1, 0, 0, 0), (89, .iload_n 2, 1, 0, 0, 0), (90, .iadd, 1, 0, 0, 0), (91, .aload_n 0, 1, 0, 0, 0), (92, .getfield 20, 3, 6, 9, 705), (95, .iload_n 2, 1, 0, 0, 0)]
set_option maxRecDepth 100000 in
theorem zk_X6_keep_5 : zl_X6_keep_5.all (zgoodB zmt zm_X6_keep) = true := by decide +kernel
def zl_X6_keep_6 : List (Nat × zE) := [(96, .iaload, 1, 0, 0, 0), (97, .iastore, 1, 0, 0, 0), (98, .aload_n 0, 1, 0, 0, 0), (99, .getfield 62, 3, 6, 24, 720), (102, .bipush 24, 2, 0, 0, 0), (104, .iload_n 1, 1, 0, 0, 0), (105, .imul, 1, 0, 0, 0), (106, .iload_n 2, 1, 0, 0, 0), (107, .iadd, 1, 0, 0, 0), (108, .aload_n 0, 1, 0, 0, 0)]
set_option maxRecDepth 100000 in
theorem zk_X6_keep_6 : zl_X6_keep_6.all (zgoodB zmt zm_X6_keep) = true := by decide +kernel
def zl_X6_keep_7 : List (Nat × zE) := [(109, .getfield 23, 3, 6, 10, 706), (112, .iload_n 2, 1, 0, 0, 0), (113, .iaload, 1, 0, 0, 0), (114, .iastore, 1, 0, 0, 0), (115, .iinc 2 1, 3, 0, 0, 0), (118, .goto (-62), 3, 56, 0, 0), (121, .aload_n 0, 1, 0, 0, 0), (122, .getfield 113, 3, 6, 7, 703), (125, .ireturn, 1, 0, 0, 0)]
set_option maxRecDepth 100000 in
theorem zk_X6_keep_7 : zl_X6_keep_7.all (zgoodB zmt zm_X6_keep) = true := by decide +kernel
def zp_X6_keep : Nat → Option zE := (ztr 68 (ztr 34 (ztr 18 (zlf zl_X6_keep_0) (zlf zl_X6_keep_1)) (ztr 50 (zlf zl_X6_keep_2) (zlf zl_X6_keep_3))) (ztr 96 (ztr 81 (zlf zl_X6_keep_4) (zlf zl_X6_keep_5)) (ztr 109 (zlf zl_X6_keep_6) (zlf zl_X6_keep_7))))
theorem za_X6_keep : zall (zgood zmt zm_X6_keep) zp_X6_keep := (zall_tr (zall_tr (zall_tr (zall_lf zl_X6_keep_0 zk_X6_keep_0) (zall_lf zl_X6_keep_1 zk_X6_keep_1)) (zall_tr (zall_lf zl_X6_keep_2 zk_X6_keep_2) (zall_lf zl_X6_keep_3 zk_X6_keep_3))) (zall_tr (zall_tr (zall_lf zl_X6_keep_4 zk_X6_keep_4) (zall_lf zl_X6_keep_5 zk_X6_keep_5)) (zall_tr (zall_lf zl_X6_keep_6 zk_X6_keep_6) (zall_lf zl_X6_keep_7 zk_X6_keep_7))))
def zl_X6_load_0 : List (Nat × zE) := [(0, .iload_n 1, 1, 0, 0, 0), (1, .i2l, 1, 0, 0, 0), (2, .lconst 0, 1, 0, 0, 0), (3, .ldc2_w 224, 3, 5, 0, 982), (6, .invokestatic 118, 3, 100, 24675, 1644), (9, .ifCond .eq 14, 3, 23, 0, 0), (12, .aload_n 0, 1, 0, 0, 0), (13, .getfield 44, 3, 6, 18, 714), (16, .iload_n 1, 1, 0, 0, 0), (17, .iaload, 1, 0, 0, 0)]
set_option maxRecDepth 100000 in
theorem zk_X6_load_0 : zl_X6_load_0.all (zgoodB zmt zm_X6_load) = true := by decide +kernel
def zl_X6_load_1 : List (Nat × zE) := [(18, .bipush (-9), 2, 0, 0, 0), (20, .if_icmp .ne 5, 3, 25, 0, 0), (23, .iconst (-1), 1, 0, 0, 0), (24, .ireturn, 1, 0, 0, 0), (25, .aload_n 0, 1, 0, 0, 0), (26, .aload_n 0, 1, 0, 0, 0), (27, .getfield 44, 3, 6, 18, 714), (30, .iload_n 1, 1, 0, 0, 0), (31, .iaload, 1, 0, 0, 0), (32, .putfield 113, 3, 6, 7, 703)]
set_option maxRecDepth 100000 in
theorem zk_X6_load_1 : zl_X6_load_1.all (zgoodB zmt zm_X6_load) = true := by decide +kernel
def zl_X6_load_2 : List (Nat × zE) := [(35, .aload_n 0, 1, 0, 0, 0), (36, .aload_n 0, 1, 0, 0, 0), (37, .getfield 47, 3, 6, 19, 715), (40, .iload_n 1, 1, 0, 0, 0), (41, .iaload, 1, 0, 0, 0), (42, .putfield 126, 3, 6, 4, 700), (45, .aload_n 0, 1, 0, 0, 0), (46, .aload_n 0, 1, 0, 0, 0), (47, .getfield 50, 3, 6, 20, 716), (50, .iload_n 1, 1, 0, 0, 0)]
set_option maxRecDepth 100000 in
theorem zk_X6_load_2 : zl_X6_load_2.all (zgoodB zmt zm_X6_load) = true := by decide +kernel
def zl_X6_load_3 : List (Nat × zE) := [(51, .iaload, 1, 0, 0, 0), (52, .putfield 7, 3, 6, 5, 701), (55, .aload_n 0, 1, 0, 0, 0), (56, .aload_n 0, 1, 0, 0, 0), (57, .getfield 53, 3, 6, 21, 717), (60, .iload_n 1, 1, 0, 0, 0), (61, .iaload, 1, 0, 0, 0), (62, .putfield 13, 3, 6, 6, 702), (65, .iconst 0, 1, 0, 0, 0), (66, .istore_n 2, 1, 0, 0, 0)]
set_option maxRecDepth 100000 in
theorem zk_X6_load_3 : zl_X6_load_3.all (zgoodB zmt zm_X6_load) = true := by decide +kernel
def zl_X6_load_4 : List (Nat × zE) := [(67, .iload_n 2, 1, 0, 0, 0), (68, .aload_n 0, 1, 0, 0, 0), (69, .getfield 113, 3, 6, 7, 703), (72, .if_icmp .ge 60, 3, 132, 0, 0), (75, .aload_n 0, 1, 0, 0, 0), (76, .getfield 16, 3, 6, 8, 704), (79, .iload_n 2, 1, 0, 0, 0), (80, .aload_n 0, 1, 0, 0, 0), (81, .getfield 56, 3, 6, 22, 718), (84, .bipush 24, 2, 0, 0, 0)]
set_option maxRecDepth 100000 in
theorem zk_X6_load_4 : zl_X6_load_4.all (zgoodB zmt zm_X6_load) = true := by decide +kernel
def zl_X6_load_5 : List (Nat × zE) := [(86, .iload_n 1, 1, 0, 0, 0), (87, .imul, 1, 0, 0, 0), (88, .iload_n 2, 1, 0, 0, 0), (89, .iadd, 1, 0, 0, 0), (90, .iaload, 1, 0, 0, 0), (91, .iastore, 1, 0, 0, 0), (92, .aload_n 0, 1, 0, 0, 0), (93, .getfield 20, 3, 6, 9, 705), (96, .iload_n 2, 1, 0, 0, 0), (97, .aload_n 0, 1, 0, 0, 0)]
set_option maxRecDepth 100000 in
theorem zk_X6_load_5 : zl_X6_load_5.all (zgoodB zmt zm_X6_load) = true := by decide +kernel
def zl_X6_load_6 : List (Nat × zE) := [(98, .getfield 59, 3, 6, 23, 719), (101, .bipush 24, 2, 0, 0, 0), (103, .iload_n 1, 1, 0, 0, 0), (104, .imul, 1, 0, 0, 0), (105, .iload_n 2, 1, 0, 0, 0), (106, .iadd, 1, 0, 0, 0), (107, .iaload, 1, 0, 0, 0), (108, .iastore, 1, 0, 0, 0), (109, .aload_n 0, 1, 0, 0, 0), (110, .getfield 23, 3, 6, 10, 706)]
set_option maxRecDepth 100000 in
theorem zk_X6_load_6 : zl_X6_load_6.all (zgoodB zmt zm_X6_load) = true := by decide +kernel
def zl_X6_load_7 : List (Nat × zE) := [(113, .iload_n 2, 1, 0, 0, 0), (114, .aload_n 0, 1, 0, 0, 0), (115, .getfield 62, 3, 6, 24, 720), (118, .bipush 24, 2, 0, 0, 0), (120, .iload_n 1, 1, 0, 0, 0), (121, .imul, 1, 0, 0, 0), (122, .iload_n 2, 1, 0, 0, 0), (123, .iadd, 1, 0, 0, 0), (124, .iaload, 1, 0, 0, 0), (125, .iastore, 1, 0, 0, 0)]
set_option maxRecDepth 100000 in
theorem zk_X6_load_7 : zl_X6_load_7.all (zgoodB zmt zm_X6_load) = true := by decide +kernel
def zl_X6_load_8 : List (Nat × zE) := [(126, .iinc 2 1, 3, 0, 0, 0), (129, .goto (-62), 3, 67, 0, 0), (132, .aload_n 0, 1, 0, 0, 0), (133, .getfield 113, 3, 6, 7, 703), (136, .ireturn, 1, 0, 0, 0)]
set_option maxRecDepth 100000 in
theorem zk_X6_load_8 : zl_X6_load_8.all (zgoodB zmt zm_X6_load) = true := by decide +kernel
def zp_X6_load : Nat → Option zE := (ztr 67 (ztr 35 (ztr 18 (zlf zl_X6_load_0) (zlf zl_X6_load_1)) (ztr 51 (zlf zl_X6_load_2) (zlf zl_X6_load_3))) (ztr 98 (ztr 86 (zlf zl_X6_load_4) (zlf zl_X6_load_5)) (ztr 113 (zlf zl_X6_load_6) (ztr 126 (zlf zl_X6_load_7) (zlf zl_X6_load_8)))))
theorem za_X6_load : zall (zgood zmt zm_X6_load) zp_X6_load := (zall_tr (zall_tr (zall_tr (zall_lf zl_X6_load_0 zk_X6_load_0) (zall_lf zl_X6_load_1 zk_X6_load_1)) (zall_tr (zall_lf zl_X6_load_2 zk_X6_load_2) (zall_lf zl_X6_load_3 zk_X6_load_3))) (zall_tr (zall_tr (zall_lf zl_X6_load_4 zk_X6_load_4) (zall_lf zl_X6_load_5 zk_X6_load_5)) (zall_tr (zall_lf zl_X6_load_6 zk_X6_load_6) (zall_tr (zall_lf zl_X6_load_7 zk_X6_load_7) (zall_lf zl_X6_load_8 zk_X6_load_8)))))
def zl_X6_farOf_0 : List (Nat × zE) := [(0, .iload_n 3, 1, 0, 0, 0), (1, .iload_n 1, 1, 0, 0, 0), (2, .isub, 1, 0, 0, 0), (3, .iload_n 2, 1, 0, 0, 0), (4, .isub, 1, 0, 0, 0), (5, .istore 4, 2, 0, 0, 0), (7, .iload_n 1, 1, 0, 0, 0), (8, .iload_n 1, 1, 0, 0, 0), (9, .imul, 1, 0, 0, 0), (10, .iload_n 2, 1, 0, 0, 0)]
set_option maxRecDepth 100000 in
theorem zk_X6_farOf_0 : zl_X6_farOf_0.all (zgoodB zmt zm_X6_farOf) = true := by decide +kernel
def zl_X6_farOf_1 : List (Nat × zE) := [(11, .iload_n 2, 1, 0, 0, 0), (12, .imul, 1, 0, 0, 0), (13, .iadd, 1, 0, 0, 0), (14, .aload_n 0, 1, 0, 0, 0), (15, .getfield 126, 3, 6, 4, 700), (18, .iconst 1, 1, 0, 0, 0), (19, .if_icmp .ne 11, 3, 30, 0, 0), (22, .iload 4, 2, 0, 0, 0), (24, .iload 4, 2, 0, 0, 0), (26, .imul, 1, 0, 0, 0)]
set_option maxRecDepth 100000 in
theorem zk_X6_farOf_1 : zl_X6_farOf_1.all (zgoodB zmt zm_X6_farOf) = true := by decide +kernel
def zl_X6_farOf_2 : List (Nat × zE) := [(27, .goto 4, 3, 31, 0, 0), (30, .iconst 0, 1, 0, 0, 0), (31, .iadd, 1, 0, 0, 0), (32, .ireturn, 1, 0, 0, 0)]
set_option maxRecDepth 100000 in
theorem zk_X6_farOf_2 : zl_X6_farOf_2.all (zgoodB zmt zm_X6_farOf) = true := by decide +kernel
def zp_X6_farOf : Nat → Option zE := (ztr 11 (zlf zl_X6_farOf_0) (ztr 27 (zlf zl_X6_farOf_1) (zlf zl_X6_farOf_2)))
theorem za_X6_farOf : zall (zgood zmt zm_X6_farOf) zp_X6_farOf := (zall_tr (zall_lf zl_X6_farOf_0 zk_X6_farOf_0) (zall_tr (zall_lf zl_X6_farOf_1 zk_X6_farOf_1) (zall_lf zl_X6_farOf_2 zk_X6_farOf_2)))
def zl_X6_findReps_0 : List (Nat × zE) := [(0, .aload_n 0, 1, 0, 0, 0), (1, .iconst 0, 1, 0, 0, 0), (2, .putfield 226, 3, 6, 29, 725), (5, .iload_n 1, 1, 0, 0, 0), (6, .ineg, 1, 0, 0, 0), (7, .istore_n 2, 1, 0, 0, 0), (8, .iload_n 2, 1, 0, 0, 0), (9, .iload_n 1, 1, 0, 0, 0), (10, .if_icmp .gt 125, 3, 135, 0, 0), (13, .iload_n 1, 1, 0, 0, 0)]
set_option maxRecDepth 100000 in
theorem zk_X6_findReps_0 : zl_X6_findReps_0.all (zgoodB zmt zm_X6_findReps) = true := by decide +kernel
def zl_X6_findReps_1 : List (Nat × zE) := [(14, .ineg, 1, 0, 0, 0), (15, .istore_n 3, 1, 0, 0, 0), (16, .iload_n 3, 1, 0, 0, 0), (17, .iload_n 1, 1, 0, 0, 0), (18, .if_icmp .gt 111, 3, 129, 0, 0), (21, .aload_n 0, 1, 0, 0, 0), (22, .iload_n 2, 1, 0, 0, 0), (23, .iload_n 3, 1, 0, 0, 0), (24, .iload_n 1, 1, 0, 0, 0), (25, .invokevirtual 206, 3, 120, 24644, 1898)]
set_option maxRecDepth 100000 in
theorem zk_X6_findReps_1 : zl_X6_findReps_1.all (zgoodB zmt zm_X6_findReps) = true := by decide +kernel
def zl_X6_findReps_2 : List (Nat × zE) := [(28, .ifCond .ne 6, 3, 34, 0, 0), (31, .goto 92, 3, 123, 0, 0), (34, .aload_n 0, 1, 0, 0, 0), (35, .iload_n 2, 1, 0, 0, 0), (36, .iload_n 3, 1, 0, 0, 0), (37, .iload_n 1, 1, 0, 0, 0), (38, .invokevirtual 193, 3, 119, 24692, 1824), (41, .aload_n 0, 1, 0, 0, 0), (42, .getfield 26, 3, 6, 11, 707), (45, .iconst 0, 1, 0, 0, 0)]
set_option maxRecDepth 100000 in
theorem zk_X6_findReps_2 : zl_X6_findReps_2.all (zgoodB zmt zm_X6_findReps) = true := by decide +kernel
def zl_X6_findReps_3 : List (Nat × zE) := [(46, .iaload, 1, 0, 0, 0), (47, .iload_n 2, 1, 0, 0, 0), (48, .if_icmp .ne 75, 3, 123, 0, 0), (51, .aload_n 0, 1, 0, 0, 0), (52, .getfield 29, 3, 6, 12, 708), (55, .iconst 0, 1, 0, 0, 0), (56, .iaload, 1, 0, 0, 0), (57, .iload_n 3, 1, 0, 0, 0), (58, .if_icmp .eq 6, 3, 64, 0, 0), (61, .goto 62, 3, 123, 0, 0)]
set_option maxRecDepth 100000 in
theorem zk_X6_findReps_3 : zl_X6_findReps_3.all (zgoodB zmt zm_X6_findReps) = true := by decide +kernel
def zl_X6_findReps_4 : List (Nat × zE) := [(64, .aload_n 0, 1, 0, 0, 0), (65, .getfield 65, 3, 6, 25, 721), (68, .aload_n 0, 1, 0, 0, 0), (69, .getfield 226, 3, 6, 29, 725), (72, .iload_n 2, 1, 0, 0, 0), (73, .iastore, 1, 0, 0, 0), (74, .aload_n 0, 1, 0, 0, 0), (75, .getfield 68, 3, 6, 26, 722), (78, .aload_n 0, 1, 0, 0, 0), (79, .getfield 226, 3, 6, 29, 725)]
set_option maxRecDepth 100000 in
theorem zk_X6_findReps_4 : zl_X6_findReps_4.all (zgoodB zmt zm_X6_findReps) = true := by decide +kernel
def zl_X6_findReps_5 : List (Nat × zE) := [(82, .iload_n 3, 1, 0, 0, 0), (83, .iastore, 1, 0, 0, 0), (84, .aload_n 0, 1, 0, 0, 0), (85, .getfield 71, 3, 6, 27, 723), (88, .aload_n 0, 1, 0, 0, 0), (89, .getfield 226, 3, 6, 29, 725), (92, .aload_n 0, 1, 0, 0, 0), (93, .getfield 163, 3, 6, 13, 709), (96, .iastore, 1, 0, 0, 0), (97, .aload_n 0, 1, 0, 0, 0)]
set_option maxRecDepth 100000 in
theorem zk_X6_findReps_5 : zl_X6_findReps_5.all (zgoodB zmt zm_X6_findReps) = true := by decide +kernel
def zl_X6_findReps_6 : List (Nat × zE) := [(98, .getfield 74, 3, 6, 28, 724), (101, .aload_n 0, 1, 0, 0, 0), (102, .getfield 226, 3, 6, 29, 725), (105, .aload_n 0, 1, 0, 0, 0), (106, .iload_n 2, 1, 0, 0, 0), (107, .iload_n 3, 1, 0, 0, 0), (108, .iload_n 1, 1, 0, 0, 0), (109, .invokevirtual 229, 3, 141, 24660, 1998), (112, .iastore, 1, 0, 0, 0), (113, .aload_n 0, 1, 0, 0, 0)]
set_option maxRecDepth 100000 in
theorem zk_X6_findReps_6 : zl_X6_findReps_6.all (zgoodB zmt zm_X6_findReps) = true := by decide +kernel
def zl_X6_findReps_7 : List (Nat × zE) := [(114, .dup, 1, 0, 0, 0), (115, .getfield 226, 3, 6, 29, 725), (118, .iconst 1, 1, 0, 0, 0), (119, .iadd, 1, 0, 0, 0), (120, .putfield 226, 3, 6, 29, 725), (123, .iinc 3 1, 3, 0, 0, 0), (126, .goto (-110), 3, 16, 0, 0), (129, .iinc 2 1, 3, 0, 0, 0), (132, .goto (-124), 3, 8, 0, 0), (135, .return_, 1, 0, 0, 0)]
set_option maxRecDepth 100000 in
theorem zk_X6_findReps_7 : zl_X6_findReps_7.all (zgoodB zmt zm_X6_findReps) = true := by decide +kernel
def zp_X6_findReps : Nat → Option zE := (ztr 64 (ztr 28 (ztr 14 (zlf zl_X6_findReps_0) (zlf zl_X6_findReps_1)) (ztr 46 (zlf zl_X6_findReps_2) (zlf zl_X6_findReps_3))) (ztr 98 (ztr 82 (zlf zl_X6_findReps_4) (zlf zl_X6_findReps_5)) (ztr 114 (zlf zl_X6_findReps_6) (zlf zl_X6_findReps_7))))
theorem za_X6_findReps : zall (zgood zmt zm_X6_findReps) zp_X6_findReps := (zall_tr (zall_tr (zall_tr (zall_lf zl_X6_findReps_0 zk_X6_findReps_0) (zall_lf zl_X6_findReps_1 zk_X6_findReps_1)) (zall_tr (zall_lf zl_X6_findReps_2 zk_X6_findReps_2) (zall_lf zl_X6_findReps_3 zk_X6_findReps_3))) (zall_tr (zall_tr (zall_lf zl_X6_findReps_4 zk_X6_findReps_4) (zall_lf zl_X6_findReps_5 zk_X6_findReps_5)) (zall_tr (zall_lf zl_X6_findReps_6 zk_X6_findReps_6) (zall_lf zl_X6_findReps_7 zk_X6_findReps_7))))
def zl_X6_haveWeights_0 : List (Nat × zE) := [(0, .aload_n 0, 1, 0, 0, 0), (1, .getfield 74, 3, 6, 28, 724), (4, .iload_n 2, 1, 0, 0, 0), (5, .iaload, 1, 0, 0, 0), (6, .aload_n 0, 1, 0, 0, 0), (7, .getfield 74, 3, 6, 28, 724), (10, .iload_n 1, 1, 0, 0, 0), (11, .iaload, 1, 0, 0, 0), (12, .isub, 1, 0, 0, 0), (13, .i2l, 1, 0, 0, 0)]
set_option maxRecDepth 100000 in
theorem zk_X6_haveWeights_0 : zl_X6_haveWeights_0.all (zgoodB zmt zm_X6_haveWeights) = true := by decide +kernel
def zl_X6_haveWeights_1 : List (Nat × zE) := [(14, .lstore 4, 2, 0, 0, 0), (16, .lload 4, 2, 0, 0, 0), (18, .lconst 0, 1, 0, 0, 0), (19, .lcmp, 1, 0, 0, 0), (20, .ifCond .ne 5, 3, 25, 0, 0), (23, .iconst 0, 1, 0, 0, 0), (24, .ireturn, 1, 1, 0, 0), (25, .aload_n 0, 1, 0, 0, 0), (26, .getfield 126, 3, 6, 4, 700), (29, .ifCond .ne 9, 3, 38, 0, 0)]
set_option maxRecDepth 100000 in
theorem zk_X6_haveWeights_1 : zl_X6_haveWeights_1.all (zgoodB zmt zm_X6_haveWeights) = true := by decide +kernel
def zl_X6_haveWeights_2 : List (Nat × zE) := [(32, .ldc2_w 122, 3, 12, 0, 825), (35, .goto 20, 3, 55, 0, 0), (38, .aload_n 0, 1, 0, 0, 0), (39, .getfield 126, 3, 6, 4, 700), (42, .iconst 1, 1, 0, 0, 0), (43, .if_icmp .ne 9, 3, 52, 0, 0), (46, .ldc2_w 116, 3, 2, 0, 821), (49, .goto 6, 3, 55, 0, 0), (52, .ldc2_w 222, 3, 6, 0, 977), (55, .lstore 6, 2, 0, 0, 0)]
set_option maxRecDepth 100000 in
theorem zk_X6_haveWeights_2 : zl_X6_haveWeights_2.all (zgoodB zmt zm_X6_haveWeights) = true := by decide +kernel
def zl_X6_haveWeights_3 : List (Nat × zE) := [(57, .aload_n 0, 1, 0, 0, 0), (58, .getfield 126, 3, 6, 4, 700), (61, .ifCond .ne 9, 3, 70, 0, 0), (64, .ldc2_w 232, 3, 8, 0, 1007), (67, .goto 18, 3, 85, 0, 0), (70, .aload_n 0, 1, 0, 0, 0), (71, .getfield 126, 3, 6, 4, 700), (74, .iconst 1, 1, 0, 0, 0), (75, .if_icmp .ne 7, 3, 82, 0, 0), (78, .lconst 1, 1, 0, 0, 0)]
set_option maxRecDepth 100000 in
theorem zk_X6_haveWeights_3 : zl_X6_haveWeights_3.all (zgoodB zmt zm_X6_haveWeights) = true := by decide +kernel
def zl_X6_haveWeights_4 : List (Nat × zE) := [(79, .goto 6, 3, 85, 0, 0), (82, .ldc2_w 116, 3, 2, 0, 821), (85, .lstore 8, 2, 0, 0, 0), (87, .aload_n 0, 1, 0, 0, 0), (88, .getfield 126, 3, 6, 4, 700), (91, .iconst 1, 1, 0, 0, 0), (92, .if_icmp .ne 9, 3, 101, 0, 0), (95, .ldc2_w 129, 3, 4, 0, 852), (98, .goto 6, 3, 104, 0, 0), (101, .ldc2_w 197, 3, 3, 0, 924)]
set_option maxRecDepth 100000 in
theorem zk_X6_haveWeights_4 : zl_X6_haveWeights_4.all (zgoodB zmt zm_X6_haveWeights) = true := by decide +kernel
def zl_X6_haveWeights_5 : List (Nat × zE) := [(104, .lstore 10, 2, 0, 0, 0), (106, .aload_n 0, 1, 0, 0, 0), (107, .getfield 74, 3, 6, 28, 724), (110, .iload_n 2, 1, 0, 0, 0), (111, .iaload, 1, 0, 0, 0), (112, .i2l, 1, 0, 0, 0), (113, .lload 6, 2, 0, 0, 0), (115, .lmul, 1, 0, 0, 0), (116, .lload 8, 2, 0, 0, 0), (118, .iload_n 3, 1, 0, 0, 0)]
set_option maxRecDepth 100000 in
theorem zk_X6_haveWeights_5 : zl_X6_haveWeights_5.all (zgoodB zmt zm_X6_haveWeights) = true := by decide +kernel
def zl_X6_haveWeights_6 : List (Nat × zE) := [(119, .i2l, 1, 0, 0, 0), (120, .lmul, 1, 0, 0, 0), (121, .iload_n 3, 1, 0, 0, 0), (122, .i2l, 1, 0, 0, 0), (123, .lmul, 1, 0, 0, 0), (124, .lsub, 1, 0, 0, 0), (125, .lstore 12, 2, 0, 0, 0), (127, .lload 8, 2, 0, 0, 0), (129, .iload_n 3, 1, 0, 0, 0), (130, .i2l, 1, 0, 0, 0)]
set_option maxRecDepth 100000 in
theorem zk_X6_haveWeights_6 : zl_X6_haveWeights_6.all (zgoodB zmt zm_X6_haveWeights) = true := by decide +kernel
def zl_X6_haveWeights_7 : List (Nat × zE) := [(131, .lmul, 1, 0, 0, 0), (132, .iload_n 3, 1, 0, 0, 0), (133, .i2l, 1, 0, 0, 0), (134, .lmul, 1, 0, 0, 0), (135, .aload_n 0, 1, 0, 0, 0), (136, .getfield 74, 3, 6, 28, 724), (139, .iload_n 1, 1, 0, 0, 0), (140, .iaload, 1, 0, 0, 0), (141, .i2l, 1, 0, 0, 0), (142, .lload 6, 2, 0, 0, 0)]
set_option maxRecDepth 100000 in
theorem zk_X6_haveWeights_7 : zl_X6_haveWeights_7.all (zgoodB zmt zm_X6_haveWeights) = true := by decide +kernel
def zl_X6_haveWeights_8 : List (Nat × zE) := [(144, .lmul, 1, 0, 0, 0), (145, .lsub, 1, 0, 0, 0), (146, .lstore 14, 2, 0, 0, 0), (148, .lload 10, 2, 0, 0, 0), (150, .aload_n 0, 1, 0, 0, 0), (151, .getfield 71, 3, 6, 27, 723), (154, .iload_n 1, 1, 0, 0, 0), (155, .iaload, 1, 0, 0, 0), (156, .i2l, 1, 0, 0, 0), (157, .lmul, 1, 0, 0, 0)]
set_option maxRecDepth 100000 in
theorem zk_X6_haveWeights_8 : zl_X6_haveWeights_8.all (zgoodB zmt zm_X6_haveWeights) = true := by decide +kernel
def zl_X6_haveWeights_9 : List (Nat × zE) := [(158, .lload 4, 2, 0, 0, 0), (160, .lmul, 1, 0, 0, 0), (161, .lstore 16, 2, 0, 0, 0), (163, .lload 10, 2, 0, 0, 0), (165, .aload_n 0, 1, 0, 0, 0), (166, .getfield 71, 3, 6, 27, 723), (169, .iload_n 2, 1, 0, 0, 0), (170, .iaload, 1, 0, 0, 0), (171, .i2l, 1, 0, 0, 0), (172, .lmul, 1, 0, 0, 0)]
set_option maxRecDepth 100000 in
theorem zk_X6_haveWeights_9 : zl_X6_haveWeights_9.all (zgoodB zmt zm_X6_haveWeights) = true := by decide +kernel
def zl_X6_haveWeights_10 : List (Nat × zE) := [(173, .lload 4, 2, 0, 0, 0), (175, .lmul, 1, 0, 0, 0), (176, .lstore 18, 2, 0, 0, 0), (178, .lload 4, 2, 0, 0, 0), (180, .lconst 0, 1, 0, 0, 0), (181, .lcmp, 1, 0, 0, 0), (182, .ifCond .ge 23, 3, 205, 0, 0), (185, .lload 12, 2, 0, 0, 0), (187, .lneg, 1, 0, 0, 0), (188, .lstore 12, 2, 0, 0, 0)]
set_option maxRecDepth 100000 in
theorem zk_X6_haveWeights_10 : zl_X6_haveWeights_10.all (zgoodB zmt zm_X6_haveWeights) = true := by decide +kernel
def zl_X6_haveWeights_11 : List (Nat × zE) := [(190, .lload 14, 2, 0, 0, 0), (192, .lneg, 1, 0, 0, 0), (193, .lstore 14, 2, 0, 0, 0), (195, .lload 16, 2, 0, 0, 0), (197, .lneg, 1, 0, 0, 0), (198, .lstore 16, 2, 0, 0, 0), (200, .lload 18, 2, 0, 0, 0), (202, .lneg, 1, 0, 0, 0), (203, .lstore 18, 2, 0, 0, 0), (205, .lload 12, 2, 0, 0, 0)]
set_option maxRecDepth 100000 in
theorem zk_X6_haveWeights_11 : zl_X6_haveWeights_11.all (zgoodB zmt zm_X6_haveWeights) = true := by decide +kernel
def zl_X6_haveWeights_12 : List (Nat × zE) := [(207, .lconst 0, 1, 0, 0, 0), (208, .lcmp, 1, 0, 0, 0), (209, .ifCond .le 10, 3, 219, 0, 0), (212, .lload 14, 2, 0, 0, 0), (214, .lconst 0, 1, 0, 0, 0), (215, .lcmp, 1, 0, 0, 0), (216, .ifCond .gt 5, 3, 221, 0, 0), (219, .iconst 0, 1, 0, 0, 0), (220, .ireturn, 1, 1, 0, 0), (221, .lload 12, 2, 0, 0, 0)]
set_option maxRecDepth 100000 in
theorem zk_X6_haveWeights_12 : zl_X6_haveWeights_12.all (zgoodB zmt zm_X6_haveWeights) = true := by decide +kernel
def zl_X6_haveWeights_13 : List (Nat × zE) := [(223, .lload 16, 2, 0, 0, 0), (225, .invokestatic 98, 3, 102, 24738, 1692), (228, .lstore 20, 2, 0, 0, 0), (230, .lload 14, 2, 0, 0, 0), (232, .lload 18, 2, 0, 0, 0), (234, .invokestatic 98, 3, 102, 24738, 1692), (237, .lstore 22, 2, 0, 0, 0), (239, .aload_n 0, 1, 0, 0, 0), (240, .lload 16, 2, 0, 0, 0), (242, .lload 20, 2, 0, 0, 0)]
set_option maxRecDepth 100000 in
theorem zk_X6_haveWeights_13 : zl_X6_haveWeights_13.all (zgoodB zmt zm_X6_haveWeights) = true := by decide +kernel
def zl_X6_haveWeights_14 : List (Nat × zE) := [(244, .ldiv, 1, 0, 0, 0), (245, .lload 16, 2, 0, 0, 0), (247, .lload 20, 2, 0, 0, 0), (249, .ldiv, 1, 0, 0, 0), (250, .lload 18, 2, 0, 0, 0), (252, .lload 22, 2, 0, 0, 0), (254, .ldiv, 1, 0, 0, 0), (255, .invokestatic 98, 3, 102, 24738, 1692), (258, .ldiv, 1, 0, 0, 0), (259, .lload 18, 2, 0, 0, 0)]
set_option maxRecDepth 100000 in
theorem zk_X6_haveWeights_14 : zl_X6_haveWeights_14.all (zgoodB zmt zm_X6_haveWeights) = true := by decide +kernel
def zl_X6_haveWeights_15 : List (Nat × zE) := [(261, .lload 22, 2, 0, 0, 0), (263, .ldiv, 1, 0, 0, 0), (264, .lmul, 1, 0, 0, 0), (265, .putfield 234, 3, 22, 30, 726), (268, .aload_n 0, 1, 0, 0, 0), (269, .lload 12, 2, 0, 0, 0), (271, .lload 20, 2, 0, 0, 0), (273, .ldiv, 1, 0, 0, 0), (274, .aload_n 0, 1, 0, 0, 0), (275, .getfield 234, 3, 6, 30, 726)]
set_option maxRecDepth 100000 in
theorem zk_X6_haveWeights_15 : zl_X6_haveWeights_15.all (zgoodB zmt zm_X6_haveWeights) = true := by decide +kernel
def zl_X6_haveWeights_16 : List (Nat × zE) := [(278, .lload 16, 2, 0, 0, 0), (280, .lload 20, 2, 0, 0, 0), (282, .ldiv, 1, 0, 0, 0), (283, .ldiv, 1, 0, 0, 0), (284, .lmul, 1, 0, 0, 0), (285, .putfield 237, 3, 22, 31, 727), (288, .aload_n 0, 1, 0, 0, 0), (289, .lload 14, 2, 0, 0, 0), (291, .lload 22, 2, 0, 0, 0), (293, .ldiv, 1, 0, 0, 0)]
set_option maxRecDepth 100000 in
theorem zk_X6_haveWeights_16 : zl_X6_haveWeights_16.all (zgoodB zmt zm_X6_haveWeights) = true := by decide +kernel
def zl_X6_haveWeights_17 : List (Nat × zE) := [(294, .aload_n 0, 1, 0, 0, 0), (295, .getfield 234, 3, 6, 30, 726), (298, .lload 18, 2, 0, 0, 0), (300, .lload 22, 2, 0, 0, 0), (302, .ldiv, 1, 0, 0, 0), (303, .ldiv, 1, 0, 0, 0), (304, .lmul, 1, 0, 0, 0), (305, .putfield 240, 3, 22, 32, 728), (308, .aload_n 0, 1, 0, 0, 0), (309, .getfield 234, 3, 6, 30, 726)]
set_option maxRecDepth 100000 in
theorem zk_X6_haveWeights_17 : zl_X6_haveWeights_17.all (zgoodB zmt zm_X6_haveWeights) = true := by decide +kernel
def zl_X6_haveWeights_18 : List (Nat × zE) := [(312, .ldc2_w 124, 3, 10000, 0, 826), (315, .lcmp, 1, 0, 0, 0), (316, .ifCond .gt 29, 3, 345, 0, 0), (319, .aload_n 0, 1, 0, 0, 0), (320, .getfield 237, 3, 6, 31, 727), (323, .ldc2_w 124, 3, 10000, 0, 826), (326, .lcmp, 1, 0, 0, 0), (327, .ifCond .gt 18, 3, 345, 0, 0), (330, .aload_n 0, 1, 0, 0, 0), (331, .getfield 240, 3, 6, 32, 728)]
set_option maxRecDepth 100000 in
theorem zk_X6_haveWeights_18 : zl_X6_haveWeights_18.all (zgoodB zmt zm_X6_haveWeights) = true := by decide +kernel
def zl_X6_haveWeights_19 : List (Nat × zE) := [(334, .ldc2_w 124, 3, 10000, 0, 826), (337, .lcmp, 1, 0, 0, 0), (338, .ifCond .gt 7, 3, 345, 0, 0), (341, .iconst 1, 1, 0, 0, 0), (342, .goto 4, 3, 346, 0, 0), (345, .iconst 0, 1, 0, 0, 0), (346, .ireturn, 1, 1, 0, 0)]
set_option maxRecDepth 100000 in
theorem zk_X6_haveWeights_19 : zl_X6_haveWeights_19.all (zgoodB zmt zm_X6_haveWeights) = true := by decide +kernel
def zp_X6_haveWeights : Nat → Option zE := (ztr 173 (ztr 104 (ztr 32 (ztr 14 (zlf zl_X6_haveWeights_0) (zlf zl_X6_haveWeights_1)) (ztr 57 (zlf zl_X6_haveWeights_2) (ztr 79 (zlf zl_X6_haveWeights_3) (zlf zl_X6_haveWeights_4)))) (ztr 131 (ztr 119 (zlf zl_X6_haveWeights_5) (zlf zl_X6_haveWeights_6)) (ztr 144 (zlf zl_X6_haveWeights_7) (ztr 158 (zlf zl_X6_haveWeights_8) (zlf zl_X6_haveWeights_9))))) (ztr 261 (ztr 207 (ztr 190 (zlf zl_X6_haveWeights_10) (zlf zl_X6_haveWeights_11)) (ztr 223 (zlf zl_X6_haveWeights_12) (ztr 244 (zlf zl_X6_haveWeights_13) (zlf zl_X6_haveWeights_14)))) (ztr 294 (ztr 278 (zlf zl_X6_haveWeights_15) (zlf zl_X6_haveWeights_16)) (ztr 312 (zlf zl_X6_haveWeights_17) (ztr 334 (zlf zl_X6_haveWeights_18) (zlf zl_X6_haveWeights_19))))))
theorem za_X6_haveWeights : zall (zgood zmt zm_X6_haveWeights) zp_X6_haveWeights := (zall_tr (zall_tr (zall_tr (zall_tr (zall_lf zl_X6_haveWeights_0 zk_X6_haveWeights_0) (zall_lf zl_X6_haveWeights_1 zk_X6_haveWeights_1)) (zall_tr (zall_lf zl_X6_haveWeights_2 zk_X6_haveWeights_2) (zall_tr (zall_lf zl_X6_haveWeights_3 zk_X6_haveWeights_3) (zall_lf zl_X6_haveWeights_4 zk_X6_haveWeights_4)))) (zall_tr (zall_tr (zall_lf zl_X6_haveWeights_5 zk_X6_haveWeights_5) (zall_lf zl_X6_haveWeights_6 zk_X6_haveWeights_6)) (zall_tr (zall_lf zl_X6_haveWeights_7 zk_X6_haveWeights_7) (zall_tr (zall_lf zl_X6_haveWeights_8 zk_X6_haveWeights_8) (zall_lf zl_X6_haveWeights_9 zk_X6_haveWeights_9))))) (zall_tr (zall_tr (zall_tr (zall_lf zl_X6_haveWeights_10 zk_X6_haveWeights_10) (zall_lf zl_X6_haveWeights_11 zk_X6_haveWeights_11)) (zall_tr (zall_lf zl_X6_haveWeights_12 zk_X6_haveWeights_12) (zall_tr (zall_lf zl_X6_haveWeights_13 zk_X6_haveWeights_13) (zall_lf zl_X6_haveWeights_14 zk_X6_haveWeights_14)))) (zall_tr (zall_tr (zall_lf zl_X6_haveWeights_15 zk_X6_haveWeights_15) (zall_lf zl_X6_haveWeights_16 zk_X6_haveWeights_16)) (zall_tr (zall_lf zl_X6_haveWeights_17 zk_X6_haveWeights_17) (zall_tr (zall_lf zl_X6_haveWeights_18 zk_X6_haveWeights_18) (zall_lf zl_X6_haveWeights_19 zk_X6_haveWeights_19))))))
def zl_X6_layPair_0 : List (Nat × zE) := [(0, .aload_n 0, 1, 0, 0, 0), (1, .iload_n 3, 1, 0, 0, 0), (2, .putfield 7, 3, 6, 5, 701), (5, .aload_n 0, 1, 0, 0, 0), (6, .aload_n 0, 1, 0, 0, 0), (7, .getfield 234, 3, 6, 30, 726), (10, .l2i, 1, 0, 0, 0), (11, .putfield 13, 3, 6, 6, 702), (14, .aload_n 0, 1, 0, 0, 0), (15, .iconst 0, 1, 0, 0, 0)]
set_option maxRecDepth 100000 in
theorem zk_X6_layPair_0 : zl_X6_layPair_0.all (zgoodB zmt zm_X6_layPair) = true := by decide +kernel
def zl_X6_layPair_1 : List (Nat × zE) := [(16, .putfield 113, 3, 6, 7, 703), (19, .iconst 0, 1, 0, 0, 0), (20, .istore 4, 2, 0, 0, 0), (22, .iload 4, 2, 0, 0, 0), (24, .iconst 2, 1, 0, 0, 0), (25, .if_icmp .ge 130, 3, 155, 0, 0), (28, .aload_n 0, 1, 0, 0, 0), (29, .aload_n 0, 1, 0, 0, 0), (30, .getfield 65, 3, 6, 25, 721), (33, .iload 4, 2, 0, 0, 0)]
set_option maxRecDepth 100000 in
theorem zk_X6_layPair_1 : zl_X6_layPair_1.all (zgoodB zmt zm_X6_layPair) = true := by decide +kernel
def zl_X6_layPair_2 : List (Nat × zE) := [(35, .ifCond .ne 7, 3, 42, 0, 0), (38, .iload_n 1, 1, 0, 0, 0), (39, .goto 4, 3, 43, 0, 0), (42, .iload_n 2, 1, 0, 0, 0), (43, .iaload, 1, 0, 0, 0), (44, .aload_n 0, 1, 0, 0, 0), (45, .getfield 68, 3, 6, 26, 722), (48, .iload 4, 2, 0, 0, 0), (50, .ifCond .ne 7, 3, 57, 0, 0), (53, .iload_n 1, 1, 0, 0, 0)]
set_option maxRecDepth 100000 in
theorem zk_X6_layPair_2 : zl_X6_layPair_2.all (zgoodB zmt zm_X6_layPair) = true := by decide +kernel
def zl_X6_layPair_3 : List (Nat × zE) := [(54, .goto 4, 3, 58, 0, 0), (57, .iload_n 2, 1, 0, 0, 0), (58, .iaload, 1, 0, 0, 0), (59, .iload_n 3, 1, 0, 0, 0), (60, .invokevirtual 193, 3, 119, 24692, 1824), (63, .iconst 0, 1, 0, 0, 0), (64, .istore 5, 2, 0, 0, 0), (66, .iload 5, 2, 0, 0, 0), (68, .aload_n 0, 1, 0, 0, 0), (69, .getfield 163, 3, 6, 13, 709)]
set_option maxRecDepth 100000 in
theorem zk_X6_layPair_3 : zl_X6_layPair_3.all (zgoodB zmt zm_X6_layPair) = true := by decide +kernel
def zl_X6_layPair_4 : List (Nat × zE) := [(72, .if_icmp .ge 77, 3, 149, 0, 0), (75, .aload_n 0, 1, 0, 0, 0), (76, .getfield 16, 3, 6, 8, 704), (79, .aload_n 0, 1, 0, 0, 0), (80, .getfield 113, 3, 6, 7, 703), (83, .aload_n 0, 1, 0, 0, 0), (84, .getfield 26, 3, 6, 11, 707), (87, .iload 5, 2, 0, 0, 0), (89, .iaload, 1, 0, 0, 0), (90, .iastore, 1, 0, 0, 0)]
set_option maxRecDepth 100000 in
theorem zk_X6_layPair_4 : zl_X6_layPair_4.all (zgoodB zmt zm_X6_layPair) = true := by decide +kernel
def zl_X6_layPair_5 : List (Nat × zE) := [(91, .aload_n 0, 1, 0, 0, 0), (92, .getfield 20, 3, 6, 9, 705), (95, .aload_n 0, 1, 0, 0, 0), (96, .getfield 113, 3, 6, 7, 703), (99, .aload_n 0, 1, 0, 0, 0), (100, .getfield 29, 3, 6, 12, 708), (103, .iload 5, 2, 0, 0, 0), (105, .iaload, 1, 0, 0, 0), (106, .iastore, 1, 0, 0, 0), (107, .aload_n 0, 1, 0, 0, 0)]
set_option maxRecDepth 100000 in
theorem zk_X6_layPair_5 : zl_X6_layPair_5.all (zgoodB zmt zm_X6_layPair) = true := by decide +kernel
def zl_X6_layPair_6 : List (Nat × zE) := [(108, .getfield 23, 3, 6, 10, 706), (111, .aload_n 0, 1, 0, 0, 0), (112, .getfield 113, 3, 6, 7, 703), (115, .iload 4, 2, 0, 0, 0), (117, .ifCond .ne 10, 3, 127, 0, 0), (120, .aload_n 0, 1, 0, 0, 0), (121, .getfield 237, 3, 6, 31, 727), (124, .goto 7, 3, 131, 0, 0), (127, .aload_n 0, 1, 0, 0, 0), (128, .getfield 240, 3, 6, 32, 728)]
set_option maxRecDepth 100000 in
theorem zk_X6_layPair_6 : zl_X6_layPair_6.all (zgoodB zmt zm_X6_layPair) = true := by decide +kernel
def zl_X6_layPair_7 : List (Nat × zE) := [(131, .l2i, 1, 0, 0, 0), (132, .iastore, 1, 0, 0, 0), (133, .aload_n 0, 1, 0, 0, 0), (134, .dup, 1, 0, 0, 0), (135, .getfield 113, 3, 6, 7, 703), (138, .iconst 1, 1, 0, 0, 0), (139, .iadd, 1, 0, 0, 0), (140, .putfield 113, 3, 6, 7, 703), (143, .iinc 5 1, 3, 0, 0, 0), (146, .goto (-80), 3, 66, 0, 0)]
set_option maxRecDepth 100000 in
theorem zk_X6_layPair_7 : zl_X6_layPair_7.all (zgoodB zmt zm_X6_layPair) = true := by decide +kernel
def zl_X6_layPair_8 : List (Nat × zE) := [(149, .iinc 4 1, 3, 0, 0, 0), (152, .goto (-130), 3, 22, 0, 0), (155, .return_, 1, 0, 0, 0)]
set_option maxRecDepth 100000 in
theorem zk_X6_layPair_8 : zl_X6_layPair_8.all (zgoodB zmt zm_X6_layPair) = true := by decide +kernel
def zp_X6_layPair : Nat → Option zE := (ztr 72 (ztr 35 (ztr 16 (zlf zl_X6_layPair_0) (zlf zl_X6_layPair_1)) (ztr 54 (zlf zl_X6_layPair_2) (zlf zl_X6_layPair_3))) (ztr 108 (ztr 91 (zlf zl_X6_layPair_4) (zlf zl_X6_layPair_5)) (ztr 131 (zlf zl_X6_layPair_6) (ztr 149 (zlf zl_X6_layPair_7) (zlf zl_X6_layPair_8)))))
theorem za_X6_layPair : zall (zgood zmt zm_X6_layPair) zp_X6_layPair := (zall_tr (zall_tr (zall_tr (zall_lf zl_X6_layPair_0 zk_X6_layPair_0) (zall_lf zl_X6_layPair_1 zk_X6_layPair_1)) (zall_tr (zall_lf zl_X6_layPair_2 zk_X6_layPair_2) (zall_lf zl_X6_layPair_3 zk_X6_layPair_3))) (zall_tr (zall_tr (zall_lf zl_X6_layPair_4 zk_X6_layPair_4) (zall_lf zl_X6_layPair_5 zk_X6_layPair_5)) (zall_tr (zall_lf zl_X6_layPair_6 zk_X6_layPair_6) (zall_tr (zall_lf zl_X6_layPair_7 zk_X6_layPair_7) (zall_lf zl_X6_layPair_8 zk_X6_layPair_8)))))
def zl_X6_putAside_0 : List (Nat × zE) := [(0, .aload_n 0, 1, 0, 0, 0), (1, .aload_n 0, 1, 0, 0, 0), (2, .getfield 113, 3, 6, 7, 703), (5, .putfield 243, 3, 6, 33, 729), (8, .aload_n 0, 1, 0, 0, 0), (9, .aload_n 0, 1, 0, 0, 0), (10, .getfield 7, 3, 6, 5, 701), (13, .putfield 246, 3, 6, 34, 730), (16, .aload_n 0, 1, 0, 0, 0), (17, .aload_n 0, 1, 0, 0, 0)]
set_option maxRecDepth 100000 in
theorem zk_X6_putAside_0 : zl_X6_putAside_0.all (zgoodB zmt zm_X6_putAside) = true := by decide +kernel
def zl_X6_putAside_1 : List (Nat × zE) := [(18, .getfield 13, 3, 6, 6, 702), (21, .putfield 249, 3, 6, 35, 731), (24, .iconst 0, 1, 0, 0, 0), (25, .istore_n 1, 1, 0, 0, 0), (26, .iload_n 1, 1, 0, 0, 0), (27, .aload_n 0, 1, 0, 0, 0), (28, .getfield 113, 3, 6, 7, 703), (31, .if_icmp .ge 45, 3, 76, 0, 0), (34, .aload_n 0, 1, 0, 0, 0), (35, .getfield 77, 3, 6, 36, 732)]
set_option maxRecDepth 100000 in
theorem zk_X6_putAside_1 : zl_X6_putAside_1.all (zgoodB zmt zm_X6_putAside) = true := by decide +kernel
def zl_X6_putAside_2 : List (Nat × zE) := [(38, .iload_n 1, 1, 0, 0, 0), (39, .aload_n 0, 1, 0, 0, 0), (40, .getfield 16, 3, 6, 8, 704), (43, .iload_n 1, 1, 0, 0, 0), (44, .iaload, 1, 0, 0, 0), (45, .iastore, 1, 0, 0, 0), (46, .aload_n 0, 1, 0, 0, 0), (47, .getfield 80, 3, 6, 37, 733), (50, .iload_n 1, 1, 0, 0, 0), (51, .aload_n 0, 1, 0, 0, 0)]
set_option maxRecDepth 100000 in
theorem zk_X6_putAside_2 : zl_X6_putAside_2.all (zgoodB zmt zm_X6_putAside) = true := by decide +kernel
def zl_X6_putAside_3 : List (Nat × zE) := [(52, .getfield 20, 3, 6, 9, 705), (55, .iload_n 1, 1, 0, 0, 0), (56, .iaload, 1, 0, 0, 0), (57, .iastore, 1, 0, 0, 0), (58, .aload_n 0, 1, 0, 0, 0), (59, .getfield 83, 3, 6, 38, 734), (62, .iload_n 1, 1, 0, 0, 0), (63, .aload_n 0, 1, 0, 0, 0), (64, .getfield 23, 3, 6, 10, 706), (67, .iload_n 1, 1, 0, 0, 0)]
set_option maxRecDepth 100000 in
theorem zk_X6_putAside_3 : zl_X6_putAside_3.all (zgoodB zmt zm_X6_putAside) = true := by decide +kernel
def zl_X6_putAside_4 : List (Nat × zE) := [(68, .iaload, 1, 0, 0, 0), (69, .iastore, 1, 0, 0, 0), (70, .iinc 1 1, 3, 0, 0, 0), (73, .goto (-47), 3, 26, 0, 0), (76, .return_, 1, 0, 0, 0)]
set_option maxRecDepth 100000 in
theorem zk_X6_putAside_4 : zl_X6_putAside_4.all (zgoodB zmt zm_X6_putAside) = true := by decide +kernel
def zp_X6_putAside : Nat → Option zE := (ztr 38 (ztr 18 (zlf zl_X6_putAside_0) (zlf zl_X6_putAside_1)) (ztr 52 (zlf zl_X6_putAside_2) (ztr 68 (zlf zl_X6_putAside_3) (zlf zl_X6_putAside_4))))
theorem za_X6_putAside : zall (zgood zmt zm_X6_putAside) zp_X6_putAside := (zall_tr (zall_tr (zall_lf zl_X6_putAside_0 zk_X6_putAside_0) (zall_lf zl_X6_putAside_1 zk_X6_putAside_1)) (zall_tr (zall_lf zl_X6_putAside_2 zk_X6_putAside_2) (zall_tr (zall_lf zl_X6_putAside_3 zk_X6_putAside_3) (zall_lf zl_X6_putAside_4 zk_X6_putAside_4))))
def zl_X6_takeBack_0 : List (Nat × zE) := [(0, .aload_n 0, 1, 0, 0, 0), (1, .aload_n 0, 1, 0, 0, 0), (2, .getfield 243, 3, 6, 33, 729), (5, .putfield 113, 3, 6, 7, 703), (8, .aload_n 0, 1, 0, 0, 0), (9, .aload_n 0, 1, 0, 0, 0), (10, .getfield 246, 3, 6, 34, 730), (13, .putfield 7, 3, 6, 5, 701), (16, .aload_n 0, 1, 0, 0, 0), (17, .aload_n 0, 1, 0, 0, 0)]
set_option maxRecDepth 100000 in
theorem zk_X6_takeBack_0 : zl_X6_takeBack_0.all (zgoodB zmt zm_X6_takeBack) = true := by decide +kernel
def zl_X6_takeBack_1 : List (Nat × zE) := [(18, .getfield 249, 3, 6, 35, 731), (21, .putfield 13, 3, 6, 6, 702), (24, .iconst 0, 1, 0, 0, 0), (25, .istore_n 1, 1, 0, 0, 0), (26, .iload_n 1, 1, 0, 0, 0), (27, .aload_n 0, 1, 0, 0, 0), (28, .getfield 113, 3, 6, 7, 703), (31, .if_icmp .ge 45, 3, 76, 0, 0), (34, .aload_n 0, 1, 0, 0, 0), (35, .getfield 16, 3, 6, 8, 704)]
set_option maxRecDepth 100000 in
theorem zk_X6_takeBack_1 : zl_X6_takeBack_1.all (zgoodB zmt zm_X6_takeBack) = true := by decide +kernel
def zl_X6_takeBack_2 : List (Nat × zE) := [(38, .iload_n 1, 1, 0, 0, 0), (39, .aload_n 0, 1, 0, 0, 0), (40, .getfield 77, 3, 6, 36, 732), (43, .iload_n 1, 1, 0, 0, 0), (44, .iaload, 1, 0, 0, 0), (45, .iastore, 1, 0, 0, 0), (46, .aload_n 0, 1, 0, 0, 0), (47, .getfield 20, 3, 6, 9, 705), (50, .iload_n 1, 1, 0, 0, 0), (51, .aload_n 0, 1, 0, 0, 0)]
set_option maxRecDepth 100000 in
theorem zk_X6_takeBack_2 : zl_X6_takeBack_2.all (zgoodB zmt zm_X6_takeBack) = true := by decide +kernel
def zl_X6_takeBack_3 : List (Nat × zE) := [(52, .getfield 80, 3, 6, 37, 733), (55, .iload_n 1, 1, 0, 0, 0), (56, .iaload, 1, 0, 0, 0), (57, .iastore, 1, 0, 0, 0), (58, .aload_n 0, 1, 0, 0, 0), (59, .getfield 23, 3, 6, 10, 706), (62, .iload_n 1, 1, 0, 0, 0), (63, .aload_n 0, 1, 0, 0, 0), (64, .getfield 83, 3, 6, 38, 734), (67, .iload_n 1, 1, 0, 0, 0)]
set_option maxRecDepth 100000 in
theorem zk_X6_takeBack_3 : zl_X6_takeBack_3.all (zgoodB zmt zm_X6_takeBack) = true := by decide +kernel
def zl_X6_takeBack_4 : List (Nat × zE) := [(68, .iaload, 1, 0, 0, 0), (69, .iastore, 1, 0, 0, 0), (70, .iinc 1 1, 3, 0, 0, 0), (73, .goto (-47), 3, 26, 0, 0), (76, .return_, 1, 0, 0, 0)]
set_option maxRecDepth 100000 in
theorem zk_X6_takeBack_4 : zl_X6_takeBack_4.all (zgoodB zmt zm_X6_takeBack) = true := by decide +kernel
def zp_X6_takeBack : Nat → Option zE := (ztr 38 (ztr 18 (zlf zl_X6_takeBack_0) (zlf zl_X6_takeBack_1)) (ztr 52 (zlf zl_X6_takeBack_2) (ztr 68 (zlf zl_X6_takeBack_3) (zlf zl_X6_takeBack_4))))
theorem za_X6_takeBack : zall (zgood zmt zm_X6_takeBack) zp_X6_takeBack := (zall_tr (zall_tr (zall_lf zl_X6_takeBack_0 zk_X6_takeBack_0) (zall_lf zl_X6_takeBack_1 zk_X6_takeBack_1)) (zall_tr (zall_lf zl_X6_takeBack_2 zk_X6_takeBack_2) (zall_tr (zall_lf zl_X6_takeBack_3 zk_X6_takeBack_3) (zall_lf zl_X6_takeBack_4 zk_X6_takeBack_4))))
def zl_X6_pair_0 : List (Nat × zE) := [(0, .iload_n 1, 1, 0, 0, 0), (1, .i2l, 1, 0, 0, 0), (2, .lconst 1, 1, 0, 0, 0), (3, .ldc2_w 224, 3, 5, 0, 982), (6, .invokestatic 118, 3, 100, 24675, 1644), (9, .ifCond .eq 15, 3, 24, 0, 0), (12, .iload_n 2, 1, 0, 0, 0), (13, .i2l, 1, 0, 0, 0), (14, .lconst 1, 1, 0, 0, 0), (15, .ldc2_w 222, 3, 6, 0, 977)]
set_option maxRecDepth 100000 in
theorem zk_X6_pair_0 : zl_X6_pair_0.all (zgoodB zmt zm_X6_pair) = true := by decide +kernel
def zl_X6_pair_1 : List (Nat × zE) := [(18, .invokestatic 118, 3, 100, 24675, 1644), (21, .ifCond .ne 6, 3, 27, 0, 0), (24, .bipush (-2), 2, 0, 0, 0), (26, .ireturn, 1, 0, 0, 0), (27, .aload_n 0, 1, 0, 0, 0), (28, .invokevirtual 252, 3, 145, 24609, 1982), (31, .aload_n 0, 1, 0, 0, 0), (32, .iload_n 2, 1, 0, 0, 0), (33, .invokevirtual 255, 3, 142, 24642, 1990), (36, .bipush (-9), 2, 0, 0, 0)]
set_option maxRecDepth 100000 in
theorem zk_X6_pair_1 : zl_X6_pair_1.all (zgoodB zmt zm_X6_pair) = true := by decide +kernel
def zl_X6_pair_2 : List (Nat × zE) := [(38, .istore_n 3, 1, 0, 0, 0), (39, .bipush (-9), 2, 0, 0, 0), (41, .istore 4, 2, 0, 0, 0), (43, .bipush 25, 2, 0, 0, 0), (45, .istore 5, 2, 0, 0, 0), (47, .iconst 0, 1, 0, 0, 0), (48, .istore 6, 2, 0, 0, 0), (50, .iload 6, 2, 0, 0, 0), (52, .aload_n 0, 1, 0, 0, 0), (53, .getfield 226, 3, 6, 29, 725)]
set_option maxRecDepth 100000 in
theorem zk_X6_pair_2 : zl_X6_pair_2.all (zgoodB zmt zm_X6_pair) = true := by decide +kernel
def zl_X6_pair_3 : List (Nat × zE) := [(56, .if_icmp .ge 134, 3, 190, 0, 0), (59, .iload 6, 2, 0, 0, 0), (61, .iconst 1, 1, 0, 0, 0), (62, .iadd, 1, 0, 0, 0), (63, .istore 7, 2, 0, 0, 0), (65, .iload 7, 2, 0, 0, 0), (67, .aload_n 0, 1, 0, 0, 0), (68, .getfield 226, 3, 6, 29, 725), (71, .if_icmp .ge 113, 3, 184, 0, 0), (74, .aload_n 0, 1, 0, 0, 0)]
set_option maxRecDepth 100000 in
theorem zk_X6_pair_3 : zl_X6_pair_3.all (zgoodB zmt zm_X6_pair) = true := by decide +kernel
def zl_X6_pair_4 : List (Nat × zE) := [(75, .getfield 71, 3, 6, 27, 723), (78, .iload 6, 2, 0, 0, 0), (80, .iaload, 1, 0, 0, 0), (81, .aload_n 0, 1, 0, 0, 0), (82, .getfield 71, 3, 6, 27, 723), (85, .iload 7, 2, 0, 0, 0), (87, .iaload, 1, 0, 0, 0), (88, .iadd, 1, 0, 0, 0), (89, .iload 5, 2, 0, 0, 0), (91, .if_icmp .ge 87, 3, 178, 0, 0)]
set_option maxRecDepth 100000 in
theorem zk_X6_pair_4 : zl_X6_pair_4.all (zgoodB zmt zm_X6_pair) = true := by decide +kernel
def zl_X6_pair_5 : List (Nat × zE) := [(94, .aload_n 0, 1, 0, 0, 0), (95, .iload 6, 2, 0, 0, 0), (97, .iload 7, 2, 0, 0, 0), (99, .iload_n 2, 1, 0, 0, 0), (100, .invokevirtual 259, 3, 143, 24964, 2006), (103, .ifCond .ne 6, 3, 109, 0, 0), (106, .goto 72, 3, 178, 0, 0), (109, .aload_n 0, 1, 0, 0, 0), (110, .iload 6, 2, 0, 0, 0), (112, .iload 7, 2, 0, 0, 0)]
set_option maxRecDepth 100000 in
theorem zk_X6_pair_5 : zl_X6_pair_5.all (zgoodB zmt zm_X6_pair) = true := by decide +kernel
def zl_X6_pair_6 : List (Nat × zE) := [(114, .iload_n 2, 1, 0, 0, 0), (115, .invokevirtual 262, 3, 144, 24676, 2016), (118, .iconst 1, 1, 0, 0, 0), (119, .istore 8, 2, 0, 0, 0), (121, .iconst 0, 1, 0, 0, 0), (122, .istore 9, 2, 0, 0, 0), (124, .iload 9, 2, 0, 0, 0), (126, .iload_n 1, 1, 0, 0, 0), (127, .if_icmp .gt 22, 3, 149, 0, 0), (130, .iload 8, 2, 0, 0, 0)]
set_option maxRecDepth 100000 in
theorem zk_X6_pair_6 : zl_X6_pair_6.all (zgoodB zmt zm_X6_pair) = true := by decide +kernel
def zl_X6_pair_7 : List (Nat × zE) := [(132, .ifCond .eq 17, 3, 149, 0, 0), (135, .aload_n 0, 1, 0, 0, 0), (136, .iload 9, 2, 0, 0, 0), (138, .invokevirtual 216, 3, 133, 24626, 1914), (141, .istore 8, 2, 0, 0, 0), (143, .iinc 9 1, 3, 0, 0, 0), (146, .goto (-22), 3, 124, 0, 0), (149, .iload 8, 2, 0, 0, 0), (151, .ifCond .eq 27, 3, 178, 0, 0), (154, .iload 6, 2, 0, 0, 0)]
set_option maxRecDepth 100000 in
theorem zk_X6_pair_7 : zl_X6_pair_7.all (zgoodB zmt zm_X6_pair) = true := by decide +kernel
def zl_X6_pair_8 : List (Nat × zE) := [(156, .istore_n 3, 1, 0, 0, 0), (157, .iload 7, 2, 0, 0, 0), (159, .istore 4, 2, 0, 0, 0), (161, .aload_n 0, 1, 0, 0, 0), (162, .getfield 71, 3, 6, 27, 723), (165, .iload 6, 2, 0, 0, 0), (167, .iaload, 1, 0, 0, 0), (168, .aload_n 0, 1, 0, 0, 0), (169, .getfield 71, 3, 6, 27, 723), (172, .iload 7, 2, 0, 0, 0)]
set_option maxRecDepth 100000 in
theorem zk_X6_pair_8 : zl_X6_pair_8.all (zgoodB zmt zm_X6_pair) = true := by decide +kernel
def zl_X6_pair_9 : List (Nat × zE) := [(174, .iaload, 1, 0, 0, 0), (175, .iadd, 1, 0, 0, 0), (176, .istore 5, 2, 0, 0, 0), (178, .iinc 7 1, 3, 0, 0, 0), (181, .goto (-116), 3, 65, 0, 0), (184, .iinc 6 1, 3, 0, 0, 0), (187, .goto (-137), 3, 50, 0, 0), (190, .iload_n 3, 1, 0, 0, 0), (191, .bipush (-9), 2, 0, 0, 0), (193, .if_icmp .ne 10, 3, 203, 0, 0)]
set_option maxRecDepth 100000 in
theorem zk_X6_pair_9 : zl_X6_pair_9.all (zgoodB zmt zm_X6_pair) = true := by decide +kernel
def zl_X6_pair_10 : List (Nat × zE) := [(196, .aload_n 0, 1, 0, 0, 0), (197, .invokevirtual 265, 3, 146, 24609, 2024), (200, .bipush (-9), 2, 0, 0, 0), (202, .ireturn, 1, 0, 0, 0), (203, .aload_n 0, 1, 0, 0, 0), (204, .iload_n 3, 1, 0, 0, 0), (205, .iload 4, 2, 0, 0, 0), (207, .iload_n 2, 1, 0, 0, 0), (208, .invokevirtual 259, 3, 143, 24964, 2006), (211, .istore 6, 2, 0, 0, 0)]
set_option maxRecDepth 100000 in
theorem zk_X6_pair_10 : zl_X6_pair_10.all (zgoodB zmt zm_X6_pair) = true := by decide +kernel
def zl_X6_pair_11 : List (Nat × zE) := [(213, .aload_n 0, 1, 0, 0, 0), (214, .iload_n 3, 1, 0, 0, 0), (215, .iload 4, 2, 0, 0, 0), (217, .iload_n 2, 1, 0, 0, 0), (218, .invokevirtual 262, 3, 144, 24676, 2016), (221, .aload_n 0, 1, 0, 0, 0), (222, .getfield 113, 3, 6, 7, 703), (225, .ireturn, 1, 0, 0, 0)]
set_option maxRecDepth 100000 in
theorem zk_X6_pair_11 : zl_X6_pair_11.all (zgoodB zmt zm_X6_pair) = true := by decide +kernel
def zp_X6_pair : Nat → Option zE := (ztr 114 (ztr 56 (ztr 18 (zlf zl_X6_pair_0) (ztr 38 (zlf zl_X6_pair_1) (zlf zl_X6_pair_2))) (ztr 75 (zlf zl_X6_pair_3) (ztr 94 (zlf zl_X6_pair_4) (zlf zl_X6_pair_5)))) (ztr 174 (ztr 132 (zlf zl_X6_pair_6) (ztr 156 (zlf zl_X6_pair_7) (zlf zl_X6_pair_8))) (ztr 196 (zlf zl_X6_pair_9) (ztr 213 (zlf zl_X6_pair_10) (zlf zl_X6_pair_11)))))
theorem za_X6_pair : zall (zgood zmt zm_X6_pair) zp_X6_pair := (zall_tr (zall_tr (zall_tr (zall_lf zl_X6_pair_0 zk_X6_pair_0) (zall_tr (zall_lf zl_X6_pair_1 zk_X6_pair_1) (zall_lf zl_X6_pair_2 zk_X6_pair_2))) (zall_tr (zall_lf zl_X6_pair_3 zk_X6_pair_3) (zall_tr (zall_lf zl_X6_pair_4 zk_X6_pair_4) (zall_lf zl_X6_pair_5 zk_X6_pair_5)))) (zall_tr (zall_tr (zall_lf zl_X6_pair_6 zk_X6_pair_6) (zall_tr (zall_lf zl_X6_pair_7 zk_X6_pair_7) (zall_lf zl_X6_pair_8 zk_X6_pair_8))) (zall_tr (zall_lf zl_X6_pair_9 zk_X6_pair_9) (zall_tr (zall_lf zl_X6_pair_10 zk_X6_pair_10) (zall_lf zl_X6_pair_11 zk_X6_pair_11)))))
