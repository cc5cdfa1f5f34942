/-! ===== the code table, 0 ===== -/
def zl_X0_init_0 : List (Nat × zE) := [(0, .aload_n 0, 1, 0, 0, 0), (1, .invokespecial 3, 3, 900, 0, 143), (4, .aload_n 0, 1, 0, 0, 0), (5, .lconst 0, 1, 0, 0, 0), (6, .putfield 9, 3, 16, 0, 144), (9, .aload_n 0, 1, 0, 0, 0), (10, .lconst 1, 1, 0, 0, 0), (11, .putfield 15, 3, 16, 1, 147), (14, .return_, 1, 0, 0, 0)]
set_option maxRecDepth 100000 in
theorem zk_X0_init_0 : zl_X0_init_0.all (zgoodB zmt zm_X0_init) = true := by decide +kernel
def zp_X0_init : Nat → Option zE := (zlf zl_X0_init_0)
theorem za_X0_init : zall (zgood zmt zm_X0_init) zp_X0_init := (zall_lf zl_X0_init_0 zk_X0_init_0)
def zl_X0_become_0 : List (Nat × zE) := [(0, .lload_n 1, 1, 0, 0, 0), (1, .lload_n 3, 1, 0, 0, 0), (2, .invokestatic 18, 3, 71, 20658, 635), (5, .lstore 5, 2, 0, 0, 0), (7, .lload 5, 2, 0, 0, 0), (9, .lconst 0, 1, 0, 0, 0), (10, .lcmp, 1, 0, 0, 0), (11, .ifCond .eq 9, 3, 20, 0, 0), (14, .lload_n 3, 1, 0, 0, 0), (15, .lconst 0, 1, 0, 0, 0)]
set_option maxRecDepth 100000 in
theorem zk_X0_become_0 : zl_X0_become_0.all (zgoodB zmt zm_X0_become) = true := by decide +kernel
def zl_X0_become_1 : List (Nat × zE) := [(16, .lcmp, 1, 0, 0, 0), (17, .ifCond .ne 14, 3, 31, 0, 0), (20, .aload_n 0, 1, 0, 0, 0), (21, .lconst 0, 1, 0, 0, 0), (22, .putfield 9, 3, 16, 0, 144), (25, .aload_n 0, 1, 0, 0, 0), (26, .lconst 1, 1, 0, 0, 0), (27, .putfield 15, 3, 16, 1, 147), (30, .return_, 1, 0, 0, 0), (31, .lload_n 3, 1, 0, 0, 0)]
set_option maxRecDepth 100000 in
theorem zk_X0_become_1 : zl_X0_become_1.all (zgoodB zmt zm_X0_become) = true := by decide +kernel
def zl_X0_become_2 : List (Nat × zE) := [(32, .lconst 0, 1, 0, 0, 0), (33, .lcmp, 1, 0, 0, 0), (34, .ifCond .ge 9, 3, 43, 0, 0), (37, .lload 5, 2, 0, 0, 0), (39, .lneg, 1, 0, 0, 0), (40, .goto 5, 3, 45, 0, 0), (43, .lload 5, 2, 0, 0, 0), (45, .lstore 7, 2, 0, 0, 0), (47, .aload_n 0, 1, 0, 0, 0), (48, .lload_n 1, 1, 0, 0, 0)]
set_option maxRecDepth 100000 in
theorem zk_X0_become_2 : zl_X0_become_2.all (zgoodB zmt zm_X0_become) = true := by decide +kernel
def zl_X0_become_3 : List (Nat × zE) := [(49, .lload 7, 2, 0, 0, 0), (51, .ldiv, 1, 0, 0, 0), (52, .putfield 9, 3, 16, 0, 144), (55, .aload_n 0, 1, 0, 0, 0), (56, .lload_n 3, 1, 0, 0, 0), (57, .lload 7, 2, 0, 0, 0), (59, .ldiv, 1, 0, 0, 0), (60, .putfield 15, 3, 16, 1, 147), (63, .return_, 1, 0, 0, 0)]
set_option maxRecDepth 100000 in
theorem zk_X0_become_3 : zl_X0_become_3.all (zgoodB zmt zm_X0_become) = true := by decide +kernel
def zp_X0_become : Nat → Option zE := (ztr 32 (ztr 16 (zlf zl_X0_become_0) (zlf zl_X0_become_1)) (ztr 49 (zlf zl_X0_become_2) (zlf zl_X0_become_3)))
theorem za_X0_become : zall (zgood zmt zm_X0_become) zp_X0_become := (zall_tr (zall_tr (zall_lf zl_X0_become_0 zk_X0_become_0) (zall_lf zl_X0_become_1 zk_X0_become_1)) (zall_tr (zall_lf zl_X0_become_2 zk_X0_become_2) (zall_lf zl_X0_become_3 zk_X0_become_3)))
def zl_X0_addTimes_0 : List (Nat × zE) := [(0, .aload_n 0, 1, 0, 0, 0), (1, .aload_n 0, 1, 0, 0, 0), (2, .getfield 9, 3, 0, 0, 144), (5, .aload_n 3, 1, 0, 0, 0), (6, .getfield 15, 3, 0, 1, 147), (9, .lmul, 1, 0, 0, 0), (10, .lload_n 1, 1, 0, 0, 0), (11, .aload_n 3, 1, 0, 0, 0), (12, .getfield 9, 3, 0, 0, 144), (15, .lmul, 1, 0, 0, 0)]
set_option maxRecDepth 100000 in
theorem zk_X0_addTimes_0 : zl_X0_addTimes_0.all (zgoodB zmt zm_X0_addTimes) = true := by decide +kernel
def zl_X0_addTimes_1 : List (Nat × zE) := [(16, .aload_n 0, 1, 0, 0, 0), (17, .getfield 15, 3, 0, 1, 147), (20, .lmul, 1, 0, 0, 0), (21, .ladd, 1, 0, 0, 0), (22, .aload_n 0, 1, 0, 0, 0), (23, .getfield 15, 3, 0, 1, 147), (26, .aload_n 3, 1, 0, 0, 0), (27, .getfield 15, 3, 0, 1, 147), (30, .lmul, 1, 0, 0, 0), (31, .invokevirtual 22, 3, 1, 147, 626)]
set_option maxRecDepth 100000 in
theorem zk_X0_addTimes_1 : zl_X0_addTimes_1.all (zgoodB zmt zm_X0_addTimes) = true := by decide +kernel
def zl_X0_addTimes_2 : List (Nat × zE) := [(34, .return_, 1, 0, 0, 0)]
set_option maxRecDepth 100000 in
theorem zk_X0_addTimes_2 : zl_X0_addTimes_2.all (zgoodB zmt zm_X0_addTimes) = true := by decide +kernel
def zp_X0_addTimes : Nat → Option zE := (ztr 16 (zlf zl_X0_addTimes_0) (ztr 34 (zlf zl_X0_addTimes_1) (zlf zl_X0_addTimes_2)))
theorem za_X0_addTimes : zall (zgood zmt zm_X0_addTimes) zp_X0_addTimes := (zall_tr (zall_lf zl_X0_addTimes_0 zk_X0_addTimes_0) (zall_tr (zall_lf zl_X0_addTimes_1 zk_X0_addTimes_1) (zall_lf zl_X0_addTimes_2 zk_X0_addTimes_2)))
def zl_X0_becomeMoment_0 : List (Nat × zE) := [(0, .iload_n 2, 1, 0, 0, 0), (1, .iconst 2, 1, 0, 0, 0), (2, .irem, 1, 0, 0, 0), (3, .ifCond .ne 9, 3, 12, 0, 0), (6, .iload_n 3, 1, 0, 0, 0), (7, .iconst 2, 1, 0, 0, 0), (8, .irem, 1, 0, 0, 0), (9, .ifCond .eq 12, 3, 21, 0, 0), (12, .iload_n 1, 1, 0, 0, 0), (13, .iconst 1, 1, 0, 0, 0)]
set_option maxRecDepth 100000 in
theorem zk_X0_becomeMoment_0 : zl_X0_becomeMoment_0.all (zgoodB zmt zm_X0_becomeMoment) = true := by decide +kernel
def zl_X0_becomeMoment_1 : List (Nat × zE) := [(14, .if_icmp .eq 7, 3, 21, 0, 0), (17, .iconst 1, 1, 0, 0, 0), (18, .goto 4, 3, 22, 0, 0), (21, .iconst 0, 1, 0, 0, 0), (22, .istore 4, 2, 0, 0, 0), (24, .iload 4, 2, 0, 0, 0), (26, .ifCond .ne 11, 3, 37, 0, 0), (29, .iload_n 2, 1, 0, 0, 0), (30, .iload_n 3, 1, 0, 0, 0), (31, .invokestatic 26, 3, 68, 20514, 625)]
set_option maxRecDepth 100000 in
theorem zk_X0_becomeMoment_1 : zl_X0_becomeMoment_1.all (zgoodB zmt zm_X0_becomeMoment) = true := by decide +kernel
def zl_X0_becomeMoment_2 : List (Nat × zE) := [(34, .ifCond .ne 12, 3, 46, 0, 0), (37, .aload_n 0, 1, 0, 0, 0), (38, .lconst 0, 1, 0, 0, 0), (39, .lconst 1, 1, 0, 0, 0), (40, .invokevirtual 22, 3, 1, 147, 626), (43, .goto 66, 3, 109, 0, 0), (46, .iload_n 1, 1, 0, 0, 0), (47, .ifCond .ne 21, 3, 68, 0, 0), (50, .aload_n 0, 1, 0, 0, 0), (51, .ldc2_w 30, 3, 4, 0, 323)]
set_option maxRecDepth 100000 in
theorem zk_X0_becomeMoment_2 : zl_X0_becomeMoment_2.all (zgoodB zmt zm_X0_becomeMoment) = true := by decide +kernel
def zl_X0_becomeMoment_3 : List (Nat × zE) := [(54, .iload_n 2, 1, 0, 0, 0), (55, .iconst 1, 1, 0, 0, 0), (56, .iadd, 1, 0, 0, 0), (57, .iload_n 3, 1, 0, 0, 0), (58, .iconst 1, 1, 0, 0, 0), (59, .iadd, 1, 0, 0, 0), (60, .imul, 1, 0, 0, 0), (61, .i2l, 1, 0, 0, 0), (62, .invokevirtual 22, 3, 1, 147, 626), (65, .goto 44, 3, 109, 0, 0)]
set_option maxRecDepth 100000 in
theorem zk_X0_becomeMoment_3 : zl_X0_becomeMoment_3.all (zgoodB zmt zm_X0_becomeMoment) = true := by decide +kernel
def zl_X0_becomeMoment_4 : List (Nat × zE) := [(68, .iload_n 1, 1, 0, 0, 0), (69, .iconst 2, 1, 0, 0, 0), (70, .if_icmp .ne 7, 3, 77, 0, 0), (73, .iconst 4, 1, 0, 0, 0), (74, .goto 4, 3, 78, 0, 0), (77, .iconst 1, 1, 0, 0, 0), (78, .istore 5, 2, 0, 0, 0), (80, .aload_n 0, 1, 0, 0, 0), (81, .iload 5, 2, 0, 0, 0), (83, .getstatic 32, 3, 2, 1, 324)]
set_option maxRecDepth 100000 in
theorem zk_X0_becomeMoment_4 : zl_X0_becomeMoment_4.all (zgoodB zmt zm_X0_becomeMoment) = true := by decide +kernel
def zl_X0_becomeMoment_5 : List (Nat × zE) := [(86, .iload_n 2, 1, 0, 0, 0), (87, .iaload, 1, 0, 0, 0), (88, .imul, 1, 0, 0, 0), (89, .getstatic 32, 3, 2, 1, 324), (92, .iload_n 3, 1, 0, 0, 0), (93, .iaload, 1, 0, 0, 0), (94, .imul, 1, 0, 0, 0), (95, .i2l, 1, 0, 0, 0), (96, .getstatic 32, 3, 2, 1, 324), (99, .iload_n 2, 1, 0, 0, 0)]
set_option maxRecDepth 100000 in
theorem zk_X0_becomeMoment_5 : zl_X0_becomeMoment_5.all (zgoodB zmt zm_X0_becomeMoment) = true := by decide +kernel
def zl_X0_becomeMoment_6 : List (Nat × zE) := [(100, .iload_n 3, 1, 0, 0, 0), (101, .iadd, 1, 0, 0, 0), (102, .iconst 2, 1, 0, 0, 0), (103, .iadd, 1, 0, 0, 0), (104, .iaload, 1, 0, 0, 0), (105, .i2l, 1, 0, 0, 0), (106, .invokevirtual 22, 3, 1, 147, 626), (109, .return_, 1, 0, 0, 0)]
set_option maxRecDepth 100000 in
theorem zk_X0_becomeMoment_6 : zl_X0_becomeMoment_6.all (zgoodB zmt zm_X0_becomeMoment) = true := by decide +kernel
def zp_X0_becomeMoment : Nat → Option zE := (ztr 54 (ztr 14 (zlf zl_X0_becomeMoment_0) (ztr 34 (zlf zl_X0_becomeMoment_1) (zlf zl_X0_becomeMoment_2))) (ztr 86 (ztr 68 (zlf zl_X0_becomeMoment_3) (zlf zl_X0_becomeMoment_4)) (ztr 100 (zlf zl_X0_becomeMoment_5) (zlf zl_X0_becomeMoment_6))))
theorem za_X0_becomeMoment : zall (zgood zmt zm_X0_becomeMoment) zp_X0_becomeMoment := (zall_tr (zall_tr (zall_lf zl_X0_becomeMoment_0 zk_X0_becomeMoment_0) (zall_tr (zall_lf zl_X0_becomeMoment_1 zk_X0_becomeMoment_1) (zall_lf zl_X0_becomeMoment_2 zk_X0_becomeMoment_2))) (zall_tr (zall_tr (zall_lf zl_X0_becomeMoment_3 zk_X0_becomeMoment_3) (zall_lf zl_X0_becomeMoment_4 zk_X0_becomeMoment_4)) (zall_tr (zall_lf zl_X0_becomeMoment_5 zk_X0_becomeMoment_5) (zall_lf zl_X0_becomeMoment_6 zk_X0_becomeMoment_6))))
def zl_X0_showing_0 : List (Nat × zE) := [(0, .iload_n 1, 1, 0, 0, 0), (1, .ifCond .ne 10, 3, 11, 0, 0), (4, .aload_n 0, 1, 0, 0, 0), (5, .getfield 9, 3, 0, 0, 144), (8, .goto 7, 3, 15, 0, 0), (11, .aload_n 0, 1, 0, 0, 0), (12, .getfield 15, 3, 0, 1, 147), (15, .lreturn, 1, 0, 0, 0)]
set_option maxRecDepth 100000 in
theorem zk_X0_showing_0 : zl_X0_showing_0.all (zgoodB zmt zm_X0_showing) = true := by decide +kernel
def zp_X0_showing : Nat → Option zE := (zlf zl_X0_showing_0)
theorem za_X0_showing : zall (zgood zmt zm_X0_showing) zp_X0_showing := (zall_lf zl_X0_showing_0 zk_X0_showing_0)
def zl_X1_init_0 : List (Nat × zE) := [(0, .aload_n 0, 1, 0, 0, 0), (1, .invokespecial 3, 3, 900, 0, 135), (4, .aload_n 0, 1, 0, 0, 0), (5, .iconst 0, 1, 0, 0, 0), (6, .putfield 9, 3, 1, 0, 155), (9, .aload_n 0, 1, 0, 0, 0), (10, .iconst 1, 1, 0, 0, 0), (11, .putfield 15, 3, 1, 1, 156), (14, .aload_n 0, 1, 0, 0, 0), (15, .iconst 0, 1, 0, 0, 0)]
set_option maxRecDepth 100000 in
theorem zk_X1_init_0 : zl_X1_init_0.all (zgoodB zmt zm_X1_init) = true := by decide +kernel
def zl_X1_init_1 : List (Nat × zE) := [(16, .putfield 18, 3, 1, 2, 158), (19, .aload_n 0, 1, 0, 0, 0), (20, .bipush 28, 2, 0, 0, 0), (22, .newarray .int, 2, 0, 0, 0), (24, .putfield 21, 3, 33, 3, 159), (27, .aload_n 0, 1, 0, 0, 0), (28, .bipush 28, 2, 0, 0, 0), (30, .newarray .int, 2, 0, 0, 0), (32, .putfield 25, 3, 33, 4, 161), (35, .aload_n 0, 1, 0, 0, 0)]
set_option maxRecDepth 100000 in
theorem zk_X1_init_1 : zl_X1_init_1.all (zgoodB zmt zm_X1_init) = true := by decide +kernel
def zl_X1_init_2 : List (Nat × zE) := [(36, .bipush 28, 2, 0, 0, 0), (38, .newarray .int, 2, 0, 0, 0), (40, .putfield 28, 3, 33, 5, 163), (43, .aload_n 0, 1, 0, 0, 0), (44, .bipush 28, 2, 0, 0, 0), (46, .newarray .int, 2, 0, 0, 0), (48, .putfield 31, 3, 33, 6, 164), (51, .aload_n 0, 1, 0, 0, 0), (52, .bipush 28, 2, 0, 0, 0), (54, .bipush 21, 2, 0, 0, 0)]
set_option maxRecDepth 100000 in
theorem zk_X1_init_2 : zl_X1_init_2.all (zgoodB zmt zm_X1_init) = true := by decide +kernel
def zl_X1_init_3 : List (Nat × zE) := [(56, .multianewarray 34 2, 4, 0, 0, 136), (60, .putfield 36, 3, 33, 7, 165), (63, .aload_n 0, 1, 0, 0, 0), (64, .bipush 21, 2, 0, 0, 0), (66, .newarray .long, 2, 0, 0, 0), (68, .putfield 39, 3, 33, 8, 166), (71, .aload_n 0, 1, 0, 0, 0), (72, .bipush 21, 2, 0, 0, 0), (74, .newarray .long, 2, 0, 0, 0), (76, .putfield 43, 3, 33, 9, 167)]
set_option maxRecDepth 100000 in
theorem zk_X1_init_3 : zl_X1_init_3.all (zgoodB zmt zm_X1_init) = true := by decide +kernel
def zl_X1_init_4 : List (Nat × zE) := [(79, .aload_n 0, 1, 0, 0, 0), (80, .bipush 6, 2, 0, 0, 0), (82, .newarray .long, 2, 0, 0, 0), (84, .putfield 46, 3, 33, 10, 168), (87, .aload_n 0, 1, 0, 0, 0), (88, .bipush 6, 2, 0, 0, 0), (90, .newarray .long, 2, 0, 0, 0), (92, .putfield 49, 3, 33, 11, 169), (95, .aload_n 0, 1, 0, 0, 0), (96, .new 52, 3, 0, 0, 138)]
set_option maxRecDepth 100000 in
theorem zk_X1_init_4 : zl_X1_init_4.all (zgoodB zmt zm_X1_init) = true := by decide +kernel
def zl_X1_init_5 : List (Nat × zE) := [(99, .dup, 1, 0, 0, 0), (100, .invokespecial 54, 3, 0, 17, 281), (103, .putfield 55, 3, 33, 12, 170), (106, .aload_n 0, 1, 0, 0, 0), (107, .new 52, 3, 0, 0, 138), (110, .dup, 1, 0, 0, 0), (111, .invokespecial 54, 3, 0, 17, 281), (114, .putfield 59, 3, 33, 13, 171), (117, .aload_n 0, 1, 0, 0, 0), (118, .lconst 0, 1, 0, 0, 0)]
set_option maxRecDepth 100000 in
theorem zk_X1_init_5 : zl_X1_init_5.all (zgoodB zmt zm_X1_init) = true := by decide +kernel
def zl_X1_init_6 : List (Nat × zE) := [(119, .putfield 62, 3, 17, 14, 172), (122, .aload_n 0, 1, 0, 0, 0), (123, .lconst 0, 1, 0, 0, 0), (124, .putfield 66, 3, 17, 15, 174), (127, .aload_n 0, 1, 0, 0, 0), (128, .lconst 1, 1, 0, 0, 0), (129, .putfield 69, 3, 17, 16, 176), (132, .aload_n 0, 1, 0, 0, 0), (133, .bipush (-9), 2, 0, 0, 0), (135, .putfield 72, 3, 1, 17, 178)]
set_option maxRecDepth 100000 in
theorem zk_X1_init_6 : zl_X1_init_6.all (zgoodB zmt zm_X1_init) = true := by decide +kernel
def zl_X1_init_7 : List (Nat × zE) := [(138, .aload_n 0, 1, 0, 0, 0), (139, .bipush (-9), 2, 0, 0, 0), (141, .putfield 75, 3, 1, 18, 180), (144, .return_, 1, 0, 0, 0)]
set_option maxRecDepth 100000 in
theorem zk_X1_init_7 : zl_X1_init_7.all (zgoodB zmt zm_X1_init) = true := by decide +kernel
def zp_X1_init : Nat → Option zE := (ztr 79 (ztr 36 (ztr 16 (zlf zl_X1_init_0) (zlf zl_X1_init_1)) (ztr 56 (zlf zl_X1_init_2) (zlf zl_X1_init_3))) (ztr 119 (ztr 99 (zlf zl_X1_init_4) (zlf zl_X1_init_5)) (ztr 138 (zlf zl_X1_init_6) (zlf zl_X1_init_7))))
theorem za_X1_init : zall (zgood zmt zm_X1_init) zp_X1_init := (zall_tr (zall_tr (zall_tr (zall_lf zl_X1_init_0 zk_X1_init_0) (zall_lf zl_X1_init_1 zk_X1_init_1)) (zall_tr (zall_lf zl_X1_init_2 zk_X1_init_2) (zall_lf zl_X1_init_3 zk_X1_init_3))) (zall_tr (zall_tr (zall_lf zl_X1_init_4 zk_X1_init_4) (zall_lf zl_X1_init_5 zk_X1_init_5)) (zall_tr (zall_lf zl_X1_init_6 zk_X1_init_6) (zall_lf zl_X1_init_7 zk_X1_init_7))))
def zl_X1_gather_0 : List (Nat × zE) := [(0, .aload_n 0, 1, 0, 0, 0), (1, .iload_n 1, 1, 0, 0, 0), (2, .putfield 9, 3, 1, 0, 155), (5, .aload_n 0, 1, 0, 0, 0), (6, .iload_n 2, 1, 0, 0, 0), (7, .putfield 15, 3, 1, 1, 156), (10, .aload_n 0, 1, 0, 0, 0), (11, .iconst 0, 1, 0, 0, 0), (12, .putfield 18, 3, 1, 2, 158), (15, .aload_n 0, 1, 0, 0, 0)]
set_option maxRecDepth 100000 in
theorem zk_X1_gather_0 : zl_X1_gather_0.all (zgoodB zmt zm_X1_gather) = true := by decide +kernel
def zl_X1_gather_1 : List (Nat × zE) := [(16, .getfield 15, 3, 1, 1, 156), (19, .ineg, 1, 0, 0, 0), (20, .istore 4, 2, 0, 0, 0), (22, .iload 4, 2, 0, 0, 0), (24, .aload_n 0, 1, 0, 0, 0), (25, .getfield 15, 3, 1, 1, 156), (28, .if_icmp .gt 91, 3, 119, 0, 0), (31, .iload 4, 2, 0, 0, 0), (33, .istore 5, 2, 0, 0, 0), (35, .iload 5, 2, 0, 0, 0)]
set_option maxRecDepth 100000 in
theorem zk_X1_gather_1 : zl_X1_gather_1.all (zgoodB zmt zm_X1_gather) = true := by decide +kernel
def zl_X1_gather_2 : List (Nat × zE) := [(37, .aload_n 0, 1, 0, 0, 0), (38, .getfield 15, 3, 1, 1, 156), (41, .if_icmp .gt 72, 3, 113, 0, 0), (44, .aload_n 0, 1, 0, 0, 0), (45, .getfield 18, 3, 1, 2, 158), (48, .bipush 28, 2, 0, 0, 0), (50, .if_icmp .ge 57, 3, 107, 0, 0), (53, .aload_n 0, 1, 0, 0, 0), (54, .iload 4, 2, 0, 0, 0), (56, .iload 5, 2, 0, 0, 0)]
set_option maxRecDepth 100000 in
theorem zk_X1_gather_2 : zl_X1_gather_2.all (zgoodB zmt zm_X1_gather) = true := by decide +kernel
def zl_X1_gather_3 : List (Nat × zE) := [(58, .invokevirtual 78, 3, 7, 4163, 1054), (61, .ifCond .eq 46, 3, 107, 0, 0), (64, .aload_n 0, 1, 0, 0, 0), (65, .getfield 9, 3, 1, 0, 155), (68, .aload_n 0, 1, 0, 0, 0), (69, .getfield 15, 3, 1, 1, 156), (72, .iload 4, 2, 0, 0, 0), (74, .iload 5, 2, 0, 0, 0), (76, .invokestatic 82, 3, 72, 20548, 1063), (79, .ifCond .eq 28, 3, 107, 0, 0)]
set_option maxRecDepth 100000 in
theorem zk_X1_gather_3 : zl_X1_gather_3.all (zgoodB zmt zm_X1_gather) = true := by decide +kernel
def zl_X1_gather_4 : List (Nat × zE) := [(82, .aload_n 3, 1, 0, 0, 0), (83, .aload_n 0, 1, 0, 0, 0), (84, .getfield 9, 3, 1, 0, 155), (87, .aload_n 0, 1, 0, 0, 0), (88, .getfield 15, 3, 1, 1, 156), (91, .iload 4, 2, 0, 0, 0), (93, .iload 5, 2, 0, 0, 0), (95, .invokevirtual 86, 3, 15, 8293, 1064), (98, .aload_n 0, 1, 0, 0, 0), (99, .iload 4, 2, 0, 0, 0)]
set_option maxRecDepth 100000 in
theorem zk_X1_gather_4 : zl_X1_gather_4.all (zgoodB zmt zm_X1_gather) = true := by decide +kernel
def zl_X1_gather_5 : List (Nat × zE) := [(101, .iload 5, 2, 0, 0, 0), (103, .aload_n 3, 1, 0, 0, 0), (104, .invokevirtual 92, 3, 8, 4196, 1066), (107, .iinc 5 1, 3, 0, 0, 0), (110, .goto (-75), 3, 35, 0, 0), (113, .iinc 4 1, 3, 0, 0, 0), (116, .goto (-94), 3, 22, 0, 0), (119, .iconst 0, 1, 0, 0, 0), (120, .istore 4, 2, 0, 0, 0), (122, .iload 4, 2, 0, 0, 0)]
set_option maxRecDepth 100000 in
theorem zk_X1_gather_5 : zl_X1_gather_5.all (zgoodB zmt zm_X1_gather) = true := by decide +kernel
def zl_X1_gather_6 : List (Nat × zE) := [(124, .bipush 21, 2, 0, 0, 0), (126, .if_icmp .ge 82, 3, 208, 0, 0), (129, .aload_n 0, 1, 0, 0, 0), (130, .getfield 55, 3, 1, 12, 170), (133, .aload_n 0, 1, 0, 0, 0), (134, .getfield 9, 3, 1, 0, 155), (137, .getstatic 96, 3, 0, 1, 547), (140, .iload 4, 2, 0, 0, 0), (142, .iaload, 1, 0, 0, 0), (143, .getstatic 99, 3, 1, 1, 548)]
set_option maxRecDepth 100000 in
theorem zk_X1_gather_6 : zl_X1_gather_6.all (zgoodB zmt zm_X1_gather) = true := by decide +kernel
def zl_X1_gather_7 : List (Nat × zE) := [(146, .iload 4, 2, 0, 0, 0), (148, .iaload, 1, 0, 0, 0), (149, .invokevirtual 102, 3, 3, 100, 1098), (152, .aload_n 0, 1, 0, 0, 0), (153, .getfield 39, 3, 1, 8, 166), (156, .iload 4, 2, 0, 0, 0), (158, .aload_n 0, 1, 0, 0, 0), (159, .getfield 55, 3, 1, 12, 170), (162, .getfield 106, 3, 0, 0, 145), (165, .aload_n 0, 1, 0, 0, 0)]
set_option maxRecDepth 100000 in
theorem zk_X1_gather_7 : zl_X1_gather_7.all (zgoodB zmt zm_X1_gather) = true := by decide +kernel
def zl_X1_gather_8 : List (Nat × zE) := [(166, .getfield 15, 3, 1, 1, 156), (169, .i2l, 1, 0, 0, 0), (170, .getstatic 96, 3, 0, 1, 547), (173, .iload 4, 2, 0, 0, 0), (175, .iaload, 1, 0, 0, 0), (176, .getstatic 99, 3, 1, 1, 548), (179, .iload 4, 2, 0, 0, 0), (181, .iaload, 1, 0, 0, 0), (182, .iadd, 1, 0, 0, 0), (183, .invokestatic 109, 3, 69, 20578, 1101)]
set_option maxRecDepth 100000 in
theorem zk_X1_gather_8 : zl_X1_gather_8.all (zgoodB zmt zm_X1_gather) = true := by decide +kernel
def zl_X1_gather_9 : List (Nat × zE) := [(186, .lmul, 1, 0, 0, 0), (187, .lastore, 1, 0, 0, 0), (188, .aload_n 0, 1, 0, 0, 0), (189, .getfield 43, 3, 1, 9, 167), (192, .iload 4, 2, 0, 0, 0), (194, .aload_n 0, 1, 0, 0, 0), (195, .getfield 55, 3, 1, 12, 170), (198, .getfield 113, 3, 0, 1, 148), (201, .lastore, 1, 0, 0, 0), (202, .iinc 4 1, 3, 0, 0, 0)]
set_option maxRecDepth 100000 in
theorem zk_X1_gather_9 : zl_X1_gather_9.all (zgoodB zmt zm_X1_gather) = true := by decide +kernel
def zl_X1_gather_10 : List (Nat × zE) := [(205, .goto (-83), 3, 122, 0, 0), (208, .return_, 1, 0, 0, 0)]
set_option maxRecDepth 100000 in
theorem zk_X1_gather_10 : zl_X1_gather_10.all (zgoodB zmt zm_X1_gather) = true := by decide +kernel
def zp_X1_gather : Nat → Option zE := (ztr 101 (ztr 37 (ztr 16 (zlf zl_X1_gather_0) (zlf zl_X1_gather_1)) (ztr 58 (zlf zl_X1_gather_2) (ztr 82 (zlf zl_X1_gather_3) (zlf zl_X1_gather_4)))) (ztr 166 (ztr 124 (zlf zl_X1_gather_5) (ztr 146 (zlf zl_X1_gather_6) (zlf zl_X1_gather_7))) (ztr 186 (zlf zl_X1_gather_8) (ztr 205 (zlf zl_X1_gather_9) (zlf zl_X1_gather_10)))))
theorem za_X1_gather : zall (zgood zmt zm_X1_gather) zp_X1_gather := (zall_tr (zall_tr (zall_tr (zall_lf zl_X1_gather_0 zk_X1_gather_0) (zall_lf zl_X1_gather_1 zk_X1_gather_1)) (zall_tr (zall_lf zl_X1_gather_2 zk_X1_gather_2) (zall_tr (zall_lf zl_X1_gather_3 zk_X1_gather_3) (zall_lf zl_X1_gather_4 zk_X1_gather_4)))) (zall_tr (zall_tr (zall_lf zl_X1_gather_5 zk_X1_gather_5) (zall_tr (zall_lf zl_X1_gather_6 zk_X1_gather_6) (zall_lf zl_X1_gather_7 zk_X1_gather_7))) (zall_tr (zall_lf zl_X1_gather_8 zk_X1_gather_8) (zall_tr (zall_lf zl_X1_gather_9 zk_X1_gather_9) (zall_lf zl_X1_gather_10 zk_X1_gather_10)))))
def zl_X1_isLeastOfOrbit_0 : List (Nat × zE) := [(0, .aload_n 0, 1, 0, 0, 0), (1, .getfield 9, 3, 1, 0, 155), (4, .iconst 1, 1, 0, 0, 0), (5, .if_icmp .ne 14, 3, 19, 0, 0), (8, .aload_n 0, 1, 0, 0, 0), (9, .getfield 15, 3, 1, 1, 156), (12, .iload_n 1, 1, 0, 0, 0), (13, .isub, 1, 0, 0, 0), (14, .iload_n 2, 1, 0, 0, 0), (15, .isub, 1, 0, 0, 0)]
set_option maxRecDepth 100000 in
theorem zk_X1_isLeastOfOrbit_0 : zl_X1_isLeastOfOrbit_0.all (zgoodB zmt zm_X1_isLeastOfOrbit) = true := by decide +kernel
def zl_X1_isLeastOfOrbit_1 : List (Nat × zE) := [(16, .goto 4, 3, 20, 0, 0), (19, .iconst 0, 1, 0, 0, 0), (20, .istore_n 3, 1, 0, 0, 0), (21, .iload_n 1, 1, 0, 0, 0), (22, .iload_n 2, 1, 0, 0, 0), (23, .if_icmp .gt 12, 3, 35, 0, 0), (26, .iload_n 2, 1, 0, 0, 0), (27, .iload_n 3, 1, 0, 0, 0), (28, .if_icmp .gt 7, 3, 35, 0, 0), (31, .iconst 1, 1, 0, 0, 0)]
set_option maxRecDepth 100000 in
theorem zk_X1_isLeastOfOrbit_1 : zl_X1_isLeastOfOrbit_1.all (zgoodB zmt zm_X1_isLeastOfOrbit) = true := by decide +kernel
def zl_X1_isLeastOfOrbit_2 : List (Nat × zE) := [(32, .goto 4, 3, 36, 0, 0), (35, .iconst 0, 1, 0, 0, 0), (36, .ireturn, 1, 1, 0, 0)]
set_option maxRecDepth 100000 in
theorem zk_X1_isLeastOfOrbit_2 : zl_X1_isLeastOfOrbit_2.all (zgoodB zmt zm_X1_isLeastOfOrbit) = true := by decide +kernel
def zp_X1_isLeastOfOrbit : Nat → Option zE := (ztr 16 (zlf zl_X1_isLeastOfOrbit_0) (ztr 32 (zlf zl_X1_isLeastOfOrbit_1) (zlf zl_X1_isLeastOfOrbit_2)))
theorem za_X1_isLeastOfOrbit : zall (zgood zmt zm_X1_isLeastOfOrbit) zp_X1_isLeastOfOrbit := (zall_tr (zall_lf zl_X1_isLeastOfOrbit_0 zk_X1_isLeastOfOrbit_0) (zall_tr (zall_lf zl_X1_isLeastOfOrbit_1 zk_X1_isLeastOfOrbit_1) (zall_lf zl_X1_isLeastOfOrbit_2 zk_X1_isLeastOfOrbit_2)))
def zl_X1_append_0 : List (Nat × zE) := [(0, .aload_n 0, 1, 0, 0, 0), (1, .getfield 9, 3, 1, 0, 155), (4, .iconst 1, 1, 0, 0, 0), (5, .if_icmp .ne 14, 3, 19, 0, 0), (8, .aload_n 0, 1, 0, 0, 0), (9, .getfield 15, 3, 1, 1, 156), (12, .iload_n 1, 1, 0, 0, 0), (13, .isub, 1, 0, 0, 0), (14, .iload_n 2, 1, 0, 0, 0), (15, .isub, 1, 0, 0, 0)]
set_option maxRecDepth 100000 in
theorem zk_X1_append_0 : zl_X1_append_0.all (zgoodB zmt zm_X1_append) = true := by decide +kernel
def zl_X1_append_1 : List (Nat × zE) := [(16, .goto 4, 3, 20, 0, 0), (19, .iconst 0, 1, 0, 0, 0), (20, .istore 4, 2, 0, 0, 0), (22, .aload_n 0, 1, 0, 0, 0), (23, .getfield 21, 3, 1, 3, 159), (26, .aload_n 0, 1, 0, 0, 0), (27, .getfield 18, 3, 1, 2, 158), (30, .iload_n 1, 1, 0, 0, 0), (31, .iastore, 1, 0, 0, 0), (32, .aload_n 0, 1, 0, 0, 0)]
set_option maxRecDepth 100000 in
theorem zk_X1_append_1 : zl_X1_append_1.all (zgoodB zmt zm_X1_append) = true := by decide +kernel
def zl_X1_append_2 : List (Nat × zE) := [(33, .getfield 25, 3, 1, 4, 161), (36, .aload_n 0, 1, 0, 0, 0), (37, .getfield 18, 3, 1, 2, 158), (40, .iload_n 2, 1, 0, 0, 0), (41, .iastore, 1, 0, 0, 0), (42, .aload_n 0, 1, 0, 0, 0), (43, .getfield 28, 3, 1, 5, 163), (46, .aload_n 0, 1, 0, 0, 0), (47, .getfield 18, 3, 1, 2, 158), (50, .aload_n 3, 1, 0, 0, 0)]
set_option maxRecDepth 100000 in
theorem zk_X1_append_2 : zl_X1_append_2.all (zgoodB zmt zm_X1_append) = true := by decide +kernel
def zl_X1_append_3 : List (Nat × zE) := [(51, .getfield 114, 3, 2, 2, 120), (54, .iastore, 1, 0, 0, 0), (55, .aload_n 0, 1, 0, 0, 0), (56, .getfield 31, 3, 1, 6, 164), (59, .aload_n 0, 1, 0, 0, 0), (60, .getfield 18, 3, 1, 2, 158), (63, .iload_n 1, 1, 0, 0, 0), (64, .iload_n 1, 1, 0, 0, 0), (65, .imul, 1, 0, 0, 0), (66, .iload_n 2, 1, 0, 0, 0)]
set_option maxRecDepth 100000 in
theorem zk_X1_append_3 : zl_X1_append_3.all (zgoodB zmt zm_X1_append) = true := by decide +kernel
def zl_X1_append_4 : List (Nat × zE) := [(67, .iload_n 2, 1, 0, 0, 0), (68, .imul, 1, 0, 0, 0), (69, .iadd, 1, 0, 0, 0), (70, .iload 4, 2, 0, 0, 0), (72, .iload 4, 2, 0, 0, 0), (74, .imul, 1, 0, 0, 0), (75, .iadd, 1, 0, 0, 0), (76, .iastore, 1, 0, 0, 0), (77, .aload_n 0, 1, 0, 0, 0), (78, .getfield 36, 3, 1, 7, 165)]
set_option maxRecDepth 100000 in
theorem zk_X1_append_4 : zl_X1_append_4.all (zgoodB zmt zm_X1_append) = true := by decide +kernel
def zl_X1_append_5 : List (Nat × zE) := [(81, .aload_n 0, 1, 0, 0, 0), (82, .getfield 18, 3, 1, 2, 158), (85, .aaload, 1, 0, 0, 0), (86, .lconst 0, 1, 0, 0, 0), (87, .invokestatic 115, 3, 164, 28754, 1074), (90, .iconst 0, 1, 0, 0, 0), (91, .istore 5, 2, 0, 0, 0), (93, .iload 5, 2, 0, 0, 0), (95, .aload_n 3, 1, 0, 0, 0), (96, .getfield 114, 3, 2, 2, 120)]
set_option maxRecDepth 100000 in
theorem zk_X1_append_5 : zl_X1_append_5.all (zgoodB zmt zm_X1_append) = true := by decide +kernel
def zl_X1_append_6 : List (Nat × zE) := [(99, .if_icmp .ge 36, 3, 135, 0, 0), (102, .aload_n 0, 1, 0, 0, 0), (103, .aload_n 0, 1, 0, 0, 0), (104, .getfield 36, 3, 1, 7, 165), (107, .aload_n 0, 1, 0, 0, 0), (108, .getfield 18, 3, 1, 2, 158), (111, .aaload, 1, 0, 0, 0), (112, .aload_n 3, 1, 0, 0, 0), (113, .getfield 121, 3, 2, 0, 112), (116, .iload 5, 2, 0, 0, 0)]
set_option maxRecDepth 100000 in
theorem zk_X1_append_6 : zl_X1_append_6.all (zgoodB zmt zm_X1_append) = true := by decide +kernel
def zl_X1_append_7 : List (Nat × zE) := [(118, .iaload, 1, 0, 0, 0), (119, .aload_n 3, 1, 0, 0, 0), (120, .getfield 122, 3, 2, 1, 116), (123, .iload 5, 2, 0, 0, 0), (125, .iaload, 1, 0, 0, 0), (126, .invokevirtual 123, 3, 9, 4180, 1080), (129, .iinc 5 1, 3, 0, 0, 0), (132, .goto (-39), 3, 93, 0, 0), (135, .aload_n 0, 1, 0, 0, 0), (136, .dup, 1, 0, 0, 0)]
set_option maxRecDepth 100000 in
theorem zk_X1_append_7 : zl_X1_append_7.all (zgoodB zmt zm_X1_append) = true := by decide +kernel
def zl_X1_append_8 : List (Nat × zE) := [(137, .getfield 18, 3, 1, 2, 158), (140, .iconst 1, 1, 0, 0, 0), (141, .iadd, 1, 0, 0, 0), (142, .putfield 18, 3, 1, 2, 158), (145, .return_, 1, 0, 0, 0)]
set_option maxRecDepth 100000 in
theorem zk_X1_append_8 : zl_X1_append_8.all (zgoodB zmt zm_X1_append) = true := by decide +kernel
def zp_X1_append : Nat → Option zE := (ztr 67 (ztr 33 (ztr 16 (zlf zl_X1_append_0) (zlf zl_X1_append_1)) (ztr 51 (zlf zl_X1_append_2) (zlf zl_X1_append_3))) (ztr 99 (ztr 81 (zlf zl_X1_append_4) (zlf zl_X1_append_5)) (ztr 118 (zlf zl_X1_append_6) (ztr 137 (zlf zl_X1_append_7) (zlf zl_X1_append_8)))))
theorem za_X1_append : zall (zgood zmt zm_X1_append) zp_X1_append := (zall_tr (zall_tr (zall_tr (zall_lf zl_X1_append_0 zk_X1_append_0) (zall_lf zl_X1_append_1 zk_X1_append_1)) (zall_tr (zall_lf zl_X1_append_2 zk_X1_append_2) (zall_lf zl_X1_append_3 zk_X1_append_3))) (zall_tr (zall_tr (zall_lf zl_X1_append_4 zk_X1_append_4) (zall_lf zl_X1_append_5 zk_X1_append_5)) (zall_tr (zall_lf zl_X1_append_6 zk_X1_append_6) (zall_tr (zall_lf zl_X1_append_7 zk_X1_append_7) (zall_lf zl_X1_append_8 zk_X1_append_8)))))
def zl_X1_addPowers_0 : List (Nat × zE) := [(0, .iload_n 2, 1, 0, 0, 0), (1, .i2l, 1, 0, 0, 0), (2, .aload_n 0, 1, 0, 0, 0), (3, .getfield 46, 3, 1, 10, 168), (6, .invokestatic 127, 3, 70, 20578, 1089), (9, .iload_n 3, 1, 0, 0, 0), (10, .i2l, 1, 0, 0, 0), (11, .aload_n 0, 1, 0, 0, 0), (12, .getfield 49, 3, 1, 11, 169), (15, .invokestatic 127, 3, 70, 20578, 1089)]
set_option maxRecDepth 100000 in
theorem zk_X1_addPowers_0 : zl_X1_addPowers_0.all (zgoodB zmt zm_X1_addPowers) = true := by decide +kernel
def zl_X1_addPowers_1 : List (Nat × zE) := [(18, .iconst 0, 1, 0, 0, 0), (19, .istore 4, 2, 0, 0, 0), (21, .iload 4, 2, 0, 0, 0), (23, .bipush 21, 2, 0, 0, 0), (25, .if_icmp .ge 39, 3, 64, 0, 0), (28, .aload_n 1, 1, 0, 0, 0), (29, .iload 4, 2, 0, 0, 0), (31, .dup2, 1, 0, 0, 0), (32, .laload, 1, 0, 0, 0), (33, .aload_n 0, 1, 0, 0, 0)]
set_option maxRecDepth 100000 in
theorem zk_X1_addPowers_1 : zl_X1_addPowers_1.all (zgoodB zmt zm_X1_addPowers) = true := by decide +kernel
def zl_X1_addPowers_2 : List (Nat × zE) := [(34, .getfield 46, 3, 1, 10, 168), (37, .getstatic 96, 3, 0, 1, 547), (40, .iload 4, 2, 0, 0, 0), (42, .iaload, 1, 0, 0, 0), (43, .laload, 1, 0, 0, 0), (44, .aload_n 0, 1, 0, 0, 0), (45, .getfield 49, 3, 1, 11, 169), (48, .getstatic 99, 3, 1, 1, 548), (51, .iload 4, 2, 0, 0, 0), (53, .iaload, 1, 0, 0, 0)]
set_option maxRecDepth 100000 in
theorem zk_X1_addPowers_2 : zl_X1_addPowers_2.all (zgoodB zmt zm_X1_addPowers) = true := by decide +kernel
def zl_X1_addPowers_3 : List (Nat × zE) := [(54, .laload, 1, 0, 0, 0), (55, .lmul, 1, 0, 0, 0), (56, .ladd, 1, 0, 0, 0), (57, .lastore, 1, 0, 0, 0), (58, .iinc 4 1, 3, 0, 0, 0), (61, .goto (-40), 3, 21, 0, 0), (64, .return_, 1, 0, 0, 0)]
set_option maxRecDepth 100000 in
theorem zk_X1_addPowers_3 : zl_X1_addPowers_3.all (zgoodB zmt zm_X1_addPowers) = true := by decide +kernel
def zp_X1_addPowers : Nat → Option zE := (ztr 34 (ztr 18 (zlf zl_X1_addPowers_0) (zlf zl_X1_addPowers_1)) (ztr 54 (zlf zl_X1_addPowers_2) (zlf zl_X1_addPowers_3)))
theorem za_X1_addPowers : zall (zgood zmt zm_X1_addPowers) zp_X1_addPowers := (zall_tr (zall_tr (zall_lf zl_X1_addPowers_0 zk_X1_addPowers_0) (zall_lf zl_X1_addPowers_1 zk_X1_addPowers_1)) (zall_tr (zall_lf zl_X1_addPowers_2 zk_X1_addPowers_2) (zall_lf zl_X1_addPowers_3 zk_X1_addPowers_3)))
def zl_X1_findFewest_0 : List (Nat × zE) := [(0, .bipush 25, 2, 0, 0, 0), (2, .istore_n 2, 1, 0, 0, 0), (3, .iconst 0, 1, 0, 0, 0), (4, .istore_n 3, 1, 0, 0, 0), (5, .iload_n 3, 1, 0, 0, 0), (6, .aload_n 0, 1, 0, 0, 0), (7, .getfield 18, 3, 1, 2, 158), (10, .if_icmp .ge 86, 3, 96, 0, 0), (13, .iload_n 3, 1, 0, 0, 0), (14, .iconst 1, 1, 0, 0, 0)]
set_option maxRecDepth 100000 in
theorem zk_X1_findFewest_0 : zl_X1_findFewest_0.all (zgoodB zmt zm_X1_findFewest) = true := by decide +kernel
def zl_X1_findFewest_1 : List (Nat × zE) := [(15, .iadd, 1, 0, 0, 0), (16, .istore 4, 2, 0, 0, 0), (18, .iload 4, 2, 0, 0, 0), (20, .aload_n 0, 1, 0, 0, 0), (21, .getfield 18, 3, 1, 2, 158), (24, .if_icmp .ge 66, 3, 90, 0, 0), (27, .aload_n 0, 1, 0, 0, 0), (28, .getfield 28, 3, 1, 5, 163), (31, .iload_n 3, 1, 0, 0, 0), (32, .iaload, 1, 0, 0, 0)]
set_option maxRecDepth 100000 in
theorem zk_X1_findFewest_1 : zl_X1_findFewest_1.all (zgoodB zmt zm_X1_findFewest) = true := by decide +kernel
def zl_X1_findFewest_2 : List (Nat × zE) := [(33, .aload_n 0, 1, 0, 0, 0), (34, .getfield 28, 3, 1, 5, 163), (37, .iload 4, 2, 0, 0, 0), (39, .iaload, 1, 0, 0, 0), (40, .iadd, 1, 0, 0, 0), (41, .istore 5, 2, 0, 0, 0), (43, .iload 5, 2, 0, 0, 0), (45, .iload_n 2, 1, 0, 0, 0), (46, .if_icmp .ge 38, 3, 84, 0, 0), (49, .aload_n 0, 1, 0, 0, 0)]
set_option maxRecDepth 100000 in
theorem zk_X1_findFewest_2 : zl_X1_findFewest_2.all (zgoodB zmt zm_X1_findFewest) = true := by decide +kernel
def zl_X1_findFewest_3 : List (Nat × zE) := [(50, .iload_n 3, 1, 0, 0, 0), (51, .iload 4, 2, 0, 0, 0), (53, .invokevirtual 131, 3, 11, 4307, 1110), (56, .ifCond .eq 28, 3, 84, 0, 0), (59, .aload_n 0, 1, 0, 0, 0), (60, .iload_n 1, 1, 0, 0, 0), (61, .iload_n 3, 1, 0, 0, 0), (62, .iload 4, 2, 0, 0, 0), (64, .invokevirtual 134, 3, 13, 4228, 1132), (67, .ifCond .eq 17, 3, 84, 0, 0)]
set_option maxRecDepth 100000 in
theorem zk_X1_findFewest_3 : zl_X1_findFewest_3.all (zgoodB zmt zm_X1_findFewest) = true := by decide +kernel
def zl_X1_findFewest_4 : List (Nat × zE) := [(70, .iload 5, 2, 0, 0, 0), (72, .istore_n 2, 1, 0, 0, 0), (73, .aload_n 0, 1, 0, 0, 0), (74, .iload_n 3, 1, 0, 0, 0), (75, .putfield 72, 3, 1, 17, 178), (78, .aload_n 0, 1, 0, 0, 0), (79, .iload 4, 2, 0, 0, 0), (81, .putfield 75, 3, 1, 18, 180), (84, .iinc 4 1, 3, 0, 0, 0), (87, .goto (-69), 3, 18, 0, 0)]
set_option maxRecDepth 100000 in
theorem zk_X1_findFewest_4 : zl_X1_findFewest_4.all (zgoodB zmt zm_X1_findFewest) = true := by decide +kernel
def zl_X1_findFewest_5 : List (Nat × zE) := [(90, .iinc 3 1, 3, 0, 0, 0), (93, .goto (-88), 3, 5, 0, 0), (96, .iload_n 2, 1, 0, 0, 0), (97, .bipush 24, 2, 0, 0, 0), (99, .if_icmp .gt 7, 3, 106, 0, 0), (102, .iconst 1, 1, 0, 0, 0), (103, .goto 4, 3, 107, 0, 0), (106, .iconst 0, 1, 0, 0, 0), (107, .ireturn, 1, 1, 0, 0)]
set_option maxRecDepth 100000 in
theorem zk_X1_findFewest_5 : zl_X1_findFewest_5.all (zgoodB zmt zm_X1_findFewest) = true := by decide +kernel
def zp_X1_findFewest : Nat → Option zE := (ztr 50 (ztr 15 (zlf zl_X1_findFewest_0) (ztr 33 (zlf zl_X1_findFewest_1) (zlf zl_X1_findFewest_2))) (ztr 70 (zlf zl_X1_findFewest_3) (ztr 90 (zlf zl_X1_findFewest_4) (zlf zl_X1_findFewest_5))))
theorem za_X1_findFewest : zall (zgood zmt zm_X1_findFewest) zp_X1_findFewest := (zall_tr (zall_tr (zall_lf zl_X1_findFewest_0 zk_X1_findFewest_0) (zall_tr (zall_lf zl_X1_findFewest_1 zk_X1_findFewest_1) (zall_lf zl_X1_findFewest_2 zk_X1_findFewest_2))) (zall_tr (zall_lf zl_X1_findFewest_3 zk_X1_findFewest_3) (zall_tr (zall_lf zl_X1_findFewest_4 zk_X1_findFewest_4) (zall_lf zl_X1_findFewest_5 zk_X1_findFewest_5))))
def zl_X1_weigh_0 : List (Nat × zE) := [(0, .aload_n 0, 1, 0, 0, 0), (1, .getfield 31, 3, 1, 6, 164), (4, .iload_n 2, 1, 0, 0, 0), (5, .iaload, 1, 0, 0, 0), (6, .aload_n 0, 1, 0, 0, 0), (7, .getfield 31, 3, 1, 6, 164), (10, .iload_n 1, 1, 0, 0, 0), (11, .iaload, 1, 0, 0, 0), (12, .isub, 1, 0, 0, 0), (13, .i2l, 1, 0, 0, 0)]
set_option maxRecDepth 100000 in
theorem zk_X1_weigh_0 : zl_X1_weigh_0.all (zgoodB zmt zm_X1_weigh) = true := by decide +kernel
def zl_X1_weigh_1 : List (Nat × zE) := [(14, .lstore_n 3, 1, 0, 0, 0), (15, .lload_n 3, 1, 0, 0, 0), (16, .lconst 0, 1, 0, 0, 0), (17, .lcmp, 1, 0, 0, 0), (18, .ifCond .ne 5, 3, 23, 0, 0), (21, .iconst 0, 1, 0, 0, 0), (22, .ireturn, 1, 1, 0, 0), (23, .aload_n 0, 1, 0, 0, 0), (24, .getfield 9, 3, 1, 0, 155), (27, .iconst 1, 1, 0, 0, 0)]
set_option maxRecDepth 100000 in
theorem zk_X1_weigh_1 : zl_X1_weigh_1.all (zgoodB zmt zm_X1_weigh) = true := by decide +kernel
def zl_X1_weigh_2 : List (Nat × zE) := [(28, .if_icmp .ne 7, 3, 35, 0, 0), (31, .iconst 3, 1, 0, 0, 0), (32, .goto 4, 3, 36, 0, 0), (35, .iconst 2, 1, 0, 0, 0), (36, .istore 5, 2, 0, 0, 0), (38, .iconst 3, 1, 0, 0, 0), (39, .istore 6, 2, 0, 0, 0), (41, .aload_n 0, 1, 0, 0, 0), (42, .getfield 39, 3, 1, 8, 166), (45, .iconst 0, 1, 0, 0, 0)]
set_option maxRecDepth 100000 in
theorem zk_X1_weigh_2 : zl_X1_weigh_2.all (zgoodB zmt zm_X1_weigh) = true := by decide +kernel
def zl_X1_weigh_3 : List (Nat × zE) := [(46, .laload, 1, 0, 0, 0), (47, .aload_n 0, 1, 0, 0, 0), (48, .getfield 43, 3, 1, 9, 167), (51, .iload 6, 2, 0, 0, 0), (53, .laload, 1, 0, 0, 0), (54, .lmul, 1, 0, 0, 0), (55, .lstore 7, 2, 0, 0, 0), (57, .iload 5, 2, 0, 0, 0), (59, .i2l, 1, 0, 0, 0), (60, .aload_n 0, 1, 0, 0, 0)]
set_option maxRecDepth 100000 in
theorem zk_X1_weigh_3 : zl_X1_weigh_3.all (zgoodB zmt zm_X1_weigh) = true := by decide +kernel
def zl_X1_weigh_4 : List (Nat × zE) := [(61, .getfield 39, 3, 1, 8, 166), (64, .iload 6, 2, 0, 0, 0), (66, .laload, 1, 0, 0, 0), (67, .lmul, 1, 0, 0, 0), (68, .aload_n 0, 1, 0, 0, 0), (69, .getfield 43, 3, 1, 9, 167), (72, .iconst 0, 1, 0, 0, 0), (73, .laload, 1, 0, 0, 0), (74, .lmul, 1, 0, 0, 0), (75, .lstore 9, 2, 0, 0, 0)]
set_option maxRecDepth 100000 in
theorem zk_X1_weigh_4 : zl_X1_weigh_4.all (zgoodB zmt zm_X1_weigh) = true := by decide +kernel
def zl_X1_weigh_5 : List (Nat × zE) := [(77, .aload_n 0, 1, 0, 0, 0), (78, .getfield 43, 3, 1, 9, 167), (81, .iconst 0, 1, 0, 0, 0), (82, .laload, 1, 0, 0, 0), (83, .aload_n 0, 1, 0, 0, 0), (84, .getfield 43, 3, 1, 9, 167), (87, .iload 6, 2, 0, 0, 0), (89, .laload, 1, 0, 0, 0), (90, .lmul, 1, 0, 0, 0), (91, .lload_n 3, 1, 0, 0, 0)]
set_option maxRecDepth 100000 in
theorem zk_X1_weigh_5 : zl_X1_weigh_5.all (zgoodB zmt zm_X1_weigh) = true := by decide +kernel
def zl_X1_weigh_6 : List (Nat × zE) := [(92, .lmul, 1, 0, 0, 0), (93, .lstore 11, 2, 0, 0, 0), (95, .aload_n 0, 1, 0, 0, 0), (96, .getfield 55, 3, 1, 12, 170), (99, .lload 7, 2, 0, 0, 0), (101, .aload_n 0, 1, 0, 0, 0), (102, .getfield 31, 3, 1, 6, 164), (105, .iload_n 2, 1, 0, 0, 0), (106, .iaload, 1, 0, 0, 0), (107, .i2l, 1, 0, 0, 0)]
set_option maxRecDepth 100000 in
theorem zk_X1_weigh_6 : zl_X1_weigh_6.all (zgoodB zmt zm_X1_weigh) = true := by decide +kernel
def zl_X1_weigh_7 : List (Nat × zE) := [(108, .lmul, 1, 0, 0, 0), (109, .lload 9, 2, 0, 0, 0), (111, .lsub, 1, 0, 0, 0), (112, .lload 11, 2, 0, 0, 0), (114, .aload_n 0, 1, 0, 0, 0), (115, .getfield 28, 3, 1, 5, 163), (118, .iload_n 1, 1, 0, 0, 0), (119, .iaload, 1, 0, 0, 0), (120, .i2l, 1, 0, 0, 0), (121, .lmul, 1, 0, 0, 0)]
set_option maxRecDepth 100000 in
theorem zk_X1_weigh_7 : zl_X1_weigh_7.all (zgoodB zmt zm_X1_weigh) = true := by decide +kernel
def zl_X1_weigh_8 : List (Nat × zE) := [(122, .invokevirtual 138, 3, 1, 147, 1118), (125, .aload_n 0, 1, 0, 0, 0), (126, .getfield 59, 3, 1, 13, 171), (129, .lload 9, 2, 0, 0, 0), (131, .lload 7, 2, 0, 0, 0), (133, .aload_n 0, 1, 0, 0, 0), (134, .getfield 31, 3, 1, 6, 164), (137, .iload_n 1, 1, 0, 0, 0), (138, .iaload, 1, 0, 0, 0), (139, .i2l, 1, 0, 0, 0)]
set_option maxRecDepth 100000 in
theorem zk_X1_weigh_8 : zl_X1_weigh_8.all (zgoodB zmt zm_X1_weigh) = true := by decide +kernel
def zl_X1_weigh_9 : List (Nat × zE) := [(140, .lmul, 1, 0, 0, 0), (141, .lsub, 1, 0, 0, 0), (142, .lload 11, 2, 0, 0, 0), (144, .aload_n 0, 1, 0, 0, 0), (145, .getfield 28, 3, 1, 5, 163), (148, .iload_n 2, 1, 0, 0, 0), (149, .iaload, 1, 0, 0, 0), (150, .i2l, 1, 0, 0, 0), (151, .lmul, 1, 0, 0, 0), (152, .invokevirtual 138, 3, 1, 147, 1118)]
set_option maxRecDepth 100000 in
theorem zk_X1_weigh_9 : zl_X1_weigh_9.all (zgoodB zmt zm_X1_weigh) = true := by decide +kernel
def zl_X1_weigh_10 : List (Nat × zE) := [(155, .aload_n 0, 1, 0, 0, 0), (156, .getfield 55, 3, 1, 12, 170), (159, .getfield 106, 3, 0, 0, 145), (162, .lconst 0, 1, 0, 0, 0), (163, .lcmp, 1, 0, 0, 0), (164, .ifCond .le 26, 3, 190, 0, 0), (167, .aload_n 0, 1, 0, 0, 0), (168, .getfield 59, 3, 1, 13, 171), (171, .getfield 106, 3, 0, 0, 145), (174, .lconst 0, 1, 0, 0, 0)]
set_option maxRecDepth 100000 in
theorem zk_X1_weigh_10 : zl_X1_weigh_10.all (zgoodB zmt zm_X1_weigh) = true := by decide +kernel
def zl_X1_weigh_11 : List (Nat × zE) := [(175, .lcmp, 1, 0, 0, 0), (176, .ifCond .le 14, 3, 190, 0, 0), (179, .aload_n 0, 1, 0, 0, 0), (180, .invokevirtual 142, 3, 12, 4145, 1120), (183, .ifCond .eq 7, 3, 190, 0, 0), (186, .iconst 1, 1, 0, 0, 0), (187, .goto 4, 3, 191, 0, 0), (190, .iconst 0, 1, 0, 0, 0), (191, .ireturn, 1, 1, 0, 0)]
set_option maxRecDepth 100000 in
theorem zk_X1_weigh_11 : zl_X1_weigh_11.all (zgoodB zmt zm_X1_weigh) = true := by decide +kernel
def zp_X1_weigh : Nat → Option zE := (ztr 92 (ztr 46 (ztr 14 (zlf zl_X1_weigh_0) (ztr 28 (zlf zl_X1_weigh_1) (zlf zl_X1_weigh_2))) (ztr 61 (zlf zl_X1_weigh_3) (ztr 77 (zlf zl_X1_weigh_4) (zlf zl_X1_weigh_5)))) (ztr 140 (ztr 108 (zlf zl_X1_weigh_6) (ztr 122 (zlf zl_X1_weigh_7) (zlf zl_X1_weigh_8))) (ztr 155 (zlf zl_X1_weigh_9) (ztr 175 (zlf zl_X1_weigh_10) (zlf zl_X1_weigh_11)))))
theorem za_X1_weigh : zall (zgood zmt zm_X1_weigh) zp_X1_weigh := (zall_tr (zall_tr (zall_tr (zall_lf zl_X1_weigh_0 zk_X1_weigh_0) (zall_tr (zall_lf zl_X1_weigh_1 zk_X1_weigh_1) (zall_lf zl_X1_weigh_2 zk_X1_weigh_2))) (zall_tr (zall_lf zl_X1_weigh_3 zk_X1_weigh_3) (zall_tr (zall_lf zl_X1_weigh_4 zk_X1_weigh_4) (zall_lf zl_X1_weigh_5 zk_X1_weigh_5)))) (zall_tr (zall_tr (zall_lf zl_X1_weigh_6 zk_X1_weigh_6) (zall_tr (zall_lf zl_X1_weigh_7 zk_X1_weigh_7) (zall_lf zl_X1_weigh_8 zk_X1_weigh_8))) (zall_tr (zall_lf zl_X1_weigh_9 zk_X1_weigh_9) (zall_tr (zall_lf zl_X1_weigh_10 zk_X1_weigh_10) (zall_lf zl_X1_weigh_11 zk_X1_weigh_11)))))
def zl_X1_bringToOneLower_0 : List (Nat × zE) := [(0, .aload_n 0, 1, 0, 0, 0), (1, .getfield 55, 3, 1, 12, 170), (4, .getfield 113, 3, 0, 1, 148), (7, .aload_n 0, 1, 0, 0, 0), (8, .getfield 59, 3, 1, 13, 171), (11, .getfield 113, 3, 0, 1, 148), (14, .invokestatic 146, 3, 71, 20658, 1129), (17, .lstore_n 1, 1, 0, 0, 0), (18, .lload_n 1, 1, 0, 0, 0), (19, .lconst 0, 1, 0, 0, 0)]
set_option maxRecDepth 100000 in
theorem zk_X1_bringToOneLower_0 : zl_X1_bringToOneLower_0.all (zgoodB zmt zm_X1_bringToOneLower) = true := by decide +kernel
def zl_X1_bringToOneLower_1 : List (Nat × zE) := [(20, .lcmp, 1, 0, 0, 0), (21, .ifCond .eq 27, 3, 48, 0, 0), (24, .aload_n 0, 1, 0, 0, 0), (25, .getfield 55, 3, 1, 12, 170), (28, .getfield 113, 3, 0, 1, 148), (31, .lconst 0, 1, 0, 0, 0), (32, .lcmp, 1, 0, 0, 0), (33, .ifCond .eq 15, 3, 48, 0, 0), (36, .aload_n 0, 1, 0, 0, 0), (37, .getfield 59, 3, 1, 13, 171)]
set_option maxRecDepth 100000 in
theorem zk_X1_bringToOneLower_1 : zl_X1_bringToOneLower_1.all (zgoodB zmt zm_X1_bringToOneLower) = true := by decide +kernel
def zl_X1_bringToOneLower_2 : List (Nat × zE) := [(40, .getfield 113, 3, 0, 1, 148), (43, .lconst 0, 1, 0, 0, 0), (44, .lcmp, 1, 0, 0, 0), (45, .ifCond .ne 5, 3, 50, 0, 0), (48, .iconst 0, 1, 0, 0, 0), (49, .ireturn, 1, 1, 0, 0), (50, .aload_n 0, 1, 0, 0, 0), (51, .aload_n 0, 1, 0, 0, 0), (52, .getfield 55, 3, 1, 12, 170), (55, .getfield 113, 3, 0, 1, 148)]
set_option maxRecDepth 100000 in
theorem zk_X1_bringToOneLower_2 : zl_X1_bringToOneLower_2.all (zgoodB zmt zm_X1_bringToOneLower) = true := by decide +kernel
def zl_X1_bringToOneLower_3 : List (Nat × zE) := [(58, .lload_n 1, 1, 0, 0, 0), (59, .ldiv, 1, 0, 0, 0), (60, .aload_n 0, 1, 0, 0, 0), (61, .getfield 59, 3, 1, 13, 171), (64, .getfield 113, 3, 0, 1, 148), (67, .lmul, 1, 0, 0, 0), (68, .putfield 69, 3, 17, 16, 176), (71, .aload_n 0, 1, 0, 0, 0), (72, .aload_n 0, 1, 0, 0, 0), (73, .getfield 55, 3, 1, 12, 170)]
set_option maxRecDepth 100000 in
theorem zk_X1_bringToOneLower_3 : zl_X1_bringToOneLower_3.all (zgoodB zmt zm_X1_bringToOneLower) = true := by decide +kernel
def zl_X1_bringToOneLower_4 : List (Nat × zE) := [(76, .getfield 106, 3, 0, 0, 145), (79, .aload_n 0, 1, 0, 0, 0), (80, .getfield 69, 3, 1, 16, 176), (83, .aload_n 0, 1, 0, 0, 0), (84, .getfield 55, 3, 1, 12, 170), (87, .getfield 113, 3, 0, 1, 148), (90, .ldiv, 1, 0, 0, 0), (91, .lmul, 1, 0, 0, 0), (92, .putfield 62, 3, 17, 14, 172), (95, .aload_n 0, 1, 0, 0, 0)]
set_option maxRecDepth 100000 in
theorem zk_X1_bringToOneLower_4 : zl_X1_bringToOneLower_4.all (zgoodB zmt zm_X1_bringToOneLower) = true := by decide +kernel
def zl_X1_bringToOneLower_5 : List (Nat × zE) := [(96, .aload_n 0, 1, 0, 0, 0), (97, .getfield 59, 3, 1, 13, 171), (100, .getfield 106, 3, 0, 0, 145), (103, .aload_n 0, 1, 0, 0, 0), (104, .getfield 69, 3, 1, 16, 176), (107, .aload_n 0, 1, 0, 0, 0), (108, .getfield 59, 3, 1, 13, 171), (111, .getfield 113, 3, 0, 1, 148), (114, .ldiv, 1, 0, 0, 0), (115, .lmul, 1, 0, 0, 0)]
set_option maxRecDepth 100000 in
theorem zk_X1_bringToOneLower_5 : zl_X1_bringToOneLower_5.all (zgoodB zmt zm_X1_bringToOneLower) = true := by decide +kernel
def zl_X1_bringToOneLower_6 : List (Nat × zE) := [(116, .putfield 66, 3, 17, 15, 174), (119, .aload_n 0, 1, 0, 0, 0), (120, .getfield 69, 3, 1, 16, 176), (123, .ldc2_w 150, 3, 10000, 0, 565), (126, .lcmp, 1, 0, 0, 0), (127, .ifCond .gt 29, 3, 156, 0, 0), (130, .aload_n 0, 1, 0, 0, 0), (131, .getfield 62, 3, 1, 14, 172), (134, .ldc2_w 150, 3, 10000, 0, 565), (137, .lcmp, 1, 0, 0, 0)]
set_option maxRecDepth 100000 in
theorem zk_X1_bringToOneLower_6 : zl_X1_bringToOneLower_6.all (zgoodB zmt zm_X1_bringToOneLower) = true := by decide +kernel
def zl_X1_bringToOneLower_7 : List (Nat × zE) := [(138, .ifCond .gt 18, 3, 156, 0, 0), (141, .aload_n 0, 1, 0, 0, 0), (142, .getfield 66, 3, 1, 15, 174), (145, .ldc2_w 150, 3, 10000, 0, 565), (148, .lcmp, 1, 0, 0, 0), (149, .ifCond .gt 7, 3, 156, 0, 0), (152, .iconst 1, 1, 0, 0, 0), (153, .goto 4, 3, 157, 0, 0), (156, .iconst 0, 1, 0, 0, 0), (157, .ireturn, 1, 1, 0, 0)]
set_option maxRecDepth 100000 in
theorem zk_X1_bringToOneLower_7 : zl_X1_bringToOneLower_7.all (zgoodB zmt zm_X1_bringToOneLower) = true := by decide +kernel
def zp_X1_bringToOneLower : Nat → Option zE := (ztr 76 (ztr 40 (ztr 20 (zlf zl_X1_bringToOneLower_0) (zlf zl_X1_bringToOneLower_1)) (ztr 58 (zlf zl_X1_bringToOneLower_2) (zlf zl_X1_bringToOneLower_3))) (ztr 116 (ztr 96 (zlf zl_X1_bringToOneLower_4) (zlf zl_X1_bringToOneLower_5)) (ztr 138 (zlf zl_X1_bringToOneLower_6) (zlf zl_X1_bringToOneLower_7))))
theorem za_X1_bringToOneLower : zall (zgood zmt zm_X1_bringToOneLower) zp_X1_bringToOneLower := (zall_tr (zall_tr (zall_tr (zall_lf zl_X1_bringToOneLower_0 zk_X1_bringToOneLower_0) (zall_lf zl_X1_bringToOneLower_1 zk_X1_bringToOneLower_1)) (zall_tr (zall_lf zl_X1_bringToOneLower_2 zk_X1_bringToOneLower_2) (zall_lf zl_X1_bringToOneLower_3 zk_X1_bringToOneLower_3))) (zall_tr (zall_tr (zall_lf zl_X1_bringToOneLower_4 zk_X1_bringToOneLower_4) (zall_lf zl_X1_bringToOneLower_5 zk_X1_bringToOneLower_5)) (zall_tr (zall_lf zl_X1_bringToOneLower_6 zk_X1_bringToOneLower_6) (zall_lf zl_X1_bringToOneLower_7 zk_X1_bringToOneLower_7))))
def zl_X1_isRightUpTo_0 : List (Nat × zE) := [(0, .iload_n 1, 1, 0, 0, 0), (1, .iconst 1, 1, 0, 0, 0), (2, .iadd, 1, 0, 0, 0), (3, .iload_n 1, 1, 0, 0, 0), (4, .iconst 2, 1, 0, 0, 0), (5, .iadd, 1, 0, 0, 0), (6, .imul, 1, 0, 0, 0), (7, .iconst 2, 1, 0, 0, 0), (8, .idiv, 1, 0, 0, 0), (9, .istore 4, 2, 0, 0, 0)]
set_option maxRecDepth 100000 in
theorem zk_X1_isRightUpTo_0 : zl_X1_isRightUpTo_0.all (zgoodB zmt zm_X1_isRightUpTo) = true := by decide +kernel
def zl_X1_isRightUpTo_1 : List (Nat × zE) := [(11, .iconst 0, 1, 0, 0, 0), (12, .istore 5, 2, 0, 0, 0), (14, .iload 5, 2, 0, 0, 0), (16, .iload 4, 2, 0, 0, 0), (18, .if_icmp .ge 75, 3, 93, 0, 0), (21, .iload 5, 2, 0, 0, 0), (23, .bipush 21, 2, 0, 0, 0), (25, .if_icmp .ge 68, 3, 93, 0, 0), (28, .aload_n 0, 1, 0, 0, 0), (29, .getfield 62, 3, 1, 14, 172)]
set_option maxRecDepth 100000 in
theorem zk_X1_isRightUpTo_1 : zl_X1_isRightUpTo_1.all (zgoodB zmt zm_X1_isRightUpTo) = true := by decide +kernel
def zl_X1_isRightUpTo_2 : List (Nat × zE) := [(32, .aload_n 0, 1, 0, 0, 0), (33, .getfield 36, 3, 1, 7, 165), (36, .iload_n 2, 1, 0, 0, 0), (37, .aaload, 1, 0, 0, 0), (38, .iload 5, 2, 0, 0, 0), (40, .laload, 1, 0, 0, 0), (41, .lmul, 1, 0, 0, 0), (42, .aload_n 0, 1, 0, 0, 0), (43, .getfield 66, 3, 1, 15, 174), (46, .aload_n 0, 1, 0, 0, 0)]
set_option maxRecDepth 100000 in
theorem zk_X1_isRightUpTo_2 : zl_X1_isRightUpTo_2.all (zgoodB zmt zm_X1_isRightUpTo) = true := by decide +kernel
def zl_X1_isRightUpTo_3 : List (Nat × zE) := [(47, .getfield 36, 3, 1, 7, 165), (50, .iload_n 3, 1, 0, 0, 0), (51, .aaload, 1, 0, 0, 0), (52, .iload 5, 2, 0, 0, 0), (54, .laload, 1, 0, 0, 0), (55, .lmul, 1, 0, 0, 0), (56, .ladd, 1, 0, 0, 0), (57, .lstore 6, 2, 0, 0, 0), (59, .lload 6, 2, 0, 0, 0), (61, .aload_n 0, 1, 0, 0, 0)]
set_option maxRecDepth 100000 in
theorem zk_X1_isRightUpTo_3 : zl_X1_isRightUpTo_3.all (zgoodB zmt zm_X1_isRightUpTo) = true := by decide +kernel
def zl_X1_isRightUpTo_4 : List (Nat × zE) := [(62, .getfield 43, 3, 1, 9, 167), (65, .iload 5, 2, 0, 0, 0), (67, .laload, 1, 0, 0, 0), (68, .lmul, 1, 0, 0, 0), (69, .aload_n 0, 1, 0, 0, 0), (70, .getfield 39, 3, 1, 8, 166), (73, .iload 5, 2, 0, 0, 0), (75, .laload, 1, 0, 0, 0), (76, .aload_n 0, 1, 0, 0, 0), (77, .getfield 69, 3, 1, 16, 176)]
set_option maxRecDepth 100000 in
theorem zk_X1_isRightUpTo_4 : zl_X1_isRightUpTo_4.all (zgoodB zmt zm_X1_isRightUpTo) = true := by decide +kernel
def zl_X1_isRightUpTo_5 : List (Nat × zE) := [(80, .lmul, 1, 0, 0, 0), (81, .lcmp, 1, 0, 0, 0), (82, .ifCond .eq 5, 3, 87, 0, 0), (85, .iconst 0, 1, 0, 0, 0), (86, .ireturn, 1, 1, 0, 0), (87, .iinc 5 1, 3, 0, 0, 0), (90, .goto (-76), 3, 14, 0, 0), (93, .iconst 1, 1, 0, 0, 0), (94, .ireturn, 1, 1, 0, 0)]
set_option maxRecDepth 100000 in
theorem zk_X1_isRightUpTo_5 : zl_X1_isRightUpTo_5.all (zgoodB zmt zm_X1_isRightUpTo) = true := by decide +kernel
def zp_X1_isRightUpTo : Nat → Option zE := (ztr 47 (ztr 11 (zlf zl_X1_isRightUpTo_0) (ztr 32 (zlf zl_X1_isRightUpTo_1) (zlf zl_X1_isRightUpTo_2))) (ztr 62 (zlf zl_X1_isRightUpTo_3) (ztr 80 (zlf zl_X1_isRightUpTo_4) (zlf zl_X1_isRightUpTo_5))))
theorem za_X1_isRightUpTo : zall (zgood zmt zm_X1_isRightUpTo) zp_X1_isRightUpTo := (zall_tr (zall_tr (zall_lf zl_X1_isRightUpTo_0 zk_X1_isRightUpTo_0) (zall_tr (zall_lf zl_X1_isRightUpTo_1 zk_X1_isRightUpTo_1) (zall_lf zl_X1_isRightUpTo_2 zk_X1_isRightUpTo_2))) (zall_tr (zall_lf zl_X1_isRightUpTo_3 zk_X1_isRightUpTo_3) (zall_tr (zall_lf zl_X1_isRightUpTo_4 zk_X1_isRightUpTo_4) (zall_lf zl_X1_isRightUpTo_5 zk_X1_isRightUpTo_5))))
def zl_X2_init_0 : List (Nat × zE) := [(0, .aload_n 0, 1, 0, 0, 0), (1, .invokespecial 3, 3, 900, 0, 110), (4, .aload_n 0, 1, 0, 0, 0), (5, .bipush 8, 2, 0, 0, 0), (7, .newarray .int, 2, 0, 0, 0), (9, .putfield 9, 3, 34, 0, 111), (12, .aload_n 0, 1, 0, 0, 0), (13, .bipush 8, 2, 0, 0, 0), (15, .newarray .int, 2, 0, 0, 0), (17, .putfield 15, 3, 34, 1, 115)]
set_option maxRecDepth 100000 in
theorem zk_X2_init_0 : zl_X2_init_0.all (zgoodB zmt zm_X2_init) = true := by decide +kernel
def zl_X2_init_1 : List (Nat × zE) := [(20, .aload_n 0, 1, 0, 0, 0), (21, .iconst 0, 1, 0, 0, 0), (22, .putfield 18, 3, 2, 2, 119), (25, .return_, 1, 0, 0, 0)]
set_option maxRecDepth 100000 in
theorem zk_X2_init_1 : zl_X2_init_1.all (zgoodB zmt zm_X2_init) = true := by decide +kernel
def zp_X2_init : Nat → Option zE := (ztr 20 (zlf zl_X2_init_0) (zlf zl_X2_init_1))
theorem za_X2_init : zall (zgood zmt zm_X2_init) zp_X2_init := (zall_tr (zall_lf zl_X2_init_0 zk_X2_init_0) (zall_lf zl_X2_init_1 zk_X2_init_1))
def zl_X2_gather_0 : List (Nat × zE) := [(0, .aload_n 0, 1, 0, 0, 0), (1, .iconst 0, 1, 0, 0, 0), (2, .putfield 18, 3, 2, 2, 119), (5, .iload_n 1, 1, 0, 0, 0), (6, .iconst 1, 1, 0, 0, 0), (7, .if_icmp .ne 36, 3, 43, 0, 0), (10, .iload_n 2, 1, 0, 0, 0), (11, .iload_n 3, 1, 0, 0, 0), (12, .isub, 1, 0, 0, 0), (13, .iload 4, 2, 0, 0, 0)]
set_option maxRecDepth 100000 in
theorem zk_X2_gather_0 : zl_X2_gather_0.all (zgoodB zmt zm_X2_gather) = true := by decide +kernel
def zl_X2_gather_1 : List (Nat × zE) := [(15, .isub, 1, 0, 0, 0), (16, .istore 5, 2, 0, 0, 0), (18, .aload_n 0, 1, 0, 0, 0), (19, .iload_n 3, 1, 0, 0, 0), (20, .iload 4, 2, 0, 0, 0), (22, .invokevirtual 22, 3, 16, 8243, 710), (25, .aload_n 0, 1, 0, 0, 0), (26, .iload_n 3, 1, 0, 0, 0), (27, .iload 5, 2, 0, 0, 0), (29, .invokevirtual 22, 3, 16, 8243, 710)]
set_option maxRecDepth 100000 in
theorem zk_X2_gather_1 : zl_X2_gather_1.all (zgoodB zmt zm_X2_gather) = true := by decide +kernel
def zl_X2_gather_2 : List (Nat × zE) := [(32, .aload_n 0, 1, 0, 0, 0), (33, .iload 4, 2, 0, 0, 0), (35, .iload 5, 2, 0, 0, 0), (37, .invokevirtual 22, 3, 16, 8243, 710), (40, .goto 35, 3, 75, 0, 0), (43, .aload_n 0, 1, 0, 0, 0), (44, .iload_n 3, 1, 0, 0, 0), (45, .iload 4, 2, 0, 0, 0), (47, .invokevirtual 22, 3, 16, 8243, 710), (50, .aload_n 0, 1, 0, 0, 0)]
set_option maxRecDepth 100000 in
theorem zk_X2_gather_2 : zl_X2_gather_2.all (zgoodB zmt zm_X2_gather) = true := by decide +kernel
def zl_X2_gather_3 : List (Nat × zE) := [(51, .iload_n 3, 1, 0, 0, 0), (52, .iload 4, 2, 0, 0, 0), (54, .ineg, 1, 0, 0, 0), (55, .invokevirtual 22, 3, 16, 8243, 710), (58, .aload_n 0, 1, 0, 0, 0), (59, .iload_n 3, 1, 0, 0, 0), (60, .ineg, 1, 0, 0, 0), (61, .iload 4, 2, 0, 0, 0), (63, .invokevirtual 22, 3, 16, 8243, 710), (66, .aload_n 0, 1, 0, 0, 0)]
set_option maxRecDepth 100000 in
theorem zk_X2_gather_3 : zl_X2_gather_3.all (zgoodB zmt zm_X2_gather) = true := by decide +kernel
def zl_X2_gather_4 : List (Nat × zE) := [(67, .iload_n 3, 1, 0, 0, 0), (68, .ineg, 1, 0, 0, 0), (69, .iload 4, 2, 0, 0, 0), (71, .ineg, 1, 0, 0, 0), (72, .invokevirtual 22, 3, 16, 8243, 710), (75, .return_, 1, 0, 0, 0)]
set_option maxRecDepth 100000 in
theorem zk_X2_gather_4 : zl_X2_gather_4.all (zgoodB zmt zm_X2_gather) = true := by decide +kernel
def zp_X2_gather : Nat → Option zE := (ztr 32 (ztr 15 (zlf zl_X2_gather_0) (zlf zl_X2_gather_1)) (ztr 51 (zlf zl_X2_gather_2) (ztr 67 (zlf zl_X2_gather_3) (zlf zl_X2_gather_4))))
theorem za_X2_gather : zall (zgood zmt zm_X2_gather) zp_X2_gather := (zall_tr (zall_tr (zall_lf zl_X2_gather_0 zk_X2_gather_0) (zall_lf zl_X2_gather_1 zk_X2_gather_1)) (zall_tr (zall_lf zl_X2_gather_2 zk_X2_gather_2) (zall_tr (zall_lf zl_X2_gather_3 zk_X2_gather_3) (zall_lf zl_X2_gather_4 zk_X2_gather_4))))
def zl_X2_insertBothWays_0 : List (Nat × zE) := [(0, .aload_n 0, 1, 0, 0, 0), (1, .iload_n 1, 1, 0, 0, 0), (2, .iload_n 2, 1, 0, 0, 0), (3, .invokevirtual 26, 3, 17, 8291, 718), (6, .aload_n 0, 1, 0, 0, 0), (7, .iload_n 2, 1, 0, 0, 0), (8, .iload_n 1, 1, 0, 0, 0), (9, .invokevirtual 26, 3, 17, 8291, 718), (12, .return_, 1, 0, 0, 0)]
set_option maxRecDepth 100000 in
theorem zk_X2_insertBothWays_0 : zl_X2_insertBothWays_0.all (zgoodB zmt zm_X2_insertBothWays) = true := by decide +kernel
def zp_X2_insertBothWays : Nat → Option zE := (zlf zl_X2_insertBothWays_0)
theorem za_X2_insertBothWays : zall (zgood zmt zm_X2_insertBothWays) zp_X2_insertBothWays := (zall_lf zl_X2_insertBothWays_0 zk_X2_insertBothWays_0)
def zl_X2_insert_0 : List (Nat × zE) := [(0, .iconst 0, 1, 0, 0, 0), (1, .istore_n 3, 1, 0, 0, 0), (2, .iload_n 3, 1, 0, 0, 0), (3, .aload_n 0, 1, 0, 0, 0), (4, .getfield 18, 3, 2, 2, 119), (7, .if_icmp .ge 19, 3, 26, 0, 0), (10, .aload_n 0, 1, 0, 0, 0), (11, .iload_n 3, 1, 0, 0, 0), (12, .iload_n 1, 1, 0, 0, 0), (13, .iload_n 2, 1, 0, 0, 0)]
set_option maxRecDepth 100000 in
theorem zk_X2_insert_0 : zl_X2_insert_0.all (zgoodB zmt zm_X2_insert) = true := by decide +kernel
def zl_X2_insert_1 : List (Nat × zE) := [(14, .invokevirtual 29, 3, 18, 8260, 726), (17, .ifCond .eq 9, 3, 26, 0, 0), (20, .iinc 3 1, 3, 0, 0, 0), (23, .goto (-21), 3, 2, 0, 0), (26, .iload_n 3, 1, 0, 0, 0), (27, .aload_n 0, 1, 0, 0, 0), (28, .getfield 18, 3, 2, 2, 119), (31, .if_icmp .ge 27, 3, 58, 0, 0), (34, .aload_n 0, 1, 0, 0, 0), (35, .getfield 9, 3, 2, 0, 111)]
set_option maxRecDepth 100000 in
theorem zk_X2_insert_1 : zl_X2_insert_1.all (zgoodB zmt zm_X2_insert) = true := by decide +kernel
def zl_X2_insert_2 : List (Nat × zE) := [(38, .iload_n 3, 1, 0, 0, 0), (39, .iaload, 1, 0, 0, 0), (40, .iload_n 1, 1, 0, 0, 0), (41, .if_icmp .ne 17, 3, 58, 0, 0), (44, .aload_n 0, 1, 0, 0, 0), (45, .getfield 15, 3, 2, 1, 115), (48, .iload_n 3, 1, 0, 0, 0), (49, .iaload, 1, 0, 0, 0), (50, .iload_n 2, 1, 0, 0, 0), (51, .if_icmp .ne 7, 3, 58, 0, 0)]
set_option maxRecDepth 100000 in
theorem zk_X2_insert_2 : zl_X2_insert_2.all (zgoodB zmt zm_X2_insert) = true := by decide +kernel
def zl_X2_insert_3 : List (Nat × zE) := [(54, .iconst 1, 1, 0, 0, 0), (55, .goto 4, 3, 59, 0, 0), (58, .iconst 0, 1, 0, 0, 0), (59, .istore 4, 2, 0, 0, 0), (61, .iload 4, 2, 0, 0, 0), (63, .ifCond .ne 12, 3, 75, 0, 0), (66, .aload_n 0, 1, 0, 0, 0), (67, .getfield 18, 3, 2, 2, 119), (70, .bipush 8, 2, 0, 0, 0), (72, .if_icmp .lt 4, 3, 76, 0, 0)]
set_option maxRecDepth 100000 in
theorem zk_X2_insert_3 : zl_X2_insert_3.all (zgoodB zmt zm_X2_insert) = true := by decide +kernel
def zl_X2_insert_4 : List (Nat × zE) := [(75, .return_, 1, 0, 0, 0), (76, .aload_n 0, 1, 0, 0, 0), (77, .getfield 18, 3, 2, 2, 119), (80, .istore 5, 2, 0, 0, 0), (82, .iload 5, 2, 0, 0, 0), (84, .iload_n 3, 1, 0, 0, 0), (85, .if_icmp .le 41, 3, 126, 0, 0), (88, .aload_n 0, 1, 0, 0, 0), (89, .getfield 9, 3, 2, 0, 111), (92, .iload 5, 2, 0, 0, 0)]
set_option maxRecDepth 100000 in
theorem zk_X2_insert_4 : zl_X2_insert_4.all (zgoodB zmt zm_X2_insert) = true := by decide +kernel
def zl_X2_insert_5 : List (Nat × zE) := [(94, .aload_n 0, 1, 0, 0, 0), (95, .getfield 9, 3, 2, 0, 111), (98, .iload 5, 2, 0, 0, 0), (100, .iconst 1, 1, 0, 0, 0), (101, .isub, 1, 0, 0, 0), (102, .iaload, 1, 0, 0, 0), (103, .iastore, 1, 0, 0, 0), (104, .aload_n 0, 1, 0, 0, 0), (105, .getfield 15, 3, 2, 1, 115), (108, .iload 5, 2, 0, 0, 0)]
set_option maxRecDepth 100000 in
theorem zk_X2_insert_5 : zl_X2_insert_5.all (zgoodB zmt zm_X2_insert) = true := by decide +kernel
def zl_X2_insert_6 : List (Nat × zE) := [(110, .aload_n 0, 1, 0, 0, 0), (111, .getfield 15, 3, 2, 1, 115), (114, .iload 5, 2, 0, 0, 0), (116, .iconst 1, 1, 0, 0, 0), (117, .isub, 1, 0, 0, 0), (118, .iaload, 1, 0, 0, 0), (119, .iastore, 1, 0, 0, 0), (120, .iinc 5 (-1), 3, 0, 0, 0), (123, .goto (-41), 3, 82, 0, 0), (126, .aload_n 0, 1, 0, 0, 0)]
set_option maxRecDepth 100000 in
theorem zk_X2_insert_6 : zl_X2_insert_6.all (zgoodB zmt zm_X2_insert) = true := by decide +kernel
def zl_X2_insert_7 : List (Nat × zE) := [(127, .getfield 9, 3, 2, 0, 111), (130, .iload_n 3, 1, 0, 0, 0), (131, .iload_n 1, 1, 0, 0, 0), (132, .iastore, 1, 0, 0, 0), (133, .aload_n 0, 1, 0, 0, 0), (134, .getfield 15, 3, 2, 1, 115), (137, .iload_n 3, 1, 0, 0, 0), (138, .iload_n 2, 1, 0, 0, 0), (139, .iastore, 1, 0, 0, 0), (140, .aload_n 0, 1, 0, 0, 0)]
set_option maxRecDepth 100000 in
theorem zk_X2_insert_7 : zl_X2_insert_7.all (zgoodB zmt zm_X2_insert) = true := by decide +kernel
def zl_X2_insert_8 : List (Nat × zE) := [(141, .dup, 1, 0, 0, 0), (142, .getfield 18, 3, 2, 2, 119), (145, .iconst 1, 1, 0, 0, 0), (146, .iadd, 1, 0, 0, 0), (147, .putfield 18, 3, 2, 2, 119), (150, .return_, 1, 0, 0, 0)]
set_option maxRecDepth 100000 in
theorem zk_X2_insert_8 : zl_X2_insert_8.all (zgoodB zmt zm_X2_insert) = true := by decide +kernel
def zp_X2_insert : Nat → Option zE := (ztr 75 (ztr 38 (ztr 14 (zlf zl_X2_insert_0) (zlf zl_X2_insert_1)) (ztr 54 (zlf zl_X2_insert_2) (zlf zl_X2_insert_3))) (ztr 110 (ztr 94 (zlf zl_X2_insert_4) (zlf zl_X2_insert_5)) (ztr 127 (zlf zl_X2_insert_6) (ztr 141 (zlf zl_X2_insert_7) (zlf zl_X2_insert_8)))))
theorem za_X2_insert : zall (zgood zmt zm_X2_insert) zp_X2_insert := (zall_tr (zall_tr (zall_tr (zall_lf zl_X2_insert_0 zk_X2_insert_0) (zall_lf zl_X2_insert_1 zk_X2_insert_1)) (zall_tr (zall_lf zl_X2_insert_2 zk_X2_insert_2) (zall_lf zl_X2_insert_3 zk_X2_insert_3))) (zall_tr (zall_tr (zall_lf zl_X2_insert_4 zk_X2_insert_4) (zall_lf zl_X2_insert_5 zk_X2_insert_5)) (zall_tr (zall_lf zl_X2_insert_6 zk_X2_insert_6) (zall_tr (zall_lf zl_X2_insert_7 zk_X2_insert_7) (zall_lf zl_X2_insert_8 zk_X2_insert_8)))))
def zl_X2_isAhead_0 : List (Nat × zE) := [(0, .aload_n 0, 1, 0, 0, 0), (1, .getfield 9, 3, 2, 0, 111), (4, .iload_n 1, 1, 0, 0, 0), (5, .iaload, 1, 0, 0, 0), (6, .iload_n 2, 1, 0, 0, 0), (7, .if_icmp .lt 23, 3, 30, 0, 0), (10, .aload_n 0, 1, 0, 0, 0), (11, .getfield 9, 3, 2, 0, 111), (14, .iload_n 1, 1, 0, 0, 0), (15, .iaload, 1, 0, 0, 0)]
set_option maxRecDepth 100000 in
theorem zk_X2_isAhead_0 : zl_X2_isAhead_0.all (zgoodB zmt zm_X2_isAhead) = true := by decide +kernel
def zl_X2_isAhead_1 : List (Nat × zE) := [(16, .iload_n 2, 1, 0, 0, 0), (17, .if_icmp .ne 17, 3, 34, 0, 0), (20, .aload_n 0, 1, 0, 0, 0), (21, .getfield 15, 3, 2, 1, 115), (24, .iload_n 1, 1, 0, 0, 0), (25, .iaload, 1, 0, 0, 0), (26, .iload_n 3, 1, 0, 0, 0), (27, .if_icmp .ge 7, 3, 34, 0, 0), (30, .iconst 1, 1, 0, 0, 0), (31, .goto 4, 3, 35, 0, 0)]
set_option maxRecDepth 100000 in
theorem zk_X2_isAhead_1 : zl_X2_isAhead_1.all (zgoodB zmt zm_X2_isAhead) = true := by decide +kernel
def zl_X2_isAhead_2 : List (Nat × zE) := [(34, .iconst 0, 1, 0, 0, 0), (35, .ireturn, 1, 1, 0, 0)]
set_option maxRecDepth 100000 in
theorem zk_X2_isAhead_2 : zl_X2_isAhead_2.all (zgoodB zmt zm_X2_isAhead) = true := by decide +kernel
def zp_X2_isAhead : Nat → Option zE := (ztr 16 (zlf zl_X2_isAhead_0) (ztr 34 (zlf zl_X2_isAhead_1) (zlf zl_X2_isAhead_2)))
theorem za_X2_isAhead : zall (zgood zmt zm_X2_isAhead) zp_X2_isAhead := (zall_tr (zall_lf zl_X2_isAhead_0 zk_X2_isAhead_0) (zall_tr (zall_lf zl_X2_isAhead_1 zk_X2_isAhead_1) (zall_lf zl_X2_isAhead_2 zk_X2_isAhead_2)))
def zl_X3_init_0 : List (Nat × zE) := [(0, .aload_n 0, 1, 0, 0, 0), (1, .invokespecial 3, 3, 900, 0, 74), (4, .aload_n 0, 1, 0, 0, 0), (5, .iconst 0, 1, 0, 0, 0), (6, .putfield 9, 3, 3, 0, 75), (9, .aload_n 0, 1, 0, 0, 0), (10, .iconst 1, 1, 0, 0, 0), (11, .putfield 15, 3, 3, 1, 77), (14, .aload_n 0, 1, 0, 0, 0), (15, .iconst 1, 1, 0, 0, 0)]
set_option maxRecDepth 100000 in
theorem zk_X3_init_0 : zl_X3_init_0.all (zgoodB zmt zm_X3_init) = true := by decide +kernel
def zl_X3_init_1 : List (Nat × zE) := [(16, .putfield 18, 3, 3, 2, 79), (19, .aload_n 0, 1, 0, 0, 0), (20, .iconst 0, 1, 0, 0, 0), (21, .putfield 21, 3, 3, 3, 81), (24, .aload_n 0, 1, 0, 0, 0), (25, .bipush 24, 2, 0, 0, 0), (27, .newarray .int, 2, 0, 0, 0), (29, .putfield 24, 3, 35, 4, 83), (32, .aload_n 0, 1, 0, 0, 0), (33, .bipush 24, 2, 0, 0, 0)]
set_option maxRecDepth 100000 in
theorem zk_X3_init_1 : zl_X3_init_1.all (zgoodB zmt zm_X3_init) = true := by decide +kernel
def zl_X3_init_2 : List (Nat × zE) := [(35, .newarray .int, 2, 0, 0, 0), (37, .putfield 28, 3, 35, 5, 85), (40, .aload_n 0, 1, 0, 0, 0), (41, .bipush 24, 2, 0, 0, 0), (43, .newarray .int, 2, 0, 0, 0), (45, .putfield 31, 3, 35, 6, 87), (48, .return_, 1, 0, 0, 0)]
set_option maxRecDepth 100000 in
theorem zk_X3_init_2 : zl_X3_init_2.all (zgoodB zmt zm_X3_init) = true := by decide +kernel
def zp_X3_init : Nat → Option zE := (ztr 16 (zlf zl_X3_init_0) (ztr 35 (zlf zl_X3_init_1) (zlf zl_X3_init_2)))
theorem za_X3_init : zall (zgood zmt zm_X3_init) zp_X3_init := (zall_tr (zall_lf zl_X3_init_0 zk_X3_init_0) (zall_tr (zall_lf zl_X3_init_1 zk_X3_init_1) (zall_lf zl_X3_init_2 zk_X3_init_2)))
def zl_X3_startAnew_0 : List (Nat × zE) := [(0, .aload_n 0, 1, 0, 0, 0), (1, .iload_n 1, 1, 0, 0, 0), (2, .putfield 9, 3, 3, 0, 75), (5, .aload_n 0, 1, 0, 0, 0), (6, .iload_n 2, 1, 0, 0, 0), (7, .putfield 15, 3, 3, 1, 77), (10, .aload_n 0, 1, 0, 0, 0), (11, .iload_n 3, 1, 0, 0, 0), (12, .putfield 18, 3, 3, 2, 79), (15, .aload_n 0, 1, 0, 0, 0)]
set_option maxRecDepth 100000 in
theorem zk_X3_startAnew_0 : zl_X3_startAnew_0.all (zgoodB zmt zm_X3_startAnew) = true := by decide +kernel
def zl_X3_startAnew_1 : List (Nat × zE) := [(16, .iconst 0, 1, 0, 0, 0), (17, .putfield 21, 3, 3, 3, 81), (20, .return_, 1, 0, 0, 0)]
set_option maxRecDepth 100000 in
theorem zk_X3_startAnew_1 : zl_X3_startAnew_1.all (zgoodB zmt zm_X3_startAnew) = true := by decide +kernel
def zp_X3_startAnew : Nat → Option zE := (ztr 16 (zlf zl_X3_startAnew_0) (zlf zl_X3_startAnew_1))
theorem za_X3_startAnew : zall (zgood zmt zm_X3_startAnew) zp_X3_startAnew := (zall_tr (zall_lf zl_X3_startAnew_0 zk_X3_startAnew_0) (zall_lf zl_X3_startAnew_1 zk_X3_startAnew_1))
def zl_X3_copyFrom_0 : List (Nat × zE) := [(0, .aload_n 0, 1, 0, 0, 0), (1, .aload_n 1, 1, 0, 0, 0), (2, .getfield 9, 3, 3, 0, 75), (5, .aload_n 1, 1, 0, 0, 0), (6, .getfield 15, 3, 3, 1, 77), (9, .aload_n 1, 1, 0, 0, 0), (10, .getfield 18, 3, 3, 2, 79), (13, .invokevirtual 34, 3, 20, 12356, 814), (16, .aload_n 0, 1, 0, 0, 0), (17, .aload_n 1, 1, 0, 0, 0)]
set_option maxRecDepth 100000 in
theorem zk_X3_copyFrom_0 : zl_X3_copyFrom_0.all (zgoodB zmt zm_X3_copyFrom) = true := by decide +kernel
def zl_X3_copyFrom_1 : List (Nat × zE) := [(18, .getfield 21, 3, 3, 3, 81), (21, .putfield 21, 3, 3, 3, 81), (24, .aload_n 1, 1, 0, 0, 0), (25, .getfield 24, 3, 3, 4, 83), (28, .iconst 0, 1, 0, 0, 0), (29, .aload_n 0, 1, 0, 0, 0), (30, .getfield 24, 3, 3, 4, 83), (33, .iconst 0, 1, 0, 0, 0), (34, .aload_n 0, 1, 0, 0, 0), (35, .getfield 21, 3, 3, 3, 81)]
set_option maxRecDepth 100000 in
theorem zk_X3_copyFrom_1 : zl_X3_copyFrom_1.all (zgoodB zmt zm_X3_copyFrom) = true := by decide +kernel
def zl_X3_copyFrom_2 : List (Nat × zE) := [(38, .invokestatic 38, 3, 901, 0, 408), (41, .aload_n 1, 1, 0, 0, 0), (42, .getfield 28, 3, 3, 5, 85), (45, .iconst 0, 1, 0, 0, 0), (46, .aload_n 0, 1, 0, 0, 0), (47, .getfield 28, 3, 3, 5, 85), (50, .iconst 0, 1, 0, 0, 0), (51, .aload_n 0, 1, 0, 0, 0), (52, .getfield 21, 3, 3, 3, 81), (55, .invokestatic 38, 3, 901, 0, 408)]
set_option maxRecDepth 100000 in
theorem zk_X3_copyFrom_2 : zl_X3_copyFrom_2.all (zgoodB zmt zm_X3_copyFrom) = true := by decide +kernel
def zl_X3_copyFrom_3 : List (Nat × zE) := [(58, .aload_n 1, 1, 0, 0, 0), (59, .getfield 31, 3, 3, 6, 87), (62, .iconst 0, 1, 0, 0, 0), (63, .aload_n 0, 1, 0, 0, 0), (64, .getfield 31, 3, 3, 6, 87), (67, .iconst 0, 1, 0, 0, 0), (68, .aload_n 0, 1, 0, 0, 0), (69, .getfield 21, 3, 3, 3, 81), (72, .invokestatic 38, 3, 901, 0, 408), (75, .return_, 1, 0, 0, 0)]
set_option maxRecDepth 100000 in
theorem zk_X3_copyFrom_3 : zl_X3_copyFrom_3.all (zgoodB zmt zm_X3_copyFrom) = true := by decide +kernel
def zp_X3_copyFrom : Nat → Option zE := (ztr 38 (ztr 18 (zlf zl_X3_copyFrom_0) (zlf zl_X3_copyFrom_1)) (ztr 58 (zlf zl_X3_copyFrom_2) (zlf zl_X3_copyFrom_3)))
theorem za_X3_copyFrom : zall (zgood zmt zm_X3_copyFrom) zp_X3_copyFrom := (zall_tr (zall_tr (zall_lf zl_X3_copyFrom_0 zk_X3_copyFrom_0) (zall_lf zl_X3_copyFrom_1 zk_X3_copyFrom_1)) (zall_tr (zall_lf zl_X3_copyFrom_2 zk_X3_copyFrom_2) (zall_lf zl_X3_copyFrom_3 zk_X3_copyFrom_3)))
