/-! ===== the code table, 5 ===== -/
def zl_X6_term_0 : List (Nat × zE) := [(0, .iload_n 1, 1, 0, 0, 0), (1, .i2l, 1, 0, 0, 0), (2, .lconst 0, 1, 0, 0, 0), (3, .ldc2_w 268, 3, 14, 0, 1020), (6, .invokestatic 118, 3, 100, 24675, 1644), (9, .ifCond .eq 17, 3, 26, 0, 0), (12, .iload_n 2, 1, 0, 0, 0), (13, .i2l, 1, 0, 0, 0), (14, .ldc2_w 270, 3, 18446744073709550616, 0, 1021), (17, .ldc2_w 272, 3, 1000, 0, 1022)]
set_option maxRecDepth 100000 in
theorem zk_X6_term_0 : zl_X6_term_0.all (zgoodB zmt zm_X6_term) = true := by decide +kernel
def zl_X6_term_1 : List (Nat × zE) := [(20, .invokestatic 118, 3, 100, 24675, 1644), (23, .ifCond .ne 7, 3, 30, 0, 0), (26, .ldc2_w 92, 3, 9223372036854775808, 0, 837), (29, .lreturn, 1, 0, 0, 0), (30, .aload_n 0, 1, 0, 0, 0), (31, .getfield 86, 3, 6, 39, 735), (34, .iload_n 1, 1, 0, 0, 0), (35, .iaload, 1, 0, 0, 0), (36, .istore_n 3, 1, 0, 0, 0), (37, .aload_n 0, 1, 0, 0, 0)]
set_option maxRecDepth 100000 in
theorem zk_X6_term_1 : zl_X6_term_1.all (zgoodB zmt zm_X6_term) = true := by decide +kernel
def zl_X6_term_2 : List (Nat × zE) := [(38, .getfield 86, 3, 6, 39, 735), (41, .iload_n 1, 1, 0, 0, 0), (42, .iload_n 2, 1, 0, 0, 0), (43, .iastore, 1, 0, 0, 0), (44, .iload_n 3, 1, 0, 0, 0), (45, .i2l, 1, 0, 0, 0), (46, .lreturn, 1, 0, 0, 0)]
set_option maxRecDepth 100000 in
theorem zk_X6_term_2 : zl_X6_term_2.all (zgoodB zmt zm_X6_term) = true := by decide +kernel
def zp_X6_term : Nat → Option zE := (ztr 20 (zlf zl_X6_term_0) (ztr 38 (zlf zl_X6_term_1) (zlf zl_X6_term_2)))
theorem za_X6_term : zall (zgood zmt zm_X6_term) zp_X6_term := (zall_tr (zall_lf zl_X6_term_0 zk_X6_term_0) (zall_tr (zall_lf zl_X6_term_1 zk_X6_term_1) (zall_lf zl_X6_term_2 zk_X6_term_2)))
def zl_X6_termOf_0 : List (Nat × zE) := [(0, .iload_n 0, 1, 0, 0, 0), (1, .iload_n 1, 1, 0, 0, 0), (2, .iadd, 1, 0, 0, 0), (3, .iload_n 0, 1, 0, 0, 0), (4, .iload_n 1, 1, 0, 0, 0), (5, .iadd, 1, 0, 0, 0), (6, .iconst 1, 1, 0, 0, 0), (7, .iadd, 1, 0, 0, 0), (8, .imul, 1, 0, 0, 0), (9, .iconst 2, 1, 0, 0, 0)]
set_option maxRecDepth 100000 in
theorem zk_X6_termOf_0 : zl_X6_termOf_0.all (zgoodB zmt zm_X6_termOf) = true := by decide +kernel
def zl_X6_termOf_1 : List (Nat × zE) := [(10, .idiv, 1, 0, 0, 0), (11, .iload_n 1, 1, 0, 0, 0), (12, .iadd, 1, 0, 0, 0), (13, .ireturn, 1, 0, 0, 0)]
set_option maxRecDepth 100000 in
theorem zk_X6_termOf_1 : zl_X6_termOf_1.all (zgoodB zmt zm_X6_termOf) = true := by decide +kernel
def zp_X6_termOf : Nat → Option zE := (ztr 10 (zlf zl_X6_termOf_0) (zlf zl_X6_termOf_1))
theorem za_X6_termOf : zall (zgood zmt zm_X6_termOf) zp_X6_termOf := (zall_tr (zall_lf zl_X6_termOf_0 zk_X6_termOf_0) (zall_lf zl_X6_termOf_1 zk_X6_termOf_1))
def zl_X6_whole_0 : List (Nat × zE) := [(0, .iload_n 1, 1, 0, 0, 0), (1, .invokestatic 153, 3, 114, 24593, 1668), (4, .ifCond .ne 7, 3, 11, 0, 0), (7, .ldc2_w 92, 3, 9223372036854775808, 0, 837), (10, .lreturn, 1, 0, 0, 0), (11, .lconst 0, 1, 0, 0, 0), (12, .lstore_n 2, 1, 0, 0, 0), (13, .lconst 1, 1, 0, 0, 0), (14, .lstore 4, 2, 0, 0, 0), (16, .iconst 0, 1, 0, 0, 0)]
set_option maxRecDepth 100000 in
theorem zk_X6_whole_0 : zl_X6_whole_0.all (zgoodB zmt zm_X6_whole) = true := by decide +kernel
def zl_X6_whole_1 : List (Nat × zE) := [(17, .istore 6, 2, 0, 0, 0), (19, .iload 6, 2, 0, 0, 0), (21, .iconst 4, 1, 0, 0, 0), (22, .if_icmp .gt 87, 3, 109, 0, 0), (25, .iconst 0, 1, 0, 0, 0), (26, .istore 7, 2, 0, 0, 0), (28, .iload 6, 2, 0, 0, 0), (30, .iload 7, 2, 0, 0, 0), (32, .iadd, 1, 0, 0, 0), (33, .iconst 4, 1, 0, 0, 0)]
set_option maxRecDepth 100000 in
theorem zk_X6_whole_1 : zl_X6_whole_1.all (zgoodB zmt zm_X6_whole) = true := by decide +kernel
def zl_X6_whole_2 : List (Nat × zE) := [(34, .if_icmp .gt 69, 3, 103, 0, 0), (37, .aload_n 0, 1, 0, 0, 0), (38, .iload 6, 2, 0, 0, 0), (40, .iload 7, 2, 0, 0, 0), (42, .invokevirtual 139, 3, 111, 24643, 1676), (45, .aload_n 0, 1, 0, 0, 0), (46, .getfield 102, 3, 6, 2, 698), (49, .aload_n 0, 1, 0, 0, 0), (50, .getfield 86, 3, 6, 39, 735), (53, .iload 6, 2, 0, 0, 0)]
set_option maxRecDepth 100000 in
theorem zk_X6_whole_2 : zl_X6_whole_2.all (zgoodB zmt zm_X6_whole) = true := by decide +kernel
def zl_X6_whole_3 : List (Nat × zE) := [(55, .iload 7, 2, 0, 0, 0), (57, .invokestatic 274, 3, 149, 24610, 2054), (60, .iaload, 1, 0, 0, 0), (61, .i2l, 1, 0, 0, 0), (62, .lmul, 1, 0, 0, 0), (63, .lstore 8, 2, 0, 0, 0), (65, .aload_n 0, 1, 0, 0, 0), (66, .getfield 106, 3, 6, 3, 699), (69, .lstore 10, 2, 0, 0, 0), (71, .aload_n 0, 1, 0, 0, 0)]
set_option maxRecDepth 100000 in
theorem zk_X6_whole_3 : zl_X6_whole_3.all (zgoodB zmt zm_X6_whole) = true := by decide +kernel
def zl_X6_whole_4 : List (Nat × zE) := [(72, .lload_n 2, 1, 0, 0, 0), (73, .lload 4, 2, 0, 0, 0), (75, .invokevirtual 109, 3, 103, 24691, 1684), (78, .aload_n 0, 1, 0, 0, 0), (79, .lload 8, 2, 0, 0, 0), (81, .lload 10, 2, 0, 0, 0), (83, .invokevirtual 146, 3, 104, 24691, 1758), (86, .aload_n 0, 1, 0, 0, 0), (87, .getfield 102, 3, 6, 2, 698), (90, .lstore_n 2, 1, 0, 0, 0)]
set_option maxRecDepth 100000 in
theorem zk_X6_whole_4 : zl_X6_whole_4.all (zgoodB zmt zm_X6_whole) = true := by decide +kernel
def zl_X6_whole_5 : List (Nat × zE) := [(91, .aload_n 0, 1, 0, 0, 0), (92, .getfield 106, 3, 6, 3, 699), (95, .lstore 4, 2, 0, 0, 0), (97, .iinc 7 1, 3, 0, 0, 0), (100, .goto (-72), 3, 28, 0, 0), (103, .iinc 6 1, 3, 0, 0, 0), (106, .goto (-87), 3, 19, 0, 0), (109, .aload_n 0, 1, 0, 0, 0), (110, .lload_n 2, 1, 0, 0, 0), (111, .lload 4, 2, 0, 0, 0)]
set_option maxRecDepth 100000 in
theorem zk_X6_whole_5 : zl_X6_whole_5.all (zgoodB zmt zm_X6_whole) = true := by decide +kernel
def zl_X6_whole_6 : List (Nat × zE) := [(113, .invokevirtual 109, 3, 103, 24691, 1684), (116, .aload_n 0, 1, 0, 0, 0), (117, .iload_n 1, 1, 0, 0, 0), (118, .invokevirtual 157, 3, 105, 24610, 1712), (121, .lreturn, 1, 0, 0, 0)]
set_option maxRecDepth 100000 in
theorem zk_X6_whole_6 : zl_X6_whole_6.all (zgoodB zmt zm_X6_whole) = true := by decide +kernel
def zp_X6_whole : Nat → Option zE := (ztr 55 (ztr 17 (zlf zl_X6_whole_0) (ztr 34 (zlf zl_X6_whole_1) (zlf zl_X6_whole_2))) (ztr 91 (ztr 72 (zlf zl_X6_whole_3) (zlf zl_X6_whole_4)) (ztr 113 (zlf zl_X6_whole_5) (zlf zl_X6_whole_6))))
theorem za_X6_whole : zall (zgood zmt zm_X6_whole) zp_X6_whole := (zall_tr (zall_tr (zall_lf zl_X6_whole_0 zk_X6_whole_0) (zall_tr (zall_lf zl_X6_whole_1 zk_X6_whole_1) (zall_lf zl_X6_whole_2 zk_X6_whole_2))) (zall_tr (zall_tr (zall_lf zl_X6_whole_3 zk_X6_whole_3) (zall_lf zl_X6_whole_4 zk_X6_whole_4)) (zall_tr (zall_lf zl_X6_whole_5 zk_X6_whole_5) (zall_lf zl_X6_whole_6 zk_X6_whole_6))))
def zl_X6_valueAt_0 : List (Nat × zE) := [(0, .lconst 0, 1, 0, 0, 0), (1, .lstore 7, 2, 0, 0, 0), (3, .iconst 0, 1, 0, 0, 0), (4, .istore 9, 2, 0, 0, 0), (6, .iload 9, 2, 0, 0, 0), (8, .iconst 4, 1, 0, 0, 0), (9, .if_icmp .gt 72, 3, 81, 0, 0), (12, .iconst 0, 1, 0, 0, 0), (13, .istore 10, 2, 0, 0, 0), (15, .iload 9, 2, 0, 0, 0)]
set_option maxRecDepth 100000 in
theorem zk_X6_valueAt_0 : zl_X6_valueAt_0.all (zgoodB zmt zm_X6_valueAt) = true := by decide +kernel
def zl_X6_valueAt_1 : List (Nat × zE) := [(17, .iload 10, 2, 0, 0, 0), (19, .iadd, 1, 0, 0, 0), (20, .iconst 4, 1, 0, 0, 0), (21, .if_icmp .gt 54, 3, 75, 0, 0), (24, .lload 7, 2, 0, 0, 0), (26, .aload_n 0, 1, 0, 0, 0), (27, .getfield 86, 3, 6, 39, 735), (30, .iload 9, 2, 0, 0, 0), (32, .iload 10, 2, 0, 0, 0), (34, .invokestatic 274, 3, 149, 24610, 2054)]
set_option maxRecDepth 100000 in
theorem zk_X6_valueAt_1 : zl_X6_valueAt_1.all (zgoodB zmt zm_X6_valueAt) = true := by decide +kernel
def zl_X6_valueAt_2 : List (Nat × zE) := [(37, .iaload, 1, 0, 0, 0), (38, .i2l, 1, 0, 0, 0), (39, .lload_n 1, 1, 0, 0, 0), (40, .iload 9, 2, 0, 0, 0), (42, .invokestatic 135, 3, 106, 24674, 1736), (45, .lmul, 1, 0, 0, 0), (46, .lload_n 3, 1, 0, 0, 0), (47, .iload 10, 2, 0, 0, 0), (49, .invokestatic 135, 3, 106, 24674, 1736), (52, .lmul, 1, 0, 0, 0)]
set_option maxRecDepth 100000 in
theorem zk_X6_valueAt_2 : zl_X6_valueAt_2.all (zgoodB zmt zm_X6_valueAt) = true := by decide +kernel
def zl_X6_valueAt_3 : List (Nat × zE) := [(53, .lload 5, 2, 0, 0, 0), (55, .iconst 4, 1, 0, 0, 0), (56, .iload 9, 2, 0, 0, 0), (58, .isub, 1, 0, 0, 0), (59, .iload 10, 2, 0, 0, 0), (61, .isub, 1, 0, 0, 0), (62, .invokestatic 135, 3, 106, 24674, 1736), (65, .lmul, 1, 0, 0, 0), (66, .ladd, 1, 0, 0, 0), (67, .lstore 7, 2, 0, 0, 0)]
set_option maxRecDepth 100000 in
theorem zk_X6_valueAt_3 : zl_X6_valueAt_3.all (zgoodB zmt zm_X6_valueAt) = true := by decide +kernel
def zl_X6_valueAt_4 : List (Nat × zE) := [(69, .iinc 10 1, 3, 0, 0, 0), (72, .goto (-57), 3, 15, 0, 0), (75, .iinc 9 1, 3, 0, 0, 0), (78, .goto (-72), 3, 6, 0, 0), (81, .lload 7, 2, 0, 0, 0), (83, .lreturn, 1, 0, 0, 0)]
set_option maxRecDepth 100000 in
theorem zk_X6_valueAt_4 : zl_X6_valueAt_4.all (zgoodB zmt zm_X6_valueAt) = true := by decide +kernel
def zp_X6_valueAt : Nat → Option zE := (ztr 37 (ztr 17 (zlf zl_X6_valueAt_0) (zlf zl_X6_valueAt_1)) (ztr 53 (zlf zl_X6_valueAt_2) (ztr 69 (zlf zl_X6_valueAt_3) (zlf zl_X6_valueAt_4))))
theorem za_X6_valueAt : zall (zgood zmt zm_X6_valueAt) zp_X6_valueAt := (zall_tr (zall_tr (zall_lf zl_X6_valueAt_0 zk_X6_valueAt_0) (zall_lf zl_X6_valueAt_1 zk_X6_valueAt_1)) (zall_tr (zall_lf zl_X6_valueAt_2 zk_X6_valueAt_2) (zall_tr (zall_lf zl_X6_valueAt_3 zk_X6_valueAt_3) (zall_lf zl_X6_valueAt_4 zk_X6_valueAt_4))))
def zl_X6_byRule_0 : List (Nat × zE) := [(0, .iload_n 1, 1, 0, 0, 0), (1, .i2l, 1, 0, 0, 0), (2, .lconst 1, 1, 0, 0, 0), (3, .ldc2_w 197, 3, 3, 0, 924), (6, .invokestatic 118, 3, 100, 24675, 1644), (9, .ifCond .eq 22, 3, 31, 0, 0), (12, .iload_n 2, 1, 0, 0, 0), (13, .invokestatic 153, 3, 114, 24593, 1668), (16, .ifCond .eq 15, 3, 31, 0, 0), (19, .iload_n 1, 1, 0, 0, 0)]
set_option maxRecDepth 100000 in
theorem zk_X6_byRule_0 : zl_X6_byRule_0.all (zgoodB zmt zm_X6_byRule) = true := by decide +kernel
def zl_X6_byRule_1 : List (Nat × zE) := [(20, .iconst 1, 1, 0, 0, 0), (21, .if_icmp .le 14, 3, 35, 0, 0), (24, .aload_n 0, 1, 0, 0, 0), (25, .getfield 126, 3, 6, 4, 700), (28, .ifCond .eq 7, 3, 35, 0, 0), (31, .ldc2_w 92, 3, 9223372036854775808, 0, 837), (34, .lreturn, 1, 0, 0, 0), (35, .lconst 0, 1, 0, 0, 0), (36, .lstore_n 3, 1, 0, 0, 0), (37, .iconst 0, 1, 0, 0, 0)]
set_option maxRecDepth 100000 in
theorem zk_X6_byRule_1 : zl_X6_byRule_1.all (zgoodB zmt zm_X6_byRule) = true := by decide +kernel
def zl_X6_byRule_2 : List (Nat × zE) := [(38, .istore 5, 2, 0, 0, 0), (40, .iload 5, 2, 0, 0, 0), (42, .iload_n 1, 1, 0, 0, 0), (43, .if_icmp .ge 117, 3, 160, 0, 0), (46, .iconst 0, 1, 0, 0, 0), (47, .istore 6, 2, 0, 0, 0), (49, .iload 6, 2, 0, 0, 0), (51, .iload_n 1, 1, 0, 0, 0), (52, .if_icmp .ge 102, 3, 154, 0, 0), (55, .iconst 0, 1, 0, 0, 0)]
set_option maxRecDepth 100000 in
theorem zk_X6_byRule_2 : zl_X6_byRule_2.all (zgoodB zmt zm_X6_byRule) = true := by decide +kernel
def zl_X6_byRule_3 : List (Nat × zE) := [(56, .istore 7, 2, 0, 0, 0), (58, .iload 7, 2, 0, 0, 0), (60, .aload_n 0, 1, 0, 0, 0), (61, .getfield 113, 3, 6, 7, 703), (64, .if_icmp .ge 84, 3, 148, 0, 0), (67, .aload_n 0, 1, 0, 0, 0), (68, .getfield 16, 3, 6, 8, 704), (71, .iload 7, 2, 0, 0, 0), (73, .iaload, 1, 0, 0, 0), (74, .aload_n 0, 1, 0, 0, 0)]
set_option maxRecDepth 100000 in
theorem zk_X6_byRule_3 : zl_X6_byRule_3.all (zgoodB zmt zm_X6_byRule) = true := by decide +kernel
def zl_X6_byRule_4 : List (Nat × zE) := [(75, .getfield 7, 3, 6, 5, 701), (78, .iconst 2, 1, 0, 0, 0), (79, .iload 5, 2, 0, 0, 0), (81, .imul, 1, 0, 0, 0), (82, .iconst 1, 1, 0, 0, 0), (83, .iadd, 1, 0, 0, 0), (84, .iload_n 1, 1, 0, 0, 0), (85, .isub, 1, 0, 0, 0), (86, .imul, 1, 0, 0, 0), (87, .iadd, 1, 0, 0, 0)]
set_option maxRecDepth 100000 in
theorem zk_X6_byRule_4 : zl_X6_byRule_4.all (zgoodB zmt zm_X6_byRule) = true := by decide +kernel
def zl_X6_byRule_5 : List (Nat × zE) := [(88, .i2l, 1, 0, 0, 0), (89, .lstore 8, 2, 0, 0, 0), (91, .aload_n 0, 1, 0, 0, 0), (92, .getfield 20, 3, 6, 9, 705), (95, .iload 7, 2, 0, 0, 0), (97, .iaload, 1, 0, 0, 0), (98, .aload_n 0, 1, 0, 0, 0), (99, .getfield 7, 3, 6, 5, 701), (102, .iconst 2, 1, 0, 0, 0), (103, .iload 6, 2, 0, 0, 0)]
set_option maxRecDepth 100000 in
theorem zk_X6_byRule_5 : zl_X6_byRule_5.all (zgoodB zmt zm_X6_byRule) = true := by decide +kernel
def zl_X6_byRule_6 : List (Nat × zE) := [(105, .imul, 1, 0, 0, 0), (106, .iconst 1, 1, 0, 0, 0), (107, .iadd, 1, 0, 0, 0), (108, .iload_n 1, 1, 0, 0, 0), (109, .isub, 1, 0, 0, 0), (110, .imul, 1, 0, 0, 0), (111, .iadd, 1, 0, 0, 0), (112, .i2l, 1, 0, 0, 0), (113, .lstore 10, 2, 0, 0, 0), (115, .lload_n 3, 1, 0, 0, 0)]
set_option maxRecDepth 100000 in
theorem zk_X6_byRule_6 : zl_X6_byRule_6.all (zgoodB zmt zm_X6_byRule) = true := by decide +kernel
def zl_X6_byRule_7 : List (Nat × zE) := [(116, .aload_n 0, 1, 0, 0, 0), (117, .getfield 23, 3, 6, 10, 706), (120, .iload 7, 2, 0, 0, 0), (122, .iaload, 1, 0, 0, 0), (123, .i2l, 1, 0, 0, 0), (124, .aload_n 0, 1, 0, 0, 0), (125, .lload 8, 2, 0, 0, 0), (127, .lload 10, 2, 0, 0, 0), (129, .aload_n 0, 1, 0, 0, 0), (130, .getfield 7, 3, 6, 5, 701)]
set_option maxRecDepth 100000 in
theorem zk_X6_byRule_7 : zl_X6_byRule_7.all (zgoodB zmt zm_X6_byRule) = true := by decide +kernel
def zl_X6_byRule_8 : List (Nat × zE) := [(133, .iload_n 1, 1, 0, 0, 0), (134, .imul, 1, 0, 0, 0), (135, .i2l, 1, 0, 0, 0), (136, .invokevirtual 277, 3, 151, 24756, 2068), (139, .lmul, 1, 0, 0, 0), (140, .ladd, 1, 0, 0, 0), (141, .lstore_n 3, 1, 0, 0, 0), (142, .iinc 7 1, 3, 0, 0, 0), (145, .goto (-87), 3, 58, 0, 0), (148, .iinc 6 1, 3, 0, 0, 0)]
set_option maxRecDepth 100000 in
theorem zk_X6_byRule_8 : zl_X6_byRule_8.all (zgoodB zmt zm_X6_byRule) = true := by decide +kernel
def zl_X6_byRule_9 : List (Nat × zE) := [(151, .goto (-102), 3, 49, 0, 0), (154, .iinc 5 1, 3, 0, 0, 0), (157, .goto (-117), 3, 40, 0, 0), (160, .aload_n 0, 1, 0, 0, 0), (161, .lload_n 3, 1, 0, 0, 0), (162, .aload_n 0, 1, 0, 0, 0), (163, .getfield 13, 3, 6, 6, 702), (166, .i2l, 1, 0, 0, 0), (167, .iload_n 1, 1, 0, 0, 0), (168, .iload_n 1, 1, 0, 0, 0)]
set_option maxRecDepth 100000 in
theorem zk_X6_byRule_9 : zl_X6_byRule_9.all (zgoodB zmt zm_X6_byRule) = true := by decide +kernel
def zl_X6_byRule_10 : List (Nat × zE) := [(169, .imul, 1, 0, 0, 0), (170, .i2l, 1, 0, 0, 0), (171, .lmul, 1, 0, 0, 0), (172, .aload_n 0, 1, 0, 0, 0), (173, .getfield 7, 3, 6, 5, 701), (176, .iload_n 1, 1, 0, 0, 0), (177, .imul, 1, 0, 0, 0), (178, .i2l, 1, 0, 0, 0), (179, .iconst 4, 1, 0, 0, 0), (180, .invokestatic 135, 3, 106, 24674, 1736)]
set_option maxRecDepth 100000 in
theorem zk_X6_byRule_10 : zl_X6_byRule_10.all (zgoodB zmt zm_X6_byRule) = true := by decide +kernel
def zl_X6_byRule_11 : List (Nat × zE) := [(183, .lmul, 1, 0, 0, 0), (184, .invokevirtual 109, 3, 103, 24691, 1684), (187, .aload_n 0, 1, 0, 0, 0), (188, .iload_n 2, 1, 0, 0, 0), (189, .invokevirtual 157, 3, 105, 24610, 1712), (192, .lreturn, 1, 0, 0, 0)]
set_option maxRecDepth 100000 in
theorem zk_X6_byRule_11 : zl_X6_byRule_11.all (zgoodB zmt zm_X6_byRule) = true := by decide +kernel
def zp_X6_byRule : Nat → Option zE := (ztr 105 (ztr 56 (ztr 20 (zlf zl_X6_byRule_0) (ztr 38 (zlf zl_X6_byRule_1) (zlf zl_X6_byRule_2))) (ztr 75 (zlf zl_X6_byRule_3) (ztr 88 (zlf zl_X6_byRule_4) (zlf zl_X6_byRule_5)))) (ztr 151 (ztr 116 (zlf zl_X6_byRule_6) (ztr 133 (zlf zl_X6_byRule_7) (zlf zl_X6_byRule_8))) (ztr 169 (zlf zl_X6_byRule_9) (ztr 183 (zlf zl_X6_byRule_10) (zlf zl_X6_byRule_11)))))
theorem za_X6_byRule : zall (zgood zmt zm_X6_byRule) zp_X6_byRule := (zall_tr (zall_tr (zall_tr (zall_lf zl_X6_byRule_0 zk_X6_byRule_0) (zall_tr (zall_lf zl_X6_byRule_1 zk_X6_byRule_1) (zall_lf zl_X6_byRule_2 zk_X6_byRule_2))) (zall_tr (zall_lf zl_X6_byRule_3 zk_X6_byRule_3) (zall_tr (zall_lf zl_X6_byRule_4 zk_X6_byRule_4) (zall_lf zl_X6_byRule_5 zk_X6_byRule_5)))) (zall_tr (zall_tr (zall_lf zl_X6_byRule_6 zk_X6_byRule_6) (zall_tr (zall_lf zl_X6_byRule_7 zk_X6_byRule_7) (zall_lf zl_X6_byRule_8 zk_X6_byRule_8))) (zall_tr (zall_lf zl_X6_byRule_9 zk_X6_byRule_9) (zall_tr (zall_lf zl_X6_byRule_10 zk_X6_byRule_10) (zall_lf zl_X6_byRule_11 zk_X6_byRule_11)))))
def zl_X6_sheet_0 : List (Nat × zE) := [(0, .aload_n 0, 1, 0, 0, 0), (1, .iconst 0, 1, 0, 0, 0), (2, .putfield 89, 3, 6, 0, 696), (5, .iload_n 1, 1, 0, 0, 0), (6, .i2l, 1, 0, 0, 0), (7, .lconst 0, 1, 0, 0, 0), (8, .ldc2_w 197, 3, 3, 0, 924), (11, .invokestatic 118, 3, 100, 24675, 1644), (14, .ifCond .ne 5, 3, 19, 0, 0), (17, .iconst (-1), 1, 0, 0, 0)]
set_option maxRecDepth 100000 in
theorem zk_X6_sheet_0 : zl_X6_sheet_0.all (zgoodB zmt zm_X6_sheet) = true := by decide +kernel
def zl_X6_sheet_1 : List (Nat × zE) := [(18, .ireturn, 1, 0, 0, 0), (19, .iload_n 2, 1, 0, 0, 0), (20, .i2l, 1, 0, 0, 0), (21, .lconst 0, 1, 0, 0, 0), (22, .ldc2_w 116, 3, 2, 0, 821), (25, .invokestatic 118, 3, 100, 24675, 1644), (28, .ifCond .eq 9, 3, 37, 0, 0), (31, .iload_n 3, 1, 0, 0, 0), (32, .bipush 72, 2, 0, 0, 0), (34, .if_icmp .le 6, 3, 40, 0, 0)]
set_option maxRecDepth 100000 in
theorem zk_X6_sheet_1 : zl_X6_sheet_1.all (zgoodB zmt zm_X6_sheet) = true := by decide +kernel
def zl_X6_sheet_2 : List (Nat × zE) := [(37, .bipush (-2), 2, 0, 0, 0), (39, .ireturn, 1, 0, 0, 0), (40, .iload_n 3, 1, 0, 0, 0), (41, .ifCond .ge 9, 3, 50, 0, 0), (44, .aload_n 0, 1, 0, 0, 0), (45, .iconst 4, 1, 0, 0, 0), (46, .invokevirtual 199, 3, 98, 24610, 1850), (49, .ireturn, 1, 0, 0, 0), (50, .aload_n 0, 1, 0, 0, 0), (51, .getfield 32, 3, 6, 14, 710)]
set_option maxRecDepth 100000 in
theorem zk_X6_sheet_2 : zl_X6_sheet_2.all (zgoodB zmt zm_X6_sheet) = true := by decide +kernel
def zl_X6_sheet_3 : List (Nat × zE) := [(54, .iload_n 1, 1, 0, 0, 0), (55, .iload_n 2, 1, 0, 0, 0), (56, .iastore, 1, 0, 0, 0), (57, .aload_n 0, 1, 0, 0, 0), (58, .getfield 35, 3, 6, 15, 711), (61, .iload_n 1, 1, 0, 0, 0), (62, .iload_n 3, 1, 0, 0, 0), (63, .iastore, 1, 0, 0, 0), (64, .iconst 0, 1, 0, 0, 0), (65, .istore 4, 2, 0, 0, 0)]
set_option maxRecDepth 100000 in
theorem zk_X6_sheet_3 : zl_X6_sheet_3.all (zgoodB zmt zm_X6_sheet) = true := by decide +kernel
def zl_X6_sheet_4 : List (Nat × zE) := [(67, .iload 4, 2, 0, 0, 0), (69, .bipush 72, 2, 0, 0, 0), (71, .if_icmp .ge 22, 3, 93, 0, 0), (74, .aload_n 0, 1, 0, 0, 0), (75, .getfield 38, 3, 6, 16, 712), (78, .bipush 72, 2, 0, 0, 0), (80, .iload_n 1, 1, 0, 0, 0), (81, .imul, 1, 0, 0, 0), (82, .iload 4, 2, 0, 0, 0), (84, .iadd, 1, 0, 0, 0)]
set_option maxRecDepth 100000 in
theorem zk_X6_sheet_4 : zl_X6_sheet_4.all (zgoodB zmt zm_X6_sheet) = true := by decide +kernel
def zl_X6_sheet_5 : List (Nat × zE) := [(85, .iconst 0, 1, 0, 0, 0), (86, .iastore, 1, 0, 0, 0), (87, .iinc 4 1, 3, 0, 0, 0), (90, .goto (-23), 3, 67, 0, 0), (93, .iconst 1, 1, 0, 0, 0), (94, .ireturn, 1, 0, 0, 0)]
set_option maxRecDepth 100000 in
theorem zk_X6_sheet_5 : zl_X6_sheet_5.all (zgoodB zmt zm_X6_sheet) = true := by decide +kernel
def zp_X6_sheet : Nat → Option zE := (ztr 54 (ztr 18 (zlf zl_X6_sheet_0) (ztr 37 (zlf zl_X6_sheet_1) (zlf zl_X6_sheet_2))) (ztr 67 (zlf zl_X6_sheet_3) (ztr 85 (zlf zl_X6_sheet_4) (zlf zl_X6_sheet_5))))
theorem za_X6_sheet : zall (zgood zmt zm_X6_sheet) zp_X6_sheet := (zall_tr (zall_tr (zall_lf zl_X6_sheet_0 zk_X6_sheet_0) (zall_tr (zall_lf zl_X6_sheet_1 zk_X6_sheet_1) (zall_lf zl_X6_sheet_2 zk_X6_sheet_2))) (zall_tr (zall_lf zl_X6_sheet_3 zk_X6_sheet_3) (zall_tr (zall_lf zl_X6_sheet_4 zk_X6_sheet_4) (zall_lf zl_X6_sheet_5 zk_X6_sheet_5))))
def zl_X6_lose_0 : List (Nat × zE) := [(0, .iload_n 1, 1, 0, 0, 0), (1, .i2l, 1, 0, 0, 0), (2, .lconst 0, 1, 0, 0, 0), (3, .ldc2_w 197, 3, 3, 0, 924), (6, .invokestatic 118, 3, 100, 24675, 1644), (9, .ifCond .ne 5, 3, 14, 0, 0), (12, .iconst (-1), 1, 0, 0, 0), (13, .ireturn, 1, 0, 0, 0), (14, .aload_n 0, 1, 0, 0, 0), (15, .getfield 32, 3, 6, 14, 710)]
set_option maxRecDepth 100000 in
theorem zk_X6_lose_0 : zl_X6_lose_0.all (zgoodB zmt zm_X6_lose) = true := by decide +kernel
def zl_X6_lose_1 : List (Nat × zE) := [(18, .iload_n 1, 1, 0, 0, 0), (19, .iaload, 1, 0, 0, 0), (20, .bipush (-9), 2, 0, 0, 0), (22, .if_icmp .ne 7, 3, 29, 0, 0), (25, .iconst 0, 1, 0, 0, 0), (26, .goto 4, 3, 30, 0, 0), (29, .iconst 1, 1, 0, 0, 0), (30, .istore_n 2, 1, 0, 0, 0), (31, .aload_n 0, 1, 0, 0, 0), (32, .getfield 32, 3, 6, 14, 710)]
set_option maxRecDepth 100000 in
theorem zk_X6_lose_1 : zl_X6_lose_1.all (zgoodB zmt zm_X6_lose) = true := by decide +kernel
def zl_X6_lose_2 : List (Nat × zE) := [(35, .iload_n 1, 1, 0, 0, 0), (36, .bipush (-9), 2, 0, 0, 0), (38, .iastore, 1, 0, 0, 0), (39, .iload_n 2, 1, 0, 0, 0), (40, .ireturn, 1, 0, 0, 0)]
set_option maxRecDepth 100000 in
theorem zk_X6_lose_2 : zl_X6_lose_2.all (zgoodB zmt zm_X6_lose) = true := by decide +kernel
def zp_X6_lose : Nat → Option zE := (ztr 18 (zlf zl_X6_lose_0) (ztr 35 (zlf zl_X6_lose_1) (zlf zl_X6_lose_2)))
theorem za_X6_lose : zall (zgood zmt zm_X6_lose) zp_X6_lose := (zall_tr (zall_lf zl_X6_lose_0 zk_X6_lose_0) (zall_tr (zall_lf zl_X6_lose_1 zk_X6_lose_1) (zall_lf zl_X6_lose_2 zk_X6_lose_2)))
def zl_X6_put_0 : List (Nat × zE) := [(0, .aload_n 0, 1, 0, 0, 0), (1, .iconst 0, 1, 0, 0, 0), (2, .putfield 89, 3, 6, 0, 696), (5, .iload_n 1, 1, 0, 0, 0), (6, .i2l, 1, 0, 0, 0), (7, .lconst 0, 1, 0, 0, 0), (8, .ldc2_w 197, 3, 3, 0, 924), (11, .invokestatic 118, 3, 100, 24675, 1644), (14, .ifCond .ne 5, 3, 19, 0, 0), (17, .iconst (-1), 1, 0, 0, 0)]
set_option maxRecDepth 100000 in
theorem zk_X6_put_0 : zl_X6_put_0.all (zgoodB zmt zm_X6_put) = true := by decide +kernel
def zl_X6_put_1 : List (Nat × zE) := [(18, .ireturn, 1, 0, 0, 0), (19, .aload_n 0, 1, 0, 0, 0), (20, .getfield 32, 3, 6, 14, 710), (23, .iload_n 1, 1, 0, 0, 0), (24, .iaload, 1, 0, 0, 0), (25, .bipush (-9), 2, 0, 0, 0), (27, .if_icmp .ne 9, 3, 36, 0, 0), (30, .aload_n 0, 1, 0, 0, 0), (31, .iconst 1, 1, 0, 0, 0), (32, .invokevirtual 199, 3, 98, 24610, 1850)]
set_option maxRecDepth 100000 in
theorem zk_X6_put_1 : zl_X6_put_1.all (zgoodB zmt zm_X6_put) = true := by decide +kernel
def zl_X6_put_2 : List (Nat × zE) := [(35, .ireturn, 1, 0, 0, 0), (36, .iload_n 2, 1, 0, 0, 0), (37, .i2l, 1, 0, 0, 0), (38, .lconst 0, 1, 0, 0, 0), (39, .aload_n 0, 1, 0, 0, 0), (40, .getfield 35, 3, 6, 15, 711), (43, .iload_n 1, 1, 0, 0, 0), (44, .iaload, 1, 0, 0, 0), (45, .iconst 1, 1, 0, 0, 0), (46, .isub, 1, 0, 0, 0)]
set_option maxRecDepth 100000 in
theorem zk_X6_put_2 : zl_X6_put_2.all (zgoodB zmt zm_X6_put) = true := by decide +kernel
def zl_X6_put_3 : List (Nat × zE) := [(47, .i2l, 1, 0, 0, 0), (48, .invokestatic 118, 3, 100, 24675, 1644), (51, .ifCond .ne 9, 3, 60, 0, 0), (54, .aload_n 0, 1, 0, 0, 0), (55, .iconst 3, 1, 0, 0, 0), (56, .invokevirtual 199, 3, 98, 24610, 1850), (59, .ireturn, 1, 0, 0, 0), (60, .aload_n 0, 1, 0, 0, 0), (61, .getfield 38, 3, 6, 16, 712), (64, .bipush 72, 2, 0, 0, 0)]
set_option maxRecDepth 100000 in
theorem zk_X6_put_3 : zl_X6_put_3.all (zgoodB zmt zm_X6_put) = true := by decide +kernel
def zl_X6_put_4 : List (Nat × zE) := [(66, .iload_n 1, 1, 0, 0, 0), (67, .imul, 1, 0, 0, 0), (68, .iload_n 2, 1, 0, 0, 0), (69, .iadd, 1, 0, 0, 0), (70, .aload_n 0, 1, 0, 0, 0), (71, .getfield 32, 3, 6, 14, 710), (74, .iload_n 1, 1, 0, 0, 0), (75, .iaload, 1, 0, 0, 0), (76, .ifCond .ne 8, 3, 84, 0, 0), (79, .iload_n 3, 1, 0, 0, 0)]
set_option maxRecDepth 100000 in
theorem zk_X6_put_4 : zl_X6_put_4.all (zgoodB zmt zm_X6_put) = true := by decide +kernel
def zl_X6_put_5 : List (Nat × zE) := [(80, .i2b, 1, 0, 0, 0), (81, .goto 19, 3, 100, 0, 0), (84, .aload_n 0, 1, 0, 0, 0), (85, .getfield 32, 3, 6, 14, 710), (88, .iload_n 1, 1, 0, 0, 0), (89, .iaload, 1, 0, 0, 0), (90, .iconst 1, 1, 0, 0, 0), (91, .if_icmp .ne 8, 3, 99, 0, 0), (94, .iload_n 3, 1, 0, 0, 0), (95, .i2s, 1, 0, 0, 0)]
set_option maxRecDepth 100000 in
theorem zk_X6_put_5 : zl_X6_put_5.all (zgoodB zmt zm_X6_put) = true := by decide +kernel
def zl_X6_put_6 : List (Nat × zE) := [(96, .goto 4, 3, 100, 0, 0), (99, .iload_n 3, 1, 0, 0, 0), (100, .iastore, 1, 0, 0, 0), (101, .iconst 1, 1, 0, 0, 0), (102, .ireturn, 1, 0, 0, 0)]
set_option maxRecDepth 100000 in
theorem zk_X6_put_6 : zl_X6_put_6.all (zgoodB zmt zm_X6_put) = true := by decide +kernel
def zp_X6_put : Nat → Option zE := (ztr 47 (ztr 18 (zlf zl_X6_put_0) (ztr 35 (zlf zl_X6_put_1) (zlf zl_X6_put_2))) (ztr 80 (ztr 66 (zlf zl_X6_put_3) (zlf zl_X6_put_4)) (ztr 96 (zlf zl_X6_put_5) (zlf zl_X6_put_6))))
theorem za_X6_put : zall (zgood zmt zm_X6_put) zp_X6_put := (zall_tr (zall_tr (zall_lf zl_X6_put_0 zk_X6_put_0) (zall_tr (zall_lf zl_X6_put_1 zk_X6_put_1) (zall_lf zl_X6_put_2 zk_X6_put_2))) (zall_tr (zall_tr (zall_lf zl_X6_put_3 zk_X6_put_3) (zall_lf zl_X6_put_4 zk_X6_put_4)) (zall_tr (zall_lf zl_X6_put_5 zk_X6_put_5) (zall_lf zl_X6_put_6 zk_X6_put_6))))
def zl_X6_at_0 : List (Nat × zE) := [(0, .aload_n 0, 1, 0, 0, 0), (1, .iconst 0, 1, 0, 0, 0), (2, .putfield 89, 3, 6, 0, 696), (5, .iload_n 1, 1, 0, 0, 0), (6, .i2l, 1, 0, 0, 0), (7, .lconst 0, 1, 0, 0, 0), (8, .ldc2_w 197, 3, 3, 0, 924), (11, .invokestatic 118, 3, 100, 24675, 1644), (14, .ifCond .eq 15, 3, 29, 0, 0), (17, .iload_n 3, 1, 0, 0, 0)]
set_option maxRecDepth 100000 in
theorem zk_X6_at_0 : zl_X6_at_0.all (zgoodB zmt zm_X6_at) = true := by decide +kernel
def zl_X6_at_1 : List (Nat × zE) := [(18, .i2l, 1, 0, 0, 0), (19, .lconst 0, 1, 0, 0, 0), (20, .ldc2_w 116, 3, 2, 0, 821), (23, .invokestatic 118, 3, 100, 24675, 1644), (26, .ifCond .ne 7, 3, 33, 0, 0), (29, .ldc2_w 92, 3, 9223372036854775808, 0, 837), (32, .lreturn, 1, 0, 0, 0), (33, .aload_n 0, 1, 0, 0, 0), (34, .getfield 32, 3, 6, 14, 710), (37, .iload_n 1, 1, 0, 0, 0)]
set_option maxRecDepth 100000 in
theorem zk_X6_at_1 : zl_X6_at_1.all (zgoodB zmt zm_X6_at) = true := by decide +kernel
def zl_X6_at_2 : List (Nat × zE) := [(38, .iaload, 1, 0, 0, 0), (39, .bipush (-9), 2, 0, 0, 0), (41, .if_icmp .eq 19, 3, 60, 0, 0), (44, .aload_n 0, 1, 0, 0, 0), (45, .getfield 32, 3, 6, 14, 710), (48, .iload_n 1, 1, 0, 0, 0), (49, .iaload, 1, 0, 0, 0), (50, .iload_n 3, 1, 0, 0, 0), (51, .if_icmp .eq 9, 3, 60, 0, 0), (54, .aload_n 0, 1, 0, 0, 0)]
set_option maxRecDepth 100000 in
theorem zk_X6_at_2 : zl_X6_at_2.all (zgoodB zmt zm_X6_at) = true := by decide +kernel
def zl_X6_at_3 : List (Nat × zE) := [(55, .iconst 2, 1, 0, 0, 0), (56, .invokevirtual 281, 3, 99, 24610, 2108), (59, .lreturn, 1, 0, 0, 0), (60, .aload_n 0, 1, 0, 0, 0), (61, .getfield 32, 3, 6, 14, 710), (64, .iload_n 1, 1, 0, 0, 0), (65, .iaload, 1, 0, 0, 0), (66, .bipush (-9), 2, 0, 0, 0), (68, .if_icmp .ne 9, 3, 77, 0, 0), (71, .aload_n 0, 1, 0, 0, 0)]
set_option maxRecDepth 100000 in
theorem zk_X6_at_3 : zl_X6_at_3.all (zgoodB zmt zm_X6_at) = true := by decide +kernel
def zl_X6_at_4 : List (Nat × zE) := [(72, .iconst 1, 1, 0, 0, 0), (73, .invokevirtual 281, 3, 99, 24610, 2108), (76, .lreturn, 1, 0, 0, 0), (77, .iload_n 2, 1, 0, 0, 0), (78, .i2l, 1, 0, 0, 0), (79, .lconst 0, 1, 0, 0, 0), (80, .aload_n 0, 1, 0, 0, 0), (81, .getfield 35, 3, 6, 15, 711), (84, .iload_n 1, 1, 0, 0, 0), (85, .iaload, 1, 0, 0, 0)]
set_option maxRecDepth 100000 in
theorem zk_X6_at_4 : zl_X6_at_4.all (zgoodB zmt zm_X6_at) = true := by decide +kernel
def zl_X6_at_5 : List (Nat × zE) := [(86, .iconst 1, 1, 0, 0, 0), (87, .isub, 1, 0, 0, 0), (88, .i2l, 1, 0, 0, 0), (89, .invokestatic 118, 3, 100, 24675, 1644), (92, .ifCond .ne 9, 3, 101, 0, 0), (95, .aload_n 0, 1, 0, 0, 0), (96, .iconst 3, 1, 0, 0, 0), (97, .invokevirtual 281, 3, 99, 24610, 2108), (100, .lreturn, 1, 0, 0, 0), (101, .aload_n 0, 1, 0, 0, 0)]
set_option maxRecDepth 100000 in
theorem zk_X6_at_5 : zl_X6_at_5.all (zgoodB zmt zm_X6_at) = true := by decide +kernel
def zl_X6_at_6 : List (Nat × zE) := [(102, .getfield 38, 3, 6, 16, 712), (105, .bipush 72, 2, 0, 0, 0), (107, .iload_n 1, 1, 0, 0, 0), (108, .imul, 1, 0, 0, 0), (109, .iload_n 2, 1, 0, 0, 0), (110, .iadd, 1, 0, 0, 0), (111, .iaload, 1, 0, 0, 0), (112, .i2l, 1, 0, 0, 0), (113, .lreturn, 1, 0, 0, 0)]
set_option maxRecDepth 100000 in
theorem zk_X6_at_6 : zl_X6_at_6.all (zgoodB zmt zm_X6_at) = true := by decide +kernel
def zp_X6_at : Nat → Option zE := (ztr 55 (ztr 18 (zlf zl_X6_at_0) (ztr 38 (zlf zl_X6_at_1) (zlf zl_X6_at_2))) (ztr 86 (ztr 72 (zlf zl_X6_at_3) (zlf zl_X6_at_4)) (ztr 102 (zlf zl_X6_at_5) (zlf zl_X6_at_6))))
theorem za_X6_at : zall (zgood zmt zm_X6_at) zp_X6_at := (zall_tr (zall_tr (zall_lf zl_X6_at_0 zk_X6_at_0) (zall_tr (zall_lf zl_X6_at_1 zk_X6_at_1) (zall_lf zl_X6_at_2 zk_X6_at_2))) (zall_tr (zall_tr (zall_lf zl_X6_at_3 zk_X6_at_3) (zall_lf zl_X6_at_4 zk_X6_at_4)) (zall_tr (zall_lf zl_X6_at_5 zk_X6_at_5) (zall_lf zl_X6_at_6 zk_X6_at_6))))
def zl_X6_begins_0 : List (Nat × zE) := [(0, .aload_n 0, 1, 0, 0, 0), (1, .bipush 31, 2, 0, 0, 0), (3, .aload_n 0, 1, 0, 0, 0), (4, .getfield 284, 3, 6, 1, 697), (7, .imul, 1, 0, 0, 0), (8, .iload_n 1, 1, 0, 0, 0), (9, .iadd, 1, 0, 0, 0), (10, .putfield 284, 3, 6, 1, 697), (13, .return_, 1, 0, 0, 0)]
set_option maxRecDepth 100000 in
theorem zk_X6_begins_0 : zl_X6_begins_0.all (zgoodB zmt zm_X6_begins) = true := by decide +kernel
def zp_X6_begins : Nat → Option zE := (zlf zl_X6_begins_0)
theorem za_X6_begins : zall (zgood zmt zm_X6_begins) zp_X6_begins := (zall_lf zl_X6_begins_0 zk_X6_begins_0)
def zl_X6_tell_0 : List (Nat × zE) := [(0, .aload_n 0, 1, 0, 0, 0), (1, .iload_n 1, 1, 0, 0, 0), (2, .invokevirtual 203, 3, 108, 24610, 1866), (5, .ifCond .ne 5, 3, 10, 0, 0), (8, .iconst (-1), 1, 0, 0, 0), (9, .ireturn, 1, 0, 0, 0), (10, .aload_n 0, 1, 0, 0, 0), (11, .iload_n 1, 1, 0, 0, 0), (12, .invokevirtual 213, 3, 131, 24610, 1890), (15, .ifCond .ne 21, 3, 36, 0, 0)]
set_option maxRecDepth 100000 in
theorem zk_X6_tell_0 : zl_X6_tell_0.all (zgoodB zmt zm_X6_tell) = true := by decide +kernel
def zl_X6_tell_1 : List (Nat × zE) := [(18, .aload_n 0, 1, 0, 0, 0), (19, .iconst 3, 1, 0, 0, 0), (20, .invokevirtual 287, 3, 157, 24610, 2124), (23, .aload_n 0, 1, 0, 0, 0), (24, .iconst 1, 1, 0, 0, 0), (25, .invokevirtual 287, 3, 157, 24610, 2124), (28, .aload_n 0, 1, 0, 0, 0), (29, .getfield 23, 3, 6, 10, 706), (32, .iload_n 1, 1, 0, 0, 0), (33, .iaload, 1, 0, 0, 0)]
set_option maxRecDepth 100000 in
theorem zk_X6_tell_1 : zl_X6_tell_1.all (zgoodB zmt zm_X6_tell) = true := by decide +kernel
def zl_X6_tell_2 : List (Nat × zE) := [(34, .ineg, 1, 0, 0, 0), (35, .ireturn, 1, 0, 0, 0), (36, .aload_n 0, 1, 0, 0, 0), (37, .iload_n 1, 1, 0, 0, 0), (38, .invokevirtual 210, 3, 130, 24610, 1882), (41, .istore_n 2, 1, 0, 0, 0), (42, .iload_n 2, 1, 0, 0, 0), (43, .iconst 1, 1, 0, 0, 0), (44, .if_icmp .le 8, 3, 52, 0, 0), (47, .aload_n 0, 1, 0, 0, 0)]
set_option maxRecDepth 100000 in
theorem zk_X6_tell_2 : zl_X6_tell_2.all (zgoodB zmt zm_X6_tell) = true := by decide +kernel
def zl_X6_tell_3 : List (Nat × zE) := [(48, .iconst 2, 1, 0, 0, 0), (49, .invokevirtual 287, 3, 157, 24610, 2124), (52, .aload_n 0, 1, 0, 0, 0), (53, .iconst 1, 1, 0, 0, 0), (54, .invokevirtual 287, 3, 157, 24610, 2124), (57, .iload_n 2, 1, 0, 0, 0), (58, .iconst 1, 1, 0, 0, 0), (59, .if_icmp .le 14, 3, 73, 0, 0), (62, .aload_n 0, 1, 0, 0, 0), (63, .getfield 23, 3, 6, 10, 706)]
set_option maxRecDepth 100000 in
theorem zk_X6_tell_3 : zl_X6_tell_3.all (zgoodB zmt zm_X6_tell) = true := by decide +kernel
def zl_X6_tell_4 : List (Nat × zE) := [(66, .iload_n 1, 1, 0, 0, 0), (67, .iaload, 1, 0, 0, 0), (68, .iload_n 2, 1, 0, 0, 0), (69, .iadd, 1, 0, 0, 0), (70, .goto 9, 3, 79, 0, 0), (73, .aload_n 0, 1, 0, 0, 0), (74, .getfield 23, 3, 6, 10, 706), (77, .iload_n 1, 1, 0, 0, 0), (78, .iaload, 1, 0, 0, 0), (79, .ireturn, 1, 0, 0, 0)]
set_option maxRecDepth 100000 in
theorem zk_X6_tell_4 : zl_X6_tell_4.all (zgoodB zmt zm_X6_tell) = true := by decide +kernel
def zp_X6_tell : Nat → Option zE := (ztr 34 (ztr 18 (zlf zl_X6_tell_0) (zlf zl_X6_tell_1)) (ztr 48 (zlf zl_X6_tell_2) (ztr 66 (zlf zl_X6_tell_3) (zlf zl_X6_tell_4))))
theorem za_X6_tell : zall (zgood zmt zm_X6_tell) zp_X6_tell := (zall_tr (zall_tr (zall_lf zl_X6_tell_0 zk_X6_tell_0) (zall_lf zl_X6_tell_1 zk_X6_tell_1)) (zall_tr (zall_lf zl_X6_tell_2 zk_X6_tell_2) (zall_tr (zall_lf zl_X6_tell_3 zk_X6_tell_3) (zall_lf zl_X6_tell_4 zk_X6_tell_4))))
def zl_X6_count_0 : List (Nat × zE) := [(0, .aload_n 0, 1, 0, 0, 0), (1, .iload_n 1, 1, 0, 0, 0), (2, .invokevirtual 203, 3, 108, 24610, 1866), (5, .ifCond .ne 5, 3, 10, 0, 0), (8, .iconst (-1), 1, 0, 0, 0), (9, .ireturn, 1, 0, 0, 0), (10, .aload_n 0, 1, 0, 0, 0), (11, .iload_n 1, 1, 0, 0, 0), (12, .invokevirtual 213, 3, 131, 24610, 1890), (15, .istore_n 2, 1, 0, 0, 0)]
set_option maxRecDepth 100000 in
theorem zk_X6_count_0 : zl_X6_count_0.all (zgoodB zmt zm_X6_count) = true := by decide +kernel
def zl_X6_count_1 : List (Nat × zE) := [(16, .aload_n 0, 1, 0, 0, 0), (17, .iload_n 2, 1, 0, 0, 0), (18, .ifCond .eq 7, 3, 25, 0, 0), (21, .iconst 4, 1, 0, 0, 0), (22, .goto 4, 3, 26, 0, 0), (25, .iconst 5, 1, 0, 0, 0), (26, .invokevirtual 287, 3, 157, 24610, 2124), (29, .iload_n 2, 1, 0, 0, 0), (30, .ifCond .eq 7, 3, 37, 0, 0), (33, .iload_n 1, 1, 0, 0, 0)]
set_option maxRecDepth 100000 in
theorem zk_X6_count_1 : zl_X6_count_1.all (zgoodB zmt zm_X6_count) = true := by decide +kernel
def zl_X6_count_2 : List (Nat × zE) := [(34, .goto 5, 3, 39, 0, 0), (37, .bipush 77, 2, 0, 0, 0), (39, .ireturn, 1, 0, 0, 0)]
set_option maxRecDepth 100000 in
theorem zk_X6_count_2 : zl_X6_count_2.all (zgoodB zmt zm_X6_count) = true := by decide +kernel
def zp_X6_count : Nat → Option zE := (ztr 16 (zlf zl_X6_count_0) (ztr 34 (zlf zl_X6_count_1) (zlf zl_X6_count_2)))
theorem za_X6_count : zall (zgood zmt zm_X6_count) zp_X6_count := (zall_tr (zall_lf zl_X6_count_0 zk_X6_count_0) (zall_tr (zall_lf zl_X6_count_1 zk_X6_count_1) (zall_lf zl_X6_count_2 zk_X6_count_2)))
def zl_X6_as_0 : List (Nat × zE) := [(0, .aload_n 0, 1, 0, 0, 0), (1, .iconst 0, 1, 0, 0, 0), (2, .putfield 89, 3, 6, 0, 696), (5, .aload_n 0, 1, 0, 0, 0), (6, .iload_n 1, 1, 0, 0, 0), (7, .invokevirtual 203, 3, 108, 24610, 1866), (10, .ifCond .ne 5, 3, 15, 0, 0), (13, .iconst (-1), 1, 0, 0, 0), (14, .ireturn, 1, 0, 0, 0), (15, .iload_n 2, 1, 0, 0, 0)]
set_option maxRecDepth 100000 in
theorem zk_X6_as_0 : zl_X6_as_0.all (zgoodB zmt zm_X6_as) = true := by decide +kernel
def zl_X6_as_1 : List (Nat × zE) := [(16, .i2l, 1, 0, 0, 0), (17, .lconst 0, 1, 0, 0, 0), (18, .ldc2_w 197, 3, 3, 0, 924), (21, .invokestatic 118, 3, 100, 24675, 1644), (24, .ifCond .ne 6, 3, 30, 0, 0), (27, .bipush (-2), 2, 0, 0, 0), (29, .ireturn, 1, 0, 0, 0), (30, .aload_n 0, 1, 0, 0, 0), (31, .iload_n 1, 1, 0, 0, 0), (32, .invokevirtual 213, 3, 131, 24610, 1890)]
set_option maxRecDepth 100000 in
theorem zk_X6_as_1 : zl_X6_as_1.all (zgoodB zmt zm_X6_as) = true := by decide +kernel
def zl_X6_as_2 : List (Nat × zE) := [(35, .ifCond .ne 7, 3, 42, 0, 0), (38, .iconst 2, 1, 0, 0, 0), (39, .goto 17, 3, 56, 0, 0), (42, .aload_n 0, 1, 0, 0, 0), (43, .iload_n 1, 1, 0, 0, 0), (44, .invokevirtual 210, 3, 130, 24610, 1882), (47, .iconst 1, 1, 0, 0, 0), (48, .if_icmp .le 7, 3, 55, 0, 0), (51, .iconst 1, 1, 0, 0, 0), (52, .goto 4, 3, 56, 0, 0)]
set_option maxRecDepth 100000 in
theorem zk_X6_as_2 : zl_X6_as_2.all (zgoodB zmt zm_X6_as) = true := by decide +kernel
def zl_X6_as_3 : List (Nat × zE) := [(55, .iconst 0, 1, 0, 0, 0), (56, .istore_n 3, 1, 0, 0, 0), (57, .iload_n 2, 1, 0, 0, 0), (58, .iload_n 3, 1, 0, 0, 0), (59, .if_icmp .eq 13, 3, 72, 0, 0), (62, .iload_n 2, 1, 0, 0, 0), (63, .iconst 3, 1, 0, 0, 0), (64, .if_icmp .ne 12, 3, 76, 0, 0), (67, .iload_n 3, 1, 0, 0, 0), (68, .iconst 2, 1, 0, 0, 0)]
set_option maxRecDepth 100000 in
theorem zk_X6_as_3 : zl_X6_as_3.all (zgoodB zmt zm_X6_as) = true := by decide +kernel
def zl_X6_as_4 : List (Nat × zE) := [(69, .if_icmp .eq 7, 3, 76, 0, 0), (72, .iconst 1, 1, 0, 0, 0), (73, .goto 8, 3, 81, 0, 0), (76, .aload_n 0, 1, 0, 0, 0), (77, .iconst 2, 1, 0, 0, 0), (78, .invokevirtual 199, 3, 98, 24610, 1850), (81, .ireturn, 1, 0, 0, 0)]
set_option maxRecDepth 100000 in
theorem zk_X6_as_4 : zl_X6_as_4.all (zgoodB zmt zm_X6_as) = true := by decide +kernel
def zp_X6_as : Nat → Option zE := (ztr 35 (ztr 16 (zlf zl_X6_as_0) (zlf zl_X6_as_1)) (ztr 55 (zlf zl_X6_as_2) (ztr 69 (zlf zl_X6_as_3) (zlf zl_X6_as_4))))
theorem za_X6_as : zall (zgood zmt zm_X6_as) zp_X6_as := (zall_tr (zall_tr (zall_lf zl_X6_as_0 zk_X6_as_0) (zall_lf zl_X6_as_1 zk_X6_as_1)) (zall_tr (zall_lf zl_X6_as_2 zk_X6_as_2) (zall_tr (zall_lf zl_X6_as_3 zk_X6_as_3) (zall_lf zl_X6_as_4 zk_X6_as_4))))
def zl_X6_trace_0 : List (Nat × zE) := [(0, .aload_n 0, 1, 0, 0, 0), (1, .getfield 284, 3, 6, 1, 697), (4, .ireturn, 1, 0, 0, 0)]
set_option maxRecDepth 100000 in
theorem zk_X6_trace_0 : zl_X6_trace_0.all (zgoodB zmt zm_X6_trace) = true := by decide +kernel
def zp_X6_trace : Nat → Option zE := (zlf zl_X6_trace_0)
theorem za_X6_trace : zall (zgood zmt zm_X6_trace) zp_X6_trace := (zall_lf zl_X6_trace_0 zk_X6_trace_0)
def zl_X6_fault_0 : List (Nat × zE) := [(0, .aload_n 0, 1, 0, 0, 0), (1, .getfield 89, 3, 6, 0, 696), (4, .ireturn, 1, 0, 0, 0)]
set_option maxRecDepth 100000 in
theorem zk_X6_fault_0 : zl_X6_fault_0.all (zgoodB zmt zm_X6_fault) = true := by decide +kernel
def zp_X6_fault : Nat → Option zE := (zlf zl_X6_fault_0)
theorem za_X6_fault : zall (zgood zmt zm_X6_fault) zp_X6_fault := (zall_lf zl_X6_fault_0 zk_X6_fault_0)
def zl_X6_told_0 : List (Nat × zE) := [(0, .iload_n 1, 1, 0, 0, 0), (1, .tableswitch 92 0 4 #[35, 40, 45, 50, 55], 35, 0, 0, 0), (36, .aload_n 0, 1, 0, 0, 0), (37, .getfield 113, 3, 6, 7, 703), (40, .ireturn, 1, 0, 0, 0), (41, .aload_n 0, 1, 0, 0, 0), (42, .getfield 126, 3, 6, 4, 700), (45, .ireturn, 1, 0, 0, 0), (46, .aload_n 0, 1, 0, 0, 0), (47, .getfield 7, 3, 6, 5, 701)]
set_option maxRecDepth 100000 in
theorem zk_X6_told_0 : zl_X6_told_0.all (zgoodB zmt zm_X6_told) = true := by decide +kernel
def zl_X6_told_1 : List (Nat × zE) := [(50, .ireturn, 1, 0, 0, 0), (51, .aload_n 0, 1, 0, 0, 0), (52, .getfield 13, 3, 6, 6, 702), (55, .ireturn, 1, 0, 0, 0), (56, .iconst 0, 1, 0, 0, 0), (57, .istore_n 2, 1, 0, 0, 0), (58, .iconst 0, 1, 0, 0, 0), (59, .istore_n 3, 1, 0, 0, 0), (60, .iload_n 3, 1, 0, 0, 0), (61, .bipush 6, 2, 0, 0, 0)]
set_option maxRecDepth 100000 in
theorem zk_X6_told_1 : zl_X6_told_1.all (zgoodB zmt zm_X6_told) = true := by decide +kernel
def zl_X6_told_2 : List (Nat × zE) := [(63, .if_icmp .ge 28, 3, 91, 0, 0), (66, .iload_n 2, 1, 0, 0, 0), (67, .aload_n 0, 1, 0, 0, 0), (68, .getfield 44, 3, 6, 18, 714), (71, .iload_n 3, 1, 0, 0, 0), (72, .iaload, 1, 0, 0, 0), (73, .bipush (-9), 2, 0, 0, 0), (75, .if_icmp .ne 7, 3, 82, 0, 0), (78, .iconst 0, 1, 0, 0, 0), (79, .goto 4, 3, 83, 0, 0)]
set_option maxRecDepth 100000 in
theorem zk_X6_told_2 : zl_X6_told_2.all (zgoodB zmt zm_X6_told) = true := by decide +kernel
def zl_X6_told_3 : List (Nat × zE) := [(82, .iconst 1, 1, 0, 0, 0), (83, .iadd, 1, 0, 0, 0), (84, .istore_n 2, 1, 0, 0, 0), (85, .iinc 3 1, 3, 0, 0, 0), (88, .goto (-28), 3, 60, 0, 0), (91, .iload_n 2, 1, 0, 0, 0), (92, .ireturn, 1, 0, 0, 0), (93, .bipush (-2), 2, 0, 0, 0), (95, .ireturn, 1, 0, 0, 0)]
set_option maxRecDepth 100000 in
theorem zk_X6_told_3 : zl_X6_told_3.all (zgoodB zmt zm_X6_told) = true := by decide +kernel
def zp_X6_told : Nat → Option zE := (ztr 63 (ztr 50 (zlf zl_X6_told_0) (zlf zl_X6_told_1)) (ztr 82 (zlf zl_X6_told_2) (zlf zl_X6_told_3)))
theorem za_X6_told : zall (zgood zmt zm_X6_told) zp_X6_told := (zall_tr (zall_tr (zall_lf zl_X6_told_0 zk_X6_told_0) (zall_lf zl_X6_told_1 zk_X6_told_1)) (zall_tr (zall_lf zl_X6_told_2 zk_X6_told_2) (zall_lf zl_X6_told_3 zk_X6_told_3)))
def zl_J7_fill_d0a16_0 : List (Nat × zE) := [(0, .iconst 0, 1, 0, 0, 0), (1, .istore_n 3, 1, 0, 0, 0), (2, .aload_n 0, 1, 0, 0, 0), (3, .arraylength, 1, 0, 0, 0), (4, .istore 4, 2, 0, 0, 0), (6, .iload_n 3, 1, 0, 0, 0), (7, .iload 4, 2, 0, 0, 0), (9, .if_icmp .ge 13, 3, 22, 0, 0), (12, .aload_n 0, 1, 0, 0, 0), (13, .iload_n 3, 1, 0, 0, 0)]
set_option maxRecDepth 100000 in
theorem zk_J7_fill_d0a16_0 : zl_J7_fill_d0a16_0.all (zgoodB zmt zm_J7_fill_d0a16) = true := by decide +kernel
def zl_J7_fill_d0a16_1 : List (Nat × zE) := [(14, .lload_n 1, 1, 0, 0, 0), (15, .lastore, 1, 0, 0, 0), (16, .iinc 3 1, 3, 0, 0, 0), (19, .goto (-13), 3, 6, 0, 0), (22, .return_, 1, 0, 0, 0)]
set_option maxRecDepth 100000 in
theorem zk_J7_fill_d0a16_1 : zl_J7_fill_d0a16_1.all (zgoodB zmt zm_J7_fill_d0a16) = true := by decide +kernel
def zp_J7_fill_d0a16 : Nat → Option zE := (ztr 14 (zlf zl_J7_fill_d0a16_0) (zlf zl_J7_fill_d0a16_1))
theorem za_J7_fill_d0a16 : zall (zgood zmt zm_J7_fill_d0a16) zp_J7_fill_d0a16 := (zall_tr (zall_lf zl_J7_fill_d0a16_0 zk_J7_fill_d0a16_0) (zall_lf zl_J7_fill_d0a16_1 zk_J7_fill_d0a16_1))
def zl_J7_fill_53178_0 : List (Nat × zE) := [(0, .iconst 0, 1, 0, 0, 0), (1, .istore_n 2, 1, 0, 0, 0), (2, .aload_n 0, 1, 0, 0, 0), (3, .arraylength, 1, 0, 0, 0), (4, .istore_n 3, 1, 0, 0, 0), (5, .iload_n 2, 1, 0, 0, 0), (6, .iload_n 3, 1, 0, 0, 0), (7, .if_icmp .ge 13, 3, 20, 0, 0), (10, .aload_n 0, 1, 0, 0, 0), (11, .iload_n 2, 1, 0, 0, 0)]
set_option maxRecDepth 100000 in
theorem zk_J7_fill_53178_0 : zl_J7_fill_53178_0.all (zgoodB zmt zm_J7_fill_53178) = true := by decide +kernel
def zl_J7_fill_53178_1 : List (Nat × zE) := [(12, .iload_n 1, 1, 0, 0, 0), (13, .iastore, 1, 0, 0, 0), (14, .iinc 2 1, 3, 0, 0, 0), (17, .goto (-12), 3, 5, 0, 0), (20, .return_, 1, 0, 0, 0)]
set_option maxRecDepth 100000 in
theorem zk_J7_fill_53178_1 : zl_J7_fill_53178_1.all (zgoodB zmt zm_J7_fill_53178) = true := by decide +kernel
def zp_J7_fill_53178 : Nat → Option zE := (ztr 12 (zlf zl_J7_fill_53178_0) (zlf zl_J7_fill_53178_1))
theorem za_J7_fill_53178 : zall (zgood zmt zm_J7_fill_53178) zp_J7_fill_53178 := (zall_tr (zall_lf zl_J7_fill_53178_0 zk_J7_fill_53178_0) (zall_lf zl_J7_fill_53178_1 zk_J7_fill_53178_1))
def zl_L_law_0 : List (Nat × zE) := [(0, .new 7, 3, 5, 0, 61), (3, .dup, 1, 0, 0, 0), (4, .invokespecial 9, 3, 37, 20513, 126), (7, .astore_n 1, 1, 0, 0, 0), (8, .new 10, 3, 6, 0, 690), (11, .dup, 1, 0, 0, 0), (12, .invokespecial 12, 3, 97, 24593, 1384), (15, .astore_n 2, 1, 0, 0, 0), (16, .iconst 0, 1, 0, 0, 0), (17, .istore_n 3, 1, 0, 0, 0)]
set_option maxRecDepth 100000 in
theorem zk_L_law_0 : zl_L_law_0.all (zgoodB zmt zm_L_law) = true := by decide +kernel
def zl_L_law_1 : List (Nat × zE) := [(18, .iload_n 3, 1, 0, 0, 0), (19, .aload_n 0, 1, 0, 0, 0), (20, .arraylength, 1, 0, 0, 0), (21, .iconst 5, 1, 0, 0, 0), (22, .isub, 1, 0, 0, 0), (23, .if_icmp .gt 1044, 3, 1067, 0, 0), (26, .aload_n 0, 1, 0, 0, 0), (27, .iload_n 3, 1, 0, 0, 0), (28, .iaload, 1, 0, 0, 0), (29, .bipush 31, 2, 0, 0, 0)]
set_option maxRecDepth 100000 in
theorem zk_L_law_1 : zl_L_law_1.all (zgoodB zmt zm_L_law) = true := by decide +kernel
def zl_L_law_2 : List (Nat × zE) := [(31, .iand, 1, 0, 0, 0), (32, .tableswitch 1029 0 28 #[132, 175, 218, 261, 304, 357, 380, 413, 456, 499, 512, 535, 558, 581, 604, 627, 660, 693, 716, 749, 792, 815, 858, 901, 924, 947, 980, 993, 1006], 132, 0, 0, 0), (164, .aload_n 1, 1, 0, 0, 0), (165, .aload_n 0, 1, 0, 0, 0), (166, .iload_n 3, 1, 0, 0, 0), (167, .iconst 1, 1, 0, 0, 0), (168, .iadd, 1, 0, 0, 0), (169, .iaload, 1, 0, 0, 0), (170, .aload_n 0, 1, 0, 0, 0), (171, .iload_n 3, 1, 0, 0, 0)]
set_option maxRecDepth 100000 in
theorem zk_L_law_2 : zl_L_law_2.all (zgoodB zmt zm_L_law) = true := by decide +kernel
def zl_L_law_3 : List (Nat × zE) := [(172, .iconst 2, 1, 0, 0, 0), (173, .iadd, 1, 0, 0, 0), (174, .iaload, 1, 0, 0, 0), (175, .aload_n 0, 1, 0, 0, 0), (176, .iload_n 3, 1, 0, 0, 0), (177, .iconst 3, 1, 0, 0, 0), (178, .iadd, 1, 0, 0, 0), (179, .iaload, 1, 0, 0, 0), (180, .invokevirtual 13, 3, 38, 20548, 578), (183, .pop, 1, 0, 0, 0)]
set_option maxRecDepth 100000 in
theorem zk_L_law_3 : zl_L_law_3.all (zgoodB zmt zm_L_law) = true := by decide +kernel
def zl_L_law_4 : List (Nat × zE) := [(184, .aload_n 2, 1, 0, 0, 0), (185, .aload_n 0, 1, 0, 0, 0), (186, .iload_n 3, 1, 0, 0, 0), (187, .iconst 1, 1, 0, 0, 0), (188, .iadd, 1, 0, 0, 0), (189, .iaload, 1, 0, 0, 0), (190, .aload_n 0, 1, 0, 0, 0), (191, .iload_n 3, 1, 0, 0, 0), (192, .iconst 2, 1, 0, 0, 0), (193, .iadd, 1, 0, 0, 0)]
set_option maxRecDepth 100000 in
theorem zk_L_law_4 : zl_L_law_4.all (zgoodB zmt zm_L_law) = true := by decide +kernel
def zl_L_law_5 : List (Nat × zE) := [(194, .iaload, 1, 0, 0, 0), (195, .aload_n 0, 1, 0, 0, 0), (196, .iload_n 3, 1, 0, 0, 0), (197, .iconst 3, 1, 0, 0, 0), (198, .iadd, 1, 0, 0, 0), (199, .iaload, 1, 0, 0, 0), (200, .invokevirtual 17, 3, 110, 24644, 1634), (203, .pop, 1, 0, 0, 0), (204, .goto 857, 3, 1061, 0, 0), (207, .aload_n 1, 1, 0, 0, 0)]
set_option maxRecDepth 100000 in
theorem zk_L_law_5 : zl_L_law_5.all (zgoodB zmt zm_L_law) = true := by decide +kernel
def zl_L_law_6 : List (Nat × zE) := [(208, .aload_n 0, 1, 0, 0, 0), (209, .iload_n 3, 1, 0, 0, 0), (210, .iconst 1, 1, 0, 0, 0), (211, .iadd, 1, 0, 0, 0), (212, .iaload, 1, 0, 0, 0), (213, .aload_n 0, 1, 0, 0, 0), (214, .iload_n 3, 1, 0, 0, 0), (215, .iconst 2, 1, 0, 0, 0), (216, .iadd, 1, 0, 0, 0), (217, .iaload, 1, 0, 0, 0)]
set_option maxRecDepth 100000 in
theorem zk_L_law_6 : zl_L_law_6.all (zgoodB zmt zm_L_law) = true := by decide +kernel
def zl_L_law_7 : List (Nat × zE) := [(218, .aload_n 0, 1, 0, 0, 0), (219, .iload_n 3, 1, 0, 0, 0), (220, .iconst 3, 1, 0, 0, 0), (221, .iadd, 1, 0, 0, 0), (222, .iaload, 1, 0, 0, 0), (223, .invokevirtual 18, 3, 39, 20548, 600), (226, .pop2, 1, 0, 0, 0), (227, .aload_n 2, 1, 0, 0, 0), (228, .aload_n 0, 1, 0, 0, 0), (229, .iload_n 3, 1, 0, 0, 0)]
set_option maxRecDepth 100000 in
theorem zk_L_law_7 : zl_L_law_7.all (zgoodB zmt zm_L_law) = true := by decide +kernel
def zl_L_law_8 : List (Nat × zE) := [(230, .iconst 1, 1, 0, 0, 0), (231, .iadd, 1, 0, 0, 0), (232, .iaload, 1, 0, 0, 0), (233, .aload_n 0, 1, 0, 0, 0), (234, .iload_n 3, 1, 0, 0, 0), (235, .iconst 2, 1, 0, 0, 0), (236, .iadd, 1, 0, 0, 0), (237, .iaload, 1, 0, 0, 0), (238, .aload_n 0, 1, 0, 0, 0), (239, .iload_n 3, 1, 0, 0, 0)]
set_option maxRecDepth 100000 in
theorem zk_L_law_8 : zl_L_law_8.all (zgoodB zmt zm_L_law) = true := by decide +kernel
def zl_L_law_9 : List (Nat × zE) := [(240, .iconst 3, 1, 0, 0, 0), (241, .iadd, 1, 0, 0, 0), (242, .iaload, 1, 0, 0, 0), (243, .invokevirtual 22, 3, 115, 24644, 1654), (246, .pop2, 1, 0, 0, 0), (247, .goto 814, 3, 1061, 0, 0), (250, .aload_n 1, 1, 0, 0, 0), (251, .aload_n 0, 1, 0, 0, 0), (252, .iload_n 3, 1, 0, 0, 0), (253, .iconst 1, 1, 0, 0, 0)]
set_option maxRecDepth 100000 in
theorem zk_L_law_9 : zl_L_law_9.all (zgoodB zmt zm_L_law) = true := by decide +kernel
def zl_L_law_10 : List (Nat × zE) := [(254, .iadd, 1, 0, 0, 0), (255, .iaload, 1, 0, 0, 0), (256, .aload_n 0, 1, 0, 0, 0), (257, .iload_n 3, 1, 0, 0, 0), (258, .iconst 2, 1, 0, 0, 0), (259, .iadd, 1, 0, 0, 0), (260, .iaload, 1, 0, 0, 0), (261, .aload_n 0, 1, 0, 0, 0), (262, .iload_n 3, 1, 0, 0, 0), (263, .iconst 3, 1, 0, 0, 0)]
set_option maxRecDepth 100000 in
theorem zk_L_law_10 : zl_L_law_10.all (zgoodB zmt zm_L_law) = true := by decide +kernel
def zl_L_law_11 : List (Nat × zE) := [(264, .iadd, 1, 0, 0, 0), (265, .iaload, 1, 0, 0, 0), (266, .invokevirtual 23, 3, 40, 20548, 660), (269, .pop, 1, 0, 0, 0), (270, .aload_n 2, 1, 0, 0, 0), (271, .aload_n 0, 1, 0, 0, 0), (272, .iload_n 3, 1, 0, 0, 0), (273, .iconst 1, 1, 0, 0, 0), (274, .iadd, 1, 0, 0, 0), (275, .iaload, 1, 0, 0, 0)]
set_option maxRecDepth 100000 in
theorem zk_L_law_11 : zl_L_law_11.all (zgoodB zmt zm_L_law) = true := by decide +kernel
def zl_L_law_12 : List (Nat × zE) := [(276, .aload_n 0, 1, 0, 0, 0), (277, .iload_n 3, 1, 0, 0, 0), (278, .iconst 2, 1, 0, 0, 0), (279, .iadd, 1, 0, 0, 0), (280, .iaload, 1, 0, 0, 0), (281, .aload_n 0, 1, 0, 0, 0), (282, .iload_n 3, 1, 0, 0, 0), (283, .iconst 3, 1, 0, 0, 0), (284, .iadd, 1, 0, 0, 0), (285, .iaload, 1, 0, 0, 0)]
set_option maxRecDepth 100000 in
theorem zk_L_law_12 : zl_L_law_12.all (zgoodB zmt zm_L_law) = true := by decide +kernel
def zl_L_law_13 : List (Nat × zE) := [(286, .invokevirtual 26, 3, 126, 24660, 1766), (289, .pop, 1, 0, 0, 0), (290, .goto 771, 3, 1061, 0, 0), (293, .aload_n 1, 1, 0, 0, 0), (294, .aload_n 0, 1, 0, 0, 0), (295, .iload_n 3, 1, 0, 0, 0), (296, .iconst 1, 1, 0, 0, 0), (297, .iadd, 1, 0, 0, 0), (298, .iaload, 1, 0, 0, 0), (299, .aload_n 0, 1, 0, 0, 0)]
set_option maxRecDepth 100000 in
theorem zk_L_law_13 : zl_L_law_13.all (zgoodB zmt zm_L_law) = true := by decide +kernel
def zl_L_law_14 : List (Nat × zE) := [(300, .iload_n 3, 1, 0, 0, 0), (301, .iconst 2, 1, 0, 0, 0), (302, .iadd, 1, 0, 0, 0), (303, .iaload, 1, 0, 0, 0), (304, .aload_n 0, 1, 0, 0, 0), (305, .iload_n 3, 1, 0, 0, 0), (306, .iconst 3, 1, 0, 0, 0), (307, .iadd, 1, 0, 0, 0), (308, .iaload, 1, 0, 0, 0), (309, .invokevirtual 27, 3, 41, 20564, 694)]
set_option maxRecDepth 100000 in
theorem zk_L_law_14 : zl_L_law_14.all (zgoodB zmt zm_L_law) = true := by decide +kernel
def zl_L_law_15 : List (Nat × zE) := [(312, .pop, 1, 0, 0, 0), (313, .aload_n 2, 1, 0, 0, 0), (314, .aload_n 0, 1, 0, 0, 0), (315, .iload_n 3, 1, 0, 0, 0), (316, .iconst 1, 1, 0, 0, 0), (317, .iadd, 1, 0, 0, 0), (318, .iaload, 1, 0, 0, 0), (319, .aload_n 0, 1, 0, 0, 0), (320, .iload_n 3, 1, 0, 0, 0), (321, .iconst 2, 1, 0, 0, 0)]
set_option maxRecDepth 100000 in
theorem zk_L_law_15 : zl_L_law_15.all (zgoodB zmt zm_L_law) = true := by decide +kernel
def zl_L_law_16 : List (Nat × zE) := [(322, .iadd, 1, 0, 0, 0), (323, .iaload, 1, 0, 0, 0), (324, .aload_n 0, 1, 0, 0, 0), (325, .iload_n 3, 1, 0, 0, 0), (326, .iconst 3, 1, 0, 0, 0), (327, .iadd, 1, 0, 0, 0), (328, .iaload, 1, 0, 0, 0), (329, .invokevirtual 30, 3, 127, 24692, 1816), (332, .pop, 1, 0, 0, 0), (333, .goto 728, 3, 1061, 0, 0)]
set_option maxRecDepth 100000 in
theorem zk_L_law_16 : zl_L_law_16.all (zgoodB zmt zm_L_law) = true := by decide +kernel
def zl_L_law_17 : List (Nat × zE) := [(336, .aload_n 1, 1, 0, 0, 0), (337, .aload_n 0, 1, 0, 0, 0), (338, .iload_n 3, 1, 0, 0, 0), (339, .iconst 1, 1, 0, 0, 0), (340, .iadd, 1, 0, 0, 0), (341, .iaload, 1, 0, 0, 0), (342, .aload_n 0, 1, 0, 0, 0), (343, .iload_n 3, 1, 0, 0, 0), (344, .iconst 2, 1, 0, 0, 0), (345, .iadd, 1, 0, 0, 0)]
set_option maxRecDepth 100000 in
theorem zk_L_law_17 : zl_L_law_17.all (zgoodB zmt zm_L_law) = true := by decide +kernel
def zl_L_law_18 : List (Nat × zE) := [(346, .iaload, 1, 0, 0, 0), (347, .aload_n 0, 1, 0, 0, 0), (348, .iload_n 3, 1, 0, 0, 0), (349, .iconst 3, 1, 0, 0, 0), (350, .iadd, 1, 0, 0, 0), (351, .iaload, 1, 0, 0, 0), (352, .aload_n 0, 1, 0, 0, 0), (353, .iload_n 3, 1, 0, 0, 0), (354, .iconst 4, 1, 0, 0, 0), (355, .iadd, 1, 0, 0, 0)]
set_option maxRecDepth 100000 in
theorem zk_L_law_18 : zl_L_law_18.all (zgoodB zmt zm_L_law) = true := by decide +kernel
def zl_L_law_19 : List (Nat × zE) := [(356, .iaload, 1, 0, 0, 0), (357, .invokevirtual 31, 3, 42, 20581, 756), (360, .pop, 1, 0, 0, 0), (361, .aload_n 2, 1, 0, 0, 0), (362, .aload_n 0, 1, 0, 0, 0), (363, .iload_n 3, 1, 0, 0, 0), (364, .iconst 1, 1, 0, 0, 0), (365, .iadd, 1, 0, 0, 0), (366, .iaload, 1, 0, 0, 0), (367, .aload_n 0, 1, 0, 0, 0)]
set_option maxRecDepth 100000 in
theorem zk_L_law_19 : zl_L_law_19.all (zgoodB zmt zm_L_law) = true := by decide +kernel
def zl_L_law_20 : List (Nat × zE) := [(368, .iload_n 3, 1, 0, 0, 0), (369, .iconst 2, 1, 0, 0, 0), (370, .iadd, 1, 0, 0, 0), (371, .iaload, 1, 0, 0, 0), (372, .aload_n 0, 1, 0, 0, 0), (373, .iload_n 3, 1, 0, 0, 0), (374, .iconst 3, 1, 0, 0, 0), (375, .iadd, 1, 0, 0, 0), (376, .iaload, 1, 0, 0, 0), (377, .aload_n 0, 1, 0, 0, 0)]
set_option maxRecDepth 100000 in
theorem zk_L_law_20 : zl_L_law_20.all (zgoodB zmt zm_L_law) = true := by decide +kernel
def zl_L_law_21 : List (Nat × zE) := [(378, .iload_n 3, 1, 0, 0, 0), (379, .iconst 4, 1, 0, 0, 0), (380, .iadd, 1, 0, 0, 0), (381, .iaload, 1, 0, 0, 0), (382, .invokevirtual 35, 3, 128, 24741, 1840), (385, .pop, 1, 0, 0, 0), (386, .goto 675, 3, 1061, 0, 0), (389, .aload_n 1, 1, 0, 0, 0), (390, .aload_n 0, 1, 0, 0, 0), (391, .iload_n 3, 1, 0, 0, 0)]
set_option maxRecDepth 100000 in
theorem zk_L_law_21 : zl_L_law_21.all (zgoodB zmt zm_L_law) = true := by decide +kernel
def zl_L_law_22 : List (Nat × zE) := [(392, .iconst 1, 1, 0, 0, 0), (393, .iadd, 1, 0, 0, 0), (394, .iaload, 1, 0, 0, 0), (395, .invokevirtual 36, 3, 43, 20514, 822), (398, .pop, 1, 0, 0, 0), (399, .aload_n 2, 1, 0, 0, 0), (400, .aload_n 0, 1, 0, 0, 0), (401, .iload_n 3, 1, 0, 0, 0), (402, .iconst 1, 1, 0, 0, 0), (403, .iadd, 1, 0, 0, 0)]
set_option maxRecDepth 100000 in
theorem zk_L_law_22 : zl_L_law_22.all (zgoodB zmt zm_L_law) = true := by decide +kernel
def zl_L_law_23 : List (Nat × zE) := [(404, .iaload, 1, 0, 0, 0), (405, .invokevirtual 40, 3, 129, 24626, 1858), (408, .pop, 1, 0, 0, 0), (409, .goto 652, 3, 1061, 0, 0), (412, .aload_n 1, 1, 0, 0, 0), (413, .aload_n 0, 1, 0, 0, 0), (414, .iload_n 3, 1, 0, 0, 0), (415, .iconst 1, 1, 0, 0, 0), (416, .iadd, 1, 0, 0, 0), (417, .iaload, 1, 0, 0, 0)]
set_option maxRecDepth 100000 in
theorem zk_L_law_23 : zl_L_law_23.all (zgoodB zmt zm_L_law) = true := by decide +kernel
def zl_L_law_24 : List (Nat × zE) := [(418, .aload_n 0, 1, 0, 0, 0), (419, .iload_n 3, 1, 0, 0, 0), (420, .iconst 2, 1, 0, 0, 0), (421, .iadd, 1, 0, 0, 0), (422, .iaload, 1, 0, 0, 0), (423, .invokevirtual 41, 3, 44, 20531, 846), (426, .pop, 1, 0, 0, 0), (427, .aload_n 2, 1, 0, 0, 0), (428, .aload_n 0, 1, 0, 0, 0), (429, .iload_n 3, 1, 0, 0, 0)]
set_option maxRecDepth 100000 in
theorem zk_L_law_24 : zl_L_law_24.all (zgoodB zmt zm_L_law) = true := by decide +kernel
def zl_L_law_25 : List (Nat × zE) := [(430, .iconst 1, 1, 0, 0, 0), (431, .iadd, 1, 0, 0, 0), (432, .iaload, 1, 0, 0, 0), (433, .aload_n 0, 1, 0, 0, 0), (434, .iload_n 3, 1, 0, 0, 0), (435, .iconst 2, 1, 0, 0, 0), (436, .iadd, 1, 0, 0, 0), (437, .iaload, 1, 0, 0, 0), (438, .invokevirtual 45, 3, 132, 24627, 1874), (441, .pop, 1, 0, 0, 0)]
set_option maxRecDepth 100000 in
theorem zk_L_law_25 : zl_L_law_25.all (zgoodB zmt zm_L_law) = true := by decide +kernel
def zl_L_law_26 : List (Nat × zE) := [(442, .goto 619, 3, 1061, 0, 0), (445, .aload_n 1, 1, 0, 0, 0), (446, .aload_n 0, 1, 0, 0, 0), (447, .iload_n 3, 1, 0, 0, 0), (448, .iconst 1, 1, 0, 0, 0), (449, .iadd, 1, 0, 0, 0), (450, .iaload, 1, 0, 0, 0), (451, .aload_n 0, 1, 0, 0, 0), (452, .iload_n 3, 1, 0, 0, 0), (453, .iconst 2, 1, 0, 0, 0)]
set_option maxRecDepth 100000 in
theorem zk_L_law_26 : zl_L_law_26.all (zgoodB zmt zm_L_law) = true := by decide +kernel
def zl_L_law_27 : List (Nat × zE) := [(454, .iadd, 1, 0, 0, 0), (455, .iaload, 1, 0, 0, 0), (456, .aload_n 0, 1, 0, 0, 0), (457, .iload_n 3, 1, 0, 0, 0), (458, .iconst 3, 1, 0, 0, 0), (459, .iadd, 1, 0, 0, 0), (460, .iaload, 1, 0, 0, 0), (461, .invokevirtual 46, 3, 45, 20548, 882), (464, .pop2, 1, 0, 0, 0), (465, .aload_n 2, 1, 0, 0, 0)]
set_option maxRecDepth 100000 in
theorem zk_L_law_27 : zl_L_law_27.all (zgoodB zmt zm_L_law) = true := by decide +kernel
def zl_L_law_28 : List (Nat × zE) := [(466, .aload_n 0, 1, 0, 0, 0), (467, .iload_n 3, 1, 0, 0, 0), (468, .iconst 1, 1, 0, 0, 0), (469, .iadd, 1, 0, 0, 0), (470, .iaload, 1, 0, 0, 0), (471, .aload_n 0, 1, 0, 0, 0), (472, .iload_n 3, 1, 0, 0, 0), (473, .iconst 2, 1, 0, 0, 0), (474, .iadd, 1, 0, 0, 0), (475, .iaload, 1, 0, 0, 0)]
set_option maxRecDepth 100000 in
theorem zk_L_law_28 : zl_L_law_28.all (zgoodB zmt zm_L_law) = true := by decide +kernel
def zl_L_law_29 : List (Nat × zE) := [(476, .aload_n 0, 1, 0, 0, 0), (477, .iload_n 3, 1, 0, 0, 0), (478, .iconst 3, 1, 0, 0, 0), (479, .iadd, 1, 0, 0, 0), (480, .iaload, 1, 0, 0, 0), (481, .invokevirtual 49, 3, 116, 24644, 1720), (484, .pop2, 1, 0, 0, 0), (485, .goto 576, 3, 1061, 0, 0), (488, .aload_n 1, 1, 0, 0, 0), (489, .aload_n 0, 1, 0, 0, 0)]
set_option maxRecDepth 100000 in
theorem zk_L_law_29 : zl_L_law_29.all (zgoodB zmt zm_L_law) = true := by decide +kernel
def zl_L_law_30 : List (Nat × zE) := [(490, .iload_n 3, 1, 0, 0, 0), (491, .iconst 1, 1, 0, 0, 0), (492, .iadd, 1, 0, 0, 0), (493, .iaload, 1, 0, 0, 0), (494, .aload_n 0, 1, 0, 0, 0), (495, .iload_n 3, 1, 0, 0, 0), (496, .iconst 2, 1, 0, 0, 0), (497, .iadd, 1, 0, 0, 0), (498, .iaload, 1, 0, 0, 0), (499, .aload_n 0, 1, 0, 0, 0)]
set_option maxRecDepth 100000 in
theorem zk_L_law_30 : zl_L_law_30.all (zgoodB zmt zm_L_law) = true := by decide +kernel
def zl_L_law_31 : List (Nat × zE) := [(500, .iload_n 3, 1, 0, 0, 0), (501, .iconst 3, 1, 0, 0, 0), (502, .iadd, 1, 0, 0, 0), (503, .iaload, 1, 0, 0, 0), (504, .invokevirtual 50, 3, 46, 20548, 916), (507, .pop2, 1, 0, 0, 0), (508, .aload_n 2, 1, 0, 0, 0), (509, .aload_n 0, 1, 0, 0, 0), (510, .iload_n 3, 1, 0, 0, 0), (511, .iconst 1, 1, 0, 0, 0)]
set_option maxRecDepth 100000 in
theorem zk_L_law_31 : zl_L_law_31.all (zgoodB zmt zm_L_law) = true := by decide +kernel
def zl_L_law_32 : List (Nat × zE) := [(512, .iadd, 1, 0, 0, 0), (513, .iaload, 1, 0, 0, 0), (514, .aload_n 0, 1, 0, 0, 0), (515, .iload_n 3, 1, 0, 0, 0), (516, .iconst 2, 1, 0, 0, 0), (517, .iadd, 1, 0, 0, 0), (518, .iaload, 1, 0, 0, 0), (519, .aload_n 0, 1, 0, 0, 0), (520, .iload_n 3, 1, 0, 0, 0), (521, .iconst 3, 1, 0, 0, 0)]
set_option maxRecDepth 100000 in
theorem zk_L_law_32 : zl_L_law_32.all (zgoodB zmt zm_L_law) = true := by decide +kernel
def zl_L_law_33 : List (Nat × zE) := [(522, .iadd, 1, 0, 0, 0), (523, .iaload, 1, 0, 0, 0), (524, .invokevirtual 53, 3, 117, 24644, 1742), (527, .pop2, 1, 0, 0, 0), (528, .goto 533, 3, 1061, 0, 0), (531, .aload_n 1, 1, 0, 0, 0), (532, .invokevirtual 54, 3, 47, 20529, 942), (535, .pop, 1, 0, 0, 0), (536, .aload_n 2, 1, 0, 0, 0), (537, .invokevirtual 58, 3, 134, 24609, 1906)]
set_option maxRecDepth 100000 in
theorem zk_L_law_33 : zl_L_law_33.all (zgoodB zmt zm_L_law) = true := by decide +kernel
def zl_L_law_34 : List (Nat × zE) := [(540, .pop, 1, 0, 0, 0), (541, .goto 520, 3, 1061, 0, 0), (544, .aload_n 1, 1, 0, 0, 0), (545, .aload_n 0, 1, 0, 0, 0), (546, .iload_n 3, 1, 0, 0, 0), (547, .iconst 1, 1, 0, 0, 0), (548, .iadd, 1, 0, 0, 0), (549, .iaload, 1, 0, 0, 0), (550, .invokevirtual 59, 3, 48, 20530, 966), (553, .pop, 1, 0, 0, 0)]
set_option maxRecDepth 100000 in
theorem zk_L_law_34 : zl_L_law_34.all (zgoodB zmt zm_L_law) = true := by decide +kernel
def zl_L_law_35 : List (Nat × zE) := [(554, .aload_n 2, 1, 0, 0, 0), (555, .aload_n 0, 1, 0, 0, 0), (556, .iload_n 3, 1, 0, 0, 0), (557, .iconst 1, 1, 0, 0, 0), (558, .iadd, 1, 0, 0, 0), (559, .iaload, 1, 0, 0, 0), (560, .invokevirtual 62, 3, 135, 24642, 1922), (563, .pop, 1, 0, 0, 0), (564, .goto 497, 3, 1061, 0, 0), (567, .aload_n 1, 1, 0, 0, 0)]
set_option maxRecDepth 100000 in
theorem zk_L_law_35 : zl_L_law_35.all (zgoodB zmt zm_L_law) = true := by decide +kernel
def zl_L_law_36 : List (Nat × zE) := [(568, .aload_n 0, 1, 0, 0, 0), (569, .iload_n 3, 1, 0, 0, 0), (570, .iconst 1, 1, 0, 0, 0), (571, .iadd, 1, 0, 0, 0), (572, .iaload, 1, 0, 0, 0), (573, .invokevirtual 63, 3, 49, 20514, 974), (576, .pop, 1, 0, 0, 0), (577, .aload_n 2, 1, 0, 0, 0), (578, .aload_n 0, 1, 0, 0, 0), (579, .iload_n 3, 1, 0, 0, 0)]
set_option maxRecDepth 100000 in
theorem zk_L_law_36 : zl_L_law_36.all (zgoodB zmt zm_L_law) = true := by decide +kernel
def zl_L_law_37 : List (Nat × zE) := [(580, .iconst 1, 1, 0, 0, 0), (581, .iadd, 1, 0, 0, 0), (582, .iaload, 1, 0, 0, 0), (583, .invokevirtual 66, 3, 137, 24642, 1930), (586, .pop, 1, 0, 0, 0), (587, .goto 474, 3, 1061, 0, 0), (590, .aload_n 1, 1, 0, 0, 0), (591, .aload_n 0, 1, 0, 0, 0), (592, .iload_n 3, 1, 0, 0, 0), (593, .iconst 1, 1, 0, 0, 0)]
set_option maxRecDepth 100000 in
theorem zk_L_law_37 : zl_L_law_37.all (zgoodB zmt zm_L_law) = true := by decide +kernel
def zl_L_law_38 : List (Nat × zE) := [(594, .iadd, 1, 0, 0, 0), (595, .iaload, 1, 0, 0, 0), (596, .invokevirtual 67, 3, 50, 20530, 1014), (599, .pop, 1, 0, 0, 0), (600, .aload_n 2, 1, 0, 0, 0), (601, .aload_n 0, 1, 0, 0, 0), (602, .iload_n 3, 1, 0, 0, 0), (603, .iconst 1, 1, 0, 0, 0), (604, .iadd, 1, 0, 0, 0), (605, .iaload, 1, 0, 0, 0)]
set_option maxRecDepth 100000 in
theorem zk_L_law_38 : zl_L_law_38.all (zgoodB zmt zm_L_law) = true := by decide +kernel
def zl_L_law_39 : List (Nat × zE) := [(606, .invokevirtual 70, 3, 138, 24626, 1946), (609, .pop, 1, 0, 0, 0), (610, .goto 451, 3, 1061, 0, 0), (613, .aload_n 1, 1, 0, 0, 0), (614, .aload_n 0, 1, 0, 0, 0), (615, .iload_n 3, 1, 0, 0, 0), (616, .iconst 1, 1, 0, 0, 0), (617, .iadd, 1, 0, 0, 0), (618, .iaload, 1, 0, 0, 0), (619, .invokevirtual 71, 3, 51, 20514, 1022)]
set_option maxRecDepth 100000 in
theorem zk_L_law_39 : zl_L_law_39.all (zgoodB zmt zm_L_law) = true := by decide +kernel
def zl_L_law_40 : List (Nat × zE) := [(622, .pop, 1, 0, 0, 0), (623, .aload_n 2, 1, 0, 0, 0), (624, .aload_n 0, 1, 0, 0, 0), (625, .iload_n 3, 1, 0, 0, 0), (626, .iconst 1, 1, 0, 0, 0), (627, .iadd, 1, 0, 0, 0), (628, .iaload, 1, 0, 0, 0), (629, .invokevirtual 74, 3, 139, 24626, 1956), (632, .pop, 1, 0, 0, 0), (633, .goto 428, 3, 1061, 0, 0)]
set_option maxRecDepth 100000 in
theorem zk_L_law_40 : zl_L_law_40.all (zgoodB zmt zm_L_law) = true := by decide +kernel
def zl_L_law_41 : List (Nat × zE) := [(636, .aload_n 1, 1, 0, 0, 0), (637, .aload_n 0, 1, 0, 0, 0), (638, .iload_n 3, 1, 0, 0, 0), (639, .iconst 1, 1, 0, 0, 0), (640, .iadd, 1, 0, 0, 0), (641, .iaload, 1, 0, 0, 0), (642, .invokevirtual 75, 3, 52, 20514, 1030), (645, .pop, 1, 0, 0, 0), (646, .aload_n 2, 1, 0, 0, 0), (647, .aload_n 0, 1, 0, 0, 0)]
set_option maxRecDepth 100000 in
theorem zk_L_law_41 : zl_L_law_41.all (zgoodB zmt zm_L_law) = true := by decide +kernel
def zl_L_law_42 : List (Nat × zE) := [(648, .iload_n 3, 1, 0, 0, 0), (649, .iconst 1, 1, 0, 0, 0), (650, .iadd, 1, 0, 0, 0), (651, .iaload, 1, 0, 0, 0), (652, .invokevirtual 78, 3, 140, 24626, 1966), (655, .pop, 1, 0, 0, 0), (656, .goto 405, 3, 1061, 0, 0), (659, .aload_n 1, 1, 0, 0, 0), (660, .aload_n 0, 1, 0, 0, 0), (661, .iload_n 3, 1, 0, 0, 0)]
set_option maxRecDepth 100000 in
theorem zk_L_law_42 : zl_L_law_42.all (zgoodB zmt zm_L_law) = true := by decide +kernel
def zl_L_law_43 : List (Nat × zE) := [(662, .iconst 1, 1, 0, 0, 0), (663, .iadd, 1, 0, 0, 0), (664, .iaload, 1, 0, 0, 0), (665, .aload_n 0, 1, 0, 0, 0), (666, .iload_n 3, 1, 0, 0, 0), (667, .iconst 2, 1, 0, 0, 0), (668, .iadd, 1, 0, 0, 0), (669, .iaload, 1, 0, 0, 0), (670, .invokevirtual 79, 3, 53, 20531, 1038), (673, .pop, 1, 0, 0, 0)]
set_option maxRecDepth 100000 in
theorem zk_L_law_43 : zl_L_law_43.all (zgoodB zmt zm_L_law) = true := by decide +kernel
def zl_L_law_44 : List (Nat × zE) := [(674, .aload_n 2, 1, 0, 0, 0), (675, .aload_n 0, 1, 0, 0, 0), (676, .iload_n 3, 1, 0, 0, 0), (677, .iconst 1, 1, 0, 0, 0), (678, .iadd, 1, 0, 0, 0), (679, .iaload, 1, 0, 0, 0), (680, .aload_n 0, 1, 0, 0, 0), (681, .iload_n 3, 1, 0, 0, 0), (682, .iconst 2, 1, 0, 0, 0), (683, .iadd, 1, 0, 0, 0)]
set_option maxRecDepth 100000 in
theorem zk_L_law_44 : zl_L_law_44.all (zgoodB zmt zm_L_law) = true := by decide +kernel
def zl_L_law_45 : List (Nat × zE) := [(684, .iaload, 1, 0, 0, 0), (685, .invokevirtual 82, 3, 147, 24739, 1974), (688, .pop, 1, 0, 0, 0), (689, .goto 372, 3, 1061, 0, 0), (692, .aload_n 1, 1, 0, 0, 0), (693, .aload_n 0, 1, 0, 0, 0), (694, .iload_n 3, 1, 0, 0, 0), (695, .iconst 1, 1, 0, 0, 0), (696, .iadd, 1, 0, 0, 0), (697, .iaload, 1, 0, 0, 0)]
set_option maxRecDepth 100000 in
theorem zk_L_law_45 : zl_L_law_45.all (zgoodB zmt zm_L_law) = true := by decide +kernel
def zl_L_law_46 : List (Nat × zE) := [(698, .aload_n 0, 1, 0, 0, 0), (699, .iload_n 3, 1, 0, 0, 0), (700, .iconst 2, 1, 0, 0, 0), (701, .iadd, 1, 0, 0, 0), (702, .iaload, 1, 0, 0, 0), (703, .invokevirtual 83, 3, 54, 20547, 1150), (706, .pop2, 1, 0, 0, 0), (707, .aload_n 2, 1, 0, 0, 0), (708, .aload_n 0, 1, 0, 0, 0), (709, .iload_n 3, 1, 0, 0, 0)]
set_option maxRecDepth 100000 in
theorem zk_L_law_46 : zl_L_law_46.all (zgoodB zmt zm_L_law) = true := by decide +kernel
def zl_L_law_47 : List (Nat × zE) := [(710, .iconst 1, 1, 0, 0, 0), (711, .iadd, 1, 0, 0, 0), (712, .iaload, 1, 0, 0, 0), (713, .aload_n 0, 1, 0, 0, 0), (714, .iload_n 3, 1, 0, 0, 0), (715, .iconst 2, 1, 0, 0, 0), (716, .iadd, 1, 0, 0, 0), (717, .iaload, 1, 0, 0, 0), (718, .invokevirtual 87, 3, 148, 24643, 2032), (721, .pop2, 1, 0, 0, 0)]
set_option maxRecDepth 100000 in
theorem zk_L_law_47 : zl_L_law_47.all (zgoodB zmt zm_L_law) = true := by decide +kernel
def zl_L_law_48 : List (Nat × zE) := [(722, .goto 339, 3, 1061, 0, 0), (725, .aload_n 1, 1, 0, 0, 0), (726, .aload_n 0, 1, 0, 0, 0), (727, .iload_n 3, 1, 0, 0, 0), (728, .iconst 1, 1, 0, 0, 0), (729, .iadd, 1, 0, 0, 0), (730, .iaload, 1, 0, 0, 0), (731, .invokevirtual 88, 3, 55, 20530, 1158), (734, .pop2, 1, 0, 0, 0), (735, .aload_n 2, 1, 0, 0, 0)]
set_option maxRecDepth 100000 in
theorem zk_L_law_48 : zl_L_law_48.all (zgoodB zmt zm_L_law) = true := by decide +kernel
def zl_L_law_49 : List (Nat × zE) := [(736, .aload_n 0, 1, 0, 0, 0), (737, .iload_n 3, 1, 0, 0, 0), (738, .iconst 1, 1, 0, 0, 0), (739, .iadd, 1, 0, 0, 0), (740, .iaload, 1, 0, 0, 0), (741, .invokevirtual 92, 3, 150, 24770, 2046), (744, .pop2, 1, 0, 0, 0), (745, .goto 316, 3, 1061, 0, 0), (748, .aload_n 1, 1, 0, 0, 0), (749, .aload_n 0, 1, 0, 0, 0)]
set_option maxRecDepth 100000 in
theorem zk_L_law_49 : zl_L_law_49.all (zgoodB zmt zm_L_law) = true := by decide +kernel
def zl_L_law_50 : List (Nat × zE) := [(750, .iload_n 3, 1, 0, 0, 0), (751, .iconst 1, 1, 0, 0, 0), (752, .iadd, 1, 0, 0, 0), (753, .iaload, 1, 0, 0, 0), (754, .aload_n 0, 1, 0, 0, 0), (755, .iload_n 3, 1, 0, 0, 0), (756, .iconst 2, 1, 0, 0, 0), (757, .iadd, 1, 0, 0, 0), (758, .iaload, 1, 0, 0, 0), (759, .invokevirtual 93, 3, 56, 20531, 1166)]
set_option maxRecDepth 100000 in
theorem zk_L_law_50 : zl_L_law_50.all (zgoodB zmt zm_L_law) = true := by decide +kernel
def zl_L_law_51 : List (Nat × zE) := [(762, .pop2, 1, 0, 0, 0), (763, .aload_n 2, 1, 0, 0, 0), (764, .aload_n 0, 1, 0, 0, 0), (765, .iload_n 3, 1, 0, 0, 0), (766, .iconst 1, 1, 0, 0, 0), (767, .iadd, 1, 0, 0, 0), (768, .iaload, 1, 0, 0, 0), (769, .aload_n 0, 1, 0, 0, 0), (770, .iload_n 3, 1, 0, 0, 0), (771, .iconst 2, 1, 0, 0, 0)]
set_option maxRecDepth 100000 in
theorem zk_L_law_51 : zl_L_law_51.all (zgoodB zmt zm_L_law) = true := by decide +kernel
def zl_L_law_52 : List (Nat × zE) := [(772, .iadd, 1, 0, 0, 0), (773, .iaload, 1, 0, 0, 0), (774, .invokevirtual 96, 3, 152, 24771, 2060), (777, .pop2, 1, 0, 0, 0), (778, .goto 283, 3, 1061, 0, 0), (781, .aload_n 1, 1, 0, 0, 0), (782, .aload_n 0, 1, 0, 0, 0), (783, .iload_n 3, 1, 0, 0, 0), (784, .iconst 1, 1, 0, 0, 0), (785, .iadd, 1, 0, 0, 0)]
set_option maxRecDepth 100000 in
theorem zk_L_law_52 : zl_L_law_52.all (zgoodB zmt zm_L_law) = true := by decide +kernel
def zl_L_law_53 : List (Nat × zE) := [(786, .iaload, 1, 0, 0, 0), (787, .aload_n 0, 1, 0, 0, 0), (788, .iload_n 3, 1, 0, 0, 0), (789, .iconst 2, 1, 0, 0, 0), (790, .iadd, 1, 0, 0, 0), (791, .iaload, 1, 0, 0, 0), (792, .aload_n 0, 1, 0, 0, 0), (793, .iload_n 3, 1, 0, 0, 0), (794, .iconst 3, 1, 0, 0, 0), (795, .iadd, 1, 0, 0, 0)]
set_option maxRecDepth 100000 in
theorem zk_L_law_53 : zl_L_law_53.all (zgoodB zmt zm_L_law) = true := by decide +kernel
def zl_L_law_54 : List (Nat × zE) := [(796, .iaload, 1, 0, 0, 0), (797, .invokevirtual 97, 3, 57, 20548, 1200), (800, .pop, 1, 0, 0, 0), (801, .aload_n 2, 1, 0, 0, 0), (802, .aload_n 0, 1, 0, 0, 0), (803, .iload_n 3, 1, 0, 0, 0), (804, .iconst 1, 1, 0, 0, 0), (805, .iadd, 1, 0, 0, 0), (806, .iaload, 1, 0, 0, 0), (807, .aload_n 0, 1, 0, 0, 0)]
set_option maxRecDepth 100000 in
theorem zk_L_law_54 : zl_L_law_54.all (zgoodB zmt zm_L_law) = true := by decide +kernel
def zl_L_law_55 : List (Nat × zE) := [(808, .iload_n 3, 1, 0, 0, 0), (809, .iconst 2, 1, 0, 0, 0), (810, .iadd, 1, 0, 0, 0), (811, .iaload, 1, 0, 0, 0), (812, .aload_n 0, 1, 0, 0, 0), (813, .iload_n 3, 1, 0, 0, 0), (814, .iconst 3, 1, 0, 0, 0), (815, .iadd, 1, 0, 0, 0), (816, .iaload, 1, 0, 0, 0), (817, .invokevirtual 100, 3, 153, 24660, 2076)]
set_option maxRecDepth 100000 in
theorem zk_L_law_55 : zl_L_law_55.all (zgoodB zmt zm_L_law) = true := by decide +kernel
def zl_L_law_56 : List (Nat × zE) := [(820, .pop, 1, 0, 0, 0), (821, .goto 240, 3, 1061, 0, 0), (824, .aload_n 1, 1, 0, 0, 0), (825, .aload_n 0, 1, 0, 0, 0), (826, .iload_n 3, 1, 0, 0, 0), (827, .iconst 1, 1, 0, 0, 0), (828, .iadd, 1, 0, 0, 0), (829, .iaload, 1, 0, 0, 0), (830, .invokevirtual 101, 3, 58, 20514, 1222), (833, .pop, 1, 0, 0, 0)]
set_option maxRecDepth 100000 in
theorem zk_L_law_56 : zl_L_law_56.all (zgoodB zmt zm_L_law) = true := by decide +kernel
def zl_L_law_57 : List (Nat × zE) := [(834, .aload_n 2, 1, 0, 0, 0), (835, .aload_n 0, 1, 0, 0, 0), (836, .iload_n 3, 1, 0, 0, 0), (837, .iconst 1, 1, 0, 0, 0), (838, .iadd, 1, 0, 0, 0), (839, .iaload, 1, 0, 0, 0), (840, .invokevirtual 104, 3, 154, 24626, 2084), (843, .pop, 1, 0, 0, 0), (844, .goto 217, 3, 1061, 0, 0), (847, .aload_n 1, 1, 0, 0, 0)]
set_option maxRecDepth 100000 in
theorem zk_L_law_57 : zl_L_law_57.all (zgoodB zmt zm_L_law) = true := by decide +kernel
def zl_L_law_58 : List (Nat × zE) := [(848, .aload_n 0, 1, 0, 0, 0), (849, .iload_n 3, 1, 0, 0, 0), (850, .iconst 1, 1, 0, 0, 0), (851, .iadd, 1, 0, 0, 0), (852, .iaload, 1, 0, 0, 0), (853, .aload_n 0, 1, 0, 0, 0), (854, .iload_n 3, 1, 0, 0, 0), (855, .iconst 2, 1, 0, 0, 0), (856, .iadd, 1, 0, 0, 0), (857, .iaload, 1, 0, 0, 0)]
set_option maxRecDepth 100000 in
theorem zk_L_law_58 : zl_L_law_58.all (zgoodB zmt zm_L_law) = true := by decide +kernel
def zl_L_law_59 : List (Nat × zE) := [(858, .aload_n 0, 1, 0, 0, 0), (859, .iload_n 3, 1, 0, 0, 0), (860, .iconst 3, 1, 0, 0, 0), (861, .iadd, 1, 0, 0, 0), (862, .iaload, 1, 0, 0, 0), (863, .invokevirtual 105, 3, 59, 20564, 1238), (866, .pop, 1, 0, 0, 0), (867, .aload_n 2, 1, 0, 0, 0), (868, .aload_n 0, 1, 0, 0, 0), (869, .iload_n 3, 1, 0, 0, 0)]
set_option maxRecDepth 100000 in
theorem zk_L_law_59 : zl_L_law_59.all (zgoodB zmt zm_L_law) = true := by decide +kernel
def zl_L_law_60 : List (Nat × zE) := [(870, .iconst 1, 1, 0, 0, 0), (871, .iadd, 1, 0, 0, 0), (872, .iaload, 1, 0, 0, 0), (873, .aload_n 0, 1, 0, 0, 0), (874, .iload_n 3, 1, 0, 0, 0), (875, .iconst 2, 1, 0, 0, 0), (876, .iadd, 1, 0, 0, 0), (877, .iaload, 1, 0, 0, 0), (878, .aload_n 0, 1, 0, 0, 0), (879, .iload_n 3, 1, 0, 0, 0)]
set_option maxRecDepth 100000 in
theorem zk_L_law_60 : zl_L_law_60.all (zgoodB zmt zm_L_law) = true := by decide +kernel
def zl_L_law_61 : List (Nat × zE) := [(880, .iconst 3, 1, 0, 0, 0), (881, .iadd, 1, 0, 0, 0), (882, .iaload, 1, 0, 0, 0), (883, .invokevirtual 108, 3, 155, 24644, 2092), (886, .pop, 1, 0, 0, 0), (887, .goto 174, 3, 1061, 0, 0), (890, .aload_n 1, 1, 0, 0, 0), (891, .aload_n 0, 1, 0, 0, 0), (892, .iload_n 3, 1, 0, 0, 0), (893, .iconst 1, 1, 0, 0, 0)]
set_option maxRecDepth 100000 in
theorem zk_L_law_61 : zl_L_law_61.all (zgoodB zmt zm_L_law) = true := by decide +kernel
def zl_L_law_62 : List (Nat × zE) := [(894, .iadd, 1, 0, 0, 0), (895, .iaload, 1, 0, 0, 0), (896, .aload_n 0, 1, 0, 0, 0), (897, .iload_n 3, 1, 0, 0, 0), (898, .iconst 2, 1, 0, 0, 0), (899, .iadd, 1, 0, 0, 0), (900, .iaload, 1, 0, 0, 0), (901, .aload_n 0, 1, 0, 0, 0), (902, .iload_n 3, 1, 0, 0, 0), (903, .iconst 3, 1, 0, 0, 0)]
set_option maxRecDepth 100000 in
theorem zk_L_law_62 : zl_L_law_62.all (zgoodB zmt zm_L_law) = true := by decide +kernel
def zl_L_law_63 : List (Nat × zE) := [(904, .iadd, 1, 0, 0, 0), (905, .iaload, 1, 0, 0, 0), (906, .invokevirtual 109, 3, 60, 20580, 1254), (909, .pop2, 1, 0, 0, 0), (910, .aload_n 2, 1, 0, 0, 0), (911, .aload_n 0, 1, 0, 0, 0), (912, .iload_n 3, 1, 0, 0, 0), (913, .iconst 1, 1, 0, 0, 0), (914, .iadd, 1, 0, 0, 0), (915, .iaload, 1, 0, 0, 0)]
set_option maxRecDepth 100000 in
theorem zk_L_law_63 : zl_L_law_63.all (zgoodB zmt zm_L_law) = true := by decide +kernel
def zl_L_law_64 : List (Nat × zE) := [(916, .aload_n 0, 1, 0, 0, 0), (917, .iload_n 3, 1, 0, 0, 0), (918, .iconst 2, 1, 0, 0, 0), (919, .iadd, 1, 0, 0, 0), (920, .iaload, 1, 0, 0, 0), (921, .aload_n 0, 1, 0, 0, 0), (922, .iload_n 3, 1, 0, 0, 0), (923, .iconst 3, 1, 0, 0, 0), (924, .iadd, 1, 0, 0, 0), (925, .iaload, 1, 0, 0, 0)]
set_option maxRecDepth 100000 in
theorem zk_L_law_64 : zl_L_law_64.all (zgoodB zmt zm_L_law) = true := by decide +kernel
def zl_L_law_65 : List (Nat × zE) := [(926, .invokevirtual 112, 3, 156, 24644, 2100), (929, .pop2, 1, 0, 0, 0), (930, .goto 131, 3, 1061, 0, 0), (933, .aload_n 1, 1, 0, 0, 0), (934, .aload_n 0, 1, 0, 0, 0), (935, .iload_n 3, 1, 0, 0, 0), (936, .iconst 1, 1, 0, 0, 0), (937, .iadd, 1, 0, 0, 0), (938, .iaload, 1, 0, 0, 0), (939, .invokevirtual 113, 3, 61, 20514, 1268)]
set_option maxRecDepth 100000 in
theorem zk_L_law_65 : zl_L_law_65.all (zgoodB zmt zm_L_law) = true := by decide +kernel
def zl_L_law_66 : List (Nat × zE) := [(942, .pop, 1, 0, 0, 0), (943, .aload_n 2, 1, 0, 0, 0), (944, .aload_n 0, 1, 0, 0, 0), (945, .iload_n 3, 1, 0, 0, 0), (946, .iconst 1, 1, 0, 0, 0), (947, .iadd, 1, 0, 0, 0), (948, .iaload, 1, 0, 0, 0), (949, .invokevirtual 116, 3, 158, 24626, 2116), (952, .pop, 1, 0, 0, 0), (953, .goto 108, 3, 1061, 0, 0)]
set_option maxRecDepth 100000 in
theorem zk_L_law_66 : zl_L_law_66.all (zgoodB zmt zm_L_law) = true := by decide +kernel
def zl_L_law_67 : List (Nat × zE) := [(956, .aload_n 1, 1, 0, 0, 0), (957, .aload_n 0, 1, 0, 0, 0), (958, .iload_n 3, 1, 0, 0, 0), (959, .iconst 1, 1, 0, 0, 0), (960, .iadd, 1, 0, 0, 0), (961, .iaload, 1, 0, 0, 0), (962, .invokevirtual 117, 3, 62, 20514, 1316), (965, .pop, 1, 0, 0, 0), (966, .aload_n 2, 1, 0, 0, 0), (967, .aload_n 0, 1, 0, 0, 0)]
set_option maxRecDepth 100000 in
theorem zk_L_law_67 : zl_L_law_67.all (zgoodB zmt zm_L_law) = true := by decide +kernel
def zl_L_law_68 : List (Nat × zE) := [(968, .iload_n 3, 1, 0, 0, 0), (969, .iconst 1, 1, 0, 0, 0), (970, .iadd, 1, 0, 0, 0), (971, .iaload, 1, 0, 0, 0), (972, .invokevirtual 120, 3, 159, 24626, 2132), (975, .pop, 1, 0, 0, 0), (976, .goto 85, 3, 1061, 0, 0), (979, .aload_n 1, 1, 0, 0, 0), (980, .aload_n 0, 1, 0, 0, 0), (981, .iload_n 3, 1, 0, 0, 0)]
set_option maxRecDepth 100000 in
theorem zk_L_law_68 : zl_L_law_68.all (zgoodB zmt zm_L_law) = true := by decide +kernel
def zl_L_law_69 : List (Nat × zE) := [(982, .iconst 1, 1, 0, 0, 0), (983, .iadd, 1, 0, 0, 0), (984, .iaload, 1, 0, 0, 0), (985, .aload_n 0, 1, 0, 0, 0), (986, .iload_n 3, 1, 0, 0, 0), (987, .iconst 2, 1, 0, 0, 0), (988, .iadd, 1, 0, 0, 0), (989, .iaload, 1, 0, 0, 0), (990, .invokevirtual 121, 3, 63, 20563, 1340), (993, .pop, 1, 0, 0, 0)]
set_option maxRecDepth 100000 in
theorem zk_L_law_69 : zl_L_law_69.all (zgoodB zmt zm_L_law) = true := by decide +kernel
def zl_L_law_70 : List (Nat × zE) := [(994, .aload_n 2, 1, 0, 0, 0), (995, .aload_n 0, 1, 0, 0, 0), (996, .iload_n 3, 1, 0, 0, 0), (997, .iconst 1, 1, 0, 0, 0), (998, .iadd, 1, 0, 0, 0), (999, .iaload, 1, 0, 0, 0), (1000, .aload_n 0, 1, 0, 0, 0), (1001, .iload_n 3, 1, 0, 0, 0), (1002, .iconst 2, 1, 0, 0, 0), (1003, .iadd, 1, 0, 0, 0)]
set_option maxRecDepth 100000 in
theorem zk_L_law_70 : zl_L_law_70.all (zgoodB zmt zm_L_law) = true := by decide +kernel
def zl_L_law_71 : List (Nat × zE) := [(1004, .iaload, 1, 0, 0, 0), (1005, .invokevirtual 124, 3, 160, 24643, 2140), (1008, .pop, 1, 0, 0, 0), (1009, .goto 52, 3, 1061, 0, 0), (1012, .aload_n 1, 1, 0, 0, 0), (1013, .invokevirtual 125, 3, 64, 20497, 1348), (1016, .pop, 1, 0, 0, 0), (1017, .aload_n 2, 1, 0, 0, 0), (1018, .invokevirtual 128, 3, 161, 24593, 2148), (1021, .pop, 1, 0, 0, 0)]
set_option maxRecDepth 100000 in
theorem zk_L_law_71 : zl_L_law_71.all (zgoodB zmt zm_L_law) = true := by decide +kernel
def zl_L_law_72 : List (Nat × zE) := [(1022, .goto 39, 3, 1061, 0, 0), (1025, .aload_n 1, 1, 0, 0, 0), (1026, .invokevirtual 129, 3, 65, 20497, 1356), (1029, .pop, 1, 0, 0, 0), (1030, .aload_n 2, 1, 0, 0, 0), (1031, .invokevirtual 132, 3, 162, 24593, 2156), (1034, .pop, 1, 0, 0, 0), (1035, .goto 26, 3, 1061, 0, 0), (1038, .aload_n 1, 1, 0, 0, 0), (1039, .aload_n 0, 1, 0, 0, 0)]
set_option maxRecDepth 100000 in
theorem zk_L_law_72 : zl_L_law_72.all (zgoodB zmt zm_L_law) = true := by decide +kernel
def zl_L_law_73 : List (Nat × zE) := [(1040, .iload_n 3, 1, 0, 0, 0), (1041, .iconst 1, 1, 0, 0, 0), (1042, .iadd, 1, 0, 0, 0), (1043, .iaload, 1, 0, 0, 0), (1044, .invokevirtual 133, 3, 66, 20514, 1364), (1047, .aload_n 2, 1, 0, 0, 0), (1048, .aload_n 0, 1, 0, 0, 0), (1049, .iload_n 3, 1, 0, 0, 0), (1050, .iconst 1, 1, 0, 0, 0), (1051, .iadd, 1, 0, 0, 0)]
set_option maxRecDepth 100000 in
theorem zk_L_law_73 : zl_L_law_73.all (zgoodB zmt zm_L_law) = true := by decide +kernel
def zl_L_law_74 : List (Nat × zE) := [(1052, .iaload, 1, 0, 0, 0), (1053, .invokevirtual 136, 3, 163, 24642, 2164), (1056, .if_icmp .eq 5, 3, 1061, 0, 0), (1059, .iconst 0, 1, 0, 0, 0), (1060, .ireturn, 1, 1, 0, 0), (1061, .iinc 3 5, 3, 0, 0, 0), (1064, .goto (-1046), 3, 18, 0, 0), (1067, .iconst 1, 1, 0, 0, 0), (1068, .ireturn, 1, 1, 0, 0)]
set_option maxRecDepth 100000 in
theorem zk_L_law_74 : zl_L_law_74.all (zgoodB zmt zm_L_law) = true := by decide +kernel
def zp_L_law : Nat → Option zE := (ztr 580 (ztr 346 (ztr 240 (ztr 184 (ztr 31 (ztr 18 (zlf zl_L_law_0) (zlf zl_L_law_1)) (ztr 172 (zlf zl_L_law_2) (zlf zl_L_law_3))) (ztr 208 (ztr 194 (zlf zl_L_law_4) (zlf zl_L_law_5)) (ztr 218 (zlf zl_L_law_6) (ztr 230 (zlf zl_L_law_7) (zlf zl_L_law_8))))) (ztr 286 (ztr 264 (ztr 254 (zlf zl_L_law_9) (zlf zl_L_law_10)) (ztr 276 (zlf zl_L_law_11) (zlf zl_L_law_12))) (ztr 312 (ztr 300 (zlf zl_L_law_13) (zlf zl_L_law_14)) (ztr 322 (zlf zl_L_law_15) (ztr 336 (zlf zl_L_law_16) (zlf zl_L_law_17)))))) (ztr 454 (ztr 392 (ztr 368 (ztr 356 (zlf zl_L_law_18) (zlf zl_L_law_19)) (ztr 378 (zlf zl_L_law_20) (zlf zl_L_law_21))) (ztr 418 (ztr 404 (zlf zl_L_law_22) (zlf zl_L_law_23)) (ztr 430 (zlf zl_L_law_24) (ztr 442 (zlf zl_L_law_25) (zlf zl_L_law_26))))) (ztr 512 (ztr 476 (ztr 466 (zlf zl_L_law_27) (zlf zl_L_law_28)) (ztr 490 (zlf zl_L_law_29) (ztr 500 (zlf zl_L_law_30) (zlf zl_L_law_31)))) (ztr 540 (ztr 522 (zlf zl_L_law_32) (zlf zl_L_law_33)) (ztr 554 (zlf zl_L_law_34) (ztr 568 (zlf zl_L_law_35) (zlf zl_L_law_36))))))) (ztr 820 (ztr 698 (ztr 636 (ztr 606 (ztr 594 (zlf zl_L_law_37) (zlf zl_L_law_38)) (ztr 622 (zlf zl_L_law_39) (zlf zl_L_law_40))) (ztr 662 (ztr 648 (zlf zl_L_law_41) (zlf zl_L_law_42)) (ztr 674 (zlf zl_L_law_43) (ztr 684 (zlf zl_L_law_44) (zlf zl_L_law_45))))) (ztr 762 (ztr 722 (ztr 710 (zlf zl_L_law_46) (zlf zl_L_law_47)) (ztr 736 (zlf zl_L_law_48) (ztr 750 (zlf zl_L_law_49) (zlf zl_L_law_50)))) (ztr 786 (ztr 772 (zlf zl_L_law_51) (zlf zl_L_law_52)) (ztr 796 (zlf zl_L_law_53) (ztr 808 (zlf zl_L_law_54) (zlf zl_L_law_55)))))) (ztr 926 (ztr 870 (ztr 848 (ztr 834 (zlf zl_L_law_56) (zlf zl_L_law_57)) (ztr 858 (zlf zl_L_law_58) (zlf zl_L_law_59))) (ztr 894 (ztr 880 (zlf zl_L_law_60) (zlf zl_L_law_61)) (ztr 904 (zlf zl_L_law_62) (ztr 916 (zlf zl_L_law_63) (zlf zl_L_law_64))))) (ztr 994 (ztr 956 (ztr 942 (zlf zl_L_law_65) (zlf zl_L_law_66)) (ztr 968 (zlf zl_L_law_67) (ztr 982 (zlf zl_L_law_68) (zlf zl_L_law_69)))) (ztr 1022 (ztr 1004 (zlf zl_L_law_70) (zlf zl_L_law_71)) (ztr 1040 (zlf zl_L_law_72) (ztr 1052 (zlf zl_L_law_73) (zlf zl_L_law_74))))))))
theorem za_L_law : zall (zgood zmt zm_L_law) zp_L_law := (zall_tr (zall_tr (zall_tr (zall_tr (zall_tr (zall_tr (zall_lf zl_L_law_0 zk_L_law_0) (zall_lf zl_L_law_1 zk_L_law_1)) (zall_tr (zall_lf zl_L_law_2 zk_L_law_2) (zall_lf zl_L_law_3 zk_L_law_3))) (zall_tr (zall_tr (zall_lf zl_L_law_4 zk_L_law_4) (zall_lf zl_L_law_5 zk_L_law_5)) (zall_tr (zall_lf zl_L_law_6 zk_L_law_6) (zall_tr (zall_lf zl_L_law_7 zk_L_law_7) (zall_lf zl_L_law_8 zk_L_law_8))))) (zall_tr (zall_tr (zall_tr (zall_lf zl_L_law_9 zk_L_law_9) (zall_lf zl_L_law_10 zk_L_law_10)) (zall_tr (zall_lf zl_L_law_11 zk_L_law_11) (zall_lf zl_L_law_12 zk_L_law_12))) (zall_tr (zall_tr (zall_lf zl_L_law_13 zk_L_law_13) (zall_lf zl_L_law_14 zk_L_law_14)) (zall_tr (zall_lf zl_L_law_15 zk_L_law_15) (zall_tr (zall_lf zl_L_law_16 zk_L_law_16) (zall_lf zl_L_law_17 zk_L_law_17)))))) (zall_tr (zall_tr (zall_tr (zall_tr (zall_lf zl_L_law_18 zk_L_law_18) (zall_lf zl_L_law_19 zk_L_law_19)) (zall_tr (zall_lf zl_L_law_20 zk_L_law_20) (zall_lf zl_L_law_21 zk_L_law_21))) (zall_tr (zall_tr (zall_lf zl_L_law_22 zk_L_law_22) (zall_lf zl_L_law_23 zk_L_law_23)) (zall_tr (zall_lf zl_L_law_24 zk_L_law_24) (zall_tr (zall_lf zl_L_law_25 zk_L_law_25) (zall_lf zl_L_law_26 zk_L_law_26))))) (zall_tr (zall_tr (zall_tr (zall_lf zl_L_law_27 zk_L_law_27) (zall_lf zl_L_law_28 zk_L_law_28)) (zall_tr (zall_lf zl_L_law_29 zk_L_law_29) (zall_tr (zall_lf zl_L_law_30 zk_L_law_30) (zall_lf zl_L_law_31 zk_L_law_31)))) (zall_tr (zall_tr (zall_lf zl_L_law_32 zk_L_law_32) (zall_lf zl_L_law_33 zk_L_law_33)) (zall_tr (zall_lf zl_L_law_34 zk_L_law_34) (zall_tr (zall_lf zl_L_law_35 zk_L_law_35) (zall_lf zl_L_law_36 zk_L_law_36))))))) (zall_tr (zall_tr (zall_tr (zall_tr (zall_tr (zall_lf zl_L_law_37 zk_L_law_37) (zall_lf zl_L_law_38 zk_L_law_38)) (zall_tr (zall_lf zl_L_law_39 zk_L_law_39) (zall_lf zl_L_law_40 zk_L_law_40))) (zall_tr (zall_tr (zall_lf zl_L_law_41 zk_L_law_41) (zall_lf zl_L_law_42 zk_L_law_42)) (zall_tr (zall_lf zl_L_law_43 zk_L_law_43) (zall_tr (zall_lf zl_L_law_44 zk_L_law_44) (zall_lf zl_L_law_45 zk_L_law_45))))) (zall_tr (zall_tr (zall_tr (zall_lf zl_L_law_46 zk_L_law_46) (zall_lf zl_L_law_47 zk_L_law_47)) (zall_tr (zall_lf zl_L_law_48 zk_L_law_48) (zall_tr (zall_lf zl_L_law_49 zk_L_law_49) (zall_lf zl_L_law_50 zk_L_law_50)))) (zall_tr (zall_tr (zall_lf zl_L_law_51 zk_L_law_51) (zall_lf zl_L_law_52 zk_L_law_52)) (zall_tr (zall_lf zl_L_law_53 zk_L_law_53) (zall_tr (zall_lf zl_L_law_54 zk_L_law_54) (zall_lf zl_L_law_55 zk_L_law_55)))))) (zall_tr (zall_tr (zall_tr (zall_tr (zall_lf zl_L_law_56 zk_L_law_56) (zall_lf zl_L_law_57 zk_L_law_57)) (zall_tr (zall_lf zl_L_law_58 zk_L_law_58) (zall_lf zl_L_law_59 zk_L_law_59))) (zall_tr (zall_tr (zall_lf zl_L_law_60 zk_L_law_60) (zall_lf zl_L_law_61 zk_L_law_61)) (zall_tr (zall_lf zl_L_law_62 zk_L_law_62) (zall_tr (zall_lf zl_L_law_63 zk_L_law_63) (zall_lf zl_L_law_64 zk_L_law_64))))) (zall_tr (zall_tr (zall_tr (zall_lf zl_L_law_65 zk_L_law_65) (zall_lf zl_L_law_66 zk_L_law_66)) (zall_tr (zall_lf zl_L_law_67 zk_L_law_67) (zall_tr (zall_lf zl_L_law_68 zk_L_law_68) (zall_lf zl_L_law_69 zk_L_law_69)))) (zall_tr (zall_tr (zall_lf zl_L_law_70 zk_L_law_70) (zall_lf zl_L_law_71 zk_L_law_71)) (zall_tr (zall_lf zl_L_law_72 zk_L_law_72) (zall_tr (zall_lf zl_L_law_73 zk_L_law_73) (zall_lf zl_L_law_74 zk_L_law_74))))))))
