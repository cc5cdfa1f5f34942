/-! ===== the code table, 1 ===== -/
def zl_X3_has_0 : List (Nat × zE) := [(0, .iload_n 1, 1, 0, 0, 0), (1, .ifCond .lt 15, 3, 16, 0, 0), (4, .iload_n 1, 1, 0, 0, 0), (5, .aload_n 0, 1, 0, 0, 0), (6, .getfield 21, 3, 3, 3, 81), (9, .if_icmp .ge 7, 3, 16, 0, 0), (12, .iconst 1, 1, 0, 0, 0), (13, .goto 4, 3, 17, 0, 0), (16, .iconst 0, 1, 0, 0, 0), (17, .ireturn, 1, 1, 0, 0)]
set_option maxRecDepth 100000 in
theorem zk_X3_has_0 : zl_X3_has_0.all (zgoodB zmt zm_X3_has) = true := by decide +kernel
def zp_X3_has : Nat → Option zE := (zlf zl_X3_has_0)
theorem za_X3_has : zall (zgood zmt zm_X3_has) zp_X3_has := (zall_lf zl_X3_has_0 zk_X3_has_0)
def zl_X3_isWithin_0 : List (Nat × zE) := [(0, .aload_n 0, 1, 0, 0, 0), (1, .getfield 9, 3, 3, 0, 75), (4, .aload_n 0, 1, 0, 0, 0), (5, .getfield 15, 3, 3, 1, 77), (8, .aload_n 0, 1, 0, 0, 0), (9, .getfield 24, 3, 3, 4, 83), (12, .iload_n 1, 1, 0, 0, 0), (13, .iaload, 1, 0, 0, 0), (14, .aload_n 0, 1, 0, 0, 0), (15, .getfield 28, 3, 3, 5, 85)]
set_option maxRecDepth 100000 in
theorem zk_X3_isWithin_0 : zl_X3_isWithin_0.all (zgoodB zmt zm_X3_isWithin) = true := by decide +kernel
def zl_X3_isWithin_1 : List (Nat × zE) := [(18, .iload_n 1, 1, 0, 0, 0), (19, .iaload, 1, 0, 0, 0), (20, .invokestatic 44, 3, 72, 20548, 871), (23, .ireturn, 1, 1, 0, 0)]
set_option maxRecDepth 100000 in
theorem zk_X3_isWithin_1 : zl_X3_isWithin_1.all (zgoodB zmt zm_X3_isWithin) = true := by decide +kernel
def zp_X3_isWithin : Nat → Option zE := (ztr 18 (zlf zl_X3_isWithin_0) (zlf zl_X3_isWithin_1))
theorem za_X3_isWithin : zall (zgood zmt zm_X3_isWithin) zp_X3_isWithin := (zall_tr (zall_lf zl_X3_isWithin_0 zk_X3_isWithin_0) (zall_lf zl_X3_isWithin_1 zk_X3_isWithin_1))
def zl_X3_numberOf_0 : List (Nat × zE) := [(0, .iconst 0, 1, 0, 0, 0), (1, .istore_n 3, 1, 0, 0, 0), (2, .iload_n 3, 1, 0, 0, 0), (3, .aload_n 0, 1, 0, 0, 0), (4, .getfield 21, 3, 3, 3, 81), (7, .if_icmp .ge 31, 3, 38, 0, 0), (10, .aload_n 0, 1, 0, 0, 0), (11, .getfield 24, 3, 3, 4, 83), (14, .iload_n 3, 1, 0, 0, 0), (15, .iaload, 1, 0, 0, 0)]
set_option maxRecDepth 100000 in
theorem zk_X3_numberOf_0 : zl_X3_numberOf_0.all (zgoodB zmt zm_X3_numberOf) = true := by decide +kernel
def zl_X3_numberOf_1 : List (Nat × zE) := [(16, .iload_n 1, 1, 0, 0, 0), (17, .if_icmp .ne 15, 3, 32, 0, 0), (20, .aload_n 0, 1, 0, 0, 0), (21, .getfield 28, 3, 3, 5, 85), (24, .iload_n 3, 1, 0, 0, 0), (25, .iaload, 1, 0, 0, 0), (26, .iload_n 2, 1, 0, 0, 0), (27, .if_icmp .ne 5, 3, 32, 0, 0), (30, .iload_n 3, 1, 0, 0, 0), (31, .ireturn, 1, 0, 0, 0)]
set_option maxRecDepth 100000 in
theorem zk_X3_numberOf_1 : zl_X3_numberOf_1.all (zgoodB zmt zm_X3_numberOf) = true := by decide +kernel
def zl_X3_numberOf_2 : List (Nat × zE) := [(32, .iinc 3 1, 3, 0, 0, 0), (35, .goto (-33), 3, 2, 0, 0), (38, .iconst (-1), 1, 0, 0, 0), (39, .ireturn, 1, 0, 0, 0)]
set_option maxRecDepth 100000 in
theorem zk_X3_numberOf_2 : zl_X3_numberOf_2.all (zgoodB zmt zm_X3_numberOf) = true := by decide +kernel
def zp_X3_numberOf : Nat → Option zE := (ztr 16 (zlf zl_X3_numberOf_0) (ztr 32 (zlf zl_X3_numberOf_1) (zlf zl_X3_numberOf_2)))
theorem za_X3_numberOf : zall (zgood zmt zm_X3_numberOf) zp_X3_numberOf := (zall_tr (zall_lf zl_X3_numberOf_0 zk_X3_numberOf_0) (zall_tr (zall_lf zl_X3_numberOf_1 zk_X3_numberOf_1) (zall_lf zl_X3_numberOf_2 zk_X3_numberOf_2)))
def zl_X3_refusalOutside_0 : List (Nat × zE) := [(0, .iload_n 1, 1, 0, 0, 0), (1, .bipush (-24), 2, 0, 0, 0), (3, .bipush 24, 2, 0, 0, 0), (5, .invokestatic 48, 3, 67, 20531, 685), (8, .ifCond .eq 14, 3, 22, 0, 0), (11, .iload_n 2, 1, 0, 0, 0), (12, .bipush (-24), 2, 0, 0, 0), (14, .bipush 24, 2, 0, 0, 0), (16, .invokestatic 48, 3, 67, 20531, 685), (19, .ifCond .ne 6, 3, 25, 0, 0)]
set_option maxRecDepth 100000 in
theorem zk_X3_refusalOutside_0 : zl_X3_refusalOutside_0.all (zgoodB zmt zm_X3_refusalOutside) = true := by decide +kernel
def zl_X3_refusalOutside_1 : List (Nat × zE) := [(22, .bipush (-2), 2, 0, 0, 0), (24, .ireturn, 1, 0, 0, 0), (25, .iload_n 3, 1, 0, 0, 0), (26, .sipush (-10000), 3, 0, 0, 0), (29, .sipush 10000, 3, 0, 0, 0), (32, .invokestatic 48, 3, 67, 20531, 685), (35, .ifCond .ne 6, 3, 41, 0, 0), (38, .bipush (-2), 2, 0, 0, 0), (40, .ireturn, 1, 0, 0, 0), (41, .aload_n 0, 1, 0, 0, 0)]
set_option maxRecDepth 100000 in
theorem zk_X3_refusalOutside_1 : zl_X3_refusalOutside_1.all (zgoodB zmt zm_X3_refusalOutside) = true := by decide +kernel
def zl_X3_refusalOutside_2 : List (Nat × zE) := [(42, .iload_n 1, 1, 0, 0, 0), (43, .iload_n 2, 1, 0, 0, 0), (44, .invokevirtual 52, 3, 24, 12355, 686), (47, .istore 4, 2, 0, 0, 0), (49, .iload 4, 2, 0, 0, 0), (51, .iconst (-1), 1, 0, 0, 0), (52, .if_icmp .ne 7, 3, 59, 0, 0), (55, .iload_n 3, 1, 0, 0, 0), (56, .goto 12, 3, 68, 0, 0), (59, .aload_n 0, 1, 0, 0, 0)]
set_option maxRecDepth 100000 in
theorem zk_X3_refusalOutside_2 : zl_X3_refusalOutside_2.all (zgoodB zmt zm_X3_refusalOutside) = true := by decide +kernel
def zl_X3_refusalOutside_3 : List (Nat × zE) := [(60, .getfield 31, 3, 3, 6, 87), (63, .iload 4, 2, 0, 0, 0), (65, .iaload, 1, 0, 0, 0), (66, .iload_n 3, 1, 0, 0, 0), (67, .iadd, 1, 0, 0, 0), (68, .istore 5, 2, 0, 0, 0), (70, .iload 5, 2, 0, 0, 0), (72, .sipush (-10000), 3, 0, 0, 0), (75, .sipush 10000, 3, 0, 0, 0), (78, .invokestatic 48, 3, 67, 20531, 685)]
set_option maxRecDepth 100000 in
theorem zk_X3_refusalOutside_3 : zl_X3_refusalOutside_3.all (zgoodB zmt zm_X3_refusalOutside) = true := by decide +kernel
def zl_X3_refusalOutside_4 : List (Nat × zE) := [(81, .ifCond .eq 7, 3, 88, 0, 0), (84, .iconst 0, 1, 0, 0, 0), (85, .goto 5, 3, 90, 0, 0), (88, .bipush (-2), 2, 0, 0, 0), (90, .ireturn, 1, 0, 0, 0)]
set_option maxRecDepth 100000 in
theorem zk_X3_refusalOutside_4 : zl_X3_refusalOutside_4.all (zgoodB zmt zm_X3_refusalOutside) = true := by decide +kernel
def zp_X3_refusalOutside : Nat → Option zE := (ztr 42 (ztr 22 (zlf zl_X3_refusalOutside_0) (zlf zl_X3_refusalOutside_1)) (ztr 60 (zlf zl_X3_refusalOutside_2) (ztr 81 (zlf zl_X3_refusalOutside_3) (zlf zl_X3_refusalOutside_4))))
theorem za_X3_refusalOutside : zall (zgood zmt zm_X3_refusalOutside) zp_X3_refusalOutside := (zall_tr (zall_tr (zall_lf zl_X3_refusalOutside_0 zk_X3_refusalOutside_0) (zall_lf zl_X3_refusalOutside_1 zk_X3_refusalOutside_1)) (zall_tr (zall_lf zl_X3_refusalOutside_2 zk_X3_refusalOutside_2) (zall_tr (zall_lf zl_X3_refusalOutside_3 zk_X3_refusalOutside_3) (zall_lf zl_X3_refusalOutside_4 zk_X3_refusalOutside_4))))
def zl_X3_add_0 : List (Nat × zE) := [(0, .aload_n 0, 1, 0, 0, 0), (1, .iload_n 1, 1, 0, 0, 0), (2, .iload_n 2, 1, 0, 0, 0), (3, .iload_n 3, 1, 0, 0, 0), (4, .invokevirtual 56, 3, 25, 12388, 676), (7, .istore 4, 2, 0, 0, 0), (9, .iload 4, 2, 0, 0, 0), (11, .ifCond .eq 6, 3, 17, 0, 0), (14, .iload 4, 2, 0, 0, 0), (16, .ireturn, 1, 0, 0, 0)]
set_option maxRecDepth 100000 in
theorem zk_X3_add_0 : zl_X3_add_0.all (zgoodB zmt zm_X3_add) = true := by decide +kernel
def zl_X3_add_1 : List (Nat × zE) := [(17, .aload_n 0, 1, 0, 0, 0), (18, .iload_n 1, 1, 0, 0, 0), (19, .iload_n 2, 1, 0, 0, 0), (20, .invokevirtual 52, 3, 24, 12355, 686), (23, .istore 5, 2, 0, 0, 0), (25, .iload 5, 2, 0, 0, 0), (27, .iconst (-1), 1, 0, 0, 0), (28, .if_icmp .eq 17, 3, 45, 0, 0), (31, .aload_n 0, 1, 0, 0, 0), (32, .getfield 31, 3, 3, 6, 87)]
set_option maxRecDepth 100000 in
theorem zk_X3_add_1 : zl_X3_add_1.all (zgoodB zmt zm_X3_add) = true := by decide +kernel
def zl_X3_add_2 : List (Nat × zE) := [(35, .iload 5, 2, 0, 0, 0), (37, .dup2, 1, 0, 0, 0), (38, .iaload, 1, 0, 0, 0), (39, .iload_n 3, 1, 0, 0, 0), (40, .iadd, 1, 0, 0, 0), (41, .iastore, 1, 0, 0, 0), (42, .iload 5, 2, 0, 0, 0), (44, .ireturn, 1, 0, 0, 0), (45, .aload_n 0, 1, 0, 0, 0), (46, .getfield 21, 3, 3, 3, 81)]
set_option maxRecDepth 100000 in
theorem zk_X3_add_2 : zl_X3_add_2.all (zgoodB zmt zm_X3_add) = true := by decide +kernel
def zl_X3_add_3 : List (Nat × zE) := [(49, .bipush 24, 2, 0, 0, 0), (51, .if_icmp .lt 6, 3, 57, 0, 0), (54, .bipush (-4), 2, 0, 0, 0), (56, .ireturn, 1, 0, 0, 0), (57, .aload_n 0, 1, 0, 0, 0), (58, .getfield 24, 3, 3, 4, 83), (61, .aload_n 0, 1, 0, 0, 0), (62, .getfield 21, 3, 3, 3, 81), (65, .iload_n 1, 1, 0, 0, 0), (66, .iastore, 1, 0, 0, 0)]
set_option maxRecDepth 100000 in
theorem zk_X3_add_3 : zl_X3_add_3.all (zgoodB zmt zm_X3_add) = true := by decide +kernel
def zl_X3_add_4 : List (Nat × zE) := [(67, .aload_n 0, 1, 0, 0, 0), (68, .getfield 28, 3, 3, 5, 85), (71, .aload_n 0, 1, 0, 0, 0), (72, .getfield 21, 3, 3, 3, 81), (75, .iload_n 2, 1, 0, 0, 0), (76, .iastore, 1, 0, 0, 0), (77, .aload_n 0, 1, 0, 0, 0), (78, .getfield 31, 3, 3, 6, 87), (81, .aload_n 0, 1, 0, 0, 0), (82, .getfield 21, 3, 3, 3, 81)]
set_option maxRecDepth 100000 in
theorem zk_X3_add_4 : zl_X3_add_4.all (zgoodB zmt zm_X3_add) = true := by decide +kernel
def zl_X3_add_5 : List (Nat × zE) := [(85, .iload_n 3, 1, 0, 0, 0), (86, .iastore, 1, 0, 0, 0), (87, .aload_n 0, 1, 0, 0, 0), (88, .dup, 1, 0, 0, 0), (89, .getfield 21, 3, 3, 3, 81), (92, .iconst 1, 1, 0, 0, 0), (93, .iadd, 1, 0, 0, 0), (94, .putfield 21, 3, 3, 3, 81), (97, .aload_n 0, 1, 0, 0, 0), (98, .getfield 21, 3, 3, 3, 81)]
set_option maxRecDepth 100000 in
theorem zk_X3_add_5 : zl_X3_add_5.all (zgoodB zmt zm_X3_add) = true := by decide +kernel
def zl_X3_add_6 : List (Nat × zE) := [(101, .iconst 1, 1, 0, 0, 0), (102, .isub, 1, 0, 0, 0), (103, .ireturn, 1, 0, 0, 0)]
set_option maxRecDepth 100000 in
theorem zk_X3_add_6 : zl_X3_add_6.all (zgoodB zmt zm_X3_add) = true := by decide +kernel
def zp_X3_add : Nat → Option zE := (ztr 49 (ztr 17 (zlf zl_X3_add_0) (ztr 35 (zlf zl_X3_add_1) (zlf zl_X3_add_2))) (ztr 85 (ztr 67 (zlf zl_X3_add_3) (zlf zl_X3_add_4)) (ztr 101 (zlf zl_X3_add_5) (zlf zl_X3_add_6))))
theorem za_X3_add : zall (zgood zmt zm_X3_add) zp_X3_add := (zall_tr (zall_tr (zall_lf zl_X3_add_0 zk_X3_add_0) (zall_tr (zall_lf zl_X3_add_1 zk_X3_add_1) (zall_lf zl_X3_add_2 zk_X3_add_2))) (zall_tr (zall_tr (zall_lf zl_X3_add_3 zk_X3_add_3) (zall_lf zl_X3_add_4 zk_X3_add_4)) (zall_tr (zall_lf zl_X3_add_5 zk_X3_add_5) (zall_lf zl_X3_add_6 zk_X3_add_6))))
def zl_X3_addAll_0 : List (Nat × zE) := [(0, .iconst 0, 1, 0, 0, 0), (1, .istore_n 3, 1, 0, 0, 0), (2, .iload_n 3, 1, 0, 0, 0), (3, .aload_n 1, 1, 0, 0, 0), (4, .getfield 60, 3, 2, 2, 122), (7, .if_icmp .ge 27, 3, 34, 0, 0), (10, .aload_n 0, 1, 0, 0, 0), (11, .aload_n 1, 1, 0, 0, 0), (12, .getfield 63, 3, 2, 0, 113), (15, .iload_n 3, 1, 0, 0, 0)]
set_option maxRecDepth 100000 in
theorem zk_X3_addAll_0 : zl_X3_addAll_0.all (zgoodB zmt zm_X3_addAll) = true := by decide +kernel
def zl_X3_addAll_1 : List (Nat × zE) := [(16, .iaload, 1, 0, 0, 0), (17, .aload_n 1, 1, 0, 0, 0), (18, .getfield 64, 3, 2, 1, 117), (21, .iload_n 3, 1, 0, 0, 0), (22, .iaload, 1, 0, 0, 0), (23, .iload_n 2, 1, 0, 0, 0), (24, .invokevirtual 65, 3, 26, 12388, 754), (27, .pop, 1, 0, 0, 0), (28, .iinc 3 1, 3, 0, 0, 0), (31, .goto (-29), 3, 2, 0, 0)]
set_option maxRecDepth 100000 in
theorem zk_X3_addAll_1 : zl_X3_addAll_1.all (zgoodB zmt zm_X3_addAll) = true := by decide +kernel
def zl_X3_addAll_2 : List (Nat × zE) := [(34, .return_, 1, 0, 0, 0)]
set_option maxRecDepth 100000 in
theorem zk_X3_addAll_2 : zl_X3_addAll_2.all (zgoodB zmt zm_X3_addAll) = true := by decide +kernel
def zp_X3_addAll : Nat → Option zE := (ztr 16 (zlf zl_X3_addAll_0) (ztr 34 (zlf zl_X3_addAll_1) (zlf zl_X3_addAll_2)))
theorem za_X3_addAll : zall (zgood zmt zm_X3_addAll) zp_X3_addAll := (zall_tr (zall_lf zl_X3_addAll_0 zk_X3_addAll_0) (zall_tr (zall_lf zl_X3_addAll_1 zk_X3_addAll_1) (zall_lf zl_X3_addAll_2 zk_X3_addAll_2)))
def zl_X3_takeOut_0 : List (Nat × zE) := [(0, .iload_n 1, 1, 0, 0, 0), (1, .iconst 1, 1, 0, 0, 0), (2, .iadd, 1, 0, 0, 0), (3, .istore_n 2, 1, 0, 0, 0), (4, .iload_n 2, 1, 0, 0, 0), (5, .aload_n 0, 1, 0, 0, 0), (6, .getfield 21, 3, 3, 3, 81), (9, .if_icmp .ge 51, 3, 60, 0, 0), (12, .aload_n 0, 1, 0, 0, 0), (13, .getfield 24, 3, 3, 4, 83)]
set_option maxRecDepth 100000 in
theorem zk_X3_takeOut_0 : zl_X3_takeOut_0.all (zgoodB zmt zm_X3_takeOut) = true := by decide +kernel
def zl_X3_takeOut_1 : List (Nat × zE) := [(16, .iload_n 2, 1, 0, 0, 0), (17, .iconst 1, 1, 0, 0, 0), (18, .isub, 1, 0, 0, 0), (19, .aload_n 0, 1, 0, 0, 0), (20, .getfield 24, 3, 3, 4, 83), (23, .iload_n 2, 1, 0, 0, 0), (24, .iaload, 1, 0, 0, 0), (25, .iastore, 1, 0, 0, 0), (26, .aload_n 0, 1, 0, 0, 0), (27, .getfield 28, 3, 3, 5, 85)]
set_option maxRecDepth 100000 in
theorem zk_X3_takeOut_1 : zl_X3_takeOut_1.all (zgoodB zmt zm_X3_takeOut) = true := by decide +kernel
def zl_X3_takeOut_2 : List (Nat × zE) := [(30, .iload_n 2, 1, 0, 0, 0), (31, .iconst 1, 1, 0, 0, 0), (32, .isub, 1, 0, 0, 0), (33, .aload_n 0, 1, 0, 0, 0), (34, .getfield 28, 3, 3, 5, 85), (37, .iload_n 2, 1, 0, 0, 0), (38, .iaload, 1, 0, 0, 0), (39, .iastore, 1, 0, 0, 0), (40, .aload_n 0, 1, 0, 0, 0), (41, .getfield 31, 3, 3, 6, 87)]
set_option maxRecDepth 100000 in
theorem zk_X3_takeOut_2 : zl_X3_takeOut_2.all (zgoodB zmt zm_X3_takeOut) = true := by decide +kernel
def zl_X3_takeOut_3 : List (Nat × zE) := [(44, .iload_n 2, 1, 0, 0, 0), (45, .iconst 1, 1, 0, 0, 0), (46, .isub, 1, 0, 0, 0), (47, .aload_n 0, 1, 0, 0, 0), (48, .getfield 31, 3, 3, 6, 87), (51, .iload_n 2, 1, 0, 0, 0), (52, .iaload, 1, 0, 0, 0), (53, .iastore, 1, 0, 0, 0), (54, .iinc 2 1, 3, 0, 0, 0), (57, .goto (-53), 3, 4, 0, 0)]
set_option maxRecDepth 100000 in
theorem zk_X3_takeOut_3 : zl_X3_takeOut_3.all (zgoodB zmt zm_X3_takeOut) = true := by decide +kernel
def zl_X3_takeOut_4 : List (Nat × zE) := [(60, .aload_n 0, 1, 0, 0, 0), (61, .dup, 1, 0, 0, 0), (62, .getfield 21, 3, 3, 3, 81), (65, .iconst 1, 1, 0, 0, 0), (66, .isub, 1, 0, 0, 0), (67, .putfield 21, 3, 3, 3, 81), (70, .return_, 1, 0, 0, 0)]
set_option maxRecDepth 100000 in
theorem zk_X3_takeOut_4 : zl_X3_takeOut_4.all (zgoodB zmt zm_X3_takeOut) = true := by decide +kernel
def zp_X3_takeOut : Nat → Option zE := (ztr 30 (ztr 16 (zlf zl_X3_takeOut_0) (zlf zl_X3_takeOut_1)) (ztr 44 (zlf zl_X3_takeOut_2) (ztr 60 (zlf zl_X3_takeOut_3) (zlf zl_X3_takeOut_4))))
theorem za_X3_takeOut : zall (zgood zmt zm_X3_takeOut) zp_X3_takeOut := (zall_tr (zall_tr (zall_lf zl_X3_takeOut_0 zk_X3_takeOut_0) (zall_lf zl_X3_takeOut_1 zk_X3_takeOut_1)) (zall_tr (zall_lf zl_X3_takeOut_2 zk_X3_takeOut_2) (zall_tr (zall_lf zl_X3_takeOut_3 zk_X3_takeOut_3) (zall_lf zl_X3_takeOut_4 zk_X3_takeOut_4))))
def zl_X3_weighedPowers_0 : List (Nat × zE) := [(0, .lconst 0, 1, 0, 0, 0), (1, .lstore_n 3, 1, 0, 0, 0), (2, .iconst 0, 1, 0, 0, 0), (3, .istore 5, 2, 0, 0, 0), (5, .iload 5, 2, 0, 0, 0), (7, .aload_n 0, 1, 0, 0, 0), (8, .getfield 21, 3, 3, 3, 81), (11, .if_icmp .ge 46, 3, 57, 0, 0), (14, .lload_n 3, 1, 0, 0, 0), (15, .aload_n 0, 1, 0, 0, 0)]
set_option maxRecDepth 100000 in
theorem zk_X3_weighedPowers_0 : zl_X3_weighedPowers_0.all (zgoodB zmt zm_X3_weighedPowers) = true := by decide +kernel
def zl_X3_weighedPowers_1 : List (Nat × zE) := [(16, .getfield 31, 3, 3, 6, 87), (19, .iload 5, 2, 0, 0, 0), (21, .iaload, 1, 0, 0, 0), (22, .i2l, 1, 0, 0, 0), (23, .aload_n 0, 1, 0, 0, 0), (24, .getfield 24, 3, 3, 4, 83), (27, .iload 5, 2, 0, 0, 0), (29, .iaload, 1, 0, 0, 0), (30, .i2l, 1, 0, 0, 0), (31, .iload_n 1, 1, 0, 0, 0)]
set_option maxRecDepth 100000 in
theorem zk_X3_weighedPowers_1 : zl_X3_weighedPowers_1.all (zgoodB zmt zm_X3_weighedPowers) = true := by decide +kernel
def zl_X3_weighedPowers_2 : List (Nat × zE) := [(32, .invokestatic 68, 3, 69, 20578, 907), (35, .lmul, 1, 0, 0, 0), (36, .aload_n 0, 1, 0, 0, 0), (37, .getfield 28, 3, 3, 5, 85), (40, .iload 5, 2, 0, 0, 0), (42, .iaload, 1, 0, 0, 0), (43, .i2l, 1, 0, 0, 0), (44, .iload_n 2, 1, 0, 0, 0), (45, .invokestatic 68, 3, 69, 20578, 907), (48, .lmul, 1, 0, 0, 0)]
set_option maxRecDepth 100000 in
theorem zk_X3_weighedPowers_2 : zl_X3_weighedPowers_2.all (zgoodB zmt zm_X3_weighedPowers) = true := by decide +kernel
def zl_X3_weighedPowers_3 : List (Nat × zE) := [(49, .ladd, 1, 0, 0, 0), (50, .lstore_n 3, 1, 0, 0, 0), (51, .iinc 5 1, 3, 0, 0, 0), (54, .goto (-49), 3, 5, 0, 0), (57, .lload_n 3, 1, 0, 0, 0), (58, .lreturn, 1, 0, 0, 0)]
set_option maxRecDepth 100000 in
theorem zk_X3_weighedPowers_3 : zl_X3_weighedPowers_3.all (zgoodB zmt zm_X3_weighedPowers) = true := by decide +kernel
def zp_X3_weighedPowers : Nat → Option zE := (ztr 32 (ztr 16 (zlf zl_X3_weighedPowers_0) (zlf zl_X3_weighedPowers_1)) (ztr 49 (zlf zl_X3_weighedPowers_2) (zlf zl_X3_weighedPowers_3)))
theorem za_X3_weighedPowers : zall (zgood zmt zm_X3_weighedPowers) zp_X3_weighedPowers := (zall_tr (zall_tr (zall_lf zl_X3_weighedPowers_0 zk_X3_weighedPowers_0) (zall_lf zl_X3_weighedPowers_1 zk_X3_weighedPowers_1)) (zall_tr (zall_lf zl_X3_weighedPowers_2 zk_X3_weighedPowers_2) (zall_lf zl_X3_weighedPowers_3 zk_X3_weighedPowers_3)))
def zl_X4_init_0 : List (Nat × zE) := [(0, .aload_n 0, 1, 0, 0, 0), (1, .invokespecial 3, 3, 900, 0, 230), (4, .aload_n 0, 1, 0, 0, 0), (5, .iconst (-1), 1, 0, 0, 0), (6, .putfield 9, 3, 4, 0, 231), (9, .aload_n 0, 1, 0, 0, 0), (10, .iconst 0, 1, 0, 0, 0), (11, .putfield 15, 3, 4, 1, 232), (14, .aload_n 0, 1, 0, 0, 0), (15, .bipush 72, 2, 0, 0, 0)]
set_option maxRecDepth 100000 in
theorem zk_X4_init_0 : zl_X4_init_0.all (zgoodB zmt zm_X4_init) = true := by decide +kernel
def zl_X4_init_1 : List (Nat × zE) := [(17, .newarray .int, 2, 0, 0, 0), (19, .putfield 18, 3, 36, 2, 233), (22, .return_, 1, 0, 0, 0)]
set_option maxRecDepth 100000 in
theorem zk_X4_init_1 : zl_X4_init_1.all (zgoodB zmt zm_X4_init) = true := by decide +kernel
def zp_X4_init : Nat → Option zE := (ztr 17 (zlf zl_X4_init_0) (zlf zl_X4_init_1))
theorem za_X4_init : zall (zgood zmt zm_X4_init) zp_X4_init := (zall_tr (zall_lf zl_X4_init_0 zk_X4_init_0) (zall_lf zl_X4_init_1 zk_X4_init_1))
def zl_X4_renew_0 : List (Nat × zE) := [(0, .aload_n 0, 1, 0, 0, 0), (1, .iload_n 1, 1, 0, 0, 0), (2, .putfield 9, 3, 4, 0, 231), (5, .aload_n 0, 1, 0, 0, 0), (6, .iload_n 2, 1, 0, 0, 0), (7, .putfield 15, 3, 4, 1, 232), (10, .aload_n 0, 1, 0, 0, 0), (11, .getfield 18, 3, 4, 2, 233), (14, .iconst 0, 1, 0, 0, 0), (15, .invokestatic 22, 3, 165, 28738, 1216)]
set_option maxRecDepth 100000 in
theorem zk_X4_renew_0 : zl_X4_renew_0.all (zgoodB zmt zm_X4_renew) = true := by decide +kernel
def zl_X4_renew_1 : List (Nat × zE) := [(18, .return_, 1, 0, 0, 0)]
set_option maxRecDepth 100000 in
theorem zk_X4_renew_1 : zl_X4_renew_1.all (zgoodB zmt zm_X4_renew) = true := by decide +kernel
def zp_X4_renew : Nat → Option zE := (ztr 18 (zlf zl_X4_renew_0) (zlf zl_X4_renew_1))
theorem za_X4_renew : zall (zgood zmt zm_X4_renew) zp_X4_renew := (zall_tr (zall_lf zl_X4_renew_0 zk_X4_renew_0) (zall_lf zl_X4_renew_1 zk_X4_renew_1))
def zl_X4_empty_0 : List (Nat × zE) := [(0, .aload_n 0, 1, 0, 0, 0), (1, .iconst (-1), 1, 0, 0, 0), (2, .putfield 9, 3, 4, 0, 231), (5, .aload_n 0, 1, 0, 0, 0), (6, .iconst 0, 1, 0, 0, 0), (7, .putfield 15, 3, 4, 1, 232), (10, .return_, 1, 0, 0, 0)]
set_option maxRecDepth 100000 in
theorem zk_X4_empty_0 : zl_X4_empty_0.all (zgoodB zmt zm_X4_empty) = true := by decide +kernel
def zp_X4_empty : Nat → Option zE := (zlf zl_X4_empty_0)
theorem za_X4_empty : zall (zgood zmt zm_X4_empty) zp_X4_empty := (zall_lf zl_X4_empty_0 zk_X4_empty_0)
def zl_X4_hasNothing_0 : List (Nat × zE) := [(0, .aload_n 0, 1, 0, 0, 0), (1, .getfield 9, 3, 4, 0, 231), (4, .iconst (-1), 1, 0, 0, 0), (5, .if_icmp .ne 7, 3, 12, 0, 0), (8, .iconst 1, 1, 0, 0, 0), (9, .goto 4, 3, 13, 0, 0), (12, .iconst 0, 1, 0, 0, 0), (13, .ireturn, 1, 1, 0, 0)]
set_option maxRecDepth 100000 in
theorem zk_X4_hasNothing_0 : zl_X4_hasNothing_0.all (zgoodB zmt zm_X4_hasNothing) = true := by decide +kernel
def zp_X4_hasNothing : Nat → Option zE := (zlf zl_X4_hasNothing_0)
theorem za_X4_hasNothing : zall (zgood zmt zm_X4_hasNothing) zp_X4_hasNothing := (zall_lf zl_X4_hasNothing_0 zk_X4_hasNothing_0)
def zl_X4_isOfOtherLane_0 : List (Nat × zE) := [(0, .aload_n 0, 1, 0, 0, 0), (1, .getfield 9, 3, 4, 0, 231), (4, .iconst (-1), 1, 0, 0, 0), (5, .if_icmp .eq 15, 3, 20, 0, 0), (8, .aload_n 0, 1, 0, 0, 0), (9, .getfield 9, 3, 4, 0, 231), (12, .iload_n 1, 1, 0, 0, 0), (13, .if_icmp .eq 7, 3, 20, 0, 0), (16, .iconst 1, 1, 0, 0, 0), (17, .goto 4, 3, 21, 0, 0)]
set_option maxRecDepth 100000 in
theorem zk_X4_isOfOtherLane_0 : zl_X4_isOfOtherLane_0.all (zgoodB zmt zm_X4_isOfOtherLane) = true := by decide +kernel
def zl_X4_isOfOtherLane_1 : List (Nat × zE) := [(20, .iconst 0, 1, 0, 0, 0), (21, .ireturn, 1, 1, 0, 0)]
set_option maxRecDepth 100000 in
theorem zk_X4_isOfOtherLane_1 : zl_X4_isOfOtherLane_1.all (zgoodB zmt zm_X4_isOfOtherLane) = true := by decide +kernel
def zp_X4_isOfOtherLane : Nat → Option zE := (ztr 20 (zlf zl_X4_isOfOtherLane_0) (zlf zl_X4_isOfOtherLane_1))
theorem za_X4_isOfOtherLane : zall (zgood zmt zm_X4_isOfOtherLane) zp_X4_isOfOtherLane := (zall_tr (zall_lf zl_X4_isOfOtherLane_0 zk_X4_isOfOtherLane_0) (zall_lf zl_X4_isOfOtherLane_1 zk_X4_isOfOtherLane_1))
def zl_X4_hasCells_0 : List (Nat × zE) := [(0, .lload_n 2, 1, 0, 0, 0), (1, .lconst 0, 1, 0, 0, 0), (2, .lcmp, 1, 0, 0, 0), (3, .ifCond .eq 20, 3, 23, 0, 0), (6, .iload_n 1, 1, 0, 0, 0), (7, .ifCond .lt 20, 3, 27, 0, 0), (10, .iload_n 1, 1, 0, 0, 0), (11, .i2l, 1, 0, 0, 0), (12, .lload_n 2, 1, 0, 0, 0), (13, .ladd, 1, 0, 0, 0)]
set_option maxRecDepth 100000 in
theorem zk_X4_hasCells_0 : zl_X4_hasCells_0.all (zgoodB zmt zm_X4_hasCells) = true := by decide +kernel
def zl_X4_hasCells_1 : List (Nat × zE) := [(14, .aload_n 0, 1, 0, 0, 0), (15, .getfield 15, 3, 4, 1, 232), (18, .i2l, 1, 0, 0, 0), (19, .lcmp, 1, 0, 0, 0), (20, .ifCond .gt 7, 3, 27, 0, 0), (23, .iconst 1, 1, 0, 0, 0), (24, .goto 4, 3, 28, 0, 0), (27, .iconst 0, 1, 0, 0, 0), (28, .ireturn, 1, 1, 0, 0)]
set_option maxRecDepth 100000 in
theorem zk_X4_hasCells_1 : zl_X4_hasCells_1.all (zgoodB zmt zm_X4_hasCells) = true := by decide +kernel
def zp_X4_hasCells : Nat → Option zE := (ztr 14 (zlf zl_X4_hasCells_0) (zlf zl_X4_hasCells_1))
theorem za_X4_hasCells : zall (zgood zmt zm_X4_hasCells) zp_X4_hasCells := (zall_tr (zall_lf zl_X4_hasCells_0 zk_X4_hasCells_0) (zall_lf zl_X4_hasCells_1 zk_X4_hasCells_1))
def zl_X4_write_0 : List (Nat × zE) := [(0, .aload_n 0, 1, 0, 0, 0), (1, .getfield 9, 3, 4, 0, 231), (4, .lookupswitch 50 #[(0, 28), (1, 39)], 28, 0, 0, 0), (32, .aload_n 0, 1, 0, 0, 0), (33, .getfield 18, 3, 4, 2, 233), (36, .iload_n 1, 1, 0, 0, 0), (37, .iload_n 2, 1, 0, 0, 0), (38, .i2b, 1, 0, 0, 0), (39, .iastore, 1, 0, 0, 0), (40, .goto 21, 3, 61, 0, 0)]
set_option maxRecDepth 100000 in
theorem zk_X4_write_0 : zl_X4_write_0.all (zgoodB zmt zm_X4_write) = true := by decide +kernel
def zl_X4_write_1 : List (Nat × zE) := [(43, .aload_n 0, 1, 0, 0, 0), (44, .getfield 18, 3, 4, 2, 233), (47, .iload_n 1, 1, 0, 0, 0), (48, .iload_n 2, 1, 0, 0, 0), (49, .i2s, 1, 0, 0, 0), (50, .iastore, 1, 0, 0, 0), (51, .goto 10, 3, 61, 0, 0), (54, .aload_n 0, 1, 0, 0, 0), (55, .getfield 18, 3, 4, 2, 233), (58, .iload_n 1, 1, 0, 0, 0)]
set_option maxRecDepth 100000 in
theorem zk_X4_write_1 : zl_X4_write_1.all (zgoodB zmt zm_X4_write) = true := by decide +kernel
def zl_X4_write_2 : List (Nat × zE) := [(59, .iload_n 2, 1, 0, 0, 0), (60, .iastore, 1, 0, 0, 0), (61, .return_, 1, 0, 0, 0)]
set_option maxRecDepth 100000 in
theorem zk_X4_write_2 : zl_X4_write_2.all (zgoodB zmt zm_X4_write) = true := by decide +kernel
def zp_X4_write : Nat → Option zE := (ztr 43 (zlf zl_X4_write_0) (ztr 59 (zlf zl_X4_write_1) (zlf zl_X4_write_2)))
theorem za_X4_write : zall (zgood zmt zm_X4_write) zp_X4_write := (zall_tr (zall_lf zl_X4_write_0 zk_X4_write_0) (zall_tr (zall_lf zl_X4_write_1 zk_X4_write_1) (zall_lf zl_X4_write_2 zk_X4_write_2)))
def zl_X5_init_0 : List (Nat × zE) := [(0, .aload_n 0, 1, 0, 0, 0), (1, .invokespecial 3, 3, 900, 0, 66), (4, .aload_n 0, 1, 0, 0, 0), (5, .new 9, 3, 3, 0, 69), (8, .dup, 1, 0, 0, 0), (9, .invokespecial 11, 3, 19, 12305, 143), (12, .putfield 12, 3, 37, 0, 243), (15, .aload_n 0, 1, 0, 0, 0), (16, .new 9, 3, 3, 0, 69), (19, .dup, 1, 0, 0, 0)]
set_option maxRecDepth 100000 in
theorem zk_X5_init_0 : zl_X5_init_0.all (zgoodB zmt zm_X5_init) = true := by decide +kernel
def zl_X5_init_1 : List (Nat × zE) := [(20, .invokespecial 11, 3, 19, 12305, 143), (23, .putfield 18, 3, 37, 1, 244), (26, .aload_n 0, 1, 0, 0, 0), (27, .new 21, 3, 2, 0, 105), (30, .dup, 1, 0, 0, 0), (31, .invokespecial 23, 3, 14, 8209, 215), (34, .putfield 24, 3, 37, 2, 245), (37, .aload_n 0, 1, 0, 0, 0), (38, .new 28, 3, 1, 0, 130), (41, .dup, 1, 0, 0, 0)]
set_option maxRecDepth 100000 in
theorem zk_X5_init_1 : zl_X5_init_1.all (zgoodB zmt zm_X5_init) = true := by decide +kernel
def zl_X5_init_2 : List (Nat × zE) := [(42, .invokespecial 30, 3, 5, 4113, 265), (45, .putfield 31, 3, 37, 3, 246), (48, .aload_n 0, 1, 0, 0, 0), (49, .new 35, 3, 0, 0, 221), (52, .dup, 1, 0, 0, 0), (53, .invokespecial 37, 3, 0, 17, 445), (56, .putfield 38, 3, 37, 4, 247), (59, .aload_n 0, 1, 0, 0, 0), (60, .new 35, 3, 0, 0, 221), (63, .dup, 1, 0, 0, 0)]
set_option maxRecDepth 100000 in
theorem zk_X5_init_2 : zl_X5_init_2.all (zgoodB zmt zm_X5_init) = true := by decide +kernel
def zl_X5_init_3 : List (Nat × zE) := [(64, .invokespecial 37, 3, 0, 17, 445), (67, .putfield 42, 3, 37, 5, 248), (70, .aload_n 0, 1, 0, 0, 0), (71, .bipush 6, 2, 0, 0, 0), (73, .anewarray 9, 3, 0, 0, 69), (76, .putfield 45, 3, 37, 6, 249), (79, .aload_n 0, 1, 0, 0, 0), (80, .bipush 6, 2, 0, 0, 0), (82, .newarray .boolean, 2, 0, 0, 0), (84, .putfield 49, 3, 37, 7, 250)]
set_option maxRecDepth 100000 in
theorem zk_X5_init_3 : zl_X5_init_3.all (zgoodB zmt zm_X5_init) = true := by decide +kernel
def zl_X5_init_4 : List (Nat × zE) := [(87, .aload_n 0, 1, 0, 0, 0), (88, .bipush 15, 2, 0, 0, 0), (90, .newarray .int, 2, 0, 0, 0), (92, .putfield 53, 3, 37, 8, 251), (95, .aload_n 0, 1, 0, 0, 0), (96, .iconst 5, 1, 0, 0, 0), (97, .newarray .long, 2, 0, 0, 0), (99, .putfield 57, 3, 37, 9, 252), (102, .aload_n 0, 1, 0, 0, 0), (103, .iconst 5, 1, 0, 0, 0)]
set_option maxRecDepth 100000 in
theorem zk_X5_init_4 : zl_X5_init_4.all (zgoodB zmt zm_X5_init) = true := by decide +kernel
def zl_X5_init_5 : List (Nat × zE) := [(104, .newarray .long, 2, 0, 0, 0), (106, .putfield 61, 3, 37, 10, 253), (109, .aload_n 0, 1, 0, 0, 0), (110, .iconst 5, 1, 0, 0, 0), (111, .newarray .long, 2, 0, 0, 0), (113, .putfield 64, 3, 37, 11, 254), (116, .aload_n 0, 1, 0, 0, 0), (117, .iconst 4, 1, 0, 0, 0), (118, .anewarray 67, 3, 1, 0, 224), (121, .putfield 69, 3, 37, 12, 255)]
set_option maxRecDepth 100000 in
theorem zk_X5_init_5 : zl_X5_init_5.all (zgoodB zmt zm_X5_init) = true := by decide +kernel
def zl_X5_init_6 : List (Nat × zE) := [(124, .aload_n 0, 1, 0, 0, 0), (125, .iconst 0, 1, 0, 0, 0), (126, .putfield 73, 3, 5, 13, 256), (129, .aload_n 0, 1, 0, 0, 0), (130, .iconst 0, 1, 0, 0, 0), (131, .putfield 77, 3, 5, 14, 257), (134, .iconst 0, 1, 0, 0, 0), (135, .istore_n 1, 1, 0, 0, 0), (136, .iload_n 1, 1, 0, 0, 0), (137, .bipush 6, 2, 0, 0, 0)]
set_option maxRecDepth 100000 in
theorem zk_X5_init_6 : zl_X5_init_6.all (zgoodB zmt zm_X5_init) = true := by decide +kernel
def zl_X5_init_7 : List (Nat × zE) := [(139, .if_icmp .ge 22, 3, 161, 0, 0), (142, .aload_n 0, 1, 0, 0, 0), (143, .getfield 45, 3, 5, 6, 249), (146, .iload_n 1, 1, 0, 0, 0), (147, .new 9, 3, 3, 0, 69), (150, .dup, 1, 0, 0, 0), (151, .invokespecial 11, 3, 19, 12305, 143), (154, .aastore, 1, 0, 0, 0), (155, .iinc 1 1, 3, 0, 0, 0), (158, .goto (-22), 3, 136, 0, 0)]
set_option maxRecDepth 100000 in
theorem zk_X5_init_7 : zl_X5_init_7.all (zgoodB zmt zm_X5_init) = true := by decide +kernel
def zl_X5_init_8 : List (Nat × zE) := [(161, .iconst 0, 1, 0, 0, 0), (162, .istore_n 1, 1, 0, 0, 0), (163, .iload_n 1, 1, 0, 0, 0), (164, .iconst 4, 1, 0, 0, 0), (165, .if_icmp .ge 22, 3, 187, 0, 0), (168, .aload_n 0, 1, 0, 0, 0), (169, .getfield 69, 3, 5, 12, 255), (172, .iload_n 1, 1, 0, 0, 0), (173, .new 67, 3, 4, 0, 224), (176, .dup, 1, 0, 0, 0)]
set_option maxRecDepth 100000 in
theorem zk_X5_init_8 : zl_X5_init_8.all (zgoodB zmt zm_X5_init) = true := by decide +kernel
def zl_X5_init_9 : List (Nat × zE) := [(177, .invokespecial 80, 3, 30, 16401, 455), (180, .aastore, 1, 0, 0, 0), (181, .iinc 1 1, 3, 0, 0, 0), (184, .goto (-21), 3, 163, 0, 0), (187, .return_, 1, 0, 0, 0)]
set_option maxRecDepth 100000 in
theorem zk_X5_init_9 : zl_X5_init_9.all (zgoodB zmt zm_X5_init) = true := by decide +kernel
def zp_X5_init : Nat → Option zE := (ztr 104 (ztr 42 (ztr 20 (zlf zl_X5_init_0) (zlf zl_X5_init_1)) (ztr 64 (zlf zl_X5_init_2) (ztr 87 (zlf zl_X5_init_3) (zlf zl_X5_init_4)))) (ztr 139 (ztr 124 (zlf zl_X5_init_5) (zlf zl_X5_init_6)) (ztr 161 (zlf zl_X5_init_7) (ztr 177 (zlf zl_X5_init_8) (zlf zl_X5_init_9)))))
theorem za_X5_init : zall (zgood zmt zm_X5_init) zp_X5_init := (zall_tr (zall_tr (zall_tr (zall_lf zl_X5_init_0 zk_X5_init_0) (zall_lf zl_X5_init_1 zk_X5_init_1)) (zall_tr (zall_lf zl_X5_init_2 zk_X5_init_2) (zall_tr (zall_lf zl_X5_init_3 zk_X5_init_3) (zall_lf zl_X5_init_4 zk_X5_init_4)))) (zall_tr (zall_tr (zall_lf zl_X5_init_5 zk_X5_init_5) (zall_lf zl_X5_init_6 zk_X5_init_6)) (zall_tr (zall_lf zl_X5_init_7 zk_X5_init_7) (zall_tr (zall_lf zl_X5_init_8 zk_X5_init_8) (zall_lf zl_X5_init_9 zk_X5_init_9)))))
def zl_X5_begin_0 : List (Nat × zE) := [(0, .iload_n 1, 1, 0, 0, 0), (1, .iconst 0, 1, 0, 0, 0), (2, .iconst 2, 1, 0, 0, 0), (3, .invokestatic 81, 3, 67, 20531, 586), (6, .ifCond .eq 24, 3, 30, 0, 0), (9, .iload_n 2, 1, 0, 0, 0), (10, .iconst 1, 1, 0, 0, 0), (11, .bipush 12, 2, 0, 0, 0), (13, .invokestatic 81, 3, 67, 20531, 586), (16, .ifCond .eq 14, 3, 30, 0, 0)]
set_option maxRecDepth 100000 in
theorem zk_X5_begin_0 : zl_X5_begin_0.all (zgoodB zmt zm_X5_begin) = true := by decide +kernel
def zl_X5_begin_1 : List (Nat × zE) := [(19, .iload_n 3, 1, 0, 0, 0), (20, .iconst 1, 1, 0, 0, 0), (21, .sipush 10000, 3, 0, 0, 0), (24, .invokestatic 81, 3, 67, 20531, 586), (27, .ifCond .ne 6, 3, 33, 0, 0), (30, .bipush (-2), 2, 0, 0, 0), (32, .ireturn, 1, 0, 0, 0), (33, .aload_n 0, 1, 0, 0, 0), (34, .getfield 12, 3, 5, 0, 243), (37, .iload_n 1, 1, 0, 0, 0)]
set_option maxRecDepth 100000 in
theorem zk_X5_begin_1 : zl_X5_begin_1.all (zgoodB zmt zm_X5_begin) = true := by decide +kernel
def zl_X5_begin_2 : List (Nat × zE) := [(38, .iload_n 2, 1, 0, 0, 0), (39, .iload_n 3, 1, 0, 0, 0), (40, .invokevirtual 85, 3, 20, 12356, 592), (43, .iconst 1, 1, 0, 0, 0), (44, .ireturn, 1, 0, 0, 0)]
set_option maxRecDepth 100000 in
theorem zk_X5_begin_2 : zl_X5_begin_2.all (zgoodB zmt zm_X5_begin) = true := by decide +kernel
def zp_X5_begin : Nat → Option zE := (ztr 19 (zlf zl_X5_begin_0) (ztr 38 (zlf zl_X5_begin_1) (zlf zl_X5_begin_2)))
theorem za_X5_begin : zall (zgood zmt zm_X5_begin) zp_X5_begin := (zall_tr (zall_lf zl_X5_begin_0 zk_X5_begin_0) (zall_tr (zall_lf zl_X5_begin_1 zk_X5_begin_1) (zall_lf zl_X5_begin_2 zk_X5_begin_2)))
def zl_X5_moment_0 : List (Nat × zE) := [(0, .iload_n 1, 1, 0, 0, 0), (1, .iload_n 2, 1, 0, 0, 0), (2, .invokestatic 89, 3, 68, 20514, 608), (5, .ifCond .eq 12, 3, 17, 0, 0), (8, .iload_n 3, 1, 0, 0, 0), (9, .iconst 0, 1, 0, 0, 0), (10, .iconst 1, 1, 0, 0, 0), (11, .invokestatic 81, 3, 67, 20531, 586), (14, .ifCond .ne 7, 3, 21, 0, 0), (17, .ldc2_w 93, 3, 9223372036854775808, 0, 307)]
set_option maxRecDepth 100000 in
theorem zk_X5_moment_0 : zl_X5_moment_0.all (zgoodB zmt zm_X5_moment) = true := by decide +kernel
def zl_X5_moment_1 : List (Nat × zE) := [(20, .lreturn, 1, 0, 0, 0), (21, .aload_n 0, 1, 0, 0, 0), (22, .getfield 38, 3, 5, 4, 247), (25, .aload_n 0, 1, 0, 0, 0), (26, .getfield 12, 3, 5, 0, 243), (29, .getfield 95, 3, 3, 0, 76), (32, .iload_n 1, 1, 0, 0, 0), (33, .iload_n 2, 1, 0, 0, 0), (34, .invokevirtual 98, 3, 3, 100, 616), (37, .aload_n 0, 1, 0, 0, 0)]
set_option maxRecDepth 100000 in
theorem zk_X5_moment_1 : zl_X5_moment_1.all (zgoodB zmt zm_X5_moment) = true := by decide +kernel
def zl_X5_moment_2 : List (Nat × zE) := [(38, .getfield 38, 3, 5, 4, 247), (41, .iload_n 3, 1, 0, 0, 0), (42, .invokevirtual 101, 3, 4, 34, 652), (45, .lreturn, 1, 0, 0, 0)]
set_option maxRecDepth 100000 in
theorem zk_X5_moment_2 : zl_X5_moment_2.all (zgoodB zmt zm_X5_moment) = true := by decide +kernel
def zp_X5_moment : Nat → Option zE := (ztr 20 (zlf zl_X5_moment_0) (ztr 38 (zlf zl_X5_moment_1) (zlf zl_X5_moment_2)))
theorem za_X5_moment : zall (zgood zmt zm_X5_moment) zp_X5_moment := (zall_tr (zall_lf zl_X5_moment_0 zk_X5_moment_0) (zall_tr (zall_lf zl_X5_moment_1 zk_X5_moment_1) (zall_lf zl_X5_moment_2 zk_X5_moment_2)))
def zl_X5_place_0 : List (Nat × zE) := [(0, .aload_n 0, 1, 0, 0, 0), (1, .getfield 12, 3, 5, 0, 243), (4, .iload_n 1, 1, 0, 0, 0), (5, .iload_n 2, 1, 0, 0, 0), (6, .iload_n 3, 1, 0, 0, 0), (7, .invokevirtual 105, 3, 26, 12388, 668), (10, .ireturn, 1, 0, 0, 0)]
set_option maxRecDepth 100000 in
theorem zk_X5_place_0 : zl_X5_place_0.all (zgoodB zmt zm_X5_place) = true := by decide +kernel
def zp_X5_place : Nat → Option zE := (zlf zl_X5_place_0)
theorem za_X5_place : zall (zgood zmt zm_X5_place) zp_X5_place := (zall_lf zl_X5_place_0 zk_X5_place_0)
def zl_X5_orbit_0 : List (Nat × zE) := [(0, .iload_n 1, 1, 0, 0, 0), (1, .bipush (-24), 2, 0, 0, 0), (3, .bipush 24, 2, 0, 0, 0), (5, .invokestatic 81, 3, 67, 20531, 586), (8, .ifCond .eq 27, 3, 35, 0, 0), (11, .iload_n 2, 1, 0, 0, 0), (12, .bipush (-24), 2, 0, 0, 0), (14, .bipush 24, 2, 0, 0, 0), (16, .invokestatic 81, 3, 67, 20531, 586), (19, .ifCond .eq 16, 3, 35, 0, 0)]
set_option maxRecDepth 100000 in
theorem zk_X5_orbit_0 : zl_X5_orbit_0.all (zgoodB zmt zm_X5_orbit) = true := by decide +kernel
def zl_X5_orbit_1 : List (Nat × zE) := [(22, .iload_n 3, 1, 0, 0, 0), (23, .sipush (-10000), 3, 0, 0, 0), (26, .sipush 10000, 3, 0, 0, 0), (29, .invokestatic 81, 3, 67, 20531, 586), (32, .ifCond .ne 6, 3, 38, 0, 0), (35, .bipush (-2), 2, 0, 0, 0), (37, .ireturn, 1, 0, 0, 0), (38, .aload_n 0, 1, 0, 0, 0), (39, .getfield 24, 3, 5, 2, 245), (42, .aload_n 0, 1, 0, 0, 0)]
set_option maxRecDepth 100000 in
theorem zk_X5_orbit_1 : zl_X5_orbit_1.all (zgoodB zmt zm_X5_orbit) = true := by decide +kernel
def zl_X5_orbit_2 : List (Nat × zE) := [(43, .getfield 12, 3, 5, 0, 243), (46, .getfield 95, 3, 3, 0, 76), (49, .aload_n 0, 1, 0, 0, 0), (50, .getfield 12, 3, 5, 0, 243), (53, .getfield 109, 3, 3, 1, 78), (56, .iload_n 1, 1, 0, 0, 0), (57, .iload_n 2, 1, 0, 0, 0), (58, .invokevirtual 112, 3, 15, 8293, 702), (61, .aload_n 0, 1, 0, 0, 0), (62, .iload_n 3, 1, 0, 0, 0)]
set_option maxRecDepth 100000 in
theorem zk_X5_orbit_2 : zl_X5_orbit_2.all (zgoodB zmt zm_X5_orbit) = true := by decide +kernel
def zl_X5_orbit_3 : List (Nat × zE) := [(63, .invokevirtual 116, 3, 74, 20562, 734), (66, .istore 4, 2, 0, 0, 0), (68, .iload 4, 2, 0, 0, 0), (70, .ifCond .eq 6, 3, 76, 0, 0), (73, .iload 4, 2, 0, 0, 0), (75, .ireturn, 1, 0, 0, 0), (76, .aload_n 0, 1, 0, 0, 0), (77, .getfield 12, 3, 5, 0, 243), (80, .aload_n 0, 1, 0, 0, 0), (81, .getfield 24, 3, 5, 2, 245)]
set_option maxRecDepth 100000 in
theorem zk_X5_orbit_3 : zl_X5_orbit_3.all (zgoodB zmt zm_X5_orbit) = true := by decide +kernel
def zl_X5_orbit_4 : List (Nat × zE) := [(84, .iload_n 3, 1, 0, 0, 0), (85, .invokevirtual 120, 3, 27, 12355, 746), (88, .aload_n 0, 1, 0, 0, 0), (89, .getfield 24, 3, 5, 2, 245), (92, .getfield 124, 3, 2, 2, 121), (95, .ireturn, 1, 0, 0, 0)]
set_option maxRecDepth 100000 in
theorem zk_X5_orbit_4 : zl_X5_orbit_4.all (zgoodB zmt zm_X5_orbit) = true := by decide +kernel
def zp_X5_orbit : Nat → Option zE := (ztr 43 (ztr 22 (zlf zl_X5_orbit_0) (zlf zl_X5_orbit_1)) (ztr 63 (zlf zl_X5_orbit_2) (ztr 84 (zlf zl_X5_orbit_3) (zlf zl_X5_orbit_4))))
theorem za_X5_orbit : zall (zgood zmt zm_X5_orbit) zp_X5_orbit := (zall_tr (zall_tr (zall_lf zl_X5_orbit_0 zk_X5_orbit_0) (zall_lf zl_X5_orbit_1 zk_X5_orbit_1)) (zall_tr (zall_lf zl_X5_orbit_2 zk_X5_orbit_2) (zall_tr (zall_lf zl_X5_orbit_3 zk_X5_orbit_3) (zall_lf zl_X5_orbit_4 zk_X5_orbit_4))))
def zl_X5_places_0 : List (Nat × zE) := [(0, .aload_n 0, 1, 0, 0, 0), (1, .iconst 0, 1, 0, 0, 0), (2, .putfield 77, 3, 5, 14, 257), (5, .iload_n 1, 1, 0, 0, 0), (6, .iconst 0, 1, 0, 0, 0), (7, .iconst 3, 1, 0, 0, 0), (8, .invokestatic 81, 3, 67, 20531, 586), (11, .ifCond .ne 5, 3, 16, 0, 0), (14, .iconst (-1), 1, 0, 0, 0), (15, .ireturn, 1, 0, 0, 0)]
set_option maxRecDepth 100000 in
theorem zk_X5_places_0 : zl_X5_places_0.all (zgoodB zmt zm_X5_places) = true := by decide +kernel
def zl_X5_places_1 : List (Nat × zE) := [(16, .iload_n 2, 1, 0, 0, 0), (17, .iconst 0, 1, 0, 0, 0), (18, .iconst 2, 1, 0, 0, 0), (19, .invokestatic 81, 3, 67, 20531, 586), (22, .ifCond .ne 6, 3, 28, 0, 0), (25, .bipush (-2), 2, 0, 0, 0), (27, .ireturn, 1, 0, 0, 0), (28, .aload_n 0, 1, 0, 0, 0), (29, .getfield 69, 3, 5, 12, 255), (32, .iload_n 1, 1, 0, 0, 0)]
set_option maxRecDepth 100000 in
theorem zk_X5_places_1 : zl_X5_places_1.all (zgoodB zmt zm_X5_places) = true := by decide +kernel
def zl_X5_places_2 : List (Nat × zE) := [(33, .aaload, 1, 0, 0, 0), (34, .astore 5, 2, 0, 0, 0), (36, .aload 5, 2, 0, 0, 0), (38, .iload_n 2, 1, 0, 0, 0), (39, .invokevirtual 127, 3, 34, 16418, 764), (42, .ifCond .eq 9, 3, 51, 0, 0), (45, .aload_n 0, 1, 0, 0, 0), (46, .iconst 2, 1, 0, 0, 0), (47, .invokevirtual 131, 3, 73, 20514, 772), (50, .ireturn, 1, 0, 0, 0)]
set_option maxRecDepth 100000 in
theorem zk_X5_places_2 : zl_X5_places_2.all (zgoodB zmt zm_X5_places) = true := by decide +kernel
def zl_X5_places_3 : List (Nat × zE) := [(51, .aload 5, 2, 0, 0, 0), (53, .invokevirtual 134, 3, 33, 16401, 780), (56, .ifCond .eq 9, 3, 65, 0, 0), (59, .aload_n 0, 1, 0, 0, 0), (60, .iconst 1, 1, 0, 0, 0), (61, .invokevirtual 131, 3, 73, 20514, 772), (64, .ireturn, 1, 0, 0, 0), (65, .iload 4, 2, 0, 0, 0), (67, .ifCond .ge 9, 3, 76, 0, 0), (70, .aload_n 0, 1, 0, 0, 0)]
set_option maxRecDepth 100000 in
theorem zk_X5_places_3 : zl_X5_places_3.all (zgoodB zmt zm_X5_places) = true := by decide +kernel
def zl_X5_places_4 : List (Nat × zE) := [(71, .iconst 4, 1, 0, 0, 0), (72, .invokevirtual 131, 3, 73, 20514, 772), (75, .ireturn, 1, 0, 0, 0), (76, .aload 5, 2, 0, 0, 0), (78, .iload_n 3, 1, 0, 0, 0), (79, .ldc2_w 138, 3, 3, 0, 394), (82, .iload 4, 2, 0, 0, 0), (84, .i2l, 1, 0, 0, 0), (85, .lmul, 1, 0, 0, 0), (86, .invokevirtual 140, 3, 35, 16451, 790)]
set_option maxRecDepth 100000 in
theorem zk_X5_places_4 : zl_X5_places_4.all (zgoodB zmt zm_X5_places) = true := by decide +kernel
def zl_X5_places_5 : List (Nat × zE) := [(89, .ifCond .ne 9, 3, 98, 0, 0), (92, .aload_n 0, 1, 0, 0, 0), (93, .iconst 3, 1, 0, 0, 0), (94, .invokevirtual 131, 3, 73, 20514, 772), (97, .ireturn, 1, 0, 0, 0), (98, .aload_n 0, 1, 0, 0, 0), (99, .aload 5, 2, 0, 0, 0), (101, .iload_n 3, 1, 0, 0, 0), (102, .iload 4, 2, 0, 0, 0), (104, .invokevirtual 144, 3, 75, 20596, 798)]
set_option maxRecDepth 100000 in
theorem zk_X5_places_5 : zl_X5_places_5.all (zgoodB zmt zm_X5_places) = true := by decide +kernel
def zl_X5_places_6 : List (Nat × zE) := [(107, .ireturn, 1, 0, 0, 0)]
set_option maxRecDepth 100000 in
theorem zk_X5_places_6 : zl_X5_places_6.all (zgoodB zmt zm_X5_places) = true := by decide +kernel
def zp_X5_places : Nat → Option zE := (ztr 51 (ztr 16 (zlf zl_X5_places_0) (ztr 33 (zlf zl_X5_places_1) (zlf zl_X5_places_2))) (ztr 89 (ztr 71 (zlf zl_X5_places_3) (zlf zl_X5_places_4)) (ztr 107 (zlf zl_X5_places_5) (zlf zl_X5_places_6))))
theorem za_X5_places : zall (zgood zmt zm_X5_places) zp_X5_places := (zall_tr (zall_tr (zall_lf zl_X5_places_0 zk_X5_places_0) (zall_tr (zall_lf zl_X5_places_1 zk_X5_places_1) (zall_lf zl_X5_places_2 zk_X5_places_2))) (zall_tr (zall_tr (zall_lf zl_X5_places_3 zk_X5_places_3) (zall_lf zl_X5_places_4 zk_X5_places_4)) (zall_tr (zall_lf zl_X5_places_5 zk_X5_places_5) (zall_lf zl_X5_places_6 zk_X5_places_6))))
def zl_X5_drop_0 : List (Nat × zE) := [(0, .aload_n 0, 1, 0, 0, 0), (1, .getfield 12, 3, 5, 0, 243), (4, .iload_n 1, 1, 0, 0, 0), (5, .invokevirtual 148, 3, 22, 12322, 830), (8, .ifCond .ne 5, 3, 13, 0, 0), (11, .iconst (-1), 1, 0, 0, 0), (12, .ireturn, 1, 0, 0, 0), (13, .aload_n 0, 1, 0, 0, 0), (14, .getfield 12, 3, 5, 0, 243), (17, .iload_n 1, 1, 0, 0, 0)]
set_option maxRecDepth 100000 in
theorem zk_X5_drop_0 : zl_X5_drop_0.all (zgoodB zmt zm_X5_drop) = true := by decide +kernel
def zl_X5_drop_1 : List (Nat × zE) := [(18, .invokevirtual 151, 3, 28, 12338, 838), (21, .aload_n 0, 1, 0, 0, 0), (22, .getfield 12, 3, 5, 0, 243), (25, .getfield 155, 3, 3, 3, 82), (28, .ireturn, 1, 0, 0, 0)]
set_option maxRecDepth 100000 in
theorem zk_X5_drop_1 : zl_X5_drop_1.all (zgoodB zmt zm_X5_drop) = true := by decide +kernel
def zp_X5_drop : Nat → Option zE := (ztr 18 (zlf zl_X5_drop_0) (zlf zl_X5_drop_1))
theorem za_X5_drop : zall (zgood zmt zm_X5_drop) zp_X5_drop := (zall_tr (zall_lf zl_X5_drop_0 zk_X5_drop_0) (zall_lf zl_X5_drop_1 zk_X5_drop_1))
def zl_X5_about_0 : List (Nat × zE) := [(0, .aload_n 0, 1, 0, 0, 0), (1, .getfield 12, 3, 5, 0, 243), (4, .iload_n 1, 1, 0, 0, 0), (5, .invokevirtual 148, 3, 22, 12322, 830), (8, .ifCond .ne 5, 3, 13, 0, 0), (11, .iconst (-1), 1, 0, 0, 0), (12, .ireturn, 1, 0, 0, 0), (13, .iload_n 2, 1, 0, 0, 0), (14, .tableswitch 87 0 4 #[34, 44, 54, 64, 70], 34, 0, 0, 0), (48, .aload_n 0, 1, 0, 0, 0)]
set_option maxRecDepth 100000 in
theorem zk_X5_about_0 : zl_X5_about_0.all (zgoodB zmt zm_X5_about) = true := by decide +kernel
def zl_X5_about_1 : List (Nat × zE) := [(49, .getfield 12, 3, 5, 0, 243), (52, .getfield 156, 3, 3, 4, 84), (55, .iload_n 1, 1, 0, 0, 0), (56, .iaload, 1, 0, 0, 0), (57, .ireturn, 1, 0, 0, 0), (58, .aload_n 0, 1, 0, 0, 0), (59, .getfield 12, 3, 5, 0, 243), (62, .getfield 159, 3, 3, 5, 86), (65, .iload_n 1, 1, 0, 0, 0), (66, .iaload, 1, 0, 0, 0)]
set_option maxRecDepth 100000 in
theorem zk_X5_about_1 : zl_X5_about_1.all (zgoodB zmt zm_X5_about) = true := by decide +kernel
def zl_X5_about_2 : List (Nat × zE) := [(67, .ireturn, 1, 0, 0, 0), (68, .aload_n 0, 1, 0, 0, 0), (69, .getfield 12, 3, 5, 0, 243), (72, .getfield 162, 3, 3, 6, 88), (75, .iload_n 1, 1, 0, 0, 0), (76, .iaload, 1, 0, 0, 0), (77, .ireturn, 1, 0, 0, 0), (78, .aload_n 0, 1, 0, 0, 0), (79, .iload_n 1, 1, 0, 0, 0), (80, .invokevirtual 165, 3, 76, 20514, 854)]
set_option maxRecDepth 100000 in
theorem zk_X5_about_2 : zl_X5_about_2.all (zgoodB zmt zm_X5_about) = true := by decide +kernel
def zl_X5_about_3 : List (Nat × zE) := [(83, .ireturn, 1, 0, 0, 0), (84, .aload_n 0, 1, 0, 0, 0), (85, .getfield 12, 3, 5, 0, 243), (88, .iload_n 1, 1, 0, 0, 0), (89, .invokevirtual 168, 3, 23, 12322, 862), (92, .ifCond .eq 7, 3, 99, 0, 0), (95, .iconst 1, 1, 0, 0, 0), (96, .goto 4, 3, 100, 0, 0), (99, .iconst 0, 1, 0, 0, 0), (100, .ireturn, 1, 0, 0, 0)]
set_option maxRecDepth 100000 in
theorem zk_X5_about_3 : zl_X5_about_3.all (zgoodB zmt zm_X5_about) = true := by decide +kernel
def zl_X5_about_4 : List (Nat × zE) := [(101, .bipush (-2), 2, 0, 0, 0), (103, .ireturn, 1, 0, 0, 0)]
set_option maxRecDepth 100000 in
theorem zk_X5_about_4 : zl_X5_about_4.all (zgoodB zmt zm_X5_about) = true := by decide +kernel
def zp_X5_about : Nat → Option zE := (ztr 67 (ztr 49 (zlf zl_X5_about_0) (zlf zl_X5_about_1)) (ztr 83 (zlf zl_X5_about_2) (ztr 101 (zlf zl_X5_about_3) (zlf zl_X5_about_4))))
theorem za_X5_about : zall (zgood zmt zm_X5_about) zp_X5_about := (zall_tr (zall_tr (zall_lf zl_X5_about_0 zk_X5_about_0) (zall_lf zl_X5_about_1 zk_X5_about_1)) (zall_tr (zall_lf zl_X5_about_2 zk_X5_about_2) (zall_tr (zall_lf zl_X5_about_3 zk_X5_about_3) (zall_lf zl_X5_about_4 zk_X5_about_4))))
def zl_X5_sum_0 : List (Nat × zE) := [(0, .iload_n 1, 1, 0, 0, 0), (1, .iload_n 2, 1, 0, 0, 0), (2, .invokestatic 89, 3, 68, 20514, 608), (5, .ifCond .eq 12, 3, 17, 0, 0), (8, .iload_n 3, 1, 0, 0, 0), (9, .iconst 0, 1, 0, 0, 0), (10, .iconst 1, 1, 0, 0, 0), (11, .invokestatic 81, 3, 67, 20531, 586), (14, .ifCond .ne 7, 3, 21, 0, 0), (17, .ldc2_w 93, 3, 9223372036854775808, 0, 307)]
set_option maxRecDepth 100000 in
theorem zk_X5_sum_0 : zl_X5_sum_0.all (zgoodB zmt zm_X5_sum) = true := by decide +kernel
def zl_X5_sum_1 : List (Nat × zE) := [(20, .lreturn, 1, 0, 0, 0), (21, .aload_n 0, 1, 0, 0, 0), (22, .iload_n 1, 1, 0, 0, 0), (23, .iload_n 2, 1, 0, 0, 0), (24, .invokevirtual 171, 3, 77, 20531, 890), (27, .aload_n 0, 1, 0, 0, 0), (28, .getfield 38, 3, 5, 4, 247), (31, .iload_n 3, 1, 0, 0, 0), (32, .invokevirtual 101, 3, 4, 34, 652), (35, .lreturn, 1, 0, 0, 0)]
set_option maxRecDepth 100000 in
theorem zk_X5_sum_1 : zl_X5_sum_1.all (zgoodB zmt zm_X5_sum) = true := by decide +kernel
def zp_X5_sum : Nat → Option zE := (ztr 20 (zlf zl_X5_sum_0) (zlf zl_X5_sum_1))
theorem za_X5_sum : zall (zgood zmt zm_X5_sum) zp_X5_sum := (zall_tr (zall_lf zl_X5_sum_0 zk_X5_sum_0) (zall_lf zl_X5_sum_1 zk_X5_sum_1))
def zl_X5_error_0 : List (Nat × zE) := [(0, .iload_n 1, 1, 0, 0, 0), (1, .iload_n 2, 1, 0, 0, 0), (2, .invokestatic 89, 3, 68, 20514, 608), (5, .ifCond .eq 12, 3, 17, 0, 0), (8, .iload_n 3, 1, 0, 0, 0), (9, .iconst 0, 1, 0, 0, 0), (10, .iconst 1, 1, 0, 0, 0), (11, .invokestatic 81, 3, 67, 20531, 586), (14, .ifCond .ne 7, 3, 21, 0, 0), (17, .ldc2_w 93, 3, 9223372036854775808, 0, 307)]
set_option maxRecDepth 100000 in
theorem zk_X5_error_0 : zl_X5_error_0.all (zgoodB zmt zm_X5_error) = true := by decide +kernel
def zl_X5_error_1 : List (Nat × zE) := [(20, .lreturn, 1, 0, 0, 0), (21, .aload_n 0, 1, 0, 0, 0), (22, .iload_n 1, 1, 0, 0, 0), (23, .iload_n 2, 1, 0, 0, 0), (24, .invokevirtual 175, 3, 78, 20531, 924), (27, .aload_n 0, 1, 0, 0, 0), (28, .getfield 38, 3, 5, 4, 247), (31, .iload_n 3, 1, 0, 0, 0), (32, .invokevirtual 101, 3, 4, 34, 652), (35, .lreturn, 1, 0, 0, 0)]
set_option maxRecDepth 100000 in
theorem zk_X5_error_1 : zl_X5_error_1.all (zgoodB zmt zm_X5_error) = true := by decide +kernel
def zp_X5_error : Nat → Option zE := (ztr 20 (zlf zl_X5_error_0) (zlf zl_X5_error_1))
theorem za_X5_error : zall (zgood zmt zm_X5_error) zp_X5_error := (zall_tr (zall_lf zl_X5_error_0 zk_X5_error_0) (zall_lf zl_X5_error_1 zk_X5_error_1))
def zl_X5_degree_0 : List (Nat × zE) := [(0, .aload_n 0, 1, 0, 0, 0), (1, .invokevirtual 178, 3, 79, 20513, 950), (4, .istore_n 1, 1, 0, 0, 0), (5, .iload_n 1, 1, 0, 0, 0), (6, .bipush (-9), 2, 0, 0, 0), (8, .if_icmp .ne 6, 3, 14, 0, 0), (11, .bipush 6, 2, 0, 0, 0), (13, .ireturn, 1, 0, 0, 0), (14, .getstatic 182, 3, 0, 0, 479), (17, .iload_n 1, 1, 0, 0, 0)]
set_option maxRecDepth 100000 in
theorem zk_X5_degree_0 : zl_X5_degree_0.all (zgoodB zmt zm_X5_degree) = true := by decide +kernel
def zl_X5_degree_1 : List (Nat × zE) := [(18, .iaload, 1, 0, 0, 0), (19, .getstatic 185, 3, 1, 0, 481), (22, .iload_n 1, 1, 0, 0, 0), (23, .iaload, 1, 0, 0, 0), (24, .iadd, 1, 0, 0, 0), (25, .istore_n 2, 1, 0, 0, 0), (26, .iload_n 2, 1, 0, 0, 0), (27, .ifCond .ne 8, 3, 35, 0, 0), (30, .bipush (-9), 2, 0, 0, 0), (32, .goto 6, 3, 38, 0, 0)]
set_option maxRecDepth 100000 in
theorem zk_X5_degree_1 : zl_X5_degree_1.all (zgoodB zmt zm_X5_degree) = true := by decide +kernel
def zl_X5_degree_2 : List (Nat × zE) := [(35, .iload_n 2, 1, 0, 0, 0), (36, .iconst 1, 1, 0, 0, 0), (37, .isub, 1, 0, 0, 0), (38, .ireturn, 1, 0, 0, 0)]
set_option maxRecDepth 100000 in
theorem zk_X5_degree_2 : zl_X5_degree_2.all (zgoodB zmt zm_X5_degree) = true := by decide +kernel
def zp_X5_degree : Nat → Option zE := (ztr 18 (zlf zl_X5_degree_0) (ztr 35 (zlf zl_X5_degree_1) (zlf zl_X5_degree_2)))
theorem za_X5_degree : zall (zgood zmt zm_X5_degree) zp_X5_degree := (zall_tr (zall_lf zl_X5_degree_0 zk_X5_degree_0) (zall_tr (zall_lf zl_X5_degree_1 zk_X5_degree_1) (zall_lf zl_X5_degree_2 zk_X5_degree_2)))
def zl_X5_first_0 : List (Nat × zE) := [(0, .iload_n 1, 1, 0, 0, 0), (1, .iconst 0, 1, 0, 0, 0), (2, .iconst 1, 1, 0, 0, 0), (3, .invokestatic 81, 3, 67, 20531, 586), (6, .ifCond .ne 6, 3, 12, 0, 0), (9, .bipush (-2), 2, 0, 0, 0), (11, .ireturn, 1, 0, 0, 0), (12, .aload_n 0, 1, 0, 0, 0), (13, .invokevirtual 178, 3, 79, 20513, 950), (16, .istore_n 2, 1, 0, 0, 0)]
set_option maxRecDepth 100000 in
theorem zk_X5_first_0 : zl_X5_first_0.all (zgoodB zmt zm_X5_first) = true := by decide +kernel
def zl_X5_first_1 : List (Nat × zE) := [(17, .iload_n 2, 1, 0, 0, 0), (18, .bipush (-9), 2, 0, 0, 0), (20, .if_icmp .ne 6, 3, 26, 0, 0), (23, .bipush (-3), 2, 0, 0, 0), (25, .ireturn, 1, 0, 0, 0), (26, .iload_n 1, 1, 0, 0, 0), (27, .ifCond .ne 11, 3, 38, 0, 0), (30, .getstatic 182, 3, 0, 0, 479), (33, .iload_n 2, 1, 0, 0, 0), (34, .iaload, 1, 0, 0, 0)]
set_option maxRecDepth 100000 in
theorem zk_X5_first_1 : zl_X5_first_1.all (zgoodB zmt zm_X5_first) = true := by decide +kernel
def zl_X5_first_2 : List (Nat × zE) := [(35, .goto 8, 3, 43, 0, 0), (38, .getstatic 185, 3, 1, 0, 481), (41, .iload_n 2, 1, 0, 0, 0), (42, .iaload, 1, 0, 0, 0), (43, .ireturn, 1, 0, 0, 0)]
set_option maxRecDepth 100000 in
theorem zk_X5_first_2 : zl_X5_first_2.all (zgoodB zmt zm_X5_first) = true := by decide +kernel
def zp_X5_first : Nat → Option zE := (ztr 17 (zlf zl_X5_first_0) (ztr 35 (zlf zl_X5_first_1) (zlf zl_X5_first_2)))
theorem za_X5_first : zall (zgood zmt zm_X5_first) zp_X5_first := (zall_tr (zall_lf zl_X5_first_0 zk_X5_first_0) (zall_tr (zall_lf zl_X5_first_1 zk_X5_first_1) (zall_lf zl_X5_first_2 zk_X5_first_2)))
def zl_X5_is_0 : List (Nat × zE) := [(0, .iload_n 1, 1, 0, 0, 0), (1, .tableswitch 66 0 2 #[27, 40, 53], 27, 0, 0, 0), (28, .aload_n 0, 1, 0, 0, 0), (29, .invokevirtual 188, 3, 80, 20513, 982), (32, .ifCond .eq 7, 3, 39, 0, 0), (35, .iconst 1, 1, 0, 0, 0), (36, .goto 4, 3, 40, 0, 0), (39, .iconst 0, 1, 0, 0, 0), (40, .ireturn, 1, 0, 0, 0), (41, .aload_n 0, 1, 0, 0, 0)]
set_option maxRecDepth 100000 in
theorem zk_X5_is_0 : zl_X5_is_0.all (zgoodB zmt zm_X5_is) = true := by decide +kernel
def zl_X5_is_1 : List (Nat × zE) := [(42, .invokevirtual 191, 3, 81, 20513, 990), (45, .ifCond .eq 7, 3, 52, 0, 0), (48, .iconst 1, 1, 0, 0, 0), (49, .goto 4, 3, 53, 0, 0), (52, .iconst 0, 1, 0, 0, 0), (53, .ireturn, 1, 0, 0, 0), (54, .aload_n 0, 1, 0, 0, 0), (55, .invokevirtual 194, 3, 82, 20513, 998), (58, .ifCond .eq 7, 3, 65, 0, 0), (61, .iconst 1, 1, 0, 0, 0)]
set_option maxRecDepth 100000 in
theorem zk_X5_is_1 : zl_X5_is_1.all (zgoodB zmt zm_X5_is) = true := by decide +kernel
def zl_X5_is_2 : List (Nat × zE) := [(62, .goto 4, 3, 66, 0, 0), (65, .iconst 0, 1, 0, 0, 0), (66, .ireturn, 1, 0, 0, 0), (67, .bipush (-2), 2, 0, 0, 0), (69, .ireturn, 1, 0, 0, 0)]
set_option maxRecDepth 100000 in
theorem zk_X5_is_2 : zl_X5_is_2.all (zgoodB zmt zm_X5_is) = true := by decide +kernel
def zp_X5_is : Nat → Option zE := (ztr 42 (zlf zl_X5_is_0) (ztr 62 (zlf zl_X5_is_1) (zlf zl_X5_is_2)))
theorem za_X5_is : zall (zgood zmt zm_X5_is) zp_X5_is := (zall_tr (zall_lf zl_X5_is_0 zk_X5_is_0) (zall_tr (zall_lf zl_X5_is_1 zk_X5_is_1) (zall_lf zl_X5_is_2 zk_X5_is_2)))
def zl_X5_least_0 : List (Nat × zE) := [(0, .iload_n 1, 1, 0, 0, 0), (1, .iconst 0, 1, 0, 0, 0), (2, .bipush 6, 2, 0, 0, 0), (4, .invokestatic 81, 3, 67, 20531, 586), (7, .ifCond .ne 6, 3, 13, 0, 0), (10, .bipush (-2), 2, 0, 0, 0), (12, .ireturn, 1, 0, 0, 0), (13, .iload_n 1, 1, 0, 0, 0), (14, .iconst 2, 1, 0, 0, 0), (15, .idiv, 1, 0, 0, 0)]
set_option maxRecDepth 100000 in
theorem zk_X5_least_0 : zl_X5_least_0.all (zgoodB zmt zm_X5_least) = true := by decide +kernel
def zl_X5_least_1 : List (Nat × zE) := [(16, .istore_n 2, 1, 0, 0, 0), (17, .iload_n 2, 1, 0, 0, 0), (18, .iconst 1, 1, 0, 0, 0), (19, .iadd, 1, 0, 0, 0), (20, .iload_n 2, 1, 0, 0, 0), (21, .iconst 2, 1, 0, 0, 0), (22, .iadd, 1, 0, 0, 0), (23, .imul, 1, 0, 0, 0), (24, .iconst 2, 1, 0, 0, 0), (25, .idiv, 1, 0, 0, 0)]
set_option maxRecDepth 100000 in
theorem zk_X5_least_1 : zl_X5_least_1.all (zgoodB zmt zm_X5_least) = true := by decide +kernel
def zl_X5_least_2 : List (Nat × zE) := [(26, .ireturn, 1, 0, 0, 0)]
set_option maxRecDepth 100000 in
theorem zk_X5_least_2 : zl_X5_least_2.all (zgoodB zmt zm_X5_least) = true := by decide +kernel
def zp_X5_least : Nat → Option zE := (ztr 16 (zlf zl_X5_least_0) (ztr 26 (zlf zl_X5_least_1) (zlf zl_X5_least_2)))
theorem za_X5_least : zall (zgood zmt zm_X5_least) zp_X5_least := (zall_tr (zall_lf zl_X5_least_0 zk_X5_least_0) (zall_tr (zall_lf zl_X5_least_1 zk_X5_least_1) (zall_lf zl_X5_least_2 zk_X5_least_2)))
def zl_X5_keep_0 : List (Nat × zE) := [(0, .iload_n 1, 1, 0, 0, 0), (1, .iconst 0, 1, 0, 0, 0), (2, .iconst 5, 1, 0, 0, 0), (3, .invokestatic 81, 3, 67, 20531, 586), (6, .ifCond .ne 5, 3, 11, 0, 0), (9, .iconst (-1), 1, 0, 0, 0), (10, .ireturn, 1, 0, 0, 0), (11, .aload_n 0, 1, 0, 0, 0), (12, .getfield 45, 3, 5, 6, 249), (15, .iload_n 1, 1, 0, 0, 0)]
set_option maxRecDepth 100000 in
theorem zk_X5_keep_0 : zl_X5_keep_0.all (zgoodB zmt zm_X5_keep) = true := by decide +kernel
def zl_X5_keep_1 : List (Nat × zE) := [(16, .aaload, 1, 0, 0, 0), (17, .aload_n 0, 1, 0, 0, 0), (18, .getfield 12, 3, 5, 0, 243), (21, .invokevirtual 197, 3, 21, 12322, 806), (24, .aload_n 0, 1, 0, 0, 0), (25, .getfield 49, 3, 5, 7, 250), (28, .iload_n 1, 1, 0, 0, 0), (29, .iconst 1, 1, 0, 0, 0), (30, .bastore, 1, 0, 0, 0), (31, .aload_n 0, 1, 0, 0, 0)]
set_option maxRecDepth 100000 in
theorem zk_X5_keep_1 : zl_X5_keep_1.all (zgoodB zmt zm_X5_keep) = true := by decide +kernel
def zl_X5_keep_2 : List (Nat × zE) := [(32, .getfield 12, 3, 5, 0, 243), (35, .getfield 155, 3, 3, 3, 82), (38, .ireturn, 1, 0, 0, 0)]
set_option maxRecDepth 100000 in
theorem zk_X5_keep_2 : zl_X5_keep_2.all (zgoodB zmt zm_X5_keep) = true := by decide +kernel
def zp_X5_keep : Nat → Option zE := (ztr 16 (zlf zl_X5_keep_0) (ztr 32 (zlf zl_X5_keep_1) (zlf zl_X5_keep_2)))
theorem za_X5_keep : zall (zgood zmt zm_X5_keep) zp_X5_keep := (zall_tr (zall_lf zl_X5_keep_0 zk_X5_keep_0) (zall_tr (zall_lf zl_X5_keep_1 zk_X5_keep_1) (zall_lf zl_X5_keep_2 zk_X5_keep_2)))
def zl_X5_load_0 : List (Nat × zE) := [(0, .iload_n 1, 1, 0, 0, 0), (1, .iconst 0, 1, 0, 0, 0), (2, .iconst 5, 1, 0, 0, 0), (3, .invokestatic 81, 3, 67, 20531, 586), (6, .ifCond .eq 12, 3, 18, 0, 0), (9, .aload_n 0, 1, 0, 0, 0), (10, .getfield 49, 3, 5, 7, 250), (13, .iload_n 1, 1, 0, 0, 0), (14, .baload, 1, 0, 0, 0), (15, .ifCond .ne 5, 3, 20, 0, 0)]
set_option maxRecDepth 100000 in
theorem zk_X5_load_0 : zl_X5_load_0.all (zgoodB zmt zm_X5_load) = true := by decide +kernel
def zl_X5_load_1 : List (Nat × zE) := [(18, .iconst (-1), 1, 0, 0, 0), (19, .ireturn, 1, 0, 0, 0), (20, .aload_n 0, 1, 0, 0, 0), (21, .getfield 12, 3, 5, 0, 243), (24, .aload_n 0, 1, 0, 0, 0), (25, .getfield 45, 3, 5, 6, 249), (28, .iload_n 1, 1, 0, 0, 0), (29, .aaload, 1, 0, 0, 0), (30, .invokevirtual 197, 3, 21, 12322, 806), (33, .aload_n 0, 1, 0, 0, 0)]
set_option maxRecDepth 100000 in
theorem zk_X5_load_1 : zl_X5_load_1.all (zgoodB zmt zm_X5_load) = true := by decide +kernel
def zl_X5_load_2 : List (Nat × zE) := [(34, .getfield 12, 3, 5, 0, 243), (37, .getfield 155, 3, 3, 3, 82), (40, .ireturn, 1, 0, 0, 0)]
set_option maxRecDepth 100000 in
theorem zk_X5_load_2 : zl_X5_load_2.all (zgoodB zmt zm_X5_load) = true := by decide +kernel
def zp_X5_load : Nat → Option zE := (ztr 18 (zlf zl_X5_load_0) (ztr 34 (zlf zl_X5_load_1) (zlf zl_X5_load_2)))
theorem za_X5_load : zall (zgood zmt zm_X5_load) zp_X5_load := (zall_tr (zall_lf zl_X5_load_0 zk_X5_load_0) (zall_tr (zall_lf zl_X5_load_1 zk_X5_load_1) (zall_lf zl_X5_load_2 zk_X5_load_2)))
def zl_X5_pair_0 : List (Nat × zE) := [(0, .iload_n 1, 1, 0, 0, 0), (1, .iconst 1, 1, 0, 0, 0), (2, .iconst 5, 1, 0, 0, 0), (3, .invokestatic 81, 3, 67, 20531, 586), (6, .ifCond .eq 13, 3, 19, 0, 0), (9, .iload_n 2, 1, 0, 0, 0), (10, .iconst 1, 1, 0, 0, 0), (11, .bipush 6, 2, 0, 0, 0), (13, .invokestatic 81, 3, 67, 20531, 586), (16, .ifCond .ne 6, 3, 22, 0, 0)]
set_option maxRecDepth 100000 in
theorem zk_X5_pair_0 : zl_X5_pair_0.all (zgoodB zmt zm_X5_pair) = true := by decide +kernel
def zl_X5_pair_1 : List (Nat × zE) := [(19, .bipush (-2), 2, 0, 0, 0), (21, .ireturn, 1, 0, 0, 0), (22, .aload_n 0, 1, 0, 0, 0), (23, .getfield 31, 3, 5, 3, 246), (26, .aload_n 0, 1, 0, 0, 0), (27, .getfield 12, 3, 5, 0, 243), (30, .getfield 95, 3, 3, 0, 76), (33, .iload_n 2, 1, 0, 0, 0), (34, .aload_n 0, 1, 0, 0, 0), (35, .getfield 24, 3, 5, 2, 245)]
set_option maxRecDepth 100000 in
theorem zk_X5_pair_1 : zl_X5_pair_1.all (zgoodB zmt zm_X5_pair) = true := by decide +kernel
def zl_X5_pair_2 : List (Nat × zE) := [(38, .invokevirtual 201, 3, 6, 4196, 1046), (41, .aload_n 0, 1, 0, 0, 0), (42, .getfield 31, 3, 5, 3, 246), (45, .iload_n 1, 1, 0, 0, 0), (46, .invokevirtual 204, 3, 10, 4194, 1102), (49, .ifCond .ne 6, 3, 55, 0, 0), (52, .bipush (-9), 2, 0, 0, 0), (54, .ireturn, 1, 0, 0, 0), (55, .aload_n 0, 1, 0, 0, 0), (56, .aload_n 0, 1, 0, 0, 0)]
set_option maxRecDepth 100000 in
theorem zk_X5_pair_2 : zl_X5_pair_2.all (zgoodB zmt zm_X5_pair) = true := by decide +kernel
def zl_X5_pair_3 : List (Nat × zE) := [(57, .getfield 31, 3, 5, 3, 246), (60, .getfield 207, 3, 1, 17, 179), (63, .aload_n 0, 1, 0, 0, 0), (64, .getfield 31, 3, 5, 3, 246), (67, .getfield 210, 3, 1, 18, 181), (70, .invokevirtual 213, 3, 84, 20531, 1140), (73, .aload_n 0, 1, 0, 0, 0), (74, .getfield 12, 3, 5, 0, 243), (77, .getfield 155, 3, 3, 3, 82), (80, .ireturn, 1, 0, 0, 0)]
set_option maxRecDepth 100000 in
theorem zk_X5_pair_3 : zl_X5_pair_3.all (zgoodB zmt zm_X5_pair) = true := by decide +kernel
def zp_X5_pair : Nat → Option zE := (ztr 38 (ztr 19 (zlf zl_X5_pair_0) (zlf zl_X5_pair_1)) (ztr 57 (zlf zl_X5_pair_2) (zlf zl_X5_pair_3)))
theorem za_X5_pair : zall (zgood zmt zm_X5_pair) zp_X5_pair := (zall_tr (zall_tr (zall_lf zl_X5_pair_0 zk_X5_pair_0) (zall_lf zl_X5_pair_1 zk_X5_pair_1)) (zall_tr (zall_lf zl_X5_pair_2 zk_X5_pair_2) (zall_lf zl_X5_pair_3 zk_X5_pair_3)))
def zl_X5_term_0 : List (Nat × zE) := [(0, .iload_n 1, 1, 0, 0, 0), (1, .iconst 0, 1, 0, 0, 0), (2, .bipush 14, 2, 0, 0, 0), (4, .invokestatic 81, 3, 67, 20531, 586), (7, .ifCond .eq 16, 3, 23, 0, 0), (10, .iload_n 2, 1, 0, 0, 0), (11, .sipush (-1000), 3, 0, 0, 0), (14, .sipush 1000, 3, 0, 0, 0), (17, .invokestatic 81, 3, 67, 20531, 586), (20, .ifCond .ne 7, 3, 27, 0, 0)]
set_option maxRecDepth 100000 in
theorem zk_X5_term_0 : zl_X5_term_0.all (zgoodB zmt zm_X5_term) = true := by decide +kernel
def zl_X5_term_1 : List (Nat × zE) := [(23, .ldc2_w 93, 3, 9223372036854775808, 0, 307), (26, .lreturn, 1, 0, 0, 0), (27, .aload_n 0, 1, 0, 0, 0), (28, .getfield 53, 3, 5, 8, 251), (31, .iload_n 1, 1, 0, 0, 0), (32, .iaload, 1, 0, 0, 0), (33, .istore_n 3, 1, 0, 0, 0), (34, .aload_n 0, 1, 0, 0, 0), (35, .getfield 53, 3, 5, 8, 251), (38, .iload_n 1, 1, 0, 0, 0)]
set_option maxRecDepth 100000 in
theorem zk_X5_term_1 : zl_X5_term_1.all (zgoodB zmt zm_X5_term) = true := by decide +kernel
def zl_X5_term_2 : List (Nat × zE) := [(39, .iload_n 2, 1, 0, 0, 0), (40, .iastore, 1, 0, 0, 0), (41, .iload_n 3, 1, 0, 0, 0), (42, .i2l, 1, 0, 0, 0), (43, .lreturn, 1, 0, 0, 0)]
set_option maxRecDepth 100000 in
theorem zk_X5_term_2 : zl_X5_term_2.all (zgoodB zmt zm_X5_term) = true := by decide +kernel
def zp_X5_term : Nat → Option zE := (ztr 23 (zlf zl_X5_term_0) (ztr 39 (zlf zl_X5_term_1) (zlf zl_X5_term_2)))
theorem za_X5_term : zall (zgood zmt zm_X5_term) zp_X5_term := (zall_tr (zall_lf zl_X5_term_0 zk_X5_term_0) (zall_tr (zall_lf zl_X5_term_1 zk_X5_term_1) (zall_lf zl_X5_term_2 zk_X5_term_2)))
def zl_X5_whole_0 : List (Nat × zE) := [(0, .iload_n 1, 1, 0, 0, 0), (1, .iconst 0, 1, 0, 0, 0), (2, .iconst 1, 1, 0, 0, 0), (3, .invokestatic 81, 3, 67, 20531, 586), (6, .ifCond .ne 7, 3, 13, 0, 0), (9, .ldc2_w 93, 3, 9223372036854775808, 0, 307), (12, .lreturn, 1, 0, 0, 0), (13, .aload_n 0, 1, 0, 0, 0), (14, .getfield 38, 3, 5, 4, 247), (17, .lconst 0, 1, 0, 0, 0)]
set_option maxRecDepth 100000 in
theorem zk_X5_whole_0 : zl_X5_whole_0.all (zgoodB zmt zm_X5_whole) = true := by decide +kernel
def zl_X5_whole_1 : List (Nat × zE) := [(18, .lconst 1, 1, 0, 0, 0), (19, .invokevirtual 216, 3, 1, 147, 914), (22, .iconst 0, 1, 0, 0, 0), (23, .istore_n 2, 1, 0, 0, 0), (24, .iload_n 2, 1, 0, 0, 0), (25, .bipush 15, 2, 0, 0, 0), (27, .if_icmp .ge 51, 3, 78, 0, 0), (30, .aload_n 0, 1, 0, 0, 0), (31, .getfield 42, 3, 5, 5, 248), (34, .aload_n 0, 1, 0, 0, 0)]
set_option maxRecDepth 100000 in
theorem zk_X5_whole_1 : zl_X5_whole_1.all (zgoodB zmt zm_X5_whole) = true := by decide +kernel
def zl_X5_whole_2 : List (Nat × zE) := [(35, .getfield 12, 3, 5, 0, 243), (38, .getfield 95, 3, 3, 0, 76), (41, .getstatic 182, 3, 0, 0, 479), (44, .iload_n 2, 1, 0, 0, 0), (45, .iaload, 1, 0, 0, 0), (46, .getstatic 185, 3, 1, 0, 481), (49, .iload_n 2, 1, 0, 0, 0), (50, .iaload, 1, 0, 0, 0), (51, .invokevirtual 98, 3, 3, 100, 616), (54, .aload_n 0, 1, 0, 0, 0)]
set_option maxRecDepth 100000 in
theorem zk_X5_whole_2 : zl_X5_whole_2.all (zgoodB zmt zm_X5_whole) = true := by decide +kernel
def zl_X5_whole_3 : List (Nat × zE) := [(55, .getfield 38, 3, 5, 4, 247), (58, .aload_n 0, 1, 0, 0, 0), (59, .getfield 53, 3, 5, 8, 251), (62, .iload_n 2, 1, 0, 0, 0), (63, .iaload, 1, 0, 0, 0), (64, .i2l, 1, 0, 0, 0), (65, .aload_n 0, 1, 0, 0, 0), (66, .getfield 42, 3, 5, 5, 248), (69, .invokevirtual 220, 3, 2, 67, 934), (72, .iinc 2 1, 3, 0, 0, 0)]
set_option maxRecDepth 100000 in
theorem zk_X5_whole_3 : zl_X5_whole_3.all (zgoodB zmt zm_X5_whole) = true := by decide +kernel
def zl_X5_whole_4 : List (Nat × zE) := [(75, .goto (-51), 3, 24, 0, 0), (78, .aload_n 0, 1, 0, 0, 0), (79, .getfield 38, 3, 5, 4, 247), (82, .iload_n 1, 1, 0, 0, 0), (83, .invokevirtual 101, 3, 4, 34, 652), (86, .lreturn, 1, 0, 0, 0)]
set_option maxRecDepth 100000 in
theorem zk_X5_whole_4 : zl_X5_whole_4.all (zgoodB zmt zm_X5_whole) = true := by decide +kernel
def zp_X5_whole : Nat → Option zE := (ztr 35 (ztr 18 (zlf zl_X5_whole_0) (zlf zl_X5_whole_1)) (ztr 55 (zlf zl_X5_whole_2) (ztr 75 (zlf zl_X5_whole_3) (zlf zl_X5_whole_4))))
theorem za_X5_whole : zall (zgood zmt zm_X5_whole) zp_X5_whole := (zall_tr (zall_tr (zall_lf zl_X5_whole_0 zk_X5_whole_0) (zall_lf zl_X5_whole_1 zk_X5_whole_1)) (zall_tr (zall_lf zl_X5_whole_2 zk_X5_whole_2) (zall_tr (zall_lf zl_X5_whole_3 zk_X5_whole_3) (zall_lf zl_X5_whole_4 zk_X5_whole_4))))
def zl_X5_byRule_0 : List (Nat × zE) := [(0, .iload_n 1, 1, 0, 0, 0), (1, .iconst 1, 1, 0, 0, 0), (2, .iconst 3, 1, 0, 0, 0), (3, .invokestatic 81, 3, 67, 20531, 586), (6, .ifCond .eq 12, 3, 18, 0, 0), (9, .iload_n 2, 1, 0, 0, 0), (10, .iconst 0, 1, 0, 0, 0), (11, .iconst 1, 1, 0, 0, 0), (12, .invokestatic 81, 3, 67, 20531, 586), (15, .ifCond .ne 7, 3, 22, 0, 0)]
set_option maxRecDepth 100000 in
theorem zk_X5_byRule_0 : zl_X5_byRule_0.all (zgoodB zmt zm_X5_byRule) = true := by decide +kernel
def zl_X5_byRule_1 : List (Nat × zE) := [(18, .ldc2_w 93, 3, 9223372036854775808, 0, 307), (21, .lreturn, 1, 0, 0, 0), (22, .iload_n 1, 1, 0, 0, 0), (23, .iconst 1, 1, 0, 0, 0), (24, .if_icmp .le 17, 3, 41, 0, 0), (27, .aload_n 0, 1, 0, 0, 0), (28, .getfield 12, 3, 5, 0, 243), (31, .getfield 95, 3, 3, 0, 76), (34, .ifCond .eq 7, 3, 41, 0, 0), (37, .ldc2_w 93, 3, 9223372036854775808, 0, 307)]
set_option maxRecDepth 100000 in
theorem zk_X5_byRule_1 : zl_X5_byRule_1.all (zgoodB zmt zm_X5_byRule) = true := by decide +kernel
def zl_X5_byRule_2 : List (Nat × zE) := [(40, .lreturn, 1, 0, 0, 0), (41, .aload_n 0, 1, 0, 0, 0), (42, .iload_n 1, 1, 0, 0, 0), (43, .invokevirtual 224, 3, 85, 20578, 1174), (46, .aload_n 0, 1, 0, 0, 0), (47, .getfield 38, 3, 5, 4, 247), (50, .iload_n 2, 1, 0, 0, 0), (51, .invokevirtual 101, 3, 4, 34, 652), (54, .lreturn, 1, 0, 0, 0)]
set_option maxRecDepth 100000 in
theorem zk_X5_byRule_2 : zl_X5_byRule_2.all (zgoodB zmt zm_X5_byRule) = true := by decide +kernel
def zp_X5_byRule : Nat → Option zE := (ztr 18 (zlf zl_X5_byRule_0) (ztr 40 (zlf zl_X5_byRule_1) (zlf zl_X5_byRule_2)))
theorem za_X5_byRule : zall (zgood zmt zm_X5_byRule) zp_X5_byRule := (zall_tr (zall_lf zl_X5_byRule_0 zk_X5_byRule_0) (zall_tr (zall_lf zl_X5_byRule_1 zk_X5_byRule_1) (zall_lf zl_X5_byRule_2 zk_X5_byRule_2)))
def zl_X5_sheet_0 : List (Nat × zE) := [(0, .aload_n 0, 1, 0, 0, 0), (1, .iconst 0, 1, 0, 0, 0), (2, .putfield 77, 3, 5, 14, 257), (5, .iload_n 1, 1, 0, 0, 0), (6, .iconst 0, 1, 0, 0, 0), (7, .iconst 3, 1, 0, 0, 0), (8, .invokestatic 81, 3, 67, 20531, 586), (11, .ifCond .ne 5, 3, 16, 0, 0), (14, .iconst (-1), 1, 0, 0, 0), (15, .ireturn, 1, 0, 0, 0)]
set_option maxRecDepth 100000 in
theorem zk_X5_sheet_0 : zl_X5_sheet_0.all (zgoodB zmt zm_X5_sheet) = true := by decide +kernel
def zl_X5_sheet_1 : List (Nat × zE) := [(16, .iload_n 2, 1, 0, 0, 0), (17, .iconst 0, 1, 0, 0, 0), (18, .iconst 2, 1, 0, 0, 0), (19, .invokestatic 81, 3, 67, 20531, 586), (22, .ifCond .eq 9, 3, 31, 0, 0), (25, .iload_n 3, 1, 0, 0, 0), (26, .bipush 72, 2, 0, 0, 0), (28, .if_icmp .le 6, 3, 34, 0, 0), (31, .bipush (-2), 2, 0, 0, 0), (33, .ireturn, 1, 0, 0, 0)]
set_option maxRecDepth 100000 in
theorem zk_X5_sheet_1 : zl_X5_sheet_1.all (zgoodB zmt zm_X5_sheet) = true := by decide +kernel
def zl_X5_sheet_2 : List (Nat × zE) := [(34, .iload_n 3, 1, 0, 0, 0), (35, .ifCond .ge 9, 3, 44, 0, 0), (38, .aload_n 0, 1, 0, 0, 0), (39, .iconst 4, 1, 0, 0, 0), (40, .invokevirtual 131, 3, 73, 20514, 772), (43, .ireturn, 1, 0, 0, 0), (44, .aload_n 0, 1, 0, 0, 0), (45, .getfield 69, 3, 5, 12, 255), (48, .iload_n 1, 1, 0, 0, 0), (49, .aaload, 1, 0, 0, 0)]
set_option maxRecDepth 100000 in
theorem zk_X5_sheet_2 : zl_X5_sheet_2.all (zgoodB zmt zm_X5_sheet) = true := by decide +kernel
def zl_X5_sheet_3 : List (Nat × zE) := [(50, .iload_n 2, 1, 0, 0, 0), (51, .iload_n 3, 1, 0, 0, 0), (52, .invokevirtual 227, 3, 31, 16435, 1208), (55, .iconst 1, 1, 0, 0, 0), (56, .ireturn, 1, 0, 0, 0)]
set_option maxRecDepth 100000 in
theorem zk_X5_sheet_3 : zl_X5_sheet_3.all (zgoodB zmt zm_X5_sheet) = true := by decide +kernel
def zp_X5_sheet : Nat → Option zE := (ztr 34 (ztr 16 (zlf zl_X5_sheet_0) (zlf zl_X5_sheet_1)) (ztr 50 (zlf zl_X5_sheet_2) (zlf zl_X5_sheet_3)))
theorem za_X5_sheet : zall (zgood zmt zm_X5_sheet) zp_X5_sheet := (zall_tr (zall_tr (zall_lf zl_X5_sheet_0 zk_X5_sheet_0) (zall_lf zl_X5_sheet_1 zk_X5_sheet_1)) (zall_tr (zall_lf zl_X5_sheet_2 zk_X5_sheet_2) (zall_lf zl_X5_sheet_3 zk_X5_sheet_3)))
