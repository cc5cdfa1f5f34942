/-! ===== the code table, 2 ===== -/
def zl_X5_lose_0 : List (Nat × zE) := [(0, .iload_n 1, 1, 0, 0, 0), (1, .iconst 0, 1, 0, 0, 0), (2, .iconst 3, 1, 0, 0, 0), (3, .invokestatic 81, 3, 67, 20531, 586), (6, .ifCond .ne 5, 3, 11, 0, 0), (9, .iconst (-1), 1, 0, 0, 0), (10, .ireturn, 1, 0, 0, 0), (11, .aload_n 0, 1, 0, 0, 0), (12, .getfield 69, 3, 5, 12, 255), (15, .iload_n 1, 1, 0, 0, 0)]
set_option maxRecDepth 100000 in
theorem zk_X5_lose_0 : zl_X5_lose_0.all (zgoodB zmt zm_X5_lose) = true := by decide +kernel
def zl_X5_lose_1 : List (Nat × zE) := [(16, .aaload, 1, 0, 0, 0), (17, .invokevirtual 134, 3, 33, 16401, 780), (20, .ifCond .eq 5, 3, 25, 0, 0), (23, .iconst 0, 1, 0, 0, 0), (24, .ireturn, 1, 0, 0, 0), (25, .aload_n 0, 1, 0, 0, 0), (26, .getfield 69, 3, 5, 12, 255), (29, .iload_n 1, 1, 0, 0, 0), (30, .aaload, 1, 0, 0, 0), (31, .invokevirtual 230, 3, 32, 16401, 1230)]
set_option maxRecDepth 100000 in
theorem zk_X5_lose_1 : zl_X5_lose_1.all (zgoodB zmt zm_X5_lose) = true := by decide +kernel
def zl_X5_lose_2 : List (Nat × zE) := [(34, .iconst 1, 1, 0, 0, 0), (35, .ireturn, 1, 0, 0, 0)]
set_option maxRecDepth 100000 in
theorem zk_X5_lose_2 : zl_X5_lose_2.all (zgoodB zmt zm_X5_lose) = true := by decide +kernel
def zp_X5_lose : Nat → Option zE := (ztr 16 (zlf zl_X5_lose_0) (ztr 34 (zlf zl_X5_lose_1) (zlf zl_X5_lose_2)))
theorem za_X5_lose : zall (zgood zmt zm_X5_lose) zp_X5_lose := (zall_tr (zall_lf zl_X5_lose_0 zk_X5_lose_0) (zall_tr (zall_lf zl_X5_lose_1 zk_X5_lose_1) (zall_lf zl_X5_lose_2 zk_X5_lose_2)))
def zl_X5_put_0 : List (Nat × zE) := [(0, .aload_n 0, 1, 0, 0, 0), (1, .iconst 0, 1, 0, 0, 0), (2, .putfield 77, 3, 5, 14, 257), (5, .iload_n 1, 1, 0, 0, 0), (6, .iconst 0, 1, 0, 0, 0), (7, .iconst 3, 1, 0, 0, 0), (8, .invokestatic 81, 3, 67, 20531, 586), (11, .ifCond .ne 5, 3, 16, 0, 0), (14, .iconst (-1), 1, 0, 0, 0), (15, .ireturn, 1, 0, 0, 0)]
set_option maxRecDepth 100000 in
theorem zk_X5_put_0 : zl_X5_put_0.all (zgoodB zmt zm_X5_put) = true := by decide +kernel
def zl_X5_put_1 : List (Nat × zE) := [(16, .aload_n 0, 1, 0, 0, 0), (17, .getfield 69, 3, 5, 12, 255), (20, .iload_n 1, 1, 0, 0, 0), (21, .aaload, 1, 0, 0, 0), (22, .astore 4, 2, 0, 0, 0), (24, .aload 4, 2, 0, 0, 0), (26, .invokevirtual 134, 3, 33, 16401, 780), (29, .ifCond .eq 9, 3, 38, 0, 0), (32, .aload_n 0, 1, 0, 0, 0), (33, .iconst 1, 1, 0, 0, 0)]
set_option maxRecDepth 100000 in
theorem zk_X5_put_1 : zl_X5_put_1.all (zgoodB zmt zm_X5_put) = true := by decide +kernel
def zl_X5_put_2 : List (Nat × zE) := [(34, .invokevirtual 131, 3, 73, 20514, 772), (37, .ireturn, 1, 0, 0, 0), (38, .aload 4, 2, 0, 0, 0), (40, .iload_n 2, 1, 0, 0, 0), (41, .lconst 1, 1, 0, 0, 0), (42, .invokevirtual 140, 3, 35, 16451, 790), (45, .ifCond .ne 9, 3, 54, 0, 0), (48, .aload_n 0, 1, 0, 0, 0), (49, .iconst 3, 1, 0, 0, 0), (50, .invokevirtual 131, 3, 73, 20514, 772)]
set_option maxRecDepth 100000 in
theorem zk_X5_put_2 : zl_X5_put_2.all (zgoodB zmt zm_X5_put) = true := by decide +kernel
def zl_X5_put_3 : List (Nat × zE) := [(53, .ireturn, 1, 0, 0, 0), (54, .aload 4, 2, 0, 0, 0), (56, .iload_n 2, 1, 0, 0, 0), (57, .iload_n 3, 1, 0, 0, 0), (58, .invokevirtual 233, 3, 36, 16435, 1246), (61, .iconst 1, 1, 0, 0, 0), (62, .ireturn, 1, 0, 0, 0)]
set_option maxRecDepth 100000 in
theorem zk_X5_put_3 : zl_X5_put_3.all (zgoodB zmt zm_X5_put) = true := by decide +kernel
def zp_X5_put : Nat → Option zE := (ztr 34 (ztr 16 (zlf zl_X5_put_0) (zlf zl_X5_put_1)) (ztr 53 (zlf zl_X5_put_2) (zlf zl_X5_put_3)))
theorem za_X5_put : zall (zgood zmt zm_X5_put) zp_X5_put := (zall_tr (zall_tr (zall_lf zl_X5_put_0 zk_X5_put_0) (zall_lf zl_X5_put_1 zk_X5_put_1)) (zall_tr (zall_lf zl_X5_put_2 zk_X5_put_2) (zall_lf zl_X5_put_3 zk_X5_put_3)))
def zl_X5_at_0 : List (Nat × zE) := [(0, .aload_n 0, 1, 0, 0, 0), (1, .iconst 0, 1, 0, 0, 0), (2, .putfield 77, 3, 5, 14, 257), (5, .iload_n 1, 1, 0, 0, 0), (6, .iconst 0, 1, 0, 0, 0), (7, .iconst 3, 1, 0, 0, 0), (8, .invokestatic 81, 3, 67, 20531, 586), (11, .ifCond .eq 12, 3, 23, 0, 0), (14, .iload_n 3, 1, 0, 0, 0), (15, .iconst 0, 1, 0, 0, 0)]
set_option maxRecDepth 100000 in
theorem zk_X5_at_0 : zl_X5_at_0.all (zgoodB zmt zm_X5_at) = true := by decide +kernel
def zl_X5_at_1 : List (Nat × zE) := [(16, .iconst 2, 1, 0, 0, 0), (17, .invokestatic 81, 3, 67, 20531, 586), (20, .ifCond .ne 7, 3, 27, 0, 0), (23, .ldc2_w 93, 3, 9223372036854775808, 0, 307), (26, .lreturn, 1, 0, 0, 0), (27, .aload_n 0, 1, 0, 0, 0), (28, .getfield 69, 3, 5, 12, 255), (31, .iload_n 1, 1, 0, 0, 0), (32, .aaload, 1, 0, 0, 0), (33, .astore 4, 2, 0, 0, 0)]
set_option maxRecDepth 100000 in
theorem zk_X5_at_1 : zl_X5_at_1.all (zgoodB zmt zm_X5_at) = true := by decide +kernel
def zl_X5_at_2 : List (Nat × zE) := [(35, .aload 4, 2, 0, 0, 0), (37, .iload_n 2, 1, 0, 0, 0), (38, .iload_n 3, 1, 0, 0, 0), (39, .invokestatic 236, 3, 88, 20531, 1262), (42, .istore 5, 2, 0, 0, 0), (44, .iload 5, 2, 0, 0, 0), (46, .ifCond .eq 13, 3, 59, 0, 0), (49, .aload_n 0, 1, 0, 0, 0), (50, .iload 5, 2, 0, 0, 0), (52, .putfield 77, 3, 5, 14, 257)]
set_option maxRecDepth 100000 in
theorem zk_X5_at_2 : zl_X5_at_2.all (zgoodB zmt zm_X5_at) = true := by decide +kernel
def zl_X5_at_3 : List (Nat × zE) := [(55, .ldc2_w 93, 3, 9223372036854775808, 0, 307), (58, .lreturn, 1, 0, 0, 0), (59, .aload 4, 2, 0, 0, 0), (61, .getfield 239, 3, 4, 2, 234), (64, .iload_n 2, 1, 0, 0, 0), (65, .iaload, 1, 0, 0, 0), (66, .i2l, 1, 0, 0, 0), (67, .lreturn, 1, 0, 0, 0)]
set_option maxRecDepth 100000 in
theorem zk_X5_at_3 : zl_X5_at_3.all (zgoodB zmt zm_X5_at) = true := by decide +kernel
def zp_X5_at : Nat → Option zE := (ztr 35 (ztr 16 (zlf zl_X5_at_0) (zlf zl_X5_at_1)) (ztr 55 (zlf zl_X5_at_2) (zlf zl_X5_at_3)))
theorem za_X5_at : zall (zgood zmt zm_X5_at) zp_X5_at := (zall_tr (zall_tr (zall_lf zl_X5_at_0 zk_X5_at_0) (zall_lf zl_X5_at_1 zk_X5_at_1)) (zall_tr (zall_lf zl_X5_at_2 zk_X5_at_2) (zall_lf zl_X5_at_3 zk_X5_at_3)))
def zl_X5_tell_0 : List (Nat × zE) := [(0, .aload_n 0, 1, 0, 0, 0), (1, .getfield 12, 3, 5, 0, 243), (4, .iload_n 1, 1, 0, 0, 0), (5, .invokevirtual 148, 3, 22, 12322, 830), (8, .ifCond .ne 5, 3, 13, 0, 0), (11, .iconst (-1), 1, 0, 0, 0), (12, .ireturn, 1, 0, 0, 0), (13, .aload_n 0, 1, 0, 0, 0), (14, .iload_n 1, 1, 0, 0, 0), (15, .invokevirtual 242, 3, 89, 20514, 1276)]
set_option maxRecDepth 100000 in
theorem zk_X5_tell_0 : zl_X5_tell_0.all (zgoodB zmt zm_X5_tell) = true := by decide +kernel
def zl_X5_tell_1 : List (Nat × zE) := [(18, .lookupswitch 38 #[(0, 26), (1, 32)], 26, 0, 0, 0), (44, .aload_n 0, 1, 0, 0, 0), (45, .iload_n 1, 1, 0, 0, 0), (46, .invokevirtual 245, 3, 91, 20514, 1284), (49, .ireturn, 1, 0, 0, 0), (50, .aload_n 0, 1, 0, 0, 0), (51, .iload_n 1, 1, 0, 0, 0), (52, .invokevirtual 248, 3, 92, 20514, 1300), (55, .ireturn, 1, 0, 0, 0), (56, .aload_n 0, 1, 0, 0, 0)]
set_option maxRecDepth 100000 in
theorem zk_X5_tell_1 : zl_X5_tell_1.all (zgoodB zmt zm_X5_tell) = true := by decide +kernel
def zl_X5_tell_2 : List (Nat × zE) := [(57, .iload_n 1, 1, 0, 0, 0), (58, .invokevirtual 251, 3, 93, 20514, 1308), (61, .ireturn, 1, 0, 0, 0)]
set_option maxRecDepth 100000 in
theorem zk_X5_tell_2 : zl_X5_tell_2.all (zgoodB zmt zm_X5_tell) = true := by decide +kernel
def zp_X5_tell : Nat → Option zE := (ztr 18 (zlf zl_X5_tell_0) (ztr 57 (zlf zl_X5_tell_1) (zlf zl_X5_tell_2)))
theorem za_X5_tell : zall (zgood zmt zm_X5_tell) zp_X5_tell := (zall_tr (zall_lf zl_X5_tell_0 zk_X5_tell_0) (zall_tr (zall_lf zl_X5_tell_1 zk_X5_tell_1) (zall_lf zl_X5_tell_2 zk_X5_tell_2)))
def zl_X5_count_0 : List (Nat × zE) := [(0, .aload_n 0, 1, 0, 0, 0), (1, .getfield 12, 3, 5, 0, 243), (4, .iload_n 1, 1, 0, 0, 0), (5, .invokevirtual 148, 3, 22, 12322, 830), (8, .ifCond .ne 5, 3, 13, 0, 0), (11, .iconst (-1), 1, 0, 0, 0), (12, .ireturn, 1, 0, 0, 0), (13, .aload_n 0, 1, 0, 0, 0), (14, .getfield 12, 3, 5, 0, 243), (17, .iload_n 1, 1, 0, 0, 0)]
set_option maxRecDepth 100000 in
theorem zk_X5_count_0 : zl_X5_count_0.all (zgoodB zmt zm_X5_count) = true := by decide +kernel
def zl_X5_count_1 : List (Nat × zE) := [(18, .invokevirtual 168, 3, 23, 12322, 862), (21, .ifCond .eq 11, 3, 32, 0, 0), (24, .aload_n 0, 1, 0, 0, 0), (25, .iload_n 1, 1, 0, 0, 0), (26, .invokevirtual 254, 3, 94, 20514, 1324), (29, .goto 7, 3, 36, 0, 0), (32, .aload_n 0, 1, 0, 0, 0), (33, .invokevirtual 257, 3, 95, 20497, 1332), (36, .ireturn, 1, 0, 0, 0)]
set_option maxRecDepth 100000 in
theorem zk_X5_count_1 : zl_X5_count_1.all (zgoodB zmt zm_X5_count) = true := by decide +kernel
def zp_X5_count : Nat → Option zE := (ztr 18 (zlf zl_X5_count_0) (zlf zl_X5_count_1))
theorem za_X5_count : zall (zgood zmt zm_X5_count) zp_X5_count := (zall_tr (zall_lf zl_X5_count_0 zk_X5_count_0) (zall_lf zl_X5_count_1 zk_X5_count_1))
def zl_X5_as_0 : List (Nat × zE) := [(0, .aload_n 0, 1, 0, 0, 0), (1, .iconst 0, 1, 0, 0, 0), (2, .putfield 77, 3, 5, 14, 257), (5, .aload_n 0, 1, 0, 0, 0), (6, .getfield 12, 3, 5, 0, 243), (9, .iload_n 1, 1, 0, 0, 0), (10, .invokevirtual 148, 3, 22, 12322, 830), (13, .ifCond .ne 5, 3, 18, 0, 0), (16, .iconst (-1), 1, 0, 0, 0), (17, .ireturn, 1, 0, 0, 0)]
set_option maxRecDepth 100000 in
theorem zk_X5_as_0 : zl_X5_as_0.all (zgoodB zmt zm_X5_as) = true := by decide +kernel
def zl_X5_as_1 : List (Nat × zE) := [(18, .iload_n 2, 1, 0, 0, 0), (19, .iconst 0, 1, 0, 0, 0), (20, .iconst 3, 1, 0, 0, 0), (21, .invokestatic 81, 3, 67, 20531, 586), (24, .ifCond .ne 6, 3, 30, 0, 0), (27, .bipush (-2), 2, 0, 0, 0), (29, .ireturn, 1, 0, 0, 0), (30, .aload_n 0, 1, 0, 0, 0), (31, .iload_n 1, 1, 0, 0, 0), (32, .invokevirtual 242, 3, 89, 20514, 1276)]
set_option maxRecDepth 100000 in
theorem zk_X5_as_1 : zl_X5_as_1.all (zgoodB zmt zm_X5_as) = true := by decide +kernel
def zl_X5_as_2 : List (Nat × zE) := [(35, .istore_n 3, 1, 0, 0, 0), (36, .iload_n 2, 1, 0, 0, 0), (37, .iconst 3, 1, 0, 0, 0), (38, .if_icmp .ne 16, 3, 54, 0, 0), (41, .iload_n 3, 1, 0, 0, 0), (42, .iconst 2, 1, 0, 0, 0), (43, .if_icmp .eq 7, 3, 50, 0, 0), (46, .iconst 1, 1, 0, 0, 0), (47, .goto 17, 3, 64, 0, 0), (50, .iconst 0, 1, 0, 0, 0)]
set_option maxRecDepth 100000 in
theorem zk_X5_as_2 : zl_X5_as_2.all (zgoodB zmt zm_X5_as) = true := by decide +kernel
def zl_X5_as_3 : List (Nat × zE) := [(51, .goto 13, 3, 64, 0, 0), (54, .iload_n 3, 1, 0, 0, 0), (55, .iload_n 2, 1, 0, 0, 0), (56, .if_icmp .ne 7, 3, 63, 0, 0), (59, .iconst 1, 1, 0, 0, 0), (60, .goto 4, 3, 64, 0, 0), (63, .iconst 0, 1, 0, 0, 0), (64, .istore 4, 2, 0, 0, 0), (66, .iload 4, 2, 0, 0, 0), (68, .ifCond .eq 7, 3, 75, 0, 0)]
set_option maxRecDepth 100000 in
theorem zk_X5_as_3 : zl_X5_as_3.all (zgoodB zmt zm_X5_as) = true := by decide +kernel
def zl_X5_as_4 : List (Nat × zE) := [(71, .iconst 1, 1, 0, 0, 0), (72, .goto 8, 3, 80, 0, 0), (75, .aload_n 0, 1, 0, 0, 0), (76, .iconst 2, 1, 0, 0, 0), (77, .invokevirtual 131, 3, 73, 20514, 772), (80, .ireturn, 1, 0, 0, 0)]
set_option maxRecDepth 100000 in
theorem zk_X5_as_4 : zl_X5_as_4.all (zgoodB zmt zm_X5_as) = true := by decide +kernel
def zp_X5_as : Nat → Option zE := (ztr 35 (ztr 18 (zlf zl_X5_as_0) (zlf zl_X5_as_1)) (ztr 51 (zlf zl_X5_as_2) (ztr 71 (zlf zl_X5_as_3) (zlf zl_X5_as_4))))
theorem za_X5_as : zall (zgood zmt zm_X5_as) zp_X5_as := (zall_tr (zall_tr (zall_lf zl_X5_as_0 zk_X5_as_0) (zall_lf zl_X5_as_1 zk_X5_as_1)) (zall_tr (zall_lf zl_X5_as_2 zk_X5_as_2) (zall_tr (zall_lf zl_X5_as_3 zk_X5_as_3) (zall_lf zl_X5_as_4 zk_X5_as_4))))
def zl_X5_trace_0 : List (Nat × zE) := [(0, .aload_n 0, 1, 0, 0, 0), (1, .getfield 73, 3, 5, 13, 256), (4, .ireturn, 1, 0, 0, 0)]
set_option maxRecDepth 100000 in
theorem zk_X5_trace_0 : zl_X5_trace_0.all (zgoodB zmt zm_X5_trace) = true := by decide +kernel
def zp_X5_trace : Nat → Option zE := (zlf zl_X5_trace_0)
theorem za_X5_trace : zall (zgood zmt zm_X5_trace) zp_X5_trace := (zall_lf zl_X5_trace_0 zk_X5_trace_0)
def zl_X5_fault_0 : List (Nat × zE) := [(0, .aload_n 0, 1, 0, 0, 0), (1, .getfield 77, 3, 5, 14, 257), (4, .ireturn, 1, 0, 0, 0)]
set_option maxRecDepth 100000 in
theorem zk_X5_fault_0 : zl_X5_fault_0.all (zgoodB zmt zm_X5_fault) = true := by decide +kernel
def zp_X5_fault : Nat → Option zE := (zlf zl_X5_fault_0)
theorem za_X5_fault : zall (zgood zmt zm_X5_fault) zp_X5_fault := (zall_lf zl_X5_fault_0 zk_X5_fault_0)
def zl_X5_told_0 : List (Nat × zE) := [(0, .iload_n 1, 1, 0, 0, 0), (1, .tableswitch 72 0 4 #[35, 43, 51, 59, 67], 35, 0, 0, 0), (36, .aload_n 0, 1, 0, 0, 0), (37, .getfield 12, 3, 5, 0, 243), (40, .getfield 155, 3, 3, 3, 82), (43, .ireturn, 1, 0, 0, 0), (44, .aload_n 0, 1, 0, 0, 0), (45, .getfield 12, 3, 5, 0, 243), (48, .getfield 95, 3, 3, 0, 76), (51, .ireturn, 1, 0, 0, 0)]
set_option maxRecDepth 100000 in
theorem zk_X5_told_0 : zl_X5_told_0.all (zgoodB zmt zm_X5_told) = true := by decide +kernel
def zl_X5_told_1 : List (Nat × zE) := [(52, .aload_n 0, 1, 0, 0, 0), (53, .getfield 12, 3, 5, 0, 243), (56, .getfield 109, 3, 3, 1, 78), (59, .ireturn, 1, 0, 0, 0), (60, .aload_n 0, 1, 0, 0, 0), (61, .getfield 12, 3, 5, 0, 243), (64, .getfield 260, 3, 3, 2, 80), (67, .ireturn, 1, 0, 0, 0), (68, .aload_n 0, 1, 0, 0, 0), (69, .invokevirtual 263, 3, 96, 20529, 1372)]
set_option maxRecDepth 100000 in
theorem zk_X5_told_1 : zl_X5_told_1.all (zgoodB zmt zm_X5_told) = true := by decide +kernel
def zl_X5_told_2 : List (Nat × zE) := [(72, .ireturn, 1, 0, 0, 0), (73, .bipush (-2), 2, 0, 0, 0), (75, .ireturn, 1, 0, 0, 0)]
set_option maxRecDepth 100000 in
theorem zk_X5_told_2 : zl_X5_told_2.all (zgoodB zmt zm_X5_told) = true := by decide +kernel
def zp_X5_told : Nat → Option zE := (ztr 52 (zlf zl_X5_told_0) (ztr 72 (zlf zl_X5_told_1) (zlf zl_X5_told_2)))
theorem za_X5_told : zall (zgood zmt zm_X5_told) zp_X5_told := (zall_tr (zall_lf zl_X5_told_0 zk_X5_told_0) (zall_tr (zall_lf zl_X5_told_1 zk_X5_told_1) (zall_lf zl_X5_told_2 zk_X5_told_2)))
def zl_X5_isFrom_0 : List (Nat × zE) := [(0, .iload_n 0, 1, 0, 0, 0), (1, .iload_n 1, 1, 0, 0, 0), (2, .if_icmp .lt 12, 3, 14, 0, 0), (5, .iload_n 0, 1, 0, 0, 0), (6, .iload_n 2, 1, 0, 0, 0), (7, .if_icmp .gt 7, 3, 14, 0, 0), (10, .iconst 1, 1, 0, 0, 0), (11, .goto 4, 3, 15, 0, 0), (14, .iconst 0, 1, 0, 0, 0), (15, .ireturn, 1, 1, 0, 0)]
set_option maxRecDepth 100000 in
theorem zk_X5_isFrom_0 : zl_X5_isFrom_0.all (zgoodB zmt zm_X5_isFrom) = true := by decide +kernel
def zp_X5_isFrom : Nat → Option zE := (zlf zl_X5_isFrom_0)
theorem za_X5_isFrom : zall (zgood zmt zm_X5_isFrom) zp_X5_isFrom := (zall_lf zl_X5_isFrom_0 zk_X5_isFrom_0)
def zl_X5_arePowers_0 : List (Nat × zE) := [(0, .iload_n 0, 1, 0, 0, 0), (1, .iconst 0, 1, 0, 0, 0), (2, .bipush 6, 2, 0, 0, 0), (4, .invokestatic 81, 3, 67, 20531, 586), (7, .ifCond .eq 25, 3, 32, 0, 0), (10, .iload_n 1, 1, 0, 0, 0), (11, .iconst 0, 1, 0, 0, 0), (12, .bipush 6, 2, 0, 0, 0), (14, .invokestatic 81, 3, 67, 20531, 586), (17, .ifCond .eq 15, 3, 32, 0, 0)]
set_option maxRecDepth 100000 in
theorem zk_X5_arePowers_0 : zl_X5_arePowers_0.all (zgoodB zmt zm_X5_arePowers) = true := by decide +kernel
def zl_X5_arePowers_1 : List (Nat × zE) := [(20, .iload_n 0, 1, 0, 0, 0), (21, .iload_n 1, 1, 0, 0, 0), (22, .iadd, 1, 0, 0, 0), (23, .bipush 6, 2, 0, 0, 0), (25, .if_icmp .gt 7, 3, 32, 0, 0), (28, .iconst 1, 1, 0, 0, 0), (29, .goto 4, 3, 33, 0, 0), (32, .iconst 0, 1, 0, 0, 0), (33, .ireturn, 1, 1, 0, 0)]
set_option maxRecDepth 100000 in
theorem zk_X5_arePowers_1 : zl_X5_arePowers_1.all (zgoodB zmt zm_X5_arePowers) = true := by decide +kernel
def zp_X5_arePowers : Nat → Option zE := (ztr 20 (zlf zl_X5_arePowers_0) (zlf zl_X5_arePowers_1))
theorem za_X5_arePowers : zall (zgood zmt zm_X5_arePowers) zp_X5_arePowers := (zall_tr (zall_lf zl_X5_arePowers_0 zk_X5_arePowers_0) (zall_lf zl_X5_arePowers_1 zk_X5_arePowers_1))
def zl_X5_power_0 : List (Nat × zE) := [(0, .lconst 1, 1, 0, 0, 0), (1, .lstore_n 3, 1, 0, 0, 0), (2, .iconst 0, 1, 0, 0, 0), (3, .istore 5, 2, 0, 0, 0), (5, .iload 5, 2, 0, 0, 0), (7, .iload_n 2, 1, 0, 0, 0), (8, .if_icmp .ge 13, 3, 21, 0, 0), (11, .lload_n 3, 1, 0, 0, 0), (12, .lload_n 0, 1, 0, 0, 0), (13, .lmul, 1, 0, 0, 0)]
set_option maxRecDepth 100000 in
theorem zk_X5_power_0 : zl_X5_power_0.all (zgoodB zmt zm_X5_power) = true := by decide +kernel
def zl_X5_power_1 : List (Nat × zE) := [(14, .lstore_n 3, 1, 0, 0, 0), (15, .iinc 5 1, 3, 0, 0, 0), (18, .goto (-13), 3, 5, 0, 0), (21, .lload_n 3, 1, 0, 0, 0), (22, .lreturn, 1, 0, 0, 0)]
set_option maxRecDepth 100000 in
theorem zk_X5_power_1 : zl_X5_power_1.all (zgoodB zmt zm_X5_power) = true := by decide +kernel
def zp_X5_power : Nat → Option zE := (ztr 14 (zlf zl_X5_power_0) (zlf zl_X5_power_1))
theorem za_X5_power : zall (zgood zmt zm_X5_power) zp_X5_power := (zall_tr (zall_lf zl_X5_power_0 zk_X5_power_0) (zall_lf zl_X5_power_1 zk_X5_power_1))
def zl_X5_fillPowers_0 : List (Nat × zE) := [(0, .lconst 1, 1, 0, 0, 0), (1, .lstore_n 3, 1, 0, 0, 0), (2, .iconst 0, 1, 0, 0, 0), (3, .istore 5, 2, 0, 0, 0), (5, .iload 5, 2, 0, 0, 0), (7, .aload_n 2, 1, 0, 0, 0), (8, .arraylength, 1, 0, 0, 0), (9, .if_icmp .ge 18, 3, 27, 0, 0), (12, .aload_n 2, 1, 0, 0, 0), (13, .iload 5, 2, 0, 0, 0)]
set_option maxRecDepth 100000 in
theorem zk_X5_fillPowers_0 : zl_X5_fillPowers_0.all (zgoodB zmt zm_X5_fillPowers) = true := by decide +kernel
def zl_X5_fillPowers_1 : List (Nat × zE) := [(15, .lload_n 3, 1, 0, 0, 0), (16, .lastore, 1, 0, 0, 0), (17, .lload_n 3, 1, 0, 0, 0), (18, .lload_n 0, 1, 0, 0, 0), (19, .lmul, 1, 0, 0, 0), (20, .lstore_n 3, 1, 0, 0, 0), (21, .iinc 5 1, 3, 0, 0, 0), (24, .goto (-19), 3, 5, 0, 0), (27, .return_, 1, 0, 0, 0)]
set_option maxRecDepth 100000 in
theorem zk_X5_fillPowers_1 : zl_X5_fillPowers_1.all (zgoodB zmt zm_X5_fillPowers) = true := by decide +kernel
def zp_X5_fillPowers : Nat → Option zE := (ztr 15 (zlf zl_X5_fillPowers_0) (zlf zl_X5_fillPowers_1))
theorem za_X5_fillPowers : zall (zgood zmt zm_X5_fillPowers) zp_X5_fillPowers := (zall_tr (zall_lf zl_X5_fillPowers_0 zk_X5_fillPowers_0) (zall_lf zl_X5_fillPowers_1 zk_X5_fillPowers_1))
def zl_X5_commonDivisor_0 : List (Nat × zE) := [(0, .lload_n 0, 1, 0, 0, 0), (1, .invokestatic 266, 3, 903, 0, 320), (4, .lstore 4, 2, 0, 0, 0), (6, .lload_n 2, 1, 0, 0, 0), (7, .invokestatic 266, 3, 903, 0, 320), (10, .lstore 6, 2, 0, 0, 0), (12, .iconst 0, 1, 0, 0, 0), (13, .istore 8, 2, 0, 0, 0), (15, .iload 8, 2, 0, 0, 0), (17, .bipush 100, 2, 0, 0, 0)]
set_option maxRecDepth 100000 in
theorem zk_X5_commonDivisor_0 : zl_X5_commonDivisor_0.all (zgoodB zmt zm_X5_commonDivisor) = true := by decide +kernel
def zl_X5_commonDivisor_1 : List (Nat × zE) := [(19, .if_icmp .ge 31, 3, 50, 0, 0), (22, .lload 6, 2, 0, 0, 0), (24, .lconst 0, 1, 0, 0, 0), (25, .lcmp, 1, 0, 0, 0), (26, .ifCond .eq 24, 3, 50, 0, 0), (29, .lload 4, 2, 0, 0, 0), (31, .lload 6, 2, 0, 0, 0), (33, .lrem, 1, 0, 0, 0), (34, .lstore 9, 2, 0, 0, 0), (36, .lload 6, 2, 0, 0, 0)]
set_option maxRecDepth 100000 in
theorem zk_X5_commonDivisor_1 : zl_X5_commonDivisor_1.all (zgoodB zmt zm_X5_commonDivisor) = true := by decide +kernel
def zl_X5_commonDivisor_2 : List (Nat × zE) := [(38, .lstore 4, 2, 0, 0, 0), (40, .lload 9, 2, 0, 0, 0), (42, .lstore 6, 2, 0, 0, 0), (44, .iinc 8 1, 3, 0, 0, 0), (47, .goto (-32), 3, 15, 0, 0), (50, .lload 4, 2, 0, 0, 0), (52, .lreturn, 1, 0, 0, 0)]
set_option maxRecDepth 100000 in
theorem zk_X5_commonDivisor_2 : zl_X5_commonDivisor_2.all (zgoodB zmt zm_X5_commonDivisor) = true := by decide +kernel
def zp_X5_commonDivisor : Nat → Option zE := (ztr 19 (zlf zl_X5_commonDivisor_0) (ztr 38 (zlf zl_X5_commonDivisor_1) (zlf zl_X5_commonDivisor_2)))
theorem za_X5_commonDivisor : zall (zgood zmt zm_X5_commonDivisor) zp_X5_commonDivisor := (zall_tr (zall_lf zl_X5_commonDivisor_0 zk_X5_commonDivisor_0) (zall_tr (zall_lf zl_X5_commonDivisor_1 zk_X5_commonDivisor_1) (zall_lf zl_X5_commonDivisor_2 zk_X5_commonDivisor_2)))
def zl_X5_liesIn_0 : List (Nat × zE) := [(0, .iload_n 0, 1, 0, 0, 0), (1, .lookupswitch 70 #[(0, 27), (1, 49)], 27, 0, 0, 0), (28, .iload_n 2, 1, 0, 0, 0), (29, .invokestatic 272, 3, 902, 0, 438), (32, .iload_n 1, 1, 0, 0, 0), (33, .if_icmp .gt 15, 3, 48, 0, 0), (36, .iload_n 3, 1, 0, 0, 0), (37, .invokestatic 272, 3, 902, 0, 438), (40, .iload_n 1, 1, 0, 0, 0), (41, .if_icmp .gt 7, 3, 48, 0, 0)]
set_option maxRecDepth 100000 in
theorem zk_X5_liesIn_0 : zl_X5_liesIn_0.all (zgoodB zmt zm_X5_liesIn) = true := by decide +kernel
def zl_X5_liesIn_1 : List (Nat × zE) := [(44, .iconst 1, 1, 0, 0, 0), (45, .goto 4, 3, 49, 0, 0), (48, .iconst 0, 1, 0, 0, 0), (49, .ireturn, 1, 1, 0, 0), (50, .iload_n 2, 1, 0, 0, 0), (51, .ifCond .lt 18, 3, 69, 0, 0), (54, .iload_n 3, 1, 0, 0, 0), (55, .ifCond .lt 14, 3, 69, 0, 0), (58, .iload_n 2, 1, 0, 0, 0), (59, .iload_n 3, 1, 0, 0, 0)]
set_option maxRecDepth 100000 in
theorem zk_X5_liesIn_1 : zl_X5_liesIn_1.all (zgoodB zmt zm_X5_liesIn) = true := by decide +kernel
def zl_X5_liesIn_2 : List (Nat × zE) := [(60, .iadd, 1, 0, 0, 0), (61, .iload_n 1, 1, 0, 0, 0), (62, .if_icmp .gt 7, 3, 69, 0, 0), (65, .iconst 1, 1, 0, 0, 0), (66, .goto 4, 3, 70, 0, 0), (69, .iconst 0, 1, 0, 0, 0), (70, .ireturn, 1, 1, 0, 0), (71, .iload_n 2, 1, 0, 0, 0), (72, .invokestatic 272, 3, 902, 0, 438), (75, .iload_n 3, 1, 0, 0, 0)]
set_option maxRecDepth 100000 in
theorem zk_X5_liesIn_2 : zl_X5_liesIn_2.all (zgoodB zmt zm_X5_liesIn) = true := by decide +kernel
def zl_X5_liesIn_3 : List (Nat × zE) := [(76, .invokestatic 272, 3, 902, 0, 438), (79, .iadd, 1, 0, 0, 0), (80, .iload_n 1, 1, 0, 0, 0), (81, .if_icmp .gt 7, 3, 88, 0, 0), (84, .iconst 1, 1, 0, 0, 0), (85, .goto 4, 3, 89, 0, 0), (88, .iconst 0, 1, 0, 0, 0), (89, .ireturn, 1, 1, 0, 0)]
set_option maxRecDepth 100000 in
theorem zk_X5_liesIn_3 : zl_X5_liesIn_3.all (zgoodB zmt zm_X5_liesIn) = true := by decide +kernel
def zp_X5_liesIn : Nat → Option zE := (ztr 60 (ztr 44 (zlf zl_X5_liesIn_0) (zlf zl_X5_liesIn_1)) (ztr 76 (zlf zl_X5_liesIn_2) (zlf zl_X5_liesIn_3)))
theorem za_X5_liesIn : zall (zgood zmt zm_X5_liesIn) zp_X5_liesIn := (zall_tr (zall_tr (zall_lf zl_X5_liesIn_0 zk_X5_liesIn_0) (zall_lf zl_X5_liesIn_1 zk_X5_liesIn_1)) (zall_tr (zall_lf zl_X5_liesIn_2 zk_X5_liesIn_2) (zall_lf zl_X5_liesIn_3 zk_X5_liesIn_3)))
def zl_X5_failed_0 : List (Nat × zE) := [(0, .aload_n 0, 1, 0, 0, 0), (1, .iload_n 1, 1, 0, 0, 0), (2, .putfield 77, 3, 5, 14, 257), (5, .bipush (-10), 2, 0, 0, 0), (7, .iload_n 1, 1, 0, 0, 0), (8, .isub, 1, 0, 0, 0), (9, .ireturn, 1, 0, 0, 0)]
set_option maxRecDepth 100000 in
theorem zk_X5_failed_0 : zl_X5_failed_0.all (zgoodB zmt zm_X5_failed) = true := by decide +kernel
def zp_X5_failed : Nat → Option zE := (zlf zl_X5_failed_0)
theorem za_X5_failed : zall (zgood zmt zm_X5_failed) zp_X5_failed := (zall_lf zl_X5_failed_0 zk_X5_failed_0)
def zl_X5_refusalOfOrbit_0 : List (Nat × zE) := [(0, .iconst 0, 1, 0, 0, 0), (1, .istore_n 2, 1, 0, 0, 0), (2, .iconst 0, 1, 0, 0, 0), (3, .istore_n 3, 1, 0, 0, 0), (4, .iload_n 3, 1, 0, 0, 0), (5, .aload_n 0, 1, 0, 0, 0), (6, .getfield 24, 3, 5, 2, 245), (9, .getfield 124, 3, 2, 2, 121), (12, .if_icmp .ge 77, 3, 89, 0, 0), (15, .aload_n 0, 1, 0, 0, 0)]
set_option maxRecDepth 100000 in
theorem zk_X5_refusalOfOrbit_0 : zl_X5_refusalOfOrbit_0.all (zgoodB zmt zm_X5_refusalOfOrbit) = true := by decide +kernel
def zl_X5_refusalOfOrbit_1 : List (Nat × zE) := [(16, .getfield 12, 3, 5, 0, 243), (19, .aload_n 0, 1, 0, 0, 0), (20, .getfield 24, 3, 5, 2, 245), (23, .getfield 274, 3, 2, 0, 114), (26, .iload_n 3, 1, 0, 0, 0), (27, .iaload, 1, 0, 0, 0), (28, .aload_n 0, 1, 0, 0, 0), (29, .getfield 24, 3, 5, 2, 245), (32, .getfield 275, 3, 2, 1, 118), (35, .iload_n 3, 1, 0, 0, 0)]
set_option maxRecDepth 100000 in
theorem zk_X5_refusalOfOrbit_1 : zl_X5_refusalOfOrbit_1.all (zgoodB zmt zm_X5_refusalOfOrbit) = true := by decide +kernel
def zl_X5_refusalOfOrbit_2 : List (Nat × zE) := [(36, .iaload, 1, 0, 0, 0), (37, .iload_n 1, 1, 0, 0, 0), (38, .invokevirtual 276, 3, 25, 12388, 742), (41, .istore 4, 2, 0, 0, 0), (43, .iload 4, 2, 0, 0, 0), (45, .ifCond .eq 6, 3, 51, 0, 0), (48, .iload 4, 2, 0, 0, 0), (50, .ireturn, 1, 0, 0, 0), (51, .aload_n 0, 1, 0, 0, 0), (52, .getfield 12, 3, 5, 0, 243)]
set_option maxRecDepth 100000 in
theorem zk_X5_refusalOfOrbit_2 : zl_X5_refusalOfOrbit_2.all (zgoodB zmt zm_X5_refusalOfOrbit) = true := by decide +kernel
def zl_X5_refusalOfOrbit_3 : List (Nat × zE) := [(55, .aload_n 0, 1, 0, 0, 0), (56, .getfield 24, 3, 5, 2, 245), (59, .getfield 274, 3, 2, 0, 114), (62, .iload_n 3, 1, 0, 0, 0), (63, .iaload, 1, 0, 0, 0), (64, .aload_n 0, 1, 0, 0, 0), (65, .getfield 24, 3, 5, 2, 245), (68, .getfield 275, 3, 2, 1, 118), (71, .iload_n 3, 1, 0, 0, 0), (72, .iaload, 1, 0, 0, 0)]
set_option maxRecDepth 100000 in
theorem zk_X5_refusalOfOrbit_3 : zl_X5_refusalOfOrbit_3.all (zgoodB zmt zm_X5_refusalOfOrbit) = true := by decide +kernel
def zl_X5_refusalOfOrbit_4 : List (Nat × zE) := [(73, .invokevirtual 279, 3, 24, 12355, 744), (76, .iconst (-1), 1, 0, 0, 0), (77, .if_icmp .ne 6, 3, 83, 0, 0), (80, .iinc 2 1, 3, 0, 0, 0), (83, .iinc 3 1, 3, 0, 0, 0), (86, .goto (-82), 3, 4, 0, 0), (89, .iload_n 2, 1, 0, 0, 0), (90, .bipush 24, 2, 0, 0, 0), (92, .aload_n 0, 1, 0, 0, 0), (93, .getfield 12, 3, 5, 0, 243)]
set_option maxRecDepth 100000 in
theorem zk_X5_refusalOfOrbit_4 : zl_X5_refusalOfOrbit_4.all (zgoodB zmt zm_X5_refusalOfOrbit) = true := by decide +kernel
def zl_X5_refusalOfOrbit_5 : List (Nat × zE) := [(96, .getfield 155, 3, 3, 3, 82), (99, .isub, 1, 0, 0, 0), (100, .if_icmp .le 8, 3, 108, 0, 0), (103, .bipush (-4), 2, 0, 0, 0), (105, .goto 4, 3, 109, 0, 0), (108, .iconst 0, 1, 0, 0, 0), (109, .ireturn, 1, 0, 0, 0)]
set_option maxRecDepth 100000 in
theorem zk_X5_refusalOfOrbit_5 : zl_X5_refusalOfOrbit_5.all (zgoodB zmt zm_X5_refusalOfOrbit) = true := by decide +kernel
def zp_X5_refusalOfOrbit : Nat → Option zE := (ztr 55 (ztr 16 (zlf zl_X5_refusalOfOrbit_0) (ztr 36 (zlf zl_X5_refusalOfOrbit_1) (zlf zl_X5_refusalOfOrbit_2))) (ztr 73 (zlf zl_X5_refusalOfOrbit_3) (ztr 96 (zlf zl_X5_refusalOfOrbit_4) (zlf zl_X5_refusalOfOrbit_5))))
theorem za_X5_refusalOfOrbit : zall (zgood zmt zm_X5_refusalOfOrbit) zp_X5_refusalOfOrbit := (zall_tr (zall_tr (zall_lf zl_X5_refusalOfOrbit_0 zk_X5_refusalOfOrbit_0) (zall_tr (zall_lf zl_X5_refusalOfOrbit_1 zk_X5_refusalOfOrbit_1) (zall_lf zl_X5_refusalOfOrbit_2 zk_X5_refusalOfOrbit_2))) (zall_tr (zall_lf zl_X5_refusalOfOrbit_3 zk_X5_refusalOfOrbit_3) (zall_tr (zall_lf zl_X5_refusalOfOrbit_4 zk_X5_refusalOfOrbit_4) (zall_lf zl_X5_refusalOfOrbit_5 zk_X5_refusalOfOrbit_5))))
def zl_X5_addFrom_0 : List (Nat × zE) := [(0, .aload_n 0, 1, 0, 0, 0), (1, .getfield 18, 3, 5, 1, 244), (4, .aload_n 0, 1, 0, 0, 0), (5, .getfield 12, 3, 5, 0, 243), (8, .invokevirtual 197, 3, 21, 12322, 806), (11, .iconst 0, 1, 0, 0, 0), (12, .istore 4, 2, 0, 0, 0), (14, .iload 4, 2, 0, 0, 0), (16, .iload_n 3, 1, 0, 0, 0), (17, .if_icmp .ge 59, 3, 76, 0, 0)]
set_option maxRecDepth 100000 in
theorem zk_X5_addFrom_0 : zl_X5_addFrom_0.all (zgoodB zmt zm_X5_addFrom) = true := by decide +kernel
def zl_X5_addFrom_1 : List (Nat × zE) := [(20, .iload_n 2, 1, 0, 0, 0), (21, .iconst 3, 1, 0, 0, 0), (22, .iload 4, 2, 0, 0, 0), (24, .imul, 1, 0, 0, 0), (25, .iadd, 1, 0, 0, 0), (26, .istore 5, 2, 0, 0, 0), (28, .aload_n 0, 1, 0, 0, 0), (29, .getfield 18, 3, 5, 1, 244), (32, .aload_n 1, 1, 0, 0, 0), (33, .getfield 239, 3, 4, 2, 234)]
set_option maxRecDepth 100000 in
theorem zk_X5_addFrom_1 : zl_X5_addFrom_1.all (zgoodB zmt zm_X5_addFrom) = true := by decide +kernel
def zl_X5_addFrom_2 : List (Nat × zE) := [(36, .iload 5, 2, 0, 0, 0), (38, .iaload, 1, 0, 0, 0), (39, .aload_n 1, 1, 0, 0, 0), (40, .getfield 239, 3, 4, 2, 234), (43, .iload 5, 2, 0, 0, 0), (45, .iconst 1, 1, 0, 0, 0), (46, .iadd, 1, 0, 0, 0), (47, .iaload, 1, 0, 0, 0), (48, .aload_n 1, 1, 0, 0, 0), (49, .getfield 239, 3, 4, 2, 234)]
set_option maxRecDepth 100000 in
theorem zk_X5_addFrom_2 : zl_X5_addFrom_2.all (zgoodB zmt zm_X5_addFrom) = true := by decide +kernel
def zl_X5_addFrom_3 : List (Nat × zE) := [(52, .iload 5, 2, 0, 0, 0), (54, .iconst 2, 1, 0, 0, 0), (55, .iadd, 1, 0, 0, 0), (56, .iaload, 1, 0, 0, 0), (57, .invokevirtual 105, 3, 26, 12388, 668), (60, .istore 6, 2, 0, 0, 0), (62, .iload 6, 2, 0, 0, 0), (64, .ifCond .ge 6, 3, 70, 0, 0), (67, .iload 6, 2, 0, 0, 0), (69, .ireturn, 1, 0, 0, 0)]
set_option maxRecDepth 100000 in
theorem zk_X5_addFrom_3 : zl_X5_addFrom_3.all (zgoodB zmt zm_X5_addFrom) = true := by decide +kernel
def zl_X5_addFrom_4 : List (Nat × zE) := [(70, .iinc 4 1, 3, 0, 0, 0), (73, .goto (-59), 3, 14, 0, 0), (76, .aload_n 0, 1, 0, 0, 0), (77, .getfield 12, 3, 5, 0, 243), (80, .aload_n 0, 1, 0, 0, 0), (81, .getfield 18, 3, 5, 1, 244), (84, .invokevirtual 197, 3, 21, 12322, 806), (87, .aload_n 0, 1, 0, 0, 0), (88, .getfield 12, 3, 5, 0, 243), (91, .getfield 155, 3, 3, 3, 82)]
set_option maxRecDepth 100000 in
theorem zk_X5_addFrom_4 : zl_X5_addFrom_4.all (zgoodB zmt zm_X5_addFrom) = true := by decide +kernel
def zl_X5_addFrom_5 : List (Nat × zE) := [(94, .ireturn, 1, 0, 0, 0)]
set_option maxRecDepth 100000 in
theorem zk_X5_addFrom_5 : zl_X5_addFrom_5.all (zgoodB zmt zm_X5_addFrom) = true := by decide +kernel
def zp_X5_addFrom : Nat → Option zE := (ztr 52 (ztr 20 (zlf zl_X5_addFrom_0) (ztr 36 (zlf zl_X5_addFrom_1) (zlf zl_X5_addFrom_2))) (ztr 70 (zlf zl_X5_addFrom_3) (ztr 94 (zlf zl_X5_addFrom_4) (zlf zl_X5_addFrom_5))))
theorem za_X5_addFrom : zall (zgood zmt zm_X5_addFrom) zp_X5_addFrom := (zall_tr (zall_tr (zall_lf zl_X5_addFrom_0 zk_X5_addFrom_0) (zall_tr (zall_lf zl_X5_addFrom_1 zk_X5_addFrom_1) (zall_lf zl_X5_addFrom_2 zk_X5_addFrom_2))) (zall_tr (zall_lf zl_X5_addFrom_3 zk_X5_addFrom_3) (zall_tr (zall_lf zl_X5_addFrom_4 zk_X5_addFrom_4) (zall_lf zl_X5_addFrom_5 zk_X5_addFrom_5))))
def zl_X5_sizeOfOrbit_0 : List (Nat × zE) := [(0, .aload_n 0, 1, 0, 0, 0), (1, .getfield 24, 3, 5, 2, 245), (4, .aload_n 0, 1, 0, 0, 0), (5, .getfield 12, 3, 5, 0, 243), (8, .getfield 95, 3, 3, 0, 76), (11, .aload_n 0, 1, 0, 0, 0), (12, .getfield 12, 3, 5, 0, 243), (15, .getfield 109, 3, 3, 1, 78), (18, .aload_n 0, 1, 0, 0, 0), (19, .getfield 12, 3, 5, 0, 243)]
set_option maxRecDepth 100000 in
theorem zk_X5_sizeOfOrbit_0 : zl_X5_sizeOfOrbit_0.all (zgoodB zmt zm_X5_sizeOfOrbit) = true := by decide +kernel
def zl_X5_sizeOfOrbit_1 : List (Nat × zE) := [(22, .getfield 156, 3, 3, 4, 84), (25, .iload_n 1, 1, 0, 0, 0), (26, .iaload, 1, 0, 0, 0), (27, .aload_n 0, 1, 0, 0, 0), (28, .getfield 12, 3, 5, 0, 243), (31, .getfield 159, 3, 3, 5, 86), (34, .iload_n 1, 1, 0, 0, 0), (35, .iaload, 1, 0, 0, 0), (36, .invokevirtual 112, 3, 15, 8293, 702), (39, .aload_n 0, 1, 0, 0, 0)]
set_option maxRecDepth 100000 in
theorem zk_X5_sizeOfOrbit_1 : zl_X5_sizeOfOrbit_1.all (zgoodB zmt zm_X5_sizeOfOrbit) = true := by decide +kernel
def zl_X5_sizeOfOrbit_2 : List (Nat × zE) := [(40, .getfield 24, 3, 5, 2, 245), (43, .getfield 124, 3, 2, 2, 121), (46, .ireturn, 1, 0, 0, 0)]
set_option maxRecDepth 100000 in
theorem zk_X5_sizeOfOrbit_2 : zl_X5_sizeOfOrbit_2.all (zgoodB zmt zm_X5_sizeOfOrbit) = true := by decide +kernel
def zp_X5_sizeOfOrbit : Nat → Option zE := (ztr 22 (zlf zl_X5_sizeOfOrbit_0) (ztr 40 (zlf zl_X5_sizeOfOrbit_1) (zlf zl_X5_sizeOfOrbit_2)))
theorem za_X5_sizeOfOrbit : zall (zgood zmt zm_X5_sizeOfOrbit) zp_X5_sizeOfOrbit := (zall_tr (zall_lf zl_X5_sizeOfOrbit_0 zk_X5_sizeOfOrbit_0) (zall_tr (zall_lf zl_X5_sizeOfOrbit_1 zk_X5_sizeOfOrbit_1) (zall_lf zl_X5_sizeOfOrbit_2 zk_X5_sizeOfOrbit_2)))
def zl_X5_findSum_0 : List (Nat × zE) := [(0, .aload_n 0, 1, 0, 0, 0), (1, .getfield 38, 3, 5, 4, 247), (4, .aload_n 0, 1, 0, 0, 0), (5, .getfield 12, 3, 5, 0, 243), (8, .iload_n 1, 1, 0, 0, 0), (9, .iload_n 2, 1, 0, 0, 0), (10, .invokevirtual 283, 3, 29, 12387, 898), (13, .aload_n 0, 1, 0, 0, 0), (14, .getfield 12, 3, 5, 0, 243), (17, .getfield 260, 3, 3, 2, 80)]
set_option maxRecDepth 100000 in
theorem zk_X5_findSum_0 : zl_X5_findSum_0.all (zgoodB zmt zm_X5_findSum) = true := by decide +kernel
def zl_X5_findSum_1 : List (Nat × zE) := [(20, .i2l, 1, 0, 0, 0), (21, .aload_n 0, 1, 0, 0, 0), (22, .getfield 12, 3, 5, 0, 243), (25, .getfield 109, 3, 3, 1, 78), (28, .i2l, 1, 0, 0, 0), (29, .iload_n 1, 1, 0, 0, 0), (30, .iload_n 2, 1, 0, 0, 0), (31, .iadd, 1, 0, 0, 0), (32, .invokestatic 287, 3, 69, 20578, 912), (35, .lmul, 1, 0, 0, 0)]
set_option maxRecDepth 100000 in
theorem zk_X5_findSum_1 : zl_X5_findSum_1.all (zgoodB zmt zm_X5_findSum) = true := by decide +kernel
def zl_X5_findSum_2 : List (Nat × zE) := [(36, .invokevirtual 216, 3, 1, 147, 914), (39, .return_, 1, 0, 0, 0)]
set_option maxRecDepth 100000 in
theorem zk_X5_findSum_2 : zl_X5_findSum_2.all (zgoodB zmt zm_X5_findSum) = true := by decide +kernel
def zp_X5_findSum : Nat → Option zE := (ztr 20 (zlf zl_X5_findSum_0) (ztr 36 (zlf zl_X5_findSum_1) (zlf zl_X5_findSum_2)))
theorem za_X5_findSum : zall (zgood zmt zm_X5_findSum) zp_X5_findSum := (zall_tr (zall_lf zl_X5_findSum_0 zk_X5_findSum_0) (zall_tr (zall_lf zl_X5_findSum_1 zk_X5_findSum_1) (zall_lf zl_X5_findSum_2 zk_X5_findSum_2)))
def zl_X5_findError_0 : List (Nat × zE) := [(0, .aload_n 0, 1, 0, 0, 0), (1, .iload_n 1, 1, 0, 0, 0), (2, .iload_n 2, 1, 0, 0, 0), (3, .invokevirtual 171, 3, 77, 20531, 890), (6, .aload_n 0, 1, 0, 0, 0), (7, .getfield 42, 3, 5, 5, 248), (10, .aload_n 0, 1, 0, 0, 0), (11, .getfield 12, 3, 5, 0, 243), (14, .getfield 95, 3, 3, 0, 76), (17, .iload_n 1, 1, 0, 0, 0)]
set_option maxRecDepth 100000 in
theorem zk_X5_findError_0 : zl_X5_findError_0.all (zgoodB zmt zm_X5_findError) = true := by decide +kernel
def zl_X5_findError_1 : List (Nat × zE) := [(18, .iload_n 2, 1, 0, 0, 0), (19, .invokevirtual 98, 3, 3, 100, 616), (22, .aload_n 0, 1, 0, 0, 0), (23, .getfield 38, 3, 5, 4, 247), (26, .ldc2_w 291, 3, 18446744073709551615, 0, 466), (29, .aload_n 0, 1, 0, 0, 0), (30, .getfield 42, 3, 5, 5, 248), (33, .invokevirtual 220, 3, 2, 67, 934), (36, .return_, 1, 0, 0, 0)]
set_option maxRecDepth 100000 in
theorem zk_X5_findError_1 : zl_X5_findError_1.all (zgoodB zmt zm_X5_findError) = true := by decide +kernel
def zp_X5_findError : Nat → Option zE := (ztr 18 (zlf zl_X5_findError_0) (zlf zl_X5_findError_1))
theorem za_X5_findError : zall (zgood zmt zm_X5_findError) zp_X5_findError := (zall_tr (zall_lf zl_X5_findError_0 zk_X5_findError_0) (zall_lf zl_X5_findError_1 zk_X5_findError_1))
def zl_X5_firstWrongTerm_0 : List (Nat × zE) := [(0, .iconst 0, 1, 0, 0, 0), (1, .istore_n 1, 1, 0, 0, 0), (2, .iload_n 1, 1, 0, 0, 0), (3, .bipush 28, 2, 0, 0, 0), (5, .if_icmp .ge 37, 3, 42, 0, 0), (8, .aload_n 0, 1, 0, 0, 0), (9, .getstatic 182, 3, 0, 0, 479), (12, .iload_n 1, 1, 0, 0, 0), (13, .iaload, 1, 0, 0, 0), (14, .getstatic 185, 3, 1, 0, 481)]
set_option maxRecDepth 100000 in
theorem zk_X5_firstWrongTerm_0 : zl_X5_firstWrongTerm_0.all (zgoodB zmt zm_X5_firstWrongTerm) = true := by decide +kernel
def zl_X5_firstWrongTerm_1 : List (Nat × zE) := [(17, .iload_n 1, 1, 0, 0, 0), (18, .iaload, 1, 0, 0, 0), (19, .invokevirtual 175, 3, 78, 20531, 924), (22, .aload_n 0, 1, 0, 0, 0), (23, .getfield 38, 3, 5, 4, 247), (26, .getfield 293, 3, 0, 0, 146), (29, .lconst 0, 1, 0, 0, 0), (30, .lcmp, 1, 0, 0, 0), (31, .ifCond .eq 5, 3, 36, 0, 0), (34, .iload_n 1, 1, 0, 0, 0)]
set_option maxRecDepth 100000 in
theorem zk_X5_firstWrongTerm_1 : zl_X5_firstWrongTerm_1.all (zgoodB zmt zm_X5_firstWrongTerm) = true := by decide +kernel
def zl_X5_firstWrongTerm_2 : List (Nat × zE) := [(35, .ireturn, 1, 0, 0, 0), (36, .iinc 1 1, 3, 0, 0, 0), (39, .goto (-37), 3, 2, 0, 0), (42, .bipush (-9), 2, 0, 0, 0), (44, .ireturn, 1, 0, 0, 0)]
set_option maxRecDepth 100000 in
theorem zk_X5_firstWrongTerm_2 : zl_X5_firstWrongTerm_2.all (zgoodB zmt zm_X5_firstWrongTerm) = true := by decide +kernel
def zp_X5_firstWrongTerm : Nat → Option zE := (ztr 17 (zlf zl_X5_firstWrongTerm_0) (ztr 35 (zlf zl_X5_firstWrongTerm_1) (zlf zl_X5_firstWrongTerm_2)))
theorem za_X5_firstWrongTerm : zall (zgood zmt zm_X5_firstWrongTerm) zp_X5_firstWrongTerm := (zall_tr (zall_lf zl_X5_firstWrongTerm_0 zk_X5_firstWrongTerm_0) (zall_tr (zall_lf zl_X5_firstWrongTerm_1 zk_X5_firstWrongTerm_1) (zall_lf zl_X5_firstWrongTerm_2 zk_X5_firstWrongTerm_2)))
def zl_X5_areAllWithin_0 : List (Nat × zE) := [(0, .iconst 0, 1, 0, 0, 0), (1, .istore_n 1, 1, 0, 0, 0), (2, .iload_n 1, 1, 0, 0, 0), (3, .aload_n 0, 1, 0, 0, 0), (4, .getfield 12, 3, 5, 0, 243), (7, .getfield 155, 3, 3, 3, 82), (10, .if_icmp .ge 22, 3, 32, 0, 0), (13, .aload_n 0, 1, 0, 0, 0), (14, .getfield 12, 3, 5, 0, 243), (17, .iload_n 1, 1, 0, 0, 0)]
set_option maxRecDepth 100000 in
theorem zk_X5_areAllWithin_0 : zl_X5_areAllWithin_0.all (zgoodB zmt zm_X5_areAllWithin) = true := by decide +kernel
def zl_X5_areAllWithin_1 : List (Nat × zE) := [(18, .invokevirtual 168, 3, 23, 12322, 862), (21, .ifCond .ne 5, 3, 26, 0, 0), (24, .iconst 0, 1, 0, 0, 0), (25, .ireturn, 1, 1, 0, 0), (26, .iinc 1 1, 3, 0, 0, 0), (29, .goto (-27), 3, 2, 0, 0), (32, .iconst 1, 1, 0, 0, 0), (33, .ireturn, 1, 1, 0, 0)]
set_option maxRecDepth 100000 in
theorem zk_X5_areAllWithin_1 : zl_X5_areAllWithin_1.all (zgoodB zmt zm_X5_areAllWithin) = true := by decide +kernel
def zp_X5_areAllWithin : Nat → Option zE := (ztr 18 (zlf zl_X5_areAllWithin_0) (zlf zl_X5_areAllWithin_1))
theorem za_X5_areAllWithin : zall (zgood zmt zm_X5_areAllWithin) zp_X5_areAllWithin := (zall_tr (zall_lf zl_X5_areAllWithin_0 zk_X5_areAllWithin_0) (zall_lf zl_X5_areAllWithin_1 zk_X5_areAllWithin_1))
def zl_X5_areAllAbove_0 : List (Nat × zE) := [(0, .iconst 0, 1, 0, 0, 0), (1, .istore_n 1, 1, 0, 0, 0), (2, .iload_n 1, 1, 0, 0, 0), (3, .aload_n 0, 1, 0, 0, 0), (4, .getfield 12, 3, 5, 0, 243), (7, .getfield 155, 3, 3, 3, 82), (10, .if_icmp .ge 23, 3, 33, 0, 0), (13, .aload_n 0, 1, 0, 0, 0), (14, .getfield 12, 3, 5, 0, 243), (17, .getfield 162, 3, 3, 6, 88)]
set_option maxRecDepth 100000 in
theorem zk_X5_areAllAbove_0 : zl_X5_areAllAbove_0.all (zgoodB zmt zm_X5_areAllAbove) = true := by decide +kernel
def zl_X5_areAllAbove_1 : List (Nat × zE) := [(20, .iload_n 1, 1, 0, 0, 0), (21, .iaload, 1, 0, 0, 0), (22, .ifCond .gt 5, 3, 27, 0, 0), (25, .iconst 0, 1, 0, 0, 0), (26, .ireturn, 1, 1, 0, 0), (27, .iinc 1 1, 3, 0, 0, 0), (30, .goto (-28), 3, 2, 0, 0), (33, .iconst 1, 1, 0, 0, 0), (34, .ireturn, 1, 1, 0, 0)]
set_option maxRecDepth 100000 in
theorem zk_X5_areAllAbove_1 : zl_X5_areAllAbove_1.all (zgoodB zmt zm_X5_areAllAbove) = true := by decide +kernel
def zp_X5_areAllAbove : Nat → Option zE := (ztr 20 (zlf zl_X5_areAllAbove_0) (zlf zl_X5_areAllAbove_1))
theorem za_X5_areAllAbove : zall (zgood zmt zm_X5_areAllAbove) zp_X5_areAllAbove := (zall_tr (zall_lf zl_X5_areAllAbove_0 zk_X5_areAllAbove_0) (zall_lf zl_X5_areAllAbove_1 zk_X5_areAllAbove_1))
def zl_X5_isEven_0 : List (Nat × zE) := [(0, .iconst 0, 1, 0, 0, 0), (1, .istore_n 1, 1, 0, 0, 0), (2, .iload_n 1, 1, 0, 0, 0), (3, .aload_n 0, 1, 0, 0, 0), (4, .getfield 12, 3, 5, 0, 243), (7, .getfield 155, 3, 3, 3, 82), (10, .if_icmp .ge 66, 3, 76, 0, 0), (13, .aload_n 0, 1, 0, 0, 0), (14, .getfield 24, 3, 5, 2, 245), (17, .aload_n 0, 1, 0, 0, 0)]
set_option maxRecDepth 100000 in
theorem zk_X5_isEven_0 : zl_X5_isEven_0.all (zgoodB zmt zm_X5_isEven) = true := by decide +kernel
def zl_X5_isEven_1 : List (Nat × zE) := [(18, .getfield 12, 3, 5, 0, 243), (21, .getfield 95, 3, 3, 0, 76), (24, .aload_n 0, 1, 0, 0, 0), (25, .getfield 12, 3, 5, 0, 243), (28, .getfield 109, 3, 3, 1, 78), (31, .aload_n 0, 1, 0, 0, 0), (32, .getfield 12, 3, 5, 0, 243), (35, .getfield 156, 3, 3, 4, 84), (38, .iload_n 1, 1, 0, 0, 0), (39, .iaload, 1, 0, 0, 0)]
set_option maxRecDepth 100000 in
theorem zk_X5_isEven_1 : zl_X5_isEven_1.all (zgoodB zmt zm_X5_isEven) = true := by decide +kernel
def zl_X5_isEven_2 : List (Nat × zE) := [(40, .aload_n 0, 1, 0, 0, 0), (41, .getfield 12, 3, 5, 0, 243), (44, .getfield 159, 3, 3, 5, 86), (47, .iload_n 1, 1, 0, 0, 0), (48, .iaload, 1, 0, 0, 0), (49, .invokevirtual 112, 3, 15, 8293, 702), (52, .aload_n 0, 1, 0, 0, 0), (53, .aload_n 0, 1, 0, 0, 0), (54, .getfield 12, 3, 5, 0, 243), (57, .getfield 162, 3, 3, 6, 88)]
set_option maxRecDepth 100000 in
theorem zk_X5_isEven_2 : zl_X5_isEven_2.all (zgoodB zmt zm_X5_isEven) = true := by decide +kernel
def zl_X5_isEven_3 : List (Nat × zE) := [(60, .iload_n 1, 1, 0, 0, 0), (61, .iaload, 1, 0, 0, 0), (62, .invokevirtual 297, 3, 83, 20546, 1006), (65, .ifCond .ne 5, 3, 70, 0, 0), (68, .iconst 0, 1, 0, 0, 0), (69, .ireturn, 1, 1, 0, 0), (70, .iinc 1 1, 3, 0, 0, 0), (73, .goto (-71), 3, 2, 0, 0), (76, .iconst 1, 1, 0, 0, 0), (77, .ireturn, 1, 1, 0, 0)]
set_option maxRecDepth 100000 in
theorem zk_X5_isEven_3 : zl_X5_isEven_3.all (zgoodB zmt zm_X5_isEven) = true := by decide +kernel
def zp_X5_isEven : Nat → Option zE := (ztr 40 (ztr 18 (zlf zl_X5_isEven_0) (zlf zl_X5_isEven_1)) (ztr 60 (zlf zl_X5_isEven_2) (zlf zl_X5_isEven_3)))
theorem za_X5_isEven : zall (zgood zmt zm_X5_isEven) zp_X5_isEven := (zall_tr (zall_tr (zall_lf zl_X5_isEven_0 zk_X5_isEven_0) (zall_lf zl_X5_isEven_1 zk_X5_isEven_1)) (zall_tr (zall_lf zl_X5_isEven_2 zk_X5_isEven_2) (zall_lf zl_X5_isEven_3 zk_X5_isEven_3)))
def zl_X5_isOrbitOfWeight_0 : List (Nat × zE) := [(0, .iconst 0, 1, 0, 0, 0), (1, .istore_n 2, 1, 0, 0, 0), (2, .iload_n 2, 1, 0, 0, 0), (3, .aload_n 0, 1, 0, 0, 0), (4, .getfield 24, 3, 5, 2, 245), (7, .getfield 124, 3, 2, 2, 121), (10, .if_icmp .ge 55, 3, 65, 0, 0), (13, .aload_n 0, 1, 0, 0, 0), (14, .getfield 12, 3, 5, 0, 243), (17, .aload_n 0, 1, 0, 0, 0)]
set_option maxRecDepth 100000 in
theorem zk_X5_isOrbitOfWeight_0 : zl_X5_isOrbitOfWeight_0.all (zgoodB zmt zm_X5_isOrbitOfWeight) = true := by decide +kernel
def zl_X5_isOrbitOfWeight_1 : List (Nat × zE) := [(18, .getfield 24, 3, 5, 2, 245), (21, .getfield 274, 3, 2, 0, 114), (24, .iload_n 2, 1, 0, 0, 0), (25, .iaload, 1, 0, 0, 0), (26, .aload_n 0, 1, 0, 0, 0), (27, .getfield 24, 3, 5, 2, 245), (30, .getfield 275, 3, 2, 1, 118), (33, .iload_n 2, 1, 0, 0, 0), (34, .iaload, 1, 0, 0, 0), (35, .invokevirtual 279, 3, 24, 12355, 744)]
set_option maxRecDepth 100000 in
theorem zk_X5_isOrbitOfWeight_1 : zl_X5_isOrbitOfWeight_1.all (zgoodB zmt zm_X5_isOrbitOfWeight) = true := by decide +kernel
def zl_X5_isOrbitOfWeight_2 : List (Nat × zE) := [(38, .istore_n 3, 1, 0, 0, 0), (39, .iload_n 3, 1, 0, 0, 0), (40, .iconst (-1), 1, 0, 0, 0), (41, .if_icmp .eq 16, 3, 57, 0, 0), (44, .aload_n 0, 1, 0, 0, 0), (45, .getfield 12, 3, 5, 0, 243), (48, .getfield 162, 3, 3, 6, 88), (51, .iload_n 3, 1, 0, 0, 0), (52, .iaload, 1, 0, 0, 0), (53, .iload_n 1, 1, 0, 0, 0)]
set_option maxRecDepth 100000 in
theorem zk_X5_isOrbitOfWeight_2 : zl_X5_isOrbitOfWeight_2.all (zgoodB zmt zm_X5_isOrbitOfWeight) = true := by decide +kernel
def zl_X5_isOrbitOfWeight_3 : List (Nat × zE) := [(54, .if_icmp .eq 5, 3, 59, 0, 0), (57, .iconst 0, 1, 0, 0, 0), (58, .ireturn, 1, 1, 0, 0), (59, .iinc 2 1, 3, 0, 0, 0), (62, .goto (-60), 3, 2, 0, 0), (65, .iconst 1, 1, 0, 0, 0), (66, .ireturn, 1, 1, 0, 0)]
set_option maxRecDepth 100000 in
theorem zk_X5_isOrbitOfWeight_3 : zl_X5_isOrbitOfWeight_3.all (zgoodB zmt zm_X5_isOrbitOfWeight) = true := by decide +kernel
def zp_X5_isOrbitOfWeight : Nat → Option zE := (ztr 38 (ztr 18 (zlf zl_X5_isOrbitOfWeight_0) (zlf zl_X5_isOrbitOfWeight_1)) (ztr 54 (zlf zl_X5_isOrbitOfWeight_2) (zlf zl_X5_isOrbitOfWeight_3)))
theorem za_X5_isOrbitOfWeight : zall (zgood zmt zm_X5_isOrbitOfWeight) zp_X5_isOrbitOfWeight := (zall_tr (zall_tr (zall_lf zl_X5_isOrbitOfWeight_0 zk_X5_isOrbitOfWeight_0) (zall_lf zl_X5_isOrbitOfWeight_1 zk_X5_isOrbitOfWeight_1)) (zall_tr (zall_lf zl_X5_isOrbitOfWeight_2 zk_X5_isOrbitOfWeight_2) (zall_lf zl_X5_isOrbitOfWeight_3 zk_X5_isOrbitOfWeight_3)))
def zl_X5_becomePair_0 : List (Nat × zE) := [(0, .aload_n 0, 1, 0, 0, 0), (1, .getfield 31, 3, 5, 3, 246), (4, .iload_n 1, 1, 0, 0, 0), (5, .iload_n 2, 1, 0, 0, 0), (6, .invokevirtual 300, 3, 11, 4307, 1148), (9, .ifCond .ne 4, 3, 13, 0, 0), (12, .return_, 1, 0, 0, 0), (13, .aload_n 0, 1, 0, 0, 0), (14, .getfield 12, 3, 5, 0, 243), (17, .aload_n 0, 1, 0, 0, 0)]
set_option maxRecDepth 100000 in
theorem zk_X5_becomePair_0 : zl_X5_becomePair_0.all (zgoodB zmt zm_X5_becomePair) = true := by decide +kernel
def zl_X5_becomePair_1 : List (Nat × zE) := [(18, .getfield 12, 3, 5, 0, 243), (21, .getfield 95, 3, 3, 0, 76), (24, .aload_n 0, 1, 0, 0, 0), (25, .getfield 31, 3, 5, 3, 246), (28, .getfield 303, 3, 1, 1, 157), (31, .aload_n 0, 1, 0, 0, 0), (32, .getfield 31, 3, 5, 3, 246), (35, .getfield 304, 3, 1, 16, 177), (38, .l2i, 1, 0, 0, 0), (39, .invokevirtual 85, 3, 20, 12356, 592)]
set_option maxRecDepth 100000 in
theorem zk_X5_becomePair_1 : zl_X5_becomePair_1.all (zgoodB zmt zm_X5_becomePair) = true := by decide +kernel
def zl_X5_becomePair_2 : List (Nat × zE) := [(42, .aload_n 0, 1, 0, 0, 0), (43, .getfield 24, 3, 5, 2, 245), (46, .aload_n 0, 1, 0, 0, 0), (47, .getfield 12, 3, 5, 0, 243), (50, .getfield 95, 3, 3, 0, 76), (53, .aload_n 0, 1, 0, 0, 0), (54, .getfield 12, 3, 5, 0, 243), (57, .getfield 109, 3, 3, 1, 78), (60, .aload_n 0, 1, 0, 0, 0), (61, .getfield 31, 3, 5, 3, 246)]
set_option maxRecDepth 100000 in
theorem zk_X5_becomePair_2 : zl_X5_becomePair_2.all (zgoodB zmt zm_X5_becomePair) = true := by decide +kernel
def zl_X5_becomePair_3 : List (Nat × zE) := [(64, .getfield 307, 3, 1, 3, 160), (67, .iload_n 1, 1, 0, 0, 0), (68, .iaload, 1, 0, 0, 0), (69, .aload_n 0, 1, 0, 0, 0), (70, .getfield 31, 3, 5, 3, 246), (73, .getfield 308, 3, 1, 4, 162), (76, .iload_n 1, 1, 0, 0, 0), (77, .iaload, 1, 0, 0, 0), (78, .invokevirtual 112, 3, 15, 8293, 702), (81, .aload_n 0, 1, 0, 0, 0)]
set_option maxRecDepth 100000 in
theorem zk_X5_becomePair_3 : zl_X5_becomePair_3.all (zgoodB zmt zm_X5_becomePair) = true := by decide +kernel
def zl_X5_becomePair_4 : List (Nat × zE) := [(82, .getfield 12, 3, 5, 0, 243), (85, .aload_n 0, 1, 0, 0, 0), (86, .getfield 24, 3, 5, 2, 245), (89, .aload_n 0, 1, 0, 0, 0), (90, .getfield 31, 3, 5, 3, 246), (93, .getfield 309, 3, 1, 14, 173), (96, .l2i, 1, 0, 0, 0), (97, .invokevirtual 120, 3, 27, 12355, 746), (100, .aload_n 0, 1, 0, 0, 0), (101, .getfield 24, 3, 5, 2, 245)]
set_option maxRecDepth 100000 in
theorem zk_X5_becomePair_4 : zl_X5_becomePair_4.all (zgoodB zmt zm_X5_becomePair) = true := by decide +kernel
def zl_X5_becomePair_5 : List (Nat × zE) := [(104, .aload_n 0, 1, 0, 0, 0), (105, .getfield 12, 3, 5, 0, 243), (108, .getfield 95, 3, 3, 0, 76), (111, .aload_n 0, 1, 0, 0, 0), (112, .getfield 12, 3, 5, 0, 243), (115, .getfield 109, 3, 3, 1, 78), (118, .aload_n 0, 1, 0, 0, 0), (119, .getfield 31, 3, 5, 3, 246), (122, .getfield 307, 3, 1, 3, 160), (125, .iload_n 2, 1, 0, 0, 0)]
set_option maxRecDepth 100000 in
theorem zk_X5_becomePair_5 : zl_X5_becomePair_5.all (zgoodB zmt zm_X5_becomePair) = true := by decide +kernel
def zl_X5_becomePair_6 : List (Nat × zE) := [(126, .iaload, 1, 0, 0, 0), (127, .aload_n 0, 1, 0, 0, 0), (128, .getfield 31, 3, 5, 3, 246), (131, .getfield 308, 3, 1, 4, 162), (134, .iload_n 2, 1, 0, 0, 0), (135, .iaload, 1, 0, 0, 0), (136, .invokevirtual 112, 3, 15, 8293, 702), (139, .aload_n 0, 1, 0, 0, 0), (140, .getfield 12, 3, 5, 0, 243), (143, .aload_n 0, 1, 0, 0, 0)]
set_option maxRecDepth 100000 in
theorem zk_X5_becomePair_6 : zl_X5_becomePair_6.all (zgoodB zmt zm_X5_becomePair) = true := by decide +kernel
def zl_X5_becomePair_7 : List (Nat × zE) := [(144, .getfield 24, 3, 5, 2, 245), (147, .aload_n 0, 1, 0, 0, 0), (148, .getfield 31, 3, 5, 3, 246), (151, .getfield 312, 3, 1, 15, 175), (154, .l2i, 1, 0, 0, 0), (155, .invokevirtual 120, 3, 27, 12355, 746), (158, .return_, 1, 0, 0, 0)]
set_option maxRecDepth 100000 in
theorem zk_X5_becomePair_7 : zl_X5_becomePair_7.all (zgoodB zmt zm_X5_becomePair) = true := by decide +kernel
def zp_X5_becomePair : Nat → Option zE := (ztr 82 (ztr 42 (ztr 18 (zlf zl_X5_becomePair_0) (zlf zl_X5_becomePair_1)) (ztr 64 (zlf zl_X5_becomePair_2) (zlf zl_X5_becomePair_3))) (ztr 126 (ztr 104 (zlf zl_X5_becomePair_4) (zlf zl_X5_becomePair_5)) (ztr 144 (zlf zl_X5_becomePair_6) (zlf zl_X5_becomePair_7))))
theorem za_X5_becomePair : zall (zgood zmt zm_X5_becomePair) zp_X5_becomePair := (zall_tr (zall_tr (zall_tr (zall_lf zl_X5_becomePair_0 zk_X5_becomePair_0) (zall_lf zl_X5_becomePair_1 zk_X5_becomePair_1)) (zall_tr (zall_lf zl_X5_becomePair_2 zk_X5_becomePair_2) (zall_lf zl_X5_becomePair_3 zk_X5_becomePair_3))) (zall_tr (zall_tr (zall_lf zl_X5_becomePair_4 zk_X5_becomePair_4) (zall_lf zl_X5_becomePair_5 zk_X5_becomePair_5)) (zall_tr (zall_lf zl_X5_becomePair_6 zk_X5_becomePair_6) (zall_lf zl_X5_becomePair_7 zk_X5_becomePair_7))))
def zl_X5_findSumOfCut_0 : List (Nat × zE) := [(0, .iload_n 1, 1, 0, 0, 0), (1, .i2l, 1, 0, 0, 0), (2, .aload_n 0, 1, 0, 0, 0), (3, .getfield 12, 3, 5, 0, 243), (6, .getfield 109, 3, 3, 1, 78), (9, .i2l, 1, 0, 0, 0), (10, .lmul, 1, 0, 0, 0), (11, .aload_n 0, 1, 0, 0, 0), (12, .getfield 64, 3, 5, 11, 254), (15, .invokestatic 315, 3, 70, 20578, 1182)]
set_option maxRecDepth 100000 in
theorem zk_X5_findSumOfCut_0 : zl_X5_findSumOfCut_0.all (zgoodB zmt zm_X5_findSumOfCut) = true := by decide +kernel
def zl_X5_findSumOfCut_1 : List (Nat × zE) := [(18, .lconst 0, 1, 0, 0, 0), (19, .lstore_n 2, 1, 0, 0, 0), (20, .iconst 0, 1, 0, 0, 0), (21, .istore 4, 2, 0, 0, 0), (23, .iload 4, 2, 0, 0, 0), (25, .iload_n 1, 1, 0, 0, 0), (26, .if_icmp .ge 63, 3, 89, 0, 0), (29, .iconst 0, 1, 0, 0, 0), (30, .istore 5, 2, 0, 0, 0), (32, .iload 5, 2, 0, 0, 0)]
set_option maxRecDepth 100000 in
theorem zk_X5_findSumOfCut_1 : zl_X5_findSumOfCut_1.all (zgoodB zmt zm_X5_findSumOfCut) = true := by decide +kernel
def zl_X5_findSumOfCut_2 : List (Nat × zE) := [(34, .iload_n 1, 1, 0, 0, 0), (35, .if_icmp .ge 48, 3, 83, 0, 0), (38, .lload_n 2, 1, 0, 0, 0), (39, .aload_n 0, 1, 0, 0, 0), (40, .iconst 2, 1, 0, 0, 0), (41, .iload 4, 2, 0, 0, 0), (43, .imul, 1, 0, 0, 0), (44, .iconst 1, 1, 0, 0, 0), (45, .iadd, 1, 0, 0, 0), (46, .iload_n 1, 1, 0, 0, 0)]
set_option maxRecDepth 100000 in
theorem zk_X5_findSumOfCut_2 : zl_X5_findSumOfCut_2.all (zgoodB zmt zm_X5_findSumOfCut) = true := by decide +kernel
def zl_X5_findSumOfCut_3 : List (Nat × zE) := [(47, .isub, 1, 0, 0, 0), (48, .aload_n 0, 1, 0, 0, 0), (49, .getfield 12, 3, 5, 0, 243), (52, .getfield 109, 3, 3, 1, 78), (55, .imul, 1, 0, 0, 0), (56, .iconst 2, 1, 0, 0, 0), (57, .iload 5, 2, 0, 0, 0), (59, .imul, 1, 0, 0, 0), (60, .iconst 1, 1, 0, 0, 0), (61, .iadd, 1, 0, 0, 0)]
set_option maxRecDepth 100000 in
theorem zk_X5_findSumOfCut_3 : zl_X5_findSumOfCut_3.all (zgoodB zmt zm_X5_findSumOfCut) = true := by decide +kernel
def zl_X5_findSumOfCut_4 : List (Nat × zE) := [(62, .iload_n 1, 1, 0, 0, 0), (63, .isub, 1, 0, 0, 0), (64, .aload_n 0, 1, 0, 0, 0), (65, .getfield 12, 3, 5, 0, 243), (68, .getfield 109, 3, 3, 1, 78), (71, .imul, 1, 0, 0, 0), (72, .invokevirtual 319, 3, 86, 20579, 1184), (75, .ladd, 1, 0, 0, 0), (76, .lstore_n 2, 1, 0, 0, 0), (77, .iinc 5 1, 3, 0, 0, 0)]
set_option maxRecDepth 100000 in
theorem zk_X5_findSumOfCut_4 : zl_X5_findSumOfCut_4.all (zgoodB zmt zm_X5_findSumOfCut) = true := by decide +kernel
def zl_X5_findSumOfCut_5 : List (Nat × zE) := [(80, .goto (-48), 3, 32, 0, 0), (83, .iinc 4 1, 3, 0, 0, 0), (86, .goto (-63), 3, 23, 0, 0), (89, .aload_n 0, 1, 0, 0, 0), (90, .getfield 38, 3, 5, 4, 247), (93, .lload_n 2, 1, 0, 0, 0), (94, .aload_n 0, 1, 0, 0, 0), (95, .getfield 12, 3, 5, 0, 243), (98, .getfield 260, 3, 3, 2, 80), (101, .i2l, 1, 0, 0, 0)]
set_option maxRecDepth 100000 in
theorem zk_X5_findSumOfCut_5 : zl_X5_findSumOfCut_5.all (zgoodB zmt zm_X5_findSumOfCut) = true := by decide +kernel
def zl_X5_findSumOfCut_6 : List (Nat × zE) := [(102, .iload_n 1, 1, 0, 0, 0), (103, .i2l, 1, 0, 0, 0), (104, .lmul, 1, 0, 0, 0), (105, .iload_n 1, 1, 0, 0, 0), (106, .i2l, 1, 0, 0, 0), (107, .lmul, 1, 0, 0, 0), (108, .aload_n 0, 1, 0, 0, 0), (109, .getfield 64, 3, 5, 11, 254), (112, .iconst 4, 1, 0, 0, 0), (113, .laload, 1, 0, 0, 0)]
set_option maxRecDepth 100000 in
theorem zk_X5_findSumOfCut_6 : zl_X5_findSumOfCut_6.all (zgoodB zmt zm_X5_findSumOfCut) = true := by decide +kernel
def zl_X5_findSumOfCut_7 : List (Nat × zE) := [(114, .lmul, 1, 0, 0, 0), (115, .invokevirtual 216, 3, 1, 147, 914), (118, .return_, 1, 0, 0, 0)]
set_option maxRecDepth 100000 in
theorem zk_X5_findSumOfCut_7 : zl_X5_findSumOfCut_7.all (zgoodB zmt zm_X5_findSumOfCut) = true := by decide +kernel
def zp_X5_findSumOfCut : Nat → Option zE := (ztr 62 (ztr 34 (ztr 18 (zlf zl_X5_findSumOfCut_0) (zlf zl_X5_findSumOfCut_1)) (ztr 47 (zlf zl_X5_findSumOfCut_2) (zlf zl_X5_findSumOfCut_3))) (ztr 102 (ztr 80 (zlf zl_X5_findSumOfCut_4) (zlf zl_X5_findSumOfCut_5)) (ztr 114 (zlf zl_X5_findSumOfCut_6) (zlf zl_X5_findSumOfCut_7))))
theorem za_X5_findSumOfCut : zall (zgood zmt zm_X5_findSumOfCut) zp_X5_findSumOfCut := (zall_tr (zall_tr (zall_tr (zall_lf zl_X5_findSumOfCut_0 zk_X5_findSumOfCut_0) (zall_lf zl_X5_findSumOfCut_1 zk_X5_findSumOfCut_1)) (zall_tr (zall_lf zl_X5_findSumOfCut_2 zk_X5_findSumOfCut_2) (zall_lf zl_X5_findSumOfCut_3 zk_X5_findSumOfCut_3))) (zall_tr (zall_tr (zall_lf zl_X5_findSumOfCut_4 zk_X5_findSumOfCut_4) (zall_lf zl_X5_findSumOfCut_5 zk_X5_findSumOfCut_5)) (zall_tr (zall_lf zl_X5_findSumOfCut_6 zk_X5_findSumOfCut_6) (zall_lf zl_X5_findSumOfCut_7 zk_X5_findSumOfCut_7))))
def zl_X5_sumMoved_0 : List (Nat × zE) := [(0, .lconst 0, 1, 0, 0, 0), (1, .lstore_n 3, 1, 0, 0, 0), (2, .iconst 0, 1, 0, 0, 0), (3, .istore 5, 2, 0, 0, 0), (5, .iload 5, 2, 0, 0, 0), (7, .aload_n 0, 1, 0, 0, 0), (8, .getfield 12, 3, 5, 0, 243), (11, .getfield 155, 3, 3, 3, 82), (14, .if_icmp .ge 52, 3, 66, 0, 0), (17, .lload_n 3, 1, 0, 0, 0)]
set_option maxRecDepth 100000 in
theorem zk_X5_sumMoved_0 : zl_X5_sumMoved_0.all (zgoodB zmt zm_X5_sumMoved) = true := by decide +kernel
def zl_X5_sumMoved_1 : List (Nat × zE) := [(18, .aload_n 0, 1, 0, 0, 0), (19, .getfield 12, 3, 5, 0, 243), (22, .getfield 162, 3, 3, 6, 88), (25, .iload 5, 2, 0, 0, 0), (27, .iaload, 1, 0, 0, 0), (28, .i2l, 1, 0, 0, 0), (29, .aload_n 0, 1, 0, 0, 0), (30, .aload_n 0, 1, 0, 0, 0), (31, .getfield 12, 3, 5, 0, 243), (34, .getfield 156, 3, 3, 4, 84)]
set_option maxRecDepth 100000 in
theorem zk_X5_sumMoved_1 : zl_X5_sumMoved_1.all (zgoodB zmt zm_X5_sumMoved) = true := by decide +kernel
def zl_X5_sumMoved_2 : List (Nat × zE) := [(37, .iload 5, 2, 0, 0, 0), (39, .iaload, 1, 0, 0, 0), (40, .iload_n 1, 1, 0, 0, 0), (41, .iadd, 1, 0, 0, 0), (42, .aload_n 0, 1, 0, 0, 0), (43, .getfield 12, 3, 5, 0, 243), (46, .getfield 159, 3, 3, 5, 86), (49, .iload 5, 2, 0, 0, 0), (51, .iaload, 1, 0, 0, 0), (52, .iload_n 2, 1, 0, 0, 0)]
set_option maxRecDepth 100000 in
theorem zk_X5_sumMoved_2 : zl_X5_sumMoved_2.all (zgoodB zmt zm_X5_sumMoved) = true := by decide +kernel
def zl_X5_sumMoved_3 : List (Nat × zE) := [(53, .iadd, 1, 0, 0, 0), (54, .invokevirtual 322, 3, 87, 20595, 1192), (57, .lmul, 1, 0, 0, 0), (58, .ladd, 1, 0, 0, 0), (59, .lstore_n 3, 1, 0, 0, 0), (60, .iinc 5 1, 3, 0, 0, 0), (63, .goto (-58), 3, 5, 0, 0), (66, .lload_n 3, 1, 0, 0, 0), (67, .lreturn, 1, 0, 0, 0)]
set_option maxRecDepth 100000 in
theorem zk_X5_sumMoved_3 : zl_X5_sumMoved_3.all (zgoodB zmt zm_X5_sumMoved) = true := by decide +kernel
def zp_X5_sumMoved : Nat → Option zE := (ztr 37 (ztr 18 (zlf zl_X5_sumMoved_0) (zlf zl_X5_sumMoved_1)) (ztr 53 (zlf zl_X5_sumMoved_2) (zlf zl_X5_sumMoved_3)))
theorem za_X5_sumMoved : zall (zgood zmt zm_X5_sumMoved) zp_X5_sumMoved := (zall_tr (zall_tr (zall_lf zl_X5_sumMoved_0 zk_X5_sumMoved_0) (zall_lf zl_X5_sumMoved_1 zk_X5_sumMoved_1)) (zall_tr (zall_lf zl_X5_sumMoved_2 zk_X5_sumMoved_2) (zall_lf zl_X5_sumMoved_3 zk_X5_sumMoved_3)))
def zl_X5_valueAt_0 : List (Nat × zE) := [(0, .iload_n 1, 1, 0, 0, 0), (1, .i2l, 1, 0, 0, 0), (2, .aload_n 0, 1, 0, 0, 0), (3, .getfield 57, 3, 5, 9, 252), (6, .invokestatic 315, 3, 70, 20578, 1182), (9, .iload_n 2, 1, 0, 0, 0), (10, .i2l, 1, 0, 0, 0), (11, .aload_n 0, 1, 0, 0, 0), (12, .getfield 61, 3, 5, 10, 253), (15, .invokestatic 315, 3, 70, 20578, 1182)]
set_option maxRecDepth 100000 in
theorem zk_X5_valueAt_0 : zl_X5_valueAt_0.all (zgoodB zmt zm_X5_valueAt) = true := by decide +kernel
def zl_X5_valueAt_1 : List (Nat × zE) := [(18, .lconst 0, 1, 0, 0, 0), (19, .lstore_n 3, 1, 0, 0, 0), (20, .iconst 0, 1, 0, 0, 0), (21, .istore 5, 2, 0, 0, 0), (23, .iload 5, 2, 0, 0, 0), (25, .bipush 15, 2, 0, 0, 0), (27, .if_icmp .ge 79, 3, 106, 0, 0), (30, .aload_n 0, 1, 0, 0, 0), (31, .getfield 53, 3, 5, 8, 251), (34, .iload 5, 2, 0, 0, 0)]
set_option maxRecDepth 100000 in
theorem zk_X5_valueAt_1 : zl_X5_valueAt_1.all (zgoodB zmt zm_X5_valueAt) = true := by decide +kernel
def zl_X5_valueAt_2 : List (Nat × zE) := [(36, .iaload, 1, 0, 0, 0), (37, .ifCond .eq 63, 3, 100, 0, 0), (40, .iconst 4, 1, 0, 0, 0), (41, .getstatic 182, 3, 0, 0, 479), (44, .iload 5, 2, 0, 0, 0), (46, .iaload, 1, 0, 0, 0), (47, .isub, 1, 0, 0, 0), (48, .getstatic 185, 3, 1, 0, 481), (51, .iload 5, 2, 0, 0, 0), (53, .iaload, 1, 0, 0, 0)]
set_option maxRecDepth 100000 in
theorem zk_X5_valueAt_2 : zl_X5_valueAt_2.all (zgoodB zmt zm_X5_valueAt) = true := by decide +kernel
def zl_X5_valueAt_3 : List (Nat × zE) := [(54, .isub, 1, 0, 0, 0), (55, .istore 6, 2, 0, 0, 0), (57, .lload_n 3, 1, 0, 0, 0), (58, .aload_n 0, 1, 0, 0, 0), (59, .getfield 53, 3, 5, 8, 251), (62, .iload 5, 2, 0, 0, 0), (64, .iaload, 1, 0, 0, 0), (65, .i2l, 1, 0, 0, 0), (66, .aload_n 0, 1, 0, 0, 0), (67, .getfield 57, 3, 5, 9, 252)]
set_option maxRecDepth 100000 in
theorem zk_X5_valueAt_3 : zl_X5_valueAt_3.all (zgoodB zmt zm_X5_valueAt) = true := by decide +kernel
def zl_X5_valueAt_4 : List (Nat × zE) := [(70, .getstatic 182, 3, 0, 0, 479), (73, .iload 5, 2, 0, 0, 0), (75, .iaload, 1, 0, 0, 0), (76, .laload, 1, 0, 0, 0), (77, .lmul, 1, 0, 0, 0), (78, .aload_n 0, 1, 0, 0, 0), (79, .getfield 61, 3, 5, 10, 253), (82, .getstatic 185, 3, 1, 0, 481), (85, .iload 5, 2, 0, 0, 0), (87, .iaload, 1, 0, 0, 0)]
set_option maxRecDepth 100000 in
theorem zk_X5_valueAt_4 : zl_X5_valueAt_4.all (zgoodB zmt zm_X5_valueAt) = true := by decide +kernel
def zl_X5_valueAt_5 : List (Nat × zE) := [(88, .laload, 1, 0, 0, 0), (89, .lmul, 1, 0, 0, 0), (90, .aload_n 0, 1, 0, 0, 0), (91, .getfield 64, 3, 5, 11, 254), (94, .iload 6, 2, 0, 0, 0), (96, .laload, 1, 0, 0, 0), (97, .lmul, 1, 0, 0, 0), (98, .ladd, 1, 0, 0, 0), (99, .lstore_n 3, 1, 0, 0, 0), (100, .iinc 5 1, 3, 0, 0, 0)]
set_option maxRecDepth 100000 in
theorem zk_X5_valueAt_5 : zl_X5_valueAt_5.all (zgoodB zmt zm_X5_valueAt) = true := by decide +kernel
def zl_X5_valueAt_6 : List (Nat × zE) := [(103, .goto (-80), 3, 23, 0, 0), (106, .lload_n 3, 1, 0, 0, 0), (107, .lreturn, 1, 0, 0, 0)]
set_option maxRecDepth 100000 in
theorem zk_X5_valueAt_6 : zl_X5_valueAt_6.all (zgoodB zmt zm_X5_valueAt) = true := by decide +kernel
def zp_X5_valueAt : Nat → Option zE := (ztr 54 (ztr 18 (zlf zl_X5_valueAt_0) (ztr 36 (zlf zl_X5_valueAt_1) (zlf zl_X5_valueAt_2))) (ztr 88 (ztr 70 (zlf zl_X5_valueAt_3) (zlf zl_X5_valueAt_4)) (ztr 103 (zlf zl_X5_valueAt_5) (zlf zl_X5_valueAt_6))))
theorem za_X5_valueAt : zall (zgood zmt zm_X5_valueAt) zp_X5_valueAt := (zall_tr (zall_tr (zall_lf zl_X5_valueAt_0 zk_X5_valueAt_0) (zall_tr (zall_lf zl_X5_valueAt_1 zk_X5_valueAt_1) (zall_lf zl_X5_valueAt_2 zk_X5_valueAt_2))) (zall_tr (zall_tr (zall_lf zl_X5_valueAt_3 zk_X5_valueAt_3) (zall_lf zl_X5_valueAt_4 zk_X5_valueAt_4)) (zall_tr (zall_lf zl_X5_valueAt_5 zk_X5_valueAt_5) (zall_lf zl_X5_valueAt_6 zk_X5_valueAt_6))))
def zl_X5_faultOfReading_0 : List (Nat × zE) := [(0, .aload_n 0, 1, 0, 0, 0), (1, .iload_n 2, 1, 0, 0, 0), (2, .invokevirtual 127, 3, 34, 16418, 764), (5, .ifCond .eq 5, 3, 10, 0, 0), (8, .iconst 2, 1, 0, 0, 0), (9, .ireturn, 1, 0, 0, 0), (10, .aload_n 0, 1, 0, 0, 0), (11, .invokevirtual 134, 3, 33, 16401, 780), (14, .ifCond .eq 5, 3, 19, 0, 0), (17, .iconst 1, 1, 0, 0, 0)]
set_option maxRecDepth 100000 in
theorem zk_X5_faultOfReading_0 : zl_X5_faultOfReading_0.all (zgoodB zmt zm_X5_faultOfReading) = true := by decide +kernel
def zl_X5_faultOfReading_1 : List (Nat × zE) := [(18, .ireturn, 1, 0, 0, 0), (19, .aload_n 0, 1, 0, 0, 0), (20, .iload_n 1, 1, 0, 0, 0), (21, .lconst 1, 1, 0, 0, 0), (22, .invokevirtual 140, 3, 35, 16451, 790), (25, .ifCond .eq 7, 3, 32, 0, 0), (28, .iconst 0, 1, 0, 0, 0), (29, .goto 4, 3, 33, 0, 0), (32, .iconst 3, 1, 0, 0, 0), (33, .ireturn, 1, 0, 0, 0)]
set_option maxRecDepth 100000 in
theorem zk_X5_faultOfReading_1 : zl_X5_faultOfReading_1.all (zgoodB zmt zm_X5_faultOfReading) = true := by decide +kernel
def zp_X5_faultOfReading : Nat → Option zE := (ztr 18 (zlf zl_X5_faultOfReading_0) (zlf zl_X5_faultOfReading_1))
theorem za_X5_faultOfReading : zall (zgood zmt zm_X5_faultOfReading) zp_X5_faultOfReading := (zall_tr (zall_lf zl_X5_faultOfReading_0 zk_X5_faultOfReading_0) (zall_lf zl_X5_faultOfReading_1 zk_X5_faultOfReading_1))
def zl_X5_kindOf_0 : List (Nat × zE) := [(0, .aload_n 0, 1, 0, 0, 0), (1, .getfield 12, 3, 5, 0, 243), (4, .iload_n 1, 1, 0, 0, 0), (5, .invokevirtual 168, 3, 23, 12322, 862), (8, .ifCond .ne 5, 3, 13, 0, 0), (11, .iconst 2, 1, 0, 0, 0), (12, .ireturn, 1, 0, 0, 0), (13, .aload_n 0, 1, 0, 0, 0), (14, .iload_n 1, 1, 0, 0, 0), (15, .invokevirtual 165, 3, 76, 20514, 854)]
set_option maxRecDepth 100000 in
theorem zk_X5_kindOf_0 : zl_X5_kindOf_0.all (zgoodB zmt zm_X5_kindOf) = true := by decide +kernel
def zl_X5_kindOf_1 : List (Nat × zE) := [(18, .iconst 1, 1, 0, 0, 0), (19, .if_icmp .ne 7, 3, 26, 0, 0), (22, .iconst 0, 1, 0, 0, 0), (23, .goto 4, 3, 27, 0, 0), (26, .iconst 1, 1, 0, 0, 0), (27, .ireturn, 1, 0, 0, 0)]
set_option maxRecDepth 100000 in
theorem zk_X5_kindOf_1 : zl_X5_kindOf_1.all (zgoodB zmt zm_X5_kindOf) = true := by decide +kernel
def zp_X5_kindOf : Nat → Option zE := (ztr 18 (zlf zl_X5_kindOf_0) (zlf zl_X5_kindOf_1))
theorem za_X5_kindOf : zall (zgood zmt zm_X5_kindOf) zp_X5_kindOf := (zall_tr (zall_lf zl_X5_kindOf_0 zk_X5_kindOf_0) (zall_lf zl_X5_kindOf_1 zk_X5_kindOf_1))
def zl_X5_leaveTrace_0 : List (Nat × zE) := [(0, .aload_n 0, 1, 0, 0, 0), (1, .bipush 31, 2, 0, 0, 0), (3, .aload_n 0, 1, 0, 0, 0), (4, .getfield 73, 3, 5, 13, 256), (7, .imul, 1, 0, 0, 0), (8, .iload_n 1, 1, 0, 0, 0), (9, .iadd, 1, 0, 0, 0), (10, .putfield 73, 3, 5, 13, 256), (13, .return_, 1, 0, 0, 0)]
set_option maxRecDepth 100000 in
theorem zk_X5_leaveTrace_0 : zl_X5_leaveTrace_0.all (zgoodB zmt zm_X5_leaveTrace) = true := by decide +kernel
def zp_X5_leaveTrace : Nat → Option zE := (zlf zl_X5_leaveTrace_0)
theorem za_X5_leaveTrace : zall (zgood zmt zm_X5_leaveTrace) zp_X5_leaveTrace := (zall_lf zl_X5_leaveTrace_0 zk_X5_leaveTrace_0)
def zl_X5_tellAlone_0 : List (Nat × zE) := [(0, .aload_n 0, 1, 0, 0, 0), (1, .iconst 1, 1, 0, 0, 0), (2, .invokevirtual 325, 3, 90, 20514, 1292), (5, .aload_n 0, 1, 0, 0, 0), (6, .getfield 12, 3, 5, 0, 243), (9, .getfield 162, 3, 3, 6, 88), (12, .iload_n 1, 1, 0, 0, 0), (13, .iaload, 1, 0, 0, 0), (14, .ireturn, 1, 0, 0, 0)]
set_option maxRecDepth 100000 in
theorem zk_X5_tellAlone_0 : zl_X5_tellAlone_0.all (zgoodB zmt zm_X5_tellAlone) = true := by decide +kernel
def zp_X5_tellAlone : Nat → Option zE := (zlf zl_X5_tellAlone_0)
theorem za_X5_tellAlone : zall (zgood zmt zm_X5_tellAlone) zp_X5_tellAlone := (zall_lf zl_X5_tellAlone_0 zk_X5_tellAlone_0)
def zl_X5_tellOfMany_0 : List (Nat × zE) := [(0, .aload_n 0, 1, 0, 0, 0), (1, .iconst 2, 1, 0, 0, 0), (2, .invokevirtual 325, 3, 90, 20514, 1292), (5, .aload_n 0, 1, 0, 0, 0), (6, .iload_n 1, 1, 0, 0, 0), (7, .invokevirtual 245, 3, 91, 20514, 1284), (10, .aload_n 0, 1, 0, 0, 0), (11, .iload_n 1, 1, 0, 0, 0), (12, .invokevirtual 165, 3, 76, 20514, 854), (15, .iadd, 1, 0, 0, 0)]
set_option maxRecDepth 100000 in
theorem zk_X5_tellOfMany_0 : zl_X5_tellOfMany_0.all (zgoodB zmt zm_X5_tellOfMany) = true := by decide +kernel
def zl_X5_tellOfMany_1 : List (Nat × zE) := [(16, .ireturn, 1, 0, 0, 0)]
set_option maxRecDepth 100000 in
theorem zk_X5_tellOfMany_1 : zl_X5_tellOfMany_1.all (zgoodB zmt zm_X5_tellOfMany) = true := by decide +kernel
def zp_X5_tellOfMany : Nat → Option zE := (ztr 16 (zlf zl_X5_tellOfMany_0) (zlf zl_X5_tellOfMany_1))
theorem za_X5_tellOfMany : zall (zgood zmt zm_X5_tellOfMany) zp_X5_tellOfMany := (zall_tr (zall_lf zl_X5_tellOfMany_0 zk_X5_tellOfMany_0) (zall_lf zl_X5_tellOfMany_1 zk_X5_tellOfMany_1))
def zl_X5_tellAstray_0 : List (Nat × zE) := [(0, .aload_n 0, 1, 0, 0, 0), (1, .iconst 3, 1, 0, 0, 0), (2, .invokevirtual 325, 3, 90, 20514, 1292), (5, .aload_n 0, 1, 0, 0, 0), (6, .iload_n 1, 1, 0, 0, 0), (7, .invokevirtual 245, 3, 91, 20514, 1284), (10, .ineg, 1, 0, 0, 0), (11, .ireturn, 1, 0, 0, 0)]
set_option maxRecDepth 100000 in
theorem zk_X5_tellAstray_0 : zl_X5_tellAstray_0.all (zgoodB zmt zm_X5_tellAstray) = true := by decide +kernel
def zp_X5_tellAstray : Nat → Option zE := (zlf zl_X5_tellAstray_0)
theorem za_X5_tellAstray : zall (zgood zmt zm_X5_tellAstray) zp_X5_tellAstray := (zall_lf zl_X5_tellAstray_0 zk_X5_tellAstray_0)
def zl_X5_countLent_0 : List (Nat × zE) := [(0, .aload_n 0, 1, 0, 0, 0), (1, .iconst 4, 1, 0, 0, 0), (2, .invokevirtual 325, 3, 90, 20514, 1292), (5, .iload_n 1, 1, 0, 0, 0), (6, .ireturn, 1, 0, 0, 0)]
set_option maxRecDepth 100000 in
theorem zk_X5_countLent_0 : zl_X5_countLent_0.all (zgoodB zmt zm_X5_countLent) = true := by decide +kernel
def zp_X5_countLent : Nat → Option zE := (zlf zl_X5_countLent_0)
theorem za_X5_countLent : zall (zgood zmt zm_X5_countLent) zp_X5_countLent := (zall_lf zl_X5_countLent_0 zk_X5_countLent_0)
def zl_X5_countAstray_0 : List (Nat × zE) := [(0, .aload_n 0, 1, 0, 0, 0), (1, .iconst 5, 1, 0, 0, 0), (2, .invokevirtual 325, 3, 90, 20514, 1292), (5, .bipush 77, 2, 0, 0, 0), (7, .ireturn, 1, 0, 0, 0)]
set_option maxRecDepth 100000 in
theorem zk_X5_countAstray_0 : zl_X5_countAstray_0.all (zgoodB zmt zm_X5_countAstray) = true := by decide +kernel
def zp_X5_countAstray : Nat → Option zE := (zlf zl_X5_countAstray_0)
theorem za_X5_countAstray : zall (zgood zmt zm_X5_countAstray) zp_X5_countAstray := (zall_lf zl_X5_countAstray_0 zk_X5_countAstray_0)
def zl_X5_howManyKept_0 : List (Nat × zE) := [(0, .iconst 0, 1, 0, 0, 0), (1, .istore_n 1, 1, 0, 0, 0), (2, .iconst 0, 1, 0, 0, 0), (3, .istore_n 2, 1, 0, 0, 0), (4, .iload_n 2, 1, 0, 0, 0), (5, .bipush 6, 2, 0, 0, 0), (7, .if_icmp .ge 21, 3, 28, 0, 0), (10, .aload_n 0, 1, 0, 0, 0), (11, .getfield 49, 3, 5, 7, 250), (14, .iload_n 2, 1, 0, 0, 0)]
set_option maxRecDepth 100000 in
theorem zk_X5_howManyKept_0 : zl_X5_howManyKept_0.all (zgoodB zmt zm_X5_howManyKept) = true := by decide +kernel
def zl_X5_howManyKept_1 : List (Nat × zE) := [(15, .baload, 1, 0, 0, 0), (16, .ifCond .eq 6, 3, 22, 0, 0), (19, .iinc 1 1, 3, 0, 0, 0), (22, .iinc 2 1, 3, 0, 0, 0), (25, .goto (-21), 3, 4, 0, 0), (28, .iload_n 1, 1, 0, 0, 0), (29, .ireturn, 1, 0, 0, 0)]
set_option maxRecDepth 100000 in
theorem zk_X5_howManyKept_1 : zl_X5_howManyKept_1.all (zgoodB zmt zm_X5_howManyKept) = true := by decide +kernel
def zp_X5_howManyKept : Nat → Option zE := (ztr 15 (zlf zl_X5_howManyKept_0) (zlf zl_X5_howManyKept_1))
theorem za_X5_howManyKept : zall (zgood zmt zm_X5_howManyKept) zp_X5_howManyKept := (zall_tr (zall_lf zl_X5_howManyKept_0 zk_X5_howManyKept_0) (zall_lf zl_X5_howManyKept_1 zk_X5_howManyKept_1))
