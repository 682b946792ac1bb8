/-! ===== code and links of X5 ===== -/
def kX5_dealWalks : lpC := [(0, .aload_n 1, 1), (1, .invokevirtual 20, 3), (4, .iconst 0, 1), (5, .istore 4, 2), (7, .iload 4, 2), (9, .bipush 11, 2), (11, .if_icmp .ge 56, 3), (14, .aload_n 0, 1), (15, .getfield 11, 3), (18, .iload 4, 2), (20, .aaload, 1), (21, .invokevirtual 25, 3), (24, .iconst 0, 1), (25, .istore 5, 2), (27, .iload 5, 2), (29, .bipush 11, 2), (31, .if_icmp .ge 30, 3), (34, .aload_n 0, 1), (35, .getfield 11, 3), (38, .iload 4, 2), (40, .aaload, 1), (41, .getfield 28, 3), (44, .iload 5, 2), (46, .aload_n 1, 1), (47, .iload 4, 2), (49, .iload 5, 2), (51, .invokevirtual 32, 3), (54, .iastore, 1), (55, .iinc 5 1, 3), (58, .goto (-31), 3), (61, .iinc 4 1, 3), (64, .goto (-57), 3), (67, .aload_n 2, 1), (68, .invokevirtual 36, 3), (71, .iconst 0, 1), (72, .istore 4, 2), (74, .iload 4, 2), (76, .iload_n 3, 1), (77, .if_icmp .ge 20, 3), (80, .aload_n 2, 1), (81, .invokevirtual 41, 3), (84, .pop, 1), (85, .aload_n 0, 1), (86, .aload_n 1, 1), (87, .aload_n 2, 1), (88, .invokevirtual 45, 3), (91, .iinc 4 1, 3), (94, .goto (-20), 3), (97, .return_, 1)]
theorem kX5_dealWalks_ok : lp_okc kX5_dealWalks cX5_dealWalks none = true := by decide +kernel
def kX5_dealWalk : lpC := [(0, .bipush 10, 2), (2, .istore_n 3, 1), (3, .iconst 0, 1), (4, .istore 4, 2), (6, .iload 4, 2), (8, .bipush 20, 2), (10, .if_icmp .ge 46, 3), (13, .aload_n 0, 1), (14, .getfield 11, 3), (17, .iload_n 3, 1), (18, .aaload, 1), (19, .invokevirtual 49, 3), (22, .istore 5, 2), (24, .iload 5, 2), (26, .invokestatic 52, 3), (29, .ifCond .ne 4, 3), (32, .return_, 1), (33, .aload_n 2, 1), (34, .iload 5, 2), (36, .aload_n 1, 1), (37, .iload_n 3, 1), (38, .iload 5, 2), (40, .invokevirtual 56, 3), (43, .invokevirtual 59, 3), (46, .pop, 1), (47, .iload 5, 2), (49, .istore_n 3, 1), (50, .iinc 4 1, 3), (53, .goto (-47), 3), (56, .return_, 1)]
theorem kX5_dealWalk_ok : lp_okc kX5_dealWalk cX5_dealWalk none = true := by decide +kernel
def kX5_timesOf : lpC := [(0, .iload_n 1, 1), (1, .invokestatic 62, 3), (4, .ifCond .eq 24, 3), (7, .iload_n 2, 1), (8, .invokestatic 62, 3), (11, .ifCond .eq 17, 3), (14, .aload_n 0, 1), (15, .getfield 11, 3), (18, .iload_n 1, 1), (19, .aaload, 1), (20, .getfield 65, 3), (23, .iload_n 2, 1), (24, .iaload, 1), (25, .goto 4, 3), (28, .iconst 0, 1), (29, .ireturn, 1)]
theorem kX5_timesOf_ok : lp_okc kX5_timesOf cX5_timesOf (some .int) = true := by decide +kernel
def flX5 : List (Nat × Nat × Nat) := [(11, 5, 0), (28, 1, 0), (65, 1, 1)]
theorem flX5_ok : flX5.all (lp_flb RX5) = true := by decide +kernel
def pfX5 : List (Nat × Nat × Nat) := []
theorem pfX5_ok : pfX5.all (lp_pfb RX5) = true := by decide +kernel
def kcX5 : List (Nat × Int32) := []
theorem kcX5_ok : kcX5.all (lp_kcb RX5) = true := by decide +kernel
theorem lkX5_20 : lp_lnb RX5 20 (some 2) 0 yX2_beginWaitsAnew cX2_beginWaitsAnew 5 none = true := by decide +kernel
theorem lkX5_25 : lp_lnb RX5 25 (some 1) 0 yX1_beginAnew cX1_beginAnew 1 none = true := by decide +kernel
theorem lkX5_32 : lp_lnb RX5 32 (some 2) 2 yX2_countOf cX2_countOf 4 (some .int) = true := by decide +kernel
theorem lkX5_36 : lp_lnb RX5 36 (some 4) 0 yX4_empty cX4_empty 1 none = true := by decide +kernel
theorem lkX5_41 : lp_lnb RX5 41 (some 4) 0 yX4_open cX4_open 1 (some .int) = true := by decide +kernel
theorem lkX5_45 : lp_lnb RX5 45 (some 5) 2 yX5_dealWalk cX5_dealWalk 6 none = true := by decide +kernel
theorem lkX5_49 : lp_lnb RX5 49 (some 1) 0 yX1_deal cX1_deal 7 (some .int) = true := by decide +kernel
theorem lkX5_52 : lp_lnb RX5 52 none 1 yX6_isPage cX6_isPage 1 (some .boolean) = true := by decide +kernel
theorem lkX5_56 : lp_lnb RX5 56 (some 2) 2 yX2_dealWait cX2_dealWait 4 (some .int) = true := by decide +kernel
theorem lkX5_59 : lp_lnb RX5 59 (some 4) 2 yX4_add cX4_add 5 (some .int) = true := by decide +kernel
theorem lkX5_62 : lp_lnb RX5 62 none 1 yX6_isPlace cX6_isPlace 1 (some .boolean) = true := by decide +kernel
