/-! ===== code and links of X4 ===== -/
def kX4_empty : lpC := [(0, .aload_n 0, 1), (1, .iconst 0, 1), (2, .putfield 21, 3), (5, .return_, 1)]
theorem kX4_empty_ok : lp_okc kX4_empty cX4_empty none = true := by decide +kernel
def kX4_open : lpC := [(0, .aload_n 0, 1), (1, .getfield 21, 3), (4, .bipush 60, 2), (6, .if_icmp .lt 5, 3), (9, .iconst (-1), 1), (10, .ireturn, 1), (11, .aload_n 0, 1), (12, .getfield 18, 3), (15, .aload_n 0, 1), (16, .getfield 21, 3), (19, .iconst 1, 1), (20, .iadd, 1), (21, .aload_n 0, 1), (22, .getfield 18, 3), (25, .aload_n 0, 1), (26, .getfield 21, 3), (29, .iaload, 1), (30, .iastore, 1), (31, .aload_n 0, 1), (32, .dup, 1), (33, .getfield 21, 3), (36, .iconst 1, 1), (37, .iadd, 1), (38, .putfield 21, 3), (41, .aload_n 0, 1), (42, .getfield 21, 3), (45, .iconst 1, 1), (46, .isub, 1), (47, .ireturn, 1)]
theorem kX4_open_ok : lp_okc kX4_open cX4_open (some .int) = true := by decide +kernel
def kX4_add : lpC := [(0, .aload_n 0, 1), (1, .aload_n 0, 1), (2, .getfield 21, 3), (5, .iconst 1, 1), (6, .isub, 1), (7, .invokevirtual 25, 3), (10, .istore_n 3, 1), (11, .iload_n 3, 1), (12, .iconst (-1), 1), (13, .if_icmp .eq 9, 3), (16, .iload_n 3, 1), (17, .bipush 20, 2), (19, .if_icmp .lt 5, 3), (22, .iconst (-1), 1), (23, .ireturn, 1), (24, .aload_n 0, 1), (25, .getfield 18, 3), (28, .aload_n 0, 1), (29, .getfield 21, 3), (32, .iaload, 1), (33, .istore 4, 2), (35, .aload_n 0, 1), (36, .getfield 9, 3), (39, .iload 4, 2), (41, .iload_n 1, 1), (42, .iastore, 1), (43, .aload_n 0, 1), (44, .getfield 15, 3), (47, .iload 4, 2), (49, .iload_n 2, 1), (50, .iastore, 1), (51, .aload_n 0, 1), (52, .getfield 18, 3), (55, .aload_n 0, 1), (56, .getfield 21, 3), (59, .iload 4, 2), (61, .iconst 1, 1), (62, .iadd, 1), (63, .iastore, 1), (64, .iload_n 3, 1), (65, .iconst 1, 1), (66, .iadd, 1), (67, .ireturn, 1)]
theorem kX4_add_ok : lp_okc kX4_add cX4_add (some .int) = true := by decide +kernel
def kX4_asks : lpC := [(0, .aload_n 0, 1), (1, .getfield 18, 3), (4, .aload_n 0, 1), (5, .getfield 21, 3), (8, .iaload, 1), (9, .ireturn, 1)]
theorem kX4_asks_ok : lp_okc kX4_asks cX4_asks (some .int) = true := by decide +kernel
def kX4_has : lpC := [(0, .iload_n 1, 1), (1, .iconst 0, 1), (2, .aload_n 0, 1), (3, .getfield 21, 3), (6, .iconst 1, 1), (7, .isub, 1), (8, .invokestatic 29, 3), (11, .ireturn, 1)]
theorem kX4_has_ok : lp_okc kX4_has cX4_has (some .boolean) = true := by decide +kernel
def kX4_startOf : lpC := [(0, .aload_n 0, 1), (1, .iload_n 1, 1), (2, .invokevirtual 33, 3), (5, .ifCond .eq 12, 3), (8, .aload_n 0, 1), (9, .getfield 18, 3), (12, .iload_n 1, 1), (13, .iaload, 1), (14, .goto 7, 3), (17, .aload_n 0, 1), (18, .invokevirtual 37, 3), (21, .ireturn, 1)]
theorem kX4_startOf_ok : lp_okc kX4_startOf cX4_startOf (some .int) = true := by decide +kernel
def kX4_endOf : lpC := [(0, .aload_n 0, 1), (1, .iload_n 1, 1), (2, .invokevirtual 33, 3), (5, .ifCond .eq 14, 3), (8, .aload_n 0, 1), (9, .getfield 18, 3), (12, .iload_n 1, 1), (13, .iconst 1, 1), (14, .iadd, 1), (15, .iaload, 1), (16, .goto 7, 3), (19, .aload_n 0, 1), (20, .invokevirtual 37, 3), (23, .ireturn, 1)]
theorem kX4_endOf_ok : lp_okc kX4_endOf cX4_endOf (some .int) = true := by decide +kernel
def kX4_lengthOf : lpC := [(0, .aload_n 0, 1), (1, .iload_n 1, 1), (2, .invokevirtual 33, 3), (5, .ifCond .eq 21, 3), (8, .aload_n 0, 1), (9, .getfield 18, 3), (12, .iload_n 1, 1), (13, .iconst 1, 1), (14, .iadd, 1), (15, .iaload, 1), (16, .aload_n 0, 1), (17, .getfield 18, 3), (20, .iload_n 1, 1), (21, .iaload, 1), (22, .isub, 1), (23, .goto 4, 3), (26, .iconst (-1), 1), (27, .ireturn, 1)]
theorem kX4_lengthOf_ok : lp_okc kX4_lengthOf cX4_lengthOf (some .int) = true := by decide +kernel
def kX4_slotOf : lpC := [(0, .iload_n 2, 1), (1, .iconst 0, 1), (2, .aload_n 0, 1), (3, .iload_n 1, 1), (4, .invokevirtual 25, 3), (7, .iconst 1, 1), (8, .isub, 1), (9, .invokestatic 29, 3), (12, .ifCond .eq 14, 3), (15, .aload_n 0, 1), (16, .getfield 18, 3), (19, .iload_n 1, 1), (20, .iaload, 1), (21, .iload_n 2, 1), (22, .iadd, 1), (23, .goto 4, 3), (26, .iconst (-1), 1), (27, .ireturn, 1)]
theorem kX4_slotOf_ok : lp_okc kX4_slotOf cX4_slotOf (some .int) = true := by decide +kernel
def kX4_pageAt : lpC := [(0, .iload_n 1, 1), (1, .iconst 0, 1), (2, .aload_n 0, 1), (3, .invokevirtual 37, 3), (6, .iconst 1, 1), (7, .isub, 1), (8, .invokestatic 29, 3), (11, .ifCond .eq 12, 3), (14, .aload_n 0, 1), (15, .getfield 9, 3), (18, .iload_n 1, 1), (19, .iaload, 1), (20, .goto 4, 3), (23, .iconst (-1), 1), (24, .ireturn, 1)]
theorem kX4_pageAt_ok : lp_okc kX4_pageAt cX4_pageAt (some .int) = true := by decide +kernel
def kX4_waitAt : lpC := [(0, .iload_n 1, 1), (1, .iconst 0, 1), (2, .aload_n 0, 1), (3, .invokevirtual 37, 3), (6, .iconst 1, 1), (7, .isub, 1), (8, .invokestatic 29, 3), (11, .ifCond .eq 12, 3), (14, .aload_n 0, 1), (15, .getfield 15, 3), (18, .iload_n 1, 1), (19, .iaload, 1), (20, .goto 4, 3), (23, .iconst (-1), 1), (24, .ireturn, 1)]
theorem kX4_waitAt_ok : lp_okc kX4_waitAt cX4_waitAt (some .int) = true := by decide +kernel
def kX4_lastPlace : lpC := [(0, .aload_n 0, 1), (1, .aload_n 0, 1), (2, .getfield 21, 3), (5, .iconst 1, 1), (6, .isub, 1), (7, .invokevirtual 25, 3), (10, .ifCond .le 17, 3), (13, .aload_n 0, 1), (14, .getfield 9, 3), (17, .aload_n 0, 1), (18, .invokevirtual 37, 3), (21, .iconst 1, 1), (22, .isub, 1), (23, .iaload, 1), (24, .goto 5, 3), (27, .bipush 10, 2), (29, .ireturn, 1)]
theorem kX4_lastPlace_ok : lp_okc kX4_lastPlace cX4_lastPlace (some .int) = true := by decide +kernel
def flX4 : List (Nat × Nat × Nat) := [(9, 4, 0), (15, 4, 1), (18, 4, 2), (21, 4, 3)]
theorem flX4_ok : flX4.all (lp_flb RX4) = true := by decide +kernel
def pfX4 : List (Nat × Nat × Nat) := [(21, 4, 3)]
theorem pfX4_ok : pfX4.all (lp_pfb RX4) = true := by decide +kernel
def kcX4 : List (Nat × Int32) := []
theorem kcX4_ok : kcX4.all (lp_kcb RX4) = true := by decide +kernel
theorem lkX4_25 : lp_lnb RX4 25 (some 4) 1 yX4_lengthOf cX4_lengthOf 2 (some .int) = true := by decide +kernel
theorem lkX4_29 : lp_lnb RX4 29 none 3 yX6_isWithin cX6_isWithin 3 (some .boolean) = true := by decide +kernel
theorem lkX4_33 : lp_lnb RX4 33 (some 4) 1 yX4_has cX4_has 2 (some .boolean) = true := by decide +kernel
theorem lkX4_37 : lp_lnb RX4 37 (some 4) 0 yX4_asks cX4_asks 1 (some .int) = true := by decide +kernel
