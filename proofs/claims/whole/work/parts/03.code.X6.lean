/-! ===== code and links of X6 ===== -/
def kX6_visit : lpC := [(0, .aload_n 0, 1), (1, .getfield 12, 3), (4, .invokevirtual 54, 3), (7, .ireturn, 1)]
theorem kX6_visit_ok : lp_okc kX6_visit cX6_visit (some .int) = true := by decide +kernel
def kX6_ask : lpC := [(0, .iload_n 1, 1), (1, .invokestatic 58, 3), (4, .ifCond .eq 10, 3), (7, .iload_n 2, 1), (8, .invokestatic 62, 3), (11, .ifCond .ne 5, 3), (14, .iconst (-1), 1), (15, .ireturn, 1), (16, .aload_n 0, 1), (17, .iload_n 1, 1), (18, .iload_n 2, 1), (19, .invokevirtual 65, 3), (22, .ireturn, 1)]
theorem kX6_ask_ok : lp_okc kX6_ask cX6_ask (some .int) = true := by decide +kernel
def kX6_clear : lpC := [(0, .aload_n 0, 1), (1, .getfield 12, 3), (4, .invokevirtual 69, 3), (7, .aload_n 0, 1), (8, .getfield 19, 3), (11, .invokevirtual 72, 3), (14, .return_, 1)]
theorem kX6_clear_ok : lp_okc kX6_clear cX6_clear none = true := by decide +kernel
def kX6_steps : lpC := [(0, .aload_n 0, 1), (1, .getfield 19, 3), (4, .iload_n 1, 1), (5, .iload_n 2, 1), (6, .invokevirtual 75, 3), (9, .ireturn, 1)]
theorem kX6_steps_ok : lp_okc kX6_steps cX6_steps (some .int) = true := by decide +kernel
def kX6_waits : lpC := [(0, .aload_n 0, 1), (1, .getfield 19, 3), (4, .iload_n 1, 1), (5, .iload_n 2, 1), (6, .iload_n 3, 1), (7, .invokevirtual 78, 3), (10, .ireturn, 1)]
theorem kX6_waits_ok : lp_okc kX6_waits cX6_waits (some .int) = true := by decide +kernel
def kX6_rare : lpC := [(0, .aload_n 0, 1), (1, .getfield 19, 3), (4, .iload_n 1, 1), (5, .iload_n 2, 1), (6, .iload_n 3, 1), (7, .invokevirtual 82, 3), (10, .ireturn, 1)]
theorem kX6_rare_ok : lp_okc kX6_rare cX6_rare (some .boolean) = true := by decide +kernel
def kX6_cost : lpC := [(0, .iload_n 1, 1), (1, .invokestatic 58, 3), (4, .ifCond .eq 13, 3), (7, .iload_n 2, 1), (8, .iconst 1, 1), (9, .bipush 50, 2), (11, .invokestatic 86, 3), (14, .ifCond .ne 5, 3), (17, .iconst 0, 1), (18, .ireturn, 1), (19, .aload_n 0, 1), (20, .getfield 30, 3), (23, .iload_n 1, 1), (24, .iload_n 2, 1), (25, .iastore, 1), (26, .iconst 1, 1), (27, .ireturn, 1)]
theorem kX6_cost_ok : lp_okc kX6_cost cX6_cost (some .boolean) = true := by decide +kernel
def kX6_contexts : lpC := [(0, .iload_n 1, 1), (1, .iconst 1, 1), (2, .iconst 4, 1), (3, .invokestatic 86, 3), (6, .ifCond .ne 5, 3), (9, .iconst (-1), 1), (10, .ireturn, 1), (11, .aload_n 0, 1), (12, .getfield 26, 3), (15, .aload_n 0, 1), (16, .getfield 12, 3), (19, .iload_n 1, 1), (20, .invokevirtual 89, 3), (23, .aload_n 0, 1), (24, .getfield 26, 3), (27, .invokevirtual 93, 3), (30, .ireturn, 1)]
theorem kX6_contexts_ok : lp_okc kX6_contexts cX6_contexts (some .int) = true := by decide +kernel
def kX6_states : lpC := [(0, .iload_n 1, 1), (1, .iconst 1, 1), (2, .iconst 4, 1), (3, .invokestatic 86, 3), (6, .ifCond .ne 5, 3), (9, .iconst (-1), 1), (10, .ireturn, 1), (11, .aload_n 0, 1), (12, .getfield 26, 3), (15, .aload_n 0, 1), (16, .getfield 12, 3), (19, .iload_n 1, 1), (20, .invokevirtual 89, 3), (23, .aload_n 0, 1), (24, .getfield 26, 3), (27, .invokevirtual 96, 3), (30, .ireturn, 1)]
theorem kX6_states_ok : lp_okc kX6_states cX6_states (some .int) = true := by decide +kernel
def kX6_press : lpC := [(0, .iload_n 1, 1), (1, .iconst 1, 1), (2, .bipush 60, 2), (4, .invokestatic 86, 3), (7, .ifCond .eq 27, 3), (10, .iload_n 2, 1), (11, .iconst 0, 1), (12, .bipush 100, 2), (14, .invokestatic 86, 3), (17, .ifCond .eq 17, 3), (20, .iload_n 3, 1), (21, .iconst 1, 1), (22, .bipush 8, 2), (24, .invokestatic 86, 3), (27, .ifCond .eq 7, 3), (30, .iconst 1, 1), (31, .goto 4, 3), (34, .iconst 0, 1), (35, .istore 4, 2), (37, .iload 4, 2), (39, .ifCond .eq 13, 3), (42, .aload_n 0, 1), (43, .getfield 12, 3), (46, .invokevirtual 99, 3), (49, .ifCond .ne 5, 3), (52, .iconst (-1), 1), (53, .ireturn, 1), (54, .aload_n 0, 1), (55, .getfield 43, 3), (58, .aload_n 0, 1), (59, .getfield 19, 3), (62, .aload_n 0, 1), (63, .getfield 50, 3), (66, .getfield 102, 3), (69, .iload_n 1, 1), (70, .invokevirtual 105, 3), (73, .aload_n 0, 1), (74, .getfield 50, 3), (77, .iload_n 2, 1), (78, .iload_n 3, 1), (79, .aload_n 0, 1), (80, .getfield 30, 3), (83, .invokevirtual 109, 3), (86, .aload_n 0, 1), (87, .getfield 50, 3), (90, .getfield 102, 3), (93, .invokevirtual 99, 3), (96, .ireturn, 1)]
theorem kX6_press_ok : lp_okc kX6_press cX6_press (some .int) = true := by decide +kernel
def kX6_walked : lpC := [(0, .aload_n 0, 1), (1, .getfield 50, 3), (4, .getfield 102, 3), (7, .iload_n 1, 1), (8, .invokevirtual 113, 3), (11, .ireturn, 1)]
theorem kX6_walked_ok : lp_okc kX6_walked cX6_walked (some .int) = true := by decide +kernel
def kX6_told : lpC := [(0, .aload_n 0, 1), (1, .getfield 50, 3), (4, .aload_n 0, 1), (5, .getfield 50, 3), (8, .getfield 102, 3), (11, .iload_n 1, 1), (12, .iload_n 2, 1), (13, .invokevirtual 117, 3), (16, .iload_n 3, 1), (17, .invokevirtual 120, 3), (20, .ireturn, 1)]
theorem kX6_told_ok : lp_okc kX6_told cX6_told (some .int) = true := by decide +kernel
def kX6_dealt : lpC := [(0, .aload_n 0, 1), (1, .getfield 43, 3), (4, .iload_n 1, 1), (5, .iload_n 2, 1), (6, .invokevirtual 123, 3), (9, .ireturn, 1)]
theorem kX6_dealt_ok : lp_okc kX6_dealt cX6_dealt (some .int) = true := by decide +kernel
def kX6_part : lpC := [(0, .iload_n 1, 1), (1, .iconst 1, 1), (2, .sipush 1000, 3), (5, .invokestatic 86, 3), (8, .ifCond .eq 17, 3), (11, .aload_n 0, 1), (12, .getfield 50, 3), (15, .getfield 102, 3), (18, .iload_n 2, 1), (19, .invokevirtual 126, 3), (22, .ifCond .ne 5, 3), (25, .iconst (-1), 1), (26, .ireturn, 1), (27, .aload_n 0, 1), (28, .getfield 50, 3), (31, .iload_n 1, 1), (32, .iload_n 2, 1), (33, .invokevirtual 129, 3), (36, .ireturn, 1)]
theorem kX6_part_ok : lp_okc kX6_part cX6_part (some .int) = true := by decide +kernel
def kX6_late : lpC := [(0, .iload_n 1, 1), (1, .iconst 0, 1), (2, .ldc 132, 2), (4, .invokestatic 86, 3), (7, .ifCond .eq 17, 3), (10, .aload_n 0, 1), (11, .getfield 50, 3), (14, .getfield 102, 3), (17, .iload_n 2, 1), (18, .invokevirtual 126, 3), (21, .ifCond .ne 5, 3), (24, .iconst (-1), 1), (25, .ireturn, 1), (26, .aload_n 0, 1), (27, .getfield 50, 3), (30, .iload_n 1, 1), (31, .iload_n 2, 1), (32, .invokevirtual 133, 3), (35, .ireturn, 1)]
theorem kX6_late_ok : lp_okc kX6_late cX6_late (some .int) = true := by decide +kernel
def kX6_behind : lpC := [(0, .aload_n 0, 1), (1, .getfield 50, 3), (4, .invokevirtual 136, 3), (7, .ireturn, 1)]
theorem kX6_behind_ok : lp_okc kX6_behind cX6_behind (some .int) = true := by decide +kernel
def kX6_waiting : lpC := [(0, .iload_n 1, 1), (1, .iconst 0, 1), (2, .ldc 132, 2), (4, .invokestatic 86, 3), (7, .ifCond .eq 16, 3), (10, .aload_n 0, 1), (11, .getfield 50, 3), (14, .getfield 102, 3), (17, .getfield 139, 3), (20, .ifCond .ne 5, 3), (23, .iconst (-1), 1), (24, .ireturn, 1), (25, .aload_n 0, 1), (26, .getfield 50, 3), (29, .iload_n 1, 1), (30, .invokevirtual 143, 3), (33, .ireturn, 1)]
theorem kX6_waiting_ok : lp_okc kX6_waiting cX6_waiting (some .int) = true := by decide +kernel
def kX6_learn : lpC := [(0, .aload_n 0, 1), (1, .getfield 50, 3), (4, .getfield 102, 3), (7, .getfield 139, 3), (10, .ifCond .ne 5, 3), (13, .iconst (-1), 1), (14, .ireturn, 1), (15, .aload_n 0, 1), (16, .invokevirtual 146, 3), (19, .iconst 0, 1), (20, .istore_n 1, 1), (21, .iload_n 1, 1), (22, .aload_n 0, 1), (23, .getfield 50, 3), (26, .getfield 102, 3), (29, .getfield 139, 3), (32, .if_icmp .ge 29, 3), (35, .aload_n 0, 1), (36, .getfield 12, 3), (39, .invokevirtual 54, 3), (42, .pop, 1), (43, .aload_n 0, 1), (44, .aload_n 0, 1), (45, .getfield 50, 3), (48, .getfield 102, 3), (51, .iload_n 1, 1), (52, .invokevirtual 149, 3), (55, .iinc 1 1, 3), (58, .goto (-37), 3), (61, .aload_n 0, 1), (62, .getfield 12, 3), (65, .invokevirtual 99, 3), (68, .ireturn, 1)]
theorem kX6_learn_ok : lp_okc kX6_learn cX6_learn (some .int) = true := by decide +kernel
def kX6_count : lpC := [(0, .iload_n 1, 1), (1, .tableswitch 105 0 6 #[43, 51, 59, 70, 81, 89, 97], 43), (44, .aload_n 0, 1), (45, .getfield 12, 3), (48, .getfield 139, 3), (51, .ireturn, 1), (52, .aload_n 0, 1), (53, .getfield 12, 3), (56, .invokevirtual 99, 3), (59, .ireturn, 1), (60, .aload_n 0, 1), (61, .getfield 50, 3), (64, .getfield 102, 3), (67, .getfield 139, 3), (70, .ireturn, 1), (71, .aload_n 0, 1), (72, .getfield 50, 3), (75, .getfield 102, 3), (78, .invokevirtual 99, 3), (81, .ireturn, 1), (82, .aload_n 0, 1), (83, .getfield 50, 3), (86, .getfield 152, 3), (89, .ireturn, 1), (90, .aload_n 0, 1), (91, .getfield 50, 3), (94, .getfield 155, 3), (97, .ireturn, 1), (98, .aload_n 0, 1), (99, .getfield 19, 3), (102, .invokevirtual 158, 3), (105, .ireturn, 1), (106, .iconst (-1), 1), (107, .ireturn, 1)]
theorem kX6_count_ok : lp_okc kX6_count cX6_count (some .int) = true := by decide +kernel
def kX6_note : lpC := [(0, .aload_n 0, 1), (1, .getfield 12, 3), (4, .invokevirtual 161, 3), (7, .istore_n 3, 1), (8, .aload_n 0, 1), (9, .getfield 12, 3), (12, .iload_n 1, 1), (13, .iload_n 2, 1), (14, .invokevirtual 164, 3), (17, .istore 4, 2), (19, .iload 4, 2), (21, .iconst (-1), 1), (22, .if_icmp .eq 13, 3), (25, .aload_n 0, 1), (26, .getfield 19, 3), (29, .iload_n 3, 1), (30, .iload_n 1, 1), (31, .iload_n 2, 1), (32, .invokevirtual 167, 3), (35, .iload 4, 2), (37, .ireturn, 1)]
theorem kX6_note_ok : lp_okc kX6_note cX6_note (some .int) = true := by decide +kernel
def kX6_noteAsks : lpC := [(0, .aload_n 1, 1), (1, .iload_n 2, 1), (2, .invokevirtual 171, 3), (5, .istore_n 3, 1), (6, .iload_n 3, 1), (7, .aload_n 1, 1), (8, .iload_n 2, 1), (9, .invokevirtual 174, 3), (12, .if_icmp .ge 24, 3), (15, .aload_n 0, 1), (16, .aload_n 1, 1), (17, .iload_n 3, 1), (18, .invokevirtual 177, 3), (21, .aload_n 1, 1), (22, .iload_n 3, 1), (23, .invokevirtual 180, 3), (26, .invokevirtual 65, 3), (29, .pop, 1), (30, .iinc 3 1, 3), (33, .goto (-27), 3), (36, .return_, 1)]
theorem kX6_noteAsks_ok : lp_okc kX6_noteAsks cX6_noteAsks none = true := by decide +kernel
def kX6_isWithin : lpC := [(0, .iload_n 0, 1), (1, .iload_n 1, 1), (2, .if_icmp .lt 12, 3), (5, .iload_n 0, 1), (6, .iload_n 2, 1), (7, .if_icmp .gt 7, 3), (10, .iconst 1, 1), (11, .goto 4, 3), (14, .iconst 0, 1), (15, .ireturn, 1)]
theorem kX6_isWithin_ok : lp_okc kX6_isWithin cX6_isWithin (some .boolean) = true := by decide +kernel
def kX6_isPage : lpC := [(0, .iload_n 0, 1), (1, .iconst 0, 1), (2, .bipush 9, 2), (4, .invokestatic 86, 3), (7, .ireturn, 1)]
theorem kX6_isPage_ok : lp_okc kX6_isPage cX6_isPage (some .boolean) = true := by decide +kernel
def kX6_isPlace : lpC := [(0, .iload_n 0, 1), (1, .iconst 0, 1), (2, .bipush 10, 2), (4, .invokestatic 86, 3), (7, .ireturn, 1)]
theorem kX6_isPlace_ok : lp_okc kX6_isPlace cX6_isPlace (some .boolean) = true := by decide +kernel
def kX6_isWait : lpC := [(0, .iload_n 0, 1), (1, .iconst 0, 1), (2, .bipush 60, 2), (4, .invokestatic 86, 3), (7, .ireturn, 1)]
theorem kX6_isWait_ok : lp_okc kX6_isWait cX6_isWait (some .boolean) = true := by decide +kernel
def kX6_stepOf : lpC := [(0, .iload_n 0, 1), (1, .bipush 11, 2), (3, .imul, 1), (4, .iload_n 1, 1), (5, .iadd, 1), (6, .ireturn, 1)]
theorem kX6_stepOf_ok : lp_okc kX6_stepOf cX6_stepOf (some .int) = true := by decide +kernel
def flX6 : List (Nat × Nat × Nat) := [(12, 6, 0), (19, 6, 1), (26, 6, 2), (30, 6, 3), (43, 6, 4), (50, 6, 5), (102, 3, 0), (139, 4, 3), (152, 3, 11), (155, 3, 12)]
theorem flX6_ok : flX6.all (lp_flb RX6) = true := by decide +kernel
def pfX6 : List (Nat × Nat × Nat) := []
theorem pfX6_ok : pfX6.all (lp_pfb RX6) = true := by decide +kernel
def kcX6 : List (Nat × Int32) := [(132, 1000000)]
theorem kcX6_ok : kcX6.all (lp_kcb RX6) = true := by decide +kernel
theorem lkX6_54 : lp_lnb RX6 54 (some 4) 0 yX4_open cX4_open 1 (some .int) = true := by decide +kernel
theorem lkX6_58 : lp_lnb RX6 58 none 1 yX6_isPage cX6_isPage 1 (some .boolean) = true := by decide +kernel
theorem lkX6_62 : lp_lnb RX6 62 none 1 yX6_isWait cX6_isWait 1 (some .boolean) = true := by decide +kernel
theorem lkX6_65 : lp_lnb RX6 65 (some 6) 2 yX6_note cX6_note 5 (some .int) = true := by decide +kernel
theorem lkX6_69 : lp_lnb RX6 69 (some 4) 0 yX4_empty cX4_empty 1 none = true := by decide +kernel
theorem lkX6_72 : lp_lnb RX6 72 (some 2) 0 yX2_forget cX2_forget 5 none = true := by decide +kernel
theorem lkX6_75 : lp_lnb RX6 75 (some 2) 2 yX2_countOf cX2_countOf 4 (some .int) = true := by decide +kernel
theorem lkX6_78 : lp_lnb RX6 78 (some 2) 3 yX2_timesOfWait cX2_timesOfWait 5 (some .int) = true := by decide +kernel
theorem lkX6_82 : lp_lnb RX6 82 (some 2) 3 yX2_tellRare cX2_tellRare 4 (some .boolean) = true := by decide +kernel
theorem lkX6_86 : lp_lnb RX6 86 none 3 yX6_isWithin cX6_isWithin 3 (some .boolean) = true := by decide +kernel
theorem lkX6_89 : lp_lnb RX6 89 (some 0) 2 yX0_gather cX0_gather 4 none = true := by decide +kernel
theorem lkX6_93 : lp_lnb RX6 93 (some 0) 0 yX0_number cX0_number 3 (some .int) = true := by decide +kernel
theorem lkX6_96 : lp_lnb RX6 96 (some 0) 0 yX0_numberOfUnlike cX0_numberOfUnlike 3 (some .int) = true := by decide +kernel
theorem lkX6_99 : lp_lnb RX6 99 (some 4) 0 yX4_asks cX4_asks 1 (some .int) = true := by decide +kernel
theorem lkX6_105 : lp_lnb RX6 105 (some 5) 3 yX5_dealWalks cX5_dealWalks 6 none = true := by decide +kernel
theorem lkX6_109 : lp_lnb RX6 109 (some 3) 3 yX3_run cX3_run 7 none = true := by decide +kernel
theorem lkX6_113 : lp_lnb RX6 113 (some 4) 1 yX4_lengthOf cX4_lengthOf 2 (some .int) = true := by decide +kernel
theorem lkX6_117 : lp_lnb RX6 117 (some 4) 2 yX4_slotOf cX4_slotOf 3 (some .int) = true := by decide +kernel
theorem lkX6_120 : lp_lnb RX6 120 (some 3) 2 yX3_tell cX3_tell 3 (some .int) = true := by decide +kernel
theorem lkX6_123 : lp_lnb RX6 123 (some 5) 2 yX5_timesOf cX5_timesOf 3 (some .int) = true := by decide +kernel
theorem lkX6_126 : lp_lnb RX6 126 (some 4) 1 yX4_has cX4_has 2 (some .boolean) = true := by decide +kernel
theorem lkX6_129 : lp_lnb RX6 129 (some 3) 2 yX3_leastTicks cX3_leastTicks 7 (some .int) = true := by decide +kernel
theorem lkX6_133 : lp_lnb RX6 133 (some 3) 2 yX3_longerThan cX3_longerThan 5 (some .int) = true := by decide +kernel
theorem lkX6_136 : lp_lnb RX6 136 (some 3) 0 yX3_fallsBehind cX3_fallsBehind 1 (some .int) = true := by decide +kernel
theorem lkX6_143 : lp_lnb RX6 143 (some 3) 1 yX3_notBegunAt cX3_notBegunAt 4 (some .int) = true := by decide +kernel
theorem lkX6_146 : lp_lnb RX6 146 (some 6) 0 yX6_clear cX6_clear 1 none = true := by decide +kernel
theorem lkX6_149 : lp_lnb RX6 149 (some 6) 2 yX6_noteAsks cX6_noteAsks 4 none = true := by decide +kernel
theorem lkX6_158 : lp_lnb RX6 158 (some 2) 0 yX2_unlikeSteps cX2_unlikeSteps 6 (some .int) = true := by decide +kernel
theorem lkX6_161 : lp_lnb RX6 161 (some 4) 0 yX4_lastPlace cX4_lastPlace 1 (some .int) = true := by decide +kernel
theorem lkX6_164 : lp_lnb RX6 164 (some 4) 2 yX4_add cX4_add 5 (some .int) = true := by decide +kernel
theorem lkX6_167 : lp_lnb RX6 167 (some 2) 3 yX2_lengthen cX2_lengthen 5 none = true := by decide +kernel
theorem lkX6_171 : lp_lnb RX6 171 (some 4) 1 yX4_startOf cX4_startOf 2 (some .int) = true := by decide +kernel
theorem lkX6_174 : lp_lnb RX6 174 (some 4) 1 yX4_endOf cX4_endOf 2 (some .int) = true := by decide +kernel
theorem lkX6_177 : lp_lnb RX6 177 (some 4) 1 yX4_pageAt cX4_pageAt 2 (some .int) = true := by decide +kernel
theorem lkX6_180 : lp_lnb RX6 180 (some 4) 1 yX4_waitAt cX4_waitAt 2 (some .int) = true := by decide +kernel
