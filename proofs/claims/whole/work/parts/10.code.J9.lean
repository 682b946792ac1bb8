/-! ===== code and links of J9 ===== -/
def kJ9_max_7cf53 : lpC := [(0, .iload_n 0, 1), (1, .iload_n 1, 1), (2, .if_icmp .lt 7, 3), (5, .iload_n 0, 1), (6, .goto 4, 3), (9, .iload_n 1, 1), (10, .ireturn, 1)]
theorem kJ9_max_7cf53_ok : lp_okc kJ9_max_7cf53 cJ9_max_7cf53 (some .int) = true := by decide +kernel
def kJ9_min_7cf53 : lpC := [(0, .iload_n 0, 1), (1, .iload_n 1, 1), (2, .if_icmp .gt 7, 3), (5, .iload_n 0, 1), (6, .goto 4, 3), (9, .iload_n 1, 1), (10, .ireturn, 1)]
theorem kJ9_min_7cf53_ok : lp_okc kJ9_min_7cf53 cJ9_min_7cf53 (some .int) = true := by decide +kernel
def flJ9 : List (Nat × Nat × Nat) := []
theorem flJ9_ok : flJ9.all (lp_flb RJ9) = true := by decide +kernel
def pfJ9 : List (Nat × Nat × Nat) := []
theorem pfJ9_ok : pfJ9.all (lp_pfb RJ9) = true := by decide +kernel
def kcJ9 : List (Nat × Int32) := []
theorem kcJ9_ok : kcJ9.all (lp_kcb RJ9) = true := by decide +kernel
