/-! ===== code and links of J7 ===== -/
def kJ7_fill_53178 : lpC := [(0, .iconst 0, 1), (1, .istore_n 2, 1), (2, .aload_n 0, 1), (3, .arraylength, 1), (4, .istore_n 3, 1), (5, .iload_n 2, 1), (6, .iload_n 3, 1), (7, .if_icmp .ge 13, 3), (10, .aload_n 0, 1), (11, .iload_n 2, 1), (12, .iload_n 1, 1), (13, .iastore, 1), (14, .iinc 2 1, 3), (17, .goto (-12), 3), (20, .return_, 1)]
theorem kJ7_fill_53178_ok : lp_okc kJ7_fill_53178 cJ7_fill_53178 none = true := by decide +kernel
def flJ7 : List (Nat × Nat × Nat) := []
theorem flJ7_ok : flJ7.all (lp_flb RJ7) = true := by decide +kernel
def pfJ7 : List (Nat × Nat × Nat) := []
theorem pfJ7_ok : pfJ7.all (lp_pfb RJ7) = true := by decide +kernel
def kcJ7 : List (Nat × Int32) := []
theorem kcJ7_ok : kcJ7.all (lp_kcb RJ7) = true := by decide +kernel
