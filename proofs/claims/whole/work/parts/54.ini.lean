/-! ===== the start: what the constructors leave, as an abstract memory ===== -/
def lp_prs : List (Nat × Nat) := [(1, 0), (2, 0), (3, 0), (4, 0), (5, 0), (6, 0), (7, 0), (8, 0), (9, 0), (10, 0), (11, 0), (12, 0), (13, 0), (14, 0), (15, 0), (16, 0), (17, 0), (26, 121), (27, 121), (28, 121), (26, 122), (27, 122), (28, 122), (26, 123), (27, 123), (28, 123), (26, 124), (27, 124), (28, 124), (26, 125), (27, 125), (28, 125), (26, 126), (27, 126), (28, 126), (26, 127), (27, 127), (28, 127), (26, 128), (27, 128), (28, 128), (26, 129), (27, 129), (28, 129), (26, 130), (27, 130), (28, 130), (26, 131), (27, 131), (28, 131), (18, 0), (2, 1), (3, 1), (4, 1), (5, 1), (19, 0), (20, 0), (21, 0), (22, 0), (23, 0), (24, 0), (25, 0), (30, 0), (31, 0), (32, 0), (33, 0), (34, 0), (35, 0), (36, 0), (37, 0), (38, 0), (39, 0), (40, 0), (41, 0), (42, 0), (43, 0), (44, 0), (45, 0), (46, 0), (47, 0), (48, 0), (49, 0), (50, 0)]
def lp_ad0 (h : Nat) (q : Nat → Nat) (h' : Nat) (q' : Nat → Nat) (r k : Nat) : Nat := match r with
  | 1 => h
  | 2 => if k = 0 then q 0 else q 50
  | 3 => if k = 0 then q 1 else q 51
  | 4 => if k = 0 then q 2 else q 52
  | 5 => if k = 0 then q 3 else q 53
  | 6 => q 4
  | 7 => q 5
  | 8 => q 6
  | 9 => q 7
  | 10 => q 8
  | 11 => q 9
  | 12 => q 10
  | 13 => q 11
  | 14 => q 12
  | 15 => q 13
  | 16 => q 14
  | 17 => q 15
  | 18 => q 49
  | 19 => q 54
  | 20 => q 55
  | 21 => q 56
  | 22 => q 57
  | 23 => q 58
  | 24 => q 59
  | 25 => q 60
  | 26 => q (16 + 3 * (k - 121))
  | 27 => q (17 + 3 * (k - 121))
  | 28 => q (18 + 3 * (k - 121))
  | 30 => h'
  | 31 => q' 0
  | 32 => q' 1
  | 33 => q' 2
  | 34 => q' 3
  | 35 => q' 4
  | 36 => q' 5
  | 37 => q' 6
  | 38 => q' 7
  | 39 => q' 8
  | 40 => q' 9
  | 41 => q' 10
  | 42 => q' 11
  | 43 => q' 12
  | 44 => q' 13
  | 45 => q' 14
  | 46 => q' 15
  | 47 => q' 16
  | 48 => q' 17
  | 49 => q' 18
  | 50 => q' 19
  | _ => 0
def lp_s0 : lpM := fun r _ j => match r with
  | 15 => lp_ff (fun _ => 0) 1 10 j
  | 17 => if j < 11 then 1 else 0
  | 35 => upd (upd (upd (upd (upd (upd (upd (upd (upd (upd (upd (fun _ => 0) 0 1) 1 1) 2 1) 3 1) 4 1) 5 1) 6 1) 7 1) 8 1) 9 1) 10 1 j
  | _ => 0
theorem lp_rf17 (h : Nat) (q : Nat → Nat) (h' : Nat) (q' : Nat → Nat) : (va_up (va_up (va_up (va_up (va_up (va_up (va_up (va_up (va_up (va_up (va_up (fun _ => none) 0 (some (q 16))) 1 (some (q 19))) 2 (some (q 22))) 3 (some (q 25))) 4 (some (q 28))) 5 (some (q 31))) 6 (some (q 34))) 7 (some (q 37))) 8 (some (q 40))) 9 (some (q 43))) 10 (some (q 46))) = lp_rf (lp_ad0 h q h' q') lp_s0 17 0 26 (fun j => 121 + j) := by
  funext j
  by_cases hj : j < 11
  · rcases (show j = 0 ∨ j = 1 ∨ j = 2 ∨ j = 3 ∨ j = 4 ∨ j = 5 ∨ j = 6 ∨ j = 7 ∨ j = 8 ∨ j = 9 ∨ j = 10 by omega) with rfl | rfl | rfl | rfl | rfl | rfl | rfl | rfl | rfl | rfl | rfl <;> rfl
  · have e1 : lp_s0 17 0 j = 0 := if_neg hj
    unfold lp_rf
    rw [if_pos e1]
    simp only [va_up]
    rw [if_neg (by omega), if_neg (by omega), if_neg (by omega), if_neg (by omega), if_neg (by omega), if_neg (by omega), if_neg (by omega), if_neg (by omega), if_neg (by omega), if_neg (by omega), if_neg (by omega)]
theorem lp_rf9 (h : Nat) (q : Nat → Nat) (h' : Nat) (q' : Nat → Nat) : (fun _ => none : Nat → Option Nat) = lp_rf (lp_ad0 h q h' q') lp_s0 9 0 26 (fun j => j) := by
  funext j
  exact (if_pos rfl).symm
theorem lp_w0_0 (cI cD : ClassId) (h : Nat) (q : Nat → Nat) (h' : Nat) (q' : Nat → Nat) : (wX6 cI cD h q ++ wX7 cI cD h' q')[0]? = some (lp_ad0 h q h' q' 1 0, lp_cell cI cD (lp_ad0 h q h' q') lp_s0 1 0) := rfl
theorem lp_w0_1 (cI cD : ClassId) (h : Nat) (q : Nat → Nat) (h' : Nat) (q' : Nat → Nat) : (wX6 cI cD h q ++ wX7 cI cD h' q')[1]? = some (lp_ad0 h q h' q' 2 0, lp_cell cI cD (lp_ad0 h q h' q') lp_s0 2 0) := rfl
theorem lp_w0_2 (cI cD : ClassId) (h : Nat) (q : Nat → Nat) (h' : Nat) (q' : Nat → Nat) : (wX6 cI cD h q ++ wX7 cI cD h' q')[2]? = some (lp_ad0 h q h' q' 3 0, lp_cell cI cD (lp_ad0 h q h' q') lp_s0 3 0) := rfl
theorem lp_w0_3 (cI cD : ClassId) (h : Nat) (q : Nat → Nat) (h' : Nat) (q' : Nat → Nat) : (wX6 cI cD h q ++ wX7 cI cD h' q')[3]? = some (lp_ad0 h q h' q' 4 0, lp_cell cI cD (lp_ad0 h q h' q') lp_s0 4 0) := rfl
theorem lp_w0_4 (cI cD : ClassId) (h : Nat) (q : Nat → Nat) (h' : Nat) (q' : Nat → Nat) : (wX6 cI cD h q ++ wX7 cI cD h' q')[4]? = some (lp_ad0 h q h' q' 5 0, lp_cell cI cD (lp_ad0 h q h' q') lp_s0 5 0) := rfl
theorem lp_w0_5 (cI cD : ClassId) (h : Nat) (q : Nat → Nat) (h' : Nat) (q' : Nat → Nat) : (wX6 cI cD h q ++ wX7 cI cD h' q')[5]? = some (lp_ad0 h q h' q' 6 0, lp_cell cI cD (lp_ad0 h q h' q') lp_s0 6 0) := rfl
theorem lp_w0_6 (cI cD : ClassId) (h : Nat) (q : Nat → Nat) (h' : Nat) (q' : Nat → Nat) : (wX6 cI cD h q ++ wX7 cI cD h' q')[6]? = some (lp_ad0 h q h' q' 7 0, lp_cell cI cD (lp_ad0 h q h' q') lp_s0 7 0) := rfl
theorem lp_w0_7 (cI cD : ClassId) (h : Nat) (q : Nat → Nat) (h' : Nat) (q' : Nat → Nat) : (wX6 cI cD h q ++ wX7 cI cD h' q')[7]? = some (lp_ad0 h q h' q' 8 0, lp_cell cI cD (lp_ad0 h q h' q') lp_s0 8 0) := rfl
theorem lp_w0_8 (cI cD : ClassId) (h : Nat) (q : Nat → Nat) (h' : Nat) (q' : Nat → Nat) : (wX6 cI cD h q ++ wX7 cI cD h' q')[8]? = some (lp_ad0 h q h' q' 9 0, lp_cell cI cD (lp_ad0 h q h' q') lp_s0 9 0) := by
  show some (_, Sum.inl (cD, 121, Sum.inr (Sum.inr (Sum.inr (Sum.inr _))))) = some (_, Sum.inl (cD, 121, Sum.inr (Sum.inr (Sum.inr (Sum.inr (lp_rf (lp_ad0 h q h' q') lp_s0 9 0 26 (fun j => j)))))))
  rw [← lp_rf9]
  rfl
theorem lp_w0_9 (cI cD : ClassId) (h : Nat) (q : Nat → Nat) (h' : Nat) (q' : Nat → Nat) : (wX6 cI cD h q ++ wX7 cI cD h' q')[9]? = some (lp_ad0 h q h' q' 10 0, lp_cell cI cD (lp_ad0 h q h' q') lp_s0 10 0) := rfl
theorem lp_w0_10 (cI cD : ClassId) (h : Nat) (q : Nat → Nat) (h' : Nat) (q' : Nat → Nat) : (wX6 cI cD h q ++ wX7 cI cD h' q')[10]? = some (lp_ad0 h q h' q' 11 0, lp_cell cI cD (lp_ad0 h q h' q') lp_s0 11 0) := rfl
theorem lp_w0_11 (cI cD : ClassId) (h : Nat) (q : Nat → Nat) (h' : Nat) (q' : Nat → Nat) : (wX6 cI cD h q ++ wX7 cI cD h' q')[11]? = some (lp_ad0 h q h' q' 12 0, lp_cell cI cD (lp_ad0 h q h' q') lp_s0 12 0) := rfl
theorem lp_w0_12 (cI cD : ClassId) (h : Nat) (q : Nat → Nat) (h' : Nat) (q' : Nat → Nat) : (wX6 cI cD h q ++ wX7 cI cD h' q')[12]? = some (lp_ad0 h q h' q' 13 0, lp_cell cI cD (lp_ad0 h q h' q') lp_s0 13 0) := rfl
theorem lp_w0_13 (cI cD : ClassId) (h : Nat) (q : Nat → Nat) (h' : Nat) (q' : Nat → Nat) : (wX6 cI cD h q ++ wX7 cI cD h' q')[13]? = some (lp_ad0 h q h' q' 14 0, lp_cell cI cD (lp_ad0 h q h' q') lp_s0 14 0) := rfl
theorem lp_w0_14 (cI cD : ClassId) (h : Nat) (q : Nat → Nat) (h' : Nat) (q' : Nat → Nat) : (wX6 cI cD h q ++ wX7 cI cD h' q')[14]? = some (lp_ad0 h q h' q' 15 0, lp_cell cI cD (lp_ad0 h q h' q') lp_s0 15 0) := rfl
theorem lp_w0_15 (cI cD : ClassId) (h : Nat) (q : Nat → Nat) (h' : Nat) (q' : Nat → Nat) : (wX6 cI cD h q ++ wX7 cI cD h' q')[15]? = some (lp_ad0 h q h' q' 16 0, lp_cell cI cD (lp_ad0 h q h' q') lp_s0 16 0) := rfl
theorem lp_w0_16 (cI cD : ClassId) (h : Nat) (q : Nat → Nat) (h' : Nat) (q' : Nat → Nat) : (wX6 cI cD h q ++ wX7 cI cD h' q')[16]? = some (lp_ad0 h q h' q' 17 0, lp_cell cI cD (lp_ad0 h q h' q') lp_s0 17 0) := by
  show some (_, Sum.inl (cD, 11, Sum.inr (Sum.inr (Sum.inr (Sum.inr _))))) = some (_, Sum.inl (cD, 11, Sum.inr (Sum.inr (Sum.inr (Sum.inr (lp_rf (lp_ad0 h q h' q') lp_s0 17 0 26 (fun j => 121 + j)))))))
  rw [← lp_rf17]
  rfl
theorem lp_w0_17 (cI cD : ClassId) (h : Nat) (q : Nat → Nat) (h' : Nat) (q' : Nat → Nat) : (wX6 cI cD h q ++ wX7 cI cD h' q')[17]? = some (lp_ad0 h q h' q' 26 121, lp_cell cI cD (lp_ad0 h q h' q') lp_s0 26 121) := rfl
theorem lp_w0_18 (cI cD : ClassId) (h : Nat) (q : Nat → Nat) (h' : Nat) (q' : Nat → Nat) : (wX6 cI cD h q ++ wX7 cI cD h' q')[18]? = some (lp_ad0 h q h' q' 27 121, lp_cell cI cD (lp_ad0 h q h' q') lp_s0 27 121) := rfl
theorem lp_w0_19 (cI cD : ClassId) (h : Nat) (q : Nat → Nat) (h' : Nat) (q' : Nat → Nat) : (wX6 cI cD h q ++ wX7 cI cD h' q')[19]? = some (lp_ad0 h q h' q' 28 121, lp_cell cI cD (lp_ad0 h q h' q') lp_s0 28 121) := rfl
theorem lp_w0_20 (cI cD : ClassId) (h : Nat) (q : Nat → Nat) (h' : Nat) (q' : Nat → Nat) : (wX6 cI cD h q ++ wX7 cI cD h' q')[20]? = some (lp_ad0 h q h' q' 26 122, lp_cell cI cD (lp_ad0 h q h' q') lp_s0 26 122) := rfl
theorem lp_w0_21 (cI cD : ClassId) (h : Nat) (q : Nat → Nat) (h' : Nat) (q' : Nat → Nat) : (wX6 cI cD h q ++ wX7 cI cD h' q')[21]? = some (lp_ad0 h q h' q' 27 122, lp_cell cI cD (lp_ad0 h q h' q') lp_s0 27 122) := rfl
theorem lp_w0_22 (cI cD : ClassId) (h : Nat) (q : Nat → Nat) (h' : Nat) (q' : Nat → Nat) : (wX6 cI cD h q ++ wX7 cI cD h' q')[22]? = some (lp_ad0 h q h' q' 28 122, lp_cell cI cD (lp_ad0 h q h' q') lp_s0 28 122) := rfl
theorem lp_w0_23 (cI cD : ClassId) (h : Nat) (q : Nat → Nat) (h' : Nat) (q' : Nat → Nat) : (wX6 cI cD h q ++ wX7 cI cD h' q')[23]? = some (lp_ad0 h q h' q' 26 123, lp_cell cI cD (lp_ad0 h q h' q') lp_s0 26 123) := rfl
theorem lp_w0_24 (cI cD : ClassId) (h : Nat) (q : Nat → Nat) (h' : Nat) (q' : Nat → Nat) : (wX6 cI cD h q ++ wX7 cI cD h' q')[24]? = some (lp_ad0 h q h' q' 27 123, lp_cell cI cD (lp_ad0 h q h' q') lp_s0 27 123) := rfl
theorem lp_w0_25 (cI cD : ClassId) (h : Nat) (q : Nat → Nat) (h' : Nat) (q' : Nat → Nat) : (wX6 cI cD h q ++ wX7 cI cD h' q')[25]? = some (lp_ad0 h q h' q' 28 123, lp_cell cI cD (lp_ad0 h q h' q') lp_s0 28 123) := rfl
theorem lp_w0_26 (cI cD : ClassId) (h : Nat) (q : Nat → Nat) (h' : Nat) (q' : Nat → Nat) : (wX6 cI cD h q ++ wX7 cI cD h' q')[26]? = some (lp_ad0 h q h' q' 26 124, lp_cell cI cD (lp_ad0 h q h' q') lp_s0 26 124) := rfl
theorem lp_w0_27 (cI cD : ClassId) (h : Nat) (q : Nat → Nat) (h' : Nat) (q' : Nat → Nat) : (wX6 cI cD h q ++ wX7 cI cD h' q')[27]? = some (lp_ad0 h q h' q' 27 124, lp_cell cI cD (lp_ad0 h q h' q') lp_s0 27 124) := rfl
theorem lp_w0_28 (cI cD : ClassId) (h : Nat) (q : Nat → Nat) (h' : Nat) (q' : Nat → Nat) : (wX6 cI cD h q ++ wX7 cI cD h' q')[28]? = some (lp_ad0 h q h' q' 28 124, lp_cell cI cD (lp_ad0 h q h' q') lp_s0 28 124) := rfl
theorem lp_w0_29 (cI cD : ClassId) (h : Nat) (q : Nat → Nat) (h' : Nat) (q' : Nat → Nat) : (wX6 cI cD h q ++ wX7 cI cD h' q')[29]? = some (lp_ad0 h q h' q' 26 125, lp_cell cI cD (lp_ad0 h q h' q') lp_s0 26 125) := rfl
theorem lp_w0_30 (cI cD : ClassId) (h : Nat) (q : Nat → Nat) (h' : Nat) (q' : Nat → Nat) : (wX6 cI cD h q ++ wX7 cI cD h' q')[30]? = some (lp_ad0 h q h' q' 27 125, lp_cell cI cD (lp_ad0 h q h' q') lp_s0 27 125) := rfl
theorem lp_w0_31 (cI cD : ClassId) (h : Nat) (q : Nat → Nat) (h' : Nat) (q' : Nat → Nat) : (wX6 cI cD h q ++ wX7 cI cD h' q')[31]? = some (lp_ad0 h q h' q' 28 125, lp_cell cI cD (lp_ad0 h q h' q') lp_s0 28 125) := rfl
theorem lp_w0_32 (cI cD : ClassId) (h : Nat) (q : Nat → Nat) (h' : Nat) (q' : Nat → Nat) : (wX6 cI cD h q ++ wX7 cI cD h' q')[32]? = some (lp_ad0 h q h' q' 26 126, lp_cell cI cD (lp_ad0 h q h' q') lp_s0 26 126) := rfl
theorem lp_w0_33 (cI cD : ClassId) (h : Nat) (q : Nat → Nat) (h' : Nat) (q' : Nat → Nat) : (wX6 cI cD h q ++ wX7 cI cD h' q')[33]? = some (lp_ad0 h q h' q' 27 126, lp_cell cI cD (lp_ad0 h q h' q') lp_s0 27 126) := rfl
theorem lp_w0_34 (cI cD : ClassId) (h : Nat) (q : Nat → Nat) (h' : Nat) (q' : Nat → Nat) : (wX6 cI cD h q ++ wX7 cI cD h' q')[34]? = some (lp_ad0 h q h' q' 28 126, lp_cell cI cD (lp_ad0 h q h' q') lp_s0 28 126) := rfl
theorem lp_w0_35 (cI cD : ClassId) (h : Nat) (q : Nat → Nat) (h' : Nat) (q' : Nat → Nat) : (wX6 cI cD h q ++ wX7 cI cD h' q')[35]? = some (lp_ad0 h q h' q' 26 127, lp_cell cI cD (lp_ad0 h q h' q') lp_s0 26 127) := rfl
theorem lp_w0_36 (cI cD : ClassId) (h : Nat) (q : Nat → Nat) (h' : Nat) (q' : Nat → Nat) : (wX6 cI cD h q ++ wX7 cI cD h' q')[36]? = some (lp_ad0 h q h' q' 27 127, lp_cell cI cD (lp_ad0 h q h' q') lp_s0 27 127) := rfl
theorem lp_w0_37 (cI cD : ClassId) (h : Nat) (q : Nat → Nat) (h' : Nat) (q' : Nat → Nat) : (wX6 cI cD h q ++ wX7 cI cD h' q')[37]? = some (lp_ad0 h q h' q' 28 127, lp_cell cI cD (lp_ad0 h q h' q') lp_s0 28 127) := rfl
theorem lp_w0_38 (cI cD : ClassId) (h : Nat) (q : Nat → Nat) (h' : Nat) (q' : Nat → Nat) : (wX6 cI cD h q ++ wX7 cI cD h' q')[38]? = some (lp_ad0 h q h' q' 26 128, lp_cell cI cD (lp_ad0 h q h' q') lp_s0 26 128) := rfl
theorem lp_w0_39 (cI cD : ClassId) (h : Nat) (q : Nat → Nat) (h' : Nat) (q' : Nat → Nat) : (wX6 cI cD h q ++ wX7 cI cD h' q')[39]? = some (lp_ad0 h q h' q' 27 128, lp_cell cI cD (lp_ad0 h q h' q') lp_s0 27 128) := rfl
theorem lp_w0_40 (cI cD : ClassId) (h : Nat) (q : Nat → Nat) (h' : Nat) (q' : Nat → Nat) : (wX6 cI cD h q ++ wX7 cI cD h' q')[40]? = some (lp_ad0 h q h' q' 28 128, lp_cell cI cD (lp_ad0 h q h' q') lp_s0 28 128) := rfl
theorem lp_w0_41 (cI cD : ClassId) (h : Nat) (q : Nat → Nat) (h' : Nat) (q' : Nat → Nat) : (wX6 cI cD h q ++ wX7 cI cD h' q')[41]? = some (lp_ad0 h q h' q' 26 129, lp_cell cI cD (lp_ad0 h q h' q') lp_s0 26 129) := rfl
theorem lp_w0_42 (cI cD : ClassId) (h : Nat) (q : Nat → Nat) (h' : Nat) (q' : Nat → Nat) : (wX6 cI cD h q ++ wX7 cI cD h' q')[42]? = some (lp_ad0 h q h' q' 27 129, lp_cell cI cD (lp_ad0 h q h' q') lp_s0 27 129) := rfl
theorem lp_w0_43 (cI cD : ClassId) (h : Nat) (q : Nat → Nat) (h' : Nat) (q' : Nat → Nat) : (wX6 cI cD h q ++ wX7 cI cD h' q')[43]? = some (lp_ad0 h q h' q' 28 129, lp_cell cI cD (lp_ad0 h q h' q') lp_s0 28 129) := rfl
theorem lp_w0_44 (cI cD : ClassId) (h : Nat) (q : Nat → Nat) (h' : Nat) (q' : Nat → Nat) : (wX6 cI cD h q ++ wX7 cI cD h' q')[44]? = some (lp_ad0 h q h' q' 26 130, lp_cell cI cD (lp_ad0 h q h' q') lp_s0 26 130) := rfl
theorem lp_w0_45 (cI cD : ClassId) (h : Nat) (q : Nat → Nat) (h' : Nat) (q' : Nat → Nat) : (wX6 cI cD h q ++ wX7 cI cD h' q')[45]? = some (lp_ad0 h q h' q' 27 130, lp_cell cI cD (lp_ad0 h q h' q') lp_s0 27 130) := rfl
theorem lp_w0_46 (cI cD : ClassId) (h : Nat) (q : Nat → Nat) (h' : Nat) (q' : Nat → Nat) : (wX6 cI cD h q ++ wX7 cI cD h' q')[46]? = some (lp_ad0 h q h' q' 28 130, lp_cell cI cD (lp_ad0 h q h' q') lp_s0 28 130) := rfl
theorem lp_w0_47 (cI cD : ClassId) (h : Nat) (q : Nat → Nat) (h' : Nat) (q' : Nat → Nat) : (wX6 cI cD h q ++ wX7 cI cD h' q')[47]? = some (lp_ad0 h q h' q' 26 131, lp_cell cI cD (lp_ad0 h q h' q') lp_s0 26 131) := rfl
theorem lp_w0_48 (cI cD : ClassId) (h : Nat) (q : Nat → Nat) (h' : Nat) (q' : Nat → Nat) : (wX6 cI cD h q ++ wX7 cI cD h' q')[48]? = some (lp_ad0 h q h' q' 27 131, lp_cell cI cD (lp_ad0 h q h' q') lp_s0 27 131) := rfl
theorem lp_w0_49 (cI cD : ClassId) (h : Nat) (q : Nat → Nat) (h' : Nat) (q' : Nat → Nat) : (wX6 cI cD h q ++ wX7 cI cD h' q')[49]? = some (lp_ad0 h q h' q' 28 131, lp_cell cI cD (lp_ad0 h q h' q') lp_s0 28 131) := rfl
theorem lp_w0_50 (cI cD : ClassId) (h : Nat) (q : Nat → Nat) (h' : Nat) (q' : Nat → Nat) : (wX6 cI cD h q ++ wX7 cI cD h' q')[50]? = some (lp_ad0 h q h' q' 18 0, lp_cell cI cD (lp_ad0 h q h' q') lp_s0 18 0) := rfl
theorem lp_w0_51 (cI cD : ClassId) (h : Nat) (q : Nat → Nat) (h' : Nat) (q' : Nat → Nat) : (wX6 cI cD h q ++ wX7 cI cD h' q')[51]? = some (lp_ad0 h q h' q' 2 1, lp_cell cI cD (lp_ad0 h q h' q') lp_s0 2 1) := rfl
theorem lp_w0_52 (cI cD : ClassId) (h : Nat) (q : Nat → Nat) (h' : Nat) (q' : Nat → Nat) : (wX6 cI cD h q ++ wX7 cI cD h' q')[52]? = some (lp_ad0 h q h' q' 3 1, lp_cell cI cD (lp_ad0 h q h' q') lp_s0 3 1) := rfl
theorem lp_w0_53 (cI cD : ClassId) (h : Nat) (q : Nat → Nat) (h' : Nat) (q' : Nat → Nat) : (wX6 cI cD h q ++ wX7 cI cD h' q')[53]? = some (lp_ad0 h q h' q' 4 1, lp_cell cI cD (lp_ad0 h q h' q') lp_s0 4 1) := rfl
theorem lp_w0_54 (cI cD : ClassId) (h : Nat) (q : Nat → Nat) (h' : Nat) (q' : Nat → Nat) : (wX6 cI cD h q ++ wX7 cI cD h' q')[54]? = some (lp_ad0 h q h' q' 5 1, lp_cell cI cD (lp_ad0 h q h' q') lp_s0 5 1) := rfl
theorem lp_w0_55 (cI cD : ClassId) (h : Nat) (q : Nat → Nat) (h' : Nat) (q' : Nat → Nat) : (wX6 cI cD h q ++ wX7 cI cD h' q')[55]? = some (lp_ad0 h q h' q' 19 0, lp_cell cI cD (lp_ad0 h q h' q') lp_s0 19 0) := rfl
theorem lp_w0_56 (cI cD : ClassId) (h : Nat) (q : Nat → Nat) (h' : Nat) (q' : Nat → Nat) : (wX6 cI cD h q ++ wX7 cI cD h' q')[56]? = some (lp_ad0 h q h' q' 20 0, lp_cell cI cD (lp_ad0 h q h' q') lp_s0 20 0) := rfl
theorem lp_w0_57 (cI cD : ClassId) (h : Nat) (q : Nat → Nat) (h' : Nat) (q' : Nat → Nat) : (wX6 cI cD h q ++ wX7 cI cD h' q')[57]? = some (lp_ad0 h q h' q' 21 0, lp_cell cI cD (lp_ad0 h q h' q') lp_s0 21 0) := rfl
theorem lp_w0_58 (cI cD : ClassId) (h : Nat) (q : Nat → Nat) (h' : Nat) (q' : Nat → Nat) : (wX6 cI cD h q ++ wX7 cI cD h' q')[58]? = some (lp_ad0 h q h' q' 22 0, lp_cell cI cD (lp_ad0 h q h' q') lp_s0 22 0) := rfl
theorem lp_w0_59 (cI cD : ClassId) (h : Nat) (q : Nat → Nat) (h' : Nat) (q' : Nat → Nat) : (wX6 cI cD h q ++ wX7 cI cD h' q')[59]? = some (lp_ad0 h q h' q' 23 0, lp_cell cI cD (lp_ad0 h q h' q') lp_s0 23 0) := rfl
theorem lp_w0_60 (cI cD : ClassId) (h : Nat) (q : Nat → Nat) (h' : Nat) (q' : Nat → Nat) : (wX6 cI cD h q ++ wX7 cI cD h' q')[60]? = some (lp_ad0 h q h' q' 24 0, lp_cell cI cD (lp_ad0 h q h' q') lp_s0 24 0) := rfl
theorem lp_w0_61 (cI cD : ClassId) (h : Nat) (q : Nat → Nat) (h' : Nat) (q' : Nat → Nat) : (wX6 cI cD h q ++ wX7 cI cD h' q')[61]? = some (lp_ad0 h q h' q' 25 0, lp_cell cI cD (lp_ad0 h q h' q') lp_s0 25 0) := rfl
theorem lp_w0_62 (cI cD : ClassId) (h : Nat) (q : Nat → Nat) (h' : Nat) (q' : Nat → Nat) : (wX6 cI cD h q ++ wX7 cI cD h' q')[62]? = some (lp_ad0 h q h' q' 30 0, lp_cell cI cD (lp_ad0 h q h' q') lp_s0 30 0) := rfl
theorem lp_w0_63 (cI cD : ClassId) (h : Nat) (q : Nat → Nat) (h' : Nat) (q' : Nat → Nat) : (wX6 cI cD h q ++ wX7 cI cD h' q')[63]? = some (lp_ad0 h q h' q' 31 0, lp_cell cI cD (lp_ad0 h q h' q') lp_s0 31 0) := rfl
theorem lp_w0_64 (cI cD : ClassId) (h : Nat) (q : Nat → Nat) (h' : Nat) (q' : Nat → Nat) : (wX6 cI cD h q ++ wX7 cI cD h' q')[64]? = some (lp_ad0 h q h' q' 32 0, lp_cell cI cD (lp_ad0 h q h' q') lp_s0 32 0) := rfl
theorem lp_w0_65 (cI cD : ClassId) (h : Nat) (q : Nat → Nat) (h' : Nat) (q' : Nat → Nat) : (wX6 cI cD h q ++ wX7 cI cD h' q')[65]? = some (lp_ad0 h q h' q' 33 0, lp_cell cI cD (lp_ad0 h q h' q') lp_s0 33 0) := rfl
theorem lp_w0_66 (cI cD : ClassId) (h : Nat) (q : Nat → Nat) (h' : Nat) (q' : Nat → Nat) : (wX6 cI cD h q ++ wX7 cI cD h' q')[66]? = some (lp_ad0 h q h' q' 34 0, lp_cell cI cD (lp_ad0 h q h' q') lp_s0 34 0) := rfl
theorem lp_w0_67 (cI cD : ClassId) (h : Nat) (q : Nat → Nat) (h' : Nat) (q' : Nat → Nat) : (wX6 cI cD h q ++ wX7 cI cD h' q')[67]? = some (lp_ad0 h q h' q' 35 0, lp_cell cI cD (lp_ad0 h q h' q') lp_s0 35 0) := rfl
theorem lp_w0_68 (cI cD : ClassId) (h : Nat) (q : Nat → Nat) (h' : Nat) (q' : Nat → Nat) : (wX6 cI cD h q ++ wX7 cI cD h' q')[68]? = some (lp_ad0 h q h' q' 36 0, lp_cell cI cD (lp_ad0 h q h' q') lp_s0 36 0) := rfl
theorem lp_w0_69 (cI cD : ClassId) (h : Nat) (q : Nat → Nat) (h' : Nat) (q' : Nat → Nat) : (wX6 cI cD h q ++ wX7 cI cD h' q')[69]? = some (lp_ad0 h q h' q' 37 0, lp_cell cI cD (lp_ad0 h q h' q') lp_s0 37 0) := rfl
theorem lp_w0_70 (cI cD : ClassId) (h : Nat) (q : Nat → Nat) (h' : Nat) (q' : Nat → Nat) : (wX6 cI cD h q ++ wX7 cI cD h' q')[70]? = some (lp_ad0 h q h' q' 38 0, lp_cell cI cD (lp_ad0 h q h' q') lp_s0 38 0) := rfl
theorem lp_w0_71 (cI cD : ClassId) (h : Nat) (q : Nat → Nat) (h' : Nat) (q' : Nat → Nat) : (wX6 cI cD h q ++ wX7 cI cD h' q')[71]? = some (lp_ad0 h q h' q' 39 0, lp_cell cI cD (lp_ad0 h q h' q') lp_s0 39 0) := rfl
theorem lp_w0_72 (cI cD : ClassId) (h : Nat) (q : Nat → Nat) (h' : Nat) (q' : Nat → Nat) : (wX6 cI cD h q ++ wX7 cI cD h' q')[72]? = some (lp_ad0 h q h' q' 40 0, lp_cell cI cD (lp_ad0 h q h' q') lp_s0 40 0) := rfl
theorem lp_w0_73 (cI cD : ClassId) (h : Nat) (q : Nat → Nat) (h' : Nat) (q' : Nat → Nat) : (wX6 cI cD h q ++ wX7 cI cD h' q')[73]? = some (lp_ad0 h q h' q' 41 0, lp_cell cI cD (lp_ad0 h q h' q') lp_s0 41 0) := rfl
theorem lp_w0_74 (cI cD : ClassId) (h : Nat) (q : Nat → Nat) (h' : Nat) (q' : Nat → Nat) : (wX6 cI cD h q ++ wX7 cI cD h' q')[74]? = some (lp_ad0 h q h' q' 42 0, lp_cell cI cD (lp_ad0 h q h' q') lp_s0 42 0) := rfl
theorem lp_w0_75 (cI cD : ClassId) (h : Nat) (q : Nat → Nat) (h' : Nat) (q' : Nat → Nat) : (wX6 cI cD h q ++ wX7 cI cD h' q')[75]? = some (lp_ad0 h q h' q' 43 0, lp_cell cI cD (lp_ad0 h q h' q') lp_s0 43 0) := rfl
theorem lp_w0_76 (cI cD : ClassId) (h : Nat) (q : Nat → Nat) (h' : Nat) (q' : Nat → Nat) : (wX6 cI cD h q ++ wX7 cI cD h' q')[76]? = some (lp_ad0 h q h' q' 44 0, lp_cell cI cD (lp_ad0 h q h' q') lp_s0 44 0) := rfl
theorem lp_w0_77 (cI cD : ClassId) (h : Nat) (q : Nat → Nat) (h' : Nat) (q' : Nat → Nat) : (wX6 cI cD h q ++ wX7 cI cD h' q')[77]? = some (lp_ad0 h q h' q' 45 0, lp_cell cI cD (lp_ad0 h q h' q') lp_s0 45 0) := rfl
theorem lp_w0_78 (cI cD : ClassId) (h : Nat) (q : Nat → Nat) (h' : Nat) (q' : Nat → Nat) : (wX6 cI cD h q ++ wX7 cI cD h' q')[78]? = some (lp_ad0 h q h' q' 46 0, lp_cell cI cD (lp_ad0 h q h' q') lp_s0 46 0) := rfl
theorem lp_w0_79 (cI cD : ClassId) (h : Nat) (q : Nat → Nat) (h' : Nat) (q' : Nat → Nat) : (wX6 cI cD h q ++ wX7 cI cD h' q')[79]? = some (lp_ad0 h q h' q' 47 0, lp_cell cI cD (lp_ad0 h q h' q') lp_s0 47 0) := rfl
theorem lp_w0_80 (cI cD : ClassId) (h : Nat) (q : Nat → Nat) (h' : Nat) (q' : Nat → Nat) : (wX6 cI cD h q ++ wX7 cI cD h' q')[80]? = some (lp_ad0 h q h' q' 48 0, lp_cell cI cD (lp_ad0 h q h' q') lp_s0 48 0) := rfl
theorem lp_w0_81 (cI cD : ClassId) (h : Nat) (q : Nat → Nat) (h' : Nat) (q' : Nat → Nat) : (wX6 cI cD h q ++ wX7 cI cD h' q')[81]? = some (lp_ad0 h q h' q' 49 0, lp_cell cI cD (lp_ad0 h q h' q') lp_s0 49 0) := rfl
theorem lp_w0_82 (cI cD : ClassId) (h : Nat) (q : Nat → Nat) (h' : Nat) (q' : Nat → Nat) : (wX6 cI cD h q ++ wX7 cI cD h' q')[82]? = some (lp_ad0 h q h' q' 50 0, lp_cell cI cD (lp_ad0 h q h' q') lp_s0 50 0) := rfl
theorem lp_w0 (cI cD : ClassId) (h : Nat) (q : Nat → Nat) (h' : Nat) (q' : Nat → Nat) : ∀ (i r k : Nat), lp_prs[i]? = some (r, k) → (wX6 cI cD h q ++ wX7 cI cD h' q')[i]? = some (lp_ad0 h q h' q' r k, lp_cell cI cD (lp_ad0 h q h' q') lp_s0 r k) := by
  intro i r k hi
  match i, hi with
  | 0, hi => cases hi; exact lp_w0_0 cI cD h q h' q'
  | 1, hi => cases hi; exact lp_w0_1 cI cD h q h' q'
  | 2, hi => cases hi; exact lp_w0_2 cI cD h q h' q'
  | 3, hi => cases hi; exact lp_w0_3 cI cD h q h' q'
  | 4, hi => cases hi; exact lp_w0_4 cI cD h q h' q'
  | 5, hi => cases hi; exact lp_w0_5 cI cD h q h' q'
  | 6, hi => cases hi; exact lp_w0_6 cI cD h q h' q'
  | 7, hi => cases hi; exact lp_w0_7 cI cD h q h' q'
  | 8, hi => cases hi; exact lp_w0_8 cI cD h q h' q'
  | 9, hi => cases hi; exact lp_w0_9 cI cD h q h' q'
  | 10, hi => cases hi; exact lp_w0_10 cI cD h q h' q'
  | 11, hi => cases hi; exact lp_w0_11 cI cD h q h' q'
  | 12, hi => cases hi; exact lp_w0_12 cI cD h q h' q'
  | 13, hi => cases hi; exact lp_w0_13 cI cD h q h' q'
  | 14, hi => cases hi; exact lp_w0_14 cI cD h q h' q'
  | 15, hi => cases hi; exact lp_w0_15 cI cD h q h' q'
  | 16, hi => cases hi; exact lp_w0_16 cI cD h q h' q'
  | 17, hi => cases hi; exact lp_w0_17 cI cD h q h' q'
  | 18, hi => cases hi; exact lp_w0_18 cI cD h q h' q'
  | 19, hi => cases hi; exact lp_w0_19 cI cD h q h' q'
  | 20, hi => cases hi; exact lp_w0_20 cI cD h q h' q'
  | 21, hi => cases hi; exact lp_w0_21 cI cD h q h' q'
  | 22, hi => cases hi; exact lp_w0_22 cI cD h q h' q'
  | 23, hi => cases hi; exact lp_w0_23 cI cD h q h' q'
  | 24, hi => cases hi; exact lp_w0_24 cI cD h q h' q'
  | 25, hi => cases hi; exact lp_w0_25 cI cD h q h' q'
  | 26, hi => cases hi; exact lp_w0_26 cI cD h q h' q'
  | 27, hi => cases hi; exact lp_w0_27 cI cD h q h' q'
  | 28, hi => cases hi; exact lp_w0_28 cI cD h q h' q'
  | 29, hi => cases hi; exact lp_w0_29 cI cD h q h' q'
  | 30, hi => cases hi; exact lp_w0_30 cI cD h q h' q'
  | 31, hi => cases hi; exact lp_w0_31 cI cD h q h' q'
  | 32, hi => cases hi; exact lp_w0_32 cI cD h q h' q'
  | 33, hi => cases hi; exact lp_w0_33 cI cD h q h' q'
  | 34, hi => cases hi; exact lp_w0_34 cI cD h q h' q'
  | 35, hi => cases hi; exact lp_w0_35 cI cD h q h' q'
  | 36, hi => cases hi; exact lp_w0_36 cI cD h q h' q'
  | 37, hi => cases hi; exact lp_w0_37 cI cD h q h' q'
  | 38, hi => cases hi; exact lp_w0_38 cI cD h q h' q'
  | 39, hi => cases hi; exact lp_w0_39 cI cD h q h' q'
  | 40, hi => cases hi; exact lp_w0_40 cI cD h q h' q'
  | 41, hi => cases hi; exact lp_w0_41 cI cD h q h' q'
  | 42, hi => cases hi; exact lp_w0_42 cI cD h q h' q'
  | 43, hi => cases hi; exact lp_w0_43 cI cD h q h' q'
  | 44, hi => cases hi; exact lp_w0_44 cI cD h q h' q'
  | 45, hi => cases hi; exact lp_w0_45 cI cD h q h' q'
  | 46, hi => cases hi; exact lp_w0_46 cI cD h q h' q'
  | 47, hi => cases hi; exact lp_w0_47 cI cD h q h' q'
  | 48, hi => cases hi; exact lp_w0_48 cI cD h q h' q'
  | 49, hi => cases hi; exact lp_w0_49 cI cD h q h' q'
  | 50, hi => cases hi; exact lp_w0_50 cI cD h q h' q'
  | 51, hi => cases hi; exact lp_w0_51 cI cD h q h' q'
  | 52, hi => cases hi; exact lp_w0_52 cI cD h q h' q'
  | 53, hi => cases hi; exact lp_w0_53 cI cD h q h' q'
  | 54, hi => cases hi; exact lp_w0_54 cI cD h q h' q'
  | 55, hi => cases hi; exact lp_w0_55 cI cD h q h' q'
  | 56, hi => cases hi; exact lp_w0_56 cI cD h q h' q'
  | 57, hi => cases hi; exact lp_w0_57 cI cD h q h' q'
  | 58, hi => cases hi; exact lp_w0_58 cI cD h q h' q'
  | 59, hi => cases hi; exact lp_w0_59 cI cD h q h' q'
  | 60, hi => cases hi; exact lp_w0_60 cI cD h q h' q'
  | 61, hi => cases hi; exact lp_w0_61 cI cD h q h' q'
  | 62, hi => cases hi; exact lp_w0_62 cI cD h q h' q'
  | 63, hi => cases hi; exact lp_w0_63 cI cD h q h' q'
  | 64, hi => cases hi; exact lp_w0_64 cI cD h q h' q'
  | 65, hi => cases hi; exact lp_w0_65 cI cD h q h' q'
  | 66, hi => cases hi; exact lp_w0_66 cI cD h q h' q'
  | 67, hi => cases hi; exact lp_w0_67 cI cD h q h' q'
  | 68, hi => cases hi; exact lp_w0_68 cI cD h q h' q'
  | 69, hi => cases hi; exact lp_w0_69 cI cD h q h' q'
  | 70, hi => cases hi; exact lp_w0_70 cI cD h q h' q'
  | 71, hi => cases hi; exact lp_w0_71 cI cD h q h' q'
  | 72, hi => cases hi; exact lp_w0_72 cI cD h q h' q'
  | 73, hi => cases hi; exact lp_w0_73 cI cD h q h' q'
  | 74, hi => cases hi; exact lp_w0_74 cI cD h q h' q'
  | 75, hi => cases hi; exact lp_w0_75 cI cD h q h' q'
  | 76, hi => cases hi; exact lp_w0_76 cI cD h q h' q'
  | 77, hi => cases hi; exact lp_w0_77 cI cD h q h' q'
  | 78, hi => cases hi; exact lp_w0_78 cI cD h q h' q'
  | 79, hi => cases hi; exact lp_w0_79 cI cD h q h' q'
  | 80, hi => cases hi; exact lp_w0_80 cI cD h q h' q'
  | 81, hi => cases hi; exact lp_w0_81 cI cD h q h' q'
  | 82, hi => cases hi; exact lp_w0_82 cI cD h q h' q'
  | n + 83, hi => simp [lp_prs] at hi
theorem lp_prs_all : ((List.range 60).all fun r => (List.range (lp_cnt r)).all fun k => (lp_isD r && Nat.blt k 121) || lp_prs.contains (r, k)) = true := by decide +kernel
theorem lp_prs_ix {r k : Nat} (h : lp_live lp_s0 r k) : ∃ i : Nat, lp_prs[i]? = some (r, k) := by
  have h1 := List.all_eq_true.mp (List.all_eq_true.mp lp_prs_all r (List.mem_range.mpr (lp_cnt_lt h.1))) k (List.mem_range.mpr h.1)
  rcases (Bool.or_eq_true _ _).mp h1 with h2 | h2
  · obtain ⟨h3, h4⟩ := (Bool.and_eq_true _ _).mp h2
    rw [Nat.blt_eq] at h4
    exact absurd rfl (h.2 h3 h4)
  · exact List.mem_iff_getElem?.mp (List.contains_iff_mem.mp h2)
theorem lp_Rep0 {D : va_G} {cI cD : ClassId} {h : Nat} {q : Nat → Nat} {h' : Nat} {q' : Nat → Nat} {H : Heap} {A : Nat → Prop} (hP : va_P D vwCl (wX6 cI cD h q ++ wX7 cI cD h' q') H) (hD : va_D A (wX6 cI cD h q ++ wX7 cI cD h' q')) : lp_Rep D cI cD (lp_ad0 h q h' q') lp_s0 H ∧ ∀ r k, lp_live lp_s0 r k → A (lp_ad0 h q h' q' r k) := by
  refine ⟨⟨fun r k hl => ?_, fun r k r' k' hl hl' e1 => ?_⟩, fun r k hl => ?_⟩
  · obtain ⟨i, hi⟩ := lp_prs_ix hl
    exact hP i _ (lp_w0 cI cD h q h' q' i r k hi)
  · obtain ⟨i, hi⟩ := lp_prs_ix hl
    obtain ⟨i', hi'⟩ := lp_prs_ix hl'
    have e2 := hD.1 i i' _ _ (lp_w0 cI cD h q h' q' i r k hi) (lp_w0 cI cD h q h' q' i' r' k' hi') e1
    subst e2
    have e3 := Option.some.inj (hi.symm.trans hi')
    exact ⟨congrArg Prod.fst e3, congrArg Prod.snd e3⟩
  · obtain ⟨i, hi⟩ := lp_prs_ix hl
    exact hD.2 i _ (lp_w0 cI cD h q h' q' i r k hi)
theorem lp_dead_le (σ : lpM) : lp_dead σ ≤ 121 := by
  unfold lp_dead
  have := List.countP_le_length (p := fun k => decide (σ 9 0 k = 0)) (l := List.range 121)
  rw [List.length_range] at this
  exact this
def lp_Z0 : lpZ := ((0, fun _ => 0, fun _ => 0, fun _ => 0), (fun _ => 0, fun _ => 1), (0, fun _ => 0, fun _ => 0, fun _ => 0), (fun _ _ => 0, fun _ _ => 0))
theorem lp_P0 : lpP lp_s0 lp_Z0 := by
  have hv : ∀ k, lp_Vis lp_s0 k 0 (fun _ => 0) (fun _ => 0) (fun _ => 0) := fun k => ⟨rfl, by omega, fun v _ => rfl, rfl, fun v hv => absurd hv (Nat.not_lt_zero _), fun j hj => absurd hj (Nat.not_lt_zero _)⟩
  refine ⟨⟨hv 0, fun j _ => ⟨rfl, by show (0 : Nat) < 30000; omega⟩, fun j _ => ⟨rfl, by show (0 : Nat) ≤ 100; omega⟩, fun j _ _ w _ => rfl, fun j _ hz => absurd rfl hz⟩, fun j hj => ⟨?_, by show (1 : Nat) ≤ 1; omega, by show (1 : Nat) ≤ 50; omega⟩, fun f hf => ?_, hv 1, fun sl hsl => absurd hsl (Nat.not_lt_zero _), ⟨rfl, rfl, rfl, rfl⟩, fun j => by show (0 : Nat) < 2 ^ 18; omega, fun f _ t _ => rfl⟩
  · show lp_ff (fun _ => 0) 1 10 j = nI 1
    unfold lp_ff
    rw [if_pos hj]
    rfl
  · show (if f < 11 then (1 : Int32) else 0) ≠ 0
    rw [if_pos hf]
    decide
theorem lp_D0 : lpD lp_s0 lp_Z0 := by
  have hv : lpV0 0 (fun _ => 0) (fun _ => 0) := ⟨by omega, rfl, fun v hv => absurd hv (Nat.not_lt_zero _), fun j hj => absurd hj (Nat.not_lt_zero _)⟩
  refine ⟨⟨rfl, fun v hv => absurd hv (Nat.not_lt_zero _), fun v i hv => absurd hv (Nat.not_lt_zero _), hv, fun j hj => absurd hj (Nat.not_lt_zero _)⟩, ⟨fun j _ => ⟨rfl, by show (0 : Nat) ≤ 100; omega⟩, fun j hj => ⟨?_, by show (1 : Nat) ≤ 1; omega, by show (1 : Nat) ≤ 50; omega⟩⟩, ⟨rfl, rfl, rfl, rfl⟩, fun v hv => absurd hv (Nat.not_lt_zero _), fun v i hv => absurd hv (Nat.not_lt_zero _), hv, fun j hj => absurd hj (Nat.not_lt_zero _), ⟨fun sl hsl => absurd hsl (Nat.not_lt_zero _), fun j => by show (0 : Nat) < 2 ^ 18; omega, Nat.le_refl 0, fun sl hsl => absurd hsl (Nat.not_lt_zero _), fun x h1 h2 => absurd (Nat.lt_of_lt_of_le h1 h2) (Nat.lt_irrefl 0), fun hz => absurd rfl hz⟩, fun f _ t _ => rfl, fun _ f t _ _ => rfl⟩
  rcases (show j = 0 ∨ j = 1 ∨ j = 2 ∨ j = 3 ∨ j = 4 ∨ j = 5 ∨ j = 6 ∨ j = 7 ∨ j = 8 ∨ j = 9 by omega) with rfl | rfl | rfl | rfl | rfl | rfl | rfl | rfl | rfl | rfl <;> rfl
