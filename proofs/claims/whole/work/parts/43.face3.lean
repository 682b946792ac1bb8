/-! ===== LoadPress: part, late, waiting, count, press, learn ===== -/
theorem lp_lt_anti {P : Nat → Nat → Nat} {a b t u : Nat} (h : t ≤ u) : lsum (lp_lt P a u) b ≤ lsum (lp_lt P a t) b := lsum_le (fun i _ => by
  unfold lp_lt
  by_cases h1 : a ≤ i ∧ u < P 5 i - P 3 i
  · rw [if_pos h1, if_pos ⟨h1.1, by omega⟩]; omega
  · rw [if_neg h1]; omega)
theorem lp_prt_mono {P : Nat → Nat → Nat} {a b th t u : Nat} (h : t ≤ u) (hp : lp_prt P a b th t) : lp_prt P a b th u := by
  unfold lp_prt at hp ⊢
  have := lp_lt_anti (P := P) (a := a) (b := b) h
  exact Nat.le_trans hp (Nat.mul_le_mul_right _ (by omega))
noncomputable def lp_pt (P : Nat → Nat → Nat) (a b th : Nat) : Nat := Classical.epsilon (fun t => ¬ lp_prt P a b th t ∧ lp_prt P a b th (t + 1)) + 1
theorem lp_pt_eq {P : Nat → Nat → Nat} {a b th t : Nat} (h1 : ¬ lp_prt P a b th t) (h2 : lp_prt P a b th (t + 1)) : lp_pt P a b th = t + 1 := by
  have h := Classical.epsilon_spec (p := fun t => ¬ lp_prt P a b th t ∧ lp_prt P a b th (t + 1)) ⟨t, h1, h2⟩
  unfold lp_pt
  generalize Classical.epsilon (fun t => ¬ lp_prt P a b th t ∧ lp_prt P a b th (t + 1)) = u at h
  rcases Nat.lt_trichotomy u t with z | z | z
  · exact absurd (lp_prt_mono (show u + 1 ≤ t by omega) h.2) h1
  · rw [z]
  · exact absurd (lp_prt_mono (show t + 1 ≤ u by omega) h2) h.1
noncomputable def an_part (x y : Int32) (Z : lpZ) : Int32 := if ir1 x 1000 ∧ (0 < Z.2.2.1.1 ∧ ir y (Z.2.2.1.1 - 1)) ∧ Z.2.2.1.2.1 (tn y) < Z.2.2.1.2.1 Z.2.2.1.1 then nI (lp_pt Z.2.2.2.1 (Z.2.2.1.2.1 (tn y)) (Z.2.2.1.2.1 Z.2.2.1.1) (tn x)) else -1
def sp_X6_part : lpS := fun as σ Q => match as with
  | [.inr (some (r, k)), .inl x, .inl y] => r = 1 ∧ k = 0 ∧ ∃ Z, lpP σ Z ∧ Q (some (an_part x y Z)) σ
  | _ => False
set_option maxHeartbeats 4000000 in
set_option maxRecDepth 100000 in
theorem ct_X6_part (l : Launch) (D : va_G) (cI cD : ClassId) : lp_Ct l D cI cD yX6_part cX6_part 3 (some .int) 5 sp_X6_part := by
  refine lp_method0 flX6 pfX6 kcX6 [(86, none, 3, sp_X6_isWithin), (126, some 4, 1, sp_X4_has), (129, some 3, 2, sp_X3_leastTicks)] false kX6_part rfl rfl (lp_rI rfl) flX6_ok pfX6_ok kcX6_ok kX6_part_ok ⟨_, _, rfl, rfl⟩ (lp_cs1 (lp_mkCall lkX6_86 (ct_X6_isWithin l D cI cD) (by omega)) (lp_cs1 (lp_mkCall lkX6_126 (ct_X4_has l D cI cD) (by omega)) (lp_cs1 (lp_mkCall lkX6_129 (ct_X3_leastTicks l D cI cD) (by omega)) lp_cs0))) ?_
  intro as σ Q hs
  rcases as with _ | ⟨_ | _ | ⟨r, k⟩, _ | ⟨x | _, _ | ⟨y | _, _ | ⟨c, as⟩⟩⟩⟩ <;> try exact (hs : False).elim
  obtain ⟨rfl, rfl, ⟨L, C, ⟨N, s, pg, wt⟩, P, cm⟩, hL, hq⟩ := hs
  obtain ⟨-, -, -, hV, hD, -⟩ := hL
  dsimp only at hV hD
  have hn := hV.2.1
  unfold an_part at hq
  dsimp only at hq
  refine ⟨Nat.le_refl 3, ?_⟩
  ((conv => whnf); (try dsimp only))
  refine lp_upto1 (n := 1000) (by decide) ?_
  by_cases hx : ir1 x 1000
  rotate_left
  · rw [if_neg (fun z => hx z.1)] at hq
    refine Or.inr ⟨fun v h1 hv e1 => hx (ir1_of e1 h1 hv (by omega)), ?_⟩
    ((conv => whnf); (try dsimp only))
    refine ⟨fun _ => ?_, fun q => absurd rfl q⟩
    ((conv => whnf); (try dsimp only))
    exact hq
  refine Or.inl ⟨tn x, hx.2.1, hx.2.2, hx.1, ?_⟩
  ((conv => whnf); (try dsimp only))
  refine ⟨fun q => absurd q (by decide), fun _ => ?_⟩
  ((conv => whnf); (try dsimp only))
  refine ⟨rfl, _, _, _, _, hV, ?_⟩
  by_cases hy : 0 < N ∧ ir y (N - 1)
  rotate_left
  · rw [if_neg (fun z => hy z.2.1)] at hq
    refine Or.inr ⟨fun v hv e1 => hy ⟨by omega, ir_of e1 (by omega) (by omega)⟩, ?_⟩
    ((conv => whnf); (try dsimp only))
    refine ⟨fun q => absurd rfl q, fun _ => ?_⟩
    ((conv => whnf); (try dsimp only))
    exact hq
  have hyN : tn y < N := by have := hy.2.2; omega
  refine Or.inl ⟨tn y, hyN, hy.2.1, ?_⟩
  ((conv => whnf); (try dsimp only))
  refine ⟨fun _ => ?_, fun q => absurd q (by decide)⟩
  ((conv => whnf); (try dsimp only))
  refine ⟨rfl, rfl, _, tn x, tn y, _, _, _, P, hV, hD, hx.1, hx.2.1, hx.2.2, hy.2.1, hyN, ?_⟩
  have hsn := lp_Vis_sn hV (show tn y ≤ N by omega)
  by_cases hz : s (tn y) < s N
  · rw [if_pos ⟨hx, hy, hz⟩] at hq
    refine Or.inr ⟨hz, fun t h1 h2 => ?_⟩
    ((conv => whnf); (try dsimp only))
    rw [← lp_pt_eq h1 h2]
    exact hq
  · rw [if_neg (fun z => hz z.2.2)] at hq
    refine Or.inl ⟨by omega, ?_⟩
    ((conv => whnf); (try dsimp only))
    exact hq
def an_late (x y : Int32) (Z : lpZ) : Int32 := if ir x 1000000 ∧ (0 < Z.2.2.1.1 ∧ ir y (Z.2.2.1.1 - 1)) then nI (lsum (lp_lt Z.2.2.2.1 (Z.2.2.1.2.1 (tn y)) (tn x)) (Z.2.2.1.2.1 Z.2.2.1.1)) else -1
def sp_X6_late : lpS := fun as σ Q => match as with
  | [.inr (some (r, k)), .inl x, .inl y] => r = 1 ∧ k = 0 ∧ ∃ Z, lpP σ Z ∧ Q (some (an_late x y Z)) σ
  | _ => False
set_option maxHeartbeats 4000000 in
set_option maxRecDepth 100000 in
theorem ct_X6_late (l : Launch) (D : va_G) (cI cD : ClassId) : lp_Ct l D cI cD yX6_late cX6_late 3 (some .int) 4 sp_X6_late := by
  refine lp_method0 flX6 pfX6 kcX6 [(86, none, 3, sp_X6_isWithin), (126, some 4, 1, sp_X4_has), (133, some 3, 2, sp_X3_longerThan)] false kX6_late rfl rfl (lp_rI rfl) flX6_ok pfX6_ok kcX6_ok kX6_late_ok ⟨_, _, rfl, rfl⟩ (lp_cs1 (lp_mkCall lkX6_86 (ct_X6_isWithin l D cI cD) (by omega)) (lp_cs1 (lp_mkCall lkX6_126 (ct_X4_has l D cI cD) (by omega)) (lp_cs1 (lp_mkCall lkX6_133 (ct_X3_longerThan l D cI cD) (by omega)) lp_cs0))) ?_
  intro as σ Q hs
  rcases as with _ | ⟨_ | _ | ⟨r, k⟩, _ | ⟨x | _, _ | ⟨y | _, _ | ⟨c, as⟩⟩⟩⟩ <;> try exact (hs : False).elim
  obtain ⟨rfl, rfl, ⟨L, C, ⟨N, s, pg, wt⟩, P, cm⟩, hL, hq⟩ := hs
  obtain ⟨-, -, -, hV, hD, -⟩ := hL
  dsimp only at hV hD
  have hn := hV.2.1
  unfold an_late at hq
  dsimp only at hq
  refine ⟨Nat.le_refl 3, ?_⟩
  ((conv => whnf); (try dsimp only))
  refine lp_upto (n := 1000000) (by decide) ?_
  by_cases hx : ir x 1000000
  rotate_left
  · rw [if_neg (fun z => hx z.1)] at hq
    refine Or.inr ⟨fun v hv e1 => hx (ir_of e1 hv (by omega)), ?_⟩
    ((conv => whnf); (try dsimp only))
    refine ⟨fun _ => ?_, fun q => absurd rfl q⟩
    ((conv => whnf); (try dsimp only))
    exact hq
  refine Or.inl ⟨tn x, hx.2, hx.1, ?_⟩
  ((conv => whnf); (try dsimp only))
  refine ⟨fun q => absurd q (by decide), fun _ => ?_⟩
  ((conv => whnf); (try dsimp only))
  refine ⟨rfl, _, _, _, _, hV, ?_⟩
  by_cases hy : 0 < N ∧ ir y (N - 1)
  rotate_left
  · rw [if_neg (fun z => hy z.2)] at hq
    refine Or.inr ⟨fun v hv e1 => hy ⟨by omega, ir_of e1 (by omega) (by omega)⟩, ?_⟩
    ((conv => whnf); (try dsimp only))
    refine ⟨fun q => absurd rfl q, fun _ => ?_⟩
    ((conv => whnf); (try dsimp only))
    exact hq
  have hyN : tn y < N := by have := hy.2.2; omega
  rw [if_pos ⟨hx, hy⟩] at hq
  refine Or.inl ⟨tn y, hyN, hy.2.1, ?_⟩
  ((conv => whnf); (try dsimp only))
  refine ⟨fun _ => ?_, fun q => absurd q (by decide)⟩
  ((conv => whnf); (try dsimp only))
  refine ⟨rfl, rfl, _, tn x, tn y, _, _, _, P, hV, hD, hx.1, by have := hx.2; omega, hy.2.1, hyN, ?_⟩
  ((conv => whnf); (try dsimp only))
  exact hq
def an_waiting (x : Int32) (Z : lpZ) : Int32 := if ir x 1000000 ∧ 0 < Z.2.2.1.1 then nI (lsum (lp_wa Z.2.2.2.1 (tn x)) (Z.2.2.1.2.1 Z.2.2.1.1)) else -1
def sp_X6_waiting : lpS := fun as σ Q => match as with
  | [.inr (some (r, k)), .inl x] => r = 1 ∧ k = 0 ∧ ∃ Z, lpP σ Z ∧ Q (some (an_waiting x Z)) σ
  | _ => False
set_option maxHeartbeats 4000000 in
set_option maxRecDepth 100000 in
theorem ct_X6_waiting (l : Launch) (D : va_G) (cI cD : ClassId) : lp_Ct l D cI cD yX6_waiting cX6_waiting 2 (some .int) 2 sp_X6_waiting := by
  refine lp_method0 flX6 pfX6 kcX6 [(86, none, 3, sp_X6_isWithin), (143, some 3, 1, sp_X3_notBegunAt)] false kX6_waiting rfl rfl (lp_rI rfl) flX6_ok pfX6_ok kcX6_ok kX6_waiting_ok ⟨_, _, rfl, rfl⟩ (lp_cs1 (lp_mkCall lkX6_86 (ct_X6_isWithin l D cI cD) (by omega)) (lp_cs1 (lp_mkCall lkX6_143 (ct_X3_notBegunAt l D cI cD) (by omega)) lp_cs0)) ?_
  intro as σ Q hs
  rcases as with _ | ⟨_ | _ | ⟨r, k⟩, _ | ⟨x | _, _ | ⟨c, as⟩⟩⟩ <;> try exact (hs : False).elim
  obtain ⟨rfl, rfl, ⟨L, C, ⟨N, s, pg, wt⟩, P, cm⟩, hL, hq⟩ := hs
  obtain ⟨-, -, -, hV, hD, -⟩ := hL
  dsimp only at hV hD
  have hn := hV.2.1
  unfold an_waiting at hq
  dsimp only at hq
  refine ⟨Nat.le_refl 2, ?_⟩
  ((conv => whnf); (try dsimp only))
  refine lp_upto (n := 1000000) (by decide) ?_
  by_cases hx : ir x 1000000
  rotate_left
  · rw [if_neg (fun z => hx z.1)] at hq
    refine Or.inr ⟨fun v hv e1 => hx (ir_of e1 hv (by omega)), ?_⟩
    ((conv => whnf); (try dsimp only))
    refine ⟨fun _ => ?_, fun q => absurd rfl q⟩
    ((conv => whnf); (try dsimp only))
    exact hq
  refine Or.inl ⟨tn x, hx.2, hx.1, ?_⟩
  ((conv => whnf); (try dsimp only))
  refine ⟨fun q => absurd q (by decide), fun _ => ?_⟩
  ((conv => whnf); (try dsimp only))
  rw [hV.1]
  refine ⟨fun q => ?_, fun q => ?_⟩ <;> ((conv => whnf); (try dsimp only))
  · have hz : 0 < N := Nat.pos_of_ne_zero (fun z => q (by rw [z]; rfl))
    rw [if_pos ⟨hx, hz⟩] at hq
    refine ⟨rfl, rfl, _, tn x, _, _, _, P, hV, hD, hx.1, by have := hx.2; omega, ?_⟩
    ((conv => whnf); (try dsimp only))
    exact hq
  · have hz : N = 0 := lp_inj (by omega) (by omega) q
    rw [if_neg (fun z => by omega)] at hq
    exact hq
def lp_tv7 (a0 a1 a2 a3 a4 a5 a6 : Nat) (y : Int32) : Int32 := if y = nI 0 then nI a0 else if y = nI 1 then nI a1 else if y = nI 2 then nI a2 else if y = nI 3 then nI a3 else if y = nI 4 then nI a4 else if y = nI 5 then nI a5 else if y = nI 6 then nI a6 else -1
theorem lp_tv7_out {a0 a1 a2 a3 a4 a5 a6 : Nat} {y : Int32} (h : y.toInt < 0 ∨ 6 < y.toInt) : lp_tv7 a0 a1 a2 a3 a4 a5 a6 y = -1 := by
  have k : ∀ c : Nat, c < 7 → y ≠ nI c := fun c hc e => by
    have := (lp_ti (x := y) (c := c) (by omega)).mpr e
    omega
  simp [lp_tv7, k 0 (by omega), k 1 (by omega), k 2 (by omega), k 3 (by omega), k 4 (by omega), k 5 (by omega), k 6 (by omega)]
def an_count (x : Int32) (Z : lpZ) : Int32 := lp_tv7 Z.1.1 (Z.1.2.1 Z.1.1) Z.2.2.1.1 (Z.2.2.1.2.1 Z.2.2.1.1) (Z.2.2.2.1 7 0) (Z.2.2.2.1 7 1) (lsum (fun j => if 0 < lp_ctL Z.1 j then 1 else 0) 121) x
def sp_X6_count : lpS := fun as σ Q => match as with
  | [.inr (some (r, k)), .inl x] => r = 1 ∧ k = 0 ∧ ∃ Z, lpP σ Z ∧ Q (some (an_count x Z)) σ
  | _ => False
set_option maxHeartbeats 4000000 in
set_option maxRecDepth 100000 in
theorem ct_X6_count (l : Launch) (D : va_G) (cI cD : ClassId) : lp_Ct l D cI cD yX6_count cX6_count 2 (some .int) 1 sp_X6_count := by
  refine lp_method0 flX6 pfX6 kcX6 [(99, some 4, 0, sp_X4_asks), (158, some 2, 0, sp_X2_unlikeSteps)] false kX6_count rfl rfl (lp_rI rfl) flX6_ok pfX6_ok kcX6_ok kX6_count_ok ⟨_, _, rfl, rfl⟩ (lp_cs1 (lp_mkCall lkX6_99 (ct_X4_asks l D cI cD) (by omega)) (lp_cs1 (lp_mkCall lkX6_158 (ct_X2_unlikeSteps l D cI cD) (by omega)) lp_cs0)) ?_
  intro as σ Q hs
  rcases as with _ | ⟨_ | _ | ⟨r, k⟩, _ | ⟨x | _, _ | ⟨c, as⟩⟩⟩ <;> try exact (hs : False).elim
  obtain ⟨rfl, rfl, Z, ⟨⟨hV, hM⟩, -, -, hV2, -, ⟨d1, d2, d3, d4⟩, -⟩, hq⟩ := hs
  unfold an_count at hq
  refine ⟨Nat.le_refl 2, ?_⟩
  ((conv => whnf); (try dsimp only))
  refine ⟨fun z => ?_, fun z => ?_, fun z => ?_, fun z => ?_, fun z => ?_, fun z => ?_, fun z => ?_, fun z => ?_, trivial⟩ <;> ((conv => whnf); (try dsimp only))
  · rw [lp_tv7_out z] at hq
    exact hq
  · have z : x = nI 0 := (lp_ti (c := 0) (by omega)).mp z
    subst z
    rw [hV.1]
    exact hq
  · have z : x = nI 1 := (lp_ti (c := 1) (by omega)).mp z
    subst z
    exact ⟨rfl, _, _, _, _, hV, hq⟩
  · have z : x = nI 2 := (lp_ti (c := 2) (by omega)).mp z
    subst z
    rw [hV2.1]
    exact hq
  · have z : x = nI 3 := (lp_ti (c := 3) (by omega)).mp z
    subst z
    exact ⟨rfl, _, _, _, _, hV2, hq⟩
  · have z : x = nI 4 := (lp_ti (c := 4) (by omega)).mp z
    subst z
    rw [d3]
    exact hq
  · have z : x = nI 5 := (lp_ti (c := 5) (by omega)).mp z
    subst z
    rw [d4]
    exact hq
  · have z : x = nI 6 := (lp_ti (c := 6) (by omega)).mp z
    subst z
    exact ⟨rfl, rfl, _, _, _, hM, hq⟩
def pr_F (L : lpLg) (rr : Nat → Nat) (N : Nat) : (Nat → Nat) × lpW := wks (fun f t => lp_mc (lp_ctL L (f * 11 + t)) (rr (f * 11 + t))) (lp_wcL L) N 0 (fun _ => 0) lp_W0
def pr_M (L : lpLg) (rr : Nat → Nat) (N : Nat) : lpLg := (N, (pr_F L rr N).1, (pr_F L rr N).2.2.1, (pr_F L rr N).2.2.2.1)
def pr_P (M : lpLg) (co : Nat → Nat) (G S : Nat) : Nat → Nat → Nat := svs M.2.1 M.2.2.2 (fun sl => co (M.2.2.1 sl)) M.1 S (M.2.1 M.1) (p0 M.2.1 M.2.2.2 G)
abbrev pr_ok (x y z : Int32) (Z : lpZ) : Prop := (ir1 x 60 ∧ ir y 100 ∧ ir1 z 8) ∧ 0 < Z.1.2.1 Z.1.1
def an_press (x y z : Int32) (Z : lpZ) : Int32 := if pr_ok x y z Z then nI ((pr_M Z.1 Z.2.1.1 (tn x)).2.1 (tn x)) else -1
def st_press (x y z : Int32) (Z : lpZ) : lpZ := if pr_ok x y z Z then (Z.1, Z.2.1, pr_M Z.1 Z.2.1.1 (tn x), pr_P (pr_M Z.1 Z.2.1.1 (tn x)) Z.2.1.2 (tn y) (tn z), (pr_F Z.1 Z.2.1.1 (tn x)).2.2.2.2.1) else Z
def sp_X6_press : lpS := fun as σ Q => match as with
  | [.inr (some (r, k)), .inl x, .inl y, .inl z] => r = 1 ∧ k = 0 ∧ ∃ Z, lpP σ Z ∧ ∀ τ, lpP τ (st_press x y z Z) → lpFL σ τ → Q (some (an_press x y z Z)) τ
  | _ => False
set_option maxHeartbeats 4000000 in
set_option maxRecDepth 100000 in
theorem ct_X6_press (l : Launch) (D : va_G) (cI cD : ClassId) : lp_Ct l D cI cD yX6_press cX6_press 5 (some .int) 6 sp_X6_press := by
  refine lp_method flX6 pfX6 kcX6 [(86, none, 3, sp_X6_isWithin), (99, some 4, 0, sp_X4_asks), (105, some 5, 3, sp_X5_dealWalks), (109, some 3, 3, sp_X3_run)] false kX6_press [37] rfl rfl (lp_rI rfl) flX6_ok pfX6_ok kcX6_ok kX6_press_ok ⟨_, _, rfl, rfl⟩ (lp_cs1 (lp_mkCall lkX6_86 (ct_X6_isWithin l D cI cD) (by omega)) (lp_cs1 (lp_mkCall lkX6_99 (ct_X4_asks l D cI cD) (by omega)) (lp_cs1 (lp_mkCall lkX6_105 (ct_X5_dealWalks l D cI cD) (by omega)) (lp_cs1 (lp_mkCall lkX6_109 (ct_X3_run l D cI cD) (by omega)) lp_cs0)))) ?_
  intro as σ Q hok hs
  rcases as with _ | ⟨_ | _ | ⟨r, k⟩, _ | ⟨x | _, _ | ⟨y | _, _ | ⟨z | _, _ | ⟨c, as⟩⟩⟩⟩⟩ <;> try exact (hs : False).elim
  obtain ⟨rfl, rfl, ⟨⟨n, s, pg, wt⟩, ⟨rr, co⟩, M, P, cm⟩, ⟨⟨hV, hM⟩, hC, hP⟩, hq⟩ := hs
  dsimp only at hV hM hC hP
  unfold st_press an_press at hq
  dsimp only at hq
  have hV0 := lp_Vis_V0 hV
  have hn := hV.2.1
  have hbd := lp_Vis_bd hV
  have hpg : ∀ j, j < s n → pg j < 10 := fun j hj => (hV.2.2.2.2.2 j hj).2.1
  refine ⟨by show 4 ≤ 5; omega, fun m pc L τ => pc = 37 ∧ m = 0 ∧ σ = τ ∧ ∃ b : Int32, (((ir1 x 60 ∧ ir y 100 ∧ ir1 z 8) ∧ b = 1) ∨ (¬ (ir1 x 60 ∧ ir y 100 ∧ ir1 z 8) ∧ b = 0)) ∧ L = [some (.inr (some (1, 0))), some (.inl x), some (.inl y), some (.inl z), some (.inl b)], ?_, ?_⟩
  · ((conv => whnf); (try dsimp only))
    refine lp_upto1 (n := 60) (by decide) ?_
    by_cases hx : ir1 x 60
    rotate_left
    · refine Or.inr ⟨fun v h1 hv e1 => hx (ir1_of e1 h1 hv (by omega)), ?_⟩
      ((conv => whnf); (try dsimp only))
      refine ⟨fun _ => ?_, fun q => absurd rfl q⟩
      ((conv => whnf); (try dsimp only))
      exact ⟨0, rfl, rfl, rfl, 0, Or.inr ⟨fun z => hx z.1, rfl⟩, rfl⟩
    refine Or.inl ⟨tn x, hx.2.1, hx.2.2, hx.1, ?_⟩
    ((conv => whnf); (try dsimp only))
    refine ⟨fun q => absurd q (by decide), fun _ => ?_⟩
    ((conv => whnf); (try dsimp only))
    refine lp_upto (n := 100) (by decide) ?_
    by_cases hy : ir y 100
    rotate_left
    · refine Or.inr ⟨fun v hv e1 => hy (ir_of e1 hv (by omega)), ?_⟩
      ((conv => whnf); (try dsimp only))
      refine ⟨fun _ => ?_, fun q => absurd rfl q⟩
      ((conv => whnf); (try dsimp only))
      exact ⟨0, rfl, rfl, rfl, 0, Or.inr ⟨fun z => hy z.2.1, rfl⟩, rfl⟩
    refine Or.inl ⟨tn y, hy.2, hy.1, ?_⟩
    ((conv => whnf); (try dsimp only))
    refine ⟨fun q => absurd q (by decide), fun _ => ?_⟩
    ((conv => whnf); (try dsimp only))
    refine lp_upto1 (n := 8) (by decide) ?_
    by_cases hz : ir1 z 8
    rotate_left
    · refine Or.inr ⟨fun v h1 hv e1 => hz (ir1_of e1 h1 hv (by omega)), ?_⟩
      ((conv => whnf); (try dsimp only))
      refine ⟨fun _ => ?_, fun q => absurd rfl q⟩
      ((conv => whnf); (try dsimp only))
      exact ⟨0, rfl, rfl, rfl, 0, Or.inr ⟨fun z => hz z.2.2, rfl⟩, rfl⟩
    refine Or.inl ⟨tn z, hz.2.1, hz.2.2, hz.1, ?_⟩
    ((conv => whnf); (try dsimp only))
    refine ⟨fun q => absurd q (by decide), fun _ => ?_⟩
    ((conv => whnf); (try dsimp only))
    exact ⟨0, rfl, rfl, rfl, 1, Or.inl ⟨⟨hx, hy, hz⟩, rfl⟩, rfl⟩
  · rintro m pc L τ ⟨rfl, rfl, rfl, b, hb, rfl⟩
    rcases hb with ⟨hin, rfl⟩ | ⟨hin, rfl⟩
    rotate_left
    · simp only [if_neg (show ¬ pr_ok x y z ((n, s, pg, wt), (rr, co), M, P, cm) from fun q => hin q.1)] at hq
      ((conv => whnf); (try dsimp only))
      refine ⟨fun _ => ?_, fun q => absurd rfl q⟩
      ((conv => whnf); (try dsimp only))
      exact hq σ ⟨⟨hV, hM⟩, hC, hP⟩ (FL_rf σ)
    ((conv => whnf); (try dsimp only))
    refine ⟨fun q => absurd q (by decide), fun _ => ?_⟩
    ((conv => whnf); (try dsimp only))
    refine ⟨rfl, n, s, pg, wt, hV, ?_⟩
    ((conv => whnf); (try dsimp only))
    refine ⟨fun q => ?_, fun q => ?_⟩ <;> ((conv => whnf); (try dsimp only))
    rotate_left
    · have hz : s n = 0 := lp_inj (by omega) (by omega) q
      simp only [if_neg (show ¬ pr_ok x y z ((n, s, pg, wt), (rr, co), M, P, cm) from fun q => by have := q.2; dsimp only at this; omega)] at hq
      exact hq σ ⟨⟨hV, hM⟩, hC, hP⟩ (FL_rf σ)
    have hz : 0 < s n := Nat.pos_of_ne_zero (fun z => q (by rw [z]; rfl))
    simp only [if_pos (show pr_ok x y z ((n, s, pg, wt), (rr, co), M, P, cm) from ⟨hin, hz⟩)] at hq
    obtain ⟨hx, hy, hz8⟩ := hin
    have hG : lpG (fun f t => lp_mc (lp_ctL (n, s, pg, wt) (f * 11 + t)) (rr (f * 11 + t))) (lp_wcL (n, s, pg, wt)) := lpG_log hV0 hpg (fun j hj => (hM.2.1 j hj).2) hz
    have h50 : σ 5 1 0 = nI 0 := by
      have h1 := hP.2.1.2.2.1 0 (Nat.zero_le _)
      rw [hP.2.1.2.2.2.1] at h1
      exact h1
    refine ⟨rfl, rfl, rfl, rfl, rfl, rfl, _, rr, _, tn x, hx.1, hx.2.2, hM, hP.1, h50, hG, fun τ hW hVw hF6 => ?_⟩
    replace hVw : lp_Vis τ 1 (tn x) (pr_M (n, s, pg, wt) rr (tn x)).2.1 (pr_M (n, s, pg, wt) rr (tn x)).2.2.1 (pr_M (n, s, pg, wt) rr (tn x)).2.2.2 := hVw
    replace hW : lp_Wk τ (fun f t => lp_mc (lp_ctL (n, s, pg, wt) (f * 11 + t)) (rr (f * 11 + t))) (lp_wcL (n, s, pg, wt)) (pr_F (n, s, pg, wt) rr (tn x)).2.2.2.2.1 (pr_F (n, s, pg, wt) rr (tn x)).2.2.2.2.2 := hW
    have e1 : (pr_M (n, s, pg, wt) rr (tn x)).1 = tn x := rfl
    generalize pr_M (n, s, pg, wt) rr (tn x) = M' at hVw hq e1
    generalize pr_F (n, s, pg, wt) rr (tn x) = F' at hW hq
    obtain ⟨N', s', pg', wt'⟩ := M'
    dsimp only at hVw hq e1
    subst e1
    ((conv => whnf); (try dsimp only))
    obtain ⟨S, hS⟩ : ∃ S, tn z = S + 1 := ⟨tn z - 1, by have := hz8.2.1; omega⟩
    have hC' : ∀ j, j < 10 → τ 15 0 j = nI (co j) ∧ 1 ≤ co j ∧ co j ≤ 50 := fun j hj => by
      rw [hF6.1 15 (by omega) (by omega) (by omega) (by omega) (by omega) (by omega)]
      exact hC j hj
    refine ⟨rfl, rfl, rfl, rfl, tn x, tn y, S, s', pg', wt', co, hVw, hy.1, by rw [← hS]; exact hz8.1, hy.2, by have := hz8.2.2; omega, hC', fun τ2 hSv hF8 => ?_⟩
    have hV2 := lp_F8_Vis hVw hF8
    ((conv => whnf); (try dsimp only))
    refine ⟨rfl, _, _, _, _, hV2, ?_⟩
    ((conv => whnf); (try dsimp only))
    have hV0' := lp_Vis_V0 hVw
    obtain ⟨hPF, hend⟩ := lp_PF_svs (S := S) (G := tn y) (cst := fun sl => co (pg' sl)) hV0' (by have := hz8.2.2; omega) hy.2 (fun sl hsl => (hC _ (hVw.2.2.2.2.2 sl hsl).2.1).2)
    rw [hS] at hq
    replace hq : ∀ τ : lpM, lpP τ ((n, s, pg, wt), (rr, co), (tn x, s', pg', wt'), svs s' wt' (fun sl => co (pg' sl)) (tn x) (S + 1) (s' (tn x)) (p0 s' wt' (tn y)), F'.2.2.2.2.1) → lpFL σ τ → Q (some (nI (s' (tn x)))) τ := hq
    generalize svs s' wt' (fun sl => co (pg' sl)) (tn x) (S + 1) (s' (tn x)) (p0 s' wt' (tn y)) = P' at hSv hPF hend hq
    have hr : ∀ r, ¬ (18 ≤ r ∧ r ≤ 25) → r ≠ 2 → r ≠ 3 → r ≠ 4 → r ≠ 5 → r ≠ 27 → r ≠ 28 → τ2 r = σ r := fun r h1 h2 h3 h4 h5 h6 h7 => by
      rw [hF8 r h1, hF6.1 r h2 h3 h4 h5 h6 h7]
    refine hq τ2 ⟨LPg_congr (σ := σ) ⟨hV, hM⟩ (fun r _ _ => ?_) (fun r _ _ => hr r (by omega) (by omega) (by omega) (by omega) (by omega) (by omega) (by omega)) (fun k hk => ?_), LPc_congr hC (hr 15 (by omega) (by omega) (by omega) (by omega) (by omega) (by omega) (by omega)), ⟨fun f hf => ?_, hV2, fun sl hsl => ?_, ?_, hPF.2.1, fun f hf t ht => ?_⟩⟩ (fun r _ => hr r (by omega) (by omega) (by omega) (by omega) (by omega) (by omega) (by omega))
    · rw [hF8 r (by omega)]
      exact hF6.2.1 r (by omega)
    · rw [hF8 27 (by omega)]
      exact hF6.2.2 k hk
    · rw [hr 17 (by omega) (by omega) (by omega) (by omega) (by omega) (by omega) (by omega)]
      exact hP.1 f hf
    · obtain ⟨v, h1, h2, h3⟩ := lp_find hV0' _ (Nat.le_refl _) hsl
      exact ⟨hSv.2.2.1 v sl h1 h2 (by rw [hend v h1]; exact h3), hPF.1 sl hsl⟩
    · exact ⟨hSv.2.2.2.2.1, hSv.2.2.2.2.2.1, hSv.2.2.2.2.2.2.1, hSv.2.2.2.2.2.2.2⟩
    · rw [hF8 28 (by omega)]
      exact (hW.2.1 f hf t ht).2
theorem nu_nu (f : Nat → Nat) (k a b : Nat) : nu (nu f k a) k b = nu f k b := by
  funext x
  unfold nu
  split <;> rfl
theorem lg_add_id (v a : Nat) (s pg wt : Nat → Nat) : lg_add (v + 1, nu s (v + 1) a, pg, wt) (pg a) (wt a) = (v + 1, nu s (v + 1) (a + 1), pg, wt) := by
  unfold lg_add
  dsimp only
  rw [nu_same, nu_nu, nu_id, nu_id]
def sp_X6_noteAsks : lpS := fun as σ Q => match as with
  | [.inr (some (r, k)), .inr (some (r2, k2)), .inl x] => r = 1 ∧ k = 0 ∧ r2 = 2 ∧ k2 = 1 ∧ ∃ (Y : lpLg × lpLg × ((Nat → Nat → Nat) × (Nat → Nat → Nat)) × ((Nat → Nat) × (Nat → Nat))) (v : Nat), x = nI v ∧ v < Y.2.1.1 ∧ lpP σ ((v + 1, nu Y.2.1.2.1 (v + 1) (Y.2.1.2.1 v), Y.2.1.2.2), Y.2.2.2, Y.2.1, Y.2.2.1) ∧
      ∀ τ, lpP τ ((v + 1, Y.2.1.2), Y.2.2.2, Y.2.1, Y.2.2.1) → lpFL σ τ → Q none τ
  | _ => False
set_option maxHeartbeats 4000000 in
set_option maxRecDepth 100000 in
theorem ct_X6_noteAsks (l : Launch) (D : va_G) (cI cD : ClassId) : lp_Ct l D cI cD yX6_noteAsks cX6_noteAsks 4 none 5 sp_X6_noteAsks := by
  refine lp_method flX6 pfX6 kcX6 [(65, some 6, 2, sp_X6_note), (171, some 4, 1, sp_X4_startOf), (174, some 4, 1, sp_X4_endOf), (177, some 4, 1, sp_X4_pageAt), (180, some 4, 1, sp_X4_waitAt)] false kX6_noteAsks [6] rfl rfl (lp_rV rfl) flX6_ok pfX6_ok kcX6_ok kX6_noteAsks_ok ⟨_, _, rfl, rfl⟩ (lp_cs1 (lp_mkCall lkX6_65 (ct_X6_note l D cI cD) (by omega)) (lp_cs1 (lp_mkCall lkX6_171 (ct_X4_startOf l D cI cD) (by omega)) (lp_cs1 (lp_mkCall lkX6_174 (ct_X4_endOf l D cI cD) (by omega)) (lp_cs1 (lp_mkCall lkX6_177 (ct_X4_pageAt l D cI cD) (by omega)) (lp_cs1 (lp_mkCall lkX6_180 (ct_X4_waitAt l D cI cD) (by omega)) lp_cs0))))) ?_
  intro as σ Q hok hs
  rcases as with _ | ⟨_ | _ | ⟨r, k⟩, _ | ⟨_ | _ | ⟨r2, k2⟩, _ | ⟨x | _, _ | ⟨c, as⟩⟩⟩⟩ <;> try exact (hs : False).elim
  obtain ⟨rfl, rfl, rfl, rfl, ⟨L0, ⟨N, s, pg, wt⟩, PC, RC⟩, v, rfl, hv, hL, hq⟩ := hs
  dsimp only at hL hq hv
  have hVσ := hL.2.2.2.1
  have hn := hVσ.2.1
  have hsv := hVσ.2.2.2.2.1 v hv
  have hb := lp_Vis_bd hVσ
  have hsn := lp_Vis_sn hVσ (show v + 1 ≤ N by exact hv)
  dsimp only at hn hsv hb hsn
  refine ⟨by show 3 ≤ 4; omega, fun m pc L τ => pc = 6 ∧ ∃ i, m + i = s (v + 1) - s v ∧ i ≤ s (v + 1) - s v ∧ lpP τ ((v + 1, nu s (v + 1) (s v + i), pg, wt), RC, (N, s, pg, wt), PC) ∧ lpFL σ τ ∧ L = [some (.inr (some (1, 0))), some (.inr (some (2, 1))), some (.inl (nI v)), some (.inl (nI (s v + i)))], ?_, ?_⟩
  · ((conv => whnf); (try dsimp only))
    refine ⟨rfl, _, _, _, _, hVσ, Or.inl ⟨v, hv, rfl, ?_⟩⟩
    ((conv => whnf); (try dsimp only))
    exact ⟨_, rfl, 0, rfl, Nat.zero_le _, hL, FL_rf σ, rfl⟩
  · rintro m pc L τ ⟨rfl, i, hm, hi, hLτ, hF, rfl⟩
    have hVτ := hLτ.2.2.2.1
    ((conv => whnf); (try dsimp only))
    refine ⟨rfl, _, _, _, _, hVτ, Or.inl ⟨v, hv, rfl, ?_⟩⟩
    ((conv => whnf); (try dsimp only))
    refine ⟨fun h => ?_, fun h => ?_⟩ <;> ((conv => whnf); (try dsimp only))
    · rw [nI_leI (by omega) (by omega)] at h
      have e1 : s v + i = s (v + 1) := by omega
      rw [e1, nu_id] at hLτ
      exact hq τ hLτ hF
    · rw [nI_leI (by omega) (by omega)] at h
      refine ⟨rfl, _, _, _, _, hVτ, Or.inl ⟨s v + i, by dsimp only; omega, rfl, ?_⟩⟩
      ((conv => whnf); (try dsimp only))
      refine ⟨rfl, _, _, _, _, hVτ, Or.inl ⟨s v + i, by dsimp only; omega, rfl, ?_⟩⟩
      ((conv => whnf); (try dsimp only))
      have hpw := hVτ.2.2.2.2.2 (s v + i) (by dsimp only; omega)
      dsimp only at hpw
      have hcan : lg_can (v + 1, nu s (v + 1) (s v + i), pg, wt) := by
        refine ⟨Nat.succ_pos v, ?_⟩
        show nu s (v + 1) (s v + i) (v + 1) - nu s (v + 1) (s v + i) (v + 1 - 1) < 20
        rw [nu_same, nu_ne (by omega), show v + 1 - 1 = v from rfl]
        omega
      refine ⟨rfl, rfl, _, pg (s v + i), wt (s v + i), rfl, rfl, by omega, hpw.2.2.2, hLτ, Or.inl ⟨hcan, fun τ' h1 h2 h3 => ?_⟩⟩
      ((conv => whnf); (try dsimp only))
      dsimp only at h1
      rw [lg_add_id] at h1
      exact ⟨s (v + 1) - s v - (i + 1), by omega, rfl, i + 1, by omega, by omega, h1, FL_tr hF h2, by rw [show s v + (i + 1) = s v + i + 1 by omega, nI_succ (s v + i)]; rfl⟩
def an_learn (Z : lpZ) : Int32 := if Z.2.2.1.1 = 0 then -1 else nI (Z.2.2.1.2.1 Z.2.2.1.1)
def st_learn (Z : lpZ) : lpZ := if Z.2.2.1.1 = 0 then Z else (Z.2.2.1, Z.2)
def sp_X6_learn : lpS := fun as σ Q => match as with
  | [.inr (some (r, k))] => r = 1 ∧ k = 0 ∧ ∃ Z, lpP σ Z ∧ ∀ τ, lpP τ (st_learn Z) → lpFL σ τ → Q (some (an_learn Z)) τ
  | _ => False
set_option maxHeartbeats 4000000 in
set_option maxRecDepth 100000 in
theorem ct_X6_learn (l : Launch) (D : va_G) (cI cD : ClassId) : lp_Ct l D cI cD yX6_learn cX6_learn 2 (some .int) 6 sp_X6_learn := by
  refine lp_method flX6 pfX6 kcX6 [(54, some 4, 0, sp_X4_open), (99, some 4, 0, sp_X4_asks), (146, some 6, 0, sp_X6_clear), (149, some 6, 2, sp_X6_noteAsks)] false kX6_learn [21] rfl rfl (lp_rI rfl) flX6_ok pfX6_ok kcX6_ok kX6_learn_ok ⟨_, _, rfl, rfl⟩ (lp_cs1 (lp_mkCall lkX6_54 (ct_X4_open l D cI cD) (by omega)) (lp_cs1 (lp_mkCall lkX6_99 (ct_X4_asks l D cI cD) (by omega)) (lp_cs1 (lp_mkCall lkX6_146 (ct_X6_clear l D cI cD) (by omega)) (lp_cs1 (lp_mkCall lkX6_149 (ct_X6_noteAsks l D cI cD) (by omega)) lp_cs0)))) ?_
  intro as σ Q hok hs
  rcases as with _ | ⟨_ | _ | ⟨r, k⟩, _ | ⟨c, as⟩⟩ <;> try exact (hs : False).elim
  obtain ⟨rfl, rfl, ⟨L, RC, ⟨N, s, pg, wt⟩, PC⟩, hL, hq⟩ := hs
  have hVσ := hL.2.2.2.1
  have hn := hVσ.2.1
  unfold st_learn an_learn at hq
  dsimp only at hq hn
  refine ⟨by show 1 ≤ 2; omega, fun m pc L τ => pc = 21 ∧ 0 < N ∧ ∃ v, m + v = N ∧ v ≤ N ∧ lpP τ ((v, s, pg, wt), RC, (N, s, pg, wt), PC) ∧ lpFL σ τ ∧ L = [some (.inr (some (1, 0))), some (.inl (nI v))], ?_, ?_⟩
  · ((conv => whnf); (try dsimp only))
    rw [hVσ.1]
    refine ⟨fun q => ?_, fun q => ?_⟩ <;> ((conv => whnf); (try dsimp only))
    · have hz : 0 < N := Nat.pos_of_ne_zero (fun z => q (by dsimp only; rw [z]; rfl))
      refine ⟨rfl, rfl, _, hL, fun τ h1 h2 h3 => ?_⟩
      ((conv => whnf); (try dsimp only))
      refine ⟨N, rfl, hz, 0, rfl, Nat.zero_le _, ⟨⟨?_, ?_⟩, h1.2⟩, h2, rfl⟩
      · obtain ⟨a, b, c, d, e1, f⟩ := h1.1.1
        refine ⟨a, b, fun v hv => ?_, hVσ.2.2.2.1, fun v hv => absurd hv (Nat.not_lt_zero _), fun j hj => absurd hj (by show ¬ j < s 0; have : s 0 = 0 := hVσ.2.2.2.1; omega)⟩
        have hv : v ≤ 0 := hv
        obtain rfl : v = 0 := by omega
        rw [c 0 (Nat.le_refl _), d]
        show nI 0 = nI (s 0)
        rw [show s 0 = 0 from hVσ.2.2.2.1]
      · exact lp_Mach_eq h1.1.2 (fun j _ => rfl) (fun j _ w _ => rfl)
    · have hz : N = 0 := lp_inj (by omega) (by omega) q
      simp only [if_pos hz] at hq
      exact hq σ hL (FL_rf σ)
  · rintro m pc L' τ ⟨rfl, hN0, v, hm, hv, hLτ, hF, rfl⟩
    have hVτ := hLτ.2.2.2.1
    ((conv => whnf); (try dsimp only))
    rw [hVτ.1]
    refine ⟨fun h => ?_, fun h => ?_⟩ <;> ((conv => whnf); (try dsimp only))
    · rw [nI_leI (by dsimp only; omega) (by omega)] at h
      obtain rfl : v = N := by dsimp only at h; omega
      refine ⟨rfl, _, _, _, _, hLτ.1.1, ?_⟩
      ((conv => whnf); (try dsimp only))
      simp only [if_neg (show ¬ v = 0 by omega)] at hq
      exact hq τ hLτ hF
    · rw [nI_leI (by dsimp only; omega) (by omega)] at h
      dsimp only at h
      have ho := LP_open hLτ (show v < 60 by omega)
      refine ⟨rfl, _, _, _, _, hLτ.1.1, Or.inl ⟨by show v < 60; omega, ?_⟩⟩
      ((conv => whnf); (try dsimp only))
      refine ⟨rfl, rfl, rfl, rfl, ((v, s, pg, wt), (N, s, pg, wt), PC, RC), v, rfl, by show v < N; omega, ho.1, fun τ' h1 h2 => ?_⟩
      ((conv => whnf); (try dsimp only))
      exact ⟨N - (v + 1), by omega, rfl, hN0, v + 1, by omega, by omega, h1, FL_tr (FL_tr hF ho.2) h2, by rw [nI_succ v]; rfl⟩
