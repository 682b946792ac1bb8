/-! ===== the model: from, taking, late, part, waiting ===== -/
def lp_tk (P : Nat → Nat → Nat) (a T : Nat) : Nat → Nat := fun j => if a ≤ j ∧ P 5 j - P 3 j ≤ T then 1 else 0
theorem lp_tk_lt {P : Nat → Nat → Nat} {a T : Nat} : ∀ b, a ≤ b → lsum (lp_tk P a T) b + lsum (lp_lt P a T) b = b - a
  | 0, h => by
    show 0 + 0 = _
    omega
  | b + 1, h => by
    show lsum (lp_tk P a T) b + lp_tk P a T b + (lsum (lp_lt P a T) b + lp_lt P a T b) = b + 1 - a
    by_cases e1 : a ≤ b
    · have ih := lp_tk_lt (P := P) (a := a) (T := T) b e1
      unfold lp_tk lp_lt at *
      by_cases h1 : P 5 b - P 3 b ≤ T
      · rw [if_pos ⟨e1, h1⟩, if_neg (fun z => by omega)]; omega
      · rw [if_neg (fun z => h1 z.2), if_pos ⟨e1, by omega⟩]; omega
    · have z1 : lsum (lp_tk P a T) b = 0 := lsum_zero (fun i hi => if_neg (by omega))
      have z2 : lsum (lp_lt P a T) b = 0 := lp_lt_z (by omega)
      unfold lp_tk lp_lt at *
      rw [if_neg (fun z => e1 z.1), if_neg (fun z => e1 z.1)]
      omega
theorem lp_tk_le {P : Nat → Nat → Nat} {a T : Nat} : ∀ b, lsum (lp_tk P a T) b ≤ b
  | 0 => Nat.le_refl _
  | b + 1 => by
    have := lp_tk_le (P := P) (a := a) (T := T) b
    show lsum (lp_tk P a T) b + lp_tk P a T b ≤ b + 1
    have : lp_tk P a T b ≤ 1 := by unfold lp_tk; split <;> omega
    omega
def sp_X7_from : lpS := fun as σ Q => match as with
  | [.inr (some (r, k)), .inl x] => r = 30 ∧ k = 0 ∧ ∃ (M : lpLg) (P cm : Nat → Nat → Nat) (f : Nat), MDp σ M P cm ∧ x = nI f ∧ f < 60 ∧ ((f < M.1 ∧ Q (some (nI (M.2.1 M.1 - M.2.1 f))) σ) ∨ (M.1 ≤ f ∧ Q (some (nI 0)) σ))
  | _ => False
set_option maxHeartbeats 4000000 in
set_option maxRecDepth 100000 in
theorem ct_X7_from (l : Launch) (D : va_G) (cI cD : ClassId) : lp_Ct l D cI cD yX7_from cX7_from 4 (some .int) 0 sp_X7_from := by
  refine lp_method flX7 pfX7 kcX7 [] false kX7_from [4] rfl rfl (lp_rI rfl) flX7_ok pfX7_ok kcX7_ok kX7_from_ok ⟨_, _, rfl, rfl⟩ lp_cs0 ?_
  intro as σ Q hok hs
  rcases as with _ | ⟨_ | _ | ⟨r, k⟩, _ | ⟨x | _, _ | ⟨c, as⟩⟩⟩ <;> try exact (hs : False).elim
  obtain ⟨rfl, rfl, ⟨N, s, pg, wt⟩, P, cm, f, hP, rfl, hf, hq⟩ := hs
  obtain ⟨⟨p0, -⟩, p1, p2, hV, -⟩ := id hP
  dsimp only at p0 p1 p2 hV hq
  have hn := hV.1
  obtain ⟨Lab, hLab⟩ : ∃ Lab : Nat → Nat → lpL → lpM → Prop, Lab = fun m pc L τ => σ = τ ∧ pc = 4 ∧ ∃ v : Nat, m = 100 - v ∧ f ≤ v ∧ (v ≤ N ∨ v = f) ∧ L = [some (.inr (some (30, 0))), some (.inl (nI f)), some (.inl (nI (s v - s f))), some (.inl (nI v))] := ⟨_, rfl⟩
  refine ⟨by show 2 ≤ 4; omega, Lab, ?_, ?_⟩
  · ((conv => whnf); (try dsimp only))
    exact ⟨_, by rw [hLab]; exact ⟨rfl, rfl, f, rfl, Nat.le_refl _, Or.inr rfl, by rw [Nat.sub_self]; rfl⟩⟩
  · intro m pc L τ hh
    rw [hLab] at hh
    obtain ⟨rfl, rfl, v, rfl, hv, hv2, rfl⟩ := hh
    ((conv => whnf); (try dsimp only))
    rw [p0]
    refine ⟨fun h => ?_, fun h => ?_⟩ <;> ((conv => whnf); (try dsimp only))
    · rw [nI_leI (by omega) (by omega)] at h
      rcases hq with ⟨h1, hq⟩ | ⟨h1, hq⟩
      · obtain rfl : v = N := by omega
        exact hq
      · obtain rfl : v = f := by omega
        rw [Nat.sub_self]
        exact hq
    · rw [nI_leI (by omega) (by omega)] at h
      refine ⟨lp_vin (by omega) (by omega), ?_⟩
      rw [lp_clm (by omega), p1 v (by omega)]
      ((conv => whnf); (try dsimp only))
      have h1 := hV.2.2.1 v (by omega)
      have h2 := lpV0_le hV hv (show v ≤ N by omega)
      refine ⟨100 - (v + 1), by omega, ?_⟩
      rw [hLab]
      refine ⟨rfl, rfl, v + 1, rfl, by omega, by omega, ?_⟩
      rw [nI_add, show s v - s f + (s (v + 1) - s v) = s (v + 1) - s f by omega, nI_succ v]
      rfl
def sp_X7_taking : lpS := fun as σ Q => match as with
  | [.inr (some (r, k)), .inl x, .inl y] => r = 30 ∧ k = 0 ∧ ∃ (M : lpLg) (P cm : Nat → Nat → Nat) (T f : Nat), MDp σ M P cm ∧ x = nI T ∧ T < 2 ^ 31 ∧ y = nI f ∧ f < M.1 ∧ Q (some (nI (M.2.1 M.1 - M.2.1 f - lsum (lp_lt P (M.2.1 f) T) (M.2.1 M.1)))) σ
  | _ => False
set_option maxHeartbeats 4000000 in
set_option maxRecDepth 100000 in
theorem ct_X7_taking (l : Launch) (D : va_G) (cI cD : ClassId) : lp_Ct l D cI cD yX7_taking cX7_taking 6 (some .int) 0 sp_X7_taking := by
  refine lp_method flX7 pfX7 kcX7 [] false kX7_taking [5, 21] rfl rfl (lp_rI rfl) flX7_ok pfX7_ok kcX7_ok kX7_taking_ok ⟨_, _, rfl, rfl⟩ lp_cs0 ?_
  intro as σ Q hok hs
  rcases as with _ | ⟨_ | _ | ⟨r, k⟩, _ | ⟨x | _, _ | ⟨y | _, _ | ⟨c, as⟩⟩⟩⟩ <;> try exact (hs : False).elim
  obtain ⟨rfl, rfl, ⟨N, s, pg, wt⟩, P, cm, T, f, hP, rfl, hT, rfl, hf, hq⟩ := hs
  obtain ⟨⟨p0, -⟩, p1, p2, hV, -, hPF, -⟩ := id hP
  dsimp only at p0 p1 p2 hV hq hf hPF
  have hn := hV.1
  have hb := lpV0_1200 hV N (Nat.le_refl _)
  have hsf := lpV0_le hV (show f ≤ N by omega) (Nat.le_refl N)
  have hq : Q (some (nI (lsum (lp_tk P (s f) T) (s N)))) σ := by
    have := lp_tk_lt (P := P) (a := s f) (T := T) (s N) hsf
    rw [show lsum (lp_tk P (s f) T) (s N) = s N - s f - lsum (lp_lt P (s f) T) (s N) by omega]
    exact hq
  obtain ⟨Lab, hLab⟩ : ∃ Lab : Nat → Nat → lpL → lpM → Prop, Lab = fun m pc L τ => σ = τ ∧ ((pc = 5 ∧ ∃ (v : Nat) (x5 : Option lpV), m = (N - v) * 100 + 50 ∧ f ≤ v ∧ v ≤ N ∧ L = [some (.inr (some (30, 0))), some (.inl (nI T)), some (.inl (nI f)), some (.inl (nI (lsum (lp_tk P (s f) T) (s v)))), some (.inl (nI v)), x5]) ∨
    (pc = 21 ∧ ∃ (v i : Nat), m = (N - v) * 100 + (30 - i) ∧ f ≤ v ∧ v < N ∧ i ≤ s (v + 1) - s v ∧ L = [some (.inr (some (30, 0))), some (.inl (nI T)), some (.inl (nI f)), some (.inl (nI (lsum (lp_tk P (s f) T) (s v + i)))), some (.inl (nI v)), some (.inl (nI (20 * v + i)))])) := ⟨_, rfl⟩
  refine ⟨by show 3 ≤ 6; omega, Lab, ?_, ?_⟩
  · ((conv => whnf); (try dsimp only))
    refine ⟨(N - f) * 100 + 50, ?_⟩
    rw [hLab]
    refine ⟨rfl, Or.inl ⟨rfl, f, none, rfl, Nat.le_refl _, by omega, ?_⟩⟩
    rw [lsum_zero (f := lp_tk P (s f) T) (fun i hi => if_neg (by omega))]
    rfl
  · intro m pc L τ hh
    rw [hLab] at hh
    obtain ⟨rfl, ⟨rfl, v, x5, rfl, hfv, hv, rfl⟩ | ⟨rfl, v, i, rfl, hfv, hv, hi, rfl⟩⟩ := hh
    · ((conv => whnf); (try dsimp only))
      rw [p0]
      refine ⟨fun h => ?_, fun h => ?_⟩ <;> ((conv => whnf); (try dsimp only))
      · rw [nI_leI (by omega) (by omega)] at h
        obtain rfl : v = N := by omega
        exact hq
      · rw [nI_leI (by omega) (by omega)] at h
        refine ⟨(N - v) * 100 + (30 - 0), by omega, ?_⟩
        rw [hLab]
        refine ⟨rfl, Or.inr ⟨rfl, v, 0, rfl, hfv, by omega, by omega, ?_⟩⟩
        rw [show (Int8.ofInt 20).toInt32 * nI v = nI (20 * v) from pk_mul 20 v]
        rfl
    · have hsv := hV.2.2.1 v hv
      have hsn := lpV0_le hV (show v + 1 ≤ N by omega) (Nat.le_refl N)
      ((conv => whnf); (try dsimp only))
      refine ⟨lp_vin (by omega) (by omega), ?_⟩
      rw [lp_clm (by omega), p1 v hv]
      ((conv => whnf); (try dsimp only))
      rw [show (Int8.ofInt 20).toInt32 * nI v + nI (s (v + 1) - s v) = nI (20 * v + (s (v + 1) - s v)) from lp_ix]
      refine ⟨fun h => ?_, fun h => ?_⟩ <;> ((conv => whnf); (try dsimp only))
      · rw [nI_leI (by omega) (by omega)] at h
        obtain rfl : i = s (v + 1) - s v := by omega
        refine ⟨(N - (v + 1)) * 100 + 50, by omega, ?_⟩
        rw [hLab]
        refine ⟨rfl, Or.inl ⟨rfl, v + 1, some (.inl (nI (20 * v + (s (v + 1) - s v)))), rfl, by omega, by omega, ?_⟩⟩
        rw [nI_succ v, show s v + (s (v + 1) - s v) = s (v + 1) by omega]
        rfl
      · rw [nI_leI (by omega) (by omega)] at h
        obtain ⟨-, -, q3, -, q5, -⟩ := p2 v i hv (by omega)
        obtain ⟨f1, f2, f3, -⟩ := hPF.1 (s v + i) (by omega)
        refine ⟨lp_vin (by omega) (by omega), ?_⟩
        rw [lp_clm (by omega), q5]
        ((conv => whnf); (try dsimp only))
        refine ⟨lp_vin (by omega) (by omega), ?_⟩
        rw [lp_clm (by omega), q3]
        have hsf2 := lpV0_le hV hfv (show v ≤ N by omega)
        have step : ∀ b : Nat, lp_tk P (s f) T (s v + i) = b → lp_ex Lab ((N - v) * 100 + (30 - i)) 21 [some (.inr (some (30, 0))), some (.inl (nI T)), some (.inl (nI f)), some (.inl (nI (lsum (lp_tk P (s f) T) (s v + i)) + nI b)), some (.inl (nI v)), some (.inl (nI (20 * v + i) + Int32.ofInt 1))] σ := by
          intro b hb
          refine ⟨(N - v) * 100 + (30 - (i + 1)), by omega, ?_⟩
          rw [hLab]
          refine ⟨rfl, Or.inr ⟨rfl, v, i + 1, rfl, hfv, hv, by omega, ?_⟩⟩
          rw [show lsum (lp_tk P (s f) T) (s v + (i + 1)) = lsum (lp_tk P (s f) T) (s v + i) + lp_tk P (s f) T (s v + i) from rfl, hb, nI_add, show 20 * v + (i + 1) = 20 * v + i + 1 from rfl, nI_succ (20 * v + i)]
          rfl
        ((conv => whnf); (try dsimp only))
        rw [pk_sub (show P 3 (s v + i) ≤ P 5 (s v + i) by omega)]
        refine ⟨fun h2 => ?_, fun h2 => ?_⟩ <;> ((conv => whnf); (try dsimp only))
        · rw [nI_ltI (by omega) (by omega)] at h2
          exact step 0 (if_neg (by omega))
        · rw [nI_ltI (by omega) (by omega)] at h2
          exact step 1 (if_pos (by omega))
def sp_X7_late : lpS := fun as σ Q => match as with
  | [.inr (some (r, k)), .inl x, .inl y] => r = 30 ∧ k = 0 ∧ ∃ Z, lpD σ Z ∧ Q (some (an_late x y Z)) σ
  | _ => False
set_option maxHeartbeats 4000000 in
set_option maxRecDepth 100000 in
theorem ct_X7_late (l : Launch) (D : va_G) (cI cD : ClassId) : lp_Ct l D cI cD yX7_late cX7_late 3 (some .int) 1 sp_X7_late := by
  refine lp_method0 flX7 pfX7 kcX7 [(74, none, 3, sp_X7_in), (142, some 7, 1, sp_X7_from), (145, some 7, 2, sp_X7_taking)] false kX7_late rfl rfl (lp_rI rfl) flX7_ok pfX7_ok kcX7_ok kX7_late_ok ⟨_, _, rfl, rfl⟩ (lp_cs1 (lp_mkCall lkX7_74 (ct_X7_in l D cI cD) (by omega)) (lp_cs1 (lp_mkCall lkX7_142 (ct_X7_from l D cI cD) (by omega)) (lp_cs1 (lp_mkCall lkX7_145 (ct_X7_taking l D cI cD) (by omega)) lp_cs0))) ?_
  intro as σ Q hs
  rcases as with _ | ⟨_ | _ | ⟨r, k⟩, _ | ⟨x | _, _ | ⟨y | _, _ | ⟨c, as⟩⟩⟩⟩ <;> try exact (hs : False).elim
  obtain ⟨rfl, rfl, ⟨L, C, ⟨N, s, pg, wt⟩, P, cm⟩, hD, hq⟩ := hs
  have hP := hD.2.2
  dsimp only at hP
  have hV := hP.2.2.2.1
  dsimp only at hV
  have hn := hV.1
  unfold an_late at hq
  dsimp only at hq
  refine ⟨Nat.le_refl 3, ?_⟩
  ((conv => whnf); (try dsimp only))
  refine lp_upto (n := 1000000) (by decide) ?_
  by_cases hx : ir x 1000000
  rotate_left
  · rw [if_neg (fun z => hx z.1)] at hq
    refine Or.inr ⟨fun v hv e1 => hx (ir_of e1 hv (by omega)), ?_⟩
    ((conv => whnf); (try dsimp only))
    refine ⟨fun _ => ?_, fun q => absurd rfl q⟩
    ((conv => whnf); (try dsimp only))
    exact hq
  refine Or.inl ⟨tn x, hx.2, hx.1, ?_⟩
  ((conv => whnf); (try dsimp only))
  refine ⟨fun q => absurd q (by decide), fun _ => ?_⟩
  ((conv => whnf); (try dsimp only))
  rw [hP.1.1]
  refine lp_below (n := N) (by omega) (lp_belowR hn ?_)
  by_cases hy : 0 < N ∧ ir y (N - 1)
  rotate_left
  · rw [if_neg (fun z => hy z.2)] at hq
    refine Or.inr ⟨hy, ?_⟩
    ((conv => whnf); (try dsimp only))
    refine ⟨fun q => absurd rfl q, fun _ => ?_⟩
    ((conv => whnf); (try dsimp only))
    exact hq
  have hyN : tn y < N := by have := hy.2.2; omega
  rw [if_pos ⟨hx, hy⟩] at hq
  refine Or.inl ⟨hy, ?_⟩
  ((conv => whnf); (try dsimp only))
  refine ⟨fun _ => ?_, fun q => absurd q (by decide)⟩
  ((conv => whnf); (try dsimp only))
  refine ⟨rfl, rfl, _, _, _, tn y, hP, hy.2.1, by omega, Or.inl ⟨hyN, ?_⟩⟩
  ((conv => whnf); (try dsimp only))
  refine ⟨rfl, rfl, _, _, _, tn x, tn y, hP, hx.1, by have := hx.2; omega, hy.2.1, hyN, ?_⟩
  ((conv => whnf); (try dsimp only))
  have hle := lp_lt_le (P := P) (a := s (tn y)) (T := tn x) (s N) (lpV0_le hV (show tn y ≤ N by omega) (Nat.le_refl N))
  rw [pk_sub (by omega), show s N - s (tn y) - (s N - s (tn y) - lsum (lp_lt P (s (tn y)) (tn x)) (s N)) = lsum (lp_lt P (s (tn y)) (tn x)) (s N) by omega]
  exact hq
def sp_X7_part : lpS := fun as σ Q => match as with
  | [.inr (some (r, k)), .inl x, .inl y] => r = 30 ∧ k = 0 ∧ ∃ Z, lpD σ Z ∧ Q (some (an_part x y Z)) σ
  | _ => False
set_option maxHeartbeats 4000000 in
set_option maxRecDepth 100000 in
theorem ct_X7_part (l : Launch) (D : va_G) (cI cD : ClassId) : lp_Ct l D cI cD yX7_part cX7_part 7 (some .int) 1 sp_X7_part := by
  refine lp_method flX7 pfX7 kcX7 [(74, none, 3, sp_X7_in), (142, some 7, 1, sp_X7_from), (145, some 7, 2, sp_X7_taking)] false kX7_part [43, 63] rfl rfl (lp_rI rfl) flX7_ok pfX7_ok kcX7_ok kX7_part_ok ⟨_, _, rfl, rfl⟩ (lp_cs1 (lp_mkCall lkX7_74 (ct_X7_in l D cI cD) (by omega)) (lp_cs1 (lp_mkCall lkX7_142 (ct_X7_from l D cI cD) (by omega)) (lp_cs1 (lp_mkCall lkX7_145 (ct_X7_taking l D cI cD) (by omega)) lp_cs0))) ?_
  intro as σ Q hok hs
  rcases as with _ | ⟨_ | _ | ⟨r, k⟩, _ | ⟨x | _, _ | ⟨y | _, _ | ⟨c, as⟩⟩⟩⟩ <;> try exact (hs : False).elim
  obtain ⟨rfl, rfl, ⟨L0, C, ⟨N, s, pg, wt⟩, P, cm⟩, hD, hq⟩ := hs
  have hP := hD.2.2
  dsimp only at hP
  have hV := hP.2.2.2.1
  have hPF := hP.2.2.2.2.2.1
  dsimp only at hV hPF
  have hn := hV.1
  have hb := lpV0_1200 hV N (Nat.le_refl _)
  unfold an_part at hq
  dsimp only at hq
  obtain ⟨th, hth⟩ : ∃ th, th = tn x := ⟨_, rfl⟩
  obtain ⟨f, hf⟩ : ∃ f, f = tn y := ⟨_, rfl⟩
  obtain ⟨Lab, hLab⟩ : ∃ Lab : Nat → Nat → lpL → lpM → Prop, Lab = fun m pc L τ => σ = τ ∧ (ir1 x 1000 ∧ (0 < N ∧ ir y (N - 1)) ∧ s f < s N) ∧ ((pc = 43 ∧ ∃ (j : Nat) (x6 : Option lpV), m = 2 ^ 20 + (30 - j) ∧ j ≤ 18 ∧ L = [some (.inr (some (30, 0))), some (.inl x), some (.inl y), some (.inl (nI (s N - s f))), some (.inl (nI 0)), some (.inl (nI (2 ^ j))), x6]) ∨
    (pc = 63 ∧ ∃ (lo hi : Nat) (x6 : Option lpV), m = hi - lo ∧ lo ≤ hi ∧ hi ≤ 2 ^ 18 ∧ (∀ t, t < lo → ¬ lp_prt P (s f) (s N) th t) ∧ lp_prt P (s f) (s N) th hi ∧ L = [some (.inr (some (30, 0))), some (.inl x), some (.inl y), some (.inl (nI (s N - s f))), some (.inl (nI lo)), some (.inl (nI hi)), x6])) := ⟨_, rfl⟩
  refine ⟨by show 3 ≤ 7; omega, Lab, ?_, ?_⟩
  · ((conv => whnf); (try dsimp only))
    refine lp_upto1 (n := 1000) (by decide) ?_
    by_cases hx : ir1 x 1000
    rotate_left
    · rw [if_neg (fun z => hx z.1)] at hq
      refine Or.inr ⟨fun v h1 hv e1 => hx (ir1_of e1 h1 hv (by omega)), ?_⟩
      ((conv => whnf); (try dsimp only))
      refine ⟨fun _ => ?_, fun q => absurd rfl q⟩
      ((conv => whnf); (try dsimp only))
      exact hq
    refine Or.inl ⟨tn x, hx.2.1, hx.2.2, hx.1, ?_⟩
    ((conv => whnf); (try dsimp only))
    refine ⟨fun q => absurd q (by decide), fun _ => ?_⟩
    ((conv => whnf); (try dsimp only))
    refine lp_upto (n := 59) (by decide) ?_
    by_cases hy0 : ir y 59
    rotate_left
    · rw [if_neg (fun z => hy0 ⟨z.2.1.2.1, by have := z.2.1.2.2; omega⟩)] at hq
      refine Or.inr ⟨fun v hv e1 => hy0 (ir_of e1 hv (by omega)), ?_⟩
      ((conv => whnf); (try dsimp only))
      refine ⟨fun _ => ?_, fun q => absurd rfl q⟩
      ((conv => whnf); (try dsimp only))
      exact hq
    have hy59 := hy0.2
    refine Or.inl ⟨tn y, hy0.2, hy0.1, ?_⟩
    ((conv => whnf); (try dsimp only))
    refine ⟨fun q => absurd q (by decide), fun _ => ?_⟩
    ((conv => whnf); (try dsimp only))
    refine ⟨rfl, rfl, _, _, _, tn y, hP, hy0.1, by omega, ?_⟩
    by_cases hyN : tn y < N
    rotate_left
    · rw [if_neg (fun z => hyN (by have := z.2.1.2.2; have := z.2.1.1; omega))] at hq
      refine Or.inr ⟨by show N ≤ tn y; omega, ?_⟩
      ((conv => whnf); (try dsimp only))
      refine ⟨fun q => absurd rfl q, fun _ => ?_⟩
      ((conv => whnf); (try dsimp only))
      exact hq
    have hsf := lpV0_le hV (show tn y ≤ N by omega) (Nat.le_refl N)
    refine Or.inl ⟨hyN, ?_⟩
    ((conv => whnf); (try dsimp only))
    refine ⟨fun q => ?_, fun q => ?_⟩ <;> ((conv => whnf); (try dsimp only))
    rotate_left
    · have hz : s N - s (tn y) = 0 := lp_inj (by omega) (by omega) q
      rw [if_neg (fun z => by omega)] at hq
      exact hq
    have hz : ¬ s N - s (tn y) = 0 := fun z => q (by rw [z]; rfl)
    refine ⟨rfl, rfl, _, _, _, tn y, hP, hy0.1, by omega, Or.inl ⟨hyN, ?_⟩⟩
    ((conv => whnf); (try dsimp only))
    refine ⟨2 ^ 20 + (30 - 0), ?_⟩
    rw [hLab]
    refine ⟨rfl, ⟨hx, ⟨by omega, hy0.1, by omega⟩, by rw [hf]; omega⟩, Or.inl ⟨rfl, 0, none, rfl, by omega, ?_⟩⟩
    rw [hf]
    rfl
  · intro m pc L τ hh
    rw [hLab] at hh
    obtain ⟨rfl, hok, hcase⟩ := hh
    have hyN : f < N := by have := hok.2.1.2.2; have := hok.2.1.1; omega
    have hsf := hok.2.2
    have hx1 := hok.1.2.1
    have hx2 := hok.1.2.2
    rw [← hth] at hx1 hx2
    replace hq : Q (some (nI (lp_pt P (s f) (s N) th))) σ := by
      rw [if_pos (by rw [← hf]; exact hok), ← hth, ← hf] at hq
      exact hq
    have hxe := hok.1.1
    have hye := hok.2.1.2.1
    rw [← hth] at hxe
    rw [← hf] at hye
    have hle : ∀ T, lsum (lp_lt P (s f) T) (s N) ≤ s N - s f := fun T => lp_lt_le (s N) (by omega)
    rcases hcase with ⟨rfl, j, x6, rfl, hj, rfl⟩ | ⟨rfl, lo, hi, x6, rfl, hlo, hhi, hbl, hpr, rfl⟩
    · have h2j : 2 ^ j ≤ 2 ^ 18 := Nat.pow_le_pow_right (by omega) hj
      have h2p : 1 ≤ 2 ^ j := Nat.one_le_two_pow
      ((conv => whnf); (try dsimp only))
      refine ⟨rfl, rfl, _, _, _, 2 ^ j, f, hP, rfl, by omega, hye, hyN, ?_⟩
      ((conv => whnf); (try dsimp only))
      refine ⟨fun h => ?_, fun h => ?_⟩ <;> ((conv => whnf); (try dsimp only))
      · rw [nI_leI (by omega) (by omega)] at h
        have h0 : lsum (lp_lt P (s f) (2 ^ j)) (s N) = 0 := by have := hle (2 ^ j); omega
        refine ⟨2 ^ j - 0, by omega, ?_⟩
        rw [hLab]
        refine ⟨rfl, hok, Or.inr ⟨rfl, 0, 2 ^ j, x6, rfl, by omega, h2j, fun t ht => absurd ht (Nat.not_lt_zero _), ?_, rfl⟩⟩
        unfold lp_prt
        rw [h0, Nat.sub_zero, Nat.mul_comm]
        exact Nat.mul_le_mul_left _ hx2
      · rw [nI_leI (by omega) (by omega)] at h
        have hj18 : j < 18 := by
          rcases Nat.lt_or_ge j 18 with z | z
          · exact z
          · exfalso
            obtain rfl : j = 18 := by omega
            have h0 : lsum (lp_lt P (s f) (2 ^ 18)) (s N) = 0 := lp_lt_all (fun i hi => by have := hPF.1 i hi; omega)
            apply h
            rw [h0]
            omega
        refine ⟨2 ^ 20 + (30 - (j + 1)), by omega, ?_⟩
        rw [hLab]
        refine ⟨rfl, hok, Or.inl ⟨rfl, j + 1, x6, rfl, by omega, ?_⟩⟩
        rw [Nat.pow_succ, ← pk_mul]
        rfl
    · have h18 : (2 : Nat) ^ 18 = 262144 := by decide
      rw [h18] at hhi
      ((conv => whnf); (try dsimp only))
      refine ⟨fun h => ?_, fun h => ?_⟩ <;> ((conv => whnf); (try dsimp only))
      · rw [nI_leI (by omega) (by omega)] at h
        obtain rfl : lo = hi := by omega
        rcases lo with _ | t
        · exfalso
          have h0 := lp_lt_none (P := P) (a := s f) (b := s N) (by omega) (fun i hi => by have := hPF.1 i hi; omega)
          unfold lp_prt at hpr
          rw [h0, Nat.sub_self, Nat.zero_mul] at hpr
          have : 0 < th * (s N - s f) := Nat.mul_pos (by omega) (by omega)
          omega
        · rw [lp_pt_eq (hbl t (by omega)) hpr] at hq
          exact hq
      · rw [nI_leI (by omega) (by omega)] at h
        refine ⟨by decide, ?_⟩
        rw [nI_add, show nI (lo + hi) / Int32.ofInt 2 = nI ((lo + hi) / 2) from pk_div (d := 2) (by omega) (by omega) (by omega)]
        ((conv => whnf); (try dsimp only))
        refine ⟨rfl, rfl, _, _, _, (lo + hi) / 2, f, hP, rfl, by omega, hye, hyN, ?_⟩
        ((conv => whnf); (try dsimp only))
        have hl2 := hle ((lo + hi) / 2)
        rw [hxe, pk_mul, show (Int16.ofInt 1000).toInt32 * nI (s N - s f - lsum (lp_lt P (s f) ((lo + hi) / 2)) (s N)) = nI ((s N - s f - lsum (lp_lt P (s f) ((lo + hi) / 2)) (s N)) * 1000) from by rw [Nat.mul_comm]; exact pk_mul 1000 _]
        have hm1 : th * (s N - s f) ≤ 1000 * 1200 := Nat.mul_le_mul hx2 (by omega)
        refine ⟨fun h2 => ?_, fun h2 => ?_⟩ <;> ((conv => whnf); (try dsimp only))
        · rw [nI_ltI (by omega) (by omega)] at h2
          refine ⟨hi - ((lo + hi) / 2 + 1), by omega, ?_⟩
          rw [hLab]
          refine ⟨rfl, hok, Or.inr ⟨rfl, (lo + hi) / 2 + 1, hi, some (.inl (nI ((lo + hi) / 2))), rfl, by omega, by omega, fun t ht hpt => ?_, hpr, ?_⟩⟩
          · have := lp_prt_mono (show t ≤ (lo + hi) / 2 by omega) hpt
            unfold lp_prt at this
            omega
          · rw [nI_succ ((lo + hi) / 2), ← hxe]
            rfl
        · rw [nI_ltI (by omega) (by omega)] at h2
          refine ⟨(lo + hi) / 2 - lo, by omega, ?_⟩
          rw [hLab]
          refine ⟨rfl, hok, Or.inr ⟨rfl, lo, (lo + hi) / 2, some (.inl (nI ((lo + hi) / 2))), rfl, by omega, by omega, hbl, by unfold lp_prt; omega, ?_⟩⟩
          rw [← hxe]
          rfl
def sp_X7_waitingAt : lpS := fun as σ Q => match as with
  | [.inr (some (r, k)), .inl x] => r = 30 ∧ k = 0 ∧ ∃ (M : lpLg) (P cm : Nat → Nat → Nat) (T : Nat), MDp σ M P cm ∧ x = nI T ∧ T < 2 ^ 31 ∧ Q (some (nI (lsum (lp_wa P T) (M.2.1 M.1)))) σ
  | _ => False
set_option maxHeartbeats 4000000 in
set_option maxRecDepth 100000 in
theorem ct_X7_waitingAt (l : Launch) (D : va_G) (cI cD : ClassId) : lp_Ct l D cI cD yX7_waitingAt cX7_waitingAt 5 (some .int) 0 sp_X7_waitingAt := by
  refine lp_method flX7 pfX7 kcX7 [] false kX7_waitingAt [4, 18] rfl rfl (lp_rI rfl) flX7_ok pfX7_ok kcX7_ok kX7_waitingAt_ok ⟨_, _, rfl, rfl⟩ lp_cs0 ?_
  intro as σ Q hok hs
  rcases as with _ | ⟨_ | _ | ⟨r, k⟩, _ | ⟨x | _, _ | ⟨c, as⟩⟩⟩ <;> try exact (hs : False).elim
  obtain ⟨rfl, rfl, ⟨N, s, pg, wt⟩, P, cm, T, hP, rfl, hT, hq⟩ := hs
  obtain ⟨⟨p0, -⟩, p1, p2, hV, -, hPF, -⟩ := id hP
  dsimp only at p0 p1 p2 hV hq hPF
  have hn := hV.1
  have hb := lpV0_1200 hV N (Nat.le_refl _)
  obtain ⟨Lab, hLab⟩ : ∃ Lab : Nat → Nat → lpL → lpM → Prop, Lab = fun m pc L τ => σ = τ ∧ ((pc = 4 ∧ ∃ (v : Nat) (x5 : Option lpV), m = (N - v) * 100 + 50 ∧ v ≤ N ∧ L = [some (.inr (some (30, 0))), some (.inl (nI T)), some (.inl (nI (lsum (lp_wa P T) (s v)))), some (.inl (nI v)), x5]) ∨
    (pc = 18 ∧ ∃ (v i : Nat), m = (N - v) * 100 + (30 - i) ∧ v < N ∧ i ≤ s (v + 1) - s v ∧ L = [some (.inr (some (30, 0))), some (.inl (nI T)), some (.inl (nI (lsum (lp_wa P T) (s v + i)))), some (.inl (nI v)), some (.inl (nI (20 * v + i)))])) := ⟨_, rfl⟩
  refine ⟨by show 2 ≤ 5; omega, Lab, ?_, ?_⟩
  · ((conv => whnf); (try dsimp only))
    refine ⟨(N - 0) * 100 + 50, ?_⟩
    rw [hLab]
    refine ⟨rfl, Or.inl ⟨rfl, 0, none, rfl, by omega, ?_⟩⟩
    rw [hV.2.1]
    rfl
  · intro m pc L τ hh
    rw [hLab] at hh
    obtain ⟨rfl, ⟨rfl, v, x5, rfl, hv, rfl⟩ | ⟨rfl, v, i, rfl, hv, hi, rfl⟩⟩ := hh
    · ((conv => whnf); (try dsimp only))
      rw [p0]
      refine ⟨fun h => ?_, fun h => ?_⟩ <;> ((conv => whnf); (try dsimp only))
      · rw [nI_leI (by omega) (by omega)] at h
        obtain rfl : v = N := by omega
        exact hq
      · rw [nI_leI (by omega) (by omega)] at h
        refine ⟨(N - v) * 100 + (30 - 0), by omega, ?_⟩
        rw [hLab]
        refine ⟨rfl, Or.inr ⟨rfl, v, 0, rfl, by omega, by omega, ?_⟩⟩
        rw [show (Int8.ofInt 20).toInt32 * nI v = nI (20 * v) from pk_mul 20 v]
        rfl
    · have hsv := hV.2.2.1 v hv
      have hsn := lpV0_le hV (show v + 1 ≤ N by omega) (Nat.le_refl N)
      ((conv => whnf); (try dsimp only))
      refine ⟨lp_vin (by omega) (by omega), ?_⟩
      rw [lp_clm (by omega), p1 v hv]
      ((conv => whnf); (try dsimp only))
      rw [show (Int8.ofInt 20).toInt32 * nI v + nI (s (v + 1) - s v) = nI (20 * v + (s (v + 1) - s v)) from lp_ix]
      refine ⟨fun h => ?_, fun h => ?_⟩ <;> ((conv => whnf); (try dsimp only))
      · rw [nI_leI (by omega) (by omega)] at h
        obtain rfl : i = s (v + 1) - s v := by omega
        refine ⟨(N - (v + 1)) * 100 + 50, by omega, ?_⟩
        rw [hLab]
        refine ⟨rfl, Or.inl ⟨rfl, v + 1, some (.inl (nI (20 * v + (s (v + 1) - s v)))), rfl, by omega, ?_⟩⟩
        rw [nI_succ v, show s v + (s (v + 1) - s v) = s (v + 1) by omega]
        rfl
      · rw [nI_leI (by omega) (by omega)] at h
        obtain ⟨-, -, q3, q4, -, -⟩ := p2 v i hv (by omega)
        obtain ⟨f1, f2, f3, -⟩ := hPF.1 (s v + i) (by omega)
        refine ⟨lp_vin (by omega) (by omega), ?_⟩
        rw [lp_clm (by omega), q3]
        have step : ∀ b : Nat, lp_wa P T (s v + i) = b → lp_ex Lab ((N - v) * 100 + (30 - i)) 18 [some (.inr (some (30, 0))), some (.inl (nI T)), some (.inl (nI (lsum (lp_wa P T) (s v + i)) + nI b)), some (.inl (nI v)), some (.inl (nI (20 * v + i) + Int32.ofInt 1))] σ := by
          intro b hb
          refine ⟨(N - v) * 100 + (30 - (i + 1)), by omega, ?_⟩
          rw [hLab]
          refine ⟨rfl, Or.inr ⟨rfl, v, i + 1, rfl, hv, by omega, ?_⟩⟩
          rw [show lsum (lp_wa P T) (s v + (i + 1)) = lsum (lp_wa P T) (s v + i) + lp_wa P T (s v + i) from rfl, hb, nI_add, show 20 * v + (i + 1) = 20 * v + i + 1 from rfl, nI_succ (20 * v + i)]
          rfl
        ((conv => whnf); (try dsimp only))
        refine ⟨fun h2 => ?_, fun h2 => ?_⟩ <;> ((conv => whnf); (try dsimp only))
        · rw [nI_ltI (by omega) (by omega)] at h2
          exact step 0 (if_neg (by omega))
        · rw [nI_ltI (by omega) (by omega)] at h2
          refine ⟨lp_vin (by omega) (by omega), ?_⟩
          rw [lp_clm (by omega), q4]
          ((conv => whnf); (try dsimp only))
          refine ⟨fun h3 => ?_, fun h3 => ?_⟩ <;> ((conv => whnf); (try dsimp only))
          · rw [nI_leI (by omega) (by omega)] at h3
            exact step 0 (if_neg (by omega))
          · rw [nI_leI (by omega) (by omega)] at h3
            exact step 1 (if_pos (by omega))
def sp_X7_waiting : lpS := fun as σ Q => match as with
  | [.inr (some (r, k)), .inl x] => r = 30 ∧ k = 0 ∧ ∃ Z, lpD σ Z ∧ Q (some (an_waiting x Z)) σ
  | _ => False
set_option maxHeartbeats 4000000 in
set_option maxRecDepth 100000 in
theorem ct_X7_waiting (l : Launch) (D : va_G) (cI cD : ClassId) : lp_Ct l D cI cD yX7_waiting cX7_waiting 2 (some .int) 1 sp_X7_waiting := by
  refine lp_method0 flX7 pfX7 kcX7 [(74, none, 3, sp_X7_in), (149, some 7, 1, sp_X7_waitingAt)] false kX7_waiting rfl rfl (lp_rI rfl) flX7_ok pfX7_ok kcX7_ok kX7_waiting_ok ⟨_, _, rfl, rfl⟩ (lp_cs1 (lp_mkCall lkX7_74 (ct_X7_in l D cI cD) (by omega)) (lp_cs1 (lp_mkCall lkX7_149 (ct_X7_waitingAt l D cI cD) (by omega)) lp_cs0)) ?_
  intro as σ Q hs
  rcases as with _ | ⟨_ | _ | ⟨r, k⟩, _ | ⟨x | _, _ | ⟨c, as⟩⟩⟩ <;> try exact (hs : False).elim
  obtain ⟨rfl, rfl, ⟨L, C, ⟨N, s, pg, wt⟩, P, cm⟩, hD, hq⟩ := hs
  have hP := hD.2.2
  dsimp only at hP
  have hn : N ≤ 60 := hP.2.2.2.1.1
  unfold an_waiting at hq
  dsimp only at hq
  refine ⟨Nat.le_refl 2, ?_⟩
  ((conv => whnf); (try dsimp only))
  refine lp_upto (n := 1000000) (by decide) ?_
  by_cases hx : ir x 1000000
  rotate_left
  · rw [if_neg (fun z => hx z.1)] at hq
    refine Or.inr ⟨fun v hv e1 => hx (ir_of e1 hv (by omega)), ?_⟩
    ((conv => whnf); (try dsimp only))
    refine ⟨fun _ => ?_, fun q => absurd rfl q⟩
    ((conv => whnf); (try dsimp only))
    exact hq
  refine Or.inl ⟨tn x, hx.2, hx.1, ?_⟩
  ((conv => whnf); (try dsimp only))
  refine ⟨fun q => absurd q (by decide), fun _ => ?_⟩
  ((conv => whnf); (try dsimp only))
  rw [hP.1.1]
  refine ⟨fun q => ?_, fun q => ?_⟩ <;> ((conv => whnf); (try dsimp only))
  · have hz : N = 0 := by
      rcases Nat.eq_zero_or_pos N with z | z
      · exact z
      · exact absurd q (nI_nle z (by omega))
    rw [if_neg (fun z => by omega)] at hq
    exact hq
  · have hz : 0 < N := by
      rcases Nat.eq_zero_or_pos N with z | z
      · subst z; exact absurd (show nI 0 ≤ 0 by decide) q
      · exact z
    rw [if_pos ⟨hx, hz⟩] at hq
    refine ⟨rfl, rfl, _, _, _, tn x, hP, hx.1, by have := hx.2; omega, ?_⟩
    ((conv => whnf); (try dsimp only))
    exact hq
