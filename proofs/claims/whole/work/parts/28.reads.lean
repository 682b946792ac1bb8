/-! ===== Press: what is read of it ===== -/
def lp_Done (σ : lpM) (m : Nat) (P : Nat → Nat → Nat) : Prop := ∀ sl, sl < m → (σ 19 0 sl = nI (P 3 sl) ∧ σ 20 0 sl = nI (P 4 sl) ∧ σ 21 0 sl = nI (P 5 sl) ∧ σ 22 0 sl = nI (P 6 sl)) ∧ P 3 sl ≤ P 4 sl ∧ P 4 sl < P 5 sl ∧ P 5 sl < 2 ^ 18 ∧ P 6 sl < 8
theorem lp_ti {x : Int32} {c : Nat} (hc : c < 2 ^ 31) : x.toInt = (c : Int) ↔ x = nI c := by
  rw [← nI_toInt hc]
  exact Int32.toInt_inj
/-- a row of six answers by a number -/
def lp_tv (a0 a1 a2 a3 a4 a5 : Nat) (y : Int32) : Int32 := if y = nI 0 then nI a0 else if y = nI 1 then nI a1 else if y = nI 2 then nI a2 else if y = nI 3 then nI a3 else if y = nI 4 then nI a4 else if y = nI 5 then nI a5 else -1
theorem lp_tv_out {a0 a1 a2 a3 a4 a5 : Nat} {y : Int32} (h : y.toInt < 0 ∨ 5 < y.toInt) : lp_tv a0 a1 a2 a3 a4 a5 y = -1 := by
  have k : ∀ c : Nat, c < 6 → y ≠ nI c := fun c hc e => by
    have := (lp_ti (x := y) (c := c) (by omega)).mpr e
    omega
  simp [lp_tv, k 0 (by omega), k 1 (by omega), k 2 (by omega), k 3 (by omega), k 4 (by omega), k 5 (by omega)]
def sp_X3_tell : lpS := fun as σ Q => match as with
  | [.inr (some (r, k)), .inl x, .inl y] => r = 18 ∧ k = 0 ∧ ∃ (n : Nat) (s pg wt : Nat → Nat) (P : Nat → Nat → Nat), lp_Vis σ 1 n s pg wt ∧ lp_Done σ (s n) P ∧ ((∃ j, j < s n ∧ x = nI j ∧ Q (some (lp_tv (pg j) (wt j) (P 3 j) (P 4 j) (P 5 j) (P 6 j) y)) σ) ∨ ((∀ j, j < s n → x ≠ nI j) ∧ Q (some (-1)) σ))
  | _ => False
set_option maxHeartbeats 4000000 in
set_option maxRecDepth 100000 in
theorem ct_X3_tell (l : Launch) (D : va_G) (cI cD : ClassId) : lp_Ct l D cI cD yX3_tell cX3_tell 3 (some .int) 2 sp_X3_tell := by
  refine lp_method0 flX3 pfX3 kcX3 [(44, some 4, 0, sp_X4_asks), (51, some 4, 1, sp_X4_pageAt), (55, none, 3, sp_X6_isWithin), (96, some 4, 1, sp_X4_waitAt)] false kX3_tell rfl rfl (lp_rI rfl) flX3_ok pfX3_ok kcX3_ok kX3_tell_ok ⟨_, _, rfl, rfl⟩ (lp_cs1 (lp_mkCall lkX3_44 (ct_X4_asks l D cI cD) (by omega)) (lp_cs1 (lp_mkCall lkX3_51 (ct_X4_pageAt l D cI cD) (by omega)) (lp_cs1 (lp_mkCall lkX3_55 (ct_X6_isWithin l D cI cD) (by omega)) (lp_cs1 (lp_mkCall lkX3_96 (ct_X4_waitAt l D cI cD) (by omega)) lp_cs0)))) ?_
  intro as σ Q hs
  rcases as with _ | ⟨_ | _ | ⟨r, k⟩, _ | ⟨x | _, _ | ⟨y | _, _ | ⟨c, as⟩⟩⟩⟩ <;> try exact (hs : False).elim
  obtain ⟨rfl, rfl, n, s, pg, wt, P, hV, hD, hq⟩ := hs
  refine ⟨Nat.le_refl 3, ?_⟩
  have hb := lp_Vis_bd hV
  ((conv => whnf); (try dsimp only))
  refine ⟨rfl, n, s, pg, wt, hV, ?_⟩
  ((conv => whnf); (try dsimp only))
  refine lp_below (by omega) ?_
  rcases hq with ⟨j, h1, rfl, hq⟩ | ⟨h1, hq⟩
  rotate_left
  · refine Or.inr ⟨h1, ?_⟩
    ((conv => whnf); (try dsimp only))
    refine ⟨fun z => absurd rfl z, fun _ => ?_⟩
    ((conv => whnf); (try dsimp only))
    exact hq
  refine Or.inl ⟨j, h1, rfl, ?_⟩
  ((conv => whnf); (try dsimp only))
  refine ⟨fun _ => ?_, fun z => absurd z (by decide)⟩
  obtain ⟨⟨d1, d2, d3, d4⟩, -⟩ := hD j h1
  ((conv => whnf); (try dsimp only))
  refine ⟨fun z => ?_, fun z => ?_, fun z => ?_, fun z => ?_, fun z => ?_, fun z => ?_, fun z => ?_, trivial⟩ <;> ((conv => whnf); (try dsimp only))
  · rw [lp_tv_out z] at hq
    exact hq
  · have z : y = nI 0 := (lp_ti (c := 0) (by omega)).mp z
    subst z
    exact ⟨rfl, n, s, pg, wt, hV, Or.inl ⟨j, h1, rfl, hq⟩⟩
  · have z : y = nI 1 := (lp_ti (c := 1) (by omega)).mp z
    subst z
    exact ⟨rfl, n, s, pg, wt, hV, Or.inl ⟨j, h1, rfl, hq⟩⟩
  · have z : y = nI 2 := (lp_ti (c := 2) (by omega)).mp z
    subst z
    refine ⟨lp_vin (by omega) (by omega), ?_⟩
    rw [lp_clm (by omega), d1]
    exact hq
  · have z : y = nI 3 := (lp_ti (c := 3) (by omega)).mp z
    subst z
    refine ⟨lp_vin (by omega) (by omega), ?_⟩
    rw [lp_clm (by omega), d2]
    exact hq
  · have z : y = nI 4 := (lp_ti (c := 4) (by omega)).mp z
    subst z
    refine ⟨lp_vin (by omega) (by omega), ?_⟩
    rw [lp_clm (by omega), d3]
    exact hq
  · have z : y = nI 5 := (lp_ti (c := 5) (by omega)).mp z
    subst z
    refine ⟨lp_vin (by omega) (by omega), ?_⟩
    rw [lp_clm (by omega), d4]
    exact hq
def lp_lt (P : Nat → Nat → Nat) (a T : Nat) : Nat → Nat := fun j => if a ≤ j ∧ T < P 5 j - P 3 j then 1 else 0
theorem lp_lt_z {P : Nat → Nat → Nat} {a T b : Nat} (h : b ≤ a) : lsum (lp_lt P a T) b = 0 := lsum_zero (fun i hi => if_neg (by omega))
theorem lp_lt_le {P : Nat → Nat → Nat} {a T : Nat} : ∀ n, a ≤ n → lsum (lp_lt P a T) n ≤ n - a
  | 0, h => by simp [lsum]
  | n + 1, h => by
    show lsum (lp_lt P a T) n + lp_lt P a T n ≤ n + 1 - a
    by_cases e : a = n + 1
    · subst e
      rw [lp_lt_z (by omega), show lp_lt P (n + 1) T n = 0 from if_neg (by omega)]
      omega
    · have := lp_lt_le (P := P) (a := a) (T := T) n (by omega)
      have : lp_lt P a T n ≤ 1 := by unfold lp_lt; split <;> omega
      omega
def sp_X3_longerThan : lpS := fun as σ Q => match as with
  | [.inr (some (r, k)), .inl x, .inl y] => r = 18 ∧ k = 0 ∧ ∃ (n T f : Nat) (s pg wt : Nat → Nat) (P : Nat → Nat → Nat), lp_Vis σ 1 n s pg wt ∧ lp_Done σ (s n) P ∧ x = nI T ∧ T < 2 ^ 31 ∧ y = nI f ∧ f < n ∧ Q (some (nI (lsum (lp_lt P (s f) T) (s n)))) σ
  | _ => False
set_option maxHeartbeats 4000000 in
set_option maxRecDepth 100000 in
theorem ct_X3_longerThan (l : Launch) (D : va_G) (cI cD : ClassId) : lp_Ct l D cI cD yX3_longerThan cX3_longerThan 5 (some .int) 3 sp_X3_longerThan := by
  refine lp_method flX3 pfX3 kcX3 [(44, some 4, 0, sp_X4_asks), (93, some 4, 1, sp_X4_startOf)] false kX3_longerThan [12] rfl rfl (lp_rI rfl) flX3_ok pfX3_ok kcX3_ok kX3_longerThan_ok ⟨_, _, rfl, rfl⟩ (lp_cs1 (lp_mkCall lkX3_44 (ct_X4_asks l D cI cD) (by omega)) (lp_cs1 (lp_mkCall lkX3_93 (ct_X4_startOf l D cI cD) (by omega)) lp_cs0)) ?_
  intro as σ Q hok hs
  rcases as with _ | ⟨_ | _ | ⟨r, k⟩, _ | ⟨x | _, _ | ⟨y | _, _ | ⟨c, as⟩⟩⟩⟩ <;> try exact (hs : False).elim
  obtain ⟨rfl, rfl, n, T, f, s, pg, wt, P, hV, hD, rfl, hT, rfl, hf, hq⟩ := hs
  have hb := lp_Vis_bd hV
  have hsf := lp_Vis_sn hV (v := f) (by omega)
  refine ⟨by show 3 ≤ 5; omega, fun m pc L τ => pc = 12 ∧ ∃ i, m + i = s n ∧ s f ≤ i ∧ i ≤ s n ∧ σ = τ ∧ L = [some (.inr (some (18, 0))), some (.inl (nI T)), some (.inl (nI f)), some (.inl (nI (lsum (lp_lt P (s f) T) i))), some (.inl (nI i))], ?_, ?_⟩
  · ((conv => whnf); (try dsimp only))
    refine ⟨rfl, n, s, pg, wt, hV, Or.inl ⟨f, hf, rfl, ?_⟩⟩
    ((conv => whnf); (try dsimp only))
    exact ⟨s n - s f, rfl, s f, by omega, Nat.le_refl _, hsf, rfl, by rw [lp_lt_z (Nat.le_refl _)]; rfl⟩
  · rintro m pc L τ ⟨rfl, i, hm, hi1, hi, rfl, rfl⟩
    ((conv => whnf); (try dsimp only))
    refine ⟨rfl, n, s, pg, wt, hV, ?_⟩
    ((conv => whnf); (try dsimp only))
    refine ⟨fun h => ?_, fun h => ?_⟩ <;> ((conv => whnf); (try dsimp only))
    · rw [nI_leI (by omega) (by omega)] at h
      obtain rfl : i = s n := by omega
      exact hq
    · rw [nI_leI (by omega) (by omega)] at h
      obtain ⟨⟨d1, d2, d3, d4⟩, e1, e2, e3, e4⟩ := hD i (by omega)
      refine ⟨lp_vin (by omega) (by omega), ?_⟩
      rw [lp_clm (by omega), d3]
      ((conv => whnf); (try dsimp only))
      refine ⟨lp_vin (by omega) (by omega), ?_⟩
      rw [lp_clm (by omega), d1]
      ((conv => whnf); (try dsimp only))
      rw [pk_sub (show P 3 i ≤ P 5 i by omega)]
      have hs1 : lsum (lp_lt P (s f) T) (i + 1) = lsum (lp_lt P (s f) T) i + (if s f ≤ i ∧ T < P 5 i - P 3 i then 1 else 0) := rfl
      refine ⟨fun q => ?_, fun q => ?_⟩ <;> ((conv => whnf); (try dsimp only))
      · rw [nI_leI (by omega) (by omega)] at q
        rw [if_neg (by omega)] at hs1
        exact ⟨s n - (i + 1), by omega, rfl, i + 1, by omega, by omega, by omega, rfl, by rw [hs1, nI_succ i]; rfl⟩
      · rw [nI_leI (by omega) (by omega)] at q
        rw [if_pos (by omega)] at hs1
        exact ⟨s n - (i + 1), by omega, rfl, i + 1, by omega, by omega, by omega, rfl, by rw [hs1, nI_succ i, nI_succ (lsum (lp_lt P (s f) T) i)]; rfl⟩
def lp_wa (P : Nat → Nat → Nat) (T : Nat) : Nat → Nat := fun j => if P 3 j ≤ T ∧ T < P 4 j then 1 else 0
def sp_X3_notBegunAt : lpS := fun as σ Q => match as with
  | [.inr (some (r, k)), .inl x] => r = 18 ∧ k = 0 ∧ ∃ (n T : Nat) (s pg wt : Nat → Nat) (P : Nat → Nat → Nat), lp_Vis σ 1 n s pg wt ∧ lp_Done σ (s n) P ∧ x = nI T ∧ T < 2 ^ 31 ∧ Q (some (nI (lsum (lp_wa P T) (s n)))) σ
  | _ => False
set_option maxHeartbeats 4000000 in
set_option maxRecDepth 100000 in
theorem ct_X3_notBegunAt (l : Launch) (D : va_G) (cI cD : ClassId) : lp_Ct l D cI cD yX3_notBegunAt cX3_notBegunAt 4 (some .int) 1 sp_X3_notBegunAt := by
  refine lp_method flX3 pfX3 kcX3 [(44, some 4, 0, sp_X4_asks)] false kX3_notBegunAt [4] rfl rfl (lp_rI rfl) flX3_ok pfX3_ok kcX3_ok kX3_notBegunAt_ok ⟨_, _, rfl, rfl⟩ (lp_cs1 (lp_mkCall lkX3_44 (ct_X4_asks l D cI cD) (by omega)) lp_cs0) ?_
  intro as σ Q hok hs
  rcases as with _ | ⟨_ | _ | ⟨r, k⟩, _ | ⟨x | _, _ | ⟨c, as⟩⟩⟩ <;> try exact (hs : False).elim
  obtain ⟨rfl, rfl, n, T, s, pg, wt, P, hV, hD, rfl, hT, hq⟩ := hs
  have hb := lp_Vis_bd hV
  refine ⟨by show 2 ≤ 4; omega, fun m pc L τ => pc = 4 ∧ ∃ i, m + i = s n ∧ i ≤ s n ∧ σ = τ ∧ L = [some (.inr (some (18, 0))), some (.inl (nI T)), some (.inl (nI (lsum (lp_wa P T) i))), some (.inl (nI i))], ?_, ?_⟩
  · ((conv => whnf); (try dsimp only))
    exact ⟨s n, rfl, 0, rfl, Nat.zero_le _, rfl, rfl⟩
  · rintro m pc L τ ⟨rfl, i, hm, hi, rfl, rfl⟩
    ((conv => whnf); (try dsimp only))
    refine ⟨rfl, n, s, pg, wt, hV, ?_⟩
    ((conv => whnf); (try dsimp only))
    refine ⟨fun h => ?_, fun h => ?_⟩ <;> ((conv => whnf); (try dsimp only))
    · rw [nI_leI (by omega) (by omega)] at h
      obtain rfl : i = s n := by omega
      exact hq
    · rw [nI_leI (by omega) (by omega)] at h
      obtain ⟨⟨d1, d2, d3, d4⟩, e1, e2, e3, e4⟩ := hD i (by omega)
      have hs1 : lsum (lp_wa P T) (i + 1) = lsum (lp_wa P T) i + (if P 3 i ≤ T ∧ T < P 4 i then 1 else 0) := rfl
      refine ⟨lp_vin (by omega) (by omega), ?_⟩
      rw [lp_clm (by omega), d1]
      ((conv => whnf); (try dsimp only))
      refine ⟨fun q => ?_, fun q => ?_⟩ <;> ((conv => whnf); (try dsimp only))
      · rw [nI_ltI (by omega) (by omega)] at q
        rw [if_neg (by omega)] at hs1
        exact ⟨s n - (i + 1), by omega, rfl, i + 1, by omega, by omega, rfl, by rw [hs1, nI_succ i]; rfl⟩
      · rw [nI_ltI (by omega) (by omega)] at q
        refine ⟨lp_vin (by omega) (by omega), ?_⟩
        rw [lp_clm (by omega), d2]
        ((conv => whnf); (try dsimp only))
        refine ⟨fun q2 => ?_, fun q2 => ?_⟩ <;> ((conv => whnf); (try dsimp only))
        · rw [nI_leI (by omega) (by omega)] at q2
          rw [if_neg (by omega)] at hs1
          exact ⟨s n - (i + 1), by omega, rfl, i + 1, by omega, by omega, rfl, by rw [hs1, nI_succ i]; rfl⟩
        · rw [nI_leI (by omega) (by omega)] at q2
          rw [if_pos (by omega)] at hs1
          exact ⟨s n - (i + 1), by omega, rfl, i + 1, by omega, by omega, rfl, by rw [hs1, nI_succ i, nI_succ (lsum (lp_wa P T) i)]; rfl⟩
/-- so many of a thousand are done within t ticks -/
def lp_prt (P : Nat → Nat → Nat) (a b th t : Nat) : Prop := th * (b - a) ≤ (b - a - lsum (lp_lt P a t) b) * 1000
def sp_X3_leastTicks : lpS := fun as σ Q => match as with
  | [.inr (some (r, k)), .inl x, .inl y] => r = 18 ∧ k = 0 ∧ ∃ (n th f : Nat) (s pg wt : Nat → Nat) (P : Nat → Nat → Nat), lp_Vis σ 1 n s pg wt ∧ lp_Done σ (s n) P ∧ x = nI th ∧ 1 ≤ th ∧ th ≤ 1000 ∧ y = nI f ∧ f < n ∧ ((s f = s n ∧ Q (some (-1)) σ) ∨ (s f < s n ∧ ∀ t, ¬ lp_prt P (s f) (s n) th t → lp_prt P (s f) (s n) th (t + 1) → Q (some (nI (t + 1))) σ))
  | _ => False
theorem lp_lt_all {P : Nat → Nat → Nat} {a T b : Nat} (h : ∀ j, j < b → P 5 j - P 3 j ≤ T) : lsum (lp_lt P a T) b = 0 := lsum_zero (fun i hi => if_neg (by have := h i hi; omega))
theorem lp_lt_none {P : Nat → Nat → Nat} {a : Nat} : ∀ {b : Nat}, a ≤ b → (∀ j, j < b → P 3 j < P 5 j) → lsum (lp_lt P a 0) b = b - a
  | 0, h, _ => by simp [lsum]
  | b + 1, h, hp => by
    show lsum (lp_lt P a 0) b + (if a ≤ b ∧ 0 < P 5 b - P 3 b then 1 else 0) = b + 1 - a
    have := hp b (by omega)
    by_cases e : a = b + 1
    · subst e
      rw [lp_lt_z (by omega), if_neg (by omega)]
      omega
    · rw [lp_lt_none (b := b) (by omega) (fun j hj => hp j (by omega)), if_pos (by omega)]
      omega
theorem lp_half (k : Nat) : 2 ^ (k + 1) / 2 = 2 ^ k := by rw [Nat.pow_succ]; omega
set_option maxHeartbeats 4000000 in
set_option maxRecDepth 100000 in
theorem ct_X3_leastTicks (l : Launch) (D : va_G) (cI cD : ClassId) : lp_Ct l D cI cD yX3_leastTicks cX3_leastTicks 7 (some .int) 4 sp_X3_leastTicks := by
  refine lp_method flX3 pfX3 kcX3 [(44, some 4, 0, sp_X4_asks), (93, some 4, 1, sp_X4_startOf), (112, some 3, 2, sp_X3_longerThan)] false kX3_leastTicks [30] rfl rfl (lp_rI rfl) flX3_ok pfX3_ok kcX3_ok kX3_leastTicks_ok ⟨_, _, rfl, rfl⟩ (lp_cs1 (lp_mkCall lkX3_44 (ct_X4_asks l D cI cD) (by omega)) (lp_cs1 (lp_mkCall lkX3_93 (ct_X4_startOf l D cI cD) (by omega)) (lp_cs1 (lp_mkCall lkX3_112 (ct_X3_longerThan l D cI cD) (by omega)) lp_cs0))) ?_
  intro as σ Q hok hs
  rcases as with _ | ⟨_ | _ | ⟨r, k⟩, _ | ⟨x | _, _ | ⟨y | _, _ | ⟨c, as⟩⟩⟩⟩ <;> try exact (hs : False).elim
  obtain ⟨rfl, rfl, n, th, f, s, pg, wt, P, hV, hD, rfl, ht1, ht2, rfl, hf, hq⟩ := hs
  have hb := lp_Vis_bd hV
  have hsf := lp_Vis_sn hV (v := f) (by omega)
  refine ⟨by show 3 ≤ 7; omega, fun m pc L τ => pc = 30 ∧ ∃ (eX tf : Nat) (x6 : Option lpV), eX = m ∧ eX ≤ 20 ∧ s f < s n ∧ tf + 2 ^ eX ≤ 2 ^ 20 ∧ ¬ lp_prt P (s f) (s n) th tf ∧ lp_prt P (s f) (s n) th (tf + 2 ^ eX) ∧ σ = τ ∧ L = [some (.inr (some (18, 0))), some (.inl (nI th)), some (.inl (nI f)), some (.inl (nI (s n - s f))), some (.inl (nI tf)), some (.inl (nI (2 ^ eX / 2))), x6], ?_, ?_⟩
  · ((conv => whnf); (try dsimp only))
    refine ⟨rfl, n, s, pg, wt, hV, ?_⟩
    ((conv => whnf); (try dsimp only))
    refine ⟨rfl, n, s, pg, wt, hV, Or.inl ⟨f, hf, rfl, ?_⟩⟩
    ((conv => whnf); (try dsimp only))
    rw [pk_sub hsf]
    refine ⟨fun q => ?_, fun q => ?_⟩ <;> ((conv => whnf); (try dsimp only))
    · have hlt : s f < s n := by
        rcases Nat.lt_or_ge (s f) (s n) with z | z
        · exact z
        · rw [show s n - s f = 0 by omega] at q
          exact absurd q (by decide)
      refine ⟨20, rfl, 20, 0, none, rfl, Nat.le_refl _, hlt, by decide, ?_, ?_, rfl, rfl⟩
      · unfold lp_prt
        rw [lp_lt_none hsf (fun j hj => by have := (hD j hj).2; omega)]
        have : 1 ≤ th * (s n - s f) := Nat.mul_le_mul ht1 (show 1 ≤ s n - s f by omega)
        omega
      · unfold lp_prt
        rw [lp_lt_all (fun j hj => by have := (hD j hj).2; omega)]
        have : th * (s n - s f) ≤ 1000 * (s n - s f) := Nat.mul_le_mul_right _ ht2
        omega
    · have hz : s f = s n := by
        rcases Nat.lt_or_ge (s f) (s n) with z | z
        · exact absurd (Int32.not_le.mp (nI_nle (n := s n - s f) (by omega) (by omega))) q
        · omega
      rcases hq with ⟨z, hq⟩ | ⟨z, hq⟩
      · exact hq
      · omega
  · rintro m pc L τ ⟨rfl, eX, tf, x6, rfl, he, hlt, htf, hn1, hp1, rfl, rfl⟩
    have hp2 : 2 ^ eX ≤ 2 ^ 20 := Nat.pow_le_pow_right (by omega) he
    ((conv => whnf); (try dsimp only))
    rcases eX with _ | eX
    · refine ⟨fun _ => ?_, fun q => absurd (by decide) q⟩
      ((conv => whnf); (try dsimp only))
      rcases hq with ⟨z, hq⟩ | ⟨z, hq⟩
      · omega
      · have := hq tf hn1 hp1
        rw [nI_succ tf] at this
        exact this
    · rw [lp_half]
      have h2e : 2 ^ (eX + 1) = 2 * 2 ^ eX := by rw [Nat.pow_succ]; omega
      have h1e : 1 ≤ 2 ^ eX := Nat.one_le_two_pow
      refine ⟨fun q => absurd q (nI_nle (by omega) (by omega)), fun _ => ?_⟩
      ((conv => whnf); (try dsimp only))
      rw [nI_add]
      refine ⟨rfl, rfl, n, tf + 2 ^ eX, f, s, pg, wt, P, hV, hD, rfl, by omega, rfl, hf, ?_⟩
      ((conv => whnf); (try dsimp only))
      have hle := lp_lt_le (P := P) (a := s f) (T := tf + 2 ^ eX) (s n) hsf
      have m1 : th * (s n - s f) ≤ 1000 * 1200 := Nat.mul_le_mul ht2 (by omega)
      rw [pk_sub hle, show nI (s n - s f - lsum (lp_lt P (s f) (tf + 2 ^ eX)) (s n)) * (Int16.ofInt 1000).toInt32 = nI ((s n - s f - lsum (lp_lt P (s f) (tf + 2 ^ eX)) (s n)) * 1000) from pk_mul _ 1000, pk_mul]
      refine ⟨fun q => ?_, fun q => ?_⟩ <;> ((conv => whnf); (try dsimp only))
      · rw [nI_leI (by omega) (by omega)] at q
        refine ⟨by decide, ?_⟩
        ((conv => whnf); (try dsimp only))
        exact ⟨eX, by omega, rfl, eX, tf, _, rfl, by omega, hlt, by omega, hn1, q, rfl, by rw [← pk_div (a := 2 ^ eX) (d := 2) (by omega) (by omega) (by omega)]; rfl⟩
      · rw [nI_leI (by omega) (by omega)] at q
        refine ⟨by decide, ?_⟩
        ((conv => whnf); (try dsimp only))
        exact ⟨eX, by omega, rfl, eX, tf + 2 ^ eX, _, rfl, by omega, hlt, by omega, q, by rw [show tf + 2 ^ eX + 2 ^ eX = tf + 2 ^ (eX + 1) by omega]; exact hp1, rfl, by rw [← pk_div (a := 2 ^ eX) (d := 2) (by omega) (by omega) (by omega), ← nI_add]; rfl⟩
