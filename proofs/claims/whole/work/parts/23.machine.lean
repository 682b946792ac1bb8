/-! ===== Machine: times (7, 0), rares (8, 0), waits (9, 0): flags of the Dealings (26 .., step) ===== -/
def lp_Mach (σ : lpM) (ct rr : Nat → Nat) (wc : Nat → Nat → Nat) : Prop := (∀ j, j < 121 → σ 7 0 j = nI (ct j) ∧ ct j < 30000) ∧ (∀ j, j < 121 → σ 8 0 j = nI (rr j) ∧ rr j ≤ 100) ∧ (∀ j, j < 121 → σ 9 0 j = 0 → ∀ w, w < 61 → wc j w = 0) ∧ (∀ j, j < 121 → σ 9 0 j ≠ 0 → ∀ w, w < 61 → σ 27 j w = nI (wc j w))
theorem lp_step {a b : Nat} : nI a * nI 11 + nI b = nI (a * 11 + b) := by rw [pk_mul, nI_add]
def sp_X2_countOf : lpS := fun as σ Q => match as with
  | [.inr (some (r, k)), .inl x, .inl y] => r = 6 ∧ k = 0 ∧ ∃ ct rr wc, lp_Mach σ ct rr wc ∧ ((∃ a b, a ≤ 10 ∧ b ≤ 10 ∧ x = nI a ∧ y = nI b ∧ Q (some (nI (lp_mc (ct (a * 11 + b)) (rr (a * 11 + b))))) σ) ∨ ((∀ a b, a ≤ 10 → b ≤ 10 → ¬ (x = nI a ∧ y = nI b)) ∧ Q (some (nI 0)) σ))
  | _ => False
set_option maxHeartbeats 4000000 in
set_option maxRecDepth 100000 in
theorem ct_X2_countOf (l : Launch) (D : va_G) (cI cD : ClassId) : lp_Ct l D cI cD yX2_countOf cX2_countOf 4 (some .int) 2 sp_X2_countOf := by
  refine lp_method0 flX2 pfX2 kcX2 [(33, none, 1, sp_X6_isPlace), (43, none, 2, sp_X6_stepOf), (54, none, 2, sp_max)] false kX2_countOf rfl rfl (lp_rI rfl) flX2_ok pfX2_ok kcX2_ok kX2_countOf_ok ⟨_, _, rfl, rfl⟩ (lp_cs1 (lp_mkCall lkX2_33 (ct_X6_isPlace l D cI cD) (by omega)) (lp_cs1 (lp_mkCall lkX2_43 (ct_X6_stepOf l D cI cD) (by omega)) (lp_cs1 (lp_mkMax lkX2_54 (by omega)) lp_cs0))) ?_
  intro as σ Q hs
  rcases as with _ | ⟨_ | _ | ⟨r, k⟩, _ | ⟨x | _, _ | ⟨y | _, _ | ⟨c, as⟩⟩⟩⟩ <;> try exact (hs : False).elim
  obtain ⟨rfl, rfl, ct, rr, wc, hM, hq⟩ := hs
  refine ⟨by show 3 ≤ 4; omega, ?_⟩
  ((conv => whnf); (try dsimp only))
  rcases Classical.em (∃ a, a ≤ 10 ∧ x = nI a) with ⟨a, h1, rfl⟩ | h1
  rotate_left
  · refine Or.inr ⟨fun v hv e => h1 ⟨v, hv, e⟩, ?_⟩
    ((conv => whnf); (try dsimp only))
    refine ⟨fun _ => ?_, fun q => absurd rfl q⟩
    ((conv => whnf); (try dsimp only))
    rcases hq with ⟨a, b, h2, h3, h4, h5, hq⟩ | ⟨h2, hq⟩
    · exact absurd ⟨a, h2, h4⟩ h1
    · exact hq
  refine Or.inl ⟨a, h1, rfl, ?_⟩
  ((conv => whnf); (try dsimp only))
  refine ⟨fun q => absurd q (by decide), fun _ => ?_⟩
  ((conv => whnf); (try dsimp only))
  rcases Classical.em (∃ b, b ≤ 10 ∧ y = nI b) with ⟨b, h2, rfl⟩ | h2
  rotate_left
  · refine Or.inr ⟨fun v hv e => h2 ⟨v, hv, e⟩, ?_⟩
    ((conv => whnf); (try dsimp only))
    refine ⟨fun q => absurd rfl q, fun _ => ?_⟩
    ((conv => whnf); (try dsimp only))
    rcases hq with ⟨a, b, h2', h3, h4, h5, hq⟩ | ⟨h2, hq⟩
    · exact absurd ⟨b, h3, h5⟩ h2
    · exact hq
  refine Or.inl ⟨b, h2, rfl, ?_⟩
  ((conv => whnf); (try dsimp only))
  refine ⟨fun _ => ?_, fun q => absurd q (by decide)⟩
  ((conv => whnf); (try dsimp only))
  have hq : Q (some (nI (lp_mc (ct (a * 11 + b)) (rr (a * 11 + b))))) σ := by
    rcases hq with ⟨a', b', h2', h3, h4, h5, hq⟩ | ⟨h2', hq⟩
    · obtain rfl := lp_inj (by omega) (by omega) h4
      obtain rfl := lp_inj (by omega) (by omega) h5
      exact hq
    · exact absurd ⟨rfl, rfl⟩ (h2' a b h1 h2)
  rw [lp_step]
  have hj : a * 11 + b < 121 := by omega
  generalize a * 11 + b = j at *
  obtain ⟨m1, m2⟩ := hM.1 j hj
  obtain ⟨m3, m4⟩ := hM.2.1 j hj
  refine ⟨lp_vin hj (by omega), ?_⟩
  rw [lp_clm (by omega), m1]
  ((conv => whnf); (try dsimp only))
  refine ⟨fun q => ?_, fun q => ?_⟩ <;> ((conv => whnf); (try dsimp only))
  · refine ⟨lp_vin hj (by omega), ?_⟩
    rw [lp_clm (by omega), m1]
    ((conv => whnf); (try dsimp only))
    refine ⟨lp_vin hj (by omega), ?_⟩
    rw [lp_clm (by omega), m3]
    ((conv => whnf); (try dsimp only))
    have hz : ¬ ct j = 0 := fun z => q (by rw [z]; rfl)
    rw [lp_mc, if_neg hz] at hq
    by_cases hlt : ct j < rr j
    · rw [if_pos (nI_lt hlt (by omega))]
      rw [Nat.max_eq_right (by omega)] at hq
      exact hq
    · rw [if_neg (fun z => hlt ((nI_ltI (by omega) (by omega)).mp z))]
      rw [Nat.max_eq_left (by omega)] at hq
      exact hq
  · have hz : ct j = 0 := lp_inj (by omega) (by omega) q
    rw [lp_mc, if_pos hz] at hq
    exact hq
def sp_X2_tellRare : lpS := fun as σ Q => match as with
  | [.inr (some (r, k)), .inl x, .inl y, .inl z] => r = 6 ∧ k = 0 ∧ ((∃ a b c, a ≤ 10 ∧ b ≤ 10 ∧ c ≤ 100 ∧ x = nI a ∧ y = nI b ∧ z = nI c ∧ Q (some 1) (lp_w3 σ 8 0 (a * 11 + b) (nI c))) ∨ ((∀ a b c, a ≤ 10 → b ≤ 10 → c ≤ 100 → ¬ (x = nI a ∧ y = nI b ∧ z = nI c)) ∧ Q (some 0) σ))
  | _ => False
set_option maxHeartbeats 4000000 in
set_option maxRecDepth 100000 in
theorem ct_X2_tellRare (l : Launch) (D : va_G) (cI cD : ClassId) : lp_Ct l D cI cD yX2_tellRare cX2_tellRare 4 (some .boolean) 2 sp_X2_tellRare := by
  refine lp_method0 flX2 pfX2 kcX2 [(33, none, 1, sp_X6_isPlace), (43, none, 2, sp_X6_stepOf), (50, none, 3, sp_X6_isWithin)] true kX2_tellRare rfl rfl (lp_rB rfl) flX2_ok pfX2_ok kcX2_ok kX2_tellRare_ok ⟨_, _, rfl, rfl⟩ (lp_cs1 (lp_mkCall lkX2_33 (ct_X6_isPlace l D cI cD) (by omega)) (lp_cs1 (lp_mkCall lkX2_43 (ct_X6_stepOf l D cI cD) (by omega)) (lp_cs1 (lp_mkCall lkX2_50 (ct_X6_isWithin l D cI cD) (by omega)) lp_cs0))) ?_
  intro as σ Q hs
  rcases as with _ | ⟨_ | _ | ⟨r, k⟩, _ | ⟨x | _, _ | ⟨y | _, _ | ⟨z | _, _ | ⟨c, as⟩⟩⟩⟩⟩ <;> try exact (hs : False).elim
  obtain ⟨rfl, rfl, hq⟩ := hs
  refine ⟨by show 4 ≤ 4; omega, ?_⟩
  ((conv => whnf); (try dsimp only))
  rcases Classical.em (∃ a, a ≤ 10 ∧ x = nI a) with ⟨a, h1, rfl⟩ | h1
  rotate_left
  · refine Or.inr ⟨fun v hv e => h1 ⟨v, hv, e⟩, ?_⟩
    ((conv => whnf); (try dsimp only))
    refine ⟨fun _ => ?_, fun q => absurd rfl q⟩
    ((conv => whnf); (try dsimp only))
    refine ⟨Or.inl rfl, ?_⟩
    rcases hq with ⟨a, b, c, h2, h3, h4, h5, h6, h7, hq⟩ | ⟨h2, hq⟩
    · exact absurd ⟨a, h2, h5⟩ h1
    · exact hq
  refine Or.inl ⟨a, h1, rfl, ?_⟩
  ((conv => whnf); (try dsimp only))
  refine ⟨fun q => absurd q (by decide), fun _ => ?_⟩
  ((conv => whnf); (try dsimp only))
  rcases Classical.em (∃ b, b ≤ 10 ∧ y = nI b) with ⟨b, h2, rfl⟩ | h2
  rotate_left
  · refine Or.inr ⟨fun v hv e => h2 ⟨v, hv, e⟩, ?_⟩
    ((conv => whnf); (try dsimp only))
    refine ⟨fun _ => ?_, fun q => absurd rfl q⟩
    ((conv => whnf); (try dsimp only))
    refine ⟨Or.inl rfl, ?_⟩
    rcases hq with ⟨a, b, c, h2', h3, h4, h5, h6, h7, hq⟩ | ⟨h2, hq⟩
    · exact absurd ⟨b, h3, h6⟩ h2
    · exact hq
  refine Or.inl ⟨b, h2, rfl, ?_⟩
  ((conv => whnf); (try dsimp only))
  refine ⟨fun q => absurd q (by decide), fun _ => ?_⟩
  ((conv => whnf); (try dsimp only))
  refine lp_upto (n := 100) (by decide) ?_
  rcases hq with ⟨a', b', c, h2', h3, h4, h5, h6, rfl, hq⟩ | ⟨h3, hq⟩
  · obtain rfl := lp_inj (by omega) (by omega) h5
    obtain rfl := lp_inj (by omega) (by omega) h6
    refine Or.inl ⟨c, h4, rfl, ?_⟩
    ((conv => whnf); (try dsimp only))
    refine ⟨fun _ => ?_, fun q => absurd q (by decide)⟩
    ((conv => whnf); (try dsimp only))
    rw [lp_step]
    refine ⟨lp_vin (by omega) (by omega), ?_⟩
    rw [lp_clm (by omega)]
    ((conv => whnf); (try dsimp only))
    exact ⟨Or.inr rfl, hq⟩
  · refine Or.inr ⟨fun c hc e => h3 a b c h1 h2 hc ⟨rfl, rfl, e⟩, ?_⟩
    ((conv => whnf); (try dsimp only))
    refine ⟨fun q => absurd rfl q, fun _ => ?_⟩
    ((conv => whnf); (try dsimp only))
    exact ⟨Or.inl rfl, hq⟩
def sp_X2_timesOfWait : lpS := fun as σ Q => match as with
  | [.inr (some (r, k)), .inl x, .inl y, .inl z] => r = 6 ∧ k = 0 ∧ ∃ ct rr wc, lp_Mach σ ct rr wc ∧ ((∃ a b c, a ≤ 10 ∧ b ≤ 9 ∧ c ≤ 60 ∧ x = nI a ∧ y = nI b ∧ z = nI c ∧ Q (some (nI (wc (a * 11 + b) c))) σ) ∨ ((∀ a b c, a ≤ 10 → b ≤ 9 → c ≤ 60 → ¬ (x = nI a ∧ y = nI b ∧ z = nI c)) ∧ Q (some (nI 0)) σ))
  | _ => False
set_option maxHeartbeats 4000000 in
set_option maxRecDepth 100000 in
theorem ct_X2_timesOfWait (l : Launch) (D : va_G) (cI cD : ClassId) : lp_Ct l D cI cD yX2_timesOfWait cX2_timesOfWait 5 (some .int) 2 sp_X2_timesOfWait := by
  refine lp_method0 flX2 pfX2 kcX2 [(33, none, 1, sp_X6_isPlace), (37, none, 1, sp_X6_isPage), (40, none, 1, sp_X6_isWait), (43, none, 2, sp_X6_stepOf)] false kX2_timesOfWait rfl rfl (lp_rI rfl) flX2_ok pfX2_ok kcX2_ok kX2_timesOfWait_ok ⟨_, _, rfl, rfl⟩ (lp_cs1 (lp_mkCall lkX2_33 (ct_X6_isPlace l D cI cD) (by omega)) (lp_cs1 (lp_mkCall lkX2_37 (ct_X6_isPage l D cI cD) (by omega)) (lp_cs1 (lp_mkCall lkX2_40 (ct_X6_isWait l D cI cD) (by omega)) (lp_cs1 (lp_mkCall lkX2_43 (ct_X6_stepOf l D cI cD) (by omega)) lp_cs0)))) ?_
  intro as σ Q hs
  rcases as with _ | ⟨_ | _ | ⟨r, k⟩, _ | ⟨x | _, _ | ⟨y | _, _ | ⟨z | _, _ | ⟨c, as⟩⟩⟩⟩⟩ <;> try exact (hs : False).elim
  obtain ⟨rfl, rfl, ct, rr, wc, hM, hq⟩ := hs
  refine ⟨by show 4 ≤ 5; omega, ?_⟩
  ((conv => whnf); (try dsimp only))
  rcases Classical.em (∃ a, a ≤ 10 ∧ x = nI a) with ⟨a, h1, rfl⟩ | h1
  rotate_left
  · refine Or.inr ⟨fun v hv e => h1 ⟨v, hv, e⟩, ?_⟩
    ((conv => whnf); (try dsimp only))
    refine ⟨fun _ => ?_, fun q => absurd rfl q⟩
    ((conv => whnf); (try dsimp only))
    rcases hq with ⟨a, b, c, h2, h3, h4, h5, h6, h7, hq⟩ | ⟨h2, hq⟩
    · exact absurd ⟨a, h2, h5⟩ h1
    · exact hq
  refine Or.inl ⟨a, h1, rfl, ?_⟩
  ((conv => whnf); (try dsimp only))
  refine ⟨fun q => absurd q (by decide), fun _ => ?_⟩
  ((conv => whnf); (try dsimp only))
  rcases Classical.em (∃ b, b ≤ 9 ∧ y = nI b) with ⟨b, h2, rfl⟩ | h2
  rotate_left
  · refine Or.inr ⟨fun v hv e => h2 ⟨v, hv, e⟩, ?_⟩
    ((conv => whnf); (try dsimp only))
    refine ⟨fun _ => ?_, fun q => absurd rfl q⟩
    ((conv => whnf); (try dsimp only))
    rcases hq with ⟨a, b, c, h2', h3, h4, h5, h6, h7, hq⟩ | ⟨h2, hq⟩
    · exact absurd ⟨b, h3, h6⟩ h2
    · exact hq
  refine Or.inl ⟨b, h2, rfl, ?_⟩
  ((conv => whnf); (try dsimp only))
  refine ⟨fun q => absurd q (by decide), fun _ => ?_⟩
  ((conv => whnf); (try dsimp only))
  rcases Classical.em (∃ c, c ≤ 60 ∧ z = nI c) with ⟨c, h3, rfl⟩ | h3
  rotate_left
  · refine Or.inr ⟨fun v hv e => h3 ⟨v, hv, e⟩, ?_⟩
    ((conv => whnf); (try dsimp only))
    refine ⟨fun q => absurd rfl q, fun _ => ?_⟩
    ((conv => whnf); (try dsimp only))
    rcases hq with ⟨a, b, c, h2', h3', h4, h5, h6, h7, hq⟩ | ⟨h2, hq⟩
    · exact absurd ⟨c, h4, h7⟩ h3
    · exact hq
  refine Or.inl ⟨c, h3, rfl, ?_⟩
  ((conv => whnf); (try dsimp only))
  refine ⟨fun _ => ?_, fun q => absurd q (by decide)⟩
  ((conv => whnf); (try dsimp only))
  have hq : Q (some (nI (wc (a * 11 + b) c))) σ := by
    rcases hq with ⟨a', b', c', h2', h3', h4, h5, h6, h7, hq⟩ | ⟨h2', hq⟩
    · obtain rfl := lp_inj (by omega) (by omega) h5
      obtain rfl := lp_inj (by omega) (by omega) h6
      obtain rfl := lp_inj (by omega) (by omega) h7
      exact hq
    · exact absurd ⟨rfl, rfl, rfl⟩ (h2' a b c h1 h2 h3)
  rw [lp_step]
  have hj : a * 11 + b < 121 := by omega
  generalize a * 11 + b = j at *
  refine ⟨lp_vin hj (by omega), ?_⟩
  rw [lp_clm (by omega)]
  refine ⟨fun q => ?_, fun q => ?_⟩ <;> ((conv => whnf); (try dsimp only))
  · rw [hM.2.2.1 j hj q c (by omega)] at hq
    exact hq
  · have hd : lp_dl j = 61 := if_pos hj
    refine ⟨lp_vin (by rw [hd]; omega) (lp_dl_lt _), ?_⟩
    rw [lp_clm (by omega), hM.2.2.2 j hj q c (by omega)]
    ((conv => whnf); (try dsimp only))
    exact hq
/-- a row of every Dealing of the Machine that is made, up to the n-th, set to 0 -/
def lp_clr (R : Nat) (σ : lpM) (n : Nat) : lpM := fun r k j => if r = R ∧ k < n ∧ k < 121 ∧ σ 9 0 k ≠ 0 ∧ j < 61 then nI 0 else σ r k j
theorem lp_clr_0 (R : Nat) (σ : lpM) : lp_clr R σ 0 = σ := by
  funext r k j
  simp [lp_clr]
theorem lp_clr_9 {R : Nat} (h : R ≠ 9) (σ : lpM) (n : Nat) : lp_clr R σ n 9 = σ 9 := by
  funext k j
  simp [lp_clr, Ne.symm h]
theorem lp_clr_dead {R : Nat} {σ : lpM} {i : Nat} (h : σ 9 0 i = 0) : lp_clr R σ (i + 1) = lp_clr R σ i := by
  funext r k j
  by_cases hk : k = i
  · subst hk
    simp [lp_clr, h]
  · have : k < i + 1 ↔ k < i := by omega
    simp [lp_clr, this]
theorem lp_clr_live {R : Nat} {σ : lpM} {i : Nat} (hi : i < 121) (h : σ 9 0 i ≠ 0) : lp_fill (lp_clr R σ i) R i 61 (nI 0) = lp_clr R σ (i + 1) := by
  funext r k j
  by_cases hr : r = R
  · subst hr
    by_cases hk : k = i
    · subst hk
      by_cases hj : j < 61
      · simp [lp_fill, va_up, lp_clr, hi, h, hj]
      · simp [lp_fill, va_up, lp_clr, hj]
    · have : k < i + 1 ↔ k < i := by omega
      simp [lp_fill, va_up, lp_clr, hk, this]
  · simp [lp_fill, va_up, lp_clr, hr]
def sp_X2_beginWaitsAnew : lpS := fun as σ Q => match as with
  | [.inr (some (r, k))] => r = 6 ∧ k = 0 ∧ Q none (lp_clr 28 σ 121)
  | _ => False
set_option maxHeartbeats 4000000 in
set_option maxRecDepth 100000 in
theorem ct_X2_beginWaitsAnew (l : Launch) (D : va_G) (cI cD : ClassId) : lp_Ct l D cI cD yX2_beginWaitsAnew cX2_beginWaitsAnew 5 none 2 sp_X2_beginWaitsAnew := by
  refine lp_method flX2 pfX2 kcX2 [(59, some 1, 0, sp_X1_beginAnew)] false kX2_beginWaitsAnew [10] rfl rfl (lp_rV rfl) flX2_ok pfX2_ok kcX2_ok kX2_beginWaitsAnew_ok ⟨_, _, rfl, rfl⟩ (lp_cs1 (lp_mkCall lkX2_59 (ct_X1_beginAnew l D cI cD) (by omega)) lp_cs0) ?_
  intro as σ Q hok hs
  rcases as with _ | ⟨_ | _ | ⟨r, k⟩, _ | ⟨c, as⟩⟩ <;> try exact (hs : False).elim
  obtain ⟨rfl, rfl, hq⟩ := hs
  refine ⟨by show 1 ≤ 5; omega, fun m pc L τ => pc = 10 ∧ ∃ i x4, m + i = 121 ∧ i ≤ 121 ∧ lp_clr 28 σ i = τ ∧ L = [some (.inr (some (6, 0))), some (.inr (some (9, 0))), some (.inl (nI 121)), some (.inl (nI i)), x4], ?_, ?_⟩
  · ((conv => whnf); (try dsimp only))
    exact ⟨121, rfl, 0, none, rfl, Nat.zero_le _, lp_clr_0 28 σ, rfl⟩
  · rintro m pc L τ ⟨rfl, i, x4, hm, hi, rfl, rfl⟩
    ((conv => whnf); (try dsimp only))
    refine ⟨fun h => ?_, fun h => ?_⟩ <;> ((conv => whnf); (try dsimp only))
    · rw [nI_leI (by omega) (by omega)] at h
      obtain rfl : i = 121 := by omega
      exact hq
    · rw [nI_leI (by omega) (by omega)] at h
      refine ⟨lp_vin (by omega) (by omega), ?_⟩
      rw [lp_clm (by omega), lp_clr_9 (by decide)]
      refine ⟨fun q => ?_, fun q => ?_⟩ <;> ((conv => whnf); (try dsimp only))
      · exact ⟨121 - (i + 1), by omega, rfl, i + 1, _, by omega, by omega, lp_clr_dead q, by rw [nI_succ i]; rfl⟩
      · refine ⟨rfl, ?_⟩
        ((conv => whnf); (try dsimp only))
        exact ⟨121 - (i + 1), by omega, rfl, i + 1, _, by omega, by omega, by rw [← lp_clr_live (by omega) q, show lp_dl i = 61 from if_pos (by omega)], by rw [nI_succ i]; rfl⟩
def sp_X2_forget : lpS := fun as σ Q => match as with
  | [.inr (some (r, k))] => r = 6 ∧ k = 0 ∧ Q none (lp_clr 27 (lp_fill σ 7 0 121 (nI 0)) 121)
  | _ => False
set_option maxHeartbeats 4000000 in
set_option maxRecDepth 100000 in
theorem ct_X2_forget (l : Launch) (D : va_G) (cI cD : ClassId) : lp_Ct l D cI cD yX2_forget cX2_forget 5 none 1 sp_X2_forget := by
  refine lp_method flX2 pfX2 kcX2 [(24, none, 2, sp_J7_fill)] false kX2_forget [18] rfl rfl (lp_rV rfl) flX2_ok pfX2_ok kcX2_ok kX2_forget_ok ⟨_, _, rfl, rfl⟩ (lp_cs1 (lp_mkCall lkX2_24 (ct_J7_fill l D cI cD) (by omega)) lp_cs0) ?_
  intro as σ Q hok hs
  rcases as with _ | ⟨_ | _ | ⟨r, k⟩, _ | ⟨c, as⟩⟩ <;> try exact (hs : False).elim
  obtain ⟨rfl, rfl, hq⟩ := hs
  generalize hσ : lp_fill σ 7 0 121 (nI 0) = σ1 at hq
  refine ⟨by show 1 ≤ 5; omega, fun m pc L τ => pc = 18 ∧ ∃ i x4, m + i = 121 ∧ i ≤ 121 ∧ lp_clr 27 σ1 i = τ ∧ L = [some (.inr (some (6, 0))), some (.inr (some (9, 0))), some (.inl (nI 121)), some (.inl (nI i)), x4], ?_, ?_⟩
  · ((conv => whnf); (try dsimp only))
    refine ⟨fun _ => 121, rfl, by show 121 < 2 ^ 31; omega, ?_⟩
    ((conv => whnf); (try dsimp only))
    exact ⟨121, rfl, 0, none, rfl, Nat.zero_le _, by rw [lp_clr_0, ← hσ]; rfl, rfl⟩
  · rintro m pc L τ ⟨rfl, i, x4, hm, hi, rfl, rfl⟩
    ((conv => whnf); (try dsimp only))
    refine ⟨fun h => ?_, fun h => ?_⟩ <;> ((conv => whnf); (try dsimp only))
    · rw [nI_leI (by omega) (by omega)] at h
      obtain rfl : i = 121 := by omega
      exact hq
    · rw [nI_leI (by omega) (by omega)] at h
      refine ⟨lp_vin (by omega) (by omega), ?_⟩
      rw [lp_clm (by omega), lp_clr_9 (by decide)]
      refine ⟨fun q => ?_, fun q => ?_⟩ <;> ((conv => whnf); (try dsimp only))
      · exact ⟨121 - (i + 1), by omega, rfl, i + 1, _, by omega, by omega, lp_clr_dead q, by rw [nI_succ i]; rfl⟩
      · refine ⟨lp_dl, rfl, lp_dl_lt _, ?_⟩
        ((conv => whnf); (try dsimp only))
        exact ⟨121 - (i + 1), by omega, rfl, i + 1, _, by omega, by omega, by rw [← lp_clr_live (by omega) q, show lp_dl i = 61 from if_pos (by omega)]; rfl, by rw [nI_succ i]; rfl⟩
def sp_X2_dealWait : lpS := fun as σ Q => match as with
  | [.inr (some (r, k)), .inl x, .inl y] => r = 6 ∧ k = 0 ∧ ∃ a b, a ≤ 10 ∧ b ≤ 9 ∧ x = nI a ∧ y = nI b ∧ σ 9 0 (a * 11 + b) ≠ 0 ∧ ∃ (cnt came : Nat → Nat) (c : Nat), lp_Deal σ (a * 11 + b) cnt came ∧ lsum cnt 61 < 30000 ∧ lsum came 61 < 30000 ∧ dl cnt came 61 = some c ∧ Q (some (nI c)) (lp_w3 σ 28 (a * 11 + b) c (nI (came c + 1)))
  | _ => False
set_option maxHeartbeats 4000000 in
set_option maxRecDepth 100000 in
theorem ct_X2_dealWait (l : Launch) (D : va_G) (cI cD : ClassId) : lp_Ct l D cI cD yX2_dealWait cX2_dealWait 4 (some .int) 2 sp_X2_dealWait := by
  refine lp_method0 flX2 pfX2 kcX2 [(33, none, 1, sp_X6_isPlace), (37, none, 1, sp_X6_isPage), (43, none, 2, sp_X6_stepOf), (62, some 1, 0, sp_X1_deal)] false kX2_dealWait rfl rfl (lp_rI rfl) flX2_ok pfX2_ok kcX2_ok kX2_dealWait_ok ⟨_, _, rfl, rfl⟩ (lp_cs1 (lp_mkCall lkX2_33 (ct_X6_isPlace l D cI cD) (by omega)) (lp_cs1 (lp_mkCall lkX2_37 (ct_X6_isPage l D cI cD) (by omega)) (lp_cs1 (lp_mkCall lkX2_43 (ct_X6_stepOf l D cI cD) (by omega)) (lp_cs1 (lp_mkCall lkX2_62 (ct_X1_deal l D cI cD) (by omega)) lp_cs0)))) ?_
  intro as σ Q hs
  rcases as with _ | ⟨_ | _ | ⟨r, k⟩, _ | ⟨x | _, _ | ⟨y | _, _ | ⟨c, as⟩⟩⟩⟩ <;> try exact (hs : False).elim
  obtain ⟨rfl, rfl, a, b, h1, h2, rfl, rfl, h3, cnt, came, c, h4, h5, h6, h7, hq⟩ := hs
  refine ⟨by show 3 ≤ 4; omega, ?_⟩
  ((conv => whnf); (try dsimp only))
  refine Or.inl ⟨a, h1, rfl, ?_⟩
  ((conv => whnf); (try dsimp only))
  refine ⟨fun q => absurd q (by decide), fun _ => ?_⟩
  ((conv => whnf); (try dsimp only))
  refine Or.inl ⟨b, h2, rfl, ?_⟩
  ((conv => whnf); (try dsimp only))
  refine ⟨fun _ => ?_, fun q => absurd q (by decide)⟩
  ((conv => whnf); (try dsimp only))
  rw [lp_step]
  have hj : a * 11 + b < 121 := by omega
  generalize a * 11 + b = j at *
  refine ⟨lp_vin hj (by omega), ?_⟩
  rw [lp_clm (by omega)]
  refine ⟨fun q => absurd q h3, fun _ => ?_⟩
  ((conv => whnf); (try dsimp only))
  have hd : lp_dl j = 61 := if_pos hj
  refine ⟨rfl, cnt, came, c, h4, by rw [hd]; exact h5, by rw [hd]; exact h6, by rw [hd]; exact h7, ?_⟩
  ((conv => whnf); (try dsimp only))
  exact hq
def sp_X2_unlikeSteps : lpS := fun as σ Q => match as with
  | [.inr (some (r, k))] => r = 6 ∧ k = 0 ∧ ∃ ct rr wc, lp_Mach σ ct rr wc ∧ Q (some (nI (lsum (fun j => if 0 < ct j then 1 else 0) 121))) σ
  | _ => False
set_option maxHeartbeats 4000000 in
set_option maxRecDepth 100000 in
theorem ct_X2_unlikeSteps (l : Launch) (D : va_G) (cI cD : ClassId) : lp_Ct l D cI cD yX2_unlikeSteps cX2_unlikeSteps 6 (some .int) 0 sp_X2_unlikeSteps := by
  refine lp_method flX2 pfX2 kcX2 [] false kX2_unlikeSteps [13] rfl rfl (lp_rI rfl) flX2_ok pfX2_ok kcX2_ok kX2_unlikeSteps_ok ⟨_, _, rfl, rfl⟩ lp_cs0 ?_
  intro as σ Q hok hs
  rcases as with _ | ⟨_ | _ | ⟨r, k⟩, _ | ⟨c, as⟩⟩ <;> try exact (hs : False).elim
  obtain ⟨rfl, rfl, ct, rr, wc, hM, hq⟩ := hs
  refine ⟨by show 1 ≤ 6; omega, fun m pc L τ => pc = 13 ∧ ∃ i x5, m + i = 121 ∧ i ≤ 121 ∧ σ = τ ∧ L = [some (.inr (some (6, 0))), some (.inl (nI (lsum (fun j => if 0 < ct j then 1 else 0) i))), some (.inr (some (7, 0))), some (.inl (nI 121)), some (.inl (nI i)), x5], ?_, ?_⟩
  · ((conv => whnf); (try dsimp only))
    exact ⟨121, rfl, 0, none, rfl, Nat.zero_le _, rfl, rfl⟩
  · rintro m pc L τ ⟨rfl, i, x5, hm, hi, rfl, rfl⟩
    ((conv => whnf); (try dsimp only))
    refine ⟨fun h => ?_, fun h => ?_⟩ <;> ((conv => whnf); (try dsimp only))
    · rw [nI_leI (by omega) (by omega)] at h
      obtain rfl : i = 121 := by omega
      exact hq
    · rw [nI_leI (by omega) (by omega)] at h
      obtain ⟨m1, m2⟩ := hM.1 i (by omega)
      refine ⟨lp_vin (by omega) (by omega), ?_⟩
      rw [lp_clm (by omega), m1]
      ((conv => whnf); (try dsimp only))
      have hs1 : lsum (fun j => if 0 < ct j then 1 else 0) (i + 1) = lsum (fun j => if 0 < ct j then 1 else 0) i + (if 0 < ct i then 1 else 0) := rfl
      refine ⟨fun q => ?_, fun q => ?_⟩ <;> ((conv => whnf); (try dsimp only))
      · have hz : ¬ 0 < ct i := fun z => nI_nle z (by omega) q
        rw [if_neg hz] at hs1
        exact ⟨121 - (i + 1), by omega, rfl, i + 1, some (.inl (nI (ct i))), by omega, by omega, rfl, by rw [hs1, nI_succ i]; rfl⟩
      · have hz : 0 < ct i := by
          rcases Nat.eq_zero_or_pos (ct i) with z | z
          · rw [z] at q; exact absurd (by decide) q
          · exact z
        rw [if_pos hz] at hs1
        exact ⟨121 - (i + 1), by omega, rfl, i + 1, some (.inl (nI (ct i))), by omega, by omega, rfl, by rw [hs1, nI_succ i, nI_succ (lsum (fun j => if 0 < ct j then 1 else 0) i)]; rfl⟩
