/-! ===== LoadPress: contracts ===== -/
def an_visit (Z : lpZ) : Int32 := if Z.1.1 < 60 then nI Z.1.1 else -1
def st_visit (Z : lpZ) : lpZ := if Z.1.1 < 60 then (lg_open Z.1, Z.2) else Z
theorem lp_Mach_open {σ : lpM} {n : Nat} {s pg wt rr : Nat → Nat} (hV : lpV0 n s wt) (h : lp_Mach σ (lp_ctL (n, s, pg, wt)) rr (lp_wcL (n, s, pg, wt))) : lp_Mach σ (lp_ctL (lg_open (n, s, pg, wt))) rr (lp_wcL (lg_open (n, s, pg, wt))) :=
  lp_Mach_eq h (fun j _ => inL_open hV) (fun j _ w _ => wL_open hV)
theorem LP_open {σ : lpM} {Z : lpZ} (h : lpP σ Z) (hn : Z.1.1 < 60) : lpP (lp_w3 (lp_w3 σ 5 0 (Z.1.1 + 1) (nI (Z.1.2.1 Z.1.1))) 2 0 3 (nI (Z.1.1 + 1))) (lg_open Z.1, Z.2) ∧ lpFL σ (lp_w3 (lp_w3 σ 5 0 (Z.1.1 + 1) (nI (Z.1.2.1 Z.1.1))) 2 0 3 (nI (Z.1.1 + 1))) := by
  obtain ⟨⟨hV, hM⟩, hC, hP⟩ := h
  have hV0 := lp_Vis_V0 hV
  refine ⟨⟨⟨lp_Vis_open hV hn, lp_Mach_congr (lp_Mach_open hV0 hM) ?_ ?_ ?_ (fun k _ => ?_)⟩, LPc_congr hC ?_, LPp_congr hP ?_ (fun r _ _ => ?_) (fun r _ _ => ?_) (fun k _ => ?_)⟩, fun r _ => ?_⟩
  all_goals first
    | (rw [lp_w3_r (by omega), lp_w3_r (by omega)])
    | (rw [lp_w3_ne (by omega), lp_w3_ne (by omega)])
def sp_X6_visit : lpS := fun as σ Q => match as with
  | [.inr (some (r, k))] => r = 1 ∧ k = 0 ∧ ∃ Z, lpP σ Z ∧ ∀ τ, lpP τ (st_visit Z) → lpFL σ τ → Q (some (an_visit Z)) τ
  | _ => False
set_option maxHeartbeats 4000000 in
set_option maxRecDepth 100000 in
theorem ct_X6_visit (l : Launch) (D : va_G) (cI cD : ClassId) : lp_Ct l D cI cD yX6_visit cX6_visit 1 (some .int) 1 sp_X6_visit := by
  refine lp_method0 flX6 pfX6 kcX6 [(54, some 4, 0, sp_X4_open)] false kX6_visit rfl rfl (lp_rI rfl) flX6_ok pfX6_ok kcX6_ok kX6_visit_ok ⟨_, _, rfl, rfl⟩ (lp_cs1 (lp_mkCall lkX6_54 (ct_X4_open l D cI cD) (by omega)) lp_cs0) ?_
  intro as σ Q hs
  rcases as with _ | ⟨_ | _ | ⟨r, k⟩, _ | ⟨c, as⟩⟩ <;> try exact (hs : False).elim
  obtain ⟨rfl, rfl, ⟨⟨n, s, pg, wt⟩, ⟨rr, co⟩, M, P, cm⟩, ⟨⟨hV, hM⟩, hC, hP⟩, hq⟩ := hs
  dsimp only at hV hM hC hP
  unfold st_visit an_visit at hq
  dsimp only at hq
  refine ⟨Nat.le_refl 1, ?_⟩
  have hV0 := lp_Vis_V0 hV
  ((conv => whnf); (try dsimp only))
  refine ⟨rfl, n, s, pg, wt, hV, ?_⟩
  by_cases h : n < 60
  · simp only [if_pos h] at hq
    refine Or.inl ⟨h, ?_⟩
    ((conv => whnf); (try dsimp only))
    exact hq _ (LP_open (Z := ((n, s, pg, wt), (rr, co), M, P, cm)) ⟨⟨hV, hM⟩, hC, hP⟩ h).1 (LP_open (Z := ((n, s, pg, wt), (rr, co), M, P, cm)) ⟨⟨hV, hM⟩, hC, hP⟩ h).2
  · simp only [if_neg h] at hq
    refine Or.inr ⟨by have := hV.2.1; omega, ?_⟩
    ((conv => whnf); (try dsimp only))
    exact hq σ ⟨⟨hV, hM⟩, hC, hP⟩ (FL_rf σ)
def sp_X6_note : lpS := fun as σ Q => match as with
  | [.inr (some (r, k)), .inl x, .inl y] => r = 1 ∧ k = 0 ∧ ∃ (Z : lpZ) (p w : Nat), x = nI p ∧ y = nI w ∧ p ≤ 9 ∧ w ≤ 60 ∧ lpP σ Z ∧ ((lg_can Z.1 ∧ ∀ τ, lpP τ (lg_add Z.1 p w, Z.2) → lpFL σ τ → (∀ r, 2 ≤ r → r ≤ 5 → τ r 1 = σ r 1) → Q (some (nI (lg_len Z.1 + 1))) τ) ∨ (¬ lg_can Z.1 ∧ Q (some (-1)) σ))
  | _ => False
set_option maxHeartbeats 4000000 in
set_option maxRecDepth 100000 in
theorem ct_X6_note (l : Launch) (D : va_G) (cI cD : ClassId) : lp_Ct l D cI cD yX6_note cX6_note 5 (some .int) 4 sp_X6_note := by
  refine lp_method flX6 pfX6 kcX6 [(161, some 4, 0, sp_X4_lastPlace), (164, some 4, 2, sp_X4_add), (167, some 2, 3, sp_X2_lengthen)] false kX6_note [8] rfl rfl (lp_rI rfl) flX6_ok pfX6_ok kcX6_ok kX6_note_ok ⟨_, _, rfl, rfl⟩ (lp_cs1 (lp_mkCall lkX6_161 (ct_X4_lastPlace l D cI cD) (by omega)) (lp_cs1 (lp_mkCall lkX6_164 (ct_X4_add l D cI cD) (by omega)) (lp_cs1 (lp_mkCall lkX6_167 (ct_X2_lengthen l D cI cD) (by omega)) lp_cs0))) ?_
  intro as σ Q hok hs
  rcases as with _ | ⟨_ | _ | ⟨r, k⟩, _ | ⟨x | _, _ | ⟨y | _, _ | ⟨c, as⟩⟩⟩⟩ <;> try exact (hs : False).elim
  obtain ⟨rfl, rfl, ⟨⟨n, s, pg, wt⟩, ⟨rr, co⟩, M, P, cm⟩, p, w, rfl, rfl, hp, hw, ⟨⟨hV, hM⟩, hC, hP⟩, hq⟩ := hs
  dsimp only at hV hM hC hP hq
  have hV0 := lp_Vis_V0 hV
  have hn := hV.2.1
  have hpg : ∀ j, j < s n → pg j < 10 := fun j hj => (hV.2.2.2.2.2 j hj).2.1
  refine ⟨by show 3 ≤ 5; omega, fun m pc L τ => pc = 8 ∧ m = 0 ∧ σ = τ ∧ L = [some (.inr (some (1, 0))), some (.inl (nI p)), some (.inl (nI w)), some (.inl (nI (lg_lst (n, s, pg, wt)))), none], ?_, ?_⟩
  · ((conv => whnf); (try dsimp only))
    refine ⟨rfl, n, s, pg, wt, hV, ?_⟩
    rcases n with _ | v
    · refine Or.inr ⟨fun v hv => by omega, ?_⟩
      ((conv => whnf); (try dsimp only))
      exact ⟨0, rfl, rfl, rfl, rfl⟩
    · have hv := hV.2.2.2.2.1 v (by omega)
      by_cases hz : s (v + 1) - s v = 0
      · refine Or.inr ⟨fun v' hv' => by rw [show v' = v by omega]; omega, ?_⟩
        ((conv => whnf); (try dsimp only))
        refine ⟨0, rfl, rfl, rfl, ?_⟩
        rw [show lg_lst (v + 1, s, pg, wt) = 10 from if_pos hz]
        rfl
      · refine Or.inl ⟨v, rfl, by omega, ?_⟩
        ((conv => whnf); (try dsimp only))
        refine ⟨0, rfl, rfl, rfl, ?_⟩
        rw [show lg_lst (v + 1, s, pg, wt) = pg (s (v + 1) - 1) from if_neg hz]
        rfl
  · rintro m pc L τ ⟨rfl, rfl, rfl, rfl⟩
    ((conv => whnf); (try dsimp only))
    refine ⟨rfl, n, s, pg, wt, hV, ?_⟩
    rcases n with _ | v
    · refine Or.inr ⟨fun v hv => by omega, ?_⟩
      ((conv => whnf); (try dsimp only))
      refine ⟨fun _ => ?_, fun q => absurd rfl q⟩
      ((conv => whnf); (try dsimp only))
      rcases hq with ⟨h1, -⟩ | ⟨h1, hq⟩
      · exact absurd h1.1 (Nat.lt_irrefl 0)
      · exact hq
    · have hv := hV.2.2.2.2.1 v (by omega)
      have hlst : lg_lst (v + 1, s, pg, wt) = lpl s pg v := rfl
      rw [hlst]
      by_cases hl : s (v + 1) - s v < 20
      · refine Or.inl ⟨v, rfl, hl, ?_⟩
        have hVa := lp_Vis_add (t := p) (w := w) hV hl (by omega) hw
        have hr : ∀ r, ¬ (3 ≤ r ∧ r ≤ 5) → lp_w3 (lp_w3 (lp_w3 σ 3 0 (s (v + 1)) (nI p)) 4 0 (s (v + 1)) (nI w)) 5 0 (v + 1) (nI (s (v + 1) + 1)) r = σ r := fun r hr => by
          rw [lp_w3_r (by omega), lp_w3_r (by omega), lp_w3_r (by omega)]
        have hr1 : ∀ r, lp_w3 (lp_w3 (lp_w3 σ 3 0 (s (v + 1)) (nI p)) 4 0 (s (v + 1)) (nI w)) 5 0 (v + 1) (nI (s (v + 1) + 1)) r 1 = σ r 1 := fun r => by
          rw [lp_w3_ne (by omega), lp_w3_ne (by omega), lp_w3_ne (by omega)]
        generalize lp_w3 (lp_w3 (lp_w3 σ 3 0 (s (v + 1)) (nI p)) 4 0 (s (v + 1)) (nI w)) 5 0 (v + 1) (nI (s (v + 1) + 1)) = τ at hVa hr hr1 ⊢
        ((conv => whnf); (try dsimp only))
        refine ⟨fun q => absurd q (lp_neg1 (by omega)), fun _ => ?_⟩
        ((conv => whnf); (try dsimp only))
        obtain ⟨f1, f2⟩ := lpl_le hV0 hpg
        have hMτ : lp_Mach τ (lp_ctL (v + 1, s, pg, wt)) rr (lp_wcL (v + 1, s, pg, wt)) := lp_Mach_congr hM (hr 7 (by omega)) (hr 8 (by omega)) (hr 9 (by omega)) (fun k _ => by rw [hr 27 (by omega)])
        refine ⟨rfl, rfl, _, rr, _, lpl s pg v, p, w, rfl, rfl, rfl, f1, hp, hw, hMτ, fun z => ?_, fun j hj => ?_, fun τ' hM' hF => ?_⟩
        · show 0 < inL (v + 1) s pg ((lpl s pg v * 11 + 10) / 11) ((lpl s pg v * 11 + 10) % 11)
          rw [show (lpl s pg v * 11 + 10) / 11 = lpl s pg v by omega, show (lpl s pg v * 11 + 10) % 11 = 10 by omega]
          exact lpl_pos hV0 (f2.mpr z)
        · have := inL_le (pg := pg) hV0 (j / 11) (j % 11)
          exact Nat.le_trans this (by omega)
        · ((conv => whnf); (try dsimp only))
          have hMa := lp_Mach_add hV0 hpg hp hw hM'
          rcases hq with ⟨h1, hq⟩ | ⟨h1, hq⟩
          · refine hq τ' ⟨⟨lp_Vis_congr hVa ?_ ?_ ?_ ?_, hMa⟩, LPc_congr hC ?_, LPp_congr hP ?_ (fun r _ _ => ?_) (fun r _ _ => ?_) (fun k hk => ?_)⟩ (fun r hr' => ?_) (fun r _ _ => ?_)
            · rw [hF.1 2 (by omega) (by omega) (by omega) (by omega)]
            · rw [hF.1 3 (by omega) (by omega) (by omega) (by omega)]
            · rw [hF.1 4 (by omega) (by omega) (by omega) (by omega)]
            · rw [hF.1 5 (by omega) (by omega) (by omega) (by omega)]
            · rw [hF.1 15 (by omega) (by omega) (by omega) (by omega), hr 15 (by omega)]
            · rw [hF.1 17 (by omega) (by omega) (by omega) (by omega), hr 17 (by omega)]
            · rw [hF.1 r (by omega) (by omega) (by omega) (by omega), hr1 r]
            · rw [hF.1 r (by omega) (by omega) (by omega) (by omega), hr r (by omega)]
            · rw [(hF.2 k hk).2, hr 28 (by omega)]
            · rw [hF.1 r (by omega) (by omega) (by omega) (by omega), hr r (by omega)]
            · rw [hF.1 r (by omega) (by omega) (by omega) (by omega), hr1 r]
          · exact absurd ⟨Nat.succ_pos v, hl⟩ h1
      · refine Or.inr ⟨fun v' hv' => by rw [show v' = v by omega]; omega, ?_⟩
        ((conv => whnf); (try dsimp only))
        refine ⟨fun _ => ?_, fun q => absurd rfl q⟩
        ((conv => whnf); (try dsimp only))
        rcases hq with ⟨h1, -⟩ | ⟨h1, hq⟩
        · exact absurd h1.2 hl
        · exact hq
def an_ask (x y : Int32) (Z : lpZ) : Int32 := if ir x 9 ∧ ir y 60 ∧ lg_can Z.1 then nI (lg_len Z.1 + 1) else -1
def st_ask (x y : Int32) (Z : lpZ) : lpZ := if ir x 9 ∧ ir y 60 ∧ lg_can Z.1 then (lg_add Z.1 (tn x) (tn y), Z.2) else Z
def sp_X6_ask : lpS := fun as σ Q => match as with
  | [.inr (some (r, k)), .inl x, .inl y] => r = 1 ∧ k = 0 ∧ ∃ Z, lpP σ Z ∧ ∀ τ, lpP τ (st_ask x y Z) → lpFL σ τ → Q (some (an_ask x y Z)) τ
  | _ => False
set_option maxHeartbeats 4000000 in
set_option maxRecDepth 100000 in
theorem ct_X6_ask (l : Launch) (D : va_G) (cI cD : ClassId) : lp_Ct l D cI cD yX6_ask cX6_ask 3 (some .int) 5 sp_X6_ask := by
  refine lp_method0 flX6 pfX6 kcX6 [(58, none, 1, sp_X6_isPage), (62, none, 1, sp_X6_isWait), (65, some 6, 2, sp_X6_note)] false kX6_ask rfl rfl (lp_rI rfl) flX6_ok pfX6_ok kcX6_ok kX6_ask_ok ⟨_, _, rfl, rfl⟩ (lp_cs1 (lp_mkCall lkX6_58 (ct_X6_isPage l D cI cD) (by omega)) (lp_cs1 (lp_mkCall lkX6_62 (ct_X6_isWait l D cI cD) (by omega)) (lp_cs1 (lp_mkCall lkX6_65 (ct_X6_note l D cI cD) (by omega)) lp_cs0))) ?_
  intro as σ Q hs
  rcases as with _ | ⟨_ | _ | ⟨r, k⟩, _ | ⟨x | _, _ | ⟨y | _, _ | ⟨c, as⟩⟩⟩⟩ <;> try exact (hs : False).elim
  obtain ⟨rfl, rfl, Z, hL, hq⟩ := hs
  unfold st_ask an_ask at hq
  refine ⟨Nat.le_refl 3, ?_⟩
  ((conv => whnf); (try dsimp only))
  by_cases hx : ir x 9
  rotate_left
  · simp only [if_neg (show ¬ (ir x 9 ∧ ir y 60 ∧ lg_can Z.1) from fun z => hx z.1)] at hq
    refine Or.inr ⟨fun v hv e1 => hx (ir_of e1 hv (by omega)), ?_⟩
    ((conv => whnf); (try dsimp only))
    refine ⟨fun _ => ?_, fun q => absurd rfl q⟩
    ((conv => whnf); (try dsimp only))
    exact hq σ hL (FL_rf σ)
  refine Or.inl ⟨tn x, hx.2, hx.1, ?_⟩
  ((conv => whnf); (try dsimp only))
  refine ⟨fun q => absurd q (by decide), fun _ => ?_⟩
  ((conv => whnf); (try dsimp only))
  by_cases hy : ir y 60
  rotate_left
  · simp only [if_neg (show ¬ (ir x 9 ∧ ir y 60 ∧ lg_can Z.1) from fun z => hy z.2.1)] at hq
    refine Or.inr ⟨fun v hv e1 => hy (ir_of e1 hv (by omega)), ?_⟩
    ((conv => whnf); (try dsimp only))
    refine ⟨fun q => absurd rfl q, fun _ => ?_⟩
    ((conv => whnf); (try dsimp only))
    exact hq σ hL (FL_rf σ)
  refine Or.inl ⟨tn y, hy.2, hy.1, ?_⟩
  ((conv => whnf); (try dsimp only))
  refine ⟨fun _ => ?_, fun q => absurd q (by decide)⟩
  ((conv => whnf); (try dsimp only))
  refine ⟨rfl, rfl, Z, tn x, tn y, hx.1, hy.1, hx.2, hy.2, hL, ?_⟩
  by_cases hc : lg_can Z.1
  · simp only [if_pos (show (ir x 9 ∧ ir y 60 ∧ lg_can Z.1) from ⟨hx, hy, hc⟩)] at hq
    exact Or.inl ⟨hc, fun τ h1 h2 _ => hq τ h1 h2⟩
  · simp only [if_neg (show ¬ (ir x 9 ∧ ir y 60 ∧ lg_can Z.1) from fun z => hc z.2.2)] at hq
    exact Or.inr ⟨hc, hq σ hL (FL_rf σ)⟩
def st_clear (Z : lpZ) : lpZ := ((0, Z.1.2), Z.2)
def sp_X6_clear : lpS := fun as σ Q => match as with
  | [.inr (some (r, k))] => r = 1 ∧ k = 0 ∧ ∃ Z, lpP σ Z ∧ ∀ τ, lpP τ (st_clear Z) → lpFL σ τ → (∀ r, 2 ≤ r → r ≤ 5 → τ r 1 = σ r 1) → Q none τ
  | _ => False
set_option maxHeartbeats 4000000 in
set_option maxRecDepth 100000 in
theorem ct_X6_clear (l : Launch) (D : va_G) (cI cD : ClassId) : lp_Ct l D cI cD yX6_clear cX6_clear 1 none 2 sp_X6_clear := by
  refine lp_method0 flX6 pfX6 kcX6 [(69, some 4, 0, sp_X4_empty), (72, some 2, 0, sp_X2_forget)] false kX6_clear rfl rfl (lp_rV rfl) flX6_ok pfX6_ok kcX6_ok kX6_clear_ok ⟨_, _, rfl, rfl⟩ (lp_cs1 (lp_mkCall lkX6_69 (ct_X4_empty l D cI cD) (by omega)) (lp_cs1 (lp_mkCall lkX6_72 (ct_X2_forget l D cI cD) (by omega)) lp_cs0)) ?_
  intro as σ Q hs
  rcases as with _ | ⟨_ | _ | ⟨r, k⟩, _ | ⟨c, as⟩⟩ <;> try exact (hs : False).elim
  obtain ⟨rfl, rfl, ⟨⟨n, s, pg, wt⟩, ⟨rr, co⟩, M, P, cm⟩, ⟨⟨hV, hM⟩, hC, hP⟩, hq⟩ := hs
  dsimp only at hV hM hC hP
  refine ⟨Nat.le_refl 1, ?_⟩
  ((conv => whnf); (try dsimp only))
  refine ⟨rfl, ?_⟩
  ((conv => whnf); (try dsimp only))
  refine ⟨rfl, rfl, ?_⟩
  ((conv => whnf); (try dsimp only))
  have hr : ∀ r, r ≠ 2 → r ≠ 7 → r ≠ 27 → lp_clr 27 (lp_fill (lp_w3 σ 2 0 3 (nI 0)) 7 0 121 (nI 0)) 121 r = σ r := fun r h2 h7 h27 => by
    funext k j
    simp [lp_clr, h27, lp_fill, va_up, h7, lp_w3_r h2]
  have hr2 : ∀ k, k ≠ 0 → lp_clr 27 (lp_fill (lp_w3 σ 2 0 3 (nI 0)) 7 0 121 (nI 0)) 121 2 k = σ 2 k := fun k hk => by
    funext j
    simp [lp_clr, lp_fill, va_up, lp_w3_ne (σ := σ) (r := 2) (k := 0) (j := 3) (r' := 2) (k' := k) (x := nI 0) (by omega)]
  have hr2' : lp_clr 27 (lp_fill (lp_w3 σ 2 0 3 (nI 0)) 7 0 121 (nI 0)) 121 2 0 3 = nI 0 := by
    simp [lp_clr, lp_fill, va_up, lp_rd]
  have hr7 : ∀ j, j < 121 → lp_clr 27 (lp_fill (lp_w3 σ 2 0 3 (nI 0)) 7 0 121 (nI 0)) 121 7 0 j = nI 0 := fun j hj => by
    simp [lp_clr, lp_fill, va_up, hj]
  have hr27 : ∀ j, j < 121 → σ 9 0 j ≠ 0 → ∀ w, w < 61 → lp_clr 27 (lp_fill (lp_w3 σ 2 0 3 (nI 0)) 7 0 121 (nI 0)) 121 27 j w = nI 0 := fun j hj hz w hw => by
    have : lp_fill (lp_w3 σ 2 0 3 (nI 0)) 7 0 121 (nI 0) 9 0 j = σ 9 0 j := by simp [lp_fill, va_up, lp_w3_r (σ := σ) (r := 2) (k := 0) (j := 3) (r' := 9) (x := nI 0) (by omega)]
    simp [lp_clr, hj, hw, this, hz]
  generalize lp_clr 27 (lp_fill (lp_w3 σ 2 0 3 (nI 0)) 7 0 121 (nI 0)) 121 = τ at hr hr2 hr2' hr7 hr27 ⊢
  refine hq τ ⟨⟨⟨hr2', by show 0 ≤ 60; omega, fun v hv => ?_, hV.2.2.2.1, fun v hv => absurd hv (Nat.not_lt_zero _), fun j hj => absurd hj (by show ¬ j < s 0; rw [hV.2.2.2.1]; omega)⟩, fun j hj => ⟨hr7 j hj, by show inL 0 s pg _ _ < 30000; exact Nat.lt_of_le_of_lt (Nat.le_refl 0) (by omega)⟩, fun j hj => by rw [hr 8 (by omega) (by omega) (by omega)]; exact hM.2.1 j hj, fun j hj hz w hw => rfl, fun j hj hz w hw => hr27 j hj (by rw [← hr 9 (by omega) (by omega) (by omega)]; exact hz) w hw⟩, LPc_congr hC (hr 15 (by omega) (by omega) (by omega)), LPp_congr hP (hr 17 (by omega) (by omega) (by omega)) (fun r _ _ => ?_) (fun r _ _ => hr r (by omega) (by omega) (by omega)) (fun k _ => by rw [hr 28 (by omega) (by omega) (by omega)])⟩ (fun r _ => hr r (by omega) (by omega) (by omega)) (fun r _ _ => ?_)
  · rw [hr 5 (by omega) (by omega) (by omega)]
    exact hV.2.2.1 v (by have : v ≤ 0 := hv; omega)
  · by_cases e2 : r = 2
    · subst e2; exact hr2 1 (by omega)
    · rw [hr r e2 (by omega) (by omega)]
  · by_cases e2 : r = 2
    · subst e2; exact hr2 1 (by omega)
    · rw [hr r e2 (by omega) (by omega)]
