/-! ===== LoadPress: reads ===== -/
def an_steps (x y : Int32) (Z : lpZ) : Int32 := if ir x 10 ∧ ir y 10 then nI (lp_mc (lp_ctL Z.1 (tn x * 11 + tn y)) (Z.2.1.1 (tn x * 11 + tn y))) else nI 0
def sp_X6_steps : lpS := fun as σ Q => match as with
  | [.inr (some (r, k)), .inl x, .inl y] => r = 1 ∧ k = 0 ∧ ∃ Z, lpP σ Z ∧ Q (some (an_steps x y Z)) σ
  | _ => False
set_option maxHeartbeats 4000000 in
set_option maxRecDepth 100000 in
theorem ct_X6_steps (l : Launch) (D : va_G) (cI cD : ClassId) : lp_Ct l D cI cD yX6_steps cX6_steps 3 (some .int) 3 sp_X6_steps := by
  refine lp_method0 flX6 pfX6 kcX6 [(75, some 2, 2, sp_X2_countOf)] false kX6_steps rfl rfl (lp_rI rfl) flX6_ok pfX6_ok kcX6_ok kX6_steps_ok ⟨_, _, rfl, rfl⟩ (lp_cs1 (lp_mkCall lkX6_75 (ct_X2_countOf l D cI cD) (by omega)) lp_cs0) ?_
  intro as σ Q hs
  rcases as with _ | ⟨_ | _ | ⟨r, k⟩, _ | ⟨x | _, _ | ⟨y | _, _ | ⟨c, as⟩⟩⟩⟩ <;> try exact (hs : False).elim
  obtain ⟨rfl, rfl, Z, hL, hq⟩ := hs
  unfold an_steps at hq
  refine ⟨Nat.le_refl 3, ?_⟩
  ((conv => whnf); (try dsimp only))
  refine ⟨rfl, rfl, _, _, _, hL.1.2, ?_⟩
  by_cases h : ir x 10 ∧ ir y 10
  · simp only [if_pos h] at hq
    refine Or.inl ⟨tn x, tn y, h.1.2, h.2.2, h.1.1, h.2.1, ?_⟩
    ((conv => whnf); (try dsimp only))
    exact hq
  · simp only [if_neg h] at hq
    refine Or.inr ⟨fun a b ha hb z => h ⟨ir_of z.1 ha (by omega), ir_of z.2 hb (by omega)⟩, ?_⟩
    ((conv => whnf); (try dsimp only))
    exact hq
def an_waits (x y z : Int32) (Z : lpZ) : Int32 := if ir x 10 ∧ ir y 9 ∧ ir z 60 then nI (lp_wcL Z.1 (tn x * 11 + tn y) (tn z)) else nI 0
def sp_X6_waits : lpS := fun as σ Q => match as with
  | [.inr (some (r, k)), .inl x, .inl y, .inl z] => r = 1 ∧ k = 0 ∧ ∃ Z, lpP σ Z ∧ Q (some (an_waits x y z Z)) σ
  | _ => False
set_option maxHeartbeats 4000000 in
set_option maxRecDepth 100000 in
theorem ct_X6_waits (l : Launch) (D : va_G) (cI cD : ClassId) : lp_Ct l D cI cD yX6_waits cX6_waits 4 (some .int) 3 sp_X6_waits := by
  refine lp_method0 flX6 pfX6 kcX6 [(78, some 2, 3, sp_X2_timesOfWait)] false kX6_waits rfl rfl (lp_rI rfl) flX6_ok pfX6_ok kcX6_ok kX6_waits_ok ⟨_, _, rfl, rfl⟩ (lp_cs1 (lp_mkCall lkX6_78 (ct_X2_timesOfWait l D cI cD) (by omega)) lp_cs0) ?_
  intro as σ Q hs
  rcases as with _ | ⟨_ | _ | ⟨r, k⟩, _ | ⟨x | _, _ | ⟨y | _, _ | ⟨z | _, _ | ⟨c, as⟩⟩⟩⟩⟩ <;> try exact (hs : False).elim
  obtain ⟨rfl, rfl, Z, hL, hq⟩ := hs
  unfold an_waits at hq
  refine ⟨Nat.le_refl 4, ?_⟩
  ((conv => whnf); (try dsimp only))
  refine ⟨rfl, rfl, _, _, _, hL.1.2, ?_⟩
  by_cases h : ir x 10 ∧ ir y 9 ∧ ir z 60
  · simp only [if_pos h] at hq
    refine Or.inl ⟨tn x, tn y, tn z, h.1.2, h.2.1.2, h.2.2.2, h.1.1, h.2.1.1, h.2.2.1, ?_⟩
    ((conv => whnf); (try dsimp only))
    exact hq
  · simp only [if_neg h] at hq
    refine Or.inr ⟨fun a b c ha hb hc z => h ⟨ir_of z.1 ha (by omega), ir_of z.2.1 hb (by omega), ir_of z.2.2 hc (by omega)⟩, ?_⟩
    ((conv => whnf); (try dsimp only))
    exact hq
def an_rare (x y z : Int32) : Int32 := if ir x 10 ∧ ir y 10 ∧ ir z 100 then 1 else 0
def st_rare (x y z : Int32) (Z : lpZ) : lpZ := if ir x 10 ∧ ir y 10 ∧ ir z 100 then (Z.1, (nu Z.2.1.1 (tn x * 11 + tn y) (tn z), Z.2.1.2), Z.2.2) else Z
def sp_X6_rare : lpS := fun as σ Q => match as with
  | [.inr (some (r, k)), .inl x, .inl y, .inl z] => r = 1 ∧ k = 0 ∧ ∃ Z, lpP σ Z ∧ ∀ τ, lpP τ (st_rare x y z Z) → lpFL σ τ → Q (some (an_rare x y z)) τ
  | _ => False
set_option maxHeartbeats 4000000 in
set_option maxRecDepth 100000 in
theorem ct_X6_rare (l : Launch) (D : va_G) (cI cD : ClassId) : lp_Ct l D cI cD yX6_rare cX6_rare 4 (some .boolean) 3 sp_X6_rare := by
  refine lp_method0 flX6 pfX6 kcX6 [(82, some 2, 3, sp_X2_tellRare)] true kX6_rare rfl rfl (lp_rB rfl) flX6_ok pfX6_ok kcX6_ok kX6_rare_ok ⟨_, _, rfl, rfl⟩ (lp_cs1 (lp_mkCall lkX6_82 (ct_X2_tellRare l D cI cD) (by omega)) lp_cs0) ?_
  intro as σ Q hs
  rcases as with _ | ⟨_ | _ | ⟨r, k⟩, _ | ⟨x | _, _ | ⟨y | _, _ | ⟨z | _, _ | ⟨c, as⟩⟩⟩⟩⟩ <;> try exact (hs : False).elim
  obtain ⟨rfl, rfl, Z, hL, hq⟩ := hs
  unfold an_rare st_rare at hq
  refine ⟨Nat.le_refl 4, ?_⟩
  ((conv => whnf); (try dsimp only))
  refine ⟨rfl, rfl, ?_⟩
  by_cases h : ir x 10 ∧ ir y 10 ∧ ir z 100
  · simp only [if_pos h] at hq
    refine Or.inl ⟨tn x, tn y, tn z, h.1.2, h.2.1.2, h.2.2.2, h.1.1, h.2.1.1, h.2.2.1, ?_⟩
    ((conv => whnf); (try dsimp only))
    refine ⟨Or.inr rfl, hq _ ⟨⟨lp_Vis_congr hL.1.1 ?_ ?_ ?_ ?_, fun j hj => ?_, fun j hj => ?_, fun j hj => ?_, fun j hj => ?_⟩, LPc_congr hL.2.1 ?_, LPp_congr hL.2.2 ?_ (fun r _ _ => ?_) (fun r _ _ => ?_) (fun k _ => ?_)⟩ (fun r _ => ?_)⟩
    · rw [lp_w3_r (by omega)]
    · rw [lp_w3_r (by omega)]
    · rw [lp_w3_r (by omega)]
    · rw [lp_w3_r (by omega)]
    · rw [lp_w3_r (by omega)]; exact hL.1.2.1 j hj
    · dsimp only
      rw [lp_rd]
      have := hL.1.2.2.1 j hj
      by_cases e1 : j = tn x * 11 + tn y
      · rw [if_pos ⟨rfl, rfl, e1⟩, e1, nu_same]
        exact ⟨rfl, h.2.2.2⟩
      · rw [if_neg (fun q => e1 q.2.2), nu_ne e1]
        exact this
    · rw [lp_w3_r (by omega)]; exact hL.1.2.2.2.1 j hj
    · rw [lp_w3_r (by omega), lp_w3_r (by omega)]; exact hL.1.2.2.2.2 j hj
    · rw [lp_w3_r (by omega)]
    · rw [lp_w3_r (by omega)]
    · rw [lp_w3_r (by omega)]
    · rw [lp_w3_r (by omega)]
    · rw [lp_w3_r (by omega)]
    · rw [lp_w3_r (by omega)]
  · simp only [if_neg h] at hq
    refine Or.inr ⟨fun a b c ha hb hc z => h ⟨ir_of z.1 ha (by omega), ir_of z.2.1 hb (by omega), ir_of z.2.2 hc (by omega)⟩, ?_⟩
    ((conv => whnf); (try dsimp only))
    exact ⟨Or.inl rfl, hq σ hL (FL_rf σ)⟩
def an_cost (x y : Int32) : Int32 := if ir x 9 ∧ ir1 y 50 then 1 else 0
def st_cost (x y : Int32) (Z : lpZ) : lpZ := if ir x 9 ∧ ir1 y 50 then (Z.1, (Z.2.1.1, nu Z.2.1.2 (tn x) (tn y)), Z.2.2) else Z
def sp_X6_cost : lpS := fun as σ Q => match as with
  | [.inr (some (r, k)), .inl x, .inl y] => r = 1 ∧ k = 0 ∧ ∃ Z, lpP σ Z ∧ ∀ τ, lpP τ (st_cost x y Z) → lpFL σ τ → Q (some (an_cost x y)) τ
  | _ => False
set_option maxHeartbeats 4000000 in
set_option maxRecDepth 100000 in
theorem ct_X6_cost (l : Launch) (D : va_G) (cI cD : ClassId) : lp_Ct l D cI cD yX6_cost cX6_cost 3 (some .boolean) 2 sp_X6_cost := by
  refine lp_method0 flX6 pfX6 kcX6 [(58, none, 1, sp_X6_isPage), (86, none, 3, sp_X6_isWithin)] true kX6_cost rfl rfl (lp_rB rfl) flX6_ok pfX6_ok kcX6_ok kX6_cost_ok ⟨_, _, rfl, rfl⟩ (lp_cs1 (lp_mkCall lkX6_58 (ct_X6_isPage l D cI cD) (by omega)) (lp_cs1 (lp_mkCall lkX6_86 (ct_X6_isWithin l D cI cD) (by omega)) lp_cs0)) ?_
  intro as σ Q hs
  rcases as with _ | ⟨_ | _ | ⟨r, k⟩, _ | ⟨x | _, _ | ⟨y | _, _ | ⟨c, as⟩⟩⟩⟩ <;> try exact (hs : False).elim
  obtain ⟨rfl, rfl, Z, hL, hq⟩ := hs
  unfold an_cost st_cost at hq
  refine ⟨Nat.le_refl 3, ?_⟩
  ((conv => whnf); (try dsimp only))
  by_cases hx : ir x 9
  rotate_left
  · simp only [if_neg (show ¬ (ir x 9 ∧ ir1 y 50) from fun z => hx z.1)] at hq
    refine Or.inr ⟨fun v hv e1 => hx (ir_of e1 hv (by omega)), ?_⟩
    ((conv => whnf); (try dsimp only))
    refine ⟨fun _ => ?_, fun q => absurd rfl q⟩
    ((conv => whnf); (try dsimp only))
    exact ⟨Or.inl rfl, hq σ hL (FL_rf σ)⟩
  refine Or.inl ⟨tn x, hx.2, hx.1, ?_⟩
  ((conv => whnf); (try dsimp only))
  refine ⟨fun q => absurd q (by decide), fun _ => ?_⟩
  ((conv => whnf); (try dsimp only))
  refine lp_upto1 (n := 50) (by decide) ?_
  by_cases hy : ir1 y 50
  rotate_left
  · simp only [if_neg (show ¬ (ir x 9 ∧ ir1 y 50) from fun z => hy z.2)] at hq
    refine Or.inr ⟨fun v h1 hv e1 => hy (ir1_of e1 h1 hv (by omega)), ?_⟩
    ((conv => whnf); (try dsimp only))
    refine ⟨fun q => absurd rfl q, fun _ => ?_⟩
    ((conv => whnf); (try dsimp only))
    exact ⟨Or.inl rfl, hq σ hL (FL_rf σ)⟩
  refine Or.inl ⟨tn y, hy.2.1, hy.2.2, hy.1, ?_⟩
  simp only [if_pos (show (ir x 9 ∧ ir1 y 50) from ⟨hx, hy⟩)] at hq
  ((conv => whnf); (try dsimp only))
  refine ⟨fun _ => ?_, fun q => absurd q (by decide)⟩
  ((conv => whnf); (try dsimp only))
  refine ⟨by have h1 := hx.1; have h2 := hx.2; rw [h1]; exact lp_vin (by omega) (by omega), ?_⟩
  ((conv => whnf); (try dsimp only))
  refine ⟨Or.inr rfl, hq _ ⟨LPg_congr hL.1 (fun r _ _ => ?_) (fun r _ _ => ?_) (fun k _ => ?_), fun j hj => ?_, LPp_congr hL.2.2 ?_ (fun r _ _ => ?_) (fun r _ _ => ?_) (fun k _ => ?_)⟩ (fun r _ => ?_)⟩
  · rw [lp_w3_r (by omega)]
  · rw [lp_w3_r (by omega)]
  · rw [lp_w3_r (by omega)]
  · dsimp only
    rw [lp_rd]
    have := hL.2.1 j hj
    by_cases e1 : j = tn x
    · rw [if_pos ⟨rfl, rfl, e1⟩, e1, nu_same]
      exact ⟨hy.1, hy.2⟩
    · rw [if_neg (fun q => e1 q.2.2), nu_ne e1]
      exact this
  · rw [lp_w3_r (by omega)]
  · rw [lp_w3_r (by omega)]
  · rw [lp_w3_r (by omega)]
  · rw [lp_w3_r (by omega)]
  · rw [lp_w3_r (by omega)]
theorem LP_FX {σ τ : lpM} {Z : lpZ} (h : lpP σ Z) (hF : lp_FX σ τ) : lpP τ Z :=
  ⟨LPg_congr h.1 (fun r _ _ => by rw [hF r (by omega)]) (fun r _ _ => hF r (by omega)) (fun k _ => by rw [hF 27 (by omega)]), LPc_congr h.2.1 (hF 15 (by omega)), LPp_congr h.2.2 (hF 17 (by omega)) (fun r _ _ => by rw [hF r (by omega)]) (fun r _ _ => hF r (by omega)) (fun k _ => by rw [hF 28 (by omega)])⟩
theorem FL_FX {σ τ : lpM} (hF : lp_FX σ τ) : lpFL σ τ := fun r hr => hF r (by omega)
noncomputable def an_contexts (x : Int32) (Z : lpZ) : Int32 := if ir1 x 4 then nI (cnum (gth Z.1.1 Z.1.2.1 Z.1.2.2.1 (tn x))) else -1
noncomputable def an_states (x : Int32) (Z : lpZ) : Int32 := if ir1 x 4 then nI (cstt (gth Z.1.1 Z.1.2.1 Z.1.2.2.1 (tn x))) else -1
def sp_X6_contexts : lpS := fun as σ Q => match as with
  | [.inr (some (r, k)), .inl x] => r = 1 ∧ k = 0 ∧ ∃ Z, lpP σ Z ∧ ∀ τ, lpP τ Z → lpFL σ τ → Q (some (an_contexts x Z)) τ
  | _ => False
set_option maxHeartbeats 4000000 in
set_option maxRecDepth 100000 in
theorem ct_X6_contexts (l : Launch) (D : va_G) (cI cD : ClassId) : lp_Ct l D cI cD yX6_contexts cX6_contexts 2 (some .int) 5 sp_X6_contexts := by
  refine lp_method0 flX6 pfX6 kcX6 [(86, none, 3, sp_X6_isWithin), (89, some 0, 2, sp_X0_gather), (93, some 0, 0, sp_X0_number)] false kX6_contexts rfl rfl (lp_rI rfl) flX6_ok pfX6_ok kcX6_ok kX6_contexts_ok ⟨_, _, rfl, rfl⟩ (lp_cs1 (lp_mkCall lkX6_86 (ct_X6_isWithin l D cI cD) (by omega)) (lp_cs1 (lp_mkCall lkX6_89 (ct_X0_gather l D cI cD) (by omega)) (lp_cs1 (lp_mkCall lkX6_93 (ct_X0_number l D cI cD) (by omega)) lp_cs0))) ?_
  intro as σ Q hs
  rcases as with _ | ⟨_ | _ | ⟨r, k⟩, _ | ⟨x | _, _ | ⟨c, as⟩⟩⟩ <;> try exact (hs : False).elim
  obtain ⟨rfl, rfl, Z, hL, hq⟩ := hs
  unfold an_contexts at hq
  refine ⟨Nat.le_refl 2, ?_⟩
  ((conv => whnf); (try dsimp only))
  refine lp_upto1 (n := 4) (by decide) ?_
  by_cases hx : ir1 x 4
  rotate_left
  · simp only [if_neg hx] at hq
    refine Or.inr ⟨fun v h1 hv e1 => hx (ir1_of e1 h1 hv (by omega)), ?_⟩
    ((conv => whnf); (try dsimp only))
    refine ⟨fun q => absurd rfl q, fun _ => ?_⟩
    ((conv => whnf); (try dsimp only))
    exact hq σ hL (FL_rf σ)
  simp only [if_pos hx] at hq
  refine Or.inl ⟨tn x, hx.2.1, hx.2.2, hx.1, ?_⟩
  ((conv => whnf); (try dsimp only))
  refine ⟨fun _ => ?_, fun q => absurd q (by decide)⟩
  ((conv => whnf); (try dsimp only))
  refine ⟨rfl, rfl, rfl, rfl, _, tn x, _, _, _, hL.1.1, hx.1, hx.2.1, hx.2.2, fun τ D h1 h2 h3 h4 => ?_⟩
  ((conv => whnf); (try dsimp only))
  refine ⟨rfl, rfl, _, D, h2, h4, ?_⟩
  ((conv => whnf); (try dsimp only))
  rw [prm_cnum h3]
  exact hq τ (LP_FX hL h1) (FL_FX h1)
def sp_X6_states : lpS := fun as σ Q => match as with
  | [.inr (some (r, k)), .inl x] => r = 1 ∧ k = 0 ∧ ∃ Z, lpP σ Z ∧ ∀ τ, lpP τ Z → lpFL σ τ → Q (some (an_states x Z)) τ
  | _ => False
set_option maxHeartbeats 4000000 in
set_option maxRecDepth 100000 in
theorem ct_X6_states (l : Launch) (D : va_G) (cI cD : ClassId) : lp_Ct l D cI cD yX6_states cX6_states 2 (some .int) 5 sp_X6_states := by
  refine lp_method0 flX6 pfX6 kcX6 [(86, none, 3, sp_X6_isWithin), (89, some 0, 2, sp_X0_gather), (96, some 0, 0, sp_X0_numberOfUnlike)] false kX6_states rfl rfl (lp_rI rfl) flX6_ok pfX6_ok kcX6_ok kX6_states_ok ⟨_, _, rfl, rfl⟩ (lp_cs1 (lp_mkCall lkX6_86 (ct_X6_isWithin l D cI cD) (by omega)) (lp_cs1 (lp_mkCall lkX6_89 (ct_X0_gather l D cI cD) (by omega)) (lp_cs1 (lp_mkCall lkX6_96 (ct_X0_numberOfUnlike l D cI cD) (by omega)) lp_cs0))) ?_
  intro as σ Q hs
  rcases as with _ | ⟨_ | _ | ⟨r, k⟩, _ | ⟨x | _, _ | ⟨c, as⟩⟩⟩ <;> try exact (hs : False).elim
  obtain ⟨rfl, rfl, Z, hL, hq⟩ := hs
  unfold an_states at hq
  refine ⟨Nat.le_refl 2, ?_⟩
  ((conv => whnf); (try dsimp only))
  refine lp_upto1 (n := 4) (by decide) ?_
  by_cases hx : ir1 x 4
  rotate_left
  · simp only [if_neg hx] at hq
    refine Or.inr ⟨fun v h1 hv e1 => hx (ir1_of e1 h1 hv (by omega)), ?_⟩
    ((conv => whnf); (try dsimp only))
    refine ⟨fun q => absurd rfl q, fun _ => ?_⟩
    ((conv => whnf); (try dsimp only))
    exact hq σ hL (FL_rf σ)
  simp only [if_pos hx] at hq
  refine Or.inl ⟨tn x, hx.2.1, hx.2.2, hx.1, ?_⟩
  ((conv => whnf); (try dsimp only))
  refine ⟨fun _ => ?_, fun q => absurd q (by decide)⟩
  ((conv => whnf); (try dsimp only))
  refine ⟨rfl, rfl, rfl, rfl, _, tn x, _, _, _, hL.1.1, hx.1, hx.2.1, hx.2.2, fun τ D h1 h2 h3 h4 => ?_⟩
  ((conv => whnf); (try dsimp only))
  refine ⟨rfl, rfl, _, D, h2, h4, fun τ' h5 => ?_⟩
  ((conv => whnf); (try dsimp only))
  rw [prm_cstt h3]
  exact hq τ' (LP_FX hL (lp_FX_tr h1 h5)) (FL_FX (lp_FX_tr h1 h5))
def an_walked (x : Int32) (Z : lpZ) : Int32 := if 0 < Z.2.2.1.1 ∧ ir x (Z.2.2.1.1 - 1) then nI (Z.2.2.1.2.1 (tn x + 1) - Z.2.2.1.2.1 (tn x)) else -1
def sp_X6_walked : lpS := fun as σ Q => match as with
  | [.inr (some (r, k)), .inl x] => r = 1 ∧ k = 0 ∧ ∃ Z, lpP σ Z ∧ Q (some (an_walked x Z)) σ
  | _ => False
set_option maxHeartbeats 4000000 in
set_option maxRecDepth 100000 in
theorem ct_X6_walked (l : Launch) (D : va_G) (cI cD : ClassId) : lp_Ct l D cI cD yX6_walked cX6_walked 2 (some .int) 3 sp_X6_walked := by
  refine lp_method0 flX6 pfX6 kcX6 [(113, some 4, 1, sp_X4_lengthOf)] false kX6_walked rfl rfl (lp_rI rfl) flX6_ok pfX6_ok kcX6_ok kX6_walked_ok ⟨_, _, rfl, rfl⟩ (lp_cs1 (lp_mkCall lkX6_113 (ct_X4_lengthOf l D cI cD) (by omega)) lp_cs0) ?_
  intro as σ Q hs
  rcases as with _ | ⟨_ | _ | ⟨r, k⟩, _ | ⟨x | _, _ | ⟨c, as⟩⟩⟩ <;> try exact (hs : False).elim
  obtain ⟨rfl, rfl, Z, hL, hq⟩ := hs
  have hV := hL.2.2.2.1
  have hn := hV.2.1
  unfold an_walked at hq
  refine ⟨Nat.le_refl 2, ?_⟩
  ((conv => whnf); (try dsimp only))
  refine ⟨rfl, _, _, _, _, hV, ?_⟩
  by_cases h : 0 < Z.2.2.1.1 ∧ ir x (Z.2.2.1.1 - 1)
  · simp only [if_pos h] at hq
    refine Or.inl ⟨tn x, by have := h.2.2; omega, h.2.1, ?_⟩
    ((conv => whnf); (try dsimp only))
    exact hq
  · simp only [if_neg h] at hq
    refine Or.inr ⟨fun v hv e1 => h ⟨by omega, ir_of e1 (by omega) (by omega)⟩, ?_⟩
    ((conv => whnf); (try dsimp only))
    exact hq
def an_told (x y z : Int32) (Z : lpZ) : Int32 := if 0 < Z.2.2.1.1 ∧ ir x (Z.2.2.1.1 - 1) ∧ 0 < Z.2.2.1.2.1 (tn x + 1) - Z.2.2.1.2.1 (tn x) ∧ ir y (Z.2.2.1.2.1 (tn x + 1) - Z.2.2.1.2.1 (tn x) - 1) then lp_tv (Z.2.2.1.2.2.1 (Z.2.2.1.2.1 (tn x) + tn y)) (Z.2.2.1.2.2.2 (Z.2.2.1.2.1 (tn x) + tn y)) (Z.2.2.2.1 3 (Z.2.2.1.2.1 (tn x) + tn y)) (Z.2.2.2.1 4 (Z.2.2.1.2.1 (tn x) + tn y)) (Z.2.2.2.1 5 (Z.2.2.1.2.1 (tn x) + tn y)) (Z.2.2.2.1 6 (Z.2.2.1.2.1 (tn x) + tn y)) z else -1
def sp_X6_told : lpS := fun as σ Q => match as with
  | [.inr (some (r, k)), .inl x, .inl y, .inl z] => r = 1 ∧ k = 0 ∧ ∃ Z, lpP σ Z ∧ Q (some (an_told x y z Z)) σ
  | _ => False
set_option maxHeartbeats 4000000 in
set_option maxRecDepth 100000 in
theorem ct_X6_told (l : Launch) (D : va_G) (cI cD : ClassId) : lp_Ct l D cI cD yX6_told cX6_told 4 (some .int) 4 sp_X6_told := by
  refine lp_method0 flX6 pfX6 kcX6 [(117, some 4, 2, sp_X4_slotOf), (120, some 3, 2, sp_X3_tell)] false kX6_told rfl rfl (lp_rI rfl) flX6_ok pfX6_ok kcX6_ok kX6_told_ok ⟨_, _, rfl, rfl⟩ (lp_cs1 (lp_mkCall lkX6_117 (ct_X4_slotOf l D cI cD) (by omega)) (lp_cs1 (lp_mkCall lkX6_120 (ct_X3_tell l D cI cD) (by omega)) lp_cs0)) ?_
  intro as σ Q hs
  rcases as with _ | ⟨_ | _ | ⟨r, k⟩, _ | ⟨x | _, _ | ⟨y | _, _ | ⟨z | _, _ | ⟨c, as⟩⟩⟩⟩⟩ <;> try exact (hs : False).elim
  obtain ⟨rfl, rfl, ⟨L, C, ⟨N, s, pg, wt⟩, P, cm⟩, hL, hq⟩ := hs
  obtain ⟨-, -, -, hV, hD, -⟩ := hL
  dsimp only at hV hD
  have hn := hV.2.1
  unfold an_told at hq
  dsimp only at hq
  refine ⟨Nat.le_refl 4, ?_⟩
  ((conv => whnf); (try dsimp only))
  refine ⟨rfl, _, _, _, _, hV, ?_⟩
  by_cases h : 0 < N ∧ ir x (N - 1) ∧ 0 < s (tn x + 1) - s (tn x) ∧ ir y (s (tn x + 1) - s (tn x) - 1)
  · simp only [if_pos h] at hq
    obtain ⟨h1, h2, h3, h4⟩ := h
    have hv : tn x < N := by have := h2.2; omega
    have hi : tn y < s (tn x + 1) - s (tn x) := by have := h4.2; omega
    refine Or.inl ⟨tn x, tn y, hv, hi, h2.1, h4.1, ?_⟩
    ((conv => whnf); (try dsimp only))
    have hsn := lp_Vis_sn hV (show tn x + 1 ≤ N by omega)
    refine ⟨rfl, rfl, _, _, _, _, P, hV, hD, Or.inl ⟨s (tn x) + tn y, by omega, rfl, ?_⟩⟩
    ((conv => whnf); (try dsimp only))
    exact hq
  · simp only [if_neg h] at hq
    refine Or.inr ⟨fun v i hv hi z => h ?_, ?_⟩
    · have hs := lp_Vis_sn hV (show v + 1 ≤ N by omega)
      have hb := lp_Vis_bd hV
      have e1 : tn x = v := by rw [z.1]; exact lp_clm (by omega)
      refine ⟨by omega, ir_of z.1 (by omega) (by omega), ?_, ?_⟩
      · rw [e1]; omega
      · rw [e1]; exact ir_of z.2 (by omega) (by omega)
    · ((conv => whnf); (try dsimp only))
      refine ⟨rfl, rfl, _, _, _, _, P, hV, hD, Or.inr ⟨fun j hj e1 => ?_, ?_⟩⟩
      · have hb := lp_Vis_bd hV
        exact lp_neg1 (show j < 2 ^ 31 by omega) e1.symm
      · ((conv => whnf); (try dsimp only))
        exact hq
def an_dealt (x y : Int32) (Z : lpZ) : Int32 := if ir x 10 ∧ ir y 10 then nI (Z.2.2.2.2 (tn x) (tn y)) else nI 0
def sp_X6_dealt : lpS := fun as σ Q => match as with
  | [.inr (some (r, k)), .inl x, .inl y] => r = 1 ∧ k = 0 ∧ ∃ Z, lpP σ Z ∧ Q (some (an_dealt x y Z)) σ
  | _ => False
set_option maxHeartbeats 4000000 in
set_option maxRecDepth 100000 in
theorem ct_X6_dealt (l : Launch) (D : va_G) (cI cD : ClassId) : lp_Ct l D cI cD yX6_dealt cX6_dealt 3 (some .int) 3 sp_X6_dealt := by
  refine lp_method0 flX6 pfX6 kcX6 [(123, some 5, 2, sp_X5_timesOf)] false kX6_dealt rfl rfl (lp_rI rfl) flX6_ok pfX6_ok kcX6_ok kX6_dealt_ok ⟨_, _, rfl, rfl⟩ (lp_cs1 (lp_mkCall lkX6_123 (ct_X5_timesOf l D cI cD) (by omega)) lp_cs0) ?_
  intro as σ Q hs
  rcases as with _ | ⟨_ | _ | ⟨r, k⟩, _ | ⟨x | _, _ | ⟨y | _, _ | ⟨c, as⟩⟩⟩⟩ <;> try exact (hs : False).elim
  obtain ⟨rfl, rfl, Z, hL, hq⟩ := hs
  unfold an_dealt at hq
  refine ⟨Nat.le_refl 3, ?_⟩
  ((conv => whnf); (try dsimp only))
  refine ⟨rfl, rfl, hL.2.2.1, ?_⟩
  by_cases h : ir x 10 ∧ ir y 10
  · simp only [if_pos h] at hq
    refine Or.inl ⟨tn x, tn y, h.1.2, h.2.2, h.1.1, h.2.1, ?_⟩
    ((conv => whnf); (try dsimp only))
    rw [hL.2.2.2.2.2.2.2 (tn x) (by have := h.1.2; omega) (tn y) (by have := h.2.2; omega)]
    exact hq
  · simp only [if_neg h] at hq
    refine Or.inr ⟨fun a b ha hb z => h ⟨ir_of z.1 ha (by omega), ir_of z.2 hb (by omega)⟩, ?_⟩
    ((conv => whnf); (try dsimp only))
    exact hq
def an_behind (Z : lpZ) : Int32 := if Z.2.2.2.1 7 3 < Z.2.2.2.1 7 2 then nI (Z.2.2.2.1 7 3) else -1
def sp_X6_behind : lpS := fun as σ Q => match as with
  | [.inr (some (r, k))] => r = 1 ∧ k = 0 ∧ ∃ Z, lpP σ Z ∧ Q (some (an_behind Z)) σ
  | _ => False
set_option maxHeartbeats 4000000 in
set_option maxRecDepth 100000 in
theorem ct_X6_behind (l : Launch) (D : va_G) (cI cD : ClassId) : lp_Ct l D cI cD yX6_behind cX6_behind 1 (some .int) 1 sp_X6_behind := by
  refine lp_method0 flX6 pfX6 kcX6 [(136, some 3, 0, sp_X3_fallsBehind)] false kX6_behind rfl rfl (lp_rI rfl) flX6_ok pfX6_ok kcX6_ok kX6_behind_ok ⟨_, _, rfl, rfl⟩ (lp_cs1 (lp_mkCall lkX6_136 (ct_X3_fallsBehind l D cI cD) (by omega)) lp_cs0) ?_
  intro as σ Q hs
  rcases as with _ | ⟨_ | _ | ⟨r, k⟩, _ | ⟨c, as⟩⟩ <;> try exact (hs : False).elim
  obtain ⟨rfl, rfl, Z, hL, hq⟩ := hs
  obtain ⟨-, -, -, -, -, ⟨d1, d2, d3, d4⟩, hb, -⟩ := hL
  have hb2 := hb 2
  have hb3 := hb 3
  unfold an_behind at hq
  refine ⟨Nat.le_refl 1, ?_⟩
  ((conv => whnf); (try dsimp only))
  refine ⟨rfl, rfl, _, _, d1, d2, by omega, by omega, ?_⟩
  by_cases h : Z.2.2.2.1 7 3 < Z.2.2.2.1 7 2
  · simp only [if_pos h] at hq
    refine Or.inl ⟨h, ?_⟩
    ((conv => whnf); (try dsimp only))
    exact hq
  · simp only [if_neg h] at hq
    refine Or.inr ⟨by omega, ?_⟩
    ((conv => whnf); (try dsimp only))
    exact hq
