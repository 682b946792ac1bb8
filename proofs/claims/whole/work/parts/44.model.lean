/-! ===== the model (30, 0): its state as numbers; small methods ===== -/
def MDg (σ : lpM) (L : lpLg) : Prop := σ 30 0 0 = nI L.1 ∧ (∀ v, v < L.1 → σ 31 0 v = nI (L.2.1 (v + 1) - L.2.1 v)) ∧ (∀ v i, v < L.1 → i < L.2.1 (v + 1) - L.2.1 v → σ 32 0 (20 * v + i) = nI (L.2.2.1 (L.2.1 v + i)) ∧ σ 33 0 (20 * v + i) = nI (L.2.2.2 (L.2.1 v + i))) ∧ lpV0 L.1 L.2.1 L.2.2.2 ∧ (∀ j, j < L.2.1 L.1 → L.2.2.1 j < 10)
def MDr (σ : lpM) (rr co : Nat → Nat) : Prop := (∀ j, j < 121 → σ 34 0 j = nI (rr j) ∧ rr j ≤ 100) ∧ (∀ j, j < 10 → σ 35 0 j = nI (co j) ∧ 1 ≤ co j ∧ co j ≤ 50)
def MDp (σ : lpM) (M : lpLg) (P cm : Nat → Nat → Nat) : Prop := (σ 30 0 9 = nI M.1 ∧ σ 30 0 10 = nI (M.2.1 M.1) ∧ σ 30 0 11 = nI (P 7 0) ∧ σ 30 0 12 = nI (P 7 1)) ∧ (∀ v, v < M.1 → σ 38 0 v = nI (M.2.1 (v + 1) - M.2.1 v)) ∧
  (∀ v i, v < M.1 → i < M.2.1 (v + 1) - M.2.1 v → σ 39 0 (20 * v + i) = nI (M.2.2.1 (M.2.1 v + i)) ∧ σ 40 0 (20 * v + i) = nI (M.2.2.2 (M.2.1 v + i)) ∧ σ 41 0 (20 * v + i) = nI (P 3 (M.2.1 v + i)) ∧ σ 42 0 (20 * v + i) = nI (P 4 (M.2.1 v + i)) ∧ σ 43 0 (20 * v + i) = nI (P 5 (M.2.1 v + i)) ∧ σ 44 0 (20 * v + i) = nI (P 6 (M.2.1 v + i))) ∧
  lpV0 M.1 M.2.1 M.2.2.2 ∧ (∀ j, j < M.2.1 M.1 → M.2.2.1 j < 10) ∧ lp_PF M.1 M.2.1 P ∧ (∀ f, f < 11 → ∀ t, t < 11 → σ 45 0 (11 * f + t) = nI (cm f t)) ∧ (M.1 = 0 → ∀ f t, f < 11 → t < 11 → cm f t = 0)
def lpD (σ : lpM) (Z : lpZ) : Prop := MDg σ Z.1 ∧ MDr σ Z.2.1.1 Z.2.1.2 ∧ MDp σ Z.2.2.1 Z.2.2.2.1 Z.2.2.2.2
def lpFM (σ τ : lpM) : Prop := ∀ r, r < 30 → τ r = σ r
theorem lpFM_rf (σ : lpM) : lpFM σ σ := fun _ _ => rfl
theorem lpFM_tr {σ τ υ : lpM} (h1 : lpFM σ τ) (h2 : lpFM τ υ) : lpFM σ υ := fun r hr => by rw [h2 r hr, h1 r hr]
theorem lpFM_w3 {σ τ : lpM} {r k j : Nat} {x : Int32} (h : lpFM σ τ) (hr : 30 ≤ r) : lpFM σ (lp_w3 τ r k j x) := fun r' h' => by
  rw [lp_w3_r (by omega)]
  exact h r' h'
theorem MDg_congr {σ τ : lpM} {L : lpLg} (h : MDg σ L) (h0 : τ 30 0 0 = σ 30 0 0) (hr : ∀ r, 31 ≤ r → r ≤ 33 → τ r = σ r) : MDg τ L := by
  unfold MDg
  rw [h0, hr 31 (by omega) (by omega), hr 32 (by omega) (by omega), hr 33 (by omega) (by omega)]
  exact h
theorem MDr_congr {σ τ : lpM} {rr co : Nat → Nat} (h : MDr σ rr co) (h4 : τ 34 = σ 34) (h5 : τ 35 = σ 35) : MDr τ rr co := by
  unfold MDr
  rw [h4, h5]
  exact h
theorem MDp_congr {σ τ : lpM} {M : lpLg} {P cm : Nat → Nat → Nat} (h : MDp σ M P cm) (h0 : ∀ j, 9 ≤ j → j ≤ 12 → τ 30 0 j = σ 30 0 j) (hr : ∀ r, 38 ≤ r → r ≤ 45 → τ r = σ r) : MDp τ M P cm := by
  unfold MDp
  rw [h0 9 (by omega) (by omega), h0 10 (by omega) (by omega), h0 11 (by omega) (by omega), h0 12 (by omega) (by omega), hr 38 (by omega) (by omega), hr 39 (by omega) (by omega), hr 40 (by omega) (by omega), hr 41 (by omega) (by omega), hr 42 (by omega) (by omega), hr 43 (by omega) (by omega), hr 44 (by omega) (by omega), hr 45 (by omega) (by omega)]
  exact h
theorem lpD_high {σ τ : lpM} {Z : lpZ} (h : lpD σ Z) (hr : ∀ r, 30 ≤ r → τ r = σ r) : lpD τ Z :=
  ⟨MDg_congr h.1 (by rw [hr 30 (by omega)]) (fun r _ _ => hr r (by omega)), MDr_congr h.2.1 (hr 34 (by omega)) (hr 35 (by omega)), MDp_congr h.2.2 (fun j _ _ => by rw [hr 30 (by omega)]) (fun r _ _ => hr r (by omega))⟩
theorem lp_ix {a v i : Nat} : nI a * nI v + nI i = nI (a * v + i) := by rw [pk_mul, nI_add]
theorem lpV0_open {n : Nat} {s wt : Nat → Nat} (h : lpV0 n s wt) (hn : n < 60) : lpV0 (n + 1) (nu s (n + 1) (s n)) wt := by
  obtain ⟨a, b, c, d⟩ := h
  refine ⟨by omega, by rw [nu_ne (by omega)]; exact b, fun v hv => ?_, fun j hj => d j (by rw [nu_same] at hj; exact hj)⟩
  by_cases e1 : v = n
  · subst e1
    rw [nu_same, nu_ne (by omega)]
    omega
  · rw [nu_ne (by omega), nu_ne (by omega)]
    exact c v (by omega)
theorem lpV0_add {v w : Nat} {s wt : Nat → Nat} (h : lpV0 (v + 1) s wt) (hl : s (v + 1) - s v < 20) (hw : w ≤ 60) : lpV0 (v + 1) (nu s (v + 1) (s (v + 1) + 1)) (nu wt (s (v + 1)) w) := by
  obtain ⟨a, b, c, d⟩ := h
  refine ⟨a, by rw [nu_ne (by omega)]; exact b, fun x hx => ?_, fun j hj => ?_⟩
  · have := c x hx
    by_cases e1 : x = v
    · subst e1
      rw [nu_same, nu_ne (by omega)]
      omega
    · rw [nu_ne (by omega), nu_ne (by omega)]
      exact this
  · rw [nu_same] at hj
    by_cases e1 : j = s (v + 1)
    · subst e1; rw [nu_same]; exact hw
    · rw [nu_ne e1]; exact d j (by omega)
def sp_X7_in : lpS := sp_X6_isWithin
set_option maxHeartbeats 4000000 in
set_option maxRecDepth 100000 in
theorem ct_X7_in (l : Launch) (D : va_G) (cI cD : ClassId) : lp_Ct l D cI cD yX7_in cX7_in 3 (some .boolean) 0 sp_X7_in := by
  refine lp_method0 flX7 pfX7 kcX7 [] true kX7_in rfl rfl (lp_rB rfl) flX7_ok pfX7_ok kcX7_ok kX7_in_ok ⟨_, _, rfl, rfl⟩ lp_cs0 ?_
  intro as σ Q hs
  rcases as with _ | ⟨a | a, _ | ⟨b | b, _ | ⟨c | c, _ | ⟨d, as⟩⟩⟩⟩ <;> try exact (hs : False).elim
  refine ⟨Nat.le_refl 3, ?_⟩
  conv => whnf
  refine ⟨fun q1 => ?_, fun q1 => ?_⟩ <;> conv => whnf
  · refine ⟨Or.inl rfl, ?_⟩
    rcases hs with ⟨p1, p2, hq⟩ | ⟨p1, hq⟩
    · exact absurd q1 (Int32.not_lt.mpr p1)
    · exact hq
  · refine ⟨fun q2 => ?_, fun q2 => ?_⟩ <;> conv => whnf
    · refine ⟨Or.inl rfl, ?_⟩
      rcases hs with ⟨p1, p2, hq⟩ | ⟨p1, hq⟩
      · exact absurd q2 (Int32.not_lt.mpr p2)
      · exact hq
    · refine ⟨Or.inr rfl, ?_⟩
      rcases hs with ⟨p1, p2, hq⟩ | ⟨p1, hq⟩
      · exact hq
      · exact absurd ⟨Int32.not_lt.mp q1, Int32.not_lt.mp q2⟩ p1
def sp_X7_arePlaces : lpS := fun as σ Q => match as with
  | [.inl x, .inl y] => ((ir x 10 ∧ ir y 10) ∧ Q (some 1) σ) ∨ (¬ (ir x 10 ∧ ir y 10) ∧ Q (some 0) σ)
  | _ => False
set_option maxHeartbeats 4000000 in
set_option maxRecDepth 100000 in
theorem ct_X7_arePlaces (l : Launch) (D : va_G) (cI cD : ClassId) : lp_Ct l D cI cD yX7_arePlaces cX7_arePlaces 2 (some .boolean) 1 sp_X7_arePlaces := by
  refine lp_method0 flX7 pfX7 kcX7 [(74, none, 3, sp_X7_in)] true kX7_arePlaces rfl rfl (lp_rB rfl) flX7_ok pfX7_ok kcX7_ok kX7_arePlaces_ok ⟨_, _, rfl, rfl⟩ (lp_cs1 (lp_mkCall lkX7_74 (ct_X7_in l D cI cD) (by omega)) lp_cs0) ?_
  intro as σ Q hs
  rcases as with _ | ⟨x | _, _ | ⟨y | _, _ | ⟨c, as⟩⟩⟩ <;> try exact (hs : False).elim
  refine ⟨Nat.le_refl 2, ?_⟩
  ((conv => whnf); (try dsimp only))
  refine lp_upto (n := 10) (by decide) ?_
  by_cases hx : ir x 10
  rotate_left
  · refine Or.inr ⟨fun v hv e1 => hx (ir_of e1 hv (by omega)), ?_⟩
    ((conv => whnf); (try dsimp only))
    refine ⟨fun _ => ?_, fun q => absurd rfl q⟩
    ((conv => whnf); (try dsimp only))
    refine ⟨Or.inl rfl, ?_⟩
    rcases hs with ⟨h, hq⟩ | ⟨h, hq⟩
    · exact absurd h.1 hx
    · exact hq
  refine Or.inl ⟨tn x, hx.2, hx.1, ?_⟩
  ((conv => whnf); (try dsimp only))
  refine ⟨fun q => absurd q (by decide), fun _ => ?_⟩
  ((conv => whnf); (try dsimp only))
  refine lp_upto (n := 10) (by decide) ?_
  by_cases hy : ir y 10
  rotate_left
  · refine Or.inr ⟨fun v hv e1 => hy (ir_of e1 hv (by omega)), ?_⟩
    ((conv => whnf); (try dsimp only))
    refine ⟨fun _ => ?_, fun q => absurd rfl q⟩
    ((conv => whnf); (try dsimp only))
    refine ⟨Or.inl rfl, ?_⟩
    rcases hs with ⟨h, hq⟩ | ⟨h, hq⟩
    · exact absurd h.2 hy
    · exact hq
  refine Or.inl ⟨tn y, hy.2, hy.1, ?_⟩
  ((conv => whnf); (try dsimp only))
  refine ⟨fun q => absurd q (by decide), fun _ => ?_⟩
  ((conv => whnf); (try dsimp only))
  refine ⟨Or.inr rfl, ?_⟩
  rcases hs with ⟨h, hq⟩ | ⟨h, hq⟩
  · exact hq
  · exact absurd ⟨hx, hy⟩ h
def sp_X7_next : lpS := fun as σ Q => match as with
  | [.inr (some (r, k)), .inl x, .inl y] => r = 30 ∧ k = 0 ∧ ∃ (L : lpLg) (v i : Nat), MDg σ L ∧ x = nI v ∧ y = nI i ∧ v < L.1 ∧ i < 1000 ∧ Q (some (nI (ltt L.2.1 L.2.2.1 v i))) σ
  | _ => False
set_option maxHeartbeats 4000000 in
set_option maxRecDepth 100000 in
theorem ct_X7_next (l : Launch) (D : va_G) (cI cD : ClassId) : lp_Ct l D cI cD yX7_next cX7_next 3 (some .int) 0 sp_X7_next := by
  refine lp_method0 flX7 pfX7 kcX7 [] false kX7_next rfl rfl (lp_rI rfl) flX7_ok pfX7_ok kcX7_ok kX7_next_ok ⟨_, _, rfl, rfl⟩ lp_cs0 ?_
  intro as σ Q hs
  rcases as with _ | ⟨_ | _ | ⟨r, k⟩, _ | ⟨x | _, _ | ⟨y | _, _ | ⟨c, as⟩⟩⟩⟩ <;> try exact (hs : False).elim
  obtain ⟨rfl, rfl, ⟨n, s, pg, wt⟩, v, i, ⟨g0, g1, g2, hV, hpg⟩, rfl, rfl, hv, hi, hq⟩ := hs
  dsimp only at g0 g1 g2 hV hpg hv hq
  have hn := hV.1
  have hsv := hV.2.2.1 v hv
  unfold ltt at hq
  refine ⟨Nat.le_refl 3, ?_⟩
  ((conv => whnf); (try dsimp only))
  refine ⟨lp_vin (by omega) (by omega), ?_⟩
  rw [lp_clm (by omega), g1 v hv]
  ((conv => whnf); (try dsimp only))
  refine ⟨fun q => ?_, fun q => ?_⟩ <;> ((conv => whnf); (try dsimp only))
  · rw [nI_leI (by omega) (by omega)] at q
    rw [if_neg (by omega)] at hq
    exact hq
  · rw [nI_leI (by omega) (by omega)] at q
    rw [if_pos (by omega)] at hq
    rw [show (Int8.ofInt 20).toInt32 * nI v + nI i = nI (20 * v + i) from lp_ix]
    refine ⟨lp_vin (by omega) (by omega), ?_⟩
    rw [lp_clm (by omega), (g2 v i hv (by omega)).1]
    ((conv => whnf); (try dsimp only))
    exact hq
def sp_X7_visit : lpS := fun as σ Q => match as with
  | [.inr (some (r, k))] => r = 30 ∧ k = 0 ∧ ∃ Z, lpD σ Z ∧ ∀ τ, lpD τ (st_visit Z) → lpFM σ τ → Q (some (an_visit Z)) τ
  | _ => False
set_option maxHeartbeats 4000000 in
set_option maxRecDepth 100000 in
theorem ct_X7_visit (l : Launch) (D : va_G) (cI cD : ClassId) : lp_Ct l D cI cD yX7_visit cX7_visit 1 (some .int) 0 sp_X7_visit := by
  refine lp_method0 flX7 pfX7 kcX7 [] false kX7_visit rfl rfl (lp_rI rfl) flX7_ok pfX7_ok kcX7_ok kX7_visit_ok ⟨_, _, rfl, rfl⟩ lp_cs0 ?_
  intro as σ Q hs
  rcases as with _ | ⟨_ | _ | ⟨r, k⟩, _ | ⟨c, as⟩⟩ <;> try exact (hs : False).elim
  obtain ⟨rfl, rfl, ⟨⟨n, s, pg, wt⟩, RC, M, P, cm⟩, hD, hq⟩ := hs
  obtain ⟨⟨g0, g1, g2, hV, hpg⟩, hR, hP⟩ := id hD
  dsimp only at g0 g1 g2 hV hpg hR hP
  unfold st_visit an_visit at hq
  dsimp only at hq
  have hn := hV.1
  refine ⟨Nat.le_refl 1, ?_⟩
  ((conv => whnf); (try dsimp only))
  rw [g0]
  have e60 : (nI n = (Int8.ofInt 60).toInt32) ↔ n = 60 := nI_eq (a := n) (b := 60) (by omega) (by omega)
  refine ⟨fun q => ?_, fun q => ?_⟩ <;> ((conv => whnf); (try dsimp only))
  · have h : n < 60 := by have : ¬ n = 60 := fun z => q (e60.mpr z); omega
    simp only [if_pos h] at hq
    rw [g0]
    refine ⟨lp_vin (by omega) (by omega), ?_⟩
    rw [lp_clm (by omega)]
    ((conv => whnf); (try dsimp only))
    have e0 : lp_w3 σ 31 0 n (Int32.ofInt 0) 30 0 0 = nI n := by rw [lp_w3_r (by omega)]; exact g0
    rw [e0, show nI n + Int32.ofInt 1 = nI (n + 1) from (nI_succ n).symm]
    have e1 : lp_w3 (lp_w3 σ 31 0 n (Int32.ofInt 0)) 30 0 0 (nI (n + 1)) 30 0 0 = nI (n + 1) := by rw [lp_rd]; exact if_pos ⟨rfl, rfl, rfl⟩
    rw [e1, show nI (n + 1) - Int32.ofInt 1 = nI n from nI_pred n]
    refine hq _ ⟨⟨e1, fun v hv => ?_, fun v i hv hi => ?_, lpV0_open hV h, fun j hj => ?_⟩, MDr_congr hR ?_ ?_, MDp_congr hP (fun j _ _ => ?_) (fun r _ _ => ?_)⟩ (lpFM_w3 (lpFM_w3 (lpFM_rf σ) (by omega)) (by omega))
    · have hv : v < n + 1 := hv
      show _ = nI (nu s (n + 1) (s n) (v + 1) - nu s (n + 1) (s n) v)
      rw [lp_w3_r (by omega), lp_rd]
      by_cases e2 : v = n
      · subst e2
        rw [if_pos ⟨rfl, rfl, rfl⟩, nu_same, nu_ne (by omega), Nat.sub_self]
        rfl
      · rw [if_neg (fun z => e2 z.2.2), nu_ne (by omega), nu_ne (by omega)]
        exact g1 v (by omega)
    · have hv : v < n + 1 := hv
      replace hi : i < nu s (n + 1) (s n) (v + 1) - nu s (n + 1) (s n) v := hi
      show _ = nI (pg (nu s (n + 1) (s n) v + i)) ∧ _ = nI (wt (nu s (n + 1) (s n) v + i))
      rw [lp_w3_r (by omega), lp_w3_r (by omega), lp_w3_r (by omega), lp_w3_r (by omega), nu_ne (show v ≠ n + 1 by omega)]
      by_cases e2 : v = n
      · subst e2
        rw [nu_same, nu_ne (by omega)] at hi
        omega
      · rw [nu_ne (by omega), nu_ne (by omega)] at hi
        exact g2 v i (by omega) hi
    · replace hj : j < nu s (n + 1) (s n) (n + 1) := hj
      rw [nu_same] at hj
      exact hpg j hj
    · rw [lp_w3_r (by omega), lp_w3_r (by omega)]
    · rw [lp_w3_r (by omega), lp_w3_r (by omega)]
    · rw [lp_rd, if_neg (by omega), lp_w3_r (by omega)]
    · rw [lp_w3_r (by omega), lp_w3_r (by omega)]
  · have h : n = 60 := e60.mp q
    simp only [if_neg (show ¬ n < 60 by omega)] at hq
    exact hq σ hD (lpFM_rf σ)
def sp_X7_clear : lpS := fun as σ Q => match as with
  | [.inr (some (r, k))] => r = 30 ∧ k = 0 ∧ ∃ Z, lpD σ Z ∧ ∀ τ, lpD τ (st_clear Z) → lpFM σ τ → Q none τ
  | _ => False
set_option maxHeartbeats 4000000 in
set_option maxRecDepth 100000 in
theorem ct_X7_clear (l : Launch) (D : va_G) (cI cD : ClassId) : lp_Ct l D cI cD yX7_clear cX7_clear 1 none 0 sp_X7_clear := by
  refine lp_method0 flX7 pfX7 kcX7 [] false kX7_clear rfl rfl (lp_rV rfl) flX7_ok pfX7_ok kcX7_ok kX7_clear_ok ⟨_, _, rfl, rfl⟩ lp_cs0 ?_
  intro as σ Q hs
  rcases as with _ | ⟨_ | _ | ⟨r, k⟩, _ | ⟨c, as⟩⟩ <;> try exact (hs : False).elim
  obtain ⟨rfl, rfl, ⟨⟨n, s, pg, wt⟩, RC, M, P, cm⟩, ⟨⟨g0, g1, g2, hV, hpg⟩, hR, hP⟩, hq⟩ := hs
  dsimp only at g0 g1 g2 hV hpg hR hP
  refine ⟨Nat.le_refl 1, ?_⟩
  ((conv => whnf); (try dsimp only))
  refine hq _ ⟨⟨by rw [lp_rd]; exact if_pos ⟨rfl, rfl, rfl⟩, fun v hv => absurd hv (Nat.not_lt_zero _), fun v i hv => absurd hv (Nat.not_lt_zero _), ⟨by show 0 ≤ 60; omega, hV.2.1, fun v hv => absurd hv (Nat.not_lt_zero _), fun j hj => absurd hj (by show ¬ j < s 0; rw [hV.2.1]; omega)⟩, fun j hj => absurd hj (by show ¬ j < s 0; rw [hV.2.1]; omega)⟩, MDr_congr hR ?_ ?_, MDp_congr hP (fun j _ _ => ?_) (fun r _ _ => ?_)⟩ (lpFM_w3 (lpFM_rf σ) (by omega))
  · rw [lp_w3_r (by omega)]
  · rw [lp_w3_r (by omega)]
  · rw [lp_rd, if_neg (by omega)]
  · rw [lp_w3_r (by omega)]
def sp_X7_rare : lpS := fun as σ Q => match as with
  | [.inr (some (r, k)), .inl x, .inl y, .inl z] => r = 30 ∧ k = 0 ∧ ∃ Z, lpD σ Z ∧ ∀ τ, lpD τ (st_rare x y z Z) → lpFM σ τ → Q (some (an_rare x y z)) τ
  | _ => False
set_option maxHeartbeats 4000000 in
set_option maxRecDepth 100000 in
theorem ct_X7_rare (l : Launch) (D : va_G) (cI cD : ClassId) : lp_Ct l D cI cD yX7_rare cX7_rare 4 (some .boolean) 2 sp_X7_rare := by
  refine lp_method0 flX7 pfX7 kcX7 [(74, none, 3, sp_X7_in), (90, none, 2, sp_X7_arePlaces)] true kX7_rare rfl rfl (lp_rB rfl) flX7_ok pfX7_ok kcX7_ok kX7_rare_ok ⟨_, _, rfl, rfl⟩ (lp_cs1 (lp_mkCall lkX7_74 (ct_X7_in l D cI cD) (by omega)) (lp_cs1 (lp_mkCall lkX7_90 (ct_X7_arePlaces l D cI cD) (by omega)) lp_cs0)) ?_
  intro as σ Q hs
  rcases as with _ | ⟨_ | _ | ⟨r, k⟩, _ | ⟨x | _, _ | ⟨y | _, _ | ⟨z | _, _ | ⟨c, as⟩⟩⟩⟩⟩ <;> try exact (hs : False).elim
  obtain ⟨rfl, rfl, Z, hD, hq⟩ := hs
  unfold an_rare st_rare at hq
  refine ⟨Nat.le_refl 4, ?_⟩
  ((conv => whnf); (try dsimp only))
  by_cases hxy : ir x 10 ∧ ir y 10
  rotate_left
  · simp only [if_neg (show ¬ (ir x 10 ∧ ir y 10 ∧ ir z 100) from fun q => hxy ⟨q.1, q.2.1⟩)] at hq
    refine Or.inr ⟨hxy, ?_⟩
    ((conv => whnf); (try dsimp only))
    refine ⟨fun _ => ?_, fun q => absurd rfl q⟩
    ((conv => whnf); (try dsimp only))
    exact ⟨Or.inl rfl, hq σ hD (lpFM_rf σ)⟩
  refine Or.inl ⟨hxy, ?_⟩
  ((conv => whnf); (try dsimp only))
  refine ⟨fun q => absurd q (by decide), fun _ => ?_⟩
  ((conv => whnf); (try dsimp only))
  refine lp_upto (n := 100) (by decide) ?_
  by_cases hz : ir z 100
  rotate_left
  · simp only [if_neg (show ¬ (ir x 10 ∧ ir y 10 ∧ ir z 100) from fun q => hz q.2.2)] at hq
    refine Or.inr ⟨fun v hv e1 => hz (ir_of e1 hv (by omega)), ?_⟩
    ((conv => whnf); (try dsimp only))
    refine ⟨fun q => absurd rfl q, fun _ => ?_⟩
    ((conv => whnf); (try dsimp only))
    exact ⟨Or.inl rfl, hq σ hD (lpFM_rf σ)⟩
  refine Or.inl ⟨tn z, hz.2, hz.1, ?_⟩
  simp only [if_pos (show (ir x 10 ∧ ir y 10 ∧ ir z 100) from ⟨hxy.1, hxy.2, hz⟩)] at hq
  ((conv => whnf); (try dsimp only))
  refine ⟨fun _ => ?_, fun q => absurd q (by decide)⟩
  ((conv => whnf); (try dsimp only))
  have h1 := hxy.1.2
  have h2 := hxy.2.2
  have e1 : (Int8.ofInt 11).toInt32 * x + y = nI (tn x * 11 + tn y) := by
    have a := hxy.1.1
    have b := hxy.2.1
    generalize tn x = a' at a ⊢
    generalize tn y = b' at b ⊢
    subst a
    subst b
    rw [Nat.mul_comm a' 11]
    exact lp_ix
  rw [e1]
  refine ⟨lp_vin (by omega) (by omega), ?_⟩
  rw [lp_clm (by omega)]
  ((conv => whnf); (try dsimp only))
  refine ⟨Or.inr rfl, hq _ ⟨MDg_congr hD.1 ?_ (fun r _ _ => ?_), ⟨fun j hj => ?_, fun j hj => ?_⟩, MDp_congr hD.2.2 (fun j _ _ => ?_) (fun r _ _ => ?_)⟩ (lpFM_w3 (lpFM_rf σ) (by omega))⟩
  · rw [lp_w3_r (by omega)]
  · rw [lp_w3_r (by omega)]
  · dsimp only
    rw [lp_rd]
    by_cases e2 : j = tn x * 11 + tn y
    · rw [if_pos ⟨rfl, rfl, e2⟩, e2, nu_same]
      exact ⟨hz.1, hz.2⟩
    · rw [if_neg (fun q => e2 q.2.2), nu_ne e2]
      exact hD.2.1.1 j hj
  · rw [lp_w3_r (by omega)]; exact hD.2.1.2 j hj
  · rw [lp_w3_r (by omega)]
  · rw [lp_w3_r (by omega)]
def sp_X7_cost : lpS := fun as σ Q => match as with
  | [.inr (some (r, k)), .inl x, .inl y] => r = 30 ∧ k = 0 ∧ ∃ Z, lpD σ Z ∧ ∀ τ, lpD τ (st_cost x y Z) → lpFM σ τ → Q (some (an_cost x y)) τ
  | _ => False
set_option maxHeartbeats 4000000 in
set_option maxRecDepth 100000 in
theorem ct_X7_cost (l : Launch) (D : va_G) (cI cD : ClassId) : lp_Ct l D cI cD yX7_cost cX7_cost 3 (some .boolean) 1 sp_X7_cost := by
  refine lp_method0 flX7 pfX7 kcX7 [(74, none, 3, sp_X7_in)] true kX7_cost rfl rfl (lp_rB rfl) flX7_ok pfX7_ok kcX7_ok kX7_cost_ok ⟨_, _, rfl, rfl⟩ (lp_cs1 (lp_mkCall lkX7_74 (ct_X7_in l D cI cD) (by omega)) lp_cs0) ?_
  intro as σ Q hs
  rcases as with _ | ⟨_ | _ | ⟨r, k⟩, _ | ⟨x | _, _ | ⟨y | _, _ | ⟨c, as⟩⟩⟩⟩ <;> try exact (hs : False).elim
  obtain ⟨rfl, rfl, Z, hD, hq⟩ := hs
  unfold an_cost st_cost at hq
  refine ⟨Nat.le_refl 3, ?_⟩
  ((conv => whnf); (try dsimp only))
  refine lp_upto (n := 9) (by decide) ?_
  by_cases hx : ir x 9
  rotate_left
  · simp only [if_neg (show ¬ (ir x 9 ∧ ir1 y 50) from fun z => hx z.1)] at hq
    refine Or.inr ⟨fun v hv e1 => hx (ir_of e1 hv (by omega)), ?_⟩
    ((conv => whnf); (try dsimp only))
    refine ⟨fun _ => ?_, fun q => absurd rfl q⟩
    ((conv => whnf); (try dsimp only))
    exact ⟨Or.inl rfl, hq σ hD (lpFM_rf σ)⟩
  refine Or.inl ⟨tn x, hx.2, hx.1, ?_⟩
  ((conv => whnf); (try dsimp only))
  refine ⟨fun q => absurd q (by decide), fun _ => ?_⟩
  ((conv => whnf); (try dsimp only))
  refine lp_upto1 (n := 50) (by decide) ?_
  by_cases hy : ir1 y 50
  rotate_left
  · simp only [if_neg (show ¬ (ir x 9 ∧ ir1 y 50) from fun z => hy z.2)] at hq
    refine Or.inr ⟨fun v h1 hv e1 => hy (ir1_of e1 h1 hv (by omega)), ?_⟩
    ((conv => whnf); (try dsimp only))
    refine ⟨fun q => absurd rfl q, fun _ => ?_⟩
    ((conv => whnf); (try dsimp only))
    exact ⟨Or.inl rfl, hq σ hD (lpFM_rf σ)⟩
  refine Or.inl ⟨tn y, hy.2.1, hy.2.2, hy.1, ?_⟩
  simp only [if_pos (show (ir x 9 ∧ ir1 y 50) from ⟨hx, hy⟩)] at hq
  ((conv => whnf); (try dsimp only))
  refine ⟨fun _ => ?_, fun q => absurd q (by decide)⟩
  ((conv => whnf); (try dsimp only))
  refine ⟨by have h1 := hx.1; have h2 := hx.2; rw [h1]; exact lp_vin (by omega) (by omega), ?_⟩
  ((conv => whnf); (try dsimp only))
  refine ⟨Or.inr rfl, hq _ ⟨MDg_congr hD.1 ?_ (fun r _ _ => ?_), ⟨fun j hj => ?_, fun j hj => ?_⟩, MDp_congr hD.2.2 (fun j _ _ => ?_) (fun r _ _ => ?_)⟩ (lpFM_w3 (lpFM_rf σ) (by omega))⟩
  · rw [lp_w3_r (by omega)]
  · rw [lp_w3_r (by omega)]
  · rw [lp_w3_r (by omega)]; exact hD.2.1.1 j hj
  · dsimp only
    rw [lp_rd]
    by_cases e1 : j = tn x
    · rw [if_pos ⟨rfl, rfl, e1⟩, e1, nu_same]
      exact ⟨hy.1, hy.2⟩
    · rw [if_neg (fun q => e1 q.2.2), nu_ne e1]
      exact hD.2.1.2 j hj
  · rw [lp_w3_r (by omega)]
  · rw [lp_w3_r (by omega)]
