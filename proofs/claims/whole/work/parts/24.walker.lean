/-! ===== Walker: the cell (16, 0), its Dealings (26 .., 121 + place) ===== -/
theorem lp_Vis_congr {σ τ : lpM} {k n : Nat} {s pg wt : Nat → Nat} (h : lp_Vis σ k n s pg wt) (h2 : τ 2 k = σ 2 k) (h3 : τ 3 k = σ 3 k) (h4 : τ 4 k = σ 4 k) (h5 : τ 5 k = σ 5 k) : lp_Vis τ k n s pg wt := by
  unfold lp_Vis
  rw [h2, h3, h4, h5]
  exact h
theorem lp_Vis_add {σ : lpM} {k v t w : Nat} {s pg wt : Nat → Nat} (h : lp_Vis σ k (v + 1) s pg wt) (hl : s (v + 1) - s v < 20) (ht : t < 10) (hw : w ≤ 60) :
    lp_Vis (lp_w3 (lp_w3 (lp_w3 σ 3 k (s (v + 1)) (nI t)) 4 k (s (v + 1)) (nI w)) 5 k (v + 1) (nI (s (v + 1) + 1))) k (v + 1) (nu s (v + 1) (s (v + 1) + 1)) (nu pg (s (v + 1)) t) (nu wt (s (v + 1)) w) := by
  obtain ⟨h1, h2, h3, h4, h5, h6⟩ := h
  refine ⟨?_, h2, fun x hx => ?_, ?_, fun x hx => ?_, fun j hj => ?_⟩
  · rw [lp_w3_ne (by omega), lp_w3_ne (by omega), lp_w3_ne (by omega)]
    exact h1
  · rw [lp_w3_same]
    by_cases e : x = v + 1
    · subst e
      rw [nu_same]
      exact pk_us
    · rw [nu_ne e, pk_un e, lp_w3_ne (by omega), lp_w3_ne (by omega)]
      exact h3 x hx
  · rw [nu_ne (by omega)]
    exact h4
  · have := h5 x hx
    by_cases e : x = v
    · subst e
      rw [nu_same, nu_ne (by omega)]
      omega
    · rw [nu_ne (by omega), nu_ne (by omega)]
      exact this
  · rw [nu_same] at hj
    rw [lp_w3_ne (by omega), lp_w3_ne (by omega), lp_w3_same, lp_w3_ne (σ := lp_w3 (lp_w3 σ 3 k (s (v + 1)) (nI t)) 4 k (s (v + 1)) (nI w)) (by omega), lp_w3_same, lp_w3_ne (by omega)]
    by_cases e : j = s (v + 1)
    · subst e
      rw [pk_us, pk_us, nu_same, nu_same]
      exact ⟨rfl, ht, rfl, hw⟩
    · rw [pk_un e, pk_un e, nu_ne e, nu_ne e]
      exact h6 j (by omega)
theorem lp_Vis_open {σ : lpM} {k n : Nat} {s pg wt : Nat → Nat} (h : lp_Vis σ k n s pg wt) (hn : n < 60) : lp_Vis (lp_w3 (lp_w3 σ 5 k (n + 1) (nI (s n))) 2 k 3 (nI (n + 1))) k (n + 1) (nu s (n + 1) (s n)) pg wt := by
  obtain ⟨h1, h2, h3, h4, h5, h6⟩ := h
  refine ⟨?_, by omega, fun x hx => ?_, ?_, fun x hx => ?_, fun j hj => ?_⟩
  · rw [lp_w3_same]
    exact pk_us
  · rw [lp_w3_ne (by omega), lp_w3_same]
    by_cases e : x = n + 1
    · subst e
      rw [nu_same]
      exact pk_us
    · rw [nu_ne e, pk_un e]
      exact h3 x (by omega)
  · rw [nu_ne (by omega)]
    exact h4
  · by_cases e : x = n
    · subst e
      rw [nu_same, nu_ne (by omega)]
      omega
    · rw [nu_ne (by omega), nu_ne (by omega)]
      exact h5 x (by omega)
  · rw [nu_same] at hj
    rw [lp_w3_ne (by omega), lp_w3_ne (by omega), lp_w3_ne (by omega), lp_w3_ne (by omega)]
    exact h6 j hj
def lp_Wk (σ : lpM) (cn wn cm cw : Nat → Nat → Nat) : Prop := (∀ f, f < 11 → σ 17 0 f ≠ 0) ∧ (∀ f, f < 11 → ∀ t, t < 11 → σ 27 (121 + f) t = nI (cn f t) ∧ σ 28 (121 + f) t = nI (cm f t)) ∧
  (∀ j, j < 121 → σ 9 0 j ≠ 0 → ∀ w, w < 61 → σ 27 j w = nI (wn j w) ∧ σ 28 j w = nI (cw j w)) ∧ (∀ f t, f ≤ 10 → t < 10 → 0 < cn f t → σ 9 0 (f * 11 + t) ≠ 0)
theorem lp_Wk_congr {σ τ : lpM} {cn wn cm cw : Nat → Nat → Nat} (h : lp_Wk σ cn wn cm cw) (h17 : τ 17 = σ 17) (h9 : τ 9 = σ 9) (h27 : τ 27 = σ 27) (h28 : τ 28 = σ 28) : lp_Wk τ cn wn cm cw := by
  unfold lp_Wk
  rw [h17, h9, h27, h28]
  exact h
theorem lp_Wk_place {σ : lpM} {cn wn cm cw : Nat → Nat → Nat} {a t : Nat} (h : lp_Wk σ cn wn cm cw) (ha : a < 11) : lp_Wk (lp_w3 σ 28 (121 + a) t (nI (cm a t + 1))) cn wn (u2 cm a t) cw := by
  obtain ⟨h1, h2, h3, h4⟩ := h
  refine ⟨fun f hf => ?_, fun f hf y hy => ?_, fun j hj hz w hw => ?_, fun f y hf hy hc => ?_⟩
  · rw [lp_w3_ne (by omega)]; exact h1 f hf
  · refine ⟨by rw [lp_w3_ne (by omega)]; exact (h2 f hf y hy).1, ?_⟩
    by_cases e : f = a
    · subst e
      rw [lp_w3_same, u2_row, if_pos rfl]
      by_cases ey : y = t
      · subst ey
        rw [nu_same]; exact pk_us
      · rw [nu_ne ey, pk_un ey]; exact (h2 f hf y hy).2
    · rw [lp_w3_ne (by omega), u2_row, if_neg e]
      exact (h2 f hf y hy).2
  · rw [lp_w3_ne (by omega)] at hz
    rw [lp_w3_ne (by omega), lp_w3_ne (by omega)]
    exact h3 j hj hz w hw
  · rw [lp_w3_ne (by omega)]; exact h4 f y hf hy hc
theorem lp_Wk_wait {σ : lpM} {cn wn cm cw : Nat → Nat → Nat} {i w : Nat} (h : lp_Wk σ cn wn cm cw) (hi : i < 121) : lp_Wk (lp_w3 σ 28 i w (nI (cw i w + 1))) cn wn cm (u2 cw i w) := by
  obtain ⟨h1, h2, h3, h4⟩ := h
  refine ⟨fun f hf => ?_, fun f hf y hy => ?_, fun j hj hz w' hw => ?_, fun f y hf hy hc => ?_⟩
  · rw [lp_w3_ne (by omega)]; exact h1 f hf
  · exact ⟨by rw [lp_w3_ne (by omega)]; exact (h2 f hf y hy).1, by rw [lp_w3_ne (by omega)]; exact (h2 f hf y hy).2⟩
  · rw [lp_w3_ne (by omega)] at hz
    refine ⟨by rw [lp_w3_ne (by omega)]; exact (h3 j hj hz w' hw).1, ?_⟩
    by_cases e : j = i
    · subst e
      rw [lp_w3_same, u2_row, if_pos rfl]
      by_cases ey : w' = w
      · subst ey
        rw [nu_same]; exact pk_us
      · rw [nu_ne ey, pk_un ey]; exact (h3 j hj hz w' hw).2
    · rw [lp_w3_ne (by omega), u2_row, if_neg e]
      exact (h3 j hj hz w' hw).2
  · rw [lp_w3_ne (by omega)]; exact h4 f y hf hy hc
/-- what a WALK leaves as it was -/
def lp_F5 (σ τ : lpM) : Prop := (∀ r, r ≠ 3 → r ≠ 4 → r ≠ 5 → r ≠ 28 → τ r = σ r) ∧ τ 3 0 = σ 3 0 ∧ τ 4 0 = σ 4 0 ∧ τ 5 0 = σ 5 0
def sp_X5_timesOf : lpS := fun as σ Q => match as with
  | [.inr (some (r, k)), .inl x, .inl y] => r = 16 ∧ k = 0 ∧ (∀ f, f < 11 → σ 17 0 f ≠ 0) ∧ ((∃ a b, a ≤ 10 ∧ b ≤ 10 ∧ x = nI a ∧ y = nI b ∧ Q (some (σ 28 (121 + a) b)) σ) ∨ ((∀ a b, a ≤ 10 → b ≤ 10 → ¬ (x = nI a ∧ y = nI b)) ∧ Q (some (nI 0)) σ))
  | _ => False
set_option maxHeartbeats 4000000 in
set_option maxRecDepth 100000 in
theorem ct_X5_timesOf (l : Launch) (D : va_G) (cI cD : ClassId) : lp_Ct l D cI cD yX5_timesOf cX5_timesOf 3 (some .int) 2 sp_X5_timesOf := by
  refine lp_method0 flX5 pfX5 kcX5 [(62, none, 1, sp_X6_isPlace)] false kX5_timesOf rfl rfl (lp_rI rfl) flX5_ok pfX5_ok kcX5_ok kX5_timesOf_ok ⟨_, _, rfl, rfl⟩ (lp_cs1 (lp_mkCall lkX5_62 (ct_X6_isPlace l D cI cD) (by omega)) lp_cs0) ?_
  intro as σ Q hs
  rcases as with _ | ⟨_ | _ | ⟨r, k⟩, _ | ⟨x | _, _ | ⟨y | _, _ | ⟨c, as⟩⟩⟩⟩ <;> try exact (hs : False).elim
  obtain ⟨rfl, rfl, h17, hq⟩ := hs
  refine ⟨by show 3 ≤ 3; omega, ?_⟩
  ((conv => whnf); (try dsimp only))
  rcases Classical.em (∃ a, a ≤ 10 ∧ x = nI a) with ⟨a, h1, rfl⟩ | h1
  rotate_left
  · refine Or.inr ⟨fun v hv e => h1 ⟨v, hv, e⟩, ?_⟩
    ((conv => whnf); (try dsimp only))
    refine ⟨fun _ => ?_, fun q => absurd rfl q⟩
    ((conv => whnf); (try dsimp only))
    rcases hq with ⟨a, b, h2, h3, h4, h5, hq⟩ | ⟨h2, hq⟩
    · exact absurd ⟨a, h2, h4⟩ h1
    · exact hq
  refine Or.inl ⟨a, h1, rfl, ?_⟩
  ((conv => whnf); (try dsimp only))
  refine ⟨fun q => absurd q (by decide), fun _ => ?_⟩
  ((conv => whnf); (try dsimp only))
  rcases Classical.em (∃ b, b ≤ 10 ∧ y = nI b) with ⟨b, h2, rfl⟩ | h2
  rotate_left
  · refine Or.inr ⟨fun v hv e => h2 ⟨v, hv, e⟩, ?_⟩
    ((conv => whnf); (try dsimp only))
    refine ⟨fun _ => ?_, fun q => absurd rfl q⟩
    ((conv => whnf); (try dsimp only))
    rcases hq with ⟨a, b, h2', h3, h4, h5, hq⟩ | ⟨h2, hq⟩
    · exact absurd ⟨b, h3, h5⟩ h2
    · exact hq
  refine Or.inl ⟨b, h2, rfl, ?_⟩
  ((conv => whnf); (try dsimp only))
  refine ⟨fun q => absurd q (by decide), fun _ => ?_⟩
  ((conv => whnf); (try dsimp only))
  refine ⟨lp_vin (by omega) (by omega), ?_⟩
  rw [lp_clm (by omega)]
  refine ⟨fun q => absurd q (h17 a (by omega)), fun _ => ?_⟩
  ((conv => whnf); (try dsimp only))
  have hd : lp_dl (121 + a) = 11 := if_neg (by omega)
  refine ⟨lp_vin (by rw [hd]; omega) (lp_dl_lt _), ?_⟩
  rw [lp_clm (by omega)]
  ((conv => whnf); (try dsimp only))
  rcases hq with ⟨a', b', h2', h3, h4, h5, hq⟩ | ⟨h2', hq⟩
  · obtain rfl := lp_inj (by omega) (by omega) h4
    obtain rfl := lp_inj (by omega) (by omega) h5
    exact hq
  · exact absurd ⟨rfl, rfl⟩ (h2' a b h1 h2)
def sp_X5_dealWalk : lpS := fun as σ Q => match as with
  | [.inr (some (r, k)), .inr (some (r1, k1)), .inr (some (r2, k2))] => r = 16 ∧ k = 0 ∧ r1 = 6 ∧ k1 = 0 ∧ r2 = 2 ∧ k2 = 1 ∧ ∃ (cn wn : Nat → Nat → Nat) (s : Nat → Nat) (v D : Nat) (S : lpW), lpG cn wn ∧ lp_Wk σ cn wn S.2.2.2.1 S.2.2.2.2 ∧ lp_Vis σ 1 (v + 1) (nu s (v + 1) S.1) S.2.1 S.2.2.1 ∧ S.1 = s v ∧ lpB D S ∧ D < 20000 ∧
      ∀ τ, lp_Wk τ cn wn (wk cn wn 20 10 S).2.2.2.1 (wk cn wn 20 10 S).2.2.2.2 → lp_Vis τ 1 (v + 1) (nu s (v + 1) (wk cn wn 20 10 S).1) (wk cn wn 20 10 S).2.1 (wk cn wn 20 10 S).2.2.1 → lp_F5 σ τ → Q none τ
  | _ => False
set_option maxHeartbeats 4000000 in
set_option maxRecDepth 100000 in
theorem ct_X5_dealWalk (l : Launch) (D : va_G) (cI cD : ClassId) : lp_Ct l D cI cD yX5_dealWalk cX5_dealWalk 6 none 4 sp_X5_dealWalk := by
  refine lp_method flX5 pfX5 kcX5 [(49, some 1, 0, sp_X1_deal), (52, none, 1, sp_X6_isPage), (56, some 2, 2, sp_X2_dealWait), (59, some 4, 2, sp_X4_add)] false kX5_dealWalk [6] rfl rfl (lp_rV rfl) flX5_ok pfX5_ok kcX5_ok kX5_dealWalk_ok ⟨_, _, rfl, rfl⟩ (lp_cs1 (lp_mkCall lkX5_49 (ct_X1_deal l D cI cD) (by omega)) (lp_cs1 (lp_mkCall lkX5_52 (ct_X6_isPage l D cI cD) (by omega)) (lp_cs1 (lp_mkCall lkX5_56 (ct_X2_dealWait l D cI cD) (by omega)) (lp_cs1 (lp_mkCall lkX5_59 (ct_X4_add l D cI cD) (by omega)) lp_cs0)))) ?_
  intro as σ Q hok hs
  rcases as with _ | ⟨_ | _ | ⟨r, k⟩, _ | ⟨_ | _ | ⟨r1, k1⟩, _ | ⟨_ | _ | ⟨r2, k2⟩, _ | ⟨c, as⟩⟩⟩⟩ <;> try exact (hs : False).elim
  obtain ⟨rfl, rfl, rfl, rfl, rfl, rfl, cn, wn, s, v, D, S, hG, hW, hV, hS, hB, hD, hq⟩ := hs
  generalize hF : wk cn wn 20 10 S = F at hq
  have hv := hV.2.1
  refine ⟨by show 3 ≤ 6; omega, fun m pc L τ => pc = 6 ∧ ∃ (i a : Nat) (x5 : Option lpV) (S' : lpW), m + i = 20 ∧ i ≤ 20 ∧ a ≤ 10 ∧ 0 < lsum (cn a) 11 ∧ wk cn wn (20 - i) a S' = F ∧ lp_Wk τ cn wn S'.2.2.2.1 S'.2.2.2.2 ∧ lp_Vis τ 1 (v + 1) (nu s (v + 1) S'.1) S'.2.1 S'.2.2.1 ∧ S'.1 ≤ s v + i ∧ lpB (D + i) S' ∧ lp_F5 σ τ ∧
    L = [some (.inr (some (16, 0))), some (.inr (some (6, 0))), some (.inr (some (2, 1))), some (.inl (nI a)), some (.inl (nI i)), x5], ?_, ?_⟩
  · ((conv => whnf); (try dsimp only))
    exact ⟨20, rfl, 0, 10, none, S, rfl, Nat.zero_le _, Nat.le_refl _, hG.2.2.1, hF, hW, hV, by omega, hB, ⟨fun _ _ _ _ _ => rfl, rfl, rfl, rfl⟩, rfl⟩
  · rintro m pc L τ ⟨rfl, i, a, x5, S', hm, hi, ha, hsa, hwk, hW', hV', hS', hB', hF5, rfl⟩
    ((conv => whnf); (try dsimp only))
    refine ⟨fun h => ?_, fun h => ?_⟩ <;> ((conv => whnf); (try dsimp only))
    · have h : 20 ≤ i := (nI_leI (a := 20) (by omega) (by omega)).mp h
      obtain rfl : i = 20 := by omega
      have hwk : S' = F := hwk
      subst hwk
      exact hq τ hW' hV' hF5
    · have h : ¬ 20 ≤ i := fun z => h ((nI_leI (a := 20) (by omega) (by omega)).mpr z)
      refine ⟨lp_vin (by omega) (by omega), ?_⟩
      rw [lp_clm (by omega)]
      refine ⟨fun q => absurd q (hW'.1 a (by omega)), fun _ => ?_⟩
      ((conv => whnf); (try dsimp only))
      have hd : lp_dl (121 + a) = 11 := if_neg (by omega)
      obtain ⟨t, t1, t2, t3, t4⟩ := wk_step hG (n := 20 - i - 1) (S := S') ha hsa
      rw [show 20 - i - 1 + 1 = 20 - i by omega, hwk] at t4
      refine ⟨rfl, cn a, S'.2.2.2.1 a, t, fun x hx => by rw [hd] at hx; exact hW'.2.1 a (by omega) x hx, by rw [hd]; exact hG.1 a ha, by rw [hd]; have := hB'.1 a; omega, by rw [hd]; exact t3, ?_⟩
      ((conv => whnf); (try dsimp only))
      have hW1 := lp_Wk_place (t := t) hW' (show a < 11 by omega)
      generalize hσ1 : lp_w3 τ 28 (121 + a) t (nI (S'.2.2.2.1 a t + 1)) = σ1 at hW1 ⊢
      have hV1 : lp_Vis σ1 1 (v + 1) (nu s (v + 1) S'.1) S'.2.1 S'.2.2.1 := by
        rw [← hσ1]
        exact lp_Vis_congr hV' (lp_w3_ne (by omega)) (lp_w3_ne (by omega)) (lp_w3_ne (by omega)) (lp_w3_ne (by omega))
      have hF1 : lp_F5 σ σ1 := by
        rw [← hσ1]
        refine ⟨fun r h3 h4 h5 h28 => ?_, ?_, ?_, ?_⟩
        · funext k
          rw [lp_w3_ne (by omega), hF5.1 r h3 h4 h5 h28]
        · rw [lp_w3_ne (by omega)]; exact hF5.2.1
        · rw [lp_w3_ne (by omega)]; exact hF5.2.2.1
        · rw [lp_w3_ne (by omega)]; exact hF5.2.2.2
      rcases t4 with ⟨rfl, t5⟩ | ⟨t5, t6, w, t7, t8, t9, t10⟩
      · refine Or.inr ⟨fun x hx e => by have := lp_inj (by omega) (by omega) e; omega, ?_⟩
        ((conv => whnf); (try dsimp only))
        refine ⟨fun q => absurd rfl q, fun _ => ?_⟩
        ((conv => whnf); (try dsimp only))
        subst t5
        exact hq σ1 hW1 hV1 hF1
      · refine Or.inl ⟨t, by omega, rfl, ?_⟩
        ((conv => whnf); (try dsimp only))
        refine ⟨fun _ => ?_, fun q => absurd q (by decide)⟩
        ((conv => whnf); (try dsimp only))
        have hfl := hW1.2.2.2 a t ha t5 t2
        have hj : a * 11 + t < 121 := by omega
        refine ⟨rfl, rfl, a, t, ha, by omega, rfl, rfl, hfl, wn (a * 11 + t), S'.2.2.2.2 (a * 11 + t), w, fun x hx => hW1.2.2.1 _ hj hfl x (by rw [show lp_dl (a * 11 + t) = 61 from if_pos hj] at hx; exact hx), hG.2.1 _ hj, by have := hB'.2 (a * 11 + t); omega, t9, ?_⟩
        have hW2 := lp_Wk_wait (w := w) hW1 hj
        generalize hσ2 : lp_w3 σ1 28 (a * 11 + t) w (nI (S'.2.2.2.2 (a * 11 + t) w + 1)) = σ2 at hW2 ⊢
        have hV2 : lp_Vis σ2 1 (v + 1) (nu s (v + 1) S'.1) S'.2.1 S'.2.2.1 := by
          rw [← hσ2]
          exact lp_Vis_congr hV1 (lp_w3_ne (by omega)) (lp_w3_ne (by omega)) (lp_w3_ne (by omega)) (lp_w3_ne (by omega))
        ((conv => whnf); (try dsimp only))
        have e1 : nu s (v + 1) S'.1 (v + 1) = S'.1 := nu_same _ _ _
        have e2 : nu s (v + 1) S'.1 v = s v := nu_ne (by omega)
        have hV3 := lp_Vis_add (t := t) (w := w) hV2 (by rw [e1, e2]; omega) t5 (by omega)
        refine ⟨rfl, v + 1, _, _, _, hV2, Or.inl ⟨v, rfl, by rw [e1, e2]; omega, ?_⟩⟩
        rw [e1] at hV3 ⊢
        ((conv => whnf); (try dsimp only))
        generalize hσ3 : lp_w3 (lp_w3 (lp_w3 σ2 3 1 S'.1 (nI t)) 4 1 S'.1 (nI w)) 5 1 (v + 1) (nI (S'.1 + 1)) = σ3 at hV3 ⊢
        rw [show nu (nu s (v + 1) S'.1) (v + 1) (S'.1 + 1) = nu s (v + 1) (S'.1 + 1) from by
          funext x; unfold nu; split <;> rfl] at hV3
        refine ⟨20 - (i + 1), by omega, rfl, i + 1, t, some (.inl (nI t)), (S'.1 + 1, nu S'.2.1 S'.1 t, nu S'.2.2.1 S'.1 w, u2 S'.2.2.2.1 a t, u2 S'.2.2.2.2 (a * 11 + t) w), by omega, by omega, by omega, t6, ?_, ?_, hV3, by dsimp only; omega, lpB_step hB', ?_, by rw [nI_succ i]; rfl⟩
        · rw [t10, show 20 - (i + 1) = 20 - i - 1 by omega]
        · rw [← hσ3]
          exact lp_Wk_congr hW2 (by funext k; rw [lp_w3_ne (by omega), lp_w3_ne (by omega), lp_w3_ne (by omega)]) (by funext k; rw [lp_w3_ne (by omega), lp_w3_ne (by omega), lp_w3_ne (by omega)]) (by funext k; rw [lp_w3_ne (by omega), lp_w3_ne (by omega), lp_w3_ne (by omega)]) (by funext k; rw [lp_w3_ne (by omega), lp_w3_ne (by omega), lp_w3_ne (by omega)])
        · rw [← hσ3, ← hσ2]
          refine ⟨fun r h3 h4 h5 h28 => ?_, ?_, ?_, ?_⟩
          · funext k
            rw [lp_w3_ne (by omega), lp_w3_ne (by omega), lp_w3_ne (by omega), lp_w3_ne (by omega), hF1.1 r h3 h4 h5 h28]
          · rw [lp_w3_ne (by omega), lp_w3_ne (by omega), lp_w3_ne (by omega), lp_w3_ne (by omega)]; exact hF1.2.1
          · rw [lp_w3_ne (by omega), lp_w3_ne (by omega), lp_w3_ne (by omega), lp_w3_ne (by omega)]; exact hF1.2.2.1
          · rw [lp_w3_ne (by omega), lp_w3_ne (by omega), lp_w3_ne (by omega), lp_w3_ne (by omega)]; exact hF1.2.2.2
