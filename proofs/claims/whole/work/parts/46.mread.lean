/-! ===== the model: countOf, steps, waits, reads of a PRESS ===== -/
def sp_X7_countOf : lpS := fun as σ Q => match as with
  | [.inr (some (r, k)), .inl x, .inl y] => r = 30 ∧ k = 0 ∧ ∃ (L : lpLg) (rr co : Nat → Nat) (f t : Nat), MDg σ L ∧ MDr σ rr co ∧ x = nI f ∧ y = nI t ∧ f ≤ 10 ∧ t ≤ 10 ∧ Q (some (nI (lp_mc (lp_ctL L (f * 11 + t)) (rr (f * 11 + t))))) σ
  | _ => False
set_option maxHeartbeats 4000000 in
set_option maxRecDepth 100000 in
theorem ct_X7_countOf (l : Launch) (D : va_G) (cI cD : ClassId) : lp_Ct l D cI cD yX7_countOf cX7_countOf 4 (some .int) 2 sp_X7_countOf := by
  refine lp_method0 flX7 pfX7 kcX7 [(82, some 7, 2, sp_X7_inLog), (85, none, 2, sp_max)] false kX7_countOf rfl rfl (lp_rI rfl) flX7_ok pfX7_ok kcX7_ok kX7_countOf_ok ⟨_, _, rfl, rfl⟩ (lp_cs1 (lp_mkCall lkX7_82 (ct_X7_inLog l D cI cD) (by omega)) (lp_cs1 (lp_mkMax lkX7_85 (by omega)) lp_cs0)) ?_
  intro as σ Q hs
  rcases as with _ | ⟨_ | _ | ⟨r, k⟩, _ | ⟨x | _, _ | ⟨y | _, _ | ⟨c, as⟩⟩⟩⟩ <;> try exact (hs : False).elim
  obtain ⟨rfl, rfl, L, rr, co, f, t, hG, hR, rfl, rfl, hf, ht, hq⟩ := hs
  have ej : lp_ctL L (f * 11 + t) = inL L.1 L.2.1 L.2.2.1 f t := by
    unfold lp_ctL
    rw [show (f * 11 + t) / 11 = f by omega, show (f * 11 + t) % 11 = t by omega]
  rw [ej] at hq
  have hb := inL_le (pg := L.2.2.1) hG.2.2.2.1 f t
  refine ⟨by show 3 ≤ 4; omega, ?_⟩
  ((conv => whnf); (try dsimp only))
  refine ⟨rfl, rfl, L, f, t, hG, rfl, rfl, hf, ht, ?_⟩
  generalize inL L.1 L.2.1 L.2.2.1 f t = c at hb hq ⊢
  ((conv => whnf); (try dsimp only))
  unfold lp_mc at hq
  refine ⟨fun q => ?_, fun q => ?_⟩ <;> ((conv => whnf); (try dsimp only))
  · have hz : ¬ c = 0 := fun z => q (by rw [z]; rfl)
    rw [if_neg hz] at hq
    rw [show (Int8.ofInt 11).toInt32 * nI f + nI t = nI (f * 11 + t) from by rw [Nat.mul_comm f 11]; exact lp_ix]
    refine ⟨lp_vin (by omega) (by omega), ?_⟩
    have h1 := hR.1 (f * 11 + t) (by omega)
    rw [lp_clm (by omega), h1.1]
    ((conv => whnf); (try dsimp only))
    generalize rr (f * 11 + t) = d at h1 hq ⊢
    by_cases hlt : c < d
    · rw [if_pos (nI_lt hlt (by omega))]
      rw [Nat.max_eq_right (by omega)] at hq
      exact hq
    · rw [if_neg (fun z => hlt ((nI_ltI (by omega) (by omega)).mp z))]
      rw [Nat.max_eq_left (by omega)] at hq
      exact hq
  · have hz : c = 0 := lp_inj (by omega) (by omega) q
    rw [if_pos hz] at hq
    exact hq
def sp_X7_steps : lpS := fun as σ Q => match as with
  | [.inr (some (r, k)), .inl x, .inl y] => r = 30 ∧ k = 0 ∧ ∃ Z, lpD σ Z ∧ Q (some (an_steps x y Z)) σ
  | _ => False
set_option maxHeartbeats 4000000 in
set_option maxRecDepth 100000 in
theorem ct_X7_steps (l : Launch) (D : va_G) (cI cD : ClassId) : lp_Ct l D cI cD yX7_steps cX7_steps 3 (some .int) 3 sp_X7_steps := by
  refine lp_method0 flX7 pfX7 kcX7 [(90, none, 2, sp_X7_arePlaces), (94, some 7, 2, sp_X7_countOf)] false kX7_steps rfl rfl (lp_rI rfl) flX7_ok pfX7_ok kcX7_ok kX7_steps_ok ⟨_, _, rfl, rfl⟩ (lp_cs1 (lp_mkCall lkX7_90 (ct_X7_arePlaces l D cI cD) (by omega)) (lp_cs1 (lp_mkCall lkX7_94 (ct_X7_countOf l D cI cD) (by omega)) lp_cs0)) ?_
  intro as σ Q hs
  rcases as with _ | ⟨_ | _ | ⟨r, k⟩, _ | ⟨x | _, _ | ⟨y | _, _ | ⟨c, as⟩⟩⟩⟩ <;> try exact (hs : False).elim
  obtain ⟨rfl, rfl, Z, hD, hq⟩ := hs
  unfold an_steps at hq
  refine ⟨Nat.le_refl 3, ?_⟩
  ((conv => whnf); (try dsimp only))
  by_cases h : ir x 10 ∧ ir y 10
  · simp only [if_pos h] at hq
    refine Or.inl ⟨h, ?_⟩
    ((conv => whnf); (try dsimp only))
    refine ⟨fun q => absurd q (by decide), fun _ => ?_⟩
    ((conv => whnf); (try dsimp only))
    refine ⟨rfl, rfl, _, _, _, tn x, tn y, hD.1, hD.2.1, h.1.1, h.2.1, h.1.2, h.2.2, ?_⟩
    ((conv => whnf); (try dsimp only))
    exact hq
  · simp only [if_neg h] at hq
    refine Or.inr ⟨h, ?_⟩
    ((conv => whnf); (try dsimp only))
    refine ⟨fun _ => ?_, fun q => absurd rfl q⟩
    ((conv => whnf); (try dsimp only))
    exact hq
def lp_inw (s pg wt : Nat → Nat) (f t w v : Nat) : Nat → Nat := fun i => if lfr s pg v i = f ∧ pg (s v + i) = t ∧ wt (s v + i) = w then 1 else 0
def sp_X7_waitsOf : lpS := fun as σ Q => match as with
  | [.inr (some (r, k)), .inl x, .inl y, .inl z] => r = 30 ∧ k = 0 ∧ ∃ (L : lpLg) (f t w : Nat), MDg σ L ∧ x = nI f ∧ y = nI t ∧ z = nI w ∧ f ≤ 10 ∧ t ≤ 10 ∧ w ≤ 60 ∧ Q (some (nI (wL L.1 L.2.1 L.2.2.1 L.2.2.2 f t w))) σ
  | _ => False
set_option maxHeartbeats 4000000 in
set_option maxRecDepth 100000 in
theorem ct_X7_waitsOf (l : Launch) (D : va_G) (cI cD : ClassId) : lp_Ct l D cI cD yX7_waitsOf cX7_waitsOf 8 (some .int) 0 sp_X7_waitsOf := by
  refine lp_method flX7 pfX7 kcX7 [] false kX7_waitsOf [6, 18] rfl rfl (lp_rI rfl) flX7_ok pfX7_ok kcX7_ok kX7_waitsOf_ok ⟨_, _, rfl, rfl⟩ lp_cs0 ?_
  intro as σ Q hok hs
  rcases as with _ | ⟨_ | _ | ⟨r, k⟩, _ | ⟨x | _, _ | ⟨y | _, _ | ⟨z | _, _ | ⟨c, as⟩⟩⟩⟩⟩ <;> try exact (hs : False).elim
  obtain ⟨rfl, rfl, ⟨n, s, pg, wt⟩, f, t, w, hG, rfl, rfl, rfl, hf, ht, hw, hq⟩ := hs
  obtain ⟨g0, g1, g2, hV, hpg⟩ := id hG
  dsimp only at g0 g1 g2 hV hpg hq
  have hn := hV.1
  obtain ⟨Lab, hLab⟩ : ∃ Lab : Nat → Nat → lpL → lpM → Prop, Lab = fun m pc L τ => σ = τ ∧ ((pc = 6 ∧ ∃ (v : Nat) (x5 x6 : Option lpV), m = (n - v) * 100 + 50 ∧ v ≤ n ∧ L = [some (.inr (some (30, 0))), some (.inl (nI f)), some (.inl (nI t)), some (.inl (nI w)), some (.inl (nI (lsum (wV s pg wt f t w) v))), some (.inl (nI v)), x5, x6]) ∨
    (pc = 18 ∧ ∃ (v i : Nat) (x6 : Option lpV), m = (n - v) * 100 + (30 - i) ∧ v < n ∧ i ≤ s (v + 1) - s v ∧ L = [some (.inr (some (30, 0))), some (.inl (nI f)), some (.inl (nI t)), some (.inl (nI w)), some (.inl (nI (lsum (wV s pg wt f t w) v + lsum (lp_inw s pg wt f t w v) i))), some (.inl (nI v)), some (.inl (nI i)), x6])) := ⟨_, rfl⟩
  refine ⟨by show 4 ≤ 8; omega, Lab, ?_, ?_⟩
  · ((conv => whnf); (try dsimp only))
    exact ⟨_, by rw [hLab]; exact ⟨rfl, Or.inl ⟨rfl, 0, none, none, rfl, Nat.zero_le _, rfl⟩⟩⟩
  · intro m pc L τ hh
    rw [hLab] at hh
    obtain ⟨rfl, ⟨rfl, v, x5, x6, rfl, hv, rfl⟩ | ⟨rfl, v, i, x6, rfl, hv, hi, rfl⟩⟩ := hh
    · ((conv => whnf); (try dsimp only))
      rw [g0]
      refine ⟨fun h => ?_, fun h => ?_⟩ <;> ((conv => whnf); (try dsimp only))
      · rw [nI_leI (by omega) (by omega)] at h
        obtain rfl : v = n := by omega
        exact hq
      · rw [nI_leI (by omega) (by omega)] at h
        exact ⟨(n - v) * 100 + (30 - 0), by omega, by rw [hLab]; exact ⟨rfl, Or.inr ⟨rfl, v, 0, x6, rfl, by omega, by omega, rfl⟩⟩⟩
    · have hsv := hV.2.2.1 v hv
      have hsn := lpV0_le hV (show v + 1 ≤ n by omega) (Nat.le_refl n)
      ((conv => whnf); (try dsimp only))
      refine ⟨lp_vin (by omega) (by omega), ?_⟩
      rw [lp_clm (by omega), g1 v hv]
      ((conv => whnf); (try dsimp only))
      refine ⟨fun h => ?_, fun h => ?_⟩ <;> ((conv => whnf); (try dsimp only))
      · rw [nI_leI (by omega) (by omega)] at h
        obtain rfl : i = s (v + 1) - s v := by omega
        refine ⟨(n - (v + 1)) * 100 + 50, by omega, ?_⟩
        rw [hLab]
        refine ⟨rfl, Or.inl ⟨rfl, v + 1, some (.inl (nI (s (v + 1) - s v))), x6, rfl, by omega, ?_⟩⟩
        rw [nI_succ v]
        rfl
      · rw [nI_leI (by omega) (by omega)] at h
        have hfl := lfr_le hV hpg hv (show i ≤ s (v + 1) - s v by omega)
        obtain ⟨m1, m2⟩ := g2 v i hv (by omega)
        have hp := hpg (s v + i) (by omega)
        have hwt := hV.2.2.2 (s v + i) (by omega)
        have step : ∀ (b : Nat) (x6 : Option lpV), lp_inw s pg wt f t w v i = b → lp_ex Lab ((n - v) * 100 + (30 - i)) 18 [some (.inr (some (30, 0))), some (.inl (nI f)), some (.inl (nI t)), some (.inl (nI w)), some (.inl (nI (lsum (wV s pg wt f t w) v + lsum (lp_inw s pg wt f t w v) i) + nI b)), some (.inl (nI v)), some (.inl (nI i + Int32.ofInt 1)), x6] σ := by
          intro b x6 hb
          refine ⟨(n - v) * 100 + (30 - (i + 1)), by omega, ?_⟩
          rw [hLab]
          refine ⟨rfl, Or.inr ⟨rfl, v, i + 1, x6, rfl, hv, by omega, ?_⟩⟩
          rw [show lsum (lp_inw s pg wt f t w v) (i + 1) = lsum (lp_inw s pg wt f t w v) i + lp_inw s pg wt f t w v i from rfl, hb, ← Nat.add_assoc, nI_add, nI_succ i]
          rfl
        have e20 : (Int8.ofInt 20).toInt32 * nI v + nI i = nI (20 * v + i) := lp_ix
        refine ⟨fun h3 => ?_, fun h3 => ?_⟩ <;> ((conv => whnf); (try dsimp only))
        · have hi0 : i ≠ 0 := fun z => h3 (by rw [z]; rfl)
          rw [e20, show nI (20 * v + i) - Int32.ofInt 1 = nI (20 * v + (i - 1)) from by rw [show 20 * v + (i - 1) = 20 * v + i - 1 by omega]; exact pk_sub (b := 1) (by omega)]
          refine ⟨lp_vin (by omega) (by omega), ?_⟩
          rw [lp_clm (by omega), (g2 v (i - 1) hv (by omega)).1]
          have elf : lfr s pg v i = pg (s v + (i - 1)) := by
            unfold lfr
            rw [if_neg hi0, show s v + i - 1 = s v + (i - 1) by omega]
          rw [← elf]
          ((conv => whnf); (try dsimp only))
          refine ⟨fun h4 => ?_, fun h4 => ?_⟩ <;> ((conv => whnf); (try dsimp only))
          · exact step 0 _ (if_neg (fun z => h4 (by rw [z.1])))
          · have h4 := lp_inj (by omega) (by omega) h4
            rw [e20]
            refine ⟨lp_vin (by omega) (by omega), ?_⟩
            rw [lp_clm (by omega), m1]
            ((conv => whnf); (try dsimp only))
            refine ⟨fun h5 => ?_, fun h5 => ?_⟩ <;> ((conv => whnf); (try dsimp only))
            · exact step 0 _ (if_neg (fun z => h5 (by rw [z.2.1])))
            · have h5 := lp_inj (by omega) (by omega) h5
              rw [e20]
              refine ⟨lp_vin (by omega) (by omega), ?_⟩
              rw [lp_clm (by omega), m2]
              ((conv => whnf); (try dsimp only))
              refine ⟨fun h6 => ?_, fun h6 => ?_⟩ <;> ((conv => whnf); (try dsimp only))
              · exact step 0 _ (if_neg (fun z => h6 (by rw [z.2.2])))
              · exact step 1 _ (if_pos ⟨h4, h5, lp_inj (by omega) (by omega) h6⟩)
        · have hi0 : i = 0 := lp_inj (by omega) (by omega) h3
          have elf : lfr s pg v i = 10 := if_pos hi0
          refine ⟨fun h4 => ?_, fun h4 => ?_⟩ <;> ((conv => whnf); (try dsimp only))
          · exact step 0 _ (if_neg (fun z => h4 (by rw [← z.1, elf]; rfl)))
          · have h4 : 10 = f := lp_inj (a := 10) (by omega) (by omega) h4
            rw [e20]
            refine ⟨lp_vin (by omega) (by omega), ?_⟩
            rw [lp_clm (by omega), m1]
            ((conv => whnf); (try dsimp only))
            refine ⟨fun h5 => ?_, fun h5 => ?_⟩ <;> ((conv => whnf); (try dsimp only))
            · exact step 0 _ (if_neg (fun z => h5 (by rw [z.2.1])))
            · have h5 := lp_inj (by omega) (by omega) h5
              rw [e20]
              refine ⟨lp_vin (by omega) (by omega), ?_⟩
              rw [lp_clm (by omega), m2]
              ((conv => whnf); (try dsimp only))
              refine ⟨fun h6 => ?_, fun h6 => ?_⟩ <;> ((conv => whnf); (try dsimp only))
              · exact step 0 _ (if_neg (fun z => h6 (by rw [z.2.2])))
              · exact step 1 _ (if_pos ⟨elf.trans h4, h5, lp_inj (by omega) (by omega) h6⟩)
theorem wL_end {n : Nat} {s pg wt : Nat → Nat} (hV : lpV0 n s wt) (hpg : ∀ j, j < s n → pg j < 10) (f w : Nat) : wL n s pg wt f 10 w = 0 := by
  refine lsum_zero (fun v hv => lsum_zero (fun i hi => if_neg (fun z => ?_)))
  have := lpV0_le hV (show v + 1 ≤ n by omega) (Nat.le_refl n)
  have := hpg (s v + i) (by omega)
  omega
def sp_X7_waits : lpS := fun as σ Q => match as with
  | [.inr (some (r, k)), .inl x, .inl y, .inl z] => r = 30 ∧ k = 0 ∧ ∃ Z, lpD σ Z ∧ Q (some (an_waits x y z Z)) σ
  | _ => False
set_option maxHeartbeats 4000000 in
set_option maxRecDepth 100000 in
theorem ct_X7_waits (l : Launch) (D : va_G) (cI cD : ClassId) : lp_Ct l D cI cD yX7_waits cX7_waits 4 (some .int) 2 sp_X7_waits := by
  refine lp_method0 flX7 pfX7 kcX7 [(74, none, 3, sp_X7_in), (90, none, 2, sp_X7_arePlaces), (97, some 7, 3, sp_X7_waitsOf)] false kX7_waits rfl rfl (lp_rI rfl) flX7_ok pfX7_ok kcX7_ok kX7_waits_ok ⟨_, _, rfl, rfl⟩ (lp_cs1 (lp_mkCall lkX7_74 (ct_X7_in l D cI cD) (by omega)) (lp_cs1 (lp_mkCall lkX7_90 (ct_X7_arePlaces l D cI cD) (by omega)) (lp_cs1 (lp_mkCall lkX7_97 (ct_X7_waitsOf l D cI cD) (by omega)) lp_cs0))) ?_
  intro as σ Q hs
  rcases as with _ | ⟨_ | _ | ⟨r, k⟩, _ | ⟨x | _, _ | ⟨y | _, _ | ⟨z | _, _ | ⟨c, as⟩⟩⟩⟩⟩ <;> try exact (hs : False).elim
  obtain ⟨rfl, rfl, Z, hD, hq⟩ := hs
  unfold an_waits at hq
  refine ⟨Nat.le_refl 4, ?_⟩
  ((conv => whnf); (try dsimp only))
  by_cases h : ir x 10 ∧ ir y 10
  rotate_left
  · rw [if_neg (fun q => h ⟨q.1, q.2.1.1, by have := q.2.1.2; omega⟩)] at hq
    refine Or.inr ⟨h, ?_⟩
    ((conv => whnf); (try dsimp only))
    refine ⟨fun _ => ?_, fun q => absurd rfl q⟩
    ((conv => whnf); (try dsimp only))
    exact hq
  refine Or.inl ⟨h, ?_⟩
  ((conv => whnf); (try dsimp only))
  refine ⟨fun q => absurd q (by decide), fun _ => ?_⟩
  ((conv => whnf); (try dsimp only))
  refine lp_upto (n := 60) (by decide) ?_
  by_cases hz : ir z 60
  rotate_left
  · rw [if_neg (fun q => hz q.2.2)] at hq
    refine Or.inr ⟨fun v hv e1 => hz (ir_of e1 hv (by omega)), ?_⟩
    ((conv => whnf); (try dsimp only))
    refine ⟨fun _ => ?_, fun q => absurd rfl q⟩
    ((conv => whnf); (try dsimp only))
    exact hq
  refine Or.inl ⟨tn z, hz.2, hz.1, ?_⟩
  ((conv => whnf); (try dsimp only))
  refine ⟨fun q => absurd q (by decide), fun _ => ?_⟩
  ((conv => whnf); (try dsimp only))
  refine ⟨rfl, rfl, Z.1, tn x, tn y, tn z, hD.1, h.1.1, h.2.1, hz.1, h.1.2, h.2.2, hz.2, ?_⟩
  ((conv => whnf); (try dsimp only))
  have hx := h.1.2
  have hy := h.2.2
  by_cases h9 : tn y ≤ 9
  · rw [if_pos ⟨h.1, ⟨h.2.1, h9⟩, hz⟩] at hq
    unfold lp_wcL at hq
    rw [show (tn x * 11 + tn y) / 11 = tn x by omega, show (tn x * 11 + tn y) % 11 = tn y by omega] at hq
    exact hq
  · rw [if_neg (fun q => h9 q.2.1.2)] at hq
    rw [show tn y = 10 by omega, wL_end hD.1.2.2.2.1 hD.1.2.2.2.2]
    exact hq
def sp_X7_isWalk : lpS := fun as σ Q => match as with
  | [.inr (some (r, k)), .inl x] => r = 30 ∧ k = 0 ∧ ∃ (M : lpLg) (P cm : Nat → Nat → Nat), MDp σ M P cm ∧ (((0 < M.1 ∧ ir x (M.1 - 1)) ∧ Q (some 1) σ) ∨ (¬ (0 < M.1 ∧ ir x (M.1 - 1)) ∧ Q (some 0) σ))
  | _ => False
theorem lp_belowR {x : Int32} {N : Nat} {P1 P0 : Prop} (hN : N ≤ 60) (h : ((0 < N ∧ ir x (N - 1)) ∧ P1) ∨ (¬ (0 < N ∧ ir x (N - 1)) ∧ P0)) : (∃ v, v < N ∧ x = nI v ∧ P1) ∨ ((∀ v, v < N → x ≠ nI v) ∧ P0) := by
  rcases h with ⟨h, hq⟩ | ⟨h, hq⟩
  · exact Or.inl ⟨tn x, by have := h.2.2; omega, h.2.1, hq⟩
  · exact Or.inr ⟨fun v hv e1 => h ⟨by omega, ir_of e1 (by omega) (by omega)⟩, hq⟩
set_option maxHeartbeats 4000000 in
set_option maxRecDepth 100000 in
theorem ct_X7_isWalk (l : Launch) (D : va_G) (cI cD : ClassId) : lp_Ct l D cI cD yX7_isWalk cX7_isWalk 2 (some .boolean) 1 sp_X7_isWalk := by
  refine lp_method0 flX7 pfX7 kcX7 [(74, none, 3, sp_X7_in)] true kX7_isWalk rfl rfl (lp_rB rfl) flX7_ok pfX7_ok kcX7_ok kX7_isWalk_ok ⟨_, _, rfl, rfl⟩ (lp_cs1 (lp_mkCall lkX7_74 (ct_X7_in l D cI cD) (by omega)) lp_cs0) ?_
  intro as σ Q hs
  rcases as with _ | ⟨_ | _ | ⟨r, k⟩, _ | ⟨x | _, _ | ⟨c, as⟩⟩⟩ <;> try exact (hs : False).elim
  obtain ⟨rfl, rfl, M, P, cm, hP, hq⟩ := hs
  have hn := hP.2.2.2.1.1
  refine ⟨Nat.le_refl 2, ?_⟩
  ((conv => whnf); (try dsimp only))
  rw [hP.1.1]
  refine lp_below (by omega) (lp_belowR hn ?_)
  rcases hq with ⟨h, hq⟩ | ⟨h, hq⟩
  · exact Or.inl ⟨h, Or.inr rfl, hq⟩
  · exact Or.inr ⟨h, Or.inl rfl, hq⟩
def sp_X7_walked : lpS := fun as σ Q => match as with
  | [.inr (some (r, k)), .inl x] => r = 30 ∧ k = 0 ∧ ∃ Z, lpD σ Z ∧ Q (some (an_walked x Z)) σ
  | _ => False
set_option maxHeartbeats 4000000 in
set_option maxRecDepth 100000 in
theorem ct_X7_walked (l : Launch) (D : va_G) (cI cD : ClassId) : lp_Ct l D cI cD yX7_walked cX7_walked 2 (some .int) 2 sp_X7_walked := by
  refine lp_method0 flX7 pfX7 kcX7 [(138, some 7, 1, sp_X7_isWalk)] false kX7_walked rfl rfl (lp_rI rfl) flX7_ok pfX7_ok kcX7_ok kX7_walked_ok ⟨_, _, rfl, rfl⟩ (lp_cs1 (lp_mkCall lkX7_138 (ct_X7_isWalk l D cI cD) (by omega)) lp_cs0) ?_
  intro as σ Q hs
  rcases as with _ | ⟨_ | _ | ⟨r, k⟩, _ | ⟨x | _, _ | ⟨c, as⟩⟩⟩ <;> try exact (hs : False).elim
  obtain ⟨rfl, rfl, Z, hD, hq⟩ := hs
  have hP := hD.2.2
  have hn := hP.2.2.2.1.1
  unfold an_walked at hq
  refine ⟨Nat.le_refl 2, ?_⟩
  ((conv => whnf); (try dsimp only))
  refine ⟨rfl, rfl, _, _, _, hP, ?_⟩
  by_cases h : 0 < Z.2.2.1.1 ∧ ir x (Z.2.2.1.1 - 1)
  · simp only [if_pos h] at hq
    refine Or.inl ⟨h, ?_⟩
    ((conv => whnf); (try dsimp only))
    refine ⟨fun q => absurd q (by decide), fun _ => ?_⟩
    have hv : tn x < Z.2.2.1.1 := by have := h.2.2; omega
    ((conv => whnf); (try dsimp only))
    refine ⟨by rw [h.2.1]; exact lp_vin (by omega) (by omega), ?_⟩
    rw [hP.2.1 (tn x) hv]
    ((conv => whnf); (try dsimp only))
    exact hq
  · simp only [if_neg h] at hq
    refine Or.inr ⟨h, ?_⟩
    ((conv => whnf); (try dsimp only))
    refine ⟨fun _ => ?_, fun q => absurd rfl q⟩
    ((conv => whnf); (try dsimp only))
    exact hq
def sp_X7_told : lpS := fun as σ Q => match as with
  | [.inr (some (r, k)), .inl x, .inl y, .inl z] => r = 30 ∧ k = 0 ∧ ∃ Z, lpD σ Z ∧ Q (some (an_told x y z Z)) σ
  | _ => False
set_option maxHeartbeats 4000000 in
set_option maxRecDepth 100000 in
theorem ct_X7_told (l : Launch) (D : va_G) (cI cD : ClassId) : lp_Ct l D cI cD yX7_told cX7_told 5 (some .int) 2 sp_X7_told := by
  refine lp_method0 flX7 pfX7 kcX7 [(74, none, 3, sp_X7_in), (138, some 7, 1, sp_X7_isWalk)] false kX7_told rfl rfl (lp_rI rfl) flX7_ok pfX7_ok kcX7_ok kX7_told_ok ⟨_, _, rfl, rfl⟩ (lp_cs1 (lp_mkCall lkX7_74 (ct_X7_in l D cI cD) (by omega)) (lp_cs1 (lp_mkCall lkX7_138 (ct_X7_isWalk l D cI cD) (by omega)) lp_cs0)) ?_
  intro as σ Q hs
  rcases as with _ | ⟨_ | _ | ⟨r, k⟩, _ | ⟨x | _, _ | ⟨y | _, _ | ⟨z | _, _ | ⟨c, as⟩⟩⟩⟩⟩ <;> try exact (hs : False).elim
  obtain ⟨rfl, rfl, ⟨L, C, ⟨N, s, pg, wt⟩, P, cm⟩, hD, hq⟩ := hs
  have hP := hD.2.2
  obtain ⟨-, p1, p2, hV, -⟩ := id hP
  dsimp only at hP p1 p2 hV
  have hn := hV.1
  unfold an_told at hq
  dsimp only at hq
  refine ⟨by show 4 ≤ 5; omega, ?_⟩
  ((conv => whnf); (try dsimp only))
  refine ⟨rfl, rfl, _, _, _, hP, ?_⟩
  by_cases h1 : 0 < N ∧ ir x (N - 1)
  rotate_left
  · rw [if_neg (fun q => h1 ⟨q.1, q.2.1⟩)] at hq
    refine Or.inr ⟨h1, ?_⟩
    ((conv => whnf); (try dsimp only))
    refine ⟨fun _ => ?_, fun q => absurd rfl q⟩
    ((conv => whnf); (try dsimp only))
    exact hq
  refine Or.inl ⟨h1, ?_⟩
  ((conv => whnf); (try dsimp only))
  refine ⟨fun q => absurd q (by decide), fun _ => ?_⟩
  ((conv => whnf); (try dsimp only))
  have hv : tn x < N := by have := h1.2.2; omega
  refine ⟨by rw [h1.2.1]; exact lp_vin (by omega) (by omega), ?_⟩
  rw [p1 (tn x) hv]
  ((conv => whnf); (try dsimp only))
  have hsv := hV.2.2.1 (tn x) hv
  refine lp_below (by omega) ?_
  by_cases h2 : 0 < s (tn x + 1) - s (tn x) ∧ ir y (s (tn x + 1) - s (tn x) - 1)
  rotate_left
  · rw [if_neg (fun q => h2 q.2.2)] at hq
    refine Or.inr ⟨fun i hi e1 => h2 ⟨by omega, ir_of e1 (by omega) (by omega)⟩, ?_⟩
    ((conv => whnf); (try dsimp only))
    refine ⟨fun q => absurd rfl q, fun _ => ?_⟩
    ((conv => whnf); (try dsimp only))
    exact hq
  have hi : tn y < s (tn x + 1) - s (tn x) := by have := h2.2.2; omega
  rw [if_pos ⟨h1.1, h1.2, h2⟩] at hq
  refine Or.inl ⟨tn y, hi, h2.2.1, ?_⟩
  obtain ⟨q1, q2, q3, q4, q5, q6⟩ := p2 (tn x) (tn y) hv hi
  have e1 : (Int8.ofInt 20).toInt32 * x + y = nI (20 * tn x + tn y) := by
    have a := h1.2.1
    have b := h2.2.1
    generalize tn x = a' at a ⊢
    generalize tn y = b' at b ⊢
    subst a
    subst b
    exact lp_ix
  ((conv => whnf); (try dsimp only))
  refine ⟨fun _ => ?_, fun q => absurd q (by decide)⟩
  ((conv => whnf); (try dsimp only))
  rw [e1]
  refine ⟨fun z => ?_, fun z => ?_, fun z => ?_, fun z => ?_, fun z => ?_, fun z => ?_, fun z => ?_, trivial⟩ <;> ((conv => whnf); (try dsimp only))
  · rw [lp_tv_out z] at hq
    exact hq
  · have z : _ = nI 0 := (lp_ti (c := 0) (by omega)).mp z
    subst z
    refine ⟨lp_vin (by omega) (by omega), ?_⟩
    rw [lp_clm (by omega), q1]
    exact hq
  · have z : _ = nI 1 := (lp_ti (c := 1) (by omega)).mp z
    subst z
    refine ⟨lp_vin (by omega) (by omega), ?_⟩
    rw [lp_clm (by omega), q2]
    exact hq
  · have z : _ = nI 2 := (lp_ti (c := 2) (by omega)).mp z
    subst z
    refine ⟨lp_vin (by omega) (by omega), ?_⟩
    rw [lp_clm (by omega), q3]
    exact hq
  · have z : _ = nI 3 := (lp_ti (c := 3) (by omega)).mp z
    subst z
    refine ⟨lp_vin (by omega) (by omega), ?_⟩
    rw [lp_clm (by omega), q4]
    exact hq
  · have z : _ = nI 4 := (lp_ti (c := 4) (by omega)).mp z
    subst z
    refine ⟨lp_vin (by omega) (by omega), ?_⟩
    rw [lp_clm (by omega), q5]
    exact hq
  · have z : _ = nI 5 := (lp_ti (c := 5) (by omega)).mp z
    subst z
    refine ⟨lp_vin (by omega) (by omega), ?_⟩
    rw [lp_clm (by omega), q6]
    exact hq
def sp_X7_dealt : lpS := fun as σ Q => match as with
  | [.inr (some (r, k)), .inl x, .inl y] => r = 30 ∧ k = 0 ∧ ∃ Z, lpD σ Z ∧ Q (some (an_dealt x y Z)) σ
  | _ => False
set_option maxHeartbeats 4000000 in
set_option maxRecDepth 100000 in
theorem ct_X7_dealt (l : Launch) (D : va_G) (cI cD : ClassId) : lp_Ct l D cI cD yX7_dealt cX7_dealt 3 (some .int) 2 sp_X7_dealt := by
  refine lp_method0 flX7 pfX7 kcX7 [(90, none, 2, sp_X7_arePlaces)] false kX7_dealt rfl rfl (lp_rI rfl) flX7_ok pfX7_ok kcX7_ok kX7_dealt_ok ⟨_, _, rfl, rfl⟩ (lp_cs1 (lp_mkCall lkX7_90 (ct_X7_arePlaces l D cI cD) (by omega)) lp_cs0) ?_
  intro as σ Q hs
  rcases as with _ | ⟨_ | _ | ⟨r, k⟩, _ | ⟨x | _, _ | ⟨y | _, _ | ⟨c, as⟩⟩⟩⟩ <;> try exact (hs : False).elim
  obtain ⟨rfl, rfl, ⟨L, C, ⟨N, s, pg, wt⟩, P, cm⟩, hD, hq⟩ := hs
  have hP := hD.2.2
  dsimp only at hP
  have hn : N ≤ 60 := hP.2.2.2.1.1
  unfold an_dealt at hq
  dsimp only at hq
  refine ⟨Nat.le_refl 3, ?_⟩
  ((conv => whnf); (try dsimp only))
  rw [hP.1.1]
  refine ⟨fun q => ?_, fun q => ?_⟩ <;> ((conv => whnf); (try dsimp only))
  · have hz : N = 0 := by
      rcases Nat.eq_zero_or_pos N with z | z
      · exact z
      · exact absurd q (nI_nle z (by omega))
    by_cases h : ir x 10 ∧ ir y 10
    · rw [if_pos h, hP.2.2.2.2.2.2.2 hz (tn x) (tn y) (by have := h.1.2; omega) (by have := h.2.2; omega)] at hq
      exact hq
    · rw [if_neg h] at hq
      exact hq
  · by_cases h : ir x 10 ∧ ir y 10
    · rw [if_pos h] at hq
      refine Or.inl ⟨h, ?_⟩
      ((conv => whnf); (try dsimp only))
      refine ⟨fun q => absurd q (by decide), fun _ => ?_⟩
      ((conv => whnf); (try dsimp only))
      have e1 : (Int8.ofInt 11).toInt32 * x + y = nI (11 * tn x + tn y) := by
        have a := h.1.1
        have b := h.2.1
        generalize tn x = a' at a ⊢
        generalize tn y = b' at b ⊢
        subst a
        subst b
        exact lp_ix
      have h1 := h.1.2
      have h2 := h.2.2
      rw [e1]
      refine ⟨lp_vin (by omega) (by omega), ?_⟩
      rw [lp_clm (by omega), hP.2.2.2.2.2.2.1 (tn x) (by omega) (tn y) (by omega)]
      ((conv => whnf); (try dsimp only))
      exact hq
    · rw [if_neg h] at hq
      refine Or.inr ⟨h, ?_⟩
      ((conv => whnf); (try dsimp only))
      refine ⟨fun _ => ?_, fun q => absurd rfl q⟩
      ((conv => whnf); (try dsimp only))
      exact hq
