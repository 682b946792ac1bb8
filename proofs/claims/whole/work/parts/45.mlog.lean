/-! ===== the model: ask, and what the LOG counts ===== -/
def sp_X7_ask : lpS := fun as σ Q => match as with
  | [.inr (some (r, k)), .inl x, .inl y] => r = 30 ∧ k = 0 ∧ ∃ Z, lpD σ Z ∧ ∀ τ, lpD τ (st_ask x y Z) → lpFM σ τ → Q (some (an_ask x y Z)) τ
  | _ => False
set_option maxHeartbeats 4000000 in
set_option maxRecDepth 100000 in
theorem ct_X7_ask (l : Launch) (D : va_G) (cI cD : ClassId) : lp_Ct l D cI cD yX7_ask cX7_ask 4 (some .int) 1 sp_X7_ask := by
  refine lp_method0 flX7 pfX7 kcX7 [(74, none, 3, sp_X7_in)] false kX7_ask rfl rfl (lp_rI rfl) flX7_ok pfX7_ok kcX7_ok kX7_ask_ok ⟨_, _, rfl, rfl⟩ (lp_cs1 (lp_mkCall lkX7_74 (ct_X7_in l D cI cD) (by omega)) lp_cs0) ?_
  intro as σ Q hs
  rcases as with _ | ⟨_ | _ | ⟨r, k⟩, _ | ⟨x | _, _ | ⟨y | _, _ | ⟨c, as⟩⟩⟩⟩ <;> try exact (hs : False).elim
  obtain ⟨rfl, rfl, ⟨⟨n, s, pg, wt⟩, RC, M, P, cm⟩, hD, hq⟩ := hs
  obtain ⟨⟨g0, g1, g2, hV, hpg⟩, hR, hP⟩ := id hD
  dsimp only at g0 g1 g2 hV hpg hR hP
  unfold st_ask an_ask at hq
  dsimp only at hq
  have hn := hV.1
  refine ⟨by show 3 ≤ 4; omega, ?_⟩
  ((conv => whnf); (try dsimp only))
  rw [g0]
  rcases n with _ | v
  · simp only [if_neg (show ¬ (ir x 9 ∧ ir y 60 ∧ lg_can (0, s, pg, wt)) from fun z => absurd z.2.2.1 (Nat.lt_irrefl 0))] at hq
    refine ⟨fun _ => ?_, fun q => absurd rfl q⟩
    ((conv => whnf); (try dsimp only))
    exact hq σ hD (lpFM_rf σ)
  refine ⟨fun q => absurd q (nI_ne0 (by omega) (by omega)), fun _ => ?_⟩
  ((conv => whnf); (try dsimp only))
  refine lp_upto (n := 9) (by decide) ?_
  by_cases hx : ir x 9
  rotate_left
  · simp only [if_neg (show ¬ (ir x 9 ∧ ir y 60 ∧ lg_can (v + 1, s, pg, wt)) from fun z => hx z.1)] at hq
    refine Or.inr ⟨fun v hv e1 => hx (ir_of e1 hv (by omega)), ?_⟩
    ((conv => whnf); (try dsimp only))
    refine ⟨fun _ => ?_, fun q => absurd rfl q⟩
    ((conv => whnf); (try dsimp only))
    exact hq σ hD (lpFM_rf σ)
  refine Or.inl ⟨tn x, hx.2, hx.1, ?_⟩
  ((conv => whnf); (try dsimp only))
  refine ⟨fun q => absurd q (by decide), fun _ => ?_⟩
  ((conv => whnf); (try dsimp only))
  refine lp_upto (n := 60) (by decide) ?_
  by_cases hy : ir y 60
  rotate_left
  · simp only [if_neg (show ¬ (ir x 9 ∧ ir y 60 ∧ lg_can (v + 1, s, pg, wt)) from fun z => hy z.2.1)] at hq
    refine Or.inr ⟨fun v hv e1 => hy (ir_of e1 hv (by omega)), ?_⟩
    ((conv => whnf); (try dsimp only))
    refine ⟨fun _ => ?_, fun q => absurd rfl q⟩
    ((conv => whnf); (try dsimp only))
    exact hq σ hD (lpFM_rf σ)
  refine Or.inl ⟨tn y, hy.2, hy.1, ?_⟩
  ((conv => whnf); (try dsimp only))
  refine ⟨fun q => absurd q (by decide), fun _ => ?_⟩
  ((conv => whnf); (try dsimp only))
  rw [g0, show nI (v + 1) - Int32.ofInt 1 = nI v from nI_pred v]
  have hsv := hV.2.2.1 v (by omega)
  refine ⟨lp_vin (by omega) (by omega), ?_⟩
  rw [lp_clm (by omega), g1 v (by omega)]
  ((conv => whnf); (try dsimp only))
  have e20 : (nI (s (v + 1) - s v) = (Int8.ofInt 20).toInt32) ↔ s (v + 1) - s v = 20 := nI_eq (a := s (v + 1) - s v) (b := 20) (by omega) (by omega)
  refine ⟨fun q => ?_, fun q => ?_⟩ <;> ((conv => whnf); (try dsimp only))
  rotate_left
  · have h20 := e20.mp q
    simp only [if_neg (show ¬ (ir x 9 ∧ ir y 60 ∧ lg_can (v + 1, s, pg, wt)) from fun z => by have : s (v + 1) - s v < 20 := z.2.2.2; omega)] at hq
    exact hq σ hD (lpFM_rf σ)
  have hl : s (v + 1) - s v < 20 := by have : ¬ s (v + 1) - s v = 20 := fun z => q (e20.mpr z); omega
  simp only [if_pos (show (ir x 9 ∧ ir y 60 ∧ lg_can (v + 1, s, pg, wt)) from ⟨hx, hy, Nat.succ_pos v, hl⟩)] at hq
  rw [g0, show nI (v + 1) - Int32.ofInt 1 = nI v from nI_pred v]
  refine ⟨lp_vin (by omega) (by omega), ?_⟩
  rw [lp_clm (by omega), g1 v (by omega)]
  ((conv => whnf); (try dsimp only))
  rw [show (Int8.ofInt 20).toInt32 * nI v + nI (s (v + 1) - s v) = nI (20 * v + (s (v + 1) - s v)) from lp_ix]
  refine ⟨lp_vin (by omega) (by omega), ?_⟩
  rw [lp_clm (by omega)]
  ((conv => whnf); (try dsimp only))
  refine ⟨lp_vin (by omega) (by omega), ?_⟩
  rw [lp_clm (by omega)]
  have e1 : lp_w3 σ 32 0 (20 * v + (s (v + 1) - s v)) x 31 0 v = nI (s (v + 1) - s v) := by rw [lp_w3_r (by omega)]; exact g1 v (by omega)
  rw [e1]
  ((conv => whnf); (try dsimp only))
  rw [show (Int8.ofInt 20).toInt32 * nI v + nI (s (v + 1) - s v) = nI (20 * v + (s (v + 1) - s v)) from lp_ix]
  refine ⟨lp_vin (by omega) (by omega), ?_⟩
  rw [lp_clm (by omega)]
  ((conv => whnf); (try dsimp only))
  refine ⟨lp_vin (by omega) (by omega), ?_⟩
  rw [lp_clm (by omega)]
  have e2 : lp_w3 (lp_w3 σ 32 0 (20 * v + (s (v + 1) - s v)) x) 33 0 (20 * v + (s (v + 1) - s v)) y 31 0 v = nI (s (v + 1) - s v) := by rw [lp_w3_r (by omega), lp_w3_r (by omega)]; exact g1 v (by omega)
  rw [e2]
  ((conv => whnf); (try dsimp only))
  refine ⟨lp_vin (by omega) (by omega), ?_⟩
  rw [lp_clm (by omega), show nI (s (v + 1) - s v) + Int32.ofInt 1 = nI (s (v + 1) - s v + 1) from (nI_succ _).symm]
  ((conv => whnf); (try dsimp only))
  refine ⟨lp_vin (by omega) (by omega), ?_⟩
  rw [lp_clm (by omega)]
  have e3 : lp_w3 (lp_w3 (lp_w3 σ 32 0 (20 * v + (s (v + 1) - s v)) x) 33 0 (20 * v + (s (v + 1) - s v)) y) 31 0 v (nI (s (v + 1) - s v + 1)) 31 0 v = nI (s (v + 1) - s v + 1) := by rw [lp_rd]; exact if_pos ⟨rfl, rfl, rfl⟩
  rw [e3]
  ((conv => whnf); (try dsimp only))
  refine hq _ ⟨⟨?_, fun u hu => ?_, fun u i hu hi => ?_, lpV0_add hV hl hy.2, fun j hj => ?_⟩, MDr_congr hR ?_ ?_, MDp_congr hP (fun j _ _ => ?_) (fun r _ _ => ?_)⟩ (lpFM_w3 (lpFM_w3 (lpFM_w3 (lpFM_rf σ) (by omega)) (by omega)) (by omega))
  · rw [lp_w3_r (by omega), lp_w3_r (by omega), lp_w3_r (by omega)]
    exact g0
  · replace hu : u < v + 1 := hu
    show _ = nI (nu s (v + 1) (s (v + 1) + 1) (u + 1) - nu s (v + 1) (s (v + 1) + 1) u)
    rw [lp_rd]
    by_cases e4 : u = v
    · subst e4
      rw [if_pos ⟨rfl, rfl, rfl⟩, nu_same, nu_ne (by omega)]
      congr 1
      omega
    · rw [if_neg (fun z => e4 z.2.2), lp_w3_r (by omega), lp_w3_r (by omega), nu_ne (by omega), nu_ne (by omega)]
      exact g1 u (by omega)
  · replace hu : u < v + 1 := hu
    replace hi : i < nu s (v + 1) (s (v + 1) + 1) (u + 1) - nu s (v + 1) (s (v + 1) + 1) u := hi
    show _ = nI (nu pg (s (v + 1)) (tn x) (nu s (v + 1) (s (v + 1) + 1) u + i)) ∧ _ = nI (nu wt (s (v + 1)) (tn y) (nu s (v + 1) (s (v + 1) + 1) u + i))
    rw [nu_ne (show u ≠ v + 1 by omega)] at hi ⊢
    have r1 : lp_w3 (lp_w3 (lp_w3 σ 32 0 (20 * v + (s (v + 1) - s v)) x) 33 0 (20 * v + (s (v + 1) - s v)) y) 31 0 v (nI (s (v + 1) - s v + 1)) 32 0 (20 * u + i) = if 20 * u + i = 20 * v + (s (v + 1) - s v) then x else σ 32 0 (20 * u + i) := by
      rw [lp_w3_r (by omega), lp_w3_r (by omega), lp_rd]
      simp
    have r2 : lp_w3 (lp_w3 (lp_w3 σ 32 0 (20 * v + (s (v + 1) - s v)) x) 33 0 (20 * v + (s (v + 1) - s v)) y) 31 0 v (nI (s (v + 1) - s v + 1)) 33 0 (20 * u + i) = if 20 * u + i = 20 * v + (s (v + 1) - s v) then y else σ 33 0 (20 * u + i) := by
      rw [lp_w3_r (by omega), lp_rd, lp_w3_r (by omega)]
      simp
    rw [r1, r2]
    by_cases e4 : u = v
    · subst e4
      rw [nu_same] at hi
      by_cases e5 : i = s (u + 1) - s u
      · subst e5
        rw [if_pos rfl, if_pos rfl, show s u + (s (u + 1) - s u) = s (u + 1) by omega, nu_same, nu_same]
        exact ⟨hx.1, hy.1⟩
      · rw [if_neg (fun z => e5 (by omega)), if_neg (fun z => e5 (by omega)), nu_ne (by omega), nu_ne (by omega)]
        exact g2 u i (by omega) (by omega)
    · rw [nu_ne (by omega)] at hi
      have h1 := hV.2.2.1 u (by omega)
      have h2 := lpV0_le hV (show u + 1 ≤ v by omega) (show v ≤ v + 1 by omega)
      rw [if_neg (fun z => by omega), if_neg (fun z => by omega), nu_ne (by omega), nu_ne (by omega)]
      exact g2 u i (by omega) hi
  · replace hj : j < nu s (v + 1) (s (v + 1) + 1) (v + 1) := hj
    show nu pg (s (v + 1)) (tn x) j < 10
    rw [nu_same] at hj
    by_cases e4 : j = s (v + 1)
    · subst e4; rw [nu_same]; have := hx.2; omega
    · rw [nu_ne e4]; exact hpg j (by omega)
  · rw [lp_w3_r (by omega), lp_w3_r (by omega), lp_w3_r (by omega)]
  · rw [lp_w3_r (by omega), lp_w3_r (by omega), lp_w3_r (by omega)]
  · rw [lp_w3_r (by omega), lp_w3_r (by omega), lp_w3_r (by omega)]
  · rw [lp_w3_r (by omega), lp_w3_r (by omega), lp_w3_r (by omega)]
theorem lfr_le {n v i : Nat} {s pg wt : Nat → Nat} (hV : lpV0 n s wt) (hpg : ∀ j, j < s n → pg j < 10) (hv : v < n) (hi : i ≤ s (v + 1) - s v) : lfr s pg v i ≤ 10 := by
  unfold lfr
  split
  · omega
  · have := lpV0_le hV (show v + 1 ≤ n by omega) (Nat.le_refl n)
    have := hpg (s v + i - 1) (by omega)
    omega
theorem ltt_le {n v i : Nat} {s pg wt : Nat → Nat} (hV : lpV0 n s wt) (hpg : ∀ j, j < s n → pg j < 10) (hv : v < n) : ltt s pg v i ≤ 10 := by
  unfold ltt
  split
  · have := lpV0_le hV (show v + 1 ≤ n by omega) (Nat.le_refl n)
    have := hpg (s v + i) (by omega)
    omega
  · omega
def lp_ind (s pg : Nat → Nat) (f t v : Nat) : Nat → Nat := fun i => if lfr s pg v i = f ∧ ltt s pg v i = t then 1 else 0
def lp_ex (Lab : Nat → Nat → lpL → lpM → Prop) (m pc : Nat) (L : lpL) (τ : lpM) : Prop := ∃ m', m' < m ∧ Lab m' pc L τ
def sp_X7_inLog : lpS := fun as σ Q => match as with
  | [.inr (some (r, k)), .inl x, .inl y] => r = 30 ∧ k = 0 ∧ ∃ (L : lpLg) (f t : Nat), MDg σ L ∧ x = nI f ∧ y = nI t ∧ f ≤ 10 ∧ t ≤ 10 ∧ Q (some (nI (inL L.1 L.2.1 L.2.2.1 f t))) σ
  | _ => False
set_option maxHeartbeats 4000000 in
set_option maxRecDepth 100000 in
theorem ct_X7_inLog (l : Launch) (D : va_G) (cI cD : ClassId) : lp_Ct l D cI cD yX7_inLog cX7_inLog 7 (some .int) 1 sp_X7_inLog := by
  refine lp_method flX7 pfX7 kcX7 [(78, some 7, 2, sp_X7_next)] false kX7_inLog [5, 17] rfl rfl (lp_rI rfl) flX7_ok pfX7_ok kcX7_ok kX7_inLog_ok ⟨_, _, rfl, rfl⟩ (lp_cs1 (lp_mkCall lkX7_78 (ct_X7_next l D cI cD) (by omega)) lp_cs0) ?_
  intro as σ Q hok hs
  rcases as with _ | ⟨_ | _ | ⟨r, k⟩, _ | ⟨x | _, _ | ⟨y | _, _ | ⟨c, as⟩⟩⟩⟩ <;> try exact (hs : False).elim
  obtain ⟨rfl, rfl, ⟨n, s, pg, wt⟩, f, t, hG, rfl, rfl, hf, ht, hq⟩ := hs
  obtain ⟨g0, g1, g2, hV, hpg⟩ := id hG
  dsimp only at g0 g1 g2 hV hpg hq
  have hn := hV.1
  obtain ⟨Lab, hLab⟩ : ∃ Lab : Nat → Nat → lpL → lpM → Prop, Lab = fun m pc L τ => σ = τ ∧ ((pc = 5 ∧ ∃ (v : Nat) (x5 x6 : Option lpV), m = (n - v) * 100 + 50 ∧ v ≤ n ∧ L = [some (.inr (some (30, 0))), some (.inl (nI f)), some (.inl (nI t)), some (.inl (nI (lsum (inV s pg f t) v))), some (.inl (nI v)), x5, x6]) ∨
    (pc = 17 ∧ ∃ (v i : Nat) (x6 : Option lpV), m = (n - v) * 100 + (30 - i) ∧ v < n ∧ i ≤ s (v + 1) - s v + 1 ∧ (s (v + 1) - s v = 0 → i = 0) ∧ L = [some (.inr (some (30, 0))), some (.inl (nI f)), some (.inl (nI t)), some (.inl (nI (lsum (inV s pg f t) v + lsum (lp_ind s pg f t v) i))), some (.inl (nI v)), some (.inl (nI i)), x6])) := ⟨_, rfl⟩
  refine ⟨by show 3 ≤ 7; omega, Lab, ?_, ?_⟩
  · ((conv => whnf); (try dsimp only))
    exact ⟨_, by rw [hLab]; exact ⟨rfl, Or.inl ⟨rfl, 0, none, none, rfl, Nat.zero_le _, rfl⟩⟩⟩
  · intro m pc L τ hh
    rw [hLab] at hh
    obtain ⟨rfl, ⟨rfl, v, x5, x6, rfl, hv, rfl⟩ | ⟨rfl, v, i, x6, rfl, hv, hi, hz, rfl⟩⟩ := hh
    · ((conv => whnf); (try dsimp only))
      rw [g0]
      refine ⟨fun h => ?_, fun h => ?_⟩ <;> ((conv => whnf); (try dsimp only))
      · rw [nI_leI (by omega) (by omega)] at h
        obtain rfl : v = n := by omega
        exact hq
      · rw [nI_leI (by omega) (by omega)] at h
        exact ⟨(n - v) * 100 + (30 - 0), by omega, by rw [hLab]; exact ⟨rfl, Or.inr ⟨rfl, v, 0, x6, rfl, by omega, by omega, fun _ => rfl, rfl⟩⟩⟩
    · have hsv := hV.2.2.1 v hv
      have out : (s (v + 1) - s v = 0 ∨ i = s (v + 1) - s v + 1) → lp_ex Lab ((n - v) * 100 + (30 - i)) 5 [some (.inr (some (30, 0))), some (.inl (nI f)), some (.inl (nI t)), some (.inl (nI (lsum (inV s pg f t) v + lsum (lp_ind s pg f t v) i))), some (.inl (nI v + Int32.ofInt 1)), some (.inl (nI i)), x6] σ := by
        intro h
        have hin : lsum (inV s pg f t) (v + 1) = lsum (inV s pg f t) v + lsum (lp_ind s pg f t v) i := by
          show lsum (inV s pg f t) v + inV s pg f t v = _
          congr 1
          unfold inV
          rcases h with h | h
          · rw [if_pos h, hz h]
            rfl
          · by_cases h2 : s (v + 1) - s v = 0
            · have := hz h2; omega
            · rw [if_neg h2, h]
              rfl
        refine ⟨(n - (v + 1)) * 100 + 50, by omega, ?_⟩
        rw [hLab]
        refine ⟨rfl, Or.inl ⟨rfl, v + 1, some (.inl (nI i)), x6, rfl, by omega, ?_⟩⟩
        rw [hin, nI_succ v]
        rfl
      ((conv => whnf); (try dsimp only))
      refine ⟨lp_vin (by omega) (by omega), ?_⟩
      rw [lp_clm (by omega), g1 v hv]
      ((conv => whnf); (try dsimp only))
      refine ⟨fun h => ?_, fun h => ?_⟩ <;> ((conv => whnf); (try dsimp only))
      · rw [nI_ltI (by omega) (by omega)] at h
        exact out (Or.inr (by omega))
      · rw [nI_ltI (by omega) (by omega)] at h
        refine ⟨lp_vin (by omega) (by omega), ?_⟩
        rw [lp_clm (by omega), g1 v hv]
        ((conv => whnf); (try dsimp only))
        refine ⟨fun h2 => ?_, fun h2 => ?_⟩ <;> ((conv => whnf); (try dsimp only))
        · refine out (Or.inl ?_)
          rcases Nat.eq_zero_or_pos (s (v + 1) - s v) with z | z
          · exact z
          · exact absurd h2 (nI_nle z (by omega))
        · have hpos : 0 < s (v + 1) - s v := by
            rcases Nat.eq_zero_or_pos (s (v + 1) - s v) with z | z
            · rw [z] at h2; exact absurd (by decide) h2
            · exact z
          have hfl := lfr_le hV hpg hv (show i ≤ s (v + 1) - s v by omega)
          have htl := ltt_le (i := i) hV hpg hv
          have step : ∀ (b : Nat) (x6 : Option lpV), lp_ind s pg f t v i = b → lp_ex Lab ((n - v) * 100 + (30 - i)) 17 [some (.inr (some (30, 0))), some (.inl (nI f)), some (.inl (nI t)), some (.inl (nI (lsum (inV s pg f t) v + lsum (lp_ind s pg f t v) i) + nI b)), some (.inl (nI v)), some (.inl (nI i + Int32.ofInt 1)), x6] σ := by
            intro b x6 hb
            refine ⟨(n - v) * 100 + (30 - (i + 1)), by omega, ?_⟩
            rw [hLab]
            refine ⟨rfl, Or.inr ⟨rfl, v, i + 1, x6, rfl, hv, by omega, fun z => by omega, ?_⟩⟩
            rw [show lsum (lp_ind s pg f t v) (i + 1) = lsum (lp_ind s pg f t v) i + lp_ind s pg f t v i from rfl, hb, ← Nat.add_assoc, nI_add, nI_succ i]
            rfl
          refine ⟨fun h3 => ?_, fun h3 => ?_⟩ <;> ((conv => whnf); (try dsimp only))
          · have hi0 : i ≠ 0 := fun z => h3 (by rw [z]; rfl)
            rw [show (Int8.ofInt 20).toInt32 * nI v + nI i = nI (20 * v + i) from lp_ix, show nI (20 * v + i) - Int32.ofInt 1 = nI (20 * v + (i - 1)) from by rw [show 20 * v + (i - 1) = 20 * v + i - 1 by omega]; exact pk_sub (b := 1) (by omega)]
            refine ⟨lp_vin (by omega) (by omega), ?_⟩
            rw [lp_clm (by omega), (g2 v (i - 1) hv (by omega)).1]
            have elf : lfr s pg v i = pg (s v + (i - 1)) := by
              unfold lfr
              rw [if_neg hi0, show s v + i - 1 = s v + (i - 1) by omega]
            rw [← elf]
            ((conv => whnf); (try dsimp only))
            refine ⟨fun h4 => ?_, fun h4 => ?_⟩ <;> ((conv => whnf); (try dsimp only))
            · exact step 0 _ (if_neg (fun z => h4 (by rw [z.1])))
            · have h4 := lp_inj (by omega) (by omega) h4
              refine ⟨rfl, rfl, (n, s, pg, wt), v, i, hG, rfl, rfl, hv, by omega, ?_⟩
              ((conv => whnf); (try dsimp only))
              refine ⟨fun h5 => ?_, fun h5 => ?_⟩ <;> ((conv => whnf); (try dsimp only))
              · exact step 0 _ (if_neg (fun z => h5 (by rw [← z.2])))
              · exact step 1 _ (if_pos ⟨h4, lp_inj (by omega) (by omega) h5⟩)
          · have hi0 : i = 0 := lp_inj (by omega) (by omega) h3
            have elf : lfr s pg v i = 10 := if_pos hi0
            refine ⟨fun h4 => ?_, fun h4 => ?_⟩ <;> ((conv => whnf); (try dsimp only))
            · exact step 0 _ (if_neg (fun z => h4 (by rw [← z.1, elf]; rfl)))
            · have h4 : 10 = f := lp_inj (a := 10) (by omega) (by omega) h4
              refine ⟨rfl, rfl, (n, s, pg, wt), v, i, hG, rfl, rfl, hv, by omega, ?_⟩
              ((conv => whnf); (try dsimp only))
              refine ⟨fun h5 => ?_, fun h5 => ?_⟩ <;> ((conv => whnf); (try dsimp only))
              · exact step 0 _ (if_neg (fun z => h5 (by rw [← z.2])))
              · exact step 1 _ (if_pos ⟨elf.trans h4, lp_inj (by omega) (by omega) h5⟩)
