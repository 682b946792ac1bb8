/-! ===== the model: serve ===== -/
def lp_MS (σ : lpM) (n S : Nat) (s : Nat → Nat) (P : Nat → Nat → Nat) : Prop := (∀ v, v < n → σ 50 0 v = nI (P 0 v - s v) ∧ (P 0 v < s (v + 1) → σ 41 0 (20 * v + (P 0 v - s v)) = nI (P 1 v))) ∧ (∀ k, k < S → σ 49 0 k = nI (P 2 k)) ∧
  (∀ v sl, v < n → s v ≤ sl → sl < P 0 v → σ 41 0 (20 * v + (sl - s v)) = nI (P 3 sl) ∧ σ 42 0 (20 * v + (sl - s v)) = nI (P 4 sl) ∧ σ 43 0 (20 * v + (sl - s v)) = nI (P 5 sl) ∧ σ 44 0 (20 * v + (sl - s v)) = nI (P 6 sl)) ∧ σ 30 0 11 = nI (P 7 0) ∧ σ 30 0 12 = nI (P 7 1)
def lp_FS (σ τ : lpM) : Prop := (∀ r, r ≠ 30 → ¬ (41 ≤ r ∧ r ≤ 44) → r ≠ 49 → r ≠ 50 → τ r = σ r) ∧ (∀ j, j ≠ 11 → j ≠ 12 → τ 30 0 j = σ 30 0 j)
theorem lp_FS_w3 {σ τ : lpM} {r j : Nat} {x : Int32} (h : lp_FS σ τ) (hr : (41 ≤ r ∧ r ≤ 44) ∨ r = 49 ∨ r = 50 ∨ (r = 30 ∧ (j = 11 ∨ j = 12))) : lp_FS σ (lp_w3 τ r 0 j x) := by
  refine ⟨fun r' h1 h2 h3 h4 => by rw [lp_w3_r (by omega)]; exact h.1 r' h1 h2 h3 h4, fun j' h1 h2 => ?_⟩
  rw [lp_rd, if_neg (by omega)]
  exact h.2 j' h1 h2
theorem lp_maxI {a b : Nat} (ha : a < 2 ^ 31) (hb : b < 2 ^ 31) : (if nI a < nI b then nI b else nI a) = nI (max a b) := by
  by_cases h : a < b
  · rw [if_pos (nI_lt h hb), Nat.max_eq_right (by omega)]
  · rw [if_neg (fun z => h ((nI_ltI ha hb).mp z)), Nat.max_eq_left (by omega)]
theorem lp_MS_step {τ τ' : lpM} {n S q v c k : Nat} {s wt : Nat → Nat} {P : Nat → Nat → Nat} (hV : lpV0 n s wt) (hI : lpI n s q P) (h : lp_MS τ n (S + 1) s P) (hv : v < n) (ha : P 0 v < s (v + 1))
    (A50 : ∀ x, τ' 50 0 x = if x = v then nI (P 0 v - s v + 1) else τ 50 0 x) (A42 : ∀ x, τ' 42 0 x = if x = 20 * v + (P 0 v - s v) then nI (max (P 1 v) (P 2 k)) else τ 42 0 x) (A43 : ∀ x, τ' 43 0 x = if x = 20 * v + (P 0 v - s v) then nI (max (P 1 v) (P 2 k) + c) else τ 43 0 x) (A44 : ∀ x, τ' 44 0 x = if x = 20 * v + (P 0 v - s v) then nI k else τ 44 0 x)
    (A49 : ∀ x, τ' 49 0 x = if x = k then nI (max (P 1 v) (P 2 k) + c) else τ 49 0 x) (A41 : ∀ x, τ' 41 0 x = if P 0 v + 1 < s (v + 1) ∧ x = 20 * v + (P 0 v - s v) + 1 then nI (max (P 1 v) (P 2 k) + c + wt (P 0 v + 1)) else τ 41 0 x)
    (A11 : τ' 30 0 11 = nI (max (P 7 0) (max (P 1 v) (P 2 k) + c))) (A12 : τ' 30 0 12 = nI (P 7 1 + c)) : lp_MS τ' n (S + 1) s (svA s wt c v k P) := by
  obtain ⟨h1, h2, h3, h4, h5⟩ := h
  have hsv := hV.2.2.1 v hv
  have hIv := hI.1 v hv
  refine ⟨fun u hu => ⟨?_, fun hau => ?_⟩, fun x hx => ?_, fun u sl hu g1 g2 => ?_, by rw [A11, svA_70], by rw [A12, svA_71]⟩
  · rw [A50, svA_0]
    by_cases e1 : u = v
    · subst e1
      rw [if_pos rfl, if_pos rfl]
      congr 1
      omega
    · rw [if_neg e1, if_neg e1]
      exact (h1 u hu).1
  · rw [svA_0] at hau ⊢
    rw [svA_1, A41]
    by_cases e1 : u = v
    · subst e1
      rw [if_pos rfl] at hau ⊢
      rw [if_pos rfl, if_pos hau, if_pos ⟨hau, by omega⟩]
    · rw [if_neg e1] at hau ⊢
      have hsu := hV.2.2.1 u hu
      have hIu := hI.1 u hu
      rw [if_neg e1, if_neg (fun z => e1 (by omega))]
      exact (h1 u hu).2 hau
  · rw [A49, svA_2]
    by_cases e1 : x = k
    · rw [if_pos e1, if_pos e1]
    · rw [if_neg e1, if_neg e1]
      exact h2 x hx
  · rw [svA_0] at g2
    rw [A41, A42, A43, A44, svA_3, svA_4, svA_5, svA_6]
    have hsu := hV.2.2.1 u hu
    have hIu := hI.1 u hu
    by_cases e1 : sl = P 0 v
    · have euv : u = v := by
        rcases Nat.lt_trichotomy u v with z | z | z
        · have := lpV0_le hV (show u + 1 ≤ v by omega) (show v ≤ n by omega)
          rw [if_neg (by omega)] at g2
          omega
        · exact z
        · have := lpV0_le hV (show v + 1 ≤ u by omega) (show u ≤ n by omega)
          omega
      subst euv
      subst e1
      rw [if_neg (fun z => by omega)]
      simp only [if_true]
      exact ⟨(h1 u hu).2 ha, trivial, trivial, trivial⟩
    · have g3 : sl < P 0 u := by
        by_cases z : u = v
        · rw [if_pos z] at g2
          rw [z]
          omega
        · rw [if_neg z] at g2
          exact g2
      have hne : ¬ 20 * u + (sl - s u) = 20 * v + (P 0 v - s v) := fun z => by
        have : u = v := by omega
        subst this
        omega
      have hne2 : ¬ (P 0 v + 1 < s (v + 1) ∧ 20 * u + (sl - s u) = 20 * v + (P 0 v - s v) + 1) := fun z => by
        have : u = v := by omega
        subst this
        omega
      rw [if_neg hne, if_neg hne, if_neg hne, if_neg hne2, if_neg e1, if_neg e1, if_neg e1, if_neg e1]
      exact h3 u sl hu g1 g3
def sp_X7_serve : lpS := fun as σ Q => match as with
  | [.inr (some (r, k)), .inl x, .inl y] => r = 30 ∧ k = 0 ∧ ∃ (n G S : Nat) (s pg wt co : Nat → Nat), x = nI (S + 1) ∧ y = nI G ∧ G ≤ 100 ∧ S < 8 ∧ σ 30 0 9 = nI n ∧ σ 30 0 10 = nI (s n) ∧ σ 30 0 11 = nI 0 ∧ σ 30 0 12 = nI 0 ∧ lp_MV σ n s pg wt ∧ (∀ j, j < 10 → σ 35 0 j = nI (co j) ∧ 1 ≤ co j ∧ co j ≤ 50) ∧
      ∀ τ, lp_MS τ n (S + 1) s (svs s wt (fun sl => co (pg sl)) n (S + 1) (s n) (p0 s wt G)) → lp_FS σ τ → Q none τ
  | _ => False
set_option maxHeartbeats 4000000 in
set_option maxRecDepth 100000 in
theorem ct_X7_serve (l : Launch) (D : va_G) (cI cD : ClassId) : lp_Ct l D cI cD yX7_serve cX7_serve 7 none 1 sp_X7_serve := by
  refine lp_method flX7 pfX7 kcX7 [(85, none, 2, sp_max)] false kX7_serve [2, 22, 67, 81, 168, 206] rfl rfl (lp_rV rfl) flX7_ok pfX7_ok kcX7_ok kX7_serve_ok ⟨_, _, rfl, rfl⟩ (lp_cs1 (lp_mkMax lkX7_85 (by omega)) lp_cs0) ?_
  intro as σ Q hok hs
  rcases as with _ | ⟨_ | _ | ⟨r, k⟩, _ | ⟨x | _, _ | ⟨y | _, _ | ⟨c, as⟩⟩⟩⟩ <;> try exact (hs : False).elim
  obtain ⟨rfl, rfl, n, G, S, s, pg, wt, co, rfl, rfl, hG, hS, hN, hA, hz1, hz2, hMV, hco, hq⟩ := hs
  obtain ⟨hV, hpg, g1, g2⟩ := id hMV
  have hn := hV.1
  have hb := lpV0_1200 hV n (Nat.le_refl _)
  generalize hFF : svs s wt (fun sl => co (pg sl)) n (S + 1) (s n) (p0 s wt G) = FF at hq
  obtain ⟨Inv, hInv⟩ : ∃ Inv : Nat → (Nat → Nat → Nat) → lpM → Prop, Inv = fun q P τ => lpI n s q P ∧ lpN n s (6060 + 110 * q) P ∧ svs s wt (fun sl => co (pg sl)) n (S + 1) (s n - q) P = FF ∧ lp_MS τ n (S + 1) s P ∧ lp_FS σ τ := ⟨_, rfl⟩
  obtain ⟨Lab, hLab⟩ : ∃ Lab : Nat → Nat → lpL → lpM → Prop, Lab = fun m pc L τ =>
    ((pc = 2 ∧ ∃ (k : Nat) (x4 x5 x6 : Option lpV), m = 2 ^ 40 + (20 - k) ∧ k ≤ S + 1 ∧ lp_FS σ τ ∧ τ 30 0 11 = nI 0 ∧ τ 30 0 12 = nI 0 ∧ (∀ k', k' < k → τ 49 0 k' = nI 0) ∧ L = [some (.inr (some (30, 0))), some (.inl (nI (S + 1))), some (.inl (nI G)), some (.inl (nI k)), x4, x5, x6]) ∨
    (pc = 22 ∧ ∃ (v : Nat) (x4 x5 x6 : Option lpV), m = 2 ^ 39 + (100 - v) ∧ v ≤ n ∧ lp_FS σ τ ∧ τ 30 0 11 = nI 0 ∧ τ 30 0 12 = nI 0 ∧ (∀ k', k' < S + 1 → τ 49 0 k' = nI 0) ∧ (∀ v', v' < v → τ 50 0 v' = nI 0 ∧ (s v' < s (v' + 1) → τ 41 0 (20 * v') = nI (v' * G + wt (s v')))) ∧ L = [some (.inr (some (30, 0))), some (.inl (nI (S + 1))), some (.inl (nI G)), some (.inl (nI v)), x4, x5, x6]) ∨
    (pc = 67 ∧ ∃ (q : Nat) (P : Nat → Nat → Nat) (x4 x5 x6 : Option lpV), m = (s n - q) * 10000 + 5000 ∧ q ≤ s n ∧ Inv q P τ ∧ L = [some (.inr (some (30, 0))), some (.inl (nI (S + 1))), some (.inl (nI G)), some (.inl (nI q)), x4, x5, x6]) ∨
    (pc = 81 ∧ ∃ (q v : Nat) (P : Nat → Nat → Nat) (x6 : Option lpV), m = (s n - q) * 10000 + 1000 + (n - v) ∧ q < s n ∧ v ≤ n ∧ Inv q P τ ∧ L = [some (.inr (some (30, 0))), some (.inl (nI (S + 1))), some (.inl (nI G)), some (.inl (nI q)), some (.inl (lp_oi (pv (pact s P) (P 1) v))), some (.inl (nI v)), x6]) ∨
    (pc = 168 ∧ ∃ (q v k : Nat) (P : Nat → Nat → Nat), m = (s n - q) * 10000 + 500 + (20 - k) ∧ q < s n ∧ pv (pact s P) (P 1) n = some v ∧ k ≤ S ∧ Inv q P τ ∧ L = [some (.inr (some (30, 0))), some (.inl (nI (S + 1))), some (.inl (nI G)), some (.inl (nI q)), some (.inl (nI v)), some (.inl (nI (ps (P 2) (k + 1)))), some (.inl (nI (k + 1)))]) ∨
    (pc = 206 ∧ ∃ (q v : Nat) (P : Nat → Nat → Nat) (x6 : Option lpV), m = (s n - q) * 10000 ∧ q < s n ∧ pv (pact s P) (P 1) n = some v ∧ Inv q P τ ∧ L = [some (.inr (some (30, 0))), some (.inl (nI (S + 1))), some (.inl (nI G)), some (.inl (nI q)), some (.inl (nI v)), some (.inl (nI (ps (P 2) (S + 1)))), x6])) := ⟨_, rfl⟩
  refine ⟨by show 3 ≤ 7; omega, Lab, ?_, ?_⟩
  · ((conv => whnf); (try dsimp only))
    refine ⟨2 ^ 40 + (20 - 0), ?_⟩
    rw [hLab]
    exact Or.inl ⟨rfl, 0, none, none, none, rfl, by omega, ⟨fun _ _ _ _ _ => rfl, fun _ _ _ => rfl⟩, hz1, hz2, fun k' hk' => by omega, rfl⟩
  · intro m pc L τ hh
    rw [hLab] at hh
    rcases hh with ⟨rfl, k, x4, x5, x6, rfl, hk, hF, t11, t12, t49, rfl⟩ | ⟨rfl, v, x4, x5, x6, rfl, hv, hF, t11, t12, t49, t50, rfl⟩ | ⟨rfl, q, P, x4, x5, x6, rfl, hq0, hI, rfl⟩ | ⟨rfl, q, v, P, x6, rfl, hq0, hv, hI, rfl⟩ | ⟨rfl, q, v, k, P, rfl, hq0, hpv, hk, hI, rfl⟩ | ⟨rfl, q, v, P, x6, rfl, hq0, hpv, hI, rfl⟩
    · ((conv => whnf); (try dsimp only))
      refine ⟨fun h => ?_, fun h => ?_⟩ <;> ((conv => whnf); (try dsimp only))
      · rw [nI_leI (by omega) (by omega)] at h
        obtain rfl : k = S + 1 := by omega
        refine ⟨2 ^ 39 + (100 - 0), by omega, ?_⟩
        rw [hLab]
        exact Or.inr (Or.inl ⟨rfl, 0, x4, x5, x6, rfl, by omega, hF, t11, t12, t49, fun v' hv' => by omega, rfl⟩)
      · rw [nI_leI (by omega) (by omega)] at h
        refine ⟨lp_vin (by omega) (by omega), ?_⟩
        rw [lp_clm (by omega)]
        ((conv => whnf); (try dsimp only))
        refine ⟨2 ^ 40 + (20 - (k + 1)), by omega, ?_⟩
        rw [hLab]
        refine Or.inl ⟨rfl, k + 1, x4, x5, x6, rfl, by omega, lp_FS_w3 hF (by omega), by rw [lp_w3_r (by omega)]; exact t11, by rw [lp_w3_r (by omega)]; exact t12, fun k' hk' => ?_, by rw [nI_succ k]; rfl⟩
        rw [lp_rd]
        by_cases e1 : k' = k
        · rw [if_pos ⟨rfl, rfl, e1⟩]
          rfl
        · rw [if_neg (fun z => e1 z.2.2)]
          exact t49 k' (by omega)
    · have t9 : τ 30 0 9 = nI n := by rw [hF.2 9 (by omega) (by omega)]; exact hN
      ((conv => whnf); (try dsimp only))
      rw [t9]
      refine ⟨fun h => ?_, fun h => ?_⟩ <;> ((conv => whnf); (try dsimp only))
      · rw [nI_leI (by omega) (by omega)] at h
        obtain rfl : v = n := by omega
        refine ⟨(s v - 0) * 10000 + 5000, by omega, ?_⟩
        rw [hLab]
        refine Or.inr (Or.inr (Or.inl ⟨rfl, 0, p0 s wt G, x4, x5, x6, rfl, by omega, ?_, rfl⟩))
        rw [hInv]
        refine ⟨lpI_0 hV G, lpN_0 hV hG, hFF, ⟨fun u hu => ⟨?_, fun hau => ?_⟩, fun k' hk' => t49 k' hk', fun u sl hu h1 h2 => ?_, t11, t12⟩, hF⟩
        · show τ 50 0 u = nI (s u - s u)
          rw [Nat.sub_self]
          exact (t50 u hu).1
        · show τ 41 0 (20 * u + (s u - s u)) = nI (u * G + wt (s u))
          rw [Nat.sub_self]
          exact (t50 u hu).2 hau
        · have h2 : sl < s u := h2
          omega
      · rw [nI_leI (by omega) (by omega)] at h
        have hsv := hV.2.2.1 v (by omega)
        have hsn := lpV0_le hV (show v + 1 ≤ n by omega) (Nat.le_refl n)
        refine ⟨lp_vin (by omega) (by omega), ?_⟩
        rw [lp_clm (by omega)]
        ((conv => whnf); (try dsimp only))
        rw [show (Int8.ofInt 20).toInt32 * nI v = nI (20 * v) from pk_mul 20 v]
        refine ⟨lp_vin (by omega) (by omega), ?_⟩
        rw [lp_clm (by omega)]
        have e40 : lp_w3 τ 50 0 v (Int32.ofInt 0) 40 0 (20 * v) = τ 40 0 (20 * v) := by rw [lp_w3_r (by omega)]
        rw [e40]
        ((conv => whnf); (try dsimp only))
        refine ⟨lp_vin (by omega) (by omega), ?_⟩
        rw [lp_clm (by omega), pk_mul]
        ((conv => whnf); (try dsimp only))
        refine ⟨2 ^ 39 + (100 - (v + 1)), by omega, ?_⟩
        rw [hLab]
        refine Or.inr (Or.inl ⟨rfl, v + 1, x4, x5, x6, rfl, by omega, lp_FS_w3 (lp_FS_w3 hF (by omega)) (by omega), by rw [lp_w3_r (by omega), lp_w3_r (by omega)]; exact t11, by rw [lp_w3_r (by omega), lp_w3_r (by omega)]; exact t12, fun k' hk' => by rw [lp_w3_r (by omega), lp_w3_r (by omega)]; exact t49 k' hk', fun v' hv' => ⟨?_, fun hlt => ?_⟩, by rw [nI_succ v]; rfl⟩)
        · rw [lp_w3_r (by omega), lp_rd]
          by_cases e1 : v' = v
          · rw [if_pos ⟨rfl, rfl, e1⟩]
            rfl
          · rw [if_neg (fun z => e1 z.2.2)]
            exact (t50 v' (by omega)).1
        · rw [lp_rd]
          by_cases e1 : v' = v
          · subst e1
            rw [if_pos ⟨rfl, rfl, rfl⟩, hF.1 40 (by omega) (by omega) (by omega) (by omega)]
            have := (g2 v' 0 (by omega) (by omega)).2
            rw [Nat.add_zero, Nat.add_zero] at this
            rw [this, nI_add, Nat.mul_comm G v']
          · rw [if_neg (fun z => e1 (by omega)), lp_w3_r (by omega)]
            exact (t50 v' (by omega)).2 hlt
    · have hI' := hI
      rw [hInv] at hI'
      obtain ⟨i1, i2, i3, i4, hF⟩ := hI'
      have t10 : τ 30 0 10 = nI (s n) := by rw [hF.2 10 (by omega) (by omega)]; exact hA
      ((conv => whnf); (try dsimp only))
      rw [t10]
      refine ⟨fun h => ?_, fun h => ?_⟩ <;> ((conv => whnf); (try dsimp only))
      · rw [nI_leI (by omega) (by omega)] at h
        obtain rfl : q = s n := by omega
        rw [Nat.sub_self] at i3
        have i3 : P = FF := i3
        subst i3
        exact hq τ i4 hF
      · rw [nI_leI (by omega) (by omega)] at h
        refine ⟨(s n - q) * 10000 + 1000 + (n - 0), by omega, ?_⟩
        rw [hLab]
        exact Or.inr (Or.inr (Or.inr (Or.inl ⟨rfl, q, 0, P, x6, rfl, by omega, by omega, hI, rfl⟩)))
    · have hI' := hI
      rw [hInv] at hI'
      obtain ⟨i1, i2, i3, i4, hF⟩ := hI'
      have t9 : τ 30 0 9 = nI n := by rw [hF.2 9 (by omega) (by omega)]; exact hN
      ((conv => whnf); (try dsimp only))
      rw [t9]
      refine ⟨fun h => ?_, fun h => ?_⟩ <;> ((conv => whnf); (try dsimp only))
      · rw [nI_leI (by omega) (by omega)] at h
        obtain rfl : v = n := by omega
        obtain ⟨u, u1, u2, u3⟩ := lpI_pv hV i1 hq0
        refine ⟨(s v - q) * 10000 + 500 + (20 - 0), by omega, ?_⟩
        rw [hLab]
        refine Or.inr (Or.inr (Or.inr (Or.inr (Or.inl ⟨rfl, q, u, 0, P, rfl, hq0, u1, by omega, hI, ?_⟩))))
        rw [u1]
        rfl
      · rw [nI_leI (by omega) (by omega)] at h
        have hvn : v < n := by omega
        have hsv := hV.2.2.1 v hvn
        have hIv := i1.1 v hvn
        obtain ⟨m1, m2⟩ := i4.1 v hvn
        have step : ∀ o : Option Nat, pv (pact s P) (P 1) (v + 1) = o → lp_ex Lab ((s n - q) * 10000 + 1000 + (n - v)) 81 [some (.inr (some (30, 0))), some (.inl (nI (S + 1))), some (.inl (nI G)), some (.inl (nI q)), some (.inl (lp_oi o)), some (.inl (nI v + Int32.ofInt 1)), x6] τ := by
          intro o ho
          subst ho
          refine ⟨(s n - q) * 10000 + 1000 + (n - (v + 1)), by omega, ?_⟩
          rw [hLab]
          refine Or.inr (Or.inr (Or.inr (Or.inl ⟨rfl, q, v + 1, P, x6, rfl, hq0, by omega, hI, ?_⟩)))
          rw [nI_succ v]
          rfl
        have hpv : pv (pact s P) (P 1) (v + 1) = (match pv (pact s P) (P 1) v with
          | none => if pact s P v = true then some v else none
          | some b => if pact s P v = true ∧ P 1 v < P 1 b then some v else some b) := rfl
        have hact : pact s P v = true ↔ P 0 v < s (v + 1) := by unfold pact; exact decide_eq_true_iff
        refine ⟨lp_vin (by omega) (by omega), ?_⟩
        rw [lp_clm (by omega), m1]
        ((conv => whnf); (try dsimp only))
        refine ⟨lp_vin (by omega) (by omega), ?_⟩
        rw [lp_clm (by omega), hF.1 38 (by omega) (by omega) (by omega) (by omega), g1 v hvn]
        ((conv => whnf); (try dsimp only))
        refine ⟨fun h2 => ?_, fun h2 => ?_⟩ <;> ((conv => whnf); (try dsimp only))
        · rw [nI_leI (by omega) (by omega)] at h2
          have hna : ¬ pact s P v = true := fun z => by have := hact.mp z; omega
          rcases hpb : pv (pact s P) (P 1) v with _ | b <;> rw [hpb] at hpv <;> dsimp only at hpv
          · rw [if_neg hna] at hpv
            exact step none hpv
          · rw [if_neg (fun z => hna z.1)] at hpv
            exact step (some b) hpv
        · rw [nI_leI (by omega) (by omega)] at h2
          have ha : P 0 v < s (v + 1) := by omega
          have hya := hact.mpr ha
          have hPv := i2.1 v hvn ha
          rcases hpb : pv (pact s P) (P 1) v with _ | b <;> rw [hpb] at hpv <;> dsimp only at hpv
          · rw [if_pos hya] at hpv
            dsimp only [lp_oi]
            refine ⟨fun _ => ?_, fun q3 => absurd rfl q3⟩
            ((conv => whnf); (try dsimp only))
            exact step (some v) hpv
          · have hpsb := pv_spec hpb
            have hbn : b < n := by omega
            have hba : P 0 b < s (b + 1) := of_decide_eq_true hpsb.2.1
            have hsb := hV.2.2.1 b hbn
            have hIb := i1.1 b hbn
            have hPb := i2.1 b hbn hba
            obtain ⟨k1, k2⟩ := i4.1 b hbn
            dsimp only [lp_oi]
            refine ⟨fun q3 => absurd q3 (lp_neg1 (by omega)), fun _ => ?_⟩
            ((conv => whnf); (try dsimp only))
            refine ⟨lp_vin (by omega) (by omega), ?_⟩
            rw [lp_clm (by omega), m1]
            ((conv => whnf); (try dsimp only))
            rw [show (Int8.ofInt 20).toInt32 * nI v + nI (P 0 v - s v) = nI (20 * v + (P 0 v - s v)) from lp_ix]
            refine ⟨lp_vin (by omega) (by omega), ?_⟩
            rw [lp_clm (by omega), m2 ha]
            ((conv => whnf); (try dsimp only))
            refine ⟨lp_vin (by omega) (by omega), ?_⟩
            rw [lp_clm (by omega), k1]
            ((conv => whnf); (try dsimp only))
            rw [show (Int8.ofInt 20).toInt32 * nI b + nI (P 0 b - s b) = nI (20 * b + (P 0 b - s b)) from lp_ix]
            refine ⟨lp_vin (by omega) (by omega), ?_⟩
            rw [lp_clm (by omega), k2 hba]
            ((conv => whnf); (try dsimp only))
            refine ⟨fun h3 => ?_, fun h3 => ?_⟩ <;> ((conv => whnf); (try dsimp only))
            · rw [nI_leI (by omega) (by omega)] at h3
              rw [if_neg (by omega)] at hpv
              exact step (some b) hpv
            · rw [nI_leI (by omega) (by omega)] at h3
              rw [if_pos ⟨hya, by omega⟩] at hpv
              exact step (some v) hpv
    · have hI' := hI
      rw [hInv] at hI'
      obtain ⟨i1, i2, i3, i4, hF⟩ := hI'
      have hps := ps_spec (P 2) k
      have hp2 := i2.2.1
      ((conv => whnf); (try dsimp only))
      refine ⟨fun h => ?_, fun h => ?_⟩ <;> ((conv => whnf); (try dsimp only))
      · rw [nI_leI (by omega) (by omega)] at h
        obtain rfl : k = S := by omega
        refine ⟨(s n - q) * 10000, by omega, ?_⟩
        rw [hLab]
        exact Or.inr (Or.inr (Or.inr (Or.inr (Or.inr ⟨rfl, q, v, P, some (.inl (nI (k + 1))), rfl, hq0, hpv, hI, rfl⟩))))
      · rw [nI_leI (by omega) (by omega)] at h
        have hb1 := hp2 (k + 1)
        have hb2 := hp2 (ps (P 2) (k + 1))
        refine ⟨lp_vin (by omega) (by omega), ?_⟩
        rw [lp_clm (by omega), i4.2.1 (k + 1) (by omega)]
        ((conv => whnf); (try dsimp only))
        refine ⟨lp_vin (by omega) (by omega), ?_⟩
        rw [lp_clm (by omega), i4.2.1 (ps (P 2) (k + 1)) (by omega)]
        have eps : ps (P 2) (k + 2) = if P 2 (k + 1) < P 2 (ps (P 2) (k + 1)) then k + 1 else ps (P 2) (k + 1) := rfl
        have step : ∀ c : Nat, ps (P 2) (k + 2) = c → lp_ex Lab ((s n - q) * 10000 + 500 + (20 - k)) 168 [some (.inr (some (30, 0))), some (.inl (nI (S + 1))), some (.inl (nI G)), some (.inl (nI q)), some (.inl (nI v)), some (.inl (nI c)), some (.inl (nI (k + 1) + Int32.ofInt 1))] τ := by
          intro c hc
          subst hc
          refine ⟨(s n - q) * 10000 + 500 + (20 - (k + 1)), by omega, ?_⟩
          rw [hLab]
          refine Or.inr (Or.inr (Or.inr (Or.inr (Or.inl ⟨rfl, q, v, k + 1, P, rfl, hq0, hpv, by omega, hI, ?_⟩))))
          rw [nI_succ (k + 1)]
          rfl
        ((conv => whnf); (try dsimp only))
        refine ⟨fun h2 => ?_, fun h2 => ?_⟩ <;> ((conv => whnf); (try dsimp only))
        · rw [nI_leI (by omega) (by omega)] at h2
          rw [if_neg (by omega)] at eps
          exact step _ eps
        · rw [nI_leI (by omega) (by omega)] at h2
          rw [if_pos (by omega)] at eps
          exact step _ eps
    · have hI' := hI
      rw [hInv] at hI'
      obtain ⟨i1, i2, i3, i4, hF⟩ := hI'
      have hpvs := pv_spec hpv
      have hvn := hpvs.1
      have ha : P 0 v < s (v + 1) := of_decide_eq_true hpvs.2.1
      have hsv := hV.2.2.1 v hvn
      have hsn := lpV0_le hV (show v + 1 ≤ n by omega) (Nat.le_refl n)
      have hIv := i1.1 v hvn
      have hps := (ps_spec (P 2) S).1
      have hd := i2.1 v hvn ha
      have e3 : svs s wt (fun sl => co (pg sl)) n (S + 1) (s n - (q + 1)) (svA s wt (co (pg (P 0 v))) v (ps (P 2) (S + 1)) P) = FF := by
        rw [← i3, show s n - q = s n - (q + 1) + 1 by omega]
        show _ = svs s wt (fun sl => co (pg sl)) n (S + 1) (s n - (q + 1)) (svS s wt (fun sl => co (pg sl)) n (S + 1) P)
        unfold svS
        rw [hpv]
      have hpgv := hpg (P 0 v) (by omega)
      obtain ⟨hc1, hc2, hc3⟩ := hco (pg (P 0 v)) hpgv
      have hN1 := lpN_step (wt := wt) hV i1 i2 hvn ha ⟨hc2, hc3⟩ (show ps (P 2) (S + 1) < 8 by omega)
      have hI1 := lpI_step (wt := wt) (c := co (pg (P 0 v))) (q := ps (P 2) (S + 1)) i1 hvn ha
      generalize hkk : ps (P 2) (S + 1) = k at *
      have hfr := i2.2.1 k
      have h70 := i2.2.2.1 0
      have h71 := i2.2.2.1 1
      have hstep := fun τ' => lp_MS_step (τ := τ) (τ' := τ') (c := co (pg (P 0 v))) (k := k) hV i1 i4 hvn ha
      obtain ⟨m1, m2⟩ := i4.1 v hvn
      have m2 := m2 ha
      have m49 := i4.2.1 k (by omega)
      have m11 := i4.2.2.2.1
      have m12 := i4.2.2.2.2
      obtain ⟨w39, w40⟩ := g2 v (P 0 v - s v) hvn (by omega)
      rw [show s v + (P 0 v - s v) = P 0 v by omega] at w39
      have t39 : τ 39 0 (20 * v + (P 0 v - s v)) = nI (pg (P 0 v)) := by rw [hF.1 39 (by omega) (by omega) (by omega) (by omega)]; exact w39
      have t35 : τ 35 0 (pg (P 0 v)) = nI (co (pg (P 0 v))) := by rw [hF.1 35 (by omega) (by omega) (by omega) (by omega)]; exact hc1
      have t38 : τ 38 0 v = nI (s (v + 1) - s v) := by rw [hF.1 38 (by omega) (by omega) (by omega) (by omega)]; exact g1 v hvn
      have t40 : P 0 v + 1 < s (v + 1) → τ 40 0 (20 * v + (P 0 v - s v) + 1) = nI (wt (P 0 v + 1)) := fun hlt => by
        have h1 := (g2 v (P 0 v - s v + 1) hvn (by omega)).2
        rw [show s v + (P 0 v - s v + 1) = P 0 v + 1 by omega] at h1
        rw [hF.1 40 (by omega) (by omega) (by omega) (by omega)]
        exact h1
      generalize hi0 : 20 * v + (P 0 v - s v) = i0 at *
      have hi0b : i0 < 1200 := by omega
      generalize hcc : co (pg (P 0 v)) = c at *
      generalize hb0 : max (P 1 v) (P 2 k) = b0 at *
      have hb0b : b0 ≤ 6060 + 110 * q := by omega
      ((conv => whnf); (try dsimp only))
      refine ⟨lp_vin (by omega) (by omega), ?_⟩
      rw [lp_clm (by omega), m1]
      ((conv => whnf); (try dsimp only))
      rw [show (Int8.ofInt 20).toInt32 * nI v + nI (P 0 v - s v) = nI i0 from by rw [← hi0]; exact lp_ix]
      refine ⟨lp_vin (by omega) (by omega), ?_⟩
      rw [lp_clm (by omega), m2]
      ((conv => whnf); (try dsimp only))
      refine ⟨lp_vin (by omega) (by omega), ?_⟩
      rw [lp_clm (by omega), m49]
      ((conv => whnf); (try dsimp only))
      rw [lp_maxI (by omega) (by omega), hb0]
      refine ⟨lp_vin (by omega) (by omega), ?_⟩
      rw [lp_clm (by omega)]
      ((conv => whnf); (try dsimp only))
      refine ⟨lp_vin (by omega) (by omega), ?_⟩
      rw [lp_clm (by omega), show lp_w3 τ 42 0 i0 (nI b0) 42 0 i0 = nI b0 from by simp [lp_rd]]
      ((conv => whnf); (try dsimp only))
      refine ⟨lp_vin (by omega) (by omega), ?_⟩
      rw [lp_clm (by omega), show lp_w3 τ 42 0 i0 (nI b0) 39 0 i0 = nI (pg (P 0 v)) from by simp [lp_rd, t39]]
      ((conv => whnf); (try dsimp only))
      refine ⟨lp_vin (by omega) (by omega), ?_⟩
      rw [lp_clm (by omega), show lp_w3 τ 42 0 i0 (nI b0) 35 0 (pg (P 0 v)) = nI c from by simp [lp_rd, t35]]
      ((conv => whnf); (try dsimp only))
      rw [nI_add]
      refine ⟨lp_vin (by omega) (by omega), ?_⟩
      rw [lp_clm (by omega)]
      ((conv => whnf); (try dsimp only))
      refine ⟨lp_vin (by omega) (by omega), ?_⟩
      rw [lp_clm (by omega)]
      ((conv => whnf); (try dsimp only))
      refine ⟨lp_vin (by omega) (by omega), ?_⟩
      rw [lp_clm (by omega), show lp_w3 (lp_w3 (lp_w3 τ 42 0 i0 (nI b0)) 43 0 i0 (nI (b0 + c))) 44 0 i0 (nI k) 43 0 i0 = nI (b0 + c) from by simp [lp_rd]]
      ((conv => whnf); (try dsimp only))
      refine ⟨lp_vin (by omega) (by omega), ?_⟩
      rw [lp_clm (by omega)]
      ((conv => whnf); (try dsimp only))
      generalize hτ4 : lp_w3 (lp_w3 (lp_w3 (lp_w3 τ 42 0 i0 (nI b0)) 43 0 i0 (nI (b0 + c))) 44 0 i0 (nI k)) 49 0 k (nI (b0 + c)) = τ4
      have r4 : τ4 30 0 12 = nI (P 7 1) ∧ τ4 30 0 11 = nI (P 7 0) ∧ τ4 39 0 i0 = nI (pg (P 0 v)) ∧ τ4 35 0 (pg (P 0 v)) = nI c ∧ τ4 43 0 i0 = nI (b0 + c) ∧ τ4 50 0 v = nI (P 0 v - s v) ∧ τ4 38 0 v = nI (s (v + 1) - s v) := by
        rw [← hτ4]
        refine ⟨?_, ?_, ?_, ?_, ?_, ?_, ?_⟩ <;> simp [lp_rd, m11, m12, t39, t35, m1, t38]
      obtain ⟨r4a, r4b, r4c, r4d, r4e, r4f, r4g⟩ := r4
      rw [r4a]
      refine ⟨lp_vin (by omega) (by omega), ?_⟩
      rw [lp_clm (by omega), r4c]
      ((conv => whnf); (try dsimp only))
      refine ⟨lp_vin (by omega) (by omega), ?_⟩
      rw [lp_clm (by omega), r4d]
      ((conv => whnf); (try dsimp only))
      rw [nI_add, show lp_w3 τ4 30 0 12 (nI (P 7 1 + c)) 30 0 11 = nI (P 7 0) from by simp [lp_rd, r4b]]
      refine ⟨lp_vin (by omega) (by omega), ?_⟩
      rw [lp_clm (by omega), show lp_w3 τ4 30 0 12 (nI (P 7 1 + c)) 43 0 i0 = nI (b0 + c) from by simp [lp_rd, r4e]]
      ((conv => whnf); (try dsimp only))
      rw [lp_maxI (by omega) (by omega)]
      refine ⟨lp_vin (by omega) (by omega), ?_⟩
      rw [lp_clm (by omega), show lp_w3 (lp_w3 τ4 30 0 12 (nI (P 7 1 + c))) 30 0 11 (nI (max (P 7 0) (b0 + c))) 50 0 v = nI (P 0 v - s v) from by simp [lp_rd, r4f]]
      ((conv => whnf); (try dsimp only))
      refine ⟨lp_vin (by omega) (by omega), ?_⟩
      rw [lp_clm (by omega), show nI (P 0 v - s v) + Int32.ofInt 1 = nI (P 0 v - s v + 1) from (nI_succ _).symm]
      ((conv => whnf); (try dsimp only))
      refine ⟨lp_vin (by omega) (by omega), ?_⟩
      rw [lp_clm (by omega), show lp_w3 (lp_w3 (lp_w3 τ4 30 0 12 (nI (P 7 1 + c))) 30 0 11 (nI (max (P 7 0) (b0 + c)))) 50 0 v (nI (P 0 v - s v + 1)) 50 0 v = nI (P 0 v - s v + 1) from by simp [lp_rd]]
      ((conv => whnf); (try dsimp only))
      refine ⟨lp_vin (by omega) (by omega), ?_⟩
      rw [lp_clm (by omega), show lp_w3 (lp_w3 (lp_w3 τ4 30 0 12 (nI (P 7 1 + c))) 30 0 11 (nI (max (P 7 0) (b0 + c)))) 50 0 v (nI (P 0 v - s v + 1)) 38 0 v = nI (s (v + 1) - s v) from by simp [lp_rd, r4g]]
      ((conv => whnf); (try dsimp only))
      have hF7 : lp_FS σ (lp_w3 (lp_w3 (lp_w3 τ4 30 0 12 (nI (P 7 1 + c))) 30 0 11 (nI (max (P 7 0) (b0 + c)))) 50 0 v (nI (P 0 v - s v + 1))) := by
        rw [← hτ4]
        exact lp_FS_w3 (lp_FS_w3 (lp_FS_w3 (lp_FS_w3 (lp_FS_w3 (lp_FS_w3 (lp_FS_w3 hF (by omega)) (by omega)) (by omega)) (by omega)) (by omega)) (by omega)) (by omega)
      have fin : ∀ (τ' : lpM) (x6 : Option lpV), lp_MS τ' n (S + 1) s (svA s wt c v k P) → lp_FS σ τ' → lp_ex Lab ((s n - q) * 10000) 67 [some (.inr (some (30, 0))), some (.inl (nI (S + 1))), some (.inl (nI G)), some (.inl (nI q + Int32.ofInt 1)), some (.inl (nI v)), some (.inl (nI k)), x6] τ' := by
        intro τ' x6 hMS' hFS'
        refine ⟨(s n - (q + 1)) * 10000 + 5000, by omega, ?_⟩
        rw [hLab]
        refine Or.inr (Or.inr (Or.inl ⟨rfl, q + 1, svA s wt c v k P, some (.inl (nI v)), some (.inl (nI k)), x6, rfl, by omega, ?_, by rw [nI_succ q]; rfl⟩))
        rw [hInv]
        exact ⟨hI1, by rw [show 6060 + 110 * (q + 1) = 6060 + 110 * q + 110 by omega]; exact hN1, e3, hMS', hFS'⟩
      refine ⟨fun h2 => ?_, fun h2 => ?_⟩ <;> ((conv => whnf); (try dsimp only))
      · rw [nI_leI (by omega) (by omega)] at h2
        refine fin _ _ (hstep _ (fun x => ?_) (fun x => ?_) (fun x => ?_) (fun x => ?_) (fun x => ?_) (fun x => ?_) ?_ ?_) hF7
        · rw [← hτ4]; simp [lp_rd]
        · rw [← hτ4]; simp [lp_rd]
        · rw [← hτ4]; simp [lp_rd]
        · rw [← hτ4]; simp [lp_rd]
        · rw [← hτ4]; simp [lp_rd]
        · rw [if_neg (fun z => by omega), ← hτ4]; simp [lp_rd]
        · simp [lp_rd]
        · simp [lp_rd]
      · rw [nI_leI (by omega) (by omega)] at h2
        have hlt : P 0 v + 1 < s (v + 1) := by omega
        have hwb := hV.2.2.2 (P 0 v + 1) (by omega)
        refine ⟨lp_vin (by omega) (by omega), ?_⟩
        rw [lp_clm (by omega), show lp_w3 (lp_w3 (lp_w3 τ4 30 0 12 (nI (P 7 1 + c))) 30 0 11 (nI (max (P 7 0) (b0 + c)))) 50 0 v (nI (P 0 v - s v + 1)) 43 0 i0 = nI (b0 + c) from by simp [lp_rd, r4e]]
        ((conv => whnf); (try dsimp only))
        rw [show nI i0 + Int32.ofInt 1 = nI (i0 + 1) from (nI_succ i0).symm]
        refine ⟨lp_vin (by omega) (by omega), ?_⟩
        rw [lp_clm (by omega), show lp_w3 (lp_w3 (lp_w3 τ4 30 0 12 (nI (P 7 1 + c))) 30 0 11 (nI (max (P 7 0) (b0 + c)))) 50 0 v (nI (P 0 v - s v + 1)) 40 0 (i0 + 1) = nI (wt (P 0 v + 1)) from by rw [← hτ4]; simp [lp_rd, t40 hlt]]
        ((conv => whnf); (try dsimp only))
        rw [nI_add]
        refine ⟨lp_vin (by omega) (by omega), ?_⟩
        rw [lp_clm (by omega)]
        ((conv => whnf); (try dsimp only))
        refine fin _ _ (hstep _ (fun x => ?_) (fun x => ?_) (fun x => ?_) (fun x => ?_) (fun x => ?_) (fun x => ?_) ?_ ?_) (lp_FS_w3 hF7 (by omega))
        · rw [← hτ4]; simp [lp_rd]
        · rw [← hτ4]; simp [lp_rd]
        · rw [← hτ4]; simp [lp_rd]
        · rw [← hτ4]; simp [lp_rd]
        · rw [← hτ4]; simp [lp_rd]
        · rw [← hτ4]; simp [lp_rd, hlt]
        · simp [lp_rd]
        · simp [lp_rd]
