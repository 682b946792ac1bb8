/-! ===== Press: begin, serve, run ===== -/
def sp_X3_begin : lpS := fun as σ Q => match as with
  | [.inr (some (r, k)), .inl x, .inl y] => r = 18 ∧ k = 0 ∧ ∃ (n G S : Nat) (s pg wt : Nat → Nat), lp_Vis σ 1 n s pg wt ∧ x = nI G ∧ y = nI S ∧ G ≤ 100 ∧ S ≤ 8 ∧ ∀ τ, lp_Sv τ n S s (p0 s wt G) → lp_F8 σ τ → Q none τ
  | _ => False
set_option maxHeartbeats 4000000 in
set_option maxRecDepth 100000 in
theorem ct_X3_begin (l : Launch) (D : va_G) (cI cD : ClassId) : lp_Ct l D cI cD yX3_begin cX3_begin 4 none 3 sp_X3_begin := by
  refine lp_method flX3 pfX3 kcX3 [(62, none, 2, sp_min), (72, none, 2, sp_J7_fill), (93, some 4, 1, sp_X4_startOf), (96, some 4, 1, sp_X4_waitAt)] false kX3_begin [40] rfl rfl (lp_rV rfl) flX3_ok pfX3_ok kcX3_ok kX3_begin_ok ⟨_, _, rfl, rfl⟩ (lp_cs1 (lp_mkMin lkX3_62 (by omega)) (lp_cs1 (lp_mkCall lkX3_72 (ct_J7_fill l D cI cD) (by omega)) (lp_cs1 (lp_mkCall lkX3_93 (ct_X4_startOf l D cI cD) (by omega)) (lp_cs1 (lp_mkCall lkX3_96 (ct_X4_waitAt l D cI cD) (by omega)) lp_cs0)))) ?_
  intro as σ Q hok hs
  rcases as with _ | ⟨_ | _ | ⟨r, k⟩, _ | ⟨x | _, _ | ⟨y | _, _ | ⟨c, as⟩⟩⟩⟩ <;> try exact (hs : False).elim
  obtain ⟨rfl, rfl, n, G, S, s, pg, wt, hV, rfl, rfl, hG, hS, hq⟩ := hs
  have hn := hV.2.1
  have hb := lp_Vis_bd hV
  refine ⟨by show 3 ≤ 4; omega, fun m pc L τ => pc = 40 ∧ ∃ i, m + i = n ∧ i ≤ n ∧ lp_F8 σ τ ∧ (∀ v, v < i → τ 23 0 v = nI (s v) ∧ (s v < s (v + 1) → τ 24 0 v = nI (v * G + wt (s v)))) ∧ (∀ k, k < 8 → τ 25 0 k = nI 0) ∧ τ 18 0 8 = nI S ∧ τ 18 0 9 = nI 0 ∧ τ 18 0 10 = nI 0 ∧ τ 18 0 11 = nI 0 ∧ τ 18 0 12 = nI 0 ∧ L = [some (.inr (some (18, 0))), some (.inl (nI G)), some (.inl (nI S)), some (.inl (nI i))], ?_, ?_⟩
  · ((conv => whnf); (try dsimp only))
    rw [if_neg (show ¬ (Int8.ofInt 8).toInt32 < nI S from fun z => by have : 8 < S := (nI_ltI (a := 8) (by omega) (by omega)).mp z; omega)]
    refine ⟨fun _ => 8, rfl, by show 8 < 2 ^ 31; omega, ?_⟩
    ((conv => whnf); (try dsimp only))
    refine ⟨n, rfl, 0, rfl, Nat.zero_le _, ?_, fun v hv => absurd hv (by omega), fun k hk => ?_, ?_, ?_, ?_, ?_, ?_, rfl⟩
    · exact lp_F8_w3 (lp_F8_w3 (lp_F8_w3 (lp_F8_w3 (lp_F8_fill (lp_F8_w3 (lp_F8_rf σ) (by omega)) (by omega)) (by omega)) (by omega)) (by omega)) (by omega)
    · simp [lp_rd, lp_fill, va_up, hk]; rfl
    · simp [lp_rd, lp_fill, va_up]
    · simp [lp_rd, lp_fill, va_up]; rfl
    · simp [lp_rd, lp_fill, va_up]; rfl
    · simp [lp_rd, lp_fill, va_up]; rfl
    · simp [lp_rd, lp_fill, va_up]; rfl
  · rintro m pc L τ ⟨rfl, i, hm, hi, hF, h1, h2, h3, h4, h5, h6, h7, rfl⟩
    have hVτ := lp_F8_Vis hV hF
    ((conv => whnf); (try dsimp only))
    rw [hVτ.1]
    refine ⟨fun h => ?_, fun h => ?_⟩ <;> ((conv => whnf); (try dsimp only))
    · rw [nI_leI (by omega) (by omega)] at h
      obtain rfl : i = n := by omega
      refine hq τ ⟨fun v hv => ?_, fun k hk => h2 k hk, fun v sl hv g1 g2 => ?_, h3, h4, h5, h6, h7⟩ hF
      · exact ⟨(h1 v hv).1, fun z => (h1 v hv).2 z⟩
      · have : sl < s v := g2
        omega
    · rw [nI_leI (by omega) (by omega)] at h
      have hin : i < n := by omega
      refine ⟨rfl, n, s, pg, wt, hVτ, Or.inl ⟨i, hin, rfl, ?_⟩⟩
      ((conv => whnf); (try dsimp only))
      refine ⟨lp_vin (by omega) (by omega), ?_⟩
      rw [lp_clm (by omega)]
      ((conv => whnf); (try dsimp only))
      refine ⟨lp_vin (by omega) (by omega), ?_⟩
      rw [lp_clm (by omega), lp_rd, if_pos ⟨rfl, rfl, rfl⟩]
      generalize hσ1 : lp_w3 τ 23 0 i (nI (s i)) = σ1
      have hF1 : lp_F8 σ σ1 := by rw [← hσ1]; exact lp_F8_w3 hF (by omega)
      have hV1 := lp_F8_Vis hV hF1
      have hsi := lp_Vis_sn hV (v := i) (by omega)
      have fin : ∀ w : Int32, (s i < s (i + 1) → w = nI (wt (s i))) → ∃ m', m' < m ∧ (fun (m pc : Nat) (L : lpL) (τ : lpM) => pc = 40 ∧ ∃ i, m + i = n ∧ i ≤ n ∧ lp_F8 σ τ ∧ (∀ v, v < i → τ 23 0 v = nI (s v) ∧ (s v < s (v + 1) → τ 24 0 v = nI (v * G + wt (s v)))) ∧ (∀ k, k < 8 → τ 25 0 k = nI 0) ∧ τ 18 0 8 = nI S ∧ τ 18 0 9 = nI 0 ∧ τ 18 0 10 = nI 0 ∧ τ 18 0 11 = nI 0 ∧ τ 18 0 12 = nI 0 ∧ L = [some (.inr (some (18, 0))), some (.inl (nI G)), some (.inl (nI S)), some (.inl (nI i))]) m' 40 [some (.inr (some (18, 0))), some (.inl (nI G)), some (.inl (nI S)), some (.inl (nI i + Int32.ofInt 1))] (lp_w3 σ1 24 0 i (nI i * nI G + w)) := by
        intro w hw
        refine ⟨n - (i + 1), by omega, rfl, i + 1, by omega, by omega, lp_F8_w3 hF1 (by omega), fun v hv => ?_, fun k hk => ?_, ?_, ?_, ?_, ?_, ?_, by rw [nI_succ i]; rfl⟩
        · rw [← hσ1]
          by_cases e : v = i
          · subst e
            refine ⟨by simp [lp_rd], fun z => ?_⟩
            rw [lp_rd, if_pos ⟨rfl, rfl, rfl⟩, hw z, pk_mul, nI_add]
          · refine ⟨by simp [lp_rd, e]; exact (h1 v (by omega)).1, fun z => ?_⟩
            simp [lp_rd, e]; exact (h1 v (by omega)).2 z
        · rw [← hσ1]; simp [lp_rd]; exact h2 k hk
        · rw [← hσ1]; simp [lp_rd]; exact h3
        · rw [← hσ1]; simp [lp_rd]; exact h4
        · rw [← hσ1]; simp [lp_rd]; exact h5
        · rw [← hσ1]; simp [lp_rd]; exact h6
        · rw [← hσ1]; simp [lp_rd]; exact h7
      refine ⟨rfl, n, s, pg, wt, hV1, ?_⟩
      by_cases hlt : s i < s n
      · refine Or.inl ⟨s i, hlt, rfl, ?_⟩
        ((conv => whnf); (try dsimp only))
        refine ⟨lp_vin (by omega) (by omega), ?_⟩
        rw [lp_clm (by omega)]
        ((conv => whnf); (try dsimp only))
        exact fin _ (fun _ => rfl)
      · refine Or.inr ⟨fun j hj e => by have := lp_inj (by omega) (by omega) e; omega, ?_⟩
        ((conv => whnf); (try dsimp only))
        refine ⟨lp_vin (by omega) (by omega), ?_⟩
        rw [lp_clm (by omega)]
        ((conv => whnf); (try dsimp only))
        have hs1 := lp_Vis_sn hV (v := i + 1) (by omega)
        exact fin _ (fun z => by omega)
def sp_X3_serve : lpS := fun as σ Q => match as with
  | [.inr (some (r, k)), .inl x, .inl y] => r = 18 ∧ k = 0 ∧ ∃ (n S K q v c : Nat) (s pg wt : Nat → Nat) (P : Nat → Nat → Nat), lp_Vis σ 1 n s pg wt ∧ lp_Sv σ n (S + 1) s P ∧ S < 8 ∧ lpI n s q P ∧ lpN n s K P ∧ K < 2 ^ 29 ∧ v < n ∧ P 0 v < s (v + 1) ∧ x = nI v ∧ y = nI c ∧ c ≤ 50 ∧ ∀ τ, lp_Sv τ n (S + 1) s (svA s wt c v (ps (P 2) (S + 1)) P) → lp_F8 σ τ → Q none τ
  | _ => False
set_option maxHeartbeats 4000000 in
set_option maxRecDepth 100000 in
theorem ct_X3_serve (l : Launch) (D : va_G) (cI cD : ClassId) : lp_Ct l D cI cD yX3_serve cX3_serve 5 none 2 sp_X3_serve := by
  refine lp_method0 flX3 pfX3 kcX3 [(96, some 4, 1, sp_X4_waitAt), (102, some 3, 0, sp_X3_serverFreeFirst), (105, none, 2, sp_max), (108, some 3, 2, sp_X3_noteBehind)] false kX3_serve rfl rfl (lp_rV rfl) flX3_ok pfX3_ok kcX3_ok kX3_serve_ok ⟨_, _, rfl, rfl⟩ (lp_cs1 (lp_mkCall lkX3_96 (ct_X4_waitAt l D cI cD) (by omega)) (lp_cs1 (lp_mkCall lkX3_102 (ct_X3_serverFreeFirst l D cI cD) (by omega)) (lp_cs1 (lp_mkMax lkX3_105 (by omega)) (lp_cs1 (lp_mkCall lkX3_108 (ct_X3_noteBehind l D cI cD) (by omega)) lp_cs0)))) ?_
  intro as σ Q hs
  rcases as with _ | ⟨_ | _ | ⟨r, k⟩, _ | ⟨x | _, _ | ⟨y | _, _ | ⟨c, as⟩⟩⟩⟩ <;> try exact (hs : False).elim
  obtain ⟨rfl, rfl, n, S, K, q, v, c, s, pg, wt, P, hV, hSv, hS, hI, hN, hK, hv, ha, rfl, rfl, hc, hq⟩ := hs
  refine ⟨by show 3 ≤ 5; omega, ?_⟩
  have hn := hV.2.1
  have hb := lp_Vis_bd hV
  have hb2 := lp_Vis_sn hV (v := v + 1) (by omega)
  obtain ⟨e23, e24⟩ := hSv.1 v hv
  have e24b := e24 ha
  clear e24
  have hd := hN.1 v hv ha
  have hps := (ps_spec (P 2) S).1
  have e25 := hSv.2.1 (ps (P 2) (S + 1)) (by omega)
  have hfr := hN.2.1 (ps (P 2) (S + 1))
  obtain ⟨hs3, hs4, hs5, hs6, hs7, hs8⟩ := hSv.2.2
  have b0 := hN.2.2.1 0
  have b1 := hN.2.2.1 1
  have b2 := hN.2.2.1 2
  have b3 := hN.2.2.1 3
  have hIv := hI.1
  ((conv => whnf); (try dsimp only))
  refine ⟨lp_vin (by omega) (by omega), ?_⟩
  rw [lp_clm (by omega), e23]
  ((conv => whnf); (try dsimp only))
  refine ⟨rfl, rfl, S, P 2, hs4, hS, fun k hk => ⟨hSv.2.1 k hk, by have := hN.2.1 k; omega⟩, ?_⟩
  ((conv => whnf); (try dsimp only))
  generalize hsl : P 0 v = sl at *
  generalize hdd : P 1 v = d at *
  generalize hkk : ps (P 2) (S + 1) = k at *
  generalize hff : P 2 k = f at *
  refine ⟨lp_vin (by omega) (by omega), ?_⟩
  rw [lp_clm (by omega), e24b]
  ((conv => whnf); (try dsimp only))
  refine ⟨lp_vin (by omega) (by omega), ?_⟩
  rw [lp_clm (by omega)]
  ((conv => whnf); (try dsimp only))
  refine ⟨lp_vin (by omega) (by omega), ?_⟩
  rw [lp_clm (by omega), lp_rd, if_pos ⟨rfl, rfl, rfl⟩]
  ((conv => whnf); (try dsimp only))
  refine ⟨lp_vin (by omega) (by omega), ?_⟩
  rw [lp_clm (by omega), lp_rd, if_neg (by omega), e25]
  ((conv => whnf); (try dsimp only))
  rw [show (if nI d < nI f then nI f else nI d) = nI (max d f) from by
    by_cases z : d < f
    · rw [if_pos (nI_lt z (by omega)), Nat.max_eq_right (by omega)]
    · rw [if_neg (fun y => z ((nI_ltI (by omega) (by omega)).mp y)), Nat.max_eq_left (by omega)]]
  have hmx : max d f ≤ K := Nat.max_le.mpr ⟨hd, hfr⟩
  generalize hbb : max d f = b at *
  refine ⟨lp_vin (by omega) (by omega), ?_⟩
  rw [lp_clm (by omega)]
  ((conv => whnf); (try dsimp only))
  refine ⟨lp_vin (by omega) (by omega), ?_⟩
  rw [lp_clm (by omega), lp_rd, if_pos ⟨rfl, rfl, rfl⟩]
  ((conv => whnf); (try dsimp only))
  refine ⟨lp_vin (by omega) (by omega), ?_⟩
  rw [lp_clm (by omega), nI_add]
  ((conv => whnf); (try dsimp only))
  refine ⟨lp_vin (by omega) (by omega), ?_⟩
  rw [lp_clm (by omega)]
  ((conv => whnf); (try dsimp only))
  refine ⟨lp_vin (by omega) (by omega), ?_⟩
  rw [lp_clm (by omega), lp_rd, if_neg (by omega), lp_rd, if_pos ⟨rfl, rfl, rfl⟩]
  ((conv => whnf); (try dsimp only))
  refine ⟨lp_vin (by omega) (by omega), ?_⟩
  rw [lp_clm (by omega)]
  generalize hσ5 : lp_w3 (lp_w3 (lp_w3 (lp_w3 (lp_w3 σ 19 0 sl (nI d)) 20 0 sl (nI b)) 21 0 sl (nI (b + c))) 22 0 sl (nI k)) 25 0 k (nI (b + c)) = σ5
  have r21 : σ5 21 0 sl = nI (b + c) := by rw [← hσ5]; simp [lp_rd]
  have r20 : σ5 20 0 sl = nI b := by rw [← hσ5]; simp [lp_rd]
  have r19 : σ5 19 0 sl = nI d := by rw [← hσ5]; simp [lp_rd]
  have r18 : ∀ j, σ5 18 0 j = σ 18 0 j := fun j => by rw [← hσ5]; simp [lp_rd]
  have hF5 : lp_F8 σ σ5 := by rw [← hσ5]; exact lp_F8_w3 (lp_F8_w3 (lp_F8_w3 (lp_F8_w3 (lp_F8_w3 (lp_F8_rf σ) (by omega)) (by omega)) (by omega)) (by omega)) (by omega)
  ((conv => whnf); (try dsimp only))
  refine ⟨lp_vin (by omega) (by omega), ?_⟩
  rw [lp_clm (by omega), r21]
  ((conv => whnf); (try dsimp only))
  rw [r18 11, hs7]
  rw [show (if nI (P 7 0) < nI (b + c) then nI (b + c) else nI (P 7 0)) = nI (max (P 7 0) (b + c)) from by
    by_cases z : P 7 0 < b + c
    · rw [if_pos (nI_lt z (by omega)), Nat.max_eq_right (by omega)]
    · rw [if_neg (fun y => z ((nI_ltI (by omega) (by omega)).mp y)), Nat.max_eq_left (by omega)]]
  have e12 : lp_w3 σ5 18 0 11 (nI (max (P 7 0) (b + c))) 18 0 12 = nI (P 7 1) := by rw [lp_rd, if_neg (by omega), r18 12]; exact hs8
  rw [e12, nI_add]
  refine ⟨lp_vin (by omega) (by omega), ?_⟩
  rw [lp_clm (by omega)]
  rw [show lp_w3 (lp_w3 σ5 18 0 11 (nI (max (P 7 0) (b + c)))) 18 0 12 (nI (P 7 1 + c)) 19 0 sl = nI d from by simp [lp_rd, r19]]
  ((conv => whnf); (try dsimp only))
  refine ⟨lp_vin (by omega) (by omega), ?_⟩
  rw [lp_clm (by omega)]
  rw [show lp_w3 (lp_w3 σ5 18 0 11 (nI (max (P 7 0) (b + c)))) 18 0 12 (nI (P 7 1 + c)) 20 0 sl = nI b from by simp [lp_rd, r20]]
  ((conv => whnf); (try dsimp only))
  refine ⟨rfl, rfl, d, P 7 2, P 7 3, rfl, by rw [lp_rd, if_neg (by omega), lp_rd, if_neg (by omega), r18 9]; exact hs5, by rw [lp_rd, if_neg (by omega), lp_rd, if_neg (by omega), r18 10]; exact hs6, by omega, by omega, by omega, ?_⟩
  ((conv => whnf); (try dsimp only))
  refine ⟨lp_vin (by omega) (by omega), ?_⟩
  rw [lp_clm (by omega), show nI sl + Int32.ofInt 1 = nI (sl + 1) from (nI_succ sl).symm]
  generalize hbs : (if P 7 2 < d then d else min (P 7 3) d) = bs
  generalize hσ9 : lp_w3 (lp_w3 (lp_w3 (lp_w3 (lp_w3 σ5 18 0 11 (nI (max (P 7 0) (b + c)))) 18 0 12 (nI (P 7 1 + c))) 18 0 10 (nI bs)) 18 0 9 (nI b)) 23 0 v (nI (sl + 1)) = σ9
  have hF9 : lp_F8 σ σ9 := by rw [← hσ9]; exact lp_F8_w3 (lp_F8_w3 (lp_F8_w3 (lp_F8_w3 (lp_F8_w3 hF5 (by omega)) (by omega)) (by omega)) (by omega)) (by omega)
  have hV9 := lp_F8_Vis hV hF9
  ((conv => whnf); (try dsimp only))
  refine ⟨lp_vin (by omega) (by omega), ?_⟩
  rw [lp_clm (by omega), show σ9 21 0 sl = nI (b + c) from by rw [← hσ9]; simp [lp_rd, r21]]
  ((conv => whnf); (try dsimp only))
  rw [show nI sl + Int32.ofInt 1 = nI (sl + 1) from (nI_succ sl).symm]
  have fin : ∀ w : Int32, (sl + 1 < s (v + 1) → w = nI (b + c + wt (sl + 1))) → Q none (lp_w3 σ9 24 0 v w) := by
    intro w hw
    refine hq _ ⟨fun x hx => ?_, fun x hx => ?_, fun x y hx g1 g2 => ?_, ?_, ?_, ?_, ?_, ?_⟩ (lp_F8_w3 hF9 (by omega))
    · rw [svA_0, svA_1]
      by_cases e : x = v
      · subst e
        simp only [if_true]
        refine ⟨by rw [← hσ9]; simp [lp_rd, hsl], fun z => ?_⟩
        rw [lp_rd, if_pos ⟨rfl, rfl, rfl⟩]
        rw [hsl] at z ⊢
        rw [if_pos z, hdd, hff, hbb]
        exact hw z
      · simp only [if_neg e]
        have := hSv.1 x hx
        have e1 : lp_w3 σ9 24 0 v w 23 0 x = σ 23 0 x := by rw [← hσ9, ← hσ5]; simp [lp_rd, e]
        have e2 : lp_w3 σ9 24 0 v w 24 0 x = σ 24 0 x := by rw [← hσ9, ← hσ5]; simp [lp_rd, e]
        rw [e1, e2]
        exact this
    · rw [svA_2]
      by_cases e : x = k
      · subst e
        rw [if_pos rfl, hdd, hff, hbb, ← hσ9, ← hσ5]; simp [lp_rd]
      · rw [if_neg e, ← hσ9, ← hσ5]; simp [lp_rd, e]; exact hSv.2.1 x hx
    · rw [svA_0] at g2
      rw [svA_3, svA_4, svA_5, svA_6, hsl, hdd, hff, hbb]
      by_cases e : y = sl
      · subst e
        simp only [if_true]
        rw [← hσ9]
        simp [lp_rd, r19, r20, r21]
        rw [← hσ5]; simp [lp_rd]
      · simp only [if_neg e]
        have hy : y < P 0 x := by
          by_cases ex : x = v
          · subst ex; rw [if_pos rfl] at g2; omega
          · rw [if_neg ex] at g2; exact g2
        have := hs3 x y hx g1 hy
        rw [← hσ9, ← hσ5]
        simp [lp_rd, e]
        exact this
    · rw [← hσ9]; simp [lp_rd, r18 8]; exact hs4
    · rw [svA_72, hdd, hff, hbb, ← hσ9]; simp [lp_rd]
    · rw [svA_73, hdd, hbs, ← hσ9]; simp [lp_rd]
    · rw [svA_70, hdd, hff, hbb, ← hσ9]; simp [lp_rd]
    · rw [svA_71, ← hσ9]; simp [lp_rd]
  refine ⟨rfl, n, s, pg, wt, hV9, ?_⟩
  by_cases hlt : sl + 1 < s n
  · refine Or.inl ⟨sl + 1, hlt, rfl, ?_⟩
    ((conv => whnf); (try dsimp only))
    refine ⟨lp_vin (by omega) (by omega), ?_⟩
    rw [lp_clm (by omega), nI_add]
    ((conv => whnf); (try dsimp only))
    exact fin _ (fun _ => rfl)
  · refine Or.inr ⟨fun j hj e => by have := lp_inj (by omega) (by omega) e; omega, ?_⟩
    ((conv => whnf); (try dsimp only))
    refine ⟨lp_vin (by omega) (by omega), ?_⟩
    rw [lp_clm (by omega)]
    ((conv => whnf); (try dsimp only))
    exact fin _ (fun z => by omega)
def sp_X3_run : lpS := fun as σ Q => match as with
  | [.inr (some (r, k)), .inl x, .inl y, .inr (some (r2, k2))] => r = 18 ∧ k = 0 ∧ r2 = 15 ∧ k2 = 0 ∧ ∃ (n G S : Nat) (s pg wt co : Nat → Nat), lp_Vis σ 1 n s pg wt ∧ x = nI G ∧ y = nI (S + 1) ∧ G ≤ 100 ∧ S < 8 ∧ (∀ j, j < 10 → σ 15 0 j = nI (co j) ∧ 1 ≤ co j ∧ co j ≤ 50) ∧
      ∀ τ, lp_Sv τ n (S + 1) s (svs s wt (fun sl => co (pg sl)) n (S + 1) (s n) (p0 s wt G)) → lp_F8 σ τ → Q none τ
  | _ => False
theorem lp_Vis_V0 {σ : lpM} {k n : Nat} {s pg wt : Nat → Nat} (h : lp_Vis σ k n s pg wt) : lpV0 n s wt := ⟨h.2.1, h.2.2.2.1, h.2.2.2.2.1, fun j hj => (h.2.2.2.2.2 j hj).2.2.2⟩
theorem lpI_0 {n : Nat} {s wt : Nat → Nat} (hV : lpV0 n s wt) (G : Nat) : lpI n s 0 (p0 s wt G) := ⟨fun v hv => ⟨Nat.le_refl _, (hV.2.2.1 v hv).1⟩, lsum_zero (fun v _ => Nat.sub_self _)⟩
theorem lpN_0 {n : Nat} {s wt : Nat → Nat} (hV : lpV0 n s wt) {G : Nat} (hG : G ≤ 100) : lpN n s 6060 (p0 s wt G) := by
  refine ⟨fun v hv h => ?_, fun k => Nat.zero_le _, fun j => Nat.zero_le _, fun v sl hv h1 h2 => ?_⟩
  · have h : s v < s (v + 1) := h
    have h2 : wt (s v) ≤ 60 := hV.2.2.2 _ (by have := lpV0_le hV (show v + 1 ≤ n by omega) (Nat.le_refl n); omega)
    show v * G + wt (s v) ≤ 6060
    have : v * G ≤ 60 * 100 := Nat.mul_le_mul (by have := hV.1; omega) hG
    omega
  · have : sl < s v := h2
    omega
set_option maxHeartbeats 4000000 in
set_option maxRecDepth 100000 in
theorem ct_X3_run (l : Launch) (D : va_G) (cI cD : ClassId) : lp_Ct l D cI cD yX3_run cX3_run 7 none 4 sp_X3_run := by
  refine lp_method flX3 pfX3 kcX3 [(40, some 3, 2, sp_X3_begin), (44, some 4, 0, sp_X4_asks), (48, some 3, 0, sp_X3_visitDueFirst), (51, some 4, 1, sp_X4_pageAt), (55, none, 3, sp_X6_isWithin), (59, some 3, 2, sp_X3_serve)] false kX3_run [9] rfl rfl (lp_rV rfl) flX3_ok pfX3_ok kcX3_ok kX3_run_ok ⟨_, _, rfl, rfl⟩ (lp_cs1 (lp_mkCall lkX3_40 (ct_X3_begin l D cI cD) (by omega)) (lp_cs1 (lp_mkCall lkX3_44 (ct_X4_asks l D cI cD) (by omega)) (lp_cs1 (lp_mkCall lkX3_48 (ct_X3_visitDueFirst l D cI cD) (by omega)) (lp_cs1 (lp_mkCall lkX3_51 (ct_X4_pageAt l D cI cD) (by omega)) (lp_cs1 (lp_mkCall lkX3_55 (ct_X6_isWithin l D cI cD) (by omega)) (lp_cs1 (lp_mkCall lkX3_59 (ct_X3_serve l D cI cD) (by omega)) lp_cs0)))))) ?_
  intro as σ Q hok hs
  rcases as with _ | ⟨_ | _ | ⟨r, k⟩, _ | ⟨x | _, _ | ⟨y | _, _ | ⟨_ | _ | ⟨r2, k2⟩, _ | ⟨c, as⟩⟩⟩⟩⟩ <;> try exact (hs : False).elim
  obtain ⟨rfl, rfl, rfl, rfl, n, G, S, s, pg, wt, co, hV, rfl, rfl, hG, hS, hco, hq⟩ := hs
  have hn := hV.2.1
  have hb := lp_Vis_bd hV
  have hV0 := lp_Vis_V0 hV
  generalize hFF : svs s wt (fun sl => co (pg sl)) n (S + 1) (s n) (p0 s wt G) = FF at hq
  refine ⟨by show 4 ≤ 7; omega, fun m pc L τ => pc = 9 ∧ ∃ (i : Nat) (x5 x6 : Option lpV) (P : Nat → Nat → Nat), m + i = s n ∧ i ≤ s n ∧ svs s wt (fun sl => co (pg sl)) n (S + 1) (s n - i) P = FF ∧ lpI n s i P ∧ lpN n s (6060 + 110 * i) P ∧ lp_Sv τ n (S + 1) s P ∧ lp_F8 σ τ ∧ L = [some (.inr (some (18, 0))), some (.inl (nI G)), some (.inl (nI (S + 1))), some (.inr (some (15, 0))), some (.inl (nI i)), x5, x6], ?_, ?_⟩
  · ((conv => whnf); (try dsimp only))
    refine ⟨rfl, rfl, n, G, S + 1, s, pg, wt, hV, rfl, rfl, hG, by omega, fun τ h1 h2 => ?_⟩
    ((conv => whnf); (try dsimp only))
    exact ⟨s n, rfl, 0, none, none, p0 s wt G, rfl, Nat.zero_le _, hFF, lpI_0 hV0 G, lpN_0 hV0 hG, h1, h2, rfl⟩
  · rintro m pc L τ ⟨rfl, i, x5, x6, P, hm, hi, hsv, hI, hN, hSv, hF, rfl⟩
    have hVτ := lp_F8_Vis hV hF
    ((conv => whnf); (try dsimp only))
    refine ⟨rfl, n, s, pg, wt, hVτ, ?_⟩
    ((conv => whnf); (try dsimp only))
    refine ⟨fun h => ?_, fun h => ?_⟩ <;> ((conv => whnf); (try dsimp only))
    · rw [nI_leI (by omega) (by omega)] at h
      obtain rfl : i = s n := by omega
      rw [Nat.sub_self] at hsv
      have hsv : P = FF := hsv
      subst hsv
      exact hq τ hSv hF
    · rw [nI_leI (by omega) (by omega)] at h
      obtain ⟨v, h1, h2, h3⟩ := lpI_pv hV0 hI (show i < s n by omega)
      refine ⟨rfl, rfl, n, S + 1, 6060 + 110 * i, s, pg, wt, P, hVτ, hSv, by omega, fun v hv => (hI.1 v hv).2, hN.1, ?_⟩
      rw [h1, show lp_oi (some v) = nI v from rfl]
      ((conv => whnf); (try dsimp only))
      refine ⟨fun _ => ?_, fun q => absurd q (lp_neg1 (by omega))⟩
      ((conv => whnf); (try dsimp only))
      refine ⟨lp_vin (by omega) (by omega), ?_⟩
      rw [lp_clm (by omega), (hSv.1 v h2).1]
      ((conv => whnf); (try dsimp only))
      have hsl := lp_Vis_sn hV (v := v + 1) (by omega)
      refine ⟨rfl, n, s, pg, wt, hVτ, Or.inl ⟨P 0 v, by omega, rfl, ?_⟩⟩
      have hpg := (hV.2.2.2.2.2 (P 0 v) (by omega)).2.1
      ((conv => whnf); (try dsimp only))
      refine lp_below (n := 10) (by decide) (Or.inl ⟨pg (P 0 v), hpg, rfl, ?_⟩)
      ((conv => whnf); (try dsimp only))
      refine ⟨fun q => absurd q (by decide), fun _ => ?_⟩
      ((conv => whnf); (try dsimp only))
      refine ⟨lp_vin hpg (by omega), ?_⟩
      rw [lp_clm (by omega), hF 15 (by omega), (hco _ hpg).1]
      ((conv => whnf); (try dsimp only))
      refine ⟨rfl, rfl, n, S, 6060 + 110 * i, i, v, co (pg (P 0 v)), s, pg, wt, P, hVτ, hSv, hS, hI, hN, by omega, h2, h3, rfl, rfl, (hco _ hpg).2.2, fun τ' g1 g2 => ?_⟩
      ((conv => whnf); (try dsimp only))
      have hps := (ps_spec (P 2) S).1
      refine ⟨s n - (i + 1), by omega, rfl, i + 1, some (.inl (nI v)), some (.inl (nI (pg (P 0 v)))), _, by omega, by omega, ?_, lpI_step hI h2 h3, lpN_step hV0 hI hN h2 h3 (hco _ hpg).2 (by omega), g1, fun r hr => by rw [g2 r hr, hF r hr], by rw [nI_succ i]; rfl⟩
      rw [← hsv, show s n - i = s n - (i + 1) + 1 by omega]
      show _ = svs s wt (fun sl => co (pg sl)) n (S + 1) (s n - (i + 1)) (svS s wt (fun sl => co (pg sl)) n (S + 1) P)
      unfold svS
      rw [h1]
