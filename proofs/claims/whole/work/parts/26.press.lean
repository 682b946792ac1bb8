/-! ===== Press: the cell (18, 0), its rows (19 .. 25, 0) ===== -/
theorem lp_rd (σ : lpM) (r k j : Nat) (x : Int32) (r' k' j' : Nat) : lp_w3 σ r k j x r' k' j' = if r' = r ∧ k' = k ∧ j' = j then x else σ r' k' j' := by
  by_cases hr : r' = r
  · subst hr
    by_cases hk : k' = k
    · subst hk
      by_cases hj : j' = j
      · subst hj; simp [lp_w3_same, upd]
      · simp [lp_w3_same, upd, hj]
    · rw [lp_w3_ne (by omega)]; simp [hk]
  · rw [lp_w3_ne (by omega)]; simp [hr]
def lp_Sv (σ : lpM) (n S : Nat) (s : Nat → Nat) (P : Nat → Nat → Nat) : Prop := (∀ v, v < n → σ 23 0 v = nI (P 0 v) ∧ (P 0 v < s (v + 1) → σ 24 0 v = nI (P 1 v))) ∧ (∀ k, k < 8 → σ 25 0 k = nI (P 2 k)) ∧
  (∀ v sl, v < n → s v ≤ sl → sl < P 0 v → σ 19 0 sl = nI (P 3 sl) ∧ σ 20 0 sl = nI (P 4 sl) ∧ σ 21 0 sl = nI (P 5 sl) ∧ σ 22 0 sl = nI (P 6 sl)) ∧ σ 18 0 8 = nI S ∧ σ 18 0 9 = nI (P 7 2) ∧ σ 18 0 10 = nI (P 7 3) ∧ σ 18 0 11 = nI (P 7 0) ∧ σ 18 0 12 = nI (P 7 1)
def lp_F8 (σ τ : lpM) : Prop := ∀ r, ¬ (18 ≤ r ∧ r ≤ 25) → τ r = σ r
theorem lp_F8_Vis {σ τ : lpM} {k n : Nat} {s pg wt : Nat → Nat} (h : lp_Vis σ k n s pg wt) (hF : lp_F8 σ τ) : lp_Vis τ k n s pg wt :=
  lp_Vis_congr h (by rw [hF 2 (by omega)]) (by rw [hF 3 (by omega)]) (by rw [hF 4 (by omega)]) (by rw [hF 5 (by omega)])
theorem lp_F8_w3 {σ τ : lpM} {r k j : Nat} {x : Int32} (h : lp_F8 σ τ) (hr : 18 ≤ r ∧ r ≤ 25) : lp_F8 σ (lp_w3 τ r k j x) := fun r' h' => by
  rw [← h r' h']
  funext k'
  exact lp_w3_ne (by omega)
theorem lp_F8_rf (σ : lpM) : lp_F8 σ σ := fun _ _ => rfl
theorem lp_F8_fill {σ τ : lpM} {r k n : Nat} {x : Int32} (h : lp_F8 σ τ) (hr : 18 ≤ r ∧ r ≤ 25) : lp_F8 σ (lp_fill τ r k n x) := fun r' h' => by
  rw [← h r' h']
  simp [lp_fill, va_up, show ¬ r' = r by omega]
def sp_X3_noteBehind : lpS := fun as σ Q => match as with
  | [.inr (some (r, k)), .inl x, .inl y] => r = 18 ∧ k = 0 ∧ ∃ d lb bs, x = nI d ∧ σ 18 0 9 = nI lb ∧ σ 18 0 10 = nI bs ∧ d < 2 ^ 31 ∧ lb < 2 ^ 31 ∧ bs < 2 ^ 31 ∧ Q none (lp_w3 (lp_w3 σ 18 0 10 (nI (if lb < d then d else min bs d))) 18 0 9 y)
  | _ => False
set_option maxHeartbeats 4000000 in
set_option maxRecDepth 100000 in
theorem ct_X3_noteBehind (l : Launch) (D : va_G) (cI cD : ClassId) : lp_Ct l D cI cD yX3_noteBehind cX3_noteBehind 3 none 1 sp_X3_noteBehind := by
  refine lp_method0 flX3 pfX3 kcX3 [(62, none, 2, sp_min)] false kX3_noteBehind rfl rfl (lp_rV rfl) flX3_ok pfX3_ok kcX3_ok kX3_noteBehind_ok ⟨_, _, rfl, rfl⟩ (lp_cs1 (lp_mkMin lkX3_62 (by omega)) lp_cs0) ?_
  intro as σ Q hs
  rcases as with _ | ⟨_ | _ | ⟨r, k⟩, _ | ⟨x | _, _ | ⟨y | _, _ | ⟨c, as⟩⟩⟩⟩ <;> try exact (hs : False).elim
  obtain ⟨rfl, rfl, d, lb, bs, rfl, e1, e2, b1, b2, b3, hq⟩ := hs
  refine ⟨Nat.le_refl 3, ?_⟩
  ((conv => whnf); (try dsimp only))
  rw [e1]
  refine ⟨fun q => ?_, fun q => ?_⟩ <;> ((conv => whnf); (try dsimp only))
  · rw [nI_leI b1 b2] at q
    rw [if_neg (by omega)] at hq
    rw [e2]
    by_cases hlt : d < bs
    · rw [if_pos (nI_lt hlt b3)]
      rw [Nat.min_eq_right (by omega)] at hq
      exact hq
    · rw [if_neg (fun z => hlt ((nI_ltI b1 b3).mp z))]
      rw [Nat.min_eq_left (by omega)] at hq
      exact hq
  · rw [nI_leI b1 b2] at q
    rw [if_pos (by omega)] at hq
    exact hq
def sp_X3_fallsBehind : lpS := fun as σ Q => match as with
  | [.inr (some (r, k))] => r = 18 ∧ k = 0 ∧ ∃ lb bs, σ 18 0 9 = nI lb ∧ σ 18 0 10 = nI bs ∧ lb < 2 ^ 31 ∧ bs < 2 ^ 31 ∧ ((bs < lb ∧ Q (some (nI bs)) σ) ∨ (lb ≤ bs ∧ Q (some (-1)) σ))
  | _ => False
set_option maxHeartbeats 4000000 in
set_option maxRecDepth 100000 in
theorem ct_X3_fallsBehind (l : Launch) (D : va_G) (cI cD : ClassId) : lp_Ct l D cI cD yX3_fallsBehind cX3_fallsBehind 1 (some .int) 0 sp_X3_fallsBehind := by
  refine lp_method0 flX3 pfX3 kcX3 [] false kX3_fallsBehind rfl rfl (lp_rI rfl) flX3_ok pfX3_ok kcX3_ok kX3_fallsBehind_ok ⟨_, _, rfl, rfl⟩ lp_cs0 ?_
  intro as σ Q hs
  rcases as with _ | ⟨_ | _ | ⟨r, k⟩, _ | ⟨c, as⟩⟩ <;> try exact (hs : False).elim
  obtain ⟨rfl, rfl, lb, bs, e1, e2, b1, b2, hq⟩ := hs
  refine ⟨Nat.le_refl 1, ?_⟩
  ((conv => whnf); (try dsimp only))
  rw [e1, e2]
  refine ⟨fun q => ?_, fun q => ?_⟩ <;> ((conv => whnf); (try dsimp only))
  · rw [nI_leI b1 b2] at q
    rcases hq with ⟨h, hq⟩ | ⟨h, hq⟩
    · omega
    · exact hq
  · rw [nI_leI b1 b2] at q
    rw [e2]
    rcases hq with ⟨h, hq⟩ | ⟨h, hq⟩
    · exact hq
    · omega
def sp_X3_serverFreeFirst : lpS := fun as σ Q => match as with
  | [.inr (some (r, k))] => r = 18 ∧ k = 0 ∧ ∃ (S : Nat) (fr : Nat → Nat), σ 18 0 8 = nI (S + 1) ∧ S < 8 ∧ (∀ k, k < 8 → σ 25 0 k = nI (fr k) ∧ fr k < 2 ^ 31) ∧ Q (some (nI (ps fr (S + 1)))) σ
  | _ => False
set_option maxHeartbeats 4000000 in
set_option maxRecDepth 100000 in
theorem ct_X3_serverFreeFirst (l : Launch) (D : va_G) (cI cD : ClassId) : lp_Ct l D cI cD yX3_serverFreeFirst cX3_serverFreeFirst 3 (some .int) 0 sp_X3_serverFreeFirst := by
  refine lp_method flX3 pfX3 kcX3 [] false kX3_serverFreeFirst [4] rfl rfl (lp_rI rfl) flX3_ok pfX3_ok kcX3_ok kX3_serverFreeFirst_ok ⟨_, _, rfl, rfl⟩ lp_cs0 ?_
  intro as σ Q hok hs
  rcases as with _ | ⟨_ | _ | ⟨r, k⟩, _ | ⟨c, as⟩⟩ <;> try exact (hs : False).elim
  obtain ⟨rfl, rfl, S, fr, e1, hS, hfr, hq⟩ := hs
  refine ⟨by show 1 ≤ 3; omega, fun m pc L τ => pc = 4 ∧ ∃ i, m + i = S + 1 ∧ 1 ≤ i ∧ i ≤ S + 1 ∧ σ = τ ∧ L = [some (.inr (some (18, 0))), some (.inl (nI (ps fr i))), some (.inl (nI i))], ?_, ?_⟩
  · ((conv => whnf); (try dsimp only))
    exact ⟨S, rfl, 1, rfl, by omega, by omega, rfl, rfl⟩
  · rintro m pc L τ ⟨rfl, i, hm, hi1, hi, rfl, rfl⟩
    ((conv => whnf); (try dsimp only))
    rw [e1]
    refine ⟨fun h => ?_, fun h => ?_⟩ <;> ((conv => whnf); (try dsimp only))
    · rw [nI_leI (by omega) (by omega)] at h
      obtain rfl : i = S + 1 := by omega
      exact hq
    · rw [nI_leI (by omega) (by omega)] at h
      obtain ⟨j, rfl⟩ : ∃ j, i = j + 1 := ⟨i - 1, by omega⟩
      have hp := (ps_spec fr j).1
      refine ⟨lp_vin (by omega) (by omega), ?_⟩
      rw [lp_clm (by omega), (hfr _ (by omega)).1]
      ((conv => whnf); (try dsimp only))
      refine ⟨lp_vin (by omega) (by omega), ?_⟩
      rw [lp_clm (by omega), (hfr _ (by omega)).1]
      ((conv => whnf); (try dsimp only))
      have hstep : ps fr (j + 2) = if fr (j + 1) < fr (ps fr (j + 1)) then j + 1 else ps fr (j + 1) := rfl
      refine ⟨fun q => ?_, fun q => ?_⟩ <;> ((conv => whnf); (try dsimp only))
      · rw [nI_leI (hfr _ (by omega)).2 (hfr _ (by omega)).2] at q
        rw [if_neg (by omega)] at hstep
        exact ⟨S + 1 - (j + 2), by omega, rfl, j + 2, by omega, by omega, by omega, rfl, by rw [hstep, nI_succ (j + 1)]; rfl⟩
      · rw [nI_leI (hfr _ (by omega)).2 (hfr _ (by omega)).2] at q
        rw [if_pos (by omega)] at hstep
        exact ⟨S + 1 - (j + 2), by omega, rfl, j + 2, by omega, by omega, by omega, rfl, by rw [hstep, nI_succ (j + 1)]; rfl⟩
def lp_oi (o : Option Nat) : Int32 := match o with
  | none => -1
  | some b => nI b
def sp_X3_visitDueFirst : lpS := fun as σ Q => match as with
  | [.inr (some (r, k))] => r = 18 ∧ k = 0 ∧ ∃ (n S K : Nat) (s pg wt : Nat → Nat) (P : Nat → Nat → Nat), lp_Vis σ 1 n s pg wt ∧ lp_Sv σ n S s P ∧ K < 2 ^ 30 ∧ (∀ v, v < n → P 0 v ≤ s (v + 1)) ∧ (∀ v, v < n → P 0 v < s (v + 1) → P 1 v ≤ K) ∧ Q (some (lp_oi (pv (pact s P) (P 1) n))) σ
  | _ => False
set_option maxHeartbeats 4000000 in
set_option maxRecDepth 100000 in
theorem ct_X3_visitDueFirst (l : Launch) (D : va_G) (cI cD : ClassId) : lp_Ct l D cI cD yX3_visitDueFirst cX3_visitDueFirst 4 (some .int) 3 sp_X3_visitDueFirst := by
  refine lp_method flX3 pfX3 kcX3 [(99, some 4, 1, sp_X4_endOf)] false kX3_visitDueFirst [4] rfl rfl (lp_rI rfl) flX3_ok pfX3_ok kcX3_ok kX3_visitDueFirst_ok ⟨_, _, rfl, rfl⟩ (lp_cs1 (lp_mkCall lkX3_99 (ct_X4_endOf l D cI cD) (by omega)) lp_cs0) ?_
  intro as σ Q hok hs
  rcases as with _ | ⟨_ | _ | ⟨r, k⟩, _ | ⟨c, as⟩⟩ <;> try exact (hs : False).elim
  obtain ⟨rfl, rfl, n, S, K, s, pg, wt, P, hV, hSv, hK, hP, hN, hq⟩ := hs
  have hn := hV.2.1
  refine ⟨by show 1 ≤ 4; omega, fun m pc L τ => pc = 4 ∧ ∃ i x3, m + i = n ∧ i ≤ n ∧ σ = τ ∧ L = [some (.inr (some (18, 0))), some (.inl (lp_oi (pv (pact s P) (P 1) i))), some (.inl (nI i)), x3], ?_, ?_⟩
  · ((conv => whnf); (try dsimp only))
    exact ⟨n, rfl, 0, none, rfl, by omega, rfl, rfl⟩
  · rintro m pc L τ ⟨rfl, i, x3, hm, hi, rfl, rfl⟩
    have step : ∀ (o : Option Nat) (x3 : Option lpV), pv (pact s P) (P 1) (i + 1) = o → i < n → ∃ m', m' < m ∧ (fun (m pc : Nat) (L : lpL) (τ : lpM) => pc = 4 ∧ ∃ i x3, m + i = n ∧ i ≤ n ∧ σ = τ ∧ L = [some (.inr (some (18, 0))), some (.inl (lp_oi (pv (pact s P) (P 1) i))), some (.inl (nI i)), x3]) m' 4 [some (.inr (some (18, 0))), some (.inl (lp_oi o)), some (.inl (nI i + Int32.ofInt 1)), x3] σ := by
      intro o x3 ho hlt
      subst ho
      exact ⟨n - (i + 1), by omega, rfl, i + 1, x3, by omega, by omega, rfl, by rw [nI_succ i]; rfl⟩
    ((conv => whnf); (try dsimp only))
    rw [hV.1]
    refine ⟨fun h => ?_, fun h => ?_⟩ <;> ((conv => whnf); (try dsimp only))
    · rw [nI_leI (by omega) (by omega)] at h
      obtain rfl : i = n := by omega
      exact hq
    · rw [nI_leI (by omega) (by omega)] at h
      have hin : i < n := by omega
      have hb := lp_Vis_sn hV (v := i + 1) (by omega)
      have hb2 := lp_Vis_bd hV
      refine ⟨lp_vin (by omega) (by omega), ?_⟩
      rw [lp_clm (by omega), (hSv.1 i hin).1]
      ((conv => whnf); (try dsimp only))
      refine ⟨rfl, n, s, pg, wt, hV, Or.inl ⟨i, hin, rfl, ?_⟩⟩
      ((conv => whnf); (try dsimp only))
      have hPi := hP i hin
      have hpv : pv (pact s P) (P 1) (i + 1) = (match pv (pact s P) (P 1) i with
        | none => if pact s P i = true then some i else none
        | some b => if pact s P i = true ∧ P 1 i < P 1 b then some i else some b) := rfl
      refine ⟨fun q => ?_, fun q => ?_⟩ <;> ((conv => whnf); (try dsimp only))
      · rw [nI_leI (by omega) (by omega)] at q
        have hact : ¬ pact s P i = true := fun z => by have := of_decide_eq_true z; omega
        refine ⟨fun _ => ?_, fun z => absurd rfl z⟩
        ((conv => whnf); (try dsimp only))
        refine step _ _ ?_ hin
        rw [hpv]
        rcases pv (pact s P) (P 1) i with _ | b <;> simp [hact]
      · rw [nI_leI (by omega) (by omega)] at q
        have hact : pact s P i = true := decide_eq_true (by omega)
        refine ⟨fun z => absurd z (by decide), fun _ => ?_⟩
        ((conv => whnf); (try dsimp only))
        rcases hd : pv (pact s P) (P 1) i with _ | b <;> rw [hd] at hpv <;> dsimp only [lp_oi] at hpv ⊢
        · refine ⟨fun _ => ?_, fun z => absurd rfl z⟩
          ((conv => whnf); (try dsimp only))
          rw [if_pos hact] at hpv
          exact step _ _ hpv hin
        · have hbs := pv_spec hd
          have hbact : P 0 b < s (b + 1) := of_decide_eq_true hbs.2.1
          refine ⟨fun z => absurd z (lp_neg1 (by omega)), fun _ => ?_⟩
          ((conv => whnf); (try dsimp only))
          refine ⟨lp_vin (by omega) (by omega), ?_⟩
          rw [lp_clm (by omega), (hSv.1 i hin).2 (by omega)]
          ((conv => whnf); (try dsimp only))
          refine ⟨lp_vin (by omega) (by omega), ?_⟩
          rw [lp_clm (by omega), (hSv.1 b (by omega)).2 hbact]
          ((conv => whnf); (try dsimp only))
          have k1 := hN i hin (by omega)
          have k2 := hN b (by omega) hbact
          refine ⟨fun z => ?_, fun z => ?_⟩ <;> ((conv => whnf); (try dsimp only))
          · rw [nI_leI (by omega) (by omega)] at z
            rw [if_neg (by omega)] at hpv
            exact step _ _ hpv hin
          · rw [nI_leI (by omega) (by omega)] at z
            rw [if_pos ⟨hact, by omega⟩] at hpv
            exact step _ _ hpv hin
