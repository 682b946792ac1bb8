/-! ===== Contexts: the cell (10, 0), comings (11, 0), unlike (12, 0), nextOfOne (13, 0), nextOfOther (14, 0) ===== -/
def lp_Cx (σ : lpM) (m : Nat) (C : Nat → Nat) : Prop := σ 10 0 4 = nI m ∧ m ≤ 1200 ∧ ∀ i, i < m → σ 11 0 i = nI (C i) ∧ C i < 110000
def lp_FX (σ τ : lpM) : Prop := ∀ r, ¬ (10 ≤ r ∧ r ≤ 14) → τ r = σ r
theorem lp_FX_Vis {σ τ : lpM} {k n : Nat} {s pg wt : Nat → Nat} (h : lp_Vis σ k n s pg wt) (hF : lp_FX σ τ) : lp_Vis τ k n s pg wt :=
  lp_Vis_congr h (by rw [hF 2 (by omega)]) (by rw [hF 3 (by omega)]) (by rw [hF 4 (by omega)]) (by rw [hF 5 (by omega)])
theorem lp_FX_w3 {σ τ : lpM} {r k j : Nat} {x : Int32} (h : lp_FX σ τ) (hr : 10 ≤ r ∧ r ≤ 14) : lp_FX σ (lp_w3 τ r k j x) := fun r' h' => by
  rw [← h r' h']
  funext k'
  exact lp_w3_ne (by omega)
theorem lp_FX_fill {σ τ : lpM} {r k n : Nat} {x : Int32} (h : lp_FX σ τ) (hr : 10 ≤ r ∧ r ≤ 14) : lp_FX σ (lp_fill τ r k n x) := fun r' h' => by
  rw [← h r' h']
  simp [lp_fill, va_up, show ¬ r' = r by omega]
theorem lp_FX_rf (σ : lpM) : lp_FX σ σ := fun _ _ => rfl
theorem lp_FX_tr {σ τ υ : lpM} (h1 : lp_FX σ τ) (h2 : lp_FX τ υ) : lp_FX σ υ := fun r hr => by rw [h2 r hr, h1 r hr]
def sp_X0_isFirstOfContext : lpS := fun as σ Q => match as with
  | [.inr (some (r, k)), .inl x] => r = 10 ∧ k = 0 ∧ ∃ (m j : Nat) (D : Nat → Nat), lp_Cx σ m D ∧ j < m ∧ x = nI j ∧ ((cfst D j ∧ Q (some 1) σ) ∨ (¬ cfst D j ∧ Q (some 0) σ))
  | _ => False
set_option maxHeartbeats 4000000 in
set_option maxRecDepth 100000 in
theorem ct_X0_isFirstOfContext (l : Launch) (D : va_G) (cI cD : ClassId) : lp_Ct l D cI cD yX0_isFirstOfContext cX0_isFirstOfContext 2 (some .boolean) 0 sp_X0_isFirstOfContext := by
  refine lp_method0 flX0 pfX0 kcX0 [] true kX0_isFirstOfContext rfl rfl (lp_rB rfl) flX0_ok pfX0_ok kcX0_ok kX0_isFirstOfContext_ok ⟨_, _, rfl, rfl⟩ lp_cs0 ?_
  intro as σ Q hs
  rcases as with _ | ⟨_ | _ | ⟨r, k⟩, _ | ⟨x | _, _ | ⟨c, as⟩⟩⟩ <;> try exact (hs : False).elim
  obtain ⟨rfl, rfl, m, j, D, hC, hj, rfl, hq⟩ := hs
  refine ⟨Nat.le_refl 2, ?_⟩
  have hm := hC.2.1
  ((conv => whnf); (try dsimp only))
  refine ⟨fun q => ?_, fun q => ?_⟩ <;> ((conv => whnf); (try dsimp only))
  · have hz : j = 0 := lp_inj (by omega) (by omega) q
    refine ⟨Or.inr rfl, ?_⟩
    rcases hq with ⟨h, hq⟩ | ⟨h, hq⟩
    · exact hq
    · exact absurd (Or.inl hz) h
  · have hz : ¬ j = 0 := fun z => q (by rw [z]; rfl)
    obtain ⟨i, rfl⟩ : ∃ i, j = i + 1 := ⟨j - 1, by omega⟩
    obtain ⟨c1, c2⟩ := hC.2.2 (i + 1) hj
    obtain ⟨c3, c4⟩ := hC.2.2 i (by omega)
    refine ⟨lp_vin (by omega) (by omega), ?_⟩
    rw [lp_clm (by omega), c1]
    ((conv => whnf); (try dsimp only))
    refine ⟨by decide, ?_⟩
    rw [show nI (D (i + 1)) / (Int8.ofInt 11).toInt32 = nI (D (i + 1) / 11) from pk_div (d := 11) (by omega) (by omega) (by omega)]
    ((conv => whnf); (try dsimp only))
    rw [show nI (i + 1) - Int32.ofInt 1 = nI i from nI_pred i]
    refine ⟨lp_vin (by omega) (by omega), ?_⟩
    rw [lp_clm (by omega), c3]
    ((conv => whnf); (try dsimp only))
    refine ⟨by decide, ?_⟩
    rw [show nI (D i) / (Int8.ofInt 11).toInt32 = nI (D i / 11) from pk_div (d := 11) (by omega) (by omega) (by omega)]
    ((conv => whnf); (try dsimp only))
    have hc : cfst D (i + 1) ↔ D (i + 1) / 11 ≠ D i / 11 := ⟨fun h => h.elim (fun z => absurd z (by omega)) id, Or.inr⟩
    refine ⟨fun q2 => ?_, fun q2 => ?_⟩ <;> ((conv => whnf); (try dsimp only))
    · rw [nI_eq (by omega) (by omega)] at q2
      refine ⟨Or.inl rfl, ?_⟩
      rcases hq with ⟨h, hq⟩ | ⟨h, hq⟩
      · exact absurd q2 (hc.mp h)
      · exact hq
    · rw [nI_eq (by omega) (by omega)] at q2
      refine ⟨Or.inr rfl, ?_⟩
      rcases hq with ⟨h, hq⟩ | ⟨h, hq⟩
      · exact hq
      · exact absurd (hc.mpr q2) h
def sp_X0_number : lpS := fun as σ Q => match as with
  | [.inr (some (r, k))] => r = 10 ∧ k = 0 ∧ ∃ (m : Nat) (D : Nat → Nat), lp_Cx σ m D ∧ srt D m ∧ Q (some (nI (cnum (m, D)))) σ
  | _ => False
set_option maxHeartbeats 4000000 in
set_option maxRecDepth 100000 in
theorem ct_X0_number (l : Launch) (D : va_G) (cI cD : ClassId) : lp_Ct l D cI cD yX0_number cX0_number 3 (some .int) 1 sp_X0_number := by
  refine lp_method flX0 pfX0 kcX0 [(52, some 0, 1, sp_X0_isFirstOfContext)] false kX0_number [4] rfl rfl (lp_rI rfl) flX0_ok pfX0_ok kcX0_ok kX0_number_ok ⟨_, _, rfl, rfl⟩ (lp_cs1 (lp_mkCall lkX0_52 (ct_X0_isFirstOfContext l D cI cD) (by omega)) lp_cs0) ?_
  intro as σ Q hok hs
  rcases as with _ | ⟨_ | _ | ⟨r, k⟩, _ | ⟨c, as⟩⟩ <;> try exact (hs : False).elim
  obtain ⟨rfl, rfl, m, D, hC, hS, hq⟩ := hs
  have hm := hC.2.1
  have hkey : ∀ i, i < m → D i / 11 < 10000 := fun i hi => by have := (hC.2.2 i hi).2; omega
  refine ⟨by show 1 ≤ 3; omega, fun mm pc L τ => pc = 4 ∧ ∃ i, mm + i = m ∧ i ≤ m ∧ σ = τ ∧ L = [some (.inr (some (10, 0))), some (.inl (nI (dist 10000 (fun j => D j / 11) i))), some (.inl (nI i))], ?_, ?_⟩
  · ((conv => whnf); (try dsimp only))
    exact ⟨m, rfl, 0, rfl, Nat.zero_le _, rfl, by rw [dist_0]; rfl⟩
  · rintro mm pc L τ ⟨rfl, i, hmm, hi, rfl, rfl⟩
    ((conv => whnf); (try dsimp only))
    rw [hC.1]
    refine ⟨fun h => ?_, fun h => ?_⟩ <;> ((conv => whnf); (try dsimp only))
    · rw [nI_leI (by omega) (by omega)] at h
      obtain rfl : i = m := by omega
      exact hq
    · rw [nI_leI (by omega) (by omega)] at h
      have him : i < m := by omega
      refine ⟨rfl, rfl, m, i, D, hC, him, rfl, ?_⟩
      rcases Classical.em (cfst D i) with hf | hf
      · refine Or.inl ⟨hf, ?_⟩
        ((conv => whnf); (try dsimp only))
        refine ⟨fun z => absurd z (by decide), fun _ => ?_⟩
        ((conv => whnf); (try dsimp only))
        have hd := dist_new (N := 10000) (f := fun j => D j / 11) (m := i) (hkey i him) (fun j hj => (cfst_new hS him).mp hf j hj)
        exact ⟨m - (i + 1), by omega, rfl, i + 1, by omega, by omega, rfl, by rw [hd, nI_succ i, nI_succ (dist 10000 (fun j => D j / 11) i)]; rfl⟩
      · refine Or.inr ⟨hf, ?_⟩
        ((conv => whnf); (try dsimp only))
        refine ⟨fun _ => ?_, fun z => absurd rfl z⟩
        ((conv => whnf); (try dsimp only))
        have hd := dist_old (N := 10000) (f := fun j => D j / 11) (m := i) (by
          rcases Classical.em (∃ j, j < i ∧ D j / 11 = D i / 11) with z | z
          · exact z
          · exact absurd ((cfst_new hS him).mpr (fun j hj q => z ⟨j, hj, q⟩)) hf)
        exact ⟨m - (i + 1), by omega, rfl, i + 1, by omega, by omega, rfl, by rw [hd, nI_succ i]; rfl⟩
def sp_X0_areInProportion : lpS := fun as σ Q => match as with
  | [.inr (some (r, k)), .inl x, .inl y] => r = 10 ∧ k = 0 ∧ ∃ (t u : Nat) (f g : Nat → Nat), x = nI t ∧ y = nI u ∧ t ≤ 1200 ∧ u ≤ 1200 ∧ (∀ p, p < 11 → σ 13 0 p = nI (f p) ∧ f p ≤ 1200 ∧ σ 14 0 p = nI (g p) ∧ g p ≤ 1200) ∧ (((∀ p, p < 11 → f p * u = g p * t) ∧ Q (some 1) σ) ∨ (¬ (∀ p, p < 11 → f p * u = g p * t) ∧ Q (some 0) σ))
  | _ => False
set_option maxHeartbeats 4000000 in
set_option maxRecDepth 100000 in
theorem ct_X0_areInProportion (l : Launch) (D : va_G) (cI cD : ClassId) : lp_Ct l D cI cD yX0_areInProportion cX0_areInProportion 4 (some .boolean) 0 sp_X0_areInProportion := by
  refine lp_method flX0 pfX0 kcX0 [] true kX0_areInProportion [2] rfl rfl (lp_rB rfl) flX0_ok pfX0_ok kcX0_ok kX0_areInProportion_ok ⟨_, _, rfl, rfl⟩ lp_cs0 ?_
  intro as σ Q hok hs
  rcases as with _ | ⟨_ | _ | ⟨r, k⟩, _ | ⟨x | _, _ | ⟨y | _, _ | ⟨c, as⟩⟩⟩⟩ <;> try exact (hs : False).elim
  obtain ⟨rfl, rfl, t, u, f, g, rfl, rfl, ht, hu, hfg, hq⟩ := hs
  refine ⟨by show 3 ≤ 4; omega, fun mm pc L τ => pc = 2 ∧ ∃ i, mm + i = 11 ∧ i ≤ 11 ∧ (∀ p, p < i → f p * u = g p * t) ∧ σ = τ ∧ L = [some (.inr (some (10, 0))), some (.inl (nI t)), some (.inl (nI u)), some (.inl (nI i))], ?_, ?_⟩
  · ((conv => whnf); (try dsimp only))
    exact ⟨11, rfl, 0, rfl, Nat.zero_le _, fun p hp => absurd hp (by omega), rfl, rfl⟩
  · rintro mm pc L τ ⟨rfl, i, hmm, hi, hall, rfl, rfl⟩
    ((conv => whnf); (try dsimp only))
    refine ⟨fun h => ?_, fun h => ?_⟩ <;> ((conv => whnf); (try dsimp only))
    · have h : 11 ≤ i := (nI_leI (a := 11) (by omega) (by omega)).mp h
      obtain rfl : i = 11 := by omega
      refine ⟨Or.inr rfl, ?_⟩
      rcases hq with ⟨z, hq⟩ | ⟨z, hq⟩
      · exact hq
      · exact absurd hall z
    · have h : ¬ 11 ≤ i := fun z => h ((nI_leI (a := 11) (by omega) (by omega)).mpr z)
      obtain ⟨f1, f2, g1, g2⟩ := hfg i (by omega)
      refine ⟨lp_vin (by omega) (by omega), ?_⟩
      rw [lp_clm (by omega), f1]
      ((conv => whnf); (try dsimp only))
      refine ⟨lp_vin (by omega) (by omega), ?_⟩
      rw [lp_clm (by omega), g1]
      ((conv => whnf); (try dsimp only))
      have m1 : f i * u ≤ 1200 * 1200 := Nat.mul_le_mul f2 hu
      have m2 : g i * t ≤ 1200 * 1200 := Nat.mul_le_mul g2 ht
      rw [pk_mul, pk_mul]
      refine ⟨fun q => ?_, fun q => ?_⟩ <;> ((conv => whnf); (try dsimp only))
      · rw [nI_eq (by omega) (by omega)] at q
        refine ⟨11 - (i + 1), by omega, rfl, i + 1, by omega, by omega, fun p hp => ?_, rfl, by rw [nI_succ i]; rfl⟩
        by_cases ep : p = i
        · subst ep; exact q
        · exact hall p (by omega)
      · rw [nI_eq (by omega) (by omega)] at q
        refine ⟨Or.inl rfl, ?_⟩
        rcases hq with ⟨z, hq⟩ | ⟨z, hq⟩
        · exact absurd (z i (by omega)) q
        · exact hq
