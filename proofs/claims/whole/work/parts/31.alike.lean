/-! ===== Contexts: which are ALIKE ===== -/
def sp_X0_isAlikeToOneOf : lpS := fun as σ Q => match as with
  | [.inr (some (r, k)), .inl x, .inl y] => r = 10 ∧ k = 0 ∧ ∃ (m q a : Nat) (D u : Nat → Nat), lp_Cx σ m D ∧ srt D m ∧ x = nI q ∧ q ≤ 1200 ∧ y = nI a ∧ a < m ∧ cfst D a ∧ (∀ t, t < q → σ 12 0 t = nI (u t) ∧ u t < m ∧ cfst D (u t)) ∧
      ∀ τ, (∀ r, r ≠ 13 → r ≠ 14 → τ r = σ r) → (((∃ t, t < q ∧ calk D m (D a / 11) (D (u t) / 11)) → Q (some 1) τ) ∧ ((∀ t, t < q → ¬ calk D m (D a / 11) (D (u t) / 11)) → Q (some 0) τ))
  | _ => False
set_option maxHeartbeats 4000000 in
set_option maxRecDepth 100000 in
theorem ct_X0_isAlikeToOneOf (l : Launch) (D : va_G) (cI cD : ClassId) : lp_Ct l D cI cD yX0_isAlikeToOneOf cX0_isAlikeToOneOf 6 (some .boolean) 2 sp_X0_isAlikeToOneOf := by
  refine lp_method flX0 pfX0 kcX0 [(60, some 0, 2, sp_X0_countNext), (64, some 0, 2, sp_X0_areInProportion)] true kX0_isAlikeToOneOf [13] rfl rfl (lp_rB rfl) flX0_ok pfX0_ok kcX0_ok kX0_isAlikeToOneOf_ok ⟨_, _, rfl, rfl⟩ (lp_cs1 (lp_mkCall lkX0_60 (ct_X0_countNext l D cI cD) (by omega)) (lp_cs1 (lp_mkCall lkX0_64 (ct_X0_areInProportion l D cI cD) (by omega)) lp_cs0)) ?_
  intro as σ Q hok hs
  rcases as with _ | ⟨_ | _ | ⟨r, k⟩, _ | ⟨x | _, _ | ⟨y | _, _ | ⟨c, as⟩⟩⟩⟩ <;> try exact (hs : False).elim
  obtain ⟨rfl, rfl, m, q, a, D, u, hC, hS, rfl, hq1, rfl, ha, hfa, hu, hq⟩ := hs
  have hm := hC.2.1
  refine ⟨by show 3 ≤ 6; omega, fun mm pc L τ => pc = 13 ∧ ∃ (i : Nat) (x5 : Option lpV), mm + i = q ∧ i ≤ q ∧ (∀ t, t < i → ¬ calk D m (D a / 11) (D (u t) / 11)) ∧ (∀ r, r ≠ 13 → r ≠ 14 → τ r = σ r) ∧ (∀ p, p < 11 → τ 13 0 p = nI (occ D m (D a / 11 * 11 + p))) ∧ L = [some (.inr (some (10, 0))), some (.inl (nI q)), some (.inl (nI a)), some (.inl (nI (ctot D m (D a / 11)))), some (.inl (nI i)), x5], ?_, ?_⟩
  · ((conv => whnf); (try dsimp only))
    refine ⟨rfl, rfl, Or.inl rfl, rfl, m, a, D, hC, hS, ha, rfl, hfa, fun τ h1 h2 => ?_⟩
    ((conv => whnf); (try dsimp only))
    exact ⟨q, rfl, 0, none, rfl, Nat.zero_le _, fun t ht => absurd ht (by omega), fun r h13 h14 => h1 r h13, h2, rfl⟩
  · rintro mm pc L τ ⟨rfl, i, x5, hmm, hi, hno, hfr, hoc, rfl⟩
    have hCx : lp_Cx τ m D := by unfold lp_Cx; rw [hfr 10 (by omega) (by omega), hfr 11 (by omega) (by omega)]; exact hC
    ((conv => whnf); (try dsimp only))
    refine ⟨fun h => ?_, fun h => ?_⟩ <;> ((conv => whnf); (try dsimp only))
    · rw [nI_leI (by omega) (by omega)] at h
      obtain rfl : i = q := by omega
      exact ⟨Or.inl rfl, (hq τ hfr).2 hno⟩
    · rw [nI_leI (by omega) (by omega)] at h
      have hiq : i < q := by omega
      obtain ⟨u1, u2, u3⟩ := hu i hiq
      refine ⟨lp_vin (by omega) (by omega), ?_⟩
      rw [lp_clm (by omega), hfr 12 (by omega) (by omega), u1]
      ((conv => whnf); (try dsimp only))
      refine ⟨rfl, rfl, Or.inr rfl, rfl, m, u i, D, hCx, hS, u2, rfl, u3, fun τ' h1 h2 => ?_⟩
      ((conv => whnf); (try dsimp only))
      have hfr' : ∀ r, r ≠ 13 → r ≠ 14 → τ' r = σ r := fun r h13 h14 => by rw [h1 r h14, hfr r h13 h14]
      have hoc' : ∀ p, p < 11 → τ' 13 0 p = nI (occ D m (D a / 11 * 11 + p)) := fun p hp => by rw [h1 13 (by omega)]; exact hoc p hp
      refine ⟨rfl, rfl, ctot D m (D a / 11), ctot D m (D (u i) / 11), fun p => occ D m (D a / 11 * 11 + p), fun p => occ D m (D (u i) / 11 * 11 + p), rfl, rfl, by have := ctot_le (C := D) (c := D a / 11) m; omega, by have := ctot_le (C := D) (c := D (u i) / 11) m; omega, fun p hp => ⟨hoc' p hp, Nat.le_trans (occ_le m) hm, h2 p hp, Nat.le_trans (occ_le m) hm⟩, ?_⟩
      rcases Classical.em (calk D m (D a / 11) (D (u i) / 11)) with hal | hal
      · refine Or.inl ⟨hal, ?_⟩
        ((conv => whnf); (try dsimp only))
        refine ⟨fun z => absurd z (by decide), fun _ => ?_⟩
        ((conv => whnf); (try dsimp only))
        exact ⟨Or.inr rfl, (hq τ' hfr').1 ⟨i, hiq, hal⟩⟩
      · refine Or.inr ⟨hal, ?_⟩
        ((conv => whnf); (try dsimp only))
        refine ⟨fun _ => ?_, fun z => absurd rfl z⟩
        ((conv => whnf); (try dsimp only))
        refine ⟨q - (i + 1), by omega, rfl, i + 1, some (.inl (nI (ctot D m (D (u i) / 11)))), by omega, by omega, fun t ht => ?_, hfr', hoc', by rw [nI_succ i]; rfl⟩
        by_cases et : t = i
        · subst et; exact hal
        · exact hno t (by omega)
def sp_X0_numberOfUnlike : lpS := fun as σ Q => match as with
  | [.inr (some (r, k))] => r = 10 ∧ k = 0 ∧ ∃ (m : Nat) (D : Nat → Nat), lp_Cx σ m D ∧ srt D m ∧ ∀ τ, lp_FX σ τ → Q (some (nI (cstt (m, D)))) τ
  | _ => False
set_option maxHeartbeats 4000000 in
set_option maxRecDepth 100000 in
theorem ct_X0_numberOfUnlike (l : Launch) (D : va_G) (cI cD : ClassId) : lp_Ct l D cI cD yX0_numberOfUnlike cX0_numberOfUnlike 3 (some .int) 3 sp_X0_numberOfUnlike := by
  refine lp_method flX0 pfX0 kcX0 [(52, some 0, 1, sp_X0_isFirstOfContext), (56, some 0, 2, sp_X0_isAlikeToOneOf)] false kX0_numberOfUnlike [4] rfl rfl (lp_rI rfl) flX0_ok pfX0_ok kcX0_ok kX0_numberOfUnlike_ok ⟨_, _, rfl, rfl⟩ (lp_cs1 (lp_mkCall lkX0_52 (ct_X0_isFirstOfContext l D cI cD) (by omega)) (lp_cs1 (lp_mkCall lkX0_56 (ct_X0_isAlikeToOneOf l D cI cD) (by omega)) lp_cs0)) ?_
  intro as σ Q hok hs
  rcases as with _ | ⟨_ | _ | ⟨r, k⟩, _ | ⟨c, as⟩⟩ <;> try exact (hs : False).elim
  obtain ⟨rfl, rfl, m, D, hC, hS, hq⟩ := hs
  have hm := hC.2.1
  have hkey : ∀ i, i < m → D i / 11 < 10000 := fun i hi => by have := (hC.2.2 i hi).2; omega
  have hpos : ∀ i, i < m → 0 < ctot D m (D i / 11) := fun i hi => ctot_pos.mpr ⟨i, hi, rfl⟩
  obtain ⟨f, hf⟩ : ∃ f : Nat → Nat, f = fun i => crep D m 10000 (D i / 11) := ⟨_, rfl⟩
  have hfi : ∀ i j, i < m → j < m → (f i = f j ↔ calk D m (D i / 11) (D j / 11)) := fun i j hi hj => by rw [hf]; exact crep_iff (hkey i hi) (hpos i hi) (hkey j hj) (hpos j hj)
  have hfl : ∀ i, i < m → f i < 10000 := fun i hi => by rw [hf]; exact crep_lt (hkey i hi) (hpos i hi)
  have hq' : ∀ τ, lp_FX σ τ → Q (some (nI (dist 10000 f m))) τ := by rw [hf]; exact hq
  refine ⟨by show 1 ≤ 3; omega, fun mm pc L τ => pc = 4 ∧ ∃ (i : Nat) (u : Nat → Nat), mm + i = m ∧ i ≤ m ∧ lp_FX σ τ ∧ lp_Cx τ m D ∧ (∀ t, t < dist 10000 f i → τ 12 0 t = nI (u t) ∧ u t < i ∧ cfst D (u t)) ∧ (∀ j, j < i → ∃ t, t < dist 10000 f i ∧ f (u t) = f j) ∧ L = [some (.inr (some (10, 0))), some (.inl (nI (dist 10000 f i))), some (.inl (nI i))], ?_, ?_⟩
  · ((conv => whnf); (try dsimp only))
    exact ⟨m, rfl, 0, fun _ => 0, rfl, Nat.zero_le _, lp_FX_rf σ, hC, fun t ht => absurd ht (by rw [dist_0]; omega), fun j hj => absurd hj (by omega), by rw [dist_0]; rfl⟩
  · rintro mm pc L τ ⟨rfl, i, u, hmm, hi, hF, hCx, hu, hcov, rfl⟩
    have hdi := dist_le (N := 10000) (f := f) i
    ((conv => whnf); (try dsimp only))
    rw [hCx.1]
    refine ⟨fun h => ?_, fun h => ?_⟩ <;> ((conv => whnf); (try dsimp only))
    · rw [nI_leI (by omega) (by omega)] at h
      obtain rfl : i = m := by omega
      exact hq' τ hF
    · rw [nI_leI (by omega) (by omega)] at h
      have him : i < m := by omega
      have old : ∀ τ' : lpM, lp_FX σ τ' → lp_Cx τ' m D → τ' 12 = τ 12 → (∃ j, j < i ∧ f j = f i) → ∃ m', m' < mm ∧ (fun (mm pc : Nat) (L : lpL) (τ : lpM) => pc = 4 ∧ ∃ (i : Nat) (u : Nat → Nat), mm + i = m ∧ i ≤ m ∧ lp_FX σ τ ∧ lp_Cx τ m D ∧ (∀ t, t < dist 10000 f i → τ 12 0 t = nI (u t) ∧ u t < i ∧ cfst D (u t)) ∧ (∀ j, j < i → ∃ t, t < dist 10000 f i ∧ f (u t) = f j) ∧ L = [some (.inr (some (10, 0))), some (.inl (nI (dist 10000 f i))), some (.inl (nI i))]) m' 4 [some (.inr (some (10, 0))), some (.inl (nI (dist 10000 f i))), some (.inl (nI i + Int32.ofInt 1))] τ' := by
        intro τ' g1 g2 g3 hex
        refine ⟨m - (i + 1), by omega, rfl, i + 1, u, by omega, by omega, g1, g2, fun t ht => ?_, fun j hj => ?_, by rw [dist_old hex, nI_succ i]; rfl⟩
        · rw [dist_old hex] at ht
          rw [g3]
          have := hu t ht
          exact ⟨this.1, by omega, this.2.2⟩
        · rw [dist_old hex]
          by_cases ej : j = i
          · subst ej
            obtain ⟨j', h3, h4⟩ := hex
            obtain ⟨t, h5, h6⟩ := hcov j' h3
            exact ⟨t, h5, h6.trans h4⟩
          · exact hcov j (by omega)
      refine ⟨rfl, rfl, m, i, D, hCx, him, rfl, ?_⟩
      rcases Classical.em (cfst D i) with hfs | hfs
      · refine Or.inl ⟨hfs, ?_⟩
        ((conv => whnf); (try dsimp only))
        refine ⟨fun z => absurd z (by decide), fun _ => ?_⟩
        ((conv => whnf); (try dsimp only))
        refine ⟨rfl, rfl, m, dist 10000 f i, i, D, u, hCx, hS, rfl, by omega, rfl, him, hfs, fun t ht => by have := hu t ht; exact ⟨this.1, by omega, this.2.2⟩, fun τ' g1 => ⟨fun hex => ?_, fun hno => ?_⟩⟩
        · ((conv => whnf); (try dsimp only))
          refine ⟨fun _ => ?_, fun z => absurd z (by decide)⟩
          ((conv => whnf); (try dsimp only))
          obtain ⟨t, h3, h4⟩ := hex
          have h5 := hu t h3
          refine old τ' (fun r hr => by rw [g1 r (by omega) (by omega), hF r hr]) (by unfold lp_Cx; rw [g1 10 (by omega) (by omega), g1 11 (by omega) (by omega)]; exact hCx) (g1 12 (by omega) (by omega)) ⟨u t, h5.2.1, ?_⟩
          exact (hfi (u t) i (by omega) him).mpr (calk_sy h4)
        · ((conv => whnf); (try dsimp only))
          refine ⟨fun z => absurd rfl z, fun _ => ?_⟩
          ((conv => whnf); (try dsimp only))
          refine ⟨lp_vin (by omega) (by omega), ?_⟩
          rw [lp_clm (by omega)]
          ((conv => whnf); (try dsimp only))
          have hnew := dist_new (N := 10000) (f := f) (m := i) (hfl i him) (fun j hj e1 => by
            obtain ⟨t, h5, h6⟩ := hcov j hj
            have h7 := hu t h5
            exact hno t h5 ((hfi i (u t) him (by omega)).mp (h6.trans e1).symm))
          refine ⟨m - (i + 1), by omega, rfl, i + 1, nu u (dist 10000 f i) i, by omega, by omega, lp_FX_w3 (fun r hr => by rw [g1 r (by omega) (by omega), hF r hr]) (by omega), ?_, fun t ht => ?_, fun j hj => ?_, by rw [hnew, nI_succ i, nI_succ (dist 10000 f i)]; rfl⟩
          · unfold lp_Cx
            rw [lp_w3_ne (by omega), lp_w3_ne (by omega), g1 10 (by omega) (by omega), g1 11 (by omega) (by omega)]
            exact hCx
          · rw [hnew] at ht
            by_cases et : t = dist 10000 f i
            · subst et
              rw [nu_same, lp_rd, if_pos ⟨rfl, rfl, rfl⟩]
              exact ⟨rfl, by omega, hfs⟩
            · rw [nu_ne et, lp_rd, if_neg (fun z => et z.2.2), g1 12 (by omega) (by omega)]
              have := hu t (by omega)
              exact ⟨this.1, by omega, this.2.2⟩
          · rw [hnew]
            by_cases ej : j = i
            · subst ej
              exact ⟨dist 10000 f j, by omega, by rw [nu_same]⟩
            · obtain ⟨t, h5, h6⟩ := hcov j (by omega)
              exact ⟨t, by omega, by rw [nu_ne (by omega)]; exact h6⟩
      · refine Or.inr ⟨hfs, ?_⟩
        ((conv => whnf); (try dsimp only))
        refine ⟨fun _ => ?_, fun z => absurd rfl z⟩
        ((conv => whnf); (try dsimp only))
        refine old τ hF hCx rfl ⟨i - 1, ?_, ?_⟩
        · rcases Nat.eq_zero_or_pos i with z | z
          · exact absurd (Or.inl z) hfs
          · omega
        · have g1 : D i / 11 = D (i - 1) / 11 := by
            rcases Classical.em (D i / 11 = D (i - 1) / 11) with z | z
            · exact z
            · exact absurd (Or.inr z) hfs
          rw [hf]
          dsimp only
          rw [g1]
