def sp_X0_countNext : lpS := fun as σ Q => match as with
  | [.inr (some (r, k)), .inl x, .inr (some (r2, k2))] => r = 10 ∧ k = 0 ∧ (r2 = 13 ∨ r2 = 14) ∧ k2 = 0 ∧ ∃ (m a : Nat) (D : Nat → Nat), lp_Cx σ m D ∧ srt D m ∧ a < m ∧ x = nI a ∧ cfst D a ∧ ∀ τ, (∀ r, r ≠ r2 → τ r = σ r) → (∀ p, p < 11 → τ r2 0 p = nI (occ D m (D a / 11 * 11 + p))) → Q (some (nI (ctot D m (D a / 11)))) τ
  | _ => False
theorem occ_le {C : Nat → Nat} {c : Nat} : ∀ m, occ C m c ≤ m
  | 0 => Nat.le_refl _
  | m + 1 => by
    have := occ_le (C := C) (c := c) m
    show occ C m c + (if C m = c then 1 else 0) ≤ m + 1
    split <;> omega
theorem ctot_le {C : Nat → Nat} {c : Nat} : ∀ m, ctot C m c ≤ m
  | 0 => Nat.le_refl _
  | m + 1 => by
    have := ctot_le (C := C) (c := c) m
    show ctot C m c + (if C m / 11 = c then 1 else 0) ≤ m + 1
    split <;> omega
theorem lsum_rest {f : Nat → Nat} {i : Nat} : ∀ {m : Nat}, i ≤ m → (∀ j, i ≤ j → j < m → f j = 0) → lsum f m = lsum f i
  | 0, h, _ => by rw [show i = 0 by omega]
  | m + 1, h, hz => by
    by_cases ei : i = m + 1
    · rw [ei]
    · show lsum f m + f m = lsum f i
      rw [lsum_rest (m := m) (by omega) (fun j h1 h2 => hz j h1 (by omega)), hz m (by omega) (by omega)]
      rfl
set_option maxHeartbeats 4000000 in
set_option maxRecDepth 100000 in
theorem ct_X0_countNext (l : Launch) (D : va_G) (cI cD : ClassId) : lp_Ct l D cI cD yX0_countNext cX0_countNext 5 (some .int) 1 sp_X0_countNext := by
  refine lp_method flX0 pfX0 kcX0 [(52, some 0, 1, sp_X0_isFirstOfContext), (67, none, 2, sp_J7_fill)] false kX0_countNext [10, 34] rfl rfl (lp_rI rfl) flX0_ok pfX0_ok kcX0_ok kX0_countNext_ok ⟨_, _, rfl, rfl⟩ (lp_cs1 (lp_mkCall lkX0_52 (ct_X0_isFirstOfContext l D cI cD) (by omega)) (lp_cs1 (lp_mkCall lkX0_67 (ct_J7_fill l D cI cD) (by omega)) lp_cs0)) ?_
  intro as σ Q hok hs
  rcases as with _ | ⟨_ | _ | ⟨r, k⟩, _ | ⟨x | _, _ | ⟨_ | _ | ⟨r2, k2⟩, _ | ⟨c, as⟩⟩⟩⟩ <;> try exact (hs : False).elim
  obtain ⟨rfl, rfl, hr2, rfl, m, a, D, hC, hS, ha, rfl, hf, hq⟩ := hs
  have hm := hC.2.1
  have hbef := (cfst_new hS ha).mp hf
  have h9 : lp_lay r2 = some (.inr (.inl (fun _ => 11))) := by rcases hr2 with rfl | rfl <;> rfl
  refine ⟨by show 3 ≤ 5; omega, fun mm pc L τ => ∃ i, ((pc = 10 ∧ mm = 2 * (m - i) + 1) ∨ (pc = 34 ∧ mm = 2 * (m - i) ∧ i < m ∧ D i / 11 = D a / 11)) ∧ a ≤ i ∧ i ≤ m ∧ (∀ j, a ≤ j → j < i → D j / 11 = D a / 11) ∧ (∀ r, r ≠ r2 → τ r = σ r) ∧ (∀ p, p < 11 → τ r2 0 p = nI (occ D i (D a / 11 * 11 + p))) ∧ L = [some (.inr (some (10, 0))), some (.inl (nI a)), some (.inr (some (r2, 0))), some (.inl (nI (ctot D i (D a / 11)))), some (.inl (nI i))], ?_, ?_⟩
  · ((conv => whnf); (try dsimp only))
    refine ⟨fun _ => 11, h9, by show 11 < 2 ^ 31; omega, ?_⟩
    ((conv => whnf); (try dsimp only))
    have hz : ctot D a (D a / 11) = 0 := lsum_zero (fun j hj => if_neg (hbef j hj))
    refine ⟨_, a, Or.inl ⟨rfl, rfl⟩, Nat.le_refl _, by omega, fun j h1 h2 => absurd h2 (by omega), fun r hr => ?_, fun p hp => ?_, by rw [hz]; rfl⟩
    · simp [lp_fill, va_up, hr]
    · rw [show occ D a (D a / 11 * 11 + p) = 0 from lsum_zero (fun j hj => if_neg (fun q => hbef j hj (by rw [q]; omega)))]
      simp [lp_fill, va_up, hp]
      rfl
  · rintro mm pc L τ ⟨i, hpc, hai, hi, hblk, hfr, hoc, rfl⟩
    have hCτ : τ 10 = σ 10 ∧ τ 11 = σ 11 := ⟨hfr 10 (by rcases hr2 with rfl | rfl <;> omega), hfr 11 (by rcases hr2 with rfl | rfl <;> omega)⟩
    have hCx : lp_Cx τ m D := by unfold lp_Cx; rw [hCτ.1, hCτ.2]; exact hC
    have fin : (∀ j, i ≤ j → j < m → D j / 11 ≠ D a / 11) → Q (some (nI (ctot D i (D a / 11)))) τ := by
      intro hrest
      have e1 : ctot D m (D a / 11) = ctot D i (D a / 11) := lsum_rest hi (fun j h1 h2 => if_neg (hrest j h1 h2))
      rw [← e1]
      refine hq τ hfr (fun p hp => ?_)
      rw [hoc p hp]
      congr 1
      exact (lsum_rest hi (fun j h1 h2 => if_neg (fun q => hrest j h1 h2 (by rw [q]; omega)))).symm
    rcases hpc with ⟨rfl, hmm⟩ | ⟨rfl, hmm, him, hkey⟩
    rotate_left
    · obtain ⟨c1, c2⟩ := hC.2.2 i him
      ((conv => whnf); (try dsimp only))
      refine ⟨lp_vin (by omega) (by omega), ?_⟩
      rw [lp_clm (by omega), hCτ.2, c1]
      ((conv => whnf); (try dsimp only))
      refine ⟨by decide, ?_⟩
      rw [show nI (D i) - nI (D i) / (Int8.ofInt 11).toInt32 * (Int8.ofInt 11).toInt32 = nI (D i % 11) from pk_rem (d := 11) (by omega) (by omega) (by omega)]
      ((conv => whnf); (try dsimp only))
      rw [h9]
      ((conv => whnf); (try dsimp only))
      have hp11 : D i % 11 < 11 := Nat.mod_lt _ (by omega)
      refine ⟨lp_vin hp11 (by omega), ?_⟩
      rw [lp_clm (by omega), hoc _ hp11]
      ((conv => whnf); (try dsimp only))
      rw [h9]
      ((conv => whnf); (try dsimp only))
      refine ⟨lp_vin hp11 (by omega), ?_⟩
      rw [lp_clm (by omega)]
      ((conv => whnf); (try dsimp only))
      have e2 : ctot D (i + 1) (D a / 11) = ctot D i (D a / 11) + 1 := by
        show ctot D i (D a / 11) + (if D i / 11 = D a / 11 then 1 else 0) = _
        rw [if_pos hkey]
      refine ⟨2 * (m - (i + 1)) + 1, by omega, i + 1, Or.inl ⟨rfl, rfl⟩, by omega, by omega, fun j h1 h2 => ?_, fun r hr => ?_, fun p hp => ?_, by rw [e2, nI_succ i, nI_succ (ctot D i (D a / 11))]; rfl⟩
      · by_cases ej : j = i
        · subst ej; exact hkey
        · exact hblk j h1 (by omega)
      · rw [← hfr r hr]
        funext k'
        exact lp_w3_ne (fun z => hr z.1)
      · have e3 : occ D (i + 1) (D a / 11 * 11 + p) = occ D i (D a / 11 * 11 + p) + (if D i = D a / 11 * 11 + p then 1 else 0) := rfl
        rw [e3, lp_rd]
        by_cases ep : p = D i % 11
        · rw [if_pos ⟨rfl, rfl, ep⟩, if_pos (by omega), ep, nI_succ]
          rfl
        · rw [if_neg (fun z => ep z.2.2), if_neg (by omega)]
          exact hoc p hp
    ((conv => whnf); (try dsimp only))
    rw [hCx.1]
    refine ⟨fun h => ?_, fun h => ?_⟩ <;> ((conv => whnf); (try dsimp only))
    · rw [nI_leI (by omega) (by omega)] at h
      exact fin (fun j h1 h2 => absurd h2 (by omega))
    · rw [nI_leI (by omega) (by omega)] at h
      have him : i < m := by omega
      refine ⟨fun q => ?_, fun q => ?_⟩ <;> ((conv => whnf); (try dsimp only))
      · rw [nI_eq (by omega) (by omega)] at q
        exact ⟨2 * (m - i), by omega, i, Or.inr ⟨rfl, rfl, him, by rw [q]⟩, hai, hi, hblk, hfr, hoc, rfl⟩
      · rw [nI_eq (by omega) (by omega)] at q
        refine ⟨rfl, rfl, m, i, D, hCx, him, rfl, ?_⟩
        rcases Classical.em (cfst D i) with hfi | hfi
        · refine Or.inl ⟨hfi, ?_⟩
          ((conv => whnf); (try dsimp only))
          refine ⟨fun _ => ?_, fun z => absurd z (by decide)⟩
          ((conv => whnf); (try dsimp only))
          refine fin (fun j h1 h2 => ?_)
          have g1 := (cfst_new hS him).mp hfi a (by omega)
          have g2 := Nat.div_le_div_right (c := 11) (hS a i (by omega) him)
          have g3 := Nat.div_le_div_right (c := 11) (hS i j h1 h2)
          omega
        · refine Or.inr ⟨hfi, ?_⟩
          ((conv => whnf); (try dsimp only))
          refine ⟨fun z => absurd rfl z, fun _ => ?_⟩
          ((conv => whnf); (try dsimp only))
          have g1 : D i / 11 = D (i - 1) / 11 := by
            rcases Classical.em (D i / 11 = D (i - 1) / 11) with z | z
            · exact z
            · exact absurd (Or.inr z) hfi
          exact ⟨2 * (m - i), by omega, i, Or.inr ⟨rfl, rfl, him, by rw [g1]; exact hblk (i - 1) (by omega) (by omega)⟩, hai, hi, hblk, hfr, hoc, rfl⟩
