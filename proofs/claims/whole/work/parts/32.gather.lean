/-! ===== Contexts: gatherFrom, sort, gather ===== -/
def sp_X0_gatherFrom : lpS := fun as σ Q => match as with
  | [.inr (some (r, k)), .inr (some (r2, k2)), .inl x, .inl y] => r = 10 ∧ k = 0 ∧ r2 = 2 ∧ k2 = 0 ∧ ∃ (n v kk : Nat) (s pg wt : Nat → Nat) (S : lpR), lp_Vis σ 0 n s pg wt ∧ v < n ∧ x = nI v ∧ y = nI kk ∧ 1 ≤ kk ∧ kk ≤ 4 ∧ lp_Cx σ S.1 S.2 ∧ S.1 ≤ s v ∧
      ∀ τ, lp_FX σ τ → lp_Cx τ (gthP pg kk (s (v + 1)) (s (v + 1) + 1 - (s v + kk)) (s v + kk) S).1 (gthP pg kk (s (v + 1)) (s (v + 1) + 1 - (s v + kk)) (s v + kk) S).2 → Q none τ
  | _ => False
theorem ccod_lt {pg : Nat → Nat} {kk e1 p : Nat} (hk : kk ≤ 4) (hp : kk ≤ p) (h : ∀ i, i < p → pg i < 10) (hpp : p < e1 → pg p < 10) : ccod pg kk e1 p < 110000 := by
  have h1 := ckey_lt (pg := pg) (a := p - kk) (k := kk) (fun i hi => h _ (by omega))
  have h2 : 10 ^ kk ≤ 10 ^ 4 := Nat.pow_le_pow_right (by omega) hk
  unfold ccod
  split
  · rename_i hlt
    have := hpp hlt
    omega
  · omega
set_option maxHeartbeats 4000000 in
set_option maxRecDepth 100000 in
theorem ct_X0_gatherFrom (l : Launch) (D : va_G) (cI cD : ClassId) : lp_Ct l D cI cD yX0_gatherFrom cX0_gatherFrom 8 none 3 sp_X0_gatherFrom := by
  refine lp_method flX0 pfX0 kcX0 [(38, some 4, 1, sp_X4_endOf), (42, some 4, 1, sp_X4_startOf), (45, some 4, 1, sp_X4_pageAt), (48, none, 2, sp_X6_stepOf)] false kX0_gatherFrom [16, 42] rfl rfl (lp_rV rfl) flX0_ok pfX0_ok kcX0_ok kX0_gatherFrom_ok ⟨_, _, rfl, rfl⟩ (lp_cs1 (lp_mkCall lkX0_38 (ct_X4_endOf l D cI cD) (by omega)) (lp_cs1 (lp_mkCall lkX0_42 (ct_X4_startOf l D cI cD) (by omega)) (lp_cs1 (lp_mkCall lkX0_45 (ct_X4_pageAt l D cI cD) (by omega)) (lp_cs1 (lp_mkCall lkX0_48 (ct_X6_stepOf l D cI cD) (by omega)) lp_cs0)))) ?_
  intro as σ Q hok hs
  rcases as with _ | ⟨_ | _ | ⟨r, k⟩, _ | ⟨_ | _ | ⟨r2, k2⟩, _ | ⟨x | _, _ | ⟨y | _, _ | ⟨c, as⟩⟩⟩⟩⟩ <;> try exact (hs : False).elim
  obtain ⟨rfl, rfl, rfl, rfl, n, v, kk, s, pg, wt, S, hV, hv, rfl, rfl, hk1, hk4, hC, hS, hq⟩ := hs
  have hn := hV.2.1
  have hb := lp_Vis_bd hV
  have hsv := hV.2.2.2.2.1 v hv
  have hsn := lp_Vis_sn hV (v := v + 1) (by omega)
  have hpg : ∀ j, j < s n → pg j < 10 := fun j hj => (hV.2.2.2.2.2 j hj).2.1
  generalize hFF : gthP pg kk (s (v + 1)) (s (v + 1) + 1 - (s v + kk)) (s v + kk) S = FF at hq
  refine ⟨by show 4 ≤ 8; omega, fun mm pc L τ => ∃ (p : Nat) (S' : lpR), s v + kk ≤ p ∧ gthP pg kk (s (v + 1)) (s (v + 1) + 1 - p) p S' = FF ∧ S'.1 + (s v + kk) = S.1 + p ∧ lp_FX σ τ ∧ lp_Cx τ S'.1 S'.2 ∧
    ((pc = 16 ∧ ∃ (x6 x7 : Option lpV), mm = (3000 - p) * 10 + 9 ∧ p ≤ s (v + 1) + 5 ∧ L = [some (.inr (some (10, 0))), some (.inr (some (2, 0))), some (.inl (nI v)), some (.inl (nI kk)), some (.inl (nI (s (v + 1)))), some (.inl (nI p)), x6, x7]) ∨
     (pc = 42 ∧ ∃ (j : Nat), mm = (3000 - p) * 10 + (kk - j) ∧ p ≤ s (v + 1) ∧ j ≤ kk ∧ L = [some (.inr (some (10, 0))), some (.inr (some (2, 0))), some (.inl (nI v)), some (.inl (nI kk)), some (.inl (nI (s (v + 1)))), some (.inl (nI p)), some (.inl (nI (ckey pg (p - kk) j))), some (.inl (nI (p - kk + j)))])), ?_, ?_⟩
  · ((conv => whnf); (try dsimp only))
    refine ⟨rfl, n, s, pg, wt, hV, Or.inl ⟨v, hv, rfl, ?_⟩⟩
    ((conv => whnf); (try dsimp only))
    refine ⟨rfl, n, s, pg, wt, hV, Or.inl ⟨v, hv, rfl, ?_⟩⟩
    ((conv => whnf); (try dsimp only))
    rw [nI_add]
    exact ⟨_, s v + kk, S, Nat.le_refl _, hFF, rfl, lp_FX_rf σ, hC, Or.inl ⟨rfl, none, none, rfl, by omega, rfl⟩⟩
  · rintro mm pc L τ ⟨p, S', hp, hg, hS', hF, hCx, (⟨rfl, x6, x7, hmm, hpe, rfl⟩ | ⟨rfl, j, hmm, hpe, hj, rfl⟩)⟩
    · have hVτ := lp_FX_Vis hV hF
      have hb1 := lp_Vis_bd hV
      ((conv => whnf); (try dsimp only))
      refine ⟨fun h => ?_, fun h => ?_⟩ <;> ((conv => whnf); (try dsimp only))
      · rw [nI_ltI (by omega) (by omega)] at h
        rw [show s (v + 1) + 1 - p = 0 by omega] at hg
        have hg : S' = FF := hg
        subst hg
        exact hq τ hF hCx
      · rw [nI_ltI (by omega) (by omega)] at h
        rw [hCx.1]
        refine ⟨fun z => ?_, fun _ => ?_⟩ <;> ((conv => whnf); (try dsimp only))
        · have : 1200 ≤ S'.1 := (nI_leI (a := 1200) (by omega) (by have := hCx.2.1; omega)).mp z
          omega
        · rw [pk_sub (show kk ≤ p by omega)]
          exact ⟨(3000 - p) * 10 + kk, by omega, p, S', hp, hg, hS', hF, hCx, Or.inr ⟨rfl, 0, rfl, by omega, by omega, rfl⟩⟩
    · have hVτ := lp_FX_Vis hV hF
      have hck : ∀ i, i ≤ kk → ckey pg (p - kk) i < 10 ^ i := fun i hi => ckey_lt (fun x hx => hpg _ (by omega))
      ((conv => whnf); (try dsimp only))
      refine ⟨fun h => ?_, fun h => ?_⟩ <;> ((conv => whnf); (try dsimp only))
      · rw [nI_leI (by omega) (by omega)] at h
        obtain rfl : j = kk := by omega
        have hlt := hck j (Nat.le_refl _)
        have hpw : 10 ^ j ≤ 10 ^ 4 := Nat.pow_le_pow_right (by omega) hk4
        have hsz : S'.1 < 1200 := by omega
        have fin : ∀ nx : Nat, (if p < s (v + 1) then pg p else 10) = nx → ∃ m', m' < mm ∧ (fun (mm pc : Nat) (L : lpL) (τ : lpM) => ∃ (p : Nat) (S' : lpR), s v + j ≤ p ∧ gthP pg j (s (v + 1)) (s (v + 1) + 1 - p) p S' = FF ∧ S'.1 + (s v + j) = S.1 + p ∧ lp_FX σ τ ∧ lp_Cx τ S'.1 S'.2 ∧
    ((pc = 16 ∧ ∃ (x6 x7 : Option lpV), mm = (3000 - p) * 10 + 9 ∧ p ≤ s (v + 1) + 5 ∧ L = [some (.inr (some (10, 0))), some (.inr (some (2, 0))), some (.inl (nI v)), some (.inl (nI j)), some (.inl (nI (s (v + 1)))), some (.inl (nI p)), x6, x7]) ∨
     (pc = 42 ∧ ∃ (j' : Nat), mm = (3000 - p) * 10 + (j - j') ∧ p ≤ s (v + 1) ∧ j' ≤ j ∧ L = [some (.inr (some (10, 0))), some (.inr (some (2, 0))), some (.inl (nI v)), some (.inl (nI j)), some (.inl (nI (s (v + 1)))), some (.inl (nI p)), some (.inl (nI (ckey pg (p - j) j'))), some (.inl (nI (p - j + j')))]))) m' 16 [some (.inr (some (10, 0))), some (.inr (some (2, 0))), some (.inl (nI v)), some (.inl (nI j)), some (.inl (nI (s (v + 1)))), some (.inl (nI p + Int32.ofInt 1)), some (.inl (nI (ckey pg (p - j) j))), some (.inl (nI (p - j + j)))] (lp_w3 (lp_w3 τ 11 0 S'.1 (nI (ckey pg (p - j) j * 11 + nx))) 10 0 4 (nI (S'.1 + 1))) := by
          intro nx hnx
          have hcod : ckey pg (p - j) j * 11 + nx = ccod pg j (s (v + 1)) p := by unfold ccod; rw [hnx]
          refine ⟨(3000 - (p + 1)) * 10 + 9, by omega, p + 1, (S'.1 + 1, nu S'.2 S'.1 (ccod pg j (s (v + 1)) p)), by omega, ?_, by dsimp only; omega, lp_FX_w3 (lp_FX_w3 hF (by omega)) (by omega), ⟨?_, by dsimp only; omega, fun i hi => ?_⟩, Or.inl ⟨rfl, _, _, rfl, by omega, by rw [nI_succ p]; rfl⟩⟩
          · rw [← hg, show s (v + 1) + 1 - p = s (v + 1) + 1 - (p + 1) + 1 by omega]
            rfl
          · simp [lp_rd]
          · dsimp only at hi ⊢
            have hi2 : i ≤ S'.1 := by omega
            by_cases ei : i = S'.1
            · subst ei
              rw [nu_same, lp_rd, if_neg (by omega), lp_rd, if_pos ⟨rfl, rfl, rfl⟩, hcod]
              exact ⟨rfl, ccod_lt hk4 (by omega) (fun x hx => hpg x (by omega)) (fun hx => hpg p (by omega))⟩
            · rw [nu_ne ei, lp_rd, if_neg (by omega), lp_rd, if_neg (fun z => ei z.2.2)]
              exact hCx.2.2 i (by omega)
        refine ⟨fun q => ?_, fun q => ?_⟩ <;> ((conv => whnf); (try dsimp only))
        · rw [nI_leI (by omega) (by omega)] at q
          rw [show nI (ckey pg (p - j) j) * nI 11 + (Int8.ofInt 10).toInt32 = nI (ckey pg (p - j) j * 11 + 10) from lp_step, hCx.1]
          refine ⟨lp_vin (by omega) (by omega), ?_⟩
          rw [lp_clm (by omega)]
          ((conv => whnf); (try dsimp only))
          rw [show lp_w3 τ 11 0 S'.1 (nI (ckey pg (p - j) j * 11 + 10)) 10 0 4 = nI S'.1 from by simp [lp_rd, hCx.1], show nI S'.1 + Int32.ofInt 1 = nI (S'.1 + 1) from (nI_succ _).symm]
          exact fin 10 (if_neg (by omega))
        · rw [nI_leI (by omega) (by omega)] at q
          refine ⟨rfl, n, s, pg, wt, hVτ, Or.inl ⟨p, by omega, rfl, ?_⟩⟩
          ((conv => whnf); (try dsimp only))
          rw [lp_step, hCx.1]
          refine ⟨lp_vin (by omega) (by omega), ?_⟩
          rw [lp_clm (by omega)]
          ((conv => whnf); (try dsimp only))
          rw [show lp_w3 τ 11 0 S'.1 (nI (ckey pg (p - j) j * 11 + pg p)) 10 0 4 = nI S'.1 from by simp [lp_rd, hCx.1], show nI S'.1 + Int32.ofInt 1 = nI (S'.1 + 1) from (nI_succ _).symm]
          exact fin (pg p) (if_pos (by omega))
      · rw [nI_leI (by omega) (by omega)] at h
        have hjk : j < kk := by omega
        refine ⟨rfl, n, s, pg, wt, hVτ, Or.inl ⟨p - kk + j, by omega, rfl, ?_⟩⟩
        ((conv => whnf); (try dsimp only))
        rw [show nI (ckey pg (p - kk) j) * (Int8.ofInt 10).toInt32 + nI (pg (p - kk + j)) = nI (ckey pg (p - kk) (j + 1)) from by
          rw [show nI (ckey pg (p - kk) j) * (Int8.ofInt 10).toInt32 = nI (ckey pg (p - kk) j * 10) from pk_mul _ 10, nI_add]; rfl]
        exact ⟨(3000 - p) * 10 + (kk - (j + 1)), by omega, p, S', hp, hg, hS', hF, hCx, Or.inr ⟨rfl, j + 1, rfl, hpe, by omega, by rw [← Nat.add_assoc, nI_succ (p - kk + j)]; rfl⟩⟩
