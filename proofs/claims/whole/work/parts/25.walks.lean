/-! ===== Walker.dealWalks ===== -/
theorem lp_Mach_congr {σ τ : lpM} {ct rr : Nat → Nat} {wc : Nat → Nat → Nat} (h : lp_Mach σ ct rr wc) (h7 : τ 7 = σ 7) (h8 : τ 8 = σ 8) (h9 : τ 9 = σ 9) (h27 : ∀ k, k < 121 → τ 27 k = σ 27 k) : lp_Mach τ ct rr wc := by
  obtain ⟨a, b, c, d⟩ := h
  refine ⟨fun j hj => by rw [h7]; exact a j hj, fun j hj => by rw [h8]; exact b j hj, fun j hj hz => c j hj (by rw [← h9]; exact hz), fun j hj hz w hw => ?_⟩
  rw [h27 j hj]
  exact d j hj (by rw [← h9]; exact hz) w hw
def lp_F6 (σ τ : lpM) : Prop := (∀ r, r ≠ 2 → r ≠ 3 → r ≠ 4 → r ≠ 5 → r ≠ 27 → r ≠ 28 → τ r = σ r) ∧ (∀ r, r = 2 ∨ r = 3 ∨ r = 4 ∨ r = 5 → τ r 0 = σ r 0) ∧ (∀ k, k < 121 → τ 27 k = σ 27 k)
def lp_W0 : lpW := (0, fun _ => 0, fun _ => 0, fun _ _ => 0, fun _ _ => 0)
theorem lpB_W0 : lpB 0 lp_W0 := ⟨fun f => Nat.le_of_eq (lsum_zero (fun _ _ => rfl)), fun f => Nat.le_of_eq (lsum_zero (fun _ _ => rfl))⟩
def sp_X5_dealWalks : lpS := fun as σ Q => match as with
  | [.inr (some (r, k)), .inr (some (r1, k1)), .inr (some (r2, k2)), .inl x] => r = 16 ∧ k = 0 ∧ r1 = 6 ∧ k1 = 0 ∧ r2 = 2 ∧ k2 = 1 ∧ ∃ (ct rr : Nat → Nat) (wc : Nat → Nat → Nat) (N : Nat), x = nI N ∧ N ≤ 60 ∧ lp_Mach σ ct rr wc ∧ (∀ f, f < 11 → σ 17 0 f ≠ 0) ∧ σ 5 1 0 = nI 0 ∧ lpG (fun f t => lp_mc (ct (f * 11 + t)) (rr (f * 11 + t))) wc ∧
      ∀ τ, lp_Wk τ (fun f t => lp_mc (ct (f * 11 + t)) (rr (f * 11 + t))) wc (wks (fun f t => lp_mc (ct (f * 11 + t)) (rr (f * 11 + t))) wc N 0 (fun _ => 0) lp_W0).2.2.2.2.1 (wks (fun f t => lp_mc (ct (f * 11 + t)) (rr (f * 11 + t))) wc N 0 (fun _ => 0) lp_W0).2.2.2.2.2 →
        lp_Vis τ 1 N (wks (fun f t => lp_mc (ct (f * 11 + t)) (rr (f * 11 + t))) wc N 0 (fun _ => 0) lp_W0).1 (wks (fun f t => lp_mc (ct (f * 11 + t)) (rr (f * 11 + t))) wc N 0 (fun _ => 0) lp_W0).2.2.1 (wks (fun f t => lp_mc (ct (f * 11 + t)) (rr (f * 11 + t))) wc N 0 (fun _ => 0) lp_W0).2.2.2.1 → lp_F6 σ τ → Q none τ
  | _ => False
set_option maxHeartbeats 4000000 in
set_option maxRecDepth 100000 in
theorem ct_X5_dealWalks (l : Launch) (D : va_G) (cI cD : ClassId) : lp_Ct l D cI cD yX5_dealWalks cX5_dealWalks 6 none 5 sp_X5_dealWalks := by
  refine lp_method flX5 pfX5 kcX5 [(20, some 2, 0, sp_X2_beginWaitsAnew), (25, some 1, 0, sp_X1_beginAnew), (32, some 2, 2, sp_X2_countOf), (36, some 4, 0, sp_X4_empty), (41, some 4, 0, sp_X4_open), (45, some 5, 2, sp_X5_dealWalk)] false kX5_dealWalks [7, 27, 74] rfl rfl (lp_rV rfl) flX5_ok pfX5_ok kcX5_ok kX5_dealWalks_ok ⟨_, _, rfl, rfl⟩ (lp_cs1 (lp_mkCall lkX5_20 (ct_X2_beginWaitsAnew l D cI cD) (by omega)) (lp_cs1 (lp_mkCall lkX5_25 (ct_X1_beginAnew l D cI cD) (by omega)) (lp_cs1 (lp_mkCall lkX5_32 (ct_X2_countOf l D cI cD) (by omega)) (lp_cs1 (lp_mkCall lkX5_36 (ct_X4_empty l D cI cD) (by omega)) (lp_cs1 (lp_mkCall lkX5_41 (ct_X4_open l D cI cD) (by omega)) (lp_cs1 (lp_mkCall lkX5_45 (ct_X5_dealWalk l D cI cD) (by omega)) lp_cs0)))))) ?_
  intro as σ Q hok hs
  rcases as with _ | ⟨_ | _ | ⟨r, k⟩, _ | ⟨_ | _ | ⟨r1, k1⟩, _ | ⟨_ | _ | ⟨r2, k2⟩, _ | ⟨x | _, _ | ⟨c, as⟩⟩⟩⟩⟩ <;> try exact (hs : False).elim
  obtain ⟨rfl, rfl, rfl, rfl, rfl, rfl, ct, rr, wc, N, rfl, hN, hM, h17, h50, hG, hq⟩ := hs
  generalize hcn : (fun f t => lp_mc (ct (f * 11 + t)) (rr (f * 11 + t))) = cn at hG hq
  generalize hFF : wks cn wc N 0 (fun _ => 0) lp_W0 = FF at hq
  have hcn' : ∀ f t, lp_mc (ct (f * 11 + t)) (rr (f * 11 + t)) = cn f t := fun f t => by rw [← hcn]
  obtain ⟨J, hJ⟩ : ∃ J : Nat → Nat → lpM → Prop, J = fun f t τ => (∀ r, r ≠ 27 → r ≠ 28 → τ r = σ r) ∧ (∀ k, k < 121 → τ 27 k = σ 27 k) ∧ (∀ j, j < 121 → σ 9 0 j ≠ 0 → ∀ w, w < 61 → τ 28 j w = nI 0) ∧ (∀ f', f' < f → ∀ t, t < 11 → τ 27 (121 + f') t = nI (cn f' t) ∧ τ 28 (121 + f') t = nI 0) ∧ (∀ t', t' < t → τ 27 (121 + f) t' = nI (cn f t')) := ⟨_, rfl⟩
  refine ⟨by show 4 ≤ 6; omega, fun m pc L τ =>
    (pc = 7 ∧ ∃ (f : Nat) (x5 : Option lpV), m = 10000 + (11 - f) * 100 + 50 ∧ f ≤ 11 ∧ J f 0 τ ∧ L = [some (.inr (some (16, 0))), some (.inr (some (6, 0))), some (.inr (some (2, 1))), some (.inl (nI N)), some (.inl (nI f)), x5]) ∨
    (pc = 27 ∧ ∃ (f t : Nat), m = 10000 + (11 - f) * 100 + (11 - t) ∧ f < 11 ∧ t ≤ 11 ∧ J f t τ ∧ (∀ t, t < 11 → τ 28 (121 + f) t = nI 0) ∧ L = [some (.inr (some (16, 0))), some (.inr (some (6, 0))), some (.inr (some (2, 1))), some (.inl (nI N)), some (.inl (nI f)), some (.inl (nI t))]) ∨
    (pc = 74 ∧ ∃ (v : Nat) (x5 : Option lpV) (s : Nat → Nat) (S : lpW), m = N - v ∧ v ≤ N ∧ wks cn wc (N - v) v s S = FF ∧ S.1 = s v ∧ lpB (20 * v) S ∧ lp_Wk τ cn wc S.2.2.2.1 S.2.2.2.2 ∧ lp_Vis τ 1 v s S.2.1 S.2.2.1 ∧ lp_F6 σ τ ∧ L = [some (.inr (some (16, 0))), some (.inr (some (6, 0))), some (.inr (some (2, 1))), some (.inl (nI N)), some (.inl (nI v)), x5]), ?_, ?_⟩
  · ((conv => whnf); (try dsimp only))
    refine ⟨rfl, rfl, ?_⟩
    ((conv => whnf); (try dsimp only))
    refine ⟨_, Or.inl ⟨rfl, 0, none, rfl, by omega, ?_, rfl⟩⟩
    rw [hJ]
    refine ⟨fun r h27 h28 => ?_, fun k hk => ?_, fun j hj hz w hw => ?_, fun f' hf => absurd hf (by omega), fun t ht => absurd ht (by omega)⟩
    · funext k j; simp [lp_clr, h28]
    · funext j; simp [lp_clr]
    · simp [lp_clr, hj, hz, hw]
  · rintro m pc L τ (⟨rfl, f, x5, rfl, hf, hJ0, rfl⟩ | ⟨rfl, f, t, rfl, hf, ht, hJ0, h28, rfl⟩ | ⟨rfl, v, x5, s, S, rfl, hv, hwk, hS, hB, hW, hV, hF6, rfl⟩)
    · rw [hJ] at hJ0
      obtain ⟨j1, j2, j3, j4, j5⟩ := hJ0
      ((conv => whnf); (try dsimp only))
      refine ⟨fun h => ?_, fun h => ?_⟩ <;> ((conv => whnf); (try dsimp only))
      · have h : 11 ≤ f := (nI_leI (a := 11) (by omega) (by omega)).mp h
        obtain rfl : f = 11 := by omega
        refine ⟨rfl, ?_⟩
        ((conv => whnf); (try dsimp only))
        refine ⟨N - 0, by omega, Or.inr (Or.inr ⟨rfl, 0, x5, fun _ => 0, lp_W0, rfl, Nat.zero_le _, hFF, rfl, lpB_W0, ?_, ?_, ?_, rfl⟩)⟩
        · refine ⟨fun f hf => ?_, fun f hf t ht => ?_, fun j hj hz w hw => ?_, fun f t hf ht hc => ?_⟩
          · rw [lp_w3_ne (by omega), j1 17 (by omega) (by omega)]
            exact h17 f hf
          · rw [lp_w3_ne (by omega), lp_w3_ne (by omega)]
            exact j4 f hf t ht
          · rw [lp_w3_ne (by omega), j1 9 (by omega) (by omega)] at hz
            rw [lp_w3_ne (by omega), lp_w3_ne (by omega), j2 j hj]
            exact ⟨hM.2.2.2 j hj hz w hw, j3 j hj hz w hw⟩
          · rw [lp_w3_ne (by omega), j1 9 (by omega) (by omega)]
            intro hz
            have := (hG.2.2.2 f t hf ht hc).1
            rw [lsum_zero (fun w hw => hM.2.2.1 (f * 11 + t) (by omega) hz w hw)] at this
            omega
        · refine ⟨?_, by omega, fun x hx => ?_, rfl, fun x hx => absurd hx (by omega), fun j hj => absurd hj (by show ¬ j < 0; omega)⟩
          · rw [lp_w3_same]; exact pk_us
          · obtain rfl : x = 0 := by omega
            rw [lp_w3_ne (by omega), j1 5 (by omega) (by omega)]
            exact h50
        · refine ⟨fun r h2 h3 h4 h5 h27 h28 => ?_, fun r hr => ?_, fun k hk => ?_⟩
          · funext k
            rw [lp_w3_ne (by omega), j1 r h27 h28]
          · rw [lp_w3_ne (by omega), j1 r (by omega) (by omega)]
          · rw [lp_w3_ne (by omega)]; exact j2 k hk
      · have h : ¬ 11 ≤ f := fun z => h ((nI_leI (a := 11) (by omega) (by omega)).mpr z)
        refine ⟨lp_vin (by omega) (by omega), ?_⟩
        rw [lp_clm (by omega), j1 17 (by omega) (by omega)]
        refine ⟨fun q => absurd q (h17 f (by omega)), fun _ => ?_⟩
        ((conv => whnf); (try dsimp only))
        refine ⟨rfl, ?_⟩
        ((conv => whnf); (try dsimp only))
        have hd : lp_dl (121 + f) = 11 := if_neg (by omega)
        refine ⟨_, ?_, Or.inr (Or.inl ⟨rfl, f, 0, rfl, by omega, by omega, ?_, fun t ht => ?_, rfl⟩)⟩
        · omega
        · rw [hJ]
          refine ⟨fun r h27 h28 => ?_, fun k hk => ?_, fun j hj hz w hw => ?_, fun f' hf' t ht => ?_, fun t ht => absurd ht (by omega)⟩
          · rw [← j1 r h27 h28]
            simp [lp_fill, va_up, h28]
          · rw [← j2 k hk]
            simp [lp_fill, va_up]
          · rw [← j3 j hj hz w hw]
            simp [lp_fill, va_up, show ¬ j = 121 + f by omega]
          · have := j4 f' hf' t ht
            refine ⟨?_, ?_⟩
            · rw [← this.1]; simp [lp_fill, va_up]
            · rw [← this.2]; simp [lp_fill, va_up, show ¬ f' = f by omega]
        · simp [lp_fill, va_up, hd, ht]
    · rw [hJ] at hJ0
      obtain ⟨j1, j2, j3, j4, j5⟩ := hJ0
      have hd : lp_dl (121 + f) = 11 := if_neg (by omega)
      ((conv => whnf); (try dsimp only))
      refine ⟨fun h => ?_, fun h => ?_⟩ <;> ((conv => whnf); (try dsimp only))
      · have h : 11 ≤ t := (nI_leI (a := 11) (by omega) (by omega)).mp h
        obtain rfl : t = 11 := by omega
        refine ⟨_, ?_, Or.inl ⟨rfl, f + 1, some (.inl (nI 11)), rfl, by omega, ?_, by rw [nI_succ f]; rfl⟩⟩
        · omega
        · rw [hJ]
          refine ⟨j1, j2, j3, fun f' hf' t ht => ?_, fun t ht => absurd ht (by omega)⟩
          by_cases e : f' = f
          · subst e
            exact ⟨j5 t ht, h28 t ht⟩
          · exact j4 f' (by omega) t ht
      · have h : ¬ 11 ≤ t := fun z => h ((nI_leI (a := 11) (by omega) (by omega)).mpr z)
        refine ⟨lp_vin (by omega) (by omega), ?_⟩
        rw [lp_clm (by omega), j1 17 (by omega) (by omega)]
        refine ⟨fun q => absurd q (h17 f (by omega)), fun _ => ?_⟩
        ((conv => whnf); (try dsimp only))
        have hMτ : lp_Mach τ ct rr wc := lp_Mach_congr hM (j1 7 (by omega) (by omega)) (j1 8 (by omega) (by omega)) (j1 9 (by omega) (by omega)) j2
        refine ⟨rfl, rfl, ct, rr, wc, hMτ, Or.inl ⟨f, t, by omega, by omega, rfl, rfl, ?_⟩⟩
        ((conv => whnf); (try dsimp only))
        refine ⟨lp_vin (by rw [hd]; omega) (lp_dl_lt _), ?_⟩
        rw [lp_clm (by omega), hcn' f t]
        ((conv => whnf); (try dsimp only))
        refine ⟨_, ?_, Or.inr (Or.inl ⟨rfl, f, t + 1, rfl, by omega, by omega, ?_, fun t' ht' => ?_, by rw [nI_succ t]; rfl⟩)⟩
        · omega
        · rw [hJ]
          refine ⟨fun r h27 h28 => ?_, fun k hk => ?_, fun j hj hz w hw => ?_, fun f' hf' t' ht' => ?_, fun t' ht' => ?_⟩
          · funext k
            rw [lp_w3_ne (by omega), j1 r h27 h28]
          · rw [lp_w3_ne (by omega)]; exact j2 k hk
          · rw [lp_w3_ne (by omega)]; exact j3 j hj hz w hw
          · rw [lp_w3_ne (by omega), lp_w3_ne (by omega)]; exact j4 f' hf' t' ht'
          · rw [lp_w3_same]
            by_cases e : t' = t
            · subst e; exact pk_us
            · rw [pk_un e]; exact j5 t' (by omega)
        · rw [lp_w3_ne (by omega)]; exact h28 t' ht'
    · ((conv => whnf); (try dsimp only))
      refine ⟨fun h => ?_, fun h => ?_⟩ <;> ((conv => whnf); (try dsimp only))
      · rw [nI_leI (by omega) (by omega)] at h
        obtain rfl : v = N := by omega
        rw [Nat.sub_self] at hwk
        have hwk : (s, S) = FF := hwk
        subst hwk
        exact hq τ hW hV hF6
      · rw [nI_leI (by omega) (by omega)] at h
        have hVo := lp_Vis_open hV (by omega)
        refine ⟨rfl, v, s, S.2.1, S.2.2.1, hV, Or.inl ⟨by omega, ?_⟩⟩
        generalize hσ1 : lp_w3 (lp_w3 τ 5 1 (v + 1) (nI (s v))) 2 1 3 (nI (v + 1)) = σ1 at hVo ⊢
        ((conv => whnf); (try dsimp only))
        rw [← hS] at hVo
        have hWo : lp_Wk σ1 cn wc S.2.2.2.1 S.2.2.2.2 := by
          rw [← hσ1]
          exact lp_Wk_congr hW (by funext k; rw [lp_w3_ne (by omega), lp_w3_ne (by omega)]) (by funext k; rw [lp_w3_ne (by omega), lp_w3_ne (by omega)]) (by funext k; rw [lp_w3_ne (by omega), lp_w3_ne (by omega)]) (by funext k; rw [lp_w3_ne (by omega), lp_w3_ne (by omega)])
        refine ⟨rfl, rfl, rfl, rfl, rfl, rfl, cn, wc, s, v, 20 * v, S, hG, hWo, hVo, hS, hB, by omega, fun τ' hW' hV' hF' => ?_⟩
        ((conv => whnf); (try dsimp only))
        refine ⟨N - (v + 1), by omega, Or.inr (Or.inr ⟨rfl, v + 1, x5, nu s (v + 1) (wk cn wc 20 10 S).1, wk cn wc 20 10 S, rfl, by omega, ?_, (nu_same _ _ _).symm, ?_, hW', hV', ?_, by rw [nI_succ v]; rfl⟩)⟩
        · rw [← hwk, show N - v = N - (v + 1) + 1 by omega]
          rfl
        · exact lpB_mono ((wk_keep hG 20 10 (20 * v) S (by omega) hG.2.2.1 hB).2.2.1) (by omega)
        · refine ⟨fun r h2 h3 h4 h5 h27 h28 => ?_, fun r hr => ?_, fun k hk => ?_⟩
          · rw [hF'.1 r h3 h4 h5 h28, ← hσ1, ← hF6.1 r h2 h3 h4 h5 h27 h28]
            funext k
            rw [lp_w3_ne (by omega), lp_w3_ne (by omega)]
          · have e : σ1 r 0 = σ r 0 := by
              rw [← hσ1, lp_w3_ne (by omega), lp_w3_ne (by omega)]
              exact hF6.2.1 r hr
            rw [← e]
            rcases hr with rfl | rfl | rfl | rfl
            · rw [hF'.1 2 (by omega) (by omega) (by omega) (by omega)]
            · exact hF'.2.1
            · exact hF'.2.2.1
            · exact hF'.2.2.2
          · rw [hF'.1 27 (by omega) (by omega) (by omega) (by omega), ← hσ1, lp_w3_ne (by omega), lp_w3_ne (by omega)]
            exact hF6.2.2 k hk
