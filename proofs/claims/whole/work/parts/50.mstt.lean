/-! ===== the model: contexts, states ===== -/
def sp_X7_contexts : lpS := fun as σ Q => match as with
  | [.inr (some (r, k)), .inl x] => r = 30 ∧ k = 0 ∧ ∃ Z, lpD σ Z ∧ ∀ τ, lpD τ Z → lpFM σ τ → Q (some (an_contexts x Z)) τ
  | _ => False
theorem lpFM_Fx {σ τ : lpM} (h : lp_Fx σ τ) : lpFM σ τ := fun r hr => h.1 r (by omega) (by omega) (by omega)
set_option maxHeartbeats 4000000 in
set_option maxRecDepth 100000 in
theorem ct_X7_contexts (l : Launch) (D : va_G) (cI cD : ClassId) : lp_Ct l D cI cD yX7_contexts cX7_contexts 2 (some .int) 2 sp_X7_contexts := by
  refine lp_method0 flX7 pfX7 kcX7 [(74, none, 3, sp_X7_in), (104, some 7, 1, sp_X7_findContexts)] false kX7_contexts rfl rfl (lp_rI rfl) flX7_ok pfX7_ok kcX7_ok kX7_contexts_ok ⟨_, _, rfl, rfl⟩ (lp_cs1 (lp_mkCall lkX7_74 (ct_X7_in l D cI cD) (by omega)) (lp_cs1 (lp_mkCall lkX7_104 (ct_X7_findContexts l D cI cD) (by omega)) lp_cs0)) ?_
  intro as σ Q hs
  rcases as with _ | ⟨_ | _ | ⟨r, k⟩, _ | ⟨x | _, _ | ⟨c, as⟩⟩⟩ <;> try exact (hs : False).elim
  obtain ⟨rfl, rfl, Z, hD, hq⟩ := hs
  unfold an_contexts at hq
  refine ⟨Nat.le_refl 2, ?_⟩
  ((conv => whnf); (try dsimp only))
  refine lp_upto1 (n := 4) (by decide) ?_
  by_cases hx : ir1 x 4
  rotate_left
  · simp only [if_neg hx] at hq
    refine Or.inr ⟨fun v h1 hv e1 => hx (ir1_of e1 h1 hv (by omega)), ?_⟩
    ((conv => whnf); (try dsimp only))
    refine ⟨fun q => absurd rfl q, fun _ => ?_⟩
    ((conv => whnf); (try dsimp only))
    exact hq σ hD (lpFM_rf σ)
  simp only [if_pos hx] at hq
  refine Or.inl ⟨tn x, hx.2.1, hx.2.2, hx.1, ?_⟩
  ((conv => whnf); (try dsimp only))
  refine ⟨fun _ => ?_, fun q => absurd q (by decide)⟩
  ((conv => whnf); (try dsimp only))
  refine ⟨rfl, rfl, Z.1, tn x, hD.1, hx.1, hx.2.1, hx.2.2, fun τ R key hF hRP hMx h8 hb => ?_⟩
  ((conv => whnf); (try dsimp only))
  rw [h8, hRP.1]
  exact hq τ (lp_Fx_D hD hF) (lpFM_Fx hF)
theorem lsum_single (x : Nat) : ∀ n, lsum (fun p => if x = p then 1 else 0) n = if x < n then 1 else 0
  | 0 => rfl
  | n + 1 => by
    show lsum (fun p => if x = p then 1 else 0) n + (if x = n then 1 else 0) = _
    rw [lsum_single x n]
    by_cases h1 : x < n
    · rw [if_pos h1, if_neg (by omega), if_pos (by omega)]
    · by_cases h2 : x = n
      · rw [if_neg h1, if_pos h2, if_pos (by omega)]
      · rw [if_neg h1, if_neg h2, if_neg (by omega)]
theorem ctot_sum (C : Nat → Nat) (m k : Nat) : lsum (fun p => occ C m (k * 11 + p)) 11 = ctot C m k := by
  show lsum (fun p => lsum (fun i => if C i = k * 11 + p then 1 else 0) m) 11 = _
  rw [lsum_comm (fun i p => if C i = k * 11 + p then 1 else 0) m 11]
  refine lsum_congr (fun i _ => ?_)
  by_cases h : C i / 11 = k
  · rw [if_pos h, lsum_congr (g := fun p => if C i % 11 = p then 1 else 0) (fun p hp => by
      by_cases z : C i = k * 11 + p
      · rw [if_pos z, if_pos (by omega)]
      · rw [if_neg z, if_neg (by omega)]), lsum_single, if_pos (by omega)]
  · rw [if_neg h]
    exact lsum_zero (fun p hp => if_neg (fun z => h (by omega)))
def sp_X7_all : lpS := fun as σ Q => match as with
  | [.inr (some (r, k)), .inl x] => r = 30 ∧ k = 0 ∧ ∃ (S : lpR) (R : Nat) (key : Nat → Nat) (a : Nat), lp_MDx σ S R key ∧ x = nI a ∧ a < R ∧ R ≤ 1200 ∧ Q (some (nI (ctot S.2 S.1 (key a)))) σ
  | _ => False
set_option maxHeartbeats 4000000 in
set_option maxRecDepth 100000 in
theorem ct_X7_all (l : Launch) (D : va_G) (cI cD : ClassId) : lp_Ct l D cI cD yX7_all cX7_all 4 (some .int) 0 sp_X7_all := by
  refine lp_method flX7 pfX7 kcX7 [] false kX7_all [4] rfl rfl (lp_rI rfl) flX7_ok pfX7_ok kcX7_ok kX7_all_ok ⟨_, _, rfl, rfl⟩ lp_cs0 ?_
  intro as σ Q hok hs
  rcases as with _ | ⟨_ | _ | ⟨r, k⟩, _ | ⟨x | _, _ | ⟨c, as⟩⟩⟩ <;> try exact (hs : False).elim
  obtain ⟨rfl, rfl, S, R, key, a, hM, rfl, ha, hR, hq⟩ := hs
  rw [← ctot_sum] at hq
  obtain ⟨Lab, hLab⟩ : ∃ Lab : Nat → Nat → lpL → lpM → Prop, Lab = fun m pc L τ => σ = τ ∧ pc = 4 ∧ ∃ p : Nat, m = 11 - p ∧ p ≤ 11 ∧ L = [some (.inr (some (30, 0))), some (.inl (nI a)), some (.inl (nI (lsum (fun p => occ S.2 S.1 (key a * 11 + p)) p))), some (.inl (nI p))] := ⟨_, rfl⟩
  refine ⟨by show 2 ≤ 4; omega, Lab, ?_, ?_⟩
  · ((conv => whnf); (try dsimp only))
    exact ⟨_, by rw [hLab]; exact ⟨rfl, rfl, 0, rfl, by omega, rfl⟩⟩
  · intro m pc L τ hh
    rw [hLab] at hh
    obtain ⟨rfl, rfl, p, rfl, hp, rfl⟩ := hh
    ((conv => whnf); (try dsimp only))
    refine ⟨fun h => ?_, fun h => ?_⟩ <;> ((conv => whnf); (try dsimp only))
    · have h : 11 ≤ p := (nI_leI (a := 11) (by omega) (by omega)).mp h
      obtain rfl : p = 11 := by omega
      exact hq
    · have h : ¬ 11 ≤ p := fun z => h ((nI_leI (a := 11) (by omega) (by omega)).mpr z)
      rw [show (Int8.ofInt 11).toInt32 * nI a + nI p = nI (11 * a + p) from lp_ix]
      refine ⟨lp_vin (by omega) (by omega), ?_⟩
      rw [lp_clm (by omega), hM.2 a p ha (by omega)]
      ((conv => whnf); (try dsimp only))
      refine ⟨11 - (p + 1), by omega, ?_⟩
      rw [hLab]
      refine ⟨rfl, rfl, p + 1, rfl, by omega, ?_⟩
      rw [show lsum (fun p => occ S.2 S.1 (key a * 11 + p)) (p + 1) = lsum (fun p => occ S.2 S.1 (key a * 11 + p)) p + occ S.2 S.1 (key a * 11 + p) from rfl, nI_add, nI_succ p]
      rfl
def sp_X7_areAlike : lpS := fun as σ Q => match as with
  | [.inr (some (r, k)), .inl x, .inl y] => r = 30 ∧ k = 0 ∧ ∃ (S : lpR) (R : Nat) (key : Nat → Nat) (a b : Nat), lp_MDx σ S R key ∧ x = nI a ∧ y = nI b ∧ a < R ∧ b < R ∧ R ≤ 1200 ∧ S.1 ≤ 1200 ∧ ((calk S.2 S.1 (key a) (key b) ∧ Q (some 1) σ) ∨ (¬ calk S.2 S.1 (key a) (key b) ∧ Q (some 0) σ))
  | _ => False
set_option maxHeartbeats 4000000 in
set_option maxRecDepth 100000 in
theorem ct_X7_areAlike (l : Launch) (D : va_G) (cI cD : ClassId) : lp_Ct l D cI cD yX7_areAlike cX7_areAlike 6 (some .boolean) 1 sp_X7_areAlike := by
  refine lp_method flX7 pfX7 kcX7 [(108, some 7, 1, sp_X7_all)] true kX7_areAlike [16] rfl rfl (lp_rB rfl) flX7_ok pfX7_ok kcX7_ok kX7_areAlike_ok ⟨_, _, rfl, rfl⟩ (lp_cs1 (lp_mkCall lkX7_108 (ct_X7_all l D cI cD) (by omega)) lp_cs0) ?_
  intro as σ Q hok hs
  rcases as with _ | ⟨_ | _ | ⟨r, k⟩, _ | ⟨x | _, _ | ⟨y | _, _ | ⟨c, as⟩⟩⟩⟩ <;> try exact (hs : False).elim
  obtain ⟨rfl, rfl, S, R, key, a, b, hM, rfl, rfl, ha, hb, hR, hS, hq⟩ := hs
  obtain ⟨Lab, hLab⟩ : ∃ Lab : Nat → Nat → lpL → lpM → Prop, Lab = fun m pc L τ => σ = τ ∧ pc = 16 ∧ ∃ p : Nat, m = 11 - p ∧ p ≤ 11 ∧ (∀ p', p' < p → occ S.2 S.1 (key a * 11 + p') * ctot S.2 S.1 (key b) = occ S.2 S.1 (key b * 11 + p') * ctot S.2 S.1 (key a)) ∧ L = [some (.inr (some (30, 0))), some (.inl (nI a)), some (.inl (nI b)), some (.inl (nI (ctot S.2 S.1 (key a)))), some (.inl (nI (ctot S.2 S.1 (key b)))), some (.inl (nI p))] := ⟨_, rfl⟩
  refine ⟨by show 3 ≤ 6; omega, Lab, ?_, ?_⟩
  · ((conv => whnf); (try dsimp only))
    refine ⟨rfl, rfl, S, R, key, a, hM, rfl, ha, hR, ?_⟩
    ((conv => whnf); (try dsimp only))
    refine ⟨rfl, rfl, S, R, key, b, hM, rfl, hb, hR, ?_⟩
    ((conv => whnf); (try dsimp only))
    exact ⟨_, by rw [hLab]; exact ⟨rfl, rfl, 0, rfl, by omega, fun p' hp' => by omega, rfl⟩⟩
  · intro m pc L τ hh
    rw [hLab] at hh
    obtain ⟨rfl, rfl, p, rfl, hp, hall, rfl⟩ := hh
    ((conv => whnf); (try dsimp only))
    refine ⟨fun h => ?_, fun h => ?_⟩ <;> ((conv => whnf); (try dsimp only))
    · have h : 11 ≤ p := (nI_leI (a := 11) (by omega) (by omega)).mp h
      obtain rfl : p = 11 := by omega
      refine ⟨Or.inr rfl, ?_⟩
      rcases hq with ⟨h1, hq⟩ | ⟨h1, hq⟩
      · exact hq
      · exact absurd hall h1
    · have h : ¬ 11 ≤ p := fun z => h ((nI_leI (a := 11) (by omega) (by omega)).mpr z)
      rw [show (Int8.ofInt 11).toInt32 * nI a + nI p = nI (11 * a + p) from lp_ix]
      refine ⟨lp_vin (by omega) (by omega), ?_⟩
      rw [lp_clm (by omega), hM.2 a p ha (by omega)]
      ((conv => whnf); (try dsimp only))
      rw [show (Int8.ofInt 11).toInt32 * nI b + nI p = nI (11 * b + p) from lp_ix]
      refine ⟨lp_vin (by omega) (by omega), ?_⟩
      rw [lp_clm (by omega), hM.2 b p hb (by omega)]
      ((conv => whnf); (try dsimp only))
      have o1 := occ_le (C := S.2) (c := key a * 11 + p) S.1
      have o2 := occ_le (C := S.2) (c := key b * 11 + p) S.1
      have o3 := ctot_le (C := S.2) (c := key a) S.1
      have o4 := ctot_le (C := S.2) (c := key b) S.1
      have m1 : occ S.2 S.1 (key a * 11 + p) * ctot S.2 S.1 (key b) ≤ 1200 * 1200 := Nat.mul_le_mul (by omega) (by omega)
      have m2 : occ S.2 S.1 (key b * 11 + p) * ctot S.2 S.1 (key a) ≤ 1200 * 1200 := Nat.mul_le_mul (by omega) (by omega)
      rw [pk_mul, pk_mul]
      refine ⟨fun q => ?_, fun q => ?_⟩ <;> ((conv => whnf); (try dsimp only))
      · have q := lp_inj (by omega) (by omega) q
        refine ⟨11 - (p + 1), by omega, ?_⟩
        rw [hLab]
        refine ⟨rfl, rfl, p + 1, rfl, by omega, fun p' hp' => ?_, by rw [nI_succ p]; rfl⟩
        by_cases e1 : p' = p
        · subst e1; exact q
        · exact hall p' (by omega)
      · refine ⟨Or.inl rfl, ?_⟩
        rcases hq with ⟨h1, hq⟩ | ⟨h1, hq⟩
        · exact absurd (by rw [h1 p (by omega)]) q
        · exact hq
def sp_X7_states : lpS := fun as σ Q => match as with
  | [.inr (some (r, k)), .inl x] => r = 30 ∧ k = 0 ∧ ∃ Z, lpD σ Z ∧ ∀ τ, lpD τ Z → lpFM σ τ → Q (some (an_states x Z)) τ
  | _ => False
set_option maxHeartbeats 4000000 in
set_option maxRecDepth 100000 in
theorem ct_X7_states (l : Launch) (D : va_G) (cI cD : ClassId) : lp_Ct l D cI cD yX7_states cX7_states 6 (some .int) 2 sp_X7_states := by
  refine lp_method flX7 pfX7 kcX7 [(74, none, 3, sp_X7_in), (104, some 7, 1, sp_X7_findContexts), (112, some 7, 2, sp_X7_areAlike)] false kX7_states [20, 34] rfl rfl (lp_rI rfl) flX7_ok pfX7_ok kcX7_ok kX7_states_ok ⟨_, _, rfl, rfl⟩ (lp_cs1 (lp_mkCall lkX7_74 (ct_X7_in l D cI cD) (by omega)) (lp_cs1 (lp_mkCall lkX7_104 (ct_X7_findContexts l D cI cD) (by omega)) (lp_cs1 (lp_mkCall lkX7_112 (ct_X7_areAlike l D cI cD) (by omega)) lp_cs0))) ?_
  intro as σ Q hok hs
  rcases as with _ | ⟨_ | _ | ⟨r, k⟩, _ | ⟨x | _, _ | ⟨c, as⟩⟩⟩ <;> try exact (hs : False).elim
  obtain ⟨rfl, rfl, Z, hD, hq⟩ := hs
  unfold an_states at hq
  generalize hS : gth Z.1.1 Z.1.2.1 Z.1.2.2.1 (tn x) = S at hq
  obtain ⟨Inv, hInv⟩ : ∃ Inv : lpM → Nat → (Nat → Nat) → Prop, Inv = fun τ R key => ir1 x 4 ∧ lp_Fx σ τ ∧ lp_RwP S R key ∧ lp_MDx τ S R key ∧ τ 30 0 8 = nI R ∧ S.1 ≤ 1200 := ⟨_, rfl⟩
  obtain ⟨Lab, hLab⟩ : ∃ Lab : Nat → Nat → lpL → lpM → Prop, Lab = fun m pc L τ => ∃ (R : Nat) (key : Nat → Nat), Inv τ R key ∧
    ((pc = 20 ∧ ∃ (a : Nat) (x4 x5 : Option lpV), m = (R - a) * 10000 + 5000 ∧ a ≤ R ∧ L = [some (.inr (some (30, 0))), some (.inl x), some (.inl (nI (dist 10000 (fun r => crep S.2 S.1 10000 (key r)) a))), some (.inl (nI a)), x4, x5]) ∨
    (pc = 34 ∧ ∃ (a b : Nat) (fr : Int32), m = (R - a) * 10000 + (a - b) ∧ a < R ∧ b ≤ a ∧ ((fr = 1 ∧ ∀ b', b' < b → ¬ calk S.2 S.1 (key a) (key b')) ∨ (fr = 0 ∧ ∃ b', b' < b ∧ calk S.2 S.1 (key a) (key b'))) ∧ L = [some (.inr (some (30, 0))), some (.inl x), some (.inl (nI (dist 10000 (fun r => crep S.2 S.1 10000 (key r)) a))), some (.inl (nI a)), some (.inl fr), some (.inl (nI b))])) := ⟨_, rfl⟩
  refine ⟨by show 2 ≤ 6; omega, Lab, ?_, ?_⟩
  · ((conv => whnf); (try dsimp only))
    refine lp_upto1 (n := 4) (by decide) ?_
    by_cases hx : ir1 x 4
    rotate_left
    · simp only [if_neg hx] at hq
      refine Or.inr ⟨fun v h1 hv e1 => hx (ir1_of e1 h1 hv (by omega)), ?_⟩
      ((conv => whnf); (try dsimp only))
      refine ⟨fun q => absurd rfl q, fun _ => ?_⟩
      ((conv => whnf); (try dsimp only))
      exact hq σ hD (lpFM_rf σ)
    refine Or.inl ⟨tn x, hx.2.1, hx.2.2, hx.1, ?_⟩
    ((conv => whnf); (try dsimp only))
    refine ⟨fun _ => ?_, fun q => absurd q (by decide)⟩
    ((conv => whnf); (try dsimp only))
    refine ⟨rfl, rfl, Z.1, tn x, hD.1, hx.1, hx.2.1, hx.2.2, fun τ R key hF hRP hMx h8 hb => ?_⟩
    rw [hS] at hRP hMx hb
    ((conv => whnf); (try dsimp only))
    refine ⟨(R - 0) * 10000 + 5000, ?_⟩
    rw [hLab]
    refine ⟨R, key, by rw [hInv]; exact ⟨hx, hF, hRP, hMx, h8, hb⟩, Or.inl ⟨rfl, 0, none, none, rfl, by omega, ?_⟩⟩
    rw [dist_0]
    rfl
  · intro m pc L τ hh
    rw [hLab] at hh
    obtain ⟨R, key, hI, hcase⟩ := hh
    have hI' := hI
    rw [hInv] at hI'
    obtain ⟨hx, hF, hRP, hMx, h8, hb⟩ := hI'
    have hRl := lp_RwP_le hRP
    have hpos : ∀ r, r < R → 0 < ctot S.2 S.1 (key r) := fun r hr => ctot_pos.mpr (hRP.2.1 r hr).2
    simp only [if_pos hx] at hq
    rcases hcase with ⟨rfl, a, x4, x5, rfl, ha, rfl⟩ | ⟨rfl, a, b, fr, rfl, ha, hba, hfr, rfl⟩
    · ((conv => whnf); (try dsimp only))
      rw [h8]
      refine ⟨fun h => ?_, fun h => ?_⟩ <;> ((conv => whnf); (try dsimp only))
      · rw [nI_leI (by omega) (by omega)] at h
        obtain rfl : a = R := by omega
        have e1 : dist 10000 (fun r => crep S.2 S.1 10000 (key r)) a = cstt S := by
          unfold cstt
          refine dist_congr (fun c => ⟨fun ⟨r, r1, r2⟩ => ?_, fun ⟨i, i1, i2⟩ => ?_⟩)
          · obtain ⟨-, i, i1, i2⟩ := hRP.2.1 r r1
            exact ⟨i, i1, by rw [i2]; exact r2⟩
          · obtain ⟨r, r1, r2⟩ := hRP.2.2.1 i i1
            exact ⟨r, r1, by rw [r2]; exact i2⟩
        rw [e1]
        exact hq τ (lp_Fx_D hD hF) (lpFM_Fx hF)
      · rw [nI_leI (by omega) (by omega)] at h
        refine ⟨(R - a) * 10000 + (a - 0), by omega, ?_⟩
        rw [hLab]
        exact ⟨R, key, hI, Or.inr ⟨rfl, a, 0, 1, rfl, by omega, by omega, Or.inl ⟨rfl, fun b' hb' => by omega⟩, rfl⟩⟩
    · have hdl := dist_le (N := 10000) (f := fun r => crep S.2 S.1 10000 (key r)) a
      have hiff : ∀ b', b' < a → (crep S.2 S.1 10000 (key b') = crep S.2 S.1 10000 (key a) ↔ calk S.2 S.1 (key a) (key b')) := fun b' hb' => by
        rw [crep_iff (hRP.2.1 b' (by omega)).1 (hpos b' (by omega)) (hRP.2.1 a ha).1 (hpos a ha)]
        exact ⟨calk_sy, calk_sy⟩
      ((conv => whnf); (try dsimp only))
      refine ⟨fun h => ?_, fun h => ?_⟩ <;> ((conv => whnf); (try dsimp only))
      · rw [nI_leI (by omega) (by omega)] at h
        obtain rfl : b = a := by omega
        have hms : (R - (b + 1)) * 10000 + 5000 < (R - b) * 10000 + (b - b) := by omega
        rcases hfr with ⟨rfl, hfr⟩ | ⟨rfl, hfr⟩
        · refine ⟨fun q => absurd q (by decide), fun _ => ?_⟩
          ((conv => whnf); (try dsimp only))
          refine ⟨(R - (b + 1)) * 10000 + 5000, hms, ?_⟩
          rw [hLab]
          refine ⟨R, key, hI, Or.inl ⟨rfl, b + 1, some (.inl 1), some (.inl (nI b)), rfl, by omega, ?_⟩⟩
          rw [dist_new (f := fun r => crep S.2 S.1 10000 (key r)) (m := b) (crep_lt (hRP.2.1 b ha).1 (hpos b ha)) (fun j hj z => hfr j hj ((hiff j hj).mp z)), nI_succ b, nI_succ (dist 10000 (fun r => crep S.2 S.1 10000 (key r)) b)]
          rfl
        · refine ⟨fun _ => ?_, fun q => absurd rfl q⟩
          ((conv => whnf); (try dsimp only))
          refine ⟨(R - (b + 1)) * 10000 + 5000, hms, ?_⟩
          rw [hLab]
          refine ⟨R, key, hI, Or.inl ⟨rfl, b + 1, some (.inl 0), some (.inl (nI b)), rfl, by clear hfr; omega, ?_⟩⟩
          obtain ⟨b', h1, h2⟩ := hfr
          rw [dist_old (f := fun r => crep S.2 S.1 10000 (key r)) (m := b) ⟨b', h1, (hiff b' h1).mpr h2⟩, nI_succ b]
          rw [show nI (dist 10000 (fun r => crep S.2 S.1 10000 (key r)) b) + Int32.ofInt 0 = nI (dist 10000 (fun r => crep S.2 S.1 10000 (key r)) b) from by
            have := nI_add (dist 10000 (fun r => crep S.2 S.1 10000 (key r)) b) 0
            exact this]
          rfl
      · rw [nI_leI (by omega) (by omega)] at h
        have hms : (R - a) * 10000 + (a - (b + 1)) < (R - a) * 10000 + (a - b) := by omega
        have hb1 : b + 1 ≤ a := by omega
        rcases hfr with ⟨rfl, hfr⟩ | ⟨rfl, hfr⟩
        · refine ⟨fun q => absurd q (by decide), fun _ => ?_⟩
          ((conv => whnf); (try dsimp only))
          refine ⟨rfl, rfl, S, R, key, a, b, hMx, rfl, rfl, ha, by omega, by omega, hb, ?_⟩
          by_cases hc : calk S.2 S.1 (key a) (key b)
          · refine Or.inl ⟨hc, ?_⟩
            ((conv => whnf); (try dsimp only))
            refine ⟨fun _ => ?_, fun q => absurd q (by decide)⟩
            ((conv => whnf); (try dsimp only))
            refine ⟨(R - a) * 10000 + (a - (b + 1)), hms, ?_⟩
            rw [hLab]
            exact ⟨R, key, hI, Or.inr ⟨rfl, a, b + 1, 0, rfl, ha, hb1, Or.inr ⟨rfl, b, Nat.lt_succ_self _, hc⟩, by rw [nI_succ b]; rfl⟩⟩
          · refine Or.inr ⟨hc, ?_⟩
            ((conv => whnf); (try dsimp only))
            refine ⟨fun q => absurd rfl q, fun _ => ?_⟩
            ((conv => whnf); (try dsimp only))
            refine ⟨(R - a) * 10000 + (a - (b + 1)), hms, ?_⟩
            rw [hLab]
            refine ⟨R, key, hI, Or.inr ⟨rfl, a, b + 1, 1, rfl, ha, hb1, Or.inl ⟨rfl, fun b' hb' => ?_⟩, by rw [nI_succ b]; rfl⟩⟩
            by_cases e1 : b' = b
            · subst e1; exact hc
            · exact hfr b' (by omega)
        · refine ⟨fun _ => ?_, fun q => absurd rfl q⟩
          ((conv => whnf); (try dsimp only))
          refine ⟨(R - a) * 10000 + (a - (b + 1)), hms, ?_⟩
          rw [hLab]
          obtain ⟨b', h1, h2⟩ := hfr
          exact ⟨R, key, hI, Or.inr ⟨rfl, a, b + 1, 0, rfl, ha, hb1, Or.inr ⟨rfl, b', Nat.lt_succ_of_lt h1, h2⟩, by rw [nI_succ b]; rfl⟩⟩
