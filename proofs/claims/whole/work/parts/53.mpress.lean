/-! ===== the model: press ===== -/
theorem inL_start {n : Nat} {s pg wt : Nat → Nat} (hV : lpV0 n s wt) (hpg : ∀ j, j < s n → pg j < 10) (h : 0 < s n) : ∃ p, p < 10 ∧ 0 < inL n s pg 10 p := by
  have h2 := lpV0_tel hV n (Nat.le_refl _)
  rw [← h2] at h
  obtain ⟨v, h3, h4⟩ := lsum_pos h
  have hle := lpV0_le hV (show v + 1 ≤ n by omega) (Nat.le_refl n)
  have hz : ¬ s (v + 1) - s v = 0 := by omega
  refine ⟨pg (s v + 0), hpg _ (by omega), ?_⟩
  have a := lsum_mem (f := inV s pg 10 (pg (s v + 0))) h3
  have b : 0 < inV s pg 10 (pg (s v + 0)) v := by
    unfold inV
    rw [if_neg hz]
    have c := lsum_mem (f := fun i => if lfr s pg v i = 10 ∧ ltt s pg v i = pg (s v + 0) then 1 else 0) (show 0 < s (v + 1) - s v + 1 by omega)
    rw [if_pos ⟨if_pos rfl, if_pos (by omega)⟩] at c
    exact c
  exact Nat.lt_of_lt_of_le b a
theorem inL_some {n : Nat} {s pg wt : Nat → Nat} {f t : Nat} (hV : lpV0 n s wt) (h : 0 < inL n s pg f t) : 0 < s n := by
  obtain ⟨v, h1, h2⟩ := lsum_pos h
  have hz : ¬ s (v + 1) - s v = 0 := fun z => by unfold inV at h2; rw [if_pos z] at h2; omega
  have hle := lpV0_le hV (show v + 1 ≤ n by omega) (Nat.le_refl n)
  omega
theorem lp_mc_pos {c r : Nat} : 0 < lp_mc c r ↔ 0 < c := by
  unfold lp_mc
  split
  · omega
  · constructor
    · intro _; omega
    · intro _; omega
def sp_X7_press : lpS := fun as σ Q => match as with
  | [.inr (some (r, k)), .inl x, .inl y, .inl z] => r = 30 ∧ k = 0 ∧ ∃ Z, lpD σ Z ∧ ∀ τ, lpD τ (st_press x y z Z) → lpFM σ τ → Q (some (an_press x y z Z)) τ
  | _ => False
set_option maxHeartbeats 4000000 in
set_option maxRecDepth 100000 in
theorem ct_X7_press (l : Launch) (D : va_G) (cI cD : ClassId) : lp_Ct l D cI cD yX7_press cX7_press 9 (some .int) 3 sp_X7_press := by
  refine lp_method flX7 pfX7 kcX7 [(74, none, 3, sp_X7_in), (94, some 7, 2, sp_X7_countOf), (131, some 7, 1, sp_X7_walk), (134, some 7, 2, sp_X7_serve)] false kX7_press [38, 84, 94, 137, 193, 205, 314] rfl rfl (lp_rI rfl) flX7_ok pfX7_ok kcX7_ok kX7_press_ok ⟨_, _, rfl, rfl⟩ (lp_cs1 (lp_mkCall lkX7_74 (ct_X7_in l D cI cD) (by omega)) (lp_cs1 (lp_mkCall lkX7_94 (ct_X7_countOf l D cI cD) (by omega)) (lp_cs1 (lp_mkCall lkX7_131 (ct_X7_walk l D cI cD) (by omega)) (lp_cs1 (lp_mkCall lkX7_134 (ct_X7_serve l D cI cD) (by omega)) lp_cs0)))) ?_
  intro as σ Q hok hs
  rcases as with _ | ⟨_ | _ | ⟨r, k⟩, _ | ⟨x | _, _ | ⟨y | _, _ | ⟨z | _, _ | ⟨c, as⟩⟩⟩⟩⟩ <;> try exact (hs : False).elim
  obtain ⟨rfl, rfl, ⟨⟨n, s, pg, wt⟩, ⟨rr, co⟩, M, P, cm⟩, hD, hq⟩ := hs
  obtain ⟨hG, hR, hP⟩ := id hD
  dsimp only at hG hR hP
  obtain ⟨g0, g1, g2, hV, hpg⟩ := id hG
  dsimp only at g0 g1 g2 hV hpg
  unfold st_press an_press at hq
  dsimp only at hq
  have hn := hV.1
  refine ⟨by show 4 ≤ 9; omega, ?_⟩
  by_cases hin : ir1 x 60 ∧ ir y 100 ∧ ir1 z 8
  rotate_left
  · simp only [if_neg (show ¬ pr_ok x y z ((n, s, pg, wt), (rr, co), M, P, cm) from fun q => hin q.1)] at hq
    refine ⟨fun _ _ _ _ => False, ?_, fun _ _ _ _ hh => hh.elim⟩
    ((conv => whnf); (try dsimp only))
    refine lp_upto1 (n := 60) (by decide) ?_
    by_cases hx : ir1 x 60
    rotate_left
    · refine Or.inr ⟨fun v h1 hv e1 => hx (ir1_of e1 h1 hv (by omega)), ?_⟩
      ((conv => whnf); (try dsimp only))
      refine ⟨fun _ => ?_, fun q => absurd rfl q⟩
      ((conv => whnf); (try dsimp only))
      exact hq σ hD (lpFM_rf σ)
    refine Or.inl ⟨tn x, hx.2.1, hx.2.2, hx.1, ?_⟩
    ((conv => whnf); (try dsimp only))
    refine ⟨fun q => absurd q (by decide), fun _ => ?_⟩
    ((conv => whnf); (try dsimp only))
    refine lp_upto (n := 100) (by decide) ?_
    by_cases hy : ir y 100
    rotate_left
    · refine Or.inr ⟨fun v hv e1 => hy (ir_of e1 hv (by omega)), ?_⟩
      ((conv => whnf); (try dsimp only))
      refine ⟨fun _ => ?_, fun q => absurd rfl q⟩
      ((conv => whnf); (try dsimp only))
      exact hq σ hD (lpFM_rf σ)
    refine Or.inl ⟨tn y, hy.2, hy.1, ?_⟩
    ((conv => whnf); (try dsimp only))
    refine ⟨fun q => absurd q (by decide), fun _ => ?_⟩
    ((conv => whnf); (try dsimp only))
    refine lp_upto1 (n := 8) (by decide) ?_
    refine Or.inr ⟨fun v h1 hv e1 => hin ⟨hx, hy, ir1_of e1 h1 hv (by omega)⟩, ?_⟩
    ((conv => whnf); (try dsimp only))
    refine ⟨fun q => absurd rfl q, fun _ => ?_⟩
    ((conv => whnf); (try dsimp only))
    exact hq σ hD (lpFM_rf σ)
  obtain ⟨N, G, S, rfl, rfl, rfl, hN1, hN, hGb, hS⟩ : ∃ N G S : Nat, x = nI N ∧ y = nI G ∧ z = nI (S + 1) ∧ 1 ≤ N ∧ N ≤ 60 ∧ G ≤ 100 ∧ S < 8 := ⟨tn x, tn y, tn z - 1, hin.1.1, hin.2.1.1, by have h1 := hin.2.2.1; have h2 := hin.2.2.2.1; rw [show tn z - 1 + 1 = tn z by omega]; exact h1, hin.1.2.1, hin.1.2.2, hin.2.1.2, by have h1 := hin.2.2.2; omega⟩
  have eN : tn (nI N) = N := lp_clm (by omega)
  have eG : tn (nI G) = G := lp_clm (by omega)
  have eS : tn (nI (S + 1)) = S + 1 := lp_clm (by omega)
  obtain ⟨cnj, hcnj⟩ : ∃ cnj : Nat → Nat, cnj = fun j => lp_mc (lp_ctL (n, s, pg, wt) j) (rr j) := ⟨_, rfl⟩
  obtain ⟨cn, hcn⟩ : ∃ cn : Nat → Nat → Nat, cn = fun f t => lp_mc (lp_ctL (n, s, pg, wt) (f * 11 + t)) (rr (f * 11 + t)) := ⟨_, rfl⟩
  have hcb : ∀ j, j < 121 → cnj j ≤ 1260 := fun j hj => by
    rw [hcnj]
    have a := inL_le (pg := pg) hV (j / 11) (j % 11)
    have b := (hR.1 j hj).2
    show lp_mc (inL n s pg (j / 11) (j % 11)) (rr j) ≤ 1260
    unfold lp_mc
    split
    · omega
    · exact Nat.max_le.mpr ⟨a, by omega⟩
  generalize hFF : wks cn (lp_wcL (n, s, pg, wt)) N 0 (fun _ => 0) lp_W0 = FF
  have hprF : pr_F (n, s, pg, wt) rr N = FF := by rw [← hFF, hcn]; rfl
  have hbad : ¬ 0 < s n → ∀ τ, lpD τ ((n, s, pg, wt), (rr, co), M, P, cm) → lpFM σ τ → Q (some (-1)) τ := fun hz => by
    simp only [if_neg (show ¬ pr_ok (nI N) (nI G) (nI (S + 1)) ((n, s, pg, wt), (rr, co), M, P, cm) from fun q => hz q.2)] at hq
    exact hq
  have hgood : 0 < s n → ∀ τ, lpD τ ((n, s, pg, wt), (rr, co), (N, FF.1, FF.2.2.1, FF.2.2.2.1), svs FF.1 FF.2.2.2.1 (fun sl => co (FF.2.2.1 sl)) N (S + 1) (FF.1 N) (p0 FF.1 FF.2.2.2.1 G), FF.2.2.2.2.1) → lpFM σ τ → Q (some (nI (FF.1 N))) τ := fun hz => by
    simp only [if_pos (show pr_ok (nI N) (nI G) (nI (S + 1)) ((n, s, pg, wt), (rr, co), M, P, cm) from ⟨hin, hz⟩)] at hq
    rw [eN, eG, eS] at hq
    unfold pr_P pr_M at hq
    rw [hprF] at hq
    exact hq
  clear hq
  obtain ⟨J, hJ⟩ : ∃ J : Nat → lpM → Prop, J = fun j0 τ => (∀ r, ¬ (45 ≤ r ∧ r ≤ 48) → τ r = σ r) ∧ (∀ j, j < j0 → τ 45 0 j = nI 0 ∧ τ 47 0 j = nI (cnj j) ∧ ∀ w, w < 61 → τ 46 0 (61 * j + w) = nI 0 ∧ τ 48 0 (61 * j + w) = nI 0) := ⟨_, rfl⟩
  obtain ⟨K, hK⟩ : ∃ K : Nat → Nat → lpM → Prop, K = fun v i τ => (∀ r, ¬ (45 ≤ r ∧ r ≤ 48) → τ r = σ r) ∧ (∀ j, j < 121 → τ 45 0 j = nI 0 ∧ τ 47 0 j = nI (cnj j)) ∧ (∀ j, j < 121 → ∀ w, w < 61 → τ 46 0 (j * 61 + w) = nI 0 ∧ τ 48 0 (j * 61 + w) = nI (lsum (wV s pg wt (j / 11) (j % 11) w) v + lsum (lp_inw s pg wt (j / 11) (j % 11) w v) i)) := ⟨_, rfl⟩
  obtain ⟨Lab, hLab⟩ : ∃ Lab : Nat → Nat → lpL → lpM → Prop, Lab = fun m pc L τ =>
    ((pc = 38 ∧ ∃ (p : Nat) (b : Int32) (x6 x7 x8 : Option lpV), m = 1000000000 + (20 - p) ∧ p ≤ 10 ∧ σ = τ ∧ ((b = 1 ∧ ∃ p', p' < p ∧ 0 < inL n s pg 10 p') ∨ (b = 0 ∧ ∀ p', p' < p → ¬ 0 < inL n s pg 10 p')) ∧ L = [some (.inr (some (30, 0))), some (.inl (nI N)), some (.inl (nI G)), some (.inl (nI (S + 1))), some (.inl b), some (.inl (nI p)), x6, x7, x8]) ∨
    (pc = 84 ∧ 0 < s n ∧ ∃ (f : Nat) (x4 x6 x7 x8 : Option lpV), m = 100000000 + (11 - f) * 100000 + 50000 ∧ f ≤ 11 ∧ J (11 * f) τ ∧ L = [some (.inr (some (30, 0))), some (.inl (nI N)), some (.inl (nI G)), some (.inl (nI (S + 1))), x4, some (.inl (nI f)), x6, x7, x8]) ∨
    (pc = 94 ∧ 0 < s n ∧ ∃ (f t : Nat) (x4 x7 x8 : Option lpV), m = 100000000 + (11 - f) * 100000 + (12 - t) * 1000 + 500 ∧ f < 11 ∧ t ≤ 11 ∧ J (11 * f + t) τ ∧ L = [some (.inr (some (30, 0))), some (.inl (nI N)), some (.inl (nI G)), some (.inl (nI (S + 1))), x4, some (.inl (nI f)), some (.inl (nI t)), x7, x8]) ∨
    (pc = 137 ∧ 0 < s n ∧ ∃ (f t w : Nat) (x4 : Option lpV), m = 100000000 + (11 - f) * 100000 + (12 - t) * 1000 + (61 - w) ∧ f < 11 ∧ t < 11 ∧ w ≤ 61 ∧ J (11 * f + t) τ ∧ τ 45 0 (11 * f + t) = nI 0 ∧ τ 47 0 (11 * f + t) = nI (cnj (11 * f + t)) ∧ (∀ w', w' < w → τ 46 0 (61 * (11 * f + t) + w') = nI 0 ∧ τ 48 0 (61 * (11 * f + t) + w') = nI 0) ∧ L = [some (.inr (some (30, 0))), some (.inl (nI N)), some (.inl (nI G)), some (.inl (nI (S + 1))), x4, some (.inl (nI f)), some (.inl (nI t)), some (.inl (nI (11 * f + t))), some (.inl (nI w))]) ∨
    (pc = 193 ∧ 0 < s n ∧ ∃ (v : Nat) (x4 x6 x7 x8 : Option lpV), m = 10000000 + (n - v) * 100 + 50 ∧ v ≤ n ∧ K v 0 τ ∧ L = [some (.inr (some (30, 0))), some (.inl (nI N)), some (.inl (nI G)), some (.inl (nI (S + 1))), x4, some (.inl (nI v)), x6, x7, x8]) ∨
    (pc = 205 ∧ 0 < s n ∧ ∃ (v i : Nat) (x4 x7 x8 : Option lpV), m = 10000000 + (n - v) * 100 + (30 - i) ∧ v < n ∧ i ≤ s (v + 1) - s v ∧ K v i τ ∧ L = [some (.inr (some (30, 0))), some (.inl (nI N)), some (.inl (nI G)), some (.inl (nI (S + 1))), x4, some (.inl (nI v)), some (.inl (nI i)), x7, x8]) ∨
    (pc = 314 ∧ 0 < s n ∧ ∃ (v : Nat) (s' : Nat → Nat) (T : lpW) (x4 x6 x7 x8 : Option lpV), m = 100 - v ∧ v ≤ N ∧ wks cn (lp_wcL (n, s, pg, wt)) (N - v) v s' T = FF ∧ T.1 = s' v ∧ lpB (20 * v) T ∧ lp_MW τ cn (lp_wcL (n, s, pg, wt)) T.2.2.2.1 T.2.2.2.2 ∧ lp_MV τ v s' T.2.1 T.2.2.1 ∧ τ 30 0 9 = nI N ∧ τ 30 0 10 = nI (s' v) ∧ (∀ r, r ≠ 30 → ¬ (38 ≤ r ∧ r ≤ 40) → ¬ (45 ≤ r ∧ r ≤ 48) → τ r = σ r) ∧ (∀ j, j ≠ 9 → j ≠ 10 → τ 30 0 j = σ 30 0 j) ∧ L = [some (.inr (some (30, 0))), some (.inl (nI N)), some (.inl (nI G)), some (.inl (nI (S + 1))), x4, some (.inl (nI v)), x6, x7, x8])) := ⟨_, rfl⟩
  refine ⟨Lab, ?_, ?_⟩
  · ((conv => whnf); (try dsimp only))
    refine lp_upto1 (n := 60) (by decide) (Or.inl ⟨N, hN1, hN, rfl, ?_⟩)
    ((conv => whnf); (try dsimp only))
    refine ⟨fun q => absurd q (by decide), fun _ => ?_⟩
    ((conv => whnf); (try dsimp only))
    refine lp_upto (n := 100) (by decide) (Or.inl ⟨G, hGb, rfl, ?_⟩)
    ((conv => whnf); (try dsimp only))
    refine ⟨fun q => absurd q (by decide), fun _ => ?_⟩
    ((conv => whnf); (try dsimp only))
    refine lp_upto1 (n := 8) (by decide) (Or.inl ⟨S + 1, by omega, by omega, rfl, ?_⟩)
    ((conv => whnf); (try dsimp only))
    refine ⟨fun _ => ?_, fun q => absurd q (by decide)⟩
    ((conv => whnf); (try dsimp only))
    refine ⟨1000000000 + (20 - 0), ?_⟩
    rw [hLab]
    exact Or.inl ⟨rfl, 0, 0, none, none, none, rfl, by omega, rfl, Or.inr ⟨rfl, fun p' hp' => by omega⟩, rfl⟩
  · intro m pc L τ hh
    rw [hLab] at hh
    rcases hh with ⟨rfl, p, b, x6, x7, x8, rfl, hp, rfl, hb, rfl⟩ | ⟨rfl, h0, f, x4, x6, x7, x8, rfl, hf, hJ0, rfl⟩ | ⟨rfl, h0, f, t, x4, x7, x8, rfl, hf, ht, hJ0, rfl⟩ | ⟨rfl, h0, f, t, w, x4, rfl, hf, ht, hw, hJ0, j45, j47, jw, rfl⟩ | ⟨rfl, h0, v, x4, x6, x7, x8, rfl, hv, hK0, rfl⟩ | ⟨rfl, h0, v, i, x4, x7, x8, rfl, hv, hi, hK0, rfl⟩ | ⟨rfl, h0, v, s', T, x4, x6, x7, x8, rfl, hv, hwk, hT, hB, hW, hMV, t9, t10, hfr, hfr30, rfl⟩
    · -- is there a STEP from START
      ((conv => whnf); (try dsimp only))
      refine ⟨fun h => ?_, fun h => ?_⟩ <;> ((conv => whnf); (try dsimp only))
      · have h : 10 ≤ p := (nI_leI (a := 10) (by omega) (by omega)).mp h
        obtain rfl : p = 10 := by omega
        rcases hb with ⟨rfl, hb⟩ | ⟨rfl, hb⟩
        · refine ⟨fun _ => ?_, fun q => absurd q (by decide)⟩
          ((conv => whnf); (try dsimp only))
          have h0 : 0 < s n := by
            obtain ⟨p', -, h1⟩ := hb
            exact inL_some hV h1
          clear hb
          refine ⟨100000000 + (11 - 0) * 100000 + 50000, by omega, ?_⟩
          rw [hLab]
          refine Or.inr (Or.inl ⟨rfl, h0, 0, _, x6, x7, x8, rfl, by omega, ?_, rfl⟩)
          rw [hJ]
          exact ⟨fun _ _ => rfl, fun j hj => by omega⟩
        · refine ⟨fun q => absurd rfl q, fun _ => ?_⟩
          ((conv => whnf); (try dsimp only))
          refine hbad (fun h0 => ?_) σ hD (lpFM_rf σ)
          obtain ⟨p', h1, h2⟩ := inL_start hV hpg h0
          exact hb p' h1 h2
      · have h : ¬ 10 ≤ p := fun z => h ((nI_leI (a := 10) (by omega) (by omega)).mpr z)
        have hms : 1000000000 + (20 - (p + 1)) < 1000000000 + (20 - p) := by omega
        rcases hb with ⟨rfl, hb⟩ | ⟨rfl, hb⟩
        · refine ⟨fun _ => ?_, fun q => absurd q (by decide)⟩
          ((conv => whnf); (try dsimp only))
          refine ⟨1000000000 + (20 - (p + 1)), hms, ?_⟩
          rw [hLab]
          obtain ⟨p', h1, h2⟩ := hb
          exact Or.inl ⟨rfl, p + 1, 1, x6, x7, x8, rfl, by omega, rfl, Or.inl ⟨rfl, p', by omega, h2⟩, by rw [nI_succ p]; rfl⟩
        · refine ⟨fun q => absurd rfl q, fun _ => ?_⟩
          ((conv => whnf); (try dsimp only))
          refine ⟨rfl, rfl, (n, s, pg, wt), rr, co, 10, p, hG, hR, rfl, rfl, by omega, by omega, ?_⟩
          have hbd := hcb (10 * 11 + p) (by omega)
          rw [hcnj] at hbd
          dsimp only at hbd
          have hct : lp_ctL (n, s, pg, wt) (10 * 11 + p) = inL n s pg 10 p := by
            unfold lp_ctL
            dsimp only
            rw [show (10 * 11 + p) / 11 = 10 by omega, show (10 * 11 + p) % 11 = p by omega]
          have hpos := lp_mc_pos (c := lp_ctL (n, s, pg, wt) (10 * 11 + p)) (r := rr (10 * 11 + p))
          rw [hct] at hpos
          rw [hct] at hbd ⊢
          generalize lp_mc (inL n s pg 10 p) (rr (10 * 11 + p)) = c at hbd hpos ⊢
          ((conv => whnf); (try dsimp only))
          refine ⟨fun q => ?_, fun q => ?_⟩ <;> ((conv => whnf); (try dsimp only))
          · have hz : ¬ 0 < c := fun z => nI_nle z (by omega) q
            refine ⟨1000000000 + (20 - (p + 1)), hms, ?_⟩
            rw [hLab]
            refine Or.inl ⟨rfl, p + 1, 0, x6, x7, x8, rfl, by omega, rfl, Or.inr ⟨rfl, fun p' hp' => ?_⟩, by rw [nI_succ p]; rfl⟩
            by_cases e1 : p' = p
            · subst e1
              exact fun z => hz (hpos.mpr z)
            · exact hb p' (by omega)
          · have hz : 0 < c := by
              rcases Nat.eq_zero_or_pos c with z | z
              · rw [z] at q; exact absurd (by decide) q
              · exact z
            refine ⟨1000000000 + (20 - (p + 1)), hms, ?_⟩
            rw [hLab]
            exact Or.inl ⟨rfl, p + 1, 1, x6, x7, x8, rfl, by omega, rfl, Or.inl ⟨rfl, p, Nat.lt_succ_self p, hpos.mp hz⟩, by rw [nI_succ p]; rfl⟩
    · -- rows begun anew: places
      ((conv => whnf); (try dsimp only))
      refine ⟨fun h => ?_, fun h => ?_⟩ <;> ((conv => whnf); (try dsimp only))
      · have h : 11 ≤ f := (nI_leI (a := 11) (by omega) (by omega)).mp h
        obtain rfl : f = 11 := by omega
        refine ⟨10000000 + (n - 0) * 100 + 50, by omega, ?_⟩
        rw [hLab]
        refine Or.inr (Or.inr (Or.inr (Or.inr (Or.inl ⟨rfl, h0, 0, x4, x6, x7, x8, rfl, by omega, ?_, rfl⟩))))
        rw [hJ] at hJ0
        rw [hK]
        refine ⟨hJ0.1, fun j hj => ⟨(hJ0.2 j hj).1, (hJ0.2 j hj).2.1⟩, fun j hj w hw => ?_⟩
        have := (hJ0.2 j hj).2.2 w hw
        rw [Nat.mul_comm j 61]
        exact this
      · have h : ¬ 11 ≤ f := fun z => h ((nI_leI (a := 11) (by omega) (by omega)).mpr z)
        refine ⟨100000000 + (11 - f) * 100000 + (12 - 0) * 1000 + 500, by omega, ?_⟩
        rw [hLab]
        exact Or.inr (Or.inr (Or.inl ⟨rfl, h0, f, 0, x4, x7, x8, rfl, by omega, by omega, hJ0, rfl⟩))
    · ((conv => whnf); (try dsimp only))
      refine ⟨fun h => ?_, fun h => ?_⟩ <;> ((conv => whnf); (try dsimp only))
      · have h : 11 ≤ t := (nI_leI (a := 11) (by omega) (by omega)).mp h
        obtain rfl : t = 11 := by omega
        refine ⟨100000000 + (11 - (f + 1)) * 100000 + 50000, by omega, ?_⟩
        rw [hLab]
        exact Or.inr (Or.inl ⟨rfl, h0, f + 1, x4, some (.inl (nI 11)), x7, x8, rfl, by omega, hJ0, by rw [nI_succ f]; rfl⟩)
      · have h : ¬ 11 ≤ t := fun z => h ((nI_leI (a := 11) (by omega) (by omega)).mpr z)
        rw [hJ] at hJ0
        obtain ⟨j1, j2⟩ := hJ0
        rw [show (Int8.ofInt 11).toInt32 * nI f + nI t = nI (11 * f + t) from lp_ix]
        refine ⟨lp_vin (by omega) (by omega), ?_⟩
        rw [lp_clm (by omega)]
        ((conv => whnf); (try dsimp only))
        have r0 : ∀ r, ¬ (45 ≤ r ∧ r ≤ 48) → lp_w3 τ 45 0 (11 * f + t) (Int32.ofInt 0) r = σ r := fun r hr => by rw [lp_w3_r (by omega)]; exact j1 r hr
        refine ⟨rfl, rfl, (n, s, pg, wt), rr, co, f, t, MDg_congr hG (by rw [r0 30 (by omega)]) (fun r _ _ => r0 r (by omega)), MDr_congr hR (r0 34 (by omega)) (r0 35 (by omega)), rfl, rfl, by omega, by omega, ?_⟩
        have hcf : lp_mc (lp_ctL (n, s, pg, wt) (f * 11 + t)) (rr (f * 11 + t)) = cnj (11 * f + t) := by rw [hcnj, Nat.mul_comm f 11]
        rw [hcf]
        ((conv => whnf); (try dsimp only))
        refine ⟨lp_vin (by omega) (by omega), ?_⟩
        rw [lp_clm (by omega)]
        ((conv => whnf); (try dsimp only))
        refine ⟨100000000 + (11 - f) * 100000 + (12 - t) * 1000 + (61 - 0), by omega, ?_⟩
        rw [hLab]
        refine Or.inr (Or.inr (Or.inr (Or.inl ⟨rfl, h0, f, t, 0, x4, rfl, hf, by omega, by omega, ?_, ?_, ?_, fun w' hw' => by omega, rfl⟩)))
        · rw [hJ]
          refine ⟨fun r hr => by rw [lp_w3_r (by omega)]; exact r0 r hr, fun j hj => ?_⟩
          obtain ⟨a1, a2, a3⟩ := j2 j hj
          refine ⟨?_, ?_, fun w hw => ?_⟩
          · rw [lp_w3_r (by omega), lp_rd, if_neg (by omega)]; exact a1
          · rw [lp_rd, if_neg (by omega), lp_w3_r (by omega)]; exact a2
          · rw [lp_w3_r (by omega), lp_w3_r (by omega), lp_w3_r (by omega), lp_w3_r (by omega)]; exact a3 w hw
        · rw [lp_w3_r (by omega), lp_rd]; exact if_pos ⟨rfl, rfl, rfl⟩
        · rw [lp_rd]; exact if_pos ⟨rfl, rfl, rfl⟩
    · rw [hJ] at hJ0
      obtain ⟨j1, j2⟩ := hJ0
      ((conv => whnf); (try dsimp only))
      refine ⟨fun h => ?_, fun h => ?_⟩ <;> ((conv => whnf); (try dsimp only))
      · have h : 61 ≤ w := (nI_leI (a := 61) (by omega) (by omega)).mp h
        obtain rfl : w = 61 := by omega
        refine ⟨100000000 + (11 - f) * 100000 + (12 - (t + 1)) * 1000 + 500, by omega, ?_⟩
        rw [hLab]
        refine Or.inr (Or.inr (Or.inl ⟨rfl, h0, f, t + 1, x4, some (.inl (nI (11 * f + t))), some (.inl (nI 61)), rfl, hf, by omega, ?_, by rw [nI_succ t]; rfl⟩))
        rw [hJ]
        refine ⟨j1, fun j hj => ?_⟩
        by_cases e1 : j = 11 * f + t
        · subst e1
          exact ⟨j45, j47, jw⟩
        · exact j2 j (by omega)
      · have h : ¬ 61 ≤ w := fun z => h ((nI_leI (a := 61) (by omega) (by omega)).mpr z)
        rw [show (Int8.ofInt 61).toInt32 * nI (11 * f + t) + nI w = nI (61 * (11 * f + t) + w) from lp_ix]
        refine ⟨lp_vin (by omega) (by omega), ?_⟩
        rw [lp_clm (by omega)]
        ((conv => whnf); (try dsimp only))
        rw [show (Int8.ofInt 61).toInt32 * nI (11 * f + t) + nI w = nI (61 * (11 * f + t) + w) from lp_ix]
        refine ⟨lp_vin (by omega) (by omega), ?_⟩
        rw [lp_clm (by omega)]
        ((conv => whnf); (try dsimp only))
        refine ⟨100000000 + (11 - f) * 100000 + (12 - t) * 1000 + (61 - (w + 1)), by omega, ?_⟩
        rw [hLab]
        refine Or.inr (Or.inr (Or.inr (Or.inl ⟨rfl, h0, f, t, w + 1, x4, rfl, hf, ht, by omega, ?_, ?_, ?_, fun w' hw' => ?_, by rw [nI_succ w]; rfl⟩)))
        · rw [hJ]
          refine ⟨fun r hr => by rw [lp_w3_r (by omega), lp_w3_r (by omega)]; exact j1 r hr, fun j hj => ?_⟩
          obtain ⟨a1, a2, a3⟩ := j2 j hj
          refine ⟨by rw [lp_w3_r (by omega), lp_w3_r (by omega)]; exact a1, by rw [lp_w3_r (by omega), lp_w3_r (by omega)]; exact a2, fun w0 hw0 => ?_⟩
          obtain ⟨b1, b2⟩ := a3 w0 hw0
          refine ⟨?_, ?_⟩
          · rw [lp_w3_r (by omega), lp_rd, if_neg (by omega)]; exact b1
          · rw [lp_rd, if_neg (by omega), lp_w3_r (by omega)]; exact b2
        · rw [lp_w3_r (by omega), lp_w3_r (by omega)]; exact j45
        · rw [lp_w3_r (by omega), lp_w3_r (by omega)]; exact j47
        · by_cases e1 : w' = w
          · subst e1
            refine ⟨?_, ?_⟩
            · rw [lp_w3_r (by omega), lp_rd]; exact if_pos ⟨rfl, rfl, rfl⟩
            · rw [lp_rd]; exact if_pos ⟨rfl, rfl, rfl⟩
          · obtain ⟨b1, b2⟩ := jw w' (by omega)
            refine ⟨?_, ?_⟩
            · rw [lp_w3_r (by omega), lp_rd, if_neg (by omega)]; exact b1
            · rw [lp_rd, if_neg (by omega), lp_w3_r (by omega)]; exact b2
    · -- the WAITS of the LOG
      rw [hK] at hK0
      obtain ⟨k1, k2, k3⟩ := hK0
      have t0 : τ 30 0 0 = nI n := by rw [k1 30 (by omega)]; exact g0
      ((conv => whnf); (try dsimp only))
      rw [t0]
      refine ⟨fun h => ?_, fun h => ?_⟩ <;> ((conv => whnf); (try dsimp only))
      · rw [nI_leI (by omega) (by omega)] at h
        obtain rfl : v = n := by omega
        refine ⟨100 - 0, by omega, ?_⟩
        rw [hLab]
        refine Or.inr (Or.inr (Or.inr (Or.inr (Or.inr (Or.inr ⟨rfl, h0, 0, fun _ => 0, lp_W0, x4, x6, x7, x8, rfl, by omega, hFF, rfl, lpB_W0, ?_, ?_, ?_, ?_, ?_, ?_, rfl⟩)))))
        · refine ⟨fun f hf t ht => ?_, fun j hj w hw => ?_⟩
          · obtain ⟨a1, a2⟩ := k2 (11 * f + t) (by omega)
            rw [lp_w3_r (by omega), lp_w3_r (by omega), lp_w3_r (by omega), lp_w3_r (by omega)]
            refine ⟨?_, a1⟩
            rw [a2, hcnj, hcn, Nat.mul_comm 11 f]
          · obtain ⟨a1, a2⟩ := k3 j hj w hw
            rw [lp_w3_r (by omega), lp_w3_r (by omega), lp_w3_r (by omega), lp_w3_r (by omega)]
            exact ⟨a2, a1⟩
        · exact ⟨⟨by omega, rfl, fun u hu => by omega, fun j hj => absurd hj (by show ¬ j < 0; omega)⟩, fun j hj => absurd hj (by show ¬ j < 0; omega), fun u hu => by omega, fun u i hu => by omega⟩
        · rw [lp_rd, if_neg (by omega), lp_rd]; exact if_pos ⟨rfl, rfl, rfl⟩
        · rw [lp_rd]; exact if_pos ⟨rfl, rfl, rfl⟩
        · exact fun r h1 h2 h3 => by rw [lp_w3_r (by omega), lp_w3_r (by omega)]; exact k1 r h3
        · exact fun j h1 h2 => by rw [lp_rd, if_neg (by omega), lp_rd, if_neg (by omega), k1 30 (by omega)]
      · rw [nI_leI (by omega) (by omega)] at h
        refine ⟨10000000 + (n - v) * 100 + (30 - 0), by omega, ?_⟩
        rw [hLab]
        refine Or.inr (Or.inr (Or.inr (Or.inr (Or.inr (Or.inl ⟨rfl, h0, v, 0, x4, x7, x8, rfl, by omega, by omega, ?_, rfl⟩)))))
        rw [hK]
        exact ⟨k1, k2, k3⟩
    · rw [hK] at hK0
      obtain ⟨k1, k2, k3⟩ := hK0
      have hsv := hV.2.2.1 v hv
      have hsn := lpV0_le hV (show v + 1 ≤ n by omega) (Nat.le_refl n)
      ((conv => whnf); (try dsimp only))
      refine ⟨lp_vin (by omega) (by omega), ?_⟩
      rw [lp_clm (by omega), k1 31 (by omega), g1 v hv]
      ((conv => whnf); (try dsimp only))
      refine ⟨fun h => ?_, fun h => ?_⟩ <;> ((conv => whnf); (try dsimp only))
      · rw [nI_leI (by omega) (by omega)] at h
        obtain rfl : i = s (v + 1) - s v := by omega
        refine ⟨10000000 + (n - (v + 1)) * 100 + 50, by omega, ?_⟩
        rw [hLab]
        refine Or.inr (Or.inr (Or.inr (Or.inr (Or.inl ⟨rfl, h0, v + 1, x4, some (.inl (nI (s (v + 1) - s v))), x7, x8, rfl, by omega, ?_, by rw [nI_succ v]; rfl⟩))))
        rw [hK]
        exact ⟨k1, k2, k3⟩
      · rw [nI_leI (by omega) (by omega)] at h
        obtain ⟨m1, m2⟩ := g2 v i hv (by omega)
        have hp := hpg (s v + i) (by omega)
        have hwt := hV.2.2.2 (s v + i) (by omega)
        have hfl := lfr_le hV hpg hv (show i ≤ s (v + 1) - s v by omega)
        have e20 : (Int8.ofInt 20).toInt32 * nI v + nI i = nI (20 * v + i) := lp_ix
        have t32 : τ 32 0 (20 * v + i) = nI (pg (s v + i)) := by rw [k1 32 (by omega)]; exact m1
        have t33 : τ 33 0 (20 * v + i) = nI (wt (s v + i)) := by rw [k1 33 (by omega)]; exact m2
        have main : ∀ x7 : Option lpV, lp_ex Lab (10000000 + (n - v) * 100 + (30 - i)) 205 [some (.inr (some (30, 0))), some (.inl (nI N)), some (.inl (nI G)), some (.inl (nI (S + 1))), x4, some (.inl (nI v)), some (.inl (nI i + Int32.ofInt 1)), x7, x8] (lp_w3 τ 48 0 ((lfr s pg v i * 11 + pg (s v + i)) * 61 + wt (s v + i)) (nI (lsum (wV s pg wt (lfr s pg v i) (pg (s v + i)) (wt (s v + i))) v + lsum (lp_inw s pg wt (lfr s pg v i) (pg (s v + i)) (wt (s v + i)) v) i + 1))) := by
          intro x7
          refine ⟨10000000 + (n - v) * 100 + (30 - (i + 1)), by omega, ?_⟩
          rw [hLab]
          refine Or.inr (Or.inr (Or.inr (Or.inr (Or.inr (Or.inl ⟨rfl, h0, v, i + 1, x4, x7, x8, rfl, hv, by omega, ?_, by rw [nI_succ i]; rfl⟩)))))
          rw [hK]
          refine ⟨fun r hr => by rw [lp_w3_r (by omega)]; exact k1 r hr, fun j hj => by rw [lp_w3_r (by omega), lp_w3_r (by omega)]; exact k2 j hj, fun j hj w hw => ⟨by rw [lp_w3_r (by omega)]; exact (k3 j hj w hw).1, ?_⟩⟩
          rw [lp_rd, show lsum (lp_inw s pg wt (j / 11) (j % 11) w v) (i + 1) = lsum (lp_inw s pg wt (j / 11) (j % 11) w v) i + lp_inw s pg wt (j / 11) (j % 11) w v i from rfl]
          by_cases e1 : j = lfr s pg v i * 11 + pg (s v + i) ∧ w = wt (s v + i)
          · obtain ⟨rfl, rfl⟩ := e1
            rw [if_pos ⟨rfl, rfl, rfl⟩, show (lfr s pg v i * 11 + pg (s v + i)) / 11 = lfr s pg v i by omega, show (lfr s pg v i * 11 + pg (s v + i)) % 11 = pg (s v + i) by omega, show lp_inw s pg wt (lfr s pg v i) (pg (s v + i)) (wt (s v + i)) v i = 1 from if_pos ⟨rfl, rfl, rfl⟩]
            rfl
          · rw [if_neg (fun z => e1 (by omega)), show lp_inw s pg wt (j / 11) (j % 11) w v i = 0 from if_neg (fun z => e1 (by omega))]
            exact (k3 j hj w hw).2
        have k48 : τ 48 0 ((lfr s pg v i * 11 + pg (s v + i)) * 61 + wt (s v + i)) = nI (lsum (wV s pg wt (lfr s pg v i) (pg (s v + i)) (wt (s v + i))) v + lsum (lp_inw s pg wt (lfr s pg v i) (pg (s v + i)) (wt (s v + i)) v) i) := by
          have := (k3 (lfr s pg v i * 11 + pg (s v + i)) (by omega) (wt (s v + i)) (by omega)).2
          rw [show (lfr s pg v i * 11 + pg (s v + i)) / 11 = lfr s pg v i by omega, show (lfr s pg v i * 11 + pg (s v + i)) % 11 = pg (s v + i) by omega] at this
          exact this
        refine ⟨fun h3 => ?_, fun h3 => ?_⟩ <;> ((conv => whnf); (try dsimp only))
        · have hi0 : i ≠ 0 := fun z => h3 (by rw [z]; rfl)
          rw [e20, show nI (20 * v + i) - Int32.ofInt 1 = nI (20 * v + (i - 1)) from by rw [show 20 * v + (i - 1) = 20 * v + i - 1 by omega]; exact pk_sub (b := 1) (by omega)]
          refine ⟨lp_vin (by omega) (by omega), ?_⟩
          rw [lp_clm (by omega), k1 32 (by omega), (g2 v (i - 1) hv (by omega)).1]
          have elf : pg (s v + (i - 1)) = lfr s pg v i := by
            unfold lfr
            rw [if_neg hi0, show s v + i - 1 = s v + (i - 1) by omega]
          rw [elf]
          ((conv => whnf); (try dsimp only))
          rw [e20]
          refine ⟨lp_vin (by omega) (by omega), ?_⟩
          rw [lp_clm (by omega), t32]
          ((conv => whnf); (try dsimp only))
          rw [e20]
          refine ⟨lp_vin (by omega) (by omega), ?_⟩
          rw [lp_clm (by omega), t33]
          ((conv => whnf); (try dsimp only))
          rw [show ((Int8.ofInt 11).toInt32 * nI (lfr s pg v i) + nI (pg (s v + i))) * (Int8.ofInt 61).toInt32 + nI (wt (s v + i)) = nI ((lfr s pg v i * 11 + pg (s v + i)) * 61 + wt (s v + i)) from by
            rw [show (Int8.ofInt 11).toInt32 * nI (lfr s pg v i) + nI (pg (s v + i)) = nI (lfr s pg v i * 11 + pg (s v + i)) from by rw [Nat.mul_comm _ 11]; exact lp_ix, show nI (lfr s pg v i * 11 + pg (s v + i)) * (Int8.ofInt 61).toInt32 = nI ((lfr s pg v i * 11 + pg (s v + i)) * 61) from pk_mul _ 61, nI_add]]
          refine ⟨lp_vin (by omega) (by omega), ?_⟩
          rw [lp_clm (by omega), k48]
          ((conv => whnf); (try dsimp only))
          refine ⟨lp_vin (by omega) (by omega), ?_⟩
          rw [lp_clm (by omega), show nI (lsum (wV s pg wt (lfr s pg v i) (pg (s v + i)) (wt (s v + i))) v + lsum (lp_inw s pg wt (lfr s pg v i) (pg (s v + i)) (wt (s v + i)) v) i) + Int32.ofInt 1 = nI (lsum (wV s pg wt (lfr s pg v i) (pg (s v + i)) (wt (s v + i))) v + lsum (lp_inw s pg wt (lfr s pg v i) (pg (s v + i)) (wt (s v + i)) v) i + 1) from (nI_succ _).symm]
          ((conv => whnf); (try dsimp only))
          exact main _
        · have hi0 : i = 0 := lp_inj (by omega) (by omega) h3
          have elf : lfr s pg v i = 10 := if_pos hi0
          rw [e20]
          refine ⟨lp_vin (by omega) (by omega), ?_⟩
          rw [lp_clm (by omega), t32]
          ((conv => whnf); (try dsimp only))
          rw [e20]
          refine ⟨lp_vin (by omega) (by omega), ?_⟩
          rw [lp_clm (by omega), t33]
          ((conv => whnf); (try dsimp only))
          rw [show ((Int8.ofInt 11).toInt32 * (Int8.ofInt 10).toInt32 + nI (pg (s v + i))) * (Int8.ofInt 61).toInt32 + nI (wt (s v + i)) = nI ((lfr s pg v i * 11 + pg (s v + i)) * 61 + wt (s v + i)) from by
            rw [elf, show (Int8.ofInt 11).toInt32 * (Int8.ofInt 10).toInt32 + nI (pg (s v + i)) = nI (10 * 11 + pg (s v + i)) from lp_ix (a := 11) (v := 10), show nI (10 * 11 + pg (s v + i)) * (Int8.ofInt 61).toInt32 = nI ((10 * 11 + pg (s v + i)) * 61) from pk_mul _ 61, nI_add]]
          refine ⟨lp_vin (by omega) (by omega), ?_⟩
          rw [lp_clm (by omega), k48]
          ((conv => whnf); (try dsimp only))
          refine ⟨lp_vin (by omega) (by omega), ?_⟩
          rw [lp_clm (by omega), show nI (lsum (wV s pg wt (lfr s pg v i) (pg (s v + i)) (wt (s v + i))) v + lsum (lp_inw s pg wt (lfr s pg v i) (pg (s v + i)) (wt (s v + i)) v) i) + Int32.ofInt 1 = nI (lsum (wV s pg wt (lfr s pg v i) (pg (s v + i)) (wt (s v + i))) v + lsum (lp_inw s pg wt (lfr s pg v i) (pg (s v + i)) (wt (s v + i)) v) i + 1) from (nI_succ _).symm]
          ((conv => whnf); (try dsimp only))
          exact main _
    · -- the WALKS
      have hlpG : lpG cn (lp_wcL (n, s, pg, wt)) := by
        rw [hcn]
        exact lpG_log hV hpg (fun j hj => (hR.1 j hj).2) h0
      ((conv => whnf); (try dsimp only))
      refine ⟨fun h => ?_, fun h => ?_⟩ <;> ((conv => whnf); (try dsimp only))
      · rw [nI_leI (by omega) (by omega)] at h
        obtain rfl : v = N := by omega
        rw [Nat.sub_self] at hwk
        have hwk : (s', T) = FF := hwk
        subst hwk
        have hgd := hgood h0
        dsimp only at hgd
        refine ⟨rfl, rfl, v, G, S, s', T.2.1, T.2.2.1, co, rfl, rfl, hGb, hS, ?_, ?_, ?_, ?_, lp_MV_congr hMV (fun r _ _ => by rw [lp_w3_r (by omega), lp_w3_r (by omega)]), fun j hj => ?_, fun τ3 hMS hFS => ?_⟩
        · rw [lp_rd, if_neg (by omega), lp_rd, if_neg (by omega)]; exact t9
        · rw [lp_rd, if_neg (by omega), lp_rd, if_neg (by omega)]; exact t10
        · rw [lp_rd, if_neg (by omega), lp_rd]; exact if_pos ⟨rfl, rfl, rfl⟩
        · rw [lp_rd]; exact if_pos ⟨rfl, rfl, rfl⟩
        · rw [lp_w3_r (by omega), lp_w3_r (by omega), hfr 35 (by omega) (by omega) (by omega)]
          exact hR.2 j hj
        · have hMV' : lp_MV τ3 v s' T.2.1 T.2.2.1 := lp_MV_congr hMV (fun r _ _ => by rw [hFS.1 r (by omega) (by omega) (by omega) (by omega), lp_w3_r (by omega), lp_w3_r (by omega)])
          obtain ⟨hV', hpg', w1, w2⟩ := id hMV'
          obtain ⟨hPF, hend⟩ := lp_PF_svs (S := S) (G := G) (cst := fun sl => co (T.2.1 sl)) hV' hS hGb (fun sl hsl => (hR.2 _ (hpg' sl hsl)).2)
          generalize svs s' T.2.2.1 (fun sl => co (T.2.1 sl)) v (S + 1) (s' v) (p0 s' T.2.2.1 G) = P' at hMS hPF hend hgd
          have u30 : ∀ j, j ≠ 11 → j ≠ 12 → τ3 30 0 j = τ 30 0 j := fun j h1 h2 => by rw [hFS.2 j h1 h2, lp_rd, if_neg (by omega), lp_rd, if_neg (by omega)]
          have ur : ∀ r, r ≠ 30 → ¬ (41 ≤ r ∧ r ≤ 44) → r ≠ 49 → r ≠ 50 → τ3 r = τ r := fun r h1 h2 h3 h4 => by rw [hFS.1 r h1 h2 h3 h4, lp_w3_r (by omega), lp_w3_r (by omega)]
          ((conv => whnf); (try dsimp only))
          rw [u30 10 (by omega) (by omega), t10]
          refine hgd τ3 ⟨MDg_congr hG ?_ (fun r _ _ => ?_), MDr_congr hR ?_ ?_, ⟨?_, ?_, hMS.2.2.2.1, hMS.2.2.2.2⟩, w1, fun u i hu hi => ?_, hV', hpg', hPF, fun f hf t ht => ?_, fun z => ?_⟩ (fun r hr => ?_)
          · rw [u30 0 (by omega) (by omega), hfr30 0 (by omega) (by omega)]
          · rw [ur r (by omega) (by omega) (by omega) (by omega), hfr r (by omega) (by omega) (by omega)]
          · rw [ur 34 (by omega) (by omega) (by omega) (by omega), hfr 34 (by omega) (by omega) (by omega)]
          · rw [ur 35 (by omega) (by omega) (by omega) (by omega), hfr 35 (by omega) (by omega) (by omega)]
          · rw [u30 9 (by omega) (by omega)]; exact t9
          · rw [u30 10 (by omega) (by omega)]; exact t10
          · replace hu : u < v := hu
            replace hi : i < s' (u + 1) - s' u := hi
            have hm := hMS.2.2.1 u (s' u + i) hu (by omega) (by rw [hend u hu]; omega)
            rw [show s' u + i - s' u = i by omega] at hm
            exact ⟨(w2 u i hu hi).1, (w2 u i hu hi).2, hm⟩
          · rw [ur 45 (by omega) (by omega) (by omega) (by omega)]
            exact (hW.1 f hf t ht).2
          · replace z : v = 0 := z
            omega
          · rw [ur r (by omega) (by omega) (by omega) (by omega), hfr r (by omega) (by omega) (by omega)]
      · rw [nI_leI (by omega) (by omega)] at h
        refine ⟨rfl, rfl, cn, lp_wcL (n, s, pg, wt), s', v, 20 * v, T, rfl, by omega, hlpG, hW, hMV, hT, hB, by omega, fun τ' hW' hMV' hFW => ?_⟩
        have hkeep := wk_keep hlpG 20 10 (20 * v) T (by omega) hlpG.2.2.1 hB
        have e1 : nu s' (v + 1) (wk cn (lp_wcL (n, s, pg, wt)) 20 10 T).1 (v + 1) = (wk cn (lp_wcL (n, s, pg, wt)) 20 10 T).1 := nu_same _ _ _
        have e2 : nu s' (v + 1) (wk cn (lp_wcL (n, s, pg, wt)) 20 10 T).1 v = s' v := nu_ne (by omega)
        have u10 : τ' 30 0 10 = nI (s' v) := by rw [hFW 30 (by omega) (by omega) (by omega)]; exact t10
        have u38 : τ' 38 0 v = nI ((wk cn (lp_wcL (n, s, pg, wt)) 20 10 T).1 - s' v) := by
          rw [hMV'.2.2.1 v (by omega), e1, e2]
        ((conv => whnf); (try dsimp only))
        rw [u10]
        refine ⟨lp_vin (by omega) (by omega), ?_⟩
        rw [lp_clm (by omega), u38]
        ((conv => whnf); (try dsimp only))
        rw [nI_add, show s' v + ((wk cn (lp_wcL (n, s, pg, wt)) 20 10 T).1 - s' v) = (wk cn (lp_wcL (n, s, pg, wt)) 20 10 T).1 by have := hkeep.1; omega]
        refine ⟨100 - (v + 1), by omega, ?_⟩
        rw [hLab]
        refine Or.inr (Or.inr (Or.inr (Or.inr (Or.inr (Or.inr ⟨rfl, h0, v + 1, nu s' (v + 1) (wk cn (lp_wcL (n, s, pg, wt)) 20 10 T).1, wk cn (lp_wcL (n, s, pg, wt)) 20 10 T, x4, x6, x7, x8, rfl, by omega, ?_, e1.symm, lpB_mono hkeep.2.2.1 (by omega), ?_, ?_, ?_, ?_, ?_, ?_, by rw [nI_succ v]; rfl⟩)))))
        · rw [← hwk, show N - v = N - (v + 1) + 1 by omega]
          rfl
        · exact lp_MW_congr hW' (fun r _ _ => by rw [lp_w3_r (by omega)])
        · exact lp_MV_congr hMV' (fun r _ _ => by rw [lp_w3_r (by omega)])
        · rw [lp_rd, if_neg (by omega), hFW 30 (by omega) (by omega) (by omega)]; exact t9
        · rw [lp_rd, e1]; exact if_pos ⟨rfl, rfl, rfl⟩
        · exact fun r h1 h2 h3 => by rw [lp_w3_r (by omega), hFW r h2 (by omega) (by omega)]; exact hfr r h1 h2 h3
        · exact fun j h1 h2 => by rw [lp_rd, if_neg (by omega), hFW 30 (by omega) (by omega) (by omega)]; exact hfr30 j h1 h2
