/-! ===== the model: behind, count, learn ===== -/
def sp_X7_behind : lpS := fun as σ Q => match as with
  | [.inr (some (r, k))] => r = 30 ∧ k = 0 ∧ ∃ Z, lpD σ Z ∧ Q (some (an_behind Z)) σ
  | _ => False
set_option maxHeartbeats 4000000 in
set_option maxRecDepth 100000 in
theorem ct_X7_behind (l : Launch) (D : va_G) (cI cD : ClassId) : lp_Ct l D cI cD yX7_behind cX7_behind 6 (some .int) 1 sp_X7_behind := by
  refine lp_method flX7 pfX7 kcX7 [(85, none, 2, sp_max)] false kX7_behind [13, 26, 68, 77, 93] rfl rfl (lp_rI rfl) flX7_ok pfX7_ok kcX7_ok kX7_behind_ok ⟨_, _, rfl, rfl⟩ (lp_cs1 (lp_mkMax lkX7_85 (by omega)) lp_cs0) ?_
  intro as σ Q hok hs
  rcases as with _ | ⟨_ | _ | ⟨r, k⟩, _ | ⟨c, as⟩⟩ <;> try exact (hs : False).elim
  obtain ⟨rfl, rfl, ⟨L0, C, ⟨N, s, pg, wt⟩, P, cm⟩, hD, hq⟩ := hs
  have hP := hD.2.2
  dsimp only at hP
  obtain ⟨⟨p0, -⟩, p1, p2, hV, -, hPF, -⟩ := id hP
  dsimp only at p0 p1 p2 hV hPF
  obtain ⟨f1, f2, f3, f4, f5, f6⟩ := hPF
  have hn := hV.1
  have hb := lpV0_1200 hV N (Nat.le_refl _)
  have b2 := f2 2
  have b3 := f2 3
  unfold an_behind at hq
  dsimp only at hq
  obtain ⟨ok1, hok1⟩ : ∃ ok1 : Nat → Nat → Prop, ok1 = fun c M => (∀ sl, sl < c → P 4 sl ≤ M) ∧ (M = 0 ∨ ∃ sl, sl < c ∧ P 4 sl = M) := ⟨_, rfl⟩
  obtain ⟨ok2, hok2⟩ : ∃ ok2 : Nat → Nat → Nat → Int32 → Prop, ok2 = fun c X x mo => P 7 3 ≤ x ∧ X ≤ P 7 2 ∧ ((mo = 0 ∧ x = X ∧ ∀ sl, sl < c → ¬ (x ≤ P 4 sl ∧ P 3 sl < x)) ∨ (mo = 1 ∧ x < X)) := ⟨_, rfl⟩
  obtain ⟨Lab, hLab⟩ : ∃ Lab : Nat → Nat → lpL → lpM → Prop, Lab = fun m pc L τ => σ = τ ∧ 0 < N ∧
    ((pc = 13 ∧ ∃ (v M : Nat) (x3 x4 x5 : Option lpV), m = 2 ^ 40 + ((N - v) * 100 + 50) ∧ v ≤ N ∧ ok1 (s v) M ∧ L = [some (.inr (some (30, 0))), some (.inl (nI M)), some (.inl (nI v)), x3, x4, x5]) ∨
    (pc = 26 ∧ ∃ (v i M : Nat) (x4 x5 : Option lpV), m = 2 ^ 40 + ((N - v) * 100 + (30 - i)) ∧ v < N ∧ i ≤ s (v + 1) - s v ∧ ok1 (s v + i) M ∧ L = [some (.inr (some (30, 0))), some (.inl (nI M)), some (.inl (nI v)), some (.inl (nI (20 * v + i))), x4, x5]) ∨
    (pc = 68 ∧ ∃ (x : Nat) (x4 x5 : Option lpV), m = (x + 1) * 10000 ∧ P 7 3 ≤ x ∧ x ≤ P 7 2 ∧ L = [some (.inr (some (30, 0))), some (.inl (nI (P 7 2))), some (.inl (nI x)), some (.inl 1), x4, x5]) ∨
    (pc = 68 ∧ ∃ (x : Nat) (x4 x5 : Option lpV), m = 0 ∧ P 7 3 ≤ x ∧ x ≤ P 7 2 ∧ (∀ sl, sl < s N → ¬ (x ≤ P 4 sl ∧ P 3 sl < x)) ∧ L = [some (.inr (some (30, 0))), some (.inl (nI (P 7 2))), some (.inl (nI x)), some (.inl 0), x4, x5]) ∨
    (pc = 77 ∧ ∃ (v X x : Nat) (mo : Int32) (x5 : Option lpV), m = X * 10000 + ((N - v) * 100 + 50) ∧ v ≤ N ∧ ok2 (s v) X x mo ∧ L = [some (.inr (some (30, 0))), some (.inl (nI (P 7 2))), some (.inl (nI x)), some (.inl mo), some (.inl (nI v)), x5]) ∨
    (pc = 93 ∧ ∃ (v i X x : Nat) (mo : Int32), m = X * 10000 + ((N - v) * 100 + (30 - i)) ∧ v < N ∧ i ≤ s (v + 1) - s v ∧ ok2 (s v + i) X x mo ∧ L = [some (.inr (some (30, 0))), some (.inl (nI (P 7 2))), some (.inl (nI x)), some (.inl mo), some (.inl (nI v)), some (.inl (nI (20 * v + i)))])) := ⟨_, rfl⟩
  refine ⟨by show 1 ≤ 6; omega, Lab, ?_, ?_⟩
  · ((conv => whnf); (try dsimp only))
    rw [p0]
    refine ⟨fun q => ?_, fun q => ?_⟩ <;> ((conv => whnf); (try dsimp only))
    · have hN : 0 < N := Nat.pos_of_ne_zero (fun z => q (by rw [z]; rfl))
      refine ⟨2 ^ 40 + ((N - 0) * 100 + 50), ?_⟩
      rw [hLab]
      refine ⟨rfl, hN, Or.inl ⟨rfl, 0, 0, none, none, none, rfl, by omega, ?_, rfl⟩⟩
      rw [hok1]
      refine ⟨fun sl hsl => ?_, Or.inl rfl⟩
      rw [hV.2.1] at hsl
      omega
    · have hN : N = 0 := lp_inj (by omega) (by omega) q
      have e0 : P 7 2 = 0 := by
        rcases Nat.eq_zero_or_pos (P 7 2) with z | z
        · exact z
        · obtain ⟨sl, h1, -⟩ := f6 (by omega)
          rw [hN, hV.2.1] at h1
          omega
      rw [if_neg (by omega)] at hq
      exact hq
  · intro m pc L τ hh
    rw [hLab] at hh
    obtain ⟨rfl, hN, ⟨rfl, v, M, x3, x4, x5, rfl, hv, hM, rfl⟩ | ⟨rfl, v, i, M, x4, x5, rfl, hv, hi, hM, rfl⟩ | ⟨rfl, x, x4, x5, rfl, hx1, hx2, rfl⟩ | ⟨rfl, x, x4, x5, rfl, hx1, hx2, hfx, rfl⟩ | ⟨rfl, v, X, x, mo, x5, rfl, hv, hO, rfl⟩ | ⟨rfl, v, i, X, x, mo, rfl, hv, hi, hO, rfl⟩⟩ := hh
    · ((conv => whnf); (try dsimp only))
      rw [p0]
      refine ⟨fun h => ?_, fun h => ?_⟩ <;> ((conv => whnf); (try dsimp only))
      · rw [nI_leI (by omega) (by omega)] at h
        obtain rfl : v = N := by omega
        rw [hok1] at hM
        have eM : M = P 7 2 := by
          obtain ⟨m1, m2⟩ := hM
          rcases Nat.eq_zero_or_pos (P 7 2) with z | z
          · rcases m2 with m2 | ⟨sl, h1, h2⟩
            · omega
            · have := (f4 sl h1).1; omega
          · obtain ⟨sl, h1, h2⟩ := f6 (by omega)
            have := m1 sl h1
            rcases m2 with m2 | ⟨sl', h3, h4⟩
            · omega
            · have := (f4 sl' h3).1; omega
        subst eM
        refine ⟨(P 7 2 + 1) * 10000, by omega, ?_⟩
        rw [hLab]
        exact ⟨rfl, hN, Or.inr (Or.inr (Or.inl ⟨rfl, P 7 2, x4, x5, rfl, f3, Nat.le_refl _, rfl⟩))⟩
      · rw [nI_leI (by omega) (by omega)] at h
        refine ⟨2 ^ 40 + ((N - v) * 100 + (30 - 0)), by omega, ?_⟩
        rw [hLab]
        refine ⟨rfl, hN, Or.inr (Or.inl ⟨rfl, v, 0, M, x4, x5, rfl, by omega, by omega, hM, ?_⟩)⟩
        rw [show (Int8.ofInt 20).toInt32 * nI v = nI (20 * v) from pk_mul 20 v]
        rfl
    · have hsv := hV.2.2.1 v hv
      have hsn := lpV0_le hV (show v + 1 ≤ N by omega) (Nat.le_refl N)
      ((conv => whnf); (try dsimp only))
      refine ⟨lp_vin (by omega) (by omega), ?_⟩
      rw [lp_clm (by omega), p1 v hv]
      ((conv => whnf); (try dsimp only))
      rw [show (Int8.ofInt 20).toInt32 * nI v + nI (s (v + 1) - s v) = nI (20 * v + (s (v + 1) - s v)) from lp_ix]
      refine ⟨fun h => ?_, fun h => ?_⟩ <;> ((conv => whnf); (try dsimp only))
      · rw [nI_leI (by omega) (by omega)] at h
        obtain rfl : i = s (v + 1) - s v := by omega
        refine ⟨2 ^ 40 + ((N - (v + 1)) * 100 + 50), by omega, ?_⟩
        rw [hLab]
        refine ⟨rfl, hN, Or.inl ⟨rfl, v + 1, M, some (.inl (nI (20 * v + (s (v + 1) - s v)))), x4, x5, rfl, by omega, ?_, ?_⟩⟩
        · rw [show s v + (s (v + 1) - s v) = s (v + 1) by omega] at hM
          exact hM
        · rw [nI_succ v]
          rfl
      · rw [nI_leI (by omega) (by omega)] at h
        obtain ⟨-, -, q3, q4, -, -⟩ := p2 v i hv (by omega)
        obtain ⟨g1, g2, g3, -⟩ := f1 (s v + i) (by omega)
        refine ⟨lp_vin (by omega) (by omega), ?_⟩
        rw [lp_clm (by omega), q4]
        ((conv => whnf); (try dsimp only))
        have hms : 2 ^ 40 + ((N - v) * 100 + (30 - (i + 1))) < 2 ^ 40 + ((N - v) * 100 + (30 - i)) := by omega
        have hi1 : i + 1 ≤ s (v + 1) - s v := by omega
        rw [hok1] at hM
        have hMb : M < 2 ^ 18 := by
          obtain ⟨-, z | ⟨sl, h1, h2⟩⟩ := hM
          · omega
          · have := f1 sl (by omega); omega
        refine ⟨2 ^ 40 + ((N - v) * 100 + (30 - (i + 1))), hms, ?_⟩
        rw [hLab]
        refine ⟨rfl, hN, Or.inr (Or.inl ⟨rfl, v, i + 1, max M (P 4 (s v + i)), x4, x5, rfl, hv, hi1, ?_, ?_⟩)⟩
        · rw [hok1]
          obtain ⟨hM1, hM2⟩ := hM
          refine ⟨fun sl hsl => ?_, ?_⟩
          · clear hM2
            by_cases e1 : sl = s v + i
            · subst e1; omega
            · have := hM1 sl (by omega); omega
          · by_cases e1 : M ≤ P 4 (s v + i)
            · clear hM2
              exact Or.inr ⟨s v + i, by omega, by omega⟩
            · rcases hM2 with z | ⟨sl, h1, h2⟩
              · omega
              · exact Or.inr ⟨sl, by omega, by omega⟩
        · clear hM
          rw [show 20 * v + (i + 1) = 20 * v + i + 1 from rfl, nI_succ (20 * v + i)]
          by_cases hlt : M < P 4 (s v + i)
          · rw [if_pos (nI_lt hlt (by omega)), Nat.max_eq_right (by omega)]
            rfl
          · rw [if_neg (fun z => hlt ((nI_ltI (by omega) (by omega)).mp z)), Nat.max_eq_left (by omega)]
            rfl
    · ((conv => whnf); (try dsimp only))
      refine ⟨fun q => absurd q (by decide), fun _ => ?_⟩
      ((conv => whnf); (try dsimp only))
      refine ⟨x * 10000 + ((N - 0) * 100 + 50), by omega, ?_⟩
      rw [hLab]
      refine ⟨rfl, hN, Or.inr (Or.inr (Or.inr (Or.inr (Or.inl ⟨rfl, 0, x, x, 0, x5, rfl, by omega, ?_, rfl⟩))))⟩
      rw [hok2]
      refine ⟨hx1, hx2, Or.inl ⟨rfl, rfl, fun sl hsl => ?_⟩⟩
      rw [hV.2.1] at hsl
      omega
    · ((conv => whnf); (try dsimp only))
      refine ⟨fun _ => ?_, fun q => absurd rfl q⟩
      have ex : x = P 7 3 := by
        rcases Nat.lt_or_ge (P 7 3) x with z | z
        · obtain ⟨sl, h1, h2, h3⟩ := f5 x z hx2
          exact absurd ⟨h2, h3⟩ (hfx sl h1)
        · omega
      subst ex
      ((conv => whnf); (try dsimp only))
      refine ⟨fun q => ?_, fun q => ?_⟩ <;> ((conv => whnf); (try dsimp only))
      · rw [if_pos (by have : ¬ P 7 3 = P 7 2 := fun z => q (by rw [z]); omega)] at hq
        exact hq
      · have := lp_inj (by omega) (by omega) q
        rw [if_neg (by omega)] at hq
        exact hq
    · ((conv => whnf); (try dsimp only))
      rw [p0]
      refine ⟨fun h => ?_, fun h => ?_⟩ <;> ((conv => whnf); (try dsimp only))
      · rw [nI_leI (by omega) (by omega)] at h
        obtain rfl : v = N := by omega
        rw [hok2] at hO
        obtain ⟨o1, o2, ⟨rfl, rfl, o3⟩ | ⟨rfl, o3⟩⟩ := hO
        · refine ⟨0, by omega, ?_⟩
          rw [hLab]
          exact ⟨rfl, hN, Or.inr (Or.inr (Or.inr (Or.inl ⟨rfl, x, some (.inl (nI v)), x5, rfl, o1, o2, o3, rfl⟩)))⟩
        · refine ⟨(x + 1) * 10000, by omega, ?_⟩
          rw [hLab]
          exact ⟨rfl, hN, Or.inr (Or.inr (Or.inl ⟨rfl, x, some (.inl (nI v)), x5, rfl, o1, by omega, rfl⟩))⟩
      · rw [nI_leI (by omega) (by omega)] at h
        refine ⟨X * 10000 + ((N - v) * 100 + (30 - 0)), by omega, ?_⟩
        rw [hLab]
        refine ⟨rfl, hN, Or.inr (Or.inr (Or.inr (Or.inr (Or.inr ⟨rfl, v, 0, X, x, mo, rfl, by omega, by omega, hO, ?_⟩))))⟩
        rw [show (Int8.ofInt 20).toInt32 * nI v = nI (20 * v) from pk_mul 20 v]
        rfl
    · have hsv := hV.2.2.1 v hv
      have hsn := lpV0_le hV (show v + 1 ≤ N by omega) (Nat.le_refl N)
      ((conv => whnf); (try dsimp only))
      refine ⟨lp_vin (by omega) (by omega), ?_⟩
      rw [lp_clm (by omega), p1 v hv]
      ((conv => whnf); (try dsimp only))
      rw [show (Int8.ofInt 20).toInt32 * nI v + nI (s (v + 1) - s v) = nI (20 * v + (s (v + 1) - s v)) from lp_ix]
      refine ⟨fun h => ?_, fun h => ?_⟩ <;> ((conv => whnf); (try dsimp only))
      · rw [nI_leI (by omega) (by omega)] at h
        obtain rfl : i = s (v + 1) - s v := by omega
        refine ⟨X * 10000 + ((N - (v + 1)) * 100 + 50), by omega, ?_⟩
        rw [hLab]
        refine ⟨rfl, hN, Or.inr (Or.inr (Or.inr (Or.inr (Or.inl ⟨rfl, v + 1, X, x, mo, some (.inl (nI (20 * v + (s (v + 1) - s v)))), rfl, by omega, ?_, ?_⟩))))⟩
        · rw [show s v + (s (v + 1) - s v) = s (v + 1) by omega] at hO
          exact hO
        · rw [nI_succ v]
          rfl
      · rw [nI_leI (by omega) (by omega)] at h
        obtain ⟨-, -, q3, q4, -, -⟩ := p2 v i hv (by omega)
        obtain ⟨g1, g2, g3, -⟩ := f1 (s v + i) (by omega)
        have g4 := f4 (s v + i) (by omega)
        rw [hok2] at hO
        have hXb : x < 2 ^ 18 := by
          obtain ⟨o1, o2, ⟨o3, o4, o5⟩ | ⟨o3, o4⟩⟩ := hO <;> omega
        have step : ∀ (x' : Nat) (mo' : Int32), ok2 (s v + (i + 1)) X x' mo' → lp_ex Lab (X * 10000 + ((N - v) * 100 + (30 - i))) 93 [some (.inr (some (30, 0))), some (.inl (nI (P 7 2))), some (.inl (nI x')), some (.inl mo'), some (.inl (nI v)), some (.inl (nI (20 * v + i) + Int32.ofInt 1))] σ := by
          intro x' mo' ho
          refine ⟨X * 10000 + ((N - v) * 100 + (30 - (i + 1))), by omega, ?_⟩
          rw [hLab]
          refine ⟨rfl, hN, Or.inr (Or.inr (Or.inr (Or.inr (Or.inr ⟨rfl, v, i + 1, X, x', mo', rfl, hv, by omega, ho, ?_⟩))))⟩
          rw [show 20 * v + (i + 1) = 20 * v + i + 1 from rfl, nI_succ (20 * v + i)]
          rfl
        have same : ¬ (x ≤ P 4 (s v + i) ∧ P 3 (s v + i) < x) → ok2 (s v + (i + 1)) X x mo := by
          intro hno
          rw [hok2]
          obtain ⟨o1, o2, ⟨o3, o4, o5⟩ | o3⟩ := hO
          · refine ⟨o1, o2, Or.inl ⟨o3, o4, fun sl hsl => ?_⟩⟩
            by_cases e1 : sl = s v + i
            · subst e1; exact hno
            · exact o5 sl (by omega)
          · exact ⟨o1, o2, Or.inr o3⟩
        refine ⟨lp_vin (by omega) (by omega), ?_⟩
        rw [lp_clm (by omega), q4]
        ((conv => whnf); (try dsimp only))
        refine ⟨fun h2 => ?_, fun h2 => ?_⟩ <;> ((conv => whnf); (try dsimp only))
        · rw [nI_ltI (by omega) (by omega)] at h2
          exact step x mo (same (by omega))
        · rw [nI_ltI (by omega) (by omega)] at h2
          refine ⟨lp_vin (by omega) (by omega), ?_⟩
          rw [lp_clm (by omega), q3]
          ((conv => whnf); (try dsimp only))
          refine ⟨fun h3 => ?_, fun h3 => ?_⟩ <;> ((conv => whnf); (try dsimp only))
          · rw [nI_leI (by omega) (by omega)] at h3
            exact step x mo (same (by omega))
          · rw [nI_leI (by omega) (by omega)] at h3
            refine ⟨lp_vin (by omega) (by omega), ?_⟩
            rw [lp_clm (by omega), q3]
            ((conv => whnf); (try dsimp only))
            refine step (P 3 (s v + i)) 1 ?_
            rw [hok2]
            obtain ⟨o1, o2, o3⟩ := hO
            refine ⟨g4.2 (by omega), o2, Or.inr ⟨rfl, ?_⟩⟩
            rcases o3 with ⟨-, o4, -⟩ | ⟨-, o4⟩ <;> omega
def sp_X7_count : lpS := fun as σ Q => match as with
  | [.inr (some (r, k)), .inl x] => r = 30 ∧ k = 0 ∧ ∃ Z, lpD σ Z ∧ Q (some (an_count x Z)) σ
  | _ => False
set_option maxHeartbeats 4000000 in
set_option maxRecDepth 100000 in
theorem ct_X7_count (l : Launch) (D : va_G) (cI cD : ClassId) : lp_Ct l D cI cD yX7_count cX7_count 6 (some .int) 2 sp_X7_count := by
  refine lp_method flX7 pfX7 kcX7 [(82, some 7, 2, sp_X7_inLog)] false kX7_count [7, 35, 51, 89] rfl rfl (lp_rI rfl) flX7_ok pfX7_ok kcX7_ok kX7_count_ok ⟨_, _, rfl, rfl⟩ (lp_cs1 (lp_mkCall lkX7_82 (ct_X7_inLog l D cI cD) (by omega)) lp_cs0) ?_
  intro as σ Q hok hs
  rcases as with _ | ⟨_ | _ | ⟨r, k⟩, _ | ⟨x | _, _ | ⟨c, as⟩⟩⟩ <;> try exact (hs : False).elim
  obtain ⟨rfl, rfl, ⟨⟨n, s, pg, wt⟩, C, M, P, cm⟩, ⟨hG, -, hP⟩, hq⟩ := hs
  obtain ⟨g0, g1, g2, hV, hpg⟩ := id hG
  dsimp only at g0 g1 g2 hV hpg hP
  unfold an_count at hq
  dsimp only at hq
  have hn := hV.1
  generalize hU : (fun j => if 0 < lp_ctL (n, s, pg, wt) j then 1 else 0) = U at hq
  have e6 : (x = (Int8.ofInt 6).toInt32) ↔ x = nI 6 := Iff.rfl
  obtain ⟨Lab, hLab⟩ : ∃ Lab : Nat → Nat → lpL → lpM → Prop, Lab = fun m pc L τ => σ = τ ∧
    ((pc = 7 ∧ ∃ (v : Nat) (x5 : Option lpV), m = 100000 + (n - v) ∧ v ≤ n ∧ L = [some (.inr (some (30, 0))), some (.inl x), some (.inl (nI (s v))), some (.inl (nI 0)), some (.inl (nI v)), x5]) ∨
    (pc = 35 ∧ ∃ (f : Nat) (x5 : Option lpV), m = 10 + (11 - f) * 100 + 50 ∧ f ≤ 11 ∧ (f ≠ 0 → x = nI 6) ∧ L = [some (.inr (some (30, 0))), some (.inl x), some (.inl (nI (s n))), some (.inl (nI (lsum U (f * 11)))), some (.inl (nI f)), x5]) ∨
    (pc = 51 ∧ x = nI 6 ∧ ∃ (f t : Nat), m = 10 + (11 - f) * 100 + (11 - t) ∧ f < 11 ∧ t ≤ 11 ∧ L = [some (.inr (some (30, 0))), some (.inl x), some (.inl (nI (s n))), some (.inl (nI (lsum U (f * 11 + t)))), some (.inl (nI f)), some (.inl (nI t))]) ∨
    (pc = 89 ∧ ∃ (u : Nat) (x4 x5 : Option lpV), m = 0 ∧ (x = nI 6 → u = lsum U 121) ∧ L = [some (.inr (some (30, 0))), some (.inl x), some (.inl (nI (s n))), some (.inl (nI u)), x4, x5])) := ⟨_, rfl⟩
  refine ⟨by show 2 ≤ 6; omega, Lab, ?_, ?_⟩
  · ((conv => whnf); (try dsimp only))
    refine ⟨100000 + (n - 0), ?_⟩
    rw [hLab]
    refine ⟨rfl, Or.inl ⟨rfl, 0, none, rfl, by omega, ?_⟩⟩
    rw [hV.2.1]
    rfl
  · intro m pc L τ hh
    rw [hLab] at hh
    obtain ⟨rfl, ⟨rfl, v, x5, rfl, hv, rfl⟩ | ⟨rfl, f, x5, rfl, hf, h6, rfl⟩ | ⟨rfl, h6, f, t, rfl, hf, ht, rfl⟩ | ⟨rfl, u, x4, x5, rfl, hu, rfl⟩⟩ := hh
    · ((conv => whnf); (try dsimp only))
      rw [g0]
      refine ⟨fun h => ?_, fun h => ?_⟩ <;> ((conv => whnf); (try dsimp only))
      · rw [nI_leI (by omega) (by omega)] at h
        obtain rfl : v = n := by omega
        refine ⟨10 + (11 - 0) * 100 + 50, by omega, ?_⟩
        rw [hLab]
        exact ⟨rfl, Or.inr (Or.inl ⟨rfl, 0, x5, rfl, by omega, fun z => absurd rfl z, rfl⟩)⟩
      · rw [nI_leI (by omega) (by omega)] at h
        have hsv := hV.2.2.1 v (by omega)
        refine ⟨lp_vin (by omega) (by omega), ?_⟩
        rw [lp_clm (by omega), g1 v (by omega)]
        ((conv => whnf); (try dsimp only))
        refine ⟨100000 + (n - (v + 1)), by omega, ?_⟩
        rw [hLab]
        refine ⟨rfl, Or.inl ⟨rfl, v + 1, x5, rfl, by omega, ?_⟩⟩
        rw [nI_add, show s v + (s (v + 1) - s v) = s (v + 1) by omega, nI_succ v]
        rfl
    · ((conv => whnf); (try dsimp only))
      refine ⟨fun h => ?_, fun h => ?_⟩ <;> ((conv => whnf); (try dsimp only))
      · have h : 11 ≤ f := (nI_leI (a := 11) (by omega) (by omega)).mp h
        obtain rfl : f = 11 := by omega
        refine ⟨0, by omega, ?_⟩
        rw [hLab]
        exact ⟨rfl, Or.inr (Or.inr (Or.inr ⟨rfl, lsum U 121, _, x5, rfl, fun _ => rfl, rfl⟩))⟩
      · have h : ¬ 11 ≤ f := fun z => h ((nI_leI (a := 11) (by omega) (by omega)).mpr z)
        refine ⟨fun q => ?_, fun q => ?_⟩ <;> ((conv => whnf); (try dsimp only))
        · refine ⟨0, by omega, ?_⟩
          rw [hLab]
          exact ⟨rfl, Or.inr (Or.inr (Or.inr ⟨rfl, lsum U (f * 11), _, x5, rfl, fun z => absurd z q, rfl⟩))⟩
        · refine ⟨10 + (11 - f) * 100 + (11 - 0), by omega, ?_⟩
          rw [hLab]
          exact ⟨rfl, Or.inr (Or.inr (Or.inl ⟨rfl, q, f, 0, rfl, by omega, by omega, rfl⟩))⟩
    · ((conv => whnf); (try dsimp only))
      refine ⟨fun h => ?_, fun h => ?_⟩ <;> ((conv => whnf); (try dsimp only))
      · have h : 11 ≤ t := (nI_leI (a := 11) (by omega) (by omega)).mp h
        obtain rfl : t = 11 := by omega
        refine ⟨10 + (11 - (f + 1)) * 100 + 50, by omega, ?_⟩
        rw [hLab]
        refine ⟨rfl, Or.inr (Or.inl ⟨rfl, f + 1, some (.inl (nI 11)), rfl, by omega, fun _ => h6, ?_⟩)⟩
        rw [show (f + 1) * 11 = f * 11 + 11 by omega, nI_succ f]
        rfl
      · have h : ¬ 11 ≤ t := fun z => h ((nI_leI (a := 11) (by omega) (by omega)).mpr z)
        refine ⟨rfl, rfl, _, f, t, hG, rfl, rfl, by omega, by omega, ?_⟩
        have hb := inL_le (pg := pg) hV f t
        have eU : U (f * 11 + t) = if 0 < inL n s pg f t then 1 else 0 := by
          rw [← hU]
          unfold lp_ctL
          dsimp only
          rw [show (f * 11 + t) / 11 = f by omega, show (f * 11 + t) % 11 = t by omega]
        have step : ∀ b : Nat, U (f * 11 + t) = b → lp_ex Lab (10 + (11 - f) * 100 + (11 - t)) 51 [some (.inr (some (30, 0))), some (.inl x), some (.inl (nI (s n))), some (.inl (nI (lsum U (f * 11 + t)) + nI b)), some (.inl (nI f)), some (.inl (nI t + Int32.ofInt 1))] σ := by
          intro b hb
          refine ⟨10 + (11 - f) * 100 + (11 - (t + 1)), by omega, ?_⟩
          rw [hLab]
          refine ⟨rfl, Or.inr (Or.inr (Or.inl ⟨rfl, h6, f, t + 1, rfl, hf, by omega, ?_⟩))⟩
          rw [show lsum U (f * 11 + (t + 1)) = lsum U (f * 11 + t) + U (f * 11 + t) from rfl, hb, nI_add, nI_succ t]
          rfl
        ((conv => whnf); (try dsimp only))
        refine ⟨fun q => ?_, fun q => ?_⟩ <;> ((conv => whnf); (try dsimp only))
        · refine step 0 ?_
          rw [eU]
          refine if_neg (fun z => ?_)
          exact absurd q (nI_nle z (by omega))
        · refine step 1 ?_
          rw [eU]
          refine if_pos ?_
          rcases Nat.eq_zero_or_pos (inL n s pg f t) with z | z
          · exfalso
            apply q
            show nI (inL n s pg f t) ≤ 0
            rw [z]
            decide
          · exact z
    · ((conv => whnf); (try dsimp only))
      refine ⟨fun z => ?_, fun z => ?_, fun z => ?_, fun z => ?_, fun z => ?_, fun z => ?_, fun z => ?_, fun z => ?_, trivial⟩ <;> ((conv => whnf); (try dsimp only))
      · rw [lp_tv7_out z] at hq
        exact hq
      · have z : x = nI 0 := (lp_ti (c := 0) (by omega)).mp z
        subst z
        rw [g0]
        exact hq
      · have z : x = nI 1 := (lp_ti (c := 1) (by omega)).mp z
        subst z
        exact hq
      · have z : x = nI 2 := (lp_ti (c := 2) (by omega)).mp z
        subst z
        rw [hP.1.1]
        exact hq
      · have z : x = nI 3 := (lp_ti (c := 3) (by omega)).mp z
        subst z
        rw [hP.1.2.1]
        exact hq
      · have z : x = nI 4 := (lp_ti (c := 4) (by omega)).mp z
        subst z
        rw [hP.1.2.2.1]
        exact hq
      · have z : x = nI 5 := (lp_ti (c := 5) (by omega)).mp z
        subst z
        rw [hP.1.2.2.2]
        exact hq
      · have z : x = nI 6 := (lp_ti (c := 6) (by omega)).mp z
        rw [hu z]
        subst z
        exact hq
def sp_X7_learn : lpS := fun as σ Q => match as with
  | [.inr (some (r, k))] => r = 30 ∧ k = 0 ∧ ∃ Z, lpD σ Z ∧ ∀ τ, lpD τ (st_learn Z) → lpFM σ τ → Q (some (an_learn Z)) τ
  | _ => False
set_option maxHeartbeats 4000000 in
set_option maxRecDepth 100000 in
theorem ct_X7_learn (l : Launch) (D : va_G) (cI cD : ClassId) : lp_Ct l D cI cD yX7_learn cX7_learn 3 (some .int) 0 sp_X7_learn := by
  refine lp_method flX7 pfX7 kcX7 [] false kX7_learn [19, 41] rfl rfl (lp_rI rfl) flX7_ok pfX7_ok kcX7_ok kX7_learn_ok ⟨_, _, rfl, rfl⟩ lp_cs0 ?_
  intro as σ Q hok hs
  rcases as with _ | ⟨_ | _ | ⟨r, k⟩, _ | ⟨c, as⟩⟩ <;> try exact (hs : False).elim
  obtain ⟨rfl, rfl, ⟨L0, RC, ⟨N, s, pg, wt⟩, P, cm⟩, hD, hq⟩ := hs
  obtain ⟨hG, hR, hP⟩ := id hD
  dsimp only at hR hP
  obtain ⟨⟨p0, pa, -, -⟩, p1, p2, hV, hpg, -⟩ := id hP
  dsimp only at p0 pa p1 p2 hV hpg
  unfold st_learn an_learn at hq
  dsimp only at hq
  have hn := hV.1
  obtain ⟨Inv, hInv⟩ : ∃ Inv : Nat → Nat → Nat → lpM → Prop, Inv = fun u v i τ => (∀ r, ¬ (30 ≤ r ∧ r ≤ 33) → τ r = σ r) ∧ (∀ j, j ≠ 0 → τ 30 0 j = σ 30 0 j) ∧ τ 30 0 0 = nI N ∧ (∀ w, w < u → τ 31 0 w = nI (s (w + 1) - s w)) ∧ (∀ w j, w ≤ v → (w < v → j < s (w + 1) - s w) → (w = v → j < i) → τ 32 0 (20 * w + j) = nI (pg (s w + j)) ∧ τ 33 0 (20 * w + j) = nI (wt (s w + j))) := ⟨_, rfl⟩
  obtain ⟨Lab, hLab⟩ : ∃ Lab : Nat → Nat → lpL → lpM → Prop, Lab = fun m pc L τ => 0 < N ∧
    ((pc = 19 ∧ ∃ (v : Nat) (x2 : Option lpV), m = (N - v) * 100 + 50 ∧ v ≤ N ∧ Inv v v 0 τ ∧ L = [some (.inr (some (30, 0))), some (.inl (nI v)), x2]) ∨
    (pc = 41 ∧ ∃ (v i : Nat), m = (N - v) * 100 + (30 - i) ∧ v < N ∧ i ≤ s (v + 1) - s v ∧ Inv (v + 1) v i τ ∧ L = [some (.inr (some (30, 0))), some (.inl (nI v)), some (.inl (nI i))])) := ⟨_, rfl⟩
  refine ⟨by show 1 ≤ 3; omega, Lab, ?_, ?_⟩
  · ((conv => whnf); (try dsimp only))
    rw [p0]
    refine ⟨fun q => ?_, fun q => ?_⟩ <;> ((conv => whnf); (try dsimp only))
    · have hN : 0 < N := Nat.pos_of_ne_zero (fun z => q (by rw [z]; rfl))
      rw [p0]
      refine ⟨(N - 0) * 100 + 50, ?_⟩
      rw [hLab]
      refine ⟨hN, Or.inl ⟨rfl, 0, none, rfl, by omega, ?_, rfl⟩⟩
      rw [hInv]
      refine ⟨fun r hr => by rw [lp_w3_r (by omega)], fun j hj => by rw [lp_rd, if_neg (by omega)], by rw [lp_rd]; exact if_pos ⟨rfl, rfl, rfl⟩, fun w hw => by omega, fun w j h1 h2 h3 => ?_⟩
      have := h3 (by omega)
      omega
    · have hN : N = 0 := lp_inj (by omega) (by omega) q
      simp only [if_pos hN] at hq
      exact hq σ hD (lpFM_rf σ)
  · intro m pc L τ hh
    rw [hLab] at hh
    obtain ⟨hN, ⟨rfl, v, x2, rfl, hv, hI, rfl⟩ | ⟨rfl, v, i, rfl, hv, hi, hI, rfl⟩⟩ := hh
    · rw [hInv] at hI
      obtain ⟨i1, i2, i3, i4, i5⟩ := hI
      have t9 : τ 30 0 9 = nI N := by rw [i2 9 (by omega)]; exact p0
      ((conv => whnf); (try dsimp only))
      rw [t9]
      refine ⟨fun h => ?_, fun h => ?_⟩ <;> ((conv => whnf); (try dsimp only))
      · rw [nI_leI (by omega) (by omega)] at h
        obtain rfl : v = N := by omega
        simp only [if_neg (show ¬ v = 0 by omega)] at hq
        rw [i2 10 (by omega), pa]
        exact hq τ ⟨⟨i3, i4, fun w j hw hj => i5 w j (by exact Nat.le_of_lt hw) (fun _ => hj) (fun z => by have hw : w < v := hw; omega), hV, hpg⟩, MDr_congr hR (i1 34 (by omega)) (i1 35 (by omega)), MDp_congr hP (fun j _ _ => i2 j (by omega)) (fun r _ _ => i1 r (by omega))⟩ (fun r hr => i1 r (by omega))
      · rw [nI_leI (by omega) (by omega)] at h
        have hsv := hV.2.2.1 v (by omega)
        refine ⟨lp_vin (by omega) (by omega), ?_⟩
        rw [lp_clm (by omega), i1 38 (by omega), p1 v (by omega)]
        ((conv => whnf); (try dsimp only))
        refine ⟨lp_vin (by omega) (by omega), ?_⟩
        rw [lp_clm (by omega)]
        ((conv => whnf); (try dsimp only))
        refine ⟨(N - v) * 100 + (30 - 0), by omega, ?_⟩
        rw [hLab]
        refine ⟨hN, Or.inr ⟨rfl, v, 0, rfl, by omega, by omega, ?_, rfl⟩⟩
        rw [hInv]
        refine ⟨fun r hr => by rw [lp_w3_r (by omega)]; exact i1 r hr, fun j hj => by rw [lp_w3_r (by omega)]; exact i2 j hj, by rw [lp_w3_r (by omega)]; exact i3, fun w hw => ?_, fun w j h1 h2 h3 => ?_⟩
        · rw [lp_rd]
          by_cases e1 : w = v
          · subst e1
            rw [if_pos ⟨rfl, rfl, rfl⟩]
          · rw [if_neg (fun z => e1 z.2.2)]
            exact i4 w (by omega)
        · rw [lp_w3_r (by omega), lp_w3_r (by omega)]
          exact i5 w j h1 h2 h3
    · rw [hInv] at hI
      obtain ⟨i1, i2, i3, i4, i5⟩ := hI
      have hsv := hV.2.2.1 v hv
      have hsn := lpV0_le hV (show v + 1 ≤ N by omega) (Nat.le_refl N)
      ((conv => whnf); (try dsimp only))
      refine ⟨lp_vin (by omega) (by omega), ?_⟩
      rw [lp_clm (by omega), i1 38 (by omega), p1 v hv]
      ((conv => whnf); (try dsimp only))
      refine ⟨fun h => ?_, fun h => ?_⟩ <;> ((conv => whnf); (try dsimp only))
      · rw [nI_leI (by omega) (by omega)] at h
        obtain rfl : i = s (v + 1) - s v := by omega
        refine ⟨(N - (v + 1)) * 100 + 50, by omega, ?_⟩
        rw [hLab]
        refine ⟨hN, Or.inl ⟨rfl, v + 1, some (.inl (nI (s (v + 1) - s v))), rfl, by omega, ?_, by rw [nI_succ v]; rfl⟩⟩
        rw [hInv]
        refine ⟨i1, i2, i3, i4, fun w j h1 h2 h3 => ?_⟩
        by_cases e1 : w = v + 1
        · have := h3 e1; omega
        · exact i5 w j (by omega) (fun z => h2 (by omega)) (fun z => by have := h2 (by omega); rw [z] at this; exact this)
      · rw [nI_leI (by omega) (by omega)] at h
        obtain ⟨q1, q2, -⟩ := p2 v i hv (by omega)
        have e20 : (Int8.ofInt 20).toInt32 * nI v + nI i = nI (20 * v + i) := lp_ix
        rw [e20]
        refine ⟨lp_vin (by omega) (by omega), ?_⟩
        rw [lp_clm (by omega), i1 39 (by omega), q1]
        ((conv => whnf); (try dsimp only))
        refine ⟨lp_vin (by omega) (by omega), ?_⟩
        rw [lp_clm (by omega)]
        ((conv => whnf); (try dsimp only))
        rw [e20]
        refine ⟨lp_vin (by omega) (by omega), ?_⟩
        have e40 : lp_w3 τ 32 0 (20 * v + i) (nI (pg (s v + i))) 40 0 (20 * v + i) = nI (wt (s v + i)) := by
          rw [lp_w3_r (by omega), i1 40 (by omega)]; exact q2
        rw [lp_clm (by omega), e40]
        ((conv => whnf); (try dsimp only))
        refine ⟨lp_vin (by omega) (by omega), ?_⟩
        rw [lp_clm (by omega)]
        ((conv => whnf); (try dsimp only))
        refine ⟨(N - v) * 100 + (30 - (i + 1)), by omega, ?_⟩
        rw [hLab]
        refine ⟨hN, Or.inr ⟨rfl, v, i + 1, rfl, hv, by omega, ?_, by rw [nI_succ i]; rfl⟩⟩
        rw [hInv]
        refine ⟨fun r hr => by rw [lp_w3_r (by omega), lp_w3_r (by omega)]; exact i1 r hr, fun j hj => by rw [lp_w3_r (by omega), lp_w3_r (by omega)]; exact i2 j hj, by rw [lp_w3_r (by omega), lp_w3_r (by omega)]; exact i3, fun w hw => by rw [lp_w3_r (by omega), lp_w3_r (by omega)]; exact i4 w hw, fun w j h1 h2 h3 => ?_⟩
        have r1 : lp_w3 (lp_w3 τ 32 0 (20 * v + i) (nI (pg (s v + i)))) 33 0 (20 * v + i) (nI (wt (s v + i))) 32 0 (20 * w + j) = if 20 * w + j = 20 * v + i then nI (pg (s v + i)) else τ 32 0 (20 * w + j) := by
          rw [lp_w3_r (by omega), lp_rd]
          simp
        have r2 : lp_w3 (lp_w3 τ 32 0 (20 * v + i) (nI (pg (s v + i)))) 33 0 (20 * v + i) (nI (wt (s v + i))) 33 0 (20 * w + j) = if 20 * w + j = 20 * v + i then nI (wt (s v + i)) else τ 33 0 (20 * w + j) := by
          rw [lp_rd, lp_w3_r (by omega)]
          simp
        rw [r1, r2]
        have hj20 : j < 20 := by
          by_cases z : w = v
          · have := h3 z; omega
          · have := h2 (by omega)
            have := hV.2.2.1 w (by omega)
            omega
        by_cases e1 : w = v ∧ j = i
        · obtain ⟨rfl, rfl⟩ := e1
          rw [if_pos rfl, if_pos rfl]
          exact ⟨rfl, rfl⟩
        · have hne : ¬ 20 * w + j = 20 * v + i := by omega
          rw [if_neg hne, if_neg hne]
          exact i5 w j h1 h2 (fun z => by have := h3 z; omega)
