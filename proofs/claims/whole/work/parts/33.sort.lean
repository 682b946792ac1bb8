/-! ===== Contexts: sort, gather ===== -/
theorem lsum_swap {f g : Nat → Nat} {a b m : Nat} (ha : a < m) (hb : b < m) (hab : a ≠ b) (h1 : g a = f b) (h2 : g b = f a) (h3 : ∀ j, j < m → j ≠ a → j ≠ b → g j = f j) : lsum g m = lsum f m := by
  have k1 := lsum_upd (f := f) (g := nu f a (f b)) ha (fun j _ hj => nu_ne hj)
  have k2 := lsum_upd (f := nu f a (f b)) (g := g) hb (fun j hj hjb => by
    by_cases ej : j = a
    · subst ej; rw [nu_same]; exact h1
    · rw [nu_ne ej]; exact h3 j hj ej hjb)
  rw [nu_same] at k1
  rw [nu_ne (Ne.symm hab), h2] at k2
  omega
theorem prm_shift {C D : Nat → Nat} {m q p c : Nat} (h : prm C (nu D q c) m) (hq : q < m) (hp : p < m) (hpq : p ≠ q) : prm C (nu (nu D q (D p)) p c) m := by
  intro G
  rw [← h G]
  refine lsum_swap (a := q) (b := p) hq hp (Ne.symm hpq) ?_ ?_ (fun j _ hj1 hj2 => ?_)
  · rw [nu_ne (Ne.symm hpq), nu_same, nu_ne hpq]
  · rw [nu_same, nu_same]
  · rw [nu_ne hj2, nu_ne hj1, nu_ne hj1]
def lp_arr (σ : lpM) (m : Nat) (D : Nat → Nat) : Prop := ∀ i, i < m → σ 11 0 i = nI (D i) ∧ D i < 110000
theorem lp_arr_w3 {σ : lpM} {m q x : Nat} {D : Nat → Nat} (h : lp_arr σ m D) (hx : x < 110000) : lp_arr (lp_w3 σ 11 0 q (nI x)) m (nu D q x) := by
  intro i hi
  by_cases ei : i = q
  · subst ei
    rw [nu_same, lp_rd, if_pos ⟨rfl, rfl, rfl⟩]
    exact ⟨rfl, hx⟩
  · rw [nu_ne ei, lp_rd, if_neg (fun z => ei z.2.2)]
    exact h i hi
/-- while one is put into its place: all but the hole in order, those behind it above it -/
def hol (D : Nat → Nat) (q i c : Nat) : Prop := (∀ a b, a ≤ b → b ≤ i → a ≠ q → b ≠ q → D a ≤ D b) ∧ (∀ b, q < b → b ≤ i → c < D b)
theorem hol_shift {D : Nat → Nat} {q i c : Nat} (h : hol D (q + 1) i c) (hq : q + 1 ≤ i) (hc : c < D q) : hol (nu D (q + 1) (D q)) q i c := by
  obtain ⟨h1, h2⟩ := h
  refine ⟨fun a b hab hb ha1 hb1 => ?_, fun b hb1 hb2 => ?_⟩
  · by_cases ea : a = q + 1
    · subst ea
      rw [nu_same]
      by_cases eb : b = q + 1
      · subst eb; rw [nu_same]; exact Nat.le_refl _
      · rw [nu_ne eb]; exact h1 q b (by omega) hb (by omega) eb
    · rw [nu_ne ea]
      by_cases eb : b = q + 1
      · subst eb; rw [nu_same]; exact h1 a q (by omega) (by omega) ea (by omega)
      · rw [nu_ne eb]; exact h1 a b hab hb ea eb
  · by_cases eb : b = q + 1
    · subst eb; rw [nu_same]; exact hc
    · rw [nu_ne eb]; exact h2 b (by omega) hb2
theorem hol_end {D : Nat → Nat} {q i c : Nat} (h : hol D q i c) (hq : q ≤ i) (hc : q = 0 ∨ D (q - 1) ≤ c) : srt (nu D q c) (i + 1) := by
  obtain ⟨h1, h2⟩ := h
  intro a b hab hb
  by_cases ea : a = q
  · subst ea
    rw [nu_same]
    by_cases eb : b = a
    · subst eb; rw [nu_same]; exact Nat.le_refl _
    · rw [nu_ne eb]; have := h2 b (by omega) (by omega); omega
  · rw [nu_ne ea]
    by_cases eb : b = q
    · subst eb
      rw [nu_same]
      rcases hc with z | z
      · omega
      · have := h1 a (b - 1) (by omega) (by omega) ea (by omega); omega
    · rw [nu_ne eb]; exact h1 a b hab (by omega) ea eb
theorem srt_1 {D : Nat → Nat} {m : Nat} (h : m ≤ 1) : srt D m := fun a b hab hb => by rw [show a = b by omega]; exact Nat.le_refl _
theorem nu_id (D : Nat → Nat) (i : Nat) : nu D i (D i) = D := by
  funext x
  by_cases ex : x = i
  · rw [ex, nu_same]
  · rw [nu_ne ex]
def sp_X0_sort : lpS := fun as σ Q => match as with
  | [.inr (some (r, k))] => r = 10 ∧ k = 0 ∧ ∃ (m : Nat) (C : Nat → Nat), lp_Cx σ m C ∧ ∀ τ D, lp_FX σ τ → lp_Cx τ m D → prm C D m → srt D m → Q none τ
  | _ => False
set_option maxHeartbeats 4000000 in
set_option maxRecDepth 100000 in
theorem ct_X0_sort (l : Launch) (D : va_G) (cI cD : ClassId) : lp_Ct l D cI cD yX0_sort cX0_sort 5 none 0 sp_X0_sort := by
  refine lp_method flX0 pfX0 kcX0 [] false kX0_sort [7, 13, 31] rfl rfl (lp_rV rfl) flX0_ok pfX0_ok kcX0_ok kX0_sort_ok ⟨_, _, rfl, rfl⟩ lp_cs0 ?_
  intro as σ Q hok hs
  rcases as with _ | ⟨_ | _ | ⟨r, k⟩, _ | ⟨c, as⟩⟩ <;> try exact (hs : False).elim
  obtain ⟨rfl, rfl, m, C, hC, hq⟩ := hs
  have hm := hC.2.1
  refine ⟨by show 1 ≤ 5; omega, fun mm pc L τ => (∀ r, r ≠ 11 → τ r = σ r) ∧ ∃ (D : Nat → Nat) (g : Nat), lp_arr τ m D ∧ 2 * g ≤ m ∧
    ((pc = 7 ∧ ∃ (x2 x3 x4 : Option lpV), mm = g * 10000000 + 9000000 ∧ prm C D m ∧ (g = 0 → srt D m) ∧ L = [some (.inr (some (10, 0))), some (.inl (nI g)), x2, x3, x4]) ∨
     (pc = 13 ∧ 0 < g ∧ ∃ (i : Nat) (x3 x4 : Option lpV), mm = g * 10000000 + (1200 - i) * 2000 + 1999 ∧ g ≤ i ∧ i ≤ m ∧ prm C D m ∧ (g = 1 → srt D i) ∧ L = [some (.inr (some (10, 0))), some (.inl (nI g)), some (.inl (nI i)), x3, x4]) ∨
     (pc = 31 ∧ 0 < g ∧ ∃ (i q c : Nat), mm = g * 10000000 + (1200 - i) * 2000 + q ∧ g ≤ i ∧ i < m ∧ q ≤ i ∧ c < 110000 ∧ prm C (nu D q c) m ∧ (g = 1 → hol D q i c) ∧ L = [some (.inr (some (10, 0))), some (.inl (nI g)), some (.inl (nI i)), some (.inl (nI c)), some (.inl (nI q))])), ?_, ?_⟩
  · ((conv => whnf); (try dsimp only))
    refine ⟨by decide, ?_⟩
    rw [hC.1, show nI m / Int32.ofInt 2 = nI (m / 2) from pk_div (d := 2) (by omega) (by omega) (by omega)]
    ((conv => whnf); (try dsimp only))
    exact ⟨_, fun r _ => rfl, C, m / 2, hC.2.2, by omega, Or.inl ⟨rfl, none, none, none, rfl, fun _ => rfl, fun z => srt_1 (by omega), rfl⟩⟩
  · rintro mm pc L τ ⟨hfr, D, g, hA, hg2, (⟨rfl, x2, x3, x4, hmm, hpr, hsr, rfl⟩ | ⟨rfl, hg0, i, x3, x4, hmm, hgi, hi, hpr, hsr, rfl⟩ | ⟨rfl, hg0, i, q, c, hmm, hgi, hi, hqi, hc, hpr, hho, rfl⟩)⟩
    · ((conv => whnf); (try dsimp only))
      refine ⟨fun h => ?_, fun h => ?_⟩ <;> ((conv => whnf); (try dsimp only))
      · have hz : g = 0 := by
          rcases Nat.eq_zero_or_pos g with z | z
          · exact z
          · exact absurd h (nI_nle z (by omega))
        exact hq τ D (fun r hr => hfr r (by omega)) ⟨by rw [hfr 10 (by omega)]; exact hC.1, hm, hA⟩ hpr (hsr hz)
      · have hz : 0 < g := by
          rcases Nat.eq_zero_or_pos g with z | z
          · rw [z] at h; exact absurd (by decide) h
          · exact z
        exact ⟨g * 10000000 + (1200 - g) * 2000 + 1999, by omega, hfr, D, g, hA, hg2, Or.inr (Or.inl ⟨rfl, hz, g, x3, x4, rfl, Nat.le_refl _, by omega, hpr, fun z => srt_1 (by omega), rfl⟩)⟩
    · ((conv => whnf); (try dsimp only))
      rw [hfr 10 (by omega), hC.1]
      refine ⟨fun h => ?_, fun h => ?_⟩ <;> ((conv => whnf); (try dsimp only))
      · rw [nI_leI (by omega) (by omega)] at h
        obtain rfl : i = m := by omega
        refine ⟨by decide, ?_⟩
        rw [show nI g / Int32.ofInt 2 = nI (g / 2) from pk_div (d := 2) (by omega) (by omega) (by omega)]
        ((conv => whnf); (try dsimp only))
        exact ⟨g / 2 * 10000000 + 9000000, by omega, hfr, D, g / 2, hA, by omega, Or.inl ⟨rfl, some (.inl (nI i)), x3, x4, rfl, hpr, fun z => hsr (by omega), rfl⟩⟩
      · rw [nI_leI (by omega) (by omega)] at h
        obtain ⟨c1, c2⟩ := hA i (by omega)
        refine ⟨lp_vin (by omega) (by omega), ?_⟩
        rw [lp_clm (by omega), c1]
        ((conv => whnf); (try dsimp only))
        refine ⟨g * 10000000 + (1200 - i) * 2000 + i, by omega, hfr, D, g, hA, hg2, Or.inr (Or.inr ⟨rfl, hg0, i, i, D i, rfl, hgi, by omega, Nat.le_refl _, c2, ?_, fun z => ⟨fun a b hab hb ha1 hb1 => hsr z a b hab (by omega), fun b h1 h2 => absurd h1 (by omega)⟩, rfl⟩)⟩
        rw [nu_id]
        exact hpr
    · ((conv => whnf); (try dsimp only))
      have stop : (q < g ∨ D (q - g) ≤ c) → ∃ m', m' < mm ∧ (fun (mm pc : Nat) (L : lpL) (τ : lpM) => (∀ r, r ≠ 11 → τ r = σ r) ∧ ∃ (D : Nat → Nat) (g : Nat), lp_arr τ m D ∧ 2 * g ≤ m ∧
    ((pc = 7 ∧ ∃ (x2 x3 x4 : Option lpV), mm = g * 10000000 + 9000000 ∧ prm C D m ∧ (g = 0 → srt D m) ∧ L = [some (.inr (some (10, 0))), some (.inl (nI g)), x2, x3, x4]) ∨
     (pc = 13 ∧ 0 < g ∧ ∃ (i : Nat) (x3 x4 : Option lpV), mm = g * 10000000 + (1200 - i) * 2000 + 1999 ∧ g ≤ i ∧ i ≤ m ∧ prm C D m ∧ (g = 1 → srt D i) ∧ L = [some (.inr (some (10, 0))), some (.inl (nI g)), some (.inl (nI i)), x3, x4]) ∨
     (pc = 31 ∧ 0 < g ∧ ∃ (i q c : Nat), mm = g * 10000000 + (1200 - i) * 2000 + q ∧ g ≤ i ∧ i < m ∧ q ≤ i ∧ c < 110000 ∧ prm C (nu D q c) m ∧ (g = 1 → hol D q i c) ∧ L = [some (.inr (some (10, 0))), some (.inl (nI g)), some (.inl (nI i)), some (.inl (nI c)), some (.inl (nI q))]))) m' 13 [some (.inr (some (10, 0))), some (.inl (nI g)), some (.inl (nI i + Int32.ofInt 1)), some (.inl (nI c)), some (.inl (nI q))] (lp_w3 τ 11 0 q (nI c)) := by
        intro hst
        refine ⟨g * 10000000 + (1200 - (i + 1)) * 2000 + 1999, by omega, fun r hr => by rw [← hfr r hr]; funext k'; exact lp_w3_ne (fun z => hr z.1), nu D q c, g, lp_arr_w3 hA hc, hg2, Or.inr (Or.inl ⟨rfl, hg0, i + 1, _, _, rfl, by omega, by omega, hpr, fun z => hol_end (hho z) hqi ?_, by rw [nI_succ i]; rfl⟩)⟩
        subst z
        rcases hst with z | z
        · exact Or.inl (by omega)
        · exact Or.inr z
      refine ⟨fun h => ?_, fun h => ?_⟩ <;> ((conv => whnf); (try dsimp only))
      · rw [nI_ltI (by omega) (by omega)] at h
        refine ⟨lp_vin (by omega) (by omega), ?_⟩
        rw [lp_clm (by omega)]
        ((conv => whnf); (try dsimp only))
        exact stop (Or.inl h)
      · rw [nI_ltI (by omega) (by omega)] at h
        obtain ⟨c1, c2⟩ := hA (q - g) (by omega)
        rw [pk_sub (show g ≤ q by omega)]
        refine ⟨lp_vin (by omega) (by omega), ?_⟩
        rw [lp_clm (by omega), c1]
        ((conv => whnf); (try dsimp only))
        refine ⟨fun h2 => ?_, fun h2 => ?_⟩ <;> ((conv => whnf); (try dsimp only))
        · rw [nI_leI (by omega) (by omega)] at h2
          refine ⟨lp_vin (by omega) (by omega), ?_⟩
          rw [lp_clm (by omega)]
          ((conv => whnf); (try dsimp only))
          exact stop (Or.inr h2)
        · rw [nI_leI (by omega) (by omega)] at h2
          rw [pk_sub (show g ≤ q by omega)]
          refine ⟨lp_vin (by omega) (by omega), ?_⟩
          rw [lp_clm (by omega), c1]
          ((conv => whnf); (try dsimp only))
          refine ⟨lp_vin (by omega) (by omega), ?_⟩
          rw [lp_clm (by omega)]
          ((conv => whnf); (try dsimp only))
          rw [pk_sub (show g ≤ q by omega)]
          refine ⟨g * 10000000 + (1200 - i) * 2000 + (q - g), by omega, fun r hr => by rw [← hfr r hr]; funext k'; exact lp_w3_ne (fun z => hr z.1), nu D q (D (q - g)), g, lp_arr_w3 hA c2, hg2, Or.inr (Or.inr ⟨rfl, hg0, i, q - g, c, rfl, hgi, hi, by omega, hc, prm_shift hpr (by omega) (by omega) (by omega), fun z => ?_, rfl⟩)⟩
          subst z
          obtain ⟨q', rfl⟩ : ∃ q', q = q' + 1 := ⟨q - 1, by omega⟩
          exact hol_shift (hho rfl) hqi (by rw [show q' + 1 - 1 = q' from rfl] at h2; omega)
def sp_X0_gather : lpS := fun as σ Q => match as with
  | [.inr (some (r, k)), .inr (some (r2, k2)), .inl y] => r = 10 ∧ k = 0 ∧ r2 = 2 ∧ k2 = 0 ∧ ∃ (n kk : Nat) (s pg wt : Nat → Nat), lp_Vis σ 0 n s pg wt ∧ y = nI kk ∧ 1 ≤ kk ∧ kk ≤ 4 ∧
      ∀ τ D, lp_FX σ τ → lp_Cx τ (gth n s pg kk).1 D → prm (gth n s pg kk).2 D (gth n s pg kk).1 → srt D (gth n s pg kk).1 → Q none τ
  | _ => False
set_option maxHeartbeats 4000000 in
set_option maxRecDepth 100000 in
theorem ct_X0_gather (l : Launch) (D : va_G) (cI cD : ClassId) : lp_Ct l D cI cD yX0_gather cX0_gather 4 none 4 sp_X0_gather := by
  refine lp_method flX0 pfX0 kcX0 [(31, some 0, 3, sp_X0_gatherFrom), (35, some 0, 0, sp_X0_sort)] false kX0_gather [7] rfl rfl (lp_rV rfl) flX0_ok pfX0_ok kcX0_ok kX0_gather_ok ⟨_, _, rfl, rfl⟩ (lp_cs1 (lp_mkCall lkX0_31 (ct_X0_gatherFrom l D cI cD) (by omega)) (lp_cs1 (lp_mkCall lkX0_35 (ct_X0_sort l D cI cD) (by omega)) lp_cs0)) ?_
  intro as σ Q hok hs
  rcases as with _ | ⟨_ | _ | ⟨r, k⟩, _ | ⟨_ | _ | ⟨r2, k2⟩, _ | ⟨y | _, _ | ⟨c, as⟩⟩⟩⟩ <;> try exact (hs : False).elim
  obtain ⟨rfl, rfl, rfl, rfl, n, kk, s, pg, wt, hV, rfl, hk1, hk4, hq⟩ := hs
  have hn := hV.2.1
  have hb := lp_Vis_bd hV
  generalize hFF : gth n s pg kk = FF at hq
  refine ⟨by show 3 ≤ 4; omega, fun mm pc L τ => pc = 7 ∧ ∃ (v : Nat) (S : lpR), mm + v = n ∧ v ≤ n ∧ gthV s pg kk (n - v) v S = FF ∧ S.1 ≤ s v ∧ lp_FX σ τ ∧ lp_Cx τ S.1 S.2 ∧ L = [some (.inr (some (10, 0))), some (.inr (some (2, 0))), some (.inl (nI kk)), some (.inl (nI v))], ?_, ?_⟩
  · ((conv => whnf); (try dsimp only))
    exact ⟨n, rfl, 0, (0, fun _ => 0), rfl, Nat.zero_le _, hFF, Nat.zero_le _, lp_FX_w3 (lp_FX_rf σ) (by omega), ⟨by simp [lp_rd]; rfl, by omega, fun i hi => absurd hi (Nat.not_lt_zero _)⟩, rfl⟩
  · rintro mm pc L τ ⟨rfl, v, S, hmm, hv, hg, hS, hF, hCx, rfl⟩
    have hVτ := lp_FX_Vis hV hF
    ((conv => whnf); (try dsimp only))
    rw [hVτ.1]
    refine ⟨fun h => ?_, fun h => ?_⟩ <;> ((conv => whnf); (try dsimp only))
    · rw [nI_leI (by omega) (by omega)] at h
      obtain rfl : v = n := by omega
      rw [Nat.sub_self] at hg
      have hg : S = FF := hg
      subst hg
      exact ⟨rfl, rfl, S.1, S.2, hCx, fun τ' D g1 g2 g3 g4 => hq τ' D (lp_FX_tr hF g1) g2 g3 g4⟩
    · rw [nI_leI (by omega) (by omega)] at h
      have hvn : v < n := by omega
      refine ⟨rfl, rfl, rfl, rfl, n, v, kk, s, pg, wt, S, hVτ, hvn, rfl, rfl, hk1, hk4, hCx, hS, fun τ' g1 g2 => ?_⟩
      ((conv => whnf); (try dsimp only))
      refine ⟨n - (v + 1), by omega, rfl, v + 1, _, by omega, by omega, ?_, ?_, lp_FX_tr hF g1, g2, by rw [nI_succ v]; rfl⟩
      · rw [← hg, show n - v = n - (v + 1) + 1 by omega]
        rfl
      · rw [(gthP_keep pg kk (s (v + 1)) _ _ S).1]
        have := (hV.2.2.2.2.1 v hvn).1
        omega
