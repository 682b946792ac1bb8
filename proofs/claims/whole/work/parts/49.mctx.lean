/-! ===== the model: CONTEXTS as rows ===== -/
def lp_RwP (S : lpR) (R : Nat) (key : Nat → Nat) : Prop := R = cnum S ∧ (∀ r, r < R → key r < 10000 ∧ ∃ i, i < S.1 ∧ S.2 i / 11 = key r) ∧ (∀ i, i < S.1 → ∃ r, r < R ∧ key r = S.2 i / 11) ∧ (∀ a b, a < R → b < R → key a = key b → a = b)
def lp_MDx (σ : lpM) (S : lpR) (R : Nat) (key : Nat → Nat) : Prop := (∀ r, r < R → σ 36 0 r = nI (key r)) ∧ (∀ r p, r < R → p < 11 → σ 37 0 (11 * r + p) = nI (occ S.2 S.1 (key r * 11 + p)))
def lp_psh (S : lpR) (c : Nat) : lpR := (S.1 + 1, nu S.2 S.1 c)
theorem occ_push (C : Nat → Nat) (m c x : Nat) : occ (nu C m c) (m + 1) x = occ C m x + (if c = x then 1 else 0) := by
  show lsum (fun i => if nu C m c i = x then 1 else 0) m + (if nu C m c m = x then 1 else 0) = _
  rw [nu_same, lsum_congr (g := fun i => if C i = x then 1 else 0) (fun i hi => by rw [nu_ne (by omega)])]
  rfl
theorem lp_RwP_old {S : lpR} {R r c : Nat} {key : Nat → Nat} (h : lp_RwP S R key) (hr : r < R) (hk : key r = c / 11) : lp_RwP (lp_psh S c) R key := by
  obtain ⟨h1, h2, h3, h4⟩ := h
  obtain ⟨k1, j, k2, k3⟩ := h2 r hr
  refine ⟨?_, fun a ha => ?_, fun i hi => ?_, h4⟩
  · rw [h1]
    show dist 10000 (fun i => S.2 i / 11) S.1 = dist 10000 (fun i => nu S.2 S.1 c i / 11) (S.1 + 1)
    rw [dist_old (f := fun i => nu S.2 S.1 c i / 11) (m := S.1) ⟨j, k2, by rw [nu_same, nu_ne (by omega), k3, hk]⟩]
    refine dist_congr (fun x => ⟨fun ⟨i, a, b⟩ => ⟨i, a, by rw [nu_ne (by omega)]; exact b⟩, fun ⟨i, a, b⟩ => ⟨i, a, by rw [nu_ne (by omega)] at b; exact b⟩⟩)
  · obtain ⟨a1, i, a2, a3⟩ := h2 a ha
    exact ⟨a1, i, by show i < S.1 + 1; omega, by show nu S.2 S.1 c i / 11 = _; rw [nu_ne (by omega)]; exact a3⟩
  · have hi : i < S.1 + 1 := hi
    show ∃ r, r < R ∧ key r = nu S.2 S.1 c i / 11
    by_cases e1 : i = S.1
    · subst e1
      rw [nu_same]
      exact ⟨r, hr, hk⟩
    · rw [nu_ne e1]
      exact h3 i (by omega)
theorem lp_RwP_new {S : lpR} {R c : Nat} {key : Nat → Nat} (h : lp_RwP S R key) (hc : c / 11 < 10000) (hk : ∀ r, r < R → key r ≠ c / 11) : lp_RwP (lp_psh S c) (R + 1) (nu key R (c / 11)) := by
  obtain ⟨h1, h2, h3, h4⟩ := h
  refine ⟨?_, fun a ha => ?_, fun i hi => ?_, fun a b ha hb hab => ?_⟩
  · rw [h1]
    show dist 10000 (fun i => S.2 i / 11) S.1 + 1 = dist 10000 (fun i => nu S.2 S.1 c i / 11) (S.1 + 1)
    rw [dist_new (f := fun i => nu S.2 S.1 c i / 11) (m := S.1) (by rw [nu_same]; exact hc) (fun j hj z => by
      rw [nu_same, nu_ne (by omega)] at z
      obtain ⟨r, r1, r2⟩ := h3 j hj
      exact hk r r1 (r2.trans z))]
    have e1 : dist 10000 (fun i => S.2 i / 11) S.1 = dist 10000 (fun i => nu S.2 S.1 c i / 11) S.1 := dist_congr (fun x => ⟨fun ⟨i, a, b⟩ => ⟨i, a, by rw [nu_ne (by omega)]; exact b⟩, fun ⟨i, a, b⟩ => ⟨i, a, by rw [nu_ne (by omega)] at b; exact b⟩⟩)
    rw [e1]
  · by_cases e1 : a = R
    · subst e1
      rw [nu_same]
      exact ⟨hc, S.1, by show S.1 < S.1 + 1; omega, by show nu S.2 S.1 c S.1 / 11 = _; rw [nu_same]⟩
    · rw [nu_ne e1]
      obtain ⟨a1, i, a2, a3⟩ := h2 a (by omega)
      exact ⟨a1, i, by show i < S.1 + 1; omega, by show nu S.2 S.1 c i / 11 = _; rw [nu_ne (by omega)]; exact a3⟩
  · have hi : i < S.1 + 1 := hi
    show ∃ r, r < R + 1 ∧ nu key R (c / 11) r = nu S.2 S.1 c i / 11
    by_cases e1 : i = S.1
    · subst e1
      exact ⟨R, by omega, by rw [nu_same, nu_same]⟩
    · obtain ⟨r, r1, r2⟩ := h3 i (by omega)
      exact ⟨r, by omega, by rw [nu_ne (by omega), nu_ne e1]; exact r2⟩
  · by_cases e1 : a = R <;> by_cases e2 : b = R
    · omega
    · rw [e1, nu_same, nu_ne e2] at hab
      exact absurd hab.symm (hk b (by omega))
    · rw [e2, nu_same, nu_ne e1] at hab
      exact absurd hab (hk a (by omega))
    · rw [nu_ne e1, nu_ne e2] at hab
      exact h4 a b (by omega) (by omega) hab
theorem lp_RwP_le {S : lpR} {R : Nat} {key : Nat → Nat} (h : lp_RwP S R key) : R ≤ S.1 := by
  rw [h.1]
  exact dist_le _
theorem lp_occ0 {S : lpR} {R kk p : Nat} {key : Nat → Nat} (h : lp_RwP S R key) (hk : ∀ r, r < R → key r ≠ kk) (hp : p < 11) : occ S.2 S.1 (kk * 11 + p) = 0 := by
  refine lsum_zero (fun i hi => if_neg (fun z => ?_))
  obtain ⟨r, r1, r2⟩ := h.2.2.1 i hi
  exact hk r r1 (by omega)
/-- the row of a CONTEXT counts one more -/
theorem lp_MDx_inc {σ : lpM} {S : lpR} {R r c : Nat} {key : Nat → Nat} (hM : lp_MDx σ S R key) (hP : lp_RwP (lp_psh S c) R key) (hr : r < R) (hk : key r = c / 11) : lp_MDx (lp_w3 σ 37 0 (11 * r + c % 11) (nI (occ S.2 S.1 (key r * 11 + c % 11) + 1))) (lp_psh S c) R key := by
  refine ⟨fun a ha => by rw [lp_w3_r (by omega)]; exact hM.1 a ha, fun a p ha hp => ?_⟩
  show _ = nI (occ (nu S.2 S.1 c) (S.1 + 1) (key a * 11 + p))
  rw [occ_push, lp_rd]
  by_cases e1 : a = r ∧ p = c % 11
  · obtain ⟨rfl, rfl⟩ := e1
    rw [if_pos ⟨rfl, rfl, rfl⟩, if_pos (by omega)]
  · have hne : ¬ c = key a * 11 + p := fun z => e1 (by
      have h1 : key a = key r := by omega
      exact ⟨hP.2.2.2 a r ha hr h1, by omega⟩)
    have h2 : ¬ 11 * a + p = 11 * r + c % 11 := by omega
    rw [if_neg (fun z => h2 z.2.2), if_neg hne]
    exact hM.2 a p ha hp
def lp_Fx (σ τ : lpM) : Prop := (∀ r, r ≠ 30 → r ≠ 36 → r ≠ 37 → τ r = σ r) ∧ (∀ j, j ≠ 8 → τ 30 0 j = σ 30 0 j)
theorem lp_Fx_g {σ τ : lpM} {L : lpLg} (h : MDg σ L) (hF : lp_Fx σ τ) : MDg τ L := MDg_congr h (hF.2 0 (by omega)) (fun r _ _ => hF.1 r (by omega) (by omega) (by omega))
theorem lp_Fx_D {σ τ : lpM} {Z : lpZ} (h : lpD σ Z) (hF : lp_Fx σ τ) : lpD τ Z := ⟨lp_Fx_g h.1 hF, MDr_congr h.2.1 (hF.1 34 (by omega) (by omega) (by omega)) (hF.1 35 (by omega) (by omega) (by omega)), MDp_congr h.2.2 (fun j _ _ => hF.2 j (by omega)) (fun r _ _ => hF.1 r (by omega) (by omega) (by omega))⟩
theorem lp_Fx_w3 {σ τ : lpM} {r j : Nat} {x : Int32} (h : lp_Fx σ τ) (hr : r = 36 ∨ r = 37 ∨ (r = 30 ∧ j = 8)) : lp_Fx σ (lp_w3 τ r 0 j x) := by
  refine ⟨fun r' h1 h2 h3 => by rw [lp_w3_r (by omega)]; exact h.1 r' h1 h2 h3, fun j' hj => ?_⟩
  rw [lp_rd, if_neg (by omega)]
  exact h.2 j' hj
def sp_X7_findContexts : lpS := fun as σ Q => match as with
  | [.inr (some (r, k)), .inl x] => r = 30 ∧ k = 0 ∧ ∃ (L : lpLg) (kk : Nat), MDg σ L ∧ x = nI kk ∧ 1 ≤ kk ∧ kk ≤ 4 ∧ ∀ (τ : lpM) (R : Nat) (key : Nat → Nat), lp_Fx σ τ → lp_RwP (gth L.1 L.2.1 L.2.2.1 kk) R key → lp_MDx τ (gth L.1 L.2.1 L.2.2.1 kk) R key → τ 30 0 8 = nI R → (gth L.1 L.2.1 L.2.2.1 kk).1 ≤ 1200 → Q none τ
  | _ => False
set_option maxHeartbeats 4000000 in
set_option maxRecDepth 100000 in
theorem ct_X7_findContexts (l : Launch) (D : va_G) (cI cD : ClassId) : lp_Ct l D cI cD yX7_findContexts cX7_findContexts 7 none 1 sp_X7_findContexts := by
  refine lp_method flX7 pfX7 kcX7 [(78, some 7, 2, sp_X7_next)] false kX7_findContexts [7, 17, 35, 72, 120, 157] rfl rfl (lp_rV rfl) flX7_ok pfX7_ok kcX7_ok kX7_findContexts_ok ⟨_, _, rfl, rfl⟩ (lp_cs1 (lp_mkCall lkX7_78 (ct_X7_next l D cI cD) (by omega)) lp_cs0) ?_
  intro as σ Q hok hs
  rcases as with _ | ⟨_ | _ | ⟨r, k⟩, _ | ⟨x | _, _ | ⟨c, as⟩⟩⟩ <;> try exact (hs : False).elim
  obtain ⟨rfl, rfl, ⟨n, s, pg, wt⟩, kk, hG, rfl, hk1, hk4, hq⟩ := hs
  obtain ⟨g0, g1, g2, hV, hpg⟩ := id hG
  dsimp only at g0 g1 g2 hV hpg hq
  have hn := hV.1
  have hb := lpV0_1200 hV n (Nat.le_refl _)
  generalize hFF : gth n s pg kk = FF at hq
  obtain ⟨Inv, hInv⟩ : ∃ Inv : Nat → Nat → lpR → lpM → Nat → (Nat → Nat) → Prop, Inv = fun v i S τ R key => v < n ∧ i + kk ≤ s (v + 1) - s v ∧ S.1 ≤ s v + i ∧ gthV s pg kk (n - (v + 1)) (v + 1) (gthP pg kk (s (v + 1)) (s (v + 1) + 1 - (s v + kk + (i + 1))) (s v + kk + (i + 1)) (lp_psh S (ccod pg kk (s (v + 1)) (s v + kk + i)))) = FF ∧ lp_Fx σ τ ∧ lp_RwP S R key := ⟨_, rfl⟩
  obtain ⟨Lab, hLab⟩ : ∃ Lab : Nat → Nat → lpL → lpM → Prop, Lab = fun m pc L τ =>
    ((pc = 7 ∧ ∃ (v : Nat) (S : lpR) (R : Nat) (key : Nat → Nat) (x3 x4 x5 x6 : Option lpV), m = (n - v) * 10000000 + 9000000 ∧ v ≤ n ∧ S.1 ≤ s v ∧ gthV s pg kk (n - v) v S = FF ∧ lp_Fx σ τ ∧ lp_RwP S R key ∧ lp_MDx τ S R key ∧ τ 30 0 8 = nI R ∧ L = [some (.inr (some (30, 0))), some (.inl (nI kk)), some (.inl (nI v)), x3, x4, x5, x6]) ∨
    (pc = 17 ∧ ∃ (v i : Nat) (S : lpR) (R : Nat) (key : Nat → Nat) (x4 x5 x6 : Option lpV), m = (n - v) * 10000000 + (30 - i) * 100000 + 50000 ∧ v < n ∧ i ≤ 20 ∧ S.1 ≤ s v + i ∧ gthV s pg kk (n - (v + 1)) (v + 1) (gthP pg kk (s (v + 1)) (s (v + 1) + 1 - (s v + kk + i)) (s v + kk + i) S) = FF ∧ (i = 0 → S.1 ≤ s v) ∧ (0 < i → S.1 ≤ s (v + 1)) ∧ lp_Fx σ τ ∧ lp_RwP S R key ∧ lp_MDx τ S R key ∧ τ 30 0 8 = nI R ∧ L = [some (.inr (some (30, 0))), some (.inl (nI kk)), some (.inl (nI v)), some (.inl (nI i)), x4, x5, x6]) ∨
    (pc = 35 ∧ ∃ (v i j : Nat) (S : lpR) (R : Nat) (key : Nat → Nat) (x6 : Option lpV), m = (n - v) * 10000000 + (30 - i) * 100000 + 40000 + (kk - j) ∧ Inv v i S τ R key ∧ j ≤ kk ∧ lp_MDx τ S R key ∧ τ 30 0 8 = nI R ∧ L = [some (.inr (some (30, 0))), some (.inl (nI kk)), some (.inl (nI v)), some (.inl (nI i)), some (.inl (nI (ckey pg (s v + i) j))), some (.inl (nI j)), x6]) ∨
    (pc = 72 ∧ ∃ (v i r : Nat) (S : lpR) (R : Nat) (key : Nat → Nat) (x6 : Option lpV), m = (n - v) * 10000000 + (30 - i) * 100000 + 30000 + (R - r) ∧ Inv v i S τ R key ∧ r ≤ R ∧ (∀ r', r' < r → key r' ≠ ckey pg (s v + i) kk) ∧ lp_MDx τ S R key ∧ τ 30 0 8 = nI R ∧ L = [some (.inr (some (30, 0))), some (.inl (nI kk)), some (.inl (nI v)), some (.inl (nI i)), some (.inl (nI (ckey pg (s v + i) kk))), some (.inl (nI r)), x6]) ∨
    (pc = 120 ∧ ∃ (v i p : Nat) (S : lpR) (R : Nat) (key : Nat → Nat), m = (n - v) * 10000000 + (30 - i) * 100000 + 20000 + (11 - p) ∧ Inv v i S τ R key ∧ p ≤ 11 ∧ (∀ r', r' < R → key r' ≠ ckey pg (s v + i) kk) ∧ lp_MDx τ S R key ∧ τ 30 0 8 = nI R ∧ τ 36 0 R = nI (ckey pg (s v + i) kk) ∧ (∀ p', p' < p → τ 37 0 (11 * R + p') = nI 0) ∧ L = [some (.inr (some (30, 0))), some (.inl (nI kk)), some (.inl (nI v)), some (.inl (nI i)), some (.inl (nI (ckey pg (s v + i) kk))), some (.inl (nI R)), some (.inl (nI p))]) ∨
    (pc = 157 ∧ ∃ (v i r : Nat) (S : lpR) (R : Nat) (key : Nat → Nat) (x6 : Option lpV), m = (n - v) * 10000000 + (30 - i) * 100000 + 10000 ∧ v < n ∧ i + kk ≤ s (v + 1) - s v ∧ S.1 ≤ s v + i ∧ gthV s pg kk (n - (v + 1)) (v + 1) (gthP pg kk (s (v + 1)) (s (v + 1) + 1 - (s v + kk + (i + 1))) (s v + kk + (i + 1)) (lp_psh S (ccod pg kk (s (v + 1)) (s v + kk + i)))) = FF ∧ lp_Fx σ τ ∧ lp_RwP (lp_psh S (ccod pg kk (s (v + 1)) (s v + kk + i))) R key ∧ lp_MDx τ S R key ∧ τ 30 0 8 = nI R ∧ r < R ∧ key r = ckey pg (s v + i) kk ∧ L = [some (.inr (some (30, 0))), some (.inl (nI kk)), some (.inl (nI v)), some (.inl (nI i)), some (.inl (nI (ckey pg (s v + i) kk))), some (.inl (nI r)), x6])) := ⟨_, rfl⟩
  have hckl : ∀ v i j, v < n → i + kk ≤ s (v + 1) - s v → j ≤ kk → ckey pg (s v + i) j < 10000 := by
    intro v i j hv hi hj
    have hsn := lpV0_le hV (show v + 1 ≤ n by omega) (Nat.le_refl n)
    have h1 := ckey_lt (pg := pg) (a := s v + i) (k := j) (fun x hx => hpg _ (by omega))
    have h2 : (10 : Nat) ^ j ≤ 10 ^ 4 := Nat.pow_le_pow_right (by omega) (by omega)
    omega
  have hcod : ∀ v i, v < n → i + kk ≤ s (v + 1) - s v → ccod pg kk (s (v + 1)) (s v + kk + i) / 11 = ckey pg (s v + i) kk ∧ ccod pg kk (s (v + 1)) (s v + kk + i) % 11 = ltt s pg v (i + kk) := by
    intro v i hv hi
    have htl := ltt_le (i := i + kk) hV hpg hv
    have e1 : ccod pg kk (s (v + 1)) (s v + kk + i) = ckey pg (s v + i) kk * 11 + ltt s pg v (i + kk) := by
      unfold ccod ltt
      rw [show s v + kk + i - kk = s v + i by omega, show s v + kk + i = s v + (i + kk) by omega]
      by_cases z : i + kk < s (v + 1) - s v
      · rw [if_pos z, if_pos (by omega)]
      · rw [if_neg z, if_neg (by omega)]
    rw [e1]
    omega
  refine ⟨by show 2 ≤ 7; omega, Lab, ?_, ?_⟩
  · ((conv => whnf); (try dsimp only))
    refine ⟨(n - 0) * 10000000 + 9000000, ?_⟩
    rw [hLab]
    refine Or.inl ⟨rfl, 0, (0, fun _ => 0), 0, fun _ => 0, none, none, none, none, rfl, by omega, by show 0 ≤ s 0; omega, hFF, ?_, ?_, ?_, ?_, rfl⟩
    · exact lp_Fx_w3 ⟨fun _ _ _ _ => rfl, fun _ _ => rfl⟩ (by omega)
    · exact ⟨(dist_0 _ _).symm, fun r hr => by omega, fun i hi => absurd hi (Nat.not_lt_zero _), fun a b ha => by omega⟩
    · exact ⟨fun r hr => by omega, fun r p hr => by omega⟩
    · rw [lp_rd]; exact if_pos ⟨rfl, rfl, rfl⟩
  · intro m pc L τ hh
    rw [hLab] at hh
    rcases hh with ⟨rfl, v, S, R, key, x3, x4, x5, x6, rfl, hv, hS, hgt, hF, hRP, hMx, hR8, rfl⟩ | ⟨rfl, v, i, S, R, key, x4, x5, x6, rfl, hv, hi, hS, hgt, hS0, hS1, hF, hRP, hMx, hR8, rfl⟩ | ⟨rfl, v, i, j, S, R, key, x6, rfl, hI, hj, hMx, hR8, rfl⟩ | ⟨rfl, v, i, r, S, R, key, x6, rfl, hI, hr, hno, hMx, hR8, rfl⟩ | ⟨rfl, v, i, p, S, R, key, rfl, hI, hp, hno, hMx, hR8, h36, h37, rfl⟩ | ⟨rfl, v, i, r, S, R, key, x6, rfl, hv, hi, hS, hgt, hF, hRP, hMx, hR8, hr, hkr, rfl⟩
    · have t0 : τ 30 0 0 = nI n := by rw [hF.2 0 (by omega)]; exact g0
      ((conv => whnf); (try dsimp only))
      rw [t0]
      refine ⟨fun h => ?_, fun h => ?_⟩ <;> ((conv => whnf); (try dsimp only))
      · rw [nI_leI (by omega) (by omega)] at h
        obtain rfl : v = n := by omega
        rw [Nat.sub_self] at hgt
        have hgt : S = FF := hgt
        subst hgt
        exact hq τ R key hF hRP hMx hR8 (by omega)
      · rw [nI_leI (by omega) (by omega)] at h
        refine ⟨(n - v) * 10000000 + (30 - 0) * 100000 + 50000, by omega, ?_⟩
        rw [hLab]
        refine Or.inr (Or.inl ⟨rfl, v, 0, S, R, key, x4, x5, x6, rfl, by omega, by omega, by omega, ?_, fun _ => hS, fun z => by omega, hF, hRP, hMx, hR8, rfl⟩)
        rw [← hgt, show n - v = n - (v + 1) + 1 by omega]
        rfl
    · have hsv := hV.2.2.1 v hv
      have hsn := lpV0_le hV (show v + 1 ≤ n by omega) (Nat.le_refl n)
      ((conv => whnf); (try dsimp only))
      refine ⟨lp_vin (by omega) (by omega), ?_⟩
      rw [lp_clm (by omega), hF.1 31 (by omega) (by omega) (by omega), g1 v hv, nI_add]
      ((conv => whnf); (try dsimp only))
      refine ⟨fun h => ?_, fun h => ?_⟩ <;> ((conv => whnf); (try dsimp only))
      · rw [nI_ltI (by omega) (by omega)] at h
        refine ⟨(n - (v + 1)) * 10000000 + 9000000, by omega, ?_⟩
        rw [hLab]
        refine Or.inl ⟨rfl, v + 1, S, R, key, some (.inl (nI i)), x4, x5, x6, rfl, by omega, ?_, ?_, hF, hRP, hMx, hR8, by rw [nI_succ v]; rfl⟩
        · by_cases z : i = 0
          · have := hS0 z; omega
          · exact hS1 (by omega)
        · rw [show s (v + 1) + 1 - (s v + kk + i) = 0 by omega] at hgt
          exact hgt
      · rw [nI_ltI (by omega) (by omega)] at h
        refine ⟨(n - v) * 10000000 + (30 - i) * 100000 + 40000 + (kk - 0), by omega, ?_⟩
        rw [hLab]
        refine Or.inr (Or.inr (Or.inl ⟨rfl, v, i, 0, S, R, key, x6, rfl, ?_, by omega, hMx, hR8, rfl⟩))
        rw [hInv]
        refine ⟨hv, by omega, hS, ?_, hF, hRP⟩
        rw [← hgt, show s (v + 1) + 1 - (s v + kk + i) = s (v + 1) + 1 - (s v + kk + (i + 1)) + 1 by omega]
        rfl
    · have hI' := hI
      rw [hInv] at hI'
      obtain ⟨hv, hi, hS, hgt, hF, hRP⟩ := hI'
      have hsv := hV.2.2.1 v hv
      have hsn := lpV0_le hV (show v + 1 ≤ n by omega) (Nat.le_refl n)
      ((conv => whnf); (try dsimp only))
      refine ⟨fun h => ?_, fun h => ?_⟩ <;> ((conv => whnf); (try dsimp only))
      · rw [nI_leI (by omega) (by omega)] at h
        obtain rfl : j = kk := by omega
        have hRl := lp_RwP_le hRP
        refine ⟨(n - v) * 10000000 + (30 - i) * 100000 + 30000 + (R - 0), by omega, ?_⟩
        rw [hLab]
        exact Or.inr (Or.inr (Or.inr (Or.inl ⟨rfl, v, i, 0, S, R, key, x6, rfl, hI, by omega, fun r' hr' => by omega, hMx, hR8, rfl⟩)))
      · rw [nI_leI (by omega) (by omega)] at h
        rw [show (Int8.ofInt 20).toInt32 * nI v + nI i + nI j = nI (20 * v + (i + j)) from by rw [show 20 * v + (i + j) = 20 * v + i + j by omega, ← nI_add (20 * v + i) j, ← lp_ix]; rfl]
        refine ⟨lp_vin (by omega) (by omega), ?_⟩
        rw [lp_clm (by omega), hF.1 32 (by omega) (by omega) (by omega), (g2 v (i + j) hv (by omega)).1]
        ((conv => whnf); (try dsimp only))
        rw [show (Int8.ofInt 10).toInt32 * nI (ckey pg (s v + i) j) + nI (pg (s v + (i + j))) = nI (ckey pg (s v + i) (j + 1)) from by
          show _ = nI (ckey pg (s v + i) j * 10 + pg (s v + i + j))
          rw [Nat.mul_comm, show s v + i + j = s v + (i + j) by omega]
          exact lp_ix]
        refine ⟨(n - v) * 10000000 + (30 - i) * 100000 + 40000 + (kk - (j + 1)), by omega, ?_⟩
        rw [hLab]
        exact Or.inr (Or.inr (Or.inl ⟨rfl, v, i, j + 1, S, R, key, x6, rfl, hI, by omega, hMx, hR8, by rw [nI_succ j]; rfl⟩))
    · have hI' := hI
      rw [hInv] at hI'
      obtain ⟨hv, hi, hS, hgt, hF, hRP⟩ := hI'
      have hsv := hV.2.2.1 v hv
      have hsn := lpV0_le hV (show v + 1 ≤ n by omega) (Nat.le_refl n)
      have hRl := lp_RwP_le hRP
      have hc := hckl v i kk hv hi (Nat.le_refl _)
      obtain ⟨c1, c2⟩ := hcod v i hv hi
      ((conv => whnf); (try dsimp only))
      rw [hR8]
      refine ⟨fun h => ?_, fun h => ?_⟩ <;> ((conv => whnf); (try dsimp only))
      · rw [nI_leI (by omega) (by omega)] at h
        obtain rfl : r = R := by omega
        rw [hR8]
        refine ⟨fun q => absurd rfl q, fun _ => ?_⟩
        ((conv => whnf); (try dsimp only))
        refine ⟨lp_vin (by omega) (by omega), ?_⟩
        rw [lp_clm (by omega)]
        ((conv => whnf); (try dsimp only))
        refine ⟨(n - v) * 10000000 + (30 - i) * 100000 + 20000 + (11 - 0), by omega, ?_⟩
        rw [hLab]
        refine Or.inr (Or.inr (Or.inr (Or.inr (Or.inl ⟨rfl, v, i, 0, S, r, key, rfl, ?_, by omega, hno, ?_, ?_, ?_, fun p' hp' => by omega, rfl⟩))))
        · rw [hInv]
          exact ⟨hv, hi, hS, hgt, lp_Fx_w3 hF (by omega), hRP⟩
        · refine ⟨fun a ha => ?_, fun a p ha hp => by rw [lp_w3_r (by omega)]; exact hMx.2 a p ha hp⟩
          rw [lp_rd, if_neg (by omega)]
          exact hMx.1 a ha
        · rw [lp_w3_r (by omega)]; exact hR8
        · rw [lp_rd]; exact if_pos ⟨rfl, rfl, rfl⟩
      · rw [nI_leI (by omega) (by omega)] at h
        have hkr := (hRP.2.1 r (by omega)).1
        refine ⟨lp_vin (by omega) (by omega), ?_⟩
        rw [lp_clm (by omega), hMx.1 r (by omega)]
        ((conv => whnf); (try dsimp only))
        refine ⟨fun q => ?_, fun q => ?_⟩ <;> ((conv => whnf); (try dsimp only))
        · have q := lp_inj (by omega) (by omega) q
          rw [hR8]
          refine ⟨fun _ => ?_, fun q2 => absurd (lp_inj (by omega) (by omega) q2) (by omega)⟩
          ((conv => whnf); (try dsimp only))
          refine ⟨(n - v) * 10000000 + (30 - i) * 100000 + 10000, by omega, ?_⟩
          rw [hLab]
          exact Or.inr (Or.inr (Or.inr (Or.inr (Or.inr ⟨rfl, v, i, r, S, R, key, x6, rfl, hv, hi, hS, hgt, hF, lp_RwP_old (r := r) hRP (by omega) (by rw [c1]; exact q), hMx, hR8, by omega, q, rfl⟩))))
        · refine ⟨(n - v) * 10000000 + (30 - i) * 100000 + 30000 + (R - (r + 1)), by omega, ?_⟩
          rw [hLab]
          refine Or.inr (Or.inr (Or.inr (Or.inl ⟨rfl, v, i, r + 1, S, R, key, x6, rfl, hI, by omega, fun r' hr' => ?_, hMx, hR8, by rw [nI_succ r]; rfl⟩)))
          by_cases e1 : r' = r
          · subst e1
            exact fun z => q (by rw [z])
          · exact hno r' (by omega)
    · have hI' := hI
      rw [hInv] at hI'
      obtain ⟨hv, hi, hS, hgt, hF, hRP⟩ := hI'
      have hsv := hV.2.2.1 v hv
      have hsn := lpV0_le hV (show v + 1 ≤ n by omega) (Nat.le_refl n)
      have hRl := lp_RwP_le hRP
      have hc := hckl v i kk hv hi (Nat.le_refl _)
      obtain ⟨c1, c2⟩ := hcod v i hv hi
      ((conv => whnf); (try dsimp only))
      refine ⟨fun h => ?_, fun h => ?_⟩ <;> ((conv => whnf); (try dsimp only))
      · have h : 11 ≤ p := (nI_leI (a := 11) (by omega) (by omega)).mp h
        obtain rfl : p = 11 := by omega
        rw [hR8, show nI R + Int32.ofInt 1 = nI (R + 1) from (nI_succ R).symm]
        refine ⟨(n - v) * 10000000 + (30 - i) * 100000 + 10000, by omega, ?_⟩
        rw [hLab]
        have hnew := lp_RwP_new (c := ccod pg kk (s (v + 1)) (s v + kk + i)) hRP (by rw [c1]; exact hc) (by rw [c1]; exact hno)
        rw [c1] at hnew
        refine Or.inr (Or.inr (Or.inr (Or.inr (Or.inr ⟨rfl, v, i, R, S, R + 1, _, some (.inl (nI 11)), rfl, hv, hi, hS, hgt, lp_Fx_w3 hF (by omega), hnew, ?_, ?_, by omega, nu_same _ _ _, rfl⟩))))
        · refine ⟨fun a ha => ?_, fun a p ha hp => ?_⟩
          · rw [lp_w3_r (by omega)]
            by_cases e1 : a = R
            · subst e1
              rw [nu_same]
              exact h36
            · rw [nu_ne e1]
              exact hMx.1 a (by omega)
          · rw [lp_w3_r (by omega)]
            by_cases e1 : a = R
            · subst e1
              rw [nu_same, lp_occ0 hRP hno hp]
              exact h37 p hp
            · rw [nu_ne e1]
              exact hMx.2 a p (by omega) hp
        · rw [lp_rd]; exact if_pos ⟨rfl, rfl, rfl⟩
      · have h : ¬ 11 ≤ p := fun z => h ((nI_leI (a := 11) (by omega) (by omega)).mpr z)
        rw [show (Int8.ofInt 11).toInt32 * nI R + nI p = nI (11 * R + p) from lp_ix]
        refine ⟨lp_vin (by omega) (by omega), ?_⟩
        rw [lp_clm (by omega)]
        ((conv => whnf); (try dsimp only))
        refine ⟨(n - v) * 10000000 + (30 - i) * 100000 + 20000 + (11 - (p + 1)), by omega, ?_⟩
        rw [hLab]
        refine Or.inr (Or.inr (Or.inr (Or.inr (Or.inl ⟨rfl, v, i, p + 1, S, R, key, rfl, ?_, by omega, hno, ?_, ?_, ?_, fun p' hp' => ?_, by rw [nI_succ p]; rfl⟩))))
        · rw [hInv]
          exact ⟨hv, hi, hS, hgt, lp_Fx_w3 hF (by omega), hRP⟩
        · refine ⟨fun a ha => by rw [lp_w3_r (by omega)]; exact hMx.1 a ha, fun a p' ha hp' => ?_⟩
          rw [lp_rd, if_neg (by omega)]
          exact hMx.2 a p' ha hp'
        · rw [lp_w3_r (by omega)]; exact hR8
        · rw [lp_w3_r (by omega)]; exact h36
        · rw [lp_rd]
          by_cases e1 : p' = p
          · subst e1
            rw [if_pos ⟨rfl, rfl, rfl⟩]
            rfl
          · rw [if_neg (by omega)]
            exact h37 p' (by omega)
    · have hsv := hV.2.2.1 v hv
      have hsn := lpV0_le hV (show v + 1 ≤ n by omega) (Nat.le_refl n)
      have hRl : R ≤ S.1 + 1 := lp_RwP_le hRP
      obtain ⟨c1, c2⟩ := hcod v i hv hi
      have htl := ltt_le (i := i + kk) hV hpg hv
      ((conv => whnf); (try dsimp only))
      rw [nI_add]
      refine ⟨rfl, rfl, (n, s, pg, wt), v, i + kk, lp_Fx_g hG hF, rfl, rfl, hv, by omega, ?_⟩
      ((conv => whnf); (try dsimp only))
      rw [show (Int8.ofInt 11).toInt32 * nI r + nI (ltt s pg v (i + kk)) = nI (11 * r + ltt s pg v (i + kk)) from lp_ix]
      refine ⟨lp_vin (by omega) (by omega), ?_⟩
      rw [lp_clm (by omega), hMx.2 r _ hr (by omega)]
      ((conv => whnf); (try dsimp only))
      refine ⟨lp_vin (by omega) (by omega), ?_⟩
      rw [lp_clm (by omega), show nI (occ S.2 S.1 (key r * 11 + ltt s pg v (i + kk))) + Int32.ofInt 1 = nI (occ S.2 S.1 (key r * 11 + ltt s pg v (i + kk)) + 1) from (nI_succ _).symm]
      ((conv => whnf); (try dsimp only))
      have hinc := lp_MDx_inc hMx hRP hr (by rw [c1]; exact hkr)
      rw [c2] at hinc
      refine ⟨(n - v) * 10000000 + (30 - (i + 1)) * 100000 + 50000, by omega, ?_⟩
      rw [hLab]
      exact Or.inr (Or.inl ⟨rfl, v, i + 1, _, R, key, some (.inl (nI (ckey pg (s v + i) kk))), some (.inl (nI r)), x6, rfl, hv, by omega, by show S.1 + 1 ≤ s v + (i + 1); omega, hgt, fun z => by omega, fun _ => by show S.1 + 1 ≤ s (v + 1); omega, lp_Fx_w3 hF (by omega), hRP, hinc, by rw [lp_w3_r (by omega)]; exact hR8, by rw [nI_succ i]; rfl⟩)
