/-! ===== the model: deal, walk ===== -/
def lp_dlF (F : Nat) (o : Option (Nat × Nat)) : Int32 × Int32 := match o with
  | none => (-1, nI 0)
  | some (b, t) => (nI (F + b), nI t)
def sp_X7_deal : lpS := fun as σ Q => match as with
  | [.inr (some (r1, k1)), .inr (some (r2, k2)), .inl x, .inl y] => ∃ (len1 len2 : Nat → Nat) (F n b : Nat) (cnt came : Nat → Nat), lp_lay r1 = some (.inr (.inl len1)) ∧ lp_lay r2 = some (.inr (.inl len2)) ∧ F + n ≤ len1 k1 ∧ F + n ≤ len2 k2 ∧ len1 k1 < 2 ^ 30 ∧ len2 k2 < 2 ^ 30 ∧ x = nI F ∧ y = nI n ∧ (∀ i, i < n → σ r1 k1 (F + i) = nI (cnt i) ∧ σ r2 k2 (F + i) = nI (came i)) ∧ lsum cnt n < 30000 ∧ lsum came n < 30000 ∧ dl cnt came n = some b ∧ Q (some (nI b)) (lp_w3 σ r2 k2 (F + b) (nI (came b + 1)))
  | _ => False
set_option maxHeartbeats 4000000 in
set_option maxRecDepth 100000 in
theorem ct_X7_deal (l : Launch) (D : va_G) (cI cD : ClassId) : lp_Ct l D cI cD yX7_deal cX7_deal 10 (some .int) 0 sp_X7_deal := by
  refine lp_method flX7 pfX7 kcX7 [] false kX7_deal [9, 50] rfl rfl (lp_rI rfl) flX7_ok pfX7_ok kcX7_ok kX7_deal_ok ⟨_, _, rfl, rfl⟩ lp_cs0 ?_
  intro as σ Q hok hs
  rcases as with _ | ⟨_ | _ | ⟨r1, k1⟩, _ | ⟨_ | _ | ⟨r2, k2⟩, _ | ⟨x | _, _ | ⟨y | _, _ | ⟨c, as⟩⟩⟩⟩⟩ <;> try exact (hs : False).elim
  obtain ⟨len1, len2, F, n, b, cnt, came, hl1, hl2, hF1, hF2, h31, h32, rfl, rfl, hD, hB1, hB2, hdl, hq⟩ := hs
  generalize hN : lsum cnt n = N at *
  generalize hj : lsum came n = j at *
  have hS : ∃ t, dlS cnt came N (j + 1) n = some (b, t) := by
    unfold dl at hdl
    rw [hN, hj] at hdl
    rcases hd : dlS cnt came N (j + 1) n with _ | ⟨b', t⟩ <;> rw [hd] at hdl <;> simp at hdl
    exact ⟨t, by rw [hdl]⟩
  obtain ⟨Lab, hLab⟩ : ∃ Lab : Nat → Nat → lpL → lpM → Prop, Lab = fun m pc L τ => σ = τ ∧
    ((pc = 9 ∧ ∃ (i : Nat) (x7 x8 x9 : Option lpV), m = 2 ^ 31 + (n - i) ∧ i ≤ n ∧ L = [some (.inr (some (r1, k1))), some (.inr (some (r2, k2))), some (.inl (nI F)), some (.inl (nI n)), some (.inl (nI (lsum cnt i))), some (.inl (nI (lsum came i + 1))), some (.inl (nI (F + i))), x7, x8, x9]) ∨
    (pc = 50 ∧ ∃ (i : Nat) (x9 : Option lpV), m = n - i ∧ i ≤ n ∧ L = [some (.inr (some (r1, k1))), some (.inr (some (r2, k2))), some (.inl (nI F)), some (.inl (nI n)), some (.inl (nI N)), some (.inl (nI (j + 1))), some (.inl (lp_dlF F (dlS cnt came N (j + 1) i)).1), some (.inl (lp_dlF F (dlS cnt came N (j + 1) i)).2), some (.inl (nI (F + i))), x9])) := ⟨_, rfl⟩
  refine ⟨by show 4 ≤ 10; omega, Lab, ?_, ?_⟩
  · ((conv => whnf); (try dsimp only))
    exact ⟨2 ^ 31 + (n - 0), by rw [hLab]; exact ⟨rfl, Or.inl ⟨rfl, 0, none, none, none, rfl, by omega, rfl⟩⟩⟩
  · intro m pc L τ hh
    rw [hLab] at hh
    obtain ⟨rfl, ⟨rfl, i, x7, x8, x9, rfl, hi, rfl⟩ | ⟨rfl, i, x9, rfl, hi, rfl⟩⟩ := hh
    · ((conv => whnf); (try dsimp only))
      rw [nI_add]
      refine ⟨fun h => ?_, fun h => ?_⟩ <;> ((conv => whnf); (try dsimp only))
      · rw [nI_leI (by omega) (by omega)] at h
        obtain rfl : i = n := by omega
        refine ⟨i - 0, by omega, ?_⟩
        rw [hLab]
        exact ⟨rfl, Or.inr ⟨rfl, 0, x9, rfl, by omega, by rw [hN, hj]; rfl⟩⟩
      · rw [nI_leI (by omega) (by omega)] at h
        obtain ⟨d1, d2⟩ := hD i (by omega)
        rw [hl1]
        ((conv => whnf); (try dsimp only))
        refine ⟨lp_vin (by omega) (by omega), ?_⟩
        rw [lp_clm (by omega), d1]
        ((conv => whnf); (try dsimp only))
        rw [hl2]
        ((conv => whnf); (try dsimp only))
        refine ⟨lp_vin (by omega) (by omega), ?_⟩
        rw [lp_clm (by omega), d2]
        ((conv => whnf); (try dsimp only))
        refine ⟨2 ^ 31 + (n - (i + 1)), by omega, ?_⟩
        rw [hLab]
        refine ⟨rfl, Or.inl ⟨rfl, i + 1, x7, x8, x9, rfl, by omega, ?_⟩⟩
        rw [nI_add, nI_add, show lsum cnt (i + 1) = lsum cnt i + cnt i from rfl, show lsum came (i + 1) + 1 = lsum came i + 1 + came i from by show lsum came i + came i + 1 = _; omega, show F + (i + 1) = F + i + 1 from rfl, nI_succ (F + i)]
        rfl
    · ((conv => whnf); (try dsimp only))
      rw [nI_add]
      refine ⟨fun h => ?_, fun h => ?_⟩ <;> ((conv => whnf); (try dsimp only))
      · rw [nI_leI (by omega) (by omega)] at h
        obtain rfl : i = n := by omega
        obtain ⟨t, ht⟩ := hS
        have hlt := dlS_lt ht
        rw [ht]
        dsimp only [lp_dlF]
        rw [hl2]
        ((conv => whnf); (try dsimp only))
        obtain ⟨d1, d2⟩ := hD b hlt.1
        refine ⟨lp_vin (by omega) (by omega), ?_⟩
        rw [lp_clm (by omega), d2]
        ((conv => whnf); (try dsimp only))
        rw [hl2]
        ((conv => whnf); (try dsimp only))
        refine ⟨lp_vin (by omega) (by omega), ?_⟩
        rw [lp_clm (by omega), show nI (came b) + Int32.ofInt 1 = nI (came b + 1) from (nI_succ _).symm]
        ((conv => whnf); (try dsimp only))
        rw [pk_sub (show F ≤ F + b by omega), show F + b - F = b by omega]
        exact hq
      · rw [nI_leI (by omega) (by omega)] at h
        have hi2 : i < n := by omega
        obtain ⟨d1, d2⟩ := hD i hi2
        have hc1 : cnt i ≤ N := by rw [← hN]; exact lsum_mem hi2
        have hc2 : came i ≤ j := by rw [← hj]; exact lsum_mem hi2
        have step : ∀ (o : Option (Nat × Nat)) (x9 : Option lpV), dlS cnt came N (j + 1) (i + 1) = o → lp_ex Lab (n - i) 50 [some (.inr (some (r1, k1))), some (.inr (some (r2, k2))), some (.inl (nI F)), some (.inl (nI n)), some (.inl (nI N)), some (.inl (nI (j + 1))), some (.inl (lp_dlF F o).1), some (.inl (lp_dlF F o).2), some (.inl (nI (F + i) + Int32.ofInt 1)), x9] σ := by
          intro o x9 ho
          subst ho
          refine ⟨n - (i + 1), by omega, ?_⟩
          rw [hLab]
          refine ⟨rfl, Or.inr ⟨rfl, i + 1, x9, rfl, by omega, ?_⟩⟩
          rw [show F + (i + 1) = F + i + 1 from rfl, nI_succ (F + i)]
          rfl
        rw [hl1]
        ((conv => whnf); (try dsimp only))
        refine ⟨lp_vin (by omega) (by omega), ?_⟩
        rw [lp_clm (by omega), d1]
        ((conv => whnf); (try dsimp only))
        refine ⟨fun q => ?_, fun q => ?_⟩ <;> ((conv => whnf); (try dsimp only))
        · have hz : cnt i = 0 := lp_inj (by omega) (by omega) q
          exact step _ x9 (dlS_skip (Or.inl hz))
        · have hz : 0 < cnt i := Nat.pos_of_ne_zero (fun z => q (by rw [z]; rfl))
          rw [hl2]
          ((conv => whnf); (try dsimp only))
          refine ⟨lp_vin (by omega) (by omega), ?_⟩
          rw [lp_clm (by omega), d2]
          ((conv => whnf); (try dsimp only))
          rw [hl1]
          ((conv => whnf); (try dsimp only))
          refine ⟨lp_vin (by omega) (by omega), ?_⟩
          rw [lp_clm (by omega), d1]
          ((conv => whnf); (try dsimp only))
          have hm1 : came i * N ≤ 30000 * 30000 := Nat.mul_le_mul (by omega) (by omega)
          have hm2 : (came i + 1) * N ≤ 30000 * 30000 := Nat.mul_le_mul (by omega) (by omega)
          refine ⟨nI_ne0 hz (by omega), ?_⟩
          rw [pk_mul, pk_div (by omega) hz (by omega)]
          have hdv : came i * N / cnt i ≤ came i * N := Nat.div_le_self _ _
          ((conv => whnf); (try dsimp only))
          refine ⟨fun q2 => ?_, fun q2 => ?_⟩ <;> ((conv => whnf); (try dsimp only))
          · rw [nI_ltI (by omega) (by omega)] at q2
            rw [hl2]
            ((conv => whnf); (try dsimp only))
            refine ⟨lp_vin (by omega) (by omega), ?_⟩
            rw [lp_clm (by omega), d2]
            ((conv => whnf); (try dsimp only))
            rw [hl1]
            ((conv => whnf); (try dsimp only))
            refine ⟨lp_vin (by omega) (by omega), ?_⟩
            rw [lp_clm (by omega), d1]
            ((conv => whnf); (try dsimp only))
            rw [hl1]
            ((conv => whnf); (try dsimp only))
            refine ⟨lp_vin (by omega) (by omega), ?_⟩
            rw [lp_clm (by omega), d1]
            ((conv => whnf); (try dsimp only))
            refine ⟨nI_ne0 hz (by omega), ?_⟩
            rw [show nI (came i) + Int32.ofInt 1 = nI (came i + 1) from (nI_succ _).symm, pk_mul, nI_add, show nI ((came i + 1) * N + cnt i) - Int32.ofInt 1 = nI ((came i + 1) * N + cnt i - 1) from pk_sub (a := (came i + 1) * N + cnt i) (b := 1) (by omega), pk_div (by omega) hz (by omega)]
            rw [show ((came i + 1) * N + cnt i - 1) / cnt i = dlT N (came i) (cnt i) from rfl]
            have hT : dlT N (came i) (cnt i) ≤ (came i + 1) * N + cnt i - 1 := Nat.div_le_self _ _
            have hS2 : dlS cnt came N (j + 1) (i + 1) = (match dlS cnt came N (j + 1) i with
              | none => some (i, dlT N (came i) (cnt i))
              | some (b, t) => if dlT N (came i) (cnt i) < t then some (i, dlT N (came i) (cnt i)) else some (b, t)) := by
              conv => lhs; unfold dlS
              rw [if_neg (by omega)]
              rfl
            ((conv => whnf); (try dsimp only))
            rcases hd : dlS cnt came N (j + 1) i with _ | ⟨b', t'⟩ <;> rw [hd] at hS2
            · dsimp only [lp_dlF]
              refine ⟨fun _ => ?_, fun q3 => absurd rfl q3⟩
              ((conv => whnf); (try dsimp only))
              exact step _ _ hS2
            · have hlt := dlS_lt hd
              have hc1' : cnt b' ≤ N := by rw [← hN]; exact lsum_mem (by omega)
              have hc2' : came b' ≤ j := by rw [← hj]; exact lsum_mem (by omega)
              have hm2' : (came b' + 1) * N ≤ 30000 * 30000 := Nat.mul_le_mul (by omega) (by omega)
              have hT' : t' ≤ (came b' + 1) * N + cnt b' - 1 := by rw [hlt.2.2.1]; exact Nat.div_le_self _ _
              dsimp only [lp_dlF] at hS2 ⊢
              refine ⟨fun q3 => absurd q3 (lp_neg1 (by omega)), fun _ => ?_⟩
              ((conv => whnf); (try dsimp only))
              refine ⟨fun q3 => ?_, fun q3 => ?_⟩ <;> ((conv => whnf); (try dsimp only))
              · rw [nI_leI (by omega) (by omega)] at q3
                rw [if_neg (by omega)] at hS2
                exact step _ _ hS2
              · rw [nI_leI (by omega) (by omega)] at q3
                rw [if_pos (by omega)] at hS2
                exact step _ _ hS2
          · rw [nI_ltI (by omega) (by omega)] at q2
            exact step _ x9 (dlS_skip (Or.inr (by omega)))
/-- WALKS as the model has them -/
def lp_MV (σ : lpM) (n : Nat) (s pg wt : Nat → Nat) : Prop := lpV0 n s wt ∧ (∀ j, j < s n → pg j < 10) ∧ (∀ v, v < n → σ 38 0 v = nI (s (v + 1) - s v)) ∧ (∀ v i, v < n → i < s (v + 1) - s v → σ 39 0 (20 * v + i) = nI (pg (s v + i)) ∧ σ 40 0 (20 * v + i) = nI (wt (s v + i)))
theorem lp_MV_congr {σ τ : lpM} {n : Nat} {s pg wt : Nat → Nat} (h : lp_MV σ n s pg wt) (hr : ∀ r, 38 ≤ r → r ≤ 40 → τ r = σ r) : lp_MV τ n s pg wt := by
  unfold lp_MV
  rw [hr 38 (by omega) (by omega), hr 39 (by omega) (by omega), hr 40 (by omega) (by omega)]
  exact h
theorem lp_MV_open {σ : lpM} {n : Nat} {s pg wt : Nat → Nat} (h : lp_MV σ n s pg wt) (hn : n < 60) : lp_MV (lp_w3 σ 38 0 n (nI 0)) (n + 1) (nu s (n + 1) (s n)) pg wt := by
  obtain ⟨hV, hpg, g1, g2⟩ := h
  refine ⟨lpV0_open hV hn, fun j hj => hpg j (by rw [nu_same] at hj; exact hj), fun v hv => ?_, fun v i hv hi => ?_⟩
  · rw [lp_rd]
    by_cases e2 : v = n
    · subst e2
      rw [if_pos ⟨rfl, rfl, rfl⟩, nu_same, nu_ne (by omega), Nat.sub_self]
    · rw [if_neg (fun z => e2 z.2.2), nu_ne (by omega), nu_ne (by omega)]
      exact g1 v (by omega)
  · rw [lp_w3_r (by omega), lp_w3_r (by omega), nu_ne (show v ≠ n + 1 by omega)]
    by_cases e2 : v = n
    · subst e2
      rw [nu_same, nu_ne (by omega)] at hi
      omega
    · rw [nu_ne (by omega), nu_ne (by omega)] at hi
      exact g2 v i (by omega) hi
theorem lp_MV_add {σ τ : lpM} {v t w : Nat} {s pg wt : Nat → Nat} (h : lp_MV σ (v + 1) s pg wt) (hl : s (v + 1) - s v < 20) (ht : t < 10) (hw : w ≤ 60) (t38 : ∀ u, τ 38 0 u = if u = v then nI (s (v + 1) - s v + 1) else σ 38 0 u) (t39 : ∀ u, τ 39 0 u = if u = 20 * v + (s (v + 1) - s v) then nI t else σ 39 0 u) (t40 : ∀ u, τ 40 0 u = if u = 20 * v + (s (v + 1) - s v) then nI w else σ 40 0 u) : lp_MV τ (v + 1) (nu s (v + 1) (s (v + 1) + 1)) (nu pg (s (v + 1)) t) (nu wt (s (v + 1)) w) := by
  obtain ⟨hV, hpg, g1, g2⟩ := h
  have hsv := hV.2.2.1 v (by omega)
  refine ⟨lpV0_add hV hl hw, fun j hj => ?_, fun u hu => ?_, fun u i hu hi => ?_⟩
  · rw [nu_same] at hj
    by_cases e4 : j = s (v + 1)
    · subst e4; rw [nu_same]; exact ht
    · rw [nu_ne e4]; exact hpg j (by omega)
  · rw [t38]
    by_cases e4 : u = v
    · subst e4
      rw [if_pos rfl, nu_same, nu_ne (by omega)]
      congr 1
      omega
    · rw [if_neg e4, nu_ne (by omega), nu_ne (by omega)]
      exact g1 u (by omega)
  · rw [nu_ne (show u ≠ v + 1 by omega)] at hi ⊢
    rw [t39, t40]
    by_cases e4 : u = v
    · subst e4
      rw [nu_same] at hi
      by_cases e5 : i = s (u + 1) - s u
      · subst e5
        rw [if_pos rfl, if_pos rfl, show s u + (s (u + 1) - s u) = s (u + 1) by omega, nu_same, nu_same]
        exact ⟨rfl, rfl⟩
      · rw [if_neg (fun z => e5 (by omega)), if_neg (fun z => e5 (by omega)), nu_ne (by omega), nu_ne (by omega)]
        exact g2 u i (by omega) (by omega)
    · rw [nu_ne (by omega)] at hi
      have h1 := hV.2.2.1 u (by omega)
      have h2 := lpV0_le hV (show u + 1 ≤ v by omega) (show v ≤ v + 1 by omega)
      rw [if_neg (fun z => by omega), if_neg (fun z => by omega), nu_ne (by omega), nu_ne (by omega)]
      exact g2 u i (by omega) hi
def lp_MW (σ : lpM) (cn wn cm cw : Nat → Nat → Nat) : Prop := (∀ f, f < 11 → ∀ t, t < 11 → σ 47 0 (11 * f + t) = nI (cn f t) ∧ σ 45 0 (11 * f + t) = nI (cm f t)) ∧ (∀ j, j < 121 → ∀ w, w < 61 → σ 48 0 (j * 61 + w) = nI (wn j w) ∧ σ 46 0 (j * 61 + w) = nI (cw j w))
theorem lp_MW_congr {σ τ : lpM} {cn wn cm cw : Nat → Nat → Nat} (h : lp_MW σ cn wn cm cw) (hr : ∀ r, 45 ≤ r → r ≤ 48 → τ r = σ r) : lp_MW τ cn wn cm cw := by
  unfold lp_MW
  rw [hr 45 (by omega) (by omega), hr 46 (by omega) (by omega), hr 47 (by omega) (by omega), hr 48 (by omega) (by omega)]
  exact h
theorem lp_MW_place {σ : lpM} {cn wn cm cw : Nat → Nat → Nat} {a t : Nat} (h : lp_MW σ cn wn cm cw) (ha : a < 11) (ht : t < 11) : lp_MW (lp_w3 σ 45 0 (11 * a + t) (nI (cm a t + 1))) cn wn (u2 cm a t) cw := by
  refine ⟨fun f hf y hy => ⟨by rw [lp_w3_r (by omega)]; exact (h.1 f hf y hy).1, ?_⟩, fun j hj w hw => by rw [lp_w3_r (by omega), lp_w3_r (by omega)]; exact h.2 j hj w hw⟩
  rw [lp_rd]
  unfold u2
  by_cases e1 : f = a ∧ y = t
  · obtain ⟨rfl, rfl⟩ := e1
    rw [if_pos ⟨rfl, rfl, rfl⟩, if_pos ⟨rfl, rfl⟩]
  · rw [if_neg (fun z => e1 (by omega)), if_neg e1]
    exact (h.1 f hf y hy).2
theorem lp_MW_wait {σ : lpM} {cn wn cm cw : Nat → Nat → Nat} {i w : Nat} (h : lp_MW σ cn wn cm cw) (hi : i < 121) (hw : w < 61) : lp_MW (lp_w3 σ 46 0 (i * 61 + w) (nI (cw i w + 1))) cn wn cm (u2 cw i w) := by
  refine ⟨fun f hf y hy => by rw [lp_w3_r (by omega), lp_w3_r (by omega)]; exact h.1 f hf y hy, fun j hj y hy => ⟨by rw [lp_w3_r (by omega)]; exact (h.2 j hj y hy).1, ?_⟩⟩
  rw [lp_rd]
  unfold u2
  by_cases e1 : j = i ∧ y = w
  · obtain ⟨rfl, rfl⟩ := e1
    rw [if_pos ⟨rfl, rfl, rfl⟩, if_pos ⟨rfl, rfl⟩]
  · rw [if_neg (fun z => e1 (by omega)), if_neg e1]
    exact (h.2 j hj y hy).2
def lp_FW (σ τ : lpM) : Prop := ∀ r, ¬ (38 ≤ r ∧ r ≤ 40) → r ≠ 45 → r ≠ 46 → τ r = σ r
def sp_X7_walk : lpS := fun as σ Q => match as with
  | [.inr (some (r, k)), .inl x] => r = 30 ∧ k = 0 ∧ ∃ (cn wn : Nat → Nat → Nat) (s : Nat → Nat) (v D : Nat) (S : lpW), x = nI v ∧ v < 60 ∧ lpG cn wn ∧ lp_MW σ cn wn S.2.2.2.1 S.2.2.2.2 ∧ lp_MV σ v s S.2.1 S.2.2.1 ∧ S.1 = s v ∧ lpB D S ∧ D < 20000 ∧
      ∀ τ, lp_MW τ cn wn (wk cn wn 20 10 S).2.2.2.1 (wk cn wn 20 10 S).2.2.2.2 → lp_MV τ (v + 1) (nu s (v + 1) (wk cn wn 20 10 S).1) (wk cn wn 20 10 S).2.1 (wk cn wn 20 10 S).2.2.1 → lp_FW σ τ → Q none τ
  | _ => False
set_option maxHeartbeats 4000000 in
set_option maxRecDepth 100000 in
theorem ct_X7_walk (l : Launch) (D : va_G) (cI cD : ClassId) : lp_Ct l D cI cD yX7_walk cX7_walk 5 none 1 sp_X7_walk := by
  refine lp_method flX7 pfX7 kcX7 [(115, none, 4, sp_X7_deal)] false kX7_walk [10] rfl rfl (lp_rV rfl) flX7_ok pfX7_ok kcX7_ok kX7_walk_ok ⟨_, _, rfl, rfl⟩ (lp_cs1 (lp_mkCall lkX7_115 (ct_X7_deal l D cI cD) (by omega)) lp_cs0) ?_
  intro as σ Q hok hs
  rcases as with _ | ⟨_ | _ | ⟨r, k⟩, _ | ⟨x | _, _ | ⟨c, as⟩⟩⟩ <;> try exact (hs : False).elim
  obtain ⟨rfl, rfl, cn, wn, s, v, D, S, rfl, hv, hG, hW, hV, hS, hB, hD, hq⟩ := hs
  generalize hF : wk cn wn 20 10 S = F at hq
  obtain ⟨Lab, hLab⟩ : ∃ Lab : Nat → Nat → lpL → lpM → Prop, Lab = fun m pc L τ => pc = 10 ∧ ∃ (i a : Nat) (x3 x4 : Option lpV) (S' : lpW), m = 20 - i ∧ i ≤ 20 ∧ a ≤ 10 ∧ 0 < lsum (cn a) 11 ∧ wk cn wn (20 - i) a S' = F ∧ lp_MW τ cn wn S'.2.2.2.1 S'.2.2.2.2 ∧ lp_MV τ (v + 1) (nu s (v + 1) S'.1) S'.2.1 S'.2.2.1 ∧ S'.1 = s v + i ∧ lpB (D + i) S' ∧ lp_FW σ τ ∧
    L = [some (.inr (some (30, 0))), some (.inl (nI v)), some (.inl (nI a)), x3, x4] := ⟨_, rfl⟩
  refine ⟨by show 2 ≤ 5; omega, Lab, ?_, ?_⟩
  · ((conv => whnf); (try dsimp only))
    refine ⟨lp_vin (by omega) (by omega), ?_⟩
    rw [lp_clm (by omega)]
    ((conv => whnf); (try dsimp only))
    refine ⟨20 - 0, ?_⟩
    rw [hLab]
    refine ⟨rfl, 0, 10, none, none, S, rfl, by omega, Nat.le_refl _, hG.2.2.1, hF, ?_, ?_, by omega, hB, ?_, rfl⟩
    · exact lp_MW_congr hW (fun r _ _ => by rw [lp_w3_r (by omega)])
    · rw [hS]
      exact lp_MV_open hV hv
    · exact fun r h1 _ _ => by rw [lp_w3_r (by omega)]
  · intro m pc L τ hh
    rw [hLab] at hh
    obtain ⟨rfl, i, a, x3, x4, S', rfl, hi, ha, hsa, hwk, hW', hV', hS', hB', hFW, rfl⟩ := hh
    have e1 : nu s (v + 1) S'.1 (v + 1) = S'.1 := nu_same _ _ _
    have e2 : nu s (v + 1) S'.1 v = s v := nu_ne (by omega)
    have w38 : τ 38 0 v = nI i := by
      rw [hV'.2.2.1 v (by omega), e1, e2, hS']
      congr 1
      omega
    ((conv => whnf); (try dsimp only))
    refine ⟨lp_vin (by omega) (by omega), ?_⟩
    rw [lp_clm (by omega), w38]
    ((conv => whnf); (try dsimp only))
    refine ⟨fun h => ?_, fun h => ?_⟩ <;> ((conv => whnf); (try dsimp only))
    · have h : 20 ≤ i := (nI_leI (a := 20) (by omega) (by omega)).mp h
      obtain rfl : i = 20 := by omega
      have hwk : S' = F := hwk
      subst hwk
      exact hq τ hW' hV' hFW
    · have h : ¬ 20 ≤ i := fun z => h ((nI_leI (a := 20) (by omega) (by omega)).mpr z)
      obtain ⟨t, t1, t2, t3, t4⟩ := wk_step hG (n := 20 - i - 1) (S := S') ha hsa
      rw [show 20 - i - 1 + 1 = 20 - i by omega, hwk] at t4
      refine ⟨fun _ => 121, fun _ => 121, 11 * a, 11, t, cn a, S'.2.2.2.1 a, rfl, rfl, by show 11 * a + 11 ≤ 121; omega, by show 11 * a + 11 ≤ 121; omega, by show 121 < 2 ^ 30; omega, by show 121 < 2 ^ 30; omega, pk_mul 11 a, rfl, fun y hy => hW'.1 a (by omega) y hy, hG.1 a ha, by have := hB'.1 a; omega, t3, ?_⟩
      ((conv => whnf); (try dsimp only))
      have hW1 := lp_MW_place (t := t) hW' (show a < 11 by omega) t1
      have hV1 := lp_MV_congr (τ := lp_w3 τ 45 0 (11 * a + t) (nI (S'.2.2.2.1 a t + 1))) hV' (fun r _ _ => by rw [lp_w3_r (by omega)])
      have hF1 : lp_FW σ (lp_w3 τ 45 0 (11 * a + t) (nI (S'.2.2.2.1 a t + 1))) := fun r h1 h2 h3 => by rw [lp_w3_r (by omega)]; exact hFW r h1 h2 h3
      have w38' : lp_w3 τ 45 0 (11 * a + t) (nI (S'.2.2.2.1 a t + 1)) 38 0 v = nI i := by rw [lp_w3_r (by omega)]; exact w38
      generalize lp_w3 τ 45 0 (11 * a + t) (nI (S'.2.2.2.1 a t + 1)) = σ1 at hW1 hV1 hF1 w38' ⊢
      have e10 : (nI t = (Int8.ofInt 10).toInt32) ↔ t = 10 := nI_eq (a := t) (b := 10) (by omega) (by omega)
      refine ⟨fun q => ?_, fun q => ?_⟩ <;> ((conv => whnf); (try dsimp only))
      · rcases t4 with ⟨rfl, t5⟩ | ⟨t5, t6, w, t7, t8, t9, t10⟩
        · exact absurd (e10.mpr rfl) q
        refine ⟨lp_vin (by omega) (by omega), ?_⟩
        rw [lp_clm (by omega), w38']
        ((conv => whnf); (try dsimp only))
        rw [show (Int8.ofInt 20).toInt32 * nI v + nI i = nI (20 * v + i) from lp_ix]
        refine ⟨lp_vin (by omega) (by omega), ?_⟩
        rw [lp_clm (by omega)]
        ((conv => whnf); (try dsimp only))
        have hj : a * 11 + t < 121 := by omega
        have hW2 : lp_MW (lp_w3 σ1 39 0 (20 * v + i) (nI t)) cn wn (u2 S'.2.2.2.1 a t) S'.2.2.2.2 := lp_MW_congr hW1 (fun r _ _ => by rw [lp_w3_r (by omega)])
        refine ⟨fun _ => 7381, fun _ => 7381, (a * 11 + t) * 61, 61, w, wn (a * 11 + t), S'.2.2.2.2 (a * 11 + t), rfl, rfl, by show (a * 11 + t) * 61 + 61 ≤ 7381; omega, by show (a * 11 + t) * 61 + 61 ≤ 7381; omega, by show 7381 < 2 ^ 30; omega, by show 7381 < 2 ^ 30; omega, ?_, rfl, fun y hy => hW2.2 _ hj y hy, hG.2.1 _ hj, by have := hB'.2 (a * 11 + t); omega, t9, ?_⟩
        · rw [show (Int8.ofInt 11).toInt32 * nI a + nI t = nI (a * 11 + t) from by rw [Nat.mul_comm a 11]; exact lp_ix]
          exact pk_mul (a * 11 + t) 61
        have hW3 := lp_MW_wait hW2 hj t7
        ((conv => whnf); (try dsimp only))
        refine ⟨lp_vin (by omega) (by omega), ?_⟩
        rw [lp_clm (by omega)]
        ((conv => whnf); (try dsimp only))
        refine ⟨lp_vin (by omega) (by omega), ?_⟩
        have w38'' : lp_w3 (lp_w3 (lp_w3 σ1 39 0 (20 * v + i) (nI t)) 46 0 ((a * 11 + t) * 61 + w) (nI (S'.2.2.2.2 (a * 11 + t) w + 1))) 40 0 (20 * v + i) (nI w) 38 0 v = nI i := by
          rw [lp_w3_r (by omega), lp_w3_r (by omega), lp_w3_r (by omega)]; exact w38'
        rw [lp_clm (by omega), w38'']
        ((conv => whnf); (try dsimp only))
        refine ⟨lp_vin (by omega) (by omega), ?_⟩
        rw [lp_clm (by omega), show nI i + Int32.ofInt 1 = nI (i + 1) from (nI_succ i).symm]
        ((conv => whnf); (try dsimp only))
        have hl : nu s (v + 1) S'.1 (v + 1) - nu s (v + 1) S'.1 v = i := by rw [e1, e2, hS']; omega
        have hV4 := lp_MV_add (τ := lp_w3 (lp_w3 (lp_w3 (lp_w3 σ1 39 0 (20 * v + i) (nI t)) 46 0 ((a * 11 + t) * 61 + w) (nI (S'.2.2.2.2 (a * 11 + t) w + 1))) 40 0 (20 * v + i) (nI w)) 38 0 v (nI (i + 1))) (t := t) (w := w) hV1 (by rw [hl]; omega) t5 (by omega) (fun u => by
          rw [hl, lp_rd, lp_w3_r (by omega), lp_w3_r (by omega), lp_w3_r (by omega)]
          simp) (fun u => by
          rw [hl, lp_w3_r (by omega), lp_w3_r (by omega), lp_w3_r (by omega), lp_rd]
          simp) (fun u => by
          rw [hl, lp_w3_r (by omega), lp_rd, lp_w3_r (by omega), lp_w3_r (by omega)]
          simp)
        rw [e1, nu_nu] at hV4
        refine ⟨20 - (i + 1), by omega, ?_⟩
        rw [hLab]
        refine ⟨rfl, i + 1, t, some (.inl (nI t)), some (.inl (nI (20 * v + i))), (S'.1 + 1, nu S'.2.1 S'.1 t, nu S'.2.2.1 S'.1 w, u2 S'.2.2.2.1 a t, u2 S'.2.2.2.2 (a * 11 + t) w), rfl, by omega, by omega, t6, ?_, ?_, hV4, by dsimp only; omega, lpB_step hB', ?_, rfl⟩
        · rw [t10, show 20 - (i + 1) = 20 - i - 1 by omega]
        · exact lp_MW_congr hW3 (fun r _ _ => by rw [lp_w3_r (by omega), lp_w3_r (by omega)])
        · exact fun r h1 h2 h3 => by
            rw [lp_w3_r (by omega), lp_w3_r (by omega), lp_w3_r (by omega), lp_w3_r (by omega)]
            exact hF1 r h1 h2 h3
      · have ht10 := e10.mp q
        rcases t4 with ⟨-, t5⟩ | ⟨t5, -⟩
        · subst t5
          exact hq σ1 hW1 hV1 hF1
        · omega
