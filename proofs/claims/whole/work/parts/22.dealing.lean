/-! ===== Dealing: the cell (26, k), its counts (27, k), what came (28, k) ===== -/
def sp_X1_sumOf : lpS := fun as σ Q => match as with
  | [.inr (some (r, k))] => ∃ (len f : Nat → Nat), lp_lay r = some (.inr (.inl len)) ∧ len k < 2 ^ 31 ∧ (∀ i, i < len k → σ r k i = nI (f i)) ∧ Q (some (nI (lsum f (len k)))) σ
  | _ => False
set_option maxHeartbeats 4000000 in
set_option maxRecDepth 100000 in
theorem ct_X1_sumOf (l : Launch) (D : va_G) (cI cD : ClassId) : lp_Ct l D cI cD yX1_sumOf cX1_sumOf 6 (some .int) 0 sp_X1_sumOf := by
  refine lp_method flX1 pfX1 kcX1 [] false kX1_sumOf [10] rfl rfl (lp_rI rfl) flX1_ok pfX1_ok kcX1_ok kX1_sumOf_ok ⟨_, _, rfl, rfl⟩ lp_cs0 ?_
  intro as σ Q hok hs
  rcases as with _ | ⟨_ | _ | ⟨r, k⟩, _ | ⟨c, as⟩⟩ <;> try exact (hs : False).elim
  obtain ⟨len, f, hl, h31, hf, hq⟩ := hs
  refine ⟨by show 1 ≤ 6; omega, fun m pc L τ => pc = 10 ∧ ∃ i x5, m + i = len k ∧ i ≤ len k ∧ σ = τ ∧ L = [some (.inr (some (r, k))), some (.inl (nI (lsum f i))), some (.inr (some (r, k))), some (.inl (nI (len k))), some (.inl (nI i)), x5], ?_, ?_⟩
  · ((conv => whnf); (try dsimp only))
    rw [hl]
    ((conv => whnf); (try dsimp only))
    exact ⟨len k, rfl, 0, none, rfl, Nat.zero_le _, rfl, rfl⟩
  · rintro m pc L τ ⟨rfl, i, x5, hm, hi, rfl, rfl⟩
    ((conv => whnf); (try dsimp only))
    refine ⟨fun h => ?_, fun h => ?_⟩ <;> ((conv => whnf); (try dsimp only))
    · rw [nI_leI h31 (by omega)] at h
      obtain rfl : i = len k := by omega
      exact hq
    · rw [nI_leI h31 (by omega)] at h
      rw [hl]
      ((conv => whnf); (try dsimp only))
      refine ⟨lp_vin (by omega) h31, ?_⟩
      rw [lp_clm (by omega), hf i (by omega)]
      ((conv => whnf); (try dsimp only))
      refine ⟨len k - (i + 1), by omega, rfl, i + 1, some (.inl (nI (f i))), by omega, by omega, rfl, ?_⟩
      rw [nI_succ i, show lsum f (i + 1) = lsum f i + f i from rfl, ← nI_add]
      rfl
def sp_X1_beginAnew : lpS := fun as σ Q => match as with
  | [.inr (some (r, k))] => r = 26 ∧ Q none (lp_fill σ 28 k (lp_dl k) (nI 0))
  | _ => False
theorem lp_dl_lt (k : Nat) : lp_dl k < 2 ^ 31 := by unfold lp_dl; split <;> omega
set_option maxHeartbeats 4000000 in
set_option maxRecDepth 100000 in
theorem ct_X1_beginAnew (l : Launch) (D : va_G) (cI cD : ClassId) : lp_Ct l D cI cD yX1_beginAnew cX1_beginAnew 1 none 1 sp_X1_beginAnew := by
  refine lp_method0 flX1 pfX1 kcX1 [(24, none, 2, sp_J7_fill)] false kX1_beginAnew rfl rfl (lp_rV rfl) flX1_ok pfX1_ok kcX1_ok kX1_beginAnew_ok ⟨_, _, rfl, rfl⟩ (lp_cs1 (lp_mkCall lkX1_24 (ct_J7_fill l D cI cD) (by omega)) lp_cs0) ?_
  intro as σ Q hs
  rcases as with _ | ⟨_ | _ | ⟨r, k⟩, _ | ⟨c, as⟩⟩ <;> try exact (hs : False).elim
  obtain ⟨rfl, hq⟩ := hs
  refine ⟨Nat.le_refl 1, ?_⟩
  ((conv => whnf); (try dsimp only))
  exact ⟨lp_dl, rfl, lp_dl_lt k, hq⟩
/-- a Dealing of n choices: its counts, what came -/
def lp_Deal (σ : lpM) (k : Nat) (cnt came : Nat → Nat) : Prop := ∀ i, i < lp_dl k → σ 27 k i = nI (cnt i) ∧ σ 28 k i = nI (came i)
def lp_dlc (o : Option (Nat × Nat)) : Int32 × Int32 := match o with
  | none => (-1, nI 0)
  | some (b, t) => (nI b, nI t)
def sp_X1_deal : lpS := fun as σ Q => match as with
  | [.inr (some (r, k))] => r = 26 ∧ ∃ (cnt came : Nat → Nat) (b : Nat), lp_Deal σ k cnt came ∧ lsum cnt (lp_dl k) < 30000 ∧ lsum came (lp_dl k) < 30000 ∧ dl cnt came (lp_dl k) = some b ∧ Q (some (nI b)) (lp_w3 σ 28 k b (nI (came b + 1)))
  | _ => False
set_option maxHeartbeats 4000000 in
set_option maxRecDepth 100000 in
theorem ct_X1_deal (l : Launch) (D : va_G) (cI cD : ClassId) : lp_Ct l D cI cD yX1_deal cX1_deal 7 (some .int) 1 sp_X1_deal := by
  refine lp_method flX1 pfX1 kcX1 [(30, none, 1, sp_X1_sumOf)] false kX1_deal [26] rfl rfl (lp_rI rfl) flX1_ok pfX1_ok kcX1_ok kX1_deal_ok ⟨_, _, rfl, rfl⟩ (lp_cs1 (lp_mkCall lkX1_30 (ct_X1_sumOf l D cI cD) (by omega)) lp_cs0) ?_
  intro as σ Q hok hs
  rcases as with _ | ⟨_ | _ | ⟨r, k⟩, _ | ⟨c, as⟩⟩ <;> try exact (hs : False).elim
  obtain ⟨rfl, cnt, came, b, hD, hB1, hB2, hdl, hq⟩ := hs
  have h31 := lp_dl_lt k
  generalize hN : lsum cnt (lp_dl k) = N at *
  generalize hj : lsum came (lp_dl k) = j at *
  have hS : ∃ t, dlS cnt came N (j + 1) (lp_dl k) = some (b, t) := by
    unfold dl at hdl
    rw [hN, hj] at hdl
    rcases hd : dlS cnt came N (j + 1) (lp_dl k) with _ | ⟨b', t⟩ <;> rw [hd] at hdl <;> simp at hdl
    exact ⟨t, by rw [hdl]⟩
  refine ⟨by show 1 ≤ 7; omega, fun m pc L τ => pc = 26 ∧ ∃ i x6, m + i = lp_dl k ∧ i ≤ lp_dl k ∧ σ = τ ∧ L = [some (.inr (some (26, k))), some (.inl (nI N)), some (.inl (nI (j + 1))), some (.inl (lp_dlc (dlS cnt came N (j + 1) i)).1), some (.inl (lp_dlc (dlS cnt came N (j + 1) i)).2), some (.inl (nI i)), x6], ?_, ?_⟩
  · ((conv => whnf); (try dsimp only))
    refine ⟨lp_dl, cnt, rfl, h31, fun i hi => (hD i hi).1, ?_⟩
    ((conv => whnf); (try dsimp only))
    refine ⟨lp_dl, came, rfl, h31, fun i hi => (hD i hi).2, ?_⟩
    ((conv => whnf); (try dsimp only))
    refine ⟨lp_dl k, rfl, 0, none, rfl, Nat.zero_le _, rfl, ?_⟩
    rw [hN, hj, nI_succ j]
    rfl
  · rintro m pc L τ ⟨rfl, i, x6, hm, hi, rfl, rfl⟩
    ((conv => whnf); (try dsimp only))
    refine ⟨fun h => ?_, fun h => ?_⟩ <;> ((conv => whnf); (try dsimp only))
    · rw [nI_leI h31 (by omega)] at h
      obtain rfl : i = lp_dl k := by omega
      obtain ⟨t, ht⟩ := hS
      have hlt := dlS_lt ht
      rw [ht]
      dsimp only [lp_dlc]
      refine ⟨fun q => absurd q (lp_neg1 (by omega)), fun _ => ?_⟩
      ((conv => whnf); (try dsimp only))
      refine ⟨lp_vin (by omega) h31, ?_⟩
      ((conv => whnf); (try dsimp only))
      refine ⟨lp_vin (by omega) h31, ?_⟩
      rw [lp_clm (by omega), (hD b hlt.1).2]
      ((conv => whnf); (try dsimp only))
      rw [show nI (came b) + Int32.ofInt 1 = nI (came b + 1) from (nI_succ _).symm]
      exact hq
    · rw [nI_leI h31 (by omega)] at h
      have hi2 : i < lp_dl k := by omega
      obtain ⟨d1, d2⟩ := hD i hi2
      have hc1 : cnt i ≤ N := by rw [← hN]; exact lsum_mem hi2
      have hc2 : came i ≤ j := by rw [← hj]; exact lsum_mem hi2
      refine ⟨lp_vin hi2 h31, ?_⟩
      rw [lp_clm (by omega), d1]
      have step : ∀ (o : Option (Nat × Nat)) (x6 : Option lpV), dlS cnt came N (j + 1) (i + 1) = o → ∃ m', m' < m ∧ (fun (m pc : Nat) (L : lpL) (τ : lpM) => pc = 26 ∧ ∃ i x6, m + i = lp_dl k ∧ i ≤ lp_dl k ∧ σ = τ ∧ L = [some (.inr (some (26, k))), some (.inl (nI N)), some (.inl (nI (j + 1))), some (.inl (lp_dlc (dlS cnt came N (j + 1) i)).1), some (.inl (lp_dlc (dlS cnt came N (j + 1) i)).2), some (.inl (nI i)), x6]) m' 26 [some (.inr (some (26, k))), some (.inl (nI N)), some (.inl (nI (j + 1))), some (.inl (lp_dlc o).1), some (.inl (lp_dlc o).2), some (.inl (nI i + Int32.ofInt 1)), x6] σ := by
        intro o x6 ho
        subst ho
        exact ⟨lp_dl k - (i + 1), by omega, rfl, i + 1, x6, by omega, by omega, rfl, by rw [nI_succ i]; rfl⟩
      ((conv => whnf); (try dsimp only))
      refine ⟨fun q => ?_, fun q => ?_⟩ <;> ((conv => whnf); (try dsimp only))
      · have hz : cnt i = 0 := by
          rcases Nat.eq_zero_or_pos (cnt i) with z | z
          · exact z
          · exact absurd q (nI_nle z (by omega))
        exact step _ x6 (dlS_skip (Or.inl hz))
      · have hz : 0 < cnt i := by
          rcases Nat.eq_zero_or_pos (cnt i) with z | z
          · rw [z] at q; exact absurd (by decide) q
          · exact z
        refine ⟨lp_vin hi2 h31, ?_⟩
        rw [lp_clm (by omega), d2]
        ((conv => whnf); (try dsimp only))
        refine ⟨lp_vin hi2 h31, ?_⟩
        rw [lp_clm (by omega), d1]
        ((conv => whnf); (try dsimp only))
        have hm1 : came i * N ≤ 30000 * 30000 := Nat.mul_le_mul (by omega) (by omega)
        have hm2 : (came i + 1) * N ≤ 30000 * 30000 := Nat.mul_le_mul (by omega) (by omega)
        refine ⟨nI_ne0 hz (by omega), ?_⟩
        rw [pk_mul, pk_div (by omega) hz (by omega)]
        have hdv : came i * N / cnt i ≤ came i * N := Nat.div_le_self _ _
        ((conv => whnf); (try dsimp only))
        refine ⟨fun q2 => ?_, fun q2 => ?_⟩ <;> ((conv => whnf); (try dsimp only))
        · rw [nI_ltI (by omega) (by omega)] at q2
          refine ⟨lp_vin hi2 h31, ?_⟩
          rw [lp_clm (by omega), d2]
          ((conv => whnf); (try dsimp only))
          refine ⟨lp_vin hi2 h31, ?_⟩
          rw [lp_clm (by omega), d1]
          ((conv => whnf); (try dsimp only))
          refine ⟨lp_vin hi2 h31, ?_⟩
          rw [lp_clm (by omega), d1]
          ((conv => whnf); (try dsimp only))
          refine ⟨nI_ne0 hz (by omega), ?_⟩
          rw [show nI (came i) + Int32.ofInt 1 = nI (came i + 1) from (nI_succ _).symm, pk_mul, nI_add, show nI ((came i + 1) * N + cnt i) - Int32.ofInt 1 = nI ((came i + 1) * N + cnt i - 1) from pk_sub (a := (came i + 1) * N + cnt i) (b := 1) (by omega), pk_div (by omega) hz (by omega)]
          rw [show ((came i + 1) * N + cnt i - 1) / cnt i = dlT N (came i) (cnt i) from rfl]
          have hT : dlT N (came i) (cnt i) ≤ (came i + 1) * N + cnt i - 1 := Nat.div_le_self _ _
          have hS2 : dlS cnt came N (j + 1) (i + 1) = (match dlS cnt came N (j + 1) i with
            | none => some (i, dlT N (came i) (cnt i))
            | some (b, t) => if dlT N (came i) (cnt i) < t then some (i, dlT N (came i) (cnt i)) else some (b, t)) := by
            conv => lhs; unfold dlS
            rw [if_neg (by omega)]
            rfl
          ((conv => whnf); (try dsimp only))
          rcases hd : dlS cnt came N (j + 1) i with _ | ⟨b', t'⟩ <;> rw [hd] at hS2
          · dsimp only [lp_dlc]
            refine ⟨fun _ => ?_, fun q3 => absurd rfl q3⟩
            ((conv => whnf); (try dsimp only))
            exact step _ _ hS2
          · have hlt := dlS_lt hd
            have hc1' : cnt b' ≤ N := by rw [← hN]; exact lsum_mem (by omega)
            have hc2' : came b' ≤ j := by rw [← hj]; exact lsum_mem (by omega)
            have hm2' : (came b' + 1) * N ≤ 30000 * 30000 := Nat.mul_le_mul (by omega) (by omega)
            have hT' : t' ≤ (came b' + 1) * N + cnt b' - 1 := by rw [hlt.2.2.1]; exact Nat.div_le_self _ _
            dsimp only [lp_dlc] at hS2 ⊢
            refine ⟨fun q3 => absurd q3 (lp_neg1 (by omega)), fun _ => ?_⟩
            ((conv => whnf); (try dsimp only))
            refine ⟨fun q3 => ?_, fun q3 => ?_⟩ <;> ((conv => whnf); (try dsimp only))
            · rw [nI_leI (by omega) (by omega)] at q3
              rw [if_neg (by omega)] at hS2
              exact step _ _ hS2
            · rw [nI_leI (by omega) (by omega)] at q3
              rw [if_pos (by omega)] at hS2
              exact step _ _ hS2
        · rw [nI_ltI (by omega) (by omega)] at q2
          exact step _ x6 (dlS_skip (Or.inr (by omega)))
