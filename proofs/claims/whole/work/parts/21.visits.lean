/-! ===== Visits: k = 0 the LOG, k = 1 the WALKS ===== -/
/-- n VISITS; the ASKS of v are the slots s v .. s (v + 1) - 1; pages pg, waits wt -/
def lp_Vis (σ : lpM) (k n : Nat) (s pg wt : Nat → Nat) : Prop :=
  σ 2 k 3 = nI n ∧ n ≤ 60 ∧ (∀ v, v ≤ n → σ 5 k v = nI (s v)) ∧ s 0 = 0 ∧ (∀ v, v < n → s v ≤ s (v + 1) ∧ s (v + 1) ≤ s v + 20) ∧ (∀ j, j < s n → σ 3 k j = nI (pg j) ∧ pg j < 10 ∧ σ 4 k j = nI (wt j) ∧ wt j ≤ 60)
theorem lp_Vis_le {σ : lpM} {k n : Nat} {s pg wt : Nat → Nat} (h : lp_Vis σ k n s pg wt) : ∀ v, v ≤ n → s v ≤ 20 * v := by
  intro v
  induction v with
  | zero => intro _; have := h.2.2.2.1; omega
  | succ v ih => intro hv; have := h.2.2.2.2.1 v (by omega); have := ih (by omega); omega
theorem lp_Vis_mono {σ : lpM} {k n : Nat} {s pg wt : Nat → Nat} (h : lp_Vis σ k n s pg wt) {v : Nat} : ∀ d, v + d ≤ n → s v ≤ s (v + d) := by
  intro d
  induction d with
  | zero => intro _; exact Nat.le_refl _
  | succ d ih => intro hv; have := h.2.2.2.2.1 (v + d) (by omega); have := ih (by omega); rw [← Nat.add_assoc]; omega
theorem lp_Vis_bd {σ : lpM} {k n : Nat} {s pg wt : Nat → Nat} (h : lp_Vis σ k n s pg wt) : s n ≤ 1200 := by
  have := lp_Vis_le h n (Nat.le_refl _)
  have := h.2.1
  omega
theorem lp_Vis_sn {σ : lpM} {k n : Nat} {s pg wt : Nat → Nat} (h : lp_Vis σ k n s pg wt) {v : Nat} (hv : v ≤ n) : s v ≤ s n := by
  have := lp_Vis_mono h (v := v) (n - v) (by omega)
  rwa [show v + (n - v) = n by omega] at this
def sp_X4_empty : lpS := fun as σ Q => match as with
  | [.inr (some (r, k))] => r = 2 ∧ Q none (lp_w3 σ 2 k 3 (nI 0))
  | _ => False
set_option maxHeartbeats 4000000 in
set_option maxRecDepth 100000 in
theorem ct_X4_empty (l : Launch) (D : va_G) (cI cD : ClassId) : lp_Ct l D cI cD yX4_empty cX4_empty 1 none 0 sp_X4_empty := by
  refine lp_method0 flX4 pfX4 kcX4 [] false kX4_empty rfl rfl (lp_rV rfl) flX4_ok pfX4_ok kcX4_ok kX4_empty_ok ⟨_, _, rfl, rfl⟩ lp_cs0 ?_
  intro as σ Q hs
  rcases as with _ | ⟨_ | _ | ⟨r, k⟩, _ | ⟨c, as⟩⟩ <;> try exact (hs : False).elim
  obtain ⟨rfl, hq⟩ := hs
  refine ⟨Nat.le_refl 1, ?_⟩
  ((conv => whnf); (try dsimp only))
  exact hq
def sp_X4_asks : lpS := fun as σ Q => match as with
  | [.inr (some (r, k))] => r = 2 ∧ ∃ n s pg wt, lp_Vis σ k n s pg wt ∧ Q (some (nI (s n))) σ
  | _ => False
set_option maxHeartbeats 4000000 in
set_option maxRecDepth 100000 in
theorem ct_X4_asks (l : Launch) (D : va_G) (cI cD : ClassId) : lp_Ct l D cI cD yX4_asks cX4_asks 1 (some .int) 0 sp_X4_asks := by
  refine lp_method0 flX4 pfX4 kcX4 [] false kX4_asks rfl rfl (lp_rI rfl) flX4_ok pfX4_ok kcX4_ok kX4_asks_ok ⟨_, _, rfl, rfl⟩ lp_cs0 ?_
  intro as σ Q hs
  rcases as with _ | ⟨_ | _ | ⟨r, k⟩, _ | ⟨c, as⟩⟩ <;> try exact (hs : False).elim
  obtain ⟨rfl, n, s, pg, wt, hV, hq⟩ := hs
  refine ⟨Nat.le_refl 1, ?_⟩
  have hn := hV.2.1
  ((conv => whnf); (try dsimp only))
  rw [hV.1]
  refine ⟨lp_vin (by omega) (by omega), ?_⟩
  ((conv => whnf); (try dsimp only))
  rw [lp_clm (by omega), hV.2.2.1 n (Nat.le_refl _)]
  exact hq
def sp_X4_has : lpS := fun as σ Q => match as with
  | [.inr (some (r, k)), .inl x] => r = 2 ∧ ∃ n s pg wt, lp_Vis σ k n s pg wt ∧ ((∃ v, v < n ∧ x = nI v ∧ Q (some 1) σ) ∨ ((∀ v, v < n → x ≠ nI v) ∧ Q (some 0) σ))
  | _ => False
set_option maxHeartbeats 4000000 in
set_option maxRecDepth 100000 in
theorem ct_X4_has (l : Launch) (D : va_G) (cI cD : ClassId) : lp_Ct l D cI cD yX4_has cX4_has 2 (some .boolean) 1 sp_X4_has := by
  refine lp_method0 flX4 pfX4 kcX4 [(29, none, 3, sp_X6_isWithin)] true kX4_has rfl rfl (lp_rB rfl) flX4_ok pfX4_ok kcX4_ok kX4_has_ok ⟨_, _, rfl, rfl⟩ (lp_cs1 (lp_mkCall lkX4_29 (ct_X6_isWithin l D cI cD) (by omega)) lp_cs0) ?_
  intro as σ Q hs
  rcases as with _ | ⟨_ | _ | ⟨r, k⟩, _ | ⟨x | _, _ | ⟨c, as⟩⟩⟩ <;> try exact (hs : False).elim
  obtain ⟨rfl, n, s, pg, wt, hV, hq⟩ := hs
  refine ⟨Nat.le_refl 2, ?_⟩
  have hn := hV.2.1
  ((conv => whnf); (try dsimp only))
  rw [hV.1]
  refine lp_below (by omega) ?_
  rcases hq with ⟨v, h1, h2, hq⟩ | ⟨h1, hq⟩
  · exact Or.inl ⟨v, h1, h2, Or.inr rfl, hq⟩
  · exact Or.inr ⟨h1, Or.inl rfl, hq⟩
def sp_X4_startOf : lpS := fun as σ Q => match as with
  | [.inr (some (r, k)), .inl x] => r = 2 ∧ ∃ n s pg wt, lp_Vis σ k n s pg wt ∧ ((∃ v, v < n ∧ x = nI v ∧ Q (some (nI (s v))) σ) ∨ ((∀ v, v < n → x ≠ nI v) ∧ Q (some (nI (s n))) σ))
  | _ => False
set_option maxHeartbeats 4000000 in
set_option maxRecDepth 100000 in
theorem ct_X4_startOf (l : Launch) (D : va_G) (cI cD : ClassId) : lp_Ct l D cI cD yX4_startOf cX4_startOf 2 (some .int) 2 sp_X4_startOf := by
  refine lp_method0 flX4 pfX4 kcX4 [(33, some 4, 1, sp_X4_has), (37, some 4, 0, sp_X4_asks)] false kX4_startOf rfl rfl (lp_rI rfl) flX4_ok pfX4_ok kcX4_ok kX4_startOf_ok ⟨_, _, rfl, rfl⟩ (lp_cs1 (lp_mkCall lkX4_33 (ct_X4_has l D cI cD) (by omega)) (lp_cs1 (lp_mkCall lkX4_37 (ct_X4_asks l D cI cD) (by omega)) lp_cs0)) ?_
  intro as σ Q hs
  rcases as with _ | ⟨_ | _ | ⟨r, k⟩, _ | ⟨x | _, _ | ⟨c, as⟩⟩⟩ <;> try exact (hs : False).elim
  obtain ⟨rfl, n, s, pg, wt, hV, hq⟩ := hs
  refine ⟨Nat.le_refl 2, ?_⟩
  have hn := hV.2.1
  ((conv => whnf); (try dsimp only))
  refine ⟨rfl, n, s, pg, wt, hV, ?_⟩
  rcases hq with ⟨v, h1, rfl, hq⟩ | ⟨h1, hq⟩
  · refine Or.inl ⟨v, h1, rfl, ?_⟩
    ((conv => whnf); (try dsimp only))
    refine ⟨fun q => absurd q (by decide), fun _ => ?_⟩
    ((conv => whnf); (try dsimp only))
    refine ⟨lp_vin (by omega) (by omega), ?_⟩
    ((conv => whnf); (try dsimp only))
    rw [lp_clm (by omega), hV.2.2.1 v (by omega)]
    exact hq
  · refine Or.inr ⟨h1, ?_⟩
    ((conv => whnf); (try dsimp only))
    refine ⟨fun _ => ?_, fun q => absurd rfl q⟩
    ((conv => whnf); (try dsimp only))
    exact ⟨rfl, n, s, pg, wt, hV, hq⟩
def sp_X4_endOf : lpS := fun as σ Q => match as with
  | [.inr (some (r, k)), .inl x] => r = 2 ∧ ∃ n s pg wt, lp_Vis σ k n s pg wt ∧ ((∃ v, v < n ∧ x = nI v ∧ Q (some (nI (s (v + 1)))) σ) ∨ ((∀ v, v < n → x ≠ nI v) ∧ Q (some (nI (s n))) σ))
  | _ => False
set_option maxHeartbeats 4000000 in
set_option maxRecDepth 100000 in
theorem ct_X4_endOf (l : Launch) (D : va_G) (cI cD : ClassId) : lp_Ct l D cI cD yX4_endOf cX4_endOf 2 (some .int) 2 sp_X4_endOf := by
  refine lp_method0 flX4 pfX4 kcX4 [(33, some 4, 1, sp_X4_has), (37, some 4, 0, sp_X4_asks)] false kX4_endOf rfl rfl (lp_rI rfl) flX4_ok pfX4_ok kcX4_ok kX4_endOf_ok ⟨_, _, rfl, rfl⟩ (lp_cs1 (lp_mkCall lkX4_33 (ct_X4_has l D cI cD) (by omega)) (lp_cs1 (lp_mkCall lkX4_37 (ct_X4_asks l D cI cD) (by omega)) lp_cs0)) ?_
  intro as σ Q hs
  rcases as with _ | ⟨_ | _ | ⟨r, k⟩, _ | ⟨x | _, _ | ⟨c, as⟩⟩⟩ <;> try exact (hs : False).elim
  obtain ⟨rfl, n, s, pg, wt, hV, hq⟩ := hs
  refine ⟨Nat.le_refl 2, ?_⟩
  have hn := hV.2.1
  ((conv => whnf); (try dsimp only))
  refine ⟨rfl, n, s, pg, wt, hV, ?_⟩
  rcases hq with ⟨v, h1, rfl, hq⟩ | ⟨h1, hq⟩
  · refine Or.inl ⟨v, h1, rfl, ?_⟩
    ((conv => whnf); (try dsimp only))
    refine ⟨fun q => absurd q (by decide), fun _ => ?_⟩
    ((conv => whnf); (try dsimp only))
    rw [show nI v + Int32.ofInt 1 = nI (v + 1) from (nI_succ v).symm]
    refine ⟨lp_vin (by omega) (by omega), ?_⟩
    ((conv => whnf); (try dsimp only))
    rw [lp_clm (by omega), hV.2.2.1 (v + 1) (by omega)]
    exact hq
  · refine Or.inr ⟨h1, ?_⟩
    ((conv => whnf); (try dsimp only))
    refine ⟨fun _ => ?_, fun q => absurd rfl q⟩
    ((conv => whnf); (try dsimp only))
    exact ⟨rfl, n, s, pg, wt, hV, hq⟩
def sp_X4_lengthOf : lpS := fun as σ Q => match as with
  | [.inr (some (r, k)), .inl x] => r = 2 ∧ ∃ n s pg wt, lp_Vis σ k n s pg wt ∧ ((∃ v, v < n ∧ x = nI v ∧ Q (some (nI (s (v + 1) - s v))) σ) ∨ ((∀ v, v < n → x ≠ nI v) ∧ Q (some (-1)) σ))
  | _ => False
set_option maxHeartbeats 4000000 in
set_option maxRecDepth 100000 in
theorem ct_X4_lengthOf (l : Launch) (D : va_G) (cI cD : ClassId) : lp_Ct l D cI cD yX4_lengthOf cX4_lengthOf 2 (some .int) 2 sp_X4_lengthOf := by
  refine lp_method0 flX4 pfX4 kcX4 [(33, some 4, 1, sp_X4_has)] false kX4_lengthOf rfl rfl (lp_rI rfl) flX4_ok pfX4_ok kcX4_ok kX4_lengthOf_ok ⟨_, _, rfl, rfl⟩ (lp_cs1 (lp_mkCall lkX4_33 (ct_X4_has l D cI cD) (by omega)) lp_cs0) ?_
  intro as σ Q hs
  rcases as with _ | ⟨_ | _ | ⟨r, k⟩, _ | ⟨x | _, _ | ⟨c, as⟩⟩⟩ <;> try exact (hs : False).elim
  obtain ⟨rfl, n, s, pg, wt, hV, hq⟩ := hs
  refine ⟨Nat.le_refl 2, ?_⟩
  have hn := hV.2.1
  ((conv => whnf); (try dsimp only))
  refine ⟨rfl, n, s, pg, wt, hV, ?_⟩
  rcases hq with ⟨v, h1, rfl, hq⟩ | ⟨h1, hq⟩
  · refine Or.inl ⟨v, h1, rfl, ?_⟩
    ((conv => whnf); (try dsimp only))
    refine ⟨fun q => absurd q (by decide), fun _ => ?_⟩
    ((conv => whnf); (try dsimp only))
    rw [show nI v + Int32.ofInt 1 = nI (v + 1) from (nI_succ v).symm]
    refine ⟨lp_vin (by omega) (by omega), ?_⟩
    ((conv => whnf); (try dsimp only))
    refine ⟨lp_vin (by omega) (by omega), ?_⟩
    ((conv => whnf); (try dsimp only))
    rw [lp_clm (by omega), lp_clm (by omega), hV.2.2.1 (v + 1) (by omega), hV.2.2.1 v (by omega), pk_sub (hV.2.2.2.2.1 v h1).1]
    exact hq
  · refine Or.inr ⟨h1, ?_⟩
    ((conv => whnf); (try dsimp only))
    refine ⟨fun _ => ?_, fun q => absurd rfl q⟩
    ((conv => whnf); (try dsimp only))
    exact hq
