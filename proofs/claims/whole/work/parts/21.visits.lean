/-! ===== Visits: k = 0 the LOG, k = 1 the WALKS ===== -/
/-- n VISITS; the ASKS of v are the slots s v .. s (v + 1) - 1; pages pg, waits wt -/
def lp_Vis (σ : lpM) (k n : Nat) (s pg wt : Nat → Nat) : Prop :=
  σ 2 k 3 = nI n ∧ n ≤ 60 ∧ (∀ v, v ≤ n → σ 5 k v = nI (s v)) ∧ s 0 = 0 ∧ (∀ v, v < n → s v ≤ s (v + 1) ∧ s (v + 1) ≤ s v + 20) ∧ (∀ j, j < s n → σ 3 k j = nI (pg j) ∧ pg j < 10 ∧ σ 4 k j = nI (wt j) ∧ wt j ≤ 60)
theorem lp_Vis_le {σ : lpM} {k n : Nat} {s pg wt : Nat → Nat} (h : lp_Vis σ k n s pg wt) : ∀ v, v ≤ n → s v ≤ 20 * v := by
  intro v
  induction v with
  | zero => intro _; have := h.2.2.2.1; omega
  | succ v ih => intro hv; have := h.2.2.2.2.1 v (by omega); have := ih (by omega); omega
theorem lp_Vis_mono {σ : lpM} {k n : Nat} {s pg wt : Nat → Nat} (h : lp_Vis σ k n s pg wt) {v : Nat} : ∀ d, v + d ≤ n → s v ≤ s (v + d) := by
  intro d
  induction d with
  | zero => intro _; exact Nat.le_refl _
  | succ d ih => intro hv; have := h.2.2.2.2.1 (v + d) (by omega); have := ih (by omega); rw [← Nat.add_assoc]; omega
theorem lp_Vis_bd {σ : lpM} {k n : Nat} {s pg wt : Nat → Nat} (h : lp_Vis σ k n s pg wt) : s n ≤ 1200 := by
  have := lp_Vis_le h n (Nat.le_refl _)
  have := h.2.1
  omega
theorem lp_Vis_sn {σ : lpM} {k n : Nat} {s pg wt : Nat → Nat} (h : lp_Vis σ k n s pg wt) {v : Nat} (hv : v ≤ n) : s v ≤ s n := by
  have := lp_Vis_mono h (v := v) (n - v) (by omega)
  rwa [show v + (n - v) = n by omega] at this
def sp_X4_empty : lpS := fun as σ Q => match as with
  | [.inr (some (r, k))] => r = 2 ∧ Q none (lp_w3 σ 2 k 3 (nI 0))
  | _ => False
set_option maxHeartbeats 4000000 in
set_option maxRecDepth 100000 in
theorem ct_X4_empty (l : Launch) (D : va_G) (cI cD : ClassId) : lp_Ct l D cI cD yX4_empty cX4_empty 1 none 0 sp_X4_empty := by
  refine lp_method0 flX4 pfX4 kcX4 [] false kX4_empty rfl rfl (lp_rV rfl) flX4_ok pfX4_ok kcX4_ok kX4_empty_ok ⟨_, _, rfl, rfl⟩ lp_cs0 ?_
  intro as σ Q hs
  rcases as with _ | ⟨_ | _ | ⟨r, k⟩, _ | ⟨c, as⟩⟩ <;> try exact (hs : False).elim
  obtain ⟨rfl, hq⟩ := hs
  refine ⟨Nat.le_refl 1, ?_⟩
  ((conv => whnf); (try dsimp only))
  exact hq
def sp_X4_asks : lpS := fun as σ Q => match as with
  | [.inr (some (r, k))] => r = 2 ∧ ∃ n s pg wt, lp_Vis σ k n s pg wt ∧ Q (some (nI (s n))) σ
  | _ => False
set_option maxHeartbeats 4000000 in
set_option maxRecDepth 100000 in
theorem ct_X4_asks (l : Launch) (D : va_G) (cI cD : ClassId) : lp_Ct l D cI cD yX4_asks cX4_asks 1 (some .int) 0 sp_X4_asks := by
  refine lp_method0 flX4 pfX4 kcX4 [] false kX4_asks rfl rfl (lp_rI rfl) flX4_ok pfX4_ok kcX4_ok kX4_asks_ok ⟨_, _, rfl, rfl⟩ lp_cs0 ?_
  intro as σ Q hs
  rcases as with _ | ⟨_ | _ | ⟨r, k⟩, _ | ⟨c, as⟩⟩ <;> try exact (hs : False).elim
  obtain ⟨rfl, n, s, pg, wt, hV, hq⟩ := hs
  refine ⟨Nat.le_refl 1, ?_⟩
  have hn := hV.2.1
  ((conv => whnf); (try dsimp only))
  rw [hV.1]
  refine ⟨lp_vin (by omega) (by omega), ?_⟩
  ((conv => whnf); (try dsimp only))
  rw [lp_clm (by omega), hV.2.2.1 n (Nat.le_refl _)]
  exact hq
def sp_X4_has : lpS := fun as σ Q => match as with
  | [.inr (some (r, k)), .inl x] => r = 2 ∧ ∃ n s pg wt, lp_Vis σ k n s pg wt ∧ ((∃ v, v < n ∧ x = nI v ∧ Q (some 1) σ) ∨ ((∀ v, v < n → x ≠ nI v) ∧ Q (some 0) σ))
  | _ => False
set_option maxHeartbeats 4000000 in
set_option maxRecDepth 100000 in
theorem ct_X4_has (l : Launch) (D : va_G) (cI cD : ClassId) : lp_Ct l D cI cD yX4_has cX4_has 2 (some .boolean) 1 sp_X4_has := by
  refine lp_method0 flX4 pfX4 kcX4 [(29, none, 3, sp_X6_isWithin)] true kX4_has rfl rfl (lp_rB rfl) flX4_ok pfX4_ok kcX4_ok kX4_has_ok ⟨_, _, rfl, rfl⟩ (lp_cs1 (lp_mkCall lkX4_29 (ct_X6_isWithin l D cI cD) (by omega)) lp_cs0) ?_
  intro as σ Q hs
  rcases as with _ | ⟨_ | _ | ⟨r, k⟩, _ | ⟨x | _, _ | ⟨c, as⟩⟩⟩ <;> try exact (hs : False).elim
  obtain ⟨rfl, n, s, pg, wt, hV, hq⟩ := hs
  refine ⟨Nat.le_refl 2, ?_⟩
  have hn := hV.2.1
  ((conv => whnf); (try dsimp only))
  rw [hV.1]
  refine lp_below (by omega) ?_
  rcases hq with ⟨v, h1, h2, hq⟩ | ⟨h1, hq⟩
  · exact Or.inl ⟨v, h1, h2, Or.inr rfl, hq⟩
  · exact Or.inr ⟨h1, Or.inl rfl, hq⟩
def sp_X4_startOf : lpS := fun as σ Q => match as with
  | [.inr (some (r, k)), .inl x] => r = 2 ∧ ∃ n s pg wt, lp_Vis σ k n s pg wt ∧ ((∃ v, v < n ∧ x = nI v ∧ Q (some (nI (s v))) σ) ∨ ((∀ v, v < n → x ≠ nI v) ∧ Q (some (nI (s n))) σ))
  | _ => False
set_option maxHeartbeats 4000000 in
set_option maxRecDepth 100000 in
theorem ct_X4_startOf (l : Launch) (D : va_G) (cI cD : ClassId) : lp_Ct l D cI cD yX4_startOf cX4_startOf 2 (some .int) 2 sp_X4_startOf := by
  refine lp_method0 flX4 pfX4 kcX4 [(33, some 4, 1, sp_X4_has), (37, some 4, 0, sp_X4_asks)] false kX4_startOf rfl rfl (lp_rI rfl) flX4_ok pfX4_ok kcX4_ok kX4_startOf_ok ⟨_, _, rfl, rfl⟩ (lp_cs1 (lp_mkCall lkX4_33 (ct_X4_has l D cI cD) (by omega)) (lp_cs1 (lp_mkCall lkX4_37 (ct_X4_asks l D cI cD) (by omega)) lp_cs0)) ?_
  intro as σ Q hs
  rcases as with _ | ⟨_ | _ | ⟨r, k⟩, _ | ⟨x | _, _ | ⟨c, as⟩⟩⟩ <;> try exact (hs : False).elim
  obtain ⟨rfl, n, s, pg, wt, hV, hq⟩ := hs
  refine ⟨Nat.le_refl 2, ?_⟩
  have hn := hV.2.1
  ((conv => whnf); (try dsimp only))
  refine ⟨rfl, n, s, pg, wt, hV, ?_⟩
  rcases hq with ⟨v, h1, rfl, hq⟩ | ⟨h1, hq⟩
  · refine Or.inl ⟨v, h1, rfl, ?_⟩
    ((conv => whnf); (try dsimp only))
    refine ⟨fun q => absurd q (by decide), fun _ => ?_⟩
    ((conv => whnf); (try dsimp only))
    refine ⟨lp_vin (by omega) (by omega), ?_⟩
    ((conv => whnf); (try dsimp only))
    rw [lp_clm (by omega), hV.2.2.1 v (by omega)]
    exact hq
  · refine Or.inr ⟨h1, ?_⟩
    ((conv => whnf); (try dsimp only))
    refine ⟨fun _ => ?_, fun q => absurd rfl q⟩
    ((conv => whnf); (try dsimp only))
    exact ⟨rfl, n, s, pg, wt, hV, hq⟩
def sp_X4_endOf : lpS := fun as σ Q => match as with
  | [.inr (some (r, k)), .inl x] => r = 2 ∧ ∃ n s pg wt, lp_Vis σ k n s pg wt ∧ ((∃ v, v < n ∧ x = nI v ∧ Q (some (nI (s (v + 1)))) σ) ∨ ((∀ v, v < n → x ≠ nI v) ∧ Q (some (nI (s n))) σ))
  | _ => False
set_option maxHeartbeats 4000000 in
set_option maxRecDepth 100000 in
theorem ct_X4_endOf (l : Launch) (D : va_G) (cI cD : ClassId) : lp_Ct l D cI cD yX4_endOf cX4_endOf 2 (some .int) 2 sp_X4_endOf := by
  refine lp_method0 flX4 pfX4 kcX4 [(33, some 4, 1, sp_X4_has), (37, some 4, 0, sp_X4_asks)] false kX4_endOf rfl rfl (lp_rI rfl) flX4_ok pfX4_ok kcX4_ok kX4_endOf_ok ⟨_, _, rfl, rfl⟩ (lp_cs1 (lp_mkCall lkX4_33 (ct_X4_has l D cI cD) (by omega)) (lp_cs1 (lp_mkCall lkX4_37 (ct_X4_asks l D cI cD) (by omega)) lp_cs0)) ?_
  intro as σ Q hs
  rcases as with _ | ⟨_ | _ | ⟨r, k⟩, _ | ⟨x | _, _ | ⟨c, as⟩⟩⟩ <;> try exact (hs : False).elim
  obtain ⟨rfl, n, s, pg, wt, hV, hq⟩ := hs
  refine ⟨Nat.le_refl 2, ?_⟩
  have hn := hV.2.1
  ((conv => whnf); (try dsimp only))
  refine ⟨rfl, n, s, pg, wt, hV, ?_⟩
  rcases hq with ⟨v, h1, rfl, hq⟩ | ⟨h1, hq⟩
  · refine Or.inl ⟨v, h1, rfl, ?_⟩
    ((conv => whnf); (try dsimp only))
    refine ⟨fun q => absurd q (by decide), fun _ => ?_⟩
    ((conv => whnf); (try dsimp only))
    rw [show nI v + Int32.ofInt 1 = nI (v + 1) from (nI_succ v).symm]
    refine ⟨lp_vin (by omega) (by omega), ?_⟩
    ((conv => whnf); (try dsimp only))
    rw [lp_clm (by omega), hV.2.2.1 (v + 1) (by omega)]
    exact hq
  · refine Or.inr ⟨h1, ?_⟩
    ((conv => whnf); (try dsimp only))
    refine ⟨fun _ => ?_, fun q => absurd rfl q⟩
    ((conv => whnf); (try dsimp only))
    exact ⟨rfl, n, s, pg, wt, hV, hq⟩
def sp_X4_lengthOf : lpS := fun as σ Q => match as with
  | [.inr (some (r, k)), .inl x] => r = 2 ∧ ∃ n s pg wt, lp_Vis σ k n s pg wt ∧ ((∃ v, v < n ∧ x = nI v ∧ Q (some (nI (s (v + 1) - s v))) σ) ∨ ((∀ v, v < n → x ≠ nI v) ∧ Q (some (-1)) σ))
  | _ => False
set_option maxHeartbeats 4000000 in
set_option maxRecDepth 100000 in
theorem ct_X4_lengthOf (l : Launch) (D : va_G) (cI cD : ClassId) : lp_Ct l D cI cD yX4_lengthOf cX4_lengthOf 2 (some .int) 2 sp_X4_lengthOf := by
  refine lp_method0 flX4 pfX4 kcX4 [(33, some 4, 1, sp_X4_has)] false kX4_lengthOf rfl rfl (lp_rI rfl) flX4_ok pfX4_ok kcX4_ok kX4_lengthOf_ok ⟨_, _, rfl, rfl⟩ (lp_cs1 (lp_mkCall lkX4_33 (ct_X4_has l D cI cD) (by omega)) lp_cs0) ?_
  intro as σ Q hs
  rcases as with _ | ⟨_ | _ | ⟨r, k⟩, _ | ⟨x | _, _ | ⟨c, as⟩⟩⟩ <;> try exact (hs : False).elim
  obtain ⟨rfl, n, s, pg, wt, hV, hq⟩ := hs
  refine ⟨Nat.le_refl 2, ?_⟩
  have hn := hV.2.1
  ((conv => whnf); (try dsimp only))
  refine ⟨rfl, n, s, pg, wt, hV, ?_⟩
  rcases hq with ⟨v, h1, rfl, hq⟩ | ⟨h1, hq⟩
  · refine Or.inl ⟨v, h1, rfl, ?_⟩
    ((conv => whnf); (try dsimp only))
    refine ⟨fun q => absurd q (by decide), fun _ => ?_⟩
    ((conv => whnf); (try dsimp only))
    rw [show nI v + Int32.ofInt 1 = nI (v + 1) from (nI_succ v).symm]
    refine ⟨lp_vin (by omega) (by omega), ?_⟩
    ((conv => whnf); (try dsimp only))
    refine ⟨lp_vin (by omega) (by omega), ?_⟩
    ((conv => whnf); (try dsimp only))
    rw [lp_clm (by omega), lp_clm (by omega), hV.2.2.1 (v + 1) (by omega), hV.2.2.1 v (by omega), pk_sub (hV.2.2.2.2.1 v h1).1]
    exact hq
  · refine Or.inr ⟨h1, ?_⟩
    ((conv => whnf); (try dsimp only))
    refine ⟨fun _ => ?_, fun q => absurd rfl q⟩
    ((conv => whnf); (try dsimp only))
    exact hq
def sp_X4_slotOf : lpS := fun as σ Q => match as with
  | [.inr (some (r, k)), .inl x, .inl y] => r = 2 ∧ ∃ n s pg wt, lp_Vis σ k n s pg wt ∧ ((∃ v i, v < n ∧ i < s (v + 1) - s v ∧ x = nI v ∧ y = nI i ∧ Q (some (nI (s v + i))) σ) ∨ ((∀ v i, v < n → i < s (v + 1) - s v → ¬ (x = nI v ∧ y = nI i)) ∧ Q (some (-1)) σ))
  | _ => False
set_option maxHeartbeats 4000000 in
set_option maxRecDepth 100000 in
theorem ct_X4_slotOf (l : Launch) (D : va_G) (cI cD : ClassId) : lp_Ct l D cI cD yX4_slotOf cX4_slotOf 3 (some .int) 3 sp_X4_slotOf := by
  refine lp_method0 flX4 pfX4 kcX4 [(25, some 4, 1, sp_X4_lengthOf), (29, none, 3, sp_X6_isWithin)] false kX4_slotOf rfl rfl (lp_rI rfl) flX4_ok pfX4_ok kcX4_ok kX4_slotOf_ok ⟨_, _, rfl, rfl⟩ (lp_cs1 (lp_mkCall lkX4_25 (ct_X4_lengthOf l D cI cD) (by omega)) (lp_cs1 (lp_mkCall lkX4_29 (ct_X6_isWithin l D cI cD) (by omega)) lp_cs0)) ?_
  intro as σ Q hs
  rcases as with _ | ⟨_ | _ | ⟨r, k⟩, _ | ⟨x | _, _ | ⟨y | _, _ | ⟨c, as⟩⟩⟩⟩ <;> try exact (hs : False).elim
  obtain ⟨rfl, n, s, pg, wt, hV, hq⟩ := hs
  refine ⟨Nat.le_refl 3, ?_⟩
  have hn := hV.2.1
  ((conv => whnf); (try dsimp only))
  refine ⟨rfl, n, s, pg, wt, hV, ?_⟩
  rcases Classical.em (∃ v, v < n ∧ x = nI v) with ⟨v, h1, rfl⟩ | h1
  · refine Or.inl ⟨v, h1, rfl, ?_⟩
    have hv := hV.2.2.2.2.1 v h1
    ((conv => whnf); (try dsimp only))
    refine lp_below (by omega) ?_
    rcases hq with ⟨v', i, h2, h3, h4, rfl, hq⟩ | ⟨h2, hq⟩
    · obtain rfl := lp_inj (by omega) (by omega) h4
      refine Or.inl ⟨i, h3, rfl, ?_⟩
      ((conv => whnf); (try dsimp only))
      refine ⟨fun q => absurd q (by decide), fun _ => ?_⟩
      ((conv => whnf); (try dsimp only))
      refine ⟨lp_vin (by omega) (by omega), ?_⟩
      ((conv => whnf); (try dsimp only))
      rw [lp_clm (by omega), hV.2.2.1 v (by omega), nI_add]
      exact hq
    · refine Or.inr ⟨fun i hi e => h2 v i h1 hi ⟨rfl, e⟩, ?_⟩
      ((conv => whnf); (try dsimp only))
      refine ⟨fun _ => ?_, fun q => absurd rfl q⟩
      ((conv => whnf); (try dsimp only))
      exact hq
  · refine Or.inr ⟨fun v hv e => h1 ⟨v, hv, e⟩, ?_⟩
    ((conv => whnf); (try dsimp only))
    rcases hq with ⟨v', i, h2, h3, h4, rfl, hq⟩ | ⟨h2, hq⟩
    · exact absurd ⟨v', h2, h4⟩ h1
    · refine Or.inr ⟨fun q => ?_, ?_⟩
      · have h5 := Int32.le_iff_toInt_le.mp (Int32.le_trans q.1 q.2)
        have e1 : (Int32.ofInt 0).toInt = 0 := rfl
        have e2 : (-1 - Int32.ofInt 1).toInt = -2 := rfl
        omega
      · ((conv => whnf); (try dsimp only))
        refine ⟨fun _ => ?_, fun q => absurd rfl q⟩
        ((conv => whnf); (try dsimp only))
        exact hq
def sp_X4_pageAt : lpS := fun as σ Q => match as with
  | [.inr (some (r, k)), .inl x] => r = 2 ∧ ∃ n s pg wt, lp_Vis σ k n s pg wt ∧ ((∃ j, j < s n ∧ x = nI j ∧ Q (some (nI (pg j))) σ) ∨ ((∀ j, j < s n → x ≠ nI j) ∧ Q (some (-1)) σ))
  | _ => False
set_option maxHeartbeats 4000000 in
set_option maxRecDepth 100000 in
theorem ct_X4_pageAt (l : Launch) (D : va_G) (cI cD : ClassId) : lp_Ct l D cI cD yX4_pageAt cX4_pageAt 2 (some .int) 1 sp_X4_pageAt := by
  refine lp_method0 flX4 pfX4 kcX4 [(29, none, 3, sp_X6_isWithin), (37, some 4, 0, sp_X4_asks)] false kX4_pageAt rfl rfl (lp_rI rfl) flX4_ok pfX4_ok kcX4_ok kX4_pageAt_ok ⟨_, _, rfl, rfl⟩ (lp_cs1 (lp_mkCall lkX4_29 (ct_X6_isWithin l D cI cD) (by omega)) (lp_cs1 (lp_mkCall lkX4_37 (ct_X4_asks l D cI cD) (by omega)) lp_cs0)) ?_
  intro as σ Q hs
  rcases as with _ | ⟨_ | _ | ⟨r, k⟩, _ | ⟨x | _, _ | ⟨c, as⟩⟩⟩ <;> try exact (hs : False).elim
  obtain ⟨rfl, n, s, pg, wt, hV, hq⟩ := hs
  refine ⟨Nat.le_refl 2, ?_⟩
  have hn := lp_Vis_bd hV
  ((conv => whnf); (try dsimp only))
  refine ⟨rfl, n, s, pg, wt, hV, ?_⟩
  ((conv => whnf); (try dsimp only))
  refine lp_below (by omega) ?_
  rcases hq with ⟨j, h1, rfl, hq⟩ | ⟨h1, hq⟩
  · refine Or.inl ⟨j, h1, rfl, ?_⟩
    ((conv => whnf); (try dsimp only))
    refine ⟨fun q => absurd q (by decide), fun _ => ?_⟩
    ((conv => whnf); (try dsimp only))
    refine ⟨lp_vin (by omega) (by omega), ?_⟩
    ((conv => whnf); (try dsimp only))
    rw [lp_clm (by omega), (hV.2.2.2.2.2 j h1).1]
    exact hq
  · refine Or.inr ⟨h1, ?_⟩
    ((conv => whnf); (try dsimp only))
    refine ⟨fun _ => ?_, fun q => absurd rfl q⟩
    ((conv => whnf); (try dsimp only))
    exact hq
def sp_X4_waitAt : lpS := fun as σ Q => match as with
  | [.inr (some (r, k)), .inl x] => r = 2 ∧ ∃ n s pg wt, lp_Vis σ k n s pg wt ∧ ((∃ j, j < s n ∧ x = nI j ∧ Q (some (nI (wt j))) σ) ∨ ((∀ j, j < s n → x ≠ nI j) ∧ Q (some (-1)) σ))
  | _ => False
set_option maxHeartbeats 4000000 in
set_option maxRecDepth 100000 in
theorem ct_X4_waitAt (l : Launch) (D : va_G) (cI cD : ClassId) : lp_Ct l D cI cD yX4_waitAt cX4_waitAt 2 (some .int) 1 sp_X4_waitAt := by
  refine lp_method0 flX4 pfX4 kcX4 [(29, none, 3, sp_X6_isWithin), (37, some 4, 0, sp_X4_asks)] false kX4_waitAt rfl rfl (lp_rI rfl) flX4_ok pfX4_ok kcX4_ok kX4_waitAt_ok ⟨_, _, rfl, rfl⟩ (lp_cs1 (lp_mkCall lkX4_29 (ct_X6_isWithin l D cI cD) (by omega)) (lp_cs1 (lp_mkCall lkX4_37 (ct_X4_asks l D cI cD) (by omega)) lp_cs0)) ?_
  intro as σ Q hs
  rcases as with _ | ⟨_ | _ | ⟨r, k⟩, _ | ⟨x | _, _ | ⟨c, as⟩⟩⟩ <;> try exact (hs : False).elim
  obtain ⟨rfl, n, s, pg, wt, hV, hq⟩ := hs
  refine ⟨Nat.le_refl 2, ?_⟩
  have hn := lp_Vis_bd hV
  ((conv => whnf); (try dsimp only))
  refine ⟨rfl, n, s, pg, wt, hV, ?_⟩
  ((conv => whnf); (try dsimp only))
  refine lp_below (by omega) ?_
  rcases hq with ⟨j, h1, rfl, hq⟩ | ⟨h1, hq⟩
  · refine Or.inl ⟨j, h1, rfl, ?_⟩
    ((conv => whnf); (try dsimp only))
    refine ⟨fun q => absurd q (by decide), fun _ => ?_⟩
    ((conv => whnf); (try dsimp only))
    refine ⟨lp_vin (by omega) (by omega), ?_⟩
    ((conv => whnf); (try dsimp only))
    rw [lp_clm (by omega), (hV.2.2.2.2.2 j h1).2.2.1]
    exact hq
  · refine Or.inr ⟨h1, ?_⟩
    ((conv => whnf); (try dsimp only))
    refine ⟨fun _ => ?_, fun q => absurd rfl q⟩
    ((conv => whnf); (try dsimp only))
    exact hq
theorem lp_m1 {n : Nat} (h : n < 2 ^ 31) : (∃ v, v < n ∧ nI n - Int32.ofInt 1 = nI v ∧ n = v + 1) ∨ (n = 0 ∧ ∀ v, v < n → nI n - Int32.ofInt 1 ≠ nI v) := by
  rcases n with _ | n
  · exact Or.inr ⟨rfl, fun v hv => absurd hv (Nat.not_lt_zero _)⟩
  · exact Or.inl ⟨n, Nat.lt_succ_self _, nI_pred n, rfl⟩
def sp_X4_lastPlace : lpS := fun as σ Q => match as with
  | [.inr (some (r, k))] => r = 2 ∧ ∃ n s pg wt, lp_Vis σ k n s pg wt ∧ ((∃ v, n = v + 1 ∧ s v < s n ∧ Q (some (nI (pg (s n - 1)))) σ) ∨ ((∀ v, n = v + 1 → s v = s n) ∧ Q (some (nI 10)) σ))
  | _ => False
set_option maxHeartbeats 4000000 in
set_option maxRecDepth 100000 in
theorem ct_X4_lastPlace (l : Launch) (D : va_G) (cI cD : ClassId) : lp_Ct l D cI cD yX4_lastPlace cX4_lastPlace 1 (some .int) 3 sp_X4_lastPlace := by
  refine lp_method0 flX4 pfX4 kcX4 [(25, some 4, 1, sp_X4_lengthOf), (37, some 4, 0, sp_X4_asks)] false kX4_lastPlace rfl rfl (lp_rI rfl) flX4_ok pfX4_ok kcX4_ok kX4_lastPlace_ok ⟨_, _, rfl, rfl⟩ (lp_cs1 (lp_mkCall lkX4_25 (ct_X4_lengthOf l D cI cD) (by omega)) (lp_cs1 (lp_mkCall lkX4_37 (ct_X4_asks l D cI cD) (by omega)) lp_cs0)) ?_
  intro as σ Q hs
  rcases as with _ | ⟨_ | _ | ⟨r, k⟩, _ | ⟨c, as⟩⟩ <;> try exact (hs : False).elim
  obtain ⟨rfl, n, s, pg, wt, hV, hq⟩ := hs
  refine ⟨Nat.le_refl 1, ?_⟩
  have hn := hV.2.1
  have hb := lp_Vis_bd hV
  ((conv => whnf); (try dsimp only))
  rw [hV.1]
  refine ⟨rfl, n, s, pg, wt, hV, ?_⟩
  rcases lp_m1 (n := n) (by omega) with ⟨v, h1, h2, rfl⟩ | ⟨rfl, h2⟩
  · refine Or.inl ⟨v, h1, h2, ?_⟩
    have hv := hV.2.2.2.2.1 v h1
    ((conv => whnf); (try dsimp only))
    rcases hq with ⟨v', e, h3, hq⟩ | ⟨h3, hq⟩
    · obtain rfl : v = v' := by omega
      refine ⟨fun q => absurd q (nI_nle (by omega) (by omega)), fun _ => ?_⟩
      ((conv => whnf); (try dsimp only))
      refine ⟨rfl, _, s, pg, wt, hV, ?_⟩
      ((conv => whnf); (try dsimp only))
      rw [show nI (s (v + 1)) - Int32.ofInt 1 = nI (s (v + 1) - 1) from by
        rw [show nI (s (v + 1)) = nI (s (v + 1) - 1 + 1) by congr 1; omega]; exact nI_pred _]
      refine ⟨lp_vin (by omega) (by omega), ?_⟩
      ((conv => whnf); (try dsimp only))
      rw [lp_clm (by omega), (hV.2.2.2.2.2 _ (by omega)).1]
      exact hq
    · have := h3 v rfl
      refine ⟨fun _ => ?_, fun q => absurd (by rw [this, Nat.sub_self]; decide) q⟩
      ((conv => whnf); (try dsimp only))
      exact hq
  · refine Or.inr ⟨h2, ?_⟩
    ((conv => whnf); (try dsimp only))
    refine ⟨fun _ => ?_, fun q => absurd (by decide) q⟩
    ((conv => whnf); (try dsimp only))
    rcases hq with ⟨v', e, h3, hq⟩ | ⟨h3, hq⟩
    · omega
    · exact hq
def sp_X4_open : lpS := fun as σ Q => match as with
  | [.inr (some (r, k))] => r = 2 ∧ ∃ n s pg wt, lp_Vis σ k n s pg wt ∧ ((n < 60 ∧ Q (some (nI n)) (lp_w3 (lp_w3 σ 5 k (n + 1) (nI (s n))) 2 k 3 (nI (n + 1)))) ∨ (n = 60 ∧ Q (some (-1)) σ))
  | _ => False
set_option maxHeartbeats 4000000 in
set_option maxRecDepth 100000 in
theorem ct_X4_open (l : Launch) (D : va_G) (cI cD : ClassId) : lp_Ct l D cI cD yX4_open cX4_open 1 (some .int) 0 sp_X4_open := by
  refine lp_method0 flX4 pfX4 kcX4 [] false kX4_open rfl rfl (lp_rI rfl) flX4_ok pfX4_ok kcX4_ok kX4_open_ok ⟨_, _, rfl, rfl⟩ lp_cs0 ?_
  intro as σ Q hs
  rcases as with _ | ⟨_ | _ | ⟨r, k⟩, _ | ⟨c, as⟩⟩ <;> try exact (hs : False).elim
  obtain ⟨rfl, n, s, pg, wt, hV, hq⟩ := hs
  refine ⟨Nat.le_refl 1, ?_⟩
  have hn := hV.2.1
  ((conv => whnf); (try dsimp only))
  rw [hV.1]
  refine ⟨fun q => ?_, fun q => ?_⟩ <;> ((conv => whnf); (try dsimp only))
  · have q : n < 60 := (nI_ltI (b := 60) (by omega) (by omega)).mp q
    rw [hV.1]
    refine ⟨lp_vin (by omega) (by omega), ?_⟩
    ((conv => whnf); (try dsimp only))
    rw [show nI n + Int32.ofInt 1 = nI (n + 1) from (nI_succ n).symm]
    refine ⟨lp_vin (by omega) (by omega), ?_⟩
    rw [lp_clm (by omega), lp_clm (by omega), hV.2.2.1 n (Nat.le_refl _)]
    ((conv => whnf); (try dsimp only))
    have e1 : lp_w3 σ 5 k (n + 1) (nI (s n)) 2 k 3 = nI n := by rw [lp_w3_ne (by omega)]; exact hV.1
    rw [e1, show nI n + Int32.ofInt 1 = nI (n + 1) from (nI_succ n).symm, lp_w3_same]
    rw [show upd (lp_w3 σ 5 k (n + 1) (nI (s n)) 2 k) 3 (nI (n + 1)) 3 - Int32.ofInt 1 = nI n from nI_pred n]
    rcases hq with ⟨h1, hq⟩ | ⟨h1, hq⟩
    · exact hq
    · omega
  · have q : ¬ n < 60 := fun h => q ((nI_ltI (b := 60) (by omega) (by omega)).mpr h)
    rcases hq with ⟨h1, hq⟩ | ⟨h1, hq⟩
    · omega
    · exact hq
def sp_X4_add : lpS := fun as σ Q => match as with
  | [.inr (some (r, k)), .inl x, .inl y] => r = 2 ∧ ∃ n s pg wt, lp_Vis σ k n s pg wt ∧ ((∃ v, n = v + 1 ∧ s n - s v < 20 ∧ Q (some (nI (s n - s v + 1))) (lp_w3 (lp_w3 (lp_w3 σ 3 k (s n) x) 4 k (s n) y) 5 k n (nI (s n + 1)))) ∨ ((∀ v, n = v + 1 → s n = s v + 20) ∧ Q (some (-1)) σ))
  | _ => False
set_option maxHeartbeats 4000000 in
set_option maxRecDepth 100000 in
theorem ct_X4_add (l : Launch) (D : va_G) (cI cD : ClassId) : lp_Ct l D cI cD yX4_add cX4_add 5 (some .int) 3 sp_X4_add := by
  refine lp_method0 flX4 pfX4 kcX4 [(25, some 4, 1, sp_X4_lengthOf)] false kX4_add rfl rfl (lp_rI rfl) flX4_ok pfX4_ok kcX4_ok kX4_add_ok ⟨_, _, rfl, rfl⟩ (lp_cs1 (lp_mkCall lkX4_25 (ct_X4_lengthOf l D cI cD) (by omega)) lp_cs0) ?_
  intro as σ Q hs
  rcases as with _ | ⟨_ | _ | ⟨r, k⟩, _ | ⟨x | _, _ | ⟨y | _, _ | ⟨c, as⟩⟩⟩⟩ <;> try exact (hs : False).elim
  obtain ⟨rfl, n, s, pg, wt, hV, hq⟩ := hs
  refine ⟨by show 3 ≤ 5; omega, ?_⟩
  have hn := hV.2.1
  have hb := lp_Vis_bd hV
  ((conv => whnf); (try dsimp only))
  rw [hV.1]
  refine ⟨rfl, n, s, pg, wt, hV, ?_⟩
  rcases lp_m1 (n := n) (by omega) with ⟨v, h1, h2, rfl⟩ | ⟨rfl, h2⟩
  · refine Or.inl ⟨v, h1, h2, ?_⟩
    have hv := hV.2.2.2.2.1 v h1
    ((conv => whnf); (try dsimp only))
    refine ⟨fun q => absurd q (lp_neg1 (by omega)), fun _ => ?_⟩
    ((conv => whnf); (try dsimp only))
    refine ⟨fun q => ?_, fun q => ?_⟩ <;> ((conv => whnf); (try dsimp only))
    · have q : s (v + 1) - s v < 20 := (nI_ltI (b := 20) (by omega) (by omega)).mp q
      rw [hV.1]
      refine ⟨lp_vin (by omega) (by omega), ?_⟩
      rw [lp_clm (by omega), hV.2.2.1 _ (Nat.le_refl _)]
      have hsn : s (v + 1) < 1200 := by have := lp_Vis_le hV v (by omega); omega
      ((conv => whnf); (try dsimp only))
      refine ⟨lp_vin (by omega) (by omega), ?_⟩
      rw [lp_clm (by omega)]
      ((conv => whnf); (try dsimp only))
      refine ⟨lp_vin (by omega) (by omega), ?_⟩
      rw [lp_clm (by omega)]
      ((conv => whnf); (try dsimp only))
      have e1 : lp_w3 (lp_w3 σ 3 k (s (v + 1)) x) 4 k (s (v + 1)) y 2 k 3 = nI (v + 1) := by rw [lp_w3_ne (by omega), lp_w3_ne (by omega)]; exact hV.1
      rw [e1]
      refine ⟨lp_vin (by omega) (by omega), ?_⟩
      rw [lp_clm (by omega), show nI (s (v + 1)) + Int32.ofInt 1 = nI (s (v + 1) + 1) from (nI_succ _).symm]
      ((conv => whnf); (try dsimp only))
      rw [show nI (s (v + 1) - s v) + Int32.ofInt 1 = nI (s (v + 1) - s v + 1) from (nI_succ _).symm]
      rcases hq with ⟨v', e, h3, hq⟩ | ⟨h3, hq⟩
      · obtain rfl : v = v' := by omega
        exact hq
      · have := h3 v rfl
        omega
    · have q : ¬ s (v + 1) - s v < 20 := fun h => q ((nI_ltI (b := 20) (by omega) (by omega)).mpr h)
      rcases hq with ⟨v', e, h3, hq⟩ | ⟨h3, hq⟩
      · obtain rfl : v = v' := by omega
        omega
      · exact hq
  · refine Or.inr ⟨h2, ?_⟩
    ((conv => whnf); (try dsimp only))
    refine ⟨fun _ => ?_, fun q => absurd rfl q⟩
    ((conv => whnf); (try dsimp only))
    rcases hq with ⟨v', e, h3, hq⟩ | ⟨h3, hq⟩
    · omega
    · exact hq
