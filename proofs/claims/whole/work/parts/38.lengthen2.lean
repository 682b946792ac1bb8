/-! ===== Machine.lengthen: its contract ===== -/
def lp_lc1 (ct : Nat → Nat) (f : Nat) : Nat → Nat := if f = 10 then ct else nu ct (f * 11 + 10) (ct (f * 11 + 10) - 1)
def lp_lc2 (ct : Nat → Nat) (f p : Nat) : Nat → Nat := nu (lp_lc1 ct f) (f * 11 + p) (lp_lc1 ct f (f * 11 + p) + 1)
def lp_lct (ct : Nat → Nat) (f p : Nat) : Nat → Nat := nu (lp_lc2 ct f p) (p * 11 + 10) (lp_lc2 ct f p (p * 11 + 10) + 1)
def lp_F2 (σ τ : lpM) : Prop := (∀ r, r ≠ 7 → r ≠ 9 → r ≠ 27 → r ≠ 28 → τ r = σ r) ∧ (∀ k, 121 ≤ k → τ 27 k = σ 27 k ∧ τ 28 k = σ 28 k)
def lp_T7 (σ τ : lpM) (ct : Nat → Nat) : Prop := (∀ r, r ≠ 7 → τ r = σ r) ∧ ∀ j, j < 121 → τ 7 0 j = nI (ct j)
theorem lp_T7_w3 {σ τ : lpM} {ct : Nat → Nat} {i x : Nat} (h : lp_T7 σ τ ct) : lp_T7 σ (lp_w3 τ 7 0 i (nI x)) (nu ct i x) := by
  refine ⟨fun r hr => ?_, fun j hj => ?_⟩
  · rw [← h.1 r hr]
    funext k
    exact lp_w3_ne (fun z => hr z.1)
  · rw [lp_rd]
    by_cases ej : j = i
    · rw [if_pos ⟨rfl, rfl, ej⟩, ej, nu_same]
    · rw [if_neg (fun z => ej z.2.2), nu_ne ej]
      exact h.2 j hj
theorem lp_lc1_le {ct : Nat → Nat} {f : Nat} (j : Nat) : lp_lc1 ct f j ≤ ct j := by
  unfold lp_lc1
  split
  · exact Nat.le_refl _
  · by_cases e : j = f * 11 + 10
    · rw [e, nu_same]; omega
    · rw [nu_ne e]; exact Nat.le_refl _
theorem lp_lc2_le {ct : Nat → Nat} {f p : Nat} (j : Nat) : lp_lc2 ct f p j ≤ ct j + 1 := by
  have := lp_lc1_le (ct := ct) (f := f) j
  unfold lp_lc2
  by_cases e : j = f * 11 + p
  · rw [e, nu_same]; rw [e] at this; omega
  · rw [nu_ne e]; omega
theorem lp_lct_le {ct : Nat → Nat} {f p : Nat} (j : Nat) : lp_lct ct f p j ≤ ct j + 2 := by
  have := lp_lc2_le (ct := ct) (f := f) (p := p) j
  unfold lp_lct
  by_cases e : j = p * 11 + 10
  · rw [e, nu_same]; rw [e] at this; omega
  · rw [nu_ne e]; omega
def sp_X2_lengthen : lpS := fun as σ Q => match as with
  | [.inr (some (r, k)), .inl x, .inl y, .inl z] => r = 6 ∧ k = 0 ∧ ∃ (ct rr : Nat → Nat) (wc : Nat → Nat → Nat) (f p w : Nat), x = nI f ∧ y = nI p ∧ z = nI w ∧ f ≤ 10 ∧ p ≤ 9 ∧ w ≤ 60 ∧ lp_Mach σ ct rr wc ∧ (f ≠ 10 → 0 < ct (f * 11 + 10)) ∧ (∀ j, j < 121 → ct j ≤ 2000) ∧
      ∀ τ, lp_Mach τ (lp_lct ct f p) rr (u2 wc (f * 11 + p) w) → lp_F2 σ τ → Q none τ
  | _ => False
set_option maxHeartbeats 16000000 in
set_option maxRecDepth 100000 in
theorem ct_X2_lengthen (l : Launch) (D : va_G) (cI cD : ClassId) : lp_Ct l D cI cD yX2_lengthen cX2_lengthen 5 none 2 sp_X2_lengthen := by
  intro ad σ as Q sz hoka hs
  rcases as with _ | ⟨_ | _ | ⟨r, k⟩, _ | ⟨x | _, _ | ⟨y | _, _ | ⟨z | _, _ | ⟨c, as⟩⟩⟩⟩⟩ <;> try exact (hs : False).elim
  obtain ⟨rfl, rfl, ct, rr, wc, f, p, w, rfl, rfl, rfl, hf, hp, hw, hM, hc0, hcb, hq⟩ := hs
  have hcs : ∀ x ∈ [(33, none, 1, sp_X6_isPlace), (37, none, 1, sp_X6_isPage), (40, none, 1, sp_X6_isWait), (43, none, 2, sp_X6_stepOf)], lp_CallOK l D cI cD RX2 2 x := lp_cs1 (lp_mkCall lkX2_33 (ct_X6_isPlace l D cI cD) (by omega)) (lp_cs1 (lp_mkCall lkX2_37 (ct_X6_isPage l D cI cD) (by omega)) (lp_cs1 (lp_mkCall lkX2_40 (ct_X6_isWait l D cI cD) (by omega)) (lp_cs1 (lp_mkCall lkX2_43 (ct_X6_stepOf l D cI cD) (by omega)) lp_cs0)))
  have hstep : f * 11 + p < 121 := by omega
  obtain ⟨P43, hP43⟩ : ∃ P : lpL → lpM → Prop, P = fun L τ => lp_T7 σ τ (lp_lc1 ct f) ∧ L = [some (.inr (some (6, 0))), some (.inl (nI f)), some (.inl (nI p)), some (.inl (nI w)), none] := ⟨_, rfl⟩
  obtain ⟨P86, hP86⟩ : ∃ P : lpL → lpM → Prop, P = fun L τ => lp_T7 σ τ (lp_lct ct f p) ∧ τ 9 0 (f * 11 + p) = 0 ∧ L = [some (.inr (some (6, 0))), some (.inl (nI f)), some (.inl (nI p)), some (.inl (nI w)), some (.inl (nI (f * 11 + p)))] := ⟨_, rfl⟩
  obtain ⟨P102, hP102⟩ : ∃ P : lpL → lpM → Prop, P = fun L τ => (∀ r, r ≠ 7 → r ≠ 9 → r ≠ 27 → r ≠ 28 → τ r = σ r) ∧ (∀ k, k ≠ f * 11 + p → τ 27 k = σ 27 k ∧ τ 28 k = σ 28 k) ∧ (∀ j, j < 121 → τ 7 0 j = nI (lp_lct ct f p j)) ∧ (∀ j, j ≠ f * 11 + p → τ 9 0 j = σ 9 0 j) ∧ τ 9 0 (f * 11 + p) ≠ 0 ∧ (∀ i, i < 61 → τ 27 (f * 11 + p) i = nI (wc (f * 11 + p) i)) ∧ L = [some (.inr (some (6, 0))), some (.inl (nI f)), some (.inl (nI p)), some (.inl (nI w)), some (.inl (nI (f * 11 + p)))] := ⟨_, rfl⟩
  have w102 : ∀ L τ, P102 L τ → lp_wp flX2 pfX2 kcX2 [(33, none, 1, sp_X6_isPlace), (37, none, 1, sp_X6_isPage), (40, none, 1, sp_X6_isWait), (43, none, 2, sp_X6_stepOf)] false kX2_lengthen [43, 86, 102] (fun _ _ _ => False) Q 500 (lp_to 102 kX2_lengthen) L [] τ := by
    intro L τ hh
    rw [hP102] at hh
    obtain ⟨t1, t2, t3, t4, t5, t6, rfl⟩ := hh
    ((conv => whnf); (try dsimp only))
    refine ⟨lp_vin hstep (by omega), ?_⟩
    rw [lp_clm (by omega)]
    refine ⟨fun q => absurd q t5, fun _ => ?_⟩
    ((conv => whnf); (try dsimp only))
    have hd : lp_dl (f * 11 + p) = 61 := if_pos hstep
    refine ⟨lp_vin (by rw [hd]; omega) (lp_dl_lt _), ?_⟩
    rw [lp_clm (by omega), t6 w (by omega)]
    ((conv => whnf); (try dsimp only))
    refine ⟨lp_vin (by rw [hd]; omega) (lp_dl_lt _), ?_⟩
    rw [lp_clm (by omega), show nI (wc (f * 11 + p) w) + Int32.ofInt 1 = nI (wc (f * 11 + p) w + 1) from (nI_succ _).symm]
    ((conv => whnf); (try dsimp only))
    refine hq _ ⟨fun j hj => ?_, fun j hj => ?_, fun j hj hz i hi => ?_, fun j hj hz i hi => ?_⟩ ⟨fun r h7 h9 h27 h28 => ?_, fun k hk => ?_⟩
    · rw [lp_w3_ne (by omega)]
      have := lp_lct_le (ct := ct) (f := f) (p := p) j
      have := hcb j hj
      exact ⟨t3 j hj, by omega⟩
    · rw [lp_w3_ne (by omega), t1 8 (by omega) (by omega) (by omega) (by omega)]
      exact hM.2.1 j hj
    · rw [lp_w3_ne (by omega)] at hz
      have ej : j ≠ f * 11 + p := fun z => by rw [z] at hz; exact t5 hz
      unfold u2
      rw [if_neg (fun z => ej z.1)]
      rw [t4 j ej] at hz
      exact hM.2.2.1 j hj hz i hi
    · rw [lp_w3_ne (by omega)] at hz
      rw [lp_rd]
      unfold u2
      by_cases ej : j = f * 11 + p
      · subst ej
        by_cases ei : i = w
        · subst ei
          rw [if_pos ⟨rfl, rfl, rfl⟩, if_pos ⟨rfl, rfl⟩]
        · rw [if_neg (fun z => ei z.2.2), if_neg (fun z => ei z.2)]
          exact t6 i hi
      · rw [if_neg (fun z => ej z.2.1), if_neg (fun z => ej z.1), (t2 j ej).1]
        rw [t4 j ej] at hz
        exact hM.2.2.2 j hj hz i hi
    · rw [← t1 r h7 h9 h27 h28]
      funext k
      exact lp_w3_ne (fun z => h27 z.1)
    · rw [lp_w3_ne (by omega), lp_w3_ne (by omega)]
      exact t2 k (by omega)
  have w43 : ∀ L τ, P43 L τ → lp_wp flX2 pfX2 kcX2 [(33, none, 1, sp_X6_isPlace), (37, none, 1, sp_X6_isPage), (40, none, 1, sp_X6_isWait), (43, none, 2, sp_X6_stepOf)] false kX2_lengthen [43, 86, 102] (fun pc L τ => (pc = 86 ∧ P86 L τ) ∨ (pc = 102 ∧ P102 L τ)) Q 500 (lp_to 43 kX2_lengthen) L [] τ := by
    intro L τ hh
    rw [hP43] at hh
    obtain ⟨t1, rfl⟩ := hh
    ((conv => whnf); (try dsimp only))
    rw [lp_step]
    refine ⟨lp_vin hstep (by omega), ?_⟩
    rw [lp_clm (by omega), t1.2 _ hstep]
    ((conv => whnf); (try dsimp only))
    refine ⟨lp_vin hstep (by omega), ?_⟩
    rw [lp_clm (by omega), show nI (lp_lc1 ct f (f * 11 + p)) + Int32.ofInt 1 = nI (lp_lc1 ct f (f * 11 + p) + 1) from (nI_succ _).symm]
    have t2 : lp_T7 σ (lp_w3 τ 7 0 (f * 11 + p) (nI (lp_lc1 ct f (f * 11 + p) + 1))) (lp_lc2 ct f p) := lp_T7_w3 t1
    generalize lp_w3 τ 7 0 (f * 11 + p) (nI (lp_lc1 ct f (f * 11 + p) + 1)) = τ2 at t2 ⊢
    ((conv => whnf); (try dsimp only))
    rw [show nI p * nI 11 + (Int8.ofInt 10).toInt32 = nI (p * 11 + 10) from lp_step (b := 10)]
    refine ⟨lp_vin (by omega) (by omega), ?_⟩
    rw [lp_clm (by omega), t2.2 _ (by omega)]
    ((conv => whnf); (try dsimp only))
    refine ⟨lp_vin (by omega) (by omega), ?_⟩
    rw [lp_clm (by omega), show nI (lp_lc2 ct f p (p * 11 + 10)) + Int32.ofInt 1 = nI (lp_lc2 ct f p (p * 11 + 10) + 1) from (nI_succ _).symm]
    have t3 : lp_T7 σ (lp_w3 τ2 7 0 (p * 11 + 10) (nI (lp_lc2 ct f p (p * 11 + 10) + 1))) (lp_lct ct f p) := lp_T7_w3 t2
    generalize lp_w3 τ2 7 0 (p * 11 + 10) (nI (lp_lc2 ct f p (p * 11 + 10) + 1)) = τ3 at t3 ⊢
    ((conv => whnf); (try dsimp only))
    refine ⟨lp_vin hstep (by omega), ?_⟩
    rw [lp_clm (by omega)]
    refine ⟨fun q => ?_, fun q => ?_⟩ <;> ((conv => whnf); (try dsimp only))
    · refine Or.inl ⟨rfl, ?_⟩
      rw [hP86]
      exact ⟨t3, q, rfl⟩
    · refine Or.inr ⟨rfl, ?_⟩
      rw [hP102]
      have q' := q
      rw [t3.1 9 (by omega)] at q'
      exact ⟨fun r h7 h9 h27 h28 => t3.1 r h7, fun k hk => ⟨by rw [t3.1 27 (by omega)], by rw [t3.1 28 (by omega)]⟩, t3.2, fun j hj => by rw [t3.1 9 (by omega)], q, fun i hi => by rw [t3.1 27 (by omega)]; exact hM.2.2.2 _ hstep q' i hi, rfl⟩
  have w0 : lp_wp flX2 pfX2 kcX2 [(33, none, 1, sp_X6_isPlace), (37, none, 1, sp_X6_isPage), (40, none, 1, sp_X6_isWait), (43, none, 2, sp_X6_stepOf)] false kX2_lengthen [43, 86, 102] (fun pc L τ => pc = 43 ∧ P43 L τ) Q 500 kX2_lengthen (lp_ent [.inr (some (6, 0)), .inl (nI f), .inl (nI p), .inl (nI w)] 5) [] σ := by
    ((conv => whnf); (try dsimp only))
    refine Or.inl ⟨f, hf, rfl, ?_⟩
    ((conv => whnf); (try dsimp only))
    refine ⟨fun q => absurd q (by decide), fun _ => ?_⟩
    ((conv => whnf); (try dsimp only))
    refine Or.inl ⟨p, hp, rfl, ?_⟩
    ((conv => whnf); (try dsimp only))
    refine ⟨fun q => absurd q (by decide), fun _ => ?_⟩
    ((conv => whnf); (try dsimp only))
    refine Or.inl ⟨w, hw, rfl, ?_⟩
    ((conv => whnf); (try dsimp only))
    refine ⟨fun _ => ?_, fun q => absurd q (by decide)⟩
    ((conv => whnf); (try dsimp only))
    have e10 : (nI f = (Int8.ofInt 10).toInt32) ↔ f = 10 := nI_eq (a := f) (b := 10) (by omega) (by omega)
    refine ⟨fun q => ?_, fun q => ?_⟩ <;> ((conv => whnf); (try dsimp only))
    · refine ⟨rfl, ?_⟩
      rw [hP43]
      refine ⟨⟨fun _ _ => rfl, fun j hj => ?_⟩, rfl⟩
      unfold lp_lc1
      rw [if_pos (e10.mp q)]
      exact (hM.1 j hj).1
    · have hf10 : ¬ f = 10 := fun z => q (e10.mpr z)
      rw [show nI f * nI 11 + (Int8.ofInt 10).toInt32 = nI (f * 11 + 10) from lp_step (b := 10)]
      refine ⟨lp_vin (by omega) (by omega), ?_⟩
      rw [lp_clm (by omega), (hM.1 _ (by omega)).1]
      ((conv => whnf); (try dsimp only))
      refine ⟨lp_vin (by omega) (by omega), ?_⟩
      rw [lp_clm (by omega), show nI (ct (f * 11 + 10)) - Int32.ofInt 1 = nI (ct (f * 11 + 10) - 1) from pk_sub (b := 1) (hc0 hf10)]
      ((conv => whnf); (try dsimp only))
      refine ⟨rfl, ?_⟩
      rw [hP43]
      have t0 : lp_T7 σ σ ct := ⟨fun _ _ => rfl, fun j hj => (hM.1 j hj).1⟩
      have t1 := lp_T7_w3 (i := f * 11 + 10) (x := ct (f * 11 + 10) - 1) t0
      refine ⟨?_, rfl⟩
      unfold lp_lc1
      rw [if_neg hf10]
      exact t1
  refine Met.ofW (cc := cX2_lengthen) (maxL := 5) (ret := none) (by decide) rfl ?_
  intro p' e s m args below meth c s₁ B hml hv
  obtain ⟨rfl, hsz, hRep, hWd⟩ := hv
  have hx := B.exec
  have hb := B.bytes
  have hr := B.returns
  have hts := atoms_spec (ws := Cond.code yX2_lengthen cX2_lengthen 5 none :: lp_tbl) B.pre
  have hown' : s.vm.findClass RX2 = some m.cls := findClass_of_methodNamed B.named
  have hlocks := B.notSynchronized
  have hlv := lv_entry (([.inr (some (6, 0)), .inl (nI f), .inl (nI p), .inl (nI w)] : List lpV).map (lp_cv ad)) (n := 5) (by show 4 ≤ 5; omega)
  rw [lg_entry_eq]
  generalize (lg_sl (([.inr (some (6, 0)), .inl (nI f), .inl (nI p), .inl (nI w)] : List lpV).map (lp_cv ad)) ++ List.replicate (5 - (lg_sl (([.inr (some (6, 0)), .inl (nI f), .inl (nI p), .inl (nI w)] : List lpV).map (lp_cv ad))).length) Slot.unset).toArray = ls at hlv ⊢
  have A0 : lp_At D cI cD (headSpec (Cond.code yX2_lengthen cX2_lengthen 5 none :: lp_tbl) { frames := 2, cells := 3 * lp_dead σ, slots := 124 * lp_dead σ, locals := 36 * 2 }).room s ad σ sz 5 ad σ s.heap [] 0 0 ls (lp_ent [.inr (some (6, 0)), .inl (nI f), .inl (nI p), .inl (nI w)] 5) := by
    refine ⟨hRep, fun r k h => ⟨h, rfl⟩, fun r k h => Or.inl ⟨r, k, h, rfl⟩, va_S.rf, ⟨⟨hlv.1, hlv.2.1, fun q hq => hlv.2.2 q (lp_kl_ent ad _ 0 _ q hq)⟩, fun v hv => ?_, rfl⟩, ?_, ?_⟩
    · rcases List.mem_append.mp hv with q | q
      · obtain ⟨w', hw', e'⟩ := List.mem_map.mp q
        cases e'
        exact hoka _ hw'
      · have := List.eq_of_mem_replicate q
        cases this
    · exact ⟨Nat.le_of_eq (Nat.zero_add _), Nat.le_of_eq (Nat.zero_add _)⟩
    · exact ⟨Nat.le_refl _, Nat.le_refl _⟩
  have W102 := fun (L' : lpL) (σ' : lpM) (ad' : Nat → Nat → Nat) (H' : Heap) (locs' : List Loc) (cells' slots' : Nat) (ls' : Array Slot) (hP : P102 L' σ') (A' : lp_At D cI cD (headSpec (Cond.code yX2_lengthen cX2_lengthen 5 none :: lp_tbl) { frames := 2, cells := 3 * lp_dead σ, slots := 124 * lp_dead σ, locals := 36 * 2 }).room s ad σ sz 5 ad' σ' H' locs' cells' slots' ls' L') =>
    lp_sound (p := p') (e := e) (own := RX2) (y0 := yX2_lengthen) (Q0 := Q) (below := below) (ret0 := none) (h := 2) hx hb hml hown' hts hWd ⟨rfl, rfl⟩ ⟨rfl, rfl⟩ hsz hr hlocks (lp_rV rfl) flX2_ok pfX2_ok kcX2_ok hcs kX2_lengthen_ok (labs := [43, 86, 102]) (lab := fun _ _ _ => False) (fun pc L' σ' ad' H' locs' cells' slots' ls' hlb A' => hlb.elim) 500 (lp_to 102 kX2_lengthen) L' [] σ' ad' H' locs' cells' slots' ls' (102, .aload_n 0, 1) rfl (lp_to_suf 102 kX2_lengthen) (w102 L' σ' hP) A' (fun v hv => by cases hv)
  have W86 := fun (L' : lpL) (σ' : lpM) (ad' : Nat → Nat → Nat) (H' : Heap) (locs' : List Loc) (cells' slots' : Nat) (ls' : Array Slot) (hP : P86 L' σ') (A' : lp_At D cI cD (headSpec (Cond.code yX2_lengthen cX2_lengthen 5 none :: lp_tbl) { frames := 2, cells := 3 * lp_dead σ, slots := 124 * lp_dead σ, locals := 36 * 2 }).room s ad σ sz 5 ad' σ' H' locs' cells' slots' ls' L') =>
    lp_birth (Q := MQ below (lp_Qc D cI cD ad σ sz Q) (([.inr (some (6, 0)), .inl (nI f), .inl (nI p), .inl (nI w)] : List lpV).map (lp_cv ad)).toArray s (3 * lp_dead σ) (124 * lp_dead σ) (lp_Dom ad σ sz)) (l := l) (p := p') (e := e) (below := below) (meth := meth) (j := f * 11 + p) hx hb hml hown' hts hWd ⟨Nat.le_refl 2, by show 58 ≤ 36 * 2; omega⟩ hsz A' (by rw [hP86] at hP; exact hP.2.2) hstep (by rw [hP86] at hP; exact hP.2.1) (fun ad2 H2 locs2 cells2 slots2 A2 => W102 L' _ ad2 H2 locs2 cells2 slots2 ls' (by
      rw [hP86] at hP
      rw [hP102]
      obtain ⟨t3, hz, hL⟩ := hP
      have hz' := hz
      rw [t3.1 9 (by omega)] at hz'
      refine ⟨fun r h7 h9 h27 h28 => ?_, fun k hk => ⟨?_, ?_⟩, fun j hj => ?_, fun j hj => ?_, ?_, fun i hi => ?_, hL⟩
      · rw [← t3.1 r h7]
        funext k
        exact lp_born_ne (fun z => h9 z.1) (by omega)
      · rw [lp_born_ne (by omega) (fun z => hk z.2), t3.1 27 (by omega)]
      · rw [lp_born_ne (by omega) (fun z => hk z.2), t3.1 28 (by omega)]
      · rw [lp_born_ne (by omega) (by omega)]
        exact t3.2 j hj
      · unfold lp_born
        rw [if_neg (fun z => hj z.2.2), if_neg (by omega), t3.1 9 (by omega)]
      · unfold lp_born
        rw [if_pos ⟨rfl, rfl, rfl⟩]
        decide
      · unfold lp_born
        rw [if_neg (by omega), if_pos ⟨Or.inl rfl, rfl⟩, hM.2.2.1 _ hstep hz' i hi]
        rfl) A2)
  have W43 := fun (L' : lpL) (σ' : lpM) (ad' : Nat → Nat → Nat) (H' : Heap) (locs' : List Loc) (cells' slots' : Nat) (ls' : Array Slot) (hP : P43 L' σ') (A' : lp_At D cI cD (headSpec (Cond.code yX2_lengthen cX2_lengthen 5 none :: lp_tbl) { frames := 2, cells := 3 * lp_dead σ, slots := 124 * lp_dead σ, locals := 36 * 2 }).room s ad σ sz 5 ad' σ' H' locs' cells' slots' ls' L') =>
    lp_sound (p := p') (e := e) (own := RX2) (y0 := yX2_lengthen) (Q0 := Q) (below := below) (ret0 := none) (h := 2) hx hb hml hown' hts hWd ⟨rfl, rfl⟩ ⟨rfl, rfl⟩ hsz hr hlocks (lp_rV rfl) flX2_ok pfX2_ok kcX2_ok hcs kX2_lengthen_ok (labs := [43, 86, 102]) (lab := fun pc L τ => (pc = 86 ∧ P86 L τ) ∨ (pc = 102 ∧ P102 L τ)) (fun pc L' σ' ad' H' locs' cells' slots' ls' hlb A' => by
      rcases hlb with ⟨rfl, h1⟩ | ⟨rfl, h1⟩
      · exact W86 L' σ' ad' H' locs' cells' slots' ls' h1 A'
      · exact W102 L' σ' ad' H' locs' cells' slots' ls' h1 A') 500 (lp_to 43 kX2_lengthen) L' [] σ' ad' H' locs' cells' slots' ls' (43, .iload_n 1, 1) rfl (lp_to_suf 43 kX2_lengthen) (w43 L' σ' hP) A' (fun v hv => by cases hv)
  exact lp_sound (p := p') (e := e) (own := RX2) (y0 := yX2_lengthen) (Q0 := Q) (below := below) (ret0 := none) (h := 2) hx hb hml hown' hts hWd ⟨rfl, rfl⟩ ⟨rfl, rfl⟩ hsz hr hlocks (lp_rV rfl) flX2_ok pfX2_ok kcX2_ok hcs kX2_lengthen_ok (labs := [43, 86, 102]) (lab := fun pc L τ => pc = 43 ∧ P43 L τ) (fun pc L' σ' ad' H' locs' cells' slots' ls' hlb A' => by
      obtain ⟨rfl, h1⟩ := hlb
      exact W43 L' σ' ad' H' locs' cells' slots' ls' h1 A') 500 kX2_lengthen _ [] σ ad s.heap [] 0 0 ls (0, .iload_n 1, 1) rfl (List.suffix_refl _) w0 A0 (fun v hv => by cases hv)
