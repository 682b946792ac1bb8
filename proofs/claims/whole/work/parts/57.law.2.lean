set_option maxHeartbeats 4000000 in
set_option maxRecDepth 100000 in
theorem lw_c_late {p : Program} {l : Launch} {e : Env} {s : State} {m : MethodId} {below : List Frame} {meth : Method} {c : Code} {Q : State → Prop} {D : va_G} {cI cD : ClassId} {ad0 : Nat → Nat → Nat} {σ0 : lpM} {b L : Nat} {xs : Nat → Int32} (C0 : lw_At p s m meth c b L xs) (hWd : lp_Wd D cI cD s) (hDm : ∀ q, lp_Dom ad0 σ0 s.heap.size q → s.heap.size ≤ q) (hL : L ≤ 2048)
    {ad : Nat → Nat → Nat} {σ : lpM} {H : Heap} {locs : List Loc} {cells slots : Nat} {ls : Array Slot} {t : Nat} (ht : t + 3 < L) (A : lw_A D cI cD s ad0 σ0 b ad σ H locs cells slots ls (nI t)) {Z : lpZ} (hP : lpP σ Z) (hD : lpD σ Z)
    (kk : ∀ (ad' : Nat → Nat → Nat) (σ' : lpM) (H' : Heap) (locs' : List Loc) (cells' slots' : Nat) (Z' : lpZ), lw_A D cI cD s ad0 σ0 b ad' σ' H' locs' cells' slots' ls (nI t) → lpP σ' Z' → lpD σ' Z' → W p l e room_1 s m #[Value.ref b] below meth c H' locs' cells' slots' Q (F0 m 659 ls [])) :
    W p l e room_1 s m #[Value.ref b] below meth c H locs cells slots Q (F0 m 554 ls []) := by
  obtain ⟨hx, hb, hr, hml, hown, hts, hX, hbl, hlocks, hgv⟩ := id C0
  have hl := A.2
  refine lv_aload_n hx hb dL_law_554 rfl (lv_at hl 1 rfl) ?_
  refine lw_arg C0 hDm A 1 (by decide) (by omega) hL dL_law_555 dL_law_556 dL_law_557 dL_law_558 dL_law_559 ?_
  refine lw_arg C0 hDm A 2 (by decide) (by omega) hL dL_law_560 dL_law_561 dL_law_562 dL_law_563 dL_law_564 ?_
  refine lw_call C0 hWd (x := (75, some 6, 2, sp_X6_late)) (rg := 1) (lp_mkCall lkL_75 (ct_X6_late l D cI cD) (by omega)) rfl rfl (Or.inl rfl) A [xs (t + 1), xs (t + 2)] [] rfl (Nat.zero_le _) dL_law_565 (Qk := fun ro τ => ro = some (an_late (xs (t + 1)) (xs (t + 2)) Z) ∧ lpP τ (Z) ∧ lpFL σ τ) ⟨rfl, rfl, Z, hP, rfl, hP, FL_rf σ⟩ (fun ro τ ad1 H1 locs1 cells1 slots1 hq A1 => ?_)
  obtain ⟨rfl, h1, h2⟩ := hq
  have hD1 := lpD_high hD h2
  clear hP hD A
  refine lv_aload_n hx hb dL_law_568 rfl (lv_at hl 2 rfl) ?_
  refine lw_arg C0 hDm A1 1 (by decide) (by omega) hL dL_law_569 dL_law_570 dL_law_571 dL_law_572 dL_law_573 ?_
  refine lw_arg C0 hDm A1 2 (by decide) (by omega) hL dL_law_574 dL_law_575 dL_law_576 dL_law_577 dL_law_578 ?_
  refine lw_call C0 hWd (x := (78, some 7, 2, sp_X7_late)) (rg := 30) (lp_mkCall lkL_78 (ct_X7_late l D cI cD) (by omega)) rfl rfl (Or.inr rfl) A1 [xs (t + 1), xs (t + 2)] [an_late (xs (t + 1)) (xs (t + 2)) Z] rfl (Nat.le_of_ble_eq_true rfl) dL_law_579 (Qk := fun ro υ => ro = some (an_late (xs (t + 1)) (xs (t + 2)) Z) ∧ lpD υ (Z) ∧ lpFM τ υ) ⟨rfl, rfl, Z, hD1, rfl, hD1, lpFM_rf τ⟩ (fun ro υ ad2 H2 locs2 cells2 slots2 hq A2 => ?_)
  obtain ⟨rfl, h3, h4⟩ := hq
  refine lv_icmp_eq (tgt := 659) hx hb dL_law_582 (by decide) (fun _ => ?_) (fun q => absurd rfl q)
  exact kk ad2 υ H2 locs2 cells2 slots2 _ A2 (LP_low h1 h4) h3
set_option maxHeartbeats 4000000 in
set_option maxRecDepth 100000 in
theorem lw_c_behind {p : Program} {l : Launch} {e : Env} {s : State} {m : MethodId} {below : List Frame} {meth : Method} {c : Code} {Q : State → Prop} {D : va_G} {cI cD : ClassId} {ad0 : Nat → Nat → Nat} {σ0 : lpM} {b L : Nat} {xs : Nat → Int32} (C0 : lw_At p s m meth c b L xs) (hWd : lp_Wd D cI cD s) (hDm : ∀ q, lp_Dom ad0 σ0 s.heap.size q → s.heap.size ≤ q) (hL : L ≤ 2048)
    {ad : Nat → Nat → Nat} {σ : lpM} {H : Heap} {locs : List Loc} {cells slots : Nat} {ls : Array Slot} {t : Nat} (ht : t + 3 < L) (A : lw_A D cI cD s ad0 σ0 b ad σ H locs cells slots ls (nI t)) {Z : lpZ} (hP : lpP σ Z) (hD : lpD σ Z)
    (kk : ∀ (ad' : Nat → Nat → Nat) (σ' : lpM) (H' : Heap) (locs' : List Loc) (cells' slots' : Nat) (Z' : lpZ), lw_A D cI cD s ad0 σ0 b ad' σ' H' locs' cells' slots' ls (nI t) → lpP σ' Z' → lpD σ' Z' → W p l e room_1 s m #[Value.ref b] below meth c H' locs' cells' slots' Q (F0 m 659 ls [])) :
    W p l e room_1 s m #[Value.ref b] below meth c H locs cells slots Q (F0 m 587 ls []) := by
  obtain ⟨hx, hb, hr, hml, hown, hts, hX, hbl, hlocks, hgv⟩ := id C0
  have hl := A.2
  refine lv_aload_n hx hb dL_law_587 rfl (lv_at hl 1 rfl) ?_
  refine lw_call C0 hWd (x := (79, some 6, 0, sp_X6_behind)) (rg := 1) (lp_mkCall lkL_79 (ct_X6_behind l D cI cD) (by omega)) rfl rfl (Or.inl rfl) A [] [] rfl (Nat.zero_le _) dL_law_588 (Qk := fun ro τ => ro = some (an_behind Z) ∧ lpP τ (Z) ∧ lpFL σ τ) ⟨rfl, rfl, Z, hP, rfl, hP, FL_rf σ⟩ (fun ro τ ad1 H1 locs1 cells1 slots1 hq A1 => ?_)
  obtain ⟨rfl, h1, h2⟩ := hq
  have hD1 := lpD_high hD h2
  clear hP hD A
  refine lv_aload_n hx hb dL_law_591 rfl (lv_at hl 2 rfl) ?_
  refine lw_call C0 hWd (x := (82, some 7, 0, sp_X7_behind)) (rg := 30) (lp_mkCall lkL_82 (ct_X7_behind l D cI cD) (by omega)) rfl rfl (Or.inr rfl) A1 [] [an_behind Z] rfl (Nat.le_of_ble_eq_true rfl) dL_law_592 (Qk := fun ro υ => ro = some (an_behind Z) ∧ lpD υ (Z) ∧ lpFM τ υ) ⟨rfl, rfl, Z, hD1, rfl, hD1, lpFM_rf τ⟩ (fun ro υ ad2 H2 locs2 cells2 slots2 hq A2 => ?_)
  obtain ⟨rfl, h3, h4⟩ := hq
  refine lv_icmp_eq (tgt := 659) hx hb dL_law_595 (by decide) (fun _ => ?_) (fun q => absurd rfl q)
  exact kk ad2 υ H2 locs2 cells2 slots2 _ A2 (LP_low h1 h4) h3
set_option maxHeartbeats 4000000 in
set_option maxRecDepth 100000 in
theorem lw_c_waiting {p : Program} {l : Launch} {e : Env} {s : State} {m : MethodId} {below : List Frame} {meth : Method} {c : Code} {Q : State → Prop} {D : va_G} {cI cD : ClassId} {ad0 : Nat → Nat → Nat} {σ0 : lpM} {b L : Nat} {xs : Nat → Int32} (C0 : lw_At p s m meth c b L xs) (hWd : lp_Wd D cI cD s) (hDm : ∀ q, lp_Dom ad0 σ0 s.heap.size q → s.heap.size ≤ q) (hL : L ≤ 2048)
    {ad : Nat → Nat → Nat} {σ : lpM} {H : Heap} {locs : List Loc} {cells slots : Nat} {ls : Array Slot} {t : Nat} (ht : t + 3 < L) (A : lw_A D cI cD s ad0 σ0 b ad σ H locs cells slots ls (nI t)) {Z : lpZ} (hP : lpP σ Z) (hD : lpD σ Z)
    (kk : ∀ (ad' : Nat → Nat → Nat) (σ' : lpM) (H' : Heap) (locs' : List Loc) (cells' slots' : Nat) (Z' : lpZ), lw_A D cI cD s ad0 σ0 b ad' σ' H' locs' cells' slots' ls (nI t) → lpP σ' Z' → lpD σ' Z' → W p l e room_1 s m #[Value.ref b] below meth c H' locs' cells' slots' Q (F0 m 659 ls [])) :
    W p l e room_1 s m #[Value.ref b] below meth c H locs cells slots Q (F0 m 600 ls []) := by
  obtain ⟨hx, hb, hr, hml, hown, hts, hX, hbl, hlocks, hgv⟩ := id C0
  have hl := A.2
  refine lv_aload_n hx hb dL_law_600 rfl (lv_at hl 1 rfl) ?_
  refine lw_arg C0 hDm A 1 (by decide) (by omega) hL dL_law_601 dL_law_602 dL_law_603 dL_law_604 dL_law_605 ?_
  refine lw_call C0 hWd (x := (83, some 6, 1, sp_X6_waiting)) (rg := 1) (lp_mkCall lkL_83 (ct_X6_waiting l D cI cD) (by omega)) rfl rfl (Or.inl rfl) A [xs (t + 1)] [] rfl (Nat.zero_le _) dL_law_606 (Qk := fun ro τ => ro = some (an_waiting (xs (t + 1)) Z) ∧ lpP τ (Z) ∧ lpFL σ τ) ⟨rfl, rfl, Z, hP, rfl, hP, FL_rf σ⟩ (fun ro τ ad1 H1 locs1 cells1 slots1 hq A1 => ?_)
  obtain ⟨rfl, h1, h2⟩ := hq
  have hD1 := lpD_high hD h2
  clear hP hD A
  refine lv_aload_n hx hb dL_law_609 rfl (lv_at hl 2 rfl) ?_
  refine lw_arg C0 hDm A1 1 (by decide) (by omega) hL dL_law_610 dL_law_611 dL_law_612 dL_law_613 dL_law_614 ?_
  refine lw_call C0 hWd (x := (86, some 7, 1, sp_X7_waiting)) (rg := 30) (lp_mkCall lkL_86 (ct_X7_waiting l D cI cD) (by omega)) rfl rfl (Or.inr rfl) A1 [xs (t + 1)] [an_waiting (xs (t + 1)) Z] rfl (Nat.le_of_ble_eq_true rfl) dL_law_615 (Qk := fun ro υ => ro = some (an_waiting (xs (t + 1)) Z) ∧ lpD υ (Z) ∧ lpFM τ υ) ⟨rfl, rfl, Z, hD1, rfl, hD1, lpFM_rf τ⟩ (fun ro υ ad2 H2 locs2 cells2 slots2 hq A2 => ?_)
  obtain ⟨rfl, h3, h4⟩ := hq
  refine lv_icmp_eq (tgt := 659) hx hb dL_law_618 (by decide) (fun _ => ?_) (fun q => absurd rfl q)
  exact kk ad2 υ H2 locs2 cells2 slots2 _ A2 (LP_low h1 h4) h3
set_option maxHeartbeats 4000000 in
set_option maxRecDepth 100000 in
theorem lw_c_learn {p : Program} {l : Launch} {e : Env} {s : State} {m : MethodId} {below : List Frame} {meth : Method} {c : Code} {Q : State → Prop} {D : va_G} {cI cD : ClassId} {ad0 : Nat → Nat → Nat} {σ0 : lpM} {b L : Nat} {xs : Nat → Int32} (C0 : lw_At p s m meth c b L xs) (hWd : lp_Wd D cI cD s) (hDm : ∀ q, lp_Dom ad0 σ0 s.heap.size q → s.heap.size ≤ q) (hL : L ≤ 2048)
    {ad : Nat → Nat → Nat} {σ : lpM} {H : Heap} {locs : List Loc} {cells slots : Nat} {ls : Array Slot} {t : Nat} (ht : t + 3 < L) (A : lw_A D cI cD s ad0 σ0 b ad σ H locs cells slots ls (nI t)) {Z : lpZ} (hP : lpP σ Z) (hD : lpD σ Z)
    (kk : ∀ (ad' : Nat → Nat → Nat) (σ' : lpM) (H' : Heap) (locs' : List Loc) (cells' slots' : Nat) (Z' : lpZ), lw_A D cI cD s ad0 σ0 b ad' σ' H' locs' cells' slots' ls (nI t) → lpP σ' Z' → lpD σ' Z' → W p l e room_1 s m #[Value.ref b] below meth c H' locs' cells' slots' Q (F0 m 659 ls [])) :
    W p l e room_1 s m #[Value.ref b] below meth c H locs cells slots Q (F0 m 623 ls []) := by
  obtain ⟨hx, hb, hr, hml, hown, hts, hX, hbl, hlocks, hgv⟩ := id C0
  have hl := A.2
  refine lv_aload_n hx hb dL_law_623 rfl (lv_at hl 1 rfl) ?_
  refine lw_call C0 hWd (x := (87, some 6, 0, sp_X6_learn)) (rg := 1) (lp_mkCall lkL_87 (ct_X6_learn l D cI cD) (by omega)) rfl rfl (Or.inl rfl) A [] [] rfl (Nat.zero_le _) dL_law_624 (Qk := fun ro τ => ro = some (an_learn Z) ∧ lpP τ (st_learn Z) ∧ lpFL σ τ) ⟨rfl, rfl, Z, hP, fun τ h1 h2 => ⟨rfl, h1, h2⟩⟩ (fun ro τ ad1 H1 locs1 cells1 slots1 hq A1 => ?_)
  obtain ⟨rfl, h1, h2⟩ := hq
  have hD1 := lpD_high hD h2
  clear hP hD A
  refine lv_aload_n hx hb dL_law_627 rfl (lv_at hl 2 rfl) ?_
  refine lw_call C0 hWd (x := (90, some 7, 0, sp_X7_learn)) (rg := 30) (lp_mkCall lkL_90 (ct_X7_learn l D cI cD) (by omega)) rfl rfl (Or.inr rfl) A1 [] [an_learn Z] rfl (Nat.le_of_ble_eq_true rfl) dL_law_628 (Qk := fun ro υ => ro = some (an_learn Z) ∧ lpD υ (st_learn Z) ∧ lpFM τ υ) ⟨rfl, rfl, Z, hD1, fun υ h3 h4 => ⟨rfl, h3, h4⟩⟩ (fun ro υ ad2 H2 locs2 cells2 slots2 hq A2 => ?_)
  obtain ⟨rfl, h3, h4⟩ := hq
  refine lv_icmp_eq (tgt := 659) hx hb dL_law_631 (by decide) (fun _ => ?_) (fun q => absurd rfl q)
  exact kk ad2 υ H2 locs2 cells2 slots2 _ A2 (LP_low h1 h4) h3
set_option maxHeartbeats 4000000 in
set_option maxRecDepth 100000 in
theorem lw_c_count {p : Program} {l : Launch} {e : Env} {s : State} {m : MethodId} {below : List Frame} {meth : Method} {c : Code} {Q : State → Prop} {D : va_G} {cI cD : ClassId} {ad0 : Nat → Nat → Nat} {σ0 : lpM} {b L : Nat} {xs : Nat → Int32} (C0 : lw_At p s m meth c b L xs) (hWd : lp_Wd D cI cD s) (hDm : ∀ q, lp_Dom ad0 σ0 s.heap.size q → s.heap.size ≤ q) (hL : L ≤ 2048)
    {ad : Nat → Nat → Nat} {σ : lpM} {H : Heap} {locs : List Loc} {cells slots : Nat} {ls : Array Slot} {t : Nat} (ht : t + 3 < L) (A : lw_A D cI cD s ad0 σ0 b ad σ H locs cells slots ls (nI t)) {Z : lpZ} (hP : lpP σ Z) (hD : lpD σ Z)
    (kk : ∀ (ad' : Nat → Nat → Nat) (σ' : lpM) (H' : Heap) (locs' : List Loc) (cells' slots' : Nat) (Z' : lpZ), lw_A D cI cD s ad0 σ0 b ad' σ' H' locs' cells' slots' ls (nI t) → lpP σ' Z' → lpD σ' Z' → W p l e room_1 s m #[Value.ref b] below meth c H' locs' cells' slots' Q (F0 m 659 ls [])) :
    W p l e room_1 s m #[Value.ref b] below meth c H locs cells slots Q (F0 m 636 ls []) := by
  obtain ⟨hx, hb, hr, hml, hown, hts, hX, hbl, hlocks, hgv⟩ := id C0
  have hl := A.2
  refine lv_aload_n hx hb dL_law_636 rfl (lv_at hl 1 rfl) ?_
  refine lw_arg C0 hDm A 1 (by decide) (by omega) hL dL_law_637 dL_law_638 dL_law_639 dL_law_640 dL_law_641 ?_
  refine lw_call C0 hWd (x := (91, some 6, 1, sp_X6_count)) (rg := 1) (lp_mkCall lkL_91 (ct_X6_count l D cI cD) (by omega)) rfl rfl (Or.inl rfl) A [xs (t + 1)] [] rfl (Nat.zero_le _) dL_law_642 (Qk := fun ro τ => ro = some (an_count (xs (t + 1)) Z) ∧ lpP τ (Z) ∧ lpFL σ τ) ⟨rfl, rfl, Z, hP, rfl, hP, FL_rf σ⟩ (fun ro τ ad1 H1 locs1 cells1 slots1 hq A1 => ?_)
  obtain ⟨rfl, h1, h2⟩ := hq
  have hD1 := lpD_high hD h2
  clear hP hD A
  refine lv_aload_n hx hb dL_law_645 rfl (lv_at hl 2 rfl) ?_
  refine lw_arg C0 hDm A1 1 (by decide) (by omega) hL dL_law_646 dL_law_647 dL_law_648 dL_law_649 dL_law_650 ?_
  refine lw_call C0 hWd (x := (94, some 7, 1, sp_X7_count)) (rg := 30) (lp_mkCall lkL_94 (ct_X7_count l D cI cD) (by omega)) rfl rfl (Or.inr rfl) A1 [xs (t + 1)] [an_count (xs (t + 1)) Z] rfl (Nat.le_of_ble_eq_true rfl) dL_law_651 (Qk := fun ro υ => ro = some (an_count (xs (t + 1)) Z) ∧ lpD υ (Z) ∧ lpFM τ υ) ⟨rfl, rfl, Z, hD1, rfl, hD1, lpFM_rf τ⟩ (fun ro υ ad2 H2 locs2 cells2 slots2 hq A2 => ?_)
  obtain ⟨rfl, h3, h4⟩ := hq
  refine lv_icmp_eq (tgt := 659) hx hb dL_law_654 (by decide) (fun _ => ?_) (fun q => absurd rfl q)
  exact kk ad2 υ H2 locs2 cells2 slots2 _ A2 (LP_low h1 h4) h3
