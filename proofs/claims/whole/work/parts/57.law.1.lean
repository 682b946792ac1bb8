set_option maxHeartbeats 4000000 in
set_option maxRecDepth 100000 in
theorem lw_c_contexts {p : Program} {l : Launch} {e : Env} {s : State} {m : MethodId} {below : List Frame} {meth : Method} {c : Code} {Q : State → Prop} {D : va_G} {cI cD : ClassId} {ad0 : Nat → Nat → Nat} {σ0 : lpM} {b L : Nat} {xs : Nat → Int32} (C0 : lw_At p s m meth c b L xs) (hWd : lp_Wd D cI cD s) (hDm : ∀ q, lp_Dom ad0 σ0 s.heap.size q → s.heap.size ≤ q) (hL : L ≤ 2048)
    {ad : Nat → Nat → Nat} {σ : lpM} {H : Heap} {locs : List Loc} {cells slots : Nat} {ls : Array Slot} {t : Nat} (ht : t + 3 < L) (A : lw_A D cI cD s ad0 σ0 b ad σ H locs cells slots ls (nI t)) {Z : lpZ} (hP : lpP σ Z) (hD : lpD σ Z)
    (kk : ∀ (ad' : Nat → Nat → Nat) (σ' : lpM) (H' : Heap) (locs' : List Loc) (cells' slots' : Nat) (Z' : lpZ), lw_A D cI cD s ad0 σ0 b ad' σ' H' locs' cells' slots' ls (nI t) → lpP σ' Z' → lpD σ' Z' → W p l e room_1 s m #[Value.ref b] below meth c H' locs' cells' slots' Q (F0 m 659 ls [])) :
    W p l e room_1 s m #[Value.ref b] below meth c H locs cells slots Q (F0 m 333 ls []) := by
  obtain ⟨hx, hb, hr, hml, hown, hts, hX, hbl, hlocks, hgv⟩ := id C0
  have hl := A.2
  refine lv_aload_n hx hb dL_law_333 rfl (lv_at hl 1 rfl) ?_
  refine lw_arg C0 hDm A 1 (by decide) (by omega) hL dL_law_334 dL_law_335 dL_law_336 dL_law_337 dL_law_338 ?_
  refine lw_call C0 hWd (x := (46, some 6, 1, sp_X6_contexts)) (rg := 1) (lp_mkCall lkL_46 (ct_X6_contexts l D cI cD) (by omega)) rfl rfl (Or.inl rfl) A [xs (t + 1)] [] rfl (Nat.zero_le _) dL_law_339 (Qk := fun ro τ => ro = some (an_contexts (xs (t + 1)) Z) ∧ lpP τ (Z) ∧ lpFL σ τ) ⟨rfl, rfl, Z, hP, fun τ h1 h2 => ⟨rfl, h1, h2⟩⟩ (fun ro τ ad1 H1 locs1 cells1 slots1 hq A1 => ?_)
  obtain ⟨rfl, h1, h2⟩ := hq
  have hD1 := lpD_high hD h2
  clear hP hD A
  refine lv_aload_n hx hb dL_law_342 rfl (lv_at hl 2 rfl) ?_
  refine lw_arg C0 hDm A1 1 (by decide) (by omega) hL dL_law_343 dL_law_344 dL_law_345 dL_law_346 dL_law_347 ?_
  refine lw_call C0 hWd (x := (50, some 7, 1, sp_X7_contexts)) (rg := 30) (lp_mkCall lkL_50 (ct_X7_contexts l D cI cD) (by omega)) rfl rfl (Or.inr rfl) A1 [xs (t + 1)] [an_contexts (xs (t + 1)) Z] rfl (Nat.le_of_ble_eq_true rfl) dL_law_348 (Qk := fun ro υ => ro = some (an_contexts (xs (t + 1)) Z) ∧ lpD υ (Z) ∧ lpFM τ υ) ⟨rfl, rfl, Z, hD1, fun υ h3 h4 => ⟨rfl, h3, h4⟩⟩ (fun ro υ ad2 H2 locs2 cells2 slots2 hq A2 => ?_)
  obtain ⟨rfl, h3, h4⟩ := hq
  refine lv_icmp_eq (tgt := 659) hx hb dL_law_351 (by decide) (fun _ => ?_) (fun q => absurd rfl q)
  exact kk ad2 υ H2 locs2 cells2 slots2 _ A2 (LP_low h1 h4) h3
set_option maxHeartbeats 4000000 in
set_option maxRecDepth 100000 in
theorem lw_c_states {p : Program} {l : Launch} {e : Env} {s : State} {m : MethodId} {below : List Frame} {meth : Method} {c : Code} {Q : State → Prop} {D : va_G} {cI cD : ClassId} {ad0 : Nat → Nat → Nat} {σ0 : lpM} {b L : Nat} {xs : Nat → Int32} (C0 : lw_At p s m meth c b L xs) (hWd : lp_Wd D cI cD s) (hDm : ∀ q, lp_Dom ad0 σ0 s.heap.size q → s.heap.size ≤ q) (hL : L ≤ 2048)
    {ad : Nat → Nat → Nat} {σ : lpM} {H : Heap} {locs : List Loc} {cells slots : Nat} {ls : Array Slot} {t : Nat} (ht : t + 3 < L) (A : lw_A D cI cD s ad0 σ0 b ad σ H locs cells slots ls (nI t)) {Z : lpZ} (hP : lpP σ Z) (hD : lpD σ Z)
    (kk : ∀ (ad' : Nat → Nat → Nat) (σ' : lpM) (H' : Heap) (locs' : List Loc) (cells' slots' : Nat) (Z' : lpZ), lw_A D cI cD s ad0 σ0 b ad' σ' H' locs' cells' slots' ls (nI t) → lpP σ' Z' → lpD σ' Z' → W p l e room_1 s m #[Value.ref b] below meth c H' locs' cells' slots' Q (F0 m 659 ls [])) :
    W p l e room_1 s m #[Value.ref b] below meth c H locs cells slots Q (F0 m 356 ls []) := by
  obtain ⟨hx, hb, hr, hml, hown, hts, hX, hbl, hlocks, hgv⟩ := id C0
  have hl := A.2
  refine lv_aload_n hx hb dL_law_356 rfl (lv_at hl 1 rfl) ?_
  refine lw_arg C0 hDm A 1 (by decide) (by omega) hL dL_law_357 dL_law_358 dL_law_359 dL_law_360 dL_law_361 ?_
  refine lw_call C0 hWd (x := (51, some 6, 1, sp_X6_states)) (rg := 1) (lp_mkCall lkL_51 (ct_X6_states l D cI cD) (by omega)) rfl rfl (Or.inl rfl) A [xs (t + 1)] [] rfl (Nat.zero_le _) dL_law_362 (Qk := fun ro τ => ro = some (an_states (xs (t + 1)) Z) ∧ lpP τ (Z) ∧ lpFL σ τ) ⟨rfl, rfl, Z, hP, fun τ h1 h2 => ⟨rfl, h1, h2⟩⟩ (fun ro τ ad1 H1 locs1 cells1 slots1 hq A1 => ?_)
  obtain ⟨rfl, h1, h2⟩ := hq
  have hD1 := lpD_high hD h2
  clear hP hD A
  refine lv_aload_n hx hb dL_law_365 rfl (lv_at hl 2 rfl) ?_
  refine lw_arg C0 hDm A1 1 (by decide) (by omega) hL dL_law_366 dL_law_367 dL_law_368 dL_law_369 dL_law_370 ?_
  refine lw_call C0 hWd (x := (54, some 7, 1, sp_X7_states)) (rg := 30) (lp_mkCall lkL_54 (ct_X7_states l D cI cD) (by omega)) rfl rfl (Or.inr rfl) A1 [xs (t + 1)] [an_states (xs (t + 1)) Z] rfl (Nat.le_of_ble_eq_true rfl) dL_law_371 (Qk := fun ro υ => ro = some (an_states (xs (t + 1)) Z) ∧ lpD υ (Z) ∧ lpFM τ υ) ⟨rfl, rfl, Z, hD1, fun υ h3 h4 => ⟨rfl, h3, h4⟩⟩ (fun ro υ ad2 H2 locs2 cells2 slots2 hq A2 => ?_)
  obtain ⟨rfl, h3, h4⟩ := hq
  refine lv_icmp_eq (tgt := 659) hx hb dL_law_374 (by decide) (fun _ => ?_) (fun q => absurd rfl q)
  exact kk ad2 υ H2 locs2 cells2 slots2 _ A2 (LP_low h1 h4) h3
set_option maxHeartbeats 4000000 in
set_option maxRecDepth 100000 in
theorem lw_c_press {p : Program} {l : Launch} {e : Env} {s : State} {m : MethodId} {below : List Frame} {meth : Method} {c : Code} {Q : State → Prop} {D : va_G} {cI cD : ClassId} {ad0 : Nat → Nat → Nat} {σ0 : lpM} {b L : Nat} {xs : Nat → Int32} (C0 : lw_At p s m meth c b L xs) (hWd : lp_Wd D cI cD s) (hDm : ∀ q, lp_Dom ad0 σ0 s.heap.size q → s.heap.size ≤ q) (hL : L ≤ 2048)
    {ad : Nat → Nat → Nat} {σ : lpM} {H : Heap} {locs : List Loc} {cells slots : Nat} {ls : Array Slot} {t : Nat} (ht : t + 3 < L) (A : lw_A D cI cD s ad0 σ0 b ad σ H locs cells slots ls (nI t)) {Z : lpZ} (hP : lpP σ Z) (hD : lpD σ Z)
    (kk : ∀ (ad' : Nat → Nat → Nat) (σ' : lpM) (H' : Heap) (locs' : List Loc) (cells' slots' : Nat) (Z' : lpZ), lw_A D cI cD s ad0 σ0 b ad' σ' H' locs' cells' slots' ls (nI t) → lpP σ' Z' → lpD σ' Z' → W p l e room_1 s m #[Value.ref b] below meth c H' locs' cells' slots' Q (F0 m 659 ls [])) :
    W p l e room_1 s m #[Value.ref b] below meth c H locs cells slots Q (F0 m 379 ls []) := by
  obtain ⟨hx, hb, hr, hml, hown, hts, hX, hbl, hlocks, hgv⟩ := id C0
  have hl := A.2
  refine lv_aload_n hx hb dL_law_379 rfl (lv_at hl 1 rfl) ?_
  refine lw_arg C0 hDm A 1 (by decide) (by omega) hL dL_law_380 dL_law_381 dL_law_382 dL_law_383 dL_law_384 ?_
  refine lw_arg C0 hDm A 2 (by decide) (by omega) hL dL_law_385 dL_law_386 dL_law_387 dL_law_388 dL_law_389 ?_
  refine lw_arg C0 hDm A 3 (by decide) (by omega) hL dL_law_390 dL_law_391 dL_law_392 dL_law_393 dL_law_394 ?_
  refine lw_call C0 hWd (x := (55, some 6, 3, sp_X6_press)) (rg := 1) (lp_mkCall lkL_55 (ct_X6_press l D cI cD) (by omega)) rfl rfl (Or.inl rfl) A [xs (t + 1), xs (t + 2), xs (t + 3)] [] rfl (Nat.zero_le _) dL_law_395 (Qk := fun ro τ => ro = some (an_press (xs (t + 1)) (xs (t + 2)) (xs (t + 3)) Z) ∧ lpP τ (st_press (xs (t + 1)) (xs (t + 2)) (xs (t + 3)) Z) ∧ lpFL σ τ) ⟨rfl, rfl, Z, hP, fun τ h1 h2 => ⟨rfl, h1, h2⟩⟩ (fun ro τ ad1 H1 locs1 cells1 slots1 hq A1 => ?_)
  obtain ⟨rfl, h1, h2⟩ := hq
  have hD1 := lpD_high hD h2
  clear hP hD A
  refine lv_aload_n hx hb dL_law_398 rfl (lv_at hl 2 rfl) ?_
  refine lw_arg C0 hDm A1 1 (by decide) (by omega) hL dL_law_399 dL_law_400 dL_law_401 dL_law_402 dL_law_403 ?_
  refine lw_arg C0 hDm A1 2 (by decide) (by omega) hL dL_law_404 dL_law_405 dL_law_406 dL_law_407 dL_law_408 ?_
  refine lw_arg C0 hDm A1 3 (by decide) (by omega) hL dL_law_409 dL_law_410 dL_law_411 dL_law_412 dL_law_413 ?_
  refine lw_call C0 hWd (x := (58, some 7, 3, sp_X7_press)) (rg := 30) (lp_mkCall lkL_58 (ct_X7_press l D cI cD) (by omega)) rfl rfl (Or.inr rfl) A1 [xs (t + 1), xs (t + 2), xs (t + 3)] [an_press (xs (t + 1)) (xs (t + 2)) (xs (t + 3)) Z] rfl (Nat.le_of_ble_eq_true rfl) dL_law_414 (Qk := fun ro υ => ro = some (an_press (xs (t + 1)) (xs (t + 2)) (xs (t + 3)) Z) ∧ lpD υ (st_press (xs (t + 1)) (xs (t + 2)) (xs (t + 3)) Z) ∧ lpFM τ υ) ⟨rfl, rfl, Z, hD1, fun υ h3 h4 => ⟨rfl, h3, h4⟩⟩ (fun ro υ ad2 H2 locs2 cells2 slots2 hq A2 => ?_)
  obtain ⟨rfl, h3, h4⟩ := hq
  refine lv_icmp_eq (tgt := 659) hx hb dL_law_417 (by decide) (fun _ => ?_) (fun q => absurd rfl q)
  exact kk ad2 υ H2 locs2 cells2 slots2 _ A2 (LP_low h1 h4) h3
set_option maxHeartbeats 4000000 in
set_option maxRecDepth 100000 in
theorem lw_c_walked {p : Program} {l : Launch} {e : Env} {s : State} {m : MethodId} {below : List Frame} {meth : Method} {c : Code} {Q : State → Prop} {D : va_G} {cI cD : ClassId} {ad0 : Nat → Nat → Nat} {σ0 : lpM} {b L : Nat} {xs : Nat → Int32} (C0 : lw_At p s m meth c b L xs) (hWd : lp_Wd D cI cD s) (hDm : ∀ q, lp_Dom ad0 σ0 s.heap.size q → s.heap.size ≤ q) (hL : L ≤ 2048)
    {ad : Nat → Nat → Nat} {σ : lpM} {H : Heap} {locs : List Loc} {cells slots : Nat} {ls : Array Slot} {t : Nat} (ht : t + 3 < L) (A : lw_A D cI cD s ad0 σ0 b ad σ H locs cells slots ls (nI t)) {Z : lpZ} (hP : lpP σ Z) (hD : lpD σ Z)
    (kk : ∀ (ad' : Nat → Nat → Nat) (σ' : lpM) (H' : Heap) (locs' : List Loc) (cells' slots' : Nat) (Z' : lpZ), lw_A D cI cD s ad0 σ0 b ad' σ' H' locs' cells' slots' ls (nI t) → lpP σ' Z' → lpD σ' Z' → W p l e room_1 s m #[Value.ref b] below meth c H' locs' cells' slots' Q (F0 m 659 ls [])) :
    W p l e room_1 s m #[Value.ref b] below meth c H locs cells slots Q (F0 m 422 ls []) := by
  obtain ⟨hx, hb, hr, hml, hown, hts, hX, hbl, hlocks, hgv⟩ := id C0
  have hl := A.2
  refine lv_aload_n hx hb dL_law_422 rfl (lv_at hl 1 rfl) ?_
  refine lw_arg C0 hDm A 1 (by decide) (by omega) hL dL_law_423 dL_law_424 dL_law_425 dL_law_426 dL_law_427 ?_
  refine lw_call C0 hWd (x := (59, some 6, 1, sp_X6_walked)) (rg := 1) (lp_mkCall lkL_59 (ct_X6_walked l D cI cD) (by omega)) rfl rfl (Or.inl rfl) A [xs (t + 1)] [] rfl (Nat.zero_le _) dL_law_428 (Qk := fun ro τ => ro = some (an_walked (xs (t + 1)) Z) ∧ lpP τ (Z) ∧ lpFL σ τ) ⟨rfl, rfl, Z, hP, rfl, hP, FL_rf σ⟩ (fun ro τ ad1 H1 locs1 cells1 slots1 hq A1 => ?_)
  obtain ⟨rfl, h1, h2⟩ := hq
  have hD1 := lpD_high hD h2
  clear hP hD A
  refine lv_aload_n hx hb dL_law_431 rfl (lv_at hl 2 rfl) ?_
  refine lw_arg C0 hDm A1 1 (by decide) (by omega) hL dL_law_432 dL_law_433 dL_law_434 dL_law_435 dL_law_436 ?_
  refine lw_call C0 hWd (x := (62, some 7, 1, sp_X7_walked)) (rg := 30) (lp_mkCall lkL_62 (ct_X7_walked l D cI cD) (by omega)) rfl rfl (Or.inr rfl) A1 [xs (t + 1)] [an_walked (xs (t + 1)) Z] rfl (Nat.le_of_ble_eq_true rfl) dL_law_437 (Qk := fun ro υ => ro = some (an_walked (xs (t + 1)) Z) ∧ lpD υ (Z) ∧ lpFM τ υ) ⟨rfl, rfl, Z, hD1, rfl, hD1, lpFM_rf τ⟩ (fun ro υ ad2 H2 locs2 cells2 slots2 hq A2 => ?_)
  obtain ⟨rfl, h3, h4⟩ := hq
  refine lv_icmp_eq (tgt := 659) hx hb dL_law_440 (by decide) (fun _ => ?_) (fun q => absurd rfl q)
  exact kk ad2 υ H2 locs2 cells2 slots2 _ A2 (LP_low h1 h4) h3
set_option maxHeartbeats 4000000 in
set_option maxRecDepth 100000 in
theorem lw_c_told {p : Program} {l : Launch} {e : Env} {s : State} {m : MethodId} {below : List Frame} {meth : Method} {c : Code} {Q : State → Prop} {D : va_G} {cI cD : ClassId} {ad0 : Nat → Nat → Nat} {σ0 : lpM} {b L : Nat} {xs : Nat → Int32} (C0 : lw_At p s m meth c b L xs) (hWd : lp_Wd D cI cD s) (hDm : ∀ q, lp_Dom ad0 σ0 s.heap.size q → s.heap.size ≤ q) (hL : L ≤ 2048)
    {ad : Nat → Nat → Nat} {σ : lpM} {H : Heap} {locs : List Loc} {cells slots : Nat} {ls : Array Slot} {t : Nat} (ht : t + 3 < L) (A : lw_A D cI cD s ad0 σ0 b ad σ H locs cells slots ls (nI t)) {Z : lpZ} (hP : lpP σ Z) (hD : lpD σ Z)
    (kk : ∀ (ad' : Nat → Nat → Nat) (σ' : lpM) (H' : Heap) (locs' : List Loc) (cells' slots' : Nat) (Z' : lpZ), lw_A D cI cD s ad0 σ0 b ad' σ' H' locs' cells' slots' ls (nI t) → lpP σ' Z' → lpD σ' Z' → W p l e room_1 s m #[Value.ref b] below meth c H' locs' cells' slots' Q (F0 m 659 ls [])) :
    W p l e room_1 s m #[Value.ref b] below meth c H locs cells slots Q (F0 m 445 ls []) := by
  obtain ⟨hx, hb, hr, hml, hown, hts, hX, hbl, hlocks, hgv⟩ := id C0
  have hl := A.2
  refine lv_aload_n hx hb dL_law_445 rfl (lv_at hl 1 rfl) ?_
  refine lw_arg C0 hDm A 1 (by decide) (by omega) hL dL_law_446 dL_law_447 dL_law_448 dL_law_449 dL_law_450 ?_
  refine lw_arg C0 hDm A 2 (by decide) (by omega) hL dL_law_451 dL_law_452 dL_law_453 dL_law_454 dL_law_455 ?_
  refine lw_arg C0 hDm A 3 (by decide) (by omega) hL dL_law_456 dL_law_457 dL_law_458 dL_law_459 dL_law_460 ?_
  refine lw_call C0 hWd (x := (63, some 6, 3, sp_X6_told)) (rg := 1) (lp_mkCall lkL_63 (ct_X6_told l D cI cD) (by omega)) rfl rfl (Or.inl rfl) A [xs (t + 1), xs (t + 2), xs (t + 3)] [] rfl (Nat.zero_le _) dL_law_461 (Qk := fun ro τ => ro = some (an_told (xs (t + 1)) (xs (t + 2)) (xs (t + 3)) Z) ∧ lpP τ (Z) ∧ lpFL σ τ) ⟨rfl, rfl, Z, hP, rfl, hP, FL_rf σ⟩ (fun ro τ ad1 H1 locs1 cells1 slots1 hq A1 => ?_)
  obtain ⟨rfl, h1, h2⟩ := hq
  have hD1 := lpD_high hD h2
  clear hP hD A
  refine lv_aload_n hx hb dL_law_464 rfl (lv_at hl 2 rfl) ?_
  refine lw_arg C0 hDm A1 1 (by decide) (by omega) hL dL_law_465 dL_law_466 dL_law_467 dL_law_468 dL_law_469 ?_
  refine lw_arg C0 hDm A1 2 (by decide) (by omega) hL dL_law_470 dL_law_471 dL_law_472 dL_law_473 dL_law_474 ?_
  refine lw_arg C0 hDm A1 3 (by decide) (by omega) hL dL_law_475 dL_law_476 dL_law_477 dL_law_478 dL_law_479 ?_
  refine lw_call C0 hWd (x := (66, some 7, 3, sp_X7_told)) (rg := 30) (lp_mkCall lkL_66 (ct_X7_told l D cI cD) (by omega)) rfl rfl (Or.inr rfl) A1 [xs (t + 1), xs (t + 2), xs (t + 3)] [an_told (xs (t + 1)) (xs (t + 2)) (xs (t + 3)) Z] rfl (Nat.le_of_ble_eq_true rfl) dL_law_480 (Qk := fun ro υ => ro = some (an_told (xs (t + 1)) (xs (t + 2)) (xs (t + 3)) Z) ∧ lpD υ (Z) ∧ lpFM τ υ) ⟨rfl, rfl, Z, hD1, rfl, hD1, lpFM_rf τ⟩ (fun ro υ ad2 H2 locs2 cells2 slots2 hq A2 => ?_)
  obtain ⟨rfl, h3, h4⟩ := hq
  refine lv_icmp_eq (tgt := 659) hx hb dL_law_483 (by decide) (fun _ => ?_) (fun q => absurd rfl q)
  exact kk ad2 υ H2 locs2 cells2 slots2 _ A2 (LP_low h1 h4) h3
set_option maxHeartbeats 4000000 in
set_option maxRecDepth 100000 in
theorem lw_c_dealt {p : Program} {l : Launch} {e : Env} {s : State} {m : MethodId} {below : List Frame} {meth : Method} {c : Code} {Q : State → Prop} {D : va_G} {cI cD : ClassId} {ad0 : Nat → Nat → Nat} {σ0 : lpM} {b L : Nat} {xs : Nat → Int32} (C0 : lw_At p s m meth c b L xs) (hWd : lp_Wd D cI cD s) (hDm : ∀ q, lp_Dom ad0 σ0 s.heap.size q → s.heap.size ≤ q) (hL : L ≤ 2048)
    {ad : Nat → Nat → Nat} {σ : lpM} {H : Heap} {locs : List Loc} {cells slots : Nat} {ls : Array Slot} {t : Nat} (ht : t + 3 < L) (A : lw_A D cI cD s ad0 σ0 b ad σ H locs cells slots ls (nI t)) {Z : lpZ} (hP : lpP σ Z) (hD : lpD σ Z)
    (kk : ∀ (ad' : Nat → Nat → Nat) (σ' : lpM) (H' : Heap) (locs' : List Loc) (cells' slots' : Nat) (Z' : lpZ), lw_A D cI cD s ad0 σ0 b ad' σ' H' locs' cells' slots' ls (nI t) → lpP σ' Z' → lpD σ' Z' → W p l e room_1 s m #[Value.ref b] below meth c H' locs' cells' slots' Q (F0 m 659 ls [])) :
    W p l e room_1 s m #[Value.ref b] below meth c H locs cells slots Q (F0 m 488 ls []) := by
  obtain ⟨hx, hb, hr, hml, hown, hts, hX, hbl, hlocks, hgv⟩ := id C0
  have hl := A.2
  refine lv_aload_n hx hb dL_law_488 rfl (lv_at hl 1 rfl) ?_
  refine lw_arg C0 hDm A 1 (by decide) (by omega) hL dL_law_489 dL_law_490 dL_law_491 dL_law_492 dL_law_493 ?_
  refine lw_arg C0 hDm A 2 (by decide) (by omega) hL dL_law_494 dL_law_495 dL_law_496 dL_law_497 dL_law_498 ?_
  refine lw_call C0 hWd (x := (67, some 6, 2, sp_X6_dealt)) (rg := 1) (lp_mkCall lkL_67 (ct_X6_dealt l D cI cD) (by omega)) rfl rfl (Or.inl rfl) A [xs (t + 1), xs (t + 2)] [] rfl (Nat.zero_le _) dL_law_499 (Qk := fun ro τ => ro = some (an_dealt (xs (t + 1)) (xs (t + 2)) Z) ∧ lpP τ (Z) ∧ lpFL σ τ) ⟨rfl, rfl, Z, hP, rfl, hP, FL_rf σ⟩ (fun ro τ ad1 H1 locs1 cells1 slots1 hq A1 => ?_)
  obtain ⟨rfl, h1, h2⟩ := hq
  have hD1 := lpD_high hD h2
  clear hP hD A
  refine lv_aload_n hx hb dL_law_502 rfl (lv_at hl 2 rfl) ?_
  refine lw_arg C0 hDm A1 1 (by decide) (by omega) hL dL_law_503 dL_law_504 dL_law_505 dL_law_506 dL_law_507 ?_
  refine lw_arg C0 hDm A1 2 (by decide) (by omega) hL dL_law_508 dL_law_509 dL_law_510 dL_law_511 dL_law_512 ?_
  refine lw_call C0 hWd (x := (70, some 7, 2, sp_X7_dealt)) (rg := 30) (lp_mkCall lkL_70 (ct_X7_dealt l D cI cD) (by omega)) rfl rfl (Or.inr rfl) A1 [xs (t + 1), xs (t + 2)] [an_dealt (xs (t + 1)) (xs (t + 2)) Z] rfl (Nat.le_of_ble_eq_true rfl) dL_law_513 (Qk := fun ro υ => ro = some (an_dealt (xs (t + 1)) (xs (t + 2)) Z) ∧ lpD υ (Z) ∧ lpFM τ υ) ⟨rfl, rfl, Z, hD1, rfl, hD1, lpFM_rf τ⟩ (fun ro υ ad2 H2 locs2 cells2 slots2 hq A2 => ?_)
  obtain ⟨rfl, h3, h4⟩ := hq
  refine lv_icmp_eq (tgt := 659) hx hb dL_law_516 (by decide) (fun _ => ?_) (fun q => absurd rfl q)
  exact kk ad2 υ H2 locs2 cells2 slots2 _ A2 (LP_low h1 h4) h3
set_option maxHeartbeats 4000000 in
set_option maxRecDepth 100000 in
theorem lw_c_part {p : Program} {l : Launch} {e : Env} {s : State} {m : MethodId} {below : List Frame} {meth : Method} {c : Code} {Q : State → Prop} {D : va_G} {cI cD : ClassId} {ad0 : Nat → Nat → Nat} {σ0 : lpM} {b L : Nat} {xs : Nat → Int32} (C0 : lw_At p s m meth c b L xs) (hWd : lp_Wd D cI cD s) (hDm : ∀ q, lp_Dom ad0 σ0 s.heap.size q → s.heap.size ≤ q) (hL : L ≤ 2048)
    {ad : Nat → Nat → Nat} {σ : lpM} {H : Heap} {locs : List Loc} {cells slots : Nat} {ls : Array Slot} {t : Nat} (ht : t + 3 < L) (A : lw_A D cI cD s ad0 σ0 b ad σ H locs cells slots ls (nI t)) {Z : lpZ} (hP : lpP σ Z) (hD : lpD σ Z)
    (kk : ∀ (ad' : Nat → Nat → Nat) (σ' : lpM) (H' : Heap) (locs' : List Loc) (cells' slots' : Nat) (Z' : lpZ), lw_A D cI cD s ad0 σ0 b ad' σ' H' locs' cells' slots' ls (nI t) → lpP σ' Z' → lpD σ' Z' → W p l e room_1 s m #[Value.ref b] below meth c H' locs' cells' slots' Q (F0 m 659 ls [])) :
    W p l e room_1 s m #[Value.ref b] below meth c H locs cells slots Q (F0 m 521 ls []) := by
  obtain ⟨hx, hb, hr, hml, hown, hts, hX, hbl, hlocks, hgv⟩ := id C0
  have hl := A.2
  refine lv_aload_n hx hb dL_law_521 rfl (lv_at hl 1 rfl) ?_
  refine lw_arg C0 hDm A 1 (by decide) (by omega) hL dL_law_522 dL_law_523 dL_law_524 dL_law_525 dL_law_526 ?_
  refine lw_arg C0 hDm A 2 (by decide) (by omega) hL dL_law_527 dL_law_528 dL_law_529 dL_law_530 dL_law_531 ?_
  refine lw_call C0 hWd (x := (71, some 6, 2, sp_X6_part)) (rg := 1) (lp_mkCall lkL_71 (ct_X6_part l D cI cD) (by omega)) rfl rfl (Or.inl rfl) A [xs (t + 1), xs (t + 2)] [] rfl (Nat.zero_le _) dL_law_532 (Qk := fun ro τ => ro = some (an_part (xs (t + 1)) (xs (t + 2)) Z) ∧ lpP τ (Z) ∧ lpFL σ τ) ⟨rfl, rfl, Z, hP, rfl, hP, FL_rf σ⟩ (fun ro τ ad1 H1 locs1 cells1 slots1 hq A1 => ?_)
  obtain ⟨rfl, h1, h2⟩ := hq
  have hD1 := lpD_high hD h2
  clear hP hD A
  refine lv_aload_n hx hb dL_law_535 rfl (lv_at hl 2 rfl) ?_
  refine lw_arg C0 hDm A1 1 (by decide) (by omega) hL dL_law_536 dL_law_537 dL_law_538 dL_law_539 dL_law_540 ?_
  refine lw_arg C0 hDm A1 2 (by decide) (by omega) hL dL_law_541 dL_law_542 dL_law_543 dL_law_544 dL_law_545 ?_
  refine lw_call C0 hWd (x := (74, some 7, 2, sp_X7_part)) (rg := 30) (lp_mkCall lkL_74 (ct_X7_part l D cI cD) (by omega)) rfl rfl (Or.inr rfl) A1 [xs (t + 1), xs (t + 2)] [an_part (xs (t + 1)) (xs (t + 2)) Z] rfl (Nat.le_of_ble_eq_true rfl) dL_law_546 (Qk := fun ro υ => ro = some (an_part (xs (t + 1)) (xs (t + 2)) Z) ∧ lpD υ (Z) ∧ lpFM τ υ) ⟨rfl, rfl, Z, hD1, rfl, hD1, lpFM_rf τ⟩ (fun ro υ ad2 H2 locs2 cells2 slots2 hq A2 => ?_)
  obtain ⟨rfl, h3, h4⟩ := hq
  refine lv_icmp_eq (tgt := 659) hx hb dL_law_549 (by decide) (fun _ => ?_) (fun q => absurd rfl q)
  exact kk ad2 υ H2 locs2 cells2 slots2 _ A2 (LP_low h1 h4) h3
