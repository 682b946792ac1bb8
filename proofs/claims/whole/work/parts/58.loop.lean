/-! ===== the law's loop ===== -/
set_option maxHeartbeats 8000000 in
set_option maxRecDepth 100000 in
theorem lw_loop {p : Program} {l : Launch} {e : Env} {s : State} {m : MethodId} {below : List Frame} {meth : Method} {c : Code} {D : va_G} {cI cD : ClassId} {ad0 : Nat → Nat → Nat} {σ0 : lpM} {b L : Nat} {xs : Nat → Int32} (C0 : lw_At p s m meth c b L xs) (hWd : lp_Wd D cI cD s) (hDm : ∀ q, lp_Dom ad0 σ0 s.heap.size q → s.heap.size ≤ q) (hL : L ≤ 2048) :
    ∀ (n t : Nat), L + 4 ≤ t + n → t ≤ L + 4 → ∀ (ad : Nat → Nat → Nat) (σ : lpM) (H : Heap) (locs : List Loc) (cells slots : Nat) (ls : Array Slot) (Z : lpZ), lw_A D cI cD s ad0 σ0 b ad σ H locs cells slots ls (nI t) → lpP σ Z → lpD σ Z → W p l e room_1 s m #[Value.ref b] below meth c H locs cells slots (lw_Z below #[Value.ref b] s) (F0 m 18 ls []) := by
  intro n
  induction n with
  | zero =>
    intro t h1 h2 ad σ H locs cells slots ls Z A hP hD
    obtain ⟨hx, hb, hr, hml, hown, hts, hX, hbl, hlocks, hgv⟩ := id C0
    have hl := A.2
    have hS := A.1.2.2.2.1
    refine lv_iload_n hx hb dL_law_18 rfl (lv_at hl 3 rfl) ?_
    refine lv_aload_n hx hb dL_law_19 rfl (lv_at hl 0 rfl) ?_
    refine va_slen (A := lp_Dom ad0 σ0 s.heap.size) hx hb hX hbl (fun q => absurd (hDm b q) (by omega)) hS dL_law_20 ?_
    refine lv_iconst (v := nI 4) hx hb dL_law_21 (by decide) ?_
    refine lv_isub hx hb dL_law_22 ?_
    have hlt : nI L - nI 4 < nI t := by
      rw [Int32.lt_iff_toInt_lt, lp_subI (by omega) (by omega), nI_toInt (by omega)]
      omega
    refine lv_icmp_gt (tgt := 665) hx hb dL_law_23 (by decide) (fun _ => ?_) (fun q => absurd hlt q)
    refine lv_iconst (v := 1) hx hb dL_law_665 (by decide) ?_
    refine va_forget (fun q hq => hDm _ (hS.2.2 q hq)) ?_
    have hc := A.1.2.2.2.2.2.1
    refine W.widen (k := 600000) (n := 7302250) (Nat.le_trans (Nat.le_add_right _ _) hc.1) (Nat.le_trans (Nat.le_add_right _ _) hc.2) ?_
    exact lw_ret hx hb hr hlocks dL_law_666
  | succ n ih =>
    intro t h1 h2 ad σ H locs cells slots ls Z A hP hD
    obtain ⟨hx, hb, hr, hml, hown, hts, hX, hbl, hlocks, hgv⟩ := id C0
    have hl := A.2
    have hS := A.1.2.2.2.1
    refine lv_iload_n hx hb dL_law_18 rfl (lv_at hl 3 rfl) ?_
    refine lv_aload_n hx hb dL_law_19 rfl (lv_at hl 0 rfl) ?_
    refine va_slen (A := lp_Dom ad0 σ0 s.heap.size) hx hb hX hbl (fun q => absurd (hDm b q) (by omega)) hS dL_law_20 ?_
    refine lv_iconst (v := nI 4) hx hb dL_law_21 (by decide) ?_
    refine lv_isub hx hb dL_law_22 ?_
    have hlt : nI L - nI 4 < nI t ↔ L < t + 4 := by
      rw [Int32.lt_iff_toInt_lt, lp_subI (by omega) (by omega), nI_toInt (by omega)]
      omega
    refine lv_icmp_gt (tgt := 665) hx hb dL_law_23 (by decide) (fun _ => ?_) (fun q => ?_)
    · refine lv_iconst (v := 1) hx hb dL_law_665 (by decide) ?_
      refine va_forget (fun q hq => hDm _ (hS.2.2 q hq)) ?_
      have hc := A.1.2.2.2.2.2.1
      refine W.widen (k := 600000) (n := 7302250) (Nat.le_trans (Nat.le_add_right _ _) hc.1) (Nat.le_trans (Nat.le_add_right _ _) hc.2) ?_
      exact lw_ret hx hb hr hlocks dL_law_666
    have ht : t + 3 < L := by
      have h3 : ¬ L < t + 4 := fun h => q (hlt.mpr h)
      omega
    have next : ∀ (ad' : Nat → Nat → Nat) (σ' : lpM) (H' : Heap) (locs' : List Loc) (cells' slots' : Nat) (Z' : lpZ), lw_A D cI cD s ad0 σ0 b ad' σ' H' locs' cells' slots' ls (nI t) → lpP σ' Z' → lpD σ' Z' → W p l e room_1 s m #[Value.ref b] below meth c H' locs' cells' slots' (lw_Z below #[Value.ref b] s) (F0 m 659 ls []) := by
      intro ad' σ' H' locs' cells' slots' Z' A' hP' hD'
      refine lv_iinc (v := nI (t + 4)) (lv' := [(3, .int (nI (t + 4))), (0, .ref b), (1, .ref (ad0 1 0)), (2, .ref (ad0 30 0))]) hx hb dL_law_659 A'.2 (k := 3) rfl (nI_add t 4) (by decide) rfl (fun ls' hl' => ?_)
      refine lv_goto (tgt := 18) hx hb dL_law_662 (by decide) ?_
      have hl2 : lv_has ls' 4 [(0, .ref b), (1, .ref (ad0 1 0)), (2, .ref (ad0 30 0)), (3, .int (nI (t + 4)))] := lv_sub hl' [1, 2, 3, 0] rfl
      obtain ⟨a1, a2, a3, a4, ⟨b1, b2, b3⟩, a6, a7⟩ := A'.1
      have e1 : ad' 1 0 = ad0 1 0 := (a2 1 0 (lw_live (Or.inl rfl))).2
      have e2 : ad' 30 0 = ad0 30 0 := (a2 30 0 (lw_live (Or.inr rfl))).2
      refine ih (t + 4) (by omega) (by omega) ad' σ' H' locs' cells' slots' ls' Z' ⟨⟨a1, a2, a3, a4, ⟨?_, ?_, rfl⟩, a6, a7⟩, hl2⟩ hP' hD'
      · show lv_has ls' 4 [(1, .ref (ad' 1 0)), (2, .ref (ad' 30 0)), (3, .int (nI (t + 4)))]
        rw [e1, e2]
        exact lv_sub hl2 [1, 2, 3] rfl
      · intro v hv
        rcases List.mem_cons.mp hv with q1 | hv
        · cases q1
        rcases List.mem_cons.mp hv with q1 | hv
        · cases q1
          exact lw_live (Or.inl rfl)
        rcases List.mem_cons.mp hv with q1 | hv
        · cases q1
          exact lw_live (Or.inr rfl)
        rcases List.mem_cons.mp hv with q1 | hv
        · cases q1
          exact trivial
        · cases hv
    refine lv_aload_n hx hb dL_law_26 rfl (lv_at hl 0 rfl) ?_
    refine lv_iload_n hx hb dL_law_27 rfl (lv_at hl 3 rfl) ?_
    refine va_sld (A := lp_Dom ad0 σ0 s.heap.size) hx hb hX hbl (fun q => absurd (hDm b q) (by omega)) hS (lp_vin (show t < L by omega) (by omega)) dL_law_28 ?_
    rw [lp_clm (by omega)]
    refine lv_bipush (v := 31) hx hb dL_law_29 (by decide) ?_
    refine lv_iand hx hb dL_law_31 ?_
    obtain ⟨j, hj, ej⟩ := pk_andE (xs t) (m := 31) 5 (by decide)
    rw [ej]
    have hj : j < 32 := hj
    have eji : (nI j).toInt = (j : Int) := nI_toInt (by omega)
    by_cases h18 : 18 < j
    · refine lv_tableOut (tgt := 659) hx hb dL_law_32 (by rw [eji]; omega) (by decide) ?_
      exact next ad σ H locs cells slots Z A hP hD
    rcases (show j = 0 ∨ j = 1 ∨ j = 2 ∨ j = 3 ∨ j = 4 ∨ j = 5 ∨ j = 6 ∨ j = 7 ∨ j = 8 ∨ j = 9 ∨ j = 10 ∨ j = 11 ∨ j = 12 ∨ j = 13 ∨ j = 14 ∨ j = 15 ∨ j = 16 ∨ j = 17 ∨ j = 18 by omega) with rfl | rfl | rfl | rfl | rfl | rfl | rfl | rfl | rfl | rfl | rfl | rfl | rfl | rfl | rfl | rfl | rfl | rfl | rfl
    · refine lv_tableIn (off := 92) (tgt := 124) hx hb dL_law_32 (by decide) (by decide) (by decide) (by decide) ?_
      exact lw_c_visit C0 hWd hDm hL ht A hP hD next
    · refine lv_tableIn (off := 105) (tgt := 137) hx hb dL_law_32 (by decide) (by decide) (by decide) (by decide) ?_
      exact lw_c_ask C0 hWd hDm hL ht A hP hD next
    · refine lv_tableIn (off := 138) (tgt := 170) hx hb dL_law_32 (by decide) (by decide) (by decide) (by decide) ?_
      exact lw_c_clear C0 hWd hDm hL ht A hP hD next
    · refine lv_tableIn (off := 149) (tgt := 181) hx hb dL_law_32 (by decide) (by decide) (by decide) (by decide) ?_
      exact lw_c_steps C0 hWd hDm hL ht A hP hD next
    · refine lv_tableIn (off := 182) (tgt := 214) hx hb dL_law_32 (by decide) (by decide) (by decide) (by decide) ?_
      exact lw_c_waits C0 hWd hDm hL ht A hP hD next
    · refine lv_tableIn (off := 225) (tgt := 257) hx hb dL_law_32 (by decide) (by decide) (by decide) (by decide) ?_
      exact lw_c_rare C0 hWd hDm hL ht A hP hD next
    · refine lv_tableIn (off := 268) (tgt := 300) hx hb dL_law_32 (by decide) (by decide) (by decide) (by decide) ?_
      exact lw_c_cost C0 hWd hDm hL ht A hP hD next
    · refine lv_tableIn (off := 301) (tgt := 333) hx hb dL_law_32 (by decide) (by decide) (by decide) (by decide) ?_
      exact lw_c_contexts C0 hWd hDm hL ht A hP hD next
    · refine lv_tableIn (off := 324) (tgt := 356) hx hb dL_law_32 (by decide) (by decide) (by decide) (by decide) ?_
      exact lw_c_states C0 hWd hDm hL ht A hP hD next
    · refine lv_tableIn (off := 347) (tgt := 379) hx hb dL_law_32 (by decide) (by decide) (by decide) (by decide) ?_
      exact lw_c_press C0 hWd hDm hL ht A hP hD next
    · refine lv_tableIn (off := 390) (tgt := 422) hx hb dL_law_32 (by decide) (by decide) (by decide) (by decide) ?_
      exact lw_c_walked C0 hWd hDm hL ht A hP hD next
    · refine lv_tableIn (off := 413) (tgt := 445) hx hb dL_law_32 (by decide) (by decide) (by decide) (by decide) ?_
      exact lw_c_told C0 hWd hDm hL ht A hP hD next
    · refine lv_tableIn (off := 456) (tgt := 488) hx hb dL_law_32 (by decide) (by decide) (by decide) (by decide) ?_
      exact lw_c_dealt C0 hWd hDm hL ht A hP hD next
    · refine lv_tableIn (off := 489) (tgt := 521) hx hb dL_law_32 (by decide) (by decide) (by decide) (by decide) ?_
      exact lw_c_part C0 hWd hDm hL ht A hP hD next
    · refine lv_tableIn (off := 522) (tgt := 554) hx hb dL_law_32 (by decide) (by decide) (by decide) (by decide) ?_
      exact lw_c_late C0 hWd hDm hL ht A hP hD next
    · refine lv_tableIn (off := 555) (tgt := 587) hx hb dL_law_32 (by decide) (by decide) (by decide) (by decide) ?_
      exact lw_c_behind C0 hWd hDm hL ht A hP hD next
    · refine lv_tableIn (off := 568) (tgt := 600) hx hb dL_law_32 (by decide) (by decide) (by decide) (by decide) ?_
      exact lw_c_waiting C0 hWd hDm hL ht A hP hD next
    · refine lv_tableIn (off := 591) (tgt := 623) hx hb dL_law_32 (by decide) (by decide) (by decide) (by decide) ?_
      exact lw_c_learn C0 hWd hDm hL ht A hP hD next
    · refine lv_tableIn (off := 604) (tgt := 636) hx hb dL_law_32 (by decide) (by decide) (by decide) (by decide) ?_
      exact lw_c_count C0 hWd hDm hL ht A hP hD next
