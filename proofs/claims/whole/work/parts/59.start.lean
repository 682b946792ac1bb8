/-! ===== the law from its entry ===== -/
set_option maxHeartbeats 16000000 in
set_option maxRecDepth 100000 in
theorem whole_start {p : Program} {e : Env} {s : State} {m : MethodId} {below : List Frame} {meth : Method} {c : Code} (l : Launch) {b L : Nat} {xs : Nat → Int32} (hL : L ≤ 2048) (C0 : lw_At p s m meth c b L xs) : W p l e room_1 s m #[Value.ref b] below meth c s.heap [] 0 0 (lw_Z below #[Value.ref b] s) (entryFrame m ([Value.ref b] : List Value).toArray 4) := by
  obtain ⟨hx, hb, hr, hml, hown, hts, hX, hbl, hlocks, hgv⟩ := id C0
  have T := lw_tb C0
  obtain ⟨c0, i0, hK0⟩ := u_known (C := RX0) (T := TX0) (N := 5) (n := 5) T lp_u0 (T (.instantiable RX0 5) (by decide +kernel))
  obtain ⟨c1, i1, hK1⟩ := u_known (C := RX1) (T := TX1) (N := 2) (n := 2) T lp_u1 (T (.instantiable RX1 2) (by decide +kernel))
  obtain ⟨c2, i2, hK2⟩ := u_known (C := RX2) (T := TX2) (N := 3) (n := 3) T lp_u2 (T (.instantiable RX2 3) (by decide +kernel))
  obtain ⟨c3, i3, hK3⟩ := u_known (C := RX3) (T := TX3) (N := 13) (n := 13) T lp_u3 (T (.instantiable RX3 13) (by decide +kernel))
  obtain ⟨c4, i4, hK4⟩ := u_known (C := RX4) (T := TX4) (N := 4) (n := 4) T lp_u4 (T (.instantiable RX4 4) (by decide +kernel))
  obtain ⟨c5, i5, hK5⟩ := u_known (C := RX5) (T := TX5) (N := 1) (n := 1) T lp_u5 (T (.instantiable RX5 1) (by decide +kernel))
  obtain ⟨c6, i6, hK6⟩ := u_known (C := RX6) (T := TX6) (N := 6) (n := 6) T lp_u6 (T (.instantiable RX6 6) (by decide +kernel))
  obtain ⟨c7, i7, hK7⟩ := u_known (C := RX7) (T := TX7) (N := 26) (n := 26) T lp_u7 (T (.instantiable RX7 26) (by decide +kernel))
  obtain ⟨D, hKc⟩ : ∃ D : va_G, ∀ (k : Nat) (q : vw_C), vwCl[k]? = some q → u_Kn s q.1 q.2.1 q.2.2 (D.1 k) (D.2 k) := by
    refine ⟨(fun k => match k with | 0 => c0 | 1 => c1 | 2 => c2 | 3 => c3 | 4 => c4 | 5 => c5 | 6 => c6 | _ => c7, fun k => match k with | 0 => i0 | 1 => i1 | 2 => i2 | 3 => i3 | 4 => i4 | 5 => i5 | 6 => i6 | _ => i7), ?_⟩
    intro k q hq
    match k, hq with
    | 0, hq => cases hq; exact hK0
    | 1, hq => cases hq; exact hK1
    | 2, hq => cases hq; exact hK2
    | 3, hq => cases hq; exact hK3
    | 4, hq => cases hq; exact hK4
    | 5, hq => cases hq; exact hK5
    | 6, hq => cases hq; exact hK6
    | 7, hq => cases hq; exact hK7
    | k + 8, hq => simp [vwCl] at hq
  obtain ⟨cI, kI, compI, f1, f2, f3⟩ := Cond.arrayClass_spec (T (.arrayClass .int) (by decide +kernel))
  have hAO : va_AO RX1 s := va_AO.of (hts (.arrayOver (.object RX1)) (by decide +kernel))
  obtain ⟨compD, cD, kD, g1, g2, g3, g4, g5⟩ := Cond.arrayOver_spec hAO
  have hK : va_K D vwCl [(cI, .int), (cD, .object RX1)] s := by
    refine ⟨hKc, fun k q hk => ?_⟩
    match k, hk with
    | 0, hk => cases hk; exact ⟨fun N z => ⟨(fun k h => by cases h), kI, f2, compI, f3⟩, f1⟩
    | 1, hk => cases hk; exact ⟨fun N z => ⟨(fun k h => by cases h), kD, g3, compD, g4⟩, kD, compD, g3, g4, g1, g5⟩
    | k + 2, hk => simp at hk
  have hWd : lp_Wd D cI cD s := ⟨hK, fun w hw => va_Nw.of (lp_nest_on (List.mem_filter.mp hw).2) (hts w (List.mem_filter.mp hw).1)⟩
  have hA : ∀ q : Nat, s.heap.size ≤ q → (fun q : Nat => s.heap.size ≤ q) q := fun _ h => h
  have hS : va_S (fun q : Nat => s.heap.size ≤ q) s.heap s.heap [] := va_S.rf
  have hP : va_P D vwCl [] s.heap := fun k q h => by simp at h
  have hD : va_D (fun q : Nat => s.heap.size ≤ q) [] := ⟨fun i j p q h => by simp at h, fun k q h => by simp at h⟩
  have hl := lv_entry ([.ref b]) (n := 4) (Nat.le_of_ble_eq_true rfl)
  rw [lg_entry_eq]
  generalize (lg_sl ([.ref b]) ++ List.replicate (4 - (lg_sl ([.ref b])).length) Slot.unset).toArray = ls at hl ⊢
  have hl : lv_has ls 4 [(0, .ref b)] := hl
  refine va_new (ci := 6) (fs := [.null, .null, .null, .null, .null, .null]) (C := RX6) (T := TX6) (N := 6) hx hb T lp_u6 tyX6 tyX6_ok hown (T (.classLink RL 7 RX6) (by decide +kernel)) (T (.instantiable RX6 6) (by decide +kernel)) (T (.initialized RX6) (by decide +kernel)) hK hP hD hS hA rfl (fun j hj => by rcases (show j = 0 ∨ j = 1 ∨ j = 2 ∨ j = 3 ∨ j = 4 ∨ j = 5 by omega) with rfl | rfl | rfl | rfl | rfl | rfl <;> rfl) (Nat.le_of_ble_eq_true rfl) (Nat.le_of_ble_eq_true rfl) dL_law_0 (fun a1 H hP hD hS => ?_)
  have hP : va_P D vwCl [(a1, .inr (6, [.null, .null, .null, .null, .null, .null]))] H := hP
  have hD : va_D (fun q : Nat => s.heap.size ≤ q) [(a1, .inr (6, [.null, .null, .null, .null, .null, .null]))] := hD
  refine lv_dup hx hb dL_law_3 rfl ?_
  have hFc := va_free (wc := [(a1, .inr (6, [.null, .null, .null, .null, .null, .null]))]) hD hS hA [0] rfl
  refine va_callv (va_runI (As := []) (rest := [.ref a1]) ⟨hx, hb, hml, hown, T⟩ (ci_X6 l D cI cD a1 H.size) (cwI 0 T (lp_goodT (y := yX6_init) (bytes := cX6_init) (nL := 1) (ret := none) (by decide +kernel)) rfl rfl rfl (T (.initialized RX6) (by decide +kernel)) (T (.methodLink RL 9 yX6_init) (by decide +kernel)) (T (.instanceMethod yX6_init) (by decide +kernel)) rfl (by decide +kernel) ⟨Nat.le_of_ble_eq_true rfl, Nat.le_of_ble_eq_true rfl⟩) ⟨fun a U g mk q => by obtain ⟨q0, q1, qP, qW, qD⟩ := q; exact ⟨q0, q1, qP, lp_Wc_call qW, qD⟩, fun U hU hW => ⟨rfl, by rw [hU], by rw [hU]; exact hP, lp_Wc_move hW ⟨hWd, hAO⟩, hD.weaken (fun _ _ _ _ => trivial)⟩⟩ rfl rfl hl.1 rfl (lv_room (Nat.le_of_ble_eq_true rfl)) dL_law_4 ⟨Nat.le_of_ble_eq_true rfl, Nat.le_of_ble_eq_true rfl⟩) hS (fun q _ h => hFc q h) hFc (fun Q1 t H1 locs ht hvm hw hB hz1 hk1 hS => ?_)
  obtain ⟨hP1, -, hD1⟩ := hB
  rw [ht] at hP1
  obtain ⟨hP, hD⟩ := va_join (wr := []) (w1 := wX6 cI cD a1 Q1) hP hD [0] [] rfl rfl (by decide) (by decide) hk1 hFc hP1 hD1
  have hP : va_P D vwCl (wX6 cI cD a1 Q1) H1 := hP
  have hD : va_D (fun q : Nat => s.heap.size ≤ q) (wX6 cI cD a1 Q1) := hD
  clear hP1 hD1 hk1 hz1 hFc
  refine lv_astore_n (lv' := [(1, .ref a1), (0, .ref b)]) hx hb dL_law_7 rfl hl (by decide) rfl (fun ls hl => ?_)
  refine va_new (ci := 7) (fs := [.int 0, .null, .null, .null, .null, .null, .null, .null, .int 0, .int 0, .int 0, .int 0, .int 0, .null, .null, .null, .null, .null, .null, .null, .null, .null, .null, .null, .null, .null]) (C := RX7) (T := TX7) (N := 26) hx hb T lp_u7 tyX7 tyX7_ok hown (T (.classLink RL 10 RX7) (by decide +kernel)) (T (.instantiable RX7 26) (by decide +kernel)) (T (.initialized RX7) (by decide +kernel)) hK hP hD hS hA rfl (fun j hj => by rcases (show j = 0 ∨ j = 1 ∨ j = 2 ∨ j = 3 ∨ j = 4 ∨ j = 5 ∨ j = 6 ∨ j = 7 ∨ j = 8 ∨ j = 9 ∨ j = 10 ∨ j = 11 ∨ j = 12 ∨ j = 13 ∨ j = 14 ∨ j = 15 ∨ j = 16 ∨ j = 17 ∨ j = 18 ∨ j = 19 ∨ j = 20 ∨ j = 21 ∨ j = 22 ∨ j = 23 ∨ j = 24 ∨ j = 25 by omega) with rfl | rfl | rfl | rfl | rfl | rfl | rfl | rfl | rfl | rfl | rfl | rfl | rfl | rfl | rfl | rfl | rfl | rfl | rfl | rfl | rfl | rfl | rfl | rfl | rfl | rfl <;> rfl) (Nat.le_of_ble_eq_true rfl) (Nat.le_of_ble_eq_true rfl) dL_law_8 (fun a2 H2 hP hD hS => ?_)
  refine lv_dup hx hb dL_law_11 rfl ?_
  have hPc := hP.sub (ws' := [(a2, .inr (7, [.int 0, .null, .null, .null, .null, .null, .null, .null, .int 0, .int 0, .int 0, .int 0, .int 0, .null, .null, .null, .null, .null, .null, .null, .null, .null, .null, .null, .null, .null]))]) [62] rfl
  have hDc := hD.sub (ws' := [(a2, .inr (7, [.int 0, .null, .null, .null, .null, .null, .null, .null, .int 0, .int 0, .int 0, .int 0, .int 0, .null, .null, .null, .null, .null, .null, .null, .null, .null, .null, .null, .null, .null]))]) [62] (by decide) rfl
  have hFc := va_free (wc := [(a2, .inr (7, [.int 0, .null, .null, .null, .null, .null, .null, .null, .int 0, .int 0, .int 0, .int 0, .int 0, .null, .null, .null, .null, .null, .null, .null, .null, .null, .null, .null, .null, .null]))]) hD hS hA [62] rfl
  refine va_callv (va_runI (As := []) (rest := [.ref a2]) ⟨hx, hb, hml, hown, T⟩ (ci_X7 l D cI cD a2 H2.size) (cwI 0 T (lp_goodT (y := yX7_init) (bytes := cX7_init) (nL := 2) (ret := none) (by decide +kernel)) rfl rfl rfl (T (.initialized RX7) (by decide +kernel)) (T (.methodLink RL 12 yX7_init) (by decide +kernel)) (T (.instanceMethod yX7_init) (by decide +kernel)) rfl (by decide +kernel) ⟨Nat.le_of_ble_eq_true rfl, Nat.le_of_ble_eq_true rfl⟩) ⟨fun a U g mk q => by obtain ⟨q0, q1, qP, qW, qD⟩ := q; exact ⟨q0, q1, qP, lp_Wd_call qW, qD⟩, fun U hU hW => ⟨rfl, by rw [hU], by rw [hU]; exact hPc, lp_Wd_move hW hWd, hDc.weaken (fun _ _ _ _ => trivial)⟩⟩ rfl rfl hl.1 rfl (lv_room (Nat.le_of_ble_eq_true rfl)) dL_law_12 ⟨Nat.le_of_ble_eq_true rfl, Nat.le_of_ble_eq_true rfl⟩) hS (fun q _ h => hFc q h) hFc (fun Q2 t2 H3 locs2 ht2 hvm2 hw2 hB2 hz2 hk2 hS => ?_)
  obtain ⟨hP2, -, hD2⟩ := hB2
  rw [ht2] at hP2
  obtain ⟨hP, hD⟩ := va_join (wr := wX6 cI cD a1 Q1) (w1 := wX7 cI cD a2 Q2) hP hD [62] [0, 1, 2, 3, 4, 5, 6, 7, 8, 9, 10, 11, 12, 13, 14, 15, 16, 17, 18, 19, 20, 21, 22, 23, 24, 25, 26, 27, 28, 29, 30, 31, 32, 33, 34, 35, 36, 37, 38, 39, 40, 41, 42, 43, 44, 45, 46, 47, 48, 49, 50, 51, 52, 53, 54, 55, 56, 57, 58, 59, 60, 61] rfl rfl (by decide) (by decide) hk2 hFc hP2 hD2
  obtain ⟨hRep, hAd⟩ := lp_Rep0 hP hD
  have hDm : ∀ q, lp_Dom (lp_ad0 a1 Q1 a2 Q2) lp_s0 s.heap.size q → s.heap.size ≤ q := by
    rintro q (⟨r, k, h, rfl⟩ | h)
    · exact hAd r k h
    · exact h
  refine lv_astore_n (lv' := [(2, .ref a2), (1, .ref a1), (0, .ref b)]) hx hb dL_law_15 rfl hl (by decide) rfl (fun ls hl => ?_)
  refine lv_iconst (v := nI 0) hx hb dL_law_16 (by decide) ?_
  refine lv_istore_n (lv' := [(3, .int (nI 0)), (2, .ref a2), (1, .ref a1), (0, .ref b)]) hx hb dL_law_17 rfl hl (by decide) rfl (fun ls hl => ?_)
  have hl2 : lv_has ls 4 [(0, .ref b), (1, .ref a1), (2, .ref a2), (3, .int (nI 0))] := lv_sub hl [3, 2, 1, 0] rfl
  have hdd := lp_dead_le lp_s0
  refine lp_loose (fun z1 z2 => ?_)
  refine lw_loop (D := D) (cI := cI) (cD := cD) (ad0 := lp_ad0 a1 Q1 a2 Q2) (σ0 := lp_s0) C0 hWd hDm hL (L + 4) 0 (by omega) (by omega) (lp_ad0 a1 Q1 a2 Q2) lp_s0 H3 _ _ _ ls lp_Z0 ⟨⟨hRep, fun r k h => ⟨h, rfl⟩, fun r k h => Or.inl ⟨r, k, h, rfl⟩, ⟨hS.1, fun q h1 h2 => hS.2.1 q h1 (fun z => absurd h1 (Nat.not_lt.mpr z)), fun q hq => Or.inr (hS.2.2 q hq)⟩, ⟨lv_sub hl2 [1, 2, 3] rfl, ?_, rfl⟩, ⟨?_, ?_⟩, ?_, ?_⟩, hl2⟩ lp_P0 lp_D0
  · intro v hv
    rcases List.mem_cons.mp hv with q1 | hv
    · cases q1
    rcases List.mem_cons.mp hv with q1 | hv
    · cases q1
      exact lw_live (Or.inl rfl)
    rcases List.mem_cons.mp hv with q1 | hv
    · cases q1
      exact lw_live (Or.inr rfl)
    rcases List.mem_cons.mp hv with q1 | hv
    · cases q1
      exact trivial
    · cases hv
  · have e1 : room_1.cells = 600000 := rfl
    rw [e1]
    omega
  · have e1 : room_1.slots = 7302250 := rfl
    rw [e1]
    omega
  · have e1 : room_1.cells = 600000 := rfl
    rw [e1]
    omega
  · have e1 : room_1.slots = 7302250 := rfl
    rw [e1]
    omega
