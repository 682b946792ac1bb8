/-! ===== constructor of X2 ===== -/
theorem dX2_init_0 : decode cX2_init 0 = .ok (.aload_n 0, 1) := by decide +kernel
theorem dX2_init_1 : decode cX2_init 1 = .ok (.invokespecial 3, 3) := by decide +kernel
theorem dX2_init_4 : decode cX2_init 4 = .ok (.aload_n 0, 1) := by decide +kernel
theorem dX2_init_5 : decode cX2_init 5 = .ok (.bipush 121, 2) := by decide +kernel
theorem dX2_init_7 : decode cX2_init 7 = .ok (.newarray .int, 2) := by decide +kernel
theorem dX2_init_9 : decode cX2_init 9 = .ok (.putfield 9, 3) := by decide +kernel
theorem dX2_init_12 : decode cX2_init 12 = .ok (.aload_n 0, 1) := by decide +kernel
theorem dX2_init_13 : decode cX2_init 13 = .ok (.bipush 121, 2) := by decide +kernel
theorem dX2_init_15 : decode cX2_init 15 = .ok (.newarray .int, 2) := by decide +kernel
theorem dX2_init_17 : decode cX2_init 17 = .ok (.putfield 15, 3) := by decide +kernel
theorem dX2_init_20 : decode cX2_init 20 = .ok (.aload_n 0, 1) := by decide +kernel
theorem dX2_init_21 : decode cX2_init 21 = .ok (.bipush 121, 2) := by decide +kernel
theorem dX2_init_23 : decode cX2_init 23 = .ok (.anewarray 18, 3) := by decide +kernel
theorem dX2_init_26 : decode cX2_init 26 = .ok (.putfield 20, 3) := by decide +kernel
theorem dX2_init_29 : decode cX2_init 29 = .ok (.return_, 1) := by decide +kernel
def wX2 (cI cD : ClassId) (h : Nat) (q : Nat → Nat) : va_W := [(h, .inr (2, [.ref (q 0), .ref (q 1), .ref (q 2)])), (q 0, lp_z cI 121), (q 1, lp_z cI 121), (q 2, .inl (cD, 121, .inr (.inr (.inr (.inr (fun _ => none))))))]
set_option maxHeartbeats 16000000 in
set_option maxRecDepth 100000 in
theorem ci_X2 (l : Launch) (D : va_G) (cI cD : ClassId) (h0 sz : Nat) : Met l yX2_init (.code yX2_init cX2_init 1 none :: lp_tbl) { frames := 1, cells := 3, slots := 363, locals := 36 } (va_Pc [.ref h0] (fun U => U.heap.size = sz ∧ va_P D vwCl [(h0, .inr (2, [.null, .null, .null]))] U.heap ∧ lp_Wc D cI cD U ∧ va_D (fun _ => True) [(h0, .inr (2, [.null, .null, .null]))])) (va_Qv (fun _ : Nat → Nat => True) (fun q t => va_P D vwCl (wX2 cI cD h0 q) t.heap ∧ lp_Wd D cI cD t ∧ va_D (va_A [(h0, .inr (2, [.null, .null, .null]))] sz) (wX2 cI cD h0 q)) (va_A [(h0, .inr (2, [.null, .null, .null]))] sz)) 3 (363) (va_A [(h0, .inr (2, [.null, .null, .null]))] sz) := by
  refine Met.ofW (cc := cX2_init) (maxL := 1) (ret := none) (by decide) rfl ?_
  intro p e s m args below meth c s₁ B hml hv
  obtain ⟨rfl, hsz, hP, ⟨hWd, hAO⟩, hD0⟩ := hv
  have hx := B.exec
  have hb := B.bytes
  have hr := B.returns
  have hts := atoms_spec (ws := Cond.code yX2_init cX2_init 1 none :: lp_tbl) B.pre
  have T : ∀ w ∈ lp_tbl, w.before ([.ref h0] : List Value).toArray s = true := fun w hw => hts w (List.mem_cons_of_mem _ hw)
  have hown : s.vm.findClass RX2 = some m.cls := findClass_of_methodNamed B.named
  have hlocks := B.notSynchronized
  have hin : meth.name = "<init>" := (name_of_methodNamed B.named B.method).1
  subst hsz
  have hD := hD0.self (sz := s.heap.size)
  generalize hAe : va_A [(h0, .inr (2, [.null, .null, .null]))] s.heap.size = A at hD ⊢
  have hA : ∀ q : Nat, s.heap.size ≤ q → A q := fun q h => by rw [← hAe]; exact Or.inr h
  have hS : va_S A s.heap s.heap [] := va_S.rf
  have hl := lv_entry ([.ref h0]) (n := 1) (Nat.le_of_ble_eq_true rfl)
  rw [lg_entry_eq]
  generalize (lg_sl ([.ref h0]) ++ List.replicate (1 - (lg_sl ([.ref h0])).length) Slot.unset).toArray = ls at hl ⊢
  have hl : lv_has ls 1 [(0, .ref h0)] := hl
  have hRf : (headSpec (Cond.code yX2_init cX2_init 1 none :: lp_tbl) { frames := 1, cells := 3, slots := 363, locals := 36 }).room.frames = 1 := rfl
  have hRl : (headSpec (Cond.code yX2_init cX2_init 1 none :: lp_tbl) { frames := 1, cells := 3, slots := 363, locals := 36 }).room.locals = 36 := rfl
  have hRc : (headSpec (Cond.code yX2_init cX2_init 1 none :: lp_tbl) { frames := 1, cells := 3, slots := 363, locals := 36 }).room.cells = 3 := rfl
  have hRs : (headSpec (Cond.code yX2_init cX2_init 1 none :: lp_tbl) { frames := 1, cells := 3, slots := 363, locals := 36 }).room.slots = 363 := rfl
  refine lv_aload_n hx hb dX2_init_0 rfl (lv_at hl 0 rfl) ?_
  refine W.objInit hx hb hown (T (.methodLink RX2 3 objectInit) (by decide +kernel)) (T (.instanceMethod objectInit) (by decide +kernel)) (T (.code objectInit ⟨#[0xb1]⟩ 1 none) (by decide +kernel)) rfl (by rw [hml]; exact hl.1) rfl dX2_init_1 (Nat.le_of_ble_eq_true rfl) (Nat.le_of_ble_eq_true rfl) ?_
  refine W.eq (g2 := F0 m 4 ls []) rfl ?_
  refine lv_aload_n hx hb dX2_init_4 rfl (lv_at hl 0 rfl) ?_
  refine lv_bipush (v := 121) hx hb dX2_init_5 (by decide) ?_
  refine lp_newa (N' := 121) hx hb T hWd hP hD hS hA (by decide) (by decide) (by omega) (by rw [hRc]; exact Nat.le_of_ble_eq_true rfl) (by rw [hRs]; exact Nat.le_of_ble_eq_true rfl) dX2_init_7 (fun a7_5 H hP hD hS => ?_)
  refine W.widen (k := 1) (n := 121) (by omega) (by omega) ?_
  have hP : va_P D vwCl [(h0, .inr (2, [.null, .null, .null])), (a7_5, lp_z cI 121)] H := hP
  have hD : va_D A [(h0, .inr (2, [.null, .null, .null])), (a7_5, lp_z cI 121)] := hD
  refine va_putF (D := D) (ci := 2) (v := .ref a7_5) (ty := .array .int) (C := RX2) (T := TX2) (N := 3) hx hb T lp_u2 tyX2 tyX2_ok nmX2 hown hWd.1 hP hD hS 0 rfl rfl 0 (by decide) (T (.fieldLink RX2 9 "LoadPress$Machine" "times" "[I") (by decide +kernel)) (fun _ h9 => h9) rfl hin rfl (by decide +kernel) rfl rfl (Nat.le_of_ble_eq_true rfl) dX2_init_9 (fun H locs hP hD hS => ?_)
  have hP : va_P D vwCl [(h0, .inr (2, [.ref a7_5, .null, .null])), (a7_5, lp_z cI 121)] H := hP
  have hD : va_D A [(h0, .inr (2, [.ref a7_5, .null, .null])), (a7_5, lp_z cI 121)] := hD
  refine lv_aload_n hx hb dX2_init_12 rfl (lv_at hl 0 rfl) ?_
  refine lv_bipush (v := 121) hx hb dX2_init_13 (by decide) ?_
  refine lp_newa (N' := 121) hx hb T hWd hP hD hS hA (by decide) (by decide) (by omega) (by rw [hRc]; exact Nat.le_of_ble_eq_true rfl) (by rw [hRs]; exact Nat.le_of_ble_eq_true rfl) dX2_init_15 (fun a15_9 H hP hD hS => ?_)
  refine W.widen (k := 2) (n := 242) (by omega) (by omega) ?_
  have hP : va_P D vwCl [(h0, .inr (2, [.ref a7_5, .null, .null])), (a7_5, lp_z cI 121), (a15_9, lp_z cI 121)] H := hP
  have hD : va_D A [(h0, .inr (2, [.ref a7_5, .null, .null])), (a7_5, lp_z cI 121), (a15_9, lp_z cI 121)] := hD
  refine va_putF (D := D) (ci := 2) (v := .ref a15_9) (ty := .array .int) (C := RX2) (T := TX2) (N := 3) hx hb T lp_u2 tyX2 tyX2_ok nmX2 hown hWd.1 hP hD hS 0 rfl rfl 1 (by decide) (T (.fieldLink RX2 15 "LoadPress$Machine" "rares" "[I") (by decide +kernel)) (fun _ h9 => h9) rfl hin rfl (by decide +kernel) rfl rfl (Nat.le_of_ble_eq_true rfl) dX2_init_17 (fun H locs hP hD hS => ?_)
  have hP : va_P D vwCl [(h0, .inr (2, [.ref a7_5, .ref a15_9, .null])), (a7_5, lp_z cI 121), (a15_9, lp_z cI 121)] H := hP
  have hD : va_D A [(h0, .inr (2, [.ref a7_5, .ref a15_9, .null])), (a7_5, lp_z cI 121), (a15_9, lp_z cI 121)] := hD
  refine lv_aload_n hx hb dX2_init_20 rfl (lv_at hl 0 rfl) ?_
  refine lv_bipush (v := 121) hx hb dX2_init_21 (by decide) ?_
  refine lp_newq (N' := 121) (index := 18) hx hb hown (T (.classLink RX2 18 RX1) (by decide +kernel)) hAO hWd hP hD hS hA (by decide) (by decide) (by omega) (by rw [hRc]; exact Nat.le_of_ble_eq_true rfl) (by rw [hRs]; exact Nat.le_of_ble_eq_true rfl) dX2_init_23 (fun a23_13 H hP hD hS => ?_)
  refine W.widen (k := 3) (n := 363) (by omega) (by omega) ?_
  have hP : va_P D vwCl [(h0, .inr (2, [.ref a7_5, .ref a15_9, .null])), (a7_5, lp_z cI 121), (a15_9, lp_z cI 121), (a23_13, .inl (cD, 121, .inr (.inr (.inr (.inr (fun _ => none))))))] H := hP
  have hD : va_D A [(h0, .inr (2, [.ref a7_5, .ref a15_9, .null])), (a7_5, lp_z cI 121), (a15_9, lp_z cI 121), (a23_13, .inl (cD, 121, .inr (.inr (.inr (.inr (fun _ => none))))))] := hD
  refine va_putF (D := D) (ci := 2) (v := .ref a23_13) (ty := .array (.object "LoadPress$Dealing")) (C := RX2) (T := TX2) (N := 3) hx hb T lp_u2 tyX2 tyX2_ok nmX2 hown hWd.1 hP hD hS 0 rfl rfl 2 (by decide) (T (.fieldLink RX2 20 "LoadPress$Machine" "waits" "[LLoadPress$Dealing;") (by decide +kernel)) (fun _ h9 => h9) rfl hin rfl (by decide +kernel) rfl rfl (Nat.le_of_ble_eq_true rfl) dX2_init_26 (fun H locs hP hD hS => ?_)
  have hP : va_P D vwCl [(h0, .inr (2, [.ref a7_5, .ref a15_9, .ref a23_13])), (a7_5, lp_z cI 121), (a15_9, lp_z cI 121), (a23_13, .inl (cD, 121, .inr (.inr (.inr (.inr (fun _ => none))))))] H := hP
  have hD : va_D A [(h0, .inr (2, [.ref a7_5, .ref a15_9, .ref a23_13])), (a7_5, lp_z cI 121), (a15_9, lp_z cI 121), (a23_13, .inl (cD, 121, .inr (.inr (.inr (.inr (fun _ => none))))))] := hD
  have hP9 := hP.sub (ws' := [(h0, .inr (2, [.ref a7_5, .ref a15_9, .ref a23_13])), (a7_5, lp_z cI 121), (a15_9, lp_z cI 121), (a23_13, .inl (cD, 121, .inr (.inr (.inr (.inr (fun _ => none))))))]) [0, 1, 2, 3] rfl
  have hD9 := hD.sub (ws' := [(h0, .inr (2, [.ref a7_5, .ref a15_9, .ref a23_13])), (a7_5, lp_z cI 121), (a15_9, lp_z cI 121), (a23_13, .inl (cD, 121, .inr (.inr (.inr (.inr (fun _ => none))))))]) [0, 1, 2, 3] (by decide) rfl
  exact W.vret hx hb hr (fun t ht hW => ⟨⟨fun k => ([a7_5, a15_9, a23_13] : List Nat).getD k 0, rfl, trivial, by rw [ht]; exact hP9, lp_Wd_move hW hWd, hD9⟩, hS.F ht⟩) hS.2.2 dX2_init_29
