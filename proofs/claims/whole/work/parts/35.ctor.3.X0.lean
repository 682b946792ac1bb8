/-! ===== constructor of X0 ===== -/
theorem dX0_init_0 : decode cX0_init 0 = .ok (.aload_n 0, 1) := by decide +kernel
theorem dX0_init_1 : decode cX0_init 1 = .ok (.invokespecial 3, 3) := by decide +kernel
theorem dX0_init_4 : decode cX0_init 4 = .ok (.aload_n 0, 1) := by decide +kernel
theorem dX0_init_5 : decode cX0_init 5 = .ok (.sipush 1200, 3) := by decide +kernel
theorem dX0_init_8 : decode cX0_init 8 = .ok (.newarray .int, 2) := by decide +kernel
theorem dX0_init_10 : decode cX0_init 10 = .ok (.putfield 9, 3) := by decide +kernel
theorem dX0_init_13 : decode cX0_init 13 = .ok (.aload_n 0, 1) := by decide +kernel
theorem dX0_init_14 : decode cX0_init 14 = .ok (.sipush 1200, 3) := by decide +kernel
theorem dX0_init_17 : decode cX0_init 17 = .ok (.newarray .int, 2) := by decide +kernel
theorem dX0_init_19 : decode cX0_init 19 = .ok (.putfield 15, 3) := by decide +kernel
theorem dX0_init_22 : decode cX0_init 22 = .ok (.aload_n 0, 1) := by decide +kernel
theorem dX0_init_23 : decode cX0_init 23 = .ok (.bipush 11, 2) := by decide +kernel
theorem dX0_init_25 : decode cX0_init 25 = .ok (.newarray .int, 2) := by decide +kernel
theorem dX0_init_27 : decode cX0_init 27 = .ok (.putfield 18, 3) := by decide +kernel
theorem dX0_init_30 : decode cX0_init 30 = .ok (.aload_n 0, 1) := by decide +kernel
theorem dX0_init_31 : decode cX0_init 31 = .ok (.bipush 11, 2) := by decide +kernel
theorem dX0_init_33 : decode cX0_init 33 = .ok (.newarray .int, 2) := by decide +kernel
theorem dX0_init_35 : decode cX0_init 35 = .ok (.putfield 21, 3) := by decide +kernel
theorem dX0_init_38 : decode cX0_init 38 = .ok (.return_, 1) := by decide +kernel
def wX0 (cI cD : ClassId) (h : Nat) (q : Nat → Nat) : va_W := [(h, .inr (0, [.ref (q 0), .ref (q 1), .ref (q 2), .ref (q 3), .int 0])), (q 0, lp_z cI 1200), (q 1, lp_z cI 1200), (q 2, lp_z cI 11), (q 3, lp_z cI 11)]
set_option maxHeartbeats 16000000 in
set_option maxRecDepth 100000 in
theorem ci_X0 (l : Launch) (D : va_G) (cI cD : ClassId) (h0 sz : Nat) : Met l yX0_init (.code yX0_init cX0_init 1 none :: lp_tbl) { frames := 1, cells := 4, slots := 2422, locals := 36 } (va_Pc [.ref h0] (fun U => U.heap.size = sz ∧ va_P D vwCl [(h0, .inr (0, [.null, .null, .null, .null, .int 0]))] U.heap ∧ lp_Wd D cI cD U ∧ va_D (fun _ => True) [(h0, .inr (0, [.null, .null, .null, .null, .int 0]))])) (va_Qv (fun _ : Nat → Nat => True) (fun q t => va_P D vwCl (wX0 cI cD h0 q) t.heap ∧ lp_Wd D cI cD t ∧ va_D (va_A [(h0, .inr (0, [.null, .null, .null, .null, .int 0]))] sz) (wX0 cI cD h0 q)) (va_A [(h0, .inr (0, [.null, .null, .null, .null, .int 0]))] sz)) 4 (2422) (va_A [(h0, .inr (0, [.null, .null, .null, .null, .int 0]))] sz) := by
  refine Met.ofW (cc := cX0_init) (maxL := 1) (ret := none) (by decide) rfl ?_
  intro p e s m args below meth c s₁ B hml hv
  obtain ⟨rfl, hsz, hP, hWd, hD0⟩ := hv
  have hx := B.exec
  have hb := B.bytes
  have hr := B.returns
  have hts := atoms_spec (ws := Cond.code yX0_init cX0_init 1 none :: lp_tbl) B.pre
  have T : ∀ w ∈ lp_tbl, w.before ([.ref h0] : List Value).toArray s = true := fun w hw => hts w (List.mem_cons_of_mem _ hw)
  have hown : s.vm.findClass RX0 = some m.cls := findClass_of_methodNamed B.named
  have hlocks := B.notSynchronized
  have hin : meth.name = "<init>" := (name_of_methodNamed B.named B.method).1
  subst hsz
  have hD := hD0.self (sz := s.heap.size)
  generalize hAe : va_A [(h0, .inr (0, [.null, .null, .null, .null, .int 0]))] s.heap.size = A at hD ⊢
  have hA : ∀ q : Nat, s.heap.size ≤ q → A q := fun q h => by rw [← hAe]; exact Or.inr h
  have hS : va_S A s.heap s.heap [] := va_S.rf
  have hl := lv_entry ([.ref h0]) (n := 1) (Nat.le_of_ble_eq_true rfl)
  rw [lg_entry_eq]
  generalize (lg_sl ([.ref h0]) ++ List.replicate (1 - (lg_sl ([.ref h0])).length) Slot.unset).toArray = ls at hl ⊢
  have hl : lv_has ls 1 [(0, .ref h0)] := hl
  have hRf : (headSpec (Cond.code yX0_init cX0_init 1 none :: lp_tbl) { frames := 1, cells := 4, slots := 2422, locals := 36 }).room.frames = 1 := rfl
  have hRl : (headSpec (Cond.code yX0_init cX0_init 1 none :: lp_tbl) { frames := 1, cells := 4, slots := 2422, locals := 36 }).room.locals = 36 := rfl
  have hRc : (headSpec (Cond.code yX0_init cX0_init 1 none :: lp_tbl) { frames := 1, cells := 4, slots := 2422, locals := 36 }).room.cells = 4 := rfl
  have hRs : (headSpec (Cond.code yX0_init cX0_init 1 none :: lp_tbl) { frames := 1, cells := 4, slots := 2422, locals := 36 }).room.slots = 2422 := rfl
  refine lv_aload_n hx hb dX0_init_0 rfl (lv_at hl 0 rfl) ?_
  refine W.objInit hx hb hown (T (.methodLink RX0 3 objectInit) (by decide +kernel)) (T (.instanceMethod objectInit) (by decide +kernel)) (T (.code objectInit ⟨#[0xb1]⟩ 1 none) (by decide +kernel)) rfl (by rw [hml]; exact hl.1) rfl dX0_init_1 (Nat.le_of_ble_eq_true rfl) (Nat.le_of_ble_eq_true rfl) ?_
  refine W.eq (g2 := F0 m 4 ls []) rfl ?_
  refine lv_aload_n hx hb dX0_init_4 rfl (lv_at hl 0 rfl) ?_
  refine lv_sipush (v := 1200) hx hb dX0_init_5 (by decide) ?_
  refine lp_newa (N' := 1200) hx hb T hWd hP hD hS hA (by decide) (by decide) (by omega) (by rw [hRc]; exact Nat.le_of_ble_eq_true rfl) (by rw [hRs]; exact Nat.le_of_ble_eq_true rfl) dX0_init_8 (fun a8_5 H hP hD hS => ?_)
  refine W.widen (k := 1) (n := 1200) (by omega) (by omega) ?_
  have hP : va_P D vwCl [(h0, .inr (0, [.null, .null, .null, .null, .int 0])), (a8_5, lp_z cI 1200)] H := hP
  have hD : va_D A [(h0, .inr (0, [.null, .null, .null, .null, .int 0])), (a8_5, lp_z cI 1200)] := hD
  refine va_putF (D := D) (ci := 0) (v := .ref a8_5) (ty := .array .int) (C := RX0) (T := TX0) (N := 5) hx hb T lp_u0 tyX0 tyX0_ok nmX0 hown hWd.1 hP hD hS 0 rfl rfl 0 (by decide) (T (.fieldLink RX0 9 "LoadPress$Contexts" "comings" "[I") (by decide +kernel)) (fun _ h9 => h9) rfl hin rfl (by decide +kernel) rfl rfl (Nat.le_of_ble_eq_true rfl) dX0_init_10 (fun H locs hP hD hS => ?_)
  have hP : va_P D vwCl [(h0, .inr (0, [.ref a8_5, .null, .null, .null, .int 0])), (a8_5, lp_z cI 1200)] H := hP
  have hD : va_D A [(h0, .inr (0, [.ref a8_5, .null, .null, .null, .int 0])), (a8_5, lp_z cI 1200)] := hD
  refine lv_aload_n hx hb dX0_init_13 rfl (lv_at hl 0 rfl) ?_
  refine lv_sipush (v := 1200) hx hb dX0_init_14 (by decide) ?_
  refine lp_newa (N' := 1200) hx hb T hWd hP hD hS hA (by decide) (by decide) (by omega) (by rw [hRc]; exact Nat.le_of_ble_eq_true rfl) (by rw [hRs]; exact Nat.le_of_ble_eq_true rfl) dX0_init_17 (fun a17_9 H hP hD hS => ?_)
  refine W.widen (k := 2) (n := 2400) (by omega) (by omega) ?_
  have hP : va_P D vwCl [(h0, .inr (0, [.ref a8_5, .null, .null, .null, .int 0])), (a8_5, lp_z cI 1200), (a17_9, lp_z cI 1200)] H := hP
  have hD : va_D A [(h0, .inr (0, [.ref a8_5, .null, .null, .null, .int 0])), (a8_5, lp_z cI 1200), (a17_9, lp_z cI 1200)] := hD
  refine va_putF (D := D) (ci := 0) (v := .ref a17_9) (ty := .array .int) (C := RX0) (T := TX0) (N := 5) hx hb T lp_u0 tyX0 tyX0_ok nmX0 hown hWd.1 hP hD hS 0 rfl rfl 1 (by decide) (T (.fieldLink RX0 15 "LoadPress$Contexts" "unlike" "[I") (by decide +kernel)) (fun _ h9 => h9) rfl hin rfl (by decide +kernel) rfl rfl (Nat.le_of_ble_eq_true rfl) dX0_init_19 (fun H locs hP hD hS => ?_)
  have hP : va_P D vwCl [(h0, .inr (0, [.ref a8_5, .ref a17_9, .null, .null, .int 0])), (a8_5, lp_z cI 1200), (a17_9, lp_z cI 1200)] H := hP
  have hD : va_D A [(h0, .inr (0, [.ref a8_5, .ref a17_9, .null, .null, .int 0])), (a8_5, lp_z cI 1200), (a17_9, lp_z cI 1200)] := hD
  refine lv_aload_n hx hb dX0_init_22 rfl (lv_at hl 0 rfl) ?_
  refine lv_bipush (v := 11) hx hb dX0_init_23 (by decide) ?_
  refine lp_newa (N' := 11) hx hb T hWd hP hD hS hA (by decide) (by decide) (by omega) (by rw [hRc]; exact Nat.le_of_ble_eq_true rfl) (by rw [hRs]; exact Nat.le_of_ble_eq_true rfl) dX0_init_25 (fun a25_13 H hP hD hS => ?_)
  refine W.widen (k := 3) (n := 2411) (by omega) (by omega) ?_
  have hP : va_P D vwCl [(h0, .inr (0, [.ref a8_5, .ref a17_9, .null, .null, .int 0])), (a8_5, lp_z cI 1200), (a17_9, lp_z cI 1200), (a25_13, lp_z cI 11)] H := hP
  have hD : va_D A [(h0, .inr (0, [.ref a8_5, .ref a17_9, .null, .null, .int 0])), (a8_5, lp_z cI 1200), (a17_9, lp_z cI 1200), (a25_13, lp_z cI 11)] := hD
  refine va_putF (D := D) (ci := 0) (v := .ref a25_13) (ty := .array .int) (C := RX0) (T := TX0) (N := 5) hx hb T lp_u0 tyX0 tyX0_ok nmX0 hown hWd.1 hP hD hS 0 rfl rfl 2 (by decide) (T (.fieldLink RX0 18 "LoadPress$Contexts" "nextOfOne" "[I") (by decide +kernel)) (fun _ h9 => h9) rfl hin rfl (by decide +kernel) rfl rfl (Nat.le_of_ble_eq_true rfl) dX0_init_27 (fun H locs hP hD hS => ?_)
  have hP : va_P D vwCl [(h0, .inr (0, [.ref a8_5, .ref a17_9, .ref a25_13, .null, .int 0])), (a8_5, lp_z cI 1200), (a17_9, lp_z cI 1200), (a25_13, lp_z cI 11)] H := hP
  have hD : va_D A [(h0, .inr (0, [.ref a8_5, .ref a17_9, .ref a25_13, .null, .int 0])), (a8_5, lp_z cI 1200), (a17_9, lp_z cI 1200), (a25_13, lp_z cI 11)] := hD
  refine lv_aload_n hx hb dX0_init_30 rfl (lv_at hl 0 rfl) ?_
  refine lv_bipush (v := 11) hx hb dX0_init_31 (by decide) ?_
  refine lp_newa (N' := 11) hx hb T hWd hP hD hS hA (by decide) (by decide) (by omega) (by rw [hRc]; exact Nat.le_of_ble_eq_true rfl) (by rw [hRs]; exact Nat.le_of_ble_eq_true rfl) dX0_init_33 (fun a33_17 H hP hD hS => ?_)
  refine W.widen (k := 4) (n := 2422) (by omega) (by omega) ?_
  have hP : va_P D vwCl [(h0, .inr (0, [.ref a8_5, .ref a17_9, .ref a25_13, .null, .int 0])), (a8_5, lp_z cI 1200), (a17_9, lp_z cI 1200), (a25_13, lp_z cI 11), (a33_17, lp_z cI 11)] H := hP
  have hD : va_D A [(h0, .inr (0, [.ref a8_5, .ref a17_9, .ref a25_13, .null, .int 0])), (a8_5, lp_z cI 1200), (a17_9, lp_z cI 1200), (a25_13, lp_z cI 11), (a33_17, lp_z cI 11)] := hD
  refine va_putF (D := D) (ci := 0) (v := .ref a33_17) (ty := .array .int) (C := RX0) (T := TX0) (N := 5) hx hb T lp_u0 tyX0 tyX0_ok nmX0 hown hWd.1 hP hD hS 0 rfl rfl 3 (by decide) (T (.fieldLink RX0 21 "LoadPress$Contexts" "nextOfOther" "[I") (by decide +kernel)) (fun _ h9 => h9) rfl hin rfl (by decide +kernel) rfl rfl (Nat.le_of_ble_eq_true rfl) dX0_init_35 (fun H locs hP hD hS => ?_)
  have hP : va_P D vwCl [(h0, .inr (0, [.ref a8_5, .ref a17_9, .ref a25_13, .ref a33_17, .int 0])), (a8_5, lp_z cI 1200), (a17_9, lp_z cI 1200), (a25_13, lp_z cI 11), (a33_17, lp_z cI 11)] H := hP
  have hD : va_D A [(h0, .inr (0, [.ref a8_5, .ref a17_9, .ref a25_13, .ref a33_17, .int 0])), (a8_5, lp_z cI 1200), (a17_9, lp_z cI 1200), (a25_13, lp_z cI 11), (a33_17, lp_z cI 11)] := hD
  have hP9 := hP.sub (ws' := [(h0, .inr (0, [.ref a8_5, .ref a17_9, .ref a25_13, .ref a33_17, .int 0])), (a8_5, lp_z cI 1200), (a17_9, lp_z cI 1200), (a25_13, lp_z cI 11), (a33_17, lp_z cI 11)]) [0, 1, 2, 3, 4] rfl
  have hD9 := hD.sub (ws' := [(h0, .inr (0, [.ref a8_5, .ref a17_9, .ref a25_13, .ref a33_17, .int 0])), (a8_5, lp_z cI 1200), (a17_9, lp_z cI 1200), (a25_13, lp_z cI 11), (a33_17, lp_z cI 11)]) [0, 1, 2, 3, 4] (by decide) rfl
  exact W.vret hx hb hr (fun t ht hW => ⟨⟨fun k => ([a8_5, a17_9, a25_13, a33_17] : List Nat).getD k 0, rfl, trivial, by rw [ht]; exact hP9, lp_Wd_move hW hWd, hD9⟩, hS.F ht⟩) hS.2.2 dX0_init_38
