/-! ===== constructor of X3 ===== -/
theorem dX3_init_0 : decode cX3_init 0 = .ok (.aload_n 0, 1) := by decide +kernel
theorem dX3_init_1 : decode cX3_init 1 = .ok (.invokespecial 3, 3) := by decide +kernel
theorem dX3_init_4 : decode cX3_init 4 = .ok (.aload_n 0, 1) := by decide +kernel
theorem dX3_init_5 : decode cX3_init 5 = .ok (.new 9, 3) := by decide +kernel
theorem dX3_init_8 : decode cX3_init 8 = .ok (.dup, 1) := by decide +kernel
theorem dX3_init_9 : decode cX3_init 9 = .ok (.invokespecial 11, 3) := by decide +kernel
theorem dX3_init_12 : decode cX3_init 12 = .ok (.putfield 12, 3) := by decide +kernel
theorem dX3_init_15 : decode cX3_init 15 = .ok (.aload_n 0, 1) := by decide +kernel
theorem dX3_init_16 : decode cX3_init 16 = .ok (.sipush 1200, 3) := by decide +kernel
theorem dX3_init_19 : decode cX3_init 19 = .ok (.newarray .int, 2) := by decide +kernel
theorem dX3_init_21 : decode cX3_init 21 = .ok (.putfield 18, 3) := by decide +kernel
theorem dX3_init_24 : decode cX3_init 24 = .ok (.aload_n 0, 1) := by decide +kernel
theorem dX3_init_25 : decode cX3_init 25 = .ok (.sipush 1200, 3) := by decide +kernel
theorem dX3_init_28 : decode cX3_init 28 = .ok (.newarray .int, 2) := by decide +kernel
theorem dX3_init_30 : decode cX3_init 30 = .ok (.putfield 22, 3) := by decide +kernel
theorem dX3_init_33 : decode cX3_init 33 = .ok (.aload_n 0, 1) := by decide +kernel
theorem dX3_init_34 : decode cX3_init 34 = .ok (.sipush 1200, 3) := by decide +kernel
theorem dX3_init_37 : decode cX3_init 37 = .ok (.newarray .int, 2) := by decide +kernel
theorem dX3_init_39 : decode cX3_init 39 = .ok (.putfield 25, 3) := by decide +kernel
theorem dX3_init_42 : decode cX3_init 42 = .ok (.aload_n 0, 1) := by decide +kernel
theorem dX3_init_43 : decode cX3_init 43 = .ok (.sipush 1200, 3) := by decide +kernel
theorem dX3_init_46 : decode cX3_init 46 = .ok (.newarray .int, 2) := by decide +kernel
theorem dX3_init_48 : decode cX3_init 48 = .ok (.putfield 28, 3) := by decide +kernel
theorem dX3_init_51 : decode cX3_init 51 = .ok (.aload_n 0, 1) := by decide +kernel
theorem dX3_init_52 : decode cX3_init 52 = .ok (.bipush 60, 2) := by decide +kernel
theorem dX3_init_54 : decode cX3_init 54 = .ok (.newarray .int, 2) := by decide +kernel
theorem dX3_init_56 : decode cX3_init 56 = .ok (.putfield 31, 3) := by decide +kernel
theorem dX3_init_59 : decode cX3_init 59 = .ok (.aload_n 0, 1) := by decide +kernel
theorem dX3_init_60 : decode cX3_init 60 = .ok (.bipush 60, 2) := by decide +kernel
theorem dX3_init_62 : decode cX3_init 62 = .ok (.newarray .int, 2) := by decide +kernel
theorem dX3_init_64 : decode cX3_init 64 = .ok (.putfield 34, 3) := by decide +kernel
theorem dX3_init_67 : decode cX3_init 67 = .ok (.aload_n 0, 1) := by decide +kernel
theorem dX3_init_68 : decode cX3_init 68 = .ok (.bipush 8, 2) := by decide +kernel
theorem dX3_init_70 : decode cX3_init 70 = .ok (.newarray .int, 2) := by decide +kernel
theorem dX3_init_72 : decode cX3_init 72 = .ok (.putfield 37, 3) := by decide +kernel
theorem dX3_init_75 : decode cX3_init 75 = .ok (.return_, 1) := by decide +kernel
def wX3 (cI cD : ClassId) (h : Nat) (q : Nat → Nat) : va_W := [(h, .inr (3, [.ref (q 0), .ref (q 4), .ref (q 5), .ref (q 6), .ref (q 7), .ref (q 8), .ref (q 9), .ref (q 10), .int 0, .int 0, .int 0, .int 0, .int 0])), (q 0, .inr (4, [.ref (q 1), .ref (q 2), .ref (q 3), .int 0])), (q 1, lp_z cI 1200), (q 2, lp_z cI 1200), (q 3, lp_z cI 61), (q 4, lp_z cI 1200), (q 5, lp_z cI 1200), (q 6, lp_z cI 1200), (q 7, lp_z cI 1200), (q 8, lp_z cI 60), (q 9, lp_z cI 60), (q 10, lp_z cI 8)]
set_option maxHeartbeats 16000000 in
set_option maxRecDepth 100000 in
theorem ci_X3 (l : Launch) (D : va_G) (cI cD : ClassId) (h0 sz : Nat) : Met l yX3_init (.code yX3_init cX3_init 1 none :: lp_tbl) { frames := 2, cells := 11, slots := 7393, locals := 72 } (va_Pc [.ref h0] (fun U => U.heap.size = sz ∧ va_P D vwCl [(h0, .inr (3, [.null, .null, .null, .null, .null, .null, .null, .null, .int 0, .int 0, .int 0, .int 0, .int 0]))] U.heap ∧ lp_Wd D cI cD U ∧ va_D (fun _ => True) [(h0, .inr (3, [.null, .null, .null, .null, .null, .null, .null, .null, .int 0, .int 0, .int 0, .int 0, .int 0]))])) (va_Qv (fun _ : Nat → Nat => True) (fun q t => va_P D vwCl (wX3 cI cD h0 q) t.heap ∧ lp_Wd D cI cD t ∧ va_D (va_A [(h0, .inr (3, [.null, .null, .null, .null, .null, .null, .null, .null, .int 0, .int 0, .int 0, .int 0, .int 0]))] sz) (wX3 cI cD h0 q)) (va_A [(h0, .inr (3, [.null, .null, .null, .null, .null, .null, .null, .null, .int 0, .int 0, .int 0, .int 0, .int 0]))] sz)) 11 (7393) (va_A [(h0, .inr (3, [.null, .null, .null, .null, .null, .null, .null, .null, .int 0, .int 0, .int 0, .int 0, .int 0]))] sz) := by
  refine Met.ofW (cc := cX3_init) (maxL := 1) (ret := none) (by decide) rfl ?_
  intro p e s m args below meth c s₁ B hml hv
  obtain ⟨rfl, hsz, hP, hWd, hD0⟩ := hv
  have hx := B.exec
  have hb := B.bytes
  have hr := B.returns
  have hts := atoms_spec (ws := Cond.code yX3_init cX3_init 1 none :: lp_tbl) B.pre
  have T : ∀ w ∈ lp_tbl, w.before ([.ref h0] : List Value).toArray s = true := fun w hw => hts w (List.mem_cons_of_mem _ hw)
  have hown : s.vm.findClass RX3 = some m.cls := findClass_of_methodNamed B.named
  have hlocks := B.notSynchronized
  have hin : meth.name = "<init>" := (name_of_methodNamed B.named B.method).1
  subst hsz
  have hD := hD0.self (sz := s.heap.size)
  generalize hAe : va_A [(h0, .inr (3, [.null, .null, .null, .null, .null, .null, .null, .null, .int 0, .int 0, .int 0, .int 0, .int 0]))] s.heap.size = A at hD ⊢
  have hA : ∀ q : Nat, s.heap.size ≤ q → A q := fun q h => by rw [← hAe]; exact Or.inr h
  have hS : va_S A s.heap s.heap [] := va_S.rf
  have hl := lv_entry ([.ref h0]) (n := 1) (Nat.le_of_ble_eq_true rfl)
  rw [lg_entry_eq]
  generalize (lg_sl ([.ref h0]) ++ List.replicate (1 - (lg_sl ([.ref h0])).length) Slot.unset).toArray = ls at hl ⊢
  have hl : lv_has ls 1 [(0, .ref h0)] := hl
  have hRf : (headSpec (Cond.code yX3_init cX3_init 1 none :: lp_tbl) { frames := 2, cells := 11, slots := 7393, locals := 72 }).room.frames = 2 := rfl
  have hRl : (headSpec (Cond.code yX3_init cX3_init 1 none :: lp_tbl) { frames := 2, cells := 11, slots := 7393, locals := 72 }).room.locals = 72 := rfl
  have hRc : (headSpec (Cond.code yX3_init cX3_init 1 none :: lp_tbl) { frames := 2, cells := 11, slots := 7393, locals := 72 }).room.cells = 11 := rfl
  have hRs : (headSpec (Cond.code yX3_init cX3_init 1 none :: lp_tbl) { frames := 2, cells := 11, slots := 7393, locals := 72 }).room.slots = 7393 := rfl
  refine lv_aload_n hx hb dX3_init_0 rfl (lv_at hl 0 rfl) ?_
  refine W.objInit hx hb hown (T (.methodLink RX3 3 objectInit) (by decide +kernel)) (T (.instanceMethod objectInit) (by decide +kernel)) (T (.code objectInit ⟨#[0xb1]⟩ 1 none) (by decide +kernel)) rfl (by rw [hml]; exact hl.1) rfl dX3_init_1 (Nat.le_of_ble_eq_true rfl) (Nat.le_of_ble_eq_true rfl) ?_
  refine W.eq (g2 := F0 m 4 ls []) rfl ?_
  refine lv_aload_n hx hb dX3_init_4 rfl (lv_at hl 0 rfl) ?_
  refine va_new (ci := 4) (fs := [.null, .null, .null, .int 0]) (C := RX4) (T := TX4) (N := 4) hx hb T lp_u4 tyX4 tyX4_ok hown (T (.classLink RX3 9 RX4) (by decide +kernel)) (T (.instantiable RX4 4) (by decide +kernel)) (T (.initialized RX4) (by decide +kernel)) hWd.1 hP hD hS hA rfl (fun j hj => by rcases (show j = 0 ∨ j = 1 ∨ j = 2 ∨ j = 3 by omega) with rfl | rfl | rfl | rfl <;> rfl) (by rw [hRc]; exact Nat.le_of_ble_eq_true rfl) (by rw [hRs]; exact Nat.le_of_ble_eq_true rfl) dX3_init_5 (fun a5_4 H hP hD hS => ?_)
  refine W.widen (k := 1) (n := 4) (by omega) (by omega) ?_
  have hP : va_P D vwCl [(h0, .inr (3, [.null, .null, .null, .null, .null, .null, .null, .null, .int 0, .int 0, .int 0, .int 0, .int 0])), (a5_4, .inr (4, [.null, .null, .null, .int 0]))] H := hP
  have hD : va_D A [(h0, .inr (3, [.null, .null, .null, .null, .null, .null, .null, .null, .int 0, .int 0, .int 0, .int 0, .int 0])), (a5_4, .inr (4, [.null, .null, .null, .int 0]))] := hD
  refine lv_dup hx hb dX3_init_8 rfl ?_
  have hPc := hP.sub (ws' := [(a5_4, .inr (4, [.null, .null, .null, .int 0]))]) [1] rfl
  have hDc := hD.sub (ws' := [(a5_4, .inr (4, [.null, .null, .null, .int 0]))]) [1] (by decide) rfl
  have hFc := va_free (wc := [(a5_4, .inr (4, [.null, .null, .null, .int 0]))]) hD hS hA [1] rfl
  refine va_callv (va_runIN (As := []) (rest := [.ref a5_4, .ref h0]) ⟨hx, hb, hml, hown, hts⟩ (ci_X4 l D cI cD a5_4 H.size) (⟨va_cnB 0 hts (lp_good (w0 := Cond.code yX3_init cX3_init 1 none) (y := yX4_init) (bytes := cX4_init) (nL := 1) (ret := none) (by decide +kernel)) rfl rfl rfl (hWd.2 (.methodLinkNest RX3 11 yX4_init "LoadPress") (by decide +kernel)) (T (.initialized RX4) (by decide +kernel)) ⟨by decide +kernel, by decide +kernel, by decide +kernel⟩ ⟨by rw [hRf]; exact Nat.le_of_ble_eq_true rfl, by rw [hRl]; exact Nat.le_of_ble_eq_true rfl⟩, rfl, T (.instanceMethod yX4_init) (by decide +kernel)⟩) ⟨fun a U g mk q => by obtain ⟨q0, q1, qP, qW, qD⟩ := q; exact ⟨q0, q1, qP, lp_Wd_call qW, qD⟩, fun U hU hW => ⟨rfl, by rw [hU], by rw [hU]; exact hPc, lp_Wd_move hW hWd, hDc.weaken (fun _ _ _ _ => trivial)⟩⟩ rfl rfl hl.1 rfl (lv_room (Nat.le_of_ble_eq_true rfl)) dX3_init_9 ⟨by rw [hRc]; exact Nat.le_of_ble_eq_true rfl, by rw [hRs]; exact Nat.le_of_ble_eq_true rfl⟩) hS (fun q _ h => hFc q h) hFc (fun Q0 t H1 locs ht hvm hw hB hz1 hk1 hS => ?_)
  obtain ⟨hP1, hW1, hD1⟩ := hB
  rw [ht] at hP1
  unfold wX4 at hP1 hD1
  obtain ⟨hP, hD⟩ := va_join (wr := [(h0, .inr (3, [.null, .null, .null, .null, .null, .null, .null, .null, .int 0, .int 0, .int 0, .int 0, .int 0]))]) (w1 := [(a5_4, .inr (4, [.ref (Q0 0), .ref (Q0 1), .ref (Q0 2), .int 0])), ((Q0 0), lp_z cI 1200), ((Q0 1), lp_z cI 1200), ((Q0 2), lp_z cI 61)]) hP hD [1] [0] rfl rfl (by decide) (by decide) hk1 hFc hP1 hD1
  generalize H1 = H at hP hS ⊢
  refine W.widen (k := 4) (n := 2465) (by omega) (by omega) ?_
  have hP : va_P D vwCl [(h0, .inr (3, [.null, .null, .null, .null, .null, .null, .null, .null, .int 0, .int 0, .int 0, .int 0, .int 0])), (a5_4, .inr (4, [.ref (Q0 0), .ref (Q0 1), .ref (Q0 2), .int 0])), ((Q0 0), lp_z cI 1200), ((Q0 1), lp_z cI 1200), ((Q0 2), lp_z cI 61)] H := hP
  have hD : va_D A [(h0, .inr (3, [.null, .null, .null, .null, .null, .null, .null, .null, .int 0, .int 0, .int 0, .int 0, .int 0])), (a5_4, .inr (4, [.ref (Q0 0), .ref (Q0 1), .ref (Q0 2), .int 0])), ((Q0 0), lp_z cI 1200), ((Q0 1), lp_z cI 1200), ((Q0 2), lp_z cI 61)] := hD
  refine va_putF (D := D) (ci := 3) (v := .ref a5_4) (ty := .object "LoadPress$Visits") (C := RX3) (T := TX3) (N := 13) hx hb T lp_u3 tyX3 tyX3_ok nmX3 hown hWd.1 hP hD hS 0 rfl rfl 0 (by decide) (T (.fieldLink RX3 12 "LoadPress$Press" "walks" "LLoadPress$Visits;") (by decide +kernel)) (fun _ h9 => h9) rfl hin rfl (by decide +kernel) rfl rfl (Nat.le_of_ble_eq_true rfl) dX3_init_12 (fun H locs hP hD hS => ?_)
  have hP : va_P D vwCl [(h0, .inr (3, [.ref a5_4, .null, .null, .null, .null, .null, .null, .null, .int 0, .int 0, .int 0, .int 0, .int 0])), (a5_4, .inr (4, [.ref (Q0 0), .ref (Q0 1), .ref (Q0 2), .int 0])), ((Q0 0), lp_z cI 1200), ((Q0 1), lp_z cI 1200), ((Q0 2), lp_z cI 61)] H := hP
  have hD : va_D A [(h0, .inr (3, [.ref a5_4, .null, .null, .null, .null, .null, .null, .null, .int 0, .int 0, .int 0, .int 0, .int 0])), (a5_4, .inr (4, [.ref (Q0 0), .ref (Q0 1), .ref (Q0 2), .int 0])), ((Q0 0), lp_z cI 1200), ((Q0 1), lp_z cI 1200), ((Q0 2), lp_z cI 61)] := hD
  refine lv_aload_n hx hb dX3_init_15 rfl (lv_at hl 0 rfl) ?_
  refine lv_sipush (v := 1200) hx hb dX3_init_16 (by decide) ?_
  refine lp_newa (N' := 1200) hx hb T hWd hP hD hS hA (by decide) (by decide) (by omega) (by rw [hRc]; exact Nat.le_of_ble_eq_true rfl) (by rw [hRs]; exact Nat.le_of_ble_eq_true rfl) dX3_init_19 (fun a19_10 H hP hD hS => ?_)
  refine W.widen (k := 5) (n := 3665) (by omega) (by omega) ?_
  have hP : va_P D vwCl [(h0, .inr (3, [.ref a5_4, .null, .null, .null, .null, .null, .null, .null, .int 0, .int 0, .int 0, .int 0, .int 0])), (a5_4, .inr (4, [.ref (Q0 0), .ref (Q0 1), .ref (Q0 2), .int 0])), ((Q0 0), lp_z cI 1200), ((Q0 1), lp_z cI 1200), ((Q0 2), lp_z cI 61), (a19_10, lp_z cI 1200)] H := hP
  have hD : va_D A [(h0, .inr (3, [.ref a5_4, .null, .null, .null, .null, .null, .null, .null, .int 0, .int 0, .int 0, .int 0, .int 0])), (a5_4, .inr (4, [.ref (Q0 0), .ref (Q0 1), .ref (Q0 2), .int 0])), ((Q0 0), lp_z cI 1200), ((Q0 1), lp_z cI 1200), ((Q0 2), lp_z cI 61), (a19_10, lp_z cI 1200)] := hD
  refine va_putF (D := D) (ci := 3) (v := .ref a19_10) (ty := .array .int) (C := RX3) (T := TX3) (N := 13) hx hb T lp_u3 tyX3 tyX3_ok nmX3 hown hWd.1 hP hD hS 0 rfl rfl 1 (by decide) (T (.fieldLink RX3 18 "LoadPress$Press" "due" "[I") (by decide +kernel)) (fun _ h9 => h9) rfl hin rfl (by decide +kernel) rfl rfl (Nat.le_of_ble_eq_true rfl) dX3_init_21 (fun H locs hP hD hS => ?_)
  have hP : va_P D vwCl [(h0, .inr (3, [.ref a5_4, .ref a19_10, .null, .null, .null, .null, .null, .null, .int 0, .int 0, .int 0, .int 0, .int 0])), (a5_4, .inr (4, [.ref (Q0 0), .ref (Q0 1), .ref (Q0 2), .int 0])), ((Q0 0), lp_z cI 1200), ((Q0 1), lp_z cI 1200), ((Q0 2), lp_z cI 61), (a19_10, lp_z cI 1200)] H := hP
  have hD : va_D A [(h0, .inr (3, [.ref a5_4, .ref a19_10, .null, .null, .null, .null, .null, .null, .int 0, .int 0, .int 0, .int 0, .int 0])), (a5_4, .inr (4, [.ref (Q0 0), .ref (Q0 1), .ref (Q0 2), .int 0])), ((Q0 0), lp_z cI 1200), ((Q0 1), lp_z cI 1200), ((Q0 2), lp_z cI 61), (a19_10, lp_z cI 1200)] := hD
  refine lv_aload_n hx hb dX3_init_24 rfl (lv_at hl 0 rfl) ?_
  refine lv_sipush (v := 1200) hx hb dX3_init_25 (by decide) ?_
  refine lp_newa (N' := 1200) hx hb T hWd hP hD hS hA (by decide) (by decide) (by omega) (by rw [hRc]; exact Nat.le_of_ble_eq_true rfl) (by rw [hRs]; exact Nat.le_of_ble_eq_true rfl) dX3_init_28 (fun a28_14 H hP hD hS => ?_)
  refine W.widen (k := 6) (n := 4865) (by omega) (by omega) ?_
  have hP : va_P D vwCl [(h0, .inr (3, [.ref a5_4, .ref a19_10, .null, .null, .null, .null, .null, .null, .int 0, .int 0, .int 0, .int 0, .int 0])), (a5_4, .inr (4, [.ref (Q0 0), .ref (Q0 1), .ref (Q0 2), .int 0])), ((Q0 0), lp_z cI 1200), ((Q0 1), lp_z cI 1200), ((Q0 2), lp_z cI 61), (a19_10, lp_z cI 1200), (a28_14, lp_z cI 1200)] H := hP
  have hD : va_D A [(h0, .inr (3, [.ref a5_4, .ref a19_10, .null, .null, .null, .null, .null, .null, .int 0, .int 0, .int 0, .int 0, .int 0])), (a5_4, .inr (4, [.ref (Q0 0), .ref (Q0 1), .ref (Q0 2), .int 0])), ((Q0 0), lp_z cI 1200), ((Q0 1), lp_z cI 1200), ((Q0 2), lp_z cI 61), (a19_10, lp_z cI 1200), (a28_14, lp_z cI 1200)] := hD
  refine va_putF (D := D) (ci := 3) (v := .ref a28_14) (ty := .array .int) (C := RX3) (T := TX3) (N := 13) hx hb T lp_u3 tyX3 tyX3_ok nmX3 hown hWd.1 hP hD hS 0 rfl rfl 2 (by decide) (T (.fieldLink RX3 22 "LoadPress$Press" "begun" "[I") (by decide +kernel)) (fun _ h9 => h9) rfl hin rfl (by decide +kernel) rfl rfl (Nat.le_of_ble_eq_true rfl) dX3_init_30 (fun H locs hP hD hS => ?_)
  have hP : va_P D vwCl [(h0, .inr (3, [.ref a5_4, .ref a19_10, .ref a28_14, .null, .null, .null, .null, .null, .int 0, .int 0, .int 0, .int 0, .int 0])), (a5_4, .inr (4, [.ref (Q0 0), .ref (Q0 1), .ref (Q0 2), .int 0])), ((Q0 0), lp_z cI 1200), ((Q0 1), lp_z cI 1200), ((Q0 2), lp_z cI 61), (a19_10, lp_z cI 1200), (a28_14, lp_z cI 1200)] H := hP
  have hD : va_D A [(h0, .inr (3, [.ref a5_4, .ref a19_10, .ref a28_14, .null, .null, .null, .null, .null, .int 0, .int 0, .int 0, .int 0, .int 0])), (a5_4, .inr (4, [.ref (Q0 0), .ref (Q0 1), .ref (Q0 2), .int 0])), ((Q0 0), lp_z cI 1200), ((Q0 1), lp_z cI 1200), ((Q0 2), lp_z cI 61), (a19_10, lp_z cI 1200), (a28_14, lp_z cI 1200)] := hD
  refine lv_aload_n hx hb dX3_init_33 rfl (lv_at hl 0 rfl) ?_
  refine lv_sipush (v := 1200) hx hb dX3_init_34 (by decide) ?_
  refine lp_newa (N' := 1200) hx hb T hWd hP hD hS hA (by decide) (by decide) (by omega) (by rw [hRc]; exact Nat.le_of_ble_eq_true rfl) (by rw [hRs]; exact Nat.le_of_ble_eq_true rfl) dX3_init_37 (fun a37_18 H hP hD hS => ?_)
  refine W.widen (k := 7) (n := 6065) (by omega) (by omega) ?_
  have hP : va_P D vwCl [(h0, .inr (3, [.ref a5_4, .ref a19_10, .ref a28_14, .null, .null, .null, .null, .null, .int 0, .int 0, .int 0, .int 0, .int 0])), (a5_4, .inr (4, [.ref (Q0 0), .ref (Q0 1), .ref (Q0 2), .int 0])), ((Q0 0), lp_z cI 1200), ((Q0 1), lp_z cI 1200), ((Q0 2), lp_z cI 61), (a19_10, lp_z cI 1200), (a28_14, lp_z cI 1200), (a37_18, lp_z cI 1200)] H := hP
  have hD : va_D A [(h0, .inr (3, [.ref a5_4, .ref a19_10, .ref a28_14, .null, .null, .null, .null, .null, .int 0, .int 0, .int 0, .int 0, .int 0])), (a5_4, .inr (4, [.ref (Q0 0), .ref (Q0 1), .ref (Q0 2), .int 0])), ((Q0 0), lp_z cI 1200), ((Q0 1), lp_z cI 1200), ((Q0 2), lp_z cI 61), (a19_10, lp_z cI 1200), (a28_14, lp_z cI 1200), (a37_18, lp_z cI 1200)] := hD
  refine va_putF (D := D) (ci := 3) (v := .ref a37_18) (ty := .array .int) (C := RX3) (T := TX3) (N := 13) hx hb T lp_u3 tyX3 tyX3_ok nmX3 hown hWd.1 hP hD hS 0 rfl rfl 3 (by decide) (T (.fieldLink RX3 25 "LoadPress$Press" "ended" "[I") (by decide +kernel)) (fun _ h9 => h9) rfl hin rfl (by decide +kernel) rfl rfl (Nat.le_of_ble_eq_true rfl) dX3_init_39 (fun H locs hP hD hS => ?_)
  have hP : va_P D vwCl [(h0, .inr (3, [.ref a5_4, .ref a19_10, .ref a28_14, .ref a37_18, .null, .null, .null, .null, .int 0, .int 0, .int 0, .int 0, .int 0])), (a5_4, .inr (4, [.ref (Q0 0), .ref (Q0 1), .ref (Q0 2), .int 0])), ((Q0 0), lp_z cI 1200), ((Q0 1), lp_z cI 1200), ((Q0 2), lp_z cI 61), (a19_10, lp_z cI 1200), (a28_14, lp_z cI 1200), (a37_18, lp_z cI 1200)] H := hP
  have hD : va_D A [(h0, .inr (3, [.ref a5_4, .ref a19_10, .ref a28_14, .ref a37_18, .null, .null, .null, .null, .int 0, .int 0, .int 0, .int 0, .int 0])), (a5_4, .inr (4, [.ref (Q0 0), .ref (Q0 1), .ref (Q0 2), .int 0])), ((Q0 0), lp_z cI 1200), ((Q0 1), lp_z cI 1200), ((Q0 2), lp_z cI 61), (a19_10, lp_z cI 1200), (a28_14, lp_z cI 1200), (a37_18, lp_z cI 1200)] := hD
  refine lv_aload_n hx hb dX3_init_42 rfl (lv_at hl 0 rfl) ?_
  refine lv_sipush (v := 1200) hx hb dX3_init_43 (by decide) ?_
  refine lp_newa (N' := 1200) hx hb T hWd hP hD hS hA (by decide) (by decide) (by omega) (by rw [hRc]; exact Nat.le_of_ble_eq_true rfl) (by rw [hRs]; exact Nat.le_of_ble_eq_true rfl) dX3_init_46 (fun a46_22 H hP hD hS => ?_)
  refine W.widen (k := 8) (n := 7265) (by omega) (by omega) ?_
  have hP : va_P D vwCl [(h0, .inr (3, [.ref a5_4, .ref a19_10, .ref a28_14, .ref a37_18, .null, .null, .null, .null, .int 0, .int 0, .int 0, .int 0, .int 0])), (a5_4, .inr (4, [.ref (Q0 0), .ref (Q0 1), .ref (Q0 2), .int 0])), ((Q0 0), lp_z cI 1200), ((Q0 1), lp_z cI 1200), ((Q0 2), lp_z cI 61), (a19_10, lp_z cI 1200), (a28_14, lp_z cI 1200), (a37_18, lp_z cI 1200), (a46_22, lp_z cI 1200)] H := hP
  have hD : va_D A [(h0, .inr (3, [.ref a5_4, .ref a19_10, .ref a28_14, .ref a37_18, .null, .null, .null, .null, .int 0, .int 0, .int 0, .int 0, .int 0])), (a5_4, .inr (4, [.ref (Q0 0), .ref (Q0 1), .ref (Q0 2), .int 0])), ((Q0 0), lp_z cI 1200), ((Q0 1), lp_z cI 1200), ((Q0 2), lp_z cI 61), (a19_10, lp_z cI 1200), (a28_14, lp_z cI 1200), (a37_18, lp_z cI 1200), (a46_22, lp_z cI 1200)] := hD
  refine va_putF (D := D) (ci := 3) (v := .ref a46_22) (ty := .array .int) (C := RX3) (T := TX3) (N := 13) hx hb T lp_u3 tyX3 tyX3_ok nmX3 hown hWd.1 hP hD hS 0 rfl rfl 4 (by decide) (T (.fieldLink RX3 28 "LoadPress$Press" "server" "[I") (by decide +kernel)) (fun _ h9 => h9) rfl hin rfl (by decide +kernel) rfl rfl (Nat.le_of_ble_eq_true rfl) dX3_init_48 (fun H locs hP hD hS => ?_)
  have hP : va_P D vwCl [(h0, .inr (3, [.ref a5_4, .ref a19_10, .ref a28_14, .ref a37_18, .ref a46_22, .null, .null, .null, .int 0, .int 0, .int 0, .int 0, .int 0])), (a5_4, .inr (4, [.ref (Q0 0), .ref (Q0 1), .ref (Q0 2), .int 0])), ((Q0 0), lp_z cI 1200), ((Q0 1), lp_z cI 1200), ((Q0 2), lp_z cI 61), (a19_10, lp_z cI 1200), (a28_14, lp_z cI 1200), (a37_18, lp_z cI 1200), (a46_22, lp_z cI 1200)] H := hP
  have hD : va_D A [(h0, .inr (3, [.ref a5_4, .ref a19_10, .ref a28_14, .ref a37_18, .ref a46_22, .null, .null, .null, .int 0, .int 0, .int 0, .int 0, .int 0])), (a5_4, .inr (4, [.ref (Q0 0), .ref (Q0 1), .ref (Q0 2), .int 0])), ((Q0 0), lp_z cI 1200), ((Q0 1), lp_z cI 1200), ((Q0 2), lp_z cI 61), (a19_10, lp_z cI 1200), (a28_14, lp_z cI 1200), (a37_18, lp_z cI 1200), (a46_22, lp_z cI 1200)] := hD
  refine lv_aload_n hx hb dX3_init_51 rfl (lv_at hl 0 rfl) ?_
  refine lv_bipush (v := 60) hx hb dX3_init_52 (by decide) ?_
  refine lp_newa (N' := 60) hx hb T hWd hP hD hS hA (by decide) (by decide) (by omega) (by rw [hRc]; exact Nat.le_of_ble_eq_true rfl) (by rw [hRs]; exact Nat.le_of_ble_eq_true rfl) dX3_init_54 (fun a54_26 H hP hD hS => ?_)
  refine W.widen (k := 9) (n := 7325) (by omega) (by omega) ?_
  have hP : va_P D vwCl [(h0, .inr (3, [.ref a5_4, .ref a19_10, .ref a28_14, .ref a37_18, .ref a46_22, .null, .null, .null, .int 0, .int 0, .int 0, .int 0, .int 0])), (a5_4, .inr (4, [.ref (Q0 0), .ref (Q0 1), .ref (Q0 2), .int 0])), ((Q0 0), lp_z cI 1200), ((Q0 1), lp_z cI 1200), ((Q0 2), lp_z cI 61), (a19_10, lp_z cI 1200), (a28_14, lp_z cI 1200), (a37_18, lp_z cI 1200), (a46_22, lp_z cI 1200), (a54_26, lp_z cI 60)] H := hP
  have hD : va_D A [(h0, .inr (3, [.ref a5_4, .ref a19_10, .ref a28_14, .ref a37_18, .ref a46_22, .null, .null, .null, .int 0, .int 0, .int 0, .int 0, .int 0])), (a5_4, .inr (4, [.ref (Q0 0), .ref (Q0 1), .ref (Q0 2), .int 0])), ((Q0 0), lp_z cI 1200), ((Q0 1), lp_z cI 1200), ((Q0 2), lp_z cI 61), (a19_10, lp_z cI 1200), (a28_14, lp_z cI 1200), (a37_18, lp_z cI 1200), (a46_22, lp_z cI 1200), (a54_26, lp_z cI 60)] := hD
  refine va_putF (D := D) (ci := 3) (v := .ref a54_26) (ty := .array .int) (C := RX3) (T := TX3) (N := 13) hx hb T lp_u3 tyX3 tyX3_ok nmX3 hown hWd.1 hP hD hS 0 rfl rfl 5 (by decide) (T (.fieldLink RX3 31 "LoadPress$Press" "nextSlot" "[I") (by decide +kernel)) (fun _ h9 => h9) rfl hin rfl (by decide +kernel) rfl rfl (Nat.le_of_ble_eq_true rfl) dX3_init_56 (fun H locs hP hD hS => ?_)
  have hP : va_P D vwCl [(h0, .inr (3, [.ref a5_4, .ref a19_10, .ref a28_14, .ref a37_18, .ref a46_22, .ref a54_26, .null, .null, .int 0, .int 0, .int 0, .int 0, .int 0])), (a5_4, .inr (4, [.ref (Q0 0), .ref (Q0 1), .ref (Q0 2), .int 0])), ((Q0 0), lp_z cI 1200), ((Q0 1), lp_z cI 1200), ((Q0 2), lp_z cI 61), (a19_10, lp_z cI 1200), (a28_14, lp_z cI 1200), (a37_18, lp_z cI 1200), (a46_22, lp_z cI 1200), (a54_26, lp_z cI 60)] H := hP
  have hD : va_D A [(h0, .inr (3, [.ref a5_4, .ref a19_10, .ref a28_14, .ref a37_18, .ref a46_22, .ref a54_26, .null, .null, .int 0, .int 0, .int 0, .int 0, .int 0])), (a5_4, .inr (4, [.ref (Q0 0), .ref (Q0 1), .ref (Q0 2), .int 0])), ((Q0 0), lp_z cI 1200), ((Q0 1), lp_z cI 1200), ((Q0 2), lp_z cI 61), (a19_10, lp_z cI 1200), (a28_14, lp_z cI 1200), (a37_18, lp_z cI 1200), (a46_22, lp_z cI 1200), (a54_26, lp_z cI 60)] := hD
  refine lv_aload_n hx hb dX3_init_59 rfl (lv_at hl 0 rfl) ?_
  refine lv_bipush (v := 60) hx hb dX3_init_60 (by decide) ?_
  refine lp_newa (N' := 60) hx hb T hWd hP hD hS hA (by decide) (by decide) (by omega) (by rw [hRc]; exact Nat.le_of_ble_eq_true rfl) (by rw [hRs]; exact Nat.le_of_ble_eq_true rfl) dX3_init_62 (fun a62_30 H hP hD hS => ?_)
  refine W.widen (k := 10) (n := 7385) (by omega) (by omega) ?_
  have hP : va_P D vwCl [(h0, .inr (3, [.ref a5_4, .ref a19_10, .ref a28_14, .ref a37_18, .ref a46_22, .ref a54_26, .null, .null, .int 0, .int 0, .int 0, .int 0, .int 0])), (a5_4, .inr (4, [.ref (Q0 0), .ref (Q0 1), .ref (Q0 2), .int 0])), ((Q0 0), lp_z cI 1200), ((Q0 1), lp_z cI 1200), ((Q0 2), lp_z cI 61), (a19_10, lp_z cI 1200), (a28_14, lp_z cI 1200), (a37_18, lp_z cI 1200), (a46_22, lp_z cI 1200), (a54_26, lp_z cI 60), (a62_30, lp_z cI 60)] H := hP
  have hD : va_D A [(h0, .inr (3, [.ref a5_4, .ref a19_10, .ref a28_14, .ref a37_18, .ref a46_22, .ref a54_26, .null, .null, .int 0, .int 0, .int 0, .int 0, .int 0])), (a5_4, .inr (4, [.ref (Q0 0), .ref (Q0 1), .ref (Q0 2), .int 0])), ((Q0 0), lp_z cI 1200), ((Q0 1), lp_z cI 1200), ((Q0 2), lp_z cI 61), (a19_10, lp_z cI 1200), (a28_14, lp_z cI 1200), (a37_18, lp_z cI 1200), (a46_22, lp_z cI 1200), (a54_26, lp_z cI 60), (a62_30, lp_z cI 60)] := hD
  refine va_putF (D := D) (ci := 3) (v := .ref a62_30) (ty := .array .int) (C := RX3) (T := TX3) (N := 13) hx hb T lp_u3 tyX3 tyX3_ok nmX3 hown hWd.1 hP hD hS 0 rfl rfl 6 (by decide) (T (.fieldLink RX3 34 "LoadPress$Press" "nextDue" "[I") (by decide +kernel)) (fun _ h9 => h9) rfl hin rfl (by decide +kernel) rfl rfl (Nat.le_of_ble_eq_true rfl) dX3_init_64 (fun H locs hP hD hS => ?_)
  have hP : va_P D vwCl [(h0, .inr (3, [.ref a5_4, .ref a19_10, .ref a28_14, .ref a37_18, .ref a46_22, .ref a54_26, .ref a62_30, .null, .int 0, .int 0, .int 0, .int 0, .int 0])), (a5_4, .inr (4, [.ref (Q0 0), .ref (Q0 1), .ref (Q0 2), .int 0])), ((Q0 0), lp_z cI 1200), ((Q0 1), lp_z cI 1200), ((Q0 2), lp_z cI 61), (a19_10, lp_z cI 1200), (a28_14, lp_z cI 1200), (a37_18, lp_z cI 1200), (a46_22, lp_z cI 1200), (a54_26, lp_z cI 60), (a62_30, lp_z cI 60)] H := hP
  have hD : va_D A [(h0, .inr (3, [.ref a5_4, .ref a19_10, .ref a28_14, .ref a37_18, .ref a46_22, .ref a54_26, .ref a62_30, .null, .int 0, .int 0, .int 0, .int 0, .int 0])), (a5_4, .inr (4, [.ref (Q0 0), .ref (Q0 1), .ref (Q0 2), .int 0])), ((Q0 0), lp_z cI 1200), ((Q0 1), lp_z cI 1200), ((Q0 2), lp_z cI 61), (a19_10, lp_z cI 1200), (a28_14, lp_z cI 1200), (a37_18, lp_z cI 1200), (a46_22, lp_z cI 1200), (a54_26, lp_z cI 60), (a62_30, lp_z cI 60)] := hD
  refine lv_aload_n hx hb dX3_init_67 rfl (lv_at hl 0 rfl) ?_
  refine lv_bipush (v := 8) hx hb dX3_init_68 (by decide) ?_
  refine lp_newa (N' := 8) hx hb T hWd hP hD hS hA (by decide) (by decide) (by omega) (by rw [hRc]; exact Nat.le_of_ble_eq_true rfl) (by rw [hRs]; exact Nat.le_of_ble_eq_true rfl) dX3_init_70 (fun a70_34 H hP hD hS => ?_)
  refine W.widen (k := 11) (n := 7393) (by omega) (by omega) ?_
  have hP : va_P D vwCl [(h0, .inr (3, [.ref a5_4, .ref a19_10, .ref a28_14, .ref a37_18, .ref a46_22, .ref a54_26, .ref a62_30, .null, .int 0, .int 0, .int 0, .int 0, .int 0])), (a5_4, .inr (4, [.ref (Q0 0), .ref (Q0 1), .ref (Q0 2), .int 0])), ((Q0 0), lp_z cI 1200), ((Q0 1), lp_z cI 1200), ((Q0 2), lp_z cI 61), (a19_10, lp_z cI 1200), (a28_14, lp_z cI 1200), (a37_18, lp_z cI 1200), (a46_22, lp_z cI 1200), (a54_26, lp_z cI 60), (a62_30, lp_z cI 60), (a70_34, lp_z cI 8)] H := hP
  have hD : va_D A [(h0, .inr (3, [.ref a5_4, .ref a19_10, .ref a28_14, .ref a37_18, .ref a46_22, .ref a54_26, .ref a62_30, .null, .int 0, .int 0, .int 0, .int 0, .int 0])), (a5_4, .inr (4, [.ref (Q0 0), .ref (Q0 1), .ref (Q0 2), .int 0])), ((Q0 0), lp_z cI 1200), ((Q0 1), lp_z cI 1200), ((Q0 2), lp_z cI 61), (a19_10, lp_z cI 1200), (a28_14, lp_z cI 1200), (a37_18, lp_z cI 1200), (a46_22, lp_z cI 1200), (a54_26, lp_z cI 60), (a62_30, lp_z cI 60), (a70_34, lp_z cI 8)] := hD
  refine va_putF (D := D) (ci := 3) (v := .ref a70_34) (ty := .array .int) (C := RX3) (T := TX3) (N := 13) hx hb T lp_u3 tyX3 tyX3_ok nmX3 hown hWd.1 hP hD hS 0 rfl rfl 7 (by decide) (T (.fieldLink RX3 37 "LoadPress$Press" "freeAt" "[I") (by decide +kernel)) (fun _ h9 => h9) rfl hin rfl (by decide +kernel) rfl rfl (Nat.le_of_ble_eq_true rfl) dX3_init_72 (fun H locs hP hD hS => ?_)
  have hP : va_P D vwCl [(h0, .inr (3, [.ref a5_4, .ref a19_10, .ref a28_14, .ref a37_18, .ref a46_22, .ref a54_26, .ref a62_30, .ref a70_34, .int 0, .int 0, .int 0, .int 0, .int 0])), (a5_4, .inr (4, [.ref (Q0 0), .ref (Q0 1), .ref (Q0 2), .int 0])), ((Q0 0), lp_z cI 1200), ((Q0 1), lp_z cI 1200), ((Q0 2), lp_z cI 61), (a19_10, lp_z cI 1200), (a28_14, lp_z cI 1200), (a37_18, lp_z cI 1200), (a46_22, lp_z cI 1200), (a54_26, lp_z cI 60), (a62_30, lp_z cI 60), (a70_34, lp_z cI 8)] H := hP
  have hD : va_D A [(h0, .inr (3, [.ref a5_4, .ref a19_10, .ref a28_14, .ref a37_18, .ref a46_22, .ref a54_26, .ref a62_30, .ref a70_34, .int 0, .int 0, .int 0, .int 0, .int 0])), (a5_4, .inr (4, [.ref (Q0 0), .ref (Q0 1), .ref (Q0 2), .int 0])), ((Q0 0), lp_z cI 1200), ((Q0 1), lp_z cI 1200), ((Q0 2), lp_z cI 61), (a19_10, lp_z cI 1200), (a28_14, lp_z cI 1200), (a37_18, lp_z cI 1200), (a46_22, lp_z cI 1200), (a54_26, lp_z cI 60), (a62_30, lp_z cI 60), (a70_34, lp_z cI 8)] := hD
  have hP9 := hP.sub (ws' := [(h0, .inr (3, [.ref a5_4, .ref a19_10, .ref a28_14, .ref a37_18, .ref a46_22, .ref a54_26, .ref a62_30, .ref a70_34, .int 0, .int 0, .int 0, .int 0, .int 0])), (a5_4, .inr (4, [.ref (Q0 0), .ref (Q0 1), .ref (Q0 2), .int 0])), ((Q0 0), lp_z cI 1200), ((Q0 1), lp_z cI 1200), ((Q0 2), lp_z cI 61), (a19_10, lp_z cI 1200), (a28_14, lp_z cI 1200), (a37_18, lp_z cI 1200), (a46_22, lp_z cI 1200), (a54_26, lp_z cI 60), (a62_30, lp_z cI 60), (a70_34, lp_z cI 8)]) [0, 1, 2, 3, 4, 5, 6, 7, 8, 9, 10, 11] rfl
  have hD9 := hD.sub (ws' := [(h0, .inr (3, [.ref a5_4, .ref a19_10, .ref a28_14, .ref a37_18, .ref a46_22, .ref a54_26, .ref a62_30, .ref a70_34, .int 0, .int 0, .int 0, .int 0, .int 0])), (a5_4, .inr (4, [.ref (Q0 0), .ref (Q0 1), .ref (Q0 2), .int 0])), ((Q0 0), lp_z cI 1200), ((Q0 1), lp_z cI 1200), ((Q0 2), lp_z cI 61), (a19_10, lp_z cI 1200), (a28_14, lp_z cI 1200), (a37_18, lp_z cI 1200), (a46_22, lp_z cI 1200), (a54_26, lp_z cI 60), (a62_30, lp_z cI 60), (a70_34, lp_z cI 8)]) [0, 1, 2, 3, 4, 5, 6, 7, 8, 9, 10, 11] (by decide) rfl
  exact W.vret hx hb hr (fun t ht hW => ⟨⟨fun k => ([a5_4, (Q0 0), (Q0 1), (Q0 2), a19_10, a28_14, a37_18, a46_22, a54_26, a62_30, a70_34] : List Nat).getD k 0, rfl, trivial, by rw [ht]; exact hP9, lp_Wd_move hW hWd, hD9⟩, hS.F ht⟩) hS.2.2 dX3_init_75
