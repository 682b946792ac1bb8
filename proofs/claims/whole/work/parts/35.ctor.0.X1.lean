/-! ===== constructor of X1 ===== -/
theorem dX1_init_0 : decode cX1_init 0 = .ok (.aload_n 0, 1) := by decide +kernel
theorem dX1_init_1 : decode cX1_init 1 = .ok (.invokespecial 3, 3) := by decide +kernel
theorem dX1_init_4 : decode cX1_init 4 = .ok (.iload_n 1, 1) := by decide +kernel
theorem dX1_init_5 : decode cX1_init 5 = .ok (.iconst 0, 1) := by decide +kernel
theorem dX1_init_6 : decode cX1_init 6 = .ok (.invokestatic 9, 3) := by decide +kernel
theorem dX1_init_9 : decode cX1_init 9 = .ok (.istore_n 2, 1) := by decide +kernel
theorem dX1_init_10 : decode cX1_init 10 = .ok (.aload_n 0, 1) := by decide +kernel
theorem dX1_init_11 : decode cX1_init 11 = .ok (.iload_n 2, 1) := by decide +kernel
theorem dX1_init_12 : decode cX1_init 12 = .ok (.newarray .int, 2) := by decide +kernel
theorem dX1_init_14 : decode cX1_init 14 = .ok (.putfield 15, 3) := by decide +kernel
theorem dX1_init_17 : decode cX1_init 17 = .ok (.aload_n 0, 1) := by decide +kernel
theorem dX1_init_18 : decode cX1_init 18 = .ok (.iload_n 2, 1) := by decide +kernel
theorem dX1_init_19 : decode cX1_init 19 = .ok (.newarray .int, 2) := by decide +kernel
theorem dX1_init_21 : decode cX1_init 21 = .ok (.putfield 21, 3) := by decide +kernel
theorem dX1_init_24 : decode cX1_init 24 = .ok (.return_, 1) := by decide +kernel
def wX1 (cI cD : ClassId) (h : Nat) (q : Nat → Nat) (n : Nat) : va_W := [(h, .inr (1, [.ref (q 0), .ref (q 1)])), (q 0, lp_z cI n), (q 1, lp_z cI n)]
set_option maxHeartbeats 16000000 in
set_option maxRecDepth 100000 in
theorem ci_X1 (l : Launch) (D : va_G) (cI cD : ClassId) (h0 sz : Nat) (n : Nat) (hn : n ≤ 10000) : Met l yX1_init (.code yX1_init cX1_init 3 none :: lp_tbl) { frames := 1, cells := 2, slots := 2 * n, locals := 36 } (va_Pc [.ref h0, .int (nI n)] (fun U => U.heap.size = sz ∧ va_P D vwCl [(h0, .inr (1, [.null, .null]))] U.heap ∧ lp_Wd D cI cD U ∧ va_D (fun _ => True) [(h0, .inr (1, [.null, .null]))])) (va_Qv (fun _ : Nat → Nat => True) (fun q t => va_P D vwCl (wX1 cI cD h0 q n) t.heap ∧ lp_Wd D cI cD t ∧ va_D (va_A [(h0, .inr (1, [.null, .null]))] sz) (wX1 cI cD h0 q n)) (va_A [(h0, .inr (1, [.null, .null]))] sz)) 2 (2 * n) (va_A [(h0, .inr (1, [.null, .null]))] sz) := by
  refine Met.ofW (cc := cX1_init) (maxL := 3) (ret := none) (by decide) rfl ?_
  intro p e s m args below meth c s₁ B hml hv
  obtain ⟨rfl, hsz, hP, hWd, hD0⟩ := hv
  have hx := B.exec
  have hb := B.bytes
  have hr := B.returns
  have hts := atoms_spec (ws := Cond.code yX1_init cX1_init 3 none :: lp_tbl) B.pre
  have T : ∀ w ∈ lp_tbl, w.before ([.ref h0, .int (nI n)] : List Value).toArray s = true := fun w hw => hts w (List.mem_cons_of_mem _ hw)
  have hown : s.vm.findClass RX1 = some m.cls := findClass_of_methodNamed B.named
  have hlocks := B.notSynchronized
  have hin : meth.name = "<init>" := (name_of_methodNamed B.named B.method).1
  subst hsz
  have hD := hD0.self (sz := s.heap.size)
  generalize hAe : va_A [(h0, .inr (1, [.null, .null]))] s.heap.size = A at hD ⊢
  have hA : ∀ q : Nat, s.heap.size ≤ q → A q := fun q h => by rw [← hAe]; exact Or.inr h
  have hS : va_S A s.heap s.heap [] := va_S.rf
  have hl := lv_entry ([.ref h0, .int (nI n)]) (n := 3) (Nat.le_of_ble_eq_true rfl)
  rw [lg_entry_eq]
  generalize (lg_sl ([.ref h0, .int (nI n)]) ++ List.replicate (3 - (lg_sl ([.ref h0, .int (nI n)])).length) Slot.unset).toArray = ls at hl ⊢
  have hl : lv_has ls 3 [(0, .ref h0), (1, .int (nI n))] := hl
  have hRf : (headSpec (Cond.code yX1_init cX1_init 3 none :: lp_tbl) { frames := 1, cells := 2, slots := 2 * n, locals := 36 }).room.frames = 1 := rfl
  have hRl : (headSpec (Cond.code yX1_init cX1_init 3 none :: lp_tbl) { frames := 1, cells := 2, slots := 2 * n, locals := 36 }).room.locals = 36 := rfl
  have hRc : (headSpec (Cond.code yX1_init cX1_init 3 none :: lp_tbl) { frames := 1, cells := 2, slots := 2 * n, locals := 36 }).room.cells = 2 := rfl
  have hRs : (headSpec (Cond.code yX1_init cX1_init 3 none :: lp_tbl) { frames := 1, cells := 2, slots := 2 * n, locals := 36 }).room.slots = 2 * n := rfl
  refine lv_aload_n hx hb dX1_init_0 rfl (lv_at hl 0 rfl) ?_
  refine W.objInit hx hb hown (T (.methodLink RX1 3 objectInit) (by decide +kernel)) (T (.instanceMethod objectInit) (by decide +kernel)) (T (.code objectInit ⟨#[0xb1]⟩ 1 none) (by decide +kernel)) rfl (by rw [hml]; exact hl.1) rfl dX1_init_1 (Nat.le_of_ble_eq_true rfl) (Nat.le_of_ble_eq_true rfl) ?_
  refine W.eq (g2 := F0 m 4 ls []) rfl ?_
  refine lv_iload_n hx hb dX1_init_4 rfl (lv_at hl 1 rfl) ?_
  refine lv_iconst (v := 0) hx hb dX1_init_5 (by decide) ?_
  refine va_mmax hx hb (by rw [hml]; exact hl.1.symm) hown (T (.methodLink RX1 9 Lib.Math.max.name) (by decide +kernel)) (T (.static Lib.Math.max.name) (by decide +kernel)) (T (.initialized "java/lang/Math") (by decide +kernel)) (T (.code Lib.Math.max.name Lib.Math.max.code 2 (some .int)) (by decide +kernel)) (Nat.le_of_ble_eq_true rfl) (Nat.le_of_ble_eq_true rfl) (Nat.zero_le _) (Nat.zero_le _) dX1_init_6 ?_
  rw [show (if nI n < (0 : Int32) then (0 : Int32) else nI n) = nI n from if_neg (lp_nneg (by omega))]
  refine lv_istore_n (lv' := [(2, .int (nI n)), (0, .ref h0), (1, .int (nI n))]) hx hb dX1_init_9 rfl hl (by decide) rfl (fun ls hl => ?_)
  refine lv_aload_n hx hb dX1_init_10 rfl (lv_at hl 1 rfl) ?_
  refine lv_iload_n hx hb dX1_init_11 rfl (lv_at hl 0 rfl) ?_
  refine lp_newa (N' := n) hx hb T hWd hP hD hS hA (lp_nneg (by omega)) (lp_clm0 (by omega)) (by omega) (by rw [hRc]; exact Nat.le_of_ble_eq_true rfl) (by rw [hRs]; omega) dX1_init_12 (fun a12_9 H hP hD hS => ?_)
  refine W.widen (k := 1) (n := 1 * n) (by omega) (by omega) ?_
  have hP : va_P D vwCl [(h0, .inr (1, [.null, .null])), (a12_9, lp_z cI n)] H := hP
  have hD : va_D A [(h0, .inr (1, [.null, .null])), (a12_9, lp_z cI n)] := hD
  refine va_putF (D := D) (ci := 1) (v := .ref a12_9) (ty := .array .int) (C := RX1) (T := TX1) (N := 2) hx hb T lp_u1 tyX1 tyX1_ok nmX1 hown hWd.1 hP hD hS 0 rfl rfl 0 (by decide) (T (.fieldLink RX1 15 "LoadPress$Dealing" "counts" "[I") (by decide +kernel)) (fun _ h9 => h9) rfl hin rfl (by decide +kernel) rfl rfl (Nat.le_of_ble_eq_true rfl) dX1_init_14 (fun H locs hP hD hS => ?_)
  have hP : va_P D vwCl [(h0, .inr (1, [.ref a12_9, .null])), (a12_9, lp_z cI n)] H := hP
  have hD : va_D A [(h0, .inr (1, [.ref a12_9, .null])), (a12_9, lp_z cI n)] := hD
  refine lv_aload_n hx hb dX1_init_17 rfl (lv_at hl 1 rfl) ?_
  refine lv_iload_n hx hb dX1_init_18 rfl (lv_at hl 0 rfl) ?_
  refine lp_newa (N' := n) hx hb T hWd hP hD hS hA (lp_nneg (by omega)) (lp_clm0 (by omega)) (by omega) (by rw [hRc]; exact Nat.le_of_ble_eq_true rfl) (by rw [hRs]; omega) dX1_init_19 (fun a19_13 H hP hD hS => ?_)
  refine W.widen (k := 2) (n := 2 * n) (by omega) (by omega) ?_
  have hP : va_P D vwCl [(h0, .inr (1, [.ref a12_9, .null])), (a12_9, lp_z cI n), (a19_13, lp_z cI n)] H := hP
  have hD : va_D A [(h0, .inr (1, [.ref a12_9, .null])), (a12_9, lp_z cI n), (a19_13, lp_z cI n)] := hD
  refine va_putF (D := D) (ci := 1) (v := .ref a19_13) (ty := .array .int) (C := RX1) (T := TX1) (N := 2) hx hb T lp_u1 tyX1 tyX1_ok nmX1 hown hWd.1 hP hD hS 0 rfl rfl 1 (by decide) (T (.fieldLink RX1 21 "LoadPress$Dealing" "came" "[I") (by decide +kernel)) (fun _ h9 => h9) rfl hin rfl (by decide +kernel) rfl rfl (Nat.le_of_ble_eq_true rfl) dX1_init_21 (fun H locs hP hD hS => ?_)
  have hP : va_P D vwCl [(h0, .inr (1, [.ref a12_9, .ref a19_13])), (a12_9, lp_z cI n), (a19_13, lp_z cI n)] H := hP
  have hD : va_D A [(h0, .inr (1, [.ref a12_9, .ref a19_13])), (a12_9, lp_z cI n), (a19_13, lp_z cI n)] := hD
  have hP9 := hP.sub (ws' := [(h0, .inr (1, [.ref a12_9, .ref a19_13])), (a12_9, lp_z cI n), (a19_13, lp_z cI n)]) [0, 1, 2] rfl
  have hD9 := hD.sub (ws' := [(h0, .inr (1, [.ref a12_9, .ref a19_13])), (a12_9, lp_z cI n), (a19_13, lp_z cI n)]) [0, 1, 2] (by decide) rfl
  exact W.vret hx hb hr (fun t ht hW => ⟨⟨fun k => ([a12_9, a19_13] : List Nat).getD k 0, rfl, trivial, by rw [ht]; exact hP9, lp_Wd_move hW hWd, hD9⟩, hS.F ht⟩) hS.2.2 dX1_init_24
