/-! ===== constructors: what their rows need ===== -/
abbrev lp_z (cI : ClassId) (n : Nat) : va_E := .inl (cI, n, .inl (fun _ => 0))
theorem lp_nneg {n : Nat} (h : n < 2 ^ 31) : ¬ nI n < (0 : Int32) := fun q => by
  have h1 := Int32.lt_iff_toInt_lt.mp q
  rw [nI_toInt h] at h1
  have : (0 : Int32).toInt = 0 := rfl
  omega
theorem lp_clm0 {n : Nat} (h : n < 2 ^ 31) : (nI n).toNatClampNeg = n := nI_clamp h
theorem lp_Wd_call {D : va_G} {cI cD : ClassId} {U : State} {g : JFrame} {mk : MethodId} {a : Array Value} (h : lp_Wd D cI cD U) : lp_Wd D cI cD (U.calling g mk a) :=
  ⟨va_K.moved (u := U) (U := U.calling g mk a) (Vm.Alike.refl U.vm) h.1, fun w hw => va_Nw.same (u := U) (lp_nest_on (List.mem_filter.mp hw).2) rfl (h.2 w hw)⟩
def lp_Wc (D : va_G) (cI cD : ClassId) (U : State) : Prop := lp_Wd D cI cD U ∧ va_AO RX1 U
theorem lp_Wc_call {D : va_G} {cI cD : ClassId} {U : State} {g : JFrame} {mk : MethodId} {a : Array Value} (h : lp_Wc D cI cD U) : lp_Wc D cI cD (U.calling g mk a) := ⟨lp_Wd_call h.1, va_AO.moved (u := U) (U := U.calling g mk a) (Vm.Alike.refl U.vm) h.2⟩
theorem lp_Wc_move {D : va_G} {cI cD : ClassId} {s U : State} (hW : s.WarmedH U.vm) (h : lp_Wc D cI cD s) : lp_Wc D cI cD U := ⟨lp_Wd_move hW h.1, va_AO.moved hW.alike h.2⟩
section LPC
variable {p : Program} {l : Launch} {e : Env} {R : Room} {s : State} {m : MethodId} {args : Array Value} {below : List Frame} {meth : Method} {c : Code} {H H0 : Heap} {locs : List Loc} {cells slots : Nat} {Q : State → Prop}
variable {cc : ByteArray} {pc : Nat} {ls : Array Slot} {rest : List Value} {D : va_G} {A : Nat → Prop} {ws : va_W} {cI cD : ClassId}
/-- what the counters say of the heap -/
theorem lp_loose {g : JFrame} (kk : H.size ≤ s.heap.size + cells → lp_TS H ≤ lp_TS s.heap + slots → W p l e R s m args below meth c H locs cells slots Q g) : W p l e R s m args below meth c H locs cells slots Q g := by
  intro T hT X
  obtain ⟨a1, a2, a3, a4, a5, a6⟩ := X.same
  have hh : (T.setVm s.vm).heap = H := hT
  have hs := lp_TS_split a2 (fun a c hc => by
    obtain ⟨c', h1, -, h3, -⟩ := a6 a c hc
    exact ⟨c', h1, h3⟩)
  rw [hh] at hs a3 a5
  have : (List.map (fun x => x.slots.size) (List.drop s.heap.size H.toList)).sum = (List.map (fun c => c.slots.size) (List.drop s.heap.size H.toList)).sum := rfl
  exact kk (by omega) (by omega) T hT X
theorem lp_newa (hexec : p.tables.exec = Jvm.exec) (hb : c.code = cc) (T : ∀ w ∈ lp_tbl, w.before args s = true) (hWd : lp_Wd D cI cD s) (hP : va_P D vwCl ws H) (hD : va_D A ws) (hS : va_S A H0 H locs) (hA : ∀ q, H0.size ≤ q → A q)
    {n : Int32} {N' : Nat} (hn : ¬ n < 0) (hN : n.toNatClampNeg = N') (hbytes : N' * 4 ≤ 536870912) (hcells : cells + 1 ≤ R.cells) (hslots : slots + N' ≤ R.slots) (hdg : decode cc pc = .ok (.newarray .int, 2))
    (kk : ∀ (q : Nat) (H1 : Heap), va_P D vwCl (ws ++ [(q, lp_z cI N')]) H1 → va_D A (ws ++ [(q, lp_z cI N')]) → va_S A H0 H1 locs →
      W p l e R s m args below meth c H1 locs (cells + 1) (slots + N') Q (F0 m (pc + 2) ls (.ref q :: rest))) : W p l e R s m args below meth c H locs cells slots Q (F0 m pc ls (.int n :: rest)) := by
  have hac : (Cond.arrayClass .int).before args s = true := T _ (by decide +kernel)
  refine va_newa (a0 := (N', .inl (fun _ => 0))) (ty := .int) (atype := .int) hexec hb hac rfl hWd.1 hP hD hS hA (fun cA => rfl) hn hN hbytes hcells hslots hdg (fun q cA H1 hK hP hD hS => ?_)
  have h1 : s.vm.findClass ("[" ++ (FieldType.int).toString) = some cA := (hK.2 2 (cA, .int) rfl).2
  have h2 : s.vm.findClass ("[" ++ (FieldType.int).toString) = some cI := (hWd.1.2 0 (cI, .int) rfl).2
  obtain rfl : cA = cI := Option.some.inj (h1.symm.trans h2)
  exact kk q H1 hP hD hS
theorem lp_newq (hexec : p.tables.exec = Jvm.exec) (hb : c.code = cc) {own : String} {index : Nat} (hown : s.vm.findClass own = some m.cls) (hclink : (Cond.classLink own index RX1).before args s = true) (hAO : va_AO RX1 s) (hWd : lp_Wd D cI cD s) (hP : va_P D vwCl ws H) (hD : va_D A ws) (hS : va_S A H0 H locs) (hA : ∀ q, H0.size ≤ q → A q)
    {n : Int32} {N' : Nat} (hn : ¬ n < 0) (hN : n.toNatClampNeg = N') (hbytes : N' * 4 ≤ 536870912) (hcells : cells + 1 ≤ R.cells) (hslots : slots + N' ≤ R.slots) (hdg : decode cc pc = .ok (.anewarray index, 3))
    (kk : ∀ (q : Nat) (H1 : Heap), va_P D vwCl (ws ++ [(q, .inl (cD, N', .inr (.inr (.inr (.inr (fun _ => none))))))]) H1 → va_D A (ws ++ [(q, .inl (cD, N', .inr (.inr (.inr (.inr (fun _ => none))))))]) → va_S A H0 H1 locs →
      W p l e R s m args below meth c H1 locs (cells + 1) (slots + N') Q (F0 m (pc + 3) ls (.ref q :: rest))) : W p l e R s m args below meth c H locs cells slots Q (F0 m pc ls (.int n :: rest)) := by
  refine va_newq hexec hb hown hclink hAO hWd.1 hP hD hS hA hn hN hbytes hcells hslots hdg (fun q cA H1 hK hP hD hS => ?_)
  obtain ⟨-, kA, comp, -, -, -, h1⟩ := hK.2 2 (cA, .object RX1) rfl
  obtain ⟨-, kA', comp', -, -, -, h2⟩ := hWd.1.2 1 (cD, .object RX1) rfl
  obtain rfl : cA = cD := Option.some.inj (h1.symm.trans h2)
  exact kk q H1 hP hD hS
end LPC
theorem dfill_0 : decode cJ7_fill_53178 0 = .ok (.iconst 0, 1) := by decide +kernel
theorem dfill_1 : decode cJ7_fill_53178 1 = .ok (.istore_n 2, 1) := by decide +kernel
theorem dfill_2 : decode cJ7_fill_53178 2 = .ok (.aload_n 0, 1) := by decide +kernel
theorem dfill_3 : decode cJ7_fill_53178 3 = .ok (.arraylength, 1) := by decide +kernel
theorem dfill_4 : decode cJ7_fill_53178 4 = .ok (.istore_n 3, 1) := by decide +kernel
theorem dfill_5 : decode cJ7_fill_53178 5 = .ok (.iload_n 2, 1) := by decide +kernel
theorem dfill_6 : decode cJ7_fill_53178 6 = .ok (.iload_n 3, 1) := by decide +kernel
theorem dfill_7 : decode cJ7_fill_53178 7 = .ok (.if_icmp .ge 13, 3) := by decide +kernel
theorem dfill_10 : decode cJ7_fill_53178 10 = .ok (.aload_n 0, 1) := by decide +kernel
theorem dfill_11 : decode cJ7_fill_53178 11 = .ok (.iload_n 2, 1) := by decide +kernel
theorem dfill_12 : decode cJ7_fill_53178 12 = .ok (.iload_n 1, 1) := by decide +kernel
theorem dfill_13 : decode cJ7_fill_53178 13 = .ok (.iastore, 1) := by decide +kernel
theorem dfill_14 : decode cJ7_fill_53178 14 = .ok (.iinc 2 1, 3) := by decide +kernel
theorem dfill_17 : decode cJ7_fill_53178 17 = .ok (.goto (-12), 3) := by decide +kernel
theorem dfill_20 : decode cJ7_fill_53178 20 = .ok (.return_, 1) := by decide +kernel
def lp_ff (f : Nat → Int32) (x : Int32) (i : Nat) : Nat → Int32 := fun j => if j < i then x else f j
theorem lp_ff_succ (f : Nat → Int32) (x : Int32) (i : Nat) : upd (lp_ff f x i) i x = lp_ff f x (i + 1) := by
  funext j
  by_cases hj : j = i
  · subst hj; simp [upd, lp_ff]
  · have : (j < i + 1) ↔ j < i := by omega
    simp [upd, lp_ff, hj, this]
set_option maxHeartbeats 16000000 in
set_option maxRecDepth 100000 in
theorem ci_fill (l : Launch) (D : va_G) (cI cD : ClassId) (h0 sz : Nat) (n : Nat) (hn : n ≤ 100000) (x : Int32) (f : Nat → Int32) : Met l yJ7_fill_53178 (.code yJ7_fill_53178 cJ7_fill_53178 4 none :: lp_tbl) { frames := 0, cells := 0, slots := 0, locals := 0 } (va_Pc [.ref h0, .int x] (fun U => U.heap.size = sz ∧ va_P D vwCl [(h0, .inl (cI, n, .inl f))] U.heap ∧ lp_Wd D cI cD U ∧ va_D (fun _ => True) [(h0, .inl (cI, n, .inl f))])) (va_Qv (fun _ : Unit => True) (fun _ t => va_P D vwCl [(h0, .inl (cI, n, .inl (lp_ff f x n)))] t.heap ∧ lp_Wd D cI cD t ∧ va_D (va_A [(h0, .inl (cI, n, .inl f))] sz) [(h0, .inl (cI, n, .inl (lp_ff f x n)))]) (va_A [(h0, .inl (cI, n, .inl f))] sz)) 0 0 (va_A [(h0, .inl (cI, n, .inl f))] sz) := by
  refine Met.ofW (cc := cJ7_fill_53178) (maxL := 4) (ret := none) (by decide) rfl ?_
  intro p e s m args below meth c s₁ B hml hv
  obtain ⟨rfl, hsz, hP, hWd, hD0⟩ := hv
  have hx := B.exec
  have hb := B.bytes
  have hr := B.returns
  have hlocks := B.notSynchronized
  subst hsz
  have hD := hD0.self (sz := s.heap.size)
  generalize hAe : va_A [(h0, .inl (cI, n, .inl f))] s.heap.size = A at hD ⊢
  have hS : va_S A s.heap s.heap [] := va_S.rf
  have hl := lv_entry ([.ref h0, .int x]) (n := 4) (Nat.le_of_ble_eq_true rfl)
  rw [lg_entry_eq]
  generalize (lg_sl ([.ref h0, .int x]) ++ List.replicate (4 - (lg_sl ([.ref h0, .int x])).length) Slot.unset).toArray = ls at hl ⊢
  have hl : lv_has ls 4 [(0, .ref h0), (1, .int x)] := hl
  refine lv_iconst (v := nI 0) hx hb dfill_0 (by decide) ?_
  refine lv_istore_n (lv' := [(2, .int (nI 0)), (0, .ref h0), (1, .int x)]) hx hb dfill_1 rfl hl (by decide) rfl (fun ls hl => ?_)
  refine lv_aload_n hx hb dfill_2 rfl (lv_at hl 1 rfl) ?_
  refine va_alen (v := nI n) hx hb hWd.1 hP 0 0 rfl rfl rfl dfill_3 ?_
  refine lv_istore_n (lv' := [(3, .int (nI n)), (2, .int (nI 0)), (0, .ref h0), (1, .int x)]) hx hb dfill_4 rfl hl (by decide) rfl (fun ls hl => ?_)
  have loop : ∀ (k i : Nat) (H : Heap) (locs : List Loc) (ls : Array Slot), i + k = n → va_P D vwCl [(h0, .inl (cI, n, .inl (lp_ff f x i)))] H → va_D A [(h0, .inl (cI, n, .inl (lp_ff f x i)))] → va_S A s.heap H locs → lv_has ls 4 [(3, .int (nI n)), (2, .int (nI i)), (0, .ref h0), (1, .int x)] →
      W p l e (headSpec (Cond.code yJ7_fill_53178 cJ7_fill_53178 4 none :: lp_tbl) { frames := 0, cells := 0, slots := 0, locals := 0 }).room s m ([.ref h0, .int x] : List Value).toArray below meth c H locs 0 0 (MQ below (va_Qv (fun _ : Unit => True) (fun _ t => va_P D vwCl [(h0, .inl (cI, n, .inl (lp_ff f x n)))] t.heap ∧ lp_Wd D cI cD t ∧ va_D A [(h0, .inl (cI, n, .inl (lp_ff f x n)))]) A) ([.ref h0, .int x] : List Value).toArray s 0 0 A) (F0 m 5 ls []) := by
    intro k
    induction k with
    | zero =>
      intro i H locs ls hi hP hD hS hl
      obtain rfl : i = n := by omega
      refine lv_iload_n hx hb dfill_5 rfl (lv_at hl 1 rfl) ?_
      refine lv_iload_n hx hb dfill_6 rfl (lv_at hl 0 rfl) ?_
      refine lv_icmp_ge (tgt := 20) hx hb dfill_7 (by decide) (fun _ => ?_) (fun q => absurd (Int32.le_refl _) q)
      exact W.vret hx hb hr (fun t ht hW => ⟨⟨(), rfl, trivial, by rw [ht]; exact hP, lp_Wd_move hW hWd, hD⟩, hS.F ht⟩) hS.2.2 dfill_20
    | succ k ih =>
      intro i H locs ls hi hP hD hS hl
      refine lv_iload_n hx hb dfill_5 rfl (lv_at hl 1 rfl) ?_
      refine lv_iload_n hx hb dfill_6 rfl (lv_at hl 0 rfl) ?_
      refine lv_icmp_ge (tgt := 20) hx hb dfill_7 (by decide) (fun q => absurd ((nI_leI (by omega) (by omega)).mp q) (by omega)) (fun _ => ?_)
      refine lv_aload_n hx hb dfill_10 rfl (lv_at hl 2 rfl) ?_
      refine lv_iload_n hx hb dfill_11 rfl (lv_at hl 1 rfl) ?_
      refine lv_iload_n hx hb dfill_12 rfl (lv_at hl 3 rfl) ?_
      refine va_iast hx hb hWd.1 hP hD hS 0 0 rfl rfl (lp_vin (a := i) (by omega) (by omega)) dfill_13 (fun H locs hP hD hS => ?_)
      rw [lp_clm0 (by omega), lp_ff_succ] at hP hD
      refine lv_iinc (v := nI (i + 1)) (lv' := [(2, .int (nI (i + 1))), (3, .int (nI n)), (0, .ref h0), (1, .int x)]) hx hb dfill_14 hl (k := 1) rfl (nI_succ i).symm (by decide) rfl (fun ls hl => ?_)
      refine lv_goto (tgt := 5) hx hb dfill_17 (by decide) ?_
      exact ih (i + 1) H locs ls (by omega) hP hD hS (lv_sub hl [1, 0, 2, 3] rfl)
  have e0 : lp_ff f x 0 = f := by funext j; simp [lp_ff]
  exact loop n 0 _ _ ls (by omega) (by rw [e0]; exact hP) (by rw [e0]; exact hD) hS hl
