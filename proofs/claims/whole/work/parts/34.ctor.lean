/-! ===== constructors: what their rows need ===== -/
abbrev lp_z (cI : ClassId) (n : Nat) : va_E := .inl (cI, n, .inl (fun _ => 0))
theorem lp_nneg {n : Nat} (h : n < 2 ^ 31) : ¬ nI n < (0 : Int32) := fun q => by
  have h1 := Int32.lt_iff_toInt_lt.mp q
  rw [nI_toInt h] at h1
  have : (0 : Int32).toInt = 0 := rfl
  omega
theorem lp_clm0 {n : Nat} (h : n < 2 ^ 31) : (nI n).toNatClampNeg = n := nI_clamp h
theorem lp_Wd_call {D : va_G} {cI cD : ClassId} {U : State} {g : JFrame} {mk : MethodId} {a : Array Value} (h : lp_Wd D cI cD U) : lp_Wd D cI cD (U.calling g mk a) :=
  ⟨va_K.moved (u := U) (U := U.calling g mk a) (Vm.Alike.refl U.vm) h.1, fun w hw => va_Nw.same (u := U) (lp_nest_on (List.mem_filter.mp hw).2) rfl (h.2 w hw)⟩
def lp_Wc (D : va_G) (cI cD : ClassId) (U : State) : Prop := lp_Wd D cI cD U ∧ va_AO RX1 U
theorem lp_Wc_call {D : va_G} {cI cD : ClassId} {U : State} {g : JFrame} {mk : MethodId} {a : Array Value} (h : lp_Wc D cI cD U) : lp_Wc D cI cD (U.calling g mk a) := ⟨lp_Wd_call h.1, va_AO.moved (u := U) (U := U.calling g mk a) (Vm.Alike.refl U.vm) h.2⟩
theorem lp_Wc_move {D : va_G} {cI cD : ClassId} {s U : State} (hW : s.WarmedH U.vm) (h : lp_Wc D cI cD s) : lp_Wc D cI cD U := ⟨lp_Wd_move hW h.1, va_AO.moved hW.alike h.2⟩
section LPC
variable {p : Program} {l : Launch} {e : Env} {R : Room} {s : State} {m : MethodId} {args : Array Value} {below : List Frame} {meth : Method} {c : Code} {H H0 : Heap} {locs : List Loc} {cells slots : Nat} {Q : State → Prop}
variable {cc : ByteArray} {pc : Nat} {ls : Array Slot} {rest : List Value} {D : va_G} {A : Nat → Prop} {ws : va_W} {cI cD : ClassId}
/-- what the counters say of the heap -/
theorem lp_loose {g : JFrame} (kk : H.size ≤ s.heap.size + cells → lp_TS H ≤ lp_TS s.heap + slots → W p l e R s m args below meth c H locs cells slots Q g) : W p l e R s m args below meth c H locs cells slots Q g := by
  intro T hT X
  obtain ⟨a1, a2, a3, a4, a5, a6⟩ := X.same
  have hh : (T.setVm s.vm).heap = H := hT
  have hs := lp_TS_split a2 (fun a c hc => by
    obtain ⟨c', h1, -, h3, -⟩ := a6 a c hc
    exact ⟨c', h1, h3⟩)
  rw [hh] at hs a3 a5
  have : (List.map (fun x => x.slots.size) (List.drop s.heap.size H.toList)).sum = (List.map (fun c => c.slots.size) (List.drop s.heap.size H.toList)).sum := rfl
  exact kk (by omega) (by omega) T hT X
theorem lp_newa (hexec : p.tables.exec = Jvm.exec) (hb : c.code = cc) (T : ∀ w ∈ lp_tbl, w.before args s = true) (hWd : lp_Wd D cI cD s) (hP : va_P D vwCl ws H) (hD : va_D A ws) (hS : va_S A H0 H locs) (hA : ∀ q, H0.size ≤ q → A q)
    {n : Int32} {N' : Nat} (hn : ¬ n < 0) (hN : n.toNatClampNeg = N') (hbytes : N' * 4 ≤ 536870912) (hcells : cells + 1 ≤ R.cells) (hslots : slots + N' ≤ R.slots) (hdg : decode cc pc = .ok (.newarray .int, 2))
    (kk : ∀ (q : Nat) (H1 : Heap), va_P D vwCl (ws ++ [(q, lp_z cI N')]) H1 → va_D A (ws ++ [(q, lp_z cI N')]) → va_S A H0 H1 locs →
      W p l e R s m args below meth c H1 locs (cells + 1) (slots + N') Q (F0 m (pc + 2) ls (.ref q :: rest))) : W p l e R s m args below meth c H locs cells slots Q (F0 m pc ls (.int n :: rest)) := by
  have hac : (Cond.arrayClass .int).before args s = true := T _ (by decide +kernel)
  refine va_newa (a0 := (N', .inl (fun _ => 0))) (ty := .int) (atype := .int) hexec hb hac rfl hWd.1 hP hD hS hA (fun cA => rfl) hn hN hbytes hcells hslots hdg (fun q cA H1 hK hP hD hS => ?_)
  have h1 : s.vm.findClass ("[" ++ (FieldType.int).toString) = some cA := (hK.2 2 (cA, .int) rfl).2
  have h2 : s.vm.findClass ("[" ++ (FieldType.int).toString) = some cI := (hWd.1.2 0 (cI, .int) rfl).2
  obtain rfl : cA = cI := Option.some.inj (h1.symm.trans h2)
  exact kk q H1 hP hD hS
theorem lp_newq (hexec : p.tables.exec = Jvm.exec) (hb : c.code = cc) {own : String} {index : Nat} (hown : s.vm.findClass own = some m.cls) (hclink : (Cond.classLink own index RX1).before args s = true) (hAO : va_AO RX1 s) (hWd : lp_Wd D cI cD s) (hP : va_P D vwCl ws H) (hD : va_D A ws) (hS : va_S A H0 H locs) (hA : ∀ q, H0.size ≤ q → A q)
    {n : Int32} {N' : Nat} (hn : ¬ n < 0) (hN : n.toNatClampNeg = N') (hbytes : N' * 4 ≤ 536870912) (hcells : cells + 1 ≤ R.cells) (hslots : slots + N' ≤ R.slots) (hdg : decode cc pc = .ok (.anewarray index, 3))
    (kk : ∀ (q : Nat) (H1 : Heap), va_P D vwCl (ws ++ [(q, .inl (cD, N', .inr (.inr (.inr (.inr (fun _ => none))))))]) H1 → va_D A (ws ++ [(q, .inl (cD, N', .inr (.inr (.inr (.inr (fun _ => none))))))]) → va_S A H0 H1 locs →
      W p l e R s m args below meth c H1 locs (cells + 1) (slots + N') Q (F0 m (pc + 3) ls (.ref q :: rest))) : W p l e R s m args below meth c H locs cells slots Q (F0 m pc ls (.int n :: rest)) := by
  refine va_newq hexec hb hown hclink hAO hWd.1 hP hD hS hA hn hN hbytes hcells hslots hdg (fun q cA H1 hK hP hD hS => ?_)
  obtain ⟨-, kA, comp, -, -, -, h1⟩ := hK.2 2 (cA, .object RX1) rfl
  obtain ⟨-, kA', comp', -, -, -, h2⟩ := hWd.1.2 1 (cD, .object RX1) rfl
  obtain rfl : cA = cD := Option.some.inj (h1.symm.trans h2)
  exact kk q H1 hP hD hS
end LPC
