/-! ===== Machine.lengthen ===== -/
section LPN
variable {p : Program} {l : Launch} {e : Env} {R : Room} {s : State} {m : MethodId} {args : Array Value} {below : List Frame} {meth : Method} {c : Code} {H : Heap} {locs : List Loc} {cells slots : Nat} {Q : State → Prop}
variable {cc : ByteArray} {pc : Nat} {ls : Array Slot} {rest : List Value} {D : va_G} {cI cD : ClassId}
/-- new, with the whole heap behind it -/
theorem lp_new (hexec : p.tables.exec = Jvm.exec) (hb : c.code = cc) {own C : String} {T : u_T} {N ci index : Nat} {Ts : List Cond} (hts : ∀ w ∈ Ts, w.before args s = true) (hin : ∀ w ∈ u_ws C T N, w ∈ Ts) (ty : Nat → FieldType) (hty : ∀ k, k < N → parseFieldDescriptor (T k).2.2.1 = some (ty k)) (hown : s.vm.findClass own = some m.cls) (hcl : (Cond.classLink own index C).before args s = true) (hinst : (Cond.instantiable C N).before args s = true) (hini : (Cond.initialized C).before args s = true)
    (hWd : lp_Wd D cI cD s) (hc : vwCl[ci]? = some (C, T, N)) {fs : List Value} (hfs : ∀ j, j < N → defaultValue (ty j) = vp_V fs j) (hcells : cells + 1 ≤ R.cells) (hslots : slots + N ≤ R.slots) (hdg : decode cc pc = .ok (.new index, 3))
    (kk : ∀ (H1 : Heap), va_at D vwCl (H.size, .inr (ci, fs)) H1 → H1.size = H.size + 1 → (∀ q : Nat, q < H.size → H1[q]? = H[q]?) →
      W p l e R s m args below meth c H1 locs (cells + 1) (slots + N) Q (F0 m (pc + 3) ls (.ref H.size :: rest))) : W p l e R s m args below meth c H locs cells slots Q (F0 m pc ls rest) := by
  have hKn := hWd.1.1 ci _ hc
  refine W.newcK hexec hb hown hcl hinst hini rfl hdg hcells hslots hKn.2.1 rfl fun H1 kC hkC e1 z1 o1 => ?_
  exact kk H1 ⟨_, hc, (u_born ty hts hin hKn hkC e1 hty).to hfs⟩ z1 o1
/-- aastore, with the whole heap behind it -/
theorem lp_aast (hexec : p.tables.exec = Jvm.exec) (hb : c.code = cc) (hWd : lp_Wd D cI cD s) {a n v ci : Nat} {vs : List Value} {f : Nat → Option Nat} (ha : va_at D vwCl (a, .inl (cD, n, .inr (.inr (.inr (.inr f))))) H) (hv : va_at D vwCl (v, .inr (1, vs)) H) {i : Int32} (hin : vp_in i n) (hdg : decode cc pc = .ok (.aastore, 1))
    (kk : ∀ (H1 : Heap) (j : Nat), va_at D vwCl (a, .inl (cD, n, .inr (.inr (.inr (.inr (va_up f i.toNatClampNeg (some v))))))) H1 → H1.size = H.size → (∀ q : Nat, q ≠ a → H1[q]? = H[q]?) → W p l e R s m args below meth c H1 (locs ++ [⟨a, j⟩]) cells slots Q (F0 m (pc + 1) ls rest)) : W p l e R s m args below meth c H locs cells slots Q (F0 m pc ls (.ref v :: .int i :: .ref a :: rest)) := by
  have hlt : i.toNatClampNeg < n := Nat.not_le.mp fun q => hin (Or.inr q)
  have h0 : ¬ i < 0 := fun q => hin (Or.inl q)
  obtain ⟨r', hr', cellV, g1, g2, g3, -⟩ := hv
  have hcls := (hWd.1.1 1 (RX1, TX1, 2) rfl).2
  obtain ⟨kA, comp, k1, k2, k3, -⟩ := (hWd.1.2 1 (cD, .object RX1) rfl).2
  have hcomp : comp = D.1 1 := Option.some.inj (k3.symm.trans hcls.1)
  subst hcomp
  obtain ⟨kC, hkC, -⟩ := hcls.2
  refine W.aast hexec hb ha (fun q h => by cases h) (fun h => by cases h) k1 k2 rfl hkC ⟨h0, by show _ < (arrV _ _ _).slots.size; rw [arrV_size]; exact hlt⟩ g1 (fun q h => by rw [g3] at h; cases h) (by rw [g2]; exact hkC) (by rw [g2]; exact va_assign hcls) rfl rfl hdg fun H1 e z oq => ?_
  refine kk H1 _ ?_ z oq
  show H1[a]? = some (vp_cell _ _)
  rw [e]
  rw [vp_cell_q, vp_cell_q, arrV_store]
  congr 2
  funext q
  by_cases hq : q = i.toNatClampNeg
  · subst hq
    simp [updV, va_up, va_rf]
  · simp [updV, va_up, hq]
end LPN
theorem dX2_lengthen_86 : decode cX2_lengthen 86 = .ok (.aload_n 0, 1) := by decide +kernel
theorem dX2_lengthen_87 : decode cX2_lengthen 87 = .ok (.getfield 20, 3) := by decide +kernel
theorem dX2_lengthen_90 : decode cX2_lengthen 90 = .ok (.iload 4, 2) := by decide +kernel
theorem dX2_lengthen_92 : decode cX2_lengthen 92 = .ok (.new 18, 3) := by decide +kernel
theorem dX2_lengthen_95 : decode cX2_lengthen 95 = .ok (.dup, 1) := by decide +kernel
theorem dX2_lengthen_96 : decode cX2_lengthen 96 = .ok (.bipush 61, 2) := by decide +kernel
theorem dX2_lengthen_98 : decode cX2_lengthen 98 = .ok (.invokespecial 47, 3) := by decide +kernel
theorem dX2_lengthen_101 : decode cX2_lengthen 101 = .ok (.aastore, 1) := by decide +kernel
set_option maxHeartbeats 16000000 in
set_option maxRecDepth 100000 in
/-- from 86 to 102: the Dealing of a step is made -/
theorem lp_birth {p : Program} {l : Launch} {e : Env} {R : Room} {s : State} {m : MethodId} {args : Array Value} {below : List Frame} {meth : Method} {c : Code} {D : va_G} {cI cD : ClassId} {ad0 : Nat → Nat → Nat} {σ0 : lpM} {sz : Nat} {Q : State → Prop}
    (hx : p.tables.exec = Jvm.exec) (hb : c.code = cX2_lengthen) (hml : c.maxLocals = 5) (hown : s.vm.findClass RX2 = some m.cls) (hts : ∀ w ∈ (Cond.code yX2_lengthen cX2_lengthen 5 none :: lp_tbl), w.before args s = true) (hWd : lp_Wd D cI cD s) (hRf : 2 ≤ R.frames ∧ 58 ≤ R.locals) (hsz0 : s.heap.size = sz)
    {ad : Nat → Nat → Nat} {σ : lpM} {H : Heap} {locs : List Loc} {cells slots : Nat} {ls : Array Slot} {j : Nat} {x y z : lpV} {L : lpL} (A : lp_At D cI cD R s ad0 σ0 sz 5 ad σ H locs cells slots ls L) (hL : L = [some (.inr (some (6, 0))), some x, some y, some z, some (.inl (nI j))]) (hj : j < 121) (hz : σ 9 0 j = 0)
    (kk : ∀ (ad' : Nat → Nat → Nat) (H' : Heap) (locs' : List Loc) (cells' slots' : Nat), lp_At D cI cD R s ad0 σ0 sz 5 ad' (lp_born σ j) H' locs' cells' slots' ls L → W p l e R s m args below meth c H' locs' cells' slots' Q (F0 m 102 ls [])) :
    W p l e R s m args below meth c H locs cells slots Q (F0 m 86 ls []) := by
  have T : ∀ w ∈ lp_tbl, w.before args s = true := fun w hw => hts w (List.mem_cons_of_mem _ hw)
  obtain ⟨a1, a2, a3, a4, ⟨b1, b2, b3⟩, ⟨c1, c2⟩, c3, c4⟩ := id A
  have live6 : lp_live σ 6 0 := ⟨by decide, fun h => by cases h⟩
  have live9 : lp_live σ 9 0 := ⟨by decide, fun h => by cases h⟩
  have hdead := lp_dead_born hj hz
  have hsz : ls.size = 5 := b1.1.trans b3
  refine lv_aload_n (x := ad 6 0) hx hb dX2_lengthen_86 rfl (lp_loc_at (v := .inr (some (6, 0))) b1 (by rw [hL]; rfl)) ?_
  refine va_get (D := D) (ws := [(ad 6 0, lp_cell cI cD ad σ 6 0)]) (ci := 2) (v := .ref (ad 9 0)) (C := RX2) (T := TX2) (N := 3) hx hb T lp_u2 hown hWd.1 (lp_one (a1.1 6 0 live6)) 0 rfl rfl 2 (by decide) (T (.fieldLink RX2 20 "LoadPress$Machine" "waits" "[LLoadPress$Dealing;") (by decide +kernel)) (fun _ h9 => h9) rfl dX2_lengthen_87 ?_
  refine lv_iload (x := nI j) hx hb dX2_lengthen_90 (lp_loc_at (v := .inl (nI j)) b1 (by rw [hL]; rfl)) ?_
  refine lp_new (ci := 1) (fs := [.null, .null]) (C := RX1) (T := TX1) (N := 2) hx hb T lp_u1 tyX1 tyX1_ok hown (T (.classLink RX2 18 RX1) (by decide +kernel)) (T (.instantiable RX1 2) (by decide +kernel)) (T (.initialized RX1) (by decide +kernel)) hWd rfl (fun j hj => by rcases (show j = 0 ∨ j = 1 by omega) with rfl | rfl <;> rfl) (by omega) (by omega) dX2_lengthen_92 (fun H1 v1 z1 o1 => ?_)
  refine lv_dup hx hb dX2_lengthen_95 rfl ?_
  refine lv_bipush (v := nI 61) hx hb dX2_lengthen_96 (by decide) ?_
  have hS1 : va_S (lp_Dom ad0 σ0 sz) s.heap H1 locs := ⟨by have := a4.1; omega, fun q h1 h2 => by rw [o1 q (Nat.lt_of_lt_of_le h1 a4.1)]; exact a4.2.1 q h1 h2, a4.2.2⟩
  have hA1 : ∀ q : Nat, va_A [(H.size, .inr (1, [.null, .null]))] H1.size q → H.size ≤ q := by
    rintro q (⟨k, e, hk⟩ | hq)
    · rcases k with _ | k
      · cases hk; exact Nat.le_refl _
      · simp at hk
    · omega
  have hA2 : ∀ q : Nat, H.size ≤ q → lp_Dom ad0 σ0 sz q := fun q hq => Or.inr (by rw [← hsz0]; exact Nat.le_trans a4.1 hq)
  refine va_callv (A0 := lp_Dom ad0 σ0 sz) (va_runI (As := [.int (nI 61)]) (rest := [.ref H.size, .int (nI j), .ref (ad 9 0)]) ⟨hx, hb, hml, hown, hts⟩ (ci_X1 l D cI cD H.size H1.size 61 (by omega)) (cwI 1 hts (lp_good (w0 := Cond.code yX2_lengthen cX2_lengthen 5 none) (y := yX1_init) (bytes := cX1_init) (nL := 3) (ret := none) (by decide +kernel)) rfl rfl rfl (T (.initialized RX1) (by decide +kernel)) (T (.methodLink RX2 47 yX1_init) (by decide +kernel)) (T (.instanceMethod yX1_init) (by decide +kernel)) rfl (by decide +kernel) ⟨hRf.1, hRf.2⟩) ⟨fun a U g mk q => by obtain ⟨q0, q1, qP, qW, qD⟩ := q; exact ⟨q0, q1, qP, lp_Wd_call qW, qD⟩, fun U hU hW => ⟨rfl, by rw [hU], by rw [hU]; exact lp_one v1, lp_Wd_move hW hWd, ⟨fun i j p q h1 h2 _ => by
      have := (List.getElem?_eq_some_iff.mp h1).1
      have := (List.getElem?_eq_some_iff.mp h2).1
      simp at *
      omega, fun _ _ _ => trivial⟩⟩⟩ rfl rfl hsz rfl (lv_room (Nat.le_of_ble_eq_true rfl)) dX2_lengthen_98 ⟨by omega, by omega⟩) hS1 (fun q _ h => hA2 q (hA1 q h)) (fun q h => hA2 q (hA1 q h)) (fun Q1 t H2 locs2 ht hvm hw hB hz1 hk1 hS2 => ?_)
  obtain ⟨hP1, -, hD1⟩ := hB
  rw [ht] at hP1
  unfold wX1 at hP1 hD1
  have hq0 := hP1 0 _ rfl
  have hq1 := hP1 1 _ rfl
  have hq2 := hP1 2 _ rfl
  have d1 := hA1 _ (hD1.2 1 _ rfl)
  have d2 := hA1 _ (hD1.2 2 _ rfl)
  have n1 : H.size ≠ Q1 0 := fun q => absurd (hD1.1 0 1 _ _ rfl rfl q) (by omega)
  have n2 : H.size ≠ Q1 1 := fun q => absurd (hD1.1 0 2 _ _ rfl rfl q) (by omega)
  have n3 : Q1 0 ≠ Q1 1 := fun q => absurd (hD1.1 1 2 _ _ rfl rfl q) (by omega)
  have o2 : ∀ q : Nat, q < H.size → H2[q]? = H[q]? := fun q hq => by
    rw [hk1 q (by omega) (fun h => by have := hA1 q h; omega)]
    exact o1 q hq
  have hlt9 := (a1.1 9 0 live9).lt
  have hv9 : va_at D vwCl (ad 9 0, .inl (cD, 121, .inr (.inr (.inr (.inr (lp_rf ad σ 9 0 26 (fun j => j))))))) H2 := (a1.1 9 0 live9).kept (o2 _ hlt9)
  refine lp_aast (ci := 1) hx hb hWd hv9 hq0 (lp_vin hj (by omega)) dX2_lengthen_101 (fun H3 jj v3 z3 o3 => ?_)
  rw [lp_clm (by omega)] at v3
  have hR3 := lp_Rep_born (H3 := H3) a1 hj hz ⟨⟨Nat.le_refl _, d1, d2⟩, n1, n2, n3⟩ (hq0.kept (o3 _ (by show H.size ≠ ad 9 0; have : ad 9 0 < H.size := hlt9; omega))) (hq1.kept (o3 _ (by show Q1 0 ≠ ad 9 0; have : ad 9 0 < H.size := hlt9; omega))) (hq2.kept (o3 _ (by show Q1 1 ≠ ad 9 0; have : ad 9 0 < H.size := hlt9; omega))) v3 (fun q h1 h2 => by rw [o3 q h2]; exact o2 q h1)
  refine lp_loose (fun s1 s2 => ?_)
  have hold : ∀ r k, lp_live σ r k → lp_adn ad j H.size (Q1 0) (Q1 1) r k = ad r k := fun r k h => lp_adn_ne (fun q => by
    rw [q.2.2] at h
    exact lp_not_live hj hz ⟨q.1, q.2.1⟩ h)
  have cvs : ∀ v, lp_ok σ v → lp_cv (lp_adn ad j H.size (Q1 0) (Q1 1)) v = lp_cv ad v := by
    intro v hv
    rcases v with y | _ | q
    · rfl
    · rfl
    · simp [lp_cv, hold q.1 q.2 hv]
  refine kk _ H3 _ _ _ ⟨hR3, fun r k h => ?_, fun r k h => ?_, ?_, ⟨?_, fun v hv => ?_, b3⟩, ⟨by omega, by omega⟩, by omega, by omega⟩
  · obtain ⟨g1, g2⟩ := a2 r k h
    exact ⟨(lp_live_born hj hz r k).mpr (Or.inl g1), (hold r k g1).trans g2⟩
  · rcases (lp_live_born hj hz r k).mp h with h | ⟨ha, hb', hc⟩
    · rw [hold r k h]
      exact a3 r k h
    · rw [hc]
      apply hA2
      rcases (show r = 26 ∨ r = 27 ∨ r = 28 by omega) with rfl | rfl | rfl
      · show H.size ≤ (if _ then _ else _)
        rw [if_pos ⟨rfl, rfl⟩]
        exact Nat.le_refl _
      · show H.size ≤ (if _ then _ else if _ then _ else _)
        rw [if_neg (by omega), if_pos ⟨rfl, rfl⟩]
        exact d1
      · show H.size ≤ (if _ then _ else if _ then _ else if _ then _ else _)
        rw [if_neg (by omega), if_neg (by omega), if_pos ⟨rfl, rfl⟩]
        exact d2
  · exact hS2.put z3 o3 (a3 9 0 live9)
  · show lv_has ls L.length (lp_kl _ 0 L)
    rw [lp_kl_congr (ad := ad) (fun v hv => cvs v (b2 v hv))]
    exact b1
  · have := b2 v hv
    rcases v with y | _ | q
    · exact trivial
    · exact trivial
    · exact (lp_live_born hj hz q.1 q.2).mpr (Or.inl this)
