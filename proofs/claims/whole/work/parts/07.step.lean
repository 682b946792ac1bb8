/-! ===== one instruction ===== -/
def lp_At (D : va_G) (cI cD : ClassId) (R : Room) (s : State) (ad0 : Nat → Nat → Nat) (σ0 : lpM) (sz nL : Nat) (ad : Nat → Nat → Nat) (σ : lpM) (H : Heap) (locs : List Loc) (cells slots : Nat) (ls : Array Slot) (L : lpL) : Prop :=
  lp_Rep D cI cD ad σ H ∧ (∀ r k, lp_live σ0 r k → lp_live σ r k ∧ ad r k = ad0 r k) ∧ (∀ r k, lp_live σ r k → lp_Dom ad0 σ0 sz (ad r k)) ∧ va_S (lp_Dom ad0 σ0 sz) s.heap H locs ∧ (lp_loc ad ls L ∧ (∀ v, some v ∈ L → lp_ok σ v) ∧ L.length = nL) ∧
  (cells + 3 * lp_dead σ ≤ R.cells ∧ slots + 124 * lp_dead σ ≤ R.slots) ∧ (H.size + 3 * lp_dead σ ≤ s.heap.size + R.cells ∧ lp_TS H + 124 * lp_dead σ ≤ lp_TS s.heap + R.slots)
def lp_ret (ro : Option Int32) (st : List lpV) : List lpV := match ro with
  | some x => .inl x :: st
  | none => st
theorem lp_ok_set {σ : lpM} : ∀ {L : lpL} {i : Nat} {v : lpV}, (∀ v, some v ∈ L → lp_ok σ v) → lp_ok σ v → ∀ w, some w ∈ lp_set L i (some v) → lp_ok σ w := by
  intro L i v h hv w hw
  rw [lp_set_eq] at hw
  rcases List.mem_or_eq_of_mem_set hw with h1 | h1
  · exact h w h1
  · cases h1
    exact hv
theorem lp_dead_mono {σ σ' : lpM} (h : ∀ r k, lp_live σ r k → lp_live σ' r k) : lp_dead σ' ≤ lp_dead σ := by
  unfold lp_dead
  refine List.countP_mono_left (fun k hk hz => ?_)
  have hk := List.mem_range.mp hk
  have hz : σ' 9 0 k = 0 := of_decide_eq_true hz
  refine decide_eq_true ?_
  rcases Classical.em (σ 9 0 k = 0) with q | q
  · exact q
  · have hc : lp_cnt 26 = 132 := rfl
    exact absurd hz ((h 26 k ⟨by omega, fun _ _ => q⟩).2 rfl hk)
theorem lp_narrow_b {x : Int32} (h : x = 0 ∨ x = 1) : narrow .boolean (.int x) = .int x := by
  rcases h with rfl | rfl <;> decide
theorem lp_At_put {D : va_G} {cI cD : ClassId} {R : Room} {s : State} {ad0 : Nat → Nat → Nat} {σ0 : lpM} {sz nL : Nat} {ad : Nat → Nat → Nat} {σ : lpM} {H H1 : Heap} {locs : List Loc} {cells slots : Nat} {ls : Array Slot} {L : lpL} {r k j j' : Nat} {x : Int32}
    (A : lp_At D cI cD R s ad0 σ0 sz nL ad σ H locs cells slots ls L) (h9 : r ≠ 9) (hl : lp_live σ r k) (ha : va_at D vwCl (ad r k, lp_cell cI cD ad (lp_w3 σ r k j x) r k) H1) (z : H1.size = H.size) (ho : ∀ q : Nat, q ≠ ad r k → H1[q]? = H[q]?) (ht : ∀ q : Nat, (H1[q]?).map (fun c => c.slots.size) = (H[q]?).map (fun c => c.slots.size)) : lp_At D cI cD R s ad0 σ0 sz nL ad (lp_w3 σ r k j x) H1 (locs ++ [⟨ad r k, j'⟩]) cells slots ls L := by
  obtain ⟨a1, a2, a3, a4, ⟨b1, b2, b3⟩, c1, c2⟩ := A
  refine ⟨lp_Rep_w3 a1 h9 hl ha ho, fun r k h => ?_, fun r k h => ?_, a4.put z ho (a3 r k hl), ⟨b1, fun v hv => (lp_ok_w3 h9 v).mpr (b2 v hv), b3⟩, ?_, ?_⟩
  · exact ⟨(lp_live_w3 h9 _ _).mpr (a2 r k h).1, (a2 r k h).2⟩
  · exact a3 r k ((lp_live_w3 h9 _ _).mp h)
  · rw [lp_dead_w3 h9]; exact c1
  · rw [lp_dead_w3 h9, z, lp_TS_set z ht]; exact c2
theorem lp_lay9 {r : Nat} {len : Nat → Nat} (h : lp_lay r = some (.inr (.inl len))) : r ≠ 9 := by
  rintro rfl
  cases h
theorem lp_lay9o {r : Nat} {q : Nat × List (Option (Nat × (Nat → Nat)))} (h : lp_lay r = some (.inl q)) : r ≠ 9 := by
  rintro rfl
  cases h
section LPI
variable {p : Program} {l : Launch} {e : Env} {R : Room} {s : State} {m : MethodId} {args : Array Value} {below : List Frame} {meth : Method} {c : Code}
variable {D : va_G} {cI cD : ClassId} {cc : ByteArray} {nL h : Nat} {own : String} {y0 : MethodName} {ret0 : Option FieldType} {ad0 : Nat → Nat → Nat} {σ0 : lpM} {sz : Nat} {Q0 : Option Int32 → lpM → Prop}
variable {fl pf : List (Nat × Nat × Nat)} {kc : List (Nat × Int32)} {cs : List (Nat × Option Nat × Nat × lpS)} {bl : Bool}
set_option maxHeartbeats 4000000 in
/-- a call out of a method -/
theorem lp_callS (hx : p.tables.exec = Jvm.exec) (hb : c.code = cc) (hml : c.maxLocals = nL) (hown : s.vm.findClass own = some m.cls) (hts : ∀ w ∈ (Cond.code y0 cc nL ret0 :: lp_tbl), w.before args s = true) (hWd : lp_Wd D cI cD s)
    (hR : R.frames = h ∧ R.locals = 36 * h) (hsz0 : s.heap.size = sz)
    {Q : State → Prop} {x : Nat × Option Nat × Nat × lpS} (hC : lp_CallC l D cI cD own h x) {ad : Nat → Nat → Nat} {σ : lpM} {H : Heap} {locs : List Loc} {cells slots : Nat} {ls : Array Slot} {L : lpL} {pc : Nat}
    (A : lp_At D cI cD R s ad0 σ0 sz nL ad σ H locs cells slots ls L) {as : List lpV} {st : List lpV} {I : Instr} (hn : as.length = (match x.2.1 with | some _ => x.2.2.1 + 1 | none => x.2.2.1)) (hoka : ∀ v ∈ as, lp_ok σ v) (hok : ∀ v ∈ st, lp_ok σ v) (hlen : st.length ≤ 8)
    (hI : I = (match x.2.1 with | some _ => .invokevirtual x.1 | none => .invokestatic x.1)) (hd : decode cc pc = .ok (I, 3))
    (hrecv : ∀ ci, x.2.1 = some ci → ∃ r k fs, as.head? = some (.inr (some (r, k))) ∧ lp_lay r = some (.inl (ci, fs)))
    {Qk : Option Int32 → lpM → Prop} (hspec : x.2.2.2 as σ Qk)
    (kk : ∀ (ro : Option Int32) (σ' : lpM) (ad' : Nat → Nat → Nat) (H' : Heap) (locs' : List Loc) (cells' slots' : Nat), Qk ro σ' → lp_At D cI cD R s ad0 σ0 sz nL ad' σ' H' locs' cells' slots' ls L → (∀ v ∈ st, lp_ok σ' v) →
      W p l e R s m args below meth c H' locs' cells' slots' Q (F0 m (pc + 3) ls ((lp_ret ro st).map (lp_cv ad')))) :
    W p l e R s m args below meth c H locs cells slots Q (F0 m pc ls ((as.reverse ++ st).map (lp_cv ad))) := by
  obtain ⟨y, bytes, nL', ret, h', hCt, hh, hnL, hcode, hini, ⟨hd1, hd2, hd3⟩, hlnk, hk⟩ := hC
  obtain ⟨a1, a2, a3, a4, ⟨b1, b2, b3⟩, ⟨c1, c2⟩, c3, c4⟩ := id A
  have hM := hCt ad σ as Qk H.size hoka hspec
  have hG := lp_good (w0 := Cond.code y0 cc nL ret0) hcode
  have T : ∀ w ∈ lp_tbl, w.before args s = true := fun w hw => hts w (List.mem_cons_of_mem _ hw)
  have hpre : ∀ U : State, U.heap = H → s.WarmedH U.vm → lp_Pc D cI cD ad σ as H.size (as.map (lp_cv ad)).toArray U := fun U hU hW => ⟨rfl, by rw [hU], by rw [hU]; exact a1, lp_Wd_move hW hWd⟩
  have hRm : ({ frames := h', cells := 3 * lp_dead σ, slots := 124 * lp_dead σ, locals := 36 * h' } : Room).frames + 1 ≤ R.frames ∧ 8 + (nL' + 11) + ({ frames := h', cells := 3 * lp_dead σ, slots := 124 * lp_dead σ, locals := 36 * h' } : Room).locals ≤ R.locals := by
    rw [hR.1, hR.2]
    exact ⟨hh, by show 8 + (nL' + 11) + 36 * h' ≤ 36 * h; omega⟩
  have hf : cells + 3 * lp_dead σ ≤ R.cells ∧ slots + 124 * lp_dead σ ≤ R.slots := ⟨c1, c2⟩
  have hroom : 2 * (F0 m pc ls ((as.reverse ++ st).map (lp_cv ad))).monitorRoom + ((st.map (lp_cv ad)).map fun v => v.category).sum ≤ 8 := by
    refine lv_room ?_
    have e : ((st.map (lp_cv ad)).map fun v => v.category) = List.replicate st.length 1 := by
      apply List.ext_getElem?
      intro i
      simp only [List.getElem?_map, List.getElem?_replicate]
      by_cases hi : i < st.length
      · rw [List.getElem?_eq_getElem hi]
        simp [hi, lp_cat]
      · rw [List.getElem?_eq_none (by omega)]
        simp [hi]
    rw [e]
    simp
    omega
  have hsz : ls.size = nL := b1.1.trans b3
  -- the run
  have hrun : va_Run p l e R s m args below meth c H locs cells slots (3 * lp_dead σ) (124 * lp_dead σ) (F0 m pc ls ((as.reverse ++ st).map (lp_cv ad))) (st.map (lp_cv ad)) (lp_Qc D cI cD ad σ H.size Qk (as.map (lp_cv ad)).toArray) (lp_Dom ad σ H.size) := by
    cases hx1 : x.2.1 with
    | none =>
      rw [hx1] at hn hI hk
      subst hI
      have hsta := T _ hk
      have hn' : (as.map (lp_cv ad)).length = x.2.2.1 := by simpa using hn
      have hst : (F0 m pc ls ((as.reverse ++ st).map (lp_cv ad))).stack = (as.map (lp_cv ad)).reverse ++ st.map (lp_cv ad) := by simp
      rcases hlnk with hl | ⟨host, hl⟩
      · exact va_runS (As := as.map (lp_cv ad)) ⟨hx, hb, hml, hown, hts⟩ hM ⟨callB_of x.2.2.1 hts hG rfl rfl rfl (T _ hini) (T _ hl) ⟨hd1, hd2, hd3⟩ hRm, hsta⟩ ⟨lp_blind, hpre⟩ rfl hn' hsz hst hroom hd hf
      · exact va_runSN (As := as.map (lp_cv ad)) ⟨hx, hb, hml, hown, hts⟩ hM ⟨va_cnB x.2.2.1 hts hG rfl rfl rfl (hWd.2 _ hl) (T _ hini) ⟨hd1, hd2, hd3⟩ hRm, hsta, trivial⟩ ⟨lp_blind, hpre⟩ rfl hn' hsz hst hroom hd hf
    | some ci =>
      rw [hx1] at hn hI hk
      subst hI
      obtain ⟨r, k, fs, hhd, hlay⟩ := hrecv ci hx1
      obtain ⟨hin, hsel, q, hq, hqy⟩ := hk
      rcases as with _ | ⟨v0, as⟩
      · cases hhd
      obtain rfl : v0 = .inr (some (r, k)) := by simpa using hhd
      have hlive : lp_live σ r k := hoka _ List.mem_cons_self
      have hn' : (as.map (lp_cv ad)).length = x.2.2.1 := by simpa using hn
      have hst : (F0 m pc ls (((.inr (some (r, k)) :: as).reverse ++ st).map (lp_cv ad))).stack = (as.map (lp_cv ad)).reverse ++ .ref (ad r k) :: st.map (lp_cv ad) := by simp [lp_cv]
      have hat := a1.1 r k hlive
      have hcell : lp_cell cI cD ad σ r k = .inr (ci, lp_fv ad σ r k 0 fs) := by simp [lp_cell, hlay]
      rw [hcell] at hat
      have hrc : ∃ cellB : Cell, H[ad r k]? = some cellB ∧ cellB.vm.isStatics = false ∧ s.vm.findClass y.cls = some cellB.cls := by
        have := va_recv (ws := [(ad r k, .inr (ci, lp_fv ad σ r k 0 fs))]) (q0 := 0) (a := ad r k) hWd.1 (fun k' q' hk' => by
          rcases k' with _ | k'
          · cases hk'; exact hat
          · simp at hk') hq rfl
        rw [hqy] at this
        exact this
      rcases hlnk with hl | ⟨host, hl⟩
      · exact va_runV (As := as.map (lp_cv ad)) (b := ad r k) (C := y.cls) ⟨hx, hb, hml, hown, hts⟩ hM ⟨callB_of x.2.2.1 hts hG rfl rfl rfl (T _ hini) (T _ hl) ⟨hd1, hd2, hd3⟩ hRm, T _ hin, T _ hsel⟩ ⟨lp_blind, hrc, hpre⟩ rfl hn' hsz hst hroom hd hf
      · exact va_runVN (As := as.map (lp_cv ad)) (b := ad r k) (C := y.cls) ⟨hx, hb, hml, hown, hts⟩ hM ⟨va_cnB x.2.2.1 hts hG rfl rfl rfl (hWd.2 _ hl) (T _ hini) ⟨hd1, hd2, hd3⟩ hRm, T _ hin, T _ hsel⟩ ⟨lp_blind, hrc, hpre⟩ rfl hn' hsz hst hroom hd hf
  refine lp_call hrun (fun v st₀ t LL h0 hW hq hL => ?_)
  obtain ⟨ro, σ', ad', e1, hQ, hRep, -, hlv, hdm, ⟨t1, t2⟩, hF⟩ := hq
  cases e1
  rw [h0] at t1 t2
  have hdom : ∀ q, lp_Dom ad σ H.size q → lp_Dom ad0 σ0 sz q := by
    rintro q (⟨r, k, hl, rfl⟩ | hq)
    · exact a3 r k hl
    · exact Or.inr (by rw [← hsz0]; exact Nat.le_trans a4.1 hq)
  have cvs : ∀ v, lp_ok σ v → lp_cv ad' v = lp_cv ad v ∧ lp_ok σ' v := by
    intro v hv
    rcases v with y | _ | q
    · exact ⟨rfl, trivial⟩
    · exact ⟨rfl, trivial⟩
    · have := hlv q.1 q.2 hv
      exact ⟨by simp [lp_cv, this.2], this.1⟩
  have est : st.map (lp_cv ad) = st.map (lp_cv ad') := List.map_congr_left (fun v hv => (cvs v (hok v hv)).1.symm)
  have eret : (Option.map Value.int ro).toList ++ st.map (lp_cv ad) = (lp_ret ro st).map (lp_cv ad') := by
    rw [est]
    cases ro <;> simp [lp_cv, lp_ret]
  have hdd := lp_dead_mono (fun r k h => (hlv r k h).1)
  refine lp_tight (k := R.cells - 3 * lp_dead σ') (n := R.slots - 124 * lp_dead σ') (by omega) (by omega) ?_
  refine W.eq (g2 := F0 m (pc + 3) ls ((lp_ret ro st).map (lp_cv ad'))) (by rw [← eret]) ?_
  refine kk ro σ' ad' t.heap (locs ++ LL) _ _ hQ ⟨hRep, fun r k h => ?_, fun r k h => hdom _ (hdm r k h), ⟨?_, fun q h1 h2 => ?_, fun q hq => ?_⟩, ⟨?_, fun v hv => (cvs v (b2 v hv)).2, b3⟩, ?_, ?_⟩ (fun v hv => (cvs v (hok v hv)).2)
  · have := a2 r k h
    have h2 := hlv r k this.1
    exact ⟨h2.1, h2.2.trans this.2⟩
  · exact Nat.le_trans a4.1 (by rw [← h0]; exact hF.1)
  · rw [hF.2 q (by rw [h0]; exact Nat.lt_of_lt_of_le h1 a4.1) (fun z => h2 (hdom q z)), h0]
    exact a4.2.1 q h1 h2
  · rcases List.mem_append.mp hq with h | h
    · exact a4.2.2 q h
    · exact hdom _ (hL q h)
  · show lv_has ls L.length (lp_kl ad' 0 L)
    rw [lp_kl_congr (ad := ad) (fun v hv => (cvs v (b2 v hv)).1)]
    exact b1
  · constructor <;> omega
  · constructor <;> omega
end LPI
