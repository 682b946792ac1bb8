/-! ===== a call out of the law ===== -/
theorem lp_goodT {y : MethodName} {bytes : ByteArray} {nL : Nat} {ret : Option FieldType} (h : Cond.code y bytes nL ret ∈ lp_tbl) : GoodIn lp_tbl (Cond.code y bytes nL ret :: lp_tbl) := by
  intro w hw
  have hm : w ∈ lp_tbl := by
    rcases List.mem_cons.mp hw with rfl | hw
    · exact h
    · exact hw
  exact ⟨hm, good_of_word (List.mem_filter.mp hm).2⟩
section LPJ
variable {p : Program} {l : Launch} {e : Env} {R : Room} {s : State} {m : MethodId} {args : Array Value} {below : List Frame} {meth : Method} {c : Code}
variable {D : va_G} {cI cD : ClassId} {cc : ByteArray} {nL h : Nat} {own : String} {y0 : MethodName} {ret0 : Option FieldType} {ad0 : Nat → Nat → Nat} {σ0 : lpM} {sz : Nat} {Q0 : Option Int32 → lpM → Prop}
variable {fl pf : List (Nat × Nat × Nat)} {kc : List (Nat × Int32)} {cs : List (Nat × Option Nat × Nat × lpS)} {bl : Bool}
set_option maxHeartbeats 4000000 in
/-- a call out of a method -/
theorem lp_callT (hx : p.tables.exec = Jvm.exec) (hb : c.code = cc) (hml : c.maxLocals = nL) (hown : s.vm.findClass own = some m.cls) (hts : ∀ w ∈ lp_tbl, w.before args s = true) (hWd : lp_Wd D cI cD s)
    (hR : R.frames = h ∧ R.locals = 36 * h) (hsz0 : s.heap.size = sz)
    {Q : State → Prop} {x : Nat × Option Nat × Nat × lpS} (hC : lp_CallC l D cI cD own h x) {ad : Nat → Nat → Nat} {σ : lpM} {H : Heap} {locs : List Loc} {cells slots : Nat} {ls : Array Slot} {L : lpL} {pc : Nat}
    (A : lp_At D cI cD R s ad0 σ0 sz nL ad σ H locs cells slots ls L) {as : List lpV} {st : List lpV} {I : Instr} (hn : as.length = (match x.2.1 with | some _ => x.2.2.1 + 1 | none => x.2.2.1)) (hoka : ∀ v ∈ as, lp_ok σ v) (hok : ∀ v ∈ st, lp_ok σ v) (hlen : st.length ≤ 8)
    (hI : I = (match x.2.1 with | some _ => .invokevirtual x.1 | none => .invokestatic x.1)) (hd : decode cc pc = .ok (I, 3))
    (hrecv : ∀ ci, x.2.1 = some ci → ∃ r k fs, as.head? = some (.inr (some (r, k))) ∧ lp_lay r = some (.inl (ci, fs)))
    {Qk : Option Int32 → lpM → Prop} (hspec : x.2.2.2 as σ Qk)
    (kk : ∀ (ro : Option Int32) (σ' : lpM) (ad' : Nat → Nat → Nat) (H' : Heap) (locs' : List Loc) (cells' slots' : Nat), Qk ro σ' → lp_At D cI cD R s ad0 σ0 sz nL ad' σ' H' locs' cells' slots' ls L → (∀ v ∈ st, lp_ok σ' v) →
      W p l e R s m args below meth c H' locs' cells' slots' Q (F0 m (pc + 3) ls ((lp_ret ro st).map (lp_cv ad')))) :
    W p l e R s m args below meth c H locs cells slots Q (F0 m pc ls ((as.reverse ++ st).map (lp_cv ad))) := by
  obtain ⟨y, bytes, nL', ret, h', hCt, hh, hnL, hcode, hini, ⟨hd1, hd2, hd3⟩, hlnk, hk⟩ := hC
  obtain ⟨a1, a2, a3, a4, ⟨b1, b2, b3⟩, ⟨c1, c2⟩, c3, c4⟩ := id A
  have hM := hCt ad σ as Qk H.size hoka hspec
  have hG := lp_goodT hcode
  have T : ∀ w ∈ lp_tbl, w.before args s = true := hts
  have hpre : ∀ U : State, U.heap = H → s.WarmedH U.vm → lp_Pc D cI cD ad σ as H.size (as.map (lp_cv ad)).toArray U := fun U hU hW => ⟨rfl, by rw [hU], by rw [hU]; exact a1, lp_Wd_move hW hWd⟩
  have hRm : ({ frames := h', cells := 3 * lp_dead σ, slots := 124 * lp_dead σ, locals := 36 * h' } : Room).frames + 1 ≤ R.frames ∧ 8 + (nL' + 11) + ({ frames := h', cells := 3 * lp_dead σ, slots := 124 * lp_dead σ, locals := 36 * h' } : Room).locals ≤ R.locals := by
    rw [hR.1, hR.2]
    exact ⟨hh, by show 8 + (nL' + 11) + 36 * h' ≤ 36 * h; omega⟩
  have hf : cells + 3 * lp_dead σ ≤ R.cells ∧ slots + 124 * lp_dead σ ≤ R.slots := ⟨c1, c2⟩
  have hroom : 2 * (F0 m pc ls ((as.reverse ++ st).map (lp_cv ad))).monitorRoom + ((st.map (lp_cv ad)).map fun v => v.category).sum ≤ 8 := by
    refine lv_room ?_
    have e : ((st.map (lp_cv ad)).map fun v => v.category) = List.replicate st.length 1 := by
      apply List.ext_getElem?
      intro i
      simp only [List.getElem?_map, List.getElem?_replicate]
      by_cases hi : i < st.length
      · rw [List.getElem?_eq_getElem hi]
        simp [hi, lp_cat]
      · rw [List.getElem?_eq_none (by omega)]
        simp [hi]
    rw [e]
    simp
    omega
  have hsz : ls.size = nL := b1.1.trans b3
  -- the run
  have hrun : va_Run p l e R s m args below meth c H locs cells slots (3 * lp_dead σ) (124 * lp_dead σ) (F0 m pc ls ((as.reverse ++ st).map (lp_cv ad))) (st.map (lp_cv ad)) (lp_Qc D cI cD ad σ H.size Qk (as.map (lp_cv ad)).toArray) (lp_Dom ad σ H.size) := by
    cases hx1 : x.2.1 with
    | none =>
      rw [hx1] at hn hI hk
      subst hI
      have hsta := T _ hk
      have hn' : (as.map (lp_cv ad)).length = x.2.2.1 := by simpa using hn
      have hst : (F0 m pc ls ((as.reverse ++ st).map (lp_cv ad))).stack = (as.map (lp_cv ad)).reverse ++ st.map (lp_cv ad) := by simp
      rcases hlnk with hl | ⟨host, hl⟩
      · exact va_runS (As := as.map (lp_cv ad)) ⟨hx, hb, hml, hown, hts⟩ hM ⟨callB_of x.2.2.1 hts hG rfl rfl rfl (T _ hini) (T _ hl) ⟨hd1, hd2, hd3⟩ hRm, hsta⟩ ⟨lp_blind, hpre⟩ rfl hn' hsz hst hroom hd hf
      · exact va_runSN (As := as.map (lp_cv ad)) ⟨hx, hb, hml, hown, hts⟩ hM ⟨va_cnB x.2.2.1 hts hG rfl rfl rfl (hWd.2 _ hl) (T _ hini) ⟨hd1, hd2, hd3⟩ hRm, hsta, trivial⟩ ⟨lp_blind, hpre⟩ rfl hn' hsz hst hroom hd hf
    | some ci =>
      rw [hx1] at hn hI hk
      subst hI
      obtain ⟨r, k, fs, hhd, hlay⟩ := hrecv ci hx1
      obtain ⟨hin, hsel, q, hq, hqy⟩ := hk
      rcases as with _ | ⟨v0, as⟩
      · cases hhd
      obtain rfl : v0 = .inr (some (r, k)) := by simpa using hhd
      have hlive : lp_live σ r k := hoka _ List.mem_cons_self
      have hn' : (as.map (lp_cv ad)).length = x.2.2.1 := by simpa using hn
      have hst : (F0 m pc ls (((.inr (some (r, k)) :: as).reverse ++ st).map (lp_cv ad))).stack = (as.map (lp_cv ad)).reverse ++ .ref (ad r k) :: st.map (lp_cv ad) := by simp [lp_cv]
      have hat := a1.1 r k hlive
      have hcell : lp_cell cI cD ad σ r k = .inr (ci, lp_fv ad σ r k 0 fs) := by simp [lp_cell, hlay]
      rw [hcell] at hat
      have hrc : ∃ cellB : Cell, H[ad r k]? = some cellB ∧ cellB.vm.isStatics = false ∧ s.vm.findClass y.cls = some cellB.cls := by
        have := va_recv (ws := [(ad r k, .inr (ci, lp_fv ad σ r k 0 fs))]) (q0 := 0) (a := ad r k) hWd.1 (fun k' q' hk' => by
          rcases k' with _ | k'
          · cases hk'; exact hat
          · simp at hk') hq rfl
        rw [hqy] at this
        exact this
      rcases hlnk with hl | ⟨host, hl⟩
      · exact va_runV (As := as.map (lp_cv ad)) (b := ad r k) (C := y.cls) ⟨hx, hb, hml, hown, hts⟩ hM ⟨callB_of x.2.2.1 hts hG rfl rfl rfl (T _ hini) (T _ hl) ⟨hd1, hd2, hd3⟩ hRm, T _ hin, T _ hsel⟩ ⟨lp_blind, hrc, hpre⟩ rfl hn' hsz hst hroom hd hf
      · exact va_runVN (As := as.map (lp_cv ad)) (b := ad r k) (C := y.cls) ⟨hx, hb, hml, hown, hts⟩ hM ⟨va_cnB x.2.2.1 hts hG rfl rfl rfl (hWd.2 _ hl) (T _ hini) ⟨hd1, hd2, hd3⟩ hRm, T _ hin, T _ hsel⟩ ⟨lp_blind, hrc, hpre⟩ rfl hn' hsz hst hroom hd hf
  refine lp_call hrun (fun v st₀ t LL h0 hW hq hL => ?_)
  obtain ⟨ro, σ', ad', e1, hQ, hRep, -, hlv, hdm, ⟨t1, t2⟩, hF⟩ := hq
  cases e1
  rw [h0] at t1 t2
  have hdom : ∀ q, lp_Dom ad σ H.size q → lp_Dom ad0 σ0 sz q := by
    rintro q (⟨r, k, hl, rfl⟩ | hq)
    · exact a3 r k hl
    · exact Or.inr (by rw [← hsz0]; exact Nat.le_trans a4.1 hq)
  have cvs : ∀ v, lp_ok σ v → lp_cv ad' v = lp_cv ad v ∧ lp_ok σ' v := by
    intro v hv
    rcases v with y | _ | q
    · exact ⟨rfl, trivial⟩
    · exact ⟨rfl, trivial⟩
    · have := hlv q.1 q.2 hv
      exact ⟨by simp [lp_cv, this.2], this.1⟩
  have est : st.map (lp_cv ad) = st.map (lp_cv ad') := List.map_congr_left (fun v hv => (cvs v (hok v hv)).1.symm)
  have eret : (Option.map Value.int ro).toList ++ st.map (lp_cv ad) = (lp_ret ro st).map (lp_cv ad') := by
    rw [est]
    cases ro <;> simp [lp_cv, lp_ret]
  have hdd := lp_dead_mono (fun r k h => (hlv r k h).1)
  refine lp_tight (k := R.cells - 3 * lp_dead σ') (n := R.slots - 124 * lp_dead σ') (by omega) (by omega) ?_
  refine W.eq (g2 := F0 m (pc + 3) ls ((lp_ret ro st).map (lp_cv ad'))) (by rw [← eret]) ?_
  refine kk ro σ' ad' t.heap (locs ++ LL) _ _ hQ ⟨hRep, fun r k h => ?_, fun r k h => hdom _ (hdm r k h), ⟨?_, fun q h1 h2 => ?_, fun q hq => ?_⟩, ⟨?_, fun v hv => (cvs v (b2 v hv)).2, b3⟩, ?_, ?_⟩ (fun v hv => (cvs v (hok v hv)).2)
  · have := a2 r k h
    have h2 := hlv r k this.1
    exact ⟨h2.1, h2.2.trans this.2⟩
  · exact Nat.le_trans a4.1 (by rw [← h0]; exact hF.1)
  · rw [hF.2 q (by rw [h0]; exact Nat.lt_of_lt_of_le h1 a4.1) (fun z => h2 (hdom q z)), h0]
    exact a4.2.1 q h1 h2
  · rcases List.mem_append.mp hq with h | h
    · exact a4.2.2 q h
    · exact hdom _ (hL q h)
  · show lv_has ls L.length (lp_kl ad' 0 L)
    rw [lp_kl_congr (ad := ad) (fun v hv => (cvs v (b2 v hv)).1)]
    exact b1
  · constructor <;> omega
  · constructor <;> omega
end LPJ
/-! THE CLAIM OUT OF ONE WALK OF THE LAW'S BODY. Your part is whole_start (and what it stands on); all else here is the same for every law, but numbers. -/
def R_law : String := "LoadPressLaw"
def lw_P (b : Addr) (xs : List Int32) (args : Array Value) (s : State) : Prop := args = #[.ref b] ∧ s.IntsAt b xs ∧ xs.length ≤ 2048 ∧ (Jvm.Cond.and given_1 narrow_1).before args s = true
def lw_Q (_ : Array Value) (s : State) (o : Outcome) (t : State) : Prop := o = .returned (some (.int 1)) ∧ Framed s o t [] 600000 7302250
def lw_Z (below : List Frame) (a : Array Value) (s : State) : State → Prop := fun t => ∃ o, t.status = .running ∧ Ended t below o ∧ lw_Q a s o t
/-- the law's own end, with 1 on the stack, nothing written that was there before, its room as the claim has it -/
theorem lw_ret {p : Program} {l : Launch} {e : Env} {s : State} {m : MethodId} {below : List Frame} {meth : Method} {c : Code} {b : Nat} (hx : p.tables.exec = Jvm.exec) (hb : c.code = code) (hr : meth.sig.returnType = ret) (hlocks : meth.locks = false) {pc : Nat} {H : Heap} {ls : Array Slot} (hdg : decode code pc = .ok (.ireturn, 1)) : W p l e room_1 s m #[Value.ref b] below meth c H [] 600000 7302250 (lw_Z below #[Value.ref b] s) (F0 m pc ls [.int 1]) := by
  intro T hT X
  obtain ⟨fs, hret, hrun, hended, hW, hframe⟩ := X.leave (v := some (.int 1)) (hlocks := hlocks) (fun h => by rw [hr] at h; cases h)
  have hmeth' : T.vm.method? m = some meth := X.method'
  refine ⟨T.setFrames fs, ?_, .returned (some (.int 1)), hrun, hended, rfl, ⟨_, rfl⟩, hW, hframe⟩
  jvm_step X.here [X.here.top, hx, hb, hdg, hmeth', hr, ret, narrow_b1]
  (try refine ⟨rfl, ?_⟩); (try refine ⟨rfl, ?_⟩)
  first | (intro acts; rw [hret _ acts rfl rfl rfl]) | rw [hret _ _ rfl rfl rfl]
  exact Steps.refl _
/-- what holds at the law's entry: the machine, the code, the tables' words (any of lw_tbl by 'hts w (by decide +kernel)'), the script of L ints xs at the cell b, what the Statement gives of the start (any of its parts by flat_of_before) -/
def lw_At (p : Program) (s : State) (m : MethodId) (meth : Method) (c : Code) (b L : Nat) (xs : Nat → Int32) : Prop :=
  p.tables.exec = Jvm.exec ∧ c.code = code ∧ meth.sig.returnType = ret ∧ c.maxLocals = 4 ∧ s.vm.findClass R_law = some m.cls ∧ (∀ w ∈ lw_tbl, w.before #[Value.ref b] s = true) ∧ va_X b L xs s s.heap ∧ b < s.heap.size ∧ meth.locks = false ∧ (Jvm.Cond.and given_1 narrow_1).before #[Value.ref b] s = true

def lw_A (D : va_G) (cI cD : ClassId) (s : State) (ad0 : Nat → Nat → Nat) (σ0 : lpM) (b : Nat) (ad : Nat → Nat → Nat) (σ : lpM) (H : Heap) (locs : List Loc) (cells slots : Nat) (ls : Array Slot) (i : Int32) : Prop :=
  lp_At D cI cD room_1 s ad0 σ0 s.heap.size 4 ad σ H locs cells slots ls [none, some (.inr (some (1, 0))), some (.inr (some (30, 0))), some (.inl i)] ∧ lv_has ls 4 [(0, .ref b), (1, .ref (ad0 1 0)), (2, .ref (ad0 30 0)), (3, .int i)]
theorem lw_live {σ : lpM} {r : Nat} (h : r = 1 ∨ r = 30) : lp_live σ r 0 := by
  rcases h with rfl | rfl
  · exact ⟨by decide, fun h => by cases h⟩
  · exact ⟨by decide, fun h => by cases h⟩
section LWC
variable {p : Program} {l : Launch} {e : Env} {s : State} {m : MethodId} {below : List Frame} {meth : Method} {c : Code} {Q : State → Prop}
variable {D : va_G} {cI cD : ClassId} {ad0 : Nat → Nat → Nat} {σ0 : lpM} {b L : Nat} {xs : Nat → Int32}
theorem lw_tb (C0 : lw_At p s m meth c b L xs) : ∀ w ∈ lp_tbl, w.before #[Value.ref b] s = true := fun w hw => C0.2.2.2.2.2.1 w (List.mem_filter.mp hw).1
set_option maxHeartbeats 4000000 in
theorem lw_call (C0 : lw_At p s m meth c b L xs) (hWd : lp_Wd D cI cD s) {x : Nat × Option Nat × Nat × lpS} {ci rg : Nat} {fs : List (Option (Nat × (Nat → Nat)))} (hC : lp_CallOK l D cI cD RL 9 x) (hci : x.2.1 = some ci) (hlay : lp_lay rg = some (.inl (ci, fs))) (hrg : rg = 1 ∨ rg = 30)
    {ad : Nat → Nat → Nat} {σ : lpM} {H : Heap} {locs : List Loc} {cells slots : Nat} {ls : Array Slot} {i : Int32} (A : lw_A D cI cD s ad0 σ0 b ad σ H locs cells slots ls i) (xsA st : List Int32) (hn : xsA.length = x.2.2.1) (hst : st.length ≤ 8) {pc : Nat} (hd : decode code pc = .ok (.invokevirtual x.1, 3))
    {Qk : Option Int32 → lpM → Prop} (hspec : x.2.2.2 (.inr (some (rg, 0)) :: xsA.map (Sum.inl : Int32 → lpV)) σ Qk)
    (kk : ∀ (ro : Option Int32) (σ' : lpM) (ad' : Nat → Nat → Nat) (H' : Heap) (locs' : List Loc) (cells' slots' : Nat), Qk ro σ' → lw_A D cI cD s ad0 σ0 b ad' σ' H' locs' cells' slots' ls i → W p l e room_1 s m #[Value.ref b] below meth c H' locs' cells' slots' Q (F0 m (pc + 3) ls ((ro.map Value.int).toList ++ st.map Value.int))) :
    W p l e room_1 s m #[Value.ref b] below meth c H locs cells slots Q (F0 m pc ls (xsA.reverse.map Value.int ++ Value.ref (ad0 rg 0) :: st.map Value.int)) := by
  rcases hC with hC | hC
  rotate_left
  · exact absurd (hC.1.symm.trans hci) (by intro z; cases z)
  obtain ⟨hx, hb, hr, hml, hown, hts, hX, hbl, hlocks, hgv⟩ := id C0
  have hadr : ad rg 0 = ad0 rg 0 := (A.1.2.1 rg 0 (lw_live hrg)).2
  have est : ((((.inr (some (rg, 0)) :: xsA.map (Sum.inl : Int32 → lpV) : List lpV).reverse ++ st.map (Sum.inl : Int32 → lpV)).map (lp_cv ad)) : List Value) = xsA.reverse.map Value.int ++ Value.ref (ad0 rg 0) :: st.map Value.int := by
    simp [lp_cv, hadr, Function.comp_def]
  refine W.eq (g2 := F0 m pc ls (((.inr (some (rg, 0)) :: xsA.map (Sum.inl : Int32 → lpV) : List lpV).reverse ++ st.map (Sum.inl : Int32 → lpV)).map (lp_cv ad))) (by rw [est]) ?_
  refine lp_callT (h := 9) (own := RL) hx hb hml hown (lw_tb C0) hWd ⟨rfl, rfl⟩ rfl hC A.1 (as := .inr (some (rg, 0)) :: xsA.map (Sum.inl : Int32 → lpV)) (st := st.map (Sum.inl : Int32 → lpV)) (by rw [hci]; simp [hn]) (fun v hv => ?_) (fun v hv => ?_) (by simpa using hst) (by rw [hci]) hd (fun cj hcj => ?_) hspec (fun ro σ' ad' H' locs' cells' slots' hQ A' hok' => ?_)
  · rcases List.mem_cons.mp hv with rfl | hv
    · exact lw_live hrg
    · obtain ⟨w, -, rfl⟩ := List.mem_map.mp hv
      exact trivial
  · obtain ⟨w, -, rfl⟩ := List.mem_map.mp hv
    exact trivial
  · have e1 : cj = ci := Option.some.inj (hcj.symm.trans hci)
    subst e1
    exact ⟨rg, 0, fs, rfl, hlay⟩
  · have e2 : ((lp_ret ro (st.map (Sum.inl : Int32 → lpV))).map (lp_cv ad') : List Value) = (ro.map Value.int).toList ++ st.map Value.int := by
      cases ro <;> simp [lp_ret, lp_cv, Function.comp_def]
    refine W.eq (g2 := F0 m (pc + 3) ls ((ro.map Value.int).toList ++ st.map Value.int)) (by rw [e2]) ?_
    exact kk ro σ' ad' H' locs' cells' slots' hQ ⟨A', A.2⟩
/-- script[i + k] -/
theorem lw_arg (C0 : lw_At p s m meth c b L xs) (hDm : ∀ q, lp_Dom ad0 σ0 s.heap.size q → s.heap.size ≤ q) {ad : Nat → Nat → Nat} {σ : lpM} {H : Heap} {locs : List Loc} {cells slots : Nat} {ls : Array Slot} {t : Nat} (A : lw_A D cI cD s ad0 σ0 b ad σ H locs cells slots ls (nI t)) (k : Nat) {n : Int} (hk : Int32.ofInt n = nI k) (ht : t + k < L) (hL : L ≤ 2048) {pc : Nat} {rest : List Value}
    (d0 : decode code pc = .ok (.aload_n 0, 1)) (d1 : decode code (pc + 1) = .ok (.iload_n 3, 1)) (d2 : decode code (pc + 2) = .ok (.iconst n, 1)) (d3 : decode code (pc + 3) = .ok (.iadd, 1)) (d4 : decode code (pc + 4) = .ok (.iaload, 1))
    (kk : W p l e room_1 s m #[Value.ref b] below meth c H locs cells slots Q (F0 m (pc + 5) ls (.int (xs (t + k)) :: rest))) : W p l e room_1 s m #[Value.ref b] below meth c H locs cells slots Q (F0 m pc ls rest) := by
  obtain ⟨hx, hb, hr, hml, hown, hts, hX, hbl, hlocks, hgv⟩ := id C0
  have hl := A.2
  have hS := A.1.2.2.2.1
  refine lv_aload_n hx hb d0 rfl (lv_at hl 0 rfl) ?_
  refine lv_iload_n hx hb d1 rfl (lv_at hl 3 rfl) ?_
  refine lv_iconst hx hb d2 hk ?_
  refine lv_iadd hx hb d3 ?_
  refine va_sld (A := lp_Dom ad0 σ0 s.heap.size) hx hb hX hbl (fun q => absurd (hDm b q) (by omega)) hS (by rw [nI_add]; exact lp_vin (by omega) (by omega)) d4 ?_
  rw [nI_add, lp_clm (by omega)]
  exact kk
end LWC
