/-! ===== the walk is sound: what lp_wp says, the machine does ===== -/
def lp_lnk (own : String) (i : Nat) (y : MethodName) : Prop := Cond.methodLink own i y ∈ lp_tbl ∨ ∃ host, Cond.methodLinkNest own i y host ∈ lp_nest
def lp_CallC (l : Launch) (D : va_G) (cI cD : ClassId) (own : String) (h : Nat) (x : Nat × Option Nat × Nat × lpS) : Prop :=
  ∃ (y : MethodName) (bytes : ByteArray) (nL : Nat) (ret : Option FieldType) (h' : Nat), lp_Ct l D cI cD y bytes nL ret h' x.2.2.2 ∧ h' + 1 ≤ h ∧ nL ≤ 17 ∧ Cond.code y bytes nL ret ∈ lp_tbl ∧ Cond.initialized y.cls ∈ lp_tbl ∧
    (y.cls ≠ "java/lang/invoke/MethodHandle" ∧ y.cls ≠ "java/lang/invoke/VarHandle" ∧ (parseMethodDescriptor y.desc).map (fun d => d.parameters.length) = some x.2.2.1) ∧ lp_lnk own x.1 y ∧
    (match x.2.1 with
      | some ci => Cond.instanceMethod y ∈ lp_tbl ∧ Cond.selects y.cls y y ∈ lp_tbl ∧ ∃ q : vw_C, vwCl[ci]? = some q ∧ q.1 = y.cls
      | none => Cond.static y ∈ lp_tbl)
/-- Math.max, Math.min: the library's own -/
def lp_CallM (own : String) (h : Nat) (x : Nat × Option Nat × Nat × lpS) : Prop := x.2.1 = none ∧ x.2.2.1 = 2 ∧ 1 ≤ h ∧ Cond.initialized "java/lang/Math" ∈ lp_tbl ∧
  ((Cond.methodLink own x.1 Lib.Math.max.name ∈ lp_tbl ∧ Cond.static Lib.Math.max.name ∈ lp_tbl ∧ Cond.code Lib.Math.max.name Lib.Math.max.code 2 (some .int) ∈ lp_tbl ∧ x.2.2.2 = sp_max) ∨
   (Cond.methodLink own x.1 Lib.Math.min.name ∈ lp_tbl ∧ Cond.static Lib.Math.min.name ∈ lp_tbl ∧ Cond.code Lib.Math.min.name Lib.Math.min.code 2 (some .int) ∈ lp_tbl ∧ x.2.2.2 = sp_min))
def lp_CallOK (l : Launch) (D : va_G) (cI cD : ClassId) (own : String) (h : Nat) (x : Nat × Option Nat × Nat × lpS) : Prop := lp_CallC l D cI cD own h x ∨ lp_CallM own h x
theorem lp_fl_mem : ∀ {t : List (Nat × Nat × Nat)} {i : Nat} {x : Nat × Nat}, lp_fl t i = some x → (i, x) ∈ t
  | [], _, _, h => by simp [lp_fl] at h
  | a :: t, i, x, h => by
    unfold lp_fl at h
    cases hb : Nat.beq a.1 i with
    | true =>
      rw [hb] at h
      have e : a.2 = x := Option.some.inj h
      rw [← e, ← Nat.eq_of_beq_eq_true hb]
      exact List.mem_cons_self
    | false =>
      rw [hb] at h
      exact List.mem_cons_of_mem _ (lp_fl_mem h)
theorem lp_kc_mem : ∀ {t : List (Nat × Int32)} {i : Nat} {x : Int32}, lp_kc t i = some x → (i, x) ∈ t
  | [], _, _, h => by simp [lp_kc] at h
  | a :: t, i, x, h => by
    unfold lp_kc at h
    cases hb : Nat.beq a.1 i with
    | true =>
      rw [hb] at h
      have e : a.2 = x := Option.some.inj h
      rw [← e, ← Nat.eq_of_beq_eq_true hb]
      exact List.mem_cons_self
    | false =>
      rw [hb] at h
      exact List.mem_cons_of_mem _ (lp_kc_mem h)
theorem lp_cs_mem : ∀ {t : List (Nat × Option Nat × Nat × lpS)} {i : Nat} {x : Option Nat × Nat × lpS}, lp_cs t i = some x → (i, x) ∈ t
  | [], _, _, h => by simp [lp_cs] at h
  | a :: t, i, x, h => by
    unfold lp_cs at h
    cases hb : Nat.beq a.1 i with
    | true =>
      rw [hb] at h
      have e : a.2 = x := Option.some.inj h
      rw [← e, ← Nat.eq_of_beq_eq_true hb]
      exact List.mem_cons_self
    | false =>
      rw [hb] at h
      exact List.mem_cons_of_mem _ (lp_cs_mem h)
theorem lp_cls {ci : Nat} {C : String} {T : u_T} {N : Nat} (h : vwCl[ci]? = some (C, T, N)) : (∀ w ∈ u_ws C T N, w ∈ lp_tbl) ∧ (∃ ty0 : Nat → FieldType, ∀ k, k < N → parseFieldDescriptor (T k).2.2.1 = some (ty0 k)) ∧ (∀ a, a < N → ∀ b, b < N → a ≠ b → (T a).2.1 ≠ (T b).2.1) := by
  match ci, h with
  | 0, h => cases h; exact ⟨lp_u0, ⟨_, tyX0_ok⟩, nmX0⟩
  | 1, h => cases h; exact ⟨lp_u1, ⟨_, tyX1_ok⟩, nmX1⟩
  | 2, h => cases h; exact ⟨lp_u2, ⟨_, tyX2_ok⟩, nmX2⟩
  | 3, h => cases h; exact ⟨lp_u3, ⟨_, tyX3_ok⟩, nmX3⟩
  | 4, h => cases h; exact ⟨lp_u4, ⟨_, tyX4_ok⟩, nmX4⟩
  | 5, h => cases h; exact ⟨lp_u5, ⟨_, tyX5_ok⟩, nmX5⟩
  | 6, h => cases h; exact ⟨lp_u6, ⟨_, tyX6_ok⟩, nmX6⟩
  | 7, h => cases h; exact ⟨lp_u7, ⟨_, tyX7_ok⟩, nmX7⟩
  | n + 8, h => simp [vwCl] at h
theorem lp_nest_move {w : Cond} (hw : lp_isNest w = true) {s U : State} (hW : s.WarmedH U.vm) (h : va_Nw w s) : va_Nw w U := by
  cases w with
  | fieldLinkNest a i b n d hh => exact va_Nw.warmF hW h
  | methodLinkNest a i x hh => exact va_Nw.warmM hW h
  | _ => cases hw
theorem lp_nest_on {w : Cond} (hw : lp_isNest w = true) : w.onTables = true := by
  cases w with
  | fieldLinkNest a i b n d hh => rfl
  | methodLinkNest a i x hh => rfl
  | _ => cases hw
theorem lp_Wd_move {D : va_G} {cI cD : ClassId} {s U : State} (hW : s.WarmedH U.vm) (h : lp_Wd D cI cD s) : lp_Wd D cI cD U :=
  ⟨va_K.moved hW.alike h.1, fun w hw => lp_nest_move (List.mem_filter.mp hw).2 hW (h.2 w hw)⟩
theorem lp_blind {D : va_G} {cI cD : ClassId} {ad : Nat → Nat → Nat} {σ : lpM} {as : List lpV} {sz : Nat} : FrameBlind (lp_Pc D cI cD ad σ as sz) := by
  intro a U g mk h
  obtain ⟨h1, h2, h3, h4, h5⟩ := h
  exact ⟨h1, h2, h3, va_K.moved (u := U) (U := U.calling g mk a) (Vm.Alike.refl U.vm) h4, fun w hw => va_Nw.same (u := U) (lp_nest_on (List.mem_filter.mp hw).2) rfl (h5 w hw)⟩
theorem lp_good {w0 : Cond} {y : MethodName} {bytes : ByteArray} {nL : Nat} {ret : Option FieldType} (h : Cond.code y bytes nL ret ∈ lp_tbl) : GoodIn (w0 :: lp_tbl) (Cond.code y bytes nL ret :: lp_tbl) := by
  intro w hw
  have hm : w ∈ lp_tbl := by
    rcases List.mem_cons.mp hw with rfl | hw
    · exact h
    · exact hw
  exact ⟨List.mem_cons_of_mem _ hm, good_of_word (List.mem_filter.mp hm).2⟩
section LPW
variable {p : Program} {l : Launch} {e : Env} {R : Room} {s : State} {m : MethodId} {args : Array Value} {below : List Frame} {meth : Method} {c : Code} {H : Heap} {locs : List Loc} {cells slots : Nat} {Q : State → Prop}
/-- the heap itself says how much was made -/
theorem lp_tight {g : JFrame} {k n : Nat} (h1 : H.size ≤ s.heap.size + k) (h2 : lp_TS H ≤ lp_TS s.heap + n) (kk : W p l e R s m args below meth c H locs k n Q g) : W p l e R s m args below meth c H locs cells slots Q g := by
  intro T hT X
  refine kk T hT { X with same := ?_ }
  obtain ⟨a1, a2, a3, a4, a5, a6⟩ := X.same
  have hh : (T.setVm s.vm).heap = H := hT
  refine ⟨a1, a2, by rw [hh]; exact h1, a4, ?_, a6⟩
  have hs := lp_TS_split a2 (fun a c hc => by
    obtain ⟨c', h1, -, h3, -⟩ := a6 a c hc
    exact ⟨c', h1, h3⟩)
  rw [hh] at hs ⊢
  have : (List.map (fun x => x.slots.size) (List.drop s.heap.size H.toList)).sum = (List.map (fun c => c.slots.size) (List.drop s.heap.size H.toList)).sum := rfl
  omega
theorem lp_call {mc ms : Nat} {g : JFrame} {rest : List Value} {Qa : State → Outcome → State → Prop} {free : Addr → Prop} (hr : va_Run p l e R s m args below meth c H locs cells slots mc ms g rest Qa free)
    (kk : ∀ (v : Option Value) (st₀ t : State) (L : List Loc), st₀.heap = H → s.WarmedH t.vm → Qa st₀ (.returned v) t → (∀ q ∈ L, free q.base) → W p l e R s m args below meth c t.heap (locs ++ L) (cells + mc) (slots + ms) Q { g with pc := g.pc + 3, stack := v.toList ++ rest }) : W p l e R s m args below meth c H locs cells slots Q g := by
  intro T hT X
  obtain ⟨v, st₀, t, T', L, h0, X', hL, e1, e2, hq, st⟩ := hr T hT X
  obtain ⟨t2, a1, b1⟩ := kk v st₀ t L h0 (by rw [← e2]; exact X'.warmed) hq hL T' e1 X'
  exact ⟨t2, st t2 a1, b1⟩
variable {cc : ByteArray} {pc : Nat} {ls : Array Slot} {rest : List Value} {D : va_G} {cl : List vw_C} {a : Nat} {tys : List (ClassId × FieldType)}
/-- putfield, with the whole heap behind it -/
theorem lp_put (hexec : p.tables.exec = Jvm.exec) (hb : c.code = cc) {own ref C : String} {T : u_T} {N ci index : Nat} {Ts : List Cond} (hts : ∀ w ∈ Ts, w.before args s = true) (hin : ∀ w ∈ u_ws C T N, w ∈ Ts) (ty0 : Nat → FieldType) (hty : ∀ k, k < N → parseFieldDescriptor (T k).2.2.1 = some (ty0 k)) (hnm : ∀ a, a < N → ∀ b, b < N → a ≠ b → (T a).2.1 ≠ (T b).2.1) (hown : s.vm.findClass own = some m.cls) (hK : va_K D cl tys s) {fs : List Value} (hP : va_at D cl (a, .inr (ci, fs)) H) (hc : cl[ci]? = some (C, T, N)) (k : Nat) (hk : k < N) (hlink : (Cond.fieldLink own index ref (T k).2.1 (T k).2.2.1).before args s = true) (hsame : ∀ x, s.fieldFound? (T k).1 (T k).2.1 (T k).2.2.1 = some x → s.fieldFound? ref (T k).2.1 (T k).2.2.1 = some x) (hfin : (T k).2.2.2 = false) {ty : FieldType} {v : Value} (hd : parseFieldDescriptor (T k).2.2.1 = some ty) (hn : narrow ty v = v) (hfit : fits ty v = true) (hl : k < fs.length)
    (hdg : decode cc pc = .ok (.putfield index, 3)) (kk : ∀ (H1 : Heap) (j : Nat), va_at D cl (a, .inr (ci, fs.set k v)) H1 → H1.size = H.size → (∀ q : Nat, q ≠ a → H1[q]? = H[q]?) → (∀ q : Nat, (H1[q]?).map (fun c => c.slots.size) = (H[q]?).map (fun c => c.slots.size)) → W p l e R s m args below meth c H1 (locs ++ [⟨a, j⟩]) cells slots Q (F0 m (pc + 3) ls rest)) : W p l e R s m args below meth c H locs cells slots Q (F0 m pc ls (v :: .ref a :: rest)) := by
  have hap := va_apart (own := own) hts hin ty0 hty hnm hK hc
  obtain ⟨r, h1, cell, q1, q2, q3, q4⟩ := hP
  have hr : r = (C, T, N) := Option.some.inj (h1.symm.trans hc)
  subst hr
  obtain ⟨hS, hfc, kC, hkC, hkind⟩ := hK.1 ci _ hc
  obtain ⟨cf, kf, fi, f, hi, hsl⟩ := hS k hk
  have hlay := hts _ (hin _ (u_in_lay hk))
  unfold u_lay at hlay
  rw [if_neg (by rw [hfin]; decide)] at hlay
  have hst := (u_facts hfc hkC (u_lays hts hin hk) hi).1
  have h6 := u_store hfc hkC hkind hlay hi hd hn hfit
  refine W.putK hexec hb (f := f) ⟨hown, hlink, ⟨_, _, _, hsame _ hi⟩, hst⟩ (by rw [q2]; exact h6) q1 q3 (by rw [hsl]; exact k2_hasslot (q4 k hk)) rfl rfl hdg fun H' e1 e2 e3 => ?_
  rw [hsl] at e1 ⊢
  refine kk H' _ ⟨_, hc, t_OB.to (V := updV (vp_V fs) k v) ⟨_, e1, q2, q3, t_set q4 hap hk v⟩ (fun j _ => vp_updV_set hl v j)⟩ e2 e3 (fun q => ?_)
  by_cases hq : q = a
  · subst hq
    rw [e1, q1]
    simp [Cell.setSlot]
  · rw [e3 q hq]
/-- iastore, with the whole heap behind it -/
theorem lp_iast (hexec : p.tables.exec = Jvm.exec) (hb : c.code = cc) {cA : ClassId} (hK : ∀ (n : Nat) (z : Nat → Value), s.isArrayOf (arrV cA n z) .int) {n : Nat} {f : Nat → Int32} (ha : H[a]? = some (vp_cell cA (n, .inl f))) {i : Int32} {x : Int32} (hin : vp_in i n) (hdg : decode cc pc = .ok (.iastore, 1))
    (kk : ∀ (H1 : Heap) (j : Nat), H1[a]? = some (vp_cell cA (n, .inl (upd f i.toNatClampNeg x))) → H1.size = H.size → (∀ q : Nat, q ≠ a → H1[q]? = H[q]?) → (∀ q : Nat, (H1[q]?).map (fun c => c.slots.size) = (H[q]?).map (fun c => c.slots.size)) → W p l e R s m args below meth c H1 (locs ++ [⟨a, j⟩]) cells slots Q (F0 m (pc + 1) ls rest)) : W p l e R s m args below meth c H locs cells slots Q (F0 m pc ls (.int x :: .int i :: .ref a :: rest)) := by
  refine W.iast hexec hb ha (hK n (fun j => .int (f j))) (fun q => by cases q) (by show ¬ (i < 0 ∨ (arrV _ _ _).slots.size ≤ _); rw [arrV_size]; exact hin) rfl rfl hdg fun H1 e z oq => ?_
  refine kk H1 _ ?_ z oq (fun q => ?_)
  · rw [e]
    rw [vp_cell_i, vp_cell_i, arrV_store]
    congr 2
    funext q
    by_cases hq : q = i.toNatClampNeg
    · subst hq
      simp [updV, upd]
    · simp [updV, upd, hq]
  · by_cases hq : q = a
    · subst hq
      rw [e, ha]
      simp [Cell.setSlot]
    · rw [oq q hq]
end LPW
