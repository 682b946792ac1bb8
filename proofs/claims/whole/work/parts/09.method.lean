/-! ===== a method's contract out of its walk ===== -/
theorem lp_to_suf (t : Nat) : ∀ k : lpC, lp_to t k <:+ k
  | [] => List.suffix_refl _
  | x :: k => by
    unfold lp_to
    cases Nat.beq x.1 t with
    | true => exact List.suffix_refl _
    | false => exact (lp_to_suf t k).trans (List.suffix_cons x k)
theorem lp_to_hd {t : Nat} {x : Nat × Instr × Nat} {k' : lpC} : ∀ {k : lpC}, lp_to t k = x :: k' → x.1 = t
  | [], h => by simp [lp_to] at h
  | a :: k, h => by
    unfold lp_to at h
    cases hb : Nat.beq a.1 t with
    | true =>
      rw [hb] at h
      have := Nat.eq_of_beq_eq_true hb
      cases h
      exact this
    | false =>
      rw [hb] at h
      exact lp_to_hd h
theorem lp_seq_suf {k' : lpC} : ∀ {k : lpC}, lp_seq k = true → k' <:+ k → lp_seq k' = true
  | [], _, h => by
    rw [List.suffix_nil.mp h]; rfl
  | [x], hs, h => by
    rcases List.suffix_cons_iff.mp h with rfl | h
    · exact hs
    · rw [List.suffix_nil.mp h]; rfl
  | x :: y :: k, hs, h => by
    rcases List.suffix_cons_iff.mp h with rfl | h
    · exact hs
    · simp only [lp_seq, Bool.and_eq_true] at hs
      exact lp_seq_suf hs.2 h
section LPM
variable {p : Program} {l : Launch} {e : Env} {R : Room} {s : State} {m : MethodId} {args : Array Value} {below : List Frame} {meth : Method} {c : Code}
variable {D : va_G} {cI cD : ClassId} {cc : ByteArray} {nL h : Nat} {own : String} {y0 : MethodName} {ret0 : Option FieldType} {ad0 : Nat → Nat → Nat} {σ0 : lpM} {sz : Nat} {Q0 : Option Int32 → lpM → Prop}
variable {fl pf : List (Nat × Nat × Nat)} {kc : List (Nat × Int32)} {cs : List (Nat × Option Nat × Nat × lpS)} {bl : Bool} {code : lpC} {labs : List Nat}
set_option maxHeartbeats 4000000 in
theorem lp_sound (hx : p.tables.exec = Jvm.exec) (hb : c.code = cc) (hml : c.maxLocals = nL) (hown : s.vm.findClass own = some m.cls) (hts : ∀ w ∈ (Cond.code y0 cc nL ret0 :: lp_tbl), w.before args s = true) (hWd : lp_Wd D cI cD s)
    (hR : R.frames = h ∧ R.locals = 36 * h) (hRc : R.cells = 3 * lp_dead σ0 ∧ R.slots = 124 * lp_dead σ0) (hsz0 : s.heap.size = sz) (hr : meth.sig.returnType = ret0) (hlocks : meth.locks = false) (hret : ret0 = none ∨ ret0 = some .int ∨ (ret0 = some .boolean ∧ bl = true))
    (hfl : fl.all (lp_flb own) = true) (hpf : pf.all (lp_pfb own) = true) (hkc : kc.all (lp_kcb own) = true) (hcs : ∀ x ∈ cs, lp_CallOK l D cI cD own h x) (hcode : lp_okc code cc ret0 = true) {lab : Nat → lpL → lpM → Prop}
    (hlab : ∀ (pc : Nat) (L' : lpL) (σ' : lpM) (ad' : Nat → Nat → Nat) (H' : Heap) (locs' : List Loc) (cells' slots' : Nat) (ls' : Array Slot), lab pc L' σ' → lp_At D cI cD R s ad0 σ0 sz nL ad' σ' H' locs' cells' slots' ls' L' → W p l e R s m args below meth c H' locs' cells' slots' (MQ below (lp_Qc D cI cD ad0 σ0 sz Q0) args s R.cells R.slots (lp_Dom ad0 σ0 sz)) (F0 m pc ls' [])) :
    ∀ (n : Nat) (k : lpC) (L : lpL) (st : List lpV) (σ : lpM) (ad : Nat → Nat → Nat) (H : Heap) (locs : List Loc) (cells slots : Nat) (ls : Array Slot) (x : Nat × Instr × Nat), k.head? = some x → k <:+ code → lp_wp fl pf kc cs bl code labs lab Q0 n k L st σ → lp_At D cI cD R s ad0 σ0 sz nL ad σ H locs cells slots ls L → (∀ v ∈ st, lp_ok σ v) →
      W p l e R s m args below meth c H locs cells slots (MQ below (lp_Qc D cI cD ad0 σ0 sz Q0) args s R.cells R.slots (lp_Dom ad0 σ0 sz)) (F0 m x.1 ls (st.map (lp_cv ad))) := by
  have hcode' := hcode
  simp only [lp_okc, Bool.and_eq_true] at hcode'
  obtain ⟨⟨hdec, hall⟩, hseq⟩ := hcode'
  intro n
  induction n with
  | zero => intro k L st σ ad H locs cells slots ls x _ _ h; exact h.elim
  | succ n ih =>
    intro k L st σ ad H locs cells slots ls x hhd hsuf hw A hok
    rcases k with _ | ⟨x', k⟩
    · cases hhd
    cases hhd
    have hmem : x ∈ code := hsuf.subset List.mem_cons_self
    have hd : decode cc x.1 = .ok (x.2.1, x.2.2) := of_decide_eq_true (List.all_eq_true.mp hdec x hmem)
    have h3 := List.all_eq_true.mp hall x hmem
    simp only [Bool.and_eq_true] at h3
    have go : ∀ (k : lpC) (t : Nat) (L' : lpL) (st' : List lpV) (σ' : lpM) (ad' : Nat → Nat → Nat) (H' : Heap) (locs' : List Loc) (cells' slots' : Nat) (ls' : Array Slot), k <:+ code → (∀ y, k.head? = some y → y.1 = t) → lp_go labs lab (lp_wp fl pf kc cs bl code labs lab Q0 n) k L' st' σ' → lp_At D cI cD R s ad0 σ0 sz nL ad' σ' H' locs' cells' slots' ls' L' → (∀ v ∈ st', lp_ok σ' v) →
        W p l e R s m args below meth c H' locs' cells' slots' (MQ below (lp_Qc D cI cD ad0 σ0 sz Q0) args s R.cells R.slots (lp_Dom ad0 σ0 sz)) (F0 m t ls' (st'.map (lp_cv ad'))) := by
      intro k t L' st' σ' ad' H' locs' cells' slots' ls' hs ht hg A' hok'
      rcases k with _ | ⟨y, k⟩
      · exact hg.elim
      obtain rfl := ht y rfl
      unfold lp_go at hg
      dsimp only at hg
      cases hm : lp_mem y.1 labs with
      | true =>
        rw [hm, cond_true] at hg
        rcases st' with _ | ⟨v, st'⟩
        · exact hlab _ _ _ _ _ _ _ _ _ hg A'
        · exact hg.elim
      | false =>
        rw [hm, cond_false] at hg
        exact ih (y :: k) L' st' σ' ad' H' locs' cells' slots' ls' y rfl hs hg A' hok'
    refine lp_instr hx hb hml hown hts hWd hR hRc hsz0 hr hlocks hret hfl hpf hkc hcs A hok hd h3.1.1 h3.1.2 h3.2 hw (fun L' st' σ' ad' H' locs' cells' slots' ls' hn A' hok' => ?_) (fun o L' st' σ' ad' H' locs' cells' slots' ls' hj A' hok' => ?_)
    · refine go k _ L' st' σ' ad' H' locs' cells' slots' ls' ((List.suffix_cons x k).trans hsuf) (fun y hy => ?_) hn A' hok'
      rcases k with _ | ⟨y', k⟩
      · cases hy
      cases hy
      have := lp_seq_suf hseq hsuf
      simp only [lp_seq, Bool.and_eq_true] at this
      exact (Nat.eq_of_beq_eq_true this.1).symm
    · replace hj : (match (x.1 : Int) + o with
        | .ofNat t => lp_go labs lab (lp_wp fl pf kc cs bl code labs lab Q0 n) (lp_to t code) L' st' σ'
        | .negSucc _ => False) := hj
      rcases ho : (x.1 : Int) + o with t | t
      · rw [ho] at hj
        exact ⟨t, rfl, go (lp_to t code) t L' st' σ' ad' H' locs' cells' slots' ls' (lp_to_suf t code) (fun y hy => by
          cases hk : lp_to t code with
          | nil => rw [hk] at hy; cases hy
          | cons z k' =>
            rw [hk] at hy
            cases hy
            exact lp_to_hd hk) hj A' hok'⟩
      · rw [ho] at hj
        exact hj.elim
end LPM
/-- the locals at a method's entry -/
def lp_ent (as : List lpV) (nL : Nat) : lpL := as.map some ++ List.replicate (nL - as.length) none
theorem lp_kl_ent (ad : Nat → Nat → Nat) : ∀ (as : List lpV) (j n : Nat), ∀ q ∈ lp_kl ad j (as.map some ++ List.replicate n none), q ∈ lv_args j (as.map (lp_cv ad))
  | [], j, n, q, h => by
    exfalso
    induction n generalizing j with
    | zero => simp [lp_kl] at h
    | succ n ih => exact ih (j + 1) (by simpa [lp_kl, List.replicate_succ] using h)
  | a :: as, j, n, q, h => by
    rcases List.mem_cons.mp (show q ∈ (j, lp_cv ad a) :: lp_kl ad (j + 1) (as.map some ++ List.replicate n none) from h) with rfl | h
    · simp [lv_args]
    · have := lp_kl_ent ad as (j + 1) n q h
      simp [lv_args, lp_cat]
      exact Or.inr this
set_option maxHeartbeats 4000000 in
theorem lp_method {l : Launch} {D : va_G} {cI cD : ClassId} {y : MethodName} {bytes : ByteArray} {nL : Nat} {ret : Option FieldType} {h : Nat} {spec : lpS} {own : String} (fl pf : List (Nat × Nat × Nat)) (kc : List (Nat × Int32)) (cs : List (Nat × Option Nat × Nat × lpS)) (bl : Bool) (code : lpC) (labs : List Nat)
    (hy : plainName y.cls = true) (hown : y.cls = own) (hret : ret = none ∨ ret = some .int ∨ (ret = some .boolean ∧ bl = true)) (hfl : fl.all (lp_flb own) = true) (hpf : pf.all (lp_pfb own) = true) (hkc : kc.all (lp_kcb own) = true) (hcode : lp_okc code bytes ret = true) (hc0 : ∃ x k, code = x :: k ∧ x.1 = 0)
    (hcs : ∀ x ∈ cs, lp_CallOK l D cI cD own h x)
    (hE : ∀ (as : List lpV) (σ : lpM) (Q : Option Int32 → lpM → Prop), (∀ v ∈ as, lp_ok σ v) → spec as σ Q → as.length ≤ nL ∧ ∃ Lab : Nat → Nat → lpL → lpM → Prop, lp_wp fl pf kc cs bl code labs (fun pc L σ => ∃ m, Lab m pc L σ) Q 500 code (lp_ent as nL) [] σ ∧
      ∀ m pc L σ, Lab m pc L σ → lp_wp fl pf kc cs bl code labs (fun pc' L' σ' => ∃ m', m' < m ∧ Lab m' pc' L' σ') Q 500 (lp_to pc code) L [] σ) : lp_Ct l D cI cD y bytes nL ret h spec := by
  intro ad σ as Q sz hoka hspec
  obtain ⟨hlen, Lab, hw, hl⟩ := hE as σ Q hoka hspec
  refine Met.ofW (cc := bytes) (maxL := nL) (ret := ret) hy rfl ?_
  intro p e s m args below meth c s₁ B hml hv
  obtain ⟨rfl, hsz, hRep, hWd⟩ := hv
  have hx := B.exec
  have hb := B.bytes
  have hr := B.returns
  have hts := atoms_spec (ws := Cond.code y bytes nL ret :: lp_tbl) B.pre
  have hown' : s.vm.findClass own = some m.cls := by rw [← hown]; exact findClass_of_methodNamed B.named
  have hlocks := B.notSynchronized
  have hsl : (lg_sl (as.map (lp_cv ad))).length = as.length := by
    have : lg_sl (as.map (lp_cv ad)) = (as.map (lp_cv ad)).map Slot.val := by
      unfold lg_sl
      generalize hg : as.map (lp_cv ad) = vs
      have hcat : ∀ v ∈ vs, v.category = 1 := by
        intro v hv
        rw [← hg] at hv
        obtain ⟨w, -, rfl⟩ := List.mem_map.mp hv
        exact lp_cat ad w
      clear hg
      induction vs with
      | nil => rfl
      | cons v vs ih =>
        simp only [List.flatMap_cons, List.map_cons, hcat v List.mem_cons_self]
        rw [ih (fun w hw => hcat w (List.mem_cons_of_mem _ hw))]
        simp
    rw [this]
    simp
  have hlv := lv_entry (as.map (lp_cv ad)) (n := nL) (by rw [hsl]; exact hlen)
  rw [lg_entry_eq]
  generalize (lg_sl (as.map (lp_cv ad)) ++ List.replicate (nL - (lg_sl (as.map (lp_cv ad))).length) Slot.unset).toArray = ls at hlv ⊢
  have hLl : (lp_ent as nL).length = nL := by simp [lp_ent]; omega
  have A0 : lp_At D cI cD (headSpec (Cond.code y bytes nL ret :: lp_tbl) { frames := h, cells := 3 * lp_dead σ, slots := 124 * lp_dead σ, locals := 36 * h }).room s ad σ sz nL ad σ s.heap [] 0 0 ls (lp_ent as nL) := by
    refine ⟨hRep, fun r k h => ⟨h, rfl⟩, fun r k h => Or.inl ⟨r, k, h, rfl⟩, va_S.rf, ⟨⟨by rw [hLl]; exact hlv.1, hlv.2.1, fun q hq => hlv.2.2 q (lp_kl_ent ad as 0 _ q hq)⟩, fun v hv => ?_, hLl⟩, ?_, ?_⟩
    · rcases List.mem_append.mp hv with q | q
      · obtain ⟨w, hw, e⟩ := List.mem_map.mp q
        cases e
        exact hoka _ hw
      · have := List.eq_of_mem_replicate q
        cases this
    · exact ⟨Nat.le_of_eq (Nat.zero_add _), Nat.le_of_eq (Nat.zero_add _)⟩
    · exact ⟨Nat.le_refl _, Nat.le_refl _⟩
  have loop : ∀ (n : Nat) (mm : Nat), mm < n → ∀ (pc : Nat) (L' : lpL) (σ' : lpM) (ad' : Nat → Nat → Nat) (H' : Heap) (locs' : List Loc) (cells' slots' : Nat) (ls' : Array Slot), Lab mm pc L' σ' → lp_At D cI cD (headSpec (Cond.code y bytes nL ret :: lp_tbl) { frames := h, cells := 3 * lp_dead σ, slots := 124 * lp_dead σ, locals := 36 * h }).room s ad σ sz nL ad' σ' H' locs' cells' slots' ls' L' →
      W p l e (headSpec (Cond.code y bytes nL ret :: lp_tbl) { frames := h, cells := 3 * lp_dead σ, slots := 124 * lp_dead σ, locals := 36 * h }).room s m (as.map (lp_cv ad)).toArray below meth c H' locs' cells' slots' (MQ below (lp_Qc D cI cD ad σ sz Q) (as.map (lp_cv ad)).toArray s (3 * lp_dead σ) (124 * lp_dead σ) (lp_Dom ad σ sz)) (F0 m pc ls' []) := by
    intro n
    induction n with
    | zero => intro mm h; exact absurd h (Nat.not_lt_zero _)
    | succ n ih =>
      intro mm hmm pc L' σ' ad' H' locs' cells' slots' ls' hLab A'
      have hw' := hl mm pc L' σ' hLab
      cases hk : lp_to pc code with
      | nil => rw [hk] at hw'; exact hw'.elim
      | cons x k =>
        have hpc := lp_to_hd hk
        rw [← hpc]
        exact lp_sound (own := own) (y0 := y) (Q0 := Q) hx hb hml hown' hts hWd ⟨rfl, rfl⟩ ⟨rfl, rfl⟩ hsz hr hlocks hret hfl hpf hkc hcs hcode (lab := fun pc' L' σ' => ∃ m', m' < mm ∧ Lab m' pc' L' σ')
          (fun pc L' σ' ad' H' locs' cells' slots' ls' hlb A' => by
            obtain ⟨m', hm', hL'⟩ := hlb
            exact ih m' (by omega) pc L' σ' ad' H' locs' cells' slots' ls' hL' A') 500 (x :: k) L' [] σ' ad' H' locs' cells' slots' ls' x rfl (by rw [← hk]; exact lp_to_suf pc code) (by rw [← hk]; exact hw') A' (fun v hv => by cases hv)
  obtain ⟨x, k, hk, hx0⟩ := hc0
  have := lp_sound (own := own) (y0 := y) (Q0 := Q) hx hb hml hown' hts hWd ⟨rfl, rfl⟩ ⟨rfl, rfl⟩ hsz hr hlocks hret hfl hpf hkc hcs hcode (lab := fun pc' L' σ' => ∃ m', Lab m' pc' L' σ')
    (fun pc L' σ' ad' H' locs' cells' slots' ls' hlb A' => by
      obtain ⟨m', hL'⟩ := hlb
      exact loop (m' + 1) m' (Nat.lt_succ_self _) pc L' σ' ad' H' locs' cells' slots' ls' hL' A') 500 code (lp_ent as nL) [] σ ad s.heap [] 0 0 ls x (by rw [hk]; rfl) (List.suffix_refl _) hw A0 (fun v hv => by cases hv)
  rw [hx0] at this
  exact this
/-! ===== links ===== -/
theorem lp_mkCall {own : String} {i : Nat} {ci : Option Nat} {n : Nat} {y : MethodName} {bytes : ByteArray} {nL : Nat} {ret : Option FieldType} (hb : lp_lnb own i ci n y bytes nL ret = true) {l : Launch} {D : va_G} {cI cD : ClassId} {h h' : Nat} {spec : lpS} (hC : lp_Ct l D cI cD y bytes nL ret h' spec) (hh : h' + 1 ≤ h) : lp_CallOK l D cI cD own h (i, ci, n, spec) := by
  refine Or.inl ?_
  simp only [lp_lnb, Bool.and_eq_true, decide_eq_true_eq, Bool.or_eq_true] at hb
  obtain ⟨⟨⟨⟨⟨b1, b2⟩, b3⟩, ⟨b4, b5⟩, b6⟩, b7⟩, b8⟩ := hb
  refine ⟨y, bytes, nL, ret, h', hC, hh, Nat.le_of_ble_eq_true b1, b2, b3, ⟨b4, b5, b6⟩, ?_, ?_⟩
  · rcases b7 with q | q
    · exact Or.inl q
    · obtain ⟨w, hw, hw1⟩ := List.any_eq_true.mp q
      cases w <;> simp only [Bool.false_eq_true] at hw1
      simp only [Bool.and_eq_true, decide_eq_true_eq] at hw1
      obtain ⟨⟨rfl, rfl⟩, rfl⟩ := hw1
      exact Or.inr ⟨_, hw⟩
  · cases ci with
    | none => exact of_decide_eq_true b8
    | some c =>
      simp only [Bool.and_eq_true, decide_eq_true_eq] at b8
      refine ⟨b8.1.1, b8.1.2, ?_⟩
      rcases hq : vwCl[c]? with _ | q <;> simp only [hq] at b8
      · cases b8.2
      · exact ⟨q, rfl, of_decide_eq_true b8.2⟩
theorem lp_mkMax {own : String} {i : Nat} (hb : lp_mxb own i = true) {l : Launch} {D : va_G} {cI cD : ClassId} {h : Nat} (hh : 1 ≤ h) : lp_CallOK l D cI cD own h (i, none, 2, sp_max) := by
  simp only [lp_mxb, Bool.and_eq_true, decide_eq_true_eq] at hb
  exact Or.inr ⟨rfl, rfl, hh, hb.1.1.1, Or.inl ⟨hb.1.1.2, hb.1.2, hb.2, rfl⟩⟩
theorem lp_mkMin {own : String} {i : Nat} (hb : lp_mnb own i = true) {l : Launch} {D : va_G} {cI cD : ClassId} {h : Nat} (hh : 1 ≤ h) : lp_CallOK l D cI cD own h (i, none, 2, sp_min) := by
  simp only [lp_mnb, Bool.and_eq_true, decide_eq_true_eq] at hb
  exact Or.inr ⟨rfl, rfl, hh, hb.1.1.1, Or.inr ⟨hb.1.1.2, hb.1.2, hb.2, rfl⟩⟩
