/-! ===== every instruction ===== -/
section LPI2
variable {p : Program} {l : Launch} {e : Env} {R : Room} {s : State} {m : MethodId} {args : Array Value} {below : List Frame} {meth : Method} {c : Code}
variable {D : va_G} {cI cD : ClassId} {cc : ByteArray} {nL h : Nat} {own : String} {y0 : MethodName} {ret0 : Option FieldType} {ad0 : Nat → Nat → Nat} {σ0 : lpM} {sz : Nat} {Q0 : Option Int32 → lpM → Prop}
variable {fl pf : List (Nat × Nat × Nat)} {kc : List (Nat × Int32)} {cs : List (Nat × Option Nat × Nat × lpS)} {bl : Bool}
theorem lp_one {D : va_G} {cl : List vw_C} {q : Nat × va_E} {H : Heap} (h : va_at D cl q H) : va_P D cl [q] H := fun k q' hk => by
  rcases k with _ | k
  · cases hk; exact h
  · simp at hk
theorem lp_At_set {R : Room} {s : State} {nL : Nat} {ad : Nat → Nat → Nat} {σ : lpM} {H : Heap} {locs : List Loc} {cells slots : Nat} {ls ls' : Array Slot} {L : lpL} {i : Nat} {v : lpV} (A : lp_At D cI cD R s ad0 σ0 sz nL ad σ H locs cells slots ls L) (hv : lp_ok σ v)
    (hl : lv_has ls' L.length ((i, lp_cv ad v) :: (lp_kl ad 0 L).filter (fun q => !(q.1 == i) && !(q.1 + 1 == i && q.2.category == 2)))) : lp_At D cI cD R s ad0 σ0 sz nL ad σ H locs cells slots ls' (lp_set L i (some v)) := by
  obtain ⟨a1, a2, a3, a4, ⟨b1, b2, b3⟩, c1, c2⟩ := A
  exact ⟨a1, a2, a3, a4, ⟨lp_loc_put hl, lp_ok_set b2 hv, by rw [lp_set_len]; exact b3⟩, c1, c2⟩
set_option maxHeartbeats 8000000 in
set_option maxRecDepth 10000 in
theorem lp_instr (hx : p.tables.exec = Jvm.exec) (hb : c.code = cc) (hml : c.maxLocals = nL) (hown : s.vm.findClass own = some m.cls) (hts : ∀ w ∈ (Cond.code y0 cc nL ret0 :: lp_tbl), w.before args s = true) (hWd : lp_Wd D cI cD s)
    (hR : R.frames = h ∧ R.locals = 36 * h) (hRc : R.cells = 3 * lp_dead σ0 ∧ R.slots = 124 * lp_dead σ0) (hsz0 : s.heap.size = sz) (hr : meth.sig.returnType = ret0) (hlocks : meth.locks = false) (hret : ret0 = none ∨ ret0 = some .int ∨ (ret0 = some .boolean ∧ bl = true))
    (hfl : fl.all (lp_flb own) = true) (hpf : pf.all (lp_pfb own) = true) (hkc : kc.all (lp_kcb own) = true) (hcs : ∀ x ∈ cs, lp_CallOK l D cI cD own h x)
    {ad : Nat → Nat → Nat} {σ : lpM} {H : Heap} {locs : List Loc} {cells slots : Nat} {ls : Array Slot} {L : lpL} {st : List lpV} {pc len : Nat} {I : Instr}
    (A : lp_At D cI cD R s ad0 σ0 sz nL ad σ H locs cells slots ls L) (hok : ∀ v ∈ st, lp_ok σ v) (hd : decode cc pc = .ok (I, len)) (hlen : lp_lenb I len = true) (hnn : lp_nnb pc I = true) (hrt : lp_rtb ret0 I = true)
    {nx : lpL → List lpV → lpM → Prop} {jp : Int → lpL → List lpV → lpM → Prop} (hI : lp_I fl pf kc cs bl I L st σ nx jp Q0)
    (hnx : ∀ (L' : lpL) (st' : List lpV) (σ' : lpM) (ad' : Nat → Nat → Nat) (H' : Heap) (locs' : List Loc) (cells' slots' : Nat) (ls' : Array Slot), nx L' st' σ' → lp_At D cI cD R s ad0 σ0 sz nL ad' σ' H' locs' cells' slots' ls' L' → (∀ v ∈ st', lp_ok σ' v) → W p l e R s m args below meth c H' locs' cells' slots' (MQ below (lp_Qc D cI cD ad0 σ0 sz Q0) args s R.cells R.slots (lp_Dom ad0 σ0 sz)) (F0 m (pc + len) ls' (st'.map (lp_cv ad'))))
    (hjp : ∀ (o : Int) (L' : lpL) (st' : List lpV) (σ' : lpM) (ad' : Nat → Nat → Nat) (H' : Heap) (locs' : List Loc) (cells' slots' : Nat) (ls' : Array Slot), jp o L' st' σ' → lp_At D cI cD R s ad0 σ0 sz nL ad' σ' H' locs' cells' slots' ls' L' → (∀ v ∈ st', lp_ok σ' v) → ∃ tgt : Nat, (pc : Int) + o = (tgt : Int) ∧ W p l e R s m args below meth c H' locs' cells' slots' (MQ below (lp_Qc D cI cD ad0 σ0 sz Q0) args s R.cells R.slots (lp_Dom ad0 σ0 sz)) (F0 m tgt ls' (st'.map (lp_cv ad')))) :
    W p l e R s m args below meth c H locs cells slots (MQ below (lp_Qc D cI cD ad0 σ0 sz Q0) args s R.cells R.slots (lp_Dom ad0 σ0 sz)) (F0 m pc ls (st.map (lp_cv ad))) := by
  have T : ∀ w ∈ lp_tbl, w.before args s = true := fun w hw => hts w (List.mem_cons_of_mem _ hw)
  obtain ⟨a1, a2, a3, a4, ⟨b1, b2, b3⟩, ⟨c1, c2⟩, c3, c4⟩ := id A
  have okc : ∀ {v : lpV} {st : List lpV}, lp_ok σ v → (∀ w ∈ st, lp_ok σ w) → ∀ w ∈ v :: st, lp_ok σ w := fun h1 h2 w hw => by
    rcases List.mem_cons.mp hw with rfl | h
    · exact h1
    · exact h2 w h
  cases I
  case iconst n =>
    obtain rfl := Nat.eq_of_beq_eq_true hlen
    exact lv_iconst hx hb hd rfl (hnx _ _ _ _ _ _ _ _ _ hI A (okc trivial hok))
  case bipush n =>
    obtain rfl := Nat.eq_of_beq_eq_true hlen
    exact lv_bipush hx hb hd rfl (hnx _ _ _ _ _ _ _ _ _ hI A (okc trivial hok))
  case sipush n =>
    obtain rfl := Nat.eq_of_beq_eq_true hlen
    exact lv_sipush hx hb hd rfl (hnx _ _ _ _ _ _ _ _ _ hI A (okc trivial hok))
  case ldc i =>
    obtain rfl := Nat.eq_of_beq_eq_true hlen
    simp only [lp_I] at hI
    cases hk : lp_kc kc i with
    | none => rw [hk] at hI; exact hI.elim
    | some v =>
      rw [hk] at hI
      have := List.all_eq_true.mp hkc _ (lp_kc_mem hk)
      exact lv_ldc hx hb hown (T _ (of_decide_eq_true this)) hd (hnx _ _ _ _ _ _ _ _ _ hI A (okc trivial hok))
  case iload_n i =>
    obtain rfl := Nat.eq_of_beq_eq_true hlen
    simp only [lp_I] at hI
    rcases hk : lp_nth L i.val with _ | _ | x | x <;> rw [hk] at hI <;> try exact hI.elim
    exact lv_iload_n hx hb hd rfl (lp_loc_at b1 hk) (hnx _ _ _ _ _ _ _ _ _ hI A (okc trivial hok))
  case iload i =>
    obtain rfl := Nat.eq_of_beq_eq_true hlen
    simp only [lp_I] at hI
    rcases hk : lp_nth L i with _ | _ | x | x <;> rw [hk] at hI <;> try exact hI.elim
    exact lv_iload hx hb hd (lp_loc_at b1 hk) (hnx _ _ _ _ _ _ _ _ _ hI A (okc trivial hok))
  case aload_n i =>
    obtain rfl := Nat.eq_of_beq_eq_true hlen
    simp only [lp_I] at hI
    rcases hk : lp_nth L i.val with _ | _ | x | _ | x <;> rw [hk] at hI <;> try exact hI.elim
    · exact lv_aload_nN hx hb hd rfl (lp_loc_at b1 hk) (hnx _ _ _ _ _ _ _ _ _ hI A (okc trivial hok))
    · exact lv_aload_n hx hb hd rfl (lp_loc_at b1 hk) (hnx _ _ _ _ _ _ _ _ _ hI A (okc (b2 _ (by rw [lp_nth_eq] at hk; exact List.mem_of_getElem? hk)) hok))
  case aload i =>
    obtain rfl := Nat.eq_of_beq_eq_true hlen
    simp only [lp_I] at hI
    rcases hk : lp_nth L i with _ | _ | x | _ | x <;> rw [hk] at hI <;> try exact hI.elim
    · exact lv_aloadN hx hb hd (lp_loc_at b1 hk) (hnx _ _ _ _ _ _ _ _ _ hI A (okc trivial hok))
    · exact lv_aload hx hb hd (lp_loc_at b1 hk) (hnx _ _ _ _ _ _ _ _ _ hI A (okc (b2 _ (by rw [lp_nth_eq] at hk; exact List.mem_of_getElem? hk)) hok))
  case istore_n i =>
    obtain rfl := Nat.eq_of_beq_eq_true hlen
    rcases st with _ | ⟨x | x, st⟩ <;> try exact (hI : False).elim
    simp only [lp_I] at hI
    cases hlt : Nat.blt i.val (lp_len L) with
    | false => rw [hlt] at hI; exact hI.elim
    | true =>
      rw [hlt] at hI
      rw [Nat.blt_eq, lp_len_eq] at hlt
      exact lv_istore_n hx hb hd rfl b1 hlt rfl (fun ls' hl => hnx _ _ _ _ _ _ _ _ _ hI (lp_At_set A trivial hl) (fun v hv => hok v (List.mem_cons_of_mem _ hv)))
  case istore i =>
    obtain rfl := Nat.eq_of_beq_eq_true hlen
    rcases st with _ | ⟨x | x, st⟩ <;> try exact (hI : False).elim
    simp only [lp_I] at hI
    cases hlt : Nat.blt i (lp_len L) with
    | false => rw [hlt] at hI; exact hI.elim
    | true =>
      rw [hlt] at hI
      rw [Nat.blt_eq, lp_len_eq] at hlt
      exact lv_istore hx hb hd b1 hlt rfl (fun ls' hl => hnx _ _ _ _ _ _ _ _ _ hI (lp_At_set A trivial hl) (fun v hv => hok v (List.mem_cons_of_mem _ hv)))
  case astore_n i =>
    obtain rfl := Nat.eq_of_beq_eq_true hlen
    rcases st with _ | ⟨x | x, st⟩ <;> try exact (hI : False).elim
    simp only [lp_I] at hI
    cases hlt : Nat.blt i.val (lp_len L) with
    | false => rw [hlt] at hI; exact hI.elim
    | true =>
      rw [hlt] at hI
      rw [Nat.blt_eq, lp_len_eq] at hlt
      rcases x with _ | x
      · exact lv_astore_nN hx hb hd rfl b1 hlt rfl (fun ls' hl => hnx _ _ _ _ _ _ _ _ _ hI (lp_At_set A trivial hl) (fun v hv => hok v (List.mem_cons_of_mem _ hv)))
      · exact lv_astore_n hx hb hd rfl b1 hlt rfl (fun ls' hl => hnx _ _ _ _ _ _ _ _ _ hI (lp_At_set A (hok _ List.mem_cons_self) hl) (fun v hv => hok v (List.mem_cons_of_mem _ hv)))
  case astore i =>
    obtain rfl := Nat.eq_of_beq_eq_true hlen
    rcases st with _ | ⟨x | x, st⟩ <;> try exact (hI : False).elim
    simp only [lp_I] at hI
    cases hlt : Nat.blt i (lp_len L) with
    | false => rw [hlt] at hI; exact hI.elim
    | true =>
      rw [hlt] at hI
      rw [Nat.blt_eq, lp_len_eq] at hlt
      rcases x with _ | x
      · exact lv_astoreN hx hb hd b1 hlt rfl (fun ls' hl => hnx _ _ _ _ _ _ _ _ _ hI (lp_At_set A trivial hl) (fun v hv => hok v (List.mem_cons_of_mem _ hv)))
      · exact lv_astore hx hb hd b1 hlt rfl (fun ls' hl => hnx _ _ _ _ _ _ _ _ _ hI (lp_At_set A (hok _ List.mem_cons_self) hl) (fun v hv => hok v (List.mem_cons_of_mem _ hv)))
  case iinc i n =>
    obtain rfl := Nat.eq_of_beq_eq_true hlen
    simp only [lp_I] at hI
    rcases hk : lp_nth L i with _ | _ | x | x <;> rw [hk] at hI <;> try exact hI.elim
    have hm := lp_kl_mem (ad := ad) (j := 0) hk
    rw [Nat.zero_add] at hm
    obtain ⟨k, hk2⟩ := List.getElem?_of_mem hm
    have hlt : i < L.length := by rw [lp_nth_eq] at hk; exact (List.getElem?_eq_some_iff.mp hk).1
    exact lv_iinc hx hb hd b1 hk2 rfl hlt rfl (fun ls' hl => hnx _ _ _ _ _ _ _ _ _ hI (lp_At_set A trivial hl) hok)
  case iadd =>
    obtain rfl := Nat.eq_of_beq_eq_true hlen
    rcases st with _ | ⟨y | y, _ | ⟨x | x, st⟩⟩ <;> try exact (hI : False).elim
    exact lv_iadd hx hb hd (hnx _ _ _ _ _ _ _ _ _ hI A (okc trivial (fun v hv => hok v (List.mem_cons_of_mem _ (List.mem_cons_of_mem _ hv)))))
  case isub =>
    obtain rfl := Nat.eq_of_beq_eq_true hlen
    rcases st with _ | ⟨y | y, _ | ⟨x | x, st⟩⟩ <;> try exact (hI : False).elim
    exact lv_isub hx hb hd (hnx _ _ _ _ _ _ _ _ _ hI A (okc trivial (fun v hv => hok v (List.mem_cons_of_mem _ (List.mem_cons_of_mem _ hv)))))
  case imul =>
    obtain rfl := Nat.eq_of_beq_eq_true hlen
    rcases st with _ | ⟨y | y, _ | ⟨x | x, st⟩⟩ <;> try exact (hI : False).elim
    exact lv_imul hx hb hd (hnx _ _ _ _ _ _ _ _ _ hI A (okc trivial (fun v hv => hok v (List.mem_cons_of_mem _ (List.mem_cons_of_mem _ hv)))))
  case idiv =>
    obtain rfl := Nat.eq_of_beq_eq_true hlen
    rcases st with _ | ⟨y | y, _ | ⟨x | x, st⟩⟩ <;> try exact (hI : False).elim
    obtain ⟨hz, hI⟩ := hI
    exact lv_idiv hx hb hd hz (hnx _ _ _ _ _ _ _ _ _ hI A (okc trivial (fun v hv => hok v (List.mem_cons_of_mem _ (List.mem_cons_of_mem _ hv)))))
  case irem =>
    obtain rfl := Nat.eq_of_beq_eq_true hlen
    rcases st with _ | ⟨y | y, _ | ⟨x | x, st⟩⟩ <;> try exact (hI : False).elim
    obtain ⟨hz, hI⟩ := hI
    exact lv_irem hx hb hd hz (hnx _ _ _ _ _ _ _ _ _ hI A (okc trivial (fun v hv => hok v (List.mem_cons_of_mem _ (List.mem_cons_of_mem _ hv)))))
  case dup =>
    obtain rfl := Nat.eq_of_beq_eq_true hlen
    rcases st with _ | ⟨v, st⟩ <;> try exact (hI : False).elim
    exact lv_dup hx hb hd (lp_cat ad v) (hnx _ _ _ _ _ _ _ _ _ hI A (okc (hok _ List.mem_cons_self) hok))
  case dup2 =>
    obtain rfl := Nat.eq_of_beq_eq_true hlen
    rcases st with _ | ⟨v, _ | ⟨w, st⟩⟩ <;> try exact (hI : False).elim
    exact lv_dup2_11 hx hb hd (lp_cat ad v) (lp_cat ad w) (hnx _ _ _ _ _ _ _ _ _ hI A (okc (hok _ List.mem_cons_self) (okc (hok _ (List.mem_cons_of_mem _ List.mem_cons_self)) hok)))
  case pop =>
    obtain rfl := Nat.eq_of_beq_eq_true hlen
    rcases st with _ | ⟨v, st⟩ <;> try exact (hI : False).elim
    exact lv_pop hx hb hd (lp_cat ad v) (hnx _ _ _ _ _ _ _ _ _ hI A (fun v hv => hok v (List.mem_cons_of_mem _ hv)))
  case goto o =>
    obtain rfl := Nat.eq_of_beq_eq_true hlen
    obtain ⟨t, ht, w⟩ := hjp _ _ _ _ _ _ _ _ _ _ hI A hok
    exact lv_goto hx hb hd ht w
  case if_icmp cnd o =>
    obtain rfl := Nat.eq_of_beq_eq_true hlen
    rcases st with _ | ⟨y | y, _ | ⟨x | x, st⟩⟩ <;> try exact (hI : False).elim
    have hok2 : ∀ v ∈ st, lp_ok σ v := fun v hv => hok v (List.mem_cons_of_mem _ (List.mem_cons_of_mem _ hv))
    obtain ⟨t0, ht0⟩ : ∃ t : Nat, (pc : Int) + o = (t : Int) := ⟨((pc : Int) + o).toNat, (Int.toNat_of_nonneg (of_decide_eq_true hnn)).symm⟩
    have J : jp o L st σ → W p l e R s m args below meth c H locs cells slots (MQ below (lp_Qc D cI cD ad0 σ0 sz Q0) args s R.cells R.slots (lp_Dom ad0 σ0 sz)) (F0 m t0 ls (st.map (lp_cv ad))) := fun hj => by
      obtain ⟨t, ht, w⟩ := hjp _ _ _ _ _ _ _ _ _ _ hj A hok2
      obtain rfl : t = t0 := by omega
      exact w
    cases cnd
    case eq => exact lv_icmp_eq hx hb hd ht0 (fun q => J (hI.1 q)) (fun q => hnx _ _ _ _ _ _ _ _ _ (hI.2 q) A hok2)
    case ne => exact lv_icmp_ne hx hb hd ht0 (fun q => J (hI.1 q)) (fun q => hnx _ _ _ _ _ _ _ _ _ (hI.2 q) A hok2)
    case lt => exact lv_icmp_lt hx hb hd ht0 (fun q => J (hI.1 q)) (fun q => hnx _ _ _ _ _ _ _ _ _ (hI.2 q) A hok2)
    case ge => exact lv_icmp_ge hx hb hd ht0 (fun q => J (hI.1 q)) (fun q => hnx _ _ _ _ _ _ _ _ _ (hI.2 q) A hok2)
    case gt => exact lv_icmp_gt hx hb hd ht0 (fun q => J (hI.1 q)) (fun q => hnx _ _ _ _ _ _ _ _ _ (hI.2 q) A hok2)
    case le => exact lv_icmp_le hx hb hd ht0 (fun q => J (hI.1 q)) (fun q => hnx _ _ _ _ _ _ _ _ _ (hI.2 q) A hok2)
  case ifCond cnd o =>
    obtain rfl := Nat.eq_of_beq_eq_true hlen
    rcases st with _ | ⟨x | x, st⟩ <;> try exact (hI : False).elim
    have hok2 : ∀ v ∈ st, lp_ok σ v := fun v hv => hok v (List.mem_cons_of_mem _ hv)
    obtain ⟨t0, ht0⟩ : ∃ t : Nat, (pc : Int) + o = (t : Int) := ⟨((pc : Int) + o).toNat, (Int.toNat_of_nonneg (of_decide_eq_true hnn)).symm⟩
    have J : jp o L st σ → W p l e R s m args below meth c H locs cells slots (MQ below (lp_Qc D cI cD ad0 σ0 sz Q0) args s R.cells R.slots (lp_Dom ad0 σ0 sz)) (F0 m t0 ls (st.map (lp_cv ad))) := fun hj => by
      obtain ⟨t, ht, w⟩ := hjp _ _ _ _ _ _ _ _ _ _ hj A hok2
      obtain rfl : t = t0 := by omega
      exact w
    cases cnd
    case eq => exact lv_if_eq hx hb hd ht0 (fun q => J (hI.1 q)) (fun q => hnx _ _ _ _ _ _ _ _ _ (hI.2 q) A hok2)
    case ne => exact lv_if_ne hx hb hd ht0 (fun q => J (hI.1 q)) (fun q => hnx _ _ _ _ _ _ _ _ _ (hI.2 q) A hok2)
    case lt => exact lv_if_lt hx hb hd ht0 (fun q => J (hI.1 q)) (fun q => hnx _ _ _ _ _ _ _ _ _ (hI.2 q) A hok2)
    case ge => exact lv_if_ge hx hb hd ht0 (fun q => J (hI.1 q)) (fun q => hnx _ _ _ _ _ _ _ _ _ (hI.2 q) A hok2)
    case gt => exact lv_if_gt hx hb hd ht0 (fun q => J (hI.1 q)) (fun q => hnx _ _ _ _ _ _ _ _ _ (hI.2 q) A hok2)
    case le => exact lv_if_le hx hb hd ht0 (fun q => J (hI.1 q)) (fun q => hnx _ _ _ _ _ _ _ _ _ (hI.2 q) A hok2)
  case ifnull o =>
    obtain rfl := Nat.eq_of_beq_eq_true hlen
    rcases st with _ | ⟨x | _ | x, st⟩ <;> try exact (hI : False).elim
    all_goals have hok2 : ∀ v ∈ st, lp_ok σ v := fun v hv => hok v (List.mem_cons_of_mem _ hv)
    · obtain ⟨t, ht, w⟩ := hjp _ _ _ _ _ _ _ _ _ _ hI A hok2
      exact lv_ifnullN hx hb hd ht w
    · exact lv_ifnull hx hb hd (hnx _ _ _ _ _ _ _ _ _ hI A hok2)
  case ifnonnull o =>
    obtain rfl := Nat.eq_of_beq_eq_true hlen
    rcases st with _ | ⟨x | _ | x, st⟩ <;> try exact (hI : False).elim
    all_goals have hok2 : ∀ v ∈ st, lp_ok σ v := fun v hv => hok v (List.mem_cons_of_mem _ hv)
    · exact lv_ifnonnullN hx hb hd (hnx _ _ _ _ _ _ _ _ _ hI A hok2)
    · obtain ⟨t, ht, w⟩ := hjp _ _ _ _ _ _ _ _ _ _ hI A hok2
      exact lv_ifnonnull hx hb hd ht w
  case tableswitch dflt lo hi offs =>
    rcases st with _ | ⟨x | x, st⟩ <;> try exact (hI : False).elim
    have hok2 : ∀ v ∈ st, lp_ok σ v := fun v hv => hok v (List.mem_cons_of_mem _ hv)
    obtain ⟨h1, h2⟩ := hI
    by_cases hq : x.toInt < lo ∨ hi < x.toInt
    · obtain ⟨t, ht, w⟩ := hjp _ _ _ _ _ _ _ _ _ _ (h1 hq) A hok2
      exact lv_tableOut hx hb hd hq ht w
    · have key : ∀ (os : List Int) (b : Int), lp_sw x (fun o => jp o L st σ) b os → b ≤ x.toInt → x.toInt < b + os.length → ∃ o, os[(x.toInt - b).toNat]? = some o ∧ jp o L st σ := by
        intro os
        induction os with
        | nil => intro b _ q1 q2; simp at q2; omega
        | cons o os ih =>
          intro b hs q1 q2
          by_cases e : x.toInt = b
          · exact ⟨o, by rw [e]; simp, hs.1 e⟩
          · obtain ⟨o', g1, g2⟩ := ih (b + 1) hs.2 (by omega) (by simp at q2; omega)
            refine ⟨o', ?_, g2⟩
            rw [show (x.toInt - b).toNat = (x.toInt - (b + 1)).toNat + 1 by omega]
            simpa using g1
      obtain ⟨o, g1, g2⟩ := key offs.toList lo h2 (by omega) (by have := of_decide_eq_true hnn; omega)
      obtain ⟨t, ht, w⟩ := hjp _ _ _ _ _ _ _ _ _ _ g2 A hok2
      exact lv_tableIn hx hb hd (by omega) (by omega) (by rw [← Array.getElem?_toList]; exact g1) ht w
  case arraylength =>
    obtain rfl := Nat.eq_of_beq_eq_true hlen
    rcases st with _ | ⟨x | _ | ⟨r, k⟩, st⟩ <;> try exact (hI : False).elim
    have hok2 : ∀ v ∈ st, lp_ok σ v := fun v hv => hok v (List.mem_cons_of_mem _ hv)
    have hlive : lp_live σ r k := hok _ List.mem_cons_self
    have hat := a1.1 r k hlive
    simp only [lp_I] at hI
    rcases hl : lp_lay r with _ | ⟨ci, fs⟩ | len | ⟨len, r', ix⟩ <;> rw [hl] at hI <;> try exact hI.elim
    · have hcell : lp_cell cI cD ad σ r k = .inl (cI, len k, .inl (σ r k)) := by simp [lp_cell, hl]
      rw [hcell] at hat
      exact va_alen hx hb hWd.1 (lp_one hat) 0 0 rfl rfl rfl hd (hnx _ _ _ _ _ _ _ _ _ hI A (okc trivial hok2))
    · have hcell : lp_cell cI cD ad σ r k = .inl (cD, len k, .inr (.inr (.inr (.inr (lp_rf ad σ r k r' ix))))) := by simp [lp_cell, hl]
      rw [hcell] at hat
      exact va_alen hx hb hWd.1 (lp_one hat) 0 1 rfl rfl rfl hd (hnx _ _ _ _ _ _ _ _ _ hI A (okc trivial hok2))
  case iaload =>
    obtain rfl := Nat.eq_of_beq_eq_true hlen
    rcases st with _ | ⟨i | i, _ | ⟨x | _ | ⟨r, k⟩, st⟩⟩ <;> try exact (hI : False).elim
    have hok2 : ∀ v ∈ st, lp_ok σ v := fun v hv => hok v (List.mem_cons_of_mem _ (List.mem_cons_of_mem _ hv))
    have hlive : lp_live σ r k := hok _ (List.mem_cons_of_mem _ List.mem_cons_self)
    have hat := a1.1 r k hlive
    simp only [lp_I] at hI
    rcases hl : lp_lay r with _ | ⟨ci, fs⟩ | len | ⟨len, r', ix⟩ <;> rw [hl] at hI <;> try exact hI.elim
    have hcell : lp_cell cI cD ad σ r k = .inl (cI, len k, .inl (σ r k)) := by simp [lp_cell, hl]
    rw [hcell] at hat
    exact va_iald hx hb hWd.1 (lp_one hat) 0 0 rfl rfl hI.1 hd (hnx _ _ _ _ _ _ _ _ _ hI.2 A (okc trivial hok2))
  case iastore =>
    obtain rfl := Nat.eq_of_beq_eq_true hlen
    rcases st with _ | ⟨y | y, _ | ⟨i | i, _ | ⟨x | _ | ⟨r, k⟩, st⟩⟩⟩ <;> try exact (hI : False).elim
    have hok2 : ∀ v ∈ st, lp_ok σ v := fun v hv => hok v (List.mem_cons_of_mem _ (List.mem_cons_of_mem _ (List.mem_cons_of_mem _ hv)))
    have hlive : lp_live σ r k := hok _ (List.mem_cons_of_mem _ (List.mem_cons_of_mem _ List.mem_cons_self))
    have hat := a1.1 r k hlive
    simp only [lp_I] at hI
    rcases hl : lp_lay r with _ | ⟨ci, fs⟩ | len | ⟨len, r', ix⟩ <;> rw [hl] at hI <;> try exact hI.elim
    have hcell : lp_cell cI cD ad σ r k = .inl (cI, len k, .inl (σ r k)) := by simp [lp_cell, hl]
    rw [hcell] at hat
    have h9 := lp_lay9 hl
    refine lp_iast hx hb (hWd.1.2 0 _ rfl).1 hat hI.1 hd (fun H1 j e1 z ho ht => ?_)
    have hc2 : lp_cell cI cD ad (lp_w3 σ r k i.toNatClampNeg y) r k = .inl (cI, len k, .inl (upd (σ r k) i.toNatClampNeg y)) := by simp [lp_cell, hl, lp_w3_same]
    exact hnx _ _ _ _ _ _ _ _ _ hI.2 (lp_At_put A h9 hlive (by rw [hc2]; exact e1) z ho ht) (fun v hv => (lp_ok_w3 h9 v).mpr (hok2 v hv))
  case aaload =>
    obtain rfl := Nat.eq_of_beq_eq_true hlen
    rcases st with _ | ⟨i | i, _ | ⟨x | _ | ⟨r, k⟩, st⟩⟩ <;> try exact (hI : False).elim
    have hok2 : ∀ v ∈ st, lp_ok σ v := fun v hv => hok v (List.mem_cons_of_mem _ (List.mem_cons_of_mem _ hv))
    have hlive : lp_live σ r k := hok _ (List.mem_cons_of_mem _ List.mem_cons_self)
    have hat := a1.1 r k hlive
    simp only [lp_I] at hI
    rcases hl : lp_lay r with _ | ⟨ci, fs⟩ | len | ⟨len, r', ix⟩ <;> rw [hl] at hI <;> try exact hI.elim
    have hcell : lp_cell cI cD ad σ r k = .inl (cD, len k, .inr (.inr (.inr (.inr (lp_rf ad σ r k r' ix))))) := by simp [lp_cell, hl]
    rw [hcell] at hat
    obtain ⟨hin, hz, hnz⟩ := hI
    have hlt : i.toNatClampNeg < len k := Nat.not_le.mp fun q => hin (Or.inr q)
    refine va_aldq hx hb hWd.1 (lp_one hat) 0 1 rfl rfl hin hd ?_
    by_cases q : σ r k i.toNatClampNeg = 0
    · have e : va_rf (lp_rf ad σ r k r' ix i.toNatClampNeg) = lp_cv ad (.inr none) := by simp [lp_rf, q, va_rf, lp_cv]
      rw [e]
      exact hnx _ _ _ _ _ _ _ _ _ (hz q) A (okc trivial hok2)
    · have e : va_rf (lp_rf ad σ r k r' ix i.toNatClampNeg) = lp_cv ad (.inr (some (r', ix i.toNatClampNeg))) := by simp [lp_rf, q, va_rf, lp_cv]
      rw [e]
      exact hnx _ _ _ _ _ _ _ _ _ (hnz q) A (okc (lp_live_ref hlive hl hlt q) hok2)
  case getfield i =>
    obtain rfl := Nat.eq_of_beq_eq_true hlen
    rcases st with _ | ⟨x | _ | ⟨r, k⟩, st⟩ <;> try exact (hI : False).elim
    have hok2 : ∀ v ∈ st, lp_ok σ v := fun v hv => hok v (List.mem_cons_of_mem _ hv)
    have hlive : lp_live σ r k := hok _ List.mem_cons_self
    have hat := a1.1 r k hlive
    simp only [lp_I] at hI
    rcases hf : lp_fl fl i with _ | ⟨ci, j⟩ <;> rw [hf] at hI <;> try exact hI.elim
    rcases hl : lp_lay r with _ | ⟨cj, fs⟩ | len | ⟨len, r', ix⟩ <;> rw [hl] at hI <;> try exact hI.elim
    replace hI : (bif Nat.beq ci cj then (match lp_nth fs j with
        | some none => nx L (.inl (σ r k j) :: st) σ
        | some (some (r', g)) => nx L (.inr (some (r', g k)) :: st) σ
        | none => False) else False) := hI
    cases hcj : Nat.beq ci cj with
    | false => rw [hcj] at hI; exact hI.elim
    | true =>
    rw [hcj, cond_true] at hI
    obtain rfl := Nat.eq_of_beq_eq_true hcj
    have hcell : lp_cell cI cD ad σ r k = .inr (ci, lp_fv ad σ r k 0 fs) := by simp [lp_cell, hl]
    rw [hcell] at hat
    have hb1 := List.all_eq_true.mp hfl _ (lp_fl_mem hf)
    unfold lp_flb at hb1
    rcases hv : vwCl[ci]? with _ | ⟨C, TT, N⟩ <;> simp only [hv] at hb1
    · cases hb1
    simp only [Bool.and_eq_true, Bool.or_eq_true, decide_eq_true_eq] at hb1
    obtain ⟨hjN, hlnk⟩ := hb1
    obtain ⟨hu, -, -⟩ := lp_cls hv
    have G : ∀ v : lpV, lp_ok σ v → (lp_fv ad σ r k 0 fs)[j]? = some (lp_cv ad v) → nx L (v :: st) σ → W p l e R s m args below meth c H locs cells slots (MQ below (lp_Qc D cI cD ad0 σ0 sz Q0) args s R.cells R.slots (lp_Dom ad0 σ0 sz)) (F0 m pc ls (.ref (ad r k) :: st.map (lp_cv ad))) := by
      intro v hvok hfv hn
      have w := hnx _ _ _ _ _ _ _ _ _ hn A (okc hvok hok2)
      rcases hlnk with q | q
      · exact va_get hx hb T hu hown hWd.1 (lp_one hat) 0 rfl hv j hjN (T _ q) (fun _ h9 => h9) hfv hd w
      · obtain ⟨w0, hw0, hw1⟩ := List.any_eq_true.mp q
        cases w0 <;> simp only [Bool.false_eq_true] at hw1
        rename_i e1 e2 e3 e4 e5 e6
        simp only [Bool.and_eq_true, decide_eq_true_eq] at hw1
        obtain ⟨⟨⟨⟨rfl, rfl⟩, rfl⟩, rfl⟩, rfl⟩ := hw1
        exact va_getN hx hb T hu hown hWd.1 (lp_one hat) 0 rfl hv j hjN (va_Nw.use rfl (hWd.2 _ hw0)) (fun _ h9 => h9) hfv hd w
    rcases hn : lp_nth fs j with _ | _ | ⟨r', g⟩ <;> rw [hn] at hI <;> try exact hI.elim
    · exact G (.inl (σ r k j)) trivial (by have := lp_fv_int (ad := ad) (σ := σ) (r := r) (k := k) (j := 0) hn; rw [Nat.zero_add] at this; exact this) hI
    · exact G (.inr (some (r', g k))) (lp_live_field hlive hl hn) (lp_fv_ref hn) hI
  case putfield i =>
    obtain rfl := Nat.eq_of_beq_eq_true hlen
    rcases st with _ | ⟨y | y, _ | ⟨x | _ | ⟨r, k⟩, st⟩⟩ <;> try exact (hI : False).elim
    have hok2 : ∀ v ∈ st, lp_ok σ v := fun v hv => hok v (List.mem_cons_of_mem _ (List.mem_cons_of_mem _ hv))
    have hlive : lp_live σ r k := hok _ (List.mem_cons_of_mem _ List.mem_cons_self)
    have hat := a1.1 r k hlive
    simp only [lp_I] at hI
    rcases hf : lp_fl pf i with _ | ⟨ci, j⟩ <;> rw [hf] at hI <;> try exact hI.elim
    rcases hl : lp_lay r with _ | ⟨cj, fs⟩ | len | ⟨len, r', ix⟩ <;> rw [hl] at hI <;> try exact hI.elim
    replace hI : (bif Nat.beq ci cj then (match lp_nth fs j with
        | some none => nx L st (lp_w3 σ r k j y)
        | _ => False) else False) := hI
    cases hcj : Nat.beq ci cj with
    | false => rw [hcj] at hI; exact hI.elim
    | true =>
    rw [hcj, cond_true] at hI
    obtain rfl := Nat.eq_of_beq_eq_true hcj
    rcases hn : lp_nth fs j with _ | _ | ⟨r', g⟩ <;> rw [hn] at hI <;> try exact hI.elim
    have hcell : lp_cell cI cD ad σ r k = .inr (ci, lp_fv ad σ r k 0 fs) := by simp [lp_cell, hl]
    rw [hcell] at hat
    have hb1 := List.all_eq_true.mp hpf _ (lp_fl_mem hf)
    unfold lp_pfb at hb1
    rcases hv : vwCl[ci]? with _ | ⟨C, TT, N⟩ <;> simp only [hv] at hb1
    · cases hb1
    simp only [Bool.and_eq_true, decide_eq_true_eq] at hb1
    obtain ⟨⟨⟨hjN, hlnk⟩, hfin⟩, hpd⟩ := hb1
    obtain ⟨hu, ⟨ty0, hty⟩, hnm⟩ := lp_cls hv
    have h9 := lp_lay9o hl
    have hjl : j < (lp_fv ad σ r k 0 fs).length := by
      rw [lp_fv_len]
      rw [lp_nth_eq] at hn
      exact (List.getElem?_eq_some_iff.mp hn).1
    refine lp_put hx hb T hu ty0 hty hnm hown hWd.1 hat hv j hjN (T _ hlnk) (fun _ h9 => h9) hfin hpd (vp_nar_int y) rfl hjl hd (fun H1 j' e1 z ho ht => ?_)
    have hc2 : lp_cell cI cD ad (lp_w3 σ r k j y) r k = .inr (ci, (lp_fv ad σ r k 0 fs).set j (.int y)) := by
      have := lp_fv_w3 (ad := ad) (σ := σ) (r := r) (k := k) (x := y) (j := 0) hn
      rw [Nat.zero_add] at this
      simp [lp_cell, hl, this]
    exact hnx _ _ _ _ _ _ _ _ _ hI (lp_At_put A h9 hlive (by rw [hc2]; exact e1) z ho ht) (fun v hv => (lp_ok_w3 h9 v).mpr (hok2 v hv))
  case invokevirtual i =>
    obtain rfl := Nat.eq_of_beq_eq_true hlen
    simp only [lp_I] at hI
    rcases hc : lp_cs cs i with _ | ⟨_ | ci, n, spec⟩ <;> rw [hc] at hI <;> try exact hI.elim
    replace hI : (match lp_pop n st [] with
      | some (as, .inr (some (r, k)) :: st) => (match lp_lay r with
        | some (.inl (cj, _)) => bif Nat.beq ci cj && Nat.ble (lp_len st) 8 then spec (.inr (some (r, k)) :: as) σ (fun ro σ => match ro with
          | some x => nx L (.inl x :: st) σ
          | none => nx L st σ) else False
        | _ => False)
      | _ => False) := hI
    rcases hp : lp_pop n st [] with _ | ⟨as, _ | ⟨x | _ | ⟨r, k⟩, st'⟩⟩ <;> rw [hp] at hI <;> try exact hI.elim
    replace hI : (match lp_lay r with
        | some (.inl (cj, _)) => bif Nat.beq ci cj && Nat.ble (lp_len st') 8 then spec (.inr (some (r, k)) :: as) σ (fun ro σ => match ro with
          | some x => nx L (.inl x :: st') σ
          | none => nx L st' σ) else False
        | _ => False) := hI
    obtain ⟨hp1, hp2⟩ := lp_pop_eq hp
    simp at hp1 hp2
    subst hp1
    rcases hl : lp_lay r with _ | ⟨cj, fs⟩ | len | ⟨len, r', ix⟩ <;> rw [hl] at hI <;> try exact hI.elim
    replace hI : (bif Nat.beq ci cj && Nat.ble (lp_len st') 8 then spec (.inr (some (r, k)) :: as) σ (fun ro σ => match ro with
          | some x => nx L (.inl x :: st') σ
          | none => nx L st' σ) else False) := hI
    cases hcj : (Nat.beq ci cj && Nat.ble (lp_len st') 8) with
    | false => rw [hcj] at hI; exact hI.elim
    | true =>
    rw [hcj, cond_true] at hI
    simp only [Bool.and_eq_true] at hcj
    obtain rfl := Nat.eq_of_beq_eq_true hcj.1
    have h8 : st'.length ≤ 8 := by rw [← lp_len_eq]; exact Nat.le_of_ble_eq_true hcj.2
    have hC : lp_CallC l D cI cD own h (i, some ci, n, spec) := by
      rcases hcs _ (lp_cs_mem hc) with q | q
      · exact q
      · cases q.1
    have key := lp_callS (ad0 := ad0) (σ0 := σ0) (Q := MQ below (lp_Qc D cI cD ad0 σ0 sz Q0) args s R.cells R.slots (lp_Dom ad0 σ0 sz)) (below := below) (meth := meth) (e := e) hx hb hml hown hts hWd hR hsz0 hC A (as := .inr (some (r, k)) :: as) (st := st') (by simp [hp2]) (fun v hv => by
        rcases List.mem_cons.mp hv with rfl | hv
        · exact hok _ (by simp)
        · exact hok _ (by simp [hv])) (fun v hv => hok v (by simp [hv])) h8 rfl hd (fun ci' hci => by cases hci; exact ⟨r, k, fs, rfl, hl⟩) hI
      (fun ro σ' ad' H' locs' cells' slots' hq hA hok' => by
        cases ro with
        | none => exact hnx _ _ _ _ _ _ _ _ _ hq hA hok'
        | some v => exact hnx _ _ _ _ _ _ _ _ _ hq hA (fun w hw => by
            rcases List.mem_cons.mp hw with rfl | hw
            · exact trivial
            · exact hok' w hw))
    simpa using key
  case invokestatic i =>
    obtain rfl := Nat.eq_of_beq_eq_true hlen
    simp only [lp_I] at hI
    rcases hc : lp_cs cs i with _ | ⟨_ | ci, n, spec⟩ <;> rw [hc] at hI <;> try exact hI.elim
    replace hI : (match lp_pop n st [] with
      | some (as, st) => bif Nat.ble (lp_len st) 8 then spec as σ (fun ro σ => match ro with
          | some x => nx L (.inl x :: st) σ
          | none => nx L st σ) else False
      | _ => False) := hI
    rcases hp : lp_pop n st [] with _ | ⟨as, st'⟩ <;> rw [hp] at hI <;> try exact hI.elim
    replace hI : (bif Nat.ble (lp_len st') 8 then spec as σ (fun ro σ => match ro with
          | some x => nx L (.inl x :: st') σ
          | none => nx L st' σ) else False) := hI
    obtain ⟨hp1, hp2⟩ := lp_pop_eq hp
    simp at hp1 hp2
    subst hp1
    cases hcj : (Nat.ble (lp_len st') 8) with
    | false => rw [hcj] at hI; exact hI.elim
    | true =>
    rw [hcj, cond_true] at hI
    have h8 : st'.length ≤ 8 := by rw [← lp_len_eq]; exact Nat.le_of_ble_eq_true hcj
    rcases hcs _ (lp_cs_mem hc) with hC | hC
    rotate_left
    · obtain ⟨-, hn2, hh1, hmi, hmm⟩ := hC
      have hn2 : n = 2 := hn2
      subst hn2
      have hsum : ((st'.map (lp_cv ad)).map fun v => v.category).sum + 13 ≤ R.locals := by
        have e : ((st'.map (lp_cv ad)).map fun v => v.category) = List.replicate st'.length 1 := by
          apply List.ext_getElem?
          intro i
          simp only [List.getElem?_map, List.getElem?_replicate]
          by_cases hi : i < st'.length
          · rw [List.getElem?_eq_getElem hi]
            simp [hi, lp_cat]
          · rw [List.getElem?_eq_none (by omega)]
            simp [hi]
        rw [e, hR.2]
        simp
        omega
      have hok3 : ∀ v ∈ st', lp_ok σ v := fun v hv => hok v (by simp [hv])
      have hls : c.maxLocals = ls.size := by rw [hml, b1.1, b3]
      rcases hmm with ⟨m1, m2, m3, m4⟩ | ⟨m1, m2, m3, m4⟩ <;> have m4 : spec = _ := m4 <;> subst m4 <;> rcases as with _ | ⟨a | a, _ | ⟨b | b, _ | ⟨c, as⟩⟩⟩ <;> try exact (hI : False).elim
      · exact va_mmax hx hb hls hown (T _ m1) (T _ m2) (T _ hmi) (T _ m3) (by omega) hsum (by omega) (by omega) hd (hnx _ _ _ _ _ _ _ _ _ hI A (okc trivial hok3))
      · exact va_mmin hx hb hls hown (T _ m1) (T _ m2) (T _ hmi) (T _ m3) (by omega) hsum (by omega) (by omega) hd (hnx _ _ _ _ _ _ _ _ _ hI A (okc trivial hok3))
    have key := lp_callS (ad0 := ad0) (σ0 := σ0) (Q := MQ below (lp_Qc D cI cD ad0 σ0 sz Q0) args s R.cells R.slots (lp_Dom ad0 σ0 sz)) (below := below) (meth := meth) (e := e) hx hb hml hown hts hWd hR hsz0 hC A (as := as) (st := st') (by simp [hp2]) (fun v hv => hok _ (by simp [hv])) (fun v hv => hok v (by simp [hv])) h8 rfl hd (fun ci' hci => by cases hci) hI
      (fun ro σ' ad' H' locs' cells' slots' hq hA hok' => by
        cases ro with
        | none => exact hnx _ _ _ _ _ _ _ _ _ hq hA hok'
        | some v => exact hnx _ _ _ _ _ _ _ _ _ hq hA (fun w hw => by
            rcases List.mem_cons.mp hw with rfl | hw
            · exact trivial
            · exact hok' w hw))
    simpa using key
  case ireturn =>
    obtain rfl := Nat.eq_of_beq_eq_true hlen
    rcases st with _ | ⟨x | x, _ | ⟨z, st⟩⟩ <;> try exact (hI : False).elim
    replace hI : (bif bl then (x = 0 ∨ x = 1) ∧ Q0 (some x) σ else Q0 (some x) σ) := hI
    have hQ : Q0 (some x) σ := by
      cases bl with
      | true => exact hI.2
      | false => exact hI
    have fin : ∀ t : State, t.heap = H → s.WarmedH t.vm → lp_Qc D cI cD ad0 σ0 sz Q0 args s (.returned (some (.int x))) t := fun t ht hW =>
      ⟨some x, σ, ad, rfl, hQ, by rw [ht]; exact a1, lp_Wd_move hW hWd, a2, a3, by rw [ht]; omega, a4.F ht⟩
    refine W.widen (k := R.cells) (n := R.slots) (by omega) (by omega) ?_
    rcases hret with q | q | ⟨q, q2⟩
    · rw [q] at hrt
      cases hrt
    · exact W.iret hx hb (hr.trans q) fin a4.2.2 hd hlocks
    · rw [q2] at hI
      exact W.zret hx hb (hr.trans q) (lp_narrow_b hI.1) fin a4.2.2 hd hlocks
  case return_ =>
    obtain rfl := Nat.eq_of_beq_eq_true hlen
    rcases st with _ | ⟨x, st⟩ <;> try exact (hI : False).elim
    have fin : ∀ t : State, t.heap = H → s.WarmedH t.vm → lp_Qc D cI cD ad0 σ0 sz Q0 args s (.returned none) t := fun t ht hW =>
      ⟨none, σ, ad, rfl, hI, by rw [ht]; exact a1, lp_Wd_move hW hWd, a2, a3, by rw [ht]; omega, a4.F ht⟩
    refine W.widen (k := R.cells) (n := R.slots) (by omega) (by omega) ?_
    have hn : ret0 = none := by
      cases ret0 with
      | none => rfl
      | some q => cases hrt
    exact W.vret hx hb (hr.trans hn) fin a4.2.2 hd hlocks
  all_goals exact (hI : False).elim
end LPI2
