/-! ===== laws of the abstract memory ===== -/
theorem lp_len_eq {α : Type} : ∀ l : List α, lp_len l = l.length
  | [] => rfl
  | _ :: l => by simp [lp_len, lp_len_eq l]
theorem lp_nth_eq {α : Type} : ∀ (l : List α) (n : Nat), lp_nth l n = l[n]?
  | [], n => by simp [lp_nth]
  | a :: l, 0 => by simp [lp_nth]
  | a :: l, n + 1 => by simp [lp_nth, lp_nth_eq l n]
theorem lp_set_eq {α : Type} : ∀ (l : List α) (n : Nat) (x : α), lp_set l n x = l.set n x
  | [], n, x => by simp [lp_set]
  | a :: l, 0, x => by simp [lp_set]
  | a :: l, n + 1, x => by simp [lp_set, lp_set_eq l n x]
theorem lp_set_len {α : Type} (l : List α) (n : Nat) (x : α) : (lp_set l n x).length = l.length := by rw [lp_set_eq]; simp
def lp_fok (r k : Nat) (q : Option (Nat × (Nat → Nat))) : Bool := match q with
  | none => true
  | some (r', g) => Nat.blt (g k) (lp_cnt r') && (!lp_isD r' || (lp_isD r && Nat.beq (g k) k))
theorem lp_closed : ((List.range 60).all fun r => match lp_lay r with
  | some (.inl (_, fs)) => (List.range (lp_cnt r)).all fun k => fs.all (lp_fok r k)
  | _ => true) = true := by decide +kernel
theorem lp_cnt_lt {r k : Nat} (h : k < lp_cnt r) : r < 60 := by
  rcases Nat.lt_or_ge r 60 with q | q
  · exact q
  · exfalso
    have e : lp_nth lp_cnts r = none := by
      rw [lp_nth_eq, List.getElem?_eq_none_iff]
      have : lp_cnts.length = 51 := rfl
      omega
    simp [lp_cnt, e] at h
theorem lp_live_field {σ : lpM} {r k ci j r' : Nat} {fs : List (Option (Nat × (Nat → Nat)))} {g : Nat → Nat} (h : lp_live σ r k) (hl : lp_lay r = some (.inl (ci, fs))) (hf : lp_nth fs j = some (some (r', g))) : lp_live σ r' (g k) := by
  have hr := lp_cnt_lt h.1
  have h1 := List.all_eq_true.mp lp_closed r (List.mem_range.mpr hr)
  rw [hl] at h1
  have h2 := List.all_eq_true.mp h1 k (List.mem_range.mpr h.1)
  rw [lp_nth_eq] at hf
  have h3 := List.all_eq_true.mp h2 _ (List.mem_of_getElem? hf)
  simp only [lp_fok, Bool.and_eq_true, Bool.or_eq_true, Bool.not_eq_true', Nat.blt_eq] at h3
  refine ⟨h3.1, fun hd hk => ?_⟩
  rcases h3.2 with q | q
  · rw [q] at hd; cases hd
  · rw [Nat.eq_of_beq_eq_true q.2] at hk ⊢
    exact h.2 q.1 hk
theorem lp_rfs : ((List.range 60).all fun r => match lp_lay r with
  | some (.inr (.inr (len, r', ix))) => Nat.beq r' 26 && (Nat.beq (lp_cnt r) 1) && (List.range (len 0)).all fun j => (Nat.beq r 9 && Nat.beq (ix j) j && Nat.blt j 121) || (Nat.ble 121 (ix j) && Nat.blt (ix j) 132)
  | _ => true) = true := by decide +kernel
theorem lp_live_ref {σ : lpM} {r k r' j : Nat} {len ix : Nat → Nat} (h : lp_live σ r k) (hl : lp_lay r = some (.inr (.inr (len, r', ix)))) (hj : j < len k) (hz : σ r k j ≠ 0) : lp_live σ r' (ix j) := by
  have hr := lp_cnt_lt h.1
  have h1 := List.all_eq_true.mp lp_rfs r (List.mem_range.mpr hr)
  rw [hl] at h1
  simp only [Bool.and_eq_true] at h1
  obtain ⟨⟨e1, e2⟩, h2⟩ := h1
  have e1 := Nat.eq_of_beq_eq_true e1
  have e2 := Nat.eq_of_beq_eq_true e2
  have hk : k = 0 := by have := h.1; omega
  subst hk
  subst e1
  have h3 := List.all_eq_true.mp h2 j (List.mem_range.mpr hj)
  simp only [Bool.or_eq_true, Bool.and_eq_true, Nat.blt_eq] at h3
  have hc : lp_cnt 26 = 132 := rfl
  rcases h3 with ⟨⟨a, b⟩, c⟩ | ⟨a, b⟩
  · have a := Nat.eq_of_beq_eq_true a
    have b := Nat.eq_of_beq_eq_true b
    subst a
    rw [b]
    exact ⟨by omega, fun _ _ => hz⟩
  · have a := Nat.le_of_ble_eq_true a
    exact ⟨by omega, fun _ q => absurd q (by omega)⟩
theorem lp_w3_same (σ : lpM) (r k j : Nat) (x : Int32) : lp_w3 σ r k j x r k = upd (σ r k) j x := by simp [lp_w3, va_up]
theorem lp_w3_ne {σ : lpM} {r k j r' k' : Nat} {x : Int32} (h : ¬ (r' = r ∧ k' = k)) : lp_w3 σ r k j x r' k' = σ r' k' := by
  by_cases hr : r' = r
  · subst hr
    have hk : k' ≠ k := fun q => h ⟨rfl, q⟩
    simp [lp_w3, va_up, hk]
  · simp [lp_w3, va_up, hr]
theorem lp_w3_9 {σ : lpM} {r k j : Nat} {x : Int32} (h : r ≠ 9) : lp_w3 σ r k j x 9 = σ 9 := by
  simp [lp_w3, va_up, Ne.symm h]
theorem lp_live_w3 {σ : lpM} {r k j : Nat} {x : Int32} (h : r ≠ 9) (r' k' : Nat) : lp_live (lp_w3 σ r k j x) r' k' ↔ lp_live σ r' k' := by
  simp [lp_live, lp_w3_9 h]
theorem lp_dead_w3 {σ : lpM} {r k j : Nat} {x : Int32} (h : r ≠ 9) : lp_dead (lp_w3 σ r k j x) = lp_dead σ := by
  simp [lp_dead, lp_w3_9 h]
theorem lp_ok_w3 {σ : lpM} {r k j : Nat} {x : Int32} (h : r ≠ 9) (v : lpV) : lp_ok (lp_w3 σ r k j x) v ↔ lp_ok σ v := by
  rcases v with y | _ | q
  · exact Iff.rfl
  · exact Iff.rfl
  · exact lp_live_w3 h _ _
theorem lp_fv_congr {ad : Nat → Nat → Nat} {σ σ' : lpM} {r k : Nat} (h : σ' r k = σ r k) : ∀ (j : Nat) (fs : List (Option (Nat × (Nat → Nat)))), lp_fv ad σ' r k j fs = lp_fv ad σ r k j fs
  | _, [] => rfl
  | j, none :: fs => by simp [lp_fv, h, lp_fv_congr h (j + 1) fs]
  | j, some q :: fs => by simp [lp_fv, lp_fv_congr h (j + 1) fs]
theorem lp_cell_congr {cI cD : ClassId} {ad : Nat → Nat → Nat} {σ σ' : lpM} {r k : Nat} (h : σ' r k = σ r k) : lp_cell cI cD ad σ' r k = lp_cell cI cD ad σ r k := by
  unfold lp_cell
  split
  · rw [lp_fv_congr h]
  · rw [h]
  · have e : ∀ (r' : Nat) (ix : Nat → Nat), lp_rf ad σ' r k r' ix = lp_rf ad σ r k r' ix := fun r' ix => by
      funext j
      simp [lp_rf, h]
    rw [e]
  · rfl
/-- a cell of the memory is written: the others stay -/
theorem lp_Rep_w3 {D : va_G} {cI cD : ClassId} {ad : Nat → Nat → Nat} {σ : lpM} {H H' : Heap} {r k j : Nat} {x : Int32} (hR : lp_Rep D cI cD ad σ H) (h9 : r ≠ 9) (hl : lp_live σ r k) (ha : va_at D vwCl (ad r k, lp_cell cI cD ad (lp_w3 σ r k j x) r k) H') (ho : ∀ q : Nat, q ≠ ad r k → H'[q]? = H[q]?) : lp_Rep D cI cD ad (lp_w3 σ r k j x) H' := by
  refine ⟨fun r' k' h' => ?_, fun r1 k1 r2 k2 h1 h2 => hR.2 r1 k1 r2 k2 ((lp_live_w3 h9 _ _).mp h1) ((lp_live_w3 h9 _ _).mp h2)⟩
  have h' := (lp_live_w3 h9 _ _).mp h'
  by_cases e : r' = r ∧ k' = k
  · obtain ⟨rfl, rfl⟩ := e
    exact ha
  · rw [lp_cell_congr (lp_w3_ne e)]
    exact (hR.1 r' k' h').kept (ho _ (fun q => e (hR.2 r' k' r k h' hl q)))
theorem lp_fv_len (ad : Nat → Nat → Nat) (σ : lpM) (r k : Nat) : ∀ (j : Nat) (fs : List (Option (Nat × (Nat → Nat)))), (lp_fv ad σ r k j fs).length = fs.length
  | _, [] => rfl
  | j, none :: fs => by simp [lp_fv, lp_fv_len ad σ r k (j + 1) fs]
  | j, some q :: fs => by simp [lp_fv, lp_fv_len ad σ r k (j + 1) fs]
theorem lp_fv_int {ad : Nat → Nat → Nat} {σ : lpM} {r k : Nat} : ∀ {i j : Nat} {fs : List (Option (Nat × (Nat → Nat)))}, lp_nth fs i = some none → (lp_fv ad σ r k j fs)[i]? = some (.int (σ r k (j + i)))
  | _, _, [], h => by simp [lp_nth] at h
  | 0, j, none :: fs, _ => by simp [lp_fv]
  | 0, j, some q :: fs, h => by simp [lp_nth] at h
  | i + 1, j, none :: fs, h => by
    have := lp_fv_int (ad := ad) (σ := σ) (r := r) (k := k) (i := i) (j := j + 1) (fs := fs) h
    simp [lp_fv, this]
    congr 1
    omega
  | i + 1, j, some q :: fs, h => by
    have := lp_fv_int (ad := ad) (σ := σ) (r := r) (k := k) (i := i) (j := j + 1) (fs := fs) h
    simp [lp_fv, this]
    congr 1
    omega
theorem lp_fv_ref {ad : Nat → Nat → Nat} {σ : lpM} {r k : Nat} {q : Nat × (Nat → Nat)} : ∀ {i j : Nat} {fs : List (Option (Nat × (Nat → Nat)))}, lp_nth fs i = some (some q) → (lp_fv ad σ r k j fs)[i]? = some (.ref (ad q.1 (q.2 k)))
  | _, _, [], h => by simp [lp_nth] at h
  | 0, j, none :: fs, h => by simp [lp_nth] at h
  | 0, j, some q' :: fs, h => by
    simp [lp_nth] at h
    subst h
    simp [lp_fv]
  | i + 1, j, none :: fs, h => by
    have := lp_fv_ref (ad := ad) (σ := σ) (r := r) (k := k) (i := i) (j := j + 1) (fs := fs) h
    simp [lp_fv, this]
  | i + 1, j, some q' :: fs, h => by
    have := lp_fv_ref (ad := ad) (σ := σ) (r := r) (k := k) (i := i) (j := j + 1) (fs := fs) h
    simp [lp_fv, this]
theorem lp_fv_w3 {ad : Nat → Nat → Nat} {σ : lpM} {r k : Nat} {x : Int32} : ∀ {i j : Nat} {fs : List (Option (Nat × (Nat → Nat)))}, lp_nth fs i = some none → lp_fv ad (lp_w3 σ r k (j + i) x) r k j fs = (lp_fv ad σ r k j fs).set i (.int x)
  | _, _, [], h => by simp [lp_nth] at h
  | 0, j, none :: fs, _ => by
    have e : ∀ (j' : Nat) (fs : List (Option (Nat × (Nat → Nat)))), j < j' → lp_fv ad (lp_w3 σ r k j x) r k j' fs = lp_fv ad σ r k j' fs := by
      intro j' fs
      induction fs generalizing j' with
      | nil => intro _; rfl
      | cons a fs ih =>
        intro hj
        cases a with
        | none => simp [lp_fv, ih (j' + 1) (by omega), lp_w3_same, upd, show ¬ j' = j by omega]
        | some q => simp [lp_fv, ih (j' + 1) (by omega)]
    simp [lp_fv, lp_w3_same, upd, e (j + 1) fs (by omega)]
  | 0, j, some q :: fs, h => by simp [lp_nth] at h
  | i + 1, j, none :: fs, h => by
    have := lp_fv_w3 (ad := ad) (σ := σ) (r := r) (k := k) (x := x) (i := i) (j := j + 1) (fs := fs) h
    rw [show j + 1 + i = j + (i + 1) by omega] at this
    simp [lp_fv, this, lp_w3_same, upd]
  | i + 1, j, some q' :: fs, h => by
    have := lp_fv_w3 (ad := ad) (σ := σ) (r := r) (k := k) (x := x) (i := i) (j := j + 1) (fs := fs) h
    rw [show j + 1 + i = j + (i + 1) by omega] at this
    simp [lp_fv, this]
/-! locals -/
def lp_kl (ad : Nat → Nat → Nat) : Nat → lpL → List (Nat × Value)
  | _, [] => []
  | j, none :: L => lp_kl ad (j + 1) L
  | j, some v :: L => (j, lp_cv ad v) :: lp_kl ad (j + 1) L
def lp_loc (ad : Nat → Nat → Nat) (ls : Array Slot) (L : lpL) : Prop := lv_has ls L.length (lp_kl ad 0 L)
theorem lp_cat (ad : Nat → Nat → Nat) (v : lpV) : (lp_cv ad v).category = 1 := by
  rcases v with x | _ | q <;> rfl
theorem lp_kl_mem {ad : Nat → Nat → Nat} {v : lpV} : ∀ {i j : Nat} {L : lpL}, lp_nth L i = some (some v) → (j + i, lp_cv ad v) ∈ lp_kl ad j L
  | _, _, [], h => by simp [lp_nth] at h
  | 0, j, none :: L, h => by simp [lp_nth] at h
  | 0, j, some w :: L, h => by
    simp [lp_nth] at h
    subst h
    simp [lp_kl]
  | i + 1, j, none :: L, h => by
    have := lp_kl_mem (ad := ad) (v := v) (i := i) (j := j + 1) (L := L) h
    rw [show j + 1 + i = j + (i + 1) by omega] at this
    simpa [lp_kl] using this
  | i + 1, j, some w :: L, h => by
    have := lp_kl_mem (ad := ad) (v := v) (i := i) (j := j + 1) (L := L) h
    rw [show j + 1 + i = j + (i + 1) by omega] at this
    simp [lp_kl, this]
theorem lp_kl_ge {ad : Nat → Nat → Nat} {q : Nat × Value} : ∀ {j : Nat} {L : lpL}, q ∈ lp_kl ad j L → j ≤ q.1 ∧ q.2.category = 1
  | _, [], h => by simp [lp_kl] at h
  | j, none :: L, h => by
    have := lp_kl_ge (j := j + 1) (L := L) (by simpa [lp_kl] using h)
    exact ⟨by omega, this.2⟩
  | j, some w :: L, h => by
    rcases List.mem_cons.mp (show q ∈ (j, lp_cv ad w) :: lp_kl ad (j + 1) L from h) with rfl | h
    · exact ⟨Nat.le_refl _, lp_cat ad w⟩
    · have := lp_kl_ge (j := j + 1) (L := L) h
      exact ⟨by omega, this.2⟩
theorem lp_kl_set {ad : Nat → Nat → Nat} {v : lpV} {q : Nat × Value} : ∀ {i j : Nat} {L : lpL}, q ∈ lp_kl ad j (lp_set L i (some v)) → q = (j + i, lp_cv ad v) ∨ (q ∈ lp_kl ad j L ∧ q.1 ≠ j + i)
  | _, _, [], h => by simp [lp_set, lp_kl] at h
  | 0, j, a :: L, h => by
    rcases List.mem_cons.mp (show q ∈ (j, lp_cv ad v) :: lp_kl ad (j + 1) L from h) with h2 | h2
    · exact Or.inl h2
    · have := (lp_kl_ge h2).1
      refine Or.inr ⟨?_, by omega⟩
      cases a with
      | none => exact h2
      | some w => exact List.mem_cons_of_mem _ h2
  | i + 1, j, none :: L, h => by
    have := lp_kl_set (ad := ad) (v := v) (q := q) (i := i) (j := j + 1) (L := L) (by simpa [lp_set, lp_kl] using h)
    rw [show j + 1 + i = j + (i + 1) by omega] at this
    simpa [lp_kl] using this
  | i + 1, j, some w :: L, h => by
    rcases List.mem_cons.mp (show q ∈ (j, lp_cv ad w) :: lp_kl ad (j + 1) (lp_set L i (some v)) from h) with h | h
    · subst h
      exact Or.inr ⟨by simp [lp_kl], by show j ≠ _; omega⟩
    · have := lp_kl_set (ad := ad) (v := v) (q := q) (i := i) (j := j + 1) (L := L) h
      rw [show j + 1 + i = j + (i + 1) by omega] at this
      rcases this with h | h
      · exact Or.inl h
      · exact Or.inr ⟨by simp [lp_kl, h.1], h.2⟩
theorem lp_loc_at {ad : Nat → Nat → Nat} {ls : Array Slot} {L : lpL} {i : Nat} {v : lpV} (h : lp_loc ad ls L) (hi : lp_nth L i = some (some v)) : ls[i]? = some (.val (lp_cv ad v)) := by
  have := h.2.2 (0 + i, lp_cv ad v) (lp_kl_mem hi)
  simpa using this
theorem lp_loc_put {ad : Nat → Nat → Nat} {ls : Array Slot} {L : lpL} {i : Nat} {v : lpV} (h : lv_has ls L.length ((i, lp_cv ad v) :: (lp_kl ad 0 L).filter (fun q => !(q.1 == i) && !(q.1 + 1 == i && q.2.category == 2)))) : lp_loc ad ls (lp_set L i (some v)) := by
  refine ⟨by rw [lp_set_len]; exact h.1, h.2.1, fun q hq => h.2.2 q ?_⟩
  rcases lp_kl_set hq with e | ⟨h1, h2⟩
  · rw [e]
    simp
  · have h3 := (lp_kl_ge h1).2
    refine List.mem_cons_of_mem _ (List.mem_filter.mpr ⟨h1, ?_⟩)
    simp [h3]
    omega
theorem lp_kl_congr {ad ad' : Nat → Nat → Nat} : ∀ {L : lpL} {j : Nat}, (∀ v, some v ∈ L → lp_cv ad' v = lp_cv ad v) → lp_kl ad' j L = lp_kl ad j L
  | [], _, _ => rfl
  | none :: L, j, h => lp_kl_congr (L := L) (j := j + 1) (fun v hv => h v (List.mem_cons_of_mem _ hv))
  | some w :: L, j, h => by
    simp [lp_kl, h w List.mem_cons_self, lp_kl_congr (L := L) (j := j + 1) (fun v hv => h v (List.mem_cons_of_mem _ hv))]
theorem lp_pop_eq : ∀ {n : Nat} {st acc as st' : List lpV}, lp_pop n st acc = some (as, st') → as.reverse ++ st' = acc.reverse ++ st ∧ as.length = n + acc.length
  | 0, st, acc, as, st', h => by
    simp [lp_pop] at h
    obtain ⟨rfl, rfl⟩ := h
    simp
  | n + 1, [], acc, as, st', h => by simp [lp_pop] at h
  | n + 1, v :: st, acc, as, st', h => by
    have := lp_pop_eq (n := n) (st := st) (acc := v :: acc) h
    refine ⟨by rw [this.1]; simp, by rw [this.2]; simp; omega⟩
/-! how many slots a heap has -/
theorem lp_TS_set {H H' : Heap} (z : H'.size = H.size) (h : ∀ q : Nat, (H'[q]?).map (fun c => c.slots.size) = (H[q]?).map (fun c => c.slots.size)) : lp_TS H' = lp_TS H := by
  unfold lp_TS
  congr 1
  apply List.ext_getElem?
  intro i
  simp only [List.getElem?_map, Array.getElem?_toList]
  exact h i
theorem lp_TS_push (H : Heap) (c : Cell) : lp_TS (H.push c) = lp_TS H + c.slots.size := by
  simp [lp_TS]
theorem lp_TS_split {H0 H : Heap} (hle : H0.size ≤ H.size) (h : ∀ (a : Nat) (c : Cell), H0[a]? = some c → ∃ c', H[a]? = some c' ∧ c'.slots.size = c.slots.size) : lp_TS H = lp_TS H0 + ((H.toList.drop H0.size).map (fun c => c.slots.size)).sum := by
  have e : (H.toList.take H0.size).map (fun c => c.slots.size) = H0.toList.map (fun c => c.slots.size) := by
    apply List.ext_getElem?
    intro i
    simp only [List.getElem?_map, List.getElem?_take, Array.getElem?_toList]
    by_cases hi : i < H0.size
    · rw [if_pos hi]
      have hc : H0[i]? = some H0[i] := Array.getElem?_eq_getElem hi
      obtain ⟨c', h1, h2⟩ := h i _ hc
      rw [h1, hc]
      simp [h2]
    · rw [if_neg hi, Array.getElem?_eq_none (by omega)]
  unfold lp_TS
  rw [← e, ← List.sum_append, ← List.map_append, List.take_append_drop]
