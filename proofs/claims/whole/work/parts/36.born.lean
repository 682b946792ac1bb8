/-! ===== a Dealing of the Machine comes to life ===== -/
def lp_born (σ : lpM) (j : Nat) : lpM := fun r k i => if r = 9 ∧ k = 0 ∧ i = j then 1 else if (r = 27 ∨ r = 28) ∧ k = j then 0 else σ r k i
def lp_adn (ad : Nat → Nat → Nat) (j q0 q1 q2 : Nat) : Nat → Nat → Nat := fun r k => if r = 26 ∧ k = j then q0 else if r = 27 ∧ k = j then q1 else if r = 28 ∧ k = j then q2 else ad r k
theorem lp_adn_ne {ad : Nat → Nat → Nat} {j q0 q1 q2 r k : Nat} (h : ¬ (26 ≤ r ∧ r ≤ 28 ∧ k = j)) : lp_adn ad j q0 q1 q2 r k = ad r k := by
  unfold lp_adn
  rw [if_neg (by omega), if_neg (by omega), if_neg (by omega)]
theorem lp_isD_iff (r : Nat) : lp_isD r = true ↔ 26 ≤ r ∧ r ≤ 28 := by
  simp [lp_isD, Nat.ble_eq]
theorem lp_live_born {σ : lpM} {j : Nat} (hj : j < 121) (hz : σ 9 0 j = 0) (r k : Nat) : lp_live (lp_born σ j) r k ↔ lp_live σ r k ∨ (26 ≤ r ∧ r ≤ 28 ∧ k = j) := by
  unfold lp_live
  rw [lp_isD_iff]
  have h9 : lp_born σ j 9 0 k = if k = j then 1 else σ 9 0 k := by
    unfold lp_born
    by_cases e : k = j
    · rw [if_pos ⟨rfl, rfl, e⟩, if_pos e]
    · rw [if_neg (fun z => e z.2.2), if_neg (by omega), if_neg e]
  rw [h9]
  constructor
  · rintro ⟨h1, h2⟩
    by_cases hd : 26 ≤ r ∧ r ≤ 28
    · by_cases e : k = j
      · exact Or.inr ⟨hd.1, hd.2, e⟩
      · refine Or.inl ⟨h1, fun a b => ?_⟩
        have := h2 a b
        rwa [if_neg e] at this
    · exact Or.inl ⟨h1, fun a => absurd a hd⟩
  · rintro (⟨h1, h2⟩ | ⟨h1, h2, rfl⟩)
    · refine ⟨h1, fun a b => ?_⟩
      split
      · decide
      · exact h2 a b
    · have : r = 26 ∨ r = 27 ∨ r = 28 := by omega
      refine ⟨?_, fun a b => ?_⟩
      · rcases this with rfl | rfl | rfl
        · show k < 132; omega
        · show k < 132; omega
        · show k < 132; omega
      · rw [if_pos rfl]; decide
theorem lp_not_live {σ : lpM} {j r : Nat} (hj : j < 121) (hz : σ 9 0 j = 0) (hr : 26 ≤ r ∧ r ≤ 28) : ¬ lp_live σ r j := fun h => h.2 ((lp_isD_iff r).mpr hr) hj hz
theorem lp_dead_born {σ : lpM} {j : Nat} (hj : j < 121) (hz : σ 9 0 j = 0) : lp_dead (lp_born σ j) + 1 = lp_dead σ := by
  unfold lp_dead
  have h9 : ∀ k, lp_born σ j 9 0 k = if k = j then 1 else σ 9 0 k := by
    intro k
    unfold lp_born
    by_cases e : k = j
    · rw [if_pos ⟨rfl, rfl, e⟩, if_pos e]
    · rw [if_neg (fun z => e z.2.2), if_neg (by omega), if_neg e]
  have key : ∀ n : Nat, (List.range n).countP (fun k => decide (lp_born σ j 9 0 k = 0)) + (if j < n then 1 else 0) = (List.range n).countP (fun k => decide (σ 9 0 k = 0)) := by
    intro n
    induction n with
    | zero => simp
    | succ n ih =>
      rw [List.range_succ, List.countP_append, List.countP_append, ← ih]
      simp only [List.countP_singleton, h9]
      by_cases e : n = j
      · subst e
        simp [hz]
      · by_cases e2 : j < n
        · simp [e, e2, show j < n + 1 by omega]; omega
        · simp [e, e2, show ¬ j < n + 1 by omega]
  have := key 121
  rw [if_pos hj] at this
  exact this
theorem lp_fv_adn {ad ad' : Nat → Nat → Nat} {σ σ' : lpM} {r k : Nat} (hσ : σ' r k = σ r k) : ∀ (j : Nat) (fs : List (Option (Nat × (Nat → Nat)))), (∀ q, some q ∈ fs → ad' q.1 (q.2 k) = ad q.1 (q.2 k)) → lp_fv ad' σ' r k j fs = lp_fv ad σ r k j fs
  | _, [], _ => rfl
  | j, none :: fs, h => by
    show Value.int (σ' r k j) :: _ = Value.int (σ r k j) :: _
    rw [hσ, lp_fv_adn hσ (j + 1) fs (fun q hq => h q (List.mem_cons_of_mem _ hq))]
  | j, some q :: fs, h => by
    show Value.ref (ad' q.1 (q.2 k)) :: _ = Value.ref (ad q.1 (q.2 k)) :: _
    rw [h q List.mem_cons_self, lp_fv_adn hσ (j + 1) fs (fun q hq => h q (List.mem_cons_of_mem _ hq))]
theorem lp_born_ne {σ : lpM} {j r k : Nat} (h9 : ¬ (r = 9 ∧ k = 0)) (h2 : ¬ ((r = 27 ∨ r = 28) ∧ k = j)) : lp_born σ j r k = σ r k := by
  funext i
  unfold lp_born
  rw [if_neg (fun z => h9 ⟨z.1, z.2.1⟩), if_neg h2]
theorem lp_refs : ((List.range 60).all fun r => match lp_lay r with
  | some (.inr (.inr _)) => r == 9 || r == 17
  | _ => true) = true := by decide +kernel
set_option maxHeartbeats 4000000 in
theorem lp_Rep_born {D : va_G} {cI cD : ClassId} {ad : Nat → Nat → Nat} {σ : lpM} {H H3 : Heap} {j q0 q1 q2 : Nat} (hR : lp_Rep D cI cD ad σ H) (hj : j < 121) (hz : σ 9 0 j = 0) (hq : (H.size ≤ q0 ∧ H.size ≤ q1 ∧ H.size ≤ q2) ∧ q0 ≠ q1 ∧ q0 ≠ q2 ∧ q1 ≠ q2)
    (h0 : va_at D vwCl (q0, .inr (1, [.ref q1, .ref q2])) H3) (h1 : va_at D vwCl (q1, lp_z cI 61) H3) (h2 : va_at D vwCl (q2, lp_z cI 61) H3)
    (h9 : va_at D vwCl (ad 9 0, .inl (cD, 121, .inr (.inr (.inr (.inr (va_up (lp_rf ad σ 9 0 26 (fun j => j)) j (some q0))))))) H3) (ho : ∀ q : Nat, q < H.size → q ≠ ad 9 0 → H3[q]? = H[q]?) : lp_Rep D cI cD (lp_adn ad j q0 q1 q2) (lp_born σ j) H3 := by
  have live9 : lp_live σ 9 0 := ⟨by decide, fun h => by cases h⟩
  have hlt : ∀ r k, lp_live σ r k → ad r k < H.size := fun r k h => (hR.1 r k h).lt
  have e26 : lp_adn ad j q0 q1 q2 26 j = q0 := if_pos ⟨rfl, rfl⟩
  have e27 : lp_adn ad j q0 q1 q2 27 j = q1 := by unfold lp_adn; rw [if_neg (by omega), if_pos ⟨rfl, rfl⟩]
  have e28 : lp_adn ad j q0 q1 q2 28 j = q2 := by unfold lp_adn; rw [if_neg (by omega), if_neg (by omega), if_pos ⟨rfl, rfl⟩]
  have hd : lp_dl j = 61 := if_pos hj
  refine ⟨fun r k hn => ?_, fun r k r' k' hn hn' e => ?_⟩
  · rcases (lp_live_born hj hz r k).mp hn with h | ⟨ha, hb, hkj⟩
    · have hne : ¬ (26 ≤ r ∧ r ≤ 28 ∧ k = j) := fun z => by
        rw [z.2.2] at h
        exact lp_not_live hj hz ⟨z.1, z.2.1⟩ h
      rw [lp_adn_ne hne]
      by_cases e9 : r = 9 ∧ k = 0
      · obtain ⟨rfl, rfl⟩ := e9
        have ec : lp_cell cI cD (lp_adn ad j q0 q1 q2) (lp_born σ j) 9 0 = .inl (cD, 121, .inr (.inr (.inr (.inr (lp_rf (lp_adn ad j q0 q1 q2) (lp_born σ j) 9 0 26 (fun j => j)))))) := rfl
        rw [ec]
        have ef : lp_rf (lp_adn ad j q0 q1 q2) (lp_born σ j) 9 0 26 (fun j => j) = va_up (lp_rf ad σ 9 0 26 (fun j => j)) j (some q0) := by
          funext i
          unfold lp_rf va_up
          by_cases e : i = j
          · subst e
            rw [if_pos rfl, e26]
            have : lp_born σ i 9 0 i = 1 := if_pos ⟨rfl, rfl, rfl⟩
            rw [this]
            rfl
          · rw [if_neg e, lp_adn_ne (fun z => e z.2.2)]
            have : lp_born σ j 9 0 i = σ 9 0 i := by unfold lp_born; rw [if_neg (fun z => e z.2.2), if_neg (by omega)]
            rw [this]
        rw [ef]
        exact h9
      · have hσ : lp_born σ j r k = σ r k := lp_born_ne e9 (fun z => hne ⟨by omega, by omega, z.2⟩)
        have hk := (hR.1 r k h).kept (ho _ (hlt r k h) (fun z => e9 (hR.2 r k 9 0 h live9 z)))
        have ec : lp_cell cI cD (lp_adn ad j q0 q1 q2) (lp_born σ j) r k = lp_cell cI cD ad σ r k := by
          unfold lp_cell
          rcases hl : lp_lay r with _ | ⟨ci, fs⟩ | len | ⟨len, r', ix⟩
          · rfl
          · dsimp only
            rw [lp_fv_adn hσ 0 fs (fun q hq => ?_)]
            obtain ⟨i, hi⟩ := List.mem_iff_getElem?.mp hq
            have hlf := lp_live_field (j := i) (r' := q.1) (g := q.2) h hl (by rw [lp_nth_eq]; exact hi)
            exact lp_adn_ne (fun z => by
              obtain ⟨a, b, c⟩ := z
              rw [c] at hlf
              exact lp_not_live hj hz ⟨a, b⟩ hlf)
          · dsimp only
            rw [hσ]
          · dsimp only
            have h17 : r = 17 := by
              have a := List.all_eq_true.mp lp_refs r (List.mem_range.mpr (lp_cnt_lt h.1))
              rw [hl] at a
              rcases (show r = 9 ∨ r = 17 by simpa using a) with rfl | z
              · have : k < 1 := h.1
                exact absurd ⟨rfl, by omega⟩ e9
              · exact z
            subst h17
            have ef : lp_rf (lp_adn ad j q0 q1 q2) (lp_born σ j) 17 k r' ix = lp_rf ad σ 17 k r' ix := by
              cases hl
              funext i
              unfold lp_rf
              rw [hσ, lp_adn_ne (fun z => by have : 121 + i = j := z.2.2; omega)]
            rw [ef]
        rw [ec]
        exact hk
    · subst hkj
      have : r = 26 ∨ r = 27 ∨ r = 28 := by omega
      rcases this with rfl | rfl | rfl
      · rw [e26]
        have ec : lp_cell cI cD (lp_adn ad k q0 q1 q2) (lp_born σ k) 26 k = .inr (1, [.ref (lp_adn ad k q0 q1 q2 27 k), .ref (lp_adn ad k q0 q1 q2 28 k)]) := rfl
        rw [ec, e27, e28]
        exact h0
      · rw [e27]
        have ec : lp_cell cI cD (lp_adn ad k q0 q1 q2) (lp_born σ k) 27 k = .inl (cI, lp_dl k, .inl (lp_born σ k 27 k)) := rfl
        have ez : lp_born σ k 27 k = fun _ => 0 := by funext i; unfold lp_born; rw [if_neg (by omega), if_pos ⟨Or.inl rfl, rfl⟩]
        rw [ec, ez, hd]
        exact h1
      · rw [e28]
        have ec : lp_cell cI cD (lp_adn ad k q0 q1 q2) (lp_born σ k) 28 k = .inl (cI, lp_dl k, .inl (lp_born σ k 28 k)) := rfl
        have ez : lp_born σ k 28 k = fun _ => 0 := by funext i; unfold lp_born; rw [if_neg (by omega), if_pos ⟨Or.inr rfl, rfl⟩]
        rw [ec, ez, hd]
        exact h2
  · have old : ∀ r k, lp_live σ r k → lp_adn ad j q0 q1 q2 r k = ad r k ∧ ¬ (26 ≤ r ∧ r ≤ 28 ∧ k = j) := fun r k h => by
      have hne : ¬ (26 ≤ r ∧ r ≤ 28 ∧ k = j) := fun z => by
        rw [z.2.2] at h
        exact lp_not_live hj hz ⟨z.1, z.2.1⟩ h
      exact ⟨lp_adn_ne hne, hne⟩
    have new : ∀ r, 26 ≤ r → r ≤ 28 → H.size ≤ lp_adn ad j q0 q1 q2 r j := fun r a b => by
      have : r = 26 ∨ r = 27 ∨ r = 28 := by omega
      rcases this with rfl | rfl | rfl
      · rw [e26]; exact hq.1.1
      · rw [e27]; exact hq.1.2.1
      · rw [e28]; exact hq.1.2.2
    rcases (lp_live_born hj hz r k).mp hn with h | ⟨ha, hb, hc⟩ <;> rcases (lp_live_born hj hz r' k').mp hn' with h' | ⟨ha', hb', hc'⟩
    · rw [(old r k h).1, (old r' k' h').1] at e
      exact hR.2 r k r' k' h h' e
    · have a1 := new r' ha' hb'
      have a2 := hlt r k h
      rw [(old r k h).1, hc'] at e
      omega
    · have a1 := new r ha hb
      have a2 := hlt r' k' h'
      rw [(old r' k' h').1, hc] at e
      omega
    · obtain ⟨-, n1, n2, n3⟩ := hq
      rw [hc, hc'] at e
      refine ⟨?_, hc.trans hc'.symm⟩
      rcases (show r = 26 ∨ r = 27 ∨ r = 28 by omega) with e1 | e1 | e1 <;> rcases (show r' = 26 ∨ r' = 27 ∨ r' = 28 by omega) with e2 | e2 | e2 <;> rw [e1, e2] at e ⊢ <;> simp only [e26, e27, e28] at e <;> exfalso <;> first | exact n1 e | exact n2 e | exact n3 e | exact n1 e.symm | exact n2 e.symm | exact n3 e.symm
