/-! ===== LoadPress: its state as numbers ===== -/
abbrev lpLg : Type := Nat × (Nat → Nat) × (Nat → Nat) × (Nat → Nat)
abbrev lpZ : Type := lpLg × ((Nat → Nat) × (Nat → Nat)) × lpLg × ((Nat → Nat → Nat) × (Nat → Nat → Nat))
abbrev tn (x : Int32) : Nat := x.toNatClampNeg
abbrev ir (x : Int32) (n : Nat) : Prop := x = nI (tn x) ∧ tn x ≤ n
abbrev ir1 (x : Int32) (n : Nat) : Prop := x = nI (tn x) ∧ 1 ≤ tn x ∧ tn x ≤ n
theorem ir_of {x : Int32} {a n : Nat} (h : x = nI a) (ha : a ≤ n) (hn : n < 2 ^ 31) : ir x n := by
  subst h
  have : tn (nI a) = a := lp_clm (by omega)
  exact ⟨by rw [this], by rw [this]; exact ha⟩
theorem ir1_of {x : Int32} {a n : Nat} (h : x = nI a) (h1 : 1 ≤ a) (ha : a ≤ n) (hn : n < 2 ^ 31) : ir1 x n := by
  subst h
  have : tn (nI a) = a := lp_clm (by omega)
  exact ⟨by rw [this], by rw [this]; exact h1, by rw [this]; exact ha⟩
def lp_ctL (L : lpLg) : Nat → Nat := fun j => inL L.1 L.2.1 L.2.2.1 (j / 11) (j % 11)
def lp_wcL (L : lpLg) : Nat → Nat → Nat := fun j w => wL L.1 L.2.1 L.2.2.1 L.2.2.2 (j / 11) (j % 11) w
def LPg (σ : lpM) (L : lpLg) (rr : Nat → Nat) : Prop := lp_Vis σ 0 L.1 L.2.1 L.2.2.1 L.2.2.2 ∧ lp_Mach σ (lp_ctL L) rr (lp_wcL L)
def LPc (σ : lpM) (co : Nat → Nat) : Prop := ∀ j, j < 10 → σ 15 0 j = nI (co j) ∧ 1 ≤ co j ∧ co j ≤ 50
def LPp (σ : lpM) (M : lpLg) (P cm : Nat → Nat → Nat) : Prop := (∀ f, f < 11 → σ 17 0 f ≠ 0) ∧ lp_Vis σ 1 M.1 M.2.1 M.2.2.1 M.2.2.2 ∧ lp_Done σ (M.2.1 M.1) P ∧ (σ 18 0 9 = nI (P 7 2) ∧ σ 18 0 10 = nI (P 7 3) ∧ σ 18 0 11 = nI (P 7 0) ∧ σ 18 0 12 = nI (P 7 1)) ∧ (∀ j, P 7 j < 2 ^ 18) ∧ (∀ f, f < 11 → ∀ t, t < 11 → σ 28 (121 + f) t = nI (cm f t))
def lpP (σ : lpM) (Z : lpZ) : Prop := LPg σ Z.1 Z.2.1.1 ∧ LPc σ Z.2.1.2 ∧ LPp σ Z.2.2.1 Z.2.2.2.1 Z.2.2.2.2
def lpFL (σ τ : lpM) : Prop := ∀ r, 30 ≤ r → τ r = σ r
theorem FL_rf (σ : lpM) : lpFL σ σ := fun _ _ => rfl
theorem FL_tr {σ τ υ : lpM} (h1 : lpFL σ τ) (h2 : lpFL τ υ) : lpFL σ υ := fun r hr => by rw [h2 r hr, h1 r hr]
theorem lp_w3_r {σ : lpM} {r k j r' : Nat} {x : Int32} (h : r' ≠ r) : lp_w3 σ r k j x r' = σ r' := by
  funext k'
  exact lp_w3_ne (fun z => h z.1)
theorem LPg_congr {σ τ : lpM} {L : lpLg} {rr : Nat → Nat} (h : LPg σ L rr) (h2 : ∀ r, 2 ≤ r → r ≤ 5 → τ r 0 = σ r 0) (h7 : ∀ r, 7 ≤ r → r ≤ 9 → τ r = σ r) (h27 : ∀ k, k < 121 → τ 27 k = σ 27 k) : LPg τ L rr :=
  ⟨lp_Vis_congr h.1 (h2 2 (by omega) (by omega)) (h2 3 (by omega) (by omega)) (h2 4 (by omega) (by omega)) (h2 5 (by omega) (by omega)), lp_Mach_congr h.2 (h7 7 (by omega) (by omega)) (h7 8 (by omega) (by omega)) (h7 9 (by omega) (by omega)) h27⟩
theorem LPc_congr {σ τ : lpM} {co : Nat → Nat} (h : LPc σ co) (h15 : τ 15 = σ 15) : LPc τ co := fun j hj => by rw [h15]; exact h j hj
theorem LPp_congr {σ τ : lpM} {M : lpLg} {P cm : Nat → Nat → Nat} (h : LPp σ M P cm) (h17 : τ 17 = σ 17) (h2 : ∀ r, 2 ≤ r → r ≤ 5 → τ r 1 = σ r 1) (h18 : ∀ r, 18 ≤ r → r ≤ 25 → τ r = σ r) (h28 : ∀ k, 121 ≤ k → τ 28 k = σ 28 k) : LPp τ M P cm := by
  obtain ⟨a, b, c, d, e1, f⟩ := h
  refine ⟨by rw [h17]; exact a, lp_Vis_congr b (h2 2 (by omega) (by omega)) (h2 3 (by omega) (by omega)) (h2 4 (by omega) (by omega)) (h2 5 (by omega) (by omega)), ?_, by rw [h18 18 (by omega) (by omega)]; exact d, e1, fun x hx t ht => by rw [h28 _ (by omega)]; exact f x hx t ht⟩
  unfold lp_Done
  rw [h18 19 (by omega) (by omega), h18 20 (by omega) (by omega), h18 21 (by omega) (by omega), h18 22 (by omega) (by omega)]
  exact c
theorem LP_low {σ τ : lpM} {Z : lpZ} (h : lpP σ Z) (hr : ∀ r, r < 30 → τ r = σ r) : lpP τ Z :=
  ⟨LPg_congr h.1 (fun r _ _ => by rw [hr r (by omega)]) (fun r _ _ => hr r (by omega)) (fun k _ => by rw [hr 27 (by omega)]), LPc_congr h.2.1 (hr 15 (by omega)), LPp_congr h.2.2 (hr 17 (by omega)) (fun r _ _ => by rw [hr r (by omega)]) (fun r _ _ => hr r (by omega)) (fun k _ => by rw [hr 28 (by omega)])⟩
theorem lp_Mach_eq {σ : lpM} {ct ct' rr : Nat → Nat} {wc wc' : Nat → Nat → Nat} (h : lp_Mach σ ct rr wc) (h1 : ∀ j, j < 121 → ct' j = ct j) (h2 : ∀ j, j < 121 → ∀ w, w < 61 → wc' j w = wc j w) : lp_Mach σ ct' rr wc' := by
  obtain ⟨a, b, c, d⟩ := h
  refine ⟨fun j hj => by rw [h1 j hj]; exact a j hj, b, fun j hj hz w hw => by rw [h2 j hj w hw]; exact c j hj hz w hw, fun j hj hz w hw => by rw [h2 j hj w hw]; exact d j hj hz w hw⟩
def lg_open (L : lpLg) : lpLg := (L.1 + 1, nu L.2.1 (L.1 + 1) (L.2.1 L.1), L.2.2.1, L.2.2.2)
def lg_add (L : lpLg) (p w : Nat) : lpLg := (L.1, nu L.2.1 L.1 (L.2.1 L.1 + 1), nu L.2.2.1 (L.2.1 L.1) p, nu L.2.2.2 (L.2.1 L.1) w)
abbrev lg_len (L : lpLg) : Nat := L.2.1 L.1 - L.2.1 (L.1 - 1)
abbrev lg_can (L : lpLg) : Prop := 0 < L.1 ∧ lg_len L < 20
def lg_lst (L : lpLg) : Nat := if L.1 = 0 then 10 else lpl L.2.1 L.2.2.1 (L.1 - 1)
theorem lct_eq {ct ct' : Nat → Nat} {f p : Nat} {ne : Prop} [Decidable ne] (hf : f ≤ 10) (hp : p ≤ 9) (hne : ne ↔ f ≠ 10) (hc0 : f ≠ 10 → 0 < ct (f * 11 + 10)) (h : ∀ j, j < 121 → ct' j + (if ne ∧ j / 11 = f ∧ j % 11 = 10 then 1 else 0) = ct j + (if j / 11 = f ∧ j % 11 = p then 1 else 0) + (if j / 11 = p ∧ j % 11 = 10 then 1 else 0)) : ∀ j, j < 121 → ct' j = lp_lct ct f p j := by
  intro j hj
  have h := h j hj
  have c1 : (j / 11 = f ∧ j % 11 = 10) ↔ j = f * 11 + 10 := by omega
  have c2 : (j / 11 = f ∧ j % 11 = p) ↔ j = f * 11 + p := by omega
  have c3 : (j / 11 = p ∧ j % 11 = 10) ↔ j = p * 11 + 10 := by omega
  simp only [c1, c2, c3, hne] at h
  unfold lp_lct lp_lc2 lp_lc1
  by_cases e1 : j = p * 11 + 10
  · subst e1
    rw [nu_same, nu_ne (by omega)]
    rw [if_neg (show ¬ p * 11 + 10 = f * 11 + p by omega), if_pos rfl] at h
    by_cases ef : f = 10
    · rw [if_pos ef]
      rw [if_neg (fun z => z.1 ef)] at h
      omega
    · rw [if_neg ef]
      by_cases ep : p = f
      · subst ep
        rw [nu_same]
        rw [if_pos ⟨ef, rfl⟩] at h
        have := hc0 ef
        omega
      · rw [nu_ne (by omega)]
        rw [if_neg (fun z => ep (by omega))] at h
        omega
  · rw [nu_ne e1]
    rw [if_neg e1] at h
    by_cases e2 : j = f * 11 + p
    · subst e2
      rw [nu_same]
      rw [if_pos rfl, if_neg (fun z => by omega)] at h
      by_cases ef : f = 10
      · rw [if_pos ef]; omega
      · rw [if_neg ef, nu_ne (by omega)]; omega
    · rw [nu_ne e2]
      rw [if_neg e2] at h
      by_cases ef : f = 10
      · rw [if_pos ef]
        rw [if_neg (fun z => z.1 ef)] at h
        omega
      · rw [if_neg ef]
        by_cases e3 : j = f * 11 + 10
        · subst e3
          rw [nu_same]
          rw [if_pos ⟨ef, rfl⟩] at h
          omega
        · rw [nu_ne e3]
          rw [if_neg (fun z => e3 z.2)] at h
          omega
theorem lpl_le {s pg wt : Nat → Nat} {v : Nat} (hV : lpV0 (v + 1) s wt) (hpg : ∀ j, j < s (v + 1) → pg j < 10) : lpl s pg v ≤ 10 ∧ (s (v + 1) - s v ≠ 0 ↔ lpl s pg v ≠ 10) := by
  unfold lpl
  by_cases z : s (v + 1) - s v = 0
  · rw [if_pos z]
    exact ⟨Nat.le_refl _, fun q => absurd z q, fun q => absurd rfl q⟩
  · rw [if_neg z]
    have := hpg (s (v + 1) - 1) (by omega)
    exact ⟨by omega, fun _ => by omega, fun _ => z⟩
theorem lpl_pos {s pg wt : Nat → Nat} {v : Nat} (hV : lpV0 (v + 1) s wt) (h : s (v + 1) - s v ≠ 0) : 0 < inL (v + 1) s pg (lpl s pg v) 10 := by
  obtain ⟨p, h1, h2⟩ : ∃ p : Nat, p ≠ lpl s pg v ∧ p ≠ 10 := by
    by_cases z : lpl s pg v = 0
    · exact ⟨1, by omega, by omega⟩
    · exact ⟨0, by omega, by omega⟩
  have a := inL_add (p := p) (pg := pg) hV (lpl s pg v) 10
  have c1 : s (v + 1) - s v ≠ 0 ∧ lpl s pg v = lpl s pg v ∧ 10 = 10 := ⟨h, rfl, rfl⟩
  have c2 : ¬ (lpl s pg v = lpl s pg v ∧ 10 = p) := fun z => h2 z.2.symm
  have c3 : ¬ (lpl s pg v = p ∧ 10 = 10) := fun z => h1 z.1.symm
  rw [if_pos c1, if_neg c2, if_neg c3] at a
  omega
/-- the Machine's counts when an ASK is added -/
theorem lp_Mach_add {τ : lpM} {v p w : Nat} {s pg wt rr : Nat → Nat} (hV : lpV0 (v + 1) s wt) (hpg : ∀ j, j < s (v + 1) → pg j < 10) (hp : p ≤ 9) (hw : w ≤ 60) (h : lp_Mach τ (lp_lct (lp_ctL (v + 1, s, pg, wt)) (lpl s pg v) p) rr (u2 (lp_wcL (v + 1, s, pg, wt)) (lpl s pg v * 11 + p) w)) : lp_Mach τ (lp_ctL (lg_add (v + 1, s, pg, wt) p w)) rr (lp_wcL (lg_add (v + 1, s, pg, wt) p w)) := by
  obtain ⟨f1, f2⟩ := lpl_le hV hpg
  refine lp_Mach_eq h (lct_eq (ne := s (v + 1) - s v ≠ 0) f1 hp f2 (fun z => ?_) (fun j hj => inL_add hV (j / 11) (j % 11))) (fun j hj w' hw' => ?_)
  · show 0 < inL (v + 1) s pg ((lpl s pg v * 11 + 10) / 11) ((lpl s pg v * 11 + 10) % 11)
    rw [show (lpl s pg v * 11 + 10) / 11 = lpl s pg v by omega, show (lpl s pg v * 11 + 10) % 11 = 10 by omega]
    exact lpl_pos hV (f2.mpr z)
  · show wL (v + 1) (nu s (v + 1) (s (v + 1) + 1)) (nu pg (s (v + 1)) p) (nu wt (s (v + 1)) w) (j / 11) (j % 11) w' = _
    rw [wL_add hV]
    unfold u2
    by_cases e1 : j = lpl s pg v * 11 + p ∧ w' = w
    · rw [if_pos e1, if_pos (by omega)]
      rfl
    · rw [if_neg e1, if_neg (by omega)]
      rfl
