/-! ===== pure: what a LOG counts ===== -/
def lp_mc (c r : Nat) : Nat := if c = 0 then 0 else max c r
def lfr (s pg : Nat → Nat) (v i : Nat) : Nat := if i = 0 then 10 else pg (s v + i - 1)
def ltt (s pg : Nat → Nat) (v i : Nat) : Nat := if i < s (v + 1) - s v then pg (s v + i) else 10
def inV (s pg : Nat → Nat) (f t v : Nat) : Nat := if s (v + 1) - s v = 0 then 0 else lsum (fun i => if lfr s pg v i = f ∧ ltt s pg v i = t then 1 else 0) (s (v + 1) - s v + 1)
/-- how often a STEP is in the LOG -/
def inL (n : Nat) (s pg : Nat → Nat) (f t : Nat) : Nat := lsum (inV s pg f t) n
def wV (s pg wt : Nat → Nat) (f t w v : Nat) : Nat := lsum (fun i => if lfr s pg v i = f ∧ pg (s v + i) = t ∧ wt (s v + i) = w then 1 else 0) (s (v + 1) - s v)
/-- how often a WAIT comes with it -/
def wL (n : Nat) (s pg wt : Nat → Nat) (f t w : Nat) : Nat := lsum (wV s pg wt f t w) n
theorem lfr_congr {s s' pg pg' : Nat → Nat} {v i : Nat} (h1 : s' v = s v) (h3 : ∀ j, j < s (v + 1) - s v → pg' (s v + j) = pg (s v + j)) (hi : i ≤ s (v + 1) - s v) : lfr s' pg' v i = lfr s pg v i := by
  unfold lfr
  by_cases z : i = 0
  · rw [if_pos z, if_pos z]
  · rw [if_neg z, if_neg z, h1]
    have := h3 (i - 1) (by omega)
    rw [show s v + (i - 1) = s v + i - 1 by omega] at this
    exact this
theorem inV_congr {s s' pg pg' : Nat → Nat} {f t v : Nat} (h1 : s' v = s v) (h2 : s' (v + 1) = s (v + 1)) (h3 : ∀ j, j < s (v + 1) - s v → pg' (s v + j) = pg (s v + j)) : inV s' pg' f t v = inV s pg f t v := by
  unfold inV
  rw [h1, h2]
  by_cases z : s (v + 1) - s v = 0
  · rw [if_pos z, if_pos z]
  · rw [if_neg z, if_neg z]
    refine lsum_congr (fun i hi => ?_)
    rw [lfr_congr h1 h3 (by omega)]
    have : ltt s' pg' v i = ltt s pg v i := by
      unfold ltt
      rw [h1, h2]
      by_cases y : i < s (v + 1) - s v
      · rw [if_pos y, if_pos y]; exact h3 i y
      · rw [if_neg y, if_neg y]
    rw [this]
theorem wV_congr {s s' pg pg' wt wt' : Nat → Nat} {f t w v : Nat} (h1 : s' v = s v) (h2 : s' (v + 1) = s (v + 1)) (h3 : ∀ j, j < s (v + 1) - s v → pg' (s v + j) = pg (s v + j) ∧ wt' (s v + j) = wt (s v + j)) : wV s' pg' wt' f t w v = wV s pg wt f t w v := by
  unfold wV
  rw [h1, h2]
  refine lsum_congr (fun i hi => ?_)
  rw [lfr_congr h1 (fun j hj => (h3 j hj).1) (by omega), (h3 i hi).1, (h3 i hi).2]
theorem inL_congr {n : Nat} {s s' pg pg' wt : Nat → Nat} {f t : Nat} (hV : lpV0 n s wt) (h1 : ∀ v, v ≤ n → s' v = s v) (h3 : ∀ j, j < s n → pg' j = pg j) : inL n s' pg' f t = inL n s pg f t := by
  refine lsum_congr (fun v hv => inV_congr (h1 v (by omega)) (h1 (v + 1) (by omega)) (fun j hj => h3 _ ?_))
  have := lpV0_le hV (show v + 1 ≤ n by omega) (Nat.le_refl n)
  omega
theorem wL_congr {n : Nat} {s s' pg pg' wt wt' : Nat → Nat} {f t w : Nat} (hV : lpV0 n s wt) (h1 : ∀ v, v ≤ n → s' v = s v) (h3 : ∀ j, j < s n → pg' j = pg j ∧ wt' j = wt j) : wL n s' pg' wt' f t w = wL n s pg wt f t w := by
  refine lsum_congr (fun v hv => wV_congr (h1 v (by omega)) (h1 (v + 1) (by omega)) (fun j hj => h3 _ ?_))
  have := lpV0_le hV (show v + 1 ≤ n by omega) (Nat.le_refl n)
  omega
theorem inL_open {n : Nat} {s pg wt : Nat → Nat} {f t : Nat} (hV : lpV0 n s wt) : inL (n + 1) (nu s (n + 1) (s n)) pg f t = inL n s pg f t := by
  show lsum (inV (nu s (n + 1) (s n)) pg f t) n + inV (nu s (n + 1) (s n)) pg f t n = _
  have e1 : inV (nu s (n + 1) (s n)) pg f t n = 0 := by
    unfold inV
    rw [nu_same, nu_ne (by omega), if_pos (by omega)]
  rw [e1]
  exact inL_congr hV (fun v hv => nu_ne (by omega)) (fun _ _ => rfl)
theorem wL_open {n : Nat} {s pg wt : Nat → Nat} {f t w : Nat} (hV : lpV0 n s wt) : wL (n + 1) (nu s (n + 1) (s n)) pg wt f t w = wL n s pg wt f t w := by
  show lsum (wV (nu s (n + 1) (s n)) pg wt f t w) n + wV (nu s (n + 1) (s n)) pg wt f t w n = _
  have e1 : wV (nu s (n + 1) (s n)) pg wt f t w n = 0 := by
    unfold wV
    rw [nu_same, nu_ne (by omega), Nat.sub_self]
    rfl
  rw [e1]
  exact wL_congr hV (fun v hv => nu_ne (by omega)) (fun _ _ => ⟨rfl, rfl⟩)
/-- where the latest VISIT stands -/
def lpl (s pg : Nat → Nat) (v : Nat) : Nat := if s (v + 1) - s v = 0 then 10 else pg (s (v + 1) - 1)
theorem inL_add {v p : Nat} {s pg wt : Nat → Nat} (hV : lpV0 (v + 1) s wt) (f t : Nat) :
    inL (v + 1) (nu s (v + 1) (s (v + 1) + 1)) (nu pg (s (v + 1)) p) f t + (if s (v + 1) - s v ≠ 0 ∧ f = lpl s pg v ∧ t = 10 then 1 else 0) = inL (v + 1) s pg f t + (if f = lpl s pg v ∧ t = p then 1 else 0) + (if f = p ∧ t = 10 then 1 else 0) := by
  have hsv := (hV.2.2.1 v (by omega)).1
  have hV' : lpV0 v s wt := ⟨by have := hV.1; omega, hV.2.1, fun x hx => hV.2.2.1 x (by omega), fun j hj => hV.2.2.2 j (by omega)⟩
  have e1 : lsum (inV (nu s (v + 1) (s (v + 1) + 1)) (nu pg (s (v + 1)) p) f t) v = lsum (inV s pg f t) v := inL_congr hV' (fun x hx => nu_ne (by omega)) (fun j hj => nu_ne (by omega))
  show lsum (inV (nu s (v + 1) (s (v + 1) + 1)) (nu pg (s (v + 1)) p) f t) v + inV (nu s (v + 1) (s (v + 1) + 1)) (nu pg (s (v + 1)) p) f t v + _ = lsum (inV s pg f t) v + inV s pg f t v + _ + _
  rw [e1]
  generalize lsum (inV s pg f t) v = X
  have a1 : nu s (v + 1) (s (v + 1) + 1) v = s v := nu_ne (by omega)
  have a2 : nu s (v + 1) (s (v + 1) + 1) (v + 1) = s (v + 1) + 1 := nu_same _ _ _
  have hlen : nu s (v + 1) (s (v + 1) + 1) (v + 1) - nu s (v + 1) (s (v + 1) + 1) v = s (v + 1) - s v + 1 := by rw [a1, a2]; omega
  have b1 : inV (nu s (v + 1) (s (v + 1) + 1)) (nu pg (s (v + 1)) p) f t v = lsum (fun i => if lfr s pg v i = f ∧ pg (s v + i) = t then 1 else 0) (s (v + 1) - s v) + (if f = lpl s pg v ∧ t = p then 1 else 0) + (if f = p ∧ t = 10 then 1 else 0) := by
    unfold inV
    rw [hlen, if_neg (by omega)]
    show lsum _ (s (v + 1) - s v) + _ + _ = _
    have c1 : ∀ i, i ≤ s (v + 1) - s v → lfr (nu s (v + 1) (s (v + 1) + 1)) (nu pg (s (v + 1)) p) v i = lfr s pg v i := fun i hi => lfr_congr a1 (fun j hj => nu_ne (by omega)) hi
    have c2 : ∀ i, i < s (v + 1) - s v → ltt (nu s (v + 1) (s (v + 1) + 1)) (nu pg (s (v + 1)) p) v i = pg (s v + i) := fun i hi => by
      unfold ltt
      rw [hlen, if_pos (by omega), a1]
      exact nu_ne (by omega)
    have c3 : ltt (nu s (v + 1) (s (v + 1) + 1)) (nu pg (s (v + 1)) p) v (s (v + 1) - s v) = p := by
      unfold ltt
      rw [hlen, if_pos (by omega), a1, show s v + (s (v + 1) - s v) = s (v + 1) by omega]
      exact nu_same _ _ _
    have c4 : lfr (nu s (v + 1) (s (v + 1) + 1)) (nu pg (s (v + 1)) p) v (s (v + 1) - s v + 1) = p := by
      unfold lfr
      rw [if_neg (by omega), a1, show s v + (s (v + 1) - s v + 1) - 1 = s (v + 1) by omega]
      exact nu_same _ _ _
    have c5 : ltt (nu s (v + 1) (s (v + 1) + 1)) (nu pg (s (v + 1)) p) v (s (v + 1) - s v + 1) = 10 := by
      unfold ltt
      rw [hlen, if_neg (by omega)]
    have c6 : lfr s pg v (s (v + 1) - s v) = lpl s pg v := by
      unfold lfr lpl
      by_cases z : s (v + 1) - s v = 0
      · rw [if_pos z, if_pos z]
      · rw [if_neg z, if_neg z, show s v + (s (v + 1) - s v) - 1 = s (v + 1) - 1 by omega]
    have d1 : lsum (fun i => if lfr (nu s (v + 1) (s (v + 1) + 1)) (nu pg (s (v + 1)) p) v i = f ∧ ltt (nu s (v + 1) (s (v + 1) + 1)) (nu pg (s (v + 1)) p) v i = t then 1 else 0) (s (v + 1) - s v) = lsum (fun i => if lfr s pg v i = f ∧ pg (s v + i) = t then 1 else 0) (s (v + 1) - s v) := lsum_congr (fun i hi => by rw [c1 i (by omega), c2 i hi])
    have d2 : (if lfr (nu s (v + 1) (s (v + 1) + 1)) (nu pg (s (v + 1)) p) v (s (v + 1) - s v) = f ∧ ltt (nu s (v + 1) (s (v + 1) + 1)) (nu pg (s (v + 1)) p) v (s (v + 1) - s v) = t then 1 else 0) = (if f = lpl s pg v ∧ t = p then 1 else 0) := by
      rw [c1 _ (Nat.le_refl _), c6, c3]
      simp only [eq_comm]
    have d3 : (if lfr (nu s (v + 1) (s (v + 1) + 1)) (nu pg (s (v + 1)) p) v (s (v + 1) - s v + 1) = f ∧ ltt (nu s (v + 1) (s (v + 1) + 1)) (nu pg (s (v + 1)) p) v (s (v + 1) - s v + 1) = t then 1 else 0) = (if f = p ∧ t = 10 then 1 else 0) := by
      rw [c4, c5]
      simp only [eq_comm]
    rw [d1]
    dsimp only
    rw [d2, d3]
  have b2 : inV s pg f t v = lsum (fun i => if lfr s pg v i = f ∧ pg (s v + i) = t then 1 else 0) (s (v + 1) - s v) + (if s (v + 1) - s v ≠ 0 ∧ f = lpl s pg v ∧ t = 10 then 1 else 0) := by
    unfold inV
    by_cases z : s (v + 1) - s v = 0
    · rw [if_pos z, z, if_neg (fun q => q.1 rfl)]
      rfl
    · rw [if_neg z]
      show lsum _ (s (v + 1) - s v) + _ = _
      have d1 : lsum (fun i => if lfr s pg v i = f ∧ ltt s pg v i = t then 1 else 0) (s (v + 1) - s v) = lsum (fun i => if lfr s pg v i = f ∧ pg (s v + i) = t then 1 else 0) (s (v + 1) - s v) := lsum_congr (fun i hi => by
        rw [show ltt s pg v i = pg (s v + i) from if_pos hi])
      have d2 : (if lfr s pg v (s (v + 1) - s v) = f ∧ ltt s pg v (s (v + 1) - s v) = t then 1 else 0) = (if s (v + 1) - s v ≠ 0 ∧ f = lpl s pg v ∧ t = 10 then 1 else 0) := by
        have q1 : lfr s pg v (s (v + 1) - s v) = lpl s pg v := by
          unfold lfr lpl
          rw [if_neg z, if_neg z, show s v + (s (v + 1) - s v) - 1 = s (v + 1) - 1 by omega]
        have q2 : ltt s pg v (s (v + 1) - s v) = 10 := if_neg (by omega)
        rw [q1, q2]
        by_cases y : f = lpl s pg v ∧ t = 10
        · rw [if_pos ⟨y.1.symm, y.2.symm⟩, if_pos ⟨z, y⟩]
        · rw [if_neg (fun x => y ⟨x.1.symm, x.2.symm⟩), if_neg (fun x => y x.2)]
      rw [d1]
      dsimp only
      rw [d2]
  rw [b1, b2]
  omega
theorem wL_add {v p u : Nat} {s pg wt : Nat → Nat} (hV : lpV0 (v + 1) s wt) (f t w : Nat) :
    wL (v + 1) (nu s (v + 1) (s (v + 1) + 1)) (nu pg (s (v + 1)) p) (nu wt (s (v + 1)) u) f t w = wL (v + 1) s pg wt f t w + (if f = lpl s pg v ∧ t = p ∧ w = u then 1 else 0) := by
  have hsv := (hV.2.2.1 v (by omega)).1
  have hV' : lpV0 v s wt := ⟨by have := hV.1; omega, hV.2.1, fun x hx => hV.2.2.1 x (by omega), fun j hj => hV.2.2.2 j (by omega)⟩
  have e1 : lsum (wV (nu s (v + 1) (s (v + 1) + 1)) (nu pg (s (v + 1)) p) (nu wt (s (v + 1)) u) f t w) v = lsum (wV s pg wt f t w) v := wL_congr hV' (fun x hx => nu_ne (by omega)) (fun j hj => ⟨nu_ne (by omega), nu_ne (by omega)⟩)
  show lsum (wV (nu s (v + 1) (s (v + 1) + 1)) (nu pg (s (v + 1)) p) (nu wt (s (v + 1)) u) f t w) v + wV (nu s (v + 1) (s (v + 1) + 1)) (nu pg (s (v + 1)) p) (nu wt (s (v + 1)) u) f t w v = lsum (wV s pg wt f t w) v + wV s pg wt f t w v + _
  rw [e1, Nat.add_assoc]
  congr 1
  have a1 : nu s (v + 1) (s (v + 1) + 1) v = s v := nu_ne (by omega)
  have a2 : nu s (v + 1) (s (v + 1) + 1) (v + 1) = s (v + 1) + 1 := nu_same _ _ _
  unfold wV
  rw [a2, a1, show s (v + 1) + 1 - s v = s (v + 1) - s v + 1 by omega]
  show lsum _ (s (v + 1) - s v) + _ = _
  have c1 : ∀ i, i ≤ s (v + 1) - s v → lfr (nu s (v + 1) (s (v + 1) + 1)) (nu pg (s (v + 1)) p) v i = lfr s pg v i := fun i hi => lfr_congr a1 (fun j hj => nu_ne (by omega)) hi
  have c6 : lfr s pg v (s (v + 1) - s v) = lpl s pg v := by
    unfold lfr lpl
    by_cases z : s (v + 1) - s v = 0
    · rw [if_pos z, if_pos z]
    · rw [if_neg z, if_neg z, show s v + (s (v + 1) - s v) - 1 = s (v + 1) - 1 by omega]
  have d1 : lsum (fun i => if lfr (nu s (v + 1) (s (v + 1) + 1)) (nu pg (s (v + 1)) p) v i = f ∧ nu pg (s (v + 1)) p (s v + i) = t ∧ nu wt (s (v + 1)) u (s v + i) = w then 1 else 0) (s (v + 1) - s v) = lsum (fun i => if lfr s pg v i = f ∧ pg (s v + i) = t ∧ wt (s v + i) = w then 1 else 0) (s (v + 1) - s v) := lsum_congr (fun i hi => by
    rw [c1 i (by omega), nu_ne (show s v + i ≠ s (v + 1) by omega), nu_ne (show s v + i ≠ s (v + 1) by omega)])
  rw [d1]
  congr 1
  dsimp only
  rw [c1 _ (Nat.le_refl _), c6, show s v + (s (v + 1) - s v) = s (v + 1) by omega, nu_same, nu_same]
  simp only [eq_comm]
theorem inV_le {s pg : Nat → Nat} {f t v : Nat} (h : s (v + 1) ≤ s v + 20) : inV s pg f t v ≤ 21 := by
  unfold inV
  split
  · omega
  · have : lsum (fun i => if lfr s pg v i = f ∧ ltt s pg v i = t then 1 else 0) (s (v + 1) - s v + 1) ≤ lsum (fun _ => 1) (s (v + 1) - s v + 1) := lsum_le (fun i _ => by split <;> omega)
    have h1 : ∀ m, lsum (fun _ => 1) m = m := fun m => by
      induction m with
      | zero => rfl
      | succ m ih => show lsum (fun _ => 1) m + 1 = m + 1; rw [ih]
    rw [h1] at this
    omega
theorem lsum_bd {f : Nat → Nat} {K : Nat} : ∀ {n : Nat}, (∀ i, i < n → f i ≤ K) → lsum f n ≤ n * K
  | 0, _ => by simp [lsum]
  | n + 1, h => by
    have a := lsum_bd (f := f) (K := K) (n := n) (fun i hi => h i (by omega))
    have b := h n (by omega)
    show lsum f n + f n ≤ (n + 1) * K
    rw [Nat.succ_mul]
    omega
theorem inL_le {n : Nat} {s pg wt : Nat → Nat} (hV : lpV0 n s wt) (f t : Nat) : inL n s pg f t ≤ 1260 := by
  have h := lsum_bd (f := inV s pg f t) (K := 21) (n := n) (fun v hv => inV_le (hV.2.2.1 v hv).2)
  have := hV.1
  have h2 : n * 21 ≤ 60 * 21 := Nat.mul_le_mul_right _ this
  exact Nat.le_trans h h2
theorem lsum_comm (g : Nat → Nat → Nat) (n : Nat) : ∀ m, lsum (fun w => lsum (fun v => g v w) n) m = lsum (fun v => lsum (g v) m) n
  | 0 => (lsum_zero (fun _ _ => rfl)).symm
  | m + 1 => by
    show lsum (fun w => lsum (fun v => g v w) n) m + lsum (fun v => g v m) n = lsum (fun v => lsum (g v) m + g v m) n
    rw [lsum_comm g n m, lsum_add]
theorem lsum_one {a : Nat} {p : Prop} [Decidable p] : ∀ {m : Nat}, lsum (fun w => if p ∧ a = w then 1 else 0) m ≤ 1
  | 0 => by simp [lsum]
  | m + 1 => by
    show lsum (fun w => if p ∧ a = w then 1 else 0) m + (if p ∧ a = m then 1 else 0) ≤ 1
    by_cases h : p ∧ a = m
    · rw [if_pos h, lsum_zero (fun i hi => if_neg (fun q => by omega))]
      omega
    · rw [if_neg h]
      have := lsum_one (a := a) (p := p) (m := m)
      omega
theorem wL_sum {n : Nat} {s pg wt : Nat → Nat} (hV : lpV0 n s wt) (f t : Nat) : lsum (wL n s pg wt f t) 61 ≤ 1200 := by
  have e1 : lsum (wL n s pg wt f t) 61 = lsum (fun v => lsum (fun w => wV s pg wt f t w v) 61) n := lsum_comm (fun v w => wV s pg wt f t w v) n 61
  rw [e1]
  have h := lsum_bd (f := fun v => lsum (fun w => wV s pg wt f t w v) 61) (K := 20) (n := n) (fun v hv => by
    have e2 : lsum (fun w => wV s pg wt f t w v) 61 = lsum (fun i => lsum (fun w => if lfr s pg v i = f ∧ pg (s v + i) = t ∧ wt (s v + i) = w then 1 else 0) 61) (s (v + 1) - s v) := lsum_comm (fun i w => if lfr s pg v i = f ∧ pg (s v + i) = t ∧ wt (s v + i) = w then 1 else 0) (s (v + 1) - s v) 61
    show lsum (fun w => wV s pg wt f t w v) 61 ≤ 20
    rw [e2]
    have h2 := lsum_bd (f := fun i => lsum (fun w => if lfr s pg v i = f ∧ pg (s v + i) = t ∧ wt (s v + i) = w then 1 else 0) 61) (K := 1) (n := s (v + 1) - s v) (fun i _ => by
      have h3 := lsum_one (a := wt (s v + i)) (p := lfr s pg v i = f ∧ pg (s v + i) = t) (m := 61)
      simp only [and_assoc] at h3
      exact h3)
    have := hV.2.2.1 v hv
    omega)
  have := hV.1
  omega
/-- the counts of a LOG that has an ASK: WALKS can be dealt of them -/
theorem lpG_log {n : Nat} {s pg wt rr : Nat → Nat} (hV : lpV0 n s wt) (hpg : ∀ j, j < s n → pg j < 10) (hrr : ∀ j, j < 121 → rr j ≤ 100) (h0 : 0 < s n) :
    lpG (fun f t => lp_mc (inL n s pg ((f * 11 + t) / 11) ((f * 11 + t) % 11)) (rr (f * 11 + t))) (fun j w => wL n s pg wt (j / 11) (j % 11) w) := by
  have hpos : ∀ f t, t < 11 → 0 < inL n s pg f t → 0 < lp_mc (inL n s pg ((f * 11 + t) / 11) ((f * 11 + t) % 11)) (rr (f * 11 + t)) := by
    intro f t ht h
    rw [show (f * 11 + t) / 11 = f by omega, show (f * 11 + t) % 11 = t by omega]
    unfold lp_mc
    rw [if_neg (by omega)]
    exact Nat.lt_of_lt_of_le h (Nat.le_max_left _ _)
  have hmem : ∀ v i, v < n → i < s (v + 1) - s v → 0 < inL n s pg (lfr s pg v i) (pg (s v + i)) ∧ 0 < inL n s pg (pg (s v + i)) (ltt s pg v (i + 1)) ∧ ltt s pg v (i + 1) < 11 ∧ 0 < wL n s pg wt (lfr s pg v i) (pg (s v + i)) (wt (s v + i)) := by
    intro v i hv hi
    have hz : ¬ s (v + 1) - s v = 0 := by omega
    have e1 : ltt s pg v i = pg (s v + i) := if_pos hi
    have e2 : lfr s pg v (i + 1) = pg (s v + i) := by
      unfold lfr
      rw [if_neg (by omega)]
      congr 1
    have hle := lpV0_le hV (show v + 1 ≤ n by omega) (Nat.le_refl n)
    have k1 : ∀ f t x, x ≤ s (v + 1) - s v → lfr s pg v x = f → ltt s pg v x = t → 0 < inL n s pg f t := by
      intro f t x hx h1 h2
      have a := lsum_mem (f := inV s pg f t) hv
      have b : 0 < inV s pg f t v := by
        unfold inV
        rw [if_neg hz]
        have c := lsum_mem (f := fun i => if lfr s pg v i = f ∧ ltt s pg v i = t then 1 else 0) (show x < s (v + 1) - s v + 1 by omega)
        rw [if_pos ⟨h1, h2⟩] at c
        exact c
      exact Nat.lt_of_lt_of_le b a
    refine ⟨k1 _ _ i (by omega) rfl e1, k1 _ _ (i + 1) (by omega) e2 rfl, ?_, ?_⟩
    · unfold ltt
      split
      · have := hpg (s v + (i + 1)) (by omega)
        omega
      · omega
    · have a := lsum_mem (f := wV s pg wt (lfr s pg v i) (pg (s v + i)) (wt (s v + i))) hv
      have c := lsum_mem (f := fun x => if lfr s pg v x = lfr s pg v i ∧ pg (s v + x) = pg (s v + i) ∧ wt (s v + x) = wt (s v + i) then 1 else 0) hi
      rw [if_pos ⟨rfl, rfl, rfl⟩] at c
      exact Nat.lt_of_lt_of_le (Nat.lt_of_lt_of_le (by omega) c) a
  have hsum : ∀ (g : Nat → Nat) (x m : Nat), x < m → 0 < g x → 0 < lsum g m := fun g x m hx h => Nat.lt_of_lt_of_le h (lsum_mem hx)
  refine ⟨fun f hf => ?_, fun j hj => ?_, ?_, fun f t hf ht hc => ?_⟩
  · have := lsum_bd (f := fun t => lp_mc (inL n s pg ((f * 11 + t) / 11) ((f * 11 + t) % 11)) (rr (f * 11 + t))) (K := 1260) (n := 11) (fun t ht => by
      have a := inL_le (pg := pg) hV ((f * 11 + t) / 11) ((f * 11 + t) % 11)
      have b := hrr (f * 11 + t) (by omega)
      unfold lp_mc
      split
      · omega
      · exact Nat.max_le.mpr ⟨a, by omega⟩)
    exact Nat.lt_of_le_of_lt this (by omega)
  · have := wL_sum (pg := pg) hV (j / 11) (j % 11)
    exact Nat.lt_of_le_of_lt this (by omega)
  · have h1 : ∃ v, v < n ∧ 0 < s (v + 1) - s v := by
      have h2 := lpV0_tel hV n (Nat.le_refl _)
      rw [← h2] at h0
      exact lsum_pos h0
    obtain ⟨v, h2, h3⟩ := h1
    obtain ⟨a, -, -, -⟩ := hmem v 0 h2 h3
    have hle := lpV0_le hV (show v + 1 ≤ n by omega) (Nat.le_refl n)
    have hp := hpg (s v + 0) (by omega)
    exact hsum _ (pg (s v + 0)) 11 (by omega) (hpos 10 _ (by omega) a)
  · have hin : 0 < inL n s pg f t := by
      dsimp only at hc
      rw [show (f * 11 + t) / 11 = f by omega, show (f * 11 + t) % 11 = t by omega] at hc
      unfold lp_mc at hc
      by_cases z : inL n s pg f t = 0
      · rw [if_pos z] at hc; omega
      · omega
    obtain ⟨v, h1, h2⟩ := lsum_pos hin
    have hz : ¬ s (v + 1) - s v = 0 := fun z => by unfold inV at h2; rw [if_pos z] at h2; omega
    unfold inV at h2
    rw [if_neg hz] at h2
    obtain ⟨i, h3, h4⟩ := lsum_pos h2
    have h5 : lfr s pg v i = f ∧ ltt s pg v i = t := by
      by_cases y : lfr s pg v i = f ∧ ltt s pg v i = t
      · exact y
      · rw [if_neg y] at h4; omega
    have hi : i < s (v + 1) - s v := by
      by_cases y : i < s (v + 1) - s v
      · exact y
      · have : ltt s pg v i = 10 := if_neg y
        omega
    have e1 : pg (s v + i) = t := by
      have : ltt s pg v i = pg (s v + i) := if_pos hi
      rw [← this]; exact h5.2
    obtain ⟨-, b, c, d⟩ := hmem v i h1 hi
    rw [e1] at b d
    rw [h5.1] at d
    have hle := lpV0_le hV (show v + 1 ≤ n by omega) (Nat.le_refl n)
    have hw := hV.2.2.2 (s v + i) (by omega)
    refine ⟨hsum _ (wt (s v + i)) 61 (by omega) ?_, hsum _ (ltt s pg v (i + 1)) 11 c (hpos t _ c b)⟩
    show 0 < wL n s pg wt ((f * 11 + t) / 11) ((f * 11 + t) % 11) (wt (s v + i))
    rw [show (f * 11 + t) / 11 = f by omega, show (f * 11 + t) % 11 = t by omega]
    exact d
