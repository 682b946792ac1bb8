/-! ===== pure rows: sums, dealing ===== -/
def lsum (f : Nat → Nat) : Nat → Nat
  | 0 => 0
  | n + 1 => lsum f n + f n
theorem lsum_le {f g : Nat → Nat} : ∀ {n : Nat}, (∀ i, i < n → f i ≤ g i) → lsum f n ≤ lsum g n
  | 0, _ => Nat.le_refl _
  | n + 1, h => Nat.add_le_add (lsum_le (fun i hi => h i (by omega))) (h n (by omega))
theorem lsum_congr {f g : Nat → Nat} : ∀ {n : Nat}, (∀ i, i < n → f i = g i) → lsum f n = lsum g n
  | 0, _ => rfl
  | n + 1, h => by
    show lsum f n + f n = lsum g n + g n
    rw [lsum_congr (fun i hi => h i (by omega)), h n (by omega)]
theorem lsum_mem {f : Nat → Nat} : ∀ {n i : Nat}, i < n → f i ≤ lsum f n
  | 0, _, h => absurd h (Nat.not_lt_zero _)
  | n + 1, i, h => by
    show f i ≤ lsum f n + f n
    by_cases e : i = n
    · subst e; omega
    · have := lsum_mem (f := f) (n := n) (i := i) (by omega)
      omega
theorem lsum_mono {f : Nat → Nat} {i n : Nat} (h : i ≤ n) : lsum f i ≤ lsum f n := by
  induction n with
  | zero => obtain rfl : i = 0 := by omega
            exact Nat.le_refl _
  | succ n ih =>
    by_cases e : i = n + 1
    · subst e; exact Nat.le_refl _
    · exact Nat.le_trans (ih (by omega)) (Nat.le_add_right _ _)
theorem lsum_pos {f : Nat → Nat} : ∀ {n : Nat}, 0 < lsum f n → ∃ i, i < n ∧ 0 < f i
  | 0, h => absurd h (Nat.lt_irrefl _)
  | n + 1, h => by
    rcases Nat.eq_zero_or_pos (f n) with e | e
    · obtain ⟨i, h1, h2⟩ := lsum_pos (f := f) (n := n) (by have : lsum f (n + 1) = lsum f n + f n := rfl; omega)
      exact ⟨i, by omega, h2⟩
    · exact ⟨n, by omega, e⟩
theorem lsum_zero {f : Nat → Nat} {n : Nat} (h : ∀ i, i < n → f i = 0) : lsum f n = 0 := by
  induction n with
  | zero => rfl
  | succ n ih =>
    show lsum f n + f n = 0
    rw [ih (fun i hi => h i (by omega)), h n (by omega)]
theorem lsum_add (f g : Nat → Nat) : ∀ n, lsum (fun i => f i + g i) n = lsum f n + lsum g n
  | 0 => rfl
  | n + 1 => by
    show lsum (fun i => f i + g i) n + (f n + g n) = lsum f n + f n + (lsum g n + g n)
    rw [lsum_add f g n]; omega
/-- one place changed -/
theorem lsum_upd {f g : Nat → Nat} {i : Nat} : ∀ {n : Nat}, i < n → (∀ j, j < n → j ≠ i → g j = f j) → lsum g n + f i = lsum f n + g i
  | 0, h, _ => absurd h (Nat.not_lt_zero _)
  | n + 1, h, hg => by
    show lsum g n + g n + f i = lsum f n + f n + g i
    by_cases e : i = n
    · subst e
      rw [lsum_congr (f := g) (g := f) (fun j hj => hg j (by omega) (by omega))]
      omega
    · have := lsum_upd (f := f) (g := g) (i := i) (n := n) (by omega) (fun j hj => hg j (by omega))
      rw [hg n (by omega) (by omega)]
      omega
def dlT (N c m : Nat) : Nat := ((c + 1) * N + m - 1) / m
/-- of the first n: which one is dealt, and by when it must come -/
def dlS (cnt came : Nat → Nat) (N j : Nat) : Nat → Option (Nat × Nat)
  | 0 => none
  | i + 1 => if cnt i = 0 ∨ j ≤ came i * N / cnt i then dlS cnt came N j i else match dlS cnt came N j i with
    | none => some (i, dlT N (came i) (cnt i))
    | some (b, t) => if dlT N (came i) (cnt i) < t then some (i, dlT N (came i) (cnt i)) else some (b, t)
theorem dlS_skip {cnt came : Nat → Nat} {N j i : Nat} (h : cnt i = 0 ∨ j ≤ came i * N / cnt i) : dlS cnt came N j (i + 1) = dlS cnt came N j i := if_pos h
def dl (cnt came : Nat → Nat) (n : Nat) : Option Nat := (dlS cnt came (lsum cnt n) (lsum came n + 1) n).map (fun q => q.1)
theorem dlS_lt {cnt came : Nat → Nat} {N j b t : Nat} : ∀ {n : Nat}, dlS cnt came N j n = some (b, t) → b < n ∧ 0 < cnt b ∧ t = dlT N (came b) (cnt b) ∧ came b * N / cnt b < j
  | 0, h => by simp [dlS] at h
  | i + 1, h => by
    unfold dlS at h
    by_cases hc : cnt i = 0 ∨ j ≤ came i * N / cnt i
    · rw [if_pos hc] at h
      have := dlS_lt h
      exact ⟨by omega, this.2⟩
    · rw [if_neg hc] at h
      have hi : i < i + 1 ∧ 0 < cnt i ∧ dlT N (came i) (cnt i) = dlT N (came i) (cnt i) ∧ came i * N / cnt i < j := ⟨by omega, by omega, rfl, by omega⟩
      rcases hd : dlS cnt came N j i with _ | ⟨b', t'⟩ <;> rw [hd] at h
      · cases h; exact hi
      · dsimp only at h
        split at h
        · cases h; exact hi
        · cases h
          have := dlS_lt hd
          exact ⟨by omega, this.2⟩
/-- somebody may always come -/
theorem dl_some {cnt came : Nat → Nat} {n : Nat} (h : 0 < lsum cnt n) : ∃ b, dl cnt came n = some b ∧ b < n ∧ 0 < cnt b := by
  rcases hd : dlS cnt came (lsum cnt n) (lsum came n + 1) n with _ | ⟨b, t⟩
  · exfalso
    have key : ∀ (m : Nat) (N j : Nat), dlS cnt came N j m = none → ∀ i, i < m → cnt i = 0 ∨ j ≤ came i * N / cnt i := by
      intro m
      induction m with
      | zero => intro N j _ i hi; omega
      | succ m ih =>
        intro N j h i hi
        unfold dlS at h
        by_cases hc : cnt m = 0 ∨ j ≤ came m * N / cnt m
        · rw [if_pos hc] at h
          by_cases e : i = m
          · subst e; exact hc
          · exact ih N j h i (by omega)
        · rw [if_neg hc] at h
          rcases hd : dlS cnt came N j m with _ | ⟨b', t'⟩ <;> rw [hd] at h
          · cases h
          · dsimp only at h
            split at h <;> cases h
    have k2 := key n _ _ hd
    have k3 : ∀ i, i < n → (lsum came n + 1) * cnt i ≤ came i * lsum cnt n := by
      intro i hi
      rcases k2 i hi with q | q
      · rw [q]; omega
      · rcases Nat.eq_zero_or_pos (cnt i) with z | z
        · rw [z]; omega
        · exact (Nat.le_div_iff_mul_le z).mp q
    have k4 : ∀ m, m ≤ n → (lsum came n + 1) * lsum cnt m ≤ lsum came m * lsum cnt n := by
      intro m
      induction m with
      | zero => intro _; simp [lsum]
      | succ m ih =>
        intro hm
        have a := ih (by omega)
        have b := k3 m (by omega)
        show (lsum came n + 1) * (lsum cnt m + cnt m) ≤ (lsum came m + came m) * lsum cnt n
        have e1 := Nat.mul_add (lsum came n + 1) (lsum cnt m) (cnt m)
        have e2 := Nat.add_mul (lsum came m) (came m) (lsum cnt n)
        omega
    have := k4 n (Nat.le_refl _)
    have h2 : (lsum came n + 1) * lsum cnt n = lsum came n * lsum cnt n + lsum cnt n := Nat.succ_mul _ _
    omega
  · have := dlS_lt hd
    exact ⟨b, by simp [dl, hd], this.1, this.2.1⟩
theorem dlS_congr {cnt cnt' came came' : Nat → Nat} {N j : Nat} : ∀ {n : Nat}, (∀ i, i < n → cnt' i = cnt i ∧ came' i = came i) → dlS cnt' came' N j n = dlS cnt came N j n
  | 0, _ => rfl
  | n + 1, h => by
    unfold dlS
    rw [dlS_congr (fun i hi => h i (by omega)), (h n (by omega)).1, (h n (by omega)).2]
theorem dl_congr {cnt cnt' came came' : Nat → Nat} {n : Nat} (h : ∀ i, i < n → cnt' i = cnt i ∧ came' i = came i) : dl cnt' came' n = dl cnt came n := by
  unfold dl
  rw [dlS_congr h, lsum_congr (f := cnt') (g := cnt) (fun i hi => (h i hi).1), lsum_congr (f := came') (g := came) (fun i hi => (h i hi).2)]
