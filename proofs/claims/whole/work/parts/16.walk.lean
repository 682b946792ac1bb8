/-! ===== pure: WALKS are dealt ===== -/
def nu (f : Nat → Nat) (k x : Nat) : Nat → Nat := fun j => if j = k then x else f j
def u2 (f : Nat → Nat → Nat) (a b : Nat) : Nat → Nat → Nat := fun x y => if x = a ∧ y = b then f x y + 1 else f x y
theorem nu_same (f : Nat → Nat) (k x : Nat) : nu f k x k = x := if_pos rfl
theorem nu_ne {f : Nat → Nat} {k x j : Nat} (h : j ≠ k) : nu f k x j = f j := if_neg h
/-- how many ASKS, their PAGES and WAITS, what came of the STEPS and of their WAITS -/
abbrev lpW : Type := Nat × (Nat → Nat) × (Nat → Nat) × (Nat → Nat → Nat) × (Nat → Nat → Nat)
def wk (cn wn : Nat → Nat → Nat) : Nat → Nat → lpW → lpW
  | 0, _, S => S
  | n + 1, a, S => match dl (cn a) (S.2.2.2.1 a) 11 with
    | none => S
    | some t => if 10 ≤ t then (S.1, S.2.1, S.2.2.1, u2 S.2.2.2.1 a t, S.2.2.2.2) else match dl (wn (a * 11 + t)) (S.2.2.2.2 (a * 11 + t)) 61 with
      | none => S
      | some w => wk cn wn n t (S.1 + 1, nu S.2.1 S.1 t, nu S.2.2.1 S.1 w, u2 S.2.2.2.1 a t, u2 S.2.2.2.2 (a * 11 + t) w)
def wks (cn wn : Nat → Nat → Nat) : Nat → Nat → (Nat → Nat) → lpW → (Nat → Nat) × lpW
  | 0, _, s, S => (s, S)
  | n + 1, v, s, S => wks cn wn n (v + 1) (nu s (v + 1) (wk cn wn 20 10 S).1) (wk cn wn 20 10 S)
/-- counts that a LOG can give -/
def lpG (cn wn : Nat → Nat → Nat) : Prop := (∀ f, f ≤ 10 → lsum (cn f) 11 < 30000) ∧ (∀ j, j < 121 → lsum (wn j) 61 < 30000) ∧ 0 < lsum (cn 10) 11 ∧ (∀ f t, f ≤ 10 → t < 10 → 0 < cn f t → 0 < lsum (wn (f * 11 + t)) 61 ∧ 0 < lsum (cn t) 11)
/-- what came so far, in D steps -/
def lpB (D : Nat) (S : lpW) : Prop := (∀ f, lsum (S.2.2.2.1 f) 11 ≤ D) ∧ (∀ j, lsum (S.2.2.2.2 j) 61 ≤ D)
theorem u2_row (f : Nat → Nat → Nat) (a b x : Nat) : u2 f a b x = if x = a then nu (f a) b (f a b + 1) else f x := by
  funext y
  by_cases hx : x = a
  · subst hx
    by_cases hy : y = b
    · subst hy; simp [u2, nu]
    · simp [u2, nu, hy]
  · simp [u2, hx]
theorem lsum_u2 {f : Nat → Nat → Nat} {a b x n : Nat} : lsum (u2 f a b x) n ≤ lsum (f x) n + 1 := by
  rw [u2_row]
  split
  · rename_i h
    subst h
    by_cases hb : b < n
    · have := lsum_upd (f := f x) (g := nu (f x) b (f x b + 1)) hb (fun j _ hj => nu_ne hj)
      rw [nu_same] at this
      omega
    · rw [lsum_congr (f := nu (f x) b (f x b + 1)) (g := f x) (fun i hi => nu_ne (by omega))]
      omega
  · omega
theorem lpB_step {D : Nat} {c : Nat} {pg wt : Nat → Nat} {S : lpW} {a t j w : Nat} (h : lpB D S) : lpB (D + 1) (c, pg, wt, u2 S.2.2.2.1 a t, u2 S.2.2.2.2 j w) :=
  ⟨fun f => Nat.le_trans lsum_u2 (Nat.succ_le_succ (h.1 f)), fun j => Nat.le_trans lsum_u2 (Nat.succ_le_succ (h.2 j))⟩
theorem lpB_step1 {D : Nat} {c : Nat} {pg wt : Nat → Nat} {S : lpW} {a t : Nat} (h : lpB D S) : lpB (D + 1) (c, pg, wt, u2 S.2.2.2.1 a t, S.2.2.2.2) :=
  ⟨fun f => Nat.le_trans lsum_u2 (Nat.succ_le_succ (h.1 f)), fun j => Nat.le_trans (h.2 j) (Nat.le_succ _)⟩
theorem lpB_mono {D E : Nat} {S : lpW} (h : lpB D S) (hD : D ≤ E) : lpB E S := ⟨fun f => Nat.le_trans (h.1 f) hD, fun j => Nat.le_trans (h.2 j) hD⟩
/-- one step of a WALK -/
theorem wk_step {cn wn : Nat → Nat → Nat} (hG : lpG cn wn) {n a : Nat} {S : lpW} (ha : a ≤ 10) (hs : 0 < lsum (cn a) 11) :
    ∃ t, t < 11 ∧ 0 < cn a t ∧ dl (cn a) (S.2.2.2.1 a) 11 = some t ∧ ((t = 10 ∧ wk cn wn (n + 1) a S = (S.1, S.2.1, S.2.2.1, u2 S.2.2.2.1 a t, S.2.2.2.2)) ∨
      (t < 10 ∧ 0 < lsum (cn t) 11 ∧ ∃ w, w < 61 ∧ 0 < wn (a * 11 + t) w ∧ dl (wn (a * 11 + t)) (S.2.2.2.2 (a * 11 + t)) 61 = some w ∧ wk cn wn (n + 1) a S = wk cn wn n t (S.1 + 1, nu S.2.1 S.1 t, nu S.2.2.1 S.1 w, u2 S.2.2.2.1 a t, u2 S.2.2.2.2 (a * 11 + t) w))) := by
  obtain ⟨t, h1, h2, h3⟩ := dl_some (cnt := cn a) (came := S.2.2.2.1 a) hs
  refine ⟨t, h2, h3, h1, ?_⟩
  by_cases ht : t = 10
  · refine Or.inl ⟨ht, ?_⟩
    conv => lhs; unfold wk
    simp only [h1]
    rw [if_pos (by omega)]
  · obtain ⟨g1, g2⟩ := hG.2.2.2 a t ha (by omega) h3
    obtain ⟨w, h4, h5, h6⟩ := dl_some (cnt := wn (a * 11 + t)) (came := S.2.2.2.2 (a * 11 + t)) g1
    refine Or.inr ⟨by omega, g2, w, h5, h6, h4, ?_⟩
    conv => lhs; unfold wk
    simp only [h1, h4]
    rw [if_neg (by omega)]
/-- what a WALK keeps: the ASKS ahead of it, how many it may add, bounds -/
theorem wk_keep {cn wn : Nat → Nat → Nat} (hG : lpG cn wn) : ∀ (n a D : Nat) (S : lpW), a ≤ 10 → 0 < lsum (cn a) 11 → lpB D S →
    S.1 ≤ (wk cn wn n a S).1 ∧ (wk cn wn n a S).1 ≤ S.1 + n ∧ lpB (D + n) (wk cn wn n a S) ∧ (∀ j, j < S.1 → (wk cn wn n a S).2.1 j = S.2.1 j ∧ (wk cn wn n a S).2.2.1 j = S.2.2.1 j) ∧ (∀ j, S.1 ≤ j → j < (wk cn wn n a S).1 → (wk cn wn n a S).2.1 j < 10 ∧ (wk cn wn n a S).2.2.1 j ≤ 60)
  | 0, a, D, S, ha, hs, hB => ⟨Nat.le_refl _, Nat.le_refl _, hB, fun _ _ => ⟨rfl, rfl⟩, fun j h1 h2 => absurd h2 (by show ¬ j < S.1; omega)⟩
  | n + 1, a, D, S, ha, hs, hB => by
    obtain ⟨t, h1, h2, h3, h4⟩ := wk_step hG (n := n) (S := S) ha hs
    rcases h4 with ⟨rfl, h5⟩ | ⟨h5, h6, w, h7, h8, h9, h10⟩
    · rw [h5]
      exact ⟨Nat.le_refl _, by dsimp only; omega, lpB_mono (lpB_step1 hB) (by omega), fun _ _ => ⟨rfl, rfl⟩, fun j a b => absurd b (by dsimp only; omega)⟩
    · rw [h10]
      obtain ⟨k1, k2, k3, k4, k5⟩ := wk_keep hG n t (D + 1) (S.1 + 1, nu S.2.1 S.1 t, nu S.2.2.1 S.1 w, u2 S.2.2.2.1 a t, u2 S.2.2.2.2 (a * 11 + t) w) (by omega) h6 (lpB_step hB)
      dsimp only at k1 k2 k4 k5
      refine ⟨by omega, by omega, lpB_mono k3 (by omega), fun j hj => ?_, fun j hj1 hj2 => ?_⟩
      · have := k4 j (by omega)
        rw [this.1, this.2, nu_ne (by omega), nu_ne (by omega)]
        exact ⟨rfl, rfl⟩
      · by_cases e : j = S.1
        · subst e
          have := k4 S.1 (by omega)
          rw [this.1, this.2, nu_same, nu_same]
          exact ⟨h5, by omega⟩
        · exact k5 j (by omega) hj2
