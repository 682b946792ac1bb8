/-! ===== pure: how many unlike values; CONTEXTS ===== -/
/-- how many unlike values below N the first m of a row have -/
noncomputable def dist (N : Nat) (f : Nat → Nat) (m : Nat) : Nat := lsum (fun c => if (∃ i, i < m ∧ f i = c) then 1 else 0) N
theorem dist_0 (N : Nat) (f : Nat → Nat) : dist N f 0 = 0 := lsum_zero (fun c _ => if_neg (fun ⟨i, h, _⟩ => absurd h (Nat.not_lt_zero _)))
theorem dist_old {N : Nat} {f : Nat → Nat} {m : Nat} (h : ∃ j, j < m ∧ f j = f m) : dist N f (m + 1) = dist N f m := by
  unfold dist
  refine lsum_congr (fun c _ => ?_)
  have : (∃ i, i < m + 1 ∧ f i = c) ↔ (∃ i, i < m ∧ f i = c) := by
    constructor
    · rintro ⟨i, h1, h2⟩
      by_cases e1 : i = m
      · subst e1
        obtain ⟨j, h3, h4⟩ := h
        exact ⟨j, h3, h4.trans h2⟩
      · exact ⟨i, by omega, h2⟩
    · rintro ⟨i, h1, h2⟩
      exact ⟨i, by omega, h2⟩
  simp only [this]
theorem dist_new {N : Nat} {f : Nat → Nat} {m : Nat} (hN : f m < N) (h : ∀ j, j < m → f j ≠ f m) : dist N f (m + 1) = dist N f m + 1 := by
  unfold dist
  have := lsum_upd (f := fun c => if (∃ i, i < m ∧ f i = c) then 1 else 0) (g := fun c => if (∃ i, i < m + 1 ∧ f i = c) then 1 else 0) hN (fun c _ hc => by
    have : (∃ i, i < m + 1 ∧ f i = c) ↔ (∃ i, i < m ∧ f i = c) := by
      constructor
      · rintro ⟨i, h1, h2⟩
        by_cases e1 : i = m
        · subst e1; exact absurd h2.symm hc
        · exact ⟨i, by omega, h2⟩
      · rintro ⟨i, h1, h2⟩
        exact ⟨i, by omega, h2⟩
    simp only [this])
  rw [if_neg (fun ⟨i, h1, h2⟩ => h i h1 h2), if_pos ⟨m, by omega, rfl⟩] at this
  omega
theorem dist_congr {N : Nat} {f g : Nat → Nat} {m q : Nat} (h : ∀ c, (∃ i, i < m ∧ f i = c) ↔ (∃ i, i < q ∧ g i = c)) : dist N f m = dist N g q := by
  unfold dist
  refine lsum_congr (fun c _ => ?_)
  simp only [h c]
theorem dist_le {N : Nat} {f : Nat → Nat} : ∀ m, dist N f m ≤ m
  | 0 => by rw [dist_0]; omega
  | m + 1 => by
    have := dist_le (N := N) (f := f) m
    by_cases h : ∃ j, j < m ∧ f j = f m
    · rw [dist_old h]; omega
    · by_cases hN : f m < N
      · rw [dist_new hN (fun j hj e1 => h ⟨j, hj, e1⟩)]; omega
      · have : dist N f (m + 1) = dist N f m := by
          unfold dist
          refine lsum_congr (fun c hc => ?_)
          have : (∃ i, i < m + 1 ∧ f i = c) ↔ (∃ i, i < m ∧ f i = c) := by
            constructor
            · rintro ⟨i, h1, h2⟩
              by_cases e1 : i = m
              · subst e1; omega
              · exact ⟨i, by omega, h2⟩
            · rintro ⟨i, h1, h2⟩
              exact ⟨i, by omega, h2⟩
          simp only [this]
        omega
/-- the key of the CONTEXT of k PAGES from slot a on -/
def ckey (pg : Nat → Nat) (a : Nat) : Nat → Nat
  | 0 => 0
  | k + 1 => ckey pg a k * 10 + pg (a + k)
theorem ckey_lt {pg : Nat → Nat} {a : Nat} : ∀ {k : Nat}, (∀ i, i < k → pg (a + i) < 10) → ckey pg a k < 10 ^ k
  | 0, _ => by simp [ckey]
  | k + 1, h => by
    have h1 := ckey_lt (pg := pg) (a := a) (k := k) (fun i hi => h i (by omega))
    have h2 := h k (by omega)
    show ckey pg a k * 10 + pg (a + k) < 10 ^ (k + 1)
    rw [Nat.pow_succ]
    omega
/-- what comes behind: the CONTEXT that ends ahead of slot p, in a VISIT that ends ahead of e1 -/
def ccod (pg : Nat → Nat) (k e1 p : Nat) : Nat := ckey pg (p - k) k * 11 + (if p < e1 then pg p else 10)
abbrev lpR : Type := Nat × (Nat → Nat)
def gthP (pg : Nat → Nat) (k e1 : Nat) : Nat → Nat → lpR → lpR
  | 0, _, S => S
  | r + 1, p, S => gthP pg k e1 r (p + 1) (S.1 + 1, nu S.2 S.1 (ccod pg k e1 p))
def gthV (s pg : Nat → Nat) (k : Nat) : Nat → Nat → lpR → lpR
  | 0, _, S => S
  | r + 1, v, S => gthV s pg k r (v + 1) (gthP pg k (s (v + 1)) (s (v + 1) + 1 - (s v + k)) (s v + k) S)
/-- the row of all comings of CONTEXTS of k -/
def gth (n : Nat) (s pg : Nat → Nat) (k : Nat) : lpR := gthV s pg k n 0 (0, fun _ => 0)
/-- how often a value comes -/
def occ (C : Nat → Nat) (m c : Nat) : Nat := lsum (fun i => if C i = c then 1 else 0) m
def ctot (C : Nat → Nat) (m key : Nat) : Nat := lsum (fun i => if C i / 11 = key then 1 else 0) m
/-- ALIKE: the same proportions -/
def calk (C : Nat → Nat) (m a b : Nat) : Prop := ∀ p, p < 11 → occ C m (a * 11 + p) * ctot C m b = occ C m (b * 11 + p) * ctot C m a
theorem ctot_pos {C : Nat → Nat} {m key : Nat} : 0 < ctot C m key ↔ ∃ i, i < m ∧ C i / 11 = key := by
  constructor
  · intro h
    obtain ⟨i, h1, h2⟩ := lsum_pos h
    refine ⟨i, h1, ?_⟩
    by_cases e1 : C i / 11 = key
    · exact e1
    · rw [if_neg e1] at h2; omega
  · rintro ⟨i, h1, h2⟩
    have := lsum_mem (f := fun i => if C i / 11 = key then 1 else 0) h1
    rw [if_pos h2] at this
    exact this
theorem calk_rf (C : Nat → Nat) (m a : Nat) : calk C m a a := fun _ _ => rfl
theorem calk_sy {C : Nat → Nat} {m a b : Nat} (h : calk C m a b) : calk C m b a := fun p hp => (h p hp).symm
theorem calk_tr {C : Nat → Nat} {m a b d : Nat} (hb : 0 < ctot C m b) (h1 : calk C m a b) (h2 : calk C m b d) : calk C m a d := by
  intro p hp
  have e1 := h1 p hp
  have e2 := h2 p hp
  apply Nat.eq_of_mul_eq_mul_right hb
  calc occ C m (a * 11 + p) * ctot C m d * ctot C m b = (occ C m (a * 11 + p) * ctot C m b) * ctot C m d := by rw [Nat.mul_right_comm]
    _ = (occ C m (b * 11 + p) * ctot C m a) * ctot C m d := by rw [e1]
    _ = (occ C m (b * 11 + p) * ctot C m d) * ctot C m a := by rw [Nat.mul_right_comm]
    _ = (occ C m (d * 11 + p) * ctot C m b) * ctot C m a := by rw [e2]
    _ = occ C m (d * 11 + p) * ctot C m a * ctot C m b := by rw [Nat.mul_right_comm]
/-- the least below n that is so, or n -/
noncomputable def lfnd (p : Nat → Prop) : Nat → Nat
  | 0 => 0
  | n + 1 => if lfnd p n < n then lfnd p n else @ite _ (p n) (Classical.propDecidable _) n (n + 1)
theorem lfnd_spec {p : Nat → Prop} : ∀ n, (lfnd p n ≤ n) ∧ (lfnd p n < n → p (lfnd p n)) ∧ ∀ j, j < lfnd p n → ¬ p j
  | 0 => ⟨Nat.le_refl _, fun h => absurd h (Nat.not_lt_zero _), fun j hj => absurd hj (Nat.not_lt_zero _)⟩
  | n + 1 => by
    obtain ⟨h1, h2, h3⟩ := lfnd_spec (p := p) n
    unfold lfnd
    by_cases hl : lfnd p n < n
    · rw [if_pos hl]
      exact ⟨by omega, fun _ => h2 hl, h3⟩
    · rw [if_neg hl]
      have e1 : lfnd p n = n := by omega
      rw [e1] at h3
      by_cases hp : p n
      · rw [if_pos hp]
        exact ⟨by omega, fun _ => hp, h3⟩
      · rw [if_neg hp]
        refine ⟨by omega, fun h => absurd h (by omega), fun j hj => ?_⟩
        by_cases ej : j = n
        · subst ej; exact hp
        · exact h3 j (by omega)
theorem lfnd_lt {p : Nat → Prop} {n : Nat} (h : ∃ i, i < n ∧ p i) : lfnd p n < n := by
  obtain ⟨i, h1, h2⟩ := h
  rcases Nat.lt_or_ge (lfnd p n) n with q | q
  · exact q
  · exact absurd h2 ((lfnd_spec (p := p) n).2.2 i (by omega))
theorem lfnd_congr {p q : Nat → Prop} {n : Nat} (h : ∀ i, i < n → (p i ↔ q i)) : lfnd p n = lfnd q n := by
  have a := lfnd_spec (p := p) n
  have b := lfnd_spec (p := q) n
  rcases Nat.lt_trichotomy (lfnd p n) (lfnd q n) with z | z | z
  · have hn : lfnd p n < n := by omega
    exact absurd ((h _ hn).mp (a.2.1 hn)) (b.2.2 _ z)
  · exact z
  · have hn : lfnd q n < n := by omega
    exact absurd ((h _ hn).mpr (b.2.1 hn)) (a.2.2 _ z)
noncomputable def crep (C : Nat → Nat) (m N a : Nat) : Nat := lfnd (fun b => 0 < ctot C m b ∧ calk C m b a) N
theorem crep_lt {C : Nat → Nat} {m N a : Nat} (ha : a < N) (hp : 0 < ctot C m a) : crep C m N a < N := lfnd_lt ⟨a, ha, hp, calk_rf C m a⟩
theorem crep_iff {C : Nat → Nat} {m N a b : Nat} (ha : a < N) (hpa : 0 < ctot C m a) (hb : b < N) (hpb : 0 < ctot C m b) : crep C m N a = crep C m N b ↔ calk C m a b := by
  constructor
  · intro h
    have a1 := (lfnd_spec (p := fun x => 0 < ctot C m x ∧ calk C m x a) N).2.1 (crep_lt ha hpa)
    have b1 := (lfnd_spec (p := fun x => 0 < ctot C m x ∧ calk C m x b) N).2.1 (crep_lt hb hpb)
    have h' : lfnd (fun x => 0 < ctot C m x ∧ calk C m x a) N = lfnd (fun x => 0 < ctot C m x ∧ calk C m x b) N := h
    rw [← h'] at b1
    exact calk_tr a1.1 (calk_sy a1.2) b1.2
  · intro h
    exact lfnd_congr (fun c _ => ⟨fun ⟨x, y⟩ => ⟨x, calk_tr hpa y h⟩, fun ⟨x, y⟩ => ⟨x, calk_tr hpb y (calk_sy h)⟩⟩)
/-- how many unlike CONTEXTS, and STATES -/
noncomputable def cnum (S : lpR) : Nat := dist 10000 (fun i => S.2 i / 11) S.1
noncomputable def cstt (S : lpR) : Nat := dist 10000 (fun i => crep S.2 S.1 10000 (S.2 i / 11)) S.1
/-- two rows with the same values as often -/
def prm (C D : Nat → Nat) (m : Nat) : Prop := ∀ g : Nat → Nat, lsum (fun i => g (D i)) m = lsum (fun i => g (C i)) m
theorem prm_ctot {C D : Nat → Nat} {m : Nat} (h : prm C D m) : ctot D m = ctot C m := by
  funext key
  exact h (fun x => if x / 11 = key then 1 else 0)
theorem prm_occ {C D : Nat → Nat} {m : Nat} (h : prm C D m) : occ D m = occ C m := by
  funext c
  exact h (fun x => if x = c then 1 else 0)
theorem prm_calk {C D : Nat → Nat} {m : Nat} (h : prm C D m) : calk D m = calk C m := by
  funext a b
  unfold calk
  rw [prm_ctot h, prm_occ h]
theorem prm_crep {C D : Nat → Nat} {m N : Nat} (h : prm C D m) : crep D m N = crep C m N := by
  funext a
  unfold crep
  rw [prm_ctot h, prm_calk h]
theorem prm_key {C D : Nat → Nat} {m : Nat} (h : prm C D m) (key : Nat) : (∃ i, i < m ∧ D i / 11 = key) ↔ (∃ i, i < m ∧ C i / 11 = key) := by
  rw [← ctot_pos, ← ctot_pos, prm_ctot h]
theorem prm_cnum {C D : Nat → Nat} {m : Nat} (h : prm C D m) : cnum (m, D) = cnum (m, C) := dist_congr (fun key => prm_key h key)
theorem prm_cstt {C D : Nat → Nat} {m : Nat} (h : prm C D m) : cstt (m, D) = cstt (m, C) := by
  unfold cstt
  dsimp only
  rw [prm_crep h]
  refine dist_congr (fun x => ?_)
  constructor
  · rintro ⟨i, h1, h2⟩
    obtain ⟨j, h3, h4⟩ := (prm_key h (D i / 11)).mp ⟨i, h1, rfl⟩
    exact ⟨j, h3, by rw [h4]; exact h2⟩
  · rintro ⟨i, h1, h2⟩
    obtain ⟨j, h3, h4⟩ := (prm_key h (C i / 11)).mpr ⟨i, h1, rfl⟩
    exact ⟨j, h3, by rw [h4]; exact h2⟩
def srt (D : Nat → Nat) (m : Nat) : Prop := ∀ i j, i ≤ j → j < m → D i ≤ D j
def cfst (D : Nat → Nat) (i : Nat) : Prop := i = 0 ∨ D i / 11 ≠ D (i - 1) / 11
/-- in order: a first one is a new one -/
theorem cfst_new {D : Nat → Nat} {m i : Nat} (hs : srt D m) (hi : i < m) : cfst D i ↔ ∀ j, j < i → D j / 11 ≠ D i / 11 := by
  constructor
  · rintro (rfl | h) j hj
    · omega
    · have a := hs j (i - 1) (by omega) (by omega)
      have b := hs (i - 1) i (by omega) hi
      have a2 := Nat.div_le_div_right (c := 11) a
      have b2 := Nat.div_le_div_right (c := 11) b
      omega
  · intro h
    rcases Nat.eq_zero_or_pos i with z | z
    · exact Or.inl z
    · exact Or.inr (fun q => h (i - 1) (by omega) q.symm)
theorem gthP_keep (pg : Nat → Nat) (k e1 : Nat) : ∀ (r p : Nat) (S : lpR), (gthP pg k e1 r p S).1 = S.1 + r ∧ (∀ j, j < S.1 → (gthP pg k e1 r p S).2 j = S.2 j)
  | 0, p, S => ⟨rfl, fun _ _ => rfl⟩
  | r + 1, p, S => by
    obtain ⟨h1, h2⟩ := gthP_keep pg k e1 r (p + 1) (S.1 + 1, nu S.2 S.1 (ccod pg k e1 p))
    refine ⟨by show (gthP pg k e1 r (p + 1) _).1 = _; rw [h1]; dsimp only; omega, fun j hj => ?_⟩
    show (gthP pg k e1 r (p + 1) _).2 j = _
    rw [h2 j (by dsimp only; omega)]
    exact nu_ne (by omega)
