/-! ===== pure: the stepped system ===== -/
/-- of the first n that go on, the one that is due first -/
def pv (act : Nat → Bool) (nd : Nat → Nat) : Nat → Option Nat
  | 0 => none
  | v + 1 => match pv act nd v with
    | none => if act v = true then some v else none
    | some b => if act v = true ∧ nd v < nd b then some v else some b
theorem pv_some {act : Nat → Bool} {nd : Nat → Nat} : ∀ {n v : Nat}, v < n → act v = true → ∃ b, pv act nd n = some b
  | 0, v, h, _ => absurd h (Nat.not_lt_zero _)
  | n + 1, v, h, ha => by
    unfold pv
    rcases hp : pv act nd n with _ | b
    · by_cases e : v = n
      · subst e; exact ⟨v, by simp [ha]⟩
      · obtain ⟨b, hb⟩ := pv_some (nd := nd) (n := n) (v := v) (by omega) ha
        rw [hp] at hb; cases hb
    · dsimp only
      split
      · exact ⟨_, rfl⟩
      · exact ⟨_, rfl⟩
theorem pv_spec {act : Nat → Bool} {nd : Nat → Nat} : ∀ {n b : Nat}, pv act nd n = some b → b < n ∧ act b = true ∧ ∀ v, v < n → act v = true → nd b ≤ nd v
  | 0, b, h => by simp [pv] at h
  | n + 1, b, h => by
    unfold pv at h
    rcases hp : pv act nd n with _ | b' <;> rw [hp] at h <;> dsimp only at h
    · by_cases ha : act n = true
      · rw [if_pos ha] at h
        cases h
        refine ⟨by omega, ha, fun v hv hv2 => ?_⟩
        by_cases e : v = n
        · subst e; exact Nat.le_refl _
        · obtain ⟨b, hb⟩ := pv_some (nd := nd) (n := n) (v := v) (by omega) hv2
          rw [hp] at hb; cases hb
      · rw [if_neg ha] at h; cases h
    · obtain ⟨h1, h2, h3⟩ := pv_spec hp
      by_cases hc : act n = true ∧ nd n < nd b'
      · rw [if_pos hc] at h
        cases h
        refine ⟨by omega, hc.1, fun v hv hv2 => ?_⟩
        by_cases e : v = n
        · subst e; exact Nat.le_refl _
        · have := h3 v (by omega) hv2; omega
      · rw [if_neg hc] at h
        obtain rfl : b' = b := Option.some.inj h
        refine ⟨by omega, h2, fun v hv hv2 => ?_⟩
        by_cases e : v = n
        · subst e
          rcases Nat.lt_or_ge (nd v) (nd b') with q | q
          · exact absurd ⟨hv2, q⟩ hc
          · exact q
        · exact h3 v (by omega) hv2
theorem pv_congr {act act' : Nat → Bool} {nd nd' : Nat → Nat} : ∀ {n : Nat}, (∀ v, v < n → act' v = act v ∧ (act v = true → nd' v = nd v)) → pv act' nd' n = pv act nd n
  | 0, _ => rfl
  | n + 1, h => by
    have ih := pv_congr (n := n) (fun v hv => h v (by omega))
    unfold pv
    rw [ih, (h n (by omega)).1]
    rcases hp : pv act nd n with _ | b
    · rfl
    · dsimp only
      have hb := pv_spec hp
      by_cases ha : act n = true
      · rw [(h n (by omega)).2 ha, (h b (by omega)).2 hb.2.1]
      · simp [ha]
/-- of the first n SERVERS the one that is free first -/
def ps (fr : Nat → Nat) : Nat → Nat
  | 0 => 0
  | 1 => 0
  | k + 2 => if fr (k + 1) < fr (ps fr (k + 1)) then k + 1 else ps fr (k + 1)
theorem ps_spec (fr : Nat → Nat) : ∀ k, ps fr (k + 1) ≤ k ∧ ∀ j, j ≤ k → fr (ps fr (k + 1)) ≤ fr j
  | 0 => ⟨Nat.le_refl _, fun j hj => by obtain rfl : j = 0 := by omega
                                        exact Nat.le_refl _⟩
  | k + 1 => by
    obtain ⟨h1, h2⟩ := ps_spec fr k
    show (if fr (k + 1) < fr (ps fr (k + 1)) then k + 1 else ps fr (k + 1)) ≤ k + 1 ∧ ∀ j, j ≤ k + 1 → fr (if fr (k + 1) < fr (ps fr (k + 1)) then k + 1 else ps fr (k + 1)) ≤ fr j
    split
    · refine ⟨Nat.le_refl _, fun j hj => ?_⟩
      by_cases e : j = k + 1
      · subst e; exact Nat.le_refl _
      · have := h2 j (by omega); omega
    · refine ⟨by omega, fun j hj => ?_⟩
      by_cases e : j = k + 1
      · subst e; omega
      · exact h2 j (by omega)
/-- a state of it: 0 the next slot of a VISIT, 1 when it is due, 2 when a SERVER is free, 3 .. 6 of a slot: due, begun, ended, SERVER; 7: the last end, the work, the last beginning, since when it is behind -/
def pu (P : Nat → Nat → Nat) (a b x : Nat) : Nat → Nat → Nat := fun i j => if i = a ∧ j = b then x else P i j
theorem pu_same (P : Nat → Nat → Nat) (a b x : Nat) : pu P a b x a b = x := if_pos ⟨rfl, rfl⟩
theorem pu_ne {P : Nat → Nat → Nat} {a b x i j : Nat} (h : ¬ (i = a ∧ j = b)) : pu P a b x i j = P i j := if_neg h
def pact (s : Nat → Nat) (P : Nat → Nat → Nat) : Nat → Bool := fun v => decide (P 0 v < s (v + 1))
/-- the ASK of VISIT v is begun on SERVER k -/
def svA (s wt : Nat → Nat) (c v k : Nat) (P : Nat → Nat → Nat) : Nat → Nat → Nat :=
  pu (pu (pu (pu (pu (pu (pu (pu (pu (pu (pu P 3 (P 0 v) (P 1 v)) 4 (P 0 v) (max (P 1 v) (P 2 k))) 5 (P 0 v) (max (P 1 v) (P 2 k) + c)) 6 (P 0 v) k) 2 k (max (P 1 v) (P 2 k) + c)) 7 0 (max (P 7 0) (max (P 1 v) (P 2 k) + c))) 7 1 (P 7 1 + c)) 7 3 (if P 7 2 < P 1 v then P 1 v else min (P 7 3) (P 1 v))) 7 2 (max (P 1 v) (P 2 k))) 0 v (P 0 v + 1)) 1 v (if P 0 v + 1 < s (v + 1) then max (P 1 v) (P 2 k) + c + wt (P 0 v + 1) else max (P 1 v) (P 2 k) + c)
def svS (s wt cst : Nat → Nat) (n S : Nat) (P : Nat → Nat → Nat) : Nat → Nat → Nat := match pv (pact s P) (P 1) n with
  | none => P
  | some v => svA s wt (cst (P 0 v)) v (ps (P 2) S) P
def svs (s wt cst : Nat → Nat) (n S : Nat) : Nat → (Nat → Nat → Nat) → Nat → Nat → Nat
  | 0, P => P
  | m + 1, P => svs s wt cst n S m (svS s wt cst n S P)
def p0 (s wt : Nat → Nat) (G : Nat) : Nat → Nat → Nat := fun a b => if a = 0 then s b else if a = 1 then b * G + wt (s b) else 0
/-- VISITS as they lie in slots -/
def lpV0 (n : Nat) (s wt : Nat → Nat) : Prop := n ≤ 60 ∧ s 0 = 0 ∧ (∀ v, v < n → s v ≤ s (v + 1) ∧ s (v + 1) ≤ s v + 20) ∧ ∀ j, j < s n → wt j ≤ 60
/-- where it stands behind k ASKS -/
def lpI (n : Nat) (s : Nat → Nat) (k : Nat) (P : Nat → Nat → Nat) : Prop := (∀ v, v < n → s v ≤ P 0 v ∧ P 0 v ≤ s (v + 1)) ∧ lsum (fun v => P 0 v - s v) n = k
/-- its numbers are small -/
def lpN (n : Nat) (s : Nat → Nat) (K : Nat) (P : Nat → Nat → Nat) : Prop := (∀ v, v < n → P 0 v < s (v + 1) → P 1 v ≤ K) ∧ (∀ k, P 2 k ≤ K) ∧ (∀ j, P 7 j ≤ K) ∧ (∀ v sl, v < n → s v ≤ sl → sl < P 0 v → P 3 sl ≤ P 4 sl ∧ P 4 sl < P 5 sl ∧ P 5 sl ≤ K ∧ P 6 sl < 8)
theorem lpV0_tel {n : Nat} {s wt : Nat → Nat} (h : lpV0 n s wt) : ∀ m, m ≤ n → lsum (fun v => s (v + 1) - s v) m = s m
  | 0, _ => h.2.1.symm
  | m + 1, hm => by
    show lsum (fun v => s (v + 1) - s v) m + (s (m + 1) - s m) = s (m + 1)
    rw [lpV0_tel h m (by omega)]
    have := (h.2.2.1 m (by omega)).1
    omega
theorem lpV0_mono {n : Nat} {s wt : Nat → Nat} (h : lpV0 n s wt) {v : Nat} : ∀ d, v + d ≤ n → s v ≤ s (v + d)
  | 0, _ => Nat.le_refl _
  | d + 1, hd => by
    have := lpV0_mono h (v := v) d (by omega)
    have := (h.2.2.1 (v + d) (by omega)).1
    rw [← Nat.add_assoc]; omega
theorem lpV0_le {n : Nat} {s wt : Nat → Nat} (h : lpV0 n s wt) {v w : Nat} (hv : v ≤ w) (hw : w ≤ n) : s v ≤ s w := by
  have := lpV0_mono h (v := v) (w - v) (by omega)
  rwa [show v + (w - v) = w by omega] at this
/-- while ASKS are left, one goes on -/
theorem lpI_pv {n k : Nat} {s wt : Nat → Nat} {P : Nat → Nat → Nat} (hV : lpV0 n s wt) (h : lpI n s k P) (hk : k < s n) : ∃ v, pv (pact s P) (P 1) n = some v ∧ v < n ∧ P 0 v < s (v + 1) := by
  rcases Classical.em (∃ v, v < n ∧ P 0 v < s (v + 1)) with ⟨v, h1, h2⟩ | hno
  · obtain ⟨b, hb⟩ := pv_some (act := pact s P) (nd := P 1) h1 (decide_eq_true h2)
    have := pv_spec hb
    exact ⟨b, hb, this.1, of_decide_eq_true this.2.1⟩
  · exfalso
    have e : lsum (fun v => P 0 v - s v) n = lsum (fun v => s (v + 1) - s v) n := by
      refine lsum_congr (fun v hv => ?_)
      have := h.1 v hv
      have h2 : ¬ P 0 v < s (v + 1) := fun q => hno ⟨v, hv, q⟩
      have : P 0 v = s (v + 1) := by omega
      rw [this]
    rw [h.2, lpV0_tel hV n (Nat.le_refl _)] at e
    omega
theorem svA_0 {s wt : Nat → Nat} {c v k : Nat} {P : Nat → Nat → Nat} (x : Nat) : svA s wt c v k P 0 x = if x = v then P 0 v + 1 else P 0 x := by
  by_cases e : x = v
  · subst e; simp [svA, pu]
  · simp [svA, pu, e]
theorem svA_1 {s wt : Nat → Nat} {c v k : Nat} {P : Nat → Nat → Nat} (x : Nat) : svA s wt c v k P 1 x = if x = v then (if P 0 v + 1 < s (v + 1) then max (P 1 v) (P 2 k) + c + wt (P 0 v + 1) else max (P 1 v) (P 2 k) + c) else P 1 x := by
  by_cases e : x = v
  · subst e; simp [svA, pu]
  · simp [svA, pu, e]
theorem svA_2 {s wt : Nat → Nat} {c v k : Nat} {P : Nat → Nat → Nat} (x : Nat) : svA s wt c v k P 2 x = if x = k then max (P 1 v) (P 2 k) + c else P 2 x := by
  by_cases e : x = k
  · subst e; simp [svA, pu]
  · simp [svA, pu, e]
theorem svA_3 {s wt : Nat → Nat} {c v k : Nat} {P : Nat → Nat → Nat} (x : Nat) : svA s wt c v k P 3 x = if x = P 0 v then P 1 v else P 3 x := by
  by_cases e : x = P 0 v
  · subst e; simp [svA, pu]
  · simp [svA, pu, e]
theorem svA_4 {s wt : Nat → Nat} {c v k : Nat} {P : Nat → Nat → Nat} (x : Nat) : svA s wt c v k P 4 x = if x = P 0 v then max (P 1 v) (P 2 k) else P 4 x := by
  by_cases e : x = P 0 v
  · subst e; simp [svA, pu]
  · simp [svA, pu, e]
theorem svA_5 {s wt : Nat → Nat} {c v k : Nat} {P : Nat → Nat → Nat} (x : Nat) : svA s wt c v k P 5 x = if x = P 0 v then max (P 1 v) (P 2 k) + c else P 5 x := by
  by_cases e : x = P 0 v
  · subst e; simp [svA, pu]
  · simp [svA, pu, e]
theorem svA_6 {s wt : Nat → Nat} {c v k : Nat} {P : Nat → Nat → Nat} (x : Nat) : svA s wt c v k P 6 x = if x = P 0 v then k else P 6 x := by
  by_cases e : x = P 0 v
  · subst e; simp [svA, pu]
  · simp [svA, pu, e]
theorem svA_70 {s wt : Nat → Nat} {c v k : Nat} {P : Nat → Nat → Nat} : svA s wt c v k P 7 0 = max (P 7 0) (max (P 1 v) (P 2 k) + c) := by simp [svA, pu]
theorem svA_71 {s wt : Nat → Nat} {c v k : Nat} {P : Nat → Nat → Nat} : svA s wt c v k P 7 1 = P 7 1 + c := by simp [svA, pu]
theorem svA_72 {s wt : Nat → Nat} {c v k : Nat} {P : Nat → Nat → Nat} : svA s wt c v k P 7 2 = max (P 1 v) (P 2 k) := by simp [svA, pu]
theorem svA_73 {s wt : Nat → Nat} {c v k : Nat} {P : Nat → Nat → Nat} : svA s wt c v k P 7 3 = if P 7 2 < P 1 v then P 1 v else min (P 7 3) (P 1 v) := by simp [svA, pu]
theorem svA_7o {s wt : Nat → Nat} {c v k : Nat} {P : Nat → Nat → Nat} {j : Nat} (h : 4 ≤ j) : svA s wt c v k P 7 j = P 7 j := by
  simp [svA, pu, show ¬ j = 0 by omega, show ¬ j = 1 by omega, show ¬ j = 2 by omega, show ¬ j = 3 by omega]
theorem lpI_step {n k c : Nat} {s wt : Nat → Nat} {P : Nat → Nat → Nat} {v q : Nat} (h : lpI n s k P) (hv : v < n) (ha : P 0 v < s (v + 1)) : lpI n s (k + 1) (svA s wt c v q P) := by
  refine ⟨fun x hx => ?_, ?_⟩
  · rw [svA_0]
    have := h.1 x hx
    split
    · rename_i e; subst e; omega
    · exact this
  · have hu := lsum_upd (f := fun x => P 0 x - s x) (g := fun x => svA s wt c v q P 0 x - s x) hv (fun j _ hj => by rw [svA_0, if_neg hj])
    rw [svA_0, if_pos rfl, h.2] at hu
    have := h.1 v hv
    omega
theorem lpN_step {n K c : Nat} {s wt : Nat → Nat} {P : Nat → Nat → Nat} {v q : Nat} (hV : lpV0 n s wt) {k : Nat} (hI : lpI n s k P) (h : lpN n s K P) (hv : v < n) (ha : P 0 v < s (v + 1)) (hc : 1 ≤ c ∧ c ≤ 50) (hq : q < 8) : lpN n s (K + 110) (svA s wt c v q P) := by
  obtain ⟨h1, h2, h3, h4⟩ := h
  have a1 := h1 v hv ha
  have a2 := h2 q
  have m1 : max (P 1 v) (P 2 q) ≤ K := Nat.max_le.mpr ⟨a1, a2⟩
  refine ⟨fun x hx hx2 => ?_, fun x => ?_, fun j => ?_, fun x sl hx g1 g2 => ?_⟩
  · rw [svA_0] at hx2
    rw [svA_1]
    by_cases e : x = v
    · subst e
      rw [if_pos rfl] at hx2 ⊢
      rw [if_pos hx2]
      have : wt (P 0 x + 1) ≤ 60 := hV.2.2.2 _ (by have := lpV0_le hV (show x + 1 ≤ n by omega) (Nat.le_refl n); omega)
      omega
    · rw [if_neg e] at hx2 ⊢
      have := h1 x hx hx2
      omega
  · rw [svA_2]
    split
    · omega
    · have := h2 x; omega
  · by_cases j0 : j = 0
    · subst j0; rw [svA_70]; have := h3 0; exact Nat.max_le.mpr ⟨by omega, by omega⟩
    by_cases j1 : j = 1
    · subst j1; rw [svA_71]; have := h3 1; omega
    by_cases j2 : j = 2
    · subst j2; rw [svA_72]; omega
    by_cases j3 : j = 3
    · subst j3; rw [svA_73]; have := h3 3; split <;> omega
    rw [svA_7o (by omega)]
    have := h3 j; omega
  · rw [svA_0] at g2
    rw [svA_3, svA_4, svA_5, svA_6]
    by_cases e : sl = P 0 v
    · simp only [e, if_true]
      refine ⟨Nat.le_max_left _ _, by omega, by omega, hq⟩
    · simp only [if_neg e]
      have : sl < P 0 x := by
        by_cases ex : x = v
        · subst ex; rw [if_pos rfl] at g2; omega
        · rw [if_neg ex] at g2; exact g2
      have := h4 x sl hx g1 this
      omega
