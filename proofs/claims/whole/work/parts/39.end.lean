/-! ===== pure: the stepped system to its end; since when it is behind ===== -/
theorem lsum_eqs {f g : Nat → Nat} : ∀ {n : Nat}, (∀ i, i < n → f i ≤ g i) → lsum f n = lsum g n → ∀ i, i < n → f i = g i
  | 0, _, _, i, hi => absurd hi (Nat.not_lt_zero _)
  | n + 1, h, hs, i, hi => by
    have a := lsum_le (f := f) (g := g) (n := n) (fun i hi => h i (by omega))
    have b := h n (by omega)
    have hs : lsum f n + f n = lsum g n + g n := hs
    by_cases e1 : i = n
    · subst e1; omega
    · exact lsum_eqs (f := f) (g := g) (n := n) (fun i hi => h i (by omega)) (by omega) i (by omega)
theorem lpI_end {n : Nat} {s wt : Nat → Nat} {P : Nat → Nat → Nat} (hV : lpV0 n s wt) (h : lpI n s (s n) P) : ∀ v, v < n → P 0 v = s (v + 1) := by
  intro v hv
  have h1 := lpV0_tel hV n (Nat.le_refl _)
  have h2 := lsum_eqs (f := fun v => P 0 v - s v) (g := fun v => s (v + 1) - s v) (n := n) (fun i hi => by have := h.1 i hi; omega) (by rw [h1]; exact h.2) v hv
  have h3 := h.1 v hv
  have := (hV.2.2.1 v hv).1
  omega
theorem lp_find {n : Nat} {s wt : Nat → Nat} (hV : lpV0 n s wt) {sl : Nat} : ∀ m, m ≤ n → sl < s m → ∃ v, v < m ∧ s v ≤ sl ∧ sl < s (v + 1)
  | 0, _, h => by have := hV.2.1; omega
  | m + 1, hm, h => by
    by_cases hl : sl < s m
    · obtain ⟨v, h1, h2⟩ := lp_find hV m (by omega) hl
      exact ⟨v, by omega, h2⟩
    · exact ⟨m, by omega, by omega, h⟩
def lp_pr (n : Nat) (s : Nat → Nat) (P : Nat → Nat → Nat) (sl : Nat) : Prop := ∃ v, v < n ∧ s v ≤ sl ∧ sl < P 0 v
def lp_Bh (n S : Nat) (s : Nat → Nat) (P : Nat → Nat → Nat) : Prop :=
  P 7 3 ≤ P 7 2 ∧ (∀ sl, lp_pr n s P sl → P 4 sl ≤ P 7 2 ∧ (P 7 3 ≤ P 4 sl → P 7 3 ≤ P 3 sl)) ∧ (∀ x, P 7 3 < x → x ≤ P 7 2 → ∃ sl, lp_pr n s P sl ∧ x ≤ P 4 sl ∧ P 3 sl < x) ∧
  (P 7 2 ≠ 0 → ∃ sl, lp_pr n s P sl ∧ P 4 sl = P 7 2) ∧ (∀ v, v < n → P 0 v < s (v + 1) → P 7 3 ≤ P 1 v ∧ ∀ k, k < S → P 7 2 ≤ max (P 1 v) (P 2 k))
theorem lp_pr_ne {n q v sl : Nat} {s wt : Nat → Nat} {P : Nat → Nat → Nat} (hV : lpV0 n s wt) (hI : lpI n s q P) (hv : v < n) (ha : P 0 v < s (v + 1)) (h : lp_pr n s P sl) : sl ≠ P 0 v := by
  obtain ⟨v', h1, h2, h3⟩ := h
  have a := hI.1 v hv
  have b := hI.1 v' h1
  rcases Nat.lt_trichotomy v' v with z | z | z
  · have := lpV0_le hV (show v' + 1 ≤ v by omega) (show v ≤ n by omega)
    omega
  · subst z; omega
  · have := lpV0_le hV (show v + 1 ≤ v' by omega) (show v' ≤ n by omega)
    omega
theorem lp_Bh_step {n S q v c : Nat} {s wt : Nat → Nat} {P : Nat → Nat → Nat} (hV : lpV0 n s wt) (hI : lpI n s q P) (hB : lp_Bh n (S + 1) s P) (hv : v < n) (ha : P 0 v < s (v + 1)) (hmin : ∀ v', v' < n → P 0 v' < s (v' + 1) → P 1 v ≤ P 1 v') : lp_Bh n (S + 1) s (svA s wt c v (ps (P 2) (S + 1)) P) := by
  obtain ⟨b1, b2, b3, b4, b5⟩ := hB
  obtain ⟨k1, k2⟩ := ps_spec (P 2) S
  generalize ps (P 2) (S + 1) = k at k1 k2 ⊢
  have hbs := (b5 v hv ha).1
  have hlb := (b5 v hv ha).2 k (by omega)
  have hb' : (if P 7 2 < P 1 v then P 1 v else min (P 7 3) (P 1 v)) = if P 7 2 < P 1 v then P 1 v else P 7 3 := by rw [Nat.min_eq_left hbs]
  have hBd : P 1 v ≤ max (P 1 v) (P 2 k) := Nat.le_max_left _ _
  have hBf : P 2 k ≤ max (P 1 v) (P 2 k) := Nat.le_max_right _ _
  have hold : ∀ sl, lp_pr n s P sl → svA s wt c v k P 4 sl = P 4 sl ∧ svA s wt c v k P 3 sl = P 3 sl ∧ lp_pr n s (svA s wt c v k P) sl := by
    intro sl h
    have hne := lp_pr_ne hV hI hv ha h
    refine ⟨by rw [svA_4, if_neg hne], by rw [svA_3, if_neg hne], ?_⟩
    obtain ⟨v', h1, h2, h3⟩ := h
    refine ⟨v', h1, h2, ?_⟩
    rw [svA_0]
    split
    · rename_i z; rw [z] at h3; omega
    · exact h3
  have hnew : svA s wt c v k P 4 (P 0 v) = max (P 1 v) (P 2 k) ∧ svA s wt c v k P 3 (P 0 v) = P 1 v ∧ lp_pr n s (svA s wt c v k P) (P 0 v) := by
    refine ⟨by rw [svA_4, if_pos rfl], by rw [svA_3, if_pos rfl], v, hv, (hI.1 v hv).1, ?_⟩
    rw [svA_0, if_pos rfl]; omega
  have hcase : ∀ sl, lp_pr n s (svA s wt c v k P) sl → lp_pr n s P sl ∨ sl = P 0 v := by
    rintro sl ⟨v', h1, h2, h3⟩
    rw [svA_0] at h3
    by_cases z : v' = v
    · subst z
      rw [if_pos rfl] at h3
      by_cases z2 : sl = P 0 v'
      · exact Or.inr z2
      · exact Or.inl ⟨v', h1, h2, by omega⟩
    · rw [if_neg z] at h3
      exact Or.inl ⟨v', h1, h2, h3⟩
  have e2 : svA s wt c v k P 7 2 = max (P 1 v) (P 2 k) := svA_72
  have e3 : svA s wt c v k P 7 3 = if P 7 2 < P 1 v then P 1 v else P 7 3 := svA_73.trans hb'
  have hle : ∀ v', v' < n → svA s wt c v k P 0 v' < s (v' + 1) → P 1 v ≤ svA s wt c v k P 1 v' ∧ max (P 1 v) (P 2 k) ≤ max (svA s wt c v k P 1 v') (P 2 k) := by
    intro v' h1 h2
    rw [svA_0] at h2
    rw [svA_1]
    by_cases z : v' = v
    · subst z
      rw [if_pos rfl] at h2 ⊢
      rw [if_pos h2]
      exact ⟨by omega, by omega⟩
    · rw [if_neg z] at h2 ⊢
      have := hmin v' h1 h2
      exact ⟨this, by omega⟩
  refine ⟨?_, fun sl h => ?_, fun x h1 h2 => ?_, fun _ => ⟨_, hnew.2.2, by rw [hnew.1, e2]⟩, fun v' h1 h2 => ⟨?_, fun k' hk' => ?_⟩⟩
  · rw [e2, e3]
    split <;> omega
  · rw [e2, e3]
    rcases hcase sl h with h | h
    · obtain ⟨a, b, -⟩ := hold sl h
      rw [a, b]
      have := b2 sl h
      refine ⟨by omega, fun z => ?_⟩
      by_cases hr : P 7 2 < P 1 v
      · rw [if_pos hr] at z; omega
      · rw [if_neg hr] at z ⊢; exact this.2 z
    · rw [h, hnew.1, hnew.2.1]
      refine ⟨Nat.le_refl _, fun _ => ?_⟩
      split <;> omega
  · rw [e3] at h1
    rw [e2] at h2
    by_cases hr : P 7 2 < P 1 v
    · rw [if_pos hr] at h1
      exact ⟨_, hnew.2.2, by rw [hnew.1]; exact h2, by rw [hnew.2.1]; exact h1⟩
    · rw [if_neg hr] at h1
      by_cases hx : x ≤ P 7 2
      · obtain ⟨sl, g1, g2, g3⟩ := b3 x h1 hx
        obtain ⟨a, b, d⟩ := hold sl g1
        exact ⟨sl, d, by rw [a]; exact g2, by rw [b]; exact g3⟩
      · exact ⟨_, hnew.2.2, by rw [hnew.1]; exact h2, by rw [hnew.2.1]; omega⟩
  · rw [e3]
    have := (hle v' h1 h2).1
    split
    · exact this
    · omega
  · rw [e2]
    have a := (hle v' h1 h2).1
    have b : P 2 k ≤ svA s wt c v k P 2 k' := by
      rw [svA_2]
      split
      · omega
      · exact k2 k' (by omega)
    omega
theorem svs_keep {n S : Nat} {s wt cst : Nat → Nat} (hV : lpV0 n s wt) (hS : S < 8) (hc : ∀ sl, sl < s n → 1 ≤ cst sl ∧ cst sl ≤ 50) : ∀ (m q K : Nat) (P : Nat → Nat → Nat), lpI n s q P → lpN n s K P → lp_Bh n (S + 1) s P → q + m ≤ s n →
    lpI n s (q + m) (svs s wt cst n (S + 1) m P) ∧ lpN n s (K + 110 * m) (svs s wt cst n (S + 1) m P) ∧ lp_Bh n (S + 1) s (svs s wt cst n (S + 1) m P)
  | 0, q, K, P, hI, hN, hB, _ => ⟨hI, hN, hB⟩
  | m + 1, q, K, P, hI, hN, hB, hm => by
    obtain ⟨v, hp, hv, ha⟩ := lpI_pv hV hI (by omega)
    have e1 : svS s wt cst n (S + 1) P = svA s wt (cst (P 0 v)) v (ps (P 2) (S + 1)) P := by unfold svS; rw [hp]
    have hsl : P 0 v < s n := by have := lpV0_le hV (show v + 1 ≤ n by omega) (Nat.le_refl n); omega
    have hcc := hc _ hsl
    have hps := (ps_spec (P 2) S).1
    have g := svs_keep hV hS hc m (q + 1) (K + 110) (svS s wt cst n (S + 1) P) (by rw [e1]; exact lpI_step hI hv ha) (by rw [e1]; exact lpN_step hV hI hN hv ha hcc (by omega)) (by
      rw [e1]
      exact lp_Bh_step hV hI hB hv ha (fun v' h1 h2 => (pv_spec hp).2.2 v' h1 (decide_eq_true h2))) (by omega)
    show lpI n s (q + (m + 1)) (svs s wt cst n (S + 1) m (svS s wt cst n (S + 1) P)) ∧ lpN n s (K + 110 * (m + 1)) (svs s wt cst n (S + 1) m (svS s wt cst n (S + 1) P)) ∧ lp_Bh n (S + 1) s (svs s wt cst n (S + 1) m (svS s wt cst n (S + 1) P))
    rw [show q + (m + 1) = q + 1 + m by omega, show K + 110 * (m + 1) = K + 110 + 110 * m by omega]
    exact g
/-- what is known of a PRESS that ran -/
def lp_PF (n : Nat) (s : Nat → Nat) (P : Nat → Nat → Nat) : Prop := (∀ sl, sl < s n → P 3 sl ≤ P 4 sl ∧ P 4 sl < P 5 sl ∧ P 5 sl < 2 ^ 18 ∧ P 6 sl < 8) ∧ (∀ j, P 7 j < 2 ^ 18) ∧ P 7 3 ≤ P 7 2 ∧ (∀ sl, sl < s n → P 4 sl ≤ P 7 2 ∧ (P 7 3 ≤ P 4 sl → P 7 3 ≤ P 3 sl)) ∧ (∀ x, P 7 3 < x → x ≤ P 7 2 → ∃ sl, sl < s n ∧ x ≤ P 4 sl ∧ P 3 sl < x) ∧ (P 7 2 ≠ 0 → ∃ sl, sl < s n ∧ P 4 sl = P 7 2)
theorem lpV0_1200 {n : Nat} {s wt : Nat → Nat} (hV : lpV0 n s wt) : ∀ v, v ≤ n → s v ≤ 20 * v
  | 0, _ => by have := hV.2.1; omega
  | v + 1, hv => by have := lpV0_1200 hV v (by omega); have := hV.2.2.1 v (by omega); omega
theorem lp_PF_svs {n S G : Nat} {s wt cst : Nat → Nat} (hV : lpV0 n s wt) (hS : S < 8) (hG : G ≤ 100) (hc : ∀ sl, sl < s n → 1 ≤ cst sl ∧ cst sl ≤ 50) :
    lp_PF n s (svs s wt cst n (S + 1) (s n) (p0 s wt G)) ∧ ∀ v, v < n → svs s wt cst n (S + 1) (s n) (p0 s wt G) 0 v = s (v + 1) := by
  have hB0 : lp_Bh n (S + 1) s (p0 s wt G) := by
    refine ⟨Nat.le_refl _, fun sl h => ?_, fun x h1 h2 => ?_, fun h => absurd rfl h, fun v hv _ => ⟨Nat.zero_le _, fun k _ => Nat.zero_le _⟩⟩
    · obtain ⟨v, h1, h2, h3⟩ := h
      have h3 : sl < s v := h3
      omega
    · have h1 : 0 < x := h1
      have h2 : x ≤ 0 := h2
      omega
  have hI0 : lpI n s 0 (p0 s wt G) := ⟨fun v hv => ⟨Nat.le_refl _, (hV.2.2.1 v hv).1⟩, lsum_zero (fun v _ => Nat.sub_self _)⟩
  obtain ⟨g1, g2, g3⟩ := svs_keep hV hS hc (s n) 0 6060 (p0 s wt G) hI0 (lpN_0 hV hG) hB0 (by omega)
  generalize svs s wt cst n (S + 1) (s n) (p0 s wt G) = P at g1 g2 g3 ⊢
  rw [Nat.zero_add] at g1
  have hend := lpI_end hV g1
  have hb := lpV0_1200 hV n (Nat.le_refl _)
  have hn := hV.1
  have hK : 6060 + 110 * s n < 2 ^ 18 := by omega
  have hpr : ∀ sl, sl < s n ↔ lp_pr n s P sl := fun sl => by
    constructor
    · intro h
      obtain ⟨v, h1, h2, h3⟩ := lp_find hV n (Nat.le_refl _) h
      exact ⟨v, h1, h2, by rw [hend v h1]; exact h3⟩
    · rintro ⟨v, h1, h2, h3⟩
      rw [hend v h1] at h3
      have := lpV0_le hV (show v + 1 ≤ n by omega) (Nat.le_refl n)
      omega
  refine ⟨⟨fun sl h => ?_, fun j => Nat.lt_of_le_of_lt (g2.2.2.1 j) hK, g3.1, fun sl h => g3.2.1 sl ((hpr sl).mp h), fun x h1 h2 => ?_, fun h => ?_⟩, hend⟩
  · obtain ⟨v, h1, h2, h3⟩ := (hpr sl).mp h
    have := g2.2.2.2 v sl h1 h2 h3
    omega
  · obtain ⟨sl, h3, h4⟩ := g3.2.2.1 x h1 h2
    exact ⟨sl, (hpr sl).mpr h3, h4⟩
  · obtain ⟨sl, h3, h4⟩ := g3.2.2.2.1 h
    exact ⟨sl, (hpr sl).mpr h3, h4⟩
