/-! ===== numbers, and the leaves ===== -/
theorem lp_method0 {l : Launch} {D : va_G} {cI cD : ClassId} {y : MethodName} {bytes : ByteArray} {nL : Nat} {ret : Option FieldType} {h : Nat} {spec : lpS} {own : String} (fl pf : List (Nat × Nat × Nat)) (kc : List (Nat × Int32)) (cs : List (Nat × Option Nat × Nat × lpS)) (bl : Bool) (code : lpC)
    (hy : plainName y.cls = true) (hown : y.cls = own) (hret : ret = none ∨ ret = some .int ∨ (ret = some .boolean ∧ bl = true)) (hfl : fl.all (lp_flb own) = true) (hpf : pf.all (lp_pfb own) = true) (hkc : kc.all (lp_kcb own) = true) (hcode : lp_okc code bytes ret = true) (hc0 : ∃ x k, code = x :: k ∧ x.1 = 0)
    (hcs : ∀ x ∈ cs, lp_CallOK l D cI cD own h x)
    (hE : ∀ (as : List lpV) (σ : lpM) (Q : Option Int32 → lpM → Prop), spec as σ Q → as.length ≤ nL ∧ lp_wp fl pf kc cs bl code [] (fun _ _ _ => False) Q 500 code (lp_ent as nL) [] σ) : lp_Ct l D cI cD y bytes nL ret h spec := by
  refine lp_method fl pf kc cs bl code [] hy hown hret hfl hpf hkc hcode hc0 hcs (fun as σ Q _ hs => ?_)
  obtain ⟨h1, h2⟩ := hE as σ Q hs
  refine ⟨h1, fun _ _ _ _ => False, ?_, fun _ _ _ _ h => h.elim⟩
  rw [show (fun (pc : Nat) (L : lpL) (σ : lpM) => ∃ m : Nat, (fun (_ _ : Nat) (_ : lpL) (_ : lpM) => False) m pc L σ) = (fun _ _ _ => False) from by
    funext a b c; simp]
  exact h2
theorem lp_rI : ∀ {r : Option FieldType}, r = some .int → r = none ∨ r = some .int ∨ (r = some .boolean ∧ false = true) := fun h => Or.inr (Or.inl h)
theorem lp_rB : ∀ {r : Option FieldType}, r = some .boolean → r = none ∨ r = some .int ∨ (r = some .boolean ∧ true = true) := fun h => Or.inr (Or.inr ⟨h, rfl⟩)
theorem lp_rV : ∀ {r : Option FieldType}, r = none → r = none ∨ r = some .int ∨ (r = some .boolean ∧ false = true) := fun h => Or.inl h
theorem lp_cs0 {l : Launch} {D : va_G} {cI cD : ClassId} {own : String} {h : Nat} : ∀ x ∈ ([] : List (Nat × Option Nat × Nat × lpS)), lp_CallOK l D cI cD own h x := fun x hx => by cases hx
theorem lp_cs1 {l : Launch} {D : va_G} {cI cD : ClassId} {own : String} {h : Nat} {a : Nat × Option Nat × Nat × lpS} {t : List (Nat × Option Nat × Nat × lpS)} (h1 : lp_CallOK l D cI cD own h a) (h2 : ∀ x ∈ t, lp_CallOK l D cI cD own h x) : ∀ x ∈ a :: t, lp_CallOK l D cI cD own h x := fun x hx => by
  rcases List.mem_cons.mp hx with rfl | hx
  · exact h1
  · exact h2 x hx
theorem lp_toInt {n : Nat} (h : n < 2 ^ 31) : (nI n).toInt = (n : Int) := nI_toInt h
theorem lp_subI {a b : Nat} (ha : a < 2 ^ 31) (hb : b < 2 ^ 31) : (nI a - nI b).toInt = (a : Int) - b := by
  have h1 := nI_toInt ha
  have h2 := nI_toInt hb
  rw [Int32.toInt_sub, h1, h2]
  have : (a : Int) - b < 2 ^ 31 ∧ -(2 ^ 31) ≤ (a : Int) - b := by omega
  rw [Int.bmod_eq_of_le (by omega) (by omega)]
/-- an index below n, or none -/
theorem lp_rng {x : Int32} {n : Nat} (hn : n < 2 ^ 31) : ((0 : Int32) ≤ x ∧ x ≤ nI n - 1) ↔ ∃ v, v < n ∧ x = nI v := by
  have e : (nI n - 1).toInt = (n : Int) - 1 := lp_subI (a := n) (b := 1) hn (by omega)
  constructor
  · rintro ⟨h1, h2⟩
    rw [Int32.le_iff_toInt_le] at h1 h2
    rw [e] at h2
    have h1 : 0 ≤ x.toInt := h1
    refine ⟨x.toInt.toNat, by omega, ?_⟩
    apply Int32.toInt_inj.mp
    rw [nI_toInt (by omega)]
    omega
  · rintro ⟨v, hv, rfl⟩
    rw [Int32.le_iff_toInt_le, Int32.le_iff_toInt_le, e, nI_toInt (by omega)]
    have : (0 : Int32).toInt = 0 := rfl
    omega
theorem lp_rng2 {x : Int32} {n : Nat} (hn : n < 2 ^ 31) : ((0 : Int32) ≤ x ∧ x ≤ nI n) ↔ ∃ v, v ≤ n ∧ x = nI v := by
  constructor
  · rintro ⟨h1, h2⟩
    rw [Int32.le_iff_toInt_le] at h1 h2
    rw [nI_toInt hn] at h2
    have h1 : 0 ≤ x.toInt := h1
    refine ⟨x.toInt.toNat, by omega, ?_⟩
    apply Int32.toInt_inj.mp
    rw [nI_toInt (by omega)]
    omega
  · rintro ⟨v, hv, rfl⟩
    rw [Int32.le_iff_toInt_le, Int32.le_iff_toInt_le, nI_toInt hn, nI_toInt (by omega)]
    have : (0 : Int32).toInt = 0 := rfl
    omega
theorem lp_rng1 {x : Int32} {n : Nat} (hn : n < 2 ^ 31) : ((1 : Int32) ≤ x ∧ x ≤ nI n) ↔ ∃ v, 1 ≤ v ∧ v ≤ n ∧ x = nI v := by
  have e1 : (1 : Int32).toInt = 1 := rfl
  constructor
  · rintro ⟨h1, h2⟩
    rw [Int32.le_iff_toInt_le] at h1 h2
    rw [nI_toInt hn] at h2
    rw [e1] at h1
    refine ⟨x.toInt.toNat, by omega, by omega, ?_⟩
    apply Int32.toInt_inj.mp
    rw [nI_toInt (by omega)]
    omega
  · rintro ⟨v, hv1, hv, rfl⟩
    rw [Int32.le_iff_toInt_le, Int32.le_iff_toInt_le, nI_toInt hn, nI_toInt (by omega), e1]
    omega
theorem lp_inj {a b : Nat} (ha : a < 2 ^ 31) (hb : b < 2 ^ 31) (h : nI a = nI b) : a = b := (nI_eq ha hb).mp h
theorem lp_neg1 {a : Nat} (ha : a < 2 ^ 31) : nI a ≠ -1 := by
  intro h
  have := congrArg Int32.toInt h
  rw [nI_toInt ha] at this
  have e : (-1 : Int32).toInt = -1 := rfl
  omega
theorem lp_vin {a n : Nat} (h : a < n) (hn : n < 2 ^ 31) : vp_in (nI a) n := vp_in_nI h hn
theorem lp_clm {a : Nat} (h : a < 2 ^ 31) : (nI a).toNatClampNeg = a := nI_clamp h
theorem lp_fill_0 (σ : lpM) (r k : Nat) (x : Int32) : True := trivial
/-- Arrays.fill of a row, up to n -/
def lp_fill (σ : lpM) (r k n : Nat) (x : Int32) : lpM := va_up σ r (va_up (σ r) k (fun j => if j < n then x else σ r k j))
theorem lp_fill_zero (σ : lpM) (r k : Nat) (x : Int32) : lp_fill σ r k 0 x = σ := by
  funext r' k' j
  by_cases hr : r' = r
  · subst hr
    by_cases hk : k' = k
    · subst hk; simp [lp_fill, va_up]
    · simp [lp_fill, va_up, hk]
  · simp [lp_fill, va_up, hr]
theorem lp_fill_succ (σ : lpM) (r k i : Nat) (x : Int32) : lp_w3 (lp_fill σ r k i x) r k i x = lp_fill σ r k (i + 1) x := by
  funext r' k' j
  by_cases hr : r' = r
  · subst hr
    by_cases hk : k' = k
    · subst hk
      by_cases hj : j = i
      · subst hj; simp [lp_fill, va_up, lp_w3, upd]
      · have : (j < i + 1) ↔ j < i := by omega
        simp [lp_fill, va_up, lp_w3, upd, hj, this]
    · simp [lp_fill, va_up, lp_w3, hk]
  · simp [lp_fill, va_up, lp_w3, hr]
def sp_J7_fill : lpS := fun as σ Q => match as with
  | [.inr (some (r, k)), .inl x] => ∃ len : Nat → Nat, lp_lay r = some (.inr (.inl len)) ∧ len k < 2 ^ 31 ∧ Q none (lp_fill σ r k (len k) x)
  | _ => False
theorem ct_J7_fill (l : Launch) (D : va_G) (cI cD : ClassId) : lp_Ct l D cI cD yJ7_fill_53178 cJ7_fill_53178 4 none 0 sp_J7_fill := by
  refine lp_method flJ7 pfJ7 kcJ7 [] false kJ7_fill_53178 [5] rfl rfl (lp_rV rfl) flJ7_ok pfJ7_ok kcJ7_ok kJ7_fill_53178_ok ⟨_, _, rfl, rfl⟩ lp_cs0 ?_
  intro as σ Q hok hs
  rcases as with _ | ⟨a | _ | ⟨r, k⟩, _ | ⟨x | b, _ | ⟨c, as⟩⟩⟩ <;> try exact (hs : False).elim
  obtain ⟨len, hl, h31, hq⟩ := hs
  refine ⟨by show 2 ≤ 4; omega, fun m pc L τ => pc = 5 ∧ ∃ i, m + i = len k ∧ i ≤ len k ∧ τ = lp_fill σ r k i x ∧ L = [some (.inr (some (r, k))), some (.inl x), some (.inl (nI i)), some (.inl (nI (len k)))], ?_, ?_⟩
  · conv => whnf
    rw [hl]
    conv => whnf
    exact ⟨len k, rfl, 0, rfl, Nat.zero_le _, (lp_fill_zero σ r k x).symm, rfl⟩
  · rintro m pc L τ ⟨rfl, i, hm, hi, rfl, rfl⟩
    conv => whnf
    refine ⟨fun h => ?_, fun h => ?_⟩ <;> conv => whnf
    · rw [nI_leI h31 (by omega)] at h
      obtain rfl : i = len k := by omega
      exact hq
    · rw [nI_leI h31 (by omega)] at h
      rw [hl]
      conv => whnf
      refine ⟨lp_vin (by omega) h31, ?_⟩
      conv => whnf
      rw [lp_clm (by omega), lp_fill_succ]
      exact ⟨len k - (i + 1), by omega, rfl, i + 1, by omega, by omega, rfl, by rw [nI_succ]; rfl⟩
def sp_X6_isWithin : lpS := fun as σ Q => match as with
  | [.inl a, .inl b, .inl c] => (b ≤ a ∧ a ≤ c ∧ Q (some 1) σ) ∨ (¬ (b ≤ a ∧ a ≤ c) ∧ Q (some 0) σ)
  | _ => False
theorem ct_X6_isWithin (l : Launch) (D : va_G) (cI cD : ClassId) : lp_Ct l D cI cD yX6_isWithin cX6_isWithin 3 (some .boolean) 0 sp_X6_isWithin := by
  refine lp_method0 flX6 pfX6 kcX6 [] true kX6_isWithin rfl rfl (lp_rB rfl) flX6_ok pfX6_ok kcX6_ok kX6_isWithin_ok ⟨_, _, rfl, rfl⟩ lp_cs0 ?_
  intro as σ Q hs
  rcases as with _ | ⟨a | a, _ | ⟨b | b, _ | ⟨c | c, _ | ⟨d, as⟩⟩⟩⟩ <;> try exact (hs : False).elim
  refine ⟨Nat.le_refl 3, ?_⟩
  conv => whnf
  refine ⟨fun q1 => ?_, fun q1 => ?_⟩ <;> conv => whnf
  · refine ⟨Or.inl rfl, ?_⟩
    rcases hs with ⟨p1, p2, hq⟩ | ⟨p1, hq⟩
    · exact absurd q1 (Int32.not_lt.mpr p1)
    · exact hq
  · refine ⟨fun q2 => ?_, fun q2 => ?_⟩ <;> conv => whnf
    · refine ⟨Or.inl rfl, ?_⟩
      rcases hs with ⟨p1, p2, hq⟩ | ⟨p1, hq⟩
      · exact absurd q2 (Int32.not_lt.mpr p2)
      · exact hq
    · refine ⟨Or.inr rfl, ?_⟩
      rcases hs with ⟨p1, p2, hq⟩ | ⟨p1, hq⟩
      · exact hq
      · exact absurd ⟨Int32.not_lt.mp q1, Int32.not_lt.mp q2⟩ p1
/-- an argument that is one of 0 .. n, or not -/
def sp_upto (n : Nat) : lpS := fun as σ Q => match as with
  | [.inl a] => (∃ v, v ≤ n ∧ a = nI v ∧ Q (some 1) σ) ∨ ((∀ v, v ≤ n → a ≠ nI v) ∧ Q (some 0) σ)
  | _ => False
theorem lp_upto {n : Nat} {a : Int32} {P1 P0 : Prop} (hn : n < 2 ^ 31) (h : (∃ v, v ≤ n ∧ a = nI v ∧ P1) ∨ ((∀ v, v ≤ n → a ≠ nI v) ∧ P0)) : ((0 : Int32) ≤ a ∧ a ≤ nI n ∧ P1) ∨ (¬ ((0 : Int32) ≤ a ∧ a ≤ nI n) ∧ P0) := by
  rcases h with ⟨v, hv, rfl, hq⟩ | ⟨hv, hq⟩
  · have := (lp_rng2 (x := nI v) hn).mpr ⟨v, hv, rfl⟩
    exact Or.inl ⟨this.1, this.2, hq⟩
  · exact Or.inr ⟨fun q => by
      obtain ⟨v, h1, h2⟩ := (lp_rng2 hn).mp q
      exact hv v h1 h2, hq⟩
/-- an argument that is one of 1 .. n, or not -/
theorem lp_upto1 {n : Nat} {a : Int32} {P1 P0 : Prop} (hn : n < 2 ^ 31) (h : (∃ v, 1 ≤ v ∧ v ≤ n ∧ a = nI v ∧ P1) ∨ ((∀ v, 1 ≤ v → v ≤ n → a ≠ nI v) ∧ P0)) : ((1 : Int32) ≤ a ∧ a ≤ nI n ∧ P1) ∨ (¬ ((1 : Int32) ≤ a ∧ a ≤ nI n) ∧ P0) := by
  rcases h with ⟨v, hv1, hv, rfl, hq⟩ | ⟨hv, hq⟩
  · have := (lp_rng1 (x := nI v) hn).mpr ⟨v, hv1, hv, rfl⟩
    exact Or.inl ⟨this.1, this.2, hq⟩
  · exact Or.inr ⟨fun q => by
      obtain ⟨v, h0, h1, h2⟩ := (lp_rng1 hn).mp q
      exact hv v h0 h1 h2, hq⟩
/-- an argument that is an index below n, or not -/
theorem lp_below {n : Nat} {a : Int32} {P1 P0 : Prop} (hn : n < 2 ^ 31) (h : (∃ v, v < n ∧ a = nI v ∧ P1) ∨ ((∀ v, v < n → a ≠ nI v) ∧ P0)) : ((0 : Int32) ≤ a ∧ a ≤ nI n - 1 ∧ P1) ∨ (¬ ((0 : Int32) ≤ a ∧ a ≤ nI n - 1) ∧ P0) := by
  rcases h with ⟨v, hv, rfl, hq⟩ | ⟨hv, hq⟩
  · have := (lp_rng (x := nI v) hn).mpr ⟨v, hv, rfl⟩
    exact Or.inl ⟨this.1, this.2, hq⟩
  · exact Or.inr ⟨fun q => by
      obtain ⟨v, h1, h2⟩ := (lp_rng hn).mp q
      exact hv v h1 h2, hq⟩
def sp_X6_isPage : lpS := sp_upto 9
def sp_X6_isPlace : lpS := sp_upto 10
def sp_X6_isWait : lpS := sp_upto 60
theorem ct_X6_isPage (l : Launch) (D : va_G) (cI cD : ClassId) : lp_Ct l D cI cD yX6_isPage cX6_isPage 1 (some .boolean) 1 sp_X6_isPage := by
  refine lp_method0 flX6 pfX6 kcX6 [(86, none, 3, sp_X6_isWithin)] true kX6_isPage rfl rfl (lp_rB rfl) flX6_ok pfX6_ok kcX6_ok kX6_isPage_ok ⟨_, _, rfl, rfl⟩ (lp_cs1 (lp_mkCall lkX6_86 (ct_X6_isWithin l D cI cD) (by omega)) lp_cs0) ?_
  intro as σ Q hs
  rcases as with _ | ⟨a | a, _ | ⟨b, as⟩⟩ <;> try exact (hs : False).elim
  refine ⟨Nat.le_refl 1, ?_⟩
  conv => whnf
  refine lp_upto (n := 9) (by decide) ?_
  rcases hs with ⟨v, h1, h2, hq⟩ | ⟨hv, hq⟩
  · exact Or.inl ⟨v, h1, h2, Or.inr rfl, hq⟩
  · exact Or.inr ⟨hv, Or.inl rfl, hq⟩
theorem ct_X6_isPlace (l : Launch) (D : va_G) (cI cD : ClassId) : lp_Ct l D cI cD yX6_isPlace cX6_isPlace 1 (some .boolean) 1 sp_X6_isPlace := by
  refine lp_method0 flX6 pfX6 kcX6 [(86, none, 3, sp_X6_isWithin)] true kX6_isPlace rfl rfl (lp_rB rfl) flX6_ok pfX6_ok kcX6_ok kX6_isPlace_ok ⟨_, _, rfl, rfl⟩ (lp_cs1 (lp_mkCall lkX6_86 (ct_X6_isWithin l D cI cD) (by omega)) lp_cs0) ?_
  intro as σ Q hs
  rcases as with _ | ⟨a | a, _ | ⟨b, as⟩⟩ <;> try exact (hs : False).elim
  refine ⟨Nat.le_refl 1, ?_⟩
  conv => whnf
  refine lp_upto (n := 10) (by decide) ?_
  rcases hs with ⟨v, h1, h2, hq⟩ | ⟨hv, hq⟩
  · exact Or.inl ⟨v, h1, h2, Or.inr rfl, hq⟩
  · exact Or.inr ⟨hv, Or.inl rfl, hq⟩
theorem ct_X6_isWait (l : Launch) (D : va_G) (cI cD : ClassId) : lp_Ct l D cI cD yX6_isWait cX6_isWait 1 (some .boolean) 1 sp_X6_isWait := by
  refine lp_method0 flX6 pfX6 kcX6 [(86, none, 3, sp_X6_isWithin)] true kX6_isWait rfl rfl (lp_rB rfl) flX6_ok pfX6_ok kcX6_ok kX6_isWait_ok ⟨_, _, rfl, rfl⟩ (lp_cs1 (lp_mkCall lkX6_86 (ct_X6_isWithin l D cI cD) (by omega)) lp_cs0) ?_
  intro as σ Q hs
  rcases as with _ | ⟨a | a, _ | ⟨b, as⟩⟩ <;> try exact (hs : False).elim
  refine ⟨Nat.le_refl 1, ?_⟩
  conv => whnf
  refine lp_upto (n := 60) (by decide) ?_
  rcases hs with ⟨v, h1, h2, hq⟩ | ⟨hv, hq⟩
  · exact Or.inl ⟨v, h1, h2, Or.inr rfl, hq⟩
  · exact Or.inr ⟨hv, Or.inl rfl, hq⟩
def sp_X6_stepOf : lpS := fun as σ Q => match as with
  | [.inl a, .inl b] => Q (some (a * nI 11 + b)) σ
  | _ => False
theorem ct_X6_stepOf (l : Launch) (D : va_G) (cI cD : ClassId) : lp_Ct l D cI cD yX6_stepOf cX6_stepOf 2 (some .int) 0 sp_X6_stepOf := by
  refine lp_method0 flX6 pfX6 kcX6 [] false kX6_stepOf rfl rfl (lp_rI rfl) flX6_ok pfX6_ok kcX6_ok kX6_stepOf_ok ⟨_, _, rfl, rfl⟩ lp_cs0 ?_
  intro as σ Q hs
  rcases as with _ | ⟨a | a, _ | ⟨b | b, _ | ⟨c, as⟩⟩⟩ <;> try exact (hs : False).elim
  exact ⟨Nat.le_refl 2, hs⟩
