/-! ===== links ===== -/
def lp_lnb (own : String) (i : Nat) (ci : Option Nat) (n : Nat) (y : MethodName) (bytes : ByteArray) (nL : Nat) (ret : Option FieldType) : Bool :=
  Nat.ble nL 17 && decide (Cond.code y bytes nL ret ∈ lp_tbl) && decide (Cond.initialized y.cls ∈ lp_tbl) && (decide (y.cls ≠ "java/lang/invoke/MethodHandle") && decide (y.cls ≠ "java/lang/invoke/VarHandle") && decide ((parseMethodDescriptor y.desc).map (fun d => d.parameters.length) = some n)) &&
  (decide (Cond.methodLink own i y ∈ lp_tbl) || lp_nest.any (fun w => match w with
    | .methodLinkNest a j z _ => decide (a = own) && decide (j = i) && decide (z = y)
    | _ => false)) &&
  (match ci with
    | some c => decide (Cond.instanceMethod y ∈ lp_tbl) && decide (Cond.selects y.cls y y ∈ lp_tbl) && (match vwCl[c]? with
      | some q => decide (q.1 = y.cls)
      | none => false)
    | none => decide (Cond.static y ∈ lp_tbl))
theorem lp_mkCall {own : String} {i : Nat} {ci : Option Nat} {n : Nat} {y : MethodName} {bytes : ByteArray} {nL : Nat} {ret : Option FieldType} (hb : lp_lnb own i ci n y bytes nL ret = true) {l : Launch} {D : va_G} {cI cD : ClassId} {h h' : Nat} {spec : lpS} (hC : lp_Ct l D cI cD y bytes nL ret h' spec) (hh : h' + 1 ≤ h) : lp_CallOK l D cI cD own h (i, ci, n, spec) := by
  simp only [lp_lnb, Bool.and_eq_true, decide_eq_true_eq, Bool.or_eq_true] at hb
  obtain ⟨⟨⟨⟨⟨b1, b2⟩, b3⟩, ⟨b4, b5⟩, b6⟩, b7⟩, b8⟩ := hb
  refine ⟨y, bytes, nL, ret, h', hC, hh, Nat.le_of_ble_eq_true b1, b2, b3, ⟨b4, b5, b6⟩, ?_, ?_⟩
  · rcases b7 with q | q
    · exact Or.inl q
    · obtain ⟨w, hw, hw1⟩ := List.any_eq_true.mp q
      cases w <;> simp only [Bool.false_eq_true] at hw1
      simp only [Bool.and_eq_true, decide_eq_true_eq] at hw1
      obtain ⟨⟨rfl, rfl⟩, rfl⟩ := hw1
      exact Or.inr ⟨_, hw⟩
  · cases ci with
    | none => exact of_decide_eq_true b8
    | some c =>
      simp only [Bool.and_eq_true, decide_eq_true_eq] at b8
      refine ⟨b8.1.1, b8.1.2, ?_⟩
      rcases hq : vwCl[c]? with _ | q <;> simp only [hq] at b8
      · cases b8.2
      · exact ⟨q, rfl, of_decide_eq_true b8.2⟩
theorem lp_mathC : (decide (Lib.Math.max.name = yJ9_max_7cf53) && decide (Lib.Math.min.name = yJ9_min_7cf53)) = true := by decide +kernel
