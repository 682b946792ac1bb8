/-! ===== tables of a method: what a program decides of them ===== -/
abbrev lpC : Type := List (Nat × Instr × Nat)
def lp_isNest : Cond → Bool
  | .fieldLinkNest _ _ _ _ _ _ => true
  | .methodLinkNest _ _ _ _ => true
  | _ => false
def lp_nest : List Cond := lw_tbl.filter lp_isNest
def lp_tbl : List Cond := lw_tbl.filter goodWord
def lp_dec (k : lpC) (cc : ByteArray) : Bool := k.all (fun x => decide (decode cc x.1 = .ok (x.2.1, x.2.2)))
def lp_ln (I : Instr) : Nat := match I with
  | .bipush _ | .iload _ | .aload _ | .istore _ | .astore _ | .ldc _ => 2
  | .sipush _ | .iinc _ _ | .goto _ | .if_icmp _ _ | .ifCond _ _ | .ifnull _ | .ifnonnull _ | .getfield _ | .putfield _ | .invokevirtual _ | .invokestatic _ | .new _ | .invokespecial _ | .anewarray _ => 3
  | _ => 1
def lp_lenb (I : Instr) (n : Nat) : Bool := match I with
  | .tableswitch _ _ _ _ => true
  | I => Nat.beq (lp_ln I) n
def lp_seq : lpC → Bool
  | [] => true
  | [_] => true
  | x :: y :: l => Nat.beq (x.1 + x.2.2) y.1 && lp_seq (y :: l)
def lp_nnb (pc : Nat) (I : Instr) : Bool := match I with
  | .if_icmp _ o | .ifCond _ o | .ifnull o | .ifnonnull o => decide (0 ≤ (pc : Int) + o)
  | .tableswitch _ lo hi offs => decide (hi < lo + offs.toList.length)
  | _ => true
def lp_rtb (ret : Option FieldType) (I : Instr) : Bool := match I with
  | .ireturn => ret.isSome
  | .return_ => ret.isNone
  | _ => true
def lp_okc (k : lpC) (cc : ByteArray) (ret : Option FieldType) : Bool := lp_dec k cc && k.all (fun x => lp_lenb x.2.1 x.2.2 && lp_nnb x.1 x.2.1 && lp_rtb ret x.2.1) && lp_seq k
def lp_flb (own : String) (x : Nat × Nat × Nat) : Bool := match vwCl[x.2.1]? with
  | some (_, T, N) => decide (x.2.2 < N) && (decide (Cond.fieldLink own x.1 (T x.2.2).1 (T x.2.2).2.1 (T x.2.2).2.2.1 ∈ lp_tbl) || lp_nest.any (fun w => match w with
    | .fieldLinkNest a i b n d _ => decide (a = own) && decide (i = x.1) && decide (b = (T x.2.2).1) && decide (n = (T x.2.2).2.1) && decide (d = (T x.2.2).2.2.1)
    | _ => false))
  | none => false
def lp_pfb (own : String) (x : Nat × Nat × Nat) : Bool := match vwCl[x.2.1]? with
  | some (_, T, N) => decide (x.2.2 < N) && decide (Cond.fieldLink own x.1 (T x.2.2).1 (T x.2.2).2.1 (T x.2.2).2.2.1 ∈ lp_tbl) && decide ((T x.2.2).2.2.2 = false) && decide (parseFieldDescriptor (T x.2.2).2.2.1 = some .int)
  | none => false
def lp_kcb (own : String) (x : Nat × Int32) : Bool := decide (Cond.constant own x.1 x.2 ∈ lp_tbl)
def lp_lnb (own : String) (i : Nat) (ci : Option Nat) (n : Nat) (y : MethodName) (bytes : ByteArray) (nL : Nat) (ret : Option FieldType) : Bool :=
  Nat.ble nL 17 && decide (Cond.code y bytes nL ret ∈ lp_tbl) && decide (Cond.initialized y.cls ∈ lp_tbl) && (decide (y.cls ≠ "java/lang/invoke/MethodHandle") && decide (y.cls ≠ "java/lang/invoke/VarHandle") && decide ((parseMethodDescriptor y.desc).map (fun d => d.parameters.length) = some n)) &&
  (decide (Cond.methodLink own i y ∈ lp_tbl) || lp_nest.any (fun w => match w with
    | .methodLinkNest a j z _ => decide (a = own) && decide (j = i) && decide (z = y)
    | _ => false)) &&
  (match ci with
    | some c => decide (Cond.instanceMethod y ∈ lp_tbl) && decide (Cond.selects y.cls y y ∈ lp_tbl) && (match vwCl[c]? with
      | some q => decide (q.1 = y.cls)
      | none => false)
    | none => decide (Cond.static y ∈ lp_tbl))
theorem lp_u0 : ∀ w ∈ wsX00, w ∈ lp_tbl := by decide +kernel
theorem lp_u1 : ∀ w ∈ wsX10, w ∈ lp_tbl := by decide +kernel
theorem lp_u2 : ∀ w ∈ wsX20, w ∈ lp_tbl := by decide +kernel
theorem lp_u3 : ∀ w ∈ wsX30, w ∈ lp_tbl := by decide +kernel
theorem lp_u4 : ∀ w ∈ wsX40, w ∈ lp_tbl := by decide +kernel
theorem lp_u5 : ∀ w ∈ wsX50, w ∈ lp_tbl := by decide +kernel
theorem lp_u6 : ∀ w ∈ wsX60, w ∈ lp_tbl := by decide +kernel
theorem lp_u7 : ∀ w ∈ wsX70, w ∈ lp_tbl := by decide +kernel
def lp_mxb (own : String) (i : Nat) : Bool := decide (Cond.initialized "java/lang/Math" ∈ lp_tbl) && decide (Cond.methodLink own i Lib.Math.max.name ∈ lp_tbl) && decide (Cond.static Lib.Math.max.name ∈ lp_tbl) && decide (Cond.code Lib.Math.max.name Lib.Math.max.code 2 (some .int) ∈ lp_tbl)
def lp_mnb (own : String) (i : Nat) : Bool := decide (Cond.initialized "java/lang/Math" ∈ lp_tbl) && decide (Cond.methodLink own i Lib.Math.min.name ∈ lp_tbl) && decide (Cond.static Lib.Math.min.name ∈ lp_tbl) && decide (Cond.code Lib.Math.min.name Lib.Math.min.code 2 (some .int) ∈ lp_tbl)
