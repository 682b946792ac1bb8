/-! ===== the abstract memory: regions, their layout, what of it lives ===== -/
abbrev lpV : Type := Int32 ⊕ Option (Nat × Nat)
abbrev lpM : Type := Nat → Nat → Nat → Int32
abbrev lpK : Type := (Nat × List (Option (Nat × (Nat → Nat)))) ⊕ ((Nat → Nat) ⊕ ((Nat → Nat) × Nat × (Nat → Nat)))
abbrev lpL : Type := List (Option lpV)
abbrev lpS : Type := List lpV → lpM → (Option Int32 → lpM → Prop) → Prop
def lp_nth {α : Type} : List α → Nat → Option α
  | [], _ => none
  | a :: _, 0 => some a
  | _ :: l, n + 1 => lp_nth l n
def lp_set {α : Type} : List α → Nat → α → List α
  | [], _, _ => []
  | _ :: l, 0, x => x :: l
  | a :: l, n + 1, x => a :: lp_set l n x
def lp_len {α : Type} : List α → Nat
  | [] => 0
  | _ :: l => lp_len l + 1
def lp_o (r : Nat) : Option (Nat × (Nat → Nat)) := some (r, fun _ => 0)
def lp_k (r : Nat) : Option (Nat × (Nat → Nat)) := some (r, fun k => k)
def lp_a (n : Nat) : Option lpK := some (.inr (.inl (fun _ => n)))
def lp_dl (k : Nat) : Nat := if k < 121 then 61 else 11
def lp_lays : List (Option lpK) := [none,
  some (.inl (6, [lp_o 2, lp_o 6, lp_o 10, lp_o 15, lp_o 16, lp_o 18])),
  some (.inl (4, [lp_k 3, lp_k 4, lp_k 5, none])), lp_a 1200, lp_a 1200, lp_a 61,
  some (.inl (2, [lp_o 7, lp_o 8, lp_o 9])), lp_a 121, lp_a 121, some (.inr (.inr (fun _ => 121, 26, fun j => j))),
  some (.inl (0, [lp_o 11, lp_o 12, lp_o 13, lp_o 14, none])), lp_a 1200, lp_a 1200, lp_a 11, lp_a 11,
  lp_a 10,
  some (.inl (5, [lp_o 17])), some (.inr (.inr (fun _ => 11, 26, fun j => 121 + j))),
  some (.inl (3, [some (2, fun _ => 1), lp_o 19, lp_o 20, lp_o 21, lp_o 22, lp_o 23, lp_o 24, lp_o 25, none, none, none, none, none])),
  lp_a 1200, lp_a 1200, lp_a 1200, lp_a 1200, lp_a 60, lp_a 60, lp_a 8,
  some (.inl (1, [lp_k 27, lp_k 28])), some (.inr (.inl lp_dl)), some (.inr (.inl lp_dl)),
  none,
  some (.inl (7, [none, lp_o 31, lp_o 32, lp_o 33, lp_o 34, lp_o 35, lp_o 36, lp_o 37, none, none, none, none, none, lp_o 38, lp_o 39, lp_o 40, lp_o 41, lp_o 42, lp_o 43, lp_o 44, lp_o 45, lp_o 46, lp_o 47, lp_o 48, lp_o 49, lp_o 50])),
  lp_a 60, lp_a 1200, lp_a 1200, lp_a 121, lp_a 11, lp_a 1200, lp_a 13200,
  lp_a 60, lp_a 1200, lp_a 1200, lp_a 1200, lp_a 1200, lp_a 1200, lp_a 1200, lp_a 121, lp_a 7381, lp_a 121, lp_a 7381, lp_a 8, lp_a 60]
def lp_lay (r : Nat) : Option lpK := match lp_nth lp_lays r with
  | some (some k) => some k
  | _ => none
def lp_cnts : List Nat := [0, 1, 2, 2, 2, 2, 1, 1, 1, 1, 1, 1, 1, 1, 1, 1, 1, 1, 1, 1, 1, 1, 1, 1, 1, 1, 132, 132, 132, 0, 1, 1, 1, 1, 1, 1, 1, 1, 1, 1, 1, 1, 1, 1, 1, 1, 1, 1, 1, 1, 1]
def lp_cnt (r : Nat) : Nat := match lp_nth lp_cnts r with
  | some n => n
  | none => 0
def lp_isD (r : Nat) : Bool := Nat.ble 26 r && Nat.ble r 28
/-- a cell of the memory that is made: all, but those Dealings of the Machine that have no flag yet -/
def lp_live (σ : lpM) (r k : Nat) : Prop := k < lp_cnt r ∧ (lp_isD r = true → k < 121 → σ 9 0 k ≠ 0)
def lp_dead (σ : lpM) : Nat := (List.range 121).countP (fun k => decide (σ 9 0 k = 0))
def lp_cv (ad : Nat → Nat → Nat) (v : lpV) : Value := match v with
  | .inl x => .int x
  | .inr none => .null
  | .inr (some q) => .ref (ad q.1 q.2)
def lp_fv (ad : Nat → Nat → Nat) (σ : lpM) (r k : Nat) : Nat → List (Option (Nat × (Nat → Nat))) → List Value
  | _, [] => []
  | j, none :: fs => .int (σ r k j) :: lp_fv ad σ r k (j + 1) fs
  | j, some q :: fs => .ref (ad q.1 (q.2 k)) :: lp_fv ad σ r k (j + 1) fs
def lp_rf (ad : Nat → Nat → Nat) (σ : lpM) (r k r' : Nat) (ix : Nat → Nat) (j : Nat) : Option Nat := if σ r k j = 0 then none else some (ad r' (ix j))
def lp_cell (cI cD : ClassId) (ad : Nat → Nat → Nat) (σ : lpM) (r k : Nat) : va_E := match lp_lay r with
  | some (.inl (ci, fs)) => .inr (ci, lp_fv ad σ r k 0 fs)
  | some (.inr (.inl len)) => .inl (cI, len k, .inl (σ r k))
  | some (.inr (.inr (len, r', ix))) => .inl (cD, len k, .inr (.inr (.inr (.inr (lp_rf ad σ r k r' ix)))))
  | none => .inr (0, [])
def lp_Rep (D : va_G) (cI cD : ClassId) (ad : Nat → Nat → Nat) (σ : lpM) (H : Heap) : Prop :=
  (∀ r k, lp_live σ r k → va_at D vwCl (ad r k, lp_cell cI cD ad σ r k) H) ∧ ∀ r k r' k', lp_live σ r k → lp_live σ r' k' → ad r k = ad r' k' → r = r' ∧ k = k'
def lp_Wd (D : va_G) (cI cD : ClassId) (U : State) : Prop := va_K D vwCl [(cI, .int), (cD, .object RX1)] U ∧ ∀ w ∈ lp_nest, va_Nw w U
def lp_TS (H : Heap) : Nat := (H.toList.map (fun c => c.slots.size)).sum
def lp_Dom (ad : Nat → Nat → Nat) (σ : lpM) (sz : Nat) : Nat → Prop := fun q => (∃ r k, lp_live σ r k ∧ ad r k = q) ∨ sz ≤ q
def lp_ok (σ : lpM) (v : lpV) : Prop := match v with
  | .inr (some q) => lp_live σ q.1 q.2
  | _ => True
def lp_Pc (D : va_G) (cI cD : ClassId) (ad : Nat → Nat → Nat) (σ : lpM) (as : List lpV) (sz : Nat) : Array Value → State → Prop := fun v U =>
  v = (as.map (lp_cv ad)).toArray ∧ U.heap.size = sz ∧ lp_Rep D cI cD ad σ U.heap ∧ lp_Wd D cI cD U
/-- what a call leaves: an answer and a memory, as Q has them; nothing else changed; no more made than Dealings came to life -/
def lp_Qc (D : va_G) (cI cD : ClassId) (ad : Nat → Nat → Nat) (σ : lpM) (sz : Nat) (Q : Option Int32 → lpM → Prop) : Array Value → State → Outcome → State → Prop := fun _ st oc t =>
  ∃ (r : Option Int32) (σ' : lpM) (ad' : Nat → Nat → Nat), oc = .returned (r.map Value.int) ∧ Q r σ' ∧ lp_Rep D cI cD ad' σ' t.heap ∧ lp_Wd D cI cD t ∧ (∀ r k, lp_live σ r k → lp_live σ' r k ∧ ad' r k = ad r k) ∧ (∀ r k, lp_live σ' r k → lp_Dom ad σ sz (ad' r k)) ∧
    (t.heap.size + 3 * lp_dead σ' ≤ st.heap.size + 3 * lp_dead σ ∧ lp_TS t.heap + 124 * lp_dead σ' ≤ lp_TS st.heap + 124 * lp_dead σ) ∧ va_F (lp_Dom ad σ sz) st t
def lp_Ct (l : Launch) (D : va_G) (cI cD : ClassId) (y : MethodName) (bytes : ByteArray) (nL : Nat) (ret : Option FieldType) (h : Nat) (spec : lpS) : Prop :=
  ∀ (ad : Nat → Nat → Nat) (σ : lpM) (as : List lpV) (Q : Option Int32 → lpM → Prop) (sz : Nat), (∀ v ∈ as, lp_ok σ v) → spec as σ Q →
    Met l y (.code y bytes nL ret :: lp_tbl) { frames := h, cells := 3 * lp_dead σ, slots := 124 * lp_dead σ, locals := 36 * h } (lp_Pc D cI cD ad σ as sz) (lp_Qc D cI cD ad σ sz Q) (3 * lp_dead σ) (124 * lp_dead σ) (lp_Dom ad σ sz)
def lp_w3 (σ : lpM) (r k j : Nat) (x : Int32) : lpM := va_up σ r (va_up (σ r) k (upd (σ r k) j x))
/-! ===== the walk of a method as a proposition over the memory ===== -/
def lp_fl : List (Nat × Nat × Nat) → Nat → Option (Nat × Nat)
  | [], _ => none
  | x :: l, i => bif Nat.beq x.1 i then some x.2 else lp_fl l i
def lp_kc : List (Nat × Int32) → Nat → Option Int32
  | [], _ => none
  | x :: l, i => bif Nat.beq x.1 i then some x.2 else lp_kc l i
def lp_cs : List (Nat × Option Nat × Nat × lpS) → Nat → Option (Option Nat × Nat × lpS)
  | [], _ => none
  | x :: l, i => bif Nat.beq x.1 i then some x.2 else lp_cs l i
def sp_max : lpS := fun as σ Q => match as with
  | [.inl a, .inl b] => Q (some (if a < b then b else a)) σ
  | _ => False
def sp_min : lpS := fun as σ Q => match as with
  | [.inl a, .inl b] => Q (some (if b < a then b else a)) σ
  | _ => False
def lp_pop : Nat → List lpV → List lpV → Option (List lpV × List lpV)
  | 0, st, acc => some (acc, st)
  | n + 1, v :: st, acc => lp_pop n st (v :: acc)
  | _ + 1, [], _ => none
def lp_mem (a : Nat) : List Nat → Bool
  | [] => false
  | b :: l => bif Nat.beq a b then true else lp_mem a l
def lp_to (t : Nat) : lpC → lpC
  | [] => []
  | x :: l => bif Nat.beq x.1 t then x :: l else lp_to t l
def lp_sw (x : Int32) (jp : Int → Prop) : Int → List Int → Prop
  | _, [] => True
  | lo, o :: os => (x.toInt = lo → jp o) ∧ lp_sw x jp (lo + 1) os
def lp_I (fl pf : List (Nat × Nat × Nat)) (kc : List (Nat × Int32)) (cs : List (Nat × Option Nat × Nat × lpS)) (bl : Bool) (I : Instr) (L : lpL) (st : List lpV) (σ : lpM)
    (nx : lpL → List lpV → lpM → Prop) (jp : Int → lpL → List lpV → lpM → Prop) (qr : Option Int32 → lpM → Prop) : Prop := match I with
  | .iconst n => nx L (.inl (Int32.ofInt n) :: st) σ
  | .bipush n => nx L (.inl (Int8.ofInt n).toInt32 :: st) σ
  | .sipush n => nx L (.inl (Int16.ofInt n).toInt32 :: st) σ
  | .ldc i => match lp_kc kc i with
    | some v => nx L (.inl v :: st) σ
    | none => False
  | .iload_n i => match lp_nth L i.val with
    | some (some (.inl x)) => nx L (.inl x :: st) σ
    | _ => False
  | .iload i => match lp_nth L i with
    | some (some (.inl x)) => nx L (.inl x :: st) σ
    | _ => False
  | .aload_n i => match lp_nth L i.val with
    | some (some (.inr x)) => nx L (.inr x :: st) σ
    | _ => False
  | .aload i => match lp_nth L i with
    | some (some (.inr x)) => nx L (.inr x :: st) σ
    | _ => False
  | .istore_n i => match st with
    | .inl x :: st => bif Nat.blt i.val (lp_len L) then nx (lp_set L i.val (some (.inl x))) st σ else False
    | _ => False
  | .istore i => match st with
    | .inl x :: st => bif Nat.blt i (lp_len L) then nx (lp_set L i (some (.inl x))) st σ else False
    | _ => False
  | .astore_n i => match st with
    | .inr x :: st => bif Nat.blt i.val (lp_len L) then nx (lp_set L i.val (some (.inr x))) st σ else False
    | _ => False
  | .astore i => match st with
    | .inr x :: st => bif Nat.blt i (lp_len L) then nx (lp_set L i (some (.inr x))) st σ else False
    | _ => False
  | .iinc i n => match lp_nth L i with
    | some (some (.inl x)) => nx (lp_set L i (some (.inl (x + Int32.ofInt n)))) st σ
    | _ => False
  | .iadd => match st with
    | .inl y :: .inl x :: st => nx L (.inl (x + y) :: st) σ
    | _ => False
  | .isub => match st with
    | .inl y :: .inl x :: st => nx L (.inl (x - y) :: st) σ
    | _ => False
  | .imul => match st with
    | .inl y :: .inl x :: st => nx L (.inl (x * y) :: st) σ
    | _ => False
  | .idiv => match st with
    | .inl y :: .inl x :: st => ¬ y = 0 ∧ nx L (.inl (x / y) :: st) σ
    | _ => False
  | .irem => match st with
    | .inl y :: .inl x :: st => ¬ y = 0 ∧ nx L (.inl (x - x / y * y) :: st) σ
    | _ => False
  | .dup => match st with
    | v :: st => nx L (v :: v :: st) σ
    | _ => False
  | .dup2 => match st with
    | v :: w :: st => nx L (v :: w :: v :: w :: st) σ
    | _ => False
  | .pop => match st with
    | _ :: st => nx L st σ
    | _ => False
  | .goto o => jp o L st σ
  | .if_icmp c o => match st with
    | .inl y :: .inl x :: st => (match c with
      | .eq => (x = y → jp o L st σ) ∧ (¬ x = y → nx L st σ)
      | .ne => (¬ x = y → jp o L st σ) ∧ (x = y → nx L st σ)
      | .lt => (x < y → jp o L st σ) ∧ (¬ x < y → nx L st σ)
      | .ge => (y ≤ x → jp o L st σ) ∧ (¬ y ≤ x → nx L st σ)
      | .gt => (y < x → jp o L st σ) ∧ (¬ y < x → nx L st σ)
      | .le => (x ≤ y → jp o L st σ) ∧ (¬ x ≤ y → nx L st σ))
    | _ => False
  | .ifCond c o => match st with
    | .inl x :: st => (match c with
      | .eq => (x = 0 → jp o L st σ) ∧ (¬ x = 0 → nx L st σ)
      | .ne => (¬ x = 0 → jp o L st σ) ∧ (x = 0 → nx L st σ)
      | .lt => (x < 0 → jp o L st σ) ∧ (¬ x < 0 → nx L st σ)
      | .ge => (0 ≤ x → jp o L st σ) ∧ (¬ 0 ≤ x → nx L st σ)
      | .gt => (0 < x → jp o L st σ) ∧ (¬ 0 < x → nx L st σ)
      | .le => (x ≤ 0 → jp o L st σ) ∧ (¬ x ≤ 0 → nx L st σ))
    | _ => False
  | .ifnull o => match st with
    | .inr none :: st => jp o L st σ
    | .inr (some _) :: st => nx L st σ
    | _ => False
  | .ifnonnull o => match st with
    | .inr none :: st => nx L st σ
    | .inr (some _) :: st => jp o L st σ
    | _ => False
  | .tableswitch d lo hi offs => match st with
    | .inl x :: st => (x.toInt < lo ∨ hi < x.toInt → jp d L st σ) ∧ lp_sw x (fun o => jp o L st σ) lo offs.toList
    | _ => False
  | .arraylength => match st with
    | .inr (some (r, k)) :: st => (match lp_lay r with
      | some (.inr (.inl len)) => nx L (.inl (nI (len k)) :: st) σ
      | some (.inr (.inr (len, _, _))) => nx L (.inl (nI (len k)) :: st) σ
      | _ => False)
    | _ => False
  | .iaload => match st with
    | .inl i :: .inr (some (r, k)) :: st => (match lp_lay r with
      | some (.inr (.inl len)) => vp_in i (len k) ∧ nx L (.inl (σ r k i.toNatClampNeg) :: st) σ
      | _ => False)
    | _ => False
  | .iastore => match st with
    | .inl x :: .inl i :: .inr (some (r, k)) :: st => (match lp_lay r with
      | some (.inr (.inl len)) => vp_in i (len k) ∧ nx L st (lp_w3 σ r k i.toNatClampNeg x)
      | _ => False)
    | _ => False
  | .aaload => match st with
    | .inl i :: .inr (some (r, k)) :: st => (match lp_lay r with
      | some (.inr (.inr (len, r', ix))) => vp_in i (len k) ∧ (σ r k i.toNatClampNeg = 0 → nx L (.inr none :: st) σ) ∧ (¬ σ r k i.toNatClampNeg = 0 → nx L (.inr (some (r', ix i.toNatClampNeg)) :: st) σ)
      | _ => False)
    | _ => False
  | .getfield i => match st with
    | .inr (some (r, k)) :: st => (match lp_fl fl i, lp_lay r with
      | some (ci, j), some (.inl (cj, fs)) => bif Nat.beq ci cj then (match lp_nth fs j with
        | some none => nx L (.inl (σ r k j) :: st) σ
        | some (some (r', g)) => nx L (.inr (some (r', g k)) :: st) σ
        | none => False) else False
      | _, _ => False)
    | _ => False
  | .putfield i => match st with
    | .inl x :: .inr (some (r, k)) :: st => (match lp_fl pf i, lp_lay r with
      | some (ci, j), some (.inl (cj, fs)) => bif Nat.beq ci cj then (match lp_nth fs j with
        | some none => nx L st (lp_w3 σ r k j x)
        | _ => False) else False
      | _, _ => False)
    | _ => False
  | .invokevirtual i => match lp_cs cs i with
    | some (some ci, n, spec) => (match lp_pop n st [] with
      | some (as, .inr (some (r, k)) :: st) => (match lp_lay r with
        | some (.inl (cj, _)) => bif Nat.beq ci cj && Nat.ble (lp_len st) 8 then spec (.inr (some (r, k)) :: as) σ (fun ro σ => match ro with
          | some x => nx L (.inl x :: st) σ
          | none => nx L st σ) else False
        | _ => False)
      | _ => False)
    | _ => False
  | .invokestatic i => match lp_cs cs i with
    | some (none, n, spec) => (match lp_pop n st [] with
      | some (as, st) => bif Nat.ble (lp_len st) 8 then spec as σ (fun ro σ => match ro with
          | some x => nx L (.inl x :: st) σ
          | none => nx L st σ) else False
      | _ => False)
    | _ => False
  | .ireturn => match st with
    | [.inl x] => bif bl then (x = 0 ∨ x = 1) ∧ qr (some x) σ else qr (some x) σ
    | _ => False
  | .return_ => match st with
    | [] => qr none σ
    | _ => False
  | _ => False
def lp_go (labs : List Nat) (lab : Nat → lpL → lpM → Prop) (w : lpC → lpL → List lpV → lpM → Prop) (k : lpC) (L : lpL) (st : List lpV) (σ : lpM) : Prop := match k with
  | [] => False
  | x :: _ => bif lp_mem x.1 labs then (match st with
    | [] => lab x.1 L σ
    | _ => False) else w k L st σ
def lp_wp (fl pf : List (Nat × Nat × Nat)) (kc : List (Nat × Int32)) (cs : List (Nat × Option Nat × Nat × lpS)) (bl : Bool) (code : lpC) (labs : List Nat) (lab : Nat → lpL → lpM → Prop) (qr : Option Int32 → lpM → Prop) : Nat → lpC → lpL → List lpV → lpM → Prop
  | 0, _, _, _, _ => False
  | _ + 1, [], _, _, _ => False
  | n + 1, x :: k, L, st, σ => lp_I fl pf kc cs bl x.2.1 L st σ (lp_go labs lab (lp_wp fl pf kc cs bl code labs lab qr n) k) (fun o L st σ => match (x.1 : Int) + o with
    | .ofNat t => lp_go labs lab (lp_wp fl pf kc cs bl code labs lab qr n) (lp_to t code) L st σ
    | .negSucc _ => False) qr
