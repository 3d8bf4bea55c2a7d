/-! THE PURE MACHINE: state, locals, pure instructions -/
/-- cells made, slots made, objects there, the script's length, which references are set -/
abbrev PX : Type := Nat × Nat × Nat × Nat × (Nat → Nat → Bool)
/-- int fields, long fields, int arrays, long arrays; the rest -/
abbrev PS : Type := (Nat → Nat → Int32) × (Nat → Nat → Int64) × (Nat → Nat → Int32) × (Nat → Nat → Int64) × PX
/-- a row of code: the instruction, the next row's place, three numbers that it is resolved to, a constant -/
abbrev RW : Type := Instr × Nat × Nat × Nat × Nat × Value
/-- an outcome: what is returned, or which exception is thrown -/
abbrev PO : Type := (Option Value × PS) ⊕ (Nat × PS)
abbrev FI (σ : PS) : Nat → Nat → Int32 := σ.1
abbrev FL (σ : PS) : Nat → Nat → Int64 := σ.2.1
abbrev AI (σ : PS) : Nat → Nat → Int32 := σ.2.2.1
abbrev AL (σ : PS) : Nat → Nat → Int64 := σ.2.2.2.1
abbrev XX (σ : PS) : PX := σ.2.2.2.2
abbrev xC (X : PX) : Nat := X.1
abbrev xS (X : PX) : Nat := X.2.1
abbrev xN (X : PX) : Nat := X.2.2.1
abbrev xL (X : PX) : Nat := X.2.2.2.1
abbrev xR (X : PX) : Nat → Nat → Bool := X.2.2.2.2
def u2 {α : Type} (f : Nat → Nat → α) (o k : Nat) (v : α) : Nat → Nat → α := fun a b => bif (Nat.beq a o && Nat.beq b k) then v else f a b
/-- one place of one array -/
def ua {α : Type} (f : Nat → Nat → α) (o j : Nat) (v : α) : Nat → Nat → α := fun a b => bif Nat.beq a o then (if b = j then v else f a b) else f a b
/-- a whole object or array anew -/
def uo {α : Type} (f : Nat → Nat → α) (o : Nat) (v : α) : Nat → Nat → α := fun a b => bif Nat.beq a o then v else f a b
def inb (i : Int32) (n : Nat) : Bool := !(decide (i < 0) || Nat.ble n i.toNatClampNeg)
theorem inb_in {i : Int32} {n : Nat} (h : inb i n = true) : vp_in i n := by
  unfold inb at h
  unfold vp_in
  simp only [Bool.not_eq_true', Bool.or_eq_false_iff, decide_eq_false_iff_not] at h
  intro q
  rcases q with q | q
  · exact h.1 q
  · have := Nat.ble_eq_true_of_le q
    rw [h.2] at this
    cases this
def lget : List (Option Value) → Nat → Option Value
  | [], _ => none
  | x :: _, 0 => x
  | _ :: t, i + 1 => lget t i
def lset : List (Option Value) → Nat → Option Value → List (Option Value)
  | [], _, _ => []
  | _ :: t, 0, v => v :: t
  | x :: t, i + 1, v => x :: lset t i v
def lkl (ls : List (Option Value)) : Nat → List (Option Value)
  | 0 => ls
  | i + 1 => match lget ls i with
    | some (.long _) => lset ls i none
    | some (.double _) => lset ls i none
    | _ => ls
def lst1 (ls : List (Option Value)) (i : Nat) (v : Value) : List (Option Value) := lset (lkl ls i) i (some v)
def lst2 (ls : List (Option Value)) (i : Nat) (v : Value) : List (Option Value) := lset (lset (lkl ls i) i (some v)) (i + 1) none
def popn : Nat → List Value → List Value → Option (List Value × List Value)
  | 0, acc, st => some (acc, st)
  | n + 1, acc, v :: st => popn n (v :: acc) st
  | _ + 1, _, [] => none
def argl : List Value → List (Option Value)
  | [] => []
  | .long x :: t => some (.long x) :: none :: argl t
  | .double x :: t => some (.double x) :: none :: argl t
  | v :: t => some v :: argl t
def padl : Nat → List (Option Value) → List (Option Value)
  | 0, _ => []
  | n + 1, [] => none :: padl n []
  | n + 1, x :: t => x :: padl n t
def cats (st : List Value) : Nat := (st.map fun v => v.category).sum
/-- consts, sums, compares, conversions, and the stack's own instructions -/
def arF (i : Instr) (v : Value) (st : List Value) : Option (List Value) :=
  match i with
  | .iconst _ => some (v :: st)
  | .bipush _ => some (v :: st)
  | .sipush _ => some (v :: st)
  | .lconst _ => some (v :: st)
  | .ldc _ => some (v :: st)
  | .ldc_w _ => some (v :: st)
  | .ldc2_w _ => some (v :: st)
  | .iadd => match st with | .int y :: .int x :: t => some (.int (x + y) :: t) | _ => none
  | .isub => match st with | .int y :: .int x :: t => some (.int (x - y) :: t) | _ => none
  | .imul => match st with | .int y :: .int x :: t => some (.int (x * y) :: t) | _ => none
  | .idiv => match st with | .int y :: .int x :: t => if y = 0 then none else some (.int (x / y) :: t) | _ => none
  | .irem => match st with | .int y :: .int x :: t => if y = 0 then none else some (.int (x - x / y * y) :: t) | _ => none
  | .ineg => match st with | .int x :: t => some (.int (-x) :: t) | _ => none
  | .iand => match st with | .int y :: .int x :: t => some (.int (x &&& y) :: t) | _ => none
  | .ior => match st with | .int y :: .int x :: t => some (.int (x ||| y) :: t) | _ => none
  | .ixor => match st with | .int y :: .int x :: t => some (.int (x ^^^ y) :: t) | _ => none
  | .ishl => match st with | .int y :: .int x :: t => some (.int (x <<< (y &&& 31)) :: t) | _ => none
  | .ishr => match st with | .int y :: .int x :: t => some (.int (x >>> (y &&& 31)) :: t) | _ => none
  | .iushr => match st with | .int y :: .int x :: t => some (.int ((x.toUInt32 >>> (y.toUInt32 &&& Int32.toUInt32 31)).toInt32) :: t) | _ => none
  | .ladd => match st with | .long y :: .long x :: t => some (.long (x + y) :: t) | _ => none
  | .lsub => match st with | .long y :: .long x :: t => some (.long (x - y) :: t) | _ => none
  | .lmul => match st with | .long y :: .long x :: t => some (.long (x * y) :: t) | _ => none
  | .ldiv => match st with | .long y :: .long x :: t => if y = 0 then none else some (.long (x / y) :: t) | _ => none
  | .lrem => match st with | .long y :: .long x :: t => if y = 0 then none else some (.long (x - x / y * y) :: t) | _ => none
  | .lor => match st with | .long y :: .long x :: t => some (.long (x ||| y) :: t) | _ => none
  | .lshl => match st with | .int y :: .long x :: t => some (.long (x <<< (y.toInt64 &&& 63)) :: t) | _ => none
  | .lcmp => match st with | .long y :: .long x :: t => some (.int (lg_cmp x y) :: t) | _ => none
  | .i2l => match st with | .int x :: t => some (.long x.toInt64 :: t) | _ => none
  | .l2i => match st with | .long x :: t => some (.int x.toInt32 :: t) | _ => none
  | .i2c => match st with | .int x :: t => some (.int (x.toUInt32 % 65536).toInt32 :: t) | _ => none
  | .dup => match st with | .int x :: t => some (.int x :: .int x :: t) | .ref x :: t => some (.ref x :: .ref x :: t) | _ => none
  | .dup2 => match st with | .long x :: t => some (.long x :: .long x :: t) | .int y :: .int x :: t => some (.int y :: .int x :: .int y :: .int x :: t) | .int y :: .ref x :: t => some (.int y :: .ref x :: .int y :: .ref x :: t) | _ => none
  | .pop => match st with | .int _ :: t => some t | .ref _ :: t => some t | _ => none
  | _ => none
/-- is the branch taken -/
def brF (i : Instr) (st : List Value) : Option (Bool × List Value) :=
  match i with
  | .goto _ => some (true, st)
  | .ifCond c _ => match st with
    | .int x :: t => some ((match c with | .eq => decide (x = 0) | .ne => !decide (x = 0) | .lt => decide (x < 0) | .ge => decide (0 ≤ x) | .gt => decide (0 < x) | .le => decide (x ≤ 0)), t)
    | _ => none
  | .if_icmp c _ => match st with
    | .int y :: .int x :: t => some ((match c with | .eq => decide (x = y) | .ne => !decide (x = y) | .lt => decide (x < y) | .ge => decide (y ≤ x) | .gt => decide (y < x) | .le => decide (x ≤ y)), t)
    | _ => none
  | _ => none
/-- a table's target -/
def tswF (pc : Nat) (dflt lo hi : Int) (offs : Array Int) (x : Int32) : Nat :=
  if x.toInt < lo ∨ hi < x.toInt then ((pc : Int) + dflt).toNat else match offs[(x.toInt - lo).toNat]? with
    | some off => ((pc : Int) + off).toNat
    | none => 0
