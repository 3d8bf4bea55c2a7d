/-! THE PURE MACHINE: state, locals, pure instructions -/
/-- cells made, slots made, objects there, the script's length, which references are set -/
abbrev PX : Type := Nat × Nat × Nat × Nat × (Nat → Nat → Bool)
/-- int fields, long fields, int arrays, long arrays; the rest -/
abbrev PS : Type := (Nat → Nat → Int32) × (Nat → Nat → Int64) × (Nat → Nat → Int32) × (Nat → Nat → Int64) × PX
/-- a row of code: the instruction, the next row's place, three numbers that it is resolved to, a constant -/
abbrev RW : Type := Instr × Nat × Nat × Nat × Nat × Value
/-- an outcome: what is returned, or which exception is thrown -/
abbrev PO : Type := (Option Value × PS) ⊕ (Nat × PS)
abbrev FI (σ : PS) : Nat → Nat → Int32 := σ.1
abbrev FL (σ : PS) : Nat → Nat → Int64 := σ.2.1
abbrev AI (σ : PS) : Nat → Nat → Int32 := σ.2.2.1
abbrev AL (σ : PS) : Nat → Nat → Int64 := σ.2.2.2.1
abbrev XX (σ : PS) : PX := σ.2.2.2.2
abbrev xC (X : PX) : Nat := X.1
abbrev xS (X : PX) : Nat := X.2.1
abbrev xN (X : PX) : Nat := X.2.2.1
abbrev xL (X : PX) : Nat := X.2.2.2.1
abbrev xR (X : PX) : Nat → Nat → Bool := X.2.2.2.2
def u2 {α : Type} (f : Nat → Nat → α) (o k : Nat) (v : α) : Nat → Nat → α := fun a b => bif (Nat.beq a o && Nat.beq b k) then v else f a b
/-- one place of one array -/
def ua {α : Type} (f : Nat → Nat → α) (o j : Nat) (v : α) : Nat → Nat → α := fun a b => bif Nat.beq a o then (if b = j then v else f a b) else f a b
/-- a whole object or array anew -/
def uo {α : Type} (f : Nat → Nat → α) (o : Nat) (v : α) : Nat → Nat → α := fun a b => bif Nat.beq a o then v else f a b
/-- a condition as a Bool that no reduction looks into -/
theorem obl_ex (p : Prop) : ∃ b : Bool, b = true ↔ p := by
  rcases Classical.em p with h | h
  · exact ⟨true, fun _ => h, fun _ => rfl⟩
  · exact ⟨false, fun e => by (cases e), fun q => absurd q h⟩
noncomputable def obl (p : Prop) : Bool := (obl_ex p).choose
theorem obl_iff (p : Prop) : obl p = true ↔ p := (obl_ex p).choose_spec
theorem obl_t {p : Prop} (h : p) : obl p = true := (obl_iff p).mpr h
theorem obl_f {p : Prop} (h : ¬ p) : obl p = false := by
  cases e : obl p with
  | false => rfl
  | true => exact absurd ((obl_iff p).mp e) h
noncomputable def inb (i : Int32) (n : Nat) : Bool := obl (vp_in i n)
theorem inb_in {i : Int32} {n : Nat} (h : inb i n = true) : vp_in i n := (obl_iff _).mp h
theorem inb_t {i : Int32} {n : Nat} (h : vp_in i n) : inb i n = true := obl_t h
noncomputable def is01 (x : Int32) : Bool := obl (x = 0 ∨ x = 1)
def lget : List (Option Value) → Nat → Option Value
  | [], _ => none
  | x :: _, 0 => x
  | _ :: t, i + 1 => lget t i
def lset : List (Option Value) → Nat → Option Value → List (Option Value)
  | [], _, _ => []
  | _ :: t, 0, v => v :: t
  | x :: t, i + 1, v => x :: lset t i v
def lkl (ls : List (Option Value)) : Nat → List (Option Value)
  | 0 => ls
  | i + 1 => match lget ls i with
    | some (.long _) => lset ls i none
    | some (.double _) => lset ls i none
    | _ => ls
def lst1 (ls : List (Option Value)) (i : Nat) (v : Value) : List (Option Value) := lset (lkl ls i) i (some v)
def lst2 (ls : List (Option Value)) (i : Nat) (v : Value) : List (Option Value) := lset (lset (lkl ls i) i (some v)) (i + 1) none
def popn : Nat → List Value → List Value → Option (List Value × List Value)
  | 0, acc, st => some (acc, st)
  | n + 1, acc, v :: st => popn n (v :: acc) st
  | _ + 1, _, [] => none
def argl : List Value → List (Option Value)
  | [] => []
  | .long x :: t => some (.long x) :: none :: argl t
  | .double x :: t => some (.double x) :: none :: argl t
  | v :: t => some v :: argl t
def padl : Nat → List (Option Value) → List (Option Value)
  | 0, _ => []
  | n + 1, [] => none :: padl n []
  | n + 1, x :: t => x :: padl n t
def cats : List Value → Nat
  | [] => 0
  | .long _ :: t => cats t + 2
  | .double _ :: t => cats t + 2
  | _ :: t => cats t + 1
