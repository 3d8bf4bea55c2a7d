/-! THE PURE MACHINE: one step, the run -/
/-- consts, sums, compares, conversions, and the stack's own instructions; K goes on -/
noncomputable def arF (i : Instr) (v : Value) (st : List Value) (K : List Value → Option PO) : Option PO :=
  match i with
  | .iconst _ => K (v :: st)
  | .bipush _ => K (v :: st)
  | .sipush _ => K (v :: st)
  | .lconst _ => K (v :: st)
  | .ldc _ => K (v :: st)
  | .ldc_w _ => K (v :: st)
  | .ldc2_w _ => K (v :: st)
  | .iadd => match st with | .int y :: .int x :: t => K (.int (x + y) :: t) | _ => none
  | .isub => match st with | .int y :: .int x :: t => K (.int (x - y) :: t) | _ => none
  | .imul => match st with | .int y :: .int x :: t => K (.int (x * y) :: t) | _ => none
  | .idiv => match st with | .int y :: .int x :: t => bif obl (y = 0) then none else K (.int (x / y) :: t) | _ => none
  | .irem => match st with | .int y :: .int x :: t => bif obl (y = 0) then none else K (.int (x - x / y * y) :: t) | _ => none
  | .ineg => match st with | .int x :: t => K (.int (-x) :: t) | _ => none
  | .iand => match st with | .int y :: .int x :: t => K (.int (x &&& y) :: t) | _ => none
  | .ior => match st with | .int y :: .int x :: t => K (.int (x ||| y) :: t) | _ => none
  | .ixor => match st with | .int y :: .int x :: t => K (.int (x ^^^ y) :: t) | _ => none
  | .ishl => match st with | .int y :: .int x :: t => K (.int (x <<< (y &&& 31)) :: t) | _ => none
  | .ishr => match st with | .int y :: .int x :: t => K (.int (x >>> (y &&& 31)) :: t) | _ => none
  | .iushr => match st with | .int y :: .int x :: t => K (.int ((x.toUInt32 >>> (y.toUInt32 &&& Int32.toUInt32 31)).toInt32) :: t) | _ => none
  | .ladd => match st with | .long y :: .long x :: t => K (.long (x + y) :: t) | _ => none
  | .lsub => match st with | .long y :: .long x :: t => K (.long (x - y) :: t) | _ => none
  | .lmul => match st with | .long y :: .long x :: t => K (.long (x * y) :: t) | _ => none
  | .ldiv => match st with | .long y :: .long x :: t => bif obl (y = 0) then none else K (.long (x / y) :: t) | _ => none
  | .lrem => match st with | .long y :: .long x :: t => bif obl (y = 0) then none else K (.long (x - x / y * y) :: t) | _ => none
  | .lor => match st with | .long y :: .long x :: t => K (.long (x ||| y) :: t) | _ => none
  | .lshl => match st with | .int y :: .long x :: t => K (.long (x <<< (y.toInt64 &&& 63)) :: t) | _ => none
  | .lcmp => match st with | .long y :: .long x :: t => K (.int (lg_cmp x y) :: t) | _ => none
  | .i2l => match st with | .int x :: t => K (.long x.toInt64 :: t) | _ => none
  | .l2i => match st with | .long x :: t => K (.int x.toInt32 :: t) | _ => none
  | .i2c => match st with | .int x :: t => K (.int (x.toUInt32 % 65536).toInt32 :: t) | _ => none
  | .dup => match st with | .int x :: t => K (.int x :: .int x :: t) | .ref x :: t => K (.ref x :: .ref x :: t) | _ => none
  | .dup2 => match st with | .long x :: t => K (.long x :: .long x :: t) | .int y :: .int x :: t => K (.int y :: .int x :: .int y :: .int x :: t) | .int y :: .ref x :: t => K (.int y :: .ref x :: .int y :: .ref x :: t) | _ => none
  | .pop => match st with | .int _ :: t => K t | .ref _ :: t => K t | _ => none
  | _ => none
/-- branches: KT taken, KF not -/
noncomputable def brF (i : Instr) (st : List Value) (KT KF : List Value → Option PO) : Option PO :=
  match i with
  | .ifCond c _ => match st with
    | .int x :: t => match c with
      | .eq => bif obl (x = 0) then KT t else KF t
      | .ne => bif obl (x = 0) then KF t else KT t
      | .lt => bif obl (x < 0) then KT t else KF t
      | .ge => bif obl (0 ≤ x) then KT t else KF t
      | .gt => bif obl (0 < x) then KT t else KF t
      | .le => bif obl (x ≤ 0) then KT t else KF t
    | _ => none
  | .if_icmp c _ => match st with
    | .int y :: .int x :: t => match c with
      | .eq => bif obl (x = y) then KT t else KF t
      | .ne => bif obl (x = y) then KF t else KT t
      | .lt => bif obl (x < y) then KT t else KF t
      | .ge => bif obl (y ≤ x) then KT t else KF t
      | .gt => bif obl (y < x) then KT t else KF t
      | .le => bif obl (x ≤ y) then KT t else KF t
    | _ => none
  | _ => none
/-- a table's target -/
def tswF (pc : Nat) (dflt lo hi : Int) (offs : Array Int) (x : Int32) : Nat :=
  if x.toInt < lo ∨ hi < x.toInt then ((pc : Int) + dflt).toNat else match offs[(x.toInt - lo).toNat]? with
    | some off => ((pc : Int) + off).toNat
    | none => 0
/-- the two texts -/
def strl (o : Nat) : List Nat := bif Nat.beq o 1000 then strW else strS
def sidx : List Nat → Nat → Int32 → Int32
  | [], _, _ => -1
  | a :: t, i, c => if c = nI a then nI i else sidx t (i + 1) c
/-- the JDK's own methods -/
noncomputable def jdkF (r : Nat) (st : List Value) (K : List Value → Option PO) : Option PO :=
  match r with
  | 1000 => match st with | .int y :: .int x :: t => bif Nat.ble (cats t) 8 then K (.int (if y < x then y else x) :: t) else none | _ => none
  | 1001 => match st with | .int y :: .int x :: t => bif Nat.ble (cats t) 8 then K (.int (if x < y then y else x) :: t) else none | _ => none
  | 1002 => match st with | .long y :: .long x :: t => bif Nat.ble (cats t) 8 then K (.long (if y < x then x else y) :: t) else none | _ => none
  | 1003 => match st with | .int i :: .ref o :: t => bif Nat.ble (cats t) 8 && (Nat.beq o 1000 || Nat.beq o 1001) then (bif inb i (strl o).length then K (.int (nI ((strl o).getD i.toNatClampNeg 0)) :: t) else none) else none | _ => none
  | 1004 => match st with | .ref o :: t => bif Nat.ble (cats t) 8 && (Nat.beq o 1000 || Nat.beq o 1001) then K (.int (nI (strl o).length) :: t) else none | _ => none
  | 1005 => match st with | .int c :: .ref o :: t => bif Nat.ble (cats t) 8 && Nat.beq o 1001 then (bif inb c 256 then K (.int (sidx (strl o) 0 c) :: t) else none) else none | _ => none
  | 1006 => match st with | .ref _ :: t => bif Nat.ble (cats t) 8 then K t else none | _ => none
  | _ => none
/-- is the object there (asked while the objects are made) -/
def okN (ini : Bool) (σ : PS) (o : Nat) : Bool := !ini || Nat.ble (o + 1) (xN (XX σ))
def ark (ini : Bool) (σ : PS) (o : Nat) : Nat × Nat := bif okN ini σ o then arrk o else (0, 0)
/-- a value read of a field -/
noncomputable def gfF (ini : Bool) (σ : PS) (o k kd : Nat) (K : Value → Option PO) : Option PO :=
  match kd with
  | 0 => K (.int (FI σ o k))
  | 1 => K (.long (FL σ o k))
  | 2 => bif (!ini || xR (XX σ) o k) then K (.ref (rft o k)) else none
  | _ => K (.int (FI σ o k))
/-- a field written -/
noncomputable def pfF (ini : Bool) (σ : PS) (o k kd : Nat) (v : Value) (K : PS → Option PO) : Option PO :=
  match kd with
  | 0 => match v with | .int x => K (u2 (FI σ) o k x, σ.2) | _ => none
  | 1 => match v with | .long x => K (σ.1, u2 (FL σ) o k x, σ.2.2) | _ => none
  | 2 => match v with | .ref a => bif ini && Nat.beq a (rft o k) then K (σ.1, σ.2.1, σ.2.2.1, σ.2.2.2.1, xC (XX σ), xS (XX σ), xN (XX σ), xL (XX σ), u2 (xR (XX σ)) o k true) else none | _ => none
  | _ => match v with | .int x => bif is01 x then K (u2 (FI σ) o k x, σ.2) else none | _ => none
/-- an array's kind and length; 999: the script -/
def alk (ini : Bool) (σ : PS) (o : Nat) : Nat × Nat := bif Nat.beq o 999 then (1, xL (XX σ)) else ark ini σ o
/-- what is read of an array: kind by the instruction -/
noncomputable def ldF (ini : Bool) (σ : PS) (kd : Nat) (st : List Value) (K : List Value → Option PO) : Option PO :=
  match st with
  | .int i :: .ref o :: t => bif Nat.beq (alk ini σ o).1 kd then (bif inb i (alk ini σ o).2 then K ((match kd with | 2 => .long (AL σ o i.toNatClampNeg) | _ => .int (AI σ o i.toNatClampNeg)) :: t) else none) else none
  | _ => none
noncomputable def stF (ini : Bool) (σ : PS) (kd : Nat) (st : List Value) (K : List Value → PS → Option PO) : Option PO :=
  match st with
  | .int x :: .int i :: .ref o :: t => bif (!Nat.beq kd 2) && Nat.beq (ark ini σ o).1 kd then (bif inb i (ark ini σ o).2 then (bif Nat.beq kd 3 then (bif is01 x then K t (σ.1, σ.2.1, ua (AI σ) o i.toNatClampNeg x, σ.2.2.2) else none) else K t (σ.1, σ.2.1, ua (AI σ) o i.toNatClampNeg x, σ.2.2.2)) else none) else none
  | .long x :: .int i :: .ref o :: t => bif (Nat.beq kd 2 && Nat.beq (ark ini σ o).1 kd) then (bif inb i (ark ini σ o).2 then K t (σ.1, σ.2.1, σ.2.2.1, ua (AL σ) o i.toNatClampNeg x, σ.2.2.2.2) else none) else none
  | _ => none
/-- an object or array made -/
noncomputable def nwF (ini : Bool) (σ : PS) (ci N : Nat) (K : Nat → PS → Option PO) : Option PO :=
  bif ini && (Nat.beq (objc (xN (XX σ))) ci && Nat.ble (xN (XX σ) + 1) 146) then
    K (xN (XX σ)) (uo (FI σ) (xN (XX σ)) 0, uo (FL σ) (xN (XX σ)) 0, AI σ, AL σ, xC (XX σ) + 1, xS (XX σ) + N, xN (XX σ) + 1, xL (XX σ), uo (xR (XX σ)) (xN (XX σ)) false)
  else none
noncomputable def naF (ini : Bool) (σ : PS) (kd : Nat) (n : Int32) (K : Nat → PS → Option PO) : Option PO :=
  bif ini && (Nat.beq (arrk (xN (XX σ))).1 kd && (decide (n = nI (arrk (xN (XX σ))).2) && Nat.ble (xN (XX σ) + 1) 146)) then
    K (xN (XX σ)) (FI σ, FL σ, uo (AI σ) (xN (XX σ)) 0, uo (AL σ) (xN (XX σ)) 0, xC (XX σ) + 1, xS (XX σ) + (arrk (xN (XX σ))).2, xN (XX σ) + 1, xL (XX σ), xR (XX σ))
  else none
/-- one exception more on the heap -/
def thF (σ : PS) : PS := (σ.1, σ.2.1, σ.2.2.1, σ.2.2.2.1, xC (XX σ) + 1, xS (XX σ) + 6, σ.2.2.2.2.2.2)
/-- the callee's locals and the rest of the stack -/
def cpF (ini : Bool) (σ : PS) (r2 : Nat) (st : List Value) : Option (List (Option Value) × List Value) :=
  match popn (r2 % 16) [] st with
  | some (as, t) => bif Nat.ble (cats t) 8 && (Nat.ble (argl as).length (r2 / 16 % 64) && (match as with | .ref o :: _ => Nat.beq (r2 / 1024) 31 || (Nat.beq (objc o) (r2 / 1024) && okN ini σ o) | _ => Nat.beq (r2 / 1024) 31)) then some (padl (r2 / 16 % 64) (argl as), t) else none
  | none => none
/-- behind a call -/
def bkF (rk : Nat → List (Option Value) → List Value → PS → Option PO) (k nx : Nat) (ls : List (Option Value)) (t : List Value) (o : Option PO) : Option PO :=
  match o with
  | none => none
  | some (.inl (none, σ)) => rk nx ls t σ
  | some (.inl (some w, σ)) => rk nx ls (w :: t) σ
  | some (.inr (E, σ)) => match hnd k E with
    | 0 => some (.inr (E, σ))
    | h + 1 => rk (fe k (h + 1)).2.1 (lset (lkl ls (fe k (h + 1)).2.2.1) (fe k (h + 1)).2.2.1 none) [] σ
/-- a call: rc is the run of the callee, rk goes on here behind a method of the JDK, rj behind one's own -/
noncomputable def clF (ini : Bool) (rc : Nat → Nat → List (Option Value) → List Value → PS → Option PO) (rk rj : Nat → List (Option Value) → List Value → PS → Option PO) (d k nx r1 r2 : Nat) (ls : List (Option Value)) (st : List Value) (σ : PS) : Option PO :=
  bif Nat.ble 1000 r1 then jdkF r1 st (fun st' => rk nx ls st' σ)
  else match cpF ini σ r2 st with
    | none => none
    | some (la, t) => match d with
      | 0 => none
      | d' + 1 => bkF rj k nx ls t (rc d' r1 la [] σ)
noncomputable def stepF (ini : Bool) (rc : Nat → Nat → List (Option Value) → List Value → PS → Option PO) (rk rj : Nat → List (Option Value) → List Value → PS → Option PO) (d k pc : Nat) (ls : List (Option Value)) (st : List Value) (σ : PS) : Option PO :=
  match fe k pc with
  | (i, nx, r1, r2, _, v) =>
    bif Nat.beq nx 0 then none else
    match i with
    | .iload_n _ => match lget ls r1 with | some (.int x) => rk nx ls (.int x :: st) σ | _ => none
    | .iload _ => match lget ls r1 with | some (.int x) => rk nx ls (.int x :: st) σ | _ => none
    | .lload_n _ => match lget ls r1 with | some (.long x) => rk nx ls (.long x :: st) σ | _ => none
    | .lload _ => match lget ls r1 with | some (.long x) => rk nx ls (.long x :: st) σ | _ => none
    | .aload_n _ => match lget ls r1 with | some (.ref x) => rk nx ls (.ref x :: st) σ | _ => none
    | .aload _ => match lget ls r1 with | some (.ref x) => rk nx ls (.ref x :: st) σ | _ => none
    | .istore_n _ => match st with | .int x :: t => rk nx (lst1 ls r1 (.int x)) t σ | _ => none
    | .istore _ => match st with | .int x :: t => rk nx (lst1 ls r1 (.int x)) t σ | _ => none
    | .lstore_n _ => match st with | .long x :: t => rk nx (lst2 ls r1 (.long x)) t σ | _ => none
    | .lstore _ => match st with | .long x :: t => rk nx (lst2 ls r1 (.long x)) t σ | _ => none
    | .astore_n _ => match st with | .ref x :: t => rk nx (lst1 ls r1 (.ref x)) t σ | _ => none
    | .astore _ => match st with | .ref x :: t => rk nx (lst1 ls r1 (.ref x)) t σ | _ => none
    | .iinc _ _ => match lget ls r1 with | some (.int x) => (match v with | .int y => rk nx (lst1 ls r1 (.int (x + y))) st σ | _ => none) | _ => none
    | .goto _ => rk r1 ls st σ
    | .ifCond _ _ => brF i st (fun t => rk r1 ls t σ) (fun t => rk nx ls t σ)
    | .if_icmp _ _ => brF i st (fun t => rk r1 ls t σ) (fun t => rk nx ls t σ)
    | .tableswitch dflt lo hi offs => match st with | .int x :: t => rj (tswF pc dflt lo hi offs x) ls t σ | _ => none
    | .getfield _ => match st with
      | .ref o :: t => bif Nat.beq (objc o) (r2 / 4) && okN ini σ o then gfF ini σ o r1 (r2 % 4) (fun w => rk nx ls (w :: t) σ) else none
      | _ => none
    | .putfield _ => match st with
      | w :: .ref o :: t => bif Nat.beq (objc o) (r2 / 4) && okN ini σ o then pfF ini σ o r1 (r2 % 4) w (fun σ' => rk nx ls t σ') else none
      | _ => none
    | .arraylength => match st with
      | .ref o :: t => bif Nat.beq (alk ini σ o).1 0 then none else rk nx ls (.int (nI (alk ini σ o).2) :: t) σ
      | _ => none
    | .iaload => ldF ini σ 1 st (fun st' => rk nx ls st' σ)
    | .laload => ldF ini σ 2 st (fun st' => rk nx ls st' σ)
    | .baload => ldF ini σ 3 st (fun st' => rk nx ls st' σ)
    | .iastore => stF ini σ 1 st (fun t σ' => rk nx ls t σ')
    | .lastore => stF ini σ 2 st (fun t σ' => rk nx ls t σ')
    | .bastore => stF ini σ 3 st (fun t σ' => rk nx ls t σ')
    | .invokevirtual _ => clF ini rc rk rj d k nx r1 r2 ls st σ
    | .invokestatic _ => clF ini rc rk rj d k nx r1 r2 ls st σ
    | .invokespecial _ => clF ini rc rk rj d k nx r1 r2 ls st σ
    | .new _ => bif Nat.ble 100 r1 then (bif ini then none else match st with | [] => some (.inr (r1 - 100, thF σ)) | _ => none) else nwF ini σ r1 r2 (fun q σ' => rk nx ls (.ref q :: st) σ')
    | .newarray _ => match st with | .int n :: t => naF ini σ r1 n (fun q σ' => rk nx ls (.ref q :: t) σ') | _ => none
    | .ireturn => match st with | [.int x] => bif Nat.beq r1 0 then some (.inl (some (.int x), σ)) else (bif is01 x then some (.inl (some (.int x), σ)) else none) | _ => none
    | .lreturn => match st with | [.long x] => some (.inl (some (.long x), σ)) | _ => none
    | .return_ => match st with | [] => some (.inl (none, σ)) | _ => none
    | _ => arF i v st (fun st' => rk nx ls st' σ)
/-- the run, with fuel n, d calls deep at most, method k from its row pc on -/
noncomputable def run (ini : Bool) : Nat → Nat → Nat → Nat → List (Option Value) → List Value → PS → Option PO
  | 0, _, _, _, _, _, _ => none
  | n + 1, d, k, pc, ls, st, σ => stepF ini (fun d' k' la st' σ' => run ini n d' k' 0 la st' σ') (fun pc' ls' st' σ' => run ini n d k pc' ls' st' σ') (fun pc' ls' st' σ' => run ini n d k pc' ls' st' σ') d k pc ls st σ
