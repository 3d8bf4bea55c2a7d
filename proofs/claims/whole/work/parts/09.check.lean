/-! THE ROWS ARE THE CODE's: every row of the tables is what decode says, and its links are words of lw_tbl -/
def ilen : Instr → Nat
  | .iconst _ => 1
  | .bipush _ => 2
  | .sipush _ => 3
  | .lconst _ => 1
  | .ldc _ => 2
  | .ldc_w _ => 3
  | .ldc2_w _ => 3
  | .iload _ => 2
  | .lload _ => 2
  | .aload _ => 2
  | .istore _ => 2
  | .lstore _ => 2
  | .astore _ => 2
  | .iinc _ _ => 3
  | .goto _ => 3
  | .ifCond _ _ => 3
  | .if_icmp _ _ => 3
  | .getfield _ => 3
  | .putfield _ => 3
  | .invokevirtual _ => 3
  | .invokestatic _ => 3
  | .invokespecial _ => 3
  | .new _ => 3
  | .newarray _ => 2
  | _ => 1
def cN (ci : Nat) : vw_C := vwC.getD ci (RX0, TX0, 0)
def m_w (k : Nat) : Cond := match m_hh k with
  | [] => .code (m_y k) (m_b k) (m_L k) (m_ret k)
  | h :: t => .codeWith (m_y k) (m_b k) (m_L k) (m_ret k) (h :: t)
/-- is this word at that place of the tables -/
def isW (p : Nat) (w : Cond) : Bool := decide (lw_tbl[p]? = some w)
def mathN (r : Nat) : MethodName := match r with
  | 1000 => Lib.Math.min.name
  | 1001 => Lib.Math.max.name
  | 1002 => Lib.MathLoose.max_long.x
  | 1003 => ⟨"java/lang/String", "charAt", "(I)C"⟩
  | 1004 => ⟨"java/lang/String", "length", "()I"⟩
  | 1005 => ⟨"java/lang/String", "indexOf", "(I)I"⟩
  | _ => objectInit
def excN (E : Nat) : String := match E with
  | 1 => "java/lang/IllegalArgumentException"
  | 2 => "java/lang/IllegalStateException"
  | 3 => "java/lang/IndexOutOfBoundsException"
  | _ => "java/util/NoSuchElementException"
/-- the links of the exceptions' constructors, in PacketLaw -/
def excI (E : Nat) : Nat := match E with
  | 1 => 355
  | 2 => 109
  | 3 => 358
  | _ => 361
def chkOwn (k r1 r2 r3 ix : Nat) : Bool :=
  isW r3 (.methodLink (m_own k) ix (m_y r1)) && (Nat.ble (r1 + 1) 306 && (Nat.beq (r2 % 16) (m_na r1 + (bif Nat.beq (r2 / 1024) 31 then 0 else 1)) && (Nat.beq (r2 / 16 % 64) (m_L r1) && Nat.ble r2 32767)))
def rowOp (k pc : Nat) (i : Instr) (nx r1 r2 r3 : Nat) (v : Value) : Bool :=
  match i with
  | .iconst n => decide (v = .int (Int32.ofInt n))
  | .bipush n => decide (v = .int (Int8.ofInt n).toInt32)
  | .sipush n => decide (v = .int (Int16.ofInt n).toInt32)
  | .lconst n => decide (v = .long (Int64.ofNat n))
  | .ldc ix => match v with
    | .int x => isW r3 (.constant (m_own k) ix x)
    | .ref o => (Nat.beq o 1000 && Nat.beq ix 97 || Nat.beq o 1001 && Nat.beq ix 89) && decide (m_own k = RX8)
    | _ => false
  | .ldc_w ix => match v with
    | .int x => isW r3 (.constant (m_own k) ix x)
    | _ => false
  | .ldc2_w ix => match v with
    | .long x => isW r3 (.constantLong (m_own k) ix x)
    | _ => false
  | .iload_n j => Nat.beq j.val r1
  | .iload j => Nat.beq j r1
  | .lload_n j => Nat.beq j.val r1
  | .lload j => Nat.beq j r1
  | .aload_n j => Nat.beq j.val r1
  | .aload j => Nat.beq j r1
  | .istore_n j => Nat.beq j.val r1 && Nat.ble (r1 + 1) (m_L k)
  | .istore j => Nat.beq j r1 && Nat.ble (r1 + 1) (m_L k)
  | .lstore_n j => Nat.beq j.val r1 && Nat.ble (r1 + 2) (m_L k)
  | .lstore j => Nat.beq j r1 && Nat.ble (r1 + 2) (m_L k)
  | .astore_n j => Nat.beq j.val r1 && Nat.ble (r1 + 1) (m_L k)
  | .astore j => Nat.beq j r1 && Nat.ble (r1 + 1) (m_L k)
  | .iinc j n => Nat.beq j r1 && (Nat.ble (r1 + 1) (m_L k) && decide (v = .int (Int32.ofInt n)))
  | .goto off => decide ((pc : Int) + off = (r1 : Int))
  | .ifCond _ off => decide ((pc : Int) + off = (r1 : Int))
  | .if_icmp _ off => decide ((pc : Int) + off = (r1 : Int))
  | .tableswitch dflt lo hi offs => decide (0 ≤ (pc : Int) + dflt) && (decide (lo ≤ hi) && (Nat.beq offs.size (hi - lo + 1).toNat && offs.toList.all (fun off => decide (0 ≤ (pc : Int) + off))))
  | .getfield ix => isW r3 (.fieldLink (m_own k) ix (cN (r2 / 4)).1 ((cN (r2 / 4)).2.1 r1).2.1 ((cN (r2 / 4)).2.1 r1).2.2.1) && (Nat.ble (r1 + 1) (cN (r2 / 4)).2.2 && (Nat.ble (r2 / 4 + 1) 13 && (Nat.beq (fkT (r2 / 4) r1) (r2 % 4) && decide (((cN (r2 / 4)).2.1 r1).1 = (cN (r2 / 4)).1))))
  | .putfield ix => (isW r3 (.fieldLink (m_own k) ix (cN (r2 / 4)).1 ((cN (r2 / 4)).2.1 r1).2.1 ((cN (r2 / 4)).2.1 r1).2.2.1) && (Nat.ble (r1 + 1) (cN (r2 / 4)).2.2 && (Nat.ble (r2 / 4 + 1) 13 && (Nat.beq (fkT (r2 / 4) r1) (r2 % 4) && decide (((cN (r2 / 4)).2.1 r1).1 = (cN (r2 / 4)).1))))) &&
      (bif ((cN (r2 / 4)).2.1 r1).2.2.2 then Nat.beq (r2 % 4) 2 && (decide (m_nm k = "<init>") && decide (((cN (r2 / 4)).2.1 r1).1 = m_own k)) else !Nat.beq (r2 % 4) 2)
  | .invokevirtual ix => bif Nat.ble 1000 r1 then Nat.ble 1003 r1 && (Nat.ble r1 1005 && (isW r3 (.methodLink (m_own k) ix (mathN r1)) && decide (m_own k = RX8))) else chkOwn k r1 r2 r3 ix && (decide (m_hh r1 = []) && (isW (m_p2 r1) (.instanceMethod (m_y r1)) && (isW (m_p3 r1) (.selects (m_own r1) (m_y r1) (m_y r1)) && (Nat.beq (r2 / 1024) (m_ci r1) && (Nat.ble (m_ci r1 + 1) 13 && decide ((cN (m_ci r1)).1 = m_own r1))))))
  | .invokestatic ix => bif Nat.ble 1000 r1 then Nat.ble r1 1002 && isW r3 (.methodLink (m_own k) ix (mathN r1)) else chkOwn k r1 r2 r3 ix && (Nat.beq (r2 / 1024) 31 && (isW (m_p2 r1) (.static (m_y r1)) && decide (m_own r1 = m_own k)))
  | .invokespecial ix => bif Nat.ble 1000 r1 then Nat.beq r1 2000 || (Nat.beq r1 1006 && isW r3 (.methodLink (m_own k) ix objectInit)) else chkOwn k r1 r2 r3 ix && (decide (m_hh r1 = []) && (isW (m_p2 r1) (.instanceMethod (m_y r1)) && (decide (m_nm r1 = "<init>") && (decide (m_ret r1 = none) && (Nat.beq (r2 / 1024) (m_ci r1) && (Nat.ble (m_ci r1 + 1) 13 && decide ((cN (m_ci r1)).1 = m_own r1)))))))
  | .new ix => bif Nat.ble 100 r1 then
      Nat.ble 101 r1 && (Nat.ble r1 104 && (isW r3 (.classLink (m_own k) ix (excN (r1 - 100))) && (decide (m_own k = RX11) && (decide (m_hh k = []) && (decide (decode (m_b k) (pc + 3) = .ok (.dup, 1)) && (decide (decode (m_b k) (pc + 4) = .ok (.invokespecial (excI (r1 - 100)), 3)) && decide (decode (m_b k) (pc + 7) = .ok (.athrow, 1))))))))
    else isW r3 (.classLink (m_own k) ix (cN r1).1) && (Nat.ble (r1 + 1) 13 && Nat.beq r2 (cN r1).2.2)
  | .newarray at_ => match at_ with
    | .int => Nat.beq r1 1
    | .long => Nat.beq r1 2
    | .boolean => Nat.beq r1 3
    | _ => false
  | .ireturn => bif Nat.beq r1 0 then decide (m_ret k = some .int) else Nat.beq r1 1 && decide (m_ret k = some .boolean)
  | .lreturn => decide (m_ret k = some .long)
  | .return_ => decide (m_ret k = none)
  | _ => true
def rowChk (k pc : Nat) : Bool :=
  match fkk k pc with
  | (i, nx, r1, r2, r3, v) => Nat.beq nx 0 || (decide (decode (m_b k) pc = .ok (i, nx - pc)) && (Nat.ble (pc + 1) nx && ((match i with | .tableswitch _ _ _ _ => true | _ => Nat.beq (nx - pc) (ilen i)) && rowOp k pc i nx r1 r2 r3 v)))
def rowsChk (k a n : Nat) : Bool := (List.range n).all fun j => rowChk k (a + j)
