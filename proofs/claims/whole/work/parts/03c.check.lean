/-! THE ROWS ARE THE CODE's: every row of the tables is what decode says, and its links are words of lw_tbl -/
def eqW (a b : WC) : Bool := Nat.beq a.1 b.1 && (Nat.beq a.2.1 b.2.1 && (Nat.beq a.2.2.1 b.2.2.1 && (Nat.beq a.2.2.2.1 b.2.2.2.1 && Nat.beq a.2.2.2.2 b.2.2.2.2)))
theorem eqW_eq {a b : WC} (h : eqW a b = true) : a = b := by
  obtain ⟨a1, a2, a3, a4, a5⟩ := a
  obtain ⟨b1, b2, b3, b4, b5⟩ := b
  simp only [eqW, Bool.and_eq_true, Nat.beq_eq] at h
  obtain ⟨rfl, rfl, rfl, rfl, rfl⟩ := h
  rfl
/-- is this word at that place of the tables -/
def isC (p : Nat) (x : WC) : Bool := eqW (wcAt p) x
def isW (p : Nat) (w : Cond) : Bool := decide (lw_tbl[p]? = some w)
def chkOwn (k r1 r2 r3 ix : Nat) : Bool :=
  isC r3 (1, m_ci k, ix, r1, 0) && (Nat.ble (r1 + 1) 306 && (Nat.beq (r2 % 16) (m_na r1 + (bif Nat.beq (r2 / 1024) 31 then 0 else 1)) && (Nat.beq (r2 / 16 % 64) (m_L r1) && Nat.ble r2 32767)))
def initL : List Nat := [0, 70, 76, 78, 81, 91, 104, 113, 121, 130, 154, 161, 167]
def isInit (k : Nat) : Bool := (initL).any (Nat.beq k)
def rowOp (k pc : Nat) (i : Instr) (nx r1 r2 r3 : Nat) (v : Value) : Bool :=
  match i with
  | .iconst n => decide (v = .int (Int32.ofInt n))
  | .bipush n => decide (v = .int (Int8.ofInt n).toInt32)
  | .sipush n => decide (v = .int (Int16.ofInt n).toInt32)
  | .lconst n => decide (v = .long (Int64.ofNat n))
  | .ldc ix => match v with
    | .int x => isW r3 (.constant (m_own k) ix x)
    | .ref o => (Nat.beq o 1000 && Nat.beq ix 97 || Nat.beq o 1001 && Nat.beq ix 89) && Nat.beq (m_ci k) 8
    | _ => false
  | .ldc_w ix => match v with
    | .int x => isW r3 (.constant (m_own k) ix x)
    | _ => false
  | .ldc2_w ix => match v with
    | .long x => isW r3 (.constantLong (m_own k) ix x)
    | _ => false
  | .iload_n j => Nat.beq j.val r1
  | .iload j => Nat.beq j r1
  | .lload_n j => Nat.beq j.val r1
  | .lload j => Nat.beq j r1
  | .aload_n j => Nat.beq j.val r1
  | .aload j => Nat.beq j r1
  | .istore_n j => Nat.beq j.val r1 && Nat.ble (r1 + 1) (m_L k)
  | .istore j => Nat.beq j r1 && Nat.ble (r1 + 1) (m_L k)
  | .lstore_n j => Nat.beq j.val r1 && Nat.ble (r1 + 2) (m_L k)
  | .lstore j => Nat.beq j r1 && Nat.ble (r1 + 2) (m_L k)
  | .astore_n j => Nat.beq j.val r1 && Nat.ble (r1 + 1) (m_L k)
  | .astore j => Nat.beq j r1 && Nat.ble (r1 + 1) (m_L k)
  | .iinc j n => Nat.beq j r1 && (Nat.ble (r1 + 1) (m_L k) && decide (v = .int (Int32.ofInt n)))
  | .goto off => decide ((pc : Int) + off = (r1 : Int))
  | .ifCond _ off => decide ((pc : Int) + off = (r1 : Int))
  | .if_icmp _ off => decide ((pc : Int) + off = (r1 : Int))
  | .tableswitch dflt lo hi offs => decide (0 ≤ (pc : Int) + dflt) && (decide (lo ≤ hi) && (Nat.beq offs.size (hi - lo + 1).toNat && offs.toList.all (fun off => decide (0 ≤ (pc : Int) + off))))
  | .getfield ix => isC r3 (0, m_ci k, ix, r2 / 4, r1) && (Nat.ble (r1 + 1) (cN (r2 / 4)).2.2 && (Nat.ble (r2 / 4 + 1) 13 && Nat.beq (fkT (r2 / 4) r1) (r2 % 4)))
  | .putfield ix => (isC r3 (0, m_ci k, ix, r2 / 4, r1) && (Nat.ble (r1 + 1) (cN (r2 / 4)).2.2 && (Nat.ble (r2 / 4 + 1) 13 && Nat.beq (fkT (r2 / 4) r1) (r2 % 4)))) &&
      (bif ((cN (r2 / 4)).2.1 r1).2.2.2 then Nat.beq (r2 % 4) 2 && (Nat.beq (r2 / 4) (m_ci k) && isInit k) else !Nat.beq (r2 % 4) 2)
  | .invokevirtual ix => bif Nat.ble 1000 r1 then Nat.ble 1003 r1 && (Nat.ble r1 1005 && (isC r3 (7, m_ci k, ix, r1, 0) && Nat.beq (m_ci k) 8)) else chkOwn k r1 r2 r3 ix && (decide (m_hh r1 = []) && (isC (m_p2 r1) (3, r1, 0, 0, 0) && (isC (m_p3 r1) (4, r1, 0, 0, 0) && (Nat.beq (r2 / 1024) (m_ci r1) && Nat.ble (m_ci r1 + 1) 13))))
  | .invokestatic ix => bif Nat.ble 1000 r1 then Nat.ble r1 1002 && isC r3 (7, m_ci k, ix, r1, 0) else chkOwn k r1 r2 r3 ix && (Nat.beq (r2 / 1024) 31 && (isC (m_p2 r1) (5, r1, 0, 0, 0) && Nat.beq (m_ci r1) (m_ci k)))
  | .invokespecial ix => bif Nat.ble 1000 r1 then Nat.beq r1 2000 || (Nat.beq r1 1006 && isC r3 (7, m_ci k, ix, 1006, 0)) else chkOwn k r1 r2 r3 ix && (decide (m_hh r1 = []) && (isC (m_p2 r1) (3, r1, 0, 0, 0) && (isInit r1 && (decide (m_ret r1 = none) && (Nat.beq (r2 / 1024) (m_ci r1) && Nat.ble (m_ci r1 + 1) 13)))))
  | .new ix => bif Nat.ble 100 r1 then
      Nat.ble 101 r1 && (Nat.ble r1 104 && (isC r3 (8, m_ci k, ix, r1 - 100, 0) && (Nat.beq (m_ci k) 11 && (decide (m_hh k = []) && (decide (decode (m_b k) (pc + 3) = .ok (.dup, 1)) && (decide (decode (m_b k) (pc + 4) = .ok (.invokespecial (excI (r1 - 100)), 3)) && decide (decode (m_b k) (pc + 7) = .ok (.athrow, 1))))))))
    else isC r3 (6, m_ci k, ix, r1, 0) && (Nat.ble (r1 + 1) 13 && Nat.beq r2 (cN r1).2.2)
  | .newarray at_ => match at_ with
    | .int => Nat.beq r1 1
    | .long => Nat.beq r1 2
    | .boolean => Nat.beq r1 3
    | _ => false
  | .ireturn => bif Nat.beq r1 0 then decide (m_ret k = some .int) else Nat.beq r1 1 && decide (m_ret k = some .boolean)
  | .lreturn => decide (m_ret k = some .long)
  | .return_ => decide (m_ret k = none)
  | _ => true
def rowChk (k pc : Nat) : Bool :=
  match fkk k pc with
  | (i, nx, r1, r2, r3, v) => Nat.beq nx 0 || (decide (decode (m_b k) pc = .ok (i, nx - pc)) && (Nat.ble (pc + 1) nx && ((match i with | .tableswitch _ _ _ _ => true | _ => Nat.beq (nx - pc) (ilen i)) && rowOp k pc i nx r1 r2 r3 v)))
def rowsChk (k a n : Nat) : Bool := (List.range n).all fun j => rowChk k (a + j)
