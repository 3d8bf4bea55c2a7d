/-! SOUNDNESS, P: the row at a place; a constructor's name -/
def isTs (i : Instr) : Bool := match i with
  | .tableswitch _ _ _ _ => true
  | _ => false
def tsl (i : Instr) (n : Nat) : Bool := match i with
  | .tableswitch _ _ _ _ => true
  | _ => Nat.beq n (ilen i)
theorem row_at {k pc : Nat} {i : Instr} {nx r1 r2 r3 : Nat} {v : Value} (h : fe k pc = (i, nx, r1, r2, r3, v)) (hz : Nat.beq nx 0 = false) : decode (m_b k) pc = .ok (i, nx - pc) ∧ pc + 1 ≤ nx ∧ (isTs i = false → nx = pc + ilen i) ∧ rowOp k pc i nx r1 r2 r3 v = true := by
  rcases rowOK k pc with h0 | ⟨h1, h2⟩
  · rw [h] at h0
    have h0 : nx = 0 := h0
    subst h0; cases hz
  · rw [h] at h1
    unfold rowChk at h2
    rw [← h1] at h2
    have h3 : (Nat.beq nx 0 || (decide (decode (m_b k) pc = .ok (i, nx - pc)) && (Nat.ble (pc + 1) nx && (tsl i (nx - pc) && rowOp k pc i nx r1 r2 r3 v)))) = true := h2
    rw [hz] at h3
    rw [Bool.false_or, Bool.and_eq_true] at h3
    obtain ⟨d1, h3⟩ := h3
    rw [Bool.and_eq_true] at h3
    obtain ⟨d2, h3⟩ := h3
    rw [Bool.and_eq_true] at h3
    obtain ⟨d3, d4⟩ := h3
    have d2 := Nat.le_of_ble_eq_true d2
    refine ⟨of_decide_eq_true d1, d2, fun q => ?_, d4⟩
    cases i <;> first
      | (cases q; done)
      | (have := Nat.eq_of_beq_eq_true d3; omega)
theorem nm_of {s : State} {k : Nat} {m : MethodId} {meth : Method} (hk : k < 306) (h1 : s.methodNamed? (m_y k) = some m) (h2 : s.vm.method? m = some meth) (h : isInit k = true) : meth.name = "<init>" := by
  have h6 := List.all_eq_true.mp mt_6 k (List.mem_range.mpr hk)
  rw [h] at h6
  have h7 : m_nm k = "<init>" := of_decide_eq_true h6
  exact ((name_of_methodNamed h1 h2).1).trans h7
