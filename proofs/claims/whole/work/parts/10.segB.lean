/-! printed by wip/whole/sym.py: what Run does from one cut point to the next; methods 79 to 163 -/
theorem s79_0 {d : Nat}  {σ : PS} : Run false (d + 1) 79 0 [some (.ref 43), some (.ref 1), none, none, none, none, none] [] σ =
    Run false (d + 1) 79 5 [some (.ref 43), some (.ref 1), some (.long (lN 0)), none, some (.int (nI 0)), none, none] [] σ := by
  rw [Run_go [5, 46, 69] 5]
  rfl
set_option maxRecDepth 100000 in
theorem s79_5 {d : Nat} {b2 : Int64} {a4 : Int32} {z5 : Option Value} {z6 : Option Value} {σ : PS} : Run false (d + 1) 79 5 [some (.ref 43), some (.ref 1), some (.long b2), none, some (.int a4), z5, z6] [] σ =
    (bif obl ((nI 5) ≤ a4) then (bif obl ((nI 0) ≤ (lg_cmp b2 ((FI σ 43 1).toInt64))) then Run false (d + 1) 79 46 [some (.ref 43), some (.ref 1), some (.long b2), none, some (.long (lN 0)), none, some (.int (nI 0))] [] σ else some (.inl (some (.long (lN 0)), σ))) else (bif inb a4 5 then Run false (d + 1) 79 5 [some (.ref 43), some (.ref 1), some (.long (b2 + ((AI σ 45 a4.toNatClampNeg).toInt64))), none, some (.int (a4 + (nI 1))), z5, z6] [] σ else none)) := by
  rw [Run_go [5, 46, 69] 14]
  rfl
set_option maxRecDepth 100000 in
theorem s79_46 {d : Nat} {b2 : Int64} {b4 : Int64} {a6 : Int32} {σ : PS} : Run false (d + 1) 79 46 [some (.ref 43), some (.ref 1), some (.long b2), none, some (.long b4), none, some (.int a6)] [] σ =
    (bif obl ((nI 5) ≤ a6) then some (.inl (some (.long b4), σ)) else (bif inb a6 5 then aft false (d + 1) 79 69 [some (.ref 43), some (.ref 1), some (.long b2), none, some (.long b4), none, some (.int a6)] [.long ((AI σ 45 a6.toNatClampNeg).toInt64), .long b4] (Run false d 80 0 [some (.ref 43), some (.ref 1), some (.int a6), none, none, none, none] [] σ) else none)) := by
  rw [Run_go [5, 46, 69] 14]
  rfl
set_option maxRecDepth 100000 in
theorem s79_69 {d : Nat} {b2 : Int64} {b4 : Int64} {a6 : Int32} {q0 : Int64} {q1 : Int64} {r2 : Int32} {σ : PS} : Run false (d + 1) 79 69 [some (.ref 43), some (.ref 1), some (.long b2), none, some (.long b4), none, some (.int a6)] [.int r2, .long q1, .long q0] σ =
    (bif obl ((lN 1000) = lN 0) then none else Run false (d + 1) 79 46 [some (.ref 43), some (.ref 1), some (.long b2), none, some (.long (q0 + ((q1 * (r2.toInt64)) / (lN 1000)))), none, some (.int (a6 + (nI 1)))] [] σ) := by
  rw [Run_go [5, 46, 69] 9]
  rfl
set_option maxRecDepth 100000 in
theorem s80_0 {d : Nat} {a2 : Int32} {σ : PS} : Run false (d + 1) 80 0 [some (.ref 43), some (.ref 1), some (.int a2), none, none, none, none] [] σ =
    (bif inb a2 5 then (bif obl ((AI σ 45 a2.toNatClampNeg) = (nI 0)) then some (.inl (some (.int (nI 0)), σ)) else (bif inb a2 5 then (bif obl ((nI 0) ≤ (AI σ 44 a2.toNatClampNeg)) then (bif inb a2 5 then (bif inb a2 5 then (bif obl ((lg_cmp (((AI σ 45 a2.toNatClampNeg).toInt64) + ((AI σ 46 a2.toNatClampNeg).toInt64)) (lN 0)) ≤ (nI 0)) then (bif inb a2 5 then (bif inb a2 5 then (bif inb a2 5 then aft false (d + 1) 80 97 [some (.ref 43), some (.ref 1), some (.int a2), some (.long (((AI σ 45 a2.toNatClampNeg).toInt64) + ((AI σ 46 a2.toNatClampNeg).toInt64))), none, some (.int (nI 0)), none] [] (Run false d 102 0 [some (.ref 1), some (.int (AI σ 44 a2.toNatClampNeg)), some (.int (FI σ 43 0)), some (.int (AI σ 45 a2.toNatClampNeg)), some (.int (nI 0)), some (.int (AI σ 47 a2.toNatClampNeg)), some (.int (FI σ 43 2)), none, none, none] [] σ) else none) else none) else none) else (bif inb a2 5 then (bif obl ((((AI σ 45 a2.toNatClampNeg).toInt64) + ((AI σ 46 a2.toNatClampNeg).toInt64)) = lN 0) then none else (bif inb a2 5 then (bif inb a2 5 then (bif inb a2 5 then aft false (d + 1) 80 97 [some (.ref 43), some (.ref 1), some (.int a2), some (.long (((AI σ 45 a2.toNatClampNeg).toInt64) + ((AI σ 46 a2.toNatClampNeg).toInt64))), none, some (.int (((((AI σ 45 a2.toNatClampNeg).toInt64) * (lN 100)) / (((AI σ 45 a2.toNatClampNeg).toInt64) + ((AI σ 46 a2.toNatClampNeg).toInt64))).toInt32)), none] [] (Run false d 102 0 [some (.ref 1), some (.int (AI σ 44 a2.toNatClampNeg)), some (.int (FI σ 43 0)), some (.int (AI σ 45 a2.toNatClampNeg)), some (.int (((((AI σ 45 a2.toNatClampNeg).toInt64) * (lN 100)) / (((AI σ 45 a2.toNatClampNeg).toInt64) + ((AI σ 46 a2.toNatClampNeg).toInt64))).toInt32)), some (.int (AI σ 47 a2.toNatClampNeg)), some (.int (FI σ 43 2)), none, none, none] [] σ) else none) else none) else none)) else none)) else none) else none) else some (.inl (some (.int (nI 100)), σ))) else none)) else none) := by
  rw [Run_go [97] 58]
  rfl
set_option maxRecDepth 100000 in
theorem s80_97 {d : Nat} {a2 : Int32} {b3 : Int64} {a5 : Int32} {z6 : Option Value} {r0 : Int32} {σ : PS} : Run false (d + 1) 80 97 [some (.ref 43), some (.ref 1), some (.int a2), some (.long b3), none, some (.int a5), z6] [.int r0] σ =
    some (.inl (some (.int (if (nI 0) < (if r0 < (nI 100000) then r0 else (nI 100000)) then (if r0 < (nI 100000) then r0 else (nI 100000)) else (nI 0))), σ)) := by
  rw [Run_go [97] 8]
  rfl
set_option maxRecDepth 100000 in
theorem s82_0 {d : Nat} {a1 : Int32} {σ : PS} : Run false (d + 1) 82 0 [some (.ref 36), some (.int a1), none] [] σ =
    Run false (d + 1) 82 12 [some (.ref 36), some (.int a1), some (.int (nI 0))] [] (wFI σ 36 6 (if (nI 10) < a1 then (nI 10) else a1)) := by
  rw [Run_go [12] 8]
  rfl
set_option maxRecDepth 100000 in
theorem s82_12 {d : Nat} {a1 : Int32} {a2 : Int32} {σ : PS} : Run false (d + 1) 82 12 [some (.ref 36), some (.int a1), some (.int a2)] [] σ =
    (bif obl ((nI 50) ≤ a2) then some (.inl (none, σ)) else (bif inb a2 50 then Run false (d + 1) 82 12 [some (.ref 36), some (.int a1), some (.int (a2 + (nI 1)))] [] (wAI σ 37 a2.toNatClampNeg (nI 0)) else none)) := by
  rw [Run_go [12] 13]
  rfl
set_option maxRecDepth 100000 in
theorem s83_0 {d : Nat} {a1 : Int32} {a2 : Int32} {σ : PS} : Run false (d + 1) 83 0 [some (.ref 36), some (.int a1), some (.int a2)] [] σ =
    (bif inb ((a1 * (nI 5)) + a2) 50 then some (.inl (some (.int (AI σ 37 ((a1 * (nI 5)) + a2).toNatClampNeg)), σ)) else none) := by
  rw [Run_go [] 10]
  rfl
theorem s84_0 {d : Nat} {a1 : Int32} {σ : PS} : Run false (d + 1) 84 0 [some (.ref 36), some (.int a1), none, none] [] σ =
    Run false (d + 1) 84 4 [some (.ref 36), some (.int a1), some (.int (nI 0)), some (.int (nI 0))] [] σ := by
  rw [Run_go [4, 16] 5]
  rfl
set_option maxRecDepth 100000 in
theorem s84_4 {d : Nat} {a1 : Int32} {a2 : Int32} {a3 : Int32} {σ : PS} : Run false (d + 1) 84 4 [some (.ref 36), some (.int a1), some (.int a2), some (.int a3)] [] σ =
    (bif obl ((nI 5) ≤ a3) then some (.inl (some (.int a2), σ)) else aft false (d + 1) 84 16 [some (.ref 36), some (.int a1), some (.int a2), some (.int a3)] [.int a2] (Run false d 83 0 [some (.ref 36), some (.int a1), some (.int a3)] [] σ)) := by
  rw [Run_go [4, 16] 9]
  rfl
theorem s84_16 {d : Nat} {a1 : Int32} {a2 : Int32} {a3 : Int32} {r0 : Int32} {r1 : Int32} {σ : PS} : Run false (d + 1) 84 16 [some (.ref 36), some (.int a1), some (.int a2), some (.int a3)] [.int r1, .int r0] σ =
    Run false (d + 1) 84 4 [some (.ref 36), some (.int a1), some (.int (r0 + r1)), some (.int (a3 + (nI 1)))] [] σ := by
  rw [Run_go [4, 16] 5]
  rfl
theorem s85_0 {d : Nat} {a1 : Int32} {σ : PS} : Run false (d + 1) 85 0 [some (.ref 36), some (.int a1), none, none] [] σ =
    Run false (d + 1) 85 4 [some (.ref 36), some (.int a1), some (.int (nI 0)), some (.int (nI 0))] [] σ := by
  rw [Run_go [4, 19] 5]
  rfl
set_option maxRecDepth 100000 in
theorem s85_4 {d : Nat} {a1 : Int32} {a2 : Int32} {a3 : Int32} {σ : PS} : Run false (d + 1) 85 4 [some (.ref 36), some (.int a1), some (.int a2), some (.int a3)] [] σ =
    (bif obl ((FI σ 36 6) ≤ a3) then some (.inl (some (.int a2), σ)) else aft false (d + 1) 85 19 [some (.ref 36), some (.int a1), some (.int a2), some (.int a3)] [.int a2] (Run false d 83 0 [some (.ref 36), some (.int a3), some (.int a1)] [] σ)) := by
  rw [Run_go [4, 19] 10]
  rfl
theorem s85_19 {d : Nat} {a1 : Int32} {a2 : Int32} {a3 : Int32} {r0 : Int32} {r1 : Int32} {σ : PS} : Run false (d + 1) 85 19 [some (.ref 36), some (.int a1), some (.int a2), some (.int a3)] [.int r1, .int r0] σ =
    Run false (d + 1) 85 4 [some (.ref 36), some (.int a1), some (.int (r0 + r1)), some (.int (a3 + (nI 1)))] [] σ := by
  rw [Run_go [4, 19] 5]
  rfl
theorem s86_0 {d : Nat} {a1 : Int32} {a2 : Int32} {σ : PS} : Run false (d + 1) 86 0 [some (.ref 36), some (.int a1), some (.int a2), none, none, none] [] σ =
    Run false (d + 1) 86 5 [some (.ref 36), some (.int a1), some (.int a2), some (.long (lN 0)), none, some (.int (nI 0))] [] σ := by
  rw [Run_go [5, 43] 5]
  rfl
set_option maxRecDepth 100000 in
theorem s86_5 {d : Nat} {a1 : Int32} {a2 : Int32} {b3 : Int64} {a5 : Int32} {σ : PS} : Run false (d + 1) 86 5 [some (.ref 36), some (.int a1), some (.int a2), some (.long b3), none, some (.int a5)] [] σ =
    (bif obl ((FI σ 36 6) ≤ a5) then some (.inl (some (.long b3), σ)) else (bif inb a5 10 then (bif obl ((AI σ 39 a5.toNatClampNeg) = a1) then (bif inb a5 10 then (bif obl ((AI σ 38 a5.toNatClampNeg) = (nI 0)) then aft false (d + 1) 86 43 [some (.ref 36), some (.int a1), some (.int a2), some (.long b3), none, some (.int a5)] [.long b3] (Run false d 83 0 [some (.ref 36), some (.int a5), some (.int a2)] [] σ) else Run false (d + 1) 86 5 [some (.ref 36), some (.int a1), some (.int a2), some (.long b3), none, some (.int (a5 + (nI 1)))] [] σ) else none) else Run false (d + 1) 86 5 [some (.ref 36), some (.int a1), some (.int a2), some (.long b3), none, some (.int (a5 + (nI 1)))] [] σ) else none)) := by
  rw [Run_go [5, 43] 21]
  rfl
theorem s86_43 {d : Nat} {a1 : Int32} {a2 : Int32} {b3 : Int64} {a5 : Int32} {q0 : Int64} {r1 : Int32} {σ : PS} : Run false (d + 1) 86 43 [some (.ref 36), some (.int a1), some (.int a2), some (.long b3), none, some (.int a5)] [.int r1, .long q0] σ =
    Run false (d + 1) 86 5 [some (.ref 36), some (.int a1), some (.int a2), some (.long (q0 + (r1.toInt64))), none, some (.int (a5 + (nI 1)))] [] σ := by
  rw [Run_go [5, 43] 6]
  rfl
theorem s87_0 {d : Nat} {a1 : Int32} {σ : PS} : Run false (d + 1) 87 0 [some (.ref 36), some (.int a1), none, none, none] [] σ =
    Run false (d + 1) 87 5 [some (.ref 36), some (.int a1), some (.long (lN 0)), none, some (.int (nI 0))] [] σ := by
  rw [Run_go [5, 19] 5]
  rfl
set_option maxRecDepth 100000 in
theorem s87_5 {d : Nat} {a1 : Int32} {b2 : Int64} {a4 : Int32} {σ : PS} : Run false (d + 1) 87 5 [some (.ref 36), some (.int a1), some (.long b2), none, some (.int a4)] [] σ =
    (bif obl ((nI 5) ≤ a4) then some (.inl (some (.long b2), σ)) else aft false (d + 1) 87 19 [some (.ref 36), some (.int a1), some (.long b2), none, some (.int a4)] [.long b2] (Run false d 86 0 [some (.ref 36), some (.int a1), some (.int a4), none, none, none] [] σ)) := by
  rw [Run_go [5, 19] 9]
  rfl
theorem s87_19 {d : Nat} {a1 : Int32} {b2 : Int64} {a4 : Int32} {q0 : Int64} {q1 : Int64} {σ : PS} : Run false (d + 1) 87 19 [some (.ref 36), some (.int a1), some (.long b2), none, some (.int a4)] [.long q1, .long q0] σ =
    Run false (d + 1) 87 5 [some (.ref 36), some (.int a1), some (.long (q0 + q1)), none, some (.int (a4 + (nI 1)))] [] σ := by
  rw [Run_go [5, 19] 5]
  rfl
theorem s88_0 {d : Nat} {a1 : Int32} {σ : PS} : Run false (d + 1) 88 0 [some (.ref 36), some (.int a1), none, none, none] [] σ =
    Run false (d + 1) 88 5 [some (.ref 36), some (.int a1), some (.long (lN 0)), none, some (.int (nI 0))] [] σ := by
  rw [Run_go [5] 5]
  rfl
set_option maxRecDepth 100000 in
theorem s88_5 {d : Nat} {a1 : Int32} {b2 : Int64} {a4 : Int32} {σ : PS} : Run false (d + 1) 88 5 [some (.ref 36), some (.int a1), some (.long b2), none, some (.int a4)] [] σ =
    (bif obl ((FI σ 36 6) ≤ a4) then some (.inl (some (.long b2), σ)) else (bif inb a4 10 then (bif obl ((AI σ 39 a4.toNatClampNeg) = a1) then (bif inb a4 10 then Run false (d + 1) 88 5 [some (.ref 36), some (.int a1), some (.long (b2 + (AL σ 41 a4.toNatClampNeg))), none, some (.int (a4 + (nI 1)))] [] σ else none) else Run false (d + 1) 88 5 [some (.ref 36), some (.int a1), some (.long b2), none, some (.int (a4 + (nI 1)))] [] σ) else none)) := by
  rw [Run_go [5] 20]
  rfl
theorem s89_0 {d : Nat} {b1 : Int64} {a3 : Int32} {σ : PS} : Run false (d + 1) 89 0 [some (.ref 36), some (.long b1), none, some (.int a3), none, none, none, none, none] [] σ =
    Run false (d + 1) 89 6 [some (.ref 36), some (.long b1), none, some (.int a3), some (.long (lN 0)), none, some (.int (nI 0)), none, none] [] σ := by
  rw [Run_go [6, 52, 117, 137] 5]
  rfl
set_option maxRecDepth 100000 in
theorem s89_6 {d : Nat} {b1 : Int64} {a3 : Int32} {b4 : Int64} {a6 : Int32} {z7 : Option Value} {z8 : Option Value} {σ : PS} : Run false (d + 1) 89 6 [some (.ref 36), some (.long b1), none, some (.int a3), some (.long b4), none, some (.int a6), z7, z8] [] σ =
    (bif obl (a3 ≤ a6) then (bif obl ((nI 0) < (lg_cmp b4 (lN 0))) then Run false (d + 1) 89 52 [some (.ref 36), some (.long b1), none, some (.int a3), some (.long b4), none, some (.long b1), none, some (.int (nI 0))] [] σ else some (.inl (none, σ))) else (bif inb a6 10 then (bif inb a6 10 then Run false (d + 1) 89 6 [some (.ref 36), some (.long b1), none, some (.int a3), some (.long (b4 + (AL σ 40 a6.toNatClampNeg))), none, some (.int (a6 + (nI 1))), z7, z8] [] (wAL σ 41 a6.toNatClampNeg (lN 0)) else none) else none)) := by
  rw [Run_go [6, 52, 117, 137] 18]
  rfl
set_option maxRecDepth 100000 in
theorem s89_52 {d : Nat} {b1 : Int64} {a3 : Int32} {b4 : Int64} {b6 : Int64} {a8 : Int32} {σ : PS} : Run false (d + 1) 89 52 [some (.ref 36), some (.long b1), none, some (.int a3), some (.long b4), none, some (.long b6), none, some (.int a8)] [] σ =
    (bif obl (a3 ≤ a8) then Run false (d + 1) 89 117 [some (.ref 36), some (.long b1), none, some (.int a3), some (.long b4), none, some (.long b6), none, some (.int (nI 0))] [] σ else (bif inb a8 10 then (bif obl (b4 = lN 0) then none else (bif inb a8 10 then (bif inb a8 10 then (bif obl (b4 = lN 0) then none else (bif inb a8 10 then (bif inb a8 10 then Run false (d + 1) 89 52 [some (.ref 36), some (.long b1), none, some (.int a3), some (.long b4), none, some (.long (b6 - (AL (wAL σ 41 a8.toNatClampNeg ((b1 * (AL σ 40 a8.toNatClampNeg)) / b4)) 41 a8.toNatClampNeg))), none, some (.int (a8 + (nI 1)))] [] (wAL (wAL σ 41 a8.toNatClampNeg ((b1 * (AL σ 40 a8.toNatClampNeg)) / b4)) 42 a8.toNatClampNeg ((b1 * (AL σ 40 a8.toNatClampNeg)) - (b1 * (AL σ 40 a8.toNatClampNeg)) / b4 * b4)) else none) else none)) else none) else none)) else none)) := by
  rw [Run_go [6, 52, 117, 137] 37]
  rfl
set_option maxRecDepth 100000 in
theorem s89_117 {d : Nat} {b1 : Int64} {a3 : Int32} {b4 : Int64} {b6 : Int64} {a8 : Int32} {σ : PS} : Run false (d + 1) 89 117 [some (.ref 36), some (.long b1), none, some (.int a3), some (.long b4), none, some (.long b6), none, some (.int a8)] [] σ =
    (bif obl (a3 ≤ a8) then some (.inl (none, σ)) else (bif obl ((nI 0) ≤ (lg_cmp (a8.toInt64) b6)) then some (.inl (none, σ)) else aft false (d + 1) 89 137 [some (.ref 36), some (.long b1), none, some (.int a3), some (.long b4), none, some (.long b6), none, some (.int a8)] [] (Run false d 90 0 [some (.ref 36), some (.int a3), none, none] [] σ))) := by
  rw [Run_go [6, 52, 117, 137] 12]
  rfl
theorem s89_137 {d : Nat} {b1 : Int64} {a3 : Int32} {b4 : Int64} {b6 : Int64} {a8 : Int32} {σ : PS} : Run false (d + 1) 89 137 [some (.ref 36), some (.long b1), none, some (.int a3), some (.long b4), none, some (.long b6), none, some (.int a8)] [] σ =
    Run false (d + 1) 89 117 [some (.ref 36), some (.long b1), none, some (.int a3), some (.long b4), none, some (.long b6), none, some (.int (a8 + (nI 1)))] [] σ := by
  rw [Run_go [6, 52, 117, 137] 3]
  rfl
theorem s90_0 {d : Nat} {a1 : Int32} {σ : PS} : Run false (d + 1) 90 0 [some (.ref 36), some (.int a1), none, none] [] σ =
    Run false (d + 1) 90 4 [some (.ref 36), some (.int a1), some (.int (nI 0)), some (.int (nI 1))] [] σ := by
  rw [Run_go [4] 5]
  rfl
set_option maxRecDepth 100000 in
theorem s90_4 {d : Nat} {a1 : Int32} {a2 : Int32} {a3 : Int32} {σ : PS} : Run false (d + 1) 90 4 [some (.ref 36), some (.int a1), some (.int a2), some (.int a3)] [] σ =
    (bif obl (a1 ≤ a3) then (bif inb a2 10 then (bif inb a2 10 then (bif inb a2 10 then some (.inl (none, (wAL (wAL σ 41 a2.toNatClampNeg ((AL σ 41 a2.toNatClampNeg) + (lN 1))) 42 a2.toNatClampNeg (-1 : Int64)))) else none) else none) else none) else (bif inb a3 10 then (bif inb a2 10 then (bif obl ((lg_cmp (AL σ 42 a3.toNatClampNeg) (AL σ 42 a2.toNatClampNeg)) ≤ (nI 0)) then Run false (d + 1) 90 4 [some (.ref 36), some (.int a1), some (.int a2), some (.int (a3 + (nI 1)))] [] σ else Run false (d + 1) 90 4 [some (.ref 36), some (.int a1), some (.int a3), some (.int (a3 + (nI 1)))] [] σ) else none) else none)) := by
  rw [Run_go [4] 18]
  rfl
set_option maxRecDepth 100000 in
theorem s92_0 {d : Nat}  {σ : PS} : Run false (d + 1) 92 0 [some (.ref 1)] [] σ =
    (bif obl ((nI 11) ≤ (FI σ 1 0)) then some (.inl (none, (wFI σ 1 1 ((FI σ 1 0) * (nI 400))))) else (bif inb (FI σ 1 0) 11 then some (.inl (none, (wAI (wFI σ 1 1 ((FI σ 1 0) * (nI 400))) 3 (FI σ 1 0).toNatClampNeg (nI 0)))) else none)) := by
  rw [Run_go [] 18]
  rfl
set_option maxRecDepth 100000 in
theorem s93_0 {d : Nat}  {σ : PS} : Run false (d + 1) 93 0 [some (.ref 1)] [] σ =
    (bif obl ((nI 11) ≤ (FI σ 1 0)) then (bif is01 (nI 1) then some (.inl (some (.int (nI 1)), σ)) else none) else (bif inb (FI σ 1 0) 11 then (bif obl ((AI σ 3 (FI σ 1 0).toNatClampNeg) < (nI 16)) then (bif is01 (nI 0) then some (.inl (some (.int (nI 0)), σ)) else none) else (bif is01 (nI 1) then some (.inl (some (.int (nI 1)), σ)) else none)) else none)) := by
  rw [Run_go [] 15]
  rfl
theorem s94_0 {d : Nat} {a1 : Int32} {a2 : Int32} {σ : PS} : Run false (d + 1) 94 0 [some (.ref 1), some (.int a1), some (.int a2)] [] σ =
    aft false (d + 1) 94 4 [some (.ref 1), some (.int a1), some (.int a2)] [] (Run false d 93 0 [some (.ref 1)] [] σ) := by
  rw [Run_go [4] 3]
  rfl
set_option maxRecDepth 100000 in
theorem s94_4 {d : Nat} {a1 : Int32} {a2 : Int32} {r0 : Int32} {σ : PS} : Run false (d + 1) 94 4 [some (.ref 1), some (.int a1), some (.int a2)] [.int r0] σ =
    (bif obl (r0 = (nI 0)) then (bif inb (FI σ 1 0) 11 then (bif inb (FI σ 1 0) 11 then (bif inb (FI σ 1 0) 11 then (bif inb (((FI σ 1 0) * (nI 16)) + (AI σ 3 (FI σ 1 0).toNatClampNeg)) 176 then (bif inb (((FI σ 1 0) * (nI 16)) + (AI σ 3 (FI σ 1 0).toNatClampNeg)) 176 then (bif inb (((FI σ 1 0) * (nI 16)) + (AI σ 3 (FI σ 1 0).toNatClampNeg)) 176 then (bif inb (((FI σ 1 0) * (nI 16)) + (AI σ 3 (FI σ 1 0).toNatClampNeg)) 176 then (bif inb (((FI σ 1 0) * (nI 16)) + (AI σ 3 (FI σ 1 0).toNatClampNeg)) 176 then some (.inl (none, (wAI (wAI (wAI (wAI (wAI (wAI (wFI σ 1 2 (((FI σ 1 0) * (nI 16)) + (AI σ 3 (FI σ 1 0).toNatClampNeg))) 3 (FI σ 1 0).toNatClampNeg ((AI σ 3 (FI σ 1 0).toNatClampNeg) + (nI 1))) 4 (((FI σ 1 0) * (nI 16)) + (AI σ 3 (FI σ 1 0).toNatClampNeg)).toNatClampNeg a1) 5 (((FI σ 1 0) * (nI 16)) + (AI σ 3 (FI σ 1 0).toNatClampNeg)).toNatClampNeg a2) 6 (((FI σ 1 0) * (nI 16)) + (AI σ 3 (FI σ 1 0).toNatClampNeg)).toNatClampNeg (nI 0)) 7 (((FI σ 1 0) * (nI 16)) + (AI σ 3 (FI σ 1 0).toNatClampNeg)).toNatClampNeg (FI σ 1 1)) 8 (((FI σ 1 0) * (nI 16)) + (AI σ 3 (FI σ 1 0).toNatClampNeg)).toNatClampNeg (FI σ 1 1)))) else none) else none) else none) else none) else none) else none) else none) else none) else some (.inl (none, σ))) := by
  rw [Run_go [4] 56]
  rfl
set_option maxRecDepth 100000 in
theorem s95_0 {d : Nat} {a1 : Int32} {σ : PS} : Run false (d + 1) 95 0 [some (.ref 1), some (.int a1)] [] σ =
    (bif inb (FI σ 1 2) 176 then some (.inl (none, (wAI σ 6 (FI σ 1 2).toNatClampNeg a1))) else none) := by
  rw [Run_go [] 8]
  rfl
set_option maxRecDepth 100000 in
theorem s96_0 {d : Nat} {a1 : Int32} {σ : PS} : Run false (d + 1) 96 0 [some (.ref 1), some (.int a1)] [] σ =
    (bif obl ((nI 4400) ≤ (FI σ 1 1)) then some (.inl (none, σ)) else (bif inb (FI σ 1 1) 4400 then (bif inb (FI σ 1 2) 176 then some (.inl (none, (wAI (wFI (wAI σ 9 (FI σ 1 1).toNatClampNeg a1) 1 1 ((FI σ 1 1) + (nI 1))) 8 (FI σ 1 2).toNatClampNeg ((FI σ 1 1) + (nI 1))))) else none) else none)) := by
  rw [Run_go [] 27]
  rfl
set_option maxRecDepth 100000 in
theorem s97_0 {d : Nat} {a1 : Int32} {σ : PS} : Run false (d + 1) 97 0 [some (.ref 1), some (.int a1)] [] σ =
    (bif obl ((FI σ 1 0) < (nI 11)) then (bif inb (FI σ 1 0) 11 then some (.inl (some (.int (((FI σ 1 0) + (nI 1)) - (nI 1))), (wFI (wAI σ 2 (FI σ 1 0).toNatClampNeg a1) 1 0 ((FI σ 1 0) + (nI 1))))) else none) else some (.inl (some (.int (-1 : Int32)), σ))) := by
  rw [Run_go [] 22]
  rfl
set_option maxRecDepth 100000 in
theorem s98_0 {d : Nat}  {σ : PS} : Run false (d + 1) 98 0 [some (.ref 1)] [] σ =
    (bif obl ((FI σ 1 0) ≤ (nI 0)) then some (.inl (none, σ)) else some (.inl (none, (wFI σ 1 0 ((FI σ 1 0) - (nI 1)))))) := by
  rw [Run_go [] 11]
  rfl
theorem s99_0 {d : Nat} {a1 : Int32} {a2 : Int32} {a3 : Int32} {σ : PS} : Run false (d + 1) 99 0 [some (.ref 1), some (.int a1), some (.int a2), some (.int a3), none, none, none] [] σ =
    Run false (d + 1) 99 8 [some (.ref 1), some (.int a1), some (.int a2), some (.int a3), some (.int ((FI σ 1 0) - (nI 1))), none, none] [] σ := by
  rw [Run_go [8, 38] 6]
  rfl
set_option maxRecDepth 100000 in
theorem s99_8 {d : Nat} {a1 : Int32} {a2 : Int32} {a3 : Int32} {a4 : Int32} {z5 : Option Value} {z6 : Option Value} {σ : PS} : Run false (d + 1) 99 8 [some (.ref 1), some (.int a1), some (.int a2), some (.int a3), some (.int a4), z5, z6] [] σ =
    (bif obl (a4 < (nI 0)) then some (.inl (some (.int (-1 : Int32)), σ)) else (bif inb a4 11 then (bif obl ((AI σ 2 a4.toNatClampNeg) ≤ a3) then (bif inb a4 11 then Run false (d + 1) 99 38 [some (.ref 1), some (.int a1), some (.int a2), some (.int a3), some (.int a4), some (.int ((AI σ 3 a4.toNatClampNeg) - (nI 1))), z6] [] σ else none) else Run false (d + 1) 99 8 [some (.ref 1), some (.int a1), some (.int a2), some (.int a3), some (.int (a4 + (-1 : Int32))), z5, z6] [] σ) else none)) := by
  rw [Run_go [8, 38] 16]
  rfl
set_option maxRecDepth 100000 in
theorem s99_38 {d : Nat} {a1 : Int32} {a2 : Int32} {a3 : Int32} {a4 : Int32} {a5 : Int32} {z6 : Option Value} {σ : PS} : Run false (d + 1) 99 38 [some (.ref 1), some (.int a1), some (.int a2), some (.int a3), some (.int a4), some (.int a5), z6] [] σ =
    (bif obl (a5 < (nI 0)) then Run false (d + 1) 99 8 [some (.ref 1), some (.int a1), some (.int a2), some (.int a3), some (.int (a4 + (-1 : Int32))), some (.int a5), z6] [] σ else (bif inb ((a4 * (nI 16)) + a5) 176 then (bif obl ((AI σ 4 ((a4 * (nI 16)) + a5).toNatClampNeg) = a1) then (bif inb ((a4 * (nI 16)) + a5) 176 then (bif obl ((AI σ 5 ((a4 * (nI 16)) + a5).toNatClampNeg) = a2) then some (.inl (some (.int ((a4 * (nI 16)) + a5)), σ)) else Run false (d + 1) 99 38 [some (.ref 1), some (.int a1), some (.int a2), some (.int a3), some (.int a4), some (.int (a5 + (-1 : Int32))), some (.int ((a4 * (nI 16)) + a5))] [] σ) else none) else Run false (d + 1) 99 38 [some (.ref 1), some (.int a1), some (.int a2), some (.int a3), some (.int a4), some (.int (a5 + (-1 : Int32))), some (.int ((a4 * (nI 16)) + a5))] [] σ) else none)) := by
  rw [Run_go [8, 38] 23]
  rfl
theorem s100_0 {d : Nat} {a1 : Int32} {a2 : Int32} {a3 : Int32} {a4 : Int32} {σ : PS} : Run false (d + 1) 100 0 [some (.ref 1), some (.int a1), some (.int a2), some (.int a3), some (.int a4), none] [] σ =
    aft false (d + 1) 100 7 [some (.ref 1), some (.int a1), some (.int a2), some (.int a3), some (.int a4), none] [] (Run false d 99 0 [some (.ref 1), some (.int a1), some (.int a2), some (.int a3), none, none, none] [] σ) := by
  rw [Run_go [7] 6]
  rfl
set_option maxRecDepth 100000 in
theorem s100_7 {d : Nat} {a1 : Int32} {a2 : Int32} {a3 : Int32} {a4 : Int32} {z5 : Option Value} {r0 : Int32} {σ : PS} : Run false (d + 1) 100 7 [some (.ref 1), some (.int a1), some (.int a2), some (.int a3), some (.int a4), z5] [.int r0] σ =
    (bif obl ((nI 0) ≤ r0) then (bif inb r0 176 then some (.inl (some (.int (AI σ 6 r0.toNatClampNeg)), σ)) else none) else some (.inl (some (.int a4), σ))) := by
  rw [Run_go [7] 9]
  rfl
theorem s101_0 {d : Nat} {a1 : Int32} {a2 : Int32} {a3 : Int32} {a4 : Int32} {σ : PS} : Run false (d + 1) 101 0 [some (.ref 1), some (.int a1), some (.int a2), some (.int a3), some (.int a4), none, none, none] [] σ =
    Run false (d + 1) 101 3 [some (.ref 1), some (.int a1), some (.int a2), some (.int a3), some (.int a4), some (.int (nI 0)), none, none] [] σ := by
  rw [Run_go [3, 29, 104] 3]
  rfl
set_option maxRecDepth 100000 in
theorem s101_3 {d : Nat} {a1 : Int32} {a2 : Int32} {a3 : Int32} {a4 : Int32} {a5 : Int32} {z6 : Option Value} {z7 : Option Value} {σ : PS} : Run false (d + 1) 101 3 [some (.ref 1), some (.int a1), some (.int a2), some (.int a3), some (.int a4), some (.int a5), z6, z7] [] σ =
    (bif obl ((FI σ 1 0) ≤ a5) then (bif is01 (nI 0) then some (.inl (some (.int (nI 0)), σ)) else none) else (bif inb a5 11 then (bif obl ((AI σ 2 a5.toNatClampNeg) ≤ a2) then Run false (d + 1) 101 29 [some (.ref 1), some (.int a1), some (.int a2), some (.int a3), some (.int a4), some (.int a5), some (.int (nI 0)), z7] [] σ else Run false (d + 1) 101 3 [some (.ref 1), some (.int a1), some (.int a2), some (.int a3), some (.int a4), some (.int (a5 + (nI 1))), z6, z7] [] σ) else none)) := by
  rw [Run_go [3, 29, 104] 14]
  rfl
set_option maxRecDepth 100000 in
theorem s101_29 {d : Nat} {a1 : Int32} {a2 : Int32} {a3 : Int32} {a4 : Int32} {a5 : Int32} {a6 : Int32} {z7 : Option Value} {σ : PS} : Run false (d + 1) 101 29 [some (.ref 1), some (.int a1), some (.int a2), some (.int a3), some (.int a4), some (.int a5), some (.int a6), z7] [] σ =
    (bif inb a5 11 then (bif obl ((AI σ 3 a5.toNatClampNeg) ≤ a6) then Run false (d + 1) 101 3 [some (.ref 1), some (.int a1), some (.int a2), some (.int a3), some (.int a4), some (.int (a5 + (nI 1))), some (.int a6), z7] [] σ else (bif inb ((a5 * (nI 16)) + a6) 176 then (bif obl ((AI σ 4 ((a5 * (nI 16)) + a6).toNatClampNeg) = (nI 214)) then (bif inb ((a5 * (nI 16)) + a6) 176 then (bif obl ((AI σ 5 ((a5 * (nI 16)) + a6).toNatClampNeg) = a1) then (bif inb ((a5 * (nI 16)) + a6) 176 then (bif inb ((a5 * (nI 16)) + a6) 176 then (bif obl ((AI σ 7 ((a5 * (nI 16)) + a6).toNatClampNeg) = (AI σ 8 ((a5 * (nI 16)) + a6).toNatClampNeg)) then (bif is01 (nI 1) then some (.inl (some (.int (nI 1)), σ)) else none) else aft false (d + 1) 101 104 [some (.ref 1), some (.int a1), some (.int a2), some (.int a3), some (.int a4), some (.int a5), some (.int a6), some (.int ((a5 * (nI 16)) + a6))] [] (Run false d 102 0 [some (.ref 1), some (.int ((a5 * (nI 16)) + a6)), some (.int a2), some (.int (nI 0)), some (.int (nI 0)), some (.int a3), some (.int a4), none, none, none] [] σ)) else none) else none) else Run false (d + 1) 101 29 [some (.ref 1), some (.int a1), some (.int a2), some (.int a3), some (.int a4), some (.int a5), some (.int (a6 + (nI 1))), some (.int ((a5 * (nI 16)) + a6))] [] σ) else none) else Run false (d + 1) 101 29 [some (.ref 1), some (.int a1), some (.int a2), some (.int a3), some (.int a4), some (.int a5), some (.int (a6 + (nI 1))), some (.int ((a5 * (nI 16)) + a6))] [] σ) else none)) else none) := by
  rw [Run_go [3, 29, 104] 42]
  rfl
theorem s101_104 {d : Nat} {a1 : Int32} {a2 : Int32} {a3 : Int32} {a4 : Int32} {a5 : Int32} {a6 : Int32} {a7 : Int32} {r0 : Int32} {σ : PS} : Run false (d + 1) 101 104 [some (.ref 1), some (.int a1), some (.int a2), some (.int a3), some (.int a4), some (.int a5), some (.int a6), some (.int a7)] [.int r0] σ =
    (bif obl (r0 = (nI 0)) then Run false (d + 1) 101 29 [some (.ref 1), some (.int a1), some (.int a2), some (.int a3), some (.int a4), some (.int a5), some (.int (a6 + (nI 1))), some (.int a7)] [] σ else (bif is01 (nI 1) then some (.inl (some (.int (nI 1)), σ)) else none)) := by
  rw [Run_go [3, 29, 104] 4]
  rfl
set_option maxRecDepth 100000 in
theorem s102_0 {d : Nat} {a1 : Int32} {a2 : Int32} {a3 : Int32} {a4 : Int32} {a5 : Int32} {a6 : Int32} {σ : PS} : Run false (d + 1) 102 0 [some (.ref 1), some (.int a1), some (.int a2), some (.int a3), some (.int a4), some (.int a5), some (.int a6), none, none, none] [] σ =
    (bif inb (nI 0) 5 then (bif inb (nI 1) 5 then (bif inb (nI 2) 5 then (bif inb (nI 3) 5 then (bif inb (nI 4) 5 then (bif inb a1 176 then Run false (d + 1) 102 49 [some (.ref 1), some (.int a1), some (.int a2), some (.int a3), some (.int a4), some (.int a5), some (.int a6), some (.int (nI 0)), some (.int (AI σ 7 a1.toNatClampNeg)), none] [] (wAI (wAI (wAI (wAI (wAI σ 10 (nI 0).toNatClampNeg a2) 10 (nI 1).toNatClampNeg a3) 10 (nI 2).toNatClampNeg a4) 10 (nI 3).toNatClampNeg a5) 10 (nI 4).toNatClampNeg a6) else none) else none) else none) else none) else none) else none) := by
  rw [Run_go [49, 207] 33]
  rfl
set_option maxRecDepth 100000 in
theorem s102_49 {d : Nat} {a1 : Int32} {a2 : Int32} {a3 : Int32} {a4 : Int32} {a5 : Int32} {a6 : Int32} {a7 : Int32} {a8 : Int32} {z9 : Option Value} {σ : PS} : Run false (d + 1) 102 49 [some (.ref 1), some (.int a1), some (.int a2), some (.int a3), some (.int a4), some (.int a5), some (.int a6), some (.int a7), some (.int a8), z9] [] σ =
    (bif inb a1 176 then (bif obl ((AI σ 8 a1.toNatClampNeg) ≤ a8) then (bif inb (nI 0) 64 then some (.inl (some (.int (AI σ 11 (nI 0).toNatClampNeg)), σ)) else none) else (bif inb a8 4400 then (bif obl ((nI 10010) ≤ (AI σ 9 a8.toNatClampNeg)) then (bif obl ((AI σ 9 a8.toNatClampNeg) = (nI 10021)) then (bif obl (a7 ≤ (nI 0)) then (bif obl ((AI σ 9 a8.toNatClampNeg) < (nI 10010)) then Run false (d + 1) 102 49 [some (.ref 1), some (.int a1), some (.int a2), some (.int a3), some (.int a4), some (.int a5), some (.int a6), some (.int a7), some (.int (a8 + (nI 1))), some (.int (AI σ 9 a8.toNatClampNeg))] [] σ else (bif obl (a7 ≤ (nI 1)) then Run false (d + 1) 102 49 [some (.ref 1), some (.int a1), some (.int a2), some (.int a3), some (.int a4), some (.int a5), some (.int a6), some (.int a7), some (.int (a8 + (nI 1))), some (.int (AI σ 9 a8.toNatClampNeg))] [] σ else (bif inb ((a7 + (-1 : Int32)) - (nI 1)) 64 then (bif inb (a7 + (-1 : Int32)) 64 then aft false (d + 1) 102 207 [some (.ref 1), some (.int a1), some (.int a2), some (.int a3), some (.int a4), some (.int a5), some (.int a6), some (.int (a7 + (-1 : Int32))), some (.int a8), some (.int (AI σ 9 a8.toNatClampNeg))] [.int ((a7 + (-1 : Int32)) - (nI 1)), .ref 11] (Run false d 103 0 [some (.int (AI σ 9 a8.toNatClampNeg)), some (.int (AI σ 11 ((a7 + (-1 : Int32)) - (nI 1)).toNatClampNeg)), some (.int (AI σ 11 (a7 + (-1 : Int32)).toNatClampNeg))] [] σ) else none) else none))) else (bif inb (a7 - (nI 1)) 64 then (bif inb (a7 - (nI 1)) 64 then Run false (d + 1) 102 49 [some (.ref 1), some (.int a1), some (.int a2), some (.int a3), some (.int a4), some (.int a5), some (.int a6), some (.int a7), some (.int (a8 + (nI 1))), some (.int (AI σ 9 a8.toNatClampNeg))] [] (wAI σ 11 (a7 - (nI 1)).toNatClampNeg ((nI 1) - (AI σ 11 (a7 - (nI 1)).toNatClampNeg))) else none) else none)) else (bif obl ((AI σ 9 a8.toNatClampNeg) < (nI 10010)) then Run false (d + 1) 102 49 [some (.ref 1), some (.int a1), some (.int a2), some (.int a3), some (.int a4), some (.int a5), some (.int a6), some (.int a7), some (.int (a8 + (nI 1))), some (.int (AI σ 9 a8.toNatClampNeg))] [] σ else (bif obl (a7 ≤ (nI 1)) then Run false (d + 1) 102 49 [some (.ref 1), some (.int a1), some (.int a2), some (.int a3), some (.int a4), some (.int a5), some (.int a6), some (.int a7), some (.int (a8 + (nI 1))), some (.int (AI σ 9 a8.toNatClampNeg))] [] σ else (bif inb ((a7 + (-1 : Int32)) - (nI 1)) 64 then (bif inb (a7 + (-1 : Int32)) 64 then aft false (d + 1) 102 207 [some (.ref 1), some (.int a1), some (.int a2), some (.int a3), some (.int a4), some (.int a5), some (.int a6), some (.int (a7 + (-1 : Int32))), some (.int a8), some (.int (AI σ 9 a8.toNatClampNeg))] [.int ((a7 + (-1 : Int32)) - (nI 1)), .ref 11] (Run false d 103 0 [some (.int (AI σ 9 a8.toNatClampNeg)), some (.int (AI σ 11 ((a7 + (-1 : Int32)) - (nI 1)).toNatClampNeg)), some (.int (AI σ 11 (a7 + (-1 : Int32)).toNatClampNeg))] [] σ) else none) else none)))) else (bif obl ((nI 64) ≤ a7) then (bif obl ((AI σ 9 a8.toNatClampNeg) = (nI 10021)) then (bif obl (a7 ≤ (nI 0)) then (bif obl ((AI σ 9 a8.toNatClampNeg) < (nI 10010)) then Run false (d + 1) 102 49 [some (.ref 1), some (.int a1), some (.int a2), some (.int a3), some (.int a4), some (.int a5), some (.int a6), some (.int a7), some (.int (a8 + (nI 1))), some (.int (AI σ 9 a8.toNatClampNeg))] [] σ else (bif obl (a7 ≤ (nI 1)) then Run false (d + 1) 102 49 [some (.ref 1), some (.int a1), some (.int a2), some (.int a3), some (.int a4), some (.int a5), some (.int a6), some (.int a7), some (.int (a8 + (nI 1))), some (.int (AI σ 9 a8.toNatClampNeg))] [] σ else (bif inb ((a7 + (-1 : Int32)) - (nI 1)) 64 then (bif inb (a7 + (-1 : Int32)) 64 then aft false (d + 1) 102 207 [some (.ref 1), some (.int a1), some (.int a2), some (.int a3), some (.int a4), some (.int a5), some (.int a6), some (.int (a7 + (-1 : Int32))), some (.int a8), some (.int (AI σ 9 a8.toNatClampNeg))] [.int ((a7 + (-1 : Int32)) - (nI 1)), .ref 11] (Run false d 103 0 [some (.int (AI σ 9 a8.toNatClampNeg)), some (.int (AI σ 11 ((a7 + (-1 : Int32)) - (nI 1)).toNatClampNeg)), some (.int (AI σ 11 (a7 + (-1 : Int32)).toNatClampNeg))] [] σ) else none) else none))) else (bif inb (a7 - (nI 1)) 64 then (bif inb (a7 - (nI 1)) 64 then Run false (d + 1) 102 49 [some (.ref 1), some (.int a1), some (.int a2), some (.int a3), some (.int a4), some (.int a5), some (.int a6), some (.int a7), some (.int (a8 + (nI 1))), some (.int (AI σ 9 a8.toNatClampNeg))] [] (wAI σ 11 (a7 - (nI 1)).toNatClampNeg ((nI 1) - (AI σ 11 (a7 - (nI 1)).toNatClampNeg))) else none) else none)) else (bif obl ((AI σ 9 a8.toNatClampNeg) < (nI 10010)) then Run false (d + 1) 102 49 [some (.ref 1), some (.int a1), some (.int a2), some (.int a3), some (.int a4), some (.int a5), some (.int a6), some (.int a7), some (.int (a8 + (nI 1))), some (.int (AI σ 9 a8.toNatClampNeg))] [] σ else (bif obl (a7 ≤ (nI 1)) then Run false (d + 1) 102 49 [some (.ref 1), some (.int a1), some (.int a2), some (.int a3), some (.int a4), some (.int a5), some (.int a6), some (.int a7), some (.int (a8 + (nI 1))), some (.int (AI σ 9 a8.toNatClampNeg))] [] σ else (bif inb ((a7 + (-1 : Int32)) - (nI 1)) 64 then (bif inb (a7 + (-1 : Int32)) 64 then aft false (d + 1) 102 207 [some (.ref 1), some (.int a1), some (.int a2), some (.int a3), some (.int a4), some (.int a5), some (.int a6), some (.int (a7 + (-1 : Int32))), some (.int a8), some (.int (AI σ 9 a8.toNatClampNeg))] [.int ((a7 + (-1 : Int32)) - (nI 1)), .ref 11] (Run false d 103 0 [some (.int (AI σ 9 a8.toNatClampNeg)), some (.int (AI σ 11 ((a7 + (-1 : Int32)) - (nI 1)).toNatClampNeg)), some (.int (AI σ 11 (a7 + (-1 : Int32)).toNatClampNeg))] [] σ) else none) else none)))) else (bif obl ((nI 10000) ≤ (AI σ 9 a8.toNatClampNeg)) then (bif inb (if (nI 4) < ((AI σ 9 a8.toNatClampNeg) - (nI 10000)) then (nI 4) else ((AI σ 9 a8.toNatClampNeg) - (nI 10000))) 5 then (bif inb a7 64 then Run false (d + 1) 102 49 [some (.ref 1), some (.int a1), some (.int a2), some (.int a3), some (.int a4), some (.int a5), some (.int a6), some (.int (a7 + (nI 1))), some (.int (a8 + (nI 1))), some (.int (AI σ 9 a8.toNatClampNeg))] [] (wAI σ 11 a7.toNatClampNeg (AI σ 10 (if (nI 4) < ((AI σ 9 a8.toNatClampNeg) - (nI 10000)) then (nI 4) else ((AI σ 9 a8.toNatClampNeg) - (nI 10000))).toNatClampNeg)) else none) else none) else (bif inb a7 64 then Run false (d + 1) 102 49 [some (.ref 1), some (.int a1), some (.int a2), some (.int a3), some (.int a4), some (.int a5), some (.int a6), some (.int (a7 + (nI 1))), some (.int (a8 + (nI 1))), some (.int (AI σ 9 a8.toNatClampNeg))] [] (wAI σ 11 a7.toNatClampNeg (AI σ 9 a8.toNatClampNeg)) else none)))) else none)) else none) := by
  rw [Run_go [49, 207] 47]
  rfl
theorem s102_207 {d : Nat} {a1 : Int32} {a2 : Int32} {a3 : Int32} {a4 : Int32} {a5 : Int32} {a6 : Int32} {a7 : Int32} {a8 : Int32} {a9 : Int32} {r1 : Int32} {r2 : Int32} {σ : PS} : Run false (d + 1) 102 207 [some (.ref 1), some (.int a1), some (.int a2), some (.int a3), some (.int a4), some (.int a5), some (.int a6), some (.int a7), some (.int a8), some (.int a9)] [.int r2, .int r1, .ref 11] σ =
    (bif inb r1 64 then Run false (d + 1) 102 49 [some (.ref 1), some (.int a1), some (.int a2), some (.int a3), some (.int a4), some (.int a5), some (.int a6), some (.int a7), some (.int (a8 + (nI 1))), some (.int a9)] [] (wAI σ 11 r1.toNatClampNeg r2) else none) := by
  rw [Run_go [49, 207] 4]
  rfl
theorem s103_0 {d : Nat} {a0 : Int32} {a1 : Int32} {a2 : Int32} {σ : PS} : Run false (d + 1) 103 0 [some (.int a0), some (.int a1), some (.int a2)] [] σ =
    Run false (d + 1) 103 (tswF 1 138 10010 10019 #[55, 59, 63, 67, 79, 90, 101, 112, 123, 134] a0) [some (.int a0), some (.int a1), some (.int a2)] [] σ := by
  rw [Run_go [56, 60, 64, 68, 80, 91, 102, 113, 124, 135, 139] 3]
  rfl
theorem s103_56 {d : Nat} {a0 : Int32} {a1 : Int32} {a2 : Int32} {σ : PS} : Run false (d + 1) 103 56 [some (.int a0), some (.int a1), some (.int a2)] [] σ =
    some (.inl (some (.int (a1 + a2)), σ)) := by
  rw [Run_go [56, 60, 64, 68, 80, 91, 102, 113, 124, 135, 139] 5]
  rfl
theorem s103_60 {d : Nat} {a0 : Int32} {a1 : Int32} {a2 : Int32} {σ : PS} : Run false (d + 1) 103 60 [some (.int a0), some (.int a1), some (.int a2)] [] σ =
    some (.inl (some (.int (a1 - a2)), σ)) := by
  rw [Run_go [56, 60, 64, 68, 80, 91, 102, 113, 124, 135, 139] 5]
  rfl
theorem s103_64 {d : Nat} {a0 : Int32} {a1 : Int32} {a2 : Int32} {σ : PS} : Run false (d + 1) 103 64 [some (.int a0), some (.int a1), some (.int a2)] [] σ =
    some (.inl (some (.int (a1 * a2)), σ)) := by
  rw [Run_go [56, 60, 64, 68, 80, 91, 102, 113, 124, 135, 139] 5]
  rfl
theorem s103_68 {d : Nat} {a0 : Int32} {a1 : Int32} {a2 : Int32} {σ : PS} : Run false (d + 1) 103 68 [some (.int a0), some (.int a1), some (.int a2)] [] σ =
    (bif obl (a2 = (nI 0)) then some (.inl (some (.int (nI 0)), σ)) else (bif obl (a2 = nI 0) then none else some (.inl (some (.int (a1 / a2)), σ)))) := by
  rw [Run_go [56, 60, 64, 68, 80, 91, 102, 113, 124, 135, 139] 7]
  rfl
theorem s103_80 {d : Nat} {a0 : Int32} {a1 : Int32} {a2 : Int32} {σ : PS} : Run false (d + 1) 103 80 [some (.int a0), some (.int a1), some (.int a2)] [] σ =
    (bif obl (a2 ≤ a1) then some (.inl (some (.int a2), σ)) else some (.inl (some (.int a1), σ))) := by
  rw [Run_go [56, 60, 64, 68, 80, 91, 102, 113, 124, 135, 139] 7]
  rfl
theorem s103_91 {d : Nat} {a0 : Int32} {a1 : Int32} {a2 : Int32} {σ : PS} : Run false (d + 1) 103 91 [some (.int a0), some (.int a1), some (.int a2)] [] σ =
    (bif obl (a1 ≤ a2) then some (.inl (some (.int a2), σ)) else some (.inl (some (.int a1), σ))) := by
  rw [Run_go [56, 60, 64, 68, 80, 91, 102, 113, 124, 135, 139] 7]
  rfl
theorem s103_102 {d : Nat} {a0 : Int32} {a1 : Int32} {a2 : Int32} {σ : PS} : Run false (d + 1) 103 102 [some (.int a0), some (.int a1), some (.int a2)] [] σ =
    (bif obl (a2 ≤ a1) then some (.inl (some (.int (nI 0)), σ)) else some (.inl (some (.int (nI 1)), σ))) := by
  rw [Run_go [56, 60, 64, 68, 80, 91, 102, 113, 124, 135, 139] 7]
  rfl
theorem s103_113 {d : Nat} {a0 : Int32} {a1 : Int32} {a2 : Int32} {σ : PS} : Run false (d + 1) 103 113 [some (.int a0), some (.int a1), some (.int a2)] [] σ =
    (bif obl (a1 ≤ a2) then some (.inl (some (.int (nI 0)), σ)) else some (.inl (some (.int (nI 1)), σ))) := by
  rw [Run_go [56, 60, 64, 68, 80, 91, 102, 113, 124, 135, 139] 7]
  rfl
theorem s103_124 {d : Nat} {a0 : Int32} {a1 : Int32} {a2 : Int32} {σ : PS} : Run false (d + 1) 103 124 [some (.int a0), some (.int a1), some (.int a2)] [] σ =
    (bif obl (a1 = a2) then some (.inl (some (.int (nI 1)), σ)) else some (.inl (some (.int (nI 0)), σ))) := by
  rw [Run_go [56, 60, 64, 68, 80, 91, 102, 113, 124, 135, 139] 7]
  rfl
theorem s103_135 {d : Nat} {a0 : Int32} {a1 : Int32} {a2 : Int32} {σ : PS} : Run false (d + 1) 103 135 [some (.int a0), some (.int a1), some (.int a2)] [] σ =
    some (.inl (some (.int (a1 &&& a2)), σ)) := by
  rw [Run_go [56, 60, 64, 68, 80, 91, 102, 113, 124, 135, 139] 5]
  rfl
theorem s103_139 {d : Nat} {a0 : Int32} {a1 : Int32} {a2 : Int32} {σ : PS} : Run false (d + 1) 103 139 [some (.int a0), some (.int a1), some (.int a2)] [] σ =
    some (.inl (some (.int (a1 ||| a2)), σ)) := by
  rw [Run_go [56, 60, 64, 68, 80, 91, 102, 113, 124, 135, 139] 5]
  rfl
set_option maxRecDepth 100000 in
theorem s105_0 {d : Nat} {a1 : Int32} {a2 : Int32} {a3 : Int32} {σ : PS} : Run false (d + 1) 105 0 [some (.ref 60), some (.int a1), some (.int a2), some (.int a3)] [] σ =
    (bif obl ((FI σ 60 0) < (nI 60)) then (bif inb (FI σ 60 0) 60 then (bif inb (FI σ 60 0) 60 then (bif obl ((nI 5) < a3) then (bif obl ((nI 15) < a3) then (bif obl ((nI 40) < a3) then (bif inb (FI σ 60 0) 60 then some (.inl (some (.int (((FI σ 60 0) + (nI 1)) - (nI 1))), (wFI (wAI (wAI (wAI σ 63 (FI σ 60 0).toNatClampNeg a1) 61 (FI σ 60 0).toNatClampNeg a2) 62 (FI σ 60 0).toNatClampNeg (nI 3)) 60 0 ((FI σ 60 0) + (nI 1))))) else none) else (bif inb (FI σ 60 0) 60 then some (.inl (some (.int (((FI σ 60 0) + (nI 1)) - (nI 1))), (wFI (wAI (wAI (wAI σ 63 (FI σ 60 0).toNatClampNeg a1) 61 (FI σ 60 0).toNatClampNeg a2) 62 (FI σ 60 0).toNatClampNeg (nI 2)) 60 0 ((FI σ 60 0) + (nI 1))))) else none)) else (bif inb (FI σ 60 0) 60 then some (.inl (some (.int (((FI σ 60 0) + (nI 1)) - (nI 1))), (wFI (wAI (wAI (wAI σ 63 (FI σ 60 0).toNatClampNeg a1) 61 (FI σ 60 0).toNatClampNeg a2) 62 (FI σ 60 0).toNatClampNeg (nI 1)) 60 0 ((FI σ 60 0) + (nI 1))))) else none)) else (bif inb (FI σ 60 0) 60 then some (.inl (some (.int (((FI σ 60 0) + (nI 1)) - (nI 1))), (wFI (wAI (wAI (wAI σ 63 (FI σ 60 0).toNatClampNeg a1) 61 (FI σ 60 0).toNatClampNeg a2) 62 (FI σ 60 0).toNatClampNeg (nI 0)) 60 0 ((FI σ 60 0) + (nI 1))))) else none)) else none) else none) else some (.inl (some (.int (-1 : Int32)), σ))) := by
  rw [Run_go [] 44]
  rfl
set_option maxRecDepth 100000 in
theorem s106_0 {d : Nat} {a1 : Int32} {a2 : Int32} {a3 : Int32} {σ : PS} : Run false (d + 1) 106 0 [some (.ref 60), some (.int a1), some (.int a2), some (.int a3)] [] σ =
    (bif inb ((a1 * (nI 5)) + a2) 300 then some (.inl (none, (wAI σ 64 ((a1 * (nI 5)) + a2).toNatClampNeg a3))) else none) := by
  rw [Run_go [] 11]
  rfl
set_option maxRecDepth 100000 in
theorem s107_0 {d : Nat} {a1 : Int32} {a2 : Int32} {σ : PS} : Run false (d + 1) 107 0 [some (.ref 60), some (.int a1), some (.int a2)] [] σ =
    (bif inb ((a1 * (nI 5)) + a2) 300 then some (.inl (some (.int (AI σ 64 ((a1 * (nI 5)) + a2).toNatClampNeg)), σ)) else none) := by
  rw [Run_go [] 10]
  rfl
theorem s108_0 {d : Nat} {a1 : Int32} {a2 : Int32} {σ : PS} : Run false (d + 1) 108 0 [some (.ref 60), some (.int a1), some (.int a2), none, none] [] σ =
    Run false (d + 1) 108 5 [some (.ref 60), some (.int a1), some (.int a2), some (.int (nI 0)), some (.int (nI 0))] [] σ := by
  rw [Run_go [5, 33] 5]
  rfl
set_option maxRecDepth 100000 in
theorem s108_5 {d : Nat} {a1 : Int32} {a2 : Int32} {a3 : Int32} {a4 : Int32} {σ : PS} : Run false (d + 1) 108 5 [some (.ref 60), some (.int a1), some (.int a2), some (.int a3), some (.int a4)] [] σ =
    (bif obl ((FI σ 60 0) ≤ a4) then some (.inl (some (.int a3), σ)) else (bif inb a4 60 then (bif obl ((AI σ 61 a4.toNatClampNeg) = a2) then aft false (d + 1) 108 33 [some (.ref 60), some (.int a1), some (.int a2), some (.int a3), some (.int a4)] [.int a3] (Run false d 107 0 [some (.ref 60), some (.int a4), some (.int a1)] [] σ) else Run false (d + 1) 108 5 [some (.ref 60), some (.int a1), some (.int a2), some (.int a3), some (.int (a4 + (nI 1)))] [] σ) else none)) := by
  rw [Run_go [5, 33] 16]
  rfl
theorem s108_33 {d : Nat} {a1 : Int32} {a2 : Int32} {a3 : Int32} {a4 : Int32} {r0 : Int32} {r1 : Int32} {σ : PS} : Run false (d + 1) 108 33 [some (.ref 60), some (.int a1), some (.int a2), some (.int a3), some (.int a4)] [.int r1, .int r0] σ =
    Run false (d + 1) 108 5 [some (.ref 60), some (.int a1), some (.int a2), some (.int (r0 + r1)), some (.int (a4 + (nI 1)))] [] σ := by
  rw [Run_go [5, 33] 5]
  rfl
theorem s109_0 {d : Nat} {a1 : Int32} {a2 : Int32} {a3 : Int32} {a4 : Int32} {σ : PS} : Run false (d + 1) 109 0 [some (.ref 60), some (.int a1), some (.int a2), some (.int a3), some (.int a4), none, none, none] [] σ =
    Run false (d + 1) 109 6 [some (.ref 60), some (.int a1), some (.int a2), some (.int a3), some (.int a4), some (.long (lN 0)), none, some (.int (nI 0))] [] σ := by
  rw [Run_go [6, 46] 5]
  rfl
set_option maxRecDepth 100000 in
theorem s109_6 {d : Nat} {a1 : Int32} {a2 : Int32} {a3 : Int32} {a4 : Int32} {b5 : Int64} {a7 : Int32} {σ : PS} : Run false (d + 1) 109 6 [some (.ref 60), some (.int a1), some (.int a2), some (.int a3), some (.int a4), some (.long b5), none, some (.int a7)] [] σ =
    (bif obl ((FI σ 60 0) ≤ a7) then some (.inl (some (.long b5), σ)) else (bif inb a7 60 then (bif obl ((AI σ 63 a7.toNatClampNeg) = a1) then (bif inb a7 60 then (bif obl ((AI σ 61 a7.toNatClampNeg) = a2) then aft false (d + 1) 109 46 [some (.ref 60), some (.int a1), some (.int a2), some (.int a3), some (.int a4), some (.long b5), none, some (.int a7)] [.long b5] (Run false d 107 0 [some (.ref 60), some (.int a7), some (.int a3)] [] σ) else Run false (d + 1) 109 6 [some (.ref 60), some (.int a1), some (.int a2), some (.int a3), some (.int a4), some (.long b5), none, some (.int (a7 + (nI 1)))] [] σ) else none) else Run false (d + 1) 109 6 [some (.ref 60), some (.int a1), some (.int a2), some (.int a3), some (.int a4), some (.long b5), none, some (.int (a7 + (nI 1)))] [] σ) else none)) := by
  rw [Run_go [6, 46] 22]
  rfl
set_option maxRecDepth 100000 in
theorem s109_46 {d : Nat} {a1 : Int32} {a2 : Int32} {a3 : Int32} {a4 : Int32} {b5 : Int64} {a7 : Int32} {q0 : Int64} {r1 : Int32} {σ : PS} : Run false (d + 1) 109 46 [some (.ref 60), some (.int a1), some (.int a2), some (.int a3), some (.int a4), some (.long b5), none, some (.int a7)] [.int r1, .long q0] σ =
    (bif obl ((lN 1000) = lN 0) then none else (bif inb a7 60 then (bif obl ((((nI 1) + (if (nI 0) < (AI σ 62 a7.toNatClampNeg) then (AI σ 62 a7.toNatClampNeg) else (nI 0))).toInt64) = lN 0) then none else Run false (d + 1) 109 6 [some (.ref 60), some (.int a1), some (.int a2), some (.int a3), some (.int a4), some (.long (q0 + ((((r1.toInt64) * (a4.toInt64)) / (lN 1000)) / (((nI 1) + (if (nI 0) < (AI σ 62 a7.toNatClampNeg) then (AI σ 62 a7.toNatClampNeg) else (nI 0))).toInt64)))), none, some (.int (a7 + (nI 1)))] [] σ) else none)) := by
  rw [Run_go [6, 46] 21]
  rfl
set_option maxRecDepth 100000 in
theorem s110_0 {d : Nat} {a1 : Int32} {a2 : Int32} {a3 : Int32} {a4 : Int32} {a5 : Int32} {σ : PS} : Run false (d + 1) 110 0 [some (.ref 60), some (.int a1), some (.int a2), some (.int a3), some (.int a4), some (.int a5)] [] σ =
    (bif obl ((FI σ 60 1) < (nI 100)) then aft false (d + 1) 110 25 [some (.ref 60), some (.int a1), some (.int a2), some (.int a3), some (.int a4), some (.int a5)] [.int (FI σ 60 1), .ref 65] (Run false d 111 0 [some (.ref 60), some (.int a1), some (.int a2), none, none] [] σ) else some (.inl (some (.int (-1 : Int32)), σ))) := by
  rw [Run_go [25, 33] 13]
  rfl
theorem s110_25 {d : Nat} {a1 : Int32} {a2 : Int32} {a3 : Int32} {a4 : Int32} {a5 : Int32} {r1 : Int32} {r2 : Int32} {σ : PS} : Run false (d + 1) 110 25 [some (.ref 60), some (.int a1), some (.int a2), some (.int a3), some (.int a4), some (.int a5)] [.int r2, .int r1, .ref 65] σ =
    aft false (d + 1) 110 33 [some (.ref 60), some (.int a1), some (.int a2), some (.int a3), some (.int a4), some (.int a5)] [.int (r2 + a3), .int r1, .ref 65] (Run false d 107 0 [some (.ref 60), some (.int a1), some (.int a2)] [] σ) := by
  rw [Run_go [25, 33] 7]
  rfl
set_option maxRecDepth 100000 in
theorem s110_33 {d : Nat} {a1 : Int32} {a2 : Int32} {a3 : Int32} {a4 : Int32} {a5 : Int32} {r1 : Int32} {r2 : Int32} {r3 : Int32} {σ : PS} : Run false (d + 1) 110 33 [some (.ref 60), some (.int a1), some (.int a2), some (.int a3), some (.int a4), some (.int a5)] [.int r3, .int r2, .int r1, .ref 65] σ =
    (bif obl (r2 ≤ r3) then (bif inb r1 100 then (bif is01 (nI 0) then (bif inb (FI σ 60 1) 100 then (bif obl ((AI (wAI σ 65 r1.toNatClampNeg (nI 0)) 65 (FI σ 60 1).toNatClampNeg) = (nI 0)) then (bif inb (FI σ 60 1) 100 then (bif inb (FI σ 60 1) 100 then (bif inb (FI σ 60 1) 100 then (bif inb (FI σ 60 1) 100 then (bif inb (FI σ 60 1) 100 then some (.inl (some (.int (((FI σ 60 1) + (nI 1)) - (nI 1))), (wFI (wAI (wAI (wAI (wAI (wAI (wAI σ 65 r1.toNatClampNeg (nI 0)) 66 (FI σ 60 1).toNatClampNeg a1) 67 (FI σ 60 1).toNatClampNeg a2) 68 (FI σ 60 1).toNatClampNeg a3) 69 (FI σ 60 1).toNatClampNeg a4) 70 (FI σ 60 1).toNatClampNeg a5) 60 1 ((FI σ 60 1) + (nI 1))))) else none) else none) else none) else none) else none) else (bif inb (FI σ 60 1) 100 then (bif inb (FI σ 60 1) 100 then (bif inb (FI σ 60 1) 100 then (bif inb (FI σ 60 1) 100 then (bif inb (FI σ 60 1) 100 then some (.inl (some (.int (((FI σ 60 1) + (nI 1)) - (nI 1))), (wFI (wAI (wAI (wAI (wAI (wAI (wFI (wAI σ 65 r1.toNatClampNeg (nI 0)) 60 2 ((FI σ 60 2) + (nI 1))) 66 (FI σ 60 1).toNatClampNeg a1) 67 (FI σ 60 1).toNatClampNeg a2) 68 (FI σ 60 1).toNatClampNeg a3) 69 (FI σ 60 1).toNatClampNeg a4) 70 (FI σ 60 1).toNatClampNeg a5) 60 1 ((FI σ 60 1) + (nI 1))))) else none) else none) else none) else none) else none)) else none) else none) else none) else (bif inb r1 100 then (bif is01 (nI 1) then (bif inb (FI σ 60 1) 100 then (bif obl ((AI (wAI σ 65 r1.toNatClampNeg (nI 1)) 65 (FI σ 60 1).toNatClampNeg) = (nI 0)) then (bif inb (FI σ 60 1) 100 then (bif inb (FI σ 60 1) 100 then (bif inb (FI σ 60 1) 100 then (bif inb (FI σ 60 1) 100 then (bif inb (FI σ 60 1) 100 then some (.inl (some (.int (((FI σ 60 1) + (nI 1)) - (nI 1))), (wFI (wAI (wAI (wAI (wAI (wAI (wAI σ 65 r1.toNatClampNeg (nI 1)) 66 (FI σ 60 1).toNatClampNeg a1) 67 (FI σ 60 1).toNatClampNeg a2) 68 (FI σ 60 1).toNatClampNeg a3) 69 (FI σ 60 1).toNatClampNeg a4) 70 (FI σ 60 1).toNatClampNeg a5) 60 1 ((FI σ 60 1) + (nI 1))))) else none) else none) else none) else none) else none) else (bif inb (FI σ 60 1) 100 then (bif inb (FI σ 60 1) 100 then (bif inb (FI σ 60 1) 100 then (bif inb (FI σ 60 1) 100 then (bif inb (FI σ 60 1) 100 then some (.inl (some (.int (((FI σ 60 1) + (nI 1)) - (nI 1))), (wFI (wAI (wAI (wAI (wAI (wAI (wFI (wAI σ 65 r1.toNatClampNeg (nI 1)) 60 2 ((FI σ 60 2) + (nI 1))) 66 (FI σ 60 1).toNatClampNeg a1) 67 (FI σ 60 1).toNatClampNeg a2) 68 (FI σ 60 1).toNatClampNeg a3) 69 (FI σ 60 1).toNatClampNeg a4) 70 (FI σ 60 1).toNatClampNeg a5) 60 1 ((FI σ 60 1) + (nI 1))))) else none) else none) else none) else none) else none)) else none) else none) else none)) := by
  rw [Run_go [25, 33] 58]
  rfl
theorem s111_0 {d : Nat} {a1 : Int32} {a2 : Int32} {σ : PS} : Run false (d + 1) 111 0 [some (.ref 60), some (.int a1), some (.int a2), none, none] [] σ =
    Run false (d + 1) 111 5 [some (.ref 60), some (.int a1), some (.int a2), some (.int (nI 0)), some (.int (nI 0))] [] σ := by
  rw [Run_go [5] 5]
  rfl
set_option maxRecDepth 100000 in
theorem s111_5 {d : Nat} {a1 : Int32} {a2 : Int32} {a3 : Int32} {a4 : Int32} {σ : PS} : Run false (d + 1) 111 5 [some (.ref 60), some (.int a1), some (.int a2), some (.int a3), some (.int a4)] [] σ =
    (bif obl ((FI σ 60 1) ≤ a4) then some (.inl (some (.int a3), σ)) else (bif inb a4 100 then (bif obl ((AI σ 66 a4.toNatClampNeg) = a1) then (bif inb a4 100 then (bif obl ((AI σ 67 a4.toNatClampNeg) = a2) then (bif inb a4 100 then (bif obl ((AI σ 65 a4.toNatClampNeg) = (nI 0)) then (bif inb a4 100 then Run false (d + 1) 111 5 [some (.ref 60), some (.int a1), some (.int a2), some (.int (a3 + (AI σ 68 a4.toNatClampNeg))), some (.int (a4 + (nI 1)))] [] σ else none) else Run false (d + 1) 111 5 [some (.ref 60), some (.int a1), some (.int a2), some (.int a3), some (.int (a4 + (nI 1)))] [] σ) else none) else Run false (d + 1) 111 5 [some (.ref 60), some (.int a1), some (.int a2), some (.int a3), some (.int (a4 + (nI 1)))] [] σ) else none) else Run false (d + 1) 111 5 [some (.ref 60), some (.int a1), some (.int a2), some (.int a3), some (.int (a4 + (nI 1)))] [] σ) else none)) := by
  rw [Run_go [5] 31]
  rfl
theorem s112_0 {d : Nat} {a1 : Int32} {a2 : Int32} {a3 : Int32} {a4 : Int32} {σ : PS} : Run false (d + 1) 112 0 [some (.ref 60), some (.int a1), some (.int a2), some (.int a3), some (.int a4), none, none] [] σ =
    Run false (d + 1) 112 6 [some (.ref 60), some (.int a1), some (.int a2), some (.int a3), some (.int a4), some (.int (nI 0)), some (.int (nI 0))] [] σ := by
  rw [Run_go [6] 5]
  rfl
set_option maxRecDepth 100000 in
theorem s112_6 {d : Nat} {a1 : Int32} {a2 : Int32} {a3 : Int32} {a4 : Int32} {a5 : Int32} {a6 : Int32} {σ : PS} : Run false (d + 1) 112 6 [some (.ref 60), some (.int a1), some (.int a2), some (.int a3), some (.int a4), some (.int a5), some (.int a6)] [] σ =
    (bif obl ((FI σ 60 1) ≤ a6) then some (.inl (some (.int a5), σ)) else (bif inb a6 100 then (bif obl ((AI σ 69 a6.toNatClampNeg) = a1) then (bif inb a6 100 then (bif obl ((AI σ 67 a6.toNatClampNeg) = a2) then (bif inb a6 100 then (bif obl ((AI σ 65 a6.toNatClampNeg) = (nI 0)) then (bif inb a6 100 then (bif inb (AI σ 66 a6.toNatClampNeg) 60 then (bif obl ((AI σ 61 (AI σ 66 a6.toNatClampNeg).toNatClampNeg) = a3) then (bif inb a6 100 then (bif obl (a4 < (AI σ 70 a6.toNatClampNeg)) then Run false (d + 1) 112 6 [some (.ref 60), some (.int a1), some (.int a2), some (.int a3), some (.int a4), some (.int a5), some (.int (a6 + (nI 1)))] [] σ else (bif inb a6 100 then Run false (d + 1) 112 6 [some (.ref 60), some (.int a1), some (.int a2), some (.int a3), some (.int a4), some (.int (a5 + (AI σ 68 a6.toNatClampNeg))), some (.int (a6 + (nI 1)))] [] σ else none)) else none) else Run false (d + 1) 112 6 [some (.ref 60), some (.int a1), some (.int a2), some (.int a3), some (.int a4), some (.int a5), some (.int (a6 + (nI 1)))] [] σ) else none) else none) else Run false (d + 1) 112 6 [some (.ref 60), some (.int a1), some (.int a2), some (.int a3), some (.int a4), some (.int a5), some (.int (a6 + (nI 1)))] [] σ) else none) else Run false (d + 1) 112 6 [some (.ref 60), some (.int a1), some (.int a2), some (.int a3), some (.int a4), some (.int a5), some (.int (a6 + (nI 1)))] [] σ) else none) else Run false (d + 1) 112 6 [some (.ref 60), some (.int a1), some (.int a2), some (.int a3), some (.int a4), some (.int a5), some (.int (a6 + (nI 1)))] [] σ) else none)) := by
  rw [Run_go [6] 46]
  rfl
set_option maxRecDepth 100000 in
theorem s114_0 {d : Nat} {a1 : Int32} {a2 : Int32} {a3 : Int32} {σ : PS} : Run false (d + 1) 114 0 [some (.ref 71), some (.int a1), some (.int a2), some (.int a3)] [] σ =
    (bif obl ((FI σ 71 0) < (nI 12)) then (bif inb (FI σ 71 0) 12 then (bif inb (FI σ 71 0) 12 then (bif inb (FI σ 71 0) 12 then (bif inb (FI σ 71 0) 12 then some (.inl (some (.int (((FI σ 71 0) + (nI 1)) - (nI 1))), (wFI (wAI (wAI (wAI (wAI σ 72 (FI σ 71 0).toNatClampNeg a1) 73 (FI σ 71 0).toNatClampNeg a2) 74 (FI σ 71 0).toNatClampNeg a3) 75 (FI σ 71 0).toNatClampNeg (-1 : Int32)) 71 0 ((FI σ 71 0) + (nI 1))))) else none) else none) else none) else none) else some (.inl (some (.int (-1 : Int32)), σ))) := by
  rw [Run_go [] 40]
  rfl
theorem s115_0 {d : Nat}  {σ : PS} : Run false (d + 1) 115 0 [some (.ref 71), none, none] [] σ =
    Run false (d + 1) 115 4 [some (.ref 71), some (.int (nI 0)), some (.int (nI 0))] [] σ := by
  rw [Run_go [4] 5]
  rfl
set_option maxRecDepth 100000 in
theorem s115_4 {d : Nat} {a1 : Int32} {a2 : Int32} {σ : PS} : Run false (d + 1) 115 4 [some (.ref 71), some (.int a1), some (.int a2)] [] σ =
    (bif obl ((FI σ 71 0) ≤ a2) then some (.inl (some (.int a1), σ)) else (bif inb a2 12 then (bif obl ((AI σ 75 a2.toNatClampNeg) = (-1 : Int32)) then Run false (d + 1) 115 4 [some (.ref 71), some (.int (a1 + (nI 1))), some (.int (a2 + (nI 1)))] [] σ else Run false (d + 1) 115 4 [some (.ref 71), some (.int a1), some (.int (a2 + (nI 1)))] [] σ) else none)) := by
  rw [Run_go [4] 14]
  rfl
theorem s116_0 {d : Nat} {a1 : Int32} {σ : PS} : Run false (d + 1) 116 0 [some (.ref 71), some (.int a1), none, none] [] σ =
    Run false (d + 1) 116 4 [some (.ref 71), some (.int a1), some (.int (nI 0)), some (.int (nI 0))] [] σ := by
  rw [Run_go [4] 5]
  rfl
set_option maxRecDepth 100000 in
theorem s116_4 {d : Nat} {a1 : Int32} {a2 : Int32} {a3 : Int32} {σ : PS} : Run false (d + 1) 116 4 [some (.ref 71), some (.int a1), some (.int a2), some (.int a3)] [] σ =
    (bif obl ((FI σ 71 0) ≤ a3) then some (.inl (some (.int a2), σ)) else (bif obl (((a1 >>> (a3 &&& (31 : Int32))) &&& (nI 1)) = (nI 1)) then (bif inb a3 12 then Run false (d + 1) 116 4 [some (.ref 71), some (.int a1), some (.int (a2 + (AI σ 74 a3.toNatClampNeg))), some (.int (a3 + (nI 1)))] [] σ else none) else Run false (d + 1) 116 4 [some (.ref 71), some (.int a1), some (.int a2), some (.int (a3 + (nI 1)))] [] σ)) := by
  rw [Run_go [4] 21]
  rfl
theorem s117_0 {d : Nat} {a1 : Int32} {a2 : Int32} {a3 : Int32} {a4 : Int32} {σ : PS} : Run false (d + 1) 117 0 [some (.ref 71), some (.int a1), some (.int a2), some (.int a3), some (.int a4), none] [] σ =
    Run false (d + 1) 117 3 [some (.ref 71), some (.int a1), some (.int a2), some (.int a3), some (.int a4), some (.int (nI 0))] [] σ := by
  rw [Run_go [3] 3]
  rfl
set_option maxRecDepth 100000 in
theorem s117_3 {d : Nat} {a1 : Int32} {a2 : Int32} {a3 : Int32} {a4 : Int32} {a5 : Int32} {σ : PS} : Run false (d + 1) 117 3 [some (.ref 71), some (.int a1), some (.int a2), some (.int a3), some (.int a4), some (.int a5)] [] σ =
    (bif obl ((FI σ 71 0) ≤ a5) then some (.inl (none, σ)) else (bif obl (((a1 >>> (a5 &&& (31 : Int32))) &&& (nI 1)) = (nI 1)) then (bif inb a5 12 then (bif inb a5 12 then (bif inb a5 12 then Run false (d + 1) 117 3 [some (.ref 71), some (.int a1), some (.int a2), some (.int a3), some (.int a4), some (.int (a5 + (nI 1)))] [] (wAI (wAI (wAI σ 75 a5.toNatClampNeg a2) 76 a5.toNatClampNeg a3) 77 a5.toNatClampNeg a4) else none) else none) else none) else Run false (d + 1) 117 3 [some (.ref 71), some (.int a1), some (.int a2), some (.int a3), some (.int a4), some (.int (a5 + (nI 1)))] [] σ)) := by
  rw [Run_go [3] 29]
  rfl
theorem s118_0 {d : Nat} {a1 : Int32} {a2 : Int32} {a3 : Int32} {a4 : Int32} {σ : PS} : Run false (d + 1) 118 0 [some (.ref 71), some (.int a1), some (.int a2), some (.int a3), some (.int a4), none, none] [] σ =
    Run false (d + 1) 118 6 [some (.ref 71), some (.int a1), some (.int a2), some (.int a3), some (.int a4), some (.int (nI 0)), some (.int (nI 0))] [] σ := by
  rw [Run_go [6] 5]
  rfl
set_option maxRecDepth 100000 in
theorem s118_6 {d : Nat} {a1 : Int32} {a2 : Int32} {a3 : Int32} {a4 : Int32} {a5 : Int32} {a6 : Int32} {σ : PS} : Run false (d + 1) 118 6 [some (.ref 71), some (.int a1), some (.int a2), some (.int a3), some (.int a4), some (.int a5), some (.int a6)] [] σ =
    (bif obl ((FI σ 71 0) ≤ a6) then some (.inl (some (.int a5), σ)) else (bif inb a6 12 then (bif obl ((AI σ 75 a6.toNatClampNeg) = a1) then (bif inb a6 12 then (bif obl ((AI σ 72 a6.toNatClampNeg) = a2) then (bif inb a6 12 then (bif obl ((AI σ 76 a6.toNatClampNeg) = a3) then (bif inb a6 12 then (bif obl (a4 < (AI σ 77 a6.toNatClampNeg)) then Run false (d + 1) 118 6 [some (.ref 71), some (.int a1), some (.int a2), some (.int a3), some (.int a4), some (.int a5), some (.int (a6 + (nI 1)))] [] σ else (bif inb a6 12 then Run false (d + 1) 118 6 [some (.ref 71), some (.int a1), some (.int a2), some (.int a3), some (.int a4), some (.int (a5 + (AI σ 73 a6.toNatClampNeg))), some (.int (a6 + (nI 1)))] [] σ else none)) else none) else Run false (d + 1) 118 6 [some (.ref 71), some (.int a1), some (.int a2), some (.int a3), some (.int a4), some (.int a5), some (.int (a6 + (nI 1)))] [] σ) else none) else Run false (d + 1) 118 6 [some (.ref 71), some (.int a1), some (.int a2), some (.int a3), some (.int a4), some (.int a5), some (.int (a6 + (nI 1)))] [] σ) else none) else Run false (d + 1) 118 6 [some (.ref 71), some (.int a1), some (.int a2), some (.int a3), some (.int a4), some (.int a5), some (.int (a6 + (nI 1)))] [] σ) else none)) := by
  rw [Run_go [6] 38]
  rfl
set_option maxRecDepth 100000 in
theorem s119_0 {d : Nat} {a1 : Int32} {b2 : Int64} {σ : PS} : Run false (d + 1) 119 0 [some (.ref 71), some (.int a1), some (.long b2), none] [] σ =
    aft false (d + 1) 119 25 [some (.ref 71), some (.int a1), some (.long b2), none] [] (Run false d 120 0 [some (.ref 71), some (.int (nI 0)), some (.int (nI 0)), some (.int (nI 0)), some (.int (nI 0)), some (.long b2), none, some (.int a1)] [] (wFI (wFI (wFI σ 71 1 (-1 : Int32)) 71 2 (nI 0)) 71 3 (nI 0))) := by
  rw [Run_go [25] 18]
  rfl
theorem s119_25 {d : Nat} {a1 : Int32} {b2 : Int64} {σ : PS} : Run false (d + 1) 119 25 [some (.ref 71), some (.int a1), some (.long b2), none] [] σ =
    some (.inl (some (.int (FI σ 71 1)), σ)) := by
  rw [Run_go [25] 4]
  rfl
set_option maxRecDepth 100000 in
theorem s120_0 {d : Nat} {a1 : Int32} {a2 : Int32} {a3 : Int32} {a4 : Int32} {b5 : Int64} {a7 : Int32} {σ : PS} : Run false (d + 1) 120 0 [some (.ref 71), some (.int a1), some (.int a2), some (.int a3), some (.int a4), some (.long b5), none, some (.int a7)] [] σ =
    (bif obl ((FI σ 71 1) < (nI 0)) then (bif obl ((lg_cmp (a4.toInt64) b5) < (nI 0)) then (bif obl (a1 < (FI σ 71 0)) then (bif inb a1 12 then (bif obl ((AI σ 75 a1.toNatClampNeg) = (-1 : Int32)) then (bif inb a1 12 then (bif obl ((AI σ 72 a1.toNatClampNeg) = a7) then (bif inb a1 12 then (bif inb a1 12 then aft false (d + 1) 120 129 [some (.ref 71), some (.int a1), some (.int a2), some (.int a3), some (.int a4), some (.long b5), none, some (.int a7)] [] (Run false d 120 0 [some (.ref 71), some (.int (a1 + (nI 1))), some (.int (a2 ||| ((nI 1) <<< (a1 &&& (31 : Int32))))), some (.int (a3 + (AI σ 74 a1.toNatClampNeg))), some (.int (a4 + (AI σ 73 a1.toNatClampNeg))), some (.long b5), none, some (.int a7)] [] σ) else none) else none) else Run false (d + 1) 120 129 [some (.ref 71), some (.int a1), some (.int a2), some (.int a3), some (.int a4), some (.long b5), none, some (.int a7)] [] σ) else none) else Run false (d + 1) 120 129 [some (.ref 71), some (.int a1), some (.int a2), some (.int a3), some (.int a4), some (.long b5), none, some (.int a7)] [] σ) else none) else some (.inl (none, σ))) else (bif obl ((FI σ 71 1) < (nI 0)) then some (.inl (none, (wFI (wFI (wFI σ 71 1 a2) 71 2 a3) 71 3 a4))) else (bif obl (a3 < (FI σ 71 2)) then some (.inl (none, (wFI (wFI (wFI σ 71 1 a2) 71 2 a3) 71 3 a4))) else (bif obl ((FI σ 71 3) ≤ a4) then some (.inl (none, σ)) else some (.inl (none, (wFI (wFI (wFI σ 71 1 a2) 71 2 a3) 71 3 a4))))))) else (bif obl (a3 ≤ (FI σ 71 2)) then (bif obl ((lg_cmp (a4.toInt64) b5) < (nI 0)) then (bif obl (a1 < (FI σ 71 0)) then (bif inb a1 12 then (bif obl ((AI σ 75 a1.toNatClampNeg) = (-1 : Int32)) then (bif inb a1 12 then (bif obl ((AI σ 72 a1.toNatClampNeg) = a7) then (bif inb a1 12 then (bif inb a1 12 then aft false (d + 1) 120 129 [some (.ref 71), some (.int a1), some (.int a2), some (.int a3), some (.int a4), some (.long b5), none, some (.int a7)] [] (Run false d 120 0 [some (.ref 71), some (.int (a1 + (nI 1))), some (.int (a2 ||| ((nI 1) <<< (a1 &&& (31 : Int32))))), some (.int (a3 + (AI σ 74 a1.toNatClampNeg))), some (.int (a4 + (AI σ 73 a1.toNatClampNeg))), some (.long b5), none, some (.int a7)] [] σ) else none) else none) else Run false (d + 1) 120 129 [some (.ref 71), some (.int a1), some (.int a2), some (.int a3), some (.int a4), some (.long b5), none, some (.int a7)] [] σ) else none) else Run false (d + 1) 120 129 [some (.ref 71), some (.int a1), some (.int a2), some (.int a3), some (.int a4), some (.long b5), none, some (.int a7)] [] σ) else none) else some (.inl (none, σ))) else (bif obl ((FI σ 71 1) < (nI 0)) then some (.inl (none, (wFI (wFI (wFI σ 71 1 a2) 71 2 a3) 71 3 a4))) else (bif obl (a3 < (FI σ 71 2)) then some (.inl (none, (wFI (wFI (wFI σ 71 1 a2) 71 2 a3) 71 3 a4))) else (bif obl ((FI σ 71 3) ≤ a4) then some (.inl (none, σ)) else some (.inl (none, (wFI (wFI (wFI σ 71 1 a2) 71 2 a3) 71 3 a4))))))) else some (.inl (none, σ)))) := by
  rw [Run_go [129, 144] 53]
  rfl
set_option maxRecDepth 100000 in
theorem s120_129 {d : Nat} {a1 : Int32} {a2 : Int32} {a3 : Int32} {a4 : Int32} {b5 : Int64} {a7 : Int32} {σ : PS} : Run false (d + 1) 120 129 [some (.ref 71), some (.int a1), some (.int a2), some (.int a3), some (.int a4), some (.long b5), none, some (.int a7)] [] σ =
    aft false (d + 1) 120 144 [some (.ref 71), some (.int a1), some (.int a2), some (.int a3), some (.int a4), some (.long b5), none, some (.int a7)] [] (Run false d 120 0 [some (.ref 71), some (.int (a1 + (nI 1))), some (.int a2), some (.int a3), some (.int a4), some (.long b5), none, some (.int a7)] [] σ) := by
  rw [Run_go [129, 144] 11]
  rfl
theorem s120_144 {d : Nat} {a1 : Int32} {a2 : Int32} {a3 : Int32} {a4 : Int32} {b5 : Int64} {a7 : Int32} {σ : PS} : Run false (d + 1) 120 144 [some (.ref 71), some (.int a1), some (.int a2), some (.int a3), some (.int a4), some (.long b5), none, some (.int a7)] [] σ =
    some (.inl (none, σ)) := by
  rw [Run_go [129, 144] 2]
  rfl
set_option maxRecDepth 100000 in
theorem s122_0 {d : Nat} {a1 : Int32} {σ : PS} : Run false (d + 1) 122 0 [some (.ref 17), some (.int a1)] [] σ =
    (bif obl ((FI σ 17 0) < (nI 20)) then (bif inb (FI σ 17 0) 20 then some (.inl (some (.int (((FI σ 17 0) + (nI 1)) - (nI 1))), (wFI (wAI σ 18 (FI σ 17 0).toNatClampNeg a1) 17 0 ((FI σ 17 0) + (nI 1))))) else none) else some (.inl (some (.int (-1 : Int32)), σ))) := by
  rw [Run_go [] 22]
  rfl
set_option maxRecDepth 100000 in
theorem s123_0 {d : Nat} {a1 : Int32} {a2 : Int32} {σ : PS} : Run false (d + 1) 123 0 [some (.ref 17), some (.int a1), some (.int a2), none] [] σ =
    (bif inb a1 20 then (bif obl ((AI σ 19 a1.toNatClampNeg) < (nI 5)) then (bif inb a1 20 then (bif inb a1 20 then (bif inb a1 20 then (bif inb ((a1 * (nI 5)) + (AI σ 19 a1.toNatClampNeg)) 100 then some (.inl (some (.int ((a1 * (nI 5)) + (AI σ 19 a1.toNatClampNeg))), (wAI (wAI σ 19 a1.toNatClampNeg ((AI σ 19 a1.toNatClampNeg) + (nI 1))) 25 ((a1 * (nI 5)) + (AI σ 19 a1.toNatClampNeg)).toNatClampNeg a2))) else none) else none) else none) else none) else some (.inl (some (.int (-1 : Int32)), σ))) else none) := by
  rw [Run_go [] 31]
  rfl
set_option maxRecDepth 100000 in
theorem s124_0 {d : Nat} {a1 : Int32} {a2 : Int32} {a3 : Int32} {σ : PS} : Run false (d + 1) 124 0 [some (.ref 17), some (.int a1), some (.int a2), some (.int a3)] [] σ =
    (bif inb ((a1 * (nI 5)) + a2) 500 then some (.inl (none, (wAI σ 24 ((a1 * (nI 5)) + a2).toNatClampNeg a3))) else none) := by
  rw [Run_go [] 11]
  rfl
set_option maxRecDepth 100000 in
theorem s125_0 {d : Nat} {a1 : Int32} {a2 : Int32} {σ : PS} : Run false (d + 1) 125 0 [some (.ref 17), some (.int a1), some (.int a2)] [] σ =
    (bif inb ((a1 * (nI 5)) + a2) 500 then some (.inl (some (.int (AI σ 24 ((a1 * (nI 5)) + a2).toNatClampNeg)), σ)) else none) := by
  rw [Run_go [] 10]
  rfl
theorem s126_0 {d : Nat} {a1 : Int32} {σ : PS} : Run false (d + 1) 126 0 [some (.ref 17), some (.int a1), none, none] [] σ =
    Run false (d + 1) 126 4 [some (.ref 17), some (.int a1), some (.int (nI 0)), some (.int (nI 0))] [] σ := by
  rw [Run_go [4, 15] 5]
  rfl
set_option maxRecDepth 100000 in
theorem s126_4 {d : Nat} {a1 : Int32} {a2 : Int32} {a3 : Int32} {σ : PS} : Run false (d + 1) 126 4 [some (.ref 17), some (.int a1), some (.int a2), some (.int a3)] [] σ =
    (bif obl ((nI 5) ≤ a3) then some (.inl (some (.int a2), σ)) else aft false (d + 1) 126 15 [some (.ref 17), some (.int a1), some (.int a2), some (.int a3)] [] (Run false d 125 0 [some (.ref 17), some (.int a1), some (.int a3)] [] σ)) := by
  rw [Run_go [4, 15] 8]
  rfl
theorem s126_15 {d : Nat} {a1 : Int32} {a2 : Int32} {a3 : Int32} {r0 : Int32} {σ : PS} : Run false (d + 1) 126 15 [some (.ref 17), some (.int a1), some (.int a2), some (.int a3)] [.int r0] σ =
    (bif obl (r0 ≤ (nI 0)) then Run false (d + 1) 126 4 [some (.ref 17), some (.int a1), some (.int a2), some (.int (a3 + (nI 1)))] [] σ else Run false (d + 1) 126 4 [some (.ref 17), some (.int a1), some (.int (a2 + (nI 1))), some (.int (a3 + (nI 1)))] [] σ) := by
  rw [Run_go [4, 15] 5]
  rfl
set_option maxRecDepth 100000 in
theorem s127_0 {d : Nat} {a1 : Int32} {σ : PS} : Run false (d + 1) 127 0 [some (.ref 17), some (.int a1)] [] σ =
    (bif inb a1 20 then (bif obl ((AI σ 19 a1.toNatClampNeg) = (nI 0)) then some (.inl (some (.int (-1 : Int32)), σ)) else (bif inb a1 20 then some (.inl (some (.int ((a1 * (nI 5)) + (AI σ 20 a1.toNatClampNeg))), σ)) else none)) else none) := by
  rw [Run_go [] 15]
  rfl
set_option maxRecDepth 100000 in
theorem s128_0 {d : Nat} {a1 : Int32} {a2 : Int32} {a3 : Int32} {a4 : Int32} {a5 : Int32} {σ : PS} : Run false (d + 1) 128 0 [some (.ref 17), some (.int a1), some (.int a2), some (.int a3), some (.int a4), some (.int a5), none, none, none] [] σ =
    (bif obl ((nI 5) = nI 0) then none else (bif inb (((a1 / (nI 5)) * (nI 41)) + a3) 820 then (bif inb (((a1 / (nI 5)) * (nI 41)) + a3) 820 then (bif inb (((a1 / (nI 5)) * (nI 41)) + a3) 820 then aft false (d + 1) 128 57 [some (.ref 17), some (.int a1), some (.int a2), some (.int a3), some (.int a4), some (.int a5), some (.int (((a1 / (nI 5)) * (nI 41)) + a3)), some (.int (((nI 100) * (AI σ 21 (((a1 / (nI 5)) * (nI 41)) + a3).toNatClampNeg)) - (a4 * (AI σ 22 (((a1 / (nI 5)) * (nI 41)) + a3).toNatClampNeg)))), some (.int (if (nI 1) < (if a5 < (AI σ 23 (((a1 / (nI 5)) * (nI 41)) + a3).toNatClampNeg) then a5 else (AI σ 23 (((a1 / (nI 5)) * (nI 41)) + a3).toNatClampNeg)) then (if a5 < (AI σ 23 (((a1 / (nI 5)) * (nI 41)) + a3).toNatClampNeg) then a5 else (AI σ 23 (((a1 / (nI 5)) * (nI 41)) + a3).toNatClampNeg)) else (nI 1)))] [] (Run false d 125 0 [some (.ref 17), some (.int a1), some (.int a2)] [] σ) else none) else none) else none)) := by
  rw [Run_go [57] 36]
  rfl
set_option maxRecDepth 100000 in
theorem s128_57 {d : Nat} {a1 : Int32} {a2 : Int32} {a3 : Int32} {a4 : Int32} {a5 : Int32} {a6 : Int32} {a7 : Int32} {a8 : Int32} {r0 : Int32} {σ : PS} : Run false (d + 1) 128 57 [some (.ref 17), some (.int a1), some (.int a2), some (.int a3), some (.int a4), some (.int a5), some (.int a6), some (.int a7), some (.int a8)] [.int r0] σ =
    (bif obl ((nI 100) = nI 0) then none else (bif obl (a8 = nI 0) then none else some (.inl (some (.int (((r0 * a7) / (nI 100)) / a8)), σ)))) := by
  rw [Run_go [57] 8]
  rfl
set_option maxRecDepth 100000 in
theorem s129_0 {d : Nat} {a1 : Int32} {a2 : Int32} {σ : PS} : Run false (d + 1) 129 0 [some (.ref 17), some (.int a1), some (.int a2)] [] σ =
    (bif inb a1 100 then (bif obl ((nI 5) = nI 0) then none else (bif inb (((a1 / (nI 5)) * (nI 41)) + a2) 820 then some (.inl (some (.int ((AI σ 25 a1.toNatClampNeg) * (AI σ 21 (((a1 / (nI 5)) * (nI 41)) + a2).toNatClampNeg))), σ)) else none)) else none) := by
  rw [Run_go [] 17]
  rfl
theorem s131_0 {d : Nat} {a1 : Int32} {σ : PS} : Run false (d + 1) 131 0 [some (.ref 12), some (.int a1), none] [] σ =
    Run false (d + 1) 131 3 [some (.ref 12), some (.int a1), some (.int (nI 24))] [] σ := by
  rw [Run_go [3] 3]
  rfl
set_option maxRecDepth 100000 in
theorem s131_3 {d : Nat} {a1 : Int32} {a2 : Int32} {σ : PS} : Run false (d + 1) 131 3 [some (.ref 12), some (.int a1), some (.int a2)] [] σ =
    (bif obl (a2 < (nI 0)) then some (.inl (none, σ)) else (bif obl ((nI 400) ≤ (FI σ 12 0)) then Run false (d + 1) 131 3 [some (.ref 12), some (.int a1), some (.int (a2 + (-8 : Int32)))] [] σ else (bif inb (FI σ 12 0) 400 then Run false (d + 1) 131 3 [some (.ref 12), some (.int a1), some (.int (a2 + (-8 : Int32)))] [] (wFI (wAI σ 13 (FI σ 12 0).toNatClampNeg (((a1.toUInt32 >>> (a2.toUInt32 &&& Int32.toUInt32 31)).toInt32) &&& (nI 255))) 12 0 ((FI σ 12 0) + (nI 1))) else none))) := by
  rw [Run_go [3] 27]
  rfl
set_option maxRecDepth 100000 in
theorem s132_0 {d : Nat}  {σ : PS} : Run false (d + 1) 132 0 [some (.ref 12)] [] σ =
    some (.inl (none, (wFI (wFI (wFI σ 12 0 (nI 0)) 12 2 (nI 0)) 12 1 (-1 : Int32)))) := by
  rw [Run_go [] 11]
  rfl
theorem s133_0 {d : Nat} {a1 : Int32} {σ : PS} : Run false (d + 1) 133 0 [some (.ref 12), some (.int a1), none] [] σ =
    aft false (d + 1) 133 4 [some (.ref 12), some (.int a1), none] [] (Run false d 132 0 [some (.ref 12)] [] σ) := by
  rw [Run_go [4, 17, 24, 51, 71] 3]
  rfl
set_option maxRecDepth 100000 in
theorem s133_4 {d : Nat} {a1 : Int32} {z2 : Option Value} {σ : PS} : Run false (d + 1) 133 4 [some (.ref 12), some (.int a1), z2] [] σ =
    aft false (d + 1) 133 17 [some (.ref 12), some (.int a1), z2] [] (Run false d 134 0 [some (.ref 12), some (.int (if (nI 400) < a1 then (nI 400) else a1)), none, none, none] [] σ) := by
  rw [Run_go [4, 17, 24, 51, 71] 8]
  rfl
theorem s133_17 {d : Nat} {a1 : Int32} {z2 : Option Value} {σ : PS} : Run false (d + 1) 133 17 [some (.ref 12), some (.int a1), z2] [] σ =
    aft false (d + 1) 133 24 [some (.ref 12), some (.int a1), z2] [] (Run false d 92 0 [some (.ref 1)] [] σ) := by
  rw [Run_go [4, 17, 24, 51, 71] 4]
  rfl
set_option maxRecDepth 100000 in
theorem s133_24 {d : Nat} {a1 : Int32} {z2 : Option Value} {σ : PS} : Run false (d + 1) 133 24 [some (.ref 12), some (.int a1), z2] [] σ =
    (bif inb (nI 0) 401 then (bif inb (nI 0) 401 then Run false (d + 1) 133 51 [some (.ref 12), some (.int a1), some (.int (nI 0))] [] (wFI (wFI (wFI σ 12 4 (nI 0)) 12 5 (AI σ 14 (nI 0).toNatClampNeg)) 12 6 (AI σ 16 (nI 0).toNatClampNeg)) else none) else none) := by
  rw [Run_go [4, 17, 24, 51, 71] 18]
  rfl
set_option maxRecDepth 100000 in
theorem s133_51 {d : Nat} {a1 : Int32} {a2 : Int32} {σ : PS} : Run false (d + 1) 133 51 [some (.ref 12), some (.int a1), some (.int a2)] [] σ =
    (bif obl ((nI 16) < a2) then some (.inl (some (.int (nI 0)), σ)) else (bif obl ((FI σ 12 5) = (nI 301)) then some (.inl (some (.int (nI 0)), σ)) else aft false (d + 1) 133 71 [some (.ref 12), some (.int a1), some (.int a2)] [] (Run false d 144 0 [some (.ref 12), none, none, none] [] σ))) := by
  rw [Run_go [4, 17, 24, 51, 71] 10]
  rfl
theorem s133_71 {d : Nat} {a1 : Int32} {a2 : Int32} {r0 : Int32} {σ : PS} : Run false (d + 1) 133 71 [some (.ref 12), some (.int a1), some (.int a2)] [.int r0] σ =
    (bif obl (r0 = (nI 0)) then some (.inl (some (.int (FI σ 12 2)), σ)) else Run false (d + 1) 133 51 [some (.ref 12), some (.int a1), some (.int (a2 + (nI 1)))] [] σ) := by
  rw [Run_go [4, 17, 24, 51, 71] 5]
  rfl
theorem s134_0 {d : Nat} {a1 : Int32} {σ : PS} : Run false (d + 1) 134 0 [some (.ref 12), some (.int a1), none, none, none] [] σ =
    Run false (d + 1) 134 7 [some (.ref 12), some (.int a1), some (.int (nI 0)), none, none] [] (wFI σ 12 3 (nI 0)) := by
  rw [Run_go [7, 30, 33, 47, 67, 70, 78, 81, 95, 111, 116, 151, 163] 6]
  rfl
set_option maxRecDepth 100000 in
theorem s134_7 {d : Nat} {a1 : Int32} {a2 : Int32} {z3 : Option Value} {z4 : Option Value} {σ : PS} : Run false (d + 1) 134 7 [some (.ref 12), some (.int a1), some (.int a2), z3, z4] [] σ =
    (bif obl (a1 ≤ a2) then aft false (d + 1) 134 163 [some (.ref 12), some (.int a1), some (.int a2), z3, z4] [] (Run false d 135 0 [some (.ref 12), some (.int (nI 301)), some (.int a1), some (.int (nI 0))] [] σ) else (bif inb a2 400 then aft false (d + 1) 134 30 [some (.ref 12), some (.int a1), some (.int (a2 + (nI 1))), some (.int a2), some (.int (AI σ 13 a2.toNatClampNeg))] [] (Run false d 136 0 [some (.int (AI σ 13 a2.toNatClampNeg))] [] σ) else none)) := by
  rw [Run_go [7, 30, 33, 47, 67, 70, 78, 81, 95, 111, 116, 151, 163] 14]
  rfl
theorem s134_30 {d : Nat} {a1 : Int32} {a2 : Int32} {a3 : Int32} {a4 : Int32} {r0 : Int32} {σ : PS} : Run false (d + 1) 134 30 [some (.ref 12), some (.int a1), some (.int a2), some (.int a3), some (.int a4)] [.int r0] σ =
    (bif obl (r0 = (nI 0)) then aft false (d + 1) 134 78 [some (.ref 12), some (.int a1), some (.int a2), some (.int a3), some (.int a4)] [] (Run false d 137 0 [some (.int a4)] [] σ) else Run false (d + 1) 134 33 [some (.ref 12), some (.int a1), some (.int a2), some (.int a3), some (.int a4)] [] σ) := by
  rw [Run_go [7, 30, 33, 47, 67, 70, 78, 81, 95, 111, 116, 151, 163] 4]
  rfl
set_option maxRecDepth 100000 in
theorem s134_33 {d : Nat} {a1 : Int32} {a2 : Int32} {a3 : Int32} {a4 : Int32} {σ : PS} : Run false (d + 1) 134 33 [some (.ref 12), some (.int a1), some (.int a2), some (.int a3), some (.int a4)] [] σ =
    (bif obl (a1 ≤ a2) then aft false (d + 1) 134 67 [some (.ref 12), some (.int a1), some (.int a2), some (.int a3), some (.int a4)] [.int a3, .int (nI 300), .ref 12] (Run false d 138 0 [some (.ref 12), some (.int a3), some (.int a2), none, none] [] σ) else (bif inb a2 400 then aft false (d + 1) 134 47 [some (.ref 12), some (.int a1), some (.int a2), some (.int a3), some (.int a4)] [] (Run false d 136 0 [some (.int (AI σ 13 a2.toNatClampNeg))] [] σ) else none)) := by
  rw [Run_go [7, 30, 33, 47, 67, 70, 78, 81, 95, 111, 116, 151, 163] 11]
  rfl
set_option maxRecDepth 100000 in
theorem s134_47 {d : Nat} {a1 : Int32} {a2 : Int32} {a3 : Int32} {a4 : Int32} {r0 : Int32} {σ : PS} : Run false (d + 1) 134 47 [some (.ref 12), some (.int a1), some (.int a2), some (.int a3), some (.int a4)] [.int r0] σ =
    (bif obl (r0 = (nI 0)) then aft false (d + 1) 134 67 [some (.ref 12), some (.int a1), some (.int a2), some (.int a3), some (.int a4)] [.int a3, .int (nI 300), .ref 12] (Run false d 138 0 [some (.ref 12), some (.int a3), some (.int a2), none, none] [] σ) else Run false (d + 1) 134 33 [some (.ref 12), some (.int a1), some (.int (a2 + (nI 1))), some (.int a3), some (.int a4)] [] σ) := by
  rw [Run_go [7, 30, 33, 47, 67, 70, 78, 81, 95, 111, 116, 151, 163] 9]
  rfl
theorem s134_67 {d : Nat} {a1 : Int32} {a2 : Int32} {a3 : Int32} {a4 : Int32} {r1 : Int32} {r2 : Int32} {r3 : Int32} {σ : PS} : Run false (d + 1) 134 67 [some (.ref 12), some (.int a1), some (.int a2), some (.int a3), some (.int a4)] [.int r3, .int r2, .int r1, .ref 12] σ =
    aft false (d + 1) 134 70 [some (.ref 12), some (.int a1), some (.int a2), some (.int a3), some (.int a4)] [] (Run false d 135 0 [some (.ref 12), some (.int r1), some (.int r2), some (.int r3)] [] σ) := by
  rw [Run_go [7, 30, 33, 47, 67, 70, 78, 81, 95, 111, 116, 151, 163] 2]
  rfl
theorem s134_70 {d : Nat} {a1 : Int32} {a2 : Int32} {a3 : Int32} {a4 : Int32} {σ : PS} : Run false (d + 1) 134 70 [some (.ref 12), some (.int a1), some (.int a2), some (.int a3), some (.int a4)] [] σ =
    Run false (d + 1) 134 151 [some (.ref 12), some (.int a1), some (.int a2), some (.int a3), some (.int a4)] [] σ := by
  rw [Run_go [7, 30, 33, 47, 67, 70, 78, 81, 95, 111, 116, 151, 163] 2]
  rfl
set_option maxRecDepth 100000 in
theorem s134_78 {d : Nat} {a1 : Int32} {a2 : Int32} {a3 : Int32} {a4 : Int32} {r0 : Int32} {σ : PS} : Run false (d + 1) 134 78 [some (.ref 12), some (.int a1), some (.int a2), some (.int a3), some (.int a4)] [.int r0] σ =
    (bif obl (r0 = (nI 0)) then (bif obl (a4 = (nI 32)) then Run false (d + 1) 134 151 [some (.ref 12), some (.int a1), some (.int a2), some (.int a3), some (.int a4)] [] σ else (bif inb ((a4.toUInt32 % 65536).toInt32) 256 then (bif obl ((sidx strS 0 ((a4.toUInt32 % 65536).toInt32)) < (nI 0)) then aft false (d + 1) 134 151 [some (.ref 12), some (.int a1), some (.int a2), some (.int a3), some (.int a4)] [] (Run false d 135 0 [some (.ref 12), some (.int (nI 302)), some (.int a3), some (.int (nI 0))] [] σ) else aft false (d + 1) 134 151 [some (.ref 12), some (.int a1), some (.int a2), some (.int a3), some (.int a4)] [] (Run false d 135 0 [some (.ref 12), some (.int a4), some (.int a3), some (.int (nI 0))] [] σ)) else none)) else Run false (d + 1) 134 81 [some (.ref 12), some (.int a1), some (.int a2), some (.int a3), some (.int a4)] [] σ) := by
  rw [Run_go [7, 30, 33, 47, 67, 70, 78, 81, 95, 111, 116, 151, 163] 16]
  rfl
set_option maxRecDepth 100000 in
theorem s134_81 {d : Nat} {a1 : Int32} {a2 : Int32} {a3 : Int32} {a4 : Int32} {σ : PS} : Run false (d + 1) 134 81 [some (.ref 12), some (.int a1), some (.int a2), some (.int a3), some (.int a4)] [] σ =
    (bif obl (a1 ≤ a2) then aft false (d + 1) 134 111 [some (.ref 12), some (.int a1), some (.int a2), some (.int a3), some (.int a4)] [.ref 12] (Run false d 139 0 [some (.ref 12), some (.int a3), some (.int a2), none, none, none, none, none] [] σ) else (bif inb a2 400 then aft false (d + 1) 134 95 [some (.ref 12), some (.int a1), some (.int a2), some (.int a3), some (.int a4)] [] (Run false d 137 0 [some (.int (AI σ 13 a2.toNatClampNeg))] [] σ) else none)) := by
  rw [Run_go [7, 30, 33, 47, 67, 70, 78, 81, 95, 111, 116, 151, 163] 9]
  rfl
theorem s134_95 {d : Nat} {a1 : Int32} {a2 : Int32} {a3 : Int32} {a4 : Int32} {r0 : Int32} {σ : PS} : Run false (d + 1) 134 95 [some (.ref 12), some (.int a1), some (.int a2), some (.int a3), some (.int a4)] [.int r0] σ =
    (bif obl (r0 = (nI 0)) then aft false (d + 1) 134 111 [some (.ref 12), some (.int a1), some (.int a2), some (.int a3), some (.int a4)] [.ref 12] (Run false d 139 0 [some (.ref 12), some (.int a3), some (.int a2), none, none, none, none, none] [] σ) else Run false (d + 1) 134 81 [some (.ref 12), some (.int a1), some (.int (a2 + (nI 1))), some (.int a3), some (.int a4)] [] σ) := by
  rw [Run_go [7, 30, 33, 47, 67, 70, 78, 81, 95, 111, 116, 151, 163] 7]
  rfl
theorem s134_111 {d : Nat} {a1 : Int32} {a2 : Int32} {a3 : Int32} {a4 : Int32} {r1 : Int32} {σ : PS} : Run false (d + 1) 134 111 [some (.ref 12), some (.int a1), some (.int a2), some (.int a3), some (.int a4)] [.int r1, .ref 12] σ =
    aft false (d + 1) 134 116 [some (.ref 12), some (.int a1), some (.int a2), some (.int a3), some (.int a4)] [] (Run false d 135 0 [some (.ref 12), some (.int r1), some (.int a3), some (.int (nI 0))] [] σ) := by
  rw [Run_go [7, 30, 33, 47, 67, 70, 78, 81, 95, 111, 116, 151, 163] 4]
  rfl
theorem s134_116 {d : Nat} {a1 : Int32} {a2 : Int32} {a3 : Int32} {a4 : Int32} {σ : PS} : Run false (d + 1) 134 116 [some (.ref 12), some (.int a1), some (.int a2), some (.int a3), some (.int a4)] [] σ =
    Run false (d + 1) 134 151 [some (.ref 12), some (.int a1), some (.int a2), some (.int a3), some (.int a4)] [] σ := by
  rw [Run_go [7, 30, 33, 47, 67, 70, 78, 81, 95, 111, 116, 151, 163] 2]
  rfl
theorem s134_151 {d : Nat} {a1 : Int32} {a2 : Int32} {a3 : Int32} {a4 : Int32} {σ : PS} : Run false (d + 1) 134 151 [some (.ref 12), some (.int a1), some (.int a2), some (.int a3), some (.int a4)] [] σ =
    Run false (d + 1) 134 7 [some (.ref 12), some (.int a1), some (.int a2), some (.int a3), some (.int a4)] [] σ := by
  rw [Run_go [7, 30, 33, 47, 67, 70, 78, 81, 95, 111, 116, 151, 163] 2]
  rfl
theorem s134_163 {d : Nat} {a1 : Int32} {a2 : Int32} {z3 : Option Value} {z4 : Option Value} {σ : PS} : Run false (d + 1) 134 163 [some (.ref 12), some (.int a1), some (.int a2), z3, z4] [] σ =
    some (.inl (none, σ)) := by
  rw [Run_go [7, 30, 33, 47, 67, 70, 78, 81, 95, 111, 116, 151, 163] 2]
  rfl
set_option maxRecDepth 100000 in
theorem s135_0 {d : Nat} {a1 : Int32} {a2 : Int32} {a3 : Int32} {σ : PS} : Run false (d + 1) 135 0 [some (.ref 12), some (.int a1), some (.int a2), some (.int a3)] [] σ =
    (bif obl ((nI 401) ≤ (FI σ 12 3)) then some (.inl (none, σ)) else (bif inb (FI σ 12 3) 401 then (bif inb (FI σ 12 3) 401 then (bif inb (FI σ 12 3) 401 then some (.inl (none, (wFI (wAI (wAI (wAI σ 14 (FI σ 12 3).toNatClampNeg a1) 15 (FI σ 12 3).toNatClampNeg a2) 16 (FI σ 12 3).toNatClampNeg a3) 12 3 ((FI σ 12 3) + (nI 1))))) else none) else none) else none)) := by
  rw [Run_go [] 32]
  rfl
set_option maxRecDepth 100000 in
theorem s136_0 {d : Nat} {a0 : Int32} {σ : PS} : Run false (d + 1) 136 0 [some (.int a0)] [] σ =
    (bif obl (a0 < (nI 48)) then (bif is01 (nI 0) then some (.inl (some (.int (nI 0)), σ)) else none) else (bif obl ((nI 57) < a0) then (bif is01 (nI 0) then some (.inl (some (.int (nI 0)), σ)) else none) else (bif is01 (nI 1) then some (.inl (some (.int (nI 1)), σ)) else none))) := by
  rw [Run_go [] 10]
  rfl
set_option maxRecDepth 100000 in
theorem s137_0 {d : Nat} {a0 : Int32} {σ : PS} : Run false (d + 1) 137 0 [some (.int a0)] [] σ =
    (bif obl (a0 < (nI 97)) then (bif is01 (nI 0) then some (.inl (some (.int (nI 0)), σ)) else none) else (bif obl ((nI 122) < a0) then (bif is01 (nI 0) then some (.inl (some (.int (nI 0)), σ)) else none) else (bif is01 (nI 1) then some (.inl (some (.int (nI 1)), σ)) else none))) := by
  rw [Run_go [] 10]
  rfl
theorem s138_0 {d : Nat} {a1 : Int32} {a2 : Int32} {σ : PS} : Run false (d + 1) 138 0 [some (.ref 12), some (.int a1), some (.int a2), none, none] [] σ =
    Run false (d + 1) 138 5 [some (.ref 12), some (.int a1), some (.int a2), some (.int (nI 0)), some (.int a1)] [] σ := by
  rw [Run_go [5] 5]
  rfl
set_option maxRecDepth 100000 in
theorem s138_5 {d : Nat} {a1 : Int32} {a2 : Int32} {a3 : Int32} {a4 : Int32} {σ : PS} : Run false (d + 1) 138 5 [some (.ref 12), some (.int a1), some (.int a2), some (.int a3), some (.int a4)] [] σ =
    (bif obl (a2 ≤ a4) then some (.inl (some (.int a3), σ)) else (bif inb a4 400 then Run false (d + 1) 138 5 [some (.ref 12), some (.int a1), some (.int a2), some (.int (if (((a3 * (nI 10)) + (AI σ 13 a4.toNatClampNeg)) - (nI 48)) < (nI 10000) then (((a3 * (nI 10)) + (AI σ 13 a4.toNatClampNeg)) - (nI 48)) else (nI 10000))), some (.int (a4 + (nI 1)))] [] σ else none)) := by
  rw [Run_go [5] 19]
  rfl
set_option maxRecDepth 100000 in
theorem s139_0 {d : Nat} {a1 : Int32} {a2 : Int32} {σ : PS} : Run false (d + 1) 139 0 [some (.ref 12), some (.int a1), some (.int a2), none, none, none, none, none] [] σ =
    Run false (d + 1) 139 18 [some (.ref 12), some (.int a1), some (.int a2), some (.int (a2 - a1)), some (.int (nI 200)), some (.int (nI 0)), some (.int (nI 1)), some (.int (nI 0))] [] σ := by
  rw [Run_go [18] 13]
  rfl
set_option maxRecDepth 100000 in
theorem s139_18 {d : Nat} {a1 : Int32} {a2 : Int32} {a3 : Int32} {a4 : Int32} {a5 : Int32} {a6 : Int32} {a7 : Int32} {σ : PS} : Run false (d + 1) 139 18 [some (.ref 12), some (.int a1), some (.int a2), some (.int a3), some (.int a4), some (.int a5), some (.int a6), some (.int a7)] [] σ =
    (bif obl ((nI strW.length) ≤ a7) then some (.inl (some (.int (nI 302)), σ)) else (bif inb a7 strW.length then (bif obl ((nI (strW.getD a7.toNatClampNeg 0)) = (nI 32)) then (bif obl (a6 = (nI 0)) then Run false (d + 1) 139 18 [some (.ref 12), some (.int a1), some (.int a2), some (.int a3), some (.int (a4 + (nI 1))), some (.int (nI 0)), some (.int (nI 1)), some (.int (a7 + (nI 1)))] [] σ else (bif obl (a5 = a3) then some (.inl (some (.int a4), σ)) else Run false (d + 1) 139 18 [some (.ref 12), some (.int a1), some (.int a2), some (.int a3), some (.int (a4 + (nI 1))), some (.int (nI 0)), some (.int (nI 1)), some (.int (a7 + (nI 1)))] [] σ)) else (bif obl (a6 = (nI 0)) then Run false (d + 1) 139 18 [some (.ref 12), some (.int a1), some (.int a2), some (.int a3), some (.int a4), some (.int (a5 + (nI 1))), some (.int (nI 0)), some (.int (a7 + (nI 1)))] [] σ else (bif obl (a3 ≤ a5) then Run false (d + 1) 139 18 [some (.ref 12), some (.int a1), some (.int a2), some (.int a3), some (.int a4), some (.int (a5 + (nI 1))), some (.int (nI 0)), some (.int (a7 + (nI 1)))] [] σ else (bif inb (a1 + a5) 400 then (bif inb a7 strW.length then (bif obl ((AI σ 13 (a1 + a5).toNatClampNeg) = (nI (strW.getD a7.toNatClampNeg 0))) then Run false (d + 1) 139 18 [some (.ref 12), some (.int a1), some (.int a2), some (.int a3), some (.int a4), some (.int (a5 + (nI 1))), some (.int (nI 1)), some (.int (a7 + (nI 1)))] [] σ else Run false (d + 1) 139 18 [some (.ref 12), some (.int a1), some (.int a2), some (.int a3), some (.int a4), some (.int (a5 + (nI 1))), some (.int (nI 0)), some (.int (a7 + (nI 1)))] [] σ) else none) else none)))) else none)) := by
  rw [Run_go [18] 31]
  rfl
set_option maxRecDepth 100000 in
theorem s140_0 {d : Nat} {a1 : Int32} {σ : PS} : Run false (d + 1) 140 0 [some (.ref 12), some (.int a1)] [] σ =
    (bif inb (FI σ 12 4) 401 then (bif is01 (nI 0) then some (.inl (some (.int (nI 0)), (wFI (wFI σ 12 2 a1) 12 1 (AI σ 15 (FI σ 12 4).toNatClampNeg)))) else none) else none) := by
  rw [Run_go [] 13]
  rfl
set_option maxRecDepth 100000 in
theorem s141_0 {d : Nat}  {σ : PS} : Run false (d + 1) 141 0 [some (.ref 12)] [] σ =
    (bif obl (((FI σ 12 3) - (nI 1)) ≤ (FI σ 12 4)) then (bif inb (FI σ 12 4) 401 then (bif inb (FI σ 12 4) 401 then some (.inl (none, (wFI (wFI σ 12 5 (AI σ 14 (FI σ 12 4).toNatClampNeg)) 12 6 (AI σ 16 (FI σ 12 4).toNatClampNeg)))) else none) else none) else (bif inb ((FI σ 12 4) + (nI 1)) 401 then (bif inb ((FI σ 12 4) + (nI 1)) 401 then some (.inl (none, (wFI (wFI (wFI σ 12 4 ((FI σ 12 4) + (nI 1))) 12 5 (AI σ 14 ((FI σ 12 4) + (nI 1)).toNatClampNeg)) 12 6 (AI σ 16 ((FI σ 12 4) + (nI 1)).toNatClampNeg)))) else none) else none)) := by
  rw [Run_go [] 29]
  rfl
set_option maxRecDepth 100000 in
theorem s142_0 {d : Nat} {a1 : Int32} {σ : PS} : Run false (d + 1) 142 0 [some (.ref 12), some (.int a1)] [] σ =
    (bif obl ((FI σ 12 5) = a1) then aft false (d + 1) 142 18 [some (.ref 12), some (.int a1)] [] (Run false d 141 0 [some (.ref 12)] [] σ) else aft false (d + 1) 142 13 [some (.ref 12), some (.int a1)] [] (Run false d 140 0 [some (.ref 12), some (.int (nI 1))] [] σ)) := by
  rw [Run_go [13, 18] 8]
  rfl
theorem s142_13 {d : Nat} {a1 : Int32} {r0 : Int32} {σ : PS} : Run false (d + 1) 142 13 [some (.ref 12), some (.int a1)] [.int r0] σ =
    (bif is01 r0 then some (.inl (some (.int r0), σ)) else none) := by
  rw [Run_go [13, 18] 2]
  rfl
theorem s142_18 {d : Nat} {a1 : Int32} {σ : PS} : Run false (d + 1) 142 18 [some (.ref 12), some (.int a1)] [] σ =
    (bif is01 (nI 1) then some (.inl (some (.int (nI 1)), σ)) else none) := by
  rw [Run_go [13, 18] 3]
  rfl
set_option maxRecDepth 100000 in
theorem s143_0 {d : Nat} {a1 : Int32} {a2 : Int32} {σ : PS} : Run false (d + 1) 143 0 [some (.ref 12), some (.int a1), some (.int a2)] [] σ =
    (bif obl ((FI σ 12 5) = a1) then (bif obl (a2 < (nI 8)) then aft false (d + 1) 143 30 [some (.ref 12), some (.int a1), some (.int a2)] [] (Run false d 141 0 [some (.ref 12)] [] σ) else aft false (d + 1) 143 25 [some (.ref 12), some (.int a1), some (.int a2)] [] (Run false d 140 0 [some (.ref 12), some (.int (nI 3))] [] σ)) else aft false (d + 1) 143 13 [some (.ref 12), some (.int a1), some (.int a2)] [] (Run false d 140 0 [some (.ref 12), some (.int (nI 1))] [] σ)) := by
  rw [Run_go [13, 25, 30] 11]
  rfl
theorem s143_13 {d : Nat} {a1 : Int32} {a2 : Int32} {r0 : Int32} {σ : PS} : Run false (d + 1) 143 13 [some (.ref 12), some (.int a1), some (.int a2)] [.int r0] σ =
    (bif is01 r0 then some (.inl (some (.int r0), σ)) else none) := by
  rw [Run_go [13, 25, 30] 2]
  rfl
theorem s143_25 {d : Nat} {a1 : Int32} {a2 : Int32} {r0 : Int32} {σ : PS} : Run false (d + 1) 143 25 [some (.ref 12), some (.int a1), some (.int a2)] [.int r0] σ =
    (bif is01 r0 then some (.inl (some (.int r0), σ)) else none) := by
  rw [Run_go [13, 25, 30] 2]
  rfl
theorem s143_30 {d : Nat} {a1 : Int32} {a2 : Int32} {σ : PS} : Run false (d + 1) 143 30 [some (.ref 12), some (.int a1), some (.int a2)] [] σ =
    (bif is01 (nI 1) then some (.inl (some (.int (nI 1)), σ)) else none) := by
  rw [Run_go [13, 25, 30] 3]
  rfl
set_option maxRecDepth 100000 in
theorem s144_0 {d : Nat}  {σ : PS} : Run false (d + 1) 144 0 [some (.ref 12), none, none, none] [] σ =
    (bif obl ((FI σ 12 5) < (nI 210)) then aft false (d + 1) 144 24 [some (.ref 12), some (.int (FI σ 12 5)), none, none] [] (Run false d 140 0 [some (.ref 12), some (.int (nI 1))] [] σ) else (bif obl ((FI σ 12 5) ≤ (nI 217)) then aft false (d + 1) 144 32 [some (.ref 12), some (.int (FI σ 12 5)), none, none] [] (Run false d 93 0 [some (.ref 1)] [] σ) else aft false (d + 1) 144 24 [some (.ref 12), some (.int (FI σ 12 5)), none, none] [] (Run false d 140 0 [some (.ref 12), some (.int (nI 1))] [] σ))) := by
  rw [Run_go [24, 32, 40, 45, 79, 93, 102, 148, 154, 162, 174, 191, 199, 211, 215, 219, 226, 230, 237, 241, 249, 260] 13]
  rfl
theorem s144_24 {d : Nat} {a1 : Int32} {z2 : Option Value} {z3 : Option Value} {r0 : Int32} {σ : PS} : Run false (d + 1) 144 24 [some (.ref 12), some (.int a1), z2, z3] [.int r0] σ =
    (bif is01 r0 then some (.inl (some (.int r0), σ)) else none) := by
  rw [Run_go [24, 32, 40, 45, 79, 93, 102, 148, 154, 162, 174, 191, 199, 211, 215, 219, 226, 230, 237, 241, 249, 260] 2]
  rfl
theorem s144_32 {d : Nat} {a1 : Int32} {z2 : Option Value} {z3 : Option Value} {r0 : Int32} {σ : PS} : Run false (d + 1) 144 32 [some (.ref 12), some (.int a1), z2, z3] [.int r0] σ =
    (bif obl (r0 = (nI 0)) then aft false (d + 1) 144 45 [some (.ref 12), some (.int a1), z2, z3] [] (Run false d 141 0 [some (.ref 12)] [] σ) else aft false (d + 1) 144 40 [some (.ref 12), some (.int a1), z2, z3] [] (Run false d 140 0 [some (.ref 12), some (.int (nI 3))] [] σ)) := by
  rw [Run_go [24, 32, 40, 45, 79, 93, 102, 148, 154, 162, 174, 191, 199, 211, 215, 219, 226, 230, 237, 241, 249, 260] 5]
  rfl
theorem s144_40 {d : Nat} {a1 : Int32} {z2 : Option Value} {z3 : Option Value} {r0 : Int32} {σ : PS} : Run false (d + 1) 144 40 [some (.ref 12), some (.int a1), z2, z3] [.int r0] σ =
    (bif is01 r0 then some (.inl (some (.int r0), σ)) else none) := by
  rw [Run_go [24, 32, 40, 45, 79, 93, 102, 148, 154, 162, 174, 191, 199, 211, 215, 219, 226, 230, 237, 241, 249, 260] 2]
  rfl
set_option maxRecDepth 100000 in
theorem s144_45 {d : Nat} {a1 : Int32} {z2 : Option Value} {z3 : Option Value} {σ : PS} : Run false (d + 1) 144 45 [some (.ref 12), some (.int a1), z2, z3] [] σ =
    (bif obl ((nI 214) < a1) then Run false (d + 1) 144 93 [some (.ref 12), some (.int a1), some (.int (-1 : Int32)), z3] [] σ else (bif obl ((FI σ 12 5) < (nI 200)) then aft false (d + 1) 144 79 [some (.ref 12), some (.int a1), some (.int (-1 : Int32)), z3] [] (Run false d 140 0 [some (.ref 12), some (.int (nI 1))] [] σ) else (bif obl ((FI σ 12 5) < (nI 205)) then aft false (d + 1) 144 93 [some (.ref 12), some (.int a1), some (.int ((FI σ 12 5) - (nI 200))), z3] [] (Run false d 141 0 [some (.ref 12)] [] σ) else aft false (d + 1) 144 79 [some (.ref 12), some (.int a1), some (.int (-1 : Int32)), z3] [] (Run false d 140 0 [some (.ref 12), some (.int (nI 1))] [] σ)))) := by
  rw [Run_go [24, 32, 40, 45, 79, 93, 102, 148, 154, 162, 174, 191, 199, 211, 215, 219, 226, 230, 237, 241, 249, 260] 21]
  rfl
theorem s144_79 {d : Nat} {a1 : Int32} {a2 : Int32} {z3 : Option Value} {r0 : Int32} {σ : PS} : Run false (d + 1) 144 79 [some (.ref 12), some (.int a1), some (.int a2), z3] [.int r0] σ =
    (bif is01 r0 then some (.inl (some (.int r0), σ)) else none) := by
  rw [Run_go [24, 32, 40, 45, 79, 93, 102, 148, 154, 162, 174, 191, 199, 211, 215, 219, 226, 230, 237, 241, 249, 260] 2]
  rfl
theorem s144_93 {d : Nat} {a1 : Int32} {a2 : Int32} {z3 : Option Value} {σ : PS} : Run false (d + 1) 144 93 [some (.ref 12), some (.int a1), some (.int a2), z3] [] σ =
    aft false (d + 1) 144 102 [some (.ref 12), some (.int a1), some (.int a2), z3] [] (Run false d 94 0 [some (.ref 1), some (.int a1), some (.int a2)] [] σ) := by
  rw [Run_go [24, 32, 40, 45, 79, 93, 102, 148, 154, 162, 174, 191, 199, 211, 215, 219, 226, 230, 237, 241, 249, 260] 6]
  rfl
theorem s144_102 {d : Nat} {a1 : Int32} {a2 : Int32} {z3 : Option Value} {σ : PS} : Run false (d + 1) 144 102 [some (.ref 12), some (.int a1), some (.int a2), z3] [] σ =
    Run false (d + 1) 144 (tswF 103 138 210 217 #[45, 127, 127, 138, 71, 138, 116, 108] a1) [some (.ref 12), some (.int a1), some (.int a2), z3] [] σ := by
  rw [Run_go [24, 32, 40, 45, 79, 93, 102, 148, 154, 162, 174, 191, 199, 211, 215, 219, 226, 230, 237, 241, 249, 260] 3]
  rfl
theorem s144_148 {d : Nat} {a1 : Int32} {a2 : Int32} {z3 : Option Value} {σ : PS} : Run false (d + 1) 144 148 [some (.ref 12), some (.int a1), some (.int a2), z3] [] σ =
    aft false (d + 1) 144 154 [some (.ref 12), some (.int a1), some (.int a2), z3] [] (Run false d 142 0 [some (.ref 12), some (.int (nI 61))] [] σ) := by
  rw [Run_go [24, 32, 40, 45, 79, 93, 102, 148, 154, 162, 174, 191, 199, 211, 215, 219, 226, 230, 237, 241, 249, 260] 4]
  rfl
set_option maxRecDepth 100000 in
theorem s144_154 {d : Nat} {a1 : Int32} {a2 : Int32} {z3 : Option Value} {r0 : Int32} {σ : PS} : Run false (d + 1) 144 154 [some (.ref 12), some (.int a1), some (.int a2), z3] [.int r0] σ =
    (bif obl (r0 = (nI 0)) then (bif obl ((nI 0) = (nI 0)) then (bif is01 (nI 0) then some (.inl (some (.int (nI 0)), σ)) else none) else aft false (d + 1) 144 260 [some (.ref 12), some (.int a1), some (.int a2), some (.int (nI 0))] [] (Run false d 142 0 [some (.ref 12), some (.int (nI 59))] [] σ)) else aft false (d + 1) 144 162 [some (.ref 12), some (.int a1), some (.int a2), z3] [] (Run false d 147 0 [some (.ref 12), some (.int (nI 0)), none, none] [] σ)) := by
  rw [Run_go [24, 32, 40, 45, 79, 93, 102, 148, 154, 162, 174, 191, 199, 211, 215, 219, 226, 230, 237, 241, 249, 260] 10]
  rfl
set_option maxRecDepth 100000 in
theorem s144_162 {d : Nat} {a1 : Int32} {a2 : Int32} {z3 : Option Value} {r0 : Int32} {σ : PS} : Run false (d + 1) 144 162 [some (.ref 12), some (.int a1), some (.int a2), z3] [.int r0] σ =
    (bif obl (r0 = (nI 0)) then (bif obl ((nI 0) = (nI 0)) then (bif is01 (nI 0) then some (.inl (some (.int (nI 0)), σ)) else none) else aft false (d + 1) 144 260 [some (.ref 12), some (.int a1), some (.int a2), some (.int (nI 0))] [] (Run false d 142 0 [some (.ref 12), some (.int (nI 59))] [] σ)) else (bif obl ((nI 1) = (nI 0)) then (bif is01 (nI 0) then some (.inl (some (.int (nI 0)), σ)) else none) else aft false (d + 1) 144 260 [some (.ref 12), some (.int a1), some (.int a2), some (.int (nI 1))] [] (Run false d 142 0 [some (.ref 12), some (.int (nI 59))] [] σ))) := by
  rw [Run_go [24, 32, 40, 45, 79, 93, 102, 148, 154, 162, 174, 191, 199, 211, 215, 219, 226, 230, 237, 241, 249, 260] 11]
  rfl
set_option maxRecDepth 100000 in
theorem s144_174 {d : Nat} {a1 : Int32} {a2 : Int32} {z3 : Option Value} {σ : PS} : Run false (d + 1) 144 174 [some (.ref 12), some (.int a1), some (.int a2), z3] [] σ =
    (bif obl ((FI σ 12 5) = (nI 220)) then aft false (d + 1) 144 191 [some (.ref 12), some (.int a1), some (.int a2), z3] [] (Run false d 142 0 [some (.ref 12), some (.int (nI 220))] [] σ) else (bif obl ((nI 1) = (nI 0)) then (bif is01 (nI 0) then some (.inl (some (.int (nI 0)), σ)) else none) else aft false (d + 1) 144 260 [some (.ref 12), some (.int a1), some (.int a2), some (.int (nI 1))] [] (Run false d 142 0 [some (.ref 12), some (.int (nI 59))] [] σ))) := by
  rw [Run_go [24, 32, 40, 45, 79, 93, 102, 148, 154, 162, 174, 191, 199, 211, 215, 219, 226, 230, 237, 241, 249, 260] 14]
  rfl
set_option maxRecDepth 100000 in
theorem s144_191 {d : Nat} {a1 : Int32} {a2 : Int32} {z3 : Option Value} {r0 : Int32} {σ : PS} : Run false (d + 1) 144 191 [some (.ref 12), some (.int a1), some (.int a2), z3] [.int r0] σ =
    (bif obl (r0 = (nI 0)) then (bif obl ((nI 0) = (nI 0)) then (bif is01 (nI 0) then some (.inl (some (.int (nI 0)), σ)) else none) else aft false (d + 1) 144 260 [some (.ref 12), some (.int a1), some (.int a2), some (.int (nI 0))] [] (Run false d 142 0 [some (.ref 12), some (.int (nI 59))] [] σ)) else aft false (d + 1) 144 199 [some (.ref 12), some (.int a1), some (.int a2), z3] [] (Run false d 151 0 [some (.ref 12), some (.int (nI 0)), none] [] σ)) := by
  rw [Run_go [24, 32, 40, 45, 79, 93, 102, 148, 154, 162, 174, 191, 199, 211, 215, 219, 226, 230, 237, 241, 249, 260] 10]
  rfl
set_option maxRecDepth 100000 in
theorem s144_199 {d : Nat} {a1 : Int32} {a2 : Int32} {z3 : Option Value} {r0 : Int32} {σ : PS} : Run false (d + 1) 144 199 [some (.ref 12), some (.int a1), some (.int a2), z3] [.int r0] σ =
    (bif obl (r0 = (nI 0)) then (bif obl ((nI 0) = (nI 0)) then (bif is01 (nI 0) then some (.inl (some (.int (nI 0)), σ)) else none) else aft false (d + 1) 144 260 [some (.ref 12), some (.int a1), some (.int a2), some (.int (nI 0))] [] (Run false d 142 0 [some (.ref 12), some (.int (nI 59))] [] σ)) else (bif obl ((nI 1) = (nI 0)) then (bif is01 (nI 0) then some (.inl (some (.int (nI 0)), σ)) else none) else aft false (d + 1) 144 260 [some (.ref 12), some (.int a1), some (.int a2), some (.int (nI 1))] [] (Run false d 142 0 [some (.ref 12), some (.int (nI 59))] [] σ))) := by
  rw [Run_go [24, 32, 40, 45, 79, 93, 102, 148, 154, 162, 174, 191, 199, 211, 215, 219, 226, 230, 237, 241, 249, 260] 11]
  rfl
theorem s144_211 {d : Nat} {a1 : Int32} {a2 : Int32} {z3 : Option Value} {σ : PS} : Run false (d + 1) 144 211 [some (.ref 12), some (.int a1), some (.int a2), z3] [] σ =
    aft false (d + 1) 144 215 [some (.ref 12), some (.int a1), some (.int a2), z3] [] (Run false d 145 0 [some (.ref 12)] [] σ) := by
  rw [Run_go [24, 32, 40, 45, 79, 93, 102, 148, 154, 162, 174, 191, 199, 211, 215, 219, 226, 230, 237, 241, 249, 260] 3]
  rfl
set_option maxRecDepth 100000 in
theorem s144_215 {d : Nat} {a1 : Int32} {a2 : Int32} {z3 : Option Value} {r0 : Int32} {σ : PS} : Run false (d + 1) 144 215 [some (.ref 12), some (.int a1), some (.int a2), z3] [.int r0] σ =
    (bif obl (r0 = (nI 0)) then (bif is01 (nI 0) then some (.inl (some (.int (nI 0)), σ)) else none) else aft false (d + 1) 144 260 [some (.ref 12), some (.int a1), some (.int a2), some (.int r0)] [] (Run false d 142 0 [some (.ref 12), some (.int (nI 59))] [] σ)) := by
  rw [Run_go [24, 32, 40, 45, 79, 93, 102, 148, 154, 162, 174, 191, 199, 211, 215, 219, 226, 230, 237, 241, 249, 260] 8]
  rfl
theorem s144_219 {d : Nat} {a1 : Int32} {a2 : Int32} {z3 : Option Value} {σ : PS} : Run false (d + 1) 144 219 [some (.ref 12), some (.int a1), some (.int a2), z3] [] σ =
    aft false (d + 1) 144 226 [some (.ref 12), some (.int a1), some (.int a2), z3] [] (Run false d 146 0 [some (.ref 12), some (.int (nI 1)), some (.int (nI 50))] [] σ) := by
  rw [Run_go [24, 32, 40, 45, 79, 93, 102, 148, 154, 162, 174, 191, 199, 211, 215, 219, 226, 230, 237, 241, 249, 260] 5]
  rfl
set_option maxRecDepth 100000 in
theorem s144_226 {d : Nat} {a1 : Int32} {a2 : Int32} {z3 : Option Value} {r0 : Int32} {σ : PS} : Run false (d + 1) 144 226 [some (.ref 12), some (.int a1), some (.int a2), z3] [.int r0] σ =
    (bif obl (r0 = (nI 0)) then (bif is01 (nI 0) then some (.inl (some (.int (nI 0)), σ)) else none) else aft false (d + 1) 144 260 [some (.ref 12), some (.int a1), some (.int a2), some (.int r0)] [] (Run false d 142 0 [some (.ref 12), some (.int (nI 59))] [] σ)) := by
  rw [Run_go [24, 32, 40, 45, 79, 93, 102, 148, 154, 162, 174, 191, 199, 211, 215, 219, 226, 230, 237, 241, 249, 260] 8]
  rfl
theorem s144_230 {d : Nat} {a1 : Int32} {a2 : Int32} {z3 : Option Value} {σ : PS} : Run false (d + 1) 144 230 [some (.ref 12), some (.int a1), some (.int a2), z3] [] σ =
    aft false (d + 1) 144 237 [some (.ref 12), some (.int a1), some (.int a2), z3] [] (Run false d 146 0 [some (.ref 12), some (.int (nI 0)), some (.int (nI 100))] [] σ) := by
  rw [Run_go [24, 32, 40, 45, 79, 93, 102, 148, 154, 162, 174, 191, 199, 211, 215, 219, 226, 230, 237, 241, 249, 260] 5]
  rfl
set_option maxRecDepth 100000 in
theorem s144_237 {d : Nat} {a1 : Int32} {a2 : Int32} {z3 : Option Value} {r0 : Int32} {σ : PS} : Run false (d + 1) 144 237 [some (.ref 12), some (.int a1), some (.int a2), z3] [.int r0] σ =
    (bif obl (r0 = (nI 0)) then (bif is01 (nI 0) then some (.inl (some (.int (nI 0)), σ)) else none) else aft false (d + 1) 144 260 [some (.ref 12), some (.int a1), some (.int a2), some (.int r0)] [] (Run false d 142 0 [some (.ref 12), some (.int (nI 59))] [] σ)) := by
  rw [Run_go [24, 32, 40, 45, 79, 93, 102, 148, 154, 162, 174, 191, 199, 211, 215, 219, 226, 230, 237, 241, 249, 260] 8]
  rfl
theorem s144_241 {d : Nat} {a1 : Int32} {a2 : Int32} {z3 : Option Value} {σ : PS} : Run false (d + 1) 144 241 [some (.ref 12), some (.int a1), some (.int a2), z3] [] σ =
    aft false (d + 1) 144 249 [some (.ref 12), some (.int a1), some (.int a2), z3] [] (Run false d 146 0 [some (.ref 12), some (.int (nI 0)), some (.int (nI 9999))] [] σ) := by
  rw [Run_go [24, 32, 40, 45, 79, 93, 102, 148, 154, 162, 174, 191, 199, 211, 215, 219, 226, 230, 237, 241, 249, 260] 5]
  rfl
theorem s144_249 {d : Nat} {a1 : Int32} {a2 : Int32} {z3 : Option Value} {r0 : Int32} {σ : PS} : Run false (d + 1) 144 249 [some (.ref 12), some (.int a1), some (.int a2), z3] [.int r0] σ =
    (bif obl (r0 = (nI 0)) then (bif is01 (nI 0) then some (.inl (some (.int (nI 0)), σ)) else none) else aft false (d + 1) 144 260 [some (.ref 12), some (.int a1), some (.int a2), some (.int r0)] [] (Run false d 142 0 [some (.ref 12), some (.int (nI 59))] [] σ)) := by
  rw [Run_go [24, 32, 40, 45, 79, 93, 102, 148, 154, 162, 174, 191, 199, 211, 215, 219, 226, 230, 237, 241, 249, 260] 7]
  rfl
theorem s144_260 {d : Nat} {a1 : Int32} {a2 : Int32} {a3 : Int32} {r0 : Int32} {σ : PS} : Run false (d + 1) 144 260 [some (.ref 12), some (.int a1), some (.int a2), some (.int a3)] [.int r0] σ =
    (bif obl (r0 = (nI 0)) then (bif is01 (nI 0) then some (.inl (some (.int (nI 0)), σ)) else none) else (bif is01 (nI 1) then some (.inl (some (.int (nI 1)), σ)) else none)) := by
  rw [Run_go [24, 32, 40, 45, 79, 93, 102, 148, 154, 162, 174, 191, 199, 211, 215, 219, 226, 230, 237, 241, 249, 260] 5]
  rfl
set_option maxRecDepth 100000 in
theorem s145_0 {d : Nat}  {σ : PS} : Run false (d + 1) 145 0 [some (.ref 12)] [] σ =
    (bif obl ((FI σ 12 5) = (nI 218)) then (bif obl ((FI σ 12 5) = (nI 219)) then aft false (d + 1) 145 48 [some (.ref 12)] [] (Run false d 95 0 [some (.ref 1), some (.int (nI 1))] [] σ) else aft false (d + 1) 145 48 [some (.ref 12)] [] (Run false d 95 0 [some (.ref 1), some (.int (nI 0))] [] σ)) else (bif obl ((FI σ 12 5) = (nI 219)) then (bif obl ((FI σ 12 5) = (nI 219)) then aft false (d + 1) 145 48 [some (.ref 12)] [] (Run false d 95 0 [some (.ref 1), some (.int (nI 1))] [] σ) else aft false (d + 1) 145 48 [some (.ref 12)] [] (Run false d 95 0 [some (.ref 1), some (.int (nI 0))] [] σ)) else aft false (d + 1) 145 25 [some (.ref 12)] [] (Run false d 140 0 [some (.ref 12), some (.int (nI 1))] [] σ))) := by
  rw [Run_go [25, 48, 52] 18]
  rfl
theorem s145_25 {d : Nat} {r0 : Int32} {σ : PS} : Run false (d + 1) 145 25 [some (.ref 12)] [.int r0] σ =
    (bif is01 r0 then some (.inl (some (.int r0), σ)) else none) := by
  rw [Run_go [25, 48, 52] 2]
  rfl
theorem s145_48 {d : Nat}  {σ : PS} : Run false (d + 1) 145 48 [some (.ref 12)] [] σ =
    aft false (d + 1) 145 52 [some (.ref 12)] [] (Run false d 141 0 [some (.ref 12)] [] σ) := by
  rw [Run_go [25, 48, 52] 3]
  rfl
theorem s145_52 {d : Nat}  {σ : PS} : Run false (d + 1) 145 52 [some (.ref 12)] [] σ =
    (bif is01 (nI 1) then some (.inl (some (.int (nI 1)), σ)) else none) := by
  rw [Run_go [25, 48, 52] 3]
  rfl
set_option maxRecDepth 100000 in
theorem s146_0 {d : Nat} {a1 : Int32} {a2 : Int32} {σ : PS} : Run false (d + 1) 146 0 [some (.ref 12), some (.int a1), some (.int a2)] [] σ =
    (bif obl ((FI σ 12 5) = (nI 300)) then (bif obl ((FI σ 12 6) < a1) then aft false (d + 1) 146 37 [some (.ref 12), some (.int a1), some (.int a2)] [] (Run false d 140 0 [some (.ref 12), some (.int (nI 2))] [] σ) else (bif obl ((FI σ 12 6) ≤ a2) then aft false (d + 1) 146 49 [some (.ref 12), some (.int a1), some (.int a2)] [] (Run false d 95 0 [some (.ref 1), some (.int (FI σ 12 6))] [] σ) else aft false (d + 1) 146 37 [some (.ref 12), some (.int a1), some (.int a2)] [] (Run false d 140 0 [some (.ref 12), some (.int (nI 2))] [] σ))) else aft false (d + 1) 146 15 [some (.ref 12), some (.int a1), some (.int a2)] [] (Run false d 140 0 [some (.ref 12), some (.int (nI 1))] [] σ)) := by
  rw [Run_go [15, 37, 49, 53] 18]
  rfl
theorem s146_15 {d : Nat} {a1 : Int32} {a2 : Int32} {r0 : Int32} {σ : PS} : Run false (d + 1) 146 15 [some (.ref 12), some (.int a1), some (.int a2)] [.int r0] σ =
    (bif is01 r0 then some (.inl (some (.int r0), σ)) else none) := by
  rw [Run_go [15, 37, 49, 53] 2]
  rfl
theorem s146_37 {d : Nat} {a1 : Int32} {a2 : Int32} {r0 : Int32} {σ : PS} : Run false (d + 1) 146 37 [some (.ref 12), some (.int a1), some (.int a2)] [.int r0] σ =
    (bif is01 r0 then some (.inl (some (.int r0), σ)) else none) := by
  rw [Run_go [15, 37, 49, 53] 2]
  rfl
theorem s146_49 {d : Nat} {a1 : Int32} {a2 : Int32} {σ : PS} : Run false (d + 1) 146 49 [some (.ref 12), some (.int a1), some (.int a2)] [] σ =
    aft false (d + 1) 146 53 [some (.ref 12), some (.int a1), some (.int a2)] [] (Run false d 141 0 [some (.ref 12)] [] σ) := by
  rw [Run_go [15, 37, 49, 53] 3]
  rfl
theorem s146_53 {d : Nat} {a1 : Int32} {a2 : Int32} {σ : PS} : Run false (d + 1) 146 53 [some (.ref 12), some (.int a1), some (.int a2)] [] σ =
    (bif is01 (nI 1) then some (.inl (some (.int (nI 1)), σ)) else none) := by
  rw [Run_go [15, 37, 49, 53] 3]
  rfl
theorem s147_0 {d : Nat} {a1 : Int32} {σ : PS} : Run false (d + 1) 147 0 [some (.ref 12), some (.int a1), none, none] [] σ =
    aft false (d + 1) 147 5 [some (.ref 12), some (.int a1), none, none] [] (Run false d 148 0 [some (.ref 12), some (.int a1), none, none] [] σ) := by
  rw [Run_go [5, 12, 60, 65, 78] 4]
  rfl
theorem s147_5 {d : Nat} {a1 : Int32} {z2 : Option Value} {z3 : Option Value} {r0 : Int32} {σ : PS} : Run false (d + 1) 147 5 [some (.ref 12), some (.int a1), z2, z3] [.int r0] σ =
    (bif obl (r0 = (nI 0)) then (bif is01 (nI 0) then some (.inl (some (.int (nI 0)), σ)) else none) else Run false (d + 1) 147 12 [some (.ref 12), some (.int a1), some (.int (nI 0)), z3] [] σ) := by
  rw [Run_go [5, 12, 60, 65, 78] 4]
  rfl
set_option maxRecDepth 100000 in
theorem s147_12 {d : Nat} {a1 : Int32} {a2 : Int32} {z3 : Option Value} {σ : PS} : Run false (d + 1) 147 12 [some (.ref 12), some (.int a1), some (.int a2), z3] [] σ =
    (bif obl ((nI 400) ≤ a2) then (bif is01 (nI 1) then some (.inl (some (.int (nI 1)), σ)) else none) else (bif obl ((FI σ 12 5) = (nI 43)) then (bif obl ((FI σ 12 5) = (nI 43)) then aft false (d + 1) 147 60 [some (.ref 12), some (.int a1), some (.int a2), some (.int (nI 10010))] [] (Run false d 141 0 [some (.ref 12)] [] σ) else aft false (d + 1) 147 60 [some (.ref 12), some (.int a1), some (.int a2), some (.int (nI 10011))] [] (Run false d 141 0 [some (.ref 12)] [] σ)) else (bif obl ((FI σ 12 5) = (nI 45)) then (bif obl ((FI σ 12 5) = (nI 43)) then aft false (d + 1) 147 60 [some (.ref 12), some (.int a1), some (.int a2), some (.int (nI 10010))] [] (Run false d 141 0 [some (.ref 12)] [] σ) else aft false (d + 1) 147 60 [some (.ref 12), some (.int a1), some (.int a2), some (.int (nI 10011))] [] (Run false d 141 0 [some (.ref 12)] [] σ)) else (bif is01 (nI 1) then some (.inl (some (.int (nI 1)), σ)) else none)))) := by
  rw [Run_go [5, 12, 60, 65, 78] 21]
  rfl
theorem s147_60 {d : Nat} {a1 : Int32} {a2 : Int32} {a3 : Int32} {σ : PS} : Run false (d + 1) 147 60 [some (.ref 12), some (.int a1), some (.int a2), some (.int a3)] [] σ =
    aft false (d + 1) 147 65 [some (.ref 12), some (.int a1), some (.int a2), some (.int a3)] [] (Run false d 148 0 [some (.ref 12), some (.int a1), none, none] [] σ) := by
  rw [Run_go [5, 12, 60, 65, 78] 4]
  rfl
theorem s147_65 {d : Nat} {a1 : Int32} {a2 : Int32} {a3 : Int32} {r0 : Int32} {σ : PS} : Run false (d + 1) 147 65 [some (.ref 12), some (.int a1), some (.int a2), some (.int a3)] [.int r0] σ =
    (bif obl (r0 = (nI 0)) then (bif is01 (nI 0) then some (.inl (some (.int (nI 0)), σ)) else none) else aft false (d + 1) 147 78 [some (.ref 12), some (.int a1), some (.int a2), some (.int a3)] [] (Run false d 96 0 [some (.ref 1), some (.int a3)] [] σ)) := by
  rw [Run_go [5, 12, 60, 65, 78] 6]
  rfl
theorem s147_78 {d : Nat} {a1 : Int32} {a2 : Int32} {a3 : Int32} {σ : PS} : Run false (d + 1) 147 78 [some (.ref 12), some (.int a1), some (.int a2), some (.int a3)] [] σ =
    Run false (d + 1) 147 12 [some (.ref 12), some (.int a1), some (.int (a2 + (nI 1))), some (.int a3)] [] σ := by
  rw [Run_go [5, 12, 60, 65, 78] 3]
  rfl
theorem s148_0 {d : Nat} {a1 : Int32} {σ : PS} : Run false (d + 1) 148 0 [some (.ref 12), some (.int a1), none, none] [] σ =
    aft false (d + 1) 148 5 [some (.ref 12), some (.int a1), none, none] [] (Run false d 149 0 [some (.ref 12), some (.int a1), none] [] σ) := by
  rw [Run_go [5, 12, 60, 65, 78] 4]
  rfl
theorem s148_5 {d : Nat} {a1 : Int32} {z2 : Option Value} {z3 : Option Value} {r0 : Int32} {σ : PS} : Run false (d + 1) 148 5 [some (.ref 12), some (.int a1), z2, z3] [.int r0] σ =
    (bif obl (r0 = (nI 0)) then (bif is01 (nI 0) then some (.inl (some (.int (nI 0)), σ)) else none) else Run false (d + 1) 148 12 [some (.ref 12), some (.int a1), some (.int (nI 0)), z3] [] σ) := by
  rw [Run_go [5, 12, 60, 65, 78] 4]
  rfl
set_option maxRecDepth 100000 in
theorem s148_12 {d : Nat} {a1 : Int32} {a2 : Int32} {z3 : Option Value} {σ : PS} : Run false (d + 1) 148 12 [some (.ref 12), some (.int a1), some (.int a2), z3] [] σ =
    (bif obl ((nI 400) ≤ a2) then (bif is01 (nI 1) then some (.inl (some (.int (nI 1)), σ)) else none) else (bif obl ((FI σ 12 5) = (nI 42)) then (bif obl ((FI σ 12 5) = (nI 42)) then aft false (d + 1) 148 60 [some (.ref 12), some (.int a1), some (.int a2), some (.int (nI 10012))] [] (Run false d 141 0 [some (.ref 12)] [] σ) else aft false (d + 1) 148 60 [some (.ref 12), some (.int a1), some (.int a2), some (.int (nI 10013))] [] (Run false d 141 0 [some (.ref 12)] [] σ)) else (bif obl ((FI σ 12 5) = (nI 47)) then (bif obl ((FI σ 12 5) = (nI 42)) then aft false (d + 1) 148 60 [some (.ref 12), some (.int a1), some (.int a2), some (.int (nI 10012))] [] (Run false d 141 0 [some (.ref 12)] [] σ) else aft false (d + 1) 148 60 [some (.ref 12), some (.int a1), some (.int a2), some (.int (nI 10013))] [] (Run false d 141 0 [some (.ref 12)] [] σ)) else (bif is01 (nI 1) then some (.inl (some (.int (nI 1)), σ)) else none)))) := by
  rw [Run_go [5, 12, 60, 65, 78] 21]
  rfl
theorem s148_60 {d : Nat} {a1 : Int32} {a2 : Int32} {a3 : Int32} {σ : PS} : Run false (d + 1) 148 60 [some (.ref 12), some (.int a1), some (.int a2), some (.int a3)] [] σ =
    aft false (d + 1) 148 65 [some (.ref 12), some (.int a1), some (.int a2), some (.int a3)] [] (Run false d 149 0 [some (.ref 12), some (.int a1), none] [] σ) := by
  rw [Run_go [5, 12, 60, 65, 78] 4]
  rfl
theorem s148_65 {d : Nat} {a1 : Int32} {a2 : Int32} {a3 : Int32} {r0 : Int32} {σ : PS} : Run false (d + 1) 148 65 [some (.ref 12), some (.int a1), some (.int a2), some (.int a3)] [.int r0] σ =
    (bif obl (r0 = (nI 0)) then (bif is01 (nI 0) then some (.inl (some (.int (nI 0)), σ)) else none) else aft false (d + 1) 148 78 [some (.ref 12), some (.int a1), some (.int a2), some (.int a3)] [] (Run false d 96 0 [some (.ref 1), some (.int a3)] [] σ)) := by
  rw [Run_go [5, 12, 60, 65, 78] 6]
  rfl
theorem s148_78 {d : Nat} {a1 : Int32} {a2 : Int32} {a3 : Int32} {σ : PS} : Run false (d + 1) 148 78 [some (.ref 12), some (.int a1), some (.int a2), some (.int a3)] [] σ =
    Run false (d + 1) 148 12 [some (.ref 12), some (.int a1), some (.int (a2 + (nI 1))), some (.int a3)] [] σ := by
  rw [Run_go [5, 12, 60, 65, 78] 3]
  rfl
set_option maxRecDepth 100000 in
theorem s149_0 {d : Nat} {a1 : Int32} {σ : PS} : Run false (d + 1) 149 0 [some (.ref 12), some (.int a1), none] [] σ =
    (bif obl ((FI σ 12 5) = (nI 300)) then (bif obl ((FI σ 12 6) ≤ (nI 9999)) then aft false (d + 1) 149 37 [some (.ref 12), some (.int a1), none] [] (Run false d 96 0 [some (.ref 1), some (.int (FI σ 12 6))] [] σ) else aft false (d + 1) 149 25 [some (.ref 12), some (.int a1), none] [] (Run false d 140 0 [some (.ref 12), some (.int (nI 2))] [] σ)) else (bif obl ((FI σ 12 5) < (nI 205)) then (bif obl ((FI σ 12 5) = (nI 224)) then (bif obl ((FI σ 12 5) = (nI 224)) then aft false (d + 1) 149 132 [some (.ref 12), some (.int a1), some (.int (nI 10014))] [] (Run false d 141 0 [some (.ref 12)] [] σ) else aft false (d + 1) 149 132 [some (.ref 12), some (.int a1), some (.int (nI 10015))] [] (Run false d 141 0 [some (.ref 12)] [] σ)) else (bif obl ((FI σ 12 5) = (nI 225)) then (bif obl ((FI σ 12 5) = (nI 224)) then aft false (d + 1) 149 132 [some (.ref 12), some (.int a1), some (.int (nI 10014))] [] (Run false d 141 0 [some (.ref 12)] [] σ) else aft false (d + 1) 149 132 [some (.ref 12), some (.int a1), some (.int (nI 10015))] [] (Run false d 141 0 [some (.ref 12)] [] σ)) else aft false (d + 1) 149 146 [some (.ref 12), some (.int a1), none] [] (Run false d 143 0 [some (.ref 12), some (.int (nI 40)), some (.int a1)] [] σ))) else (bif obl ((nI 209) < (FI σ 12 5)) then (bif obl ((FI σ 12 5) = (nI 224)) then (bif obl ((FI σ 12 5) = (nI 224)) then aft false (d + 1) 149 132 [some (.ref 12), some (.int a1), some (.int (nI 10014))] [] (Run false d 141 0 [some (.ref 12)] [] σ) else aft false (d + 1) 149 132 [some (.ref 12), some (.int a1), some (.int (nI 10015))] [] (Run false d 141 0 [some (.ref 12)] [] σ)) else (bif obl ((FI σ 12 5) = (nI 225)) then (bif obl ((FI σ 12 5) = (nI 224)) then aft false (d + 1) 149 132 [some (.ref 12), some (.int a1), some (.int (nI 10014))] [] (Run false d 141 0 [some (.ref 12)] [] σ) else aft false (d + 1) 149 132 [some (.ref 12), some (.int a1), some (.int (nI 10015))] [] (Run false d 141 0 [some (.ref 12)] [] σ)) else aft false (d + 1) 149 146 [some (.ref 12), some (.int a1), none] [] (Run false d 143 0 [some (.ref 12), some (.int (nI 40)), some (.int a1)] [] σ))) else aft false (d + 1) 149 82 [some (.ref 12), some (.int a1), none] [] (Run false d 96 0 [some (.ref 1), some (.int (((nI 10000) + (FI σ 12 5)) - (nI 205)))] [] σ)))) := by
  rw [Run_go [25, 37, 41, 82, 86, 132, 138, 146, 156, 165] 30]
  rfl
theorem s149_25 {d : Nat} {a1 : Int32} {z2 : Option Value} {r0 : Int32} {σ : PS} : Run false (d + 1) 149 25 [some (.ref 12), some (.int a1), z2] [.int r0] σ =
    (bif is01 r0 then some (.inl (some (.int r0), σ)) else none) := by
  rw [Run_go [25, 37, 41, 82, 86, 132, 138, 146, 156, 165] 2]
  rfl
theorem s149_37 {d : Nat} {a1 : Int32} {z2 : Option Value} {σ : PS} : Run false (d + 1) 149 37 [some (.ref 12), some (.int a1), z2] [] σ =
    aft false (d + 1) 149 41 [some (.ref 12), some (.int a1), z2] [] (Run false d 141 0 [some (.ref 12)] [] σ) := by
  rw [Run_go [25, 37, 41, 82, 86, 132, 138, 146, 156, 165] 3]
  rfl
theorem s149_41 {d : Nat} {a1 : Int32} {z2 : Option Value} {σ : PS} : Run false (d + 1) 149 41 [some (.ref 12), some (.int a1), z2] [] σ =
    (bif is01 (nI 1) then some (.inl (some (.int (nI 1)), σ)) else none) := by
  rw [Run_go [25, 37, 41, 82, 86, 132, 138, 146, 156, 165] 3]
  rfl
theorem s149_82 {d : Nat} {a1 : Int32} {z2 : Option Value} {σ : PS} : Run false (d + 1) 149 82 [some (.ref 12), some (.int a1), z2] [] σ =
    aft false (d + 1) 149 86 [some (.ref 12), some (.int a1), z2] [] (Run false d 141 0 [some (.ref 12)] [] σ) := by
  rw [Run_go [25, 37, 41, 82, 86, 132, 138, 146, 156, 165] 3]
  rfl
theorem s149_86 {d : Nat} {a1 : Int32} {z2 : Option Value} {σ : PS} : Run false (d + 1) 149 86 [some (.ref 12), some (.int a1), z2] [] σ =
    (bif is01 (nI 1) then some (.inl (some (.int (nI 1)), σ)) else none) := by
  rw [Run_go [25, 37, 41, 82, 86, 132, 138, 146, 156, 165] 3]
  rfl
theorem s149_132 {d : Nat} {a1 : Int32} {a2 : Int32} {σ : PS} : Run false (d + 1) 149 132 [some (.ref 12), some (.int a1), some (.int a2)] [] σ =
    aft false (d + 1) 149 138 [some (.ref 12), some (.int a1), some (.int a2)] [] (Run false d 150 0 [some (.ref 12), some (.int a1), some (.int a2), none] [] σ) := by
  rw [Run_go [25, 37, 41, 82, 86, 132, 138, 146, 156, 165] 5]
  rfl
theorem s149_138 {d : Nat} {a1 : Int32} {a2 : Int32} {r0 : Int32} {σ : PS} : Run false (d + 1) 149 138 [some (.ref 12), some (.int a1), some (.int a2)] [.int r0] σ =
    (bif is01 r0 then some (.inl (some (.int r0), σ)) else none) := by
  rw [Run_go [25, 37, 41, 82, 86, 132, 138, 146, 156, 165] 2]
  rfl
theorem s149_146 {d : Nat} {a1 : Int32} {z2 : Option Value} {r0 : Int32} {σ : PS} : Run false (d + 1) 149 146 [some (.ref 12), some (.int a1), z2] [.int r0] σ =
    (bif obl (r0 = (nI 0)) then (bif is01 (nI 0) then some (.inl (some (.int (nI 0)), σ)) else none) else aft false (d + 1) 149 156 [some (.ref 12), some (.int a1), z2] [] (Run false d 147 0 [some (.ref 12), some (.int (a1 + (nI 1))), none, none] [] σ)) := by
  rw [Run_go [25, 37, 41, 82, 86, 132, 138, 146, 156, 165] 7]
  rfl
theorem s149_156 {d : Nat} {a1 : Int32} {z2 : Option Value} {r0 : Int32} {σ : PS} : Run false (d + 1) 149 156 [some (.ref 12), some (.int a1), z2] [.int r0] σ =
    (bif obl (r0 = (nI 0)) then (bif is01 (nI 0) then some (.inl (some (.int (nI 0)), σ)) else none) else aft false (d + 1) 149 165 [some (.ref 12), some (.int a1), z2] [] (Run false d 142 0 [some (.ref 12), some (.int (nI 41))] [] σ)) := by
  rw [Run_go [25, 37, 41, 82, 86, 132, 138, 146, 156, 165] 5]
  rfl
theorem s149_165 {d : Nat} {a1 : Int32} {z2 : Option Value} {r0 : Int32} {σ : PS} : Run false (d + 1) 149 165 [some (.ref 12), some (.int a1), z2] [.int r0] σ =
    (bif obl (r0 = (nI 0)) then (bif is01 (nI 0) then some (.inl (some (.int (nI 0)), σ)) else none) else (bif is01 (nI 1) then some (.inl (some (.int (nI 1)), σ)) else none)) := by
  rw [Run_go [25, 37, 41, 82, 86, 132, 138, 146, 156, 165] 5]
  rfl
theorem s150_0 {d : Nat} {a1 : Int32} {a2 : Int32} {σ : PS} : Run false (d + 1) 150 0 [some (.ref 12), some (.int a1), some (.int a2), none] [] σ =
    aft false (d + 1) 150 7 [some (.ref 12), some (.int a1), some (.int a2), none] [] (Run false d 143 0 [some (.ref 12), some (.int (nI 40)), some (.int a1)] [] σ) := by
  rw [Run_go [7, 17, 26, 36, 45, 66] 5]
  rfl
set_option maxRecDepth 100000 in
theorem s150_7 {d : Nat} {a1 : Int32} {a2 : Int32} {z3 : Option Value} {r0 : Int32} {σ : PS} : Run false (d + 1) 150 7 [some (.ref 12), some (.int a1), some (.int a2), z3] [.int r0] σ =
    (bif obl (r0 = (nI 0)) then (bif obl ((nI 0) = (nI 0)) then Run false (d + 1) 150 66 [some (.ref 12), some (.int a1), some (.int a2), some (.int (nI 0))] [] σ else aft false (d + 1) 150 66 [some (.ref 12), some (.int a1), some (.int a2), some (.int (nI 0))] [] (Run false d 96 0 [some (.ref 1), some (.int a2)] [] σ)) else aft false (d + 1) 150 17 [some (.ref 12), some (.int a1), some (.int a2), z3] [] (Run false d 147 0 [some (.ref 12), some (.int (a1 + (nI 1))), none, none] [] σ)) := by
  rw [Run_go [7, 17, 26, 36, 45, 66] 10]
  rfl
set_option maxRecDepth 100000 in
theorem s150_17 {d : Nat} {a1 : Int32} {a2 : Int32} {z3 : Option Value} {r0 : Int32} {σ : PS} : Run false (d + 1) 150 17 [some (.ref 12), some (.int a1), some (.int a2), z3] [.int r0] σ =
    (bif obl (r0 = (nI 0)) then (bif obl ((nI 0) = (nI 0)) then Run false (d + 1) 150 66 [some (.ref 12), some (.int a1), some (.int a2), some (.int (nI 0))] [] σ else aft false (d + 1) 150 66 [some (.ref 12), some (.int a1), some (.int a2), some (.int (nI 0))] [] (Run false d 96 0 [some (.ref 1), some (.int a2)] [] σ)) else aft false (d + 1) 150 26 [some (.ref 12), some (.int a1), some (.int a2), z3] [] (Run false d 142 0 [some (.ref 12), some (.int (nI 44))] [] σ)) := by
  rw [Run_go [7, 17, 26, 36, 45, 66] 10]
  rfl
set_option maxRecDepth 100000 in
theorem s150_26 {d : Nat} {a1 : Int32} {a2 : Int32} {z3 : Option Value} {r0 : Int32} {σ : PS} : Run false (d + 1) 150 26 [some (.ref 12), some (.int a1), some (.int a2), z3] [.int r0] σ =
    (bif obl (r0 = (nI 0)) then (bif obl ((nI 0) = (nI 0)) then Run false (d + 1) 150 66 [some (.ref 12), some (.int a1), some (.int a2), some (.int (nI 0))] [] σ else aft false (d + 1) 150 66 [some (.ref 12), some (.int a1), some (.int a2), some (.int (nI 0))] [] (Run false d 96 0 [some (.ref 1), some (.int a2)] [] σ)) else aft false (d + 1) 150 36 [some (.ref 12), some (.int a1), some (.int a2), z3] [] (Run false d 147 0 [some (.ref 12), some (.int (a1 + (nI 1))), none, none] [] σ)) := by
  rw [Run_go [7, 17, 26, 36, 45, 66] 10]
  rfl
set_option maxRecDepth 100000 in
theorem s150_36 {d : Nat} {a1 : Int32} {a2 : Int32} {z3 : Option Value} {r0 : Int32} {σ : PS} : Run false (d + 1) 150 36 [some (.ref 12), some (.int a1), some (.int a2), z3] [.int r0] σ =
    (bif obl (r0 = (nI 0)) then (bif obl ((nI 0) = (nI 0)) then Run false (d + 1) 150 66 [some (.ref 12), some (.int a1), some (.int a2), some (.int (nI 0))] [] σ else aft false (d + 1) 150 66 [some (.ref 12), some (.int a1), some (.int a2), some (.int (nI 0))] [] (Run false d 96 0 [some (.ref 1), some (.int a2)] [] σ)) else aft false (d + 1) 150 45 [some (.ref 12), some (.int a1), some (.int a2), z3] [] (Run false d 142 0 [some (.ref 12), some (.int (nI 41))] [] σ)) := by
  rw [Run_go [7, 17, 26, 36, 45, 66] 10]
  rfl
set_option maxRecDepth 100000 in
theorem s150_45 {d : Nat} {a1 : Int32} {a2 : Int32} {z3 : Option Value} {r0 : Int32} {σ : PS} : Run false (d + 1) 150 45 [some (.ref 12), some (.int a1), some (.int a2), z3] [.int r0] σ =
    (bif obl (r0 = (nI 0)) then (bif obl ((nI 0) = (nI 0)) then Run false (d + 1) 150 66 [some (.ref 12), some (.int a1), some (.int a2), some (.int (nI 0))] [] σ else aft false (d + 1) 150 66 [some (.ref 12), some (.int a1), some (.int a2), some (.int (nI 0))] [] (Run false d 96 0 [some (.ref 1), some (.int a2)] [] σ)) else (bif obl ((nI 1) = (nI 0)) then Run false (d + 1) 150 66 [some (.ref 12), some (.int a1), some (.int a2), some (.int (nI 1))] [] σ else aft false (d + 1) 150 66 [some (.ref 12), some (.int a1), some (.int a2), some (.int (nI 1))] [] (Run false d 96 0 [some (.ref 1), some (.int a2)] [] σ))) := by
  rw [Run_go [7, 17, 26, 36, 45, 66] 11]
  rfl
theorem s150_66 {d : Nat} {a1 : Int32} {a2 : Int32} {a3 : Int32} {σ : PS} : Run false (d + 1) 150 66 [some (.ref 12), some (.int a1), some (.int a2), some (.int a3)] [] σ =
    (bif is01 a3 then some (.inl (some (.int a3), σ)) else none) := by
  rw [Run_go [7, 17, 26, 36, 45, 66] 3]
  rfl
theorem s151_0 {d : Nat} {a1 : Int32} {σ : PS} : Run false (d + 1) 151 0 [some (.ref 12), some (.int a1), none] [] σ =
    aft false (d + 1) 151 5 [some (.ref 12), some (.int a1), none] [] (Run false d 152 0 [some (.ref 12), some (.int a1), none] [] σ) := by
  rw [Run_go [5, 12, 33, 38, 53] 4]
  rfl
theorem s151_5 {d : Nat} {a1 : Int32} {z2 : Option Value} {r0 : Int32} {σ : PS} : Run false (d + 1) 151 5 [some (.ref 12), some (.int a1), z2] [.int r0] σ =
    (bif obl (r0 = (nI 0)) then (bif is01 (nI 0) then some (.inl (some (.int (nI 0)), σ)) else none) else Run false (d + 1) 151 12 [some (.ref 12), some (.int a1), some (.int (nI 0))] [] σ) := by
  rw [Run_go [5, 12, 33, 38, 53] 4]
  rfl
set_option maxRecDepth 100000 in
theorem s151_12 {d : Nat} {a1 : Int32} {a2 : Int32} {σ : PS} : Run false (d + 1) 151 12 [some (.ref 12), some (.int a1), some (.int a2)] [] σ =
    (bif obl ((nI 400) ≤ a2) then (bif is01 (nI 1) then some (.inl (some (.int (nI 1)), σ)) else none) else (bif obl ((FI σ 12 5) = (nI 221)) then aft false (d + 1) 151 33 [some (.ref 12), some (.int a1), some (.int a2)] [] (Run false d 141 0 [some (.ref 12)] [] σ) else (bif is01 (nI 1) then some (.inl (some (.int (nI 1)), σ)) else none))) := by
  rw [Run_go [5, 12, 33, 38, 53] 10]
  rfl
theorem s151_33 {d : Nat} {a1 : Int32} {a2 : Int32} {σ : PS} : Run false (d + 1) 151 33 [some (.ref 12), some (.int a1), some (.int a2)] [] σ =
    aft false (d + 1) 151 38 [some (.ref 12), some (.int a1), some (.int a2)] [] (Run false d 152 0 [some (.ref 12), some (.int a1), none] [] σ) := by
  rw [Run_go [5, 12, 33, 38, 53] 4]
  rfl
theorem s151_38 {d : Nat} {a1 : Int32} {a2 : Int32} {r0 : Int32} {σ : PS} : Run false (d + 1) 151 38 [some (.ref 12), some (.int a1), some (.int a2)] [.int r0] σ =
    (bif obl (r0 = (nI 0)) then (bif is01 (nI 0) then some (.inl (some (.int (nI 0)), σ)) else none) else aft false (d + 1) 151 53 [some (.ref 12), some (.int a1), some (.int a2)] [] (Run false d 96 0 [some (.ref 1), some (.int (nI 10020))] [] σ)) := by
  rw [Run_go [5, 12, 33, 38, 53] 6]
  rfl
theorem s151_53 {d : Nat} {a1 : Int32} {a2 : Int32} {σ : PS} : Run false (d + 1) 151 53 [some (.ref 12), some (.int a1), some (.int a2)] [] σ =
    Run false (d + 1) 151 12 [some (.ref 12), some (.int a1), some (.int (a2 + (nI 1)))] [] σ := by
  rw [Run_go [5, 12, 33, 38, 53] 3]
  rfl
theorem s152_0 {d : Nat} {a1 : Int32} {σ : PS} : Run false (d + 1) 152 0 [some (.ref 12), some (.int a1), none] [] σ =
    aft false (d + 1) 152 5 [some (.ref 12), some (.int a1), none] [] (Run false d 153 0 [some (.ref 12), some (.int a1), none] [] σ) := by
  rw [Run_go [5, 12, 33, 38, 53] 4]
  rfl
theorem s152_5 {d : Nat} {a1 : Int32} {z2 : Option Value} {r0 : Int32} {σ : PS} : Run false (d + 1) 152 5 [some (.ref 12), some (.int a1), z2] [.int r0] σ =
    (bif obl (r0 = (nI 0)) then (bif is01 (nI 0) then some (.inl (some (.int (nI 0)), σ)) else none) else Run false (d + 1) 152 12 [some (.ref 12), some (.int a1), some (.int (nI 0))] [] σ) := by
  rw [Run_go [5, 12, 33, 38, 53] 4]
  rfl
set_option maxRecDepth 100000 in
theorem s152_12 {d : Nat} {a1 : Int32} {a2 : Int32} {σ : PS} : Run false (d + 1) 152 12 [some (.ref 12), some (.int a1), some (.int a2)] [] σ =
    (bif obl ((nI 400) ≤ a2) then (bif is01 (nI 1) then some (.inl (some (.int (nI 1)), σ)) else none) else (bif obl ((FI σ 12 5) = (nI 222)) then aft false (d + 1) 152 33 [some (.ref 12), some (.int a1), some (.int a2)] [] (Run false d 141 0 [some (.ref 12)] [] σ) else (bif is01 (nI 1) then some (.inl (some (.int (nI 1)), σ)) else none))) := by
  rw [Run_go [5, 12, 33, 38, 53] 10]
  rfl
theorem s152_33 {d : Nat} {a1 : Int32} {a2 : Int32} {σ : PS} : Run false (d + 1) 152 33 [some (.ref 12), some (.int a1), some (.int a2)] [] σ =
    aft false (d + 1) 152 38 [some (.ref 12), some (.int a1), some (.int a2)] [] (Run false d 153 0 [some (.ref 12), some (.int a1), none] [] σ) := by
  rw [Run_go [5, 12, 33, 38, 53] 4]
  rfl
theorem s152_38 {d : Nat} {a1 : Int32} {a2 : Int32} {r0 : Int32} {σ : PS} : Run false (d + 1) 152 38 [some (.ref 12), some (.int a1), some (.int a2)] [.int r0] σ =
    (bif obl (r0 = (nI 0)) then (bif is01 (nI 0) then some (.inl (some (.int (nI 0)), σ)) else none) else aft false (d + 1) 152 53 [some (.ref 12), some (.int a1), some (.int a2)] [] (Run false d 96 0 [some (.ref 1), some (.int (nI 10019))] [] σ)) := by
  rw [Run_go [5, 12, 33, 38, 53] 6]
  rfl
theorem s152_53 {d : Nat} {a1 : Int32} {a2 : Int32} {σ : PS} : Run false (d + 1) 152 53 [some (.ref 12), some (.int a1), some (.int a2)] [] σ =
    Run false (d + 1) 152 12 [some (.ref 12), some (.int a1), some (.int (a2 + (nI 1)))] [] σ := by
  rw [Run_go [5, 12, 33, 38, 53] 3]
  rfl
set_option maxRecDepth 100000 in
theorem s153_0 {d : Nat} {a1 : Int32} {σ : PS} : Run false (d + 1) 153 0 [some (.ref 12), some (.int a1), none] [] σ =
    (bif obl ((FI σ 12 5) = (nI 223)) then aft false (d + 1) 153 18 [some (.ref 12), some (.int a1), none] [] (Run false d 143 0 [some (.ref 12), some (.int (nI 223)), some (.int a1)] [] σ) else (bif obl ((FI σ 12 5) = (nI 91)) then aft false (d + 1) 153 61 [some (.ref 12), some (.int a1), none] [] (Run false d 143 0 [some (.ref 12), some (.int (nI 91)), some (.int a1)] [] σ) else aft false (d + 1) 153 94 [some (.ref 12), some (.int a1), none] [] (Run false d 147 0 [some (.ref 12), some (.int a1), none, none] [] σ))) := by
  rw [Run_go [18, 28, 43, 61, 71, 80, 94, 165, 170, 175, 188] 13]
  rfl
theorem s153_18 {d : Nat} {a1 : Int32} {z2 : Option Value} {r0 : Int32} {σ : PS} : Run false (d + 1) 153 18 [some (.ref 12), some (.int a1), z2] [.int r0] σ =
    (bif obl (r0 = (nI 0)) then (bif is01 (nI 0) then some (.inl (some (.int (nI 0)), σ)) else none) else aft false (d + 1) 153 28 [some (.ref 12), some (.int a1), z2] [] (Run false d 153 0 [some (.ref 12), some (.int (a1 + (nI 1))), none] [] σ)) := by
  rw [Run_go [18, 28, 43, 61, 71, 80, 94, 165, 170, 175, 188] 7]
  rfl
theorem s153_28 {d : Nat} {a1 : Int32} {z2 : Option Value} {r0 : Int32} {σ : PS} : Run false (d + 1) 153 28 [some (.ref 12), some (.int a1), z2] [.int r0] σ =
    (bif obl (r0 = (nI 0)) then (bif is01 (nI 0) then some (.inl (some (.int (nI 0)), σ)) else none) else aft false (d + 1) 153 43 [some (.ref 12), some (.int a1), z2] [] (Run false d 96 0 [some (.ref 1), some (.int (nI 10021))] [] σ)) := by
  rw [Run_go [18, 28, 43, 61, 71, 80, 94, 165, 170, 175, 188] 6]
  rfl
theorem s153_43 {d : Nat} {a1 : Int32} {z2 : Option Value} {σ : PS} : Run false (d + 1) 153 43 [some (.ref 12), some (.int a1), z2] [] σ =
    (bif is01 (nI 1) then some (.inl (some (.int (nI 1)), σ)) else none) := by
  rw [Run_go [18, 28, 43, 61, 71, 80, 94, 165, 170, 175, 188] 3]
  rfl
theorem s153_61 {d : Nat} {a1 : Int32} {z2 : Option Value} {r0 : Int32} {σ : PS} : Run false (d + 1) 153 61 [some (.ref 12), some (.int a1), z2] [.int r0] σ =
    (bif obl (r0 = (nI 0)) then (bif is01 (nI 0) then some (.inl (some (.int (nI 0)), σ)) else none) else aft false (d + 1) 153 71 [some (.ref 12), some (.int a1), z2] [] (Run false d 151 0 [some (.ref 12), some (.int (a1 + (nI 1))), none] [] σ)) := by
  rw [Run_go [18, 28, 43, 61, 71, 80, 94, 165, 170, 175, 188] 7]
  rfl
theorem s153_71 {d : Nat} {a1 : Int32} {z2 : Option Value} {r0 : Int32} {σ : PS} : Run false (d + 1) 153 71 [some (.ref 12), some (.int a1), z2] [.int r0] σ =
    (bif obl (r0 = (nI 0)) then (bif is01 (nI 0) then some (.inl (some (.int (nI 0)), σ)) else none) else aft false (d + 1) 153 80 [some (.ref 12), some (.int a1), z2] [] (Run false d 142 0 [some (.ref 12), some (.int (nI 93))] [] σ)) := by
  rw [Run_go [18, 28, 43, 61, 71, 80, 94, 165, 170, 175, 188] 5]
  rfl
theorem s153_80 {d : Nat} {a1 : Int32} {z2 : Option Value} {r0 : Int32} {σ : PS} : Run false (d + 1) 153 80 [some (.ref 12), some (.int a1), z2] [.int r0] σ =
    (bif obl (r0 = (nI 0)) then (bif is01 (nI 0) then some (.inl (some (.int (nI 0)), σ)) else none) else (bif is01 (nI 1) then some (.inl (some (.int (nI 1)), σ)) else none)) := by
  rw [Run_go [18, 28, 43, 61, 71, 80, 94, 165, 170, 175, 188] 5]
  rfl
set_option maxRecDepth 100000 in
theorem s153_94 {d : Nat} {a1 : Int32} {z2 : Option Value} {r0 : Int32} {σ : PS} : Run false (d + 1) 153 94 [some (.ref 12), some (.int a1), z2] [.int r0] σ =
    (bif obl (r0 = (nI 0)) then (bif is01 (nI 0) then some (.inl (some (.int (nI 0)), σ)) else none) else (bif obl ((FI σ 12 5) = (nI 60)) then (bif obl ((FI σ 12 5) = (nI 60)) then aft false (d + 1) 153 170 [some (.ref 12), some (.int a1), some (.int (nI 10016))] [] (Run false d 141 0 [some (.ref 12)] [] σ) else (bif obl ((FI σ 12 5) = (nI 62)) then aft false (d + 1) 153 170 [some (.ref 12), some (.int a1), some (.int (nI 10016))] [] (Run false d 141 0 [some (.ref 12)] [] σ) else (bif obl ((FI σ 12 5) = (nI 61)) then aft false (d + 1) 153 170 [some (.ref 12), some (.int a1), some (.int (nI 10016))] [] (Run false d 141 0 [some (.ref 12)] [] σ) else aft false (d + 1) 153 165 [some (.ref 12), some (.int a1), some (.int (nI 10016))] [] (Run false d 140 0 [some (.ref 12), some (.int (nI 1))] [] σ)))) else (bif obl ((FI σ 12 5) = (nI 62)) then (bif obl ((FI σ 12 5) = (nI 60)) then aft false (d + 1) 153 170 [some (.ref 12), some (.int a1), some (.int (nI 10017))] [] (Run false d 141 0 [some (.ref 12)] [] σ) else (bif obl ((FI σ 12 5) = (nI 62)) then aft false (d + 1) 153 170 [some (.ref 12), some (.int a1), some (.int (nI 10017))] [] (Run false d 141 0 [some (.ref 12)] [] σ) else (bif obl ((FI σ 12 5) = (nI 61)) then aft false (d + 1) 153 170 [some (.ref 12), some (.int a1), some (.int (nI 10017))] [] (Run false d 141 0 [some (.ref 12)] [] σ) else aft false (d + 1) 153 165 [some (.ref 12), some (.int a1), some (.int (nI 10017))] [] (Run false d 140 0 [some (.ref 12), some (.int (nI 1))] [] σ)))) else (bif obl ((FI σ 12 5) = (nI 60)) then aft false (d + 1) 153 170 [some (.ref 12), some (.int a1), some (.int (nI 10018))] [] (Run false d 141 0 [some (.ref 12)] [] σ) else (bif obl ((FI σ 12 5) = (nI 62)) then aft false (d + 1) 153 170 [some (.ref 12), some (.int a1), some (.int (nI 10018))] [] (Run false d 141 0 [some (.ref 12)] [] σ) else (bif obl ((FI σ 12 5) = (nI 61)) then aft false (d + 1) 153 170 [some (.ref 12), some (.int a1), some (.int (nI 10018))] [] (Run false d 141 0 [some (.ref 12)] [] σ) else aft false (d + 1) 153 165 [some (.ref 12), some (.int a1), some (.int (nI 10018))] [] (Run false d 140 0 [some (.ref 12), some (.int (nI 1))] [] σ))))))) := by
  rw [Run_go [18, 28, 43, 61, 71, 80, 94, 165, 170, 175, 188] 28]
  rfl
theorem s153_165 {d : Nat} {a1 : Int32} {a2 : Int32} {r0 : Int32} {σ : PS} : Run false (d + 1) 153 165 [some (.ref 12), some (.int a1), some (.int a2)] [.int r0] σ =
    (bif is01 r0 then some (.inl (some (.int r0), σ)) else none) := by
  rw [Run_go [18, 28, 43, 61, 71, 80, 94, 165, 170, 175, 188] 2]
  rfl
theorem s153_170 {d : Nat} {a1 : Int32} {a2 : Int32} {σ : PS} : Run false (d + 1) 153 170 [some (.ref 12), some (.int a1), some (.int a2)] [] σ =
    aft false (d + 1) 153 175 [some (.ref 12), some (.int a1), some (.int a2)] [] (Run false d 147 0 [some (.ref 12), some (.int a1), none, none] [] σ) := by
  rw [Run_go [18, 28, 43, 61, 71, 80, 94, 165, 170, 175, 188] 4]
  rfl
theorem s153_175 {d : Nat} {a1 : Int32} {a2 : Int32} {r0 : Int32} {σ : PS} : Run false (d + 1) 153 175 [some (.ref 12), some (.int a1), some (.int a2)] [.int r0] σ =
    (bif obl (r0 = (nI 0)) then (bif is01 (nI 0) then some (.inl (some (.int (nI 0)), σ)) else none) else aft false (d + 1) 153 188 [some (.ref 12), some (.int a1), some (.int a2)] [] (Run false d 96 0 [some (.ref 1), some (.int a2)] [] σ)) := by
  rw [Run_go [18, 28, 43, 61, 71, 80, 94, 165, 170, 175, 188] 6]
  rfl
theorem s153_188 {d : Nat} {a1 : Int32} {a2 : Int32} {σ : PS} : Run false (d + 1) 153 188 [some (.ref 12), some (.int a1), some (.int a2)] [] σ =
    (bif is01 (nI 1) then some (.inl (some (.int (nI 1)), σ)) else none) := by
  rw [Run_go [18, 28, 43, 61, 71, 80, 94, 165, 170, 175, 188] 3]
  rfl
set_option maxRecDepth 100000 in
theorem s155_0 {d : Nat} {a1 : Int32} {a2 : Int32} {a3 : Int32} {a4 : Int32} {σ : PS} : Run false (d + 1) 155 0 [some (.ref 78), some (.int a1), some (.int a2), some (.int a3), some (.int a4)] [] σ =
    (bif obl ((FI σ 78 0) < (nI 60)) then (bif inb (FI σ 78 0) 60 then (bif inb (FI σ 78 0) 60 then (bif inb (FI σ 78 0) 60 then (bif inb (FI σ 78 0) 60 then some (.inl (some (.int ((FI σ 78 0) + (nI 1))), (wFI (wAI (wAI (wAI (wAI σ 79 (FI σ 78 0).toNatClampNeg a1) 80 (FI σ 78 0).toNatClampNeg a2) 81 (FI σ 78 0).toNatClampNeg a3) 82 (FI σ 78 0).toNatClampNeg a4) 78 0 ((FI σ 78 0) + (nI 1))))) else none) else none) else none) else none) else some (.inl (some (.int (-1 : Int32)), σ))) := by
  rw [Run_go [] 38]
  rfl
set_option maxRecDepth 100000 in
theorem s156_0 {d : Nat} {a1 : Int32} {a2 : Int32} {σ : PS} : Run false (d + 1) 156 0 [some (.ref 78), some (.int a1), some (.int a2), none] [] σ =
    Run false (d + 1) 156 12 [some (.ref 78), some (.int a1), some (.int a2), some (.int (nI 0))] [] (wFI (wFI σ 78 1 (nI 0)) 78 2 (nI 0)) := by
  rw [Run_go [12] 9]
  rfl
set_option maxRecDepth 100000 in
theorem s156_12 {d : Nat} {a1 : Int32} {a2 : Int32} {a3 : Int32} {σ : PS} : Run false (d + 1) 156 12 [some (.ref 78), some (.int a1), some (.int a2), some (.int a3)] [] σ =
    (bif obl ((FI σ 78 0) ≤ a3) then some (.inl (none, σ)) else (bif inb a3 60 then (bif obl ((AI σ 79 a3.toNatClampNeg) = a1) then (bif inb a3 60 then (bif obl ((AI σ 80 a3.toNatClampNeg) = a2) then (bif inb a3 60 then (bif inb a3 60 then Run false (d + 1) 156 12 [some (.ref 78), some (.int a1), some (.int a2), some (.int (a3 + (nI 1)))] [] (wFI (wFI σ 78 1 ((FI σ 78 1) + (AI σ 81 a3.toNatClampNeg))) 78 2 ((FI σ 78 2) + (AI σ 82 a3.toNatClampNeg))) else none) else none) else Run false (d + 1) 156 12 [some (.ref 78), some (.int a1), some (.int a2), some (.int (a3 + (nI 1)))] [] σ) else none) else Run false (d + 1) 156 12 [some (.ref 78), some (.int a1), some (.int a2), some (.int (a3 + (nI 1)))] [] σ) else none)) := by
  rw [Run_go [12] 37]
  rfl
theorem s157_0 {d : Nat}  {σ : PS} : Run false (d + 1) 157 0 [some (.ref 78), none] [] σ =
    Run false (d + 1) 157 2 [some (.ref 78), some (.int (nI 0))] [] σ := by
  rw [Run_go [2] 3]
  rfl
set_option maxRecDepth 100000 in
theorem s157_2 {d : Nat} {a1 : Int32} {σ : PS} : Run false (d + 1) 157 2 [some (.ref 78), some (.int a1)] [] σ =
    (bif obl ((nI 500) ≤ a1) then some (.inl (some (.int ((nI 1) + a1)), σ)) else (bif obl (((nI 4) * (FI σ 78 2)) < ((a1 + (nI 1)) * (a1 + (nI 1)))) then some (.inl (some (.int ((nI 1) + a1)), σ)) else Run false (d + 1) 157 2 [some (.ref 78), some (.int (a1 + (nI 1)))] [] σ)) := by
  rw [Run_go [2] 20]
  rfl
theorem s158_0 {d : Nat} {a1 : Int32} {a2 : Int32} {a3 : Int32} {σ : PS} : Run false (d + 1) 158 0 [some (.ref 78), some (.int a1), some (.int a2), some (.int a3)] [] σ =
    aft false (d + 1) 158 6 [some (.ref 78), some (.int a1), some (.int a2), some (.int a3)] [] (Run false d 156 0 [some (.ref 78), some (.int a1), some (.int a2), none] [] σ) := by
  rw [Run_go [6, 28] 5]
  rfl
set_option maxRecDepth 100000 in
theorem s158_6 {d : Nat} {a1 : Int32} {a2 : Int32} {a3 : Int32} {σ : PS} : Run false (d + 1) 158 6 [some (.ref 78), some (.int a1), some (.int a2), some (.int a3)] [] σ =
    (bif obl ((nI 0) < (FI σ 78 1)) then aft false (d + 1) 158 28 [some (.ref 78), some (.int a1), some (.int a2), some (.int a3)] [.int (FI σ 78 2), .int (nI 0), .long (a3.toInt64)] (Run false d 157 0 [some (.ref 78), none] [] σ) else some (.inl (some (.int (-1 : Int32)), σ))) := by
  rw [Run_go [6, 28] 11]
  rfl
set_option maxRecDepth 100000 in
theorem s158_28 {d : Nat} {a1 : Int32} {a2 : Int32} {a3 : Int32} {q0 : Int64} {r1 : Int32} {r2 : Int32} {r3 : Int32} {σ : PS} : Run false (d + 1) 158 28 [some (.ref 78), some (.int a1), some (.int a2), some (.int a3)] [.int r3, .int r2, .int r1, .long q0] σ =
    (bif obl (((FI σ 78 1).toInt64) = lN 0) then none else some (.inl (some (.int (((q0 * ((if r1 < (r2 - r3) then (r2 - r3) else r1).toInt64)) / ((FI σ 78 1).toInt64)).toInt32)), σ))) := by
  rw [Run_go [6, 28] 11]
  rfl
theorem s159_0 {d : Nat} {a1 : Int32} {a2 : Int32} {a3 : Int32} {σ : PS} : Run false (d + 1) 159 0 [some (.ref 78), some (.int a1), some (.int a2), some (.int a3)] [] σ =
    aft false (d + 1) 159 6 [some (.ref 78), some (.int a1), some (.int a2), some (.int a3)] [] (Run false d 156 0 [some (.ref 78), some (.int a1), some (.int a2), none] [] σ) := by
  rw [Run_go [6, 27] 5]
  rfl
set_option maxRecDepth 100000 in
theorem s159_6 {d : Nat} {a1 : Int32} {a2 : Int32} {a3 : Int32} {σ : PS} : Run false (d + 1) 159 6 [some (.ref 78), some (.int a1), some (.int a2), some (.int a3)] [] σ =
    (bif obl ((nI 0) < (FI σ 78 1)) then aft false (d + 1) 159 27 [some (.ref 78), some (.int a1), some (.int a2), some (.int a3)] [.int (FI σ 78 2), .long (a3.toInt64)] (Run false d 157 0 [some (.ref 78), none] [] σ) else some (.inl (some (.int (-1 : Int32)), σ))) := by
  rw [Run_go [6, 27] 10]
  rfl
set_option maxRecDepth 100000 in
theorem s159_27 {d : Nat} {a1 : Int32} {a2 : Int32} {a3 : Int32} {q0 : Int64} {r1 : Int32} {r2 : Int32} {σ : PS} : Run false (d + 1) 159 27 [some (.ref 78), some (.int a1), some (.int a2), some (.int a3)] [.int r2, .int r1, .long q0] σ =
    (bif obl (((FI σ 78 1).toInt64) = lN 0) then none else some (.inl (some (.int (((q0 * ((r1 + r2).toInt64)) / ((FI σ 78 1).toInt64)).toInt32)), σ))) := by
  rw [Run_go [6, 27] 10]
  rfl
theorem s160_0 {d : Nat} {a1 : Int32} {a2 : Int32} {a3 : Int32} {σ : PS} : Run false (d + 1) 160 0 [some (.ref 78), some (.int a1), some (.int a2), some (.int a3), none] [] σ =
    aft false (d + 1) 160 7 [some (.ref 78), some (.int a1), some (.int a2), some (.int a3), none] [] (Run false d 158 0 [some (.ref 78), some (.int a1), some (.int a2), some (.int a3)] [] σ) := by
  rw [Run_go [7, 25] 6]
  rfl
set_option maxRecDepth 100000 in
theorem s160_7 {d : Nat} {a1 : Int32} {a2 : Int32} {a3 : Int32} {z4 : Option Value} {r0 : Int32} {σ : PS} : Run false (d + 1) 160 7 [some (.ref 78), some (.int a1), some (.int a2), some (.int a3), z4] [.int r0] σ =
    (bif obl ((nI 0) ≤ r0) then aft false (d + 1) 160 25 [some (.ref 78), some (.int a1), some (.int a2), some (.int a3), some (.int r0)] [] (Run false d 159 0 [some (.ref 78), some (.int a1), some (.int a2), some (.int a3)] [] σ) else some (.inl (some (.int a3), σ))) := by
  rw [Run_go [7, 25] 9]
  rfl
theorem s160_25 {d : Nat} {a1 : Int32} {a2 : Int32} {a3 : Int32} {a4 : Int32} {r0 : Int32} {σ : PS} : Run false (d + 1) 160 25 [some (.ref 78), some (.int a1), some (.int a2), some (.int a3), some (.int a4)] [.int r0] σ =
    some (.inl (some (.int (r0 - a4)), σ)) := by
  rw [Run_go [7, 25] 4]
  rfl
set_option maxRecDepth 100000 in
theorem s162_0 {d : Nat} {a1 : Int32} {a2 : Int32} {a3 : Int32} {σ : PS} : Run false (d + 1) 162 0 [some (.ref 31), some (.int a1), some (.int a2), some (.int a3)] [] σ =
    (bif obl ((FI σ 31 1) < (nI 60)) then (bif inb (FI σ 31 1) 60 then (bif inb (FI σ 31 1) 60 then (bif inb (FI σ 31 1) 60 then some (.inl (some (.int ((FI σ 31 1) + (nI 1))), (wFI (wAI (wAI (wAI σ 33 (FI σ 31 1).toNatClampNeg a1) 34 (FI σ 31 1).toNatClampNeg a2) 35 (FI σ 31 1).toNatClampNeg a3) 31 1 ((FI σ 31 1) + (nI 1))))) else none) else none) else none) else some (.inl (some (.int (-1 : Int32)), σ))) := by
  rw [Run_go [] 32]
  rfl
theorem s163_0 {d : Nat} {a1 : Int32} {a2 : Int32} {σ : PS} : Run false (d + 1) 163 0 [some (.ref 31), some (.int a1), some (.int a2), none, none, none] [] σ =
    Run false (d + 1) 163 8 [some (.ref 31), some (.int a1), some (.int a2), some (.int (-1 : Int32)), some (.int (-1 : Int32)), some (.int (nI 0))] [] σ := by
  rw [Run_go [8] 7]
  rfl
set_option maxRecDepth 100000 in
theorem s163_8 {d : Nat} {a1 : Int32} {a2 : Int32} {a3 : Int32} {a4 : Int32} {a5 : Int32} {σ : PS} : Run false (d + 1) 163 8 [some (.ref 31), some (.int a1), some (.int a2), some (.int a3), some (.int a4), some (.int a5)] [] σ =
    (bif obl ((FI σ 31 1) ≤ a5) then some (.inl (some (.int a4), σ)) else (bif inb a5 60 then (bif obl ((AI σ 33 a5.toNatClampNeg) = a1) then (bif inb a5 60 then (bif obl (a2 < (AI σ 35 a5.toNatClampNeg)) then Run false (d + 1) 163 8 [some (.ref 31), some (.int a1), some (.int a2), some (.int a3), some (.int a4), some (.int (a5 + (nI 1)))] [] σ else (bif inb a5 60 then (bif obl ((AI σ 35 a5.toNatClampNeg) < a3) then Run false (d + 1) 163 8 [some (.ref 31), some (.int a1), some (.int a2), some (.int a3), some (.int a4), some (.int (a5 + (nI 1)))] [] σ else (bif inb a5 60 then (bif inb a5 60 then Run false (d + 1) 163 8 [some (.ref 31), some (.int a1), some (.int a2), some (.int (AI σ 35 a5.toNatClampNeg)), some (.int (AI σ 34 a5.toNatClampNeg)), some (.int (a5 + (nI 1)))] [] σ else none) else none)) else none)) else none) else Run false (d + 1) 163 8 [some (.ref 31), some (.int a1), some (.int a2), some (.int a3), some (.int a4), some (.int (a5 + (nI 1)))] [] σ) else none)) := by
  rw [Run_go [8] 35]
  rfl
