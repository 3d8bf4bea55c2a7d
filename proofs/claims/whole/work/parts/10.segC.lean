/-! printed by wip/whole/sym.py: what Run does from one cut point to the next; methods 164 to 209 -/
theorem s164_0 {d : Nat}  {σ : PS} : Run false (d + 1) 164 0 [some (.ref 85)] [] σ =
    some (.inl (some (.int (FI σ 85 0)), σ)) := by
  rw [Run_go [] 4]
  rfl
set_option maxRecDepth 100000 in
theorem s165_0 {d : Nat} {a1 : Int32} {a2 : Int32} {σ : PS} : Run false (d + 1) 165 0 [some (.ref 85), some (.int a1), some (.int a2)] [] σ =
    (bif obl (a1 = (nI 0)) then (bif obl ((FI σ 85 0) = (nI 0)) then (bif obl (a2 = (nI 0)) then (bif is01 (nI 1) then some (.inl (some (.int (nI 1)), (wFI σ 85 0 a2))) else none) else (bif is01 (nI 0) then some (.inl (some (.int (nI 0)), (wFI σ 85 0 a2))) else none)) else (bif obl ((FI σ 85 0) = (nI 0)) then (bif is01 (nI 1) then some (.inl (some (.int (nI 1)), σ)) else none) else (bif is01 (nI 0) then some (.inl (some (.int (nI 0)), σ)) else none))) else (bif obl ((FI σ 85 0) = (nI 0)) then (bif is01 (nI 1) then some (.inl (some (.int (nI 1)), σ)) else none) else (bif is01 (nI 0) then some (.inl (some (.int (nI 0)), σ)) else none))) := by
  rw [Run_go [] 15]
  rfl
set_option maxRecDepth 100000 in
theorem s166_0 {d : Nat} {a0 : Int32} {a1 : Int32} {a2 : Int32} {σ : PS} : Run false (d + 1) 166 0 [some (.int a0), some (.int a1), some (.int a2)] [] σ =
    (bif obl (a0 < a1) then (bif is01 (nI 0) then some (.inl (some (.int (nI 0)), σ)) else none) else (bif obl (a2 < a0) then (bif is01 (nI 0) then some (.inl (some (.int (nI 0)), σ)) else none) else (bif is01 (nI 1) then some (.inl (some (.int (nI 1)), σ)) else none))) := by
  rw [Run_go [] 10]
  rfl
set_option maxRecDepth 100000 in
theorem s168_0 {d : Nat} {a1 : Int32} {σ : PS} : Run false (d + 1) 168 0 [some (.ref 85), some (.int a1)] [] σ =
    aft false (d + 1) 168 13 [some (.ref 85), some (.int a1)] [.ref 85] (Run false d 166 0 [some (.int a1), some (.int (nI 0)), some (.int (nI 40))] [] (wFI σ 85 0 (nI 0))) := by
  rw [Run_go [13, 17, 41] 9]
  rfl
theorem s168_13 {d : Nat} {a1 : Int32} {r1 : Int32} {σ : PS} : Run false (d + 1) 168 13 [some (.ref 85), some (.int a1)] [.int r1, .ref 85] σ =
    aft false (d + 1) 168 17 [some (.ref 85), some (.int a1)] [] (Run false d 165 0 [some (.ref 85), some (.int r1), some (.int (nI 1))] [] σ) := by
  rw [Run_go [13, 17, 41] 3]
  rfl
set_option maxRecDepth 100000 in
theorem s168_17 {d : Nat} {a1 : Int32} {r0 : Int32} {σ : PS} : Run false (d + 1) 168 17 [some (.ref 85), some (.int a1)] [.int r0] σ =
    (bif obl (r0 = (nI 0)) then some (.inl (some (.int (nI 0)), σ)) else (bif obl ((nI 40) < ((FI σ 85 1) + a1)) then aft false (d + 1) 168 41 [some (.ref 85), some (.int a1)] [] (Run false d 165 0 [some (.ref 85), some (.int (nI 0)), some (.int (nI 2))] [] σ) else aft false (d + 1) 168 41 [some (.ref 85), some (.int a1)] [] (Run false d 165 0 [some (.ref 85), some (.int (nI 1)), some (.int (nI 2))] [] σ))) := by
  rw [Run_go [13, 17, 41] 13]
  rfl
set_option maxRecDepth 100000 in
theorem s168_41 {d : Nat} {a1 : Int32} {r0 : Int32} {σ : PS} : Run false (d + 1) 168 41 [some (.ref 85), some (.int a1)] [.int r0] σ =
    (bif obl (r0 = (nI 0)) then some (.inl (some (.int (nI 0)), σ)) else some (.inl (some (.int ((FI σ 85 1) + a1)), (wFI σ 85 1 ((FI σ 85 1) + a1))))) := by
  rw [Run_go [13, 17, 41] 11]
  rfl
theorem s169_0 {d : Nat} {a0 : Int32} {σ : PS} : Run false (d + 1) 169 0 [some (.int a0)] [] σ =
    aft false (d + 1) 169 6 [some (.int a0)] [] (Run false d 166 0 [some (.int a0), some (.int (nI 0)), some (.int (nI 4))] [] σ) := by
  rw [Run_go [6] 5]
  rfl
theorem s169_6 {d : Nat} {a0 : Int32} {r0 : Int32} {σ : PS} : Run false (d + 1) 169 6 [some (.int a0)] [.int r0] σ =
    (bif is01 r0 then some (.inl (some (.int r0), σ)) else none) := by
  rw [Run_go [6] 2]
  rfl
theorem s170_0 {d : Nat} {a0 : Int32} {σ : PS} : Run false (d + 1) 170 0 [some (.int a0)] [] σ =
    aft false (d + 1) 170 7 [some (.int a0)] [] (Run false d 166 0 [some (.int a0), some (.int (nI 0)), some (.int (nI 40))] [] σ) := by
  rw [Run_go [7] 5]
  rfl
theorem s170_7 {d : Nat} {a0 : Int32} {r0 : Int32} {σ : PS} : Run false (d + 1) 170 7 [some (.int a0)] [.int r0] σ =
    (bif is01 r0 then some (.inl (some (.int r0), σ)) else none) := by
  rw [Run_go [7] 2]
  rfl
set_option maxRecDepth 100000 in
theorem s171_0 {d : Nat} {a1 : Int32} {a2 : Int32} {a3 : Int32} {a4 : Int32} {a5 : Int32} {σ : PS} : Run false (d + 1) 171 0 [some (.ref 85), some (.int a1), some (.int a2), some (.int a3), some (.int a4), some (.int a5), none, none] [] σ =
    (bif obl (((FI σ 85 2) + (nI 20)) ≤ (nI 400)) then Run false (d + 1) 171 23 [some (.ref 85), some (.int a1), some (.int a2), some (.int a3), some (.int a4), some (.int a5), some (.int (nI 0)), none] [] (wFI σ 85 0 (nI 0)) else some (.inl (some (.int (-1 : Int32)), (wFI σ 85 0 (nI 0))))) := by
  rw [Run_go [23] 12]
  rfl
set_option maxRecDepth 100000 in
theorem s171_23 {d : Nat} {a1 : Int32} {a2 : Int32} {a3 : Int32} {a4 : Int32} {a5 : Int32} {a6 : Int32} {z7 : Option Value} {σ : PS} : Run false (d + 1) 171 23 [some (.ref 85), some (.int a1), some (.int a2), some (.int a3), some (.int a4), some (.int a5), some (.int a6), z7] [] σ =
    (bif obl ((nI 20) ≤ a6) then some (.inl (some (.int (FI σ 85 2)), σ)) else (bif obl ((nI 4) ≤ a6) then (bif obl ((nI 8) ≤ a6) then (bif obl ((nI 12) ≤ a6) then (bif obl ((nI 16) ≤ a6) then (bif obl ((nI 4) = nI 0) then none else (bif inb (FI σ 85 2) 400 then Run false (d + 1) 171 23 [some (.ref 85), some (.int a1), some (.int a2), some (.int a3), some (.int a4), some (.int a5), some (.int (a6 + (nI 1))), some (.int a5)] [] (wFI (wAI σ 86 (FI σ 85 2).toNatClampNeg ((a5 >>> (((nI 24) - ((nI 8) * (a6 - a6 / (nI 4) * (nI 4)))) &&& (31 : Int32))) &&& (nI 255))) 85 2 ((FI σ 85 2) + (nI 1))) else none)) else (bif obl ((nI 4) = nI 0) then none else (bif inb (FI σ 85 2) 400 then Run false (d + 1) 171 23 [some (.ref 85), some (.int a1), some (.int a2), some (.int a3), some (.int a4), some (.int a5), some (.int (a6 + (nI 1))), some (.int a4)] [] (wFI (wAI σ 86 (FI σ 85 2).toNatClampNeg ((a4 >>> (((nI 24) - ((nI 8) * (a6 - a6 / (nI 4) * (nI 4)))) &&& (31 : Int32))) &&& (nI 255))) 85 2 ((FI σ 85 2) + (nI 1))) else none))) else (bif obl ((nI 4) = nI 0) then none else (bif inb (FI σ 85 2) 400 then Run false (d + 1) 171 23 [some (.ref 85), some (.int a1), some (.int a2), some (.int a3), some (.int a4), some (.int a5), some (.int (a6 + (nI 1))), some (.int a3)] [] (wFI (wAI σ 86 (FI σ 85 2).toNatClampNeg ((a3 >>> (((nI 24) - ((nI 8) * (a6 - a6 / (nI 4) * (nI 4)))) &&& (31 : Int32))) &&& (nI 255))) 85 2 ((FI σ 85 2) + (nI 1))) else none))) else (bif obl ((nI 4) = nI 0) then none else (bif inb (FI σ 85 2) 400 then Run false (d + 1) 171 23 [some (.ref 85), some (.int a1), some (.int a2), some (.int a3), some (.int a4), some (.int a5), some (.int (a6 + (nI 1))), some (.int a2)] [] (wFI (wAI σ 86 (FI σ 85 2).toNatClampNeg ((a2 >>> (((nI 24) - ((nI 8) * (a6 - a6 / (nI 4) * (nI 4)))) &&& (31 : Int32))) &&& (nI 255))) 85 2 ((FI σ 85 2) + (nI 1))) else none))) else (bif obl ((nI 4) = nI 0) then none else (bif inb (FI σ 85 2) 400 then Run false (d + 1) 171 23 [some (.ref 85), some (.int a1), some (.int a2), some (.int a3), some (.int a4), some (.int a5), some (.int (a6 + (nI 1))), some (.int a1)] [] (wFI (wAI σ 86 (FI σ 85 2).toNatClampNeg ((a1 >>> (((nI 24) - ((nI 8) * (a6 - a6 / (nI 4) * (nI 4)))) &&& (31 : Int32))) &&& (nI 255))) 85 2 ((FI σ 85 2) + (nI 1))) else none)))) := by
  rw [Run_go [23] 43]
  rfl
set_option maxRecDepth 100000 in
theorem s172_0 {d : Nat}  {σ : PS} : Run false (d + 1) 172 0 [some (.ref 85)] [] σ =
    (bif obl ((FI σ 85 5) = (-1 : Int32)) then (bif is01 (nI 1) then some (.inl (some (.int (nI 1)), σ)) else none) else (bif is01 (nI 0) then some (.inl (some (.int (nI 0)), σ)) else none)) := by
  rw [Run_go [] 8]
  rfl
set_option maxRecDepth 100000 in
theorem s173_0 {d : Nat} {a1 : Int32} {a2 : Int32} {σ : PS} : Run false (d + 1) 173 0 [some (.ref 85), some (.int a1), some (.int a2)] [] σ =
    (bif obl ((FI σ 85 5) = (-1 : Int32)) then some (.inl (none, (wFI (wFI σ 85 5 a2) 85 6 a1))) else some (.inl (none, σ))) := by
  rw [Run_go [] 12]
  rfl
set_option maxRecDepth 100000 in
theorem s174_0 {d : Nat}  {σ : PS} : Run false (d + 1) 174 0 [some (.ref 85)] [] σ =
    (bif obl ((FI σ 85 3) ≤ (FI σ 85 4)) then (bif obl ((FI σ 85 3) ≤ (FI σ 85 4)) then some (.inl (some (.int (nI 0)), σ)) else (bif inb (FI σ 85 4) 400 then some (.inl (some (.int (AI σ 86 (FI σ 85 4).toNatClampNeg)), σ)) else none)) else (bif inb (FI σ 85 4) 400 then (bif obl ((AI σ 86 (FI σ 85 4).toNatClampNeg) = (nI 32)) then Run false (d + 1) 174 0 [some (.ref 85)] [] (wFI σ 85 4 ((FI σ 85 4) + (nI 1))) else (bif obl ((FI σ 85 3) ≤ (FI σ 85 4)) then some (.inl (some (.int (nI 0)), σ)) else (bif inb (FI σ 85 4) 400 then some (.inl (some (.int (AI σ 86 (FI σ 85 4).toNatClampNeg)), σ)) else none))) else none)) := by
  rw [Run_go [0] 25]
  rfl
set_option maxRecDepth 100000 in
theorem s175_0 {d : Nat} {a0 : Int32} {σ : PS} : Run false (d + 1) 175 0 [some (.int a0)] [] σ =
    (bif obl (a0 < (nI 97)) then (bif is01 (nI 0) then some (.inl (some (.int (nI 0)), σ)) else none) else (bif obl ((nI 122) < a0) then (bif is01 (nI 0) then some (.inl (some (.int (nI 0)), σ)) else none) else (bif is01 (nI 1) then some (.inl (some (.int (nI 1)), σ)) else none))) := by
  rw [Run_go [] 10]
  rfl
set_option maxRecDepth 100000 in
theorem s176_0 {d : Nat} {a0 : Int32} {σ : PS} : Run false (d + 1) 176 0 [some (.int a0)] [] σ =
    (bif obl (a0 < (nI 48)) then (bif is01 (nI 0) then some (.inl (some (.int (nI 0)), σ)) else none) else (bif obl ((nI 57) < a0) then (bif is01 (nI 0) then some (.inl (some (.int (nI 0)), σ)) else none) else (bif is01 (nI 1) then some (.inl (some (.int (nI 1)), σ)) else none))) := by
  rw [Run_go [] 10]
  rfl
theorem s177_0 {d : Nat}  {σ : PS} : Run false (d + 1) 177 0 [some (.ref 85), none, none, none, none] [] σ =
    aft false (d + 1) 177 4 [some (.ref 85), none, none, none, none] [] (Run false d 174 0 [some (.ref 85)] [] σ) := by
  rw [Run_go [4, 15, 34] 3]
  rfl
set_option maxRecDepth 100000 in
theorem s177_4 {d : Nat} {z1 : Option Value} {z2 : Option Value} {z3 : Option Value} {z4 : Option Value} {r0 : Int32} {σ : PS} : Run false (d + 1) 177 4 [some (.ref 85), z1, z2, z3, z4] [.int r0] σ =
    Run false (d + 1) 177 15 [some (.ref 85), some (.long (lN 0)), none, some (.int (nI 0)), some (.int (FI σ 85 4))] [] σ := by
  rw [Run_go [4, 15, 34] 9]
  rfl
set_option maxRecDepth 100000 in
theorem s177_15 {d : Nat} {b1 : Int64} {a3 : Int32} {a4 : Int32} {σ : PS} : Run false (d + 1) 177 15 [some (.ref 85), some (.long b1), none, some (.int a3), some (.int a4)] [] σ =
    (bif obl ((FI σ 85 3) ≤ a4) then (bif obl (a3 ≤ (nI 7)) then some (.inl (some (.long b1), σ)) else some (.inl (some (.long (lN 0)), σ))) else (bif inb a4 400 then aft false (d + 1) 177 34 [some (.ref 85), some (.long b1), none, some (.int a3), some (.int a4)] [] (Run false d 175 0 [some (.int (AI σ 86 a4.toNatClampNeg))] [] σ) else none)) := by
  rw [Run_go [4, 15, 34] 11]
  rfl
set_option maxRecDepth 100000 in
theorem s177_34 {d : Nat} {b1 : Int64} {a3 : Int32} {a4 : Int32} {r0 : Int32} {σ : PS} : Run false (d + 1) 177 34 [some (.ref 85), some (.long b1), none, some (.int a3), some (.int a4)] [.int r0] σ =
    (bif obl (r0 = (nI 0)) then (bif obl (a3 ≤ (nI 7)) then some (.inl (some (.long b1), σ)) else some (.inl (some (.long (lN 0)), σ))) else (bif obl ((nI 7) ≤ a3) then Run false (d + 1) 177 15 [some (.ref 85), some (.long (lN 0)), none, some (.int (a3 + (nI 1))), some (.int (a4 + (nI 1)))] [] σ else (bif inb a4 400 then Run false (d + 1) 177 15 [some (.ref 85), some (.long ((b1 <<< ((nI 5).toInt64 &&& 63)) ||| (((AI σ 86 a4.toNatClampNeg) - (nI 96)).toInt64))), none, some (.int (a3 + (nI 1))), some (.int (a4 + (nI 1)))] [] σ else none))) := by
  rw [Run_go [4, 15, 34] 21]
  rfl
set_option maxRecDepth 100000 in
theorem s178_0 {d : Nat}  {σ : PS} : Run false (d + 1) 178 0 [some (.ref 85)] [] σ =
    (bif obl ((FI σ 85 3) ≤ (FI σ 85 4)) then some (.inl (none, σ)) else (bif inb (FI σ 85 4) 400 then aft false (d + 1) 178 23 [some (.ref 85)] [] (Run false d 175 0 [some (.int (AI σ 86 (FI σ 85 4).toNatClampNeg))] [] σ) else none)) := by
  rw [Run_go [0, 23] 12]
  rfl
set_option maxRecDepth 100000 in
theorem s178_23 {d : Nat} {r0 : Int32} {σ : PS} : Run false (d + 1) 178 23 [some (.ref 85)] [.int r0] σ =
    (bif obl (r0 = (nI 0)) then some (.inl (none, σ)) else Run false (d + 1) 178 0 [some (.ref 85)] [] (wFI σ 85 4 ((FI σ 85 4) + (nI 1)))) := by
  rw [Run_go [0, 23] 9]
  rfl
theorem s179_0 {d : Nat} {a1 : Int32} {a2 : Int32} {σ : PS} : Run false (d + 1) 179 0 [some (.ref 85), some (.int a1), some (.int a2), none, none, none] [] σ =
    aft false (d + 1) 179 4 [some (.ref 85), some (.int a1), some (.int a2), none, none, none] [] (Run false d 172 0 [some (.ref 85)] [] σ) := by
  rw [Run_go [4, 13, 27, 39, 41, 64, 120, 130] 3]
  rfl
theorem s179_4 {d : Nat} {a1 : Int32} {a2 : Int32} {z3 : Option Value} {z4 : Option Value} {z5 : Option Value} {r0 : Int32} {σ : PS} : Run false (d + 1) 179 4 [some (.ref 85), some (.int a1), some (.int a2), z3, z4, z5] [.int r0] σ =
    (bif obl (r0 = (nI 0)) then some (.inl (some (.int (nI 0)), σ)) else aft false (d + 1) 179 13 [some (.ref 85), some (.int a1), some (.int a2), z3, z4, z5] [] (Run false d 174 0 [some (.ref 85)] [] σ)) := by
  rw [Run_go [4, 13, 27, 39, 41, 64, 120, 130] 4]
  rfl
set_option maxRecDepth 100000 in
theorem s179_13 {d : Nat} {a1 : Int32} {a2 : Int32} {z3 : Option Value} {z4 : Option Value} {z5 : Option Value} {r0 : Int32} {σ : PS} : Run false (d + 1) 179 13 [some (.ref 85), some (.int a1), some (.int a2), z3, z4, z5] [.int r0] σ =
    aft false (d + 1) 179 27 [some (.ref 85), some (.int a1), some (.int a2), some (.int r0), some (.int (FI σ 85 4)), some (.int (nI 0))] [] (Run false d 176 0 [some (.int r0)] [] σ) := by
  rw [Run_go [4, 13, 27, 39, 41, 64, 120, 130] 9]
  rfl
theorem s179_27 {d : Nat} {a1 : Int32} {a2 : Int32} {a3 : Int32} {a4 : Int32} {a5 : Int32} {r0 : Int32} {σ : PS} : Run false (d + 1) 179 27 [some (.ref 85), some (.int a1), some (.int a2), some (.int a3), some (.int a4), some (.int a5)] [.int r0] σ =
    (bif obl (r0 = (nI 0)) then aft false (d + 1) 179 39 [some (.ref 85), some (.int a1), some (.int a2), some (.int a3), some (.int a4), some (.int a5)] [] (Run false d 173 0 [some (.ref 85), some (.int (nI 1)), some (.int (FI σ 85 4))] [] σ) else Run false (d + 1) 179 41 [some (.ref 85), some (.int a1), some (.int a2), some (.int a3), some (.int a4), some (.int a5)] [] σ) := by
  rw [Run_go [4, 13, 27, 39, 41, 64, 120, 130] 7]
  rfl
theorem s179_39 {d : Nat} {a1 : Int32} {a2 : Int32} {a3 : Int32} {a4 : Int32} {a5 : Int32} {σ : PS} : Run false (d + 1) 179 39 [some (.ref 85), some (.int a1), some (.int a2), some (.int a3), some (.int a4), some (.int a5)] [] σ =
    some (.inl (some (.int (nI 0)), σ)) := by
  rw [Run_go [4, 13, 27, 39, 41, 64, 120, 130] 3]
  rfl
set_option maxRecDepth 100000 in
theorem s179_41 {d : Nat} {a1 : Int32} {a2 : Int32} {a3 : Int32} {a4 : Int32} {a5 : Int32} {σ : PS} : Run false (d + 1) 179 41 [some (.ref 85), some (.int a1), some (.int a2), some (.int a3), some (.int a4), some (.int a5)] [] σ =
    (bif obl ((FI σ 85 3) ≤ (FI σ 85 4)) then aft false (d + 1) 179 120 [some (.ref 85), some (.int a1), some (.int a2), some (.int a3), some (.int a4), some (.int a5)] [] (Run false d 166 0 [some (.int a5), some (.int a1), some (.int a2)] [] σ) else (bif inb (FI σ 85 4) 400 then aft false (d + 1) 179 64 [some (.ref 85), some (.int a1), some (.int a2), some (.int a3), some (.int a4), some (.int a5)] [] (Run false d 176 0 [some (.int (AI σ 86 (FI σ 85 4).toNatClampNeg))] [] σ) else none)) := by
  rw [Run_go [4, 13, 27, 39, 41, 64, 120, 130] 12]
  rfl
set_option maxRecDepth 100000 in
theorem s179_64 {d : Nat} {a1 : Int32} {a2 : Int32} {a3 : Int32} {a4 : Int32} {a5 : Int32} {r0 : Int32} {σ : PS} : Run false (d + 1) 179 64 [some (.ref 85), some (.int a1), some (.int a2), some (.int a3), some (.int a4), some (.int a5)] [.int r0] σ =
    (bif obl (r0 = (nI 0)) then aft false (d + 1) 179 120 [some (.ref 85), some (.int a1), some (.int a2), some (.int a3), some (.int a4), some (.int a5)] [] (Run false d 166 0 [some (.int a5), some (.int a1), some (.int a2)] [] σ) else (bif obl (a5 ≤ (nI 10000)) then (bif inb (FI σ 85 4) 400 then Run false (d + 1) 179 41 [some (.ref 85), some (.int a1), some (.int a2), some (.int a3), some (.int a4), some (.int ((((nI 10) * a5) + (AI σ 86 (FI σ 85 4).toNatClampNeg)) - (nI 48)))] [] (wFI σ 85 4 ((FI σ 85 4) + (nI 1))) else none) else Run false (d + 1) 179 41 [some (.ref 85), some (.int a1), some (.int a2), some (.int a3), some (.int a4), some (.int (nI 100000))] [] (wFI σ 85 4 ((FI σ 85 4) + (nI 1))))) := by
  rw [Run_go [4, 13, 27, 39, 41, 64, 120, 130] 24]
  rfl
theorem s179_120 {d : Nat} {a1 : Int32} {a2 : Int32} {a3 : Int32} {a4 : Int32} {a5 : Int32} {r0 : Int32} {σ : PS} : Run false (d + 1) 179 120 [some (.ref 85), some (.int a1), some (.int a2), some (.int a3), some (.int a4), some (.int a5)] [.int r0] σ =
    (bif obl (r0 = (nI 0)) then aft false (d + 1) 179 130 [some (.ref 85), some (.int a1), some (.int a2), some (.int a3), some (.int a4), some (.int a5)] [] (Run false d 173 0 [some (.ref 85), some (.int (nI 2)), some (.int a4)] [] σ) else Run false (d + 1) 179 130 [some (.ref 85), some (.int a1), some (.int a2), some (.int a3), some (.int a4), some (.int a5)] [] σ) := by
  rw [Run_go [4, 13, 27, 39, 41, 64, 120, 130] 6]
  rfl
theorem s179_130 {d : Nat} {a1 : Int32} {a2 : Int32} {a3 : Int32} {a4 : Int32} {a5 : Int32} {σ : PS} : Run false (d + 1) 179 130 [some (.ref 85), some (.int a1), some (.int a2), some (.int a3), some (.int a4), some (.int a5)] [] σ =
    some (.inl (some (.int a5), σ)) := by
  rw [Run_go [4, 13, 27, 39, 41, 64, 120, 130] 3]
  rfl
theorem s180_0 {d : Nat} {a1 : Int32} {σ : PS} : Run false (d + 1) 180 0 [some (.ref 85), some (.int a1)] [] σ =
    aft false (d + 1) 180 4 [some (.ref 85), some (.int a1)] [] (Run false d 172 0 [some (.ref 85)] [] σ) := by
  rw [Run_go [4, 11, 24, 28] 3]
  rfl
theorem s180_4 {d : Nat} {a1 : Int32} {r0 : Int32} {σ : PS} : Run false (d + 1) 180 4 [some (.ref 85), some (.int a1)] [.int r0] σ =
    (bif obl (r0 = (nI 0)) then Run false (d + 1) 180 24 [some (.ref 85), some (.int a1)] [] σ else aft false (d + 1) 180 11 [some (.ref 85), some (.int a1)] [] (Run false d 174 0 [some (.ref 85)] [] σ)) := by
  rw [Run_go [4, 11, 24, 28] 4]
  rfl
set_option maxRecDepth 100000 in
theorem s180_11 {d : Nat} {a1 : Int32} {r0 : Int32} {σ : PS} : Run false (d + 1) 180 11 [some (.ref 85), some (.int a1)] [.int r0] σ =
    (bif obl (r0 = a1) then Run false (d + 1) 180 24 [some (.ref 85), some (.int a1)] [] σ else aft false (d + 1) 180 24 [some (.ref 85), some (.int a1)] [] (Run false d 173 0 [some (.ref 85), some (.int (nI 1)), some (.int (FI σ 85 4))] [] σ)) := by
  rw [Run_go [4, 11, 24, 28] 8]
  rfl
theorem s180_24 {d : Nat} {a1 : Int32} {σ : PS} : Run false (d + 1) 180 24 [some (.ref 85), some (.int a1)] [] σ =
    aft false (d + 1) 180 28 [some (.ref 85), some (.int a1)] [] (Run false d 172 0 [some (.ref 85)] [] σ) := by
  rw [Run_go [4, 11, 24, 28] 3]
  rfl
set_option maxRecDepth 100000 in
theorem s180_28 {d : Nat} {a1 : Int32} {r0 : Int32} {σ : PS} : Run false (d + 1) 180 28 [some (.ref 85), some (.int a1)] [.int r0] σ =
    (bif obl (r0 = (nI 0)) then some (.inl (none, σ)) else some (.inl (none, (wFI σ 85 4 ((FI σ 85 4) + (nI 1)))))) := by
  rw [Run_go [4, 11, 24, 28] 9]
  rfl
theorem s181_0 {d : Nat} {a1 : Int32} {a2 : Int32} {σ : PS} : Run false (d + 1) 181 0 [some (.ref 85), some (.int a1), some (.int a2)] [] σ =
    aft false (d + 1) 181 4 [some (.ref 85), some (.int a1), some (.int a2)] [] (Run false d 172 0 [some (.ref 85)] [] σ) := by
  rw [Run_go [4] 3]
  rfl
set_option maxRecDepth 100000 in
theorem s181_4 {d : Nat} {a1 : Int32} {a2 : Int32} {r0 : Int32} {σ : PS} : Run false (d + 1) 181 4 [some (.ref 85), some (.int a1), some (.int a2)] [.int r0] σ =
    (bif obl (r0 = (nI 0)) then some (.inl (none, σ)) else (bif inb (((nI 400) * (FI σ 85 9)) + (FI σ 85 8)) 4400 then (bif inb (((nI 400) * (FI σ 85 9)) + (FI σ 85 8)) 4400 then some (.inl (none, (wFI (wAI (wAI σ 94 (((nI 400) * (FI σ 85 9)) + (FI σ 85 8)).toNatClampNeg a1) 95 (((nI 400) * (FI σ 85 9)) + (FI σ 85 8)).toNatClampNeg a2) 85 8 ((FI σ 85 8) + (nI 1))))) else none) else none)) := by
  rw [Run_go [4] 31]
  rfl
theorem s182_0 {d : Nat} {a1 : Int32} {a2 : Int32} {σ : PS} : Run false (d + 1) 182 0 [some (.ref 85), some (.int a1), some (.int a2)] [] σ =
    aft false (d + 1) 182 4 [some (.ref 85), some (.int a1), some (.int a2)] [] (Run false d 172 0 [some (.ref 85)] [] σ) := by
  rw [Run_go [4, 16, 29, 50, 54] 3]
  rfl
set_option maxRecDepth 100000 in
theorem s182_4 {d : Nat} {a1 : Int32} {a2 : Int32} {r0 : Int32} {σ : PS} : Run false (d + 1) 182 4 [some (.ref 85), some (.int a1), some (.int a2)] [.int r0] σ =
    (bif obl (r0 = (nI 0)) then some (.inl (none, σ)) else (bif obl (a1 = (nI 0)) then (bif obl ((FI σ 85 7) = (nI 8)) then aft false (d + 1) 182 50 [some (.ref 85), some (.int a1), some (.int a2)] [] (Run false d 173 0 [some (.ref 85), some (.int (nI 3)), some (.int (FI σ 85 4))] [] σ) else Run false (d + 1) 182 50 [some (.ref 85), some (.int a1), some (.int a2)] [] σ) else aft false (d + 1) 182 16 [some (.ref 85), some (.int a1), some (.int a2)] [] (Run false d 174 0 [some (.ref 85)] [] σ))) := by
  rw [Run_go [4, 16, 29, 50, 54] 13]
  rfl
set_option maxRecDepth 100000 in
theorem s182_16 {d : Nat} {a1 : Int32} {a2 : Int32} {r0 : Int32} {σ : PS} : Run false (d + 1) 182 16 [some (.ref 85), some (.int a1), some (.int a2)] [.int r0] σ =
    (bif obl (r0 = a1) then (bif obl ((FI σ 85 7) = (nI 8)) then aft false (d + 1) 182 50 [some (.ref 85), some (.int a1), some (.int a2)] [] (Run false d 173 0 [some (.ref 85), some (.int (nI 3)), some (.int (FI σ 85 4))] [] σ) else Run false (d + 1) 182 50 [some (.ref 85), some (.int a1), some (.int a2)] [] σ) else aft false (d + 1) 182 29 [some (.ref 85), some (.int a1), some (.int a2)] [] (Run false d 173 0 [some (.ref 85), some (.int (nI 1)), some (.int (FI σ 85 4))] [] σ)) := by
  rw [Run_go [4, 16, 29, 50, 54] 12]
  rfl
theorem s182_29 {d : Nat} {a1 : Int32} {a2 : Int32} {σ : PS} : Run false (d + 1) 182 29 [some (.ref 85), some (.int a1), some (.int a2)] [] σ =
    Run false (d + 1) 182 50 [some (.ref 85), some (.int a1), some (.int a2)] [] σ := by
  rw [Run_go [4, 16, 29, 50, 54] 2]
  rfl
theorem s182_50 {d : Nat} {a1 : Int32} {a2 : Int32} {σ : PS} : Run false (d + 1) 182 50 [some (.ref 85), some (.int a1), some (.int a2)] [] σ =
    aft false (d + 1) 182 54 [some (.ref 85), some (.int a1), some (.int a2)] [] (Run false d 172 0 [some (.ref 85)] [] σ) := by
  rw [Run_go [4, 16, 29, 50, 54] 3]
  rfl
set_option maxRecDepth 100000 in
theorem s182_54 {d : Nat} {a1 : Int32} {a2 : Int32} {r0 : Int32} {σ : PS} : Run false (d + 1) 182 54 [some (.ref 85), some (.int a1), some (.int a2)] [.int r0] σ =
    (bif obl (r0 = (nI 0)) then some (.inl (none, (wFI σ 85 7 ((FI σ 85 7) + (nI 1))))) else some (.inl (none, (wFI (wFI σ 85 4 ((FI σ 85 4) + a2)) 85 7 ((FI σ 85 7) + (nI 1)))))) := by
  rw [Run_go [4, 16, 29, 50, 54] 15]
  rfl
theorem s183_0 {d : Nat} {a1 : Int32} {σ : PS} : Run false (d + 1) 183 0 [some (.ref 85), some (.int a1)] [] σ =
    aft false (d + 1) 183 5 [some (.ref 85), some (.int a1)] [] (Run false d 180 0 [some (.ref 85), some (.int a1)] [] σ) := by
  rw [Run_go [5] 4]
  rfl
set_option maxRecDepth 100000 in
theorem s183_5 {d : Nat} {a1 : Int32} {σ : PS} : Run false (d + 1) 183 5 [some (.ref 85), some (.int a1)] [] σ =
    some (.inl (none, (wFI σ 85 7 ((FI σ 85 7) - (nI 1))))) := by
  rw [Run_go [5] 8]
  rfl
set_option maxRecDepth 100000 in
theorem s184_0 {d : Nat} {b0 : Int64} {σ : PS} : Run false (d + 1) 184 0 [some (.long b0), none] [] σ =
    (bif obl ((lg_cmp b0 (lN 824370)) = (nI 0)) then some (.inl (some (.int (nI 1)), σ)) else (bif obl ((lg_cmp b0 (lN 11842035)) = (nI 0)) then some (.inl (some (.int (nI 2)), σ)) else (bif obl ((lg_cmp b0 (lN 20186693)) = (nI 0)) then some (.inl (some (.int (nI 3)), σ)) else (bif obl ((lg_cmp b0 (lN 7931315)) = (nI 0)) then some (.inl (some (.int (nI 4)), σ)) else (bif obl ((lg_cmp b0 (lN 404526675)) = (nI 0)) then some (.inl (some (.int (nI 5)), σ)) else some (.inl (some (.int (-1 : Int32)), σ))))))) := by
  rw [Run_go [] 24]
  rfl
theorem s185_0 {d : Nat}  {σ : PS} : Run false (d + 1) 185 0 [some (.ref 85), none, none, none] [] σ =
    aft false (d + 1) 185 4 [some (.ref 85), none, none, none] [] (Run false d 172 0 [some (.ref 85)] [] σ) := by
  rw [Run_go [4, 12, 17, 30, 33, 47, 51, 57, 62, 83, 90, 94, 100, 104, 110, 130, 137, 150, 157, 162, 166] 3]
  rfl
theorem s185_4 {d : Nat} {z1 : Option Value} {z2 : Option Value} {z3 : Option Value} {r0 : Int32} {σ : PS} : Run false (d + 1) 185 4 [some (.ref 85), z1, z2, z3] [.int r0] σ =
    (bif obl (r0 = (nI 0)) then some (.inl (none, σ)) else aft false (d + 1) 185 12 [some (.ref 85), z1, z2, z3] [] (Run false d 174 0 [some (.ref 85)] [] σ)) := by
  rw [Run_go [4, 12, 17, 30, 33, 47, 51, 57, 62, 83, 90, 94, 100, 104, 110, 130, 137, 150, 157, 162, 166] 4]
  rfl
theorem s185_12 {d : Nat} {z1 : Option Value} {z2 : Option Value} {z3 : Option Value} {r0 : Int32} {σ : PS} : Run false (d + 1) 185 12 [some (.ref 85), z1, z2, z3] [.int r0] σ =
    aft false (d + 1) 185 17 [some (.ref 85), some (.int r0), z2, z3] [] (Run false d 176 0 [some (.int r0)] [] σ) := by
  rw [Run_go [4, 12, 17, 30, 33, 47, 51, 57, 62, 83, 90, 94, 100, 104, 110, 130, 137, 150, 157, 162, 166] 4]
  rfl
set_option maxRecDepth 100000 in
theorem s185_17 {d : Nat} {a1 : Int32} {z2 : Option Value} {z3 : Option Value} {r0 : Int32} {σ : PS} : Run false (d + 1) 185 17 [some (.ref 85), some (.int a1), z2, z3] [.int r0] σ =
    (bif obl (r0 = (nI 0)) then (bif obl (a1 = (nI 40)) then aft false (d + 1) 185 47 [some (.ref 85), some (.int a1), z2, z3] [] (Run false d 182 0 [some (.ref 85), some (.int (nI 40)), some (.int (nI 1))] [] σ) else aft false (d + 1) 185 62 [some (.ref 85), some (.int a1), z2, z3] [] (Run false d 177 0 [some (.ref 85), none, none, none, none] [] σ)) else aft false (d + 1) 185 30 [some (.ref 85), some (.int a1), z2, z3] [.int (nI 0), .ref 85] (Run false d 179 0 [some (.ref 85), some (.int (nI 0)), some (.int (nI 9999)), none, none, none] [] σ)) := by
  rw [Run_go [4, 12, 17, 30, 33, 47, 51, 57, 62, 83, 90, 94, 100, 104, 110, 130, 137, 150, 157, 162, 166] 9]
  rfl
theorem s185_30 {d : Nat} {a1 : Int32} {z2 : Option Value} {z3 : Option Value} {r1 : Int32} {r2 : Int32} {σ : PS} : Run false (d + 1) 185 30 [some (.ref 85), some (.int a1), z2, z3] [.int r2, .int r1, .ref 85] σ =
    aft false (d + 1) 185 33 [some (.ref 85), some (.int a1), z2, z3] [] (Run false d 181 0 [some (.ref 85), some (.int r1), some (.int r2)] [] σ) := by
  rw [Run_go [4, 12, 17, 30, 33, 47, 51, 57, 62, 83, 90, 94, 100, 104, 110, 130, 137, 150, 157, 162, 166] 2]
  rfl
theorem s185_33 {d : Nat} {a1 : Int32} {z2 : Option Value} {z3 : Option Value} {σ : PS} : Run false (d + 1) 185 33 [some (.ref 85), some (.int a1), z2, z3] [] σ =
    some (.inl (none, σ)) := by
  rw [Run_go [4, 12, 17, 30, 33, 47, 51, 57, 62, 83, 90, 94, 100, 104, 110, 130, 137, 150, 157, 162, 166] 2]
  rfl
theorem s185_47 {d : Nat} {a1 : Int32} {z2 : Option Value} {z3 : Option Value} {σ : PS} : Run false (d + 1) 185 47 [some (.ref 85), some (.int a1), z2, z3] [] σ =
    aft false (d + 1) 185 51 [some (.ref 85), some (.int a1), z2, z3] [] (Run false d 187 0 [some (.ref 85), none] [] σ) := by
  rw [Run_go [4, 12, 17, 30, 33, 47, 51, 57, 62, 83, 90, 94, 100, 104, 110, 130, 137, 150, 157, 162, 166] 3]
  rfl
theorem s185_51 {d : Nat} {a1 : Int32} {z2 : Option Value} {z3 : Option Value} {σ : PS} : Run false (d + 1) 185 51 [some (.ref 85), some (.int a1), z2, z3] [] σ =
    aft false (d + 1) 185 57 [some (.ref 85), some (.int a1), z2, z3] [] (Run false d 183 0 [some (.ref 85), some (.int (nI 41))] [] σ) := by
  rw [Run_go [4, 12, 17, 30, 33, 47, 51, 57, 62, 83, 90, 94, 100, 104, 110, 130, 137, 150, 157, 162, 166] 4]
  rfl
theorem s185_57 {d : Nat} {a1 : Int32} {z2 : Option Value} {z3 : Option Value} {σ : PS} : Run false (d + 1) 185 57 [some (.ref 85), some (.int a1), z2, z3] [] σ =
    some (.inl (none, σ)) := by
  rw [Run_go [4, 12, 17, 30, 33, 47, 51, 57, 62, 83, 90, 94, 100, 104, 110, 130, 137, 150, 157, 162, 166] 2]
  rfl
set_option maxRecDepth 100000 in
theorem s185_62 {d : Nat} {a1 : Int32} {z2 : Option Value} {z3 : Option Value} {q0 : Int64} {σ : PS} : Run false (d + 1) 185 62 [some (.ref 85), some (.int a1), z2, z3] [.long q0] σ =
    (bif obl ((lg_cmp q0 (lN 13614)) = (nI 0)) then aft false (d + 1) 185 83 [some (.ref 85), some (.int a1), some (.long q0), none] [] (Run false d 178 0 [some (.ref 85)] [] σ) else (bif obl ((lg_cmp q0 (lN 13368)) = (nI 0)) then aft false (d + 1) 185 83 [some (.ref 85), some (.int a1), some (.long q0), none] [] (Run false d 178 0 [some (.ref 85)] [] σ) else aft false (d + 1) 185 137 [some (.ref 85), some (.int a1), some (.long q0), none] [] (Run false d 184 0 [some (.long q0), none] [] σ))) := by
  rw [Run_go [4, 12, 17, 30, 33, 47, 51, 57, 62, 83, 90, 94, 100, 104, 110, 130, 137, 150, 157, 162, 166] 12]
  rfl
theorem s185_83 {d : Nat} {a1 : Int32} {b2 : Int64} {σ : PS} : Run false (d + 1) 185 83 [some (.ref 85), some (.int a1), some (.long b2), none] [] σ =
    aft false (d + 1) 185 90 [some (.ref 85), some (.int a1), some (.long b2), none] [] (Run false d 182 0 [some (.ref 85), some (.int (nI 40)), some (.int (nI 1))] [] σ) := by
  rw [Run_go [4, 12, 17, 30, 33, 47, 51, 57, 62, 83, 90, 94, 100, 104, 110, 130, 137, 150, 157, 162, 166] 5]
  rfl
theorem s185_90 {d : Nat} {a1 : Int32} {b2 : Int64} {σ : PS} : Run false (d + 1) 185 90 [some (.ref 85), some (.int a1), some (.long b2), none] [] σ =
    aft false (d + 1) 185 94 [some (.ref 85), some (.int a1), some (.long b2), none] [] (Run false d 187 0 [some (.ref 85), none] [] σ) := by
  rw [Run_go [4, 12, 17, 30, 33, 47, 51, 57, 62, 83, 90, 94, 100, 104, 110, 130, 137, 150, 157, 162, 166] 3]
  rfl
theorem s185_94 {d : Nat} {a1 : Int32} {b2 : Int64} {σ : PS} : Run false (d + 1) 185 94 [some (.ref 85), some (.int a1), some (.long b2), none] [] σ =
    aft false (d + 1) 185 100 [some (.ref 85), some (.int a1), some (.long b2), none] [] (Run false d 180 0 [some (.ref 85), some (.int (nI 44))] [] σ) := by
  rw [Run_go [4, 12, 17, 30, 33, 47, 51, 57, 62, 83, 90, 94, 100, 104, 110, 130, 137, 150, 157, 162, 166] 4]
  rfl
theorem s185_100 {d : Nat} {a1 : Int32} {b2 : Int64} {σ : PS} : Run false (d + 1) 185 100 [some (.ref 85), some (.int a1), some (.long b2), none] [] σ =
    aft false (d + 1) 185 104 [some (.ref 85), some (.int a1), some (.long b2), none] [] (Run false d 187 0 [some (.ref 85), none] [] σ) := by
  rw [Run_go [4, 12, 17, 30, 33, 47, 51, 57, 62, 83, 90, 94, 100, 104, 110, 130, 137, 150, 157, 162, 166] 3]
  rfl
theorem s185_104 {d : Nat} {a1 : Int32} {b2 : Int64} {σ : PS} : Run false (d + 1) 185 104 [some (.ref 85), some (.int a1), some (.long b2), none] [] σ =
    aft false (d + 1) 185 110 [some (.ref 85), some (.int a1), some (.long b2), none] [] (Run false d 183 0 [some (.ref 85), some (.int (nI 41))] [] σ) := by
  rw [Run_go [4, 12, 17, 30, 33, 47, 51, 57, 62, 83, 90, 94, 100, 104, 110, 130, 137, 150, 157, 162, 166] 4]
  rfl
set_option maxRecDepth 100000 in
theorem s185_110 {d : Nat} {a1 : Int32} {b2 : Int64} {σ : PS} : Run false (d + 1) 185 110 [some (.ref 85), some (.int a1), some (.long b2), none] [] σ =
    (bif obl ((lg_cmp b2 (lN 13614)) = (nI 0)) then aft false (d + 1) 185 130 [some (.ref 85), some (.int a1), some (.long b2), none] [] (Run false d 181 0 [some (.ref 85), some (.int (nI 10)), some (.int (nI 0))] [] σ) else aft false (d + 1) 185 130 [some (.ref 85), some (.int a1), some (.long b2), none] [] (Run false d 181 0 [some (.ref 85), some (.int (nI 11)), some (.int (nI 0))] [] σ)) := by
  rw [Run_go [4, 12, 17, 30, 33, 47, 51, 57, 62, 83, 90, 94, 100, 104, 110, 130, 137, 150, 157, 162, 166] 10]
  rfl
theorem s185_130 {d : Nat} {a1 : Int32} {b2 : Int64} {σ : PS} : Run false (d + 1) 185 130 [some (.ref 85), some (.int a1), some (.long b2), none] [] σ =
    Run false (d + 1) 185 166 [some (.ref 85), some (.int a1), some (.long b2), none] [] σ := by
  rw [Run_go [4, 12, 17, 30, 33, 47, 51, 57, 62, 83, 90, 94, 100, 104, 110, 130, 137, 150, 157, 162, 166] 2]
  rfl
set_option maxRecDepth 100000 in
theorem s185_137 {d : Nat} {a1 : Int32} {b2 : Int64} {r0 : Int32} {σ : PS} : Run false (d + 1) 185 137 [some (.ref 85), some (.int a1), some (.long b2), none] [.int r0] σ =
    (bif obl (r0 = (-1 : Int32)) then aft false (d + 1) 185 150 [some (.ref 85), some (.int a1), some (.long b2), none] [] (Run false d 173 0 [some (.ref 85), some (.int (nI 1)), some (.int (FI σ 85 4))] [] σ) else aft false (d + 1) 185 157 [some (.ref 85), some (.int a1), some (.long b2), none] [] (Run false d 178 0 [some (.ref 85)] [] σ)) := by
  rw [Run_go [4, 12, 17, 30, 33, 47, 51, 57, 62, 83, 90, 94, 100, 104, 110, 130, 137, 150, 157, 162, 166] 8]
  rfl
theorem s185_150 {d : Nat} {a1 : Int32} {b2 : Int64} {σ : PS} : Run false (d + 1) 185 150 [some (.ref 85), some (.int a1), some (.long b2), none] [] σ =
    Run false (d + 1) 185 166 [some (.ref 85), some (.int a1), some (.long b2), none] [] σ := by
  rw [Run_go [4, 12, 17, 30, 33, 47, 51, 57, 62, 83, 90, 94, 100, 104, 110, 130, 137, 150, 157, 162, 166] 2]
  rfl
theorem s185_157 {d : Nat} {a1 : Int32} {b2 : Int64} {σ : PS} : Run false (d + 1) 185 157 [some (.ref 85), some (.int a1), some (.long b2), none] [] σ =
    aft false (d + 1) 185 162 [some (.ref 85), some (.int a1), some (.long b2), none] [.ref 85] (Run false d 184 0 [some (.long b2), none] [] σ) := by
  rw [Run_go [4, 12, 17, 30, 33, 47, 51, 57, 62, 83, 90, 94, 100, 104, 110, 130, 137, 150, 157, 162, 166] 4]
  rfl
theorem s185_162 {d : Nat} {a1 : Int32} {b2 : Int64} {r1 : Int32} {σ : PS} : Run false (d + 1) 185 162 [some (.ref 85), some (.int a1), some (.long b2), none] [.int r1, .ref 85] σ =
    aft false (d + 1) 185 166 [some (.ref 85), some (.int a1), some (.long b2), none] [] (Run false d 181 0 [some (.ref 85), some (.int r1), some (.int (nI 0))] [] σ) := by
  rw [Run_go [4, 12, 17, 30, 33, 47, 51, 57, 62, 83, 90, 94, 100, 104, 110, 130, 137, 150, 157, 162, 166] 3]
  rfl
theorem s185_166 {d : Nat} {a1 : Int32} {b2 : Int64} {σ : PS} : Run false (d + 1) 185 166 [some (.ref 85), some (.int a1), some (.long b2), none] [] σ =
    some (.inl (none, σ)) := by
  rw [Run_go [4, 12, 17, 30, 33, 47, 51, 57, 62, 83, 90, 94, 100, 104, 110, 130, 137, 150, 157, 162, 166] 2]
  rfl
theorem s186_0 {d : Nat}  {σ : PS} : Run false (d + 1) 186 0 [some (.ref 85), none] [] σ =
    aft false (d + 1) 186 4 [some (.ref 85), none] [] (Run false d 185 0 [some (.ref 85), none, none, none] [] σ) := by
  rw [Run_go [4, 8, 15, 24, 33, 48, 66] 3]
  rfl
theorem s186_4 {d : Nat} {z1 : Option Value} {σ : PS} : Run false (d + 1) 186 4 [some (.ref 85), z1] [] σ =
    aft false (d + 1) 186 8 [some (.ref 85), z1] [] (Run false d 172 0 [some (.ref 85)] [] σ) := by
  rw [Run_go [4, 8, 15, 24, 33, 48, 66] 3]
  rfl
theorem s186_8 {d : Nat} {z1 : Option Value} {r0 : Int32} {σ : PS} : Run false (d + 1) 186 8 [some (.ref 85), z1] [.int r0] σ =
    (bif obl (r0 = (nI 0)) then some (.inl (none, σ)) else aft false (d + 1) 186 15 [some (.ref 85), z1] [] (Run false d 174 0 [some (.ref 85)] [] σ)) := by
  rw [Run_go [4, 8, 15, 24, 33, 48, 66] 4]
  rfl
theorem s186_15 {d : Nat} {z1 : Option Value} {r0 : Int32} {σ : PS} : Run false (d + 1) 186 15 [some (.ref 85), z1] [.int r0] σ =
    (bif obl (r0 = (nI 42)) then aft false (d + 1) 186 33 [some (.ref 85), z1] [] (Run false d 174 0 [some (.ref 85)] [] σ) else aft false (d + 1) 186 24 [some (.ref 85), z1] [] (Run false d 174 0 [some (.ref 85)] [] σ)) := by
  rw [Run_go [4, 8, 15, 24, 33, 48, 66] 5]
  rfl
theorem s186_24 {d : Nat} {z1 : Option Value} {r0 : Int32} {σ : PS} : Run false (d + 1) 186 24 [some (.ref 85), z1] [.int r0] σ =
    (bif obl (r0 = (nI 47)) then aft false (d + 1) 186 33 [some (.ref 85), z1] [] (Run false d 174 0 [some (.ref 85)] [] σ) else some (.inl (none, σ))) := by
  rw [Run_go [4, 8, 15, 24, 33, 48, 66] 5]
  rfl
set_option maxRecDepth 100000 in
theorem s186_33 {d : Nat} {z1 : Option Value} {r0 : Int32} {σ : PS} : Run false (d + 1) 186 33 [some (.ref 85), z1] [.int r0] σ =
    aft false (d + 1) 186 48 [some (.ref 85), some (.int r0)] [] (Run false d 185 0 [some (.ref 85), none, none, none] [] (wFI σ 85 4 ((FI σ 85 4) + (nI 1)))) := by
  rw [Run_go [4, 8, 15, 24, 33, 48, 66] 10]
  rfl
set_option maxRecDepth 100000 in
theorem s186_48 {d : Nat} {a1 : Int32} {σ : PS} : Run false (d + 1) 186 48 [some (.ref 85), some (.int a1)] [] σ =
    (bif obl (a1 = (nI 42)) then aft false (d + 1) 186 66 [some (.ref 85), some (.int a1)] [] (Run false d 181 0 [some (.ref 85), some (.int (nI 8)), some (.int (nI 0))] [] σ) else aft false (d + 1) 186 66 [some (.ref 85), some (.int a1)] [] (Run false d 181 0 [some (.ref 85), some (.int (nI 9)), some (.int (nI 0))] [] σ)) := by
  rw [Run_go [4, 8, 15, 24, 33, 48, 66] 9]
  rfl
theorem s186_66 {d : Nat} {a1 : Int32} {σ : PS} : Run false (d + 1) 186 66 [some (.ref 85), some (.int a1)] [] σ =
    Run false (d + 1) 186 4 [some (.ref 85), some (.int a1)] [] σ := by
  rw [Run_go [4, 8, 15, 24, 33, 48, 66] 2]
  rfl
theorem s187_0 {d : Nat}  {σ : PS} : Run false (d + 1) 187 0 [some (.ref 85), none] [] σ =
    aft false (d + 1) 187 4 [some (.ref 85), none] [] (Run false d 186 0 [some (.ref 85), none] [] σ) := by
  rw [Run_go [4, 8, 15, 24, 33, 48, 66] 3]
  rfl
theorem s187_4 {d : Nat} {z1 : Option Value} {σ : PS} : Run false (d + 1) 187 4 [some (.ref 85), z1] [] σ =
    aft false (d + 1) 187 8 [some (.ref 85), z1] [] (Run false d 172 0 [some (.ref 85)] [] σ) := by
  rw [Run_go [4, 8, 15, 24, 33, 48, 66] 3]
  rfl
theorem s187_8 {d : Nat} {z1 : Option Value} {r0 : Int32} {σ : PS} : Run false (d + 1) 187 8 [some (.ref 85), z1] [.int r0] σ =
    (bif obl (r0 = (nI 0)) then some (.inl (none, σ)) else aft false (d + 1) 187 15 [some (.ref 85), z1] [] (Run false d 174 0 [some (.ref 85)] [] σ)) := by
  rw [Run_go [4, 8, 15, 24, 33, 48, 66] 4]
  rfl
theorem s187_15 {d : Nat} {z1 : Option Value} {r0 : Int32} {σ : PS} : Run false (d + 1) 187 15 [some (.ref 85), z1] [.int r0] σ =
    (bif obl (r0 = (nI 43)) then aft false (d + 1) 187 33 [some (.ref 85), z1] [] (Run false d 174 0 [some (.ref 85)] [] σ) else aft false (d + 1) 187 24 [some (.ref 85), z1] [] (Run false d 174 0 [some (.ref 85)] [] σ)) := by
  rw [Run_go [4, 8, 15, 24, 33, 48, 66] 5]
  rfl
theorem s187_24 {d : Nat} {z1 : Option Value} {r0 : Int32} {σ : PS} : Run false (d + 1) 187 24 [some (.ref 85), z1] [.int r0] σ =
    (bif obl (r0 = (nI 45)) then aft false (d + 1) 187 33 [some (.ref 85), z1] [] (Run false d 174 0 [some (.ref 85)] [] σ) else some (.inl (none, σ))) := by
  rw [Run_go [4, 8, 15, 24, 33, 48, 66] 5]
  rfl
set_option maxRecDepth 100000 in
theorem s187_33 {d : Nat} {z1 : Option Value} {r0 : Int32} {σ : PS} : Run false (d + 1) 187 33 [some (.ref 85), z1] [.int r0] σ =
    aft false (d + 1) 187 48 [some (.ref 85), some (.int r0)] [] (Run false d 186 0 [some (.ref 85), none] [] (wFI σ 85 4 ((FI σ 85 4) + (nI 1)))) := by
  rw [Run_go [4, 8, 15, 24, 33, 48, 66] 10]
  rfl
set_option maxRecDepth 100000 in
theorem s187_48 {d : Nat} {a1 : Int32} {σ : PS} : Run false (d + 1) 187 48 [some (.ref 85), some (.int a1)] [] σ =
    (bif obl (a1 = (nI 43)) then aft false (d + 1) 187 66 [some (.ref 85), some (.int a1)] [] (Run false d 181 0 [some (.ref 85), some (.int (nI 6)), some (.int (nI 0))] [] σ) else aft false (d + 1) 187 66 [some (.ref 85), some (.int a1)] [] (Run false d 181 0 [some (.ref 85), some (.int (nI 7)), some (.int (nI 0))] [] σ)) := by
  rw [Run_go [4, 8, 15, 24, 33, 48, 66] 9]
  rfl
theorem s187_66 {d : Nat} {a1 : Int32} {σ : PS} : Run false (d + 1) 187 66 [some (.ref 85), some (.int a1)] [] σ =
    Run false (d + 1) 187 4 [some (.ref 85), some (.int a1)] [] σ := by
  rw [Run_go [4, 8, 15, 24, 33, 48, 66] 2]
  rfl
theorem s188_0 {d : Nat}  {σ : PS} : Run false (d + 1) 188 0 [some (.ref 85)] [] σ =
    aft false (d + 1) 188 4 [some (.ref 85)] [] (Run false d 189 0 [some (.ref 85)] [] σ) := by
  rw [Run_go [4, 8, 15, 26, 30, 37] 3]
  rfl
theorem s188_4 {d : Nat}  {σ : PS} : Run false (d + 1) 188 4 [some (.ref 85)] [] σ =
    aft false (d + 1) 188 8 [some (.ref 85)] [] (Run false d 172 0 [some (.ref 85)] [] σ) := by
  rw [Run_go [4, 8, 15, 26, 30, 37] 3]
  rfl
theorem s188_8 {d : Nat} {r0 : Int32} {σ : PS} : Run false (d + 1) 188 8 [some (.ref 85)] [.int r0] σ =
    (bif obl (r0 = (nI 0)) then some (.inl (none, σ)) else aft false (d + 1) 188 15 [some (.ref 85)] [] (Run false d 177 0 [some (.ref 85), none, none, none, none] [] σ)) := by
  rw [Run_go [4, 8, 15, 26, 30, 37] 4]
  rfl
theorem s188_15 {d : Nat} {q0 : Int64} {σ : PS} : Run false (d + 1) 188 15 [some (.ref 85)] [.long q0] σ =
    (bif obl ((lg_cmp q0 (lN 498)) = (nI 0)) then aft false (d + 1) 188 26 [some (.ref 85)] [] (Run false d 178 0 [some (.ref 85)] [] σ) else some (.inl (none, σ))) := by
  rw [Run_go [4, 8, 15, 26, 30, 37] 6]
  rfl
theorem s188_26 {d : Nat}  {σ : PS} : Run false (d + 1) 188 26 [some (.ref 85)] [] σ =
    aft false (d + 1) 188 30 [some (.ref 85)] [] (Run false d 189 0 [some (.ref 85)] [] σ) := by
  rw [Run_go [4, 8, 15, 26, 30, 37] 3]
  rfl
theorem s188_30 {d : Nat}  {σ : PS} : Run false (d + 1) 188 30 [some (.ref 85)] [] σ =
    aft false (d + 1) 188 37 [some (.ref 85)] [] (Run false d 181 0 [some (.ref 85), some (.int (nI 15)), some (.int (nI 0))] [] σ) := by
  rw [Run_go [4, 8, 15, 26, 30, 37] 5]
  rfl
theorem s188_37 {d : Nat}  {σ : PS} : Run false (d + 1) 188 37 [some (.ref 85)] [] σ =
    Run false (d + 1) 188 4 [some (.ref 85)] [] σ := by
  rw [Run_go [4, 8, 15, 26, 30, 37] 2]
  rfl
theorem s189_0 {d : Nat}  {σ : PS} : Run false (d + 1) 189 0 [some (.ref 85)] [] σ =
    aft false (d + 1) 189 4 [some (.ref 85)] [] (Run false d 190 0 [some (.ref 85), none] [] σ) := by
  rw [Run_go [4, 8, 15, 26, 30, 37] 3]
  rfl
theorem s189_4 {d : Nat}  {σ : PS} : Run false (d + 1) 189 4 [some (.ref 85)] [] σ =
    aft false (d + 1) 189 8 [some (.ref 85)] [] (Run false d 172 0 [some (.ref 85)] [] σ) := by
  rw [Run_go [4, 8, 15, 26, 30, 37] 3]
  rfl
theorem s189_8 {d : Nat} {r0 : Int32} {σ : PS} : Run false (d + 1) 189 8 [some (.ref 85)] [.int r0] σ =
    (bif obl (r0 = (nI 0)) then some (.inl (none, σ)) else aft false (d + 1) 189 15 [some (.ref 85)] [] (Run false d 177 0 [some (.ref 85), none, none, none, none] [] σ)) := by
  rw [Run_go [4, 8, 15, 26, 30, 37] 4]
  rfl
theorem s189_15 {d : Nat} {q0 : Int64} {σ : PS} : Run false (d + 1) 189 15 [some (.ref 85)] [.long q0] σ =
    (bif obl ((lg_cmp q0 (lN 1476)) = (nI 0)) then aft false (d + 1) 189 26 [some (.ref 85)] [] (Run false d 178 0 [some (.ref 85)] [] σ) else some (.inl (none, σ))) := by
  rw [Run_go [4, 8, 15, 26, 30, 37] 6]
  rfl
theorem s189_26 {d : Nat}  {σ : PS} : Run false (d + 1) 189 26 [some (.ref 85)] [] σ =
    aft false (d + 1) 189 30 [some (.ref 85)] [] (Run false d 190 0 [some (.ref 85), none] [] σ) := by
  rw [Run_go [4, 8, 15, 26, 30, 37] 3]
  rfl
theorem s189_30 {d : Nat}  {σ : PS} : Run false (d + 1) 189 30 [some (.ref 85)] [] σ =
    aft false (d + 1) 189 37 [some (.ref 85)] [] (Run false d 181 0 [some (.ref 85), some (.int (nI 16)), some (.int (nI 0))] [] σ) := by
  rw [Run_go [4, 8, 15, 26, 30, 37] 5]
  rfl
theorem s189_37 {d : Nat}  {σ : PS} : Run false (d + 1) 189 37 [some (.ref 85)] [] σ =
    Run false (d + 1) 189 4 [some (.ref 85)] [] σ := by
  rw [Run_go [4, 8, 15, 26, 30, 37] 2]
  rfl
theorem s190_0 {d : Nat}  {σ : PS} : Run false (d + 1) 190 0 [some (.ref 85), none] [] σ =
    aft false (d + 1) 190 4 [some (.ref 85), none] [] (Run false d 172 0 [some (.ref 85)] [] σ) := by
  rw [Run_go [4, 12, 24, 28, 34, 41, 54, 58, 75, 82, 86, 93, 125, 129, 146, 175] 3]
  rfl
theorem s190_4 {d : Nat} {z1 : Option Value} {r0 : Int32} {σ : PS} : Run false (d + 1) 190 4 [some (.ref 85), z1] [.int r0] σ =
    (bif obl (r0 = (nI 0)) then some (.inl (none, σ)) else aft false (d + 1) 190 12 [some (.ref 85), z1] [] (Run false d 174 0 [some (.ref 85)] [] σ)) := by
  rw [Run_go [4, 12, 24, 28, 34, 41, 54, 58, 75, 82, 86, 93, 125, 129, 146, 175] 4]
  rfl
theorem s190_12 {d : Nat} {z1 : Option Value} {r0 : Int32} {σ : PS} : Run false (d + 1) 190 12 [some (.ref 85), z1] [.int r0] σ =
    (bif obl (r0 = (nI 91)) then aft false (d + 1) 190 24 [some (.ref 85), z1] [] (Run false d 182 0 [some (.ref 85), some (.int (nI 91)), some (.int (nI 1))] [] σ) else aft false (d + 1) 190 41 [some (.ref 85), z1] [] (Run false d 177 0 [some (.ref 85), none, none, none, none] [] σ)) := by
  rw [Run_go [4, 12, 24, 28, 34, 41, 54, 58, 75, 82, 86, 93, 125, 129, 146, 175] 7]
  rfl
theorem s190_24 {d : Nat} {z1 : Option Value} {σ : PS} : Run false (d + 1) 190 24 [some (.ref 85), z1] [] σ =
    aft false (d + 1) 190 28 [some (.ref 85), z1] [] (Run false d 188 0 [some (.ref 85)] [] σ) := by
  rw [Run_go [4, 12, 24, 28, 34, 41, 54, 58, 75, 82, 86, 93, 125, 129, 146, 175] 3]
  rfl
theorem s190_28 {d : Nat} {z1 : Option Value} {σ : PS} : Run false (d + 1) 190 28 [some (.ref 85), z1] [] σ =
    aft false (d + 1) 190 34 [some (.ref 85), z1] [] (Run false d 183 0 [some (.ref 85), some (.int (nI 93))] [] σ) := by
  rw [Run_go [4, 12, 24, 28, 34, 41, 54, 58, 75, 82, 86, 93, 125, 129, 146, 175] 4]
  rfl
theorem s190_34 {d : Nat} {z1 : Option Value} {σ : PS} : Run false (d + 1) 190 34 [some (.ref 85), z1] [] σ =
    Run false (d + 1) 190 175 [some (.ref 85), z1] [] σ := by
  rw [Run_go [4, 12, 24, 28, 34, 41, 54, 58, 75, 82, 86, 93, 125, 129, 146, 175] 2]
  rfl
set_option maxRecDepth 100000 in
theorem s190_41 {d : Nat} {z1 : Option Value} {q0 : Int64} {σ : PS} : Run false (d + 1) 190 41 [some (.ref 85), z1] [.long q0] σ =
    (bif obl ((lg_cmp q0 (lN 14836)) = (nI 0)) then aft false (d + 1) 190 54 [some (.ref 85), z1] [] (Run false d 182 0 [some (.ref 85), some (.int (nI 0)), some (.int (nI 3))] [] σ) else aft false (d + 1) 190 82 [some (.ref 85), z1] [] (Run false d 187 0 [some (.ref 85), none] [] σ)) := by
  rw [Run_go [4, 12, 24, 28, 34, 41, 54, 58, 75, 82, 86, 93, 125, 129, 146, 175] 8]
  rfl
theorem s190_54 {d : Nat} {z1 : Option Value} {σ : PS} : Run false (d + 1) 190 54 [some (.ref 85), z1] [] σ =
    aft false (d + 1) 190 58 [some (.ref 85), z1] [] (Run false d 190 0 [some (.ref 85), none] [] σ) := by
  rw [Run_go [4, 12, 24, 28, 34, 41, 54, 58, 75, 82, 86, 93, 125, 129, 146, 175] 3]
  rfl
set_option maxRecDepth 100000 in
theorem s190_58 {d : Nat} {z1 : Option Value} {σ : PS} : Run false (d + 1) 190 58 [some (.ref 85), z1] [] σ =
    aft false (d + 1) 190 75 [some (.ref 85), z1] [] (Run false d 181 0 [some (.ref 85), some (.int (nI 17)), some (.int (nI 0))] [] (wFI σ 85 7 ((FI σ 85 7) - (nI 1)))) := by
  rw [Run_go [4, 12, 24, 28, 34, 41, 54, 58, 75, 82, 86, 93, 125, 129, 146, 175] 11]
  rfl
theorem s190_75 {d : Nat} {z1 : Option Value} {σ : PS} : Run false (d + 1) 190 75 [some (.ref 85), z1] [] σ =
    Run false (d + 1) 190 175 [some (.ref 85), z1] [] σ := by
  rw [Run_go [4, 12, 24, 28, 34, 41, 54, 58, 75, 82, 86, 93, 125, 129, 146, 175] 2]
  rfl
theorem s190_82 {d : Nat} {z1 : Option Value} {σ : PS} : Run false (d + 1) 190 82 [some (.ref 85), z1] [] σ =
    aft false (d + 1) 190 86 [some (.ref 85), z1] [] (Run false d 172 0 [some (.ref 85)] [] σ) := by
  rw [Run_go [4, 12, 24, 28, 34, 41, 54, 58, 75, 82, 86, 93, 125, 129, 146, 175] 3]
  rfl
set_option maxRecDepth 100000 in
theorem s190_86 {d : Nat} {z1 : Option Value} {r0 : Int32} {σ : PS} : Run false (d + 1) 190 86 [some (.ref 85), z1] [.int r0] σ =
    (bif obl (r0 = (nI 0)) then (bif obl ((nI 0) = (nI 60)) then Run false (d + 1) 190 125 [some (.ref 85), some (.int (nI 0))] [] σ else (bif obl ((nI 0) = (nI 62)) then Run false (d + 1) 190 125 [some (.ref 85), some (.int (nI 0))] [] σ else (bif obl ((nI 0) = (nI 61)) then Run false (d + 1) 190 125 [some (.ref 85), some (.int (nI 0))] [] σ else aft false (d + 1) 190 125 [some (.ref 85), some (.int (nI 0))] [] (Run false d 173 0 [some (.ref 85), some (.int (nI 1)), some (.int (FI σ 85 4))] [] σ)))) else aft false (d + 1) 190 93 [some (.ref 85), z1] [] (Run false d 174 0 [some (.ref 85)] [] σ)) := by
  rw [Run_go [4, 12, 24, 28, 34, 41, 54, 58, 75, 82, 86, 93, 125, 129, 146, 175] 18]
  rfl
set_option maxRecDepth 100000 in
theorem s190_93 {d : Nat} {z1 : Option Value} {r0 : Int32} {σ : PS} : Run false (d + 1) 190 93 [some (.ref 85), z1] [.int r0] σ =
    (bif obl (r0 = (nI 60)) then Run false (d + 1) 190 125 [some (.ref 85), some (.int r0)] [] σ else (bif obl (r0 = (nI 62)) then Run false (d + 1) 190 125 [some (.ref 85), some (.int r0)] [] σ else (bif obl (r0 = (nI 61)) then Run false (d + 1) 190 125 [some (.ref 85), some (.int r0)] [] σ else aft false (d + 1) 190 125 [some (.ref 85), some (.int r0)] [] (Run false d 173 0 [some (.ref 85), some (.int (nI 1)), some (.int (FI σ 85 4))] [] σ)))) := by
  rw [Run_go [4, 12, 24, 28, 34, 41, 54, 58, 75, 82, 86, 93, 125, 129, 146, 175] 17]
  rfl
theorem s190_125 {d : Nat} {a1 : Int32} {σ : PS} : Run false (d + 1) 190 125 [some (.ref 85), some (.int a1)] [] σ =
    aft false (d + 1) 190 129 [some (.ref 85), some (.int a1)] [] (Run false d 172 0 [some (.ref 85)] [] σ) := by
  rw [Run_go [4, 12, 24, 28, 34, 41, 54, 58, 75, 82, 86, 93, 125, 129, 146, 175] 3]
  rfl
set_option maxRecDepth 100000 in
theorem s190_129 {d : Nat} {a1 : Int32} {r0 : Int32} {σ : PS} : Run false (d + 1) 190 129 [some (.ref 85), some (.int a1)] [.int r0] σ =
    (bif obl (r0 = (nI 0)) then aft false (d + 1) 190 146 [some (.ref 85), some (.int a1)] [] (Run false d 187 0 [some (.ref 85), none] [] σ) else aft false (d + 1) 190 146 [some (.ref 85), some (.int a1)] [] (Run false d 187 0 [some (.ref 85), none] [] (wFI σ 85 4 ((FI σ 85 4) + (nI 1))))) := by
  rw [Run_go [4, 12, 24, 28, 34, 41, 54, 58, 75, 82, 86, 93, 125, 129, 146, 175] 10]
  rfl
set_option maxRecDepth 100000 in
theorem s190_146 {d : Nat} {a1 : Int32} {σ : PS} : Run false (d + 1) 190 146 [some (.ref 85), some (.int a1)] [] σ =
    (bif obl (a1 = (nI 60)) then aft false (d + 1) 190 175 [some (.ref 85), some (.int a1)] [] (Run false d 181 0 [some (.ref 85), some (.int (nI 12)), some (.int (nI 0))] [] σ) else (bif obl (a1 = (nI 62)) then aft false (d + 1) 190 175 [some (.ref 85), some (.int a1)] [] (Run false d 181 0 [some (.ref 85), some (.int (nI 13)), some (.int (nI 0))] [] σ) else aft false (d + 1) 190 175 [some (.ref 85), some (.int a1)] [] (Run false d 181 0 [some (.ref 85), some (.int (nI 14)), some (.int (nI 0))] [] σ))) := by
  rw [Run_go [4, 12, 24, 28, 34, 41, 54, 58, 75, 82, 86, 93, 125, 129, 146, 175] 12]
  rfl
theorem s190_175 {d : Nat} {z1 : Option Value} {σ : PS} : Run false (d + 1) 190 175 [some (.ref 85), z1] [] σ =
    some (.inl (none, σ)) := by
  rw [Run_go [4, 12, 24, 28, 34, 41, 54, 58, 75, 82, 86, 93, 125, 129, 146, 175] 2]
  rfl
set_option maxRecDepth 100000 in
theorem s191_0 {d : Nat} {b0 : Int64} {σ : PS} : Run false (d + 1) 191 0 [some (.long b0), none] [] σ =
    (bif obl ((lg_cmp b0 (lN 16826546)) = (nI 0)) then some (.inl (some (.int (nI 0)), σ)) else (bif obl ((lg_cmp b0 (lN 7734899)) = (nI 0)) then some (.inl (some (.int (nI 1)), σ)) else (bif obl ((lg_cmp b0 (lN 20782)) = (nI 0)) then some (.inl (some (.int (nI 2)), σ)) else (bif obl ((lg_cmp b0 (lN 206221)) = (nI 0)) then some (.inl (some (.int (nI 3)), σ)) else (bif obl ((lg_cmp b0 (lN 13951140)) = (nI 0)) then some (.inl (some (.int (nI 4)), σ)) else some (.inl (some (.int (-1 : Int32)), σ))))))) := by
  rw [Run_go [] 24]
  rfl
theorem s192_0 {d : Nat}  {σ : PS} : Run false (d + 1) 192 0 [some (.ref 85), none] [] σ =
    aft false (d + 1) 192 4 [some (.ref 85), none] [] (Run false d 172 0 [some (.ref 85)] [] σ) := by
  rw [Run_go [4, 13, 16, 31, 35, 42] 3]
  rfl
theorem s192_4 {d : Nat} {z1 : Option Value} {r0 : Int32} {σ : PS} : Run false (d + 1) 192 4 [some (.ref 85), z1] [.int r0] σ =
    (bif obl (r0 = (nI 0)) then some (.inl (some (.int (nI 0)), σ)) else aft false (d + 1) 192 13 [some (.ref 85), z1] [] (Run false d 177 0 [some (.ref 85), none, none, none, none] [] σ)) := by
  rw [Run_go [4, 13, 16, 31, 35, 42] 4]
  rfl
theorem s192_13 {d : Nat} {z1 : Option Value} {q0 : Int64} {σ : PS} : Run false (d + 1) 192 13 [some (.ref 85), z1] [.long q0] σ =
    aft false (d + 1) 192 16 [some (.ref 85), z1] [] (Run false d 191 0 [some (.long q0), none] [] σ) := by
  rw [Run_go [4, 13, 16, 31, 35, 42] 2]
  rfl
set_option maxRecDepth 100000 in
theorem s192_16 {d : Nat} {z1 : Option Value} {r0 : Int32} {σ : PS} : Run false (d + 1) 192 16 [some (.ref 85), z1] [.int r0] σ =
    (bif obl (r0 = (-1 : Int32)) then aft false (d + 1) 192 31 [some (.ref 85), some (.int r0)] [] (Run false d 173 0 [some (.ref 85), some (.int (nI 1)), some (.int (FI σ 85 4))] [] σ) else Run false (d + 1) 192 31 [some (.ref 85), some (.int r0)] [] σ) := by
  rw [Run_go [4, 13, 16, 31, 35, 42] 10]
  rfl
theorem s192_31 {d : Nat} {a1 : Int32} {σ : PS} : Run false (d + 1) 192 31 [some (.ref 85), some (.int a1)] [] σ =
    aft false (d + 1) 192 35 [some (.ref 85), some (.int a1)] [] (Run false d 172 0 [some (.ref 85)] [] σ) := by
  rw [Run_go [4, 13, 16, 31, 35, 42] 3]
  rfl
theorem s192_35 {d : Nat} {a1 : Int32} {r0 : Int32} {σ : PS} : Run false (d + 1) 192 35 [some (.ref 85), some (.int a1)] [.int r0] σ =
    (bif obl (r0 = (nI 0)) then Run false (d + 1) 192 42 [some (.ref 85), some (.int a1)] [] σ else aft false (d + 1) 192 42 [some (.ref 85), some (.int a1)] [] (Run false d 178 0 [some (.ref 85)] [] σ)) := by
  rw [Run_go [4, 13, 16, 31, 35, 42] 4]
  rfl
theorem s192_42 {d : Nat} {a1 : Int32} {σ : PS} : Run false (d + 1) 192 42 [some (.ref 85), some (.int a1)] [] σ =
    some (.inl (some (.int a1), σ)) := by
  rw [Run_go [4, 13, 16, 31, 35, 42] 3]
  rfl
set_option maxRecDepth 100000 in
theorem s193_0 {d : Nat} {b0 : Int64} {σ : PS} : Run false (d + 1) 193 0 [some (.long b0), none] [] σ =
    (bif obl ((lg_cmp b0 (lN 6309)) = (nI 0)) then some (.inl (some (.int (nI 0)), σ)) else (bif obl ((lg_cmp b0 (lN 672734388)) = (nI 0)) then some (.inl (some (.int (nI 1)), σ)) else (bif obl ((lg_cmp b0 (lN 15558)) = (nI 0)) then some (.inl (some (.int (nI 2)), σ)) else (bif obl ((lg_cmp b0 (lN 21487059)) = (nI 0)) then some (.inl (some (.int (nI 3)), σ)) else (bif obl ((lg_cmp b0 (lN 2094)) = (nI 0)) then some (.inl (some (.int (nI 4)), σ)) else (bif obl ((lg_cmp b0 (lN 12748404)) = (nI 0)) then some (.inl (some (.int (nI 5)), σ)) else (bif obl ((lg_cmp b0 (lN 21571091)) = (nI 0)) then some (.inl (some (.int (nI 6)), σ)) else (bif obl ((lg_cmp b0 (lN 16727147987)) = (nI 0)) then some (.inl (some (.int (nI 7)), σ)) else some (.inl (some (.int (-1 : Int32)), σ)))))))))) := by
  rw [Run_go [] 36]
  rfl
theorem s194_0 {d : Nat}  {σ : PS} : Run false (d + 1) 194 0 [some (.ref 85), none, none, none, none] [] σ =
    aft false (d + 1) 194 4 [some (.ref 85), none, none, none, none] [] (Run false d 177 0 [some (.ref 85), none, none, none, none] [] σ) := by
  rw [Run_go [4, 7, 22, 48, 52, 60, 112, 137, 141, 153, 160, 171, 175, 188, 214, 218, 225, 296, 313] 3]
  rfl
theorem s194_4 {d : Nat} {z1 : Option Value} {z2 : Option Value} {z3 : Option Value} {z4 : Option Value} {q0 : Int64} {σ : PS} : Run false (d + 1) 194 4 [some (.ref 85), z1, z2, z3, z4] [.long q0] σ =
    aft false (d + 1) 194 7 [some (.ref 85), z1, z2, z3, z4] [] (Run false d 193 0 [some (.long q0), none] [] σ) := by
  rw [Run_go [4, 7, 22, 48, 52, 60, 112, 137, 141, 153, 160, 171, 175, 188, 214, 218, 225, 296, 313] 2]
  rfl
set_option maxRecDepth 100000 in
theorem s194_7 {d : Nat} {z1 : Option Value} {z2 : Option Value} {z3 : Option Value} {z4 : Option Value} {r0 : Int32} {σ : PS} : Run false (d + 1) 194 7 [some (.ref 85), z1, z2, z3, z4] [.int r0] σ =
    (bif obl (r0 = (-1 : Int32)) then aft false (d + 1) 194 22 [some (.ref 85), some (.int r0), z2, z3, z4] [] (Run false d 173 0 [some (.ref 85), some (.int (nI 1)), some (.int (FI σ 85 4))] [] σ) else (bif inb (FI σ 85 9) 11 then (bif obl ((AI σ 88 (FI σ 85 9).toNatClampNeg) = (nI 16)) then aft false (d + 1) 194 48 [some (.ref 85), some (.int r0), z2, z3, z4] [] (Run false d 173 0 [some (.ref 85), some (.int (nI 3)), some (.int (FI σ 85 4))] [] σ) else Run false (d + 1) 194 48 [some (.ref 85), some (.int r0), z2, z3, z4] [] σ) else none)) := by
  rw [Run_go [4, 7, 22, 48, 52, 60, 112, 137, 141, 153, 160, 171, 175, 188, 214, 218, 225, 296, 313] 17]
  rfl
theorem s194_22 {d : Nat} {a1 : Int32} {z2 : Option Value} {z3 : Option Value} {z4 : Option Value} {σ : PS} : Run false (d + 1) 194 22 [some (.ref 85), some (.int a1), z2, z3, z4] [] σ =
    Run false (d + 1) 194 48 [some (.ref 85), some (.int a1), z2, z3, z4] [] σ := by
  rw [Run_go [4, 7, 22, 48, 52, 60, 112, 137, 141, 153, 160, 171, 175, 188, 214, 218, 225, 296, 313] 2]
  rfl
theorem s194_48 {d : Nat} {a1 : Int32} {z2 : Option Value} {z3 : Option Value} {z4 : Option Value} {σ : PS} : Run false (d + 1) 194 48 [some (.ref 85), some (.int a1), z2, z3, z4] [] σ =
    aft false (d + 1) 194 52 [some (.ref 85), some (.int a1), z2, z3, z4] [] (Run false d 172 0 [some (.ref 85)] [] σ) := by
  rw [Run_go [4, 7, 22, 48, 52, 60, 112, 137, 141, 153, 160, 171, 175, 188, 214, 218, 225, 296, 313] 3]
  rfl
theorem s194_52 {d : Nat} {a1 : Int32} {z2 : Option Value} {z3 : Option Value} {z4 : Option Value} {r0 : Int32} {σ : PS} : Run false (d + 1) 194 52 [some (.ref 85), some (.int a1), z2, z3, z4] [.int r0] σ =
    (bif obl (r0 = (nI 0)) then some (.inl (none, σ)) else aft false (d + 1) 194 60 [some (.ref 85), some (.int a1), z2, z3, z4] [] (Run false d 178 0 [some (.ref 85)] [] σ)) := by
  rw [Run_go [4, 7, 22, 48, 52, 60, 112, 137, 141, 153, 160, 171, 175, 188, 214, 218, 225, 296, 313] 4]
  rfl
set_option maxRecDepth 100000 in
theorem s194_60 {d : Nat} {a1 : Int32} {z2 : Option Value} {z3 : Option Value} {z4 : Option Value} {σ : PS} : Run false (d + 1) 194 60 [some (.ref 85), some (.int a1), z2, z3, z4] [] σ =
    (bif inb (FI σ 85 9) 11 then (bif inb (FI σ 85 9) 11 then (bif inb (FI σ 85 9) 11 then (bif inb (((nI 16) * (FI σ 85 9)) + (AI σ 88 (FI σ 85 9).toNatClampNeg)) 176 then (bif obl ((nI 4) < a1) then (bif inb (((nI 16) * (FI σ 85 9)) + (AI σ 88 (FI σ 85 9).toNatClampNeg)) 176 then (bif inb (((nI 16) * (FI σ 85 9)) + (AI σ 88 (FI σ 85 9).toNatClampNeg)) 176 then (bif obl (a1 = (nI 0)) then aft false (d + 1) 194 137 [some (.ref 85), some (.int a1), some (.int (((nI 16) * (FI σ 85 9)) + (AI σ 88 (FI σ 85 9).toNatClampNeg))), z3, z4] [] (Run false d 180 0 [some (.ref 85), some (.int (nI 61))] [] (wAI (wAI (wAI (wAI σ 88 (FI σ 85 9).toNatClampNeg ((AI σ 88 (FI σ 85 9).toNatClampNeg) + (nI 1))) 89 (((nI 16) * (FI σ 85 9)) + (AI σ 88 (FI σ 85 9).toNatClampNeg)).toNatClampNeg a1) 90 (((nI 16) * (FI σ 85 9)) + (AI σ 88 (FI σ 85 9).toNatClampNeg)).toNatClampNeg (nI 0)) 92 (((nI 16) * (FI σ 85 9)) + (AI σ 88 (FI σ 85 9).toNatClampNeg)).toNatClampNeg (FI σ 85 8))) else (bif obl (a1 = (nI 4)) then aft false (d + 1) 194 153 [some (.ref 85), some (.int a1), some (.int (((nI 16) * (FI σ 85 9)) + (AI σ 88 (FI σ 85 9).toNatClampNeg))), z3, z4] [] (Run false d 172 0 [some (.ref 85)] [] (wAI (wAI (wAI (wAI σ 88 (FI σ 85 9).toNatClampNeg ((AI σ 88 (FI σ 85 9).toNatClampNeg) + (nI 1))) 89 (((nI 16) * (FI σ 85 9)) + (AI σ 88 (FI σ 85 9).toNatClampNeg)).toNatClampNeg a1) 90 (((nI 16) * (FI σ 85 9)) + (AI σ 88 (FI σ 85 9).toNatClampNeg)).toNatClampNeg (nI 0)) 92 (((nI 16) * (FI σ 85 9)) + (AI σ 88 (FI σ 85 9).toNatClampNeg)).toNatClampNeg (FI σ 85 8))) else (bif obl (a1 = (nI 7)) then aft false (d + 1) 194 188 [some (.ref 85), some (.int a1), some (.int (((nI 16) * (FI σ 85 9)) + (AI σ 88 (FI σ 85 9).toNatClampNeg))), z3, z4] [] (Run false d 177 0 [some (.ref 85), none, none, none, none] [] (wAI (wAI (wAI (wAI σ 88 (FI σ 85 9).toNatClampNeg ((AI σ 88 (FI σ 85 9).toNatClampNeg) + (nI 1))) 89 (((nI 16) * (FI σ 85 9)) + (AI σ 88 (FI σ 85 9).toNatClampNeg)).toNatClampNeg a1) 90 (((nI 16) * (FI σ 85 9)) + (AI σ 88 (FI σ 85 9).toNatClampNeg)).toNatClampNeg (nI 0)) 92 (((nI 16) * (FI σ 85 9)) + (AI σ 88 (FI σ 85 9).toNatClampNeg)).toNatClampNeg (FI σ 85 8))) else (bif obl (a1 = (nI 6)) then (bif obl (a1 = (nI 1)) then aft false (d + 1) 194 296 [some (.ref 85), some (.int a1), some (.int (((nI 16) * (FI σ 85 9)) + (AI σ 88 (FI σ 85 9).toNatClampNeg))), z3, z4] [.int (((nI 16) * (FI σ 85 9)) + (AI σ 88 (FI σ 85 9).toNatClampNeg)), .ref 91] (Run false d 179 0 [some (.ref 85), some (.int (nI 1)), some (.int (nI 100)), none, none, none] [] (wAI (wAI (wAI (wAI σ 88 (FI σ 85 9).toNatClampNeg ((AI σ 88 (FI σ 85 9).toNatClampNeg) + (nI 1))) 89 (((nI 16) * (FI σ 85 9)) + (AI σ 88 (FI σ 85 9).toNatClampNeg)).toNatClampNeg a1) 90 (((nI 16) * (FI σ 85 9)) + (AI σ 88 (FI σ 85 9).toNatClampNeg)).toNatClampNeg (nI 0)) 92 (((nI 16) * (FI σ 85 9)) + (AI σ 88 (FI σ 85 9).toNatClampNeg)).toNatClampNeg (FI σ 85 8))) else (bif obl (a1 = (nI 2)) then aft false (d + 1) 194 296 [some (.ref 85), some (.int a1), some (.int (((nI 16) * (FI σ 85 9)) + (AI σ 88 (FI σ 85 9).toNatClampNeg))), z3, z4] [.int (((nI 16) * (FI σ 85 9)) + (AI σ 88 (FI σ 85 9).toNatClampNeg)), .ref 91] (Run false d 179 0 [some (.ref 85), some (.int (nI 1)), some (.int (nI 100)), none, none, none] [] (wAI (wAI (wAI (wAI σ 88 (FI σ 85 9).toNatClampNeg ((AI σ 88 (FI σ 85 9).toNatClampNeg) + (nI 1))) 89 (((nI 16) * (FI σ 85 9)) + (AI σ 88 (FI σ 85 9).toNatClampNeg)).toNatClampNeg a1) 90 (((nI 16) * (FI σ 85 9)) + (AI σ 88 (FI σ 85 9).toNatClampNeg)).toNatClampNeg (nI 0)) 92 (((nI 16) * (FI σ 85 9)) + (AI σ 88 (FI σ 85 9).toNatClampNeg)).toNatClampNeg (FI σ 85 8))) else (bif obl (a1 = (nI 6)) then aft false (d + 1) 194 296 [some (.ref 85), some (.int a1), some (.int (((nI 16) * (FI σ 85 9)) + (AI σ 88 (FI σ 85 9).toNatClampNeg))), z3, z4] [.int (((nI 16) * (FI σ 85 9)) + (AI σ 88 (FI σ 85 9).toNatClampNeg)), .ref 91] (Run false d 179 0 [some (.ref 85), some (.int (nI 1)), some (.int (nI 50)), none, none, none] [] (wAI (wAI (wAI (wAI σ 88 (FI σ 85 9).toNatClampNeg ((AI σ 88 (FI σ 85 9).toNatClampNeg) + (nI 1))) 89 (((nI 16) * (FI σ 85 9)) + (AI σ 88 (FI σ 85 9).toNatClampNeg)).toNatClampNeg a1) 90 (((nI 16) * (FI σ 85 9)) + (AI σ 88 (FI σ 85 9).toNatClampNeg)).toNatClampNeg (nI 0)) 92 (((nI 16) * (FI σ 85 9)) + (AI σ 88 (FI σ 85 9).toNatClampNeg)).toNatClampNeg (FI σ 85 8))) else aft false (d + 1) 194 296 [some (.ref 85), some (.int a1), some (.int (((nI 16) * (FI σ 85 9)) + (AI σ 88 (FI σ 85 9).toNatClampNeg))), z3, z4] [.int (((nI 16) * (FI σ 85 9)) + (AI σ 88 (FI σ 85 9).toNatClampNeg)), .ref 91] (Run false d 179 0 [some (.ref 85), some (.int (nI 1)), some (.int (nI 9999)), none, none, none] [] (wAI (wAI (wAI (wAI σ 88 (FI σ 85 9).toNatClampNeg ((AI σ 88 (FI σ 85 9).toNatClampNeg) + (nI 1))) 89 (((nI 16) * (FI σ 85 9)) + (AI σ 88 (FI σ 85 9).toNatClampNeg)).toNatClampNeg a1) 90 (((nI 16) * (FI σ 85 9)) + (AI σ 88 (FI σ 85 9).toNatClampNeg)).toNatClampNeg (nI 0)) 92 (((nI 16) * (FI σ 85 9)) + (AI σ 88 (FI σ 85 9).toNatClampNeg)).toNatClampNeg (FI σ 85 8)))))) else (bif obl (a1 = (nI 1)) then aft false (d + 1) 194 296 [some (.ref 85), some (.int a1), some (.int (((nI 16) * (FI σ 85 9)) + (AI σ 88 (FI σ 85 9).toNatClampNeg))), z3, z4] [.int (((nI 16) * (FI σ 85 9)) + (AI σ 88 (FI σ 85 9).toNatClampNeg)), .ref 91] (Run false d 179 0 [some (.ref 85), some (.int (nI 0)), some (.int (nI 100)), none, none, none] [] (wAI (wAI (wAI (wAI σ 88 (FI σ 85 9).toNatClampNeg ((AI σ 88 (FI σ 85 9).toNatClampNeg) + (nI 1))) 89 (((nI 16) * (FI σ 85 9)) + (AI σ 88 (FI σ 85 9).toNatClampNeg)).toNatClampNeg a1) 90 (((nI 16) * (FI σ 85 9)) + (AI σ 88 (FI σ 85 9).toNatClampNeg)).toNatClampNeg (nI 0)) 92 (((nI 16) * (FI σ 85 9)) + (AI σ 88 (FI σ 85 9).toNatClampNeg)).toNatClampNeg (FI σ 85 8))) else (bif obl (a1 = (nI 2)) then aft false (d + 1) 194 296 [some (.ref 85), some (.int a1), some (.int (((nI 16) * (FI σ 85 9)) + (AI σ 88 (FI σ 85 9).toNatClampNeg))), z3, z4] [.int (((nI 16) * (FI σ 85 9)) + (AI σ 88 (FI σ 85 9).toNatClampNeg)), .ref 91] (Run false d 179 0 [some (.ref 85), some (.int (nI 0)), some (.int (nI 100)), none, none, none] [] (wAI (wAI (wAI (wAI σ 88 (FI σ 85 9).toNatClampNeg ((AI σ 88 (FI σ 85 9).toNatClampNeg) + (nI 1))) 89 (((nI 16) * (FI σ 85 9)) + (AI σ 88 (FI σ 85 9).toNatClampNeg)).toNatClampNeg a1) 90 (((nI 16) * (FI σ 85 9)) + (AI σ 88 (FI σ 85 9).toNatClampNeg)).toNatClampNeg (nI 0)) 92 (((nI 16) * (FI σ 85 9)) + (AI σ 88 (FI σ 85 9).toNatClampNeg)).toNatClampNeg (FI σ 85 8))) else (bif obl (a1 = (nI 6)) then aft false (d + 1) 194 296 [some (.ref 85), some (.int a1), some (.int (((nI 16) * (FI σ 85 9)) + (AI σ 88 (FI σ 85 9).toNatClampNeg))), z3, z4] [.int (((nI 16) * (FI σ 85 9)) + (AI σ 88 (FI σ 85 9).toNatClampNeg)), .ref 91] (Run false d 179 0 [some (.ref 85), some (.int (nI 0)), some (.int (nI 50)), none, none, none] [] (wAI (wAI (wAI (wAI σ 88 (FI σ 85 9).toNatClampNeg ((AI σ 88 (FI σ 85 9).toNatClampNeg) + (nI 1))) 89 (((nI 16) * (FI σ 85 9)) + (AI σ 88 (FI σ 85 9).toNatClampNeg)).toNatClampNeg a1) 90 (((nI 16) * (FI σ 85 9)) + (AI σ 88 (FI σ 85 9).toNatClampNeg)).toNatClampNeg (nI 0)) 92 (((nI 16) * (FI σ 85 9)) + (AI σ 88 (FI σ 85 9).toNatClampNeg)).toNatClampNeg (FI σ 85 8))) else aft false (d + 1) 194 296 [some (.ref 85), some (.int a1), some (.int (((nI 16) * (FI σ 85 9)) + (AI σ 88 (FI σ 85 9).toNatClampNeg))), z3, z4] [.int (((nI 16) * (FI σ 85 9)) + (AI σ 88 (FI σ 85 9).toNatClampNeg)), .ref 91] (Run false d 179 0 [some (.ref 85), some (.int (nI 0)), some (.int (nI 9999)), none, none, none] [] (wAI (wAI (wAI (wAI σ 88 (FI σ 85 9).toNatClampNeg ((AI σ 88 (FI σ 85 9).toNatClampNeg) + (nI 1))) 89 (((nI 16) * (FI σ 85 9)) + (AI σ 88 (FI σ 85 9).toNatClampNeg)).toNatClampNeg a1) 90 (((nI 16) * (FI σ 85 9)) + (AI σ 88 (FI σ 85 9).toNatClampNeg)).toNatClampNeg (nI 0)) 92 (((nI 16) * (FI σ 85 9)) + (AI σ 88 (FI σ 85 9).toNatClampNeg)).toNatClampNeg (FI σ 85 8)))))))))) else none) else none) else aft false (d + 1) 194 112 [some (.ref 85), some (.int a1), some (.int (((nI 16) * (FI σ 85 9)) + (AI σ 88 (FI σ 85 9).toNatClampNeg))), z3, z4] [.int (((nI 16) * (FI σ 85 9)) + (AI σ 88 (FI σ 85 9).toNatClampNeg)), .ref 90] (Run false d 192 0 [some (.ref 85), none] [] (wAI (wAI σ 88 (FI σ 85 9).toNatClampNeg ((AI σ 88 (FI σ 85 9).toNatClampNeg) + (nI 1))) 89 (((nI 16) * (FI σ 85 9)) + (AI σ 88 (FI σ 85 9).toNatClampNeg)).toNatClampNeg a1))) else none) else none) else none) else none) := by
  rw [Run_go [4, 7, 22, 48, 52, 60, 112, 137, 141, 153, 160, 171, 175, 188, 214, 218, 225, 296, 313] 69]
  rfl
set_option maxRecDepth 100000 in
theorem s194_112 {d : Nat} {a1 : Int32} {a2 : Int32} {z3 : Option Value} {z4 : Option Value} {r1 : Int32} {r2 : Int32} {σ : PS} : Run false (d + 1) 194 112 [some (.ref 85), some (.int a1), some (.int a2), z3, z4] [.int r2, .int r1, .ref 90] σ =
    (bif inb r1 176 then (bif inb a2 176 then (bif obl (a1 = (nI 0)) then aft false (d + 1) 194 137 [some (.ref 85), some (.int a1), some (.int a2), z3, z4] [] (Run false d 180 0 [some (.ref 85), some (.int (nI 61))] [] (wAI (wAI σ 90 r1.toNatClampNeg r2) 92 a2.toNatClampNeg (FI σ 85 8))) else (bif obl (a1 = (nI 4)) then aft false (d + 1) 194 153 [some (.ref 85), some (.int a1), some (.int a2), z3, z4] [] (Run false d 172 0 [some (.ref 85)] [] (wAI (wAI σ 90 r1.toNatClampNeg r2) 92 a2.toNatClampNeg (FI σ 85 8))) else (bif obl (a1 = (nI 7)) then aft false (d + 1) 194 188 [some (.ref 85), some (.int a1), some (.int a2), z3, z4] [] (Run false d 177 0 [some (.ref 85), none, none, none, none] [] (wAI (wAI σ 90 r1.toNatClampNeg r2) 92 a2.toNatClampNeg (FI σ 85 8))) else (bif obl (a1 = (nI 6)) then (bif obl (a1 = (nI 1)) then aft false (d + 1) 194 296 [some (.ref 85), some (.int a1), some (.int a2), z3, z4] [.int a2, .ref 91] (Run false d 179 0 [some (.ref 85), some (.int (nI 1)), some (.int (nI 100)), none, none, none] [] (wAI (wAI σ 90 r1.toNatClampNeg r2) 92 a2.toNatClampNeg (FI σ 85 8))) else (bif obl (a1 = (nI 2)) then aft false (d + 1) 194 296 [some (.ref 85), some (.int a1), some (.int a2), z3, z4] [.int a2, .ref 91] (Run false d 179 0 [some (.ref 85), some (.int (nI 1)), some (.int (nI 100)), none, none, none] [] (wAI (wAI σ 90 r1.toNatClampNeg r2) 92 a2.toNatClampNeg (FI σ 85 8))) else (bif obl (a1 = (nI 6)) then aft false (d + 1) 194 296 [some (.ref 85), some (.int a1), some (.int a2), z3, z4] [.int a2, .ref 91] (Run false d 179 0 [some (.ref 85), some (.int (nI 1)), some (.int (nI 50)), none, none, none] [] (wAI (wAI σ 90 r1.toNatClampNeg r2) 92 a2.toNatClampNeg (FI σ 85 8))) else aft false (d + 1) 194 296 [some (.ref 85), some (.int a1), some (.int a2), z3, z4] [.int a2, .ref 91] (Run false d 179 0 [some (.ref 85), some (.int (nI 1)), some (.int (nI 9999)), none, none, none] [] (wAI (wAI σ 90 r1.toNatClampNeg r2) 92 a2.toNatClampNeg (FI σ 85 8)))))) else (bif obl (a1 = (nI 1)) then aft false (d + 1) 194 296 [some (.ref 85), some (.int a1), some (.int a2), z3, z4] [.int a2, .ref 91] (Run false d 179 0 [some (.ref 85), some (.int (nI 0)), some (.int (nI 100)), none, none, none] [] (wAI (wAI σ 90 r1.toNatClampNeg r2) 92 a2.toNatClampNeg (FI σ 85 8))) else (bif obl (a1 = (nI 2)) then aft false (d + 1) 194 296 [some (.ref 85), some (.int a1), some (.int a2), z3, z4] [.int a2, .ref 91] (Run false d 179 0 [some (.ref 85), some (.int (nI 0)), some (.int (nI 100)), none, none, none] [] (wAI (wAI σ 90 r1.toNatClampNeg r2) 92 a2.toNatClampNeg (FI σ 85 8))) else (bif obl (a1 = (nI 6)) then aft false (d + 1) 194 296 [some (.ref 85), some (.int a1), some (.int a2), z3, z4] [.int a2, .ref 91] (Run false d 179 0 [some (.ref 85), some (.int (nI 0)), some (.int (nI 50)), none, none, none] [] (wAI (wAI σ 90 r1.toNatClampNeg r2) 92 a2.toNatClampNeg (FI σ 85 8))) else aft false (d + 1) 194 296 [some (.ref 85), some (.int a1), some (.int a2), z3, z4] [.int a2, .ref 91] (Run false d 179 0 [some (.ref 85), some (.int (nI 0)), some (.int (nI 9999)), none, none, none] [] (wAI (wAI σ 90 r1.toNatClampNeg r2) 92 a2.toNatClampNeg (FI σ 85 8)))))))))) else none) else none) := by
  rw [Run_go [4, 7, 22, 48, 52, 60, 112, 137, 141, 153, 160, 171, 175, 188, 214, 218, 225, 296, 313] 38]
  rfl
theorem s194_137 {d : Nat} {a1 : Int32} {a2 : Int32} {z3 : Option Value} {z4 : Option Value} {σ : PS} : Run false (d + 1) 194 137 [some (.ref 85), some (.int a1), some (.int a2), z3, z4] [] σ =
    aft false (d + 1) 194 141 [some (.ref 85), some (.int a1), some (.int a2), z3, z4] [] (Run false d 187 0 [some (.ref 85), none] [] σ) := by
  rw [Run_go [4, 7, 22, 48, 52, 60, 112, 137, 141, 153, 160, 171, 175, 188, 214, 218, 225, 296, 313] 3]
  rfl
set_option maxRecDepth 100000 in
theorem s194_141 {d : Nat} {a1 : Int32} {a2 : Int32} {z3 : Option Value} {z4 : Option Value} {σ : PS} : Run false (d + 1) 194 141 [some (.ref 85), some (.int a1), some (.int a2), z3, z4] [] σ =
    (bif inb a2 176 then aft false (d + 1) 194 313 [some (.ref 85), some (.int a1), some (.int a2), z3, z4] [] (Run false d 180 0 [some (.ref 85), some (.int (nI 59))] [] (wAI σ 93 a2.toNatClampNeg (FI σ 85 8))) else none) := by
  rw [Run_go [4, 7, 22, 48, 52, 60, 112, 137, 141, 153, 160, 171, 175, 188, 214, 218, 225, 296, 313] 11]
  rfl
set_option maxRecDepth 100000 in
theorem s194_153 {d : Nat} {a1 : Int32} {a2 : Int32} {z3 : Option Value} {z4 : Option Value} {r0 : Int32} {σ : PS} : Run false (d + 1) 194 153 [some (.ref 85), some (.int a1), some (.int a2), z3, z4] [.int r0] σ =
    (bif obl (r0 = (nI 0)) then (bif inb a2 176 then aft false (d + 1) 194 313 [some (.ref 85), some (.int a1), some (.int a2), z3, z4] [] (Run false d 180 0 [some (.ref 85), some (.int (nI 59))] [] (wAI σ 93 a2.toNatClampNeg (FI σ 85 8))) else none) else aft false (d + 1) 194 160 [some (.ref 85), some (.int a1), some (.int a2), z3, z4] [] (Run false d 177 0 [some (.ref 85), none, none, none, none] [] σ)) := by
  rw [Run_go [4, 7, 22, 48, 52, 60, 112, 137, 141, 153, 160, 171, 175, 188, 214, 218, 225, 296, 313] 11]
  rfl
set_option maxRecDepth 100000 in
theorem s194_160 {d : Nat} {a1 : Int32} {a2 : Int32} {z3 : Option Value} {z4 : Option Value} {q0 : Int64} {σ : PS} : Run false (d + 1) 194 160 [some (.ref 85), some (.int a1), some (.int a2), z3, z4] [.long q0] σ =
    (bif obl ((lg_cmp q0 (lN 294)) = (nI 0)) then aft false (d + 1) 194 171 [some (.ref 85), some (.int a1), some (.int a2), z3, z4] [] (Run false d 178 0 [some (.ref 85)] [] σ) else (bif inb a2 176 then aft false (d + 1) 194 313 [some (.ref 85), some (.int a1), some (.int a2), z3, z4] [] (Run false d 180 0 [some (.ref 85), some (.int (nI 59))] [] (wAI σ 93 a2.toNatClampNeg (FI σ 85 8))) else none)) := by
  rw [Run_go [4, 7, 22, 48, 52, 60, 112, 137, 141, 153, 160, 171, 175, 188, 214, 218, 225, 296, 313] 13]
  rfl
theorem s194_171 {d : Nat} {a1 : Int32} {a2 : Int32} {z3 : Option Value} {z4 : Option Value} {σ : PS} : Run false (d + 1) 194 171 [some (.ref 85), some (.int a1), some (.int a2), z3, z4] [] σ =
    aft false (d + 1) 194 175 [some (.ref 85), some (.int a1), some (.int a2), z3, z4] [] (Run false d 188 0 [some (.ref 85)] [] σ) := by
  rw [Run_go [4, 7, 22, 48, 52, 60, 112, 137, 141, 153, 160, 171, 175, 188, 214, 218, 225, 296, 313] 3]
  rfl
set_option maxRecDepth 100000 in
theorem s194_175 {d : Nat} {a1 : Int32} {a2 : Int32} {z3 : Option Value} {z4 : Option Value} {σ : PS} : Run false (d + 1) 194 175 [some (.ref 85), some (.int a1), some (.int a2), z3, z4] [] σ =
    (bif inb a2 176 then aft false (d + 1) 194 313 [some (.ref 85), some (.int a1), some (.int a2), z3, z4] [] (Run false d 180 0 [some (.ref 85), some (.int (nI 59))] [] (wAI σ 93 a2.toNatClampNeg (FI σ 85 8))) else none) := by
  rw [Run_go [4, 7, 22, 48, 52, 60, 112, 137, 141, 153, 160, 171, 175, 188, 214, 218, 225, 296, 313] 11]
  rfl
set_option maxRecDepth 100000 in
theorem s194_188 {d : Nat} {a1 : Int32} {a2 : Int32} {z3 : Option Value} {z4 : Option Value} {q0 : Int64} {σ : PS} : Run false (d + 1) 194 188 [some (.ref 85), some (.int a1), some (.int a2), z3, z4] [.long q0] σ =
    (bif obl ((lg_cmp q0 (lN 437622355)) = (nI 0)) then Run false (d + 1) 194 214 [some (.ref 85), some (.int a1), some (.int a2), some (.long q0), none] [] σ else (bif obl ((lg_cmp q0 (lN 20510323891)) = (nI 0)) then Run false (d + 1) 194 214 [some (.ref 85), some (.int a1), some (.int a2), some (.long q0), none] [] σ else aft false (d + 1) 194 214 [some (.ref 85), some (.int a1), some (.int a2), some (.long q0), none] [] (Run false d 173 0 [some (.ref 85), some (.int (nI 1)), some (.int (FI σ 85 4))] [] σ))) := by
  rw [Run_go [4, 7, 22, 48, 52, 60, 112, 137, 141, 153, 160, 171, 175, 188, 214, 218, 225, 296, 313] 15]
  rfl
theorem s194_214 {d : Nat} {a1 : Int32} {a2 : Int32} {b3 : Int64} {σ : PS} : Run false (d + 1) 194 214 [some (.ref 85), some (.int a1), some (.int a2), some (.long b3), none] [] σ =
    aft false (d + 1) 194 218 [some (.ref 85), some (.int a1), some (.int a2), some (.long b3), none] [] (Run false d 172 0 [some (.ref 85)] [] σ) := by
  rw [Run_go [4, 7, 22, 48, 52, 60, 112, 137, 141, 153, 160, 171, 175, 188, 214, 218, 225, 296, 313] 3]
  rfl
theorem s194_218 {d : Nat} {a1 : Int32} {a2 : Int32} {b3 : Int64} {r0 : Int32} {σ : PS} : Run false (d + 1) 194 218 [some (.ref 85), some (.int a1), some (.int a2), some (.long b3), none] [.int r0] σ =
    (bif obl (r0 = (nI 0)) then Run false (d + 1) 194 225 [some (.ref 85), some (.int a1), some (.int a2), some (.long b3), none] [] σ else aft false (d + 1) 194 225 [some (.ref 85), some (.int a1), some (.int a2), some (.long b3), none] [] (Run false d 178 0 [some (.ref 85)] [] σ)) := by
  rw [Run_go [4, 7, 22, 48, 52, 60, 112, 137, 141, 153, 160, 171, 175, 188, 214, 218, 225, 296, 313] 4]
  rfl
set_option maxRecDepth 100000 in
theorem s194_225 {d : Nat} {a1 : Int32} {a2 : Int32} {b3 : Int64} {σ : PS} : Run false (d + 1) 194 225 [some (.ref 85), some (.int a1), some (.int a2), some (.long b3), none] [] σ =
    (bif obl ((lg_cmp b3 (lN 20510323891)) = (nI 0)) then (bif inb a2 176 then (bif inb a2 176 then aft false (d + 1) 194 313 [some (.ref 85), some (.int a1), some (.int a2), some (.long b3), none] [] (Run false d 180 0 [some (.ref 85), some (.int (nI 59))] [] (wAI (wAI σ 91 a2.toNatClampNeg (nI 1)) 93 a2.toNatClampNeg (FI σ 85 8))) else none) else none) else (bif inb a2 176 then (bif inb a2 176 then aft false (d + 1) 194 313 [some (.ref 85), some (.int a1), some (.int a2), some (.long b3), none] [] (Run false d 180 0 [some (.ref 85), some (.int (nI 59))] [] (wAI (wAI σ 91 a2.toNatClampNeg (nI 0)) 93 a2.toNatClampNeg (FI σ 85 8))) else none) else none)) := by
  rw [Run_go [4, 7, 22, 48, 52, 60, 112, 137, 141, 153, 160, 171, 175, 188, 214, 218, 225, 296, 313] 21]
  rfl
set_option maxRecDepth 100000 in
theorem s194_296 {d : Nat} {a1 : Int32} {a2 : Int32} {z3 : Option Value} {z4 : Option Value} {r1 : Int32} {r2 : Int32} {σ : PS} : Run false (d + 1) 194 296 [some (.ref 85), some (.int a1), some (.int a2), z3, z4] [.int r2, .int r1, .ref 91] σ =
    (bif inb r1 176 then (bif inb a2 176 then aft false (d + 1) 194 313 [some (.ref 85), some (.int a1), some (.int a2), z3, z4] [] (Run false d 180 0 [some (.ref 85), some (.int (nI 59))] [] (wAI (wAI σ 91 r1.toNatClampNeg r2) 93 a2.toNatClampNeg (FI σ 85 8))) else none) else none) := by
  rw [Run_go [4, 7, 22, 48, 52, 60, 112, 137, 141, 153, 160, 171, 175, 188, 214, 218, 225, 296, 313] 11]
  rfl
theorem s194_313 {d : Nat} {a1 : Int32} {a2 : Int32} {z3 : Option Value} {z4 : Option Value} {σ : PS} : Run false (d + 1) 194 313 [some (.ref 85), some (.int a1), some (.int a2), z3, z4] [] σ =
    some (.inl (none, σ)) := by
  rw [Run_go [4, 7, 22, 48, 52, 60, 112, 137, 141, 153, 160, 171, 175, 188, 214, 218, 225, 296, 313] 2]
  rfl
theorem s195_0 {d : Nat}  {σ : PS} : Run false (d + 1) 195 0 [some (.ref 85)] [] σ =
    aft false (d + 1) 195 4 [some (.ref 85)] [] (Run false d 174 0 [some (.ref 85)] [] σ) := by
  rw [Run_go [4] 3]
  rfl
set_option maxRecDepth 100000 in
theorem s195_4 {d : Nat} {r0 : Int32} {σ : PS} : Run false (d + 1) 195 4 [some (.ref 85)] [.int r0] σ =
    (bif obl ((FI σ 85 3) ≤ (FI σ 85 4)) then (bif is01 (nI 0) then some (.inl (some (.int (nI 0)), σ)) else none) else (bif is01 (nI 1) then some (.inl (some (.int (nI 1)), σ)) else none)) := by
  rw [Run_go [4] 10]
  rfl
set_option maxRecDepth 100000 in
theorem s196_0 {d : Nat} {a1 : Int32} {a2 : Int32} {a3 : Int32} {σ : PS} : Run false (d + 1) 196 0 [some (.ref 85), some (.int a1), some (.int a2), some (.int a3)] [] σ =
    (bif inb a1 11 then (bif inb a1 11 then Run false (d + 1) 196 55 [some (.ref 85), some (.int a1), some (.int a2), some (.int a3)] [] (wFI (wFI (wFI (wFI (wFI (wAI (wAI (wFI (wFI σ 85 2 (nI 0)) 85 9 a1) 87 a1.toNatClampNeg a2) 88 a1.toNatClampNeg (nI 0)) 85 3 a3) 85 4 (nI 0)) 85 5 (-1 : Int32)) 85 7 (nI 0)) 85 8 (nI 0)) else none) else none) := by
  rw [Run_go [55, 59, 66, 73, 88] 34]
  rfl
theorem s196_55 {d : Nat} {a1 : Int32} {a2 : Int32} {a3 : Int32} {σ : PS} : Run false (d + 1) 196 55 [some (.ref 85), some (.int a1), some (.int a2), some (.int a3)] [] σ =
    aft false (d + 1) 196 59 [some (.ref 85), some (.int a1), some (.int a2), some (.int a3)] [] (Run false d 172 0 [some (.ref 85)] [] σ) := by
  rw [Run_go [55, 59, 66, 73, 88] 3]
  rfl
set_option maxRecDepth 100000 in
theorem s196_59 {d : Nat} {a1 : Int32} {a2 : Int32} {a3 : Int32} {r0 : Int32} {σ : PS} : Run false (d + 1) 196 59 [some (.ref 85), some (.int a1), some (.int a2), some (.int a3)] [.int r0] σ =
    (bif obl (r0 = (nI 0)) then aft false (d + 1) 196 88 [some (.ref 85), some (.int a1), some (.int a2), some (.int a3)] [] (Run false d 172 0 [some (.ref 85)] [] (wFI σ 85 11 (FI σ 85 5))) else aft false (d + 1) 196 66 [some (.ref 85), some (.int a1), some (.int a2), some (.int a3)] [] (Run false d 195 0 [some (.ref 85)] [] σ)) := by
  rw [Run_go [55, 59, 66, 73, 88] 8]
  rfl
set_option maxRecDepth 100000 in
theorem s196_66 {d : Nat} {a1 : Int32} {a2 : Int32} {a3 : Int32} {r0 : Int32} {σ : PS} : Run false (d + 1) 196 66 [some (.ref 85), some (.int a1), some (.int a2), some (.int a3)] [.int r0] σ =
    (bif obl (r0 = (nI 0)) then aft false (d + 1) 196 88 [some (.ref 85), some (.int a1), some (.int a2), some (.int a3)] [] (Run false d 172 0 [some (.ref 85)] [] (wFI σ 85 11 (FI σ 85 5))) else aft false (d + 1) 196 73 [some (.ref 85), some (.int a1), some (.int a2), some (.int a3)] [] (Run false d 194 0 [some (.ref 85), none, none, none, none] [] σ)) := by
  rw [Run_go [55, 59, 66, 73, 88] 8]
  rfl
theorem s196_73 {d : Nat} {a1 : Int32} {a2 : Int32} {a3 : Int32} {σ : PS} : Run false (d + 1) 196 73 [some (.ref 85), some (.int a1), some (.int a2), some (.int a3)] [] σ =
    Run false (d + 1) 196 55 [some (.ref 85), some (.int a1), some (.int a2), some (.int a3)] [] σ := by
  rw [Run_go [55, 59, 66, 73, 88] 2]
  rfl
theorem s196_88 {d : Nat} {a1 : Int32} {a2 : Int32} {a3 : Int32} {r0 : Int32} {σ : PS} : Run false (d + 1) 196 88 [some (.ref 85), some (.int a1), some (.int a2), some (.int a3)] [.int r0] σ =
    (bif is01 r0 then some (.inl (some (.int r0), σ)) else none) := by
  rw [Run_go [55, 59, 66, 73, 88] 2]
  rfl
theorem s197_0 {d : Nat} {a1 : Int32} {a2 : Int32} {σ : PS} : Run false (d + 1) 197 0 [some (.ref 85), some (.int a1), some (.int a2)] [] σ =
    aft false (d + 1) 197 10 [some (.ref 85), some (.int a1), some (.int a2)] [.ref 85] (Run false d 170 0 [some (.int a1)] [] (wFI σ 85 0 (nI 0))) := by
  rw [Run_go [10, 34, 70] 7]
  rfl
set_option maxRecDepth 100000 in
theorem s197_10 {d : Nat} {a1 : Int32} {a2 : Int32} {r1 : Int32} {σ : PS} : Run false (d + 1) 197 10 [some (.ref 85), some (.int a1), some (.int a2)] [.int r1, .ref 85] σ =
    (bif obl (r1 = (nI 0)) then aft false (d + 1) 197 34 [some (.ref 85), some (.int a1), some (.int a2)] [] (Run false d 165 0 [some (.ref 85), some (.int (nI 0)), some (.int (nI 1))] [] σ) else (bif obl (a2 < (nI 0)) then aft false (d + 1) 197 34 [some (.ref 85), some (.int a1), some (.int a2)] [] (Run false d 165 0 [some (.ref 85), some (.int (nI 0)), some (.int (nI 1))] [] σ) else (bif obl ((FI σ 85 2) < a2) then aft false (d + 1) 197 34 [some (.ref 85), some (.int a1), some (.int a2)] [] (Run false d 165 0 [some (.ref 85), some (.int (nI 0)), some (.int (nI 1))] [] σ) else aft false (d + 1) 197 34 [some (.ref 85), some (.int a1), some (.int a2)] [] (Run false d 165 0 [some (.ref 85), some (.int (nI 1)), some (.int (nI 1))] [] σ)))) := by
  rw [Run_go [10, 34, 70] 12]
  rfl
set_option maxRecDepth 100000 in
theorem s197_34 {d : Nat} {a1 : Int32} {a2 : Int32} {r0 : Int32} {σ : PS} : Run false (d + 1) 197 34 [some (.ref 85), some (.int a1), some (.int a2)] [.int r0] σ =
    (bif obl (r0 = (nI 0)) then some (.inl (some (.int (nI 0)), σ)) else (bif obl ((FI σ 85 10) = (nI 10)) then some (.inl (some (.int (-1 : Int32)), (wFI (wFI σ 85 2 (nI 0)) 85 11 (-1 : Int32)))) else aft false (d + 1) 197 70 [some (.ref 85), some (.int a1), some (.int a2)] [] (Run false d 196 0 [some (.ref 85), some (.int (FI σ 85 10)), some (.int a1), some (.int a2)] [] σ))) := by
  rw [Run_go [10, 34, 70] 14]
  rfl
set_option maxRecDepth 100000 in
theorem s197_70 {d : Nat} {a1 : Int32} {a2 : Int32} {r0 : Int32} {σ : PS} : Run false (d + 1) 197 70 [some (.ref 85), some (.int a1), some (.int a2)] [.int r0] σ =
    (bif obl (r0 = (nI 0)) then some (.inl (some (.int ((FI σ 85 6) - (nI 10))), σ)) else some (.inl (some (.int (((FI σ 85 10) + (nI 1)) - (nI 1))), (wFI σ 85 10 ((FI σ 85 10) + (nI 1)))))) := by
  rw [Run_go [10, 34, 70] 13]
  rfl
theorem s198_0 {d : Nat}  {σ : PS} : Run false (d + 1) 198 0 [some (.ref 85)] [] σ =
    some (.inl (some (.int (FI σ 85 11)), (wFI σ 85 0 (nI 0)))) := by
  rw [Run_go [] 7]
  rfl
theorem s199_0 {d : Nat} {a1 : Int32} {a2 : Int32} {a3 : Int32} {σ : PS} : Run false (d + 1) 199 0 [some (.ref 85), some (.int a1), some (.int a2), some (.int a3), none, none, none, none] [] σ =
    Run false (d + 1) 199 6 [some (.ref 85), some (.int a1), some (.int a2), some (.int a3), some (.int (-1 : Int32)), some (.int (nI 0)), none, none] [] σ := by
  rw [Run_go [6, 65] 5]
  rfl
set_option maxRecDepth 100000 in
theorem s199_6 {d : Nat} {a1 : Int32} {a2 : Int32} {a3 : Int32} {a4 : Int32} {a5 : Int32} {z6 : Option Value} {z7 : Option Value} {σ : PS} : Run false (d + 1) 199 6 [some (.ref 85), some (.int a1), some (.int a2), some (.int a3), some (.int a4), some (.int a5), z6, z7] [] σ =
    (bif obl ((nI 10) < a5) then some (.inl (some (.int a4), σ)) else (bif obl ((FI σ 85 10) ≤ a5) then (bif obl (a5 = (nI 10)) then (bif obl ((FI σ 85 22) = (nI 0)) then Run false (d + 1) 199 65 [some (.ref 85), some (.int a1), some (.int a2), some (.int a3), some (.int a4), some (.int a5), some (.int (nI 0)), some (.int (nI 0))] [] σ else Run false (d + 1) 199 65 [some (.ref 85), some (.int a1), some (.int a2), some (.int a3), some (.int a4), some (.int a5), some (.int (nI 1)), some (.int (nI 0))] [] σ) else Run false (d + 1) 199 65 [some (.ref 85), some (.int a1), some (.int a2), some (.int a3), some (.int a4), some (.int a5), some (.int (nI 0)), some (.int (nI 0))] [] σ) else (bif inb a5 11 then (bif obl (a3 < (AI σ 87 a5.toNatClampNeg)) then Run false (d + 1) 199 65 [some (.ref 85), some (.int a1), some (.int a2), some (.int a3), some (.int a4), some (.int a5), some (.int (nI 0)), some (.int (nI 0))] [] σ else Run false (d + 1) 199 65 [some (.ref 85), some (.int a1), some (.int a2), some (.int a3), some (.int a4), some (.int a5), some (.int (nI 1)), some (.int (nI 0))] [] σ) else none))) := by
  rw [Run_go [6, 65] 19]
  rfl
set_option maxRecDepth 100000 in
theorem s199_65 {d : Nat} {a1 : Int32} {a2 : Int32} {a3 : Int32} {a4 : Int32} {a5 : Int32} {a6 : Int32} {a7 : Int32} {σ : PS} : Run false (d + 1) 199 65 [some (.ref 85), some (.int a1), some (.int a2), some (.int a3), some (.int a4), some (.int a5), some (.int a6), some (.int a7)] [] σ =
    (bif inb a5 11 then (bif obl ((AI σ 88 a5.toNatClampNeg) ≤ a7) then Run false (d + 1) 199 6 [some (.ref 85), some (.int a1), some (.int a2), some (.int a3), some (.int a4), some (.int (a5 + (nI 1))), some (.int a6), some (.int a7)] [] σ else (bif obl (a6 = (nI 0)) then Run false (d + 1) 199 6 [some (.ref 85), some (.int a1), some (.int a2), some (.int a3), some (.int a4), some (.int (a5 + (nI 1))), some (.int a6), some (.int a7)] [] σ else (bif inb (((nI 16) * a5) + a7) 176 then (bif obl ((AI σ 89 (((nI 16) * a5) + a7).toNatClampNeg) = a1) then (bif inb (((nI 16) * a5) + a7) 176 then (bif obl ((AI σ 90 (((nI 16) * a5) + a7).toNatClampNeg) = a2) then Run false (d + 1) 199 65 [some (.ref 85), some (.int a1), some (.int a2), some (.int a3), some (.int (((nI 16) * a5) + a7)), some (.int a5), some (.int a6), some (.int (a7 + (nI 1)))] [] σ else Run false (d + 1) 199 65 [some (.ref 85), some (.int a1), some (.int a2), some (.int a3), some (.int a4), some (.int a5), some (.int a6), some (.int (a7 + (nI 1)))] [] σ) else none) else Run false (d + 1) 199 65 [some (.ref 85), some (.int a1), some (.int a2), some (.int a3), some (.int a4), some (.int a5), some (.int a6), some (.int (a7 + (nI 1)))] [] σ) else none))) else none) := by
  rw [Run_go [6, 65] 37]
  rfl
theorem s200_0 {d : Nat} {a1 : Int32} {a2 : Int32} {a3 : Int32} {σ : PS} : Run false (d + 1) 200 0 [some (.ref 85), some (.int a1), some (.int a2), some (.int a3), none] [] σ =
    aft false (d + 1) 200 7 [some (.ref 85), some (.int a1), some (.int a2), some (.int a3), none] [] (Run false d 199 0 [some (.ref 85), some (.int a1), some (.int a2), some (.int a3), none, none, none, none] [] σ) := by
  rw [Run_go [7] 6]
  rfl
set_option maxRecDepth 100000 in
theorem s200_7 {d : Nat} {a1 : Int32} {a2 : Int32} {a3 : Int32} {z4 : Option Value} {r0 : Int32} {σ : PS} : Run false (d + 1) 200 7 [some (.ref 85), some (.int a1), some (.int a2), some (.int a3), z4] [.int r0] σ =
    (bif obl (r0 = (-1 : Int32)) then (bif obl (a1 = (nI 2)) then some (.inl (some (.int (nI 100)), σ)) else (bif obl (a1 = (nI 6)) then some (.inl (some (.int (nI 1)), σ)) else some (.inl (some (.int (nI 0)), σ)))) else (bif inb r0 176 then some (.inl (some (.int (AI σ 91 r0.toNatClampNeg)), σ)) else none)) := by
  rw [Run_go [7] 14]
  rfl
theorem s201_0 {d : Nat} {a1 : Int32} {a2 : Int32} {a3 : Int32} {σ : PS} : Run false (d + 1) 201 0 [some (.ref 85), some (.int a1), some (.int a2), some (.int a3)] [] σ =
    aft false (d + 1) 201 10 [some (.ref 85), some (.int a1), some (.int a2), some (.int a3)] [.ref 85] (Run false d 170 0 [some (.int a1)] [] (wFI σ 85 0 (nI 0))) := by
  rw [Run_go [10, 17, 26, 38, 80, 87, 88, 95, 96, 103, 104, 111, 112, 120, 121, 129] 7]
  rfl
theorem s201_10 {d : Nat} {a1 : Int32} {a2 : Int32} {a3 : Int32} {r1 : Int32} {σ : PS} : Run false (d + 1) 201 10 [some (.ref 85), some (.int a1), some (.int a2), some (.int a3)] [.int r1, .ref 85] σ =
    (bif obl (r1 = (nI 0)) then aft false (d + 1) 201 38 [some (.ref 85), some (.int a1), some (.int a2), some (.int a3)] [] (Run false d 165 0 [some (.ref 85), some (.int (nI 0)), some (.int (nI 1))] [] σ) else aft false (d + 1) 201 17 [some (.ref 85), some (.int a1), some (.int a2), some (.int a3)] [.ref 85] (Run false d 169 0 [some (.int a2)] [] σ)) := by
  rw [Run_go [10, 17, 26, 38, 80, 87, 88, 95, 96, 103, 104, 111, 112, 120, 121, 129] 5]
  rfl
theorem s201_17 {d : Nat} {a1 : Int32} {a2 : Int32} {a3 : Int32} {r1 : Int32} {σ : PS} : Run false (d + 1) 201 17 [some (.ref 85), some (.int a1), some (.int a2), some (.int a3)] [.int r1, .ref 85] σ =
    (bif obl (r1 = (nI 0)) then aft false (d + 1) 201 38 [some (.ref 85), some (.int a1), some (.int a2), some (.int a3)] [] (Run false d 165 0 [some (.ref 85), some (.int (nI 0)), some (.int (nI 1))] [] σ) else aft false (d + 1) 201 26 [some (.ref 85), some (.int a1), some (.int a2), some (.int a3)] [.ref 85] (Run false d 166 0 [some (.int a3), some (.int (nI 0)), some (.int (nI 5))] [] σ)) := by
  rw [Run_go [10, 17, 26, 38, 80, 87, 88, 95, 96, 103, 104, 111, 112, 120, 121, 129] 6]
  rfl
theorem s201_26 {d : Nat} {a1 : Int32} {a2 : Int32} {a3 : Int32} {r1 : Int32} {σ : PS} : Run false (d + 1) 201 26 [some (.ref 85), some (.int a1), some (.int a2), some (.int a3)] [.int r1, .ref 85] σ =
    (bif obl (r1 = (nI 0)) then aft false (d + 1) 201 38 [some (.ref 85), some (.int a1), some (.int a2), some (.int a3)] [] (Run false d 165 0 [some (.ref 85), some (.int (nI 0)), some (.int (nI 1))] [] σ) else aft false (d + 1) 201 38 [some (.ref 85), some (.int a1), some (.int a2), some (.int a3)] [] (Run false d 165 0 [some (.ref 85), some (.int (nI 1)), some (.int (nI 1))] [] σ)) := by
  rw [Run_go [10, 17, 26, 38, 80, 87, 88, 95, 96, 103, 104, 111, 112, 120, 121, 129] 6]
  rfl
theorem s201_38 {d : Nat} {a1 : Int32} {a2 : Int32} {a3 : Int32} {r0 : Int32} {σ : PS} : Run false (d + 1) 201 38 [some (.ref 85), some (.int a1), some (.int a2), some (.int a3)] [.int r0] σ =
    (bif obl (r0 = (nI 0)) then some (.inl (some (.int (nI 0)), σ)) else Run false (d + 1) 201 (tswF 44 77 0 4 #[36, 44, 52, 60, 68] a3) [some (.ref 85), some (.int a1), some (.int a2), some (.int a3)] [] σ) := by
  rw [Run_go [10, 17, 26, 38, 80, 87, 88, 95, 96, 103, 104, 111, 112, 120, 121, 129] 4]
  rfl
theorem s201_80 {d : Nat} {a1 : Int32} {a2 : Int32} {a3 : Int32} {σ : PS} : Run false (d + 1) 201 80 [some (.ref 85), some (.int a1), some (.int a2), some (.int a3)] [] σ =
    aft false (d + 1) 201 87 [some (.ref 85), some (.int a1), some (.int a2), some (.int a3)] [] (Run false d 200 0 [some (.ref 85), some (.int (nI 1)), some (.int a2), some (.int a1), none] [] σ) := by
  rw [Run_go [10, 17, 26, 38, 80, 87, 88, 95, 96, 103, 104, 111, 112, 120, 121, 129] 6]
  rfl
theorem s201_87 {d : Nat} {a1 : Int32} {a2 : Int32} {a3 : Int32} {r0 : Int32} {σ : PS} : Run false (d + 1) 201 87 [some (.ref 85), some (.int a1), some (.int a2), some (.int a3)] [.int r0] σ =
    some (.inl (some (.int r0), σ)) := by
  rw [Run_go [10, 17, 26, 38, 80, 87, 88, 95, 96, 103, 104, 111, 112, 120, 121, 129] 2]
  rfl
theorem s201_88 {d : Nat} {a1 : Int32} {a2 : Int32} {a3 : Int32} {σ : PS} : Run false (d + 1) 201 88 [some (.ref 85), some (.int a1), some (.int a2), some (.int a3)] [] σ =
    aft false (d + 1) 201 95 [some (.ref 85), some (.int a1), some (.int a2), some (.int a3)] [] (Run false d 200 0 [some (.ref 85), some (.int (nI 2)), some (.int a2), some (.int a1), none] [] σ) := by
  rw [Run_go [10, 17, 26, 38, 80, 87, 88, 95, 96, 103, 104, 111, 112, 120, 121, 129] 6]
  rfl
theorem s201_95 {d : Nat} {a1 : Int32} {a2 : Int32} {a3 : Int32} {r0 : Int32} {σ : PS} : Run false (d + 1) 201 95 [some (.ref 85), some (.int a1), some (.int a2), some (.int a3)] [.int r0] σ =
    some (.inl (some (.int r0), σ)) := by
  rw [Run_go [10, 17, 26, 38, 80, 87, 88, 95, 96, 103, 104, 111, 112, 120, 121, 129] 2]
  rfl
theorem s201_96 {d : Nat} {a1 : Int32} {a2 : Int32} {a3 : Int32} {σ : PS} : Run false (d + 1) 201 96 [some (.ref 85), some (.int a1), some (.int a2), some (.int a3)] [] σ =
    aft false (d + 1) 201 103 [some (.ref 85), some (.int a1), some (.int a2), some (.int a3)] [] (Run false d 200 0 [some (.ref 85), some (.int (nI 3)), some (.int a2), some (.int a1), none] [] σ) := by
  rw [Run_go [10, 17, 26, 38, 80, 87, 88, 95, 96, 103, 104, 111, 112, 120, 121, 129] 6]
  rfl
theorem s201_103 {d : Nat} {a1 : Int32} {a2 : Int32} {a3 : Int32} {r0 : Int32} {σ : PS} : Run false (d + 1) 201 103 [some (.ref 85), some (.int a1), some (.int a2), some (.int a3)] [.int r0] σ =
    some (.inl (some (.int r0), σ)) := by
  rw [Run_go [10, 17, 26, 38, 80, 87, 88, 95, 96, 103, 104, 111, 112, 120, 121, 129] 2]
  rfl
theorem s201_104 {d : Nat} {a1 : Int32} {a2 : Int32} {a3 : Int32} {σ : PS} : Run false (d + 1) 201 104 [some (.ref 85), some (.int a1), some (.int a2), some (.int a3)] [] σ =
    aft false (d + 1) 201 111 [some (.ref 85), some (.int a1), some (.int a2), some (.int a3)] [] (Run false d 200 0 [some (.ref 85), some (.int (nI 5)), some (.int (nI 0)), some (.int a1), none] [] σ) := by
  rw [Run_go [10, 17, 26, 38, 80, 87, 88, 95, 96, 103, 104, 111, 112, 120, 121, 129] 6]
  rfl
theorem s201_111 {d : Nat} {a1 : Int32} {a2 : Int32} {a3 : Int32} {r0 : Int32} {σ : PS} : Run false (d + 1) 201 111 [some (.ref 85), some (.int a1), some (.int a2), some (.int a3)] [.int r0] σ =
    some (.inl (some (.int r0), σ)) := by
  rw [Run_go [10, 17, 26, 38, 80, 87, 88, 95, 96, 103, 104, 111, 112, 120, 121, 129] 2]
  rfl
theorem s201_112 {d : Nat} {a1 : Int32} {a2 : Int32} {a3 : Int32} {σ : PS} : Run false (d + 1) 201 112 [some (.ref 85), some (.int a1), some (.int a2), some (.int a3)] [] σ =
    aft false (d + 1) 201 120 [some (.ref 85), some (.int a1), some (.int a2), some (.int a3)] [] (Run false d 200 0 [some (.ref 85), some (.int (nI 6)), some (.int (nI 0)), some (.int a1), none] [] σ) := by
  rw [Run_go [10, 17, 26, 38, 80, 87, 88, 95, 96, 103, 104, 111, 112, 120, 121, 129] 6]
  rfl
theorem s201_120 {d : Nat} {a1 : Int32} {a2 : Int32} {a3 : Int32} {r0 : Int32} {σ : PS} : Run false (d + 1) 201 120 [some (.ref 85), some (.int a1), some (.int a2), some (.int a3)] [.int r0] σ =
    some (.inl (some (.int r0), σ)) := by
  rw [Run_go [10, 17, 26, 38, 80, 87, 88, 95, 96, 103, 104, 111, 112, 120, 121, 129] 2]
  rfl
theorem s201_121 {d : Nat} {a1 : Int32} {a2 : Int32} {a3 : Int32} {σ : PS} : Run false (d + 1) 201 121 [some (.ref 85), some (.int a1), some (.int a2), some (.int a3)] [] σ =
    aft false (d + 1) 201 129 [some (.ref 85), some (.int a1), some (.int a2), some (.int a3)] [] (Run false d 200 0 [some (.ref 85), some (.int (nI 7)), some (.int (nI 0)), some (.int a1), none] [] σ) := by
  rw [Run_go [10, 17, 26, 38, 80, 87, 88, 95, 96, 103, 104, 111, 112, 120, 121, 129] 6]
  rfl
theorem s201_129 {d : Nat} {a1 : Int32} {a2 : Int32} {a3 : Int32} {r0 : Int32} {σ : PS} : Run false (d + 1) 201 129 [some (.ref 85), some (.int a1), some (.int a2), some (.int a3)] [.int r0] σ =
    some (.inl (some (.int r0), σ)) := by
  rw [Run_go [10, 17, 26, 38, 80, 87, 88, 95, 96, 103, 104, 111, 112, 120, 121, 129] 2]
  rfl
theorem s202_0 {d : Nat} {a1 : Int32} {a2 : Int32} {σ : PS} : Run false (d + 1) 202 0 [some (.ref 85), some (.int a1), some (.int a2), none] [] σ =
    aft false (d + 1) 202 10 [some (.ref 85), some (.int a1), some (.int a2), none] [.ref 85] (Run false d 170 0 [some (.int a1)] [] (wFI σ 85 0 (nI 0))) := by
  rw [Run_go [10, 17, 29, 41] 7]
  rfl
theorem s202_10 {d : Nat} {a1 : Int32} {a2 : Int32} {z3 : Option Value} {r1 : Int32} {σ : PS} : Run false (d + 1) 202 10 [some (.ref 85), some (.int a1), some (.int a2), z3] [.int r1, .ref 85] σ =
    (bif obl (r1 = (nI 0)) then aft false (d + 1) 202 29 [some (.ref 85), some (.int a1), some (.int a2), z3] [] (Run false d 165 0 [some (.ref 85), some (.int (nI 0)), some (.int (nI 1))] [] σ) else aft false (d + 1) 202 17 [some (.ref 85), some (.int a1), some (.int a2), z3] [.ref 85] (Run false d 169 0 [some (.int a2)] [] σ)) := by
  rw [Run_go [10, 17, 29, 41] 5]
  rfl
theorem s202_17 {d : Nat} {a1 : Int32} {a2 : Int32} {z3 : Option Value} {r1 : Int32} {σ : PS} : Run false (d + 1) 202 17 [some (.ref 85), some (.int a1), some (.int a2), z3] [.int r1, .ref 85] σ =
    (bif obl (r1 = (nI 0)) then aft false (d + 1) 202 29 [some (.ref 85), some (.int a1), some (.int a2), z3] [] (Run false d 165 0 [some (.ref 85), some (.int (nI 0)), some (.int (nI 1))] [] σ) else aft false (d + 1) 202 29 [some (.ref 85), some (.int a1), some (.int a2), z3] [] (Run false d 165 0 [some (.ref 85), some (.int (nI 1)), some (.int (nI 1))] [] σ)) := by
  rw [Run_go [10, 17, 29, 41] 6]
  rfl
theorem s202_29 {d : Nat} {a1 : Int32} {a2 : Int32} {z3 : Option Value} {r0 : Int32} {σ : PS} : Run false (d + 1) 202 29 [some (.ref 85), some (.int a1), some (.int a2), z3] [.int r0] σ =
    (bif obl (r0 = (nI 0)) then some (.inl (some (.int (nI 0)), σ)) else aft false (d + 1) 202 41 [some (.ref 85), some (.int a1), some (.int a2), z3] [] (Run false d 199 0 [some (.ref 85), some (.int (nI 0)), some (.int a2), some (.int a1), none, none, none, none] [] σ)) := by
  rw [Run_go [10, 17, 29, 41] 7]
  rfl
set_option maxRecDepth 100000 in
theorem s202_41 {d : Nat} {a1 : Int32} {a2 : Int32} {z3 : Option Value} {r0 : Int32} {σ : PS} : Run false (d + 1) 202 41 [some (.ref 85), some (.int a1), some (.int a2), z3] [.int r0] σ =
    (bif obl (r0 = (-1 : Int32)) then some (.inl (some (.int (-1 : Int32)), σ)) else (bif obl ((nI 16) = nI 0) then none else (bif obl ((nI 16) = nI 0) then none else some (.inl (some (.int (((nI 100) * (r0 / (nI 16))) + (r0 - r0 / (nI 16) * (nI 16)))), σ))))) := by
  rw [Run_go [10, 17, 29, 41] 15]
  rfl
set_option maxRecDepth 100000 in
theorem s203_0 {d : Nat} {a1 : Int32} {σ : PS} : Run false (d + 1) 203 0 [some (.ref 85), some (.int a1), none, none, none] [] σ =
    (bif obl ((nI 16) = nI 0) then none else (bif inb a1 176 then Run false (d + 1) 203 18 [some (.ref 85), some (.int a1), some (.int (nI 0)), some (.int (((nI 400) * (a1 / (nI 16))) + (AI σ 92 a1.toNatClampNeg))), none] [] σ else none)) := by
  rw [Run_go [18, 190] 14]
  rfl
set_option maxRecDepth 100000 in
theorem s203_18 {d : Nat} {a1 : Int32} {a2 : Int32} {a3 : Int32} {z4 : Option Value} {σ : PS} : Run false (d + 1) 203 18 [some (.ref 85), some (.int a1), some (.int a2), some (.int a3), z4] [] σ =
    (bif obl ((nI 16) = nI 0) then none else (bif inb a1 176 then (bif obl ((((nI 400) * (a1 / (nI 16))) + (AI σ 93 a1.toNatClampNeg)) ≤ a3) then (bif obl (a2 = (nI 0)) then some (.inl (some (.int (nI 1)), σ)) else (bif inb (nI 0) 200 then some (.inl (some (.int (AI σ 96 (nI 0).toNatClampNeg)), σ)) else none)) else (bif inb a3 4400 then (bif obl ((nI 5) < (AI σ 94 a3.toNatClampNeg)) then (bif obl ((AI σ 94 a3.toNatClampNeg) = (nI 17)) then (bif inb (a2 - (nI 1)) 200 then (bif inb (a2 - (nI 1)) 200 then Run false (d + 1) 203 18 [some (.ref 85), some (.int a1), some (.int a2), some (.int (a3 + (nI 1))), some (.int (AI σ 94 a3.toNatClampNeg))] [] (wAI σ 96 (a2 - (nI 1)).toNatClampNeg ((nI 1) - (AI σ 96 (a2 - (nI 1)).toNatClampNeg))) else none) else none) else (bif inb ((a2 + (-1 : Int32)) - (nI 1)) 200 then (bif inb (a2 + (-1 : Int32)) 200 then aft false (d + 1) 203 190 [some (.ref 85), some (.int a1), some (.int (a2 + (-1 : Int32))), some (.int a3), some (.int (AI σ 94 a3.toNatClampNeg))] [.int ((a2 + (-1 : Int32)) - (nI 1)), .ref 96] (Run false d 204 0 [some (.int (AI σ 94 a3.toNatClampNeg)), some (.int (AI σ 96 ((a2 + (-1 : Int32)) - (nI 1)).toNatClampNeg)), some (.int (AI σ 96 (a2 + (-1 : Int32)).toNatClampNeg))] [] σ) else none) else none)) else (bif obl ((AI σ 94 a3.toNatClampNeg) = (nI 0)) then (bif inb a3 4400 then (bif inb a2 200 then Run false (d + 1) 203 18 [some (.ref 85), some (.int a1), some (.int (a2 + (nI 1))), some (.int (a3 + (nI 1))), some (.int (AI σ 94 a3.toNatClampNeg))] [] (wAI σ 96 a2.toNatClampNeg (AI σ 95 a3.toNatClampNeg)) else none) else none) else (bif obl ((AI σ 94 a3.toNatClampNeg) = (nI 1)) then (bif inb a2 200 then Run false (d + 1) 203 18 [some (.ref 85), some (.int a1), some (.int (a2 + (nI 1))), some (.int (a3 + (nI 1))), some (.int (AI σ 94 a3.toNatClampNeg))] [] (wAI σ 96 a2.toNatClampNeg (FI σ 85 23)) else none) else (bif obl ((AI σ 94 a3.toNatClampNeg) = (nI 2)) then (bif inb a2 200 then Run false (d + 1) 203 18 [some (.ref 85), some (.int a1), some (.int (a2 + (nI 1))), some (.int (a3 + (nI 1))), some (.int (AI σ 94 a3.toNatClampNeg))] [] (wAI σ 96 a2.toNatClampNeg (FI σ 85 24)) else none) else (bif obl ((AI σ 94 a3.toNatClampNeg) = (nI 3)) then (bif inb a2 200 then Run false (d + 1) 203 18 [some (.ref 85), some (.int a1), some (.int (a2 + (nI 1))), some (.int (a3 + (nI 1))), some (.int (AI σ 94 a3.toNatClampNeg))] [] (wAI σ 96 a2.toNatClampNeg (FI σ 85 25)) else none) else (bif obl ((AI σ 94 a3.toNatClampNeg) = (nI 4)) then (bif inb a2 200 then Run false (d + 1) 203 18 [some (.ref 85), some (.int a1), some (.int (a2 + (nI 1))), some (.int (a3 + (nI 1))), some (.int (AI σ 94 a3.toNatClampNeg))] [] (wAI σ 96 a2.toNatClampNeg (FI σ 85 26)) else none) else (bif inb a2 200 then Run false (d + 1) 203 18 [some (.ref 85), some (.int a1), some (.int (a2 + (nI 1))), some (.int (a3 + (nI 1))), some (.int (AI σ 94 a3.toNatClampNeg))] [] (wAI σ 96 a2.toNatClampNeg (FI σ 85 27)) else none))))))) else none)) else none)) := by
  rw [Run_go [18, 190] 46]
  rfl
theorem s203_190 {d : Nat} {a1 : Int32} {a2 : Int32} {a3 : Int32} {a4 : Int32} {r1 : Int32} {r2 : Int32} {σ : PS} : Run false (d + 1) 203 190 [some (.ref 85), some (.int a1), some (.int a2), some (.int a3), some (.int a4)] [.int r2, .int r1, .ref 96] σ =
    (bif inb r1 200 then Run false (d + 1) 203 18 [some (.ref 85), some (.int a1), some (.int a2), some (.int (a3 + (nI 1))), some (.int a4)] [] (wAI σ 96 r1.toNatClampNeg r2) else none) := by
  rw [Run_go [18, 190] 4]
  rfl
theorem s204_0 {d : Nat} {a0 : Int32} {a1 : Int32} {a2 : Int32} {σ : PS} : Run false (d + 1) 204 0 [some (.int a0), some (.int a1), some (.int a2)] [] σ =
    Run false (d + 1) 204 (tswF 1 156 6 15 #[55, 59, 63, 67, 89, 100, 111, 122, 133, 144] a0) [some (.int a0), some (.int a1), some (.int a2)] [] σ := by
  rw [Run_go [56, 60, 64, 68, 90, 101, 112, 123, 134, 145, 157] 3]
  rfl
theorem s204_56 {d : Nat} {a0 : Int32} {a1 : Int32} {a2 : Int32} {σ : PS} : Run false (d + 1) 204 56 [some (.int a0), some (.int a1), some (.int a2)] [] σ =
    some (.inl (some (.int (a1 + a2)), σ)) := by
  rw [Run_go [56, 60, 64, 68, 90, 101, 112, 123, 134, 145, 157] 5]
  rfl
theorem s204_60 {d : Nat} {a0 : Int32} {a1 : Int32} {a2 : Int32} {σ : PS} : Run false (d + 1) 204 60 [some (.int a0), some (.int a1), some (.int a2)] [] σ =
    some (.inl (some (.int (a1 - a2)), σ)) := by
  rw [Run_go [56, 60, 64, 68, 90, 101, 112, 123, 134, 145, 157] 5]
  rfl
theorem s204_64 {d : Nat} {a0 : Int32} {a1 : Int32} {a2 : Int32} {σ : PS} : Run false (d + 1) 204 64 [some (.int a0), some (.int a1), some (.int a2)] [] σ =
    some (.inl (some (.int (a1 * a2)), σ)) := by
  rw [Run_go [56, 60, 64, 68, 90, 101, 112, 123, 134, 145, 157] 5]
  rfl
set_option maxRecDepth 100000 in
theorem s204_68 {d : Nat} {a0 : Int32} {a1 : Int32} {a2 : Int32} {σ : PS} : Run false (d + 1) 204 68 [some (.int a0), some (.int a1), some (.int a2)] [] σ =
    (bif obl (a2 = (nI 0)) then some (.inl (some (.int (nI 0)), σ)) else (bif obl (a2 = (-1 : Int32)) then some (.inl (some (.int (-a1)), σ)) else (bif obl (a2 = nI 0) then none else some (.inl (some (.int (a1 / a2)), σ))))) := by
  rw [Run_go [56, 60, 64, 68, 90, 101, 112, 123, 134, 145, 157] 10]
  rfl
theorem s204_90 {d : Nat} {a0 : Int32} {a1 : Int32} {a2 : Int32} {σ : PS} : Run false (d + 1) 204 90 [some (.int a0), some (.int a1), some (.int a2)] [] σ =
    (bif obl (a2 ≤ a1) then some (.inl (some (.int a2), σ)) else some (.inl (some (.int a1), σ))) := by
  rw [Run_go [56, 60, 64, 68, 90, 101, 112, 123, 134, 145, 157] 7]
  rfl
theorem s204_101 {d : Nat} {a0 : Int32} {a1 : Int32} {a2 : Int32} {σ : PS} : Run false (d + 1) 204 101 [some (.int a0), some (.int a1), some (.int a2)] [] σ =
    (bif obl (a1 ≤ a2) then some (.inl (some (.int a2), σ)) else some (.inl (some (.int a1), σ))) := by
  rw [Run_go [56, 60, 64, 68, 90, 101, 112, 123, 134, 145, 157] 7]
  rfl
theorem s204_112 {d : Nat} {a0 : Int32} {a1 : Int32} {a2 : Int32} {σ : PS} : Run false (d + 1) 204 112 [some (.int a0), some (.int a1), some (.int a2)] [] σ =
    (bif obl (a2 ≤ a1) then some (.inl (some (.int (nI 0)), σ)) else some (.inl (some (.int (nI 1)), σ))) := by
  rw [Run_go [56, 60, 64, 68, 90, 101, 112, 123, 134, 145, 157] 7]
  rfl
theorem s204_123 {d : Nat} {a0 : Int32} {a1 : Int32} {a2 : Int32} {σ : PS} : Run false (d + 1) 204 123 [some (.int a0), some (.int a1), some (.int a2)] [] σ =
    (bif obl (a1 ≤ a2) then some (.inl (some (.int (nI 0)), σ)) else some (.inl (some (.int (nI 1)), σ))) := by
  rw [Run_go [56, 60, 64, 68, 90, 101, 112, 123, 134, 145, 157] 7]
  rfl
theorem s204_134 {d : Nat} {a0 : Int32} {a1 : Int32} {a2 : Int32} {σ : PS} : Run false (d + 1) 204 134 [some (.int a0), some (.int a1), some (.int a2)] [] σ =
    (bif obl (a1 = a2) then some (.inl (some (.int (nI 1)), σ)) else some (.inl (some (.int (nI 0)), σ))) := by
  rw [Run_go [56, 60, 64, 68, 90, 101, 112, 123, 134, 145, 157] 7]
  rfl
set_option maxRecDepth 100000 in
theorem s204_145 {d : Nat} {a0 : Int32} {a1 : Int32} {a2 : Int32} {σ : PS} : Run false (d + 1) 204 145 [some (.int a0), some (.int a1), some (.int a2)] [] σ =
    (bif obl ((a1 + a2) ≤ (nI 0)) then some (.inl (some (.int (nI 0)), σ)) else some (.inl (some (.int (nI 1)), σ))) := by
  rw [Run_go [56, 60, 64, 68, 90, 101, 112, 123, 134, 145, 157] 8]
  rfl
theorem s204_157 {d : Nat} {a0 : Int32} {a1 : Int32} {a2 : Int32} {σ : PS} : Run false (d + 1) 204 157 [some (.int a0), some (.int a1), some (.int a2)] [] σ =
    some (.inl (some (.int (a1 * a2)), σ)) := by
  rw [Run_go [56, 60, 64, 68, 90, 101, 112, 123, 134, 145, 157] 5]
  rfl
set_option maxRecDepth 100000 in
theorem s205_0 {d : Nat}  {σ : PS} : Run false (d + 1) 205 0 [some (.ref 85)] [] σ =
    (bif obl ((nI 10) ≤ (FI σ 85 29)) then aft false (d + 1) 205 24 [some (.ref 85)] [] (Run false d 165 0 [some (.ref 85), some (.int (nI 0)), some (.int (nI 1))] [] (wFI σ 85 0 (nI 0))) else aft false (d + 1) 205 24 [some (.ref 85)] [] (Run false d 165 0 [some (.ref 85), some (.int (nI 1)), some (.int (nI 1))] [] (wFI σ 85 0 (nI 0)))) := by
  rw [Run_go [24] 13]
  rfl
set_option maxRecDepth 100000 in
theorem s205_24 {d : Nat} {r0 : Int32} {σ : PS} : Run false (d + 1) 205 24 [some (.ref 85)] [.int r0] σ =
    (bif obl (r0 = (nI 0)) then some (.inl (some (.int (nI 0)), σ)) else some (.inl (some (.int (((FI σ 85 29) + (nI 1)) - (nI 1))), (wFI σ 85 29 ((FI σ 85 29) + (nI 1)))))) := by
  rw [Run_go [24] 13]
  rfl
set_option maxRecDepth 100000 in
theorem s206_0 {d : Nat} {a1 : Int32} {σ : PS} : Run false (d + 1) 206 0 [some (.ref 85), some (.int a1)] [] σ =
    aft false (d + 1) 206 12 [some (.ref 85), some (.int a1)] [.ref 85] (Run false d 166 0 [some (.int a1), some (.int (nI 0)), some (.int ((FI σ 85 29) - (nI 1)))] [] σ) := by
  rw [Run_go [12, 16] 9]
  rfl
theorem s206_12 {d : Nat} {a1 : Int32} {r1 : Int32} {σ : PS} : Run false (d + 1) 206 12 [some (.ref 85), some (.int a1)] [.int r1, .ref 85] σ =
    aft false (d + 1) 206 16 [some (.ref 85), some (.int a1)] [] (Run false d 165 0 [some (.ref 85), some (.int r1), some (.int (nI 1))] [] σ) := by
  rw [Run_go [12, 16] 3]
  rfl
theorem s206_16 {d : Nat} {a1 : Int32} {r0 : Int32} {σ : PS} : Run false (d + 1) 206 16 [some (.ref 85), some (.int a1)] [.int r0] σ =
    (bif is01 r0 then some (.inl (some (.int r0), σ)) else none) := by
  rw [Run_go [12, 16] 2]
  rfl
theorem s207_0 {d : Nat} {a1 : Int32} {σ : PS} : Run false (d + 1) 207 0 [some (.ref 85), some (.int a1), none] [] σ =
    aft false (d + 1) 207 10 [some (.ref 85), some (.int a1), none] [] (Run false d 206 0 [some (.ref 85), some (.int a1)] [] (wFI σ 85 0 (nI 0))) := by
  rw [Run_go [10, 38] 7]
  rfl
set_option maxRecDepth 100000 in
theorem s207_10 {d : Nat} {a1 : Int32} {z2 : Option Value} {r0 : Int32} {σ : PS} : Run false (d + 1) 207 10 [some (.ref 85), some (.int a1), z2] [.int r0] σ =
    (bif obl (r0 = (nI 0)) then some (.inl (some (.int (nI 0)), σ)) else (bif obl ((FI σ 85 30) = (nI 20)) then some (.inl (some (.int (-1 : Int32)), σ)) else (bif inb (FI σ 85 30) 20 then Run false (d + 1) 207 38 [some (.ref 85), some (.int a1), some (.int (nI 0))] [] (wAI σ 97 (FI σ 85 30).toNatClampNeg a1) else none))) := by
  rw [Run_go [10, 38] 14]
  rfl
set_option maxRecDepth 100000 in
theorem s207_38 {d : Nat} {a1 : Int32} {a2 : Int32} {σ : PS} : Run false (d + 1) 207 38 [some (.ref 85), some (.int a1), some (.int a2)] [] σ =
    (bif obl ((nI 40) < a2) then some (.inl (some (.int (((FI σ 85 30) + (nI 1)) - (nI 1))), (wFI σ 85 30 ((FI σ 85 30) + (nI 1))))) else (bif inb (((nI 41) * (FI σ 85 30)) + a2) 820 then Run false (d + 1) 207 38 [some (.ref 85), some (.int a1), some (.int (a2 + (nI 1)))] [] (wAI σ 104 (((nI 41) * (FI σ 85 30)) + a2).toNatClampNeg (nI 1)) else none)) := by
  rw [Run_go [10, 38] 16]
  rfl
set_option maxRecDepth 100000 in
theorem s208_0 {d : Nat} {a1 : Int32} {σ : PS} : Run false (d + 1) 208 0 [some (.ref 85), some (.int a1)] [] σ =
    aft false (d + 1) 208 12 [some (.ref 85), some (.int a1)] [.ref 85] (Run false d 166 0 [some (.int a1), some (.int (nI 0)), some (.int ((FI σ 85 30) - (nI 1)))] [] σ) := by
  rw [Run_go [12, 16] 9]
  rfl
theorem s208_12 {d : Nat} {a1 : Int32} {r1 : Int32} {σ : PS} : Run false (d + 1) 208 12 [some (.ref 85), some (.int a1)] [.int r1, .ref 85] σ =
    aft false (d + 1) 208 16 [some (.ref 85), some (.int a1)] [] (Run false d 165 0 [some (.ref 85), some (.int r1), some (.int (nI 1))] [] σ) := by
  rw [Run_go [12, 16] 3]
  rfl
theorem s208_16 {d : Nat} {a1 : Int32} {r0 : Int32} {σ : PS} : Run false (d + 1) 208 16 [some (.ref 85), some (.int a1)] [.int r0] σ =
    (bif is01 r0 then some (.inl (some (.int r0), σ)) else none) := by
  rw [Run_go [12, 16] 2]
  rfl
theorem s209_0 {d : Nat} {a0 : Int32} {σ : PS} : Run false (d + 1) 209 0 [some (.int a0)] [] σ =
    aft false (d + 1) 209 8 [some (.int a0)] [] (Run false d 166 0 [some (.int a0), some (.int (nI 0)), some (.int (nI 200))] [] σ) := by
  rw [Run_go [8] 5]
  rfl
theorem s209_8 {d : Nat} {a0 : Int32} {r0 : Int32} {σ : PS} : Run false (d + 1) 209 8 [some (.int a0)] [.int r0] σ =
    (bif is01 r0 then some (.inl (some (.int r0), σ)) else none) := by
  rw [Run_go [8] 2]
  rfl
