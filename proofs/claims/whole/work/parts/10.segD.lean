/-! printed by wip/whole/sym.py: what Run does from one cut point to the next; methods 210 to 267 -/
theorem s210_0 {d : Nat} {a1 : Int32} {a2 : Int32} {a3 : Int32} {a4 : Int32} {a5 : Int32} {a6 : Int32} {a7 : Int32} {σ : PS} : Run false (d + 1) 210 0 [some (.ref 85), some (.int a1), some (.int a2), some (.int a3), some (.int a4), some (.int a5), some (.int a6), some (.int a7), none] [] σ =
    aft false (d + 1) 210 10 [some (.ref 85), some (.int a1), some (.int a2), some (.int a3), some (.int a4), some (.int a5), some (.int a6), some (.int a7), none] [] (Run false d 208 0 [some (.ref 85), some (.int a1)] [] (wFI σ 85 0 (nI 0))) := by
  rw [Run_go [10, 18, 25, 33, 41, 49, 61, 73] 7]
  rfl
theorem s210_10 {d : Nat} {a1 : Int32} {a2 : Int32} {a3 : Int32} {a4 : Int32} {a5 : Int32} {a6 : Int32} {a7 : Int32} {z8 : Option Value} {r0 : Int32} {σ : PS} : Run false (d + 1) 210 10 [some (.ref 85), some (.int a1), some (.int a2), some (.int a3), some (.int a4), some (.int a5), some (.int a6), some (.int a7), z8] [.int r0] σ =
    (bif obl (r0 = (nI 0)) then some (.inl (some (.int (nI 0)), σ)) else aft false (d + 1) 210 18 [some (.ref 85), some (.int a1), some (.int a2), some (.int a3), some (.int a4), some (.int a5), some (.int a6), some (.int a7), z8] [.ref 85] (Run false d 209 0 [some (.int a2)] [] σ)) := by
  rw [Run_go [10, 18, 25, 33, 41, 49, 61, 73] 5]
  rfl
theorem s210_18 {d : Nat} {a1 : Int32} {a2 : Int32} {a3 : Int32} {a4 : Int32} {a5 : Int32} {a6 : Int32} {a7 : Int32} {z8 : Option Value} {r1 : Int32} {σ : PS} : Run false (d + 1) 210 18 [some (.ref 85), some (.int a1), some (.int a2), some (.int a3), some (.int a4), some (.int a5), some (.int a6), some (.int a7), z8] [.int r1, .ref 85] σ =
    (bif obl (r1 = (nI 0)) then aft false (d + 1) 210 73 [some (.ref 85), some (.int a1), some (.int a2), some (.int a3), some (.int a4), some (.int a5), some (.int a6), some (.int a7), z8] [] (Run false d 165 0 [some (.ref 85), some (.int (nI 0)), some (.int (nI 2))] [] σ) else aft false (d + 1) 210 25 [some (.ref 85), some (.int a1), some (.int a2), some (.int a3), some (.int a4), some (.int a5), some (.int a6), some (.int a7), z8] [.ref 85] (Run false d 209 0 [some (.int a3)] [] σ)) := by
  rw [Run_go [10, 18, 25, 33, 41, 49, 61, 73] 5]
  rfl
theorem s210_25 {d : Nat} {a1 : Int32} {a2 : Int32} {a3 : Int32} {a4 : Int32} {a5 : Int32} {a6 : Int32} {a7 : Int32} {z8 : Option Value} {r1 : Int32} {σ : PS} : Run false (d + 1) 210 25 [some (.ref 85), some (.int a1), some (.int a2), some (.int a3), some (.int a4), some (.int a5), some (.int a6), some (.int a7), z8] [.int r1, .ref 85] σ =
    (bif obl (r1 = (nI 0)) then aft false (d + 1) 210 73 [some (.ref 85), some (.int a1), some (.int a2), some (.int a3), some (.int a4), some (.int a5), some (.int a6), some (.int a7), z8] [] (Run false d 165 0 [some (.ref 85), some (.int (nI 0)), some (.int (nI 2))] [] σ) else aft false (d + 1) 210 33 [some (.ref 85), some (.int a1), some (.int a2), some (.int a3), some (.int a4), some (.int a5), some (.int a6), some (.int a7), z8] [.ref 85] (Run false d 209 0 [some (.int a4)] [] σ)) := by
  rw [Run_go [10, 18, 25, 33, 41, 49, 61, 73] 5]
  rfl
theorem s210_33 {d : Nat} {a1 : Int32} {a2 : Int32} {a3 : Int32} {a4 : Int32} {a5 : Int32} {a6 : Int32} {a7 : Int32} {z8 : Option Value} {r1 : Int32} {σ : PS} : Run false (d + 1) 210 33 [some (.ref 85), some (.int a1), some (.int a2), some (.int a3), some (.int a4), some (.int a5), some (.int a6), some (.int a7), z8] [.int r1, .ref 85] σ =
    (bif obl (r1 = (nI 0)) then aft false (d + 1) 210 73 [some (.ref 85), some (.int a1), some (.int a2), some (.int a3), some (.int a4), some (.int a5), some (.int a6), some (.int a7), z8] [] (Run false d 165 0 [some (.ref 85), some (.int (nI 0)), some (.int (nI 2))] [] σ) else aft false (d + 1) 210 41 [some (.ref 85), some (.int a1), some (.int a2), some (.int a3), some (.int a4), some (.int a5), some (.int a6), some (.int a7), z8] [.ref 85] (Run false d 209 0 [some (.int a5)] [] σ)) := by
  rw [Run_go [10, 18, 25, 33, 41, 49, 61, 73] 5]
  rfl
theorem s210_41 {d : Nat} {a1 : Int32} {a2 : Int32} {a3 : Int32} {a4 : Int32} {a5 : Int32} {a6 : Int32} {a7 : Int32} {z8 : Option Value} {r1 : Int32} {σ : PS} : Run false (d + 1) 210 41 [some (.ref 85), some (.int a1), some (.int a2), some (.int a3), some (.int a4), some (.int a5), some (.int a6), some (.int a7), z8] [.int r1, .ref 85] σ =
    (bif obl (r1 = (nI 0)) then aft false (d + 1) 210 73 [some (.ref 85), some (.int a1), some (.int a2), some (.int a3), some (.int a4), some (.int a5), some (.int a6), some (.int a7), z8] [] (Run false d 165 0 [some (.ref 85), some (.int (nI 0)), some (.int (nI 2))] [] σ) else aft false (d + 1) 210 49 [some (.ref 85), some (.int a1), some (.int a2), some (.int a3), some (.int a4), some (.int a5), some (.int a6), some (.int a7), z8] [.ref 85] (Run false d 209 0 [some (.int a6)] [] σ)) := by
  rw [Run_go [10, 18, 25, 33, 41, 49, 61, 73] 5]
  rfl
theorem s210_49 {d : Nat} {a1 : Int32} {a2 : Int32} {a3 : Int32} {a4 : Int32} {a5 : Int32} {a6 : Int32} {a7 : Int32} {z8 : Option Value} {r1 : Int32} {σ : PS} : Run false (d + 1) 210 49 [some (.ref 85), some (.int a1), some (.int a2), some (.int a3), some (.int a4), some (.int a5), some (.int a6), some (.int a7), z8] [.int r1, .ref 85] σ =
    (bif obl (r1 = (nI 0)) then aft false (d + 1) 210 73 [some (.ref 85), some (.int a1), some (.int a2), some (.int a3), some (.int a4), some (.int a5), some (.int a6), some (.int a7), z8] [] (Run false d 165 0 [some (.ref 85), some (.int (nI 0)), some (.int (nI 2))] [] σ) else aft false (d + 1) 210 61 [some (.ref 85), some (.int a1), some (.int a2), some (.int a3), some (.int a4), some (.int a5), some (.int a6), some (.int a7), z8] [.ref 85] (Run false d 166 0 [some (.int a7), some (.int (nI 0)), some (.int (nI 1000))] [] σ)) := by
  rw [Run_go [10, 18, 25, 33, 41, 49, 61, 73] 6]
  rfl
theorem s210_61 {d : Nat} {a1 : Int32} {a2 : Int32} {a3 : Int32} {a4 : Int32} {a5 : Int32} {a6 : Int32} {a7 : Int32} {z8 : Option Value} {r1 : Int32} {σ : PS} : Run false (d + 1) 210 61 [some (.ref 85), some (.int a1), some (.int a2), some (.int a3), some (.int a4), some (.int a5), some (.int a6), some (.int a7), z8] [.int r1, .ref 85] σ =
    (bif obl (r1 = (nI 0)) then aft false (d + 1) 210 73 [some (.ref 85), some (.int a1), some (.int a2), some (.int a3), some (.int a4), some (.int a5), some (.int a6), some (.int a7), z8] [] (Run false d 165 0 [some (.ref 85), some (.int (nI 0)), some (.int (nI 2))] [] σ) else aft false (d + 1) 210 73 [some (.ref 85), some (.int a1), some (.int a2), some (.int a3), some (.int a4), some (.int a5), some (.int a6), some (.int a7), z8] [] (Run false d 165 0 [some (.ref 85), some (.int (nI 1)), some (.int (nI 2))] [] σ)) := by
  rw [Run_go [10, 18, 25, 33, 41, 49, 61, 73] 6]
  rfl
set_option maxRecDepth 100000 in
theorem s210_73 {d : Nat} {a1 : Int32} {a2 : Int32} {a3 : Int32} {a4 : Int32} {a5 : Int32} {a6 : Int32} {a7 : Int32} {z8 : Option Value} {r0 : Int32} {σ : PS} : Run false (d + 1) 210 73 [some (.ref 85), some (.int a1), some (.int a2), some (.int a3), some (.int a4), some (.int a5), some (.int a6), some (.int a7), z8] [.int r0] σ =
    (bif obl (r0 = (nI 0)) then some (.inl (some (.int (nI 0)), σ)) else (bif inb a1 20 then (bif obl ((AI σ 98 a1.toNatClampNeg) = (nI 5)) then some (.inl (some (.int (-1 : Int32)), σ)) else (bif inb a1 20 then (bif inb ((nI 5) * (((nI 5) * a1) + (AI σ 98 a1.toNatClampNeg))) 500 then (bif inb (((nI 5) * (((nI 5) * a1) + (AI σ 98 a1.toNatClampNeg))) + (nI 1)) 500 then (bif inb (((nI 5) * (((nI 5) * a1) + (AI σ 98 a1.toNatClampNeg))) + (nI 2)) 500 then (bif inb (((nI 5) * (((nI 5) * a1) + (AI σ 98 a1.toNatClampNeg))) + (nI 3)) 500 then (bif inb (((nI 5) * (((nI 5) * a1) + (AI σ 98 a1.toNatClampNeg))) + (nI 4)) 500 then (bif inb a1 20 then (bif inb (((nI 5) * a1) + (AI σ 98 a1.toNatClampNeg)) 100 then (bif inb a1 20 then (bif inb a1 20 then (bif inb a1 20 then some (.inl (some (.int ((AI (wAI σ 98 a1.toNatClampNeg ((AI σ 98 a1.toNatClampNeg) + (nI 1))) 98 a1.toNatClampNeg) - (nI 1))), (wAI (wAI (wAI (wAI (wAI (wAI (wAI σ 100 ((nI 5) * (((nI 5) * a1) + (AI σ 98 a1.toNatClampNeg))).toNatClampNeg a2) 100 (((nI 5) * (((nI 5) * a1) + (AI σ 98 a1.toNatClampNeg))) + (nI 1)).toNatClampNeg a3) 100 (((nI 5) * (((nI 5) * a1) + (AI σ 98 a1.toNatClampNeg))) + (nI 2)).toNatClampNeg a4) 100 (((nI 5) * (((nI 5) * a1) + (AI σ 98 a1.toNatClampNeg))) + (nI 3)).toNatClampNeg a5) 100 (((nI 5) * (((nI 5) * a1) + (AI σ 98 a1.toNatClampNeg))) + (nI 4)).toNatClampNeg a6) 101 (((nI 5) * a1) + (AI σ 98 a1.toNatClampNeg)).toNatClampNeg a7) 98 a1.toNatClampNeg ((AI σ 98 a1.toNatClampNeg) + (nI 1))))) else none) else none) else none) else none) else none) else none) else none) else none) else none) else none) else none)) else none)) := by
  rw [Run_go [10, 18, 25, 33, 41, 49, 61, 73] 79]
  rfl
theorem s211_0 {d : Nat} {a1 : Int32} {a2 : Int32} {σ : PS} : Run false (d + 1) 211 0 [some (.ref 85), some (.int a1), some (.int a2), none] [] σ =
    aft false (d + 1) 211 10 [some (.ref 85), some (.int a1), some (.int a2), none] [] (Run false d 208 0 [some (.ref 85), some (.int a1)] [] (wFI σ 85 0 (nI 0))) := by
  rw [Run_go [10, 27, 31] 7]
  rfl
set_option maxRecDepth 100000 in
theorem s211_10 {d : Nat} {a1 : Int32} {a2 : Int32} {z3 : Option Value} {r0 : Int32} {σ : PS} : Run false (d + 1) 211 10 [some (.ref 85), some (.int a1), some (.int a2), z3] [.int r0] σ =
    (bif obl (r0 = (nI 0)) then some (.inl (some (.int (nI 0)), σ)) else (bif inb a1 20 then aft false (d + 1) 211 27 [some (.ref 85), some (.int a1), some (.int a2), z3] [.ref 85] (Run false d 166 0 [some (.int a2), some (.int (nI 0)), some (.int ((AI σ 98 a1.toNatClampNeg) - (nI 1)))] [] σ) else none)) := by
  rw [Run_go [10, 27, 31] 12]
  rfl
theorem s211_27 {d : Nat} {a1 : Int32} {a2 : Int32} {z3 : Option Value} {r1 : Int32} {σ : PS} : Run false (d + 1) 211 27 [some (.ref 85), some (.int a1), some (.int a2), z3] [.int r1, .ref 85] σ =
    aft false (d + 1) 211 31 [some (.ref 85), some (.int a1), some (.int a2), z3] [] (Run false d 165 0 [some (.ref 85), some (.int r1), some (.int (nI 2))] [] σ) := by
  rw [Run_go [10, 27, 31] 3]
  rfl
set_option maxRecDepth 100000 in
theorem s211_31 {d : Nat} {a1 : Int32} {a2 : Int32} {z3 : Option Value} {r0 : Int32} {σ : PS} : Run false (d + 1) 211 31 [some (.ref 85), some (.int a1), some (.int a2), z3] [.int r0] σ =
    (bif obl (r0 = (nI 0)) then some (.inl (some (.int (nI 0)), σ)) else (bif inb a1 20 then (bif inb a1 20 then some (.inl (some (.int (AI σ 99 a1.toNatClampNeg)), (wAI σ 99 a1.toNatClampNeg a2))) else none) else none)) := by
  rw [Run_go [10, 27, 31] 14]
  rfl
theorem s212_0 {d : Nat} {a1 : Int32} {a2 : Int32} {a3 : Int32} {a4 : Int32} {a5 : Int32} {σ : PS} : Run false (d + 1) 212 0 [some (.ref 85), some (.int a1), some (.int a2), some (.int a3), some (.int a4), some (.int a5), none, none] [] σ =
    aft false (d + 1) 212 10 [some (.ref 85), some (.int a1), some (.int a2), some (.int a3), some (.int a4), some (.int a5), none, none] [] (Run false d 208 0 [some (.ref 85), some (.int a1)] [] (wFI σ 85 0 (nI 0))) := by
  rw [Run_go [10, 18, 29, 39, 50, 62] 7]
  rfl
theorem s212_10 {d : Nat} {a1 : Int32} {a2 : Int32} {a3 : Int32} {a4 : Int32} {a5 : Int32} {z6 : Option Value} {z7 : Option Value} {r0 : Int32} {σ : PS} : Run false (d + 1) 212 10 [some (.ref 85), some (.int a1), some (.int a2), some (.int a3), some (.int a4), some (.int a5), z6, z7] [.int r0] σ =
    (bif obl (r0 = (nI 0)) then some (.inl (some (.int (nI 0)), σ)) else aft false (d + 1) 212 18 [some (.ref 85), some (.int a1), some (.int a2), some (.int a3), some (.int a4), some (.int a5), z6, z7] [.ref 85] (Run false d 170 0 [some (.int a2)] [] σ)) := by
  rw [Run_go [10, 18, 29, 39, 50, 62] 5]
  rfl
theorem s212_18 {d : Nat} {a1 : Int32} {a2 : Int32} {a3 : Int32} {a4 : Int32} {a5 : Int32} {z6 : Option Value} {z7 : Option Value} {r1 : Int32} {σ : PS} : Run false (d + 1) 212 18 [some (.ref 85), some (.int a1), some (.int a2), some (.int a3), some (.int a4), some (.int a5), z6, z7] [.int r1, .ref 85] σ =
    (bif obl (r1 = (nI 0)) then aft false (d + 1) 212 62 [some (.ref 85), some (.int a1), some (.int a2), some (.int a3), some (.int a4), some (.int a5), z6, z7] [] (Run false d 165 0 [some (.ref 85), some (.int (nI 0)), some (.int (nI 2))] [] σ) else aft false (d + 1) 212 29 [some (.ref 85), some (.int a1), some (.int a2), some (.int a3), some (.int a4), some (.int a5), z6, z7] [.ref 85] (Run false d 166 0 [some (.int a3), some (.int (nI 0)), some (.int (nI 1000))] [] σ)) := by
  rw [Run_go [10, 18, 29, 39, 50, 62] 6]
  rfl
theorem s212_29 {d : Nat} {a1 : Int32} {a2 : Int32} {a3 : Int32} {a4 : Int32} {a5 : Int32} {z6 : Option Value} {z7 : Option Value} {r1 : Int32} {σ : PS} : Run false (d + 1) 212 29 [some (.ref 85), some (.int a1), some (.int a2), some (.int a3), some (.int a4), some (.int a5), z6, z7] [.int r1, .ref 85] σ =
    (bif obl (r1 = (nI 0)) then aft false (d + 1) 212 62 [some (.ref 85), some (.int a1), some (.int a2), some (.int a3), some (.int a4), some (.int a5), z6, z7] [] (Run false d 165 0 [some (.ref 85), some (.int (nI 0)), some (.int (nI 2))] [] σ) else aft false (d + 1) 212 39 [some (.ref 85), some (.int a1), some (.int a2), some (.int a3), some (.int a4), some (.int a5), z6, z7] [.ref 85] (Run false d 166 0 [some (.int a4), some (.int (nI 0)), some (.int a3)] [] σ)) := by
  rw [Run_go [10, 18, 29, 39, 50, 62] 6]
  rfl
theorem s212_39 {d : Nat} {a1 : Int32} {a2 : Int32} {a3 : Int32} {a4 : Int32} {a5 : Int32} {z6 : Option Value} {z7 : Option Value} {r1 : Int32} {σ : PS} : Run false (d + 1) 212 39 [some (.ref 85), some (.int a1), some (.int a2), some (.int a3), some (.int a4), some (.int a5), z6, z7] [.int r1, .ref 85] σ =
    (bif obl (r1 = (nI 0)) then aft false (d + 1) 212 62 [some (.ref 85), some (.int a1), some (.int a2), some (.int a3), some (.int a4), some (.int a5), z6, z7] [] (Run false d 165 0 [some (.ref 85), some (.int (nI 0)), some (.int (nI 2))] [] σ) else aft false (d + 1) 212 50 [some (.ref 85), some (.int a1), some (.int a2), some (.int a3), some (.int a4), some (.int a5), z6, z7] [.ref 85] (Run false d 166 0 [some (.int a5), some (.int (nI 1)), some (.int (nI 50))] [] σ)) := by
  rw [Run_go [10, 18, 29, 39, 50, 62] 6]
  rfl
theorem s212_50 {d : Nat} {a1 : Int32} {a2 : Int32} {a3 : Int32} {a4 : Int32} {a5 : Int32} {z6 : Option Value} {z7 : Option Value} {r1 : Int32} {σ : PS} : Run false (d + 1) 212 50 [some (.ref 85), some (.int a1), some (.int a2), some (.int a3), some (.int a4), some (.int a5), z6, z7] [.int r1, .ref 85] σ =
    (bif obl (r1 = (nI 0)) then aft false (d + 1) 212 62 [some (.ref 85), some (.int a1), some (.int a2), some (.int a3), some (.int a4), some (.int a5), z6, z7] [] (Run false d 165 0 [some (.ref 85), some (.int (nI 0)), some (.int (nI 2))] [] σ) else aft false (d + 1) 212 62 [some (.ref 85), some (.int a1), some (.int a2), some (.int a3), some (.int a4), some (.int a5), z6, z7] [] (Run false d 165 0 [some (.ref 85), some (.int (nI 1)), some (.int (nI 2))] [] σ)) := by
  rw [Run_go [10, 18, 29, 39, 50, 62] 6]
  rfl
set_option maxRecDepth 100000 in
theorem s212_62 {d : Nat} {a1 : Int32} {a2 : Int32} {a3 : Int32} {a4 : Int32} {a5 : Int32} {z6 : Option Value} {z7 : Option Value} {r0 : Int32} {σ : PS} : Run false (d + 1) 212 62 [some (.ref 85), some (.int a1), some (.int a2), some (.int a3), some (.int a4), some (.int a5), z6, z7] [.int r0] σ =
    (bif obl (r0 = (nI 0)) then some (.inl (some (.int (nI 0)), σ)) else (bif inb (((nI 41) * a1) + a2) 820 then (bif inb (((nI 41) * a1) + a2) 820 then (bif inb (((nI 41) * a1) + a2) 820 then (bif inb (((nI 41) * a1) + a2) 820 then some (.inl (some (.int (AI σ 102 (((nI 41) * a1) + a2).toNatClampNeg)), (wAI (wAI (wAI σ 102 (((nI 41) * a1) + a2).toNatClampNeg a3) 103 (((nI 41) * a1) + a2).toNatClampNeg a4) 104 (((nI 41) * a1) + a2).toNatClampNeg a5))) else none) else none) else none) else none)) := by
  rw [Run_go [10, 18, 29, 39, 50, 62] 30]
  rfl
set_option maxRecDepth 100000 in
theorem s213_0 {d : Nat} {a1 : Int32} {a2 : Int32} {a3 : Int32} {σ : PS} : Run false (d + 1) 213 0 [some (.ref 85), some (.int a1), some (.int a2), some (.int a3)] [] σ =
    (bif inb a1 20 then (bif obl ((AI σ 98 a1.toNatClampNeg) = (nI 0)) then some (.inl (some (.int (nI 0)), σ)) else (bif inb (((nI 5) * (((nI 5) * a1) + a2)) + a3) 500 then some (.inl (some (.int (AI σ 100 (((nI 5) * (((nI 5) * a1) + a2)) + a3).toNatClampNeg)), σ)) else none)) else none) := by
  rw [Run_go [] 19]
  rfl
set_option maxRecDepth 100000 in
theorem s214_0 {d : Nat} {a1 : Int32} {a2 : Int32} {a3 : Int32} {a4 : Int32} {σ : PS} : Run false (d + 1) 214 0 [some (.ref 85), some (.int a1), some (.int a2), some (.int a3), some (.int a4), none, none, none] [] σ =
    aft false (d + 1) 214 18 [some (.ref 85), some (.int a1), some (.int a2), some (.int a3), some (.int a4), some (.int (((nI 41) * a1) + a4)), none, none] [] (Run false d 200 0 [some (.ref 85), some (.int (nI 6)), some (.int (nI 0)), some (.int a4), none] [] σ) := by
  rw [Run_go [18, 53, 71] 12]
  rfl
set_option maxRecDepth 100000 in
theorem s214_18 {d : Nat} {a1 : Int32} {a2 : Int32} {a3 : Int32} {a4 : Int32} {a5 : Int32} {z6 : Option Value} {z7 : Option Value} {r0 : Int32} {σ : PS} : Run false (d + 1) 214 18 [some (.ref 85), some (.int a1), some (.int a2), some (.int a3), some (.int a4), some (.int a5), z6, z7] [.int r0] σ =
    (bif inb a5 820 then (bif obl (r0 ≤ (AI σ 104 a5.toNatClampNeg)) then aft false (d + 1) 214 53 [some (.ref 85), some (.int a1), some (.int a2), some (.int a3), some (.int a4), some (.int a5), some (.int r0), some (.int r0)] [] (Run false d 213 0 [some (.ref 85), some (.int a1), some (.int a2), some (.int a3)] [] σ) else (bif inb a5 820 then aft false (d + 1) 214 53 [some (.ref 85), some (.int a1), some (.int a2), some (.int a3), some (.int a4), some (.int a5), some (.int r0), some (.int (AI σ 104 a5.toNatClampNeg))] [] (Run false d 213 0 [some (.ref 85), some (.int a1), some (.int a2), some (.int a3)] [] σ) else none)) else none) := by
  rw [Run_go [18, 53, 71] 19]
  rfl
set_option maxRecDepth 100000 in
theorem s214_53 {d : Nat} {a1 : Int32} {a2 : Int32} {a3 : Int32} {a4 : Int32} {a5 : Int32} {a6 : Int32} {a7 : Int32} {r0 : Int32} {σ : PS} : Run false (d + 1) 214 53 [some (.ref 85), some (.int a1), some (.int a2), some (.int a3), some (.int a4), some (.int a5), some (.int a6), some (.int a7)] [.int r0] σ =
    (bif inb a5 820 then aft false (d + 1) 214 71 [some (.ref 85), some (.int a1), some (.int a2), some (.int a3), some (.int a4), some (.int a5), some (.int a6), some (.int a7)] [.int ((nI 100) * (AI σ 102 a5.toNatClampNeg)), .int r0] (Run false d 200 0 [some (.ref 85), some (.int (nI 2)), some (.int a3), some (.int a4), none] [] σ) else none) := by
  rw [Run_go [18, 53, 71] 12]
  rfl
set_option maxRecDepth 100000 in
theorem s214_71 {d : Nat} {a1 : Int32} {a2 : Int32} {a3 : Int32} {a4 : Int32} {a5 : Int32} {a6 : Int32} {a7 : Int32} {r0 : Int32} {r1 : Int32} {r2 : Int32} {σ : PS} : Run false (d + 1) 214 71 [some (.ref 85), some (.int a1), some (.int a2), some (.int a3), some (.int a4), some (.int a5), some (.int a6), some (.int a7)] [.int r2, .int r1, .int r0] σ =
    (bif inb a5 820 then (bif obl ((nI 100) = nI 0) then none else (bif obl (a7 = nI 0) then none else some (.inl (some (.int (((r0 * (r1 - (r2 * (AI σ 103 a5.toNatClampNeg)))) / (nI 100)) / a7)), σ)))) else none) := by
  rw [Run_go [18, 53, 71] 13]
  rfl
theorem s215_0 {d : Nat} {a1 : Int32} {a2 : Int32} {a3 : Int32} {σ : PS} : Run false (d + 1) 215 0 [some (.ref 85), some (.int a1), some (.int a2), some (.int a3)] [] σ =
    aft false (d + 1) 215 10 [some (.ref 85), some (.int a1), some (.int a2), some (.int a3)] [] (Run false d 208 0 [some (.ref 85), some (.int a1)] [] (wFI σ 85 0 (nI 0))) := by
  rw [Run_go [10, 18, 25, 37, 55] 7]
  rfl
theorem s215_10 {d : Nat} {a1 : Int32} {a2 : Int32} {a3 : Int32} {r0 : Int32} {σ : PS} : Run false (d + 1) 215 10 [some (.ref 85), some (.int a1), some (.int a2), some (.int a3)] [.int r0] σ =
    (bif obl (r0 = (nI 0)) then some (.inl (some (.int (nI 0)), σ)) else aft false (d + 1) 215 18 [some (.ref 85), some (.int a1), some (.int a2), some (.int a3)] [.ref 85] (Run false d 169 0 [some (.int a2)] [] σ)) := by
  rw [Run_go [10, 18, 25, 37, 55] 5]
  rfl
theorem s215_18 {d : Nat} {a1 : Int32} {a2 : Int32} {a3 : Int32} {r1 : Int32} {σ : PS} : Run false (d + 1) 215 18 [some (.ref 85), some (.int a1), some (.int a2), some (.int a3)] [.int r1, .ref 85] σ =
    (bif obl (r1 = (nI 0)) then aft false (d + 1) 215 37 [some (.ref 85), some (.int a1), some (.int a2), some (.int a3)] [] (Run false d 165 0 [some (.ref 85), some (.int (nI 0)), some (.int (nI 2))] [] σ) else aft false (d + 1) 215 25 [some (.ref 85), some (.int a1), some (.int a2), some (.int a3)] [.ref 85] (Run false d 170 0 [some (.int a3)] [] σ)) := by
  rw [Run_go [10, 18, 25, 37, 55] 5]
  rfl
theorem s215_25 {d : Nat} {a1 : Int32} {a2 : Int32} {a3 : Int32} {r1 : Int32} {σ : PS} : Run false (d + 1) 215 25 [some (.ref 85), some (.int a1), some (.int a2), some (.int a3)] [.int r1, .ref 85] σ =
    (bif obl (r1 = (nI 0)) then aft false (d + 1) 215 37 [some (.ref 85), some (.int a1), some (.int a2), some (.int a3)] [] (Run false d 165 0 [some (.ref 85), some (.int (nI 0)), some (.int (nI 2))] [] σ) else aft false (d + 1) 215 37 [some (.ref 85), some (.int a1), some (.int a2), some (.int a3)] [] (Run false d 165 0 [some (.ref 85), some (.int (nI 1)), some (.int (nI 2))] [] σ)) := by
  rw [Run_go [10, 18, 25, 37, 55] 6]
  rfl
set_option maxRecDepth 100000 in
theorem s215_37 {d : Nat} {a1 : Int32} {a2 : Int32} {a3 : Int32} {r0 : Int32} {σ : PS} : Run false (d + 1) 215 37 [some (.ref 85), some (.int a1), some (.int a2), some (.int a3)] [.int r0] σ =
    (bif obl (r0 = (nI 0)) then some (.inl (some (.int (nI 0)), σ)) else (bif inb a1 20 then aft false (d + 1) 215 55 [some (.ref 85), some (.int a1), some (.int a2), some (.int a3)] [] (Run false d 214 0 [some (.ref 85), some (.int a1), some (.int (AI σ 99 a1.toNatClampNeg)), some (.int a2), some (.int a3), none, none, none] [] σ) else none)) := by
  rw [Run_go [10, 18, 25, 37, 55] 11]
  rfl
theorem s215_55 {d : Nat} {a1 : Int32} {a2 : Int32} {a3 : Int32} {r0 : Int32} {σ : PS} : Run false (d + 1) 215 55 [some (.ref 85), some (.int a1), some (.int a2), some (.int a3)] [.int r0] σ =
    some (.inl (some (.int r0), σ)) := by
  rw [Run_go [10, 18, 25, 37, 55] 2]
  rfl
theorem s216_0 {d : Nat} {a1 : Int32} {a2 : Int32} {a3 : Int32} {σ : PS} : Run false (d + 1) 216 0 [some (.ref 85), some (.int a1), some (.int a2), some (.int a3), none, none] [] σ =
    Run false (d + 1) 216 6 [some (.ref 85), some (.int a1), some (.int a2), some (.int a3), some (.int (nI 0)), some (.int (nI 0))] [] σ := by
  rw [Run_go [6, 43] 5]
  rfl
set_option maxRecDepth 100000 in
theorem s216_6 {d : Nat} {a1 : Int32} {a2 : Int32} {a3 : Int32} {a4 : Int32} {a5 : Int32} {σ : PS} : Run false (d + 1) 216 6 [some (.ref 85), some (.int a1), some (.int a2), some (.int a3), some (.int a4), some (.int a5)] [] σ =
    (bif obl ((FI σ 85 30) ≤ a5) then some (.inl (some (.int a4), σ)) else (bif inb a5 20 then (bif obl ((AI σ 97 a5.toNatClampNeg) = a1) then (bif inb a5 20 then aft false (d + 1) 216 43 [some (.ref 85), some (.int a1), some (.int a2), some (.int a3), some (.int a4), some (.int a5)] [.int a4] (Run false d 214 0 [some (.ref 85), some (.int a5), some (.int (AI σ 99 a5.toNatClampNeg)), some (.int a2), some (.int a3), none, none, none] [] σ) else none) else Run false (d + 1) 216 6 [some (.ref 85), some (.int a1), some (.int a2), some (.int a3), some (.int (a4 + (nI 0))), some (.int (a5 + (nI 1)))] [] σ) else none)) := by
  rw [Run_go [6, 43] 21]
  rfl
theorem s216_43 {d : Nat} {a1 : Int32} {a2 : Int32} {a3 : Int32} {a4 : Int32} {a5 : Int32} {r0 : Int32} {r1 : Int32} {σ : PS} : Run false (d + 1) 216 43 [some (.ref 85), some (.int a1), some (.int a2), some (.int a3), some (.int a4), some (.int a5)] [.int r1, .int r0] σ =
    Run false (d + 1) 216 6 [some (.ref 85), some (.int a1), some (.int a2), some (.int a3), some (.int (r0 + r1)), some (.int (a5 + (nI 1)))] [] σ := by
  rw [Run_go [6, 43] 6]
  rfl
theorem s217_0 {d : Nat} {a1 : Int32} {a2 : Int32} {a3 : Int32} {σ : PS} : Run false (d + 1) 217 0 [some (.ref 85), some (.int a1), some (.int a2), some (.int a3)] [] σ =
    aft false (d + 1) 217 10 [some (.ref 85), some (.int a1), some (.int a2), some (.int a3)] [] (Run false d 206 0 [some (.ref 85), some (.int a1)] [] (wFI σ 85 0 (nI 0))) := by
  rw [Run_go [10, 18, 25, 37, 49] 7]
  rfl
theorem s217_10 {d : Nat} {a1 : Int32} {a2 : Int32} {a3 : Int32} {r0 : Int32} {σ : PS} : Run false (d + 1) 217 10 [some (.ref 85), some (.int a1), some (.int a2), some (.int a3)] [.int r0] σ =
    (bif obl (r0 = (nI 0)) then some (.inl (some (.int (nI 0)), σ)) else aft false (d + 1) 217 18 [some (.ref 85), some (.int a1), some (.int a2), some (.int a3)] [.ref 85] (Run false d 169 0 [some (.int a2)] [] σ)) := by
  rw [Run_go [10, 18, 25, 37, 49] 5]
  rfl
theorem s217_18 {d : Nat} {a1 : Int32} {a2 : Int32} {a3 : Int32} {r1 : Int32} {σ : PS} : Run false (d + 1) 217 18 [some (.ref 85), some (.int a1), some (.int a2), some (.int a3)] [.int r1, .ref 85] σ =
    (bif obl (r1 = (nI 0)) then aft false (d + 1) 217 37 [some (.ref 85), some (.int a1), some (.int a2), some (.int a3)] [] (Run false d 165 0 [some (.ref 85), some (.int (nI 0)), some (.int (nI 2))] [] σ) else aft false (d + 1) 217 25 [some (.ref 85), some (.int a1), some (.int a2), some (.int a3)] [.ref 85] (Run false d 170 0 [some (.int a3)] [] σ)) := by
  rw [Run_go [10, 18, 25, 37, 49] 5]
  rfl
theorem s217_25 {d : Nat} {a1 : Int32} {a2 : Int32} {a3 : Int32} {r1 : Int32} {σ : PS} : Run false (d + 1) 217 25 [some (.ref 85), some (.int a1), some (.int a2), some (.int a3)] [.int r1, .ref 85] σ =
    (bif obl (r1 = (nI 0)) then aft false (d + 1) 217 37 [some (.ref 85), some (.int a1), some (.int a2), some (.int a3)] [] (Run false d 165 0 [some (.ref 85), some (.int (nI 0)), some (.int (nI 2))] [] σ) else aft false (d + 1) 217 37 [some (.ref 85), some (.int a1), some (.int a2), some (.int a3)] [] (Run false d 165 0 [some (.ref 85), some (.int (nI 1)), some (.int (nI 2))] [] σ)) := by
  rw [Run_go [10, 18, 25, 37, 49] 6]
  rfl
theorem s217_37 {d : Nat} {a1 : Int32} {a2 : Int32} {a3 : Int32} {r0 : Int32} {σ : PS} : Run false (d + 1) 217 37 [some (.ref 85), some (.int a1), some (.int a2), some (.int a3)] [.int r0] σ =
    (bif obl (r0 = (nI 0)) then some (.inl (some (.int (nI 0)), σ)) else aft false (d + 1) 217 49 [some (.ref 85), some (.int a1), some (.int a2), some (.int a3)] [] (Run false d 216 0 [some (.ref 85), some (.int a1), some (.int a2), some (.int a3), none, none] [] σ)) := by
  rw [Run_go [10, 18, 25, 37, 49] 7]
  rfl
theorem s217_49 {d : Nat} {a1 : Int32} {a2 : Int32} {a3 : Int32} {r0 : Int32} {σ : PS} : Run false (d + 1) 217 49 [some (.ref 85), some (.int a1), some (.int a2), some (.int a3)] [.int r0] σ =
    some (.inl (some (.int r0), σ)) := by
  rw [Run_go [10, 18, 25, 37, 49] 2]
  rfl
theorem s218_0 {d : Nat} {a1 : Int32} {a2 : Int32} {a3 : Int32} {a4 : Int32} {σ : PS} : Run false (d + 1) 218 0 [some (.ref 85), some (.int a1), some (.int a2), some (.int a3), some (.int a4)] [] σ =
    aft false (d + 1) 218 10 [some (.ref 85), some (.int a1), some (.int a2), some (.int a3), some (.int a4)] [] (Run false d 206 0 [some (.ref 85), some (.int a1)] [] (wFI σ 85 0 (nI 0))) := by
  rw [Run_go [10, 18, 30, 42, 54] 7]
  rfl
theorem s218_10 {d : Nat} {a1 : Int32} {a2 : Int32} {a3 : Int32} {a4 : Int32} {r0 : Int32} {σ : PS} : Run false (d + 1) 218 10 [some (.ref 85), some (.int a1), some (.int a2), some (.int a3), some (.int a4)] [.int r0] σ =
    (bif obl (r0 = (nI 0)) then some (.inl (some (.int (nI 0)), σ)) else aft false (d + 1) 218 18 [some (.ref 85), some (.int a1), some (.int a2), some (.int a3), some (.int a4)] [.ref 85] (Run false d 169 0 [some (.int a2)] [] σ)) := by
  rw [Run_go [10, 18, 30, 42, 54] 5]
  rfl
theorem s218_18 {d : Nat} {a1 : Int32} {a2 : Int32} {a3 : Int32} {a4 : Int32} {r1 : Int32} {σ : PS} : Run false (d + 1) 218 18 [some (.ref 85), some (.int a1), some (.int a2), some (.int a3), some (.int a4)] [.int r1, .ref 85] σ =
    (bif obl (r1 = (nI 0)) then aft false (d + 1) 218 54 [some (.ref 85), some (.int a1), some (.int a2), some (.int a3), some (.int a4)] [] (Run false d 165 0 [some (.ref 85), some (.int (nI 0)), some (.int (nI 2))] [] σ) else aft false (d + 1) 218 30 [some (.ref 85), some (.int a1), some (.int a2), some (.int a3), some (.int a4)] [.ref 85] (Run false d 166 0 [some (.int a3), some (.int (nI 0)), some (.int (FI σ 85 1))] [] σ)) := by
  rw [Run_go [10, 18, 30, 42, 54] 7]
  rfl
theorem s218_30 {d : Nat} {a1 : Int32} {a2 : Int32} {a3 : Int32} {a4 : Int32} {r1 : Int32} {σ : PS} : Run false (d + 1) 218 30 [some (.ref 85), some (.int a1), some (.int a2), some (.int a3), some (.int a4)] [.int r1, .ref 85] σ =
    (bif obl (r1 = (nI 0)) then aft false (d + 1) 218 54 [some (.ref 85), some (.int a1), some (.int a2), some (.int a3), some (.int a4)] [] (Run false d 165 0 [some (.ref 85), some (.int (nI 0)), some (.int (nI 2))] [] σ) else aft false (d + 1) 218 42 [some (.ref 85), some (.int a1), some (.int a2), some (.int a3), some (.int a4)] [.ref 85] (Run false d 166 0 [some (.int a4), some (.int (nI 0)), some (.int (nI 10000000))] [] σ)) := by
  rw [Run_go [10, 18, 30, 42, 54] 6]
  rfl
theorem s218_42 {d : Nat} {a1 : Int32} {a2 : Int32} {a3 : Int32} {a4 : Int32} {r1 : Int32} {σ : PS} : Run false (d + 1) 218 42 [some (.ref 85), some (.int a1), some (.int a2), some (.int a3), some (.int a4)] [.int r1, .ref 85] σ =
    (bif obl (r1 = (nI 0)) then aft false (d + 1) 218 54 [some (.ref 85), some (.int a1), some (.int a2), some (.int a3), some (.int a4)] [] (Run false d 165 0 [some (.ref 85), some (.int (nI 0)), some (.int (nI 2))] [] σ) else aft false (d + 1) 218 54 [some (.ref 85), some (.int a1), some (.int a2), some (.int a3), some (.int a4)] [] (Run false d 165 0 [some (.ref 85), some (.int (nI 1)), some (.int (nI 2))] [] σ)) := by
  rw [Run_go [10, 18, 30, 42, 54] 6]
  rfl
set_option maxRecDepth 100000 in
theorem s218_54 {d : Nat} {a1 : Int32} {a2 : Int32} {a3 : Int32} {a4 : Int32} {r0 : Int32} {σ : PS} : Run false (d + 1) 218 54 [some (.ref 85), some (.int a1), some (.int a2), some (.int a3), some (.int a4)] [.int r0] σ =
    (bif obl (r0 = (nI 0)) then some (.inl (some (.int (nI 0)), σ)) else (bif obl ((FI σ 85 39) = (nI 200)) then some (.inl (some (.int (-1 : Int32)), σ)) else (bif inb (FI σ 85 39) 200 then (bif inb (FI σ 85 39) 200 then (bif inb (FI σ 85 39) 200 then (bif inb (FI σ 85 39) 200 then (bif inb (FI σ 85 39) 200 then some (.inl (some (.int ((FI σ 85 39) + (nI 1))), (wFI (wAI (wAI (wAI (wAI (wAI σ 105 (FI σ 85 39).toNatClampNeg a1) 106 (FI σ 85 39).toNatClampNeg a2) 107 (FI σ 85 39).toNatClampNeg a3) 108 (FI σ 85 39).toNatClampNeg (FI σ 85 1)) 109 (FI σ 85 39).toNatClampNeg a4) 85 39 ((FI σ 85 39) + (nI 1))))) else none) else none) else none) else none) else none))) := by
  rw [Run_go [10, 18, 30, 42, 54] 46]
  rfl
set_option maxRecDepth 100000 in
theorem s219_0 {d : Nat} {a1 : Int32} {a2 : Int32} {a3 : Int32} {a4 : Int32} {σ : PS} : Run false (d + 1) 219 0 [some (.ref 85), some (.int a1), some (.int a2), some (.int a3), some (.int a4), none, none] [] σ =
    (bif obl (a1 = (FI σ 85 45)) then aft false (d + 1) 219 15 [some (.ref 85), some (.int a1), some (.int a2), some (.int a3), some (.int a4), none, none] [] (Run false d 216 0 [some (.ref 85), some (.int a1), some (.int a2), some (.int a3), none, none] [] σ) else Run false (d + 1) 219 22 [some (.ref 85), some (.int a1), some (.int a2), some (.int a3), some (.int a4), some (.int (nI 0)), some (.int (nI 0))] [] σ) := by
  rw [Run_go [15, 22] 10]
  rfl
theorem s219_15 {d : Nat} {a1 : Int32} {a2 : Int32} {a3 : Int32} {a4 : Int32} {z5 : Option Value} {z6 : Option Value} {r0 : Int32} {σ : PS} : Run false (d + 1) 219 15 [some (.ref 85), some (.int a1), some (.int a2), some (.int a3), some (.int a4), z5, z6] [.int r0] σ =
    some (.inl (some (.int r0), σ)) := by
  rw [Run_go [15, 22] 2]
  rfl
set_option maxRecDepth 100000 in
theorem s219_22 {d : Nat} {a1 : Int32} {a2 : Int32} {a3 : Int32} {a4 : Int32} {a5 : Int32} {a6 : Int32} {σ : PS} : Run false (d + 1) 219 22 [some (.ref 85), some (.int a1), some (.int a2), some (.int a3), some (.int a4), some (.int a5), some (.int a6)] [] σ =
    (bif obl ((FI σ 85 39) ≤ a6) then some (.inl (some (.int a5), σ)) else (bif inb a6 200 then (bif obl ((AI σ 105 a6.toNatClampNeg) = a1) then (bif inb a6 200 then (bif obl ((AI σ 106 a6.toNatClampNeg) = a2) then (bif inb a6 200 then (bif obl ((AI σ 107 a6.toNatClampNeg) = a3) then (bif inb a6 200 then (bif obl (a4 < (AI σ 108 a6.toNatClampNeg)) then Run false (d + 1) 219 22 [some (.ref 85), some (.int a1), some (.int a2), some (.int a3), some (.int a4), some (.int a5), some (.int (a6 + (nI 1)))] [] σ else (bif inb a6 200 then Run false (d + 1) 219 22 [some (.ref 85), some (.int a1), some (.int a2), some (.int a3), some (.int a4), some (.int (AI σ 109 a6.toNatClampNeg)), some (.int (a6 + (nI 1)))] [] σ else none)) else none) else Run false (d + 1) 219 22 [some (.ref 85), some (.int a1), some (.int a2), some (.int a3), some (.int a4), some (.int a5), some (.int (a6 + (nI 1)))] [] σ) else none) else Run false (d + 1) 219 22 [some (.ref 85), some (.int a1), some (.int a2), some (.int a3), some (.int a4), some (.int a5), some (.int (a6 + (nI 1)))] [] σ) else none) else Run false (d + 1) 219 22 [some (.ref 85), some (.int a1), some (.int a2), some (.int a3), some (.int a4), some (.int a5), some (.int (a6 + (nI 1)))] [] σ) else none)) := by
  rw [Run_go [15, 22] 36]
  rfl
theorem s220_0 {d : Nat} {a1 : Int32} {a2 : Int32} {a3 : Int32} {a4 : Int32} {σ : PS} : Run false (d + 1) 220 0 [some (.ref 85), some (.int a1), some (.int a2), some (.int a3), some (.int a4)] [] σ =
    aft false (d + 1) 220 10 [some (.ref 85), some (.int a1), some (.int a2), some (.int a3), some (.int a4)] [] (Run false d 206 0 [some (.ref 85), some (.int a1)] [] (wFI σ 85 0 (nI 0))) := by
  rw [Run_go [10, 18, 25, 37, 51] 7]
  rfl
theorem s220_10 {d : Nat} {a1 : Int32} {a2 : Int32} {a3 : Int32} {a4 : Int32} {r0 : Int32} {σ : PS} : Run false (d + 1) 220 10 [some (.ref 85), some (.int a1), some (.int a2), some (.int a3), some (.int a4)] [.int r0] σ =
    (bif obl (r0 = (nI 0)) then some (.inl (some (.int (nI 0)), σ)) else aft false (d + 1) 220 18 [some (.ref 85), some (.int a1), some (.int a2), some (.int a3), some (.int a4)] [.ref 85] (Run false d 169 0 [some (.int a2)] [] σ)) := by
  rw [Run_go [10, 18, 25, 37, 51] 5]
  rfl
theorem s220_18 {d : Nat} {a1 : Int32} {a2 : Int32} {a3 : Int32} {a4 : Int32} {r1 : Int32} {σ : PS} : Run false (d + 1) 220 18 [some (.ref 85), some (.int a1), some (.int a2), some (.int a3), some (.int a4)] [.int r1, .ref 85] σ =
    (bif obl (r1 = (nI 0)) then aft false (d + 1) 220 37 [some (.ref 85), some (.int a1), some (.int a2), some (.int a3), some (.int a4)] [] (Run false d 165 0 [some (.ref 85), some (.int (nI 0)), some (.int (nI 2))] [] σ) else aft false (d + 1) 220 25 [some (.ref 85), some (.int a1), some (.int a2), some (.int a3), some (.int a4)] [.ref 85] (Run false d 170 0 [some (.int a3)] [] σ)) := by
  rw [Run_go [10, 18, 25, 37, 51] 5]
  rfl
theorem s220_25 {d : Nat} {a1 : Int32} {a2 : Int32} {a3 : Int32} {a4 : Int32} {r1 : Int32} {σ : PS} : Run false (d + 1) 220 25 [some (.ref 85), some (.int a1), some (.int a2), some (.int a3), some (.int a4)] [.int r1, .ref 85] σ =
    (bif obl (r1 = (nI 0)) then aft false (d + 1) 220 37 [some (.ref 85), some (.int a1), some (.int a2), some (.int a3), some (.int a4)] [] (Run false d 165 0 [some (.ref 85), some (.int (nI 0)), some (.int (nI 2))] [] σ) else aft false (d + 1) 220 37 [some (.ref 85), some (.int a1), some (.int a2), some (.int a3), some (.int a4)] [] (Run false d 165 0 [some (.ref 85), some (.int (nI 1)), some (.int (nI 2))] [] σ)) := by
  rw [Run_go [10, 18, 25, 37, 51] 6]
  rfl
set_option maxRecDepth 100000 in
theorem s220_37 {d : Nat} {a1 : Int32} {a2 : Int32} {a3 : Int32} {a4 : Int32} {r0 : Int32} {σ : PS} : Run false (d + 1) 220 37 [some (.ref 85), some (.int a1), some (.int a2), some (.int a3), some (.int a4)] [.int r0] σ =
    (bif obl (r0 = (nI 0)) then some (.inl (some (.int (nI 0)), σ)) else aft false (d + 1) 220 51 [some (.ref 85), some (.int a1), some (.int a2), some (.int a3), some (.int a4)] [] (Run false d 219 0 [some (.ref 85), some (.int a1), some (.int a2), some (.int a3), some (.int a4), none, none] [] σ)) := by
  rw [Run_go [10, 18, 25, 37, 51] 8]
  rfl
theorem s220_51 {d : Nat} {a1 : Int32} {a2 : Int32} {a3 : Int32} {a4 : Int32} {r0 : Int32} {σ : PS} : Run false (d + 1) 220 51 [some (.ref 85), some (.int a1), some (.int a2), some (.int a3), some (.int a4)] [.int r0] σ =
    some (.inl (some (.int r0), σ)) := by
  rw [Run_go [10, 18, 25, 37, 51] 2]
  rfl
theorem s221_0 {d : Nat} {a1 : Int32} {a2 : Int32} {a3 : Int32} {σ : PS} : Run false (d + 1) 221 0 [some (.ref 85), some (.int a1), some (.int a2), some (.int a3), none, none, none] [] σ =
    Run false (d + 1) 221 6 [some (.ref 85), some (.int a1), some (.int a2), some (.int a3), some (.long (lN 0)), none, some (.int (nI 0))] [] σ := by
  rw [Run_go [6, 23, 42] 5]
  rfl
set_option maxRecDepth 100000 in
theorem s221_6 {d : Nat} {a1 : Int32} {a2 : Int32} {a3 : Int32} {b4 : Int64} {a6 : Int32} {σ : PS} : Run false (d + 1) 221 6 [some (.ref 85), some (.int a1), some (.int a2), some (.int a3), some (.long b4), none, some (.int a6)] [] σ =
    (bif obl ((nI 5) ≤ a6) then aft false (d + 1) 221 42 [some (.ref 85), some (.int a1), some (.int a2), some (.int a3), some (.long b4), none, some (.int a6)] [.long b4] (Run false d 200 0 [some (.ref 85), some (.int (nI 5)), some (.int (nI 0)), some (.int a2), none] [] σ) else aft false (d + 1) 221 23 [some (.ref 85), some (.int a1), some (.int a2), some (.int a3), some (.long b4), none, some (.int a6)] [.long b4] (Run false d 219 0 [some (.ref 85), some (.int a1), some (.int a6), some (.int a2), some (.int a3), none, none] [] σ)) := by
  rw [Run_go [6, 23, 42] 11]
  rfl
theorem s221_23 {d : Nat} {a1 : Int32} {a2 : Int32} {a3 : Int32} {b4 : Int64} {a6 : Int32} {q0 : Int64} {r1 : Int32} {σ : PS} : Run false (d + 1) 221 23 [some (.ref 85), some (.int a1), some (.int a2), some (.int a3), some (.long b4), none, some (.int a6)] [.int r1, .long q0] σ =
    Run false (d + 1) 221 6 [some (.ref 85), some (.int a1), some (.int a2), some (.int a3), some (.long (q0 + (r1.toInt64))), none, some (.int (a6 + (nI 1)))] [] σ := by
  rw [Run_go [6, 23, 42] 6]
  rfl
theorem s221_42 {d : Nat} {a1 : Int32} {a2 : Int32} {a3 : Int32} {b4 : Int64} {a6 : Int32} {q0 : Int64} {r1 : Int32} {σ : PS} : Run false (d + 1) 221 42 [some (.ref 85), some (.int a1), some (.int a2), some (.int a3), some (.long b4), none, some (.int a6)] [.int r1, .long q0] σ =
    (bif obl ((nI 0) ≤ (lg_cmp q0 (r1.toInt64))) then (bif is01 (nI 0) then some (.inl (some (.int (nI 0)), σ)) else none) else (bif is01 (nI 1) then some (.inl (some (.int (nI 1)), σ)) else none)) := by
  rw [Run_go [6, 23, 42] 7]
  rfl
theorem s222_0 {d : Nat} {a1 : Int32} {a2 : Int32} {a3 : Int32} {σ : PS} : Run false (d + 1) 222 0 [some (.ref 85), some (.int a1), some (.int a2), some (.int a3)] [] σ =
    aft false (d + 1) 222 10 [some (.ref 85), some (.int a1), some (.int a2), some (.int a3)] [] (Run false d 206 0 [some (.ref 85), some (.int a1)] [] (wFI σ 85 0 (nI 0))) := by
  rw [Run_go [10, 18, 22, 34] 7]
  rfl
theorem s222_10 {d : Nat} {a1 : Int32} {a2 : Int32} {a3 : Int32} {r0 : Int32} {σ : PS} : Run false (d + 1) 222 10 [some (.ref 85), some (.int a1), some (.int a2), some (.int a3)] [.int r0] σ =
    (bif obl (r0 = (nI 0)) then (bif is01 (nI 0) then some (.inl (some (.int (nI 0)), σ)) else none) else aft false (d + 1) 222 18 [some (.ref 85), some (.int a1), some (.int a2), some (.int a3)] [.ref 85] (Run false d 170 0 [some (.int a2)] [] σ)) := by
  rw [Run_go [10, 18, 22, 34] 5]
  rfl
theorem s222_18 {d : Nat} {a1 : Int32} {a2 : Int32} {a3 : Int32} {r1 : Int32} {σ : PS} : Run false (d + 1) 222 18 [some (.ref 85), some (.int a1), some (.int a2), some (.int a3)] [.int r1, .ref 85] σ =
    aft false (d + 1) 222 22 [some (.ref 85), some (.int a1), some (.int a2), some (.int a3)] [] (Run false d 165 0 [some (.ref 85), some (.int r1), some (.int (nI 2))] [] σ) := by
  rw [Run_go [10, 18, 22, 34] 3]
  rfl
theorem s222_22 {d : Nat} {a1 : Int32} {a2 : Int32} {a3 : Int32} {r0 : Int32} {σ : PS} : Run false (d + 1) 222 22 [some (.ref 85), some (.int a1), some (.int a2), some (.int a3)] [.int r0] σ =
    (bif obl (r0 = (nI 0)) then (bif is01 (nI 0) then some (.inl (some (.int (nI 0)), σ)) else none) else aft false (d + 1) 222 34 [some (.ref 85), some (.int a1), some (.int a2), some (.int a3)] [] (Run false d 221 0 [some (.ref 85), some (.int a1), some (.int a2), some (.int a3), none, none, none] [] σ)) := by
  rw [Run_go [10, 18, 22, 34] 7]
  rfl
theorem s222_34 {d : Nat} {a1 : Int32} {a2 : Int32} {a3 : Int32} {r0 : Int32} {σ : PS} : Run false (d + 1) 222 34 [some (.ref 85), some (.int a1), some (.int a2), some (.int a3)] [.int r0] σ =
    (bif is01 r0 then some (.inl (some (.int r0), σ)) else none) := by
  rw [Run_go [10, 18, 22, 34] 2]
  rfl
theorem s223_0 {d : Nat} {a1 : Int32} {a2 : Int32} {σ : PS} : Run false (d + 1) 223 0 [some (.ref 85), some (.int a1), some (.int a2), none, none] [] σ =
    Run false (d + 1) 223 5 [some (.ref 85), some (.int a1), some (.int a2), some (.int (nI 0)), some (.int (nI 0))] [] σ := by
  rw [Run_go [5, 20] 5]
  rfl
set_option maxRecDepth 100000 in
theorem s223_5 {d : Nat} {a1 : Int32} {a2 : Int32} {a3 : Int32} {a4 : Int32} {σ : PS} : Run false (d + 1) 223 5 [some (.ref 85), some (.int a1), some (.int a2), some (.int a3), some (.int a4)] [] σ =
    (bif obl ((nI 5) ≤ a4) then some (.inl (some (.int a3), σ)) else aft false (d + 1) 223 20 [some (.ref 85), some (.int a1), some (.int a2), some (.int a3), some (.int a4)] [.int a3] (Run false d 213 0 [some (.ref 85), some (.int a1), some (.int a2), some (.int a4)] [] σ)) := by
  rw [Run_go [5, 20] 10]
  rfl
set_option maxRecDepth 100000 in
theorem s223_20 {d : Nat} {a1 : Int32} {a2 : Int32} {a3 : Int32} {a4 : Int32} {r0 : Int32} {r1 : Int32} {σ : PS} : Run false (d + 1) 223 20 [some (.ref 85), some (.int a1), some (.int a2), some (.int a3), some (.int a4)] [.int r1, .int r0] σ =
    (bif obl (r1 ≤ (nI 0)) then Run false (d + 1) 223 5 [some (.ref 85), some (.int a1), some (.int a2), some (.int (r0 + (nI 0))), some (.int (a4 + (nI 1)))] [] σ else Run false (d + 1) 223 5 [some (.ref 85), some (.int a1), some (.int a2), some (.int (r0 + (nI 1))), some (.int (a4 + (nI 1)))] [] σ) := by
  rw [Run_go [5, 20] 8]
  rfl
theorem s224_0 {d : Nat} {a1 : Int32} {a2 : Int32} {a3 : Int32} {σ : PS} : Run false (d + 1) 224 0 [some (.ref 85), some (.int a1), some (.int a2), some (.int a3), none, none, none, none, none, none, none, none, none, none] [] σ =
    aft false (d + 1) 224 7 [some (.ref 85), some (.int a1), some (.int a2), some (.int a3), none, none, none, none, none, none, none, none, none, none] [] (Run false d 221 0 [some (.ref 85), some (.int a1), some (.int a2), some (.int a3), none, none, none] [] σ) := by
  rw [Run_go [7, 18, 51, 69, 83, 98, 108, 126, 147, 202, 242, 268] 6]
  rfl
theorem s224_7 {d : Nat} {a1 : Int32} {a2 : Int32} {a3 : Int32} {z4 : Option Value} {z5 : Option Value} {z6 : Option Value} {z7 : Option Value} {z8 : Option Value} {z9 : Option Value} {z10 : Option Value} {z11 : Option Value} {z12 : Option Value} {z13 : Option Value} {r0 : Int32} {σ : PS} : Run false (d + 1) 224 7 [some (.ref 85), some (.int a1), some (.int a2), some (.int a3), z4, z5, z6, z7, z8, z9, z10, z11, z12, z13] [.int r0] σ =
    (bif obl (r0 = (nI 0)) then Run false (d + 1) 224 18 [some (.ref 85), some (.int a1), some (.int a2), some (.int a3), some (.int (nI 0)), some (.int (nI 0)), z6, z7, z8, z9, z10, z11, z12, z13] [] σ else some (.inl (some (.long (lN 0)), σ))) := by
  rw [Run_go [7, 18, 51, 69, 83, 98, 108, 126, 147, 202, 242, 268] 6]
  rfl
set_option maxRecDepth 100000 in
theorem s224_18 {d : Nat} {a1 : Int32} {a2 : Int32} {a3 : Int32} {a4 : Int32} {a5 : Int32} {z6 : Option Value} {z7 : Option Value} {z8 : Option Value} {z9 : Option Value} {z10 : Option Value} {z11 : Option Value} {z12 : Option Value} {z13 : Option Value} {σ : PS} : Run false (d + 1) 224 18 [some (.ref 85), some (.int a1), some (.int a2), some (.int a3), some (.int a4), some (.int a5), z6, z7, z8, z9, z10, z11, z12, z13] [] σ =
    (bif obl ((FI σ 85 30) ≤ a5) then Run false (d + 1) 224 83 [some (.ref 85), some (.int a1), some (.int a2), some (.int a3), some (.int a4), some (.long (lN 0)), none, some (.int (nI 0)), z8, z9, z10, z11, z12, z13] [] σ else (bif inb a5 20 then (bif obl ((AI σ 97 a5.toNatClampNeg) = a1) then (bif inb a5 20 then aft false (d + 1) 224 51 [some (.ref 85), some (.int a1), some (.int a2), some (.int a3), some (.int a4), some (.int a5), z6, z7, z8, z9, z10, z11, z12, z13] [] (Run false d 223 0 [some (.ref 85), some (.int a5), some (.int (AI σ 99 a5.toNatClampNeg)), none, none] [] σ) else none) else Run false (d + 1) 224 18 [some (.ref 85), some (.int a1), some (.int a2), some (.int a3), some (.int a4), some (.int (a5 + (nI 1))), z6, z7, z8, z9, z10, z11, z12, z13] [] σ) else none)) := by
  rw [Run_go [7, 18, 51, 69, 83, 98, 108, 126, 147, 202, 242, 268] 18]
  rfl
set_option maxRecDepth 100000 in
theorem s224_51 {d : Nat} {a1 : Int32} {a2 : Int32} {a3 : Int32} {a4 : Int32} {a5 : Int32} {z6 : Option Value} {z7 : Option Value} {z8 : Option Value} {z9 : Option Value} {z10 : Option Value} {z11 : Option Value} {z12 : Option Value} {z13 : Option Value} {r0 : Int32} {σ : PS} : Run false (d + 1) 224 51 [some (.ref 85), some (.int a1), some (.int a2), some (.int a3), some (.int a4), some (.int a5), z6, z7, z8, z9, z10, z11, z12, z13] [.int r0] σ =
    (bif obl (r0 ≤ a4) then Run false (d + 1) 224 18 [some (.ref 85), some (.int a1), some (.int a2), some (.int a3), some (.int a4), some (.int (a5 + (nI 1))), z6, z7, z8, z9, z10, z11, z12, z13] [] σ else (bif inb a5 20 then aft false (d + 1) 224 69 [some (.ref 85), some (.int a1), some (.int a2), some (.int a3), some (.int a4), some (.int a5), z6, z7, z8, z9, z10, z11, z12, z13] [] (Run false d 223 0 [some (.ref 85), some (.int a5), some (.int (AI σ 99 a5.toNatClampNeg)), none, none] [] σ) else none)) := by
  rw [Run_go [7, 18, 51, 69, 83, 98, 108, 126, 147, 202, 242, 268] 10]
  rfl
theorem s224_69 {d : Nat} {a1 : Int32} {a2 : Int32} {a3 : Int32} {a4 : Int32} {a5 : Int32} {z6 : Option Value} {z7 : Option Value} {z8 : Option Value} {z9 : Option Value} {z10 : Option Value} {z11 : Option Value} {z12 : Option Value} {z13 : Option Value} {r0 : Int32} {σ : PS} : Run false (d + 1) 224 69 [some (.ref 85), some (.int a1), some (.int a2), some (.int a3), some (.int a4), some (.int a5), z6, z7, z8, z9, z10, z11, z12, z13] [.int r0] σ =
    Run false (d + 1) 224 18 [some (.ref 85), some (.int a1), some (.int a2), some (.int a3), some (.int r0), some (.int (a5 + (nI 1))), z6, z7, z8, z9, z10, z11, z12, z13] [] σ := by
  rw [Run_go [7, 18, 51, 69, 83, 98, 108, 126, 147, 202, 242, 268] 4]
  rfl
set_option maxRecDepth 100000 in
theorem s224_83 {d : Nat} {a1 : Int32} {a2 : Int32} {a3 : Int32} {a4 : Int32} {b5 : Int64} {a7 : Int32} {z8 : Option Value} {z9 : Option Value} {z10 : Option Value} {z11 : Option Value} {z12 : Option Value} {z13 : Option Value} {σ : PS} : Run false (d + 1) 224 83 [some (.ref 85), some (.int a1), some (.int a2), some (.int a3), some (.int a4), some (.long b5), none, some (.int a7), z8, z9, z10, z11, z12, z13] [] σ =
    (bif obl ((nI 5) ≤ a7) then some (.inl (some (.long b5), σ)) else aft false (d + 1) 224 98 [some (.ref 85), some (.int a1), some (.int a2), some (.int a3), some (.int a4), some (.long b5), none, some (.int a7), z8, z9, z10, z11, z12, z13] [] (Run false d 219 0 [some (.ref 85), some (.int a1), some (.int a7), some (.int a2), some (.int a3), none, none] [] σ)) := by
  rw [Run_go [7, 18, 51, 69, 83, 98, 108, 126, 147, 202, 242, 268] 10]
  rfl
theorem s224_98 {d : Nat} {a1 : Int32} {a2 : Int32} {a3 : Int32} {a4 : Int32} {b5 : Int64} {a7 : Int32} {z8 : Option Value} {z9 : Option Value} {z10 : Option Value} {z11 : Option Value} {z12 : Option Value} {z13 : Option Value} {r0 : Int32} {σ : PS} : Run false (d + 1) 224 98 [some (.ref 85), some (.int a1), some (.int a2), some (.int a3), some (.int a4), some (.long b5), none, some (.int a7), z8, z9, z10, z11, z12, z13] [.int r0] σ =
    aft false (d + 1) 224 108 [some (.ref 85), some (.int a1), some (.int a2), some (.int a3), some (.int a4), some (.long b5), none, some (.int a7), some (.int r0), z9, z10, z11, z12, z13] [] (Run false d 199 0 [some (.ref 85), some (.int (nI 0)), some (.int a7), some (.int a2), none, none, none, none] [] σ) := by
  rw [Run_go [7, 18, 51, 69, 83, 98, 108, 126, 147, 202, 242, 268] 7]
  rfl
set_option maxRecDepth 100000 in
theorem s224_108 {d : Nat} {a1 : Int32} {a2 : Int32} {a3 : Int32} {a4 : Int32} {b5 : Int64} {a7 : Int32} {a8 : Int32} {z9 : Option Value} {z10 : Option Value} {z11 : Option Value} {z12 : Option Value} {z13 : Option Value} {r0 : Int32} {σ : PS} : Run false (d + 1) 224 108 [some (.ref 85), some (.int a1), some (.int a2), some (.int a3), some (.int a4), some (.long b5), none, some (.int a7), some (.int a8), z9, z10, z11, z12, z13] [.int r0] σ =
    (bif obl (r0 = (-1 : Int32)) then (bif obl ((lN 1000) = lN 0) then none else Run false (d + 1) 224 83 [some (.ref 85), some (.int a1), some (.int a2), some (.int a3), some (.int a4), some (.long (b5 + (((a8.toInt64) * ((nI 100).toInt64)) / (lN 1000)))), none, some (.int (a7 + (nI 1))), some (.int a8), some (.int r0), some (.int (nI 100)), z11, z12, z13] [] σ) else Run false (d + 1) 224 126 [some (.ref 85), some (.int a1), some (.int a2), some (.int a3), some (.int a4), some (.long b5), none, some (.int a7), some (.int a8), some (.int r0), some (.int (nI 100)), some (.long (lN 0)), none, some (.int (nI 0))] [] σ) := by
  rw [Run_go [7, 18, 51, 69, 83, 98, 108, 126, 147, 202, 242, 268] 19]
  rfl
set_option maxRecDepth 100000 in
theorem s224_126 {d : Nat} {a1 : Int32} {a2 : Int32} {a3 : Int32} {a4 : Int32} {b5 : Int64} {a7 : Int32} {a8 : Int32} {a9 : Int32} {a10 : Int32} {b11 : Int64} {a13 : Int32} {σ : PS} : Run false (d + 1) 224 126 [some (.ref 85), some (.int a1), some (.int a2), some (.int a3), some (.int a4), some (.long b5), none, some (.int a7), some (.int a8), some (.int a9), some (.int a10), some (.long b11), none, some (.int a13)] [] σ =
    (bif obl ((FI σ 85 29) ≤ a13) then (bif obl ((lg_cmp b11 (lN 0)) = (nI 0)) then Run false (d + 1) 224 202 [some (.ref 85), some (.int a1), some (.int a2), some (.int a3), some (.int a4), some (.long b5), none, some (.int a7), some (.int a8), some (.int a9), some (.int a10), some (.long b11), none, some (.int (nI 0))] [] (wFI (wFI (wFI (wFI σ 85 23 a2) 85 24 a8) 85 25 (nI 0)) 85 26 (nI 0)) else (bif obl (b11 = lN 0) then none else Run false (d + 1) 224 202 [some (.ref 85), some (.int a1), some (.int a2), some (.int a3), some (.int a4), some (.long b5), none, some (.int a7), some (.int a8), some (.int a9), some (.int a10), some (.long b11), none, some (.int (nI 0))] [] (wFI (wFI (wFI (wFI σ 85 23 a2) 85 24 a8) 85 25 ((((lN 100) * (a8.toInt64)) / b11).toInt32)) 85 26 (nI 0)))) else aft false (d + 1) 224 147 [some (.ref 85), some (.int a1), some (.int a2), some (.int a3), some (.int a4), some (.long b5), none, some (.int a7), some (.int a8), some (.int a9), some (.int a10), some (.long b11), none, some (.int a13)] [.long b11] (Run false d 219 0 [some (.ref 85), some (.int a13), some (.int a7), some (.int a2), some (.int a3), none, none] [] σ)) := by
  rw [Run_go [7, 18, 51, 69, 83, 98, 108, 126, 147, 202, 242, 268] 29]
  rfl
theorem s224_147 {d : Nat} {a1 : Int32} {a2 : Int32} {a3 : Int32} {a4 : Int32} {b5 : Int64} {a7 : Int32} {a8 : Int32} {a9 : Int32} {a10 : Int32} {b11 : Int64} {a13 : Int32} {q0 : Int64} {r1 : Int32} {σ : PS} : Run false (d + 1) 224 147 [some (.ref 85), some (.int a1), some (.int a2), some (.int a3), some (.int a4), some (.long b5), none, some (.int a7), some (.int a8), some (.int a9), some (.int a10), some (.long b11), none, some (.int a13)] [.int r1, .long q0] σ =
    Run false (d + 1) 224 126 [some (.ref 85), some (.int a1), some (.int a2), some (.int a3), some (.int a4), some (.long b5), none, some (.int a7), some (.int a8), some (.int a9), some (.int a10), some (.long (q0 + (r1.toInt64))), none, some (.int (a13 + (nI 1)))] [] σ := by
  rw [Run_go [7, 18, 51, 69, 83, 98, 108, 126, 147, 202, 242, 268] 6]
  rfl
set_option maxRecDepth 100000 in
theorem s224_202 {d : Nat} {a1 : Int32} {a2 : Int32} {a3 : Int32} {a4 : Int32} {b5 : Int64} {a7 : Int32} {a8 : Int32} {a9 : Int32} {a10 : Int32} {b11 : Int64} {a13 : Int32} {σ : PS} : Run false (d + 1) 224 202 [some (.ref 85), some (.int a1), some (.int a2), some (.int a3), some (.int a4), some (.long b5), none, some (.int a7), some (.int a8), some (.int a9), some (.int a10), some (.long b11), none, some (.int a13)] [] σ =
    (bif obl ((FI σ 85 30) ≤ a13) then aft false (d + 1) 224 268 [some (.ref 85), some (.int a1), some (.int a2), some (.int a3), some (.int a4), some (.long b5), none, some (.int a7), some (.int a8), some (.int a9), some (.int a10), some (.long b11), none, some (.int a13)] [] (Run false d 203 0 [some (.ref 85), some (.int a9), none, none, none] [] (wFI σ 85 27 a4)) else (bif inb a13 20 then (bif obl ((AI σ 97 a13.toNatClampNeg) = a1) then (bif inb a13 20 then aft false (d + 1) 224 242 [some (.ref 85), some (.int a1), some (.int a2), some (.int a3), some (.int a4), some (.long b5), none, some (.int a7), some (.int a8), some (.int a9), some (.int a10), some (.long b11), none, some (.int a13)] [.int (FI σ 85 26), .ref 85] (Run false d 213 0 [some (.ref 85), some (.int a13), some (.int (AI σ 99 a13.toNatClampNeg)), some (.int a7)] [] σ) else none) else Run false (d + 1) 224 202 [some (.ref 85), some (.int a1), some (.int a2), some (.int a3), some (.int a4), some (.long b5), none, some (.int a7), some (.int a8), some (.int a9), some (.int a10), some (.long b11), none, some (.int (a13 + (nI 1)))] [] (wFI σ 85 26 ((FI σ 85 26) + (nI 0)))) else none)) := by
  rw [Run_go [7, 18, 51, 69, 83, 98, 108, 126, 147, 202, 242, 268] 22]
  rfl
theorem s224_242 {d : Nat} {a1 : Int32} {a2 : Int32} {a3 : Int32} {a4 : Int32} {b5 : Int64} {a7 : Int32} {a8 : Int32} {a9 : Int32} {a10 : Int32} {b11 : Int64} {a13 : Int32} {r1 : Int32} {r2 : Int32} {σ : PS} : Run false (d + 1) 224 242 [some (.ref 85), some (.int a1), some (.int a2), some (.int a3), some (.int a4), some (.long b5), none, some (.int a7), some (.int a8), some (.int a9), some (.int a10), some (.long b11), none, some (.int a13)] [.int r2, .int r1, .ref 85] σ =
    Run false (d + 1) 224 202 [some (.ref 85), some (.int a1), some (.int a2), some (.int a3), some (.int a4), some (.long b5), none, some (.int a7), some (.int a8), some (.int a9), some (.int a10), some (.long b11), none, some (.int (a13 + (nI 1)))] [] (wFI σ 85 26 (r1 + r2)) := by
  rw [Run_go [7, 18, 51, 69, 83, 98, 108, 126, 147, 202, 242, 268] 6]
  rfl
set_option maxRecDepth 100000 in
theorem s224_268 {d : Nat} {a1 : Int32} {a2 : Int32} {a3 : Int32} {a4 : Int32} {b5 : Int64} {a7 : Int32} {a8 : Int32} {a9 : Int32} {a10 : Int32} {b11 : Int64} {a13 : Int32} {r0 : Int32} {σ : PS} : Run false (d + 1) 224 268 [some (.ref 85), some (.int a1), some (.int a2), some (.int a3), some (.int a4), some (.long b5), none, some (.int a7), some (.int a8), some (.int a9), some (.int a10), some (.long b11), none, some (.int a13)] [.int r0] σ =
    (bif obl ((nI 0) ≤ r0) then (bif obl (r0 ≤ (nI 100000)) then (bif obl ((lN 1000) = lN 0) then none else Run false (d + 1) 224 83 [some (.ref 85), some (.int a1), some (.int a2), some (.int a3), some (.int a4), some (.long (b5 + (((a8.toInt64) * (r0.toInt64)) / (lN 1000)))), none, some (.int (a7 + (nI 1))), some (.int a8), some (.int a9), some (.int r0), some (.long b11), none, some (.int a13)] [] σ) else (bif obl ((lN 1000) = lN 0) then none else Run false (d + 1) 224 83 [some (.ref 85), some (.int a1), some (.int a2), some (.int a3), some (.int a4), some (.long (b5 + (((a8.toInt64) * ((nI 100000).toInt64)) / (lN 1000)))), none, some (.int (a7 + (nI 1))), some (.int a8), some (.int a9), some (.int (nI 100000)), some (.long b11), none, some (.int a13)] [] σ)) else (bif obl ((lN 1000) = lN 0) then none else Run false (d + 1) 224 83 [some (.ref 85), some (.int a1), some (.int a2), some (.int a3), some (.int a4), some (.long (b5 + (((a8.toInt64) * ((nI 0).toInt64)) / (lN 1000)))), none, some (.int (a7 + (nI 1))), some (.int a8), some (.int a9), some (.int (nI 0)), some (.long b11), none, some (.int a13)] [] σ)) := by
  rw [Run_go [7, 18, 51, 69, 83, 98, 108, 126, 147, 202, 242, 268] 22]
  rfl
theorem s225_0 {d : Nat} {a1 : Int32} {a2 : Int32} {a3 : Int32} {σ : PS} : Run false (d + 1) 225 0 [some (.ref 85), some (.int a1), some (.int a2), some (.int a3)] [] σ =
    aft false (d + 1) 225 10 [some (.ref 85), some (.int a1), some (.int a2), some (.int a3)] [] (Run false d 206 0 [some (.ref 85), some (.int a1)] [] (wFI σ 85 0 (nI 0))) := by
  rw [Run_go [10, 18, 22, 34] 7]
  rfl
theorem s225_10 {d : Nat} {a1 : Int32} {a2 : Int32} {a3 : Int32} {r0 : Int32} {σ : PS} : Run false (d + 1) 225 10 [some (.ref 85), some (.int a1), some (.int a2), some (.int a3)] [.int r0] σ =
    (bif obl (r0 = (nI 0)) then some (.inl (some (.long (lN 0)), σ)) else aft false (d + 1) 225 18 [some (.ref 85), some (.int a1), some (.int a2), some (.int a3)] [.ref 85] (Run false d 170 0 [some (.int a2)] [] σ)) := by
  rw [Run_go [10, 18, 22, 34] 5]
  rfl
theorem s225_18 {d : Nat} {a1 : Int32} {a2 : Int32} {a3 : Int32} {r1 : Int32} {σ : PS} : Run false (d + 1) 225 18 [some (.ref 85), some (.int a1), some (.int a2), some (.int a3)] [.int r1, .ref 85] σ =
    aft false (d + 1) 225 22 [some (.ref 85), some (.int a1), some (.int a2), some (.int a3)] [] (Run false d 165 0 [some (.ref 85), some (.int r1), some (.int (nI 2))] [] σ) := by
  rw [Run_go [10, 18, 22, 34] 3]
  rfl
theorem s225_22 {d : Nat} {a1 : Int32} {a2 : Int32} {a3 : Int32} {r0 : Int32} {σ : PS} : Run false (d + 1) 225 22 [some (.ref 85), some (.int a1), some (.int a2), some (.int a3)] [.int r0] σ =
    (bif obl (r0 = (nI 0)) then some (.inl (some (.long (lN 0)), σ)) else aft false (d + 1) 225 34 [some (.ref 85), some (.int a1), some (.int a2), some (.int a3)] [] (Run false d 224 0 [some (.ref 85), some (.int a1), some (.int a2), some (.int a3), none, none, none, none, none, none, none, none, none, none] [] σ)) := by
  rw [Run_go [10, 18, 22, 34] 7]
  rfl
theorem s225_34 {d : Nat} {a1 : Int32} {a2 : Int32} {a3 : Int32} {q0 : Int64} {σ : PS} : Run false (d + 1) 225 34 [some (.ref 85), some (.int a1), some (.int a2), some (.int a3)] [.long q0] σ =
    some (.inl (some (.long q0), σ)) := by
  rw [Run_go [10, 18, 22, 34] 2]
  rfl
theorem s226_0 {d : Nat} {a1 : Int32} {a2 : Int32} {σ : PS} : Run false (d + 1) 226 0 [some (.ref 85), some (.int a1), some (.int a2), none, none, none, none] [] σ =
    aft false (d + 1) 226 10 [some (.ref 85), some (.int a1), some (.int a2), none, none, none, none] [] (Run false d 206 0 [some (.ref 85), some (.int a1)] [] (wFI σ 85 0 (nI 0))) := by
  rw [Run_go [10, 18, 22, 37] 7]
  rfl
theorem s226_10 {d : Nat} {a1 : Int32} {a2 : Int32} {z3 : Option Value} {z4 : Option Value} {z5 : Option Value} {z6 : Option Value} {r0 : Int32} {σ : PS} : Run false (d + 1) 226 10 [some (.ref 85), some (.int a1), some (.int a2), z3, z4, z5, z6] [.int r0] σ =
    (bif obl (r0 = (nI 0)) then some (.inl (some (.long (lN 0)), σ)) else aft false (d + 1) 226 18 [some (.ref 85), some (.int a1), some (.int a2), z3, z4, z5, z6] [.ref 85] (Run false d 170 0 [some (.int a2)] [] σ)) := by
  rw [Run_go [10, 18, 22, 37] 5]
  rfl
theorem s226_18 {d : Nat} {a1 : Int32} {a2 : Int32} {z3 : Option Value} {z4 : Option Value} {z5 : Option Value} {z6 : Option Value} {r1 : Int32} {σ : PS} : Run false (d + 1) 226 18 [some (.ref 85), some (.int a1), some (.int a2), z3, z4, z5, z6] [.int r1, .ref 85] σ =
    aft false (d + 1) 226 22 [some (.ref 85), some (.int a1), some (.int a2), z3, z4, z5, z6] [] (Run false d 165 0 [some (.ref 85), some (.int r1), some (.int (nI 2))] [] σ) := by
  rw [Run_go [10, 18, 22, 37] 3]
  rfl
set_option maxRecDepth 100000 in
theorem s226_22 {d : Nat} {a1 : Int32} {a2 : Int32} {z3 : Option Value} {z4 : Option Value} {z5 : Option Value} {z6 : Option Value} {r0 : Int32} {σ : PS} : Run false (d + 1) 226 22 [some (.ref 85), some (.int a1), some (.int a2), z3, z4, z5, z6] [.int r0] σ =
    (bif obl (r0 = (nI 0)) then some (.inl (some (.long (lN 0)), σ)) else aft false (d + 1) 226 37 [some (.ref 85), some (.int a1), some (.int a2), z3, z4, z5, z6] [] (Run false d 224 0 [some (.ref 85), some (.int a1), some (.int a2), some (.int (FI σ 85 1)), none, none, none, none, none, none, none, none, none, none] [] σ)) := by
  rw [Run_go [10, 18, 22, 37] 8]
  rfl
set_option maxRecDepth 100000 in
theorem s226_37 {d : Nat} {a1 : Int32} {a2 : Int32} {z3 : Option Value} {z4 : Option Value} {z5 : Option Value} {z6 : Option Value} {q0 : Int64} {σ : PS} : Run false (d + 1) 226 37 [some (.ref 85), some (.int a1), some (.int a2), z3, z4, z5, z6] [.long q0] σ =
    (bif inb (((nI 41) * a1) + a2) 410 then (bif inb (((nI 41) * a1) + a2) 410 then some (.inl (some (.long (q0 - (AL σ 110 (((nI 41) * a1) + a2).toNatClampNeg))), (wAL σ 110 (((nI 41) * a1) + a2).toNatClampNeg q0))) else none) else none) := by
  rw [Run_go [10, 18, 22, 37] 24]
  rfl
theorem s227_0 {d : Nat} {a1 : Int32} {a2 : Int32} {a3 : Int32} {σ : PS} : Run false (d + 1) 227 0 [some (.ref 85), some (.int a1), some (.int a2), some (.int a3), none, none] [] σ =
    aft false (d + 1) 227 10 [some (.ref 85), some (.int a1), some (.int a2), some (.int a3), none, none] [] (Run false d 206 0 [some (.ref 85), some (.int a1)] [] (wFI σ 85 0 (nI 0))) := by
  rw [Run_go [10, 18, 42, 55, 90] 7]
  rfl
theorem s227_10 {d : Nat} {a1 : Int32} {a2 : Int32} {a3 : Int32} {z4 : Option Value} {z5 : Option Value} {r0 : Int32} {σ : PS} : Run false (d + 1) 227 10 [some (.ref 85), some (.int a1), some (.int a2), some (.int a3), z4, z5] [.int r0] σ =
    (bif obl (r0 = (nI 0)) then some (.inl (some (.long (lN 0)), σ)) else aft false (d + 1) 227 18 [some (.ref 85), some (.int a1), some (.int a2), some (.int a3), z4, z5] [.ref 85] (Run false d 170 0 [some (.int a2)] [] σ)) := by
  rw [Run_go [10, 18, 42, 55, 90] 5]
  rfl
set_option maxRecDepth 100000 in
theorem s227_18 {d : Nat} {a1 : Int32} {a2 : Int32} {a3 : Int32} {z4 : Option Value} {z5 : Option Value} {r1 : Int32} {σ : PS} : Run false (d + 1) 227 18 [some (.ref 85), some (.int a1), some (.int a2), some (.int a3), z4, z5] [.int r1, .ref 85] σ =
    (bif obl (r1 = (nI 0)) then aft false (d + 1) 227 42 [some (.ref 85), some (.int a1), some (.int a2), some (.int a3), z4, z5] [] (Run false d 165 0 [some (.ref 85), some (.int (nI 0)), some (.int (nI 2))] [] σ) else (bif obl (a3 < (nI 0)) then aft false (d + 1) 227 42 [some (.ref 85), some (.int a1), some (.int a2), some (.int a3), z4, z5] [] (Run false d 165 0 [some (.ref 85), some (.int (nI 0)), some (.int (nI 2))] [] σ) else (bif obl ((FI σ 85 2) < a3) then aft false (d + 1) 227 42 [some (.ref 85), some (.int a1), some (.int a2), some (.int a3), z4, z5] [] (Run false d 165 0 [some (.ref 85), some (.int (nI 0)), some (.int (nI 2))] [] σ) else aft false (d + 1) 227 42 [some (.ref 85), some (.int a1), some (.int a2), some (.int a3), z4, z5] [] (Run false d 165 0 [some (.ref 85), some (.int (nI 1)), some (.int (nI 2))] [] σ)))) := by
  rw [Run_go [10, 18, 42, 55, 90] 12]
  rfl
theorem s227_42 {d : Nat} {a1 : Int32} {a2 : Int32} {a3 : Int32} {z4 : Option Value} {z5 : Option Value} {r0 : Int32} {σ : PS} : Run false (d + 1) 227 42 [some (.ref 85), some (.int a1), some (.int a2), some (.int a3), z4, z5] [.int r0] σ =
    (bif obl (r0 = (nI 0)) then some (.inl (some (.long (lN 0)), σ)) else aft false (d + 1) 227 55 [some (.ref 85), some (.int a1), some (.int a2), some (.int a3), z4, z5] [] (Run false d 196 0 [some (.ref 85), some (.int (nI 10)), some (.int a2), some (.int a3)] [] σ)) := by
  rw [Run_go [10, 18, 42, 55, 90] 7]
  rfl
set_option maxRecDepth 100000 in
theorem s227_55 {d : Nat} {a1 : Int32} {a2 : Int32} {a3 : Int32} {z4 : Option Value} {z5 : Option Value} {r0 : Int32} {σ : PS} : Run false (d + 1) 227 55 [some (.ref 85), some (.int a1), some (.int a2), some (.int a3), z4, z5] [.int r0] σ =
    (bif obl (r0 = (nI 0)) then (bif inb (nI 10) 11 then some (.inl (some (.long (((FI σ 85 6) - (nI 10)).toInt64)), (wAI σ 88 (nI 10).toNatClampNeg (nI 0)))) else none) else (bif is01 (nI 1) then aft false (d + 1) 227 90 [some (.ref 85), some (.int a1), some (.int a2), some (.int a3), z4, z5] [] (Run false d 224 0 [some (.ref 85), some (.int a1), some (.int a2), some (.int (FI σ 85 1)), none, none, none, none, none, none, none, none, none, none] [] (wFI σ 85 22 (nI 1))) else none)) := by
  rw [Run_go [10, 18, 42, 55, 90] 13]
  rfl
set_option maxRecDepth 100000 in
theorem s227_90 {d : Nat} {a1 : Int32} {a2 : Int32} {a3 : Int32} {z4 : Option Value} {z5 : Option Value} {q0 : Int64} {σ : PS} : Run false (d + 1) 227 90 [some (.ref 85), some (.int a1), some (.int a2), some (.int a3), z4, z5] [.long q0] σ =
    (bif is01 (nI 0) then (bif inb (nI 10) 11 then some (.inl (some (.long q0), (wAI (wFI σ 85 22 (nI 0)) 88 (nI 10).toNatClampNeg (nI 0)))) else none) else none) := by
  rw [Run_go [10, 18, 42, 55, 90] 12]
  rfl
theorem s228_0 {d : Nat} {a1 : Int32} {a2 : Int32} {a3 : Int32} {σ : PS} : Run false (d + 1) 228 0 [some (.ref 85), some (.int a1), some (.int a2), some (.int a3), none, none] [] σ =
    Run false (d + 1) 228 3 [some (.ref 85), some (.int a1), some (.int a2), some (.int a3), some (.int (nI 0)), none] [] σ := by
  rw [Run_go [3, 19, 72, 107, 117, 126] 3]
  rfl
set_option maxRecDepth 100000 in
theorem s228_3 {d : Nat} {a1 : Int32} {a2 : Int32} {a3 : Int32} {a4 : Int32} {z5 : Option Value} {σ : PS} : Run false (d + 1) 228 3 [some (.ref 85), some (.int a1), some (.int a2), some (.int a3), some (.int a4), z5] [] σ =
    (bif obl ((FI σ 85 10) ≤ a4) then (bif is01 (nI 0) then some (.inl (some (.int (nI 0)), σ)) else none) else Run false (d + 1) 228 19 [some (.ref 85), some (.int a1), some (.int a2), some (.int a3), some (.int a4), some (.int ((nI 16) * a4))] [] σ) := by
  rw [Run_go [3, 19, 72, 107, 117, 126] 9]
  rfl
set_option maxRecDepth 100000 in
theorem s228_19 {d : Nat} {a1 : Int32} {a2 : Int32} {a3 : Int32} {a4 : Int32} {a5 : Int32} {σ : PS} : Run false (d + 1) 228 19 [some (.ref 85), some (.int a1), some (.int a2), some (.int a3), some (.int a4), some (.int a5)] [] σ =
    (bif inb a4 11 then (bif obl ((((nI 16) * a4) + (AI σ 88 a4.toNatClampNeg)) ≤ a5) then Run false (d + 1) 228 3 [some (.ref 85), some (.int a1), some (.int a2), some (.int a3), some (.int (a4 + (nI 1))), some (.int a5)] [] σ else (bif inb a4 11 then (bif obl (a3 < (AI σ 87 a4.toNatClampNeg)) then Run false (d + 1) 228 3 [some (.ref 85), some (.int a1), some (.int a2), some (.int a3), some (.int (a4 + (nI 1))), some (.int a5)] [] σ else (bif inb a5 176 then (bif obl ((AI σ 89 a5.toNatClampNeg) = (nI 4)) then (bif inb a5 176 then aft false (d + 1) 228 72 [some (.ref 85), some (.int a1), some (.int a2), some (.int a3), some (.int a4), some (.int a5)] [] (Run false d 213 0 [some (.ref 85), some (.int a1), some (.int a2), some (.int (AI σ 90 a5.toNatClampNeg))] [] σ) else none) else Run false (d + 1) 228 19 [some (.ref 85), some (.int a1), some (.int a2), some (.int a3), some (.int a4), some (.int (a5 + (nI 1)))] [] σ) else none)) else none)) else none) := by
  rw [Run_go [3, 19, 72, 107, 117, 126] 31]
  rfl
set_option maxRecDepth 100000 in
theorem s228_72 {d : Nat} {a1 : Int32} {a2 : Int32} {a3 : Int32} {a4 : Int32} {a5 : Int32} {r0 : Int32} {σ : PS} : Run false (d + 1) 228 72 [some (.ref 85), some (.int a1), some (.int a2), some (.int a3), some (.int a4), some (.int a5)] [.int r0] σ =
    (bif obl (r0 = (nI 0)) then Run false (d + 1) 228 19 [some (.ref 85), some (.int a1), some (.int a2), some (.int a3), some (.int a4), some (.int (a5 + (nI 1)))] [] σ else (bif inb a5 176 then aft false (d + 1) 228 107 [some (.ref 85), some (.int a1), some (.int a2), some (.int a3), some (.int a4), some (.int a5)] [.ref 85] (Run false d 213 0 [some (.ref 85), some (.int a1), some (.int a2), some (.int (AI σ 90 a5.toNatClampNeg))] [] (wFI (wFI (wFI σ 85 23 a3) 85 24 (nI 0)) 85 25 (nI 0))) else none)) := by
  rw [Run_go [3, 19, 72, 107, 117, 126] 20]
  rfl
theorem s228_107 {d : Nat} {a1 : Int32} {a2 : Int32} {a3 : Int32} {a4 : Int32} {a5 : Int32} {r1 : Int32} {σ : PS} : Run false (d + 1) 228 107 [some (.ref 85), some (.int a1), some (.int a2), some (.int a3), some (.int a4), some (.int a5)] [.int r1, .ref 85] σ =
    aft false (d + 1) 228 117 [some (.ref 85), some (.int a1), some (.int a2), some (.int a3), some (.int a4), some (.int a5)] [.ref 85] (Run false d 223 0 [some (.ref 85), some (.int a1), some (.int a2), none, none] [] (wFI σ 85 26 r1)) := by
  rw [Run_go [3, 19, 72, 107, 117, 126] 7]
  rfl
theorem s228_117 {d : Nat} {a1 : Int32} {a2 : Int32} {a3 : Int32} {a4 : Int32} {a5 : Int32} {r1 : Int32} {σ : PS} : Run false (d + 1) 228 117 [some (.ref 85), some (.int a1), some (.int a2), some (.int a3), some (.int a4), some (.int a5)] [.int r1, .ref 85] σ =
    aft false (d + 1) 228 126 [some (.ref 85), some (.int a1), some (.int a2), some (.int a3), some (.int a4), some (.int a5)] [] (Run false d 203 0 [some (.ref 85), some (.int a5), none, none, none] [] (wFI σ 85 27 r1)) := by
  rw [Run_go [3, 19, 72, 107, 117, 126] 5]
  rfl
theorem s228_126 {d : Nat} {a1 : Int32} {a2 : Int32} {a3 : Int32} {a4 : Int32} {a5 : Int32} {r0 : Int32} {σ : PS} : Run false (d + 1) 228 126 [some (.ref 85), some (.int a1), some (.int a2), some (.int a3), some (.int a4), some (.int a5)] [.int r0] σ =
    (bif obl (r0 = (nI 1)) then (bif is01 (nI 1) then some (.inl (some (.int (nI 1)), σ)) else none) else Run false (d + 1) 228 19 [some (.ref 85), some (.int a1), some (.int a2), some (.int a3), some (.int a4), some (.int (a5 + (nI 1)))] [] σ) := by
  rw [Run_go [3, 19, 72, 107, 117, 126] 5]
  rfl
theorem s229_0 {d : Nat} {a1 : Int32} {a2 : Int32} {a3 : Int32} {σ : PS} : Run false (d + 1) 229 0 [some (.ref 85), some (.int a1), some (.int a2), some (.int a3)] [] σ =
    aft false (d + 1) 229 10 [some (.ref 85), some (.int a1), some (.int a2), some (.int a3)] [] (Run false d 208 0 [some (.ref 85), some (.int a1)] [] (wFI σ 85 0 (nI 0))) := by
  rw [Run_go [10, 27, 34, 46, 58] 7]
  rfl
set_option maxRecDepth 100000 in
theorem s229_10 {d : Nat} {a1 : Int32} {a2 : Int32} {a3 : Int32} {r0 : Int32} {σ : PS} : Run false (d + 1) 229 10 [some (.ref 85), some (.int a1), some (.int a2), some (.int a3)] [.int r0] σ =
    (bif obl (r0 = (nI 0)) then (bif is01 (nI 0) then some (.inl (some (.int (nI 0)), σ)) else none) else (bif inb a1 20 then aft false (d + 1) 229 27 [some (.ref 85), some (.int a1), some (.int a2), some (.int a3)] [.ref 85] (Run false d 166 0 [some (.int a2), some (.int (nI 0)), some (.int ((AI σ 98 a1.toNatClampNeg) - (nI 1)))] [] σ) else none)) := by
  rw [Run_go [10, 27, 34, 46, 58] 12]
  rfl
theorem s229_27 {d : Nat} {a1 : Int32} {a2 : Int32} {a3 : Int32} {r1 : Int32} {σ : PS} : Run false (d + 1) 229 27 [some (.ref 85), some (.int a1), some (.int a2), some (.int a3)] [.int r1, .ref 85] σ =
    (bif obl (r1 = (nI 0)) then aft false (d + 1) 229 46 [some (.ref 85), some (.int a1), some (.int a2), some (.int a3)] [] (Run false d 165 0 [some (.ref 85), some (.int (nI 0)), some (.int (nI 2))] [] σ) else aft false (d + 1) 229 34 [some (.ref 85), some (.int a1), some (.int a2), some (.int a3)] [.ref 85] (Run false d 170 0 [some (.int a3)] [] σ)) := by
  rw [Run_go [10, 27, 34, 46, 58] 5]
  rfl
theorem s229_34 {d : Nat} {a1 : Int32} {a2 : Int32} {a3 : Int32} {r1 : Int32} {σ : PS} : Run false (d + 1) 229 34 [some (.ref 85), some (.int a1), some (.int a2), some (.int a3)] [.int r1, .ref 85] σ =
    (bif obl (r1 = (nI 0)) then aft false (d + 1) 229 46 [some (.ref 85), some (.int a1), some (.int a2), some (.int a3)] [] (Run false d 165 0 [some (.ref 85), some (.int (nI 0)), some (.int (nI 2))] [] σ) else aft false (d + 1) 229 46 [some (.ref 85), some (.int a1), some (.int a2), some (.int a3)] [] (Run false d 165 0 [some (.ref 85), some (.int (nI 1)), some (.int (nI 2))] [] σ)) := by
  rw [Run_go [10, 27, 34, 46, 58] 6]
  rfl
theorem s229_46 {d : Nat} {a1 : Int32} {a2 : Int32} {a3 : Int32} {r0 : Int32} {σ : PS} : Run false (d + 1) 229 46 [some (.ref 85), some (.int a1), some (.int a2), some (.int a3)] [.int r0] σ =
    (bif obl (r0 = (nI 0)) then (bif is01 (nI 0) then some (.inl (some (.int (nI 0)), σ)) else none) else aft false (d + 1) 229 58 [some (.ref 85), some (.int a1), some (.int a2), some (.int a3)] [] (Run false d 228 0 [some (.ref 85), some (.int a1), some (.int a2), some (.int a3), none, none] [] σ)) := by
  rw [Run_go [10, 27, 34, 46, 58] 7]
  rfl
theorem s229_58 {d : Nat} {a1 : Int32} {a2 : Int32} {a3 : Int32} {r0 : Int32} {σ : PS} : Run false (d + 1) 229 58 [some (.ref 85), some (.int a1), some (.int a2), some (.int a3)] [.int r0] σ =
    (bif is01 r0 then some (.inl (some (.int r0), σ)) else none) := by
  rw [Run_go [10, 27, 34, 46, 58] 2]
  rfl
set_option maxRecDepth 100000 in
theorem s230_0 {d : Nat} {a1 : Int32} {a2 : Int32} {a3 : Int32} {σ : PS} : Run false (d + 1) 230 0 [some (.ref 85), some (.int a1), some (.int a2), some (.int a3), none, none, none] [] σ =
    (bif obl (a1 = (FI σ 85 47)) then aft false (d + 1) 230 18 [some (.ref 85), some (.int a1), some (.int a2), some (.int a3), none, none, none] [] (Run false d 224 0 [some (.ref 85), some (.int a2), some (.int a3), some (.int (FI σ 85 1)), none, none, none, none, none, none, none, none, none, none] [] σ) else (bif inb a1 5 then Run false (d + 1) 230 165 [some (.ref 85), some (.int a1), some (.int a2), some (.int a3), some (.int (AI σ 111 a1.toNatClampNeg)), some (.int (nI 0)), none] [] σ else none)) := by
  rw [Run_go [18, 23, 119, 165, 195, 207] 12]
  rfl
theorem s230_18 {d : Nat} {a1 : Int32} {a2 : Int32} {a3 : Int32} {z4 : Option Value} {z5 : Option Value} {z6 : Option Value} {q0 : Int64} {σ : PS} : Run false (d + 1) 230 18 [some (.ref 85), some (.int a1), some (.int a2), some (.int a3), z4, z5, z6] [.long q0] σ =
    Run false (d + 1) 230 23 [some (.ref 85), some (.int a1), some (.int a2), some (.int a3), some (.long q0), none, some (.int (nI 0))] [] σ := by
  rw [Run_go [18, 23, 119, 165, 195, 207] 4]
  rfl
set_option maxRecDepth 100000 in
theorem s230_23 {d : Nat} {a1 : Int32} {a2 : Int32} {a3 : Int32} {b4 : Int64} {a6 : Int32} {σ : PS} : Run false (d + 1) 230 23 [some (.ref 85), some (.int a1), some (.int a2), some (.int a3), some (.long b4), none, some (.int a6)] [] σ =
    (bif obl ((FI σ 85 47) ≤ a6) then (bif obl ((lg_cmp (FL σ 85 48) (lN 0)) < (nI 0)) then Run false (d + 1) 230 119 [some (.ref 85), some (.int a1), some (.int a2), some (.int a3), some (.long b4), none, some (.int (nI 0))] [] (wFL σ 85 48 b4) else (bif obl ((lg_cmp b4 (FL σ 85 48)) < (nI 0)) then Run false (d + 1) 230 119 [some (.ref 85), some (.int a1), some (.int a2), some (.int a3), some (.long b4), none, some (.int (nI 0))] [] (wFL σ 85 48 b4) else some (.inl (none, σ)))) else (bif inb a6 5 then (bif inb a6 5 then (bif inb (AI σ 111 a6.toNatClampNeg) 20 then (bif inb (((nI 5) * (AI σ 111 a6.toNatClampNeg)) + (AI σ 99 (AI σ 111 a6.toNatClampNeg).toNatClampNeg)) 100 then (bif inb a6 5 then (bif inb (((nI 41) * (AI σ 111 a6.toNatClampNeg)) + a3) 820 then Run false (d + 1) 230 23 [some (.ref 85), some (.int a1), some (.int a2), some (.int a3), some (.long (b4 + (((AI σ 101 (((nI 5) * (AI σ 111 a6.toNatClampNeg)) + (AI σ 99 (AI σ 111 a6.toNatClampNeg).toNatClampNeg)).toNatClampNeg).toInt64) * ((AI σ 102 (((nI 41) * (AI σ 111 a6.toNatClampNeg)) + a3).toNatClampNeg).toInt64)))), none, some (.int (a6 + (nI 1)))] [] σ else none) else none) else none) else none) else none) else none)) := by
  rw [Run_go [18, 23, 119, 165, 195, 207] 41]
  rfl
set_option maxRecDepth 100000 in
theorem s230_119 {d : Nat} {a1 : Int32} {a2 : Int32} {a3 : Int32} {b4 : Int64} {a6 : Int32} {σ : PS} : Run false (d + 1) 230 119 [some (.ref 85), some (.int a1), some (.int a2), some (.int a3), some (.long b4), none, some (.int a6)] [] σ =
    (bif obl ((FI σ 85 47) ≤ a6) then some (.inl (none, σ)) else (bif inb a6 5 then (bif inb (AI σ 111 a6.toNatClampNeg) 20 then (bif inb a6 5 then Run false (d + 1) 230 119 [some (.ref 85), some (.int a1), some (.int a2), some (.int a3), some (.long b4), none, some (.int (a6 + (nI 1)))] [] (wAI σ 113 a6.toNatClampNeg (AI σ 99 (AI σ 111 a6.toNatClampNeg).toNatClampNeg)) else none) else none) else none)) := by
  rw [Run_go [18, 23, 119, 165, 195, 207] 18]
  rfl
set_option maxRecDepth 100000 in
theorem s230_165 {d : Nat} {a1 : Int32} {a2 : Int32} {a3 : Int32} {a4 : Int32} {a5 : Int32} {z6 : Option Value} {σ : PS} : Run false (d + 1) 230 165 [some (.ref 85), some (.int a1), some (.int a2), some (.int a3), some (.int a4), some (.int a5), z6] [] σ =
    (bif inb a4 20 then (bif obl ((AI σ 98 a4.toNatClampNeg) ≤ a5) then some (.inl (none, σ)) else (bif inb a4 20 then aft false (d + 1) 230 195 [some (.ref 85), some (.int a1), some (.int a2), some (.int a3), some (.int a4), some (.int a5), z6] [] (Run false d 228 0 [some (.ref 85), some (.int a4), some (.int a5), some (.int a3), none, none] [] (wAI σ 99 a4.toNatClampNeg a5)) else none)) else none) := by
  rw [Run_go [18, 23, 119, 165, 195, 207] 17]
  rfl
set_option maxRecDepth 100000 in
theorem s230_195 {d : Nat} {a1 : Int32} {a2 : Int32} {a3 : Int32} {a4 : Int32} {a5 : Int32} {z6 : Option Value} {r0 : Int32} {σ : PS} : Run false (d + 1) 230 195 [some (.ref 85), some (.int a1), some (.int a2), some (.int a3), some (.int a4), some (.int a5), z6] [.int r0] σ =
    (bif obl (r0 = (nI 0)) then aft false (d + 1) 230 207 [some (.ref 85), some (.int a1), some (.int a2), some (.int a3), some (.int a4), some (.int a5), z6] [] (Run false d 230 0 [some (.ref 85), some (.int (a1 + (nI 1))), some (.int a2), some (.int a3), none, none, none] [] σ) else Run false (d + 1) 230 207 [some (.ref 85), some (.int a1), some (.int a2), some (.int a3), some (.int a4), some (.int a5), z6] [] σ) := by
  rw [Run_go [18, 23, 119, 165, 195, 207] 9]
  rfl
theorem s230_207 {d : Nat} {a1 : Int32} {a2 : Int32} {a3 : Int32} {a4 : Int32} {a5 : Int32} {z6 : Option Value} {σ : PS} : Run false (d + 1) 230 207 [some (.ref 85), some (.int a1), some (.int a2), some (.int a3), some (.int a4), some (.int a5), z6] [] σ =
    Run false (d + 1) 230 165 [some (.ref 85), some (.int a1), some (.int a2), some (.int a3), some (.int a4), some (.int (a5 + (nI 1))), z6] [] σ := by
  rw [Run_go [18, 23, 119, 165, 195, 207] 3]
  rfl
theorem s231_0 {d : Nat} {a1 : Int32} {a2 : Int32} {a3 : Int32} {σ : PS} : Run false (d + 1) 231 0 [some (.ref 85), some (.int a1), some (.int a2), some (.int a3), none] [] σ =
    aft false (d + 1) 231 10 [some (.ref 85), some (.int a1), some (.int a2), some (.int a3), none] [] (Run false d 206 0 [some (.ref 85), some (.int a1)] [] (wFI σ 85 0 (nI 0))) := by
  rw [Run_go [10, 18, 27, 39, 52, 145, 153] 7]
  rfl
theorem s231_10 {d : Nat} {a1 : Int32} {a2 : Int32} {a3 : Int32} {z4 : Option Value} {r0 : Int32} {σ : PS} : Run false (d + 1) 231 10 [some (.ref 85), some (.int a1), some (.int a2), some (.int a3), z4] [.int r0] σ =
    (bif obl (r0 = (nI 0)) then some (.inl (some (.long (lN 0)), σ)) else aft false (d + 1) 231 18 [some (.ref 85), some (.int a1), some (.int a2), some (.int a3), z4] [.ref 85] (Run false d 170 0 [some (.int a2)] [] σ)) := by
  rw [Run_go [10, 18, 27, 39, 52, 145, 153] 5]
  rfl
theorem s231_18 {d : Nat} {a1 : Int32} {a2 : Int32} {a3 : Int32} {z4 : Option Value} {r1 : Int32} {σ : PS} : Run false (d + 1) 231 18 [some (.ref 85), some (.int a1), some (.int a2), some (.int a3), z4] [.int r1, .ref 85] σ =
    (bif obl (r1 = (nI 0)) then aft false (d + 1) 231 39 [some (.ref 85), some (.int a1), some (.int a2), some (.int a3), z4] [] (Run false d 165 0 [some (.ref 85), some (.int (nI 0)), some (.int (nI 2))] [] σ) else aft false (d + 1) 231 27 [some (.ref 85), some (.int a1), some (.int a2), some (.int a3), z4] [.ref 85] (Run false d 166 0 [some (.int a3), some (.int (-1 : Int32)), some (.int (nI 4))] [] σ)) := by
  rw [Run_go [10, 18, 27, 39, 52, 145, 153] 6]
  rfl
theorem s231_27 {d : Nat} {a1 : Int32} {a2 : Int32} {a3 : Int32} {z4 : Option Value} {r1 : Int32} {σ : PS} : Run false (d + 1) 231 27 [some (.ref 85), some (.int a1), some (.int a2), some (.int a3), z4] [.int r1, .ref 85] σ =
    (bif obl (r1 = (nI 0)) then aft false (d + 1) 231 39 [some (.ref 85), some (.int a1), some (.int a2), some (.int a3), z4] [] (Run false d 165 0 [some (.ref 85), some (.int (nI 0)), some (.int (nI 2))] [] σ) else aft false (d + 1) 231 39 [some (.ref 85), some (.int a1), some (.int a2), some (.int a3), z4] [] (Run false d 165 0 [some (.ref 85), some (.int (nI 1)), some (.int (nI 2))] [] σ)) := by
  rw [Run_go [10, 18, 27, 39, 52, 145, 153] 6]
  rfl
theorem s231_39 {d : Nat} {a1 : Int32} {a2 : Int32} {a3 : Int32} {z4 : Option Value} {r0 : Int32} {σ : PS} : Run false (d + 1) 231 39 [some (.ref 85), some (.int a1), some (.int a2), some (.int a3), z4] [.int r0] σ =
    (bif obl (r0 = (nI 0)) then some (.inl (some (.long (lN 0)), σ)) else Run false (d + 1) 231 52 [some (.ref 85), some (.int a1), some (.int a2), some (.int a3), some (.int (nI 0))] [] (wFI σ 85 47 (nI 0))) := by
  rw [Run_go [10, 18, 27, 39, 52, 145, 153] 7]
  rfl
set_option maxRecDepth 100000 in
theorem s231_52 {d : Nat} {a1 : Int32} {a2 : Int32} {a3 : Int32} {a4 : Int32} {σ : PS} : Run false (d + 1) 231 52 [some (.ref 85), some (.int a1), some (.int a2), some (.int a3), some (.int a4)] [] σ =
    (bif obl ((FI σ 85 30) ≤ a4) then aft false (d + 1) 231 145 [some (.ref 85), some (.int a1), some (.int a2), some (.int a3), some (.int a4)] [] (Run false d 230 0 [some (.ref 85), some (.int (nI 0)), some (.int a1), some (.int a2), none, none, none] [] (wFI (wFL σ 85 48 (-1 : Int64)) 85 45 a1)) else (bif obl ((nI 5) ≤ (FI σ 85 47)) then aft false (d + 1) 231 145 [some (.ref 85), some (.int a1), some (.int a2), some (.int a3), some (.int a4)] [] (Run false d 230 0 [some (.ref 85), some (.int (nI 0)), some (.int a1), some (.int a2), none, none, none] [] (wFI (wFL σ 85 48 (-1 : Int64)) 85 45 a1)) else (bif inb a4 20 then (bif obl ((AI σ 97 a4.toNatClampNeg) = a1) then (bif inb (FI σ 85 47) 5 then (bif inb a4 20 then (bif inb (FI σ 85 47) 5 then Run false (d + 1) 231 52 [some (.ref 85), some (.int a1), some (.int a2), some (.int a3), some (.int (a4 + (nI 1)))] [] (wFI (wAI (wAI σ 111 (FI σ 85 47).toNatClampNeg a4) 112 (FI σ 85 47).toNatClampNeg (AI σ 99 a4.toNatClampNeg)) 85 47 ((FI σ 85 47) + (nI 1))) else none) else none) else none) else Run false (d + 1) 231 52 [some (.ref 85), some (.int a1), some (.int a2), some (.int a3), some (.int (a4 + (nI 1)))] [] σ) else none))) := by
  rw [Run_go [10, 18, 27, 39, 52, 145, 153] 38]
  rfl
theorem s231_145 {d : Nat} {a1 : Int32} {a2 : Int32} {a3 : Int32} {a4 : Int32} {σ : PS} : Run false (d + 1) 231 145 [some (.ref 85), some (.int a1), some (.int a2), some (.int a3), some (.int a4)] [] σ =
    Run false (d + 1) 231 153 [some (.ref 85), some (.int a1), some (.int a2), some (.int a3), some (.int (nI 0))] [] (wFI σ 85 45 (-1 : Int32)) := by
  rw [Run_go [10, 18, 27, 39, 52, 145, 153] 6]
  rfl
set_option maxRecDepth 100000 in
theorem s231_153 {d : Nat} {a1 : Int32} {a2 : Int32} {a3 : Int32} {a4 : Int32} {σ : PS} : Run false (d + 1) 231 153 [some (.ref 85), some (.int a1), some (.int a2), some (.int a3), some (.int a4)] [] σ =
    (bif obl ((FI σ 85 47) ≤ a4) then (bif obl ((nI 0) ≤ (lg_cmp (FL σ 85 48) (lN 0))) then (bif obl (a3 = (-1 : Int32)) then some (.inl (some (.long (FL σ 85 48)), σ)) else (bif obl (a3 < (FI σ 85 47)) then (bif inb a3 5 then some (.inl (some (.long ((AI σ 113 a3.toNatClampNeg).toInt64)), σ)) else none) else some (.inl (some (.long (-1 : Int64)), σ)))) else some (.inl (some (.long (-1 : Int64)), σ))) else (bif inb a4 5 then (bif inb a4 5 then (bif inb (AI σ 111 a4.toNatClampNeg) 20 then Run false (d + 1) 231 153 [some (.ref 85), some (.int a1), some (.int a2), some (.int a3), some (.int (a4 + (nI 1)))] [] (wAI σ 99 (AI σ 111 a4.toNatClampNeg).toNatClampNeg (AI σ 112 a4.toNatClampNeg)) else none) else none) else none)) := by
  rw [Run_go [10, 18, 27, 39, 52, 145, 153] 23]
  rfl
set_option maxRecDepth 100000 in
theorem s232_0 {d : Nat}  {σ : PS} : Run false (d + 1) 232 0 [some (.ref 85)] [] σ =
    (bif obl ((nI 4) ≤ (FI σ 85 52)) then aft false (d + 1) 232 23 [some (.ref 85)] [] (Run false d 165 0 [some (.ref 85), some (.int (nI 0)), some (.int (nI 1))] [] (wFI σ 85 0 (nI 0))) else aft false (d + 1) 232 23 [some (.ref 85)] [] (Run false d 165 0 [some (.ref 85), some (.int (nI 1)), some (.int (nI 1))] [] (wFI σ 85 0 (nI 0)))) := by
  rw [Run_go [23] 13]
  rfl
set_option maxRecDepth 100000 in
theorem s232_23 {d : Nat} {r0 : Int32} {σ : PS} : Run false (d + 1) 232 23 [some (.ref 85)] [.int r0] σ =
    (bif obl (r0 = (nI 0)) then some (.inl (some (.int (nI 0)), σ)) else some (.inl (some (.int (((FI σ 85 52) + (nI 1)) - (nI 1))), (wFI σ 85 52 ((FI σ 85 52) + (nI 1)))))) := by
  rw [Run_go [23] 13]
  rfl
theorem s233_0 {d : Nat} {a1 : Int32} {a2 : Int32} {a3 : Int32} {σ : PS} : Run false (d + 1) 233 0 [some (.ref 85), some (.int a1), some (.int a2), some (.int a3)] [] σ =
    aft false (d + 1) 233 10 [some (.ref 85), some (.int a1), some (.int a2), some (.int a3)] [] (Run false d 206 0 [some (.ref 85), some (.int a1)] [] (wFI σ 85 0 (nI 0))) := by
  rw [Run_go [10, 25, 29, 37, 41] 7]
  rfl
set_option maxRecDepth 100000 in
theorem s233_10 {d : Nat} {a1 : Int32} {a2 : Int32} {a3 : Int32} {r0 : Int32} {σ : PS} : Run false (d + 1) 233 10 [some (.ref 85), some (.int a1), some (.int a2), some (.int a3)] [.int r0] σ =
    (bif obl (r0 = (nI 0)) then some (.inl (some (.int (nI 0)), σ)) else aft false (d + 1) 233 25 [some (.ref 85), some (.int a1), some (.int a2), some (.int a3)] [.ref 85] (Run false d 166 0 [some (.int a2), some (.int (-1 : Int32)), some (.int ((FI σ 85 52) - (nI 1)))] [] σ)) := by
  rw [Run_go [10, 25, 29, 37, 41] 10]
  rfl
theorem s233_25 {d : Nat} {a1 : Int32} {a2 : Int32} {a3 : Int32} {r1 : Int32} {σ : PS} : Run false (d + 1) 233 25 [some (.ref 85), some (.int a1), some (.int a2), some (.int a3)] [.int r1, .ref 85] σ =
    aft false (d + 1) 233 29 [some (.ref 85), some (.int a1), some (.int a2), some (.int a3)] [] (Run false d 165 0 [some (.ref 85), some (.int r1), some (.int (nI 2))] [] σ) := by
  rw [Run_go [10, 25, 29, 37, 41] 3]
  rfl
theorem s233_29 {d : Nat} {a1 : Int32} {a2 : Int32} {a3 : Int32} {r0 : Int32} {σ : PS} : Run false (d + 1) 233 29 [some (.ref 85), some (.int a1), some (.int a2), some (.int a3)] [.int r0] σ =
    (bif obl (r0 = (nI 0)) then some (.inl (some (.int (nI 0)), σ)) else aft false (d + 1) 233 37 [some (.ref 85), some (.int a1), some (.int a2), some (.int a3)] [.ref 85] (Run false d 170 0 [some (.int a3)] [] σ)) := by
  rw [Run_go [10, 25, 29, 37, 41] 5]
  rfl
theorem s233_37 {d : Nat} {a1 : Int32} {a2 : Int32} {a3 : Int32} {r1 : Int32} {σ : PS} : Run false (d + 1) 233 37 [some (.ref 85), some (.int a1), some (.int a2), some (.int a3)] [.int r1, .ref 85] σ =
    aft false (d + 1) 233 41 [some (.ref 85), some (.int a1), some (.int a2), some (.int a3)] [] (Run false d 165 0 [some (.ref 85), some (.int r1), some (.int (nI 3))] [] σ) := by
  rw [Run_go [10, 25, 29, 37, 41] 3]
  rfl
set_option maxRecDepth 100000 in
theorem s233_41 {d : Nat} {a1 : Int32} {a2 : Int32} {a3 : Int32} {r0 : Int32} {σ : PS} : Run false (d + 1) 233 41 [some (.ref 85), some (.int a1), some (.int a2), some (.int a3)] [.int r0] σ =
    (bif obl (r0 = (nI 0)) then some (.inl (some (.int (nI 0)), σ)) else (bif obl ((FI σ 85 53) = (nI 60)) then some (.inl (some (.int (-1 : Int32)), σ)) else (bif inb (FI σ 85 53) 60 then (bif inb (FI σ 85 53) 60 then (bif inb (FI σ 85 53) 60 then some (.inl (some (.int ((FI σ 85 53) + (nI 1))), (wFI (wAI (wAI (wAI σ 114 (FI σ 85 53).toNatClampNeg a1) 115 (FI σ 85 53).toNatClampNeg a2) 116 (FI σ 85 53).toNatClampNeg a3) 85 53 ((FI σ 85 53) + (nI 1))))) else none) else none) else none))) := by
  rw [Run_go [10, 25, 29, 37, 41] 33]
  rfl
theorem s234_0 {d : Nat} {a1 : Int32} {a2 : Int32} {σ : PS} : Run false (d + 1) 234 0 [some (.ref 85), some (.int a1), some (.int a2), none, none] [] σ =
    Run false (d + 1) 234 5 [some (.ref 85), some (.int a1), some (.int a2), some (.int (-1 : Int32)), some (.int (nI 0))] [] σ := by
  rw [Run_go [5] 5]
  rfl
set_option maxRecDepth 100000 in
theorem s234_5 {d : Nat} {a1 : Int32} {a2 : Int32} {a3 : Int32} {a4 : Int32} {σ : PS} : Run false (d + 1) 234 5 [some (.ref 85), some (.int a1), some (.int a2), some (.int a3), some (.int a4)] [] σ =
    (bif obl ((FI σ 85 53) ≤ a4) then (bif obl (a3 = (-1 : Int32)) then some (.inl (some (.int (-1 : Int32)), σ)) else (bif inb a3 60 then some (.inl (some (.int (AI σ 115 a3.toNatClampNeg)), σ)) else none)) else (bif inb a4 60 then (bif obl ((AI σ 114 a4.toNatClampNeg) = a1) then (bif inb a4 60 then (bif obl (a2 < (AI σ 116 a4.toNatClampNeg)) then Run false (d + 1) 234 5 [some (.ref 85), some (.int a1), some (.int a2), some (.int a3), some (.int (a4 + (nI 1)))] [] σ else (bif obl (a3 = (-1 : Int32)) then Run false (d + 1) 234 5 [some (.ref 85), some (.int a1), some (.int a2), some (.int a4), some (.int (a4 + (nI 1)))] [] σ else (bif inb a4 60 then (bif inb a3 60 then (bif obl ((AI σ 116 a4.toNatClampNeg) < (AI σ 116 a3.toNatClampNeg)) then Run false (d + 1) 234 5 [some (.ref 85), some (.int a1), some (.int a2), some (.int a3), some (.int (a4 + (nI 1)))] [] σ else Run false (d + 1) 234 5 [some (.ref 85), some (.int a1), some (.int a2), some (.int a4), some (.int (a4 + (nI 1)))] [] σ) else none) else none))) else none) else Run false (d + 1) 234 5 [some (.ref 85), some (.int a1), some (.int a2), some (.int a3), some (.int (a4 + (nI 1)))] [] σ) else none)) := by
  rw [Run_go [5] 33]
  rfl
theorem s235_0 {d : Nat} {a1 : Int32} {a2 : Int32} {σ : PS} : Run false (d + 1) 235 0 [some (.ref 85), some (.int a1), some (.int a2)] [] σ =
    aft false (d + 1) 235 10 [some (.ref 85), some (.int a1), some (.int a2)] [] (Run false d 206 0 [some (.ref 85), some (.int a1)] [] (wFI σ 85 0 (nI 0))) := by
  rw [Run_go [10, 18, 22, 33] 7]
  rfl
theorem s235_10 {d : Nat} {a1 : Int32} {a2 : Int32} {r0 : Int32} {σ : PS} : Run false (d + 1) 235 10 [some (.ref 85), some (.int a1), some (.int a2)] [.int r0] σ =
    (bif obl (r0 = (nI 0)) then some (.inl (some (.int (nI 0)), σ)) else aft false (d + 1) 235 18 [some (.ref 85), some (.int a1), some (.int a2)] [.ref 85] (Run false d 170 0 [some (.int a2)] [] σ)) := by
  rw [Run_go [10, 18, 22, 33] 5]
  rfl
theorem s235_18 {d : Nat} {a1 : Int32} {a2 : Int32} {r1 : Int32} {σ : PS} : Run false (d + 1) 235 18 [some (.ref 85), some (.int a1), some (.int a2)] [.int r1, .ref 85] σ =
    aft false (d + 1) 235 22 [some (.ref 85), some (.int a1), some (.int a2)] [] (Run false d 165 0 [some (.ref 85), some (.int r1), some (.int (nI 2))] [] σ) := by
  rw [Run_go [10, 18, 22, 33] 3]
  rfl
theorem s235_22 {d : Nat} {a1 : Int32} {a2 : Int32} {r0 : Int32} {σ : PS} : Run false (d + 1) 235 22 [some (.ref 85), some (.int a1), some (.int a2)] [.int r0] σ =
    (bif obl (r0 = (nI 0)) then some (.inl (some (.int (nI 0)), σ)) else aft false (d + 1) 235 33 [some (.ref 85), some (.int a1), some (.int a2)] [] (Run false d 234 0 [some (.ref 85), some (.int a1), some (.int a2), none, none] [] σ)) := by
  rw [Run_go [10, 18, 22, 33] 6]
  rfl
theorem s235_33 {d : Nat} {a1 : Int32} {a2 : Int32} {r0 : Int32} {σ : PS} : Run false (d + 1) 235 33 [some (.ref 85), some (.int a1), some (.int a2)] [.int r0] σ =
    some (.inl (some (.int r0), σ)) := by
  rw [Run_go [10, 18, 22, 33] 2]
  rfl
theorem s236_0 {d : Nat} {a1 : Int32} {a2 : Int32} {a3 : Int32} {a4 : Int32} {σ : PS} : Run false (d + 1) 236 0 [some (.ref 85), some (.int a1), some (.int a2), some (.int a3), some (.int a4), none, none, none] [] σ =
    Run false (d + 1) 236 6 [some (.ref 85), some (.int a1), some (.int a2), some (.int a3), some (.int a4), some (.long (lN 0)), none, some (.int (nI 0))] [] σ := by
  rw [Run_go [6, 24, 37, 50] 5]
  rfl
set_option maxRecDepth 100000 in
theorem s236_6 {d : Nat} {a1 : Int32} {a2 : Int32} {a3 : Int32} {a4 : Int32} {b5 : Int64} {a7 : Int32} {σ : PS} : Run false (d + 1) 236 6 [some (.ref 85), some (.int a1), some (.int a2), some (.int a3), some (.int a4), some (.long b5), none, some (.int a7)] [] σ =
    (bif obl ((FI σ 85 29) ≤ a7) then some (.inl (some (.long b5), σ)) else aft false (d + 1) 236 24 [some (.ref 85), some (.int a1), some (.int a2), some (.int a3), some (.int a4), some (.long b5), none, some (.int a7)] [.long b5] (Run false d 234 0 [some (.ref 85), some (.int a7), some (.int a3), none, none] [] σ)) := by
  rw [Run_go [6, 24, 37, 50] 10]
  rfl
set_option maxRecDepth 100000 in
theorem s236_24 {d : Nat} {a1 : Int32} {a2 : Int32} {a3 : Int32} {a4 : Int32} {b5 : Int64} {a7 : Int32} {q0 : Int64} {r1 : Int32} {σ : PS} : Run false (d + 1) 236 24 [some (.ref 85), some (.int a1), some (.int a2), some (.int a3), some (.int a4), some (.long b5), none, some (.int a7)] [.int r1, .long q0] σ =
    (bif obl (r1 = a1) then aft false (d + 1) 236 37 [some (.ref 85), some (.int a1), some (.int a2), some (.int a3), some (.int a4), some (.long b5), none, some (.int a7)] [.long q0] (Run false d 221 0 [some (.ref 85), some (.int a7), some (.int a3), some (.int a4), none, none, none] [] σ) else Run false (d + 1) 236 6 [some (.ref 85), some (.int a1), some (.int a2), some (.int a3), some (.int a4), some (.long (q0 + (lN 0))), none, some (.int (a7 + (nI 1)))] [] σ) := by
  rw [Run_go [6, 24, 37, 50] 8]
  rfl
set_option maxRecDepth 100000 in
theorem s236_37 {d : Nat} {a1 : Int32} {a2 : Int32} {a3 : Int32} {a4 : Int32} {b5 : Int64} {a7 : Int32} {q0 : Int64} {r1 : Int32} {σ : PS} : Run false (d + 1) 236 37 [some (.ref 85), some (.int a1), some (.int a2), some (.int a3), some (.int a4), some (.long b5), none, some (.int a7)] [.int r1, .long q0] σ =
    (bif obl (r1 = (nI 0)) then aft false (d + 1) 236 50 [some (.ref 85), some (.int a1), some (.int a2), some (.int a3), some (.int a4), some (.long b5), none, some (.int a7)] [.long q0] (Run false d 219 0 [some (.ref 85), some (.int a7), some (.int a2), some (.int a3), some (.int a4), none, none] [] σ) else Run false (d + 1) 236 6 [some (.ref 85), some (.int a1), some (.int a2), some (.int a3), some (.int a4), some (.long (q0 + (lN 0))), none, some (.int (a7 + (nI 1)))] [] σ) := by
  rw [Run_go [6, 24, 37, 50] 8]
  rfl
theorem s236_50 {d : Nat} {a1 : Int32} {a2 : Int32} {a3 : Int32} {a4 : Int32} {b5 : Int64} {a7 : Int32} {q0 : Int64} {r1 : Int32} {σ : PS} : Run false (d + 1) 236 50 [some (.ref 85), some (.int a1), some (.int a2), some (.int a3), some (.int a4), some (.long b5), none, some (.int a7)] [.int r1, .long q0] σ =
    Run false (d + 1) 236 6 [some (.ref 85), some (.int a1), some (.int a2), some (.int a3), some (.int a4), some (.long (q0 + (r1.toInt64))), none, some (.int (a7 + (nI 1)))] [] σ := by
  rw [Run_go [6, 24, 37, 50] 7]
  rfl
theorem s237_0 {d : Nat} {b1 : Int64} {a3 : Int32} {σ : PS} : Run false (d + 1) 237 0 [some (.ref 85), some (.long b1), none, some (.int a3), none, none, none, none, none, none] [] σ =
    Run false (d + 1) 237 6 [some (.ref 85), some (.long b1), none, some (.int a3), some (.long (lN 0)), none, some (.int (nI 0)), none, none, none] [] σ := by
  rw [Run_go [6, 33, 67, 129, 142] 5]
  rfl
set_option maxRecDepth 100000 in
theorem s237_6 {d : Nat} {b1 : Int64} {a3 : Int32} {b4 : Int64} {a6 : Int32} {z7 : Option Value} {z8 : Option Value} {z9 : Option Value} {σ : PS} : Run false (d + 1) 237 6 [some (.ref 85), some (.long b1), none, some (.int a3), some (.long b4), none, some (.int a6), z7, z8, z9] [] σ =
    (bif obl (a3 ≤ a6) then Run false (d + 1) 237 33 [some (.ref 85), some (.long b1), none, some (.int a3), some (.long b4), none, some (.int (nI 0)), z7, z8, z9] [] σ else (bif inb a6 10 then Run false (d + 1) 237 6 [some (.ref 85), some (.long b1), none, some (.int a3), some (.long (b4 + (AL σ 119 a6.toNatClampNeg))), none, some (.int (a6 + (nI 1))), z7, z8, z9] [] σ else none)) := by
  rw [Run_go [6, 33, 67, 129, 142] 13]
  rfl
set_option maxRecDepth 100000 in
theorem s237_33 {d : Nat} {b1 : Int64} {a3 : Int32} {b4 : Int64} {a6 : Int32} {z7 : Option Value} {z8 : Option Value} {z9 : Option Value} {σ : PS} : Run false (d + 1) 237 33 [some (.ref 85), some (.long b1), none, some (.int a3), some (.long b4), none, some (.int a6), z7, z8, z9] [] σ =
    (bif obl (a3 ≤ a6) then (bif obl ((lg_cmp b4 (lN 0)) = (nI 0)) then some (.inl (none, σ)) else Run false (d + 1) 237 67 [some (.ref 85), some (.long b1), none, some (.int a3), some (.long b4), none, some (.long b1), none, some (.int (nI 0)), z9] [] σ) else (bif inb a6 10 then Run false (d + 1) 237 33 [some (.ref 85), some (.long b1), none, some (.int a3), some (.long b4), none, some (.int (a6 + (nI 1))), z7, z8, z9] [] (wAL σ 120 a6.toNatClampNeg (lN 0)) else none)) := by
  rw [Run_go [6, 33, 67, 129, 142] 12]
  rfl
set_option maxRecDepth 100000 in
theorem s237_67 {d : Nat} {b1 : Int64} {a3 : Int32} {b4 : Int64} {b6 : Int64} {a8 : Int32} {z9 : Option Value} {σ : PS} : Run false (d + 1) 237 67 [some (.ref 85), some (.long b1), none, some (.int a3), some (.long b4), none, some (.long b6), none, some (.int a8), z9] [] σ =
    (bif obl (a3 ≤ a8) then Run false (d + 1) 237 129 [some (.ref 85), some (.long b1), none, some (.int a3), some (.long b4), none, some (.long b6), none, some (.int a8), z9] [] σ else (bif inb a8 10 then (bif obl (b4 = lN 0) then none else (bif inb a8 10 then (bif inb a8 10 then (bif obl (b4 = lN 0) then none else (bif inb a8 10 then (bif inb a8 10 then Run false (d + 1) 237 67 [some (.ref 85), some (.long b1), none, some (.int a3), some (.long b4), none, some (.long (b6 - (AL (wAL σ 120 a8.toNatClampNeg ((b1 * (AL σ 119 a8.toNatClampNeg)) / b4)) 120 a8.toNatClampNeg))), none, some (.int (a8 + (nI 1))), z9] [] (wAL (wAL σ 120 a8.toNatClampNeg ((b1 * (AL σ 119 a8.toNatClampNeg)) / b4)) 121 a8.toNatClampNeg ((b1 * (AL σ 119 a8.toNatClampNeg)) - (b1 * (AL σ 119 a8.toNatClampNeg)) / b4 * b4)) else none) else none)) else none) else none)) else none)) := by
  rw [Run_go [6, 33, 67, 129, 142] 37]
  rfl
set_option maxRecDepth 100000 in
theorem s237_129 {d : Nat} {b1 : Int64} {a3 : Int32} {b4 : Int64} {b6 : Int64} {a8 : Int32} {z9 : Option Value} {σ : PS} : Run false (d + 1) 237 129 [some (.ref 85), some (.long b1), none, some (.int a3), some (.long b4), none, some (.long b6), none, some (.int a8), z9] [] σ =
    (bif obl ((lg_cmp b6 (lN 0)) ≤ (nI 0)) then some (.inl (none, σ)) else Run false (d + 1) 237 142 [some (.ref 85), some (.long b1), none, some (.int a3), some (.long b4), none, some (.long b6), none, some (.int (nI 0)), some (.int (nI 1))] [] σ) := by
  rw [Run_go [6, 33, 67, 129, 142] 9]
  rfl
set_option maxRecDepth 100000 in
theorem s237_142 {d : Nat} {b1 : Int64} {a3 : Int32} {b4 : Int64} {b6 : Int64} {a8 : Int32} {a9 : Int32} {σ : PS} : Run false (d + 1) 237 142 [some (.ref 85), some (.long b1), none, some (.int a3), some (.long b4), none, some (.long b6), none, some (.int a8), some (.int a9)] [] σ =
    (bif obl (a3 ≤ a9) then (bif inb a8 10 then (bif inb a8 10 then (bif inb a8 10 then Run false (d + 1) 237 129 [some (.ref 85), some (.long b1), none, some (.int a3), some (.long b4), none, some (.long (b6 - (lN 1))), none, some (.int a8), some (.int a9)] [] (wAL (wAL σ 120 a8.toNatClampNeg ((AL σ 120 a8.toNatClampNeg) + (lN 1))) 121 a8.toNatClampNeg (-1 : Int64)) else none) else none) else none) else (bif inb a9 10 then (bif inb a8 10 then (bif obl ((lg_cmp (AL σ 121 a9.toNatClampNeg) (AL σ 121 a8.toNatClampNeg)) ≤ (nI 0)) then Run false (d + 1) 237 142 [some (.ref 85), some (.long b1), none, some (.int a3), some (.long b4), none, some (.long b6), none, some (.int a8), some (.int (a9 + (nI 1)))] [] σ else Run false (d + 1) 237 142 [some (.ref 85), some (.long b1), none, some (.int a3), some (.long b4), none, some (.long b6), none, some (.int a9), some (.int (a9 + (nI 1)))] [] σ) else none) else none)) := by
  rw [Run_go [6, 33, 67, 129, 142] 22]
  rfl
theorem s238_0 {d : Nat} {a1 : Int32} {a2 : Int32} {a3 : Int32} {a4 : Int32} {σ : PS} : Run false (d + 1) 238 0 [some (.ref 85), some (.int a1), some (.int a2), some (.int a3), some (.int a4), none, none, none, none, none] [] σ =
    aft false (d + 1) 238 8 [some (.ref 85), some (.int a1), some (.int a2), some (.int a3), some (.int a4), none, none, none, none, none] [] (Run false d 200 0 [some (.ref 85), some (.int (nI 7)), some (.int (nI 0)), some (.int a3), none] [] σ) := by
  rw [Run_go [8, 40, 68, 80, 97, 123, 141, 159] 6]
  rfl
set_option maxRecDepth 100000 in
theorem s238_8 {d : Nat} {a1 : Int32} {a2 : Int32} {a3 : Int32} {a4 : Int32} {z5 : Option Value} {z6 : Option Value} {z7 : Option Value} {z8 : Option Value} {z9 : Option Value} {r0 : Int32} {σ : PS} : Run false (d + 1) 238 8 [some (.ref 85), some (.int a1), some (.int a2), some (.int a3), some (.int a4), z5, z6, z7, z8, z9] [.int r0] σ =
    (bif obl (r0 = (nI 1)) then (bif obl ((nI 1) = (nI 0)) then Run false (d + 1) 238 40 [some (.ref 85), some (.int a1), some (.int a2), some (.int a3), some (.int a4), some (.int (nI 1)), some (.int (FI σ 85 29)), some (.int (nI 0)), z8, z9] [] σ else Run false (d + 1) 238 40 [some (.ref 85), some (.int a1), some (.int a2), some (.int a3), some (.int a4), some (.int (nI 1)), some (.int (FI σ 85 52)), some (.int (nI 0)), z8, z9] [] σ) else (bif obl ((nI 0) = (nI 0)) then Run false (d + 1) 238 40 [some (.ref 85), some (.int a1), some (.int a2), some (.int a3), some (.int a4), some (.int (nI 0)), some (.int (FI σ 85 29)), some (.int (nI 0)), z8, z9] [] σ else Run false (d + 1) 238 40 [some (.ref 85), some (.int a1), some (.int a2), some (.int a3), some (.int a4), some (.int (nI 0)), some (.int (FI σ 85 52)), some (.int (nI 0)), z8, z9] [] σ)) := by
  rw [Run_go [8, 40, 68, 80, 97, 123, 141, 159] 14]
  rfl
set_option maxRecDepth 100000 in
theorem s238_40 {d : Nat} {a1 : Int32} {a2 : Int32} {a3 : Int32} {a4 : Int32} {a5 : Int32} {a6 : Int32} {a7 : Int32} {z8 : Option Value} {z9 : Option Value} {σ : PS} : Run false (d + 1) 238 40 [some (.ref 85), some (.int a1), some (.int a2), some (.int a3), some (.int a4), some (.int a5), some (.int a6), some (.int a7), z8, z9] [] σ =
    (bif obl (a6 ≤ a7) then (bif inb (((nI 41) * a2) + a3) 205 then aft false (d + 1) 238 123 [some (.ref 85), some (.int a1), some (.int a2), some (.int a3), some (.int a4), some (.int a5), some (.int a6), some (.int a7), z8, z9] [] (Run false d 237 0 [some (.ref 85), some (.long ((AI σ 117 (((nI 41) * a2) + a3).toNatClampNeg).toInt64)), none, some (.int a6), none, none, none, none, none, none] [] σ) else none) else (bif obl (a5 = (nI 0)) then aft false (d + 1) 238 80 [some (.ref 85), some (.int a1), some (.int a2), some (.int a3), some (.int a4), some (.int a5), some (.int a6), some (.int a7), z8, z9] [.int a7, .ref 119] (Run false d 221 0 [some (.ref 85), some (.int a7), some (.int a3), some (.int a4), none, none, none] [] σ) else aft false (d + 1) 238 68 [some (.ref 85), some (.int a1), some (.int a2), some (.int a3), some (.int a4), some (.int a5), some (.int a6), some (.int a7), z8, z9] [.int a7, .ref 119] (Run false d 236 0 [some (.ref 85), some (.int a7), some (.int a2), some (.int a3), some (.int a4), none, none, none] [] σ))) := by
  rw [Run_go [8, 40, 68, 80, 97, 123, 141, 159] 16]
  rfl
theorem s238_68 {d : Nat} {a1 : Int32} {a2 : Int32} {a3 : Int32} {a4 : Int32} {a5 : Int32} {a6 : Int32} {a7 : Int32} {z8 : Option Value} {z9 : Option Value} {r1 : Int32} {q2 : Int64} {σ : PS} : Run false (d + 1) 238 68 [some (.ref 85), some (.int a1), some (.int a2), some (.int a3), some (.int a4), some (.int a5), some (.int a6), some (.int a7), z8, z9] [.long q2, .int r1, .ref 119] σ =
    (bif inb r1 10 then Run false (d + 1) 238 40 [some (.ref 85), some (.int a1), some (.int a2), some (.int a3), some (.int a4), some (.int a5), some (.int a6), some (.int (a7 + (nI 1))), z8, z9] [] (wAL σ 119 r1.toNatClampNeg q2) else none) := by
  rw [Run_go [8, 40, 68, 80, 97, 123, 141, 159] 5]
  rfl
set_option maxRecDepth 100000 in
theorem s238_80 {d : Nat} {a1 : Int32} {a2 : Int32} {a3 : Int32} {a4 : Int32} {a5 : Int32} {a6 : Int32} {a7 : Int32} {z8 : Option Value} {z9 : Option Value} {r1 : Int32} {r2 : Int32} {σ : PS} : Run false (d + 1) 238 80 [some (.ref 85), some (.int a1), some (.int a2), some (.int a3), some (.int a4), some (.int a5), some (.int a6), some (.int a7), z8, z9] [.int r2, .int r1, .ref 119] σ =
    (bif obl (r2 = (nI 0)) then aft false (d + 1) 238 97 [some (.ref 85), some (.int a1), some (.int a2), some (.int a3), some (.int a4), some (.int a5), some (.int a6), some (.int a7), z8, z9] [.int r1, .ref 119] (Run false d 219 0 [some (.ref 85), some (.int a7), some (.int a2), some (.int a3), some (.int a4), none, none] [] σ) else (bif inb r1 10 then Run false (d + 1) 238 40 [some (.ref 85), some (.int a1), some (.int a2), some (.int a3), some (.int a4), some (.int a5), some (.int a6), some (.int (a7 + (nI 1))), z8, z9] [] (wAL σ 119 r1.toNatClampNeg (lN 0)) else none)) := by
  rw [Run_go [8, 40, 68, 80, 97, 123, 141, 159] 8]
  rfl
theorem s238_97 {d : Nat} {a1 : Int32} {a2 : Int32} {a3 : Int32} {a4 : Int32} {a5 : Int32} {a6 : Int32} {a7 : Int32} {z8 : Option Value} {z9 : Option Value} {r1 : Int32} {r2 : Int32} {σ : PS} : Run false (d + 1) 238 97 [some (.ref 85), some (.int a1), some (.int a2), some (.int a3), some (.int a4), some (.int a5), some (.int a6), some (.int a7), z8, z9] [.int r2, .int r1, .ref 119] σ =
    (bif inb r1 10 then Run false (d + 1) 238 40 [some (.ref 85), some (.int a1), some (.int a2), some (.int a3), some (.int a4), some (.int a5), some (.int a6), some (.int (a7 + (nI 1))), z8, z9] [] (wAL σ 119 r1.toNatClampNeg (r2.toInt64)) else none) := by
  rw [Run_go [8, 40, 68, 80, 97, 123, 141, 159] 5]
  rfl
set_option maxRecDepth 100000 in
theorem s238_123 {d : Nat} {a1 : Int32} {a2 : Int32} {a3 : Int32} {a4 : Int32} {a5 : Int32} {a6 : Int32} {a7 : Int32} {z8 : Option Value} {z9 : Option Value} {σ : PS} : Run false (d + 1) 238 123 [some (.ref 85), some (.int a1), some (.int a2), some (.int a3), some (.int a4), some (.int a5), some (.int a6), some (.int a7), z8, z9] [] σ =
    (bif obl (a5 = (nI 0)) then Run false (d + 1) 238 141 [some (.ref 85), some (.int a1), some (.int a2), some (.int a3), some (.int a4), some (.int a5), some (.int a6), some (.long (lN 0)), none, some (.int (nI 0))] [] σ else (bif inb a1 10 then some (.inl (some (.long (AL σ 120 a1.toNatClampNeg)), σ)) else none)) := by
  rw [Run_go [8, 40, 68, 80, 97, 123, 141, 159] 8]
  rfl
set_option maxRecDepth 100000 in
theorem s238_141 {d : Nat} {a1 : Int32} {a2 : Int32} {a3 : Int32} {a4 : Int32} {a5 : Int32} {a6 : Int32} {b7 : Int64} {a9 : Int32} {σ : PS} : Run false (d + 1) 238 141 [some (.ref 85), some (.int a1), some (.int a2), some (.int a3), some (.int a4), some (.int a5), some (.int a6), some (.long b7), none, some (.int a9)] [] σ =
    (bif obl ((FI σ 85 29) ≤ a9) then some (.inl (some (.long b7), σ)) else aft false (d + 1) 238 159 [some (.ref 85), some (.int a1), some (.int a2), some (.int a3), some (.int a4), some (.int a5), some (.int a6), some (.long b7), none, some (.int a9)] [.long b7] (Run false d 234 0 [some (.ref 85), some (.int a9), some (.int a3), none, none] [] σ)) := by
  rw [Run_go [8, 40, 68, 80, 97, 123, 141, 159] 10]
  rfl
set_option maxRecDepth 100000 in
theorem s238_159 {d : Nat} {a1 : Int32} {a2 : Int32} {a3 : Int32} {a4 : Int32} {a5 : Int32} {a6 : Int32} {b7 : Int64} {a9 : Int32} {q0 : Int64} {r1 : Int32} {σ : PS} : Run false (d + 1) 238 159 [some (.ref 85), some (.int a1), some (.int a2), some (.int a3), some (.int a4), some (.int a5), some (.int a6), some (.long b7), none, some (.int a9)] [.int r1, .long q0] σ =
    (bif obl (r1 = a1) then (bif inb a9 10 then Run false (d + 1) 238 141 [some (.ref 85), some (.int a1), some (.int a2), some (.int a3), some (.int a4), some (.int a5), some (.int a6), some (.long (q0 + (AL σ 120 a9.toNatClampNeg))), none, some (.int (a9 + (nI 1)))] [] σ else none) else Run false (d + 1) 238 141 [some (.ref 85), some (.int a1), some (.int a2), some (.int a3), some (.int a4), some (.int a5), some (.int a6), some (.long (q0 + (lN 0))), none, some (.int (a9 + (nI 1)))] [] σ) := by
  rw [Run_go [8, 40, 68, 80, 97, 123, 141, 159] 12]
  rfl
theorem s239_0 {d : Nat} {a1 : Int32} {a2 : Int32} {a3 : Int32} {a4 : Int32} {σ : PS} : Run false (d + 1) 239 0 [some (.ref 85), some (.int a1), some (.int a2), some (.int a3), some (.int a4)] [] σ =
    aft false (d + 1) 239 9 [some (.ref 85), some (.int a1), some (.int a2), some (.int a3), some (.int a4)] [] (Run false d 236 0 [some (.ref 85), some (.int a1), some (.int a2), some (.int a3), some (.int a4), none, none, none] [] σ) := by
  rw [Run_go [9, 16, 31] 7]
  rfl
theorem s239_9 {d : Nat} {a1 : Int32} {a2 : Int32} {a3 : Int32} {a4 : Int32} {q0 : Int64} {σ : PS} : Run false (d + 1) 239 9 [some (.ref 85), some (.int a1), some (.int a2), some (.int a3), some (.int a4)] [.long q0] σ =
    aft false (d + 1) 239 16 [some (.ref 85), some (.int a1), some (.int a2), some (.int a3), some (.int a4)] [.long q0] (Run false d 200 0 [some (.ref 85), some (.int (nI 1)), some (.int a2), some (.int a3), none] [] σ) := by
  rw [Run_go [9, 16, 31] 6]
  rfl
set_option maxRecDepth 100000 in
theorem s239_16 {d : Nat} {a1 : Int32} {a2 : Int32} {a3 : Int32} {a4 : Int32} {q0 : Int64} {r1 : Int32} {σ : PS} : Run false (d + 1) 239 16 [some (.ref 85), some (.int a1), some (.int a2), some (.int a3), some (.int a4)] [.int r1, .long q0] σ =
    (bif obl ((lN 100) = lN 0) then none else aft false (d + 1) 239 31 [some (.ref 85), some (.int a1), some (.int a2), some (.int a3), some (.int a4)] [.long ((q0 * (r1.toInt64)) / (lN 100))] (Run false d 238 0 [some (.ref 85), some (.int a1), some (.int a2), some (.int a3), some (.int a4), none, none, none, none, none] [] σ)) := by
  rw [Run_go [9, 16, 31] 11]
  rfl
theorem s239_31 {d : Nat} {a1 : Int32} {a2 : Int32} {a3 : Int32} {a4 : Int32} {q0 : Int64} {q1 : Int64} {σ : PS} : Run false (d + 1) 239 31 [some (.ref 85), some (.int a1), some (.int a2), some (.int a3), some (.int a4)] [.long q1, .long q0] σ =
    some (.inl (some (.long (q0 + q1)), σ)) := by
  rw [Run_go [9, 16, 31] 3]
  rfl
theorem s240_0 {d : Nat} {a1 : Int32} {a2 : Int32} {a3 : Int32} {a4 : Int32} {σ : PS} : Run false (d + 1) 240 0 [some (.ref 85), some (.int a1), some (.int a2), some (.int a3), some (.int a4), none, none] [] σ =
    aft false (d + 1) 240 9 [some (.ref 85), some (.int a1), some (.int a2), some (.int a3), some (.int a4), none, none] [] (Run false d 239 0 [some (.ref 85), some (.int a1), some (.int a2), some (.int a3), some (.int a4)] [] σ) := by
  rw [Run_go [9, 18] 7]
  rfl
theorem s240_9 {d : Nat} {a1 : Int32} {a2 : Int32} {a3 : Int32} {a4 : Int32} {z5 : Option Value} {z6 : Option Value} {q0 : Int64} {σ : PS} : Run false (d + 1) 240 9 [some (.ref 85), some (.int a1), some (.int a2), some (.int a3), some (.int a4), z5, z6] [.long q0] σ =
    aft false (d + 1) 240 18 [some (.ref 85), some (.int a1), some (.int a2), some (.int a3), some (.int a4), z5, z6] [.long q0] (Run false d 251 0 [some (.ref 85), some (.int a1), some (.int a2), some (.int a3), some (.int a4), none, none, none] [] σ) := by
  rw [Run_go [9, 18] 7]
  rfl
set_option maxRecDepth 100000 in
theorem s240_18 {d : Nat} {a1 : Int32} {a2 : Int32} {a3 : Int32} {a4 : Int32} {z5 : Option Value} {z6 : Option Value} {q0 : Int64} {q1 : Int64} {σ : PS} : Run false (d + 1) 240 18 [some (.ref 85), some (.int a1), some (.int a2), some (.int a3), some (.int a4), z5, z6] [.long q1, .long q0] σ =
    (bif obl ((nI 0) ≤ (lg_cmp (q0 - q1) (lN 0))) then some (.inl (some (.long (q0 - q1)), σ)) else some (.inl (some (.long (lN 0)), σ))) := by
  rw [Run_go [9, 18] 10]
  rfl
set_option maxRecDepth 100000 in
theorem s241_0 {d : Nat} {a1 : Int32} {a2 : Int32} {σ : PS} : Run false (d + 1) 241 0 [some (.ref 85), some (.int a1), some (.int a2)] [] σ =
    aft false (d + 1) 241 12 [some (.ref 85), some (.int a1), some (.int a2)] [.ref 85] (Run false d 166 0 [some (.int a1), some (.int (nI 0)), some (.int ((FI σ 85 52) - (nI 1)))] [] σ) := by
  rw [Run_go [12, 16] 9]
  rfl
theorem s241_12 {d : Nat} {a1 : Int32} {a2 : Int32} {r1 : Int32} {σ : PS} : Run false (d + 1) 241 12 [some (.ref 85), some (.int a1), some (.int a2)] [.int r1, .ref 85] σ =
    aft false (d + 1) 241 16 [some (.ref 85), some (.int a1), some (.int a2)] [] (Run false d 165 0 [some (.ref 85), some (.int r1), some (.int a2)] [] σ) := by
  rw [Run_go [12, 16] 3]
  rfl
theorem s241_16 {d : Nat} {a1 : Int32} {a2 : Int32} {r0 : Int32} {σ : PS} : Run false (d + 1) 241 16 [some (.ref 85), some (.int a1), some (.int a2)] [.int r0] σ =
    (bif is01 r0 then some (.inl (some (.int r0), σ)) else none) := by
  rw [Run_go [12, 16] 2]
  rfl
set_option maxRecDepth 100000 in
theorem s242_0 {d : Nat} {a1 : Int32} {a2 : Int32} {a3 : Int32} {a4 : Int32} {a5 : Int32} {σ : PS} : Run false (d + 1) 242 0 [some (.ref 85), some (.int a1), some (.int a2), some (.int a3), some (.int a4), some (.int a5)] [] σ =
    aft false (d + 1) 242 11 [some (.ref 85), some (.int a1), some (.int a2), some (.int a3), some (.int a4), some (.int a5)] [] (Run false d 241 0 [some (.ref 85), some (.int a1), some (.int (nI 1))] [] (wFI σ 85 0 (nI 0))) := by
  rw [Run_go [11, 19, 26, 36, 48, 84, 93, 94, 103, 104, 113, 114, 123, 124, 133] 8]
  rfl
theorem s242_11 {d : Nat} {a1 : Int32} {a2 : Int32} {a3 : Int32} {a4 : Int32} {a5 : Int32} {r0 : Int32} {σ : PS} : Run false (d + 1) 242 11 [some (.ref 85), some (.int a1), some (.int a2), some (.int a3), some (.int a4), some (.int a5)] [.int r0] σ =
    (bif obl (r0 = (nI 0)) then some (.inl (some (.long (lN 0)), σ)) else aft false (d + 1) 242 19 [some (.ref 85), some (.int a1), some (.int a2), some (.int a3), some (.int a4), some (.int a5)] [.ref 85] (Run false d 169 0 [some (.int a2)] [] σ)) := by
  rw [Run_go [11, 19, 26, 36, 48, 84, 93, 94, 103, 104, 113, 114, 123, 124, 133] 5]
  rfl
theorem s242_19 {d : Nat} {a1 : Int32} {a2 : Int32} {a3 : Int32} {a4 : Int32} {a5 : Int32} {r1 : Int32} {σ : PS} : Run false (d + 1) 242 19 [some (.ref 85), some (.int a1), some (.int a2), some (.int a3), some (.int a4), some (.int a5)] [.int r1, .ref 85] σ =
    (bif obl (r1 = (nI 0)) then aft false (d + 1) 242 48 [some (.ref 85), some (.int a1), some (.int a2), some (.int a3), some (.int a4), some (.int a5)] [] (Run false d 165 0 [some (.ref 85), some (.int (nI 0)), some (.int (nI 2))] [] σ) else aft false (d + 1) 242 26 [some (.ref 85), some (.int a1), some (.int a2), some (.int a3), some (.int a4), some (.int a5)] [.ref 85] (Run false d 170 0 [some (.int a3)] [] σ)) := by
  rw [Run_go [11, 19, 26, 36, 48, 84, 93, 94, 103, 104, 113, 114, 123, 124, 133] 5]
  rfl
theorem s242_26 {d : Nat} {a1 : Int32} {a2 : Int32} {a3 : Int32} {a4 : Int32} {a5 : Int32} {r1 : Int32} {σ : PS} : Run false (d + 1) 242 26 [some (.ref 85), some (.int a1), some (.int a2), some (.int a3), some (.int a4), some (.int a5)] [.int r1, .ref 85] σ =
    (bif obl (r1 = (nI 0)) then aft false (d + 1) 242 48 [some (.ref 85), some (.int a1), some (.int a2), some (.int a3), some (.int a4), some (.int a5)] [] (Run false d 165 0 [some (.ref 85), some (.int (nI 0)), some (.int (nI 2))] [] σ) else aft false (d + 1) 242 36 [some (.ref 85), some (.int a1), some (.int a2), some (.int a3), some (.int a4), some (.int a5)] [.ref 85] (Run false d 166 0 [some (.int a5), some (.int (nI 0)), some (.int (nI 4))] [] σ)) := by
  rw [Run_go [11, 19, 26, 36, 48, 84, 93, 94, 103, 104, 113, 114, 123, 124, 133] 6]
  rfl
theorem s242_36 {d : Nat} {a1 : Int32} {a2 : Int32} {a3 : Int32} {a4 : Int32} {a5 : Int32} {r1 : Int32} {σ : PS} : Run false (d + 1) 242 36 [some (.ref 85), some (.int a1), some (.int a2), some (.int a3), some (.int a4), some (.int a5)] [.int r1, .ref 85] σ =
    (bif obl (r1 = (nI 0)) then aft false (d + 1) 242 48 [some (.ref 85), some (.int a1), some (.int a2), some (.int a3), some (.int a4), some (.int a5)] [] (Run false d 165 0 [some (.ref 85), some (.int (nI 0)), some (.int (nI 2))] [] σ) else aft false (d + 1) 242 48 [some (.ref 85), some (.int a1), some (.int a2), some (.int a3), some (.int a4), some (.int a5)] [] (Run false d 165 0 [some (.ref 85), some (.int (nI 1)), some (.int (nI 2))] [] σ)) := by
  rw [Run_go [11, 19, 26, 36, 48, 84, 93, 94, 103, 104, 113, 114, 123, 124, 133] 6]
  rfl
theorem s242_48 {d : Nat} {a1 : Int32} {a2 : Int32} {a3 : Int32} {a4 : Int32} {a5 : Int32} {r0 : Int32} {σ : PS} : Run false (d + 1) 242 48 [some (.ref 85), some (.int a1), some (.int a2), some (.int a3), some (.int a4), some (.int a5)] [.int r0] σ =
    (bif obl (r0 = (nI 0)) then some (.inl (some (.long (lN 0)), σ)) else Run false (d + 1) 242 (tswF 55 69 0 3 #[29, 39, 49, 59] a5) [some (.ref 85), some (.int a1), some (.int a2), some (.int a3), some (.int a4), some (.int a5)] [] σ) := by
  rw [Run_go [11, 19, 26, 36, 48, 84, 93, 94, 103, 104, 113, 114, 123, 124, 133] 4]
  rfl
theorem s242_84 {d : Nat} {a1 : Int32} {a2 : Int32} {a3 : Int32} {a4 : Int32} {a5 : Int32} {σ : PS} : Run false (d + 1) 242 84 [some (.ref 85), some (.int a1), some (.int a2), some (.int a3), some (.int a4), some (.int a5)] [] σ =
    aft false (d + 1) 242 93 [some (.ref 85), some (.int a1), some (.int a2), some (.int a3), some (.int a4), some (.int a5)] [] (Run false d 236 0 [some (.ref 85), some (.int a1), some (.int a2), some (.int a3), some (.int a4), none, none, none] [] σ) := by
  rw [Run_go [11, 19, 26, 36, 48, 84, 93, 94, 103, 104, 113, 114, 123, 124, 133] 7]
  rfl
theorem s242_93 {d : Nat} {a1 : Int32} {a2 : Int32} {a3 : Int32} {a4 : Int32} {a5 : Int32} {q0 : Int64} {σ : PS} : Run false (d + 1) 242 93 [some (.ref 85), some (.int a1), some (.int a2), some (.int a3), some (.int a4), some (.int a5)] [.long q0] σ =
    some (.inl (some (.long q0), σ)) := by
  rw [Run_go [11, 19, 26, 36, 48, 84, 93, 94, 103, 104, 113, 114, 123, 124, 133] 2]
  rfl
theorem s242_94 {d : Nat} {a1 : Int32} {a2 : Int32} {a3 : Int32} {a4 : Int32} {a5 : Int32} {σ : PS} : Run false (d + 1) 242 94 [some (.ref 85), some (.int a1), some (.int a2), some (.int a3), some (.int a4), some (.int a5)] [] σ =
    aft false (d + 1) 242 103 [some (.ref 85), some (.int a1), some (.int a2), some (.int a3), some (.int a4), some (.int a5)] [] (Run false d 239 0 [some (.ref 85), some (.int a1), some (.int a2), some (.int a3), some (.int a4)] [] σ) := by
  rw [Run_go [11, 19, 26, 36, 48, 84, 93, 94, 103, 104, 113, 114, 123, 124, 133] 7]
  rfl
theorem s242_103 {d : Nat} {a1 : Int32} {a2 : Int32} {a3 : Int32} {a4 : Int32} {a5 : Int32} {q0 : Int64} {σ : PS} : Run false (d + 1) 242 103 [some (.ref 85), some (.int a1), some (.int a2), some (.int a3), some (.int a4), some (.int a5)] [.long q0] σ =
    some (.inl (some (.long q0), σ)) := by
  rw [Run_go [11, 19, 26, 36, 48, 84, 93, 94, 103, 104, 113, 114, 123, 124, 133] 2]
  rfl
theorem s242_104 {d : Nat} {a1 : Int32} {a2 : Int32} {a3 : Int32} {a4 : Int32} {a5 : Int32} {σ : PS} : Run false (d + 1) 242 104 [some (.ref 85), some (.int a1), some (.int a2), some (.int a3), some (.int a4), some (.int a5)] [] σ =
    aft false (d + 1) 242 113 [some (.ref 85), some (.int a1), some (.int a2), some (.int a3), some (.int a4), some (.int a5)] [] (Run false d 251 0 [some (.ref 85), some (.int a1), some (.int a2), some (.int a3), some (.int a4), none, none, none] [] σ) := by
  rw [Run_go [11, 19, 26, 36, 48, 84, 93, 94, 103, 104, 113, 114, 123, 124, 133] 7]
  rfl
theorem s242_113 {d : Nat} {a1 : Int32} {a2 : Int32} {a3 : Int32} {a4 : Int32} {a5 : Int32} {q0 : Int64} {σ : PS} : Run false (d + 1) 242 113 [some (.ref 85), some (.int a1), some (.int a2), some (.int a3), some (.int a4), some (.int a5)] [.long q0] σ =
    some (.inl (some (.long q0), σ)) := by
  rw [Run_go [11, 19, 26, 36, 48, 84, 93, 94, 103, 104, 113, 114, 123, 124, 133] 2]
  rfl
theorem s242_114 {d : Nat} {a1 : Int32} {a2 : Int32} {a3 : Int32} {a4 : Int32} {a5 : Int32} {σ : PS} : Run false (d + 1) 242 114 [some (.ref 85), some (.int a1), some (.int a2), some (.int a3), some (.int a4), some (.int a5)] [] σ =
    aft false (d + 1) 242 123 [some (.ref 85), some (.int a1), some (.int a2), some (.int a3), some (.int a4), some (.int a5)] [] (Run false d 240 0 [some (.ref 85), some (.int a1), some (.int a2), some (.int a3), some (.int a4), none, none] [] σ) := by
  rw [Run_go [11, 19, 26, 36, 48, 84, 93, 94, 103, 104, 113, 114, 123, 124, 133] 7]
  rfl
theorem s242_123 {d : Nat} {a1 : Int32} {a2 : Int32} {a3 : Int32} {a4 : Int32} {a5 : Int32} {q0 : Int64} {σ : PS} : Run false (d + 1) 242 123 [some (.ref 85), some (.int a1), some (.int a2), some (.int a3), some (.int a4), some (.int a5)] [.long q0] σ =
    some (.inl (some (.long q0), σ)) := by
  rw [Run_go [11, 19, 26, 36, 48, 84, 93, 94, 103, 104, 113, 114, 123, 124, 133] 2]
  rfl
theorem s242_124 {d : Nat} {a1 : Int32} {a2 : Int32} {a3 : Int32} {a4 : Int32} {a5 : Int32} {σ : PS} : Run false (d + 1) 242 124 [some (.ref 85), some (.int a1), some (.int a2), some (.int a3), some (.int a4), some (.int a5)] [] σ =
    aft false (d + 1) 242 133 [some (.ref 85), some (.int a1), some (.int a2), some (.int a3), some (.int a4), some (.int a5)] [] (Run false d 238 0 [some (.ref 85), some (.int a1), some (.int a2), some (.int a3), some (.int a4), none, none, none, none, none] [] σ) := by
  rw [Run_go [11, 19, 26, 36, 48, 84, 93, 94, 103, 104, 113, 114, 123, 124, 133] 7]
  rfl
theorem s242_133 {d : Nat} {a1 : Int32} {a2 : Int32} {a3 : Int32} {a4 : Int32} {a5 : Int32} {q0 : Int64} {σ : PS} : Run false (d + 1) 242 133 [some (.ref 85), some (.int a1), some (.int a2), some (.int a3), some (.int a4), some (.int a5)] [.long q0] σ =
    some (.inl (some (.long q0), σ)) := by
  rw [Run_go [11, 19, 26, 36, 48, 84, 93, 94, 103, 104, 113, 114, 123, 124, 133] 2]
  rfl
theorem s243_0 {d : Nat} {a1 : Int32} {a2 : Int32} {a3 : Int32} {σ : PS} : Run false (d + 1) 243 0 [some (.ref 85), some (.int a1), some (.int a2), some (.int a3), none] [] σ =
    aft false (d + 1) 243 10 [some (.ref 85), some (.int a1), some (.int a2), some (.int a3), none] [.ref 85] (Run false d 169 0 [some (.int a1)] [] (wFI σ 85 0 (nI 0))) := by
  rw [Run_go [10, 17, 28, 40] 7]
  rfl
theorem s243_10 {d : Nat} {a1 : Int32} {a2 : Int32} {a3 : Int32} {z4 : Option Value} {r1 : Int32} {σ : PS} : Run false (d + 1) 243 10 [some (.ref 85), some (.int a1), some (.int a2), some (.int a3), z4] [.int r1, .ref 85] σ =
    (bif obl (r1 = (nI 0)) then aft false (d + 1) 243 40 [some (.ref 85), some (.int a1), some (.int a2), some (.int a3), z4] [] (Run false d 165 0 [some (.ref 85), some (.int (nI 0)), some (.int (nI 1))] [] σ) else aft false (d + 1) 243 17 [some (.ref 85), some (.int a1), some (.int a2), some (.int a3), z4] [.ref 85] (Run false d 170 0 [some (.int a2)] [] σ)) := by
  rw [Run_go [10, 17, 28, 40] 5]
  rfl
theorem s243_17 {d : Nat} {a1 : Int32} {a2 : Int32} {a3 : Int32} {z4 : Option Value} {r1 : Int32} {σ : PS} : Run false (d + 1) 243 17 [some (.ref 85), some (.int a1), some (.int a2), some (.int a3), z4] [.int r1, .ref 85] σ =
    (bif obl (r1 = (nI 0)) then aft false (d + 1) 243 40 [some (.ref 85), some (.int a1), some (.int a2), some (.int a3), z4] [] (Run false d 165 0 [some (.ref 85), some (.int (nI 0)), some (.int (nI 1))] [] σ) else aft false (d + 1) 243 28 [some (.ref 85), some (.int a1), some (.int a2), some (.int a3), z4] [.ref 85] (Run false d 166 0 [some (.int a3), some (.int (nI 0)), some (.int (nI 1000000))] [] σ)) := by
  rw [Run_go [10, 17, 28, 40] 6]
  rfl
theorem s243_28 {d : Nat} {a1 : Int32} {a2 : Int32} {a3 : Int32} {z4 : Option Value} {r1 : Int32} {σ : PS} : Run false (d + 1) 243 28 [some (.ref 85), some (.int a1), some (.int a2), some (.int a3), z4] [.int r1, .ref 85] σ =
    (bif obl (r1 = (nI 0)) then aft false (d + 1) 243 40 [some (.ref 85), some (.int a1), some (.int a2), some (.int a3), z4] [] (Run false d 165 0 [some (.ref 85), some (.int (nI 0)), some (.int (nI 1))] [] σ) else aft false (d + 1) 243 40 [some (.ref 85), some (.int a1), some (.int a2), some (.int a3), z4] [] (Run false d 165 0 [some (.ref 85), some (.int (nI 1)), some (.int (nI 1))] [] σ)) := by
  rw [Run_go [10, 17, 28, 40] 6]
  rfl
set_option maxRecDepth 100000 in
theorem s243_40 {d : Nat} {a1 : Int32} {a2 : Int32} {a3 : Int32} {z4 : Option Value} {r0 : Int32} {σ : PS} : Run false (d + 1) 243 40 [some (.ref 85), some (.int a1), some (.int a2), some (.int a3), z4] [.int r0] σ =
    (bif obl (r0 = (nI 0)) then some (.inl (some (.int (nI 0)), σ)) else (bif inb (((nI 41) * a1) + a2) 205 then (bif inb (((nI 41) * a1) + a2) 205 then some (.inl (some (.int (AI σ 117 (((nI 41) * a1) + a2).toNatClampNeg)), (wAI σ 117 (((nI 41) * a1) + a2).toNatClampNeg a3))) else none) else none)) := by
  rw [Run_go [10, 17, 28, 40] 22]
  rfl
theorem s244_0 {d : Nat} {a0 : Int32} {σ : PS} : Run false (d + 1) 244 0 [some (.int a0)] [] σ =
    aft false (d + 1) 244 7 [some (.int a0)] [] (Run false d 166 0 [some (.int a0), some (.int (nI 0)), some (.int (nI 100))] [] σ) := by
  rw [Run_go [7] 5]
  rfl
theorem s244_7 {d : Nat} {a0 : Int32} {r0 : Int32} {σ : PS} : Run false (d + 1) 244 7 [some (.int a0)] [.int r0] σ =
    (bif is01 r0 then some (.inl (some (.int r0), σ)) else none) := by
  rw [Run_go [7] 2]
  rfl
set_option maxRecDepth 100000 in
theorem s245_0 {d : Nat} {a1 : Int32} {a2 : Int32} {a3 : Int32} {a4 : Int32} {a5 : Int32} {a6 : Int32} {a7 : Int32} {σ : PS} : Run false (d + 1) 245 0 [some (.ref 85), some (.int a1), some (.int a2), some (.int a3), some (.int a4), some (.int a5), some (.int a6), some (.int a7), none] [] σ =
    aft false (d + 1) 245 11 [some (.ref 85), some (.int a1), some (.int a2), some (.int a3), some (.int a4), some (.int a5), some (.int a6), some (.int a7), none] [] (Run false d 166 0 [some (.int a1), some (.int (nI 0)), some (.int (nI 5))] [] (wFI σ 85 0 (nI 0))) := by
  rw [Run_go [11, 22, 29, 37, 45, 53, 92, 104] 8]
  rfl
set_option maxRecDepth 100000 in
theorem s245_11 {d : Nat} {a1 : Int32} {a2 : Int32} {a3 : Int32} {a4 : Int32} {a5 : Int32} {a6 : Int32} {a7 : Int32} {z8 : Option Value} {r0 : Int32} {σ : PS} : Run false (d + 1) 245 11 [some (.ref 85), some (.int a1), some (.int a2), some (.int a3), some (.int a4), some (.int a5), some (.int a6), some (.int a7), z8] [.int r0] σ =
    (bif obl (r0 = (nI 0)) then (bif obl ((nI 0) = (nI 0)) then aft false (d + 1) 245 104 [some (.ref 85), some (.int a1), some (.int a2), some (.int a3), some (.int a4), some (.int a5), some (.int a6), some (.int a7), some (.int (nI 0))] [] (Run false d 165 0 [some (.ref 85), some (.int (nI 0)), some (.int (nI 1))] [] σ) else (bif obl ((nI 100) < (((a3 + a4) + a5) + a6)) then aft false (d + 1) 245 104 [some (.ref 85), some (.int a1), some (.int a2), some (.int a3), some (.int a4), some (.int a5), some (.int a6), some (.int a7), some (.int (nI 0))] [] (Run false d 165 0 [some (.ref 85), some (.int (nI 0)), some (.int (nI 1))] [] σ) else aft false (d + 1) 245 92 [some (.ref 85), some (.int a1), some (.int a2), some (.int a3), some (.int a4), some (.int a5), some (.int a6), some (.int a7), some (.int (nI 0))] [.ref 85] (Run false d 166 0 [some (.int a7), some (.int (nI 0)), some (.int (nI 50))] [] σ))) else aft false (d + 1) 245 22 [some (.ref 85), some (.int a1), some (.int a2), some (.int a3), some (.int a4), some (.int a5), some (.int a6), some (.int a7), z8] [] (Run false d 166 0 [some (.int a2), some (.int (nI 1)), some (.int (nI 20000))] [] σ)) := by
  rw [Run_go [11, 22, 29, 37, 45, 53, 92, 104] 20]
  rfl
set_option maxRecDepth 100000 in
theorem s245_22 {d : Nat} {a1 : Int32} {a2 : Int32} {a3 : Int32} {a4 : Int32} {a5 : Int32} {a6 : Int32} {a7 : Int32} {z8 : Option Value} {r0 : Int32} {σ : PS} : Run false (d + 1) 245 22 [some (.ref 85), some (.int a1), some (.int a2), some (.int a3), some (.int a4), some (.int a5), some (.int a6), some (.int a7), z8] [.int r0] σ =
    (bif obl (r0 = (nI 0)) then (bif obl ((nI 0) = (nI 0)) then aft false (d + 1) 245 104 [some (.ref 85), some (.int a1), some (.int a2), some (.int a3), some (.int a4), some (.int a5), some (.int a6), some (.int a7), some (.int (nI 0))] [] (Run false d 165 0 [some (.ref 85), some (.int (nI 0)), some (.int (nI 1))] [] σ) else (bif obl ((nI 100) < (((a3 + a4) + a5) + a6)) then aft false (d + 1) 245 104 [some (.ref 85), some (.int a1), some (.int a2), some (.int a3), some (.int a4), some (.int a5), some (.int a6), some (.int a7), some (.int (nI 0))] [] (Run false d 165 0 [some (.ref 85), some (.int (nI 0)), some (.int (nI 1))] [] σ) else aft false (d + 1) 245 92 [some (.ref 85), some (.int a1), some (.int a2), some (.int a3), some (.int a4), some (.int a5), some (.int a6), some (.int a7), some (.int (nI 0))] [.ref 85] (Run false d 166 0 [some (.int a7), some (.int (nI 0)), some (.int (nI 50))] [] σ))) else aft false (d + 1) 245 29 [some (.ref 85), some (.int a1), some (.int a2), some (.int a3), some (.int a4), some (.int a5), some (.int a6), some (.int a7), z8] [] (Run false d 244 0 [some (.int a3)] [] σ)) := by
  rw [Run_go [11, 22, 29, 37, 45, 53, 92, 104] 20]
  rfl
set_option maxRecDepth 100000 in
theorem s245_29 {d : Nat} {a1 : Int32} {a2 : Int32} {a3 : Int32} {a4 : Int32} {a5 : Int32} {a6 : Int32} {a7 : Int32} {z8 : Option Value} {r0 : Int32} {σ : PS} : Run false (d + 1) 245 29 [some (.ref 85), some (.int a1), some (.int a2), some (.int a3), some (.int a4), some (.int a5), some (.int a6), some (.int a7), z8] [.int r0] σ =
    (bif obl (r0 = (nI 0)) then (bif obl ((nI 0) = (nI 0)) then aft false (d + 1) 245 104 [some (.ref 85), some (.int a1), some (.int a2), some (.int a3), some (.int a4), some (.int a5), some (.int a6), some (.int a7), some (.int (nI 0))] [] (Run false d 165 0 [some (.ref 85), some (.int (nI 0)), some (.int (nI 1))] [] σ) else (bif obl ((nI 100) < (((a3 + a4) + a5) + a6)) then aft false (d + 1) 245 104 [some (.ref 85), some (.int a1), some (.int a2), some (.int a3), some (.int a4), some (.int a5), some (.int a6), some (.int a7), some (.int (nI 0))] [] (Run false d 165 0 [some (.ref 85), some (.int (nI 0)), some (.int (nI 1))] [] σ) else aft false (d + 1) 245 92 [some (.ref 85), some (.int a1), some (.int a2), some (.int a3), some (.int a4), some (.int a5), some (.int a6), some (.int a7), some (.int (nI 0))] [.ref 85] (Run false d 166 0 [some (.int a7), some (.int (nI 0)), some (.int (nI 50))] [] σ))) else aft false (d + 1) 245 37 [some (.ref 85), some (.int a1), some (.int a2), some (.int a3), some (.int a4), some (.int a5), some (.int a6), some (.int a7), z8] [] (Run false d 244 0 [some (.int a4)] [] σ)) := by
  rw [Run_go [11, 22, 29, 37, 45, 53, 92, 104] 20]
  rfl
set_option maxRecDepth 100000 in
theorem s245_37 {d : Nat} {a1 : Int32} {a2 : Int32} {a3 : Int32} {a4 : Int32} {a5 : Int32} {a6 : Int32} {a7 : Int32} {z8 : Option Value} {r0 : Int32} {σ : PS} : Run false (d + 1) 245 37 [some (.ref 85), some (.int a1), some (.int a2), some (.int a3), some (.int a4), some (.int a5), some (.int a6), some (.int a7), z8] [.int r0] σ =
    (bif obl (r0 = (nI 0)) then (bif obl ((nI 0) = (nI 0)) then aft false (d + 1) 245 104 [some (.ref 85), some (.int a1), some (.int a2), some (.int a3), some (.int a4), some (.int a5), some (.int a6), some (.int a7), some (.int (nI 0))] [] (Run false d 165 0 [some (.ref 85), some (.int (nI 0)), some (.int (nI 1))] [] σ) else (bif obl ((nI 100) < (((a3 + a4) + a5) + a6)) then aft false (d + 1) 245 104 [some (.ref 85), some (.int a1), some (.int a2), some (.int a3), some (.int a4), some (.int a5), some (.int a6), some (.int a7), some (.int (nI 0))] [] (Run false d 165 0 [some (.ref 85), some (.int (nI 0)), some (.int (nI 1))] [] σ) else aft false (d + 1) 245 92 [some (.ref 85), some (.int a1), some (.int a2), some (.int a3), some (.int a4), some (.int a5), some (.int a6), some (.int a7), some (.int (nI 0))] [.ref 85] (Run false d 166 0 [some (.int a7), some (.int (nI 0)), some (.int (nI 50))] [] σ))) else aft false (d + 1) 245 45 [some (.ref 85), some (.int a1), some (.int a2), some (.int a3), some (.int a4), some (.int a5), some (.int a6), some (.int a7), z8] [] (Run false d 244 0 [some (.int a5)] [] σ)) := by
  rw [Run_go [11, 22, 29, 37, 45, 53, 92, 104] 20]
  rfl
set_option maxRecDepth 100000 in
theorem s245_45 {d : Nat} {a1 : Int32} {a2 : Int32} {a3 : Int32} {a4 : Int32} {a5 : Int32} {a6 : Int32} {a7 : Int32} {z8 : Option Value} {r0 : Int32} {σ : PS} : Run false (d + 1) 245 45 [some (.ref 85), some (.int a1), some (.int a2), some (.int a3), some (.int a4), some (.int a5), some (.int a6), some (.int a7), z8] [.int r0] σ =
    (bif obl (r0 = (nI 0)) then (bif obl ((nI 0) = (nI 0)) then aft false (d + 1) 245 104 [some (.ref 85), some (.int a1), some (.int a2), some (.int a3), some (.int a4), some (.int a5), some (.int a6), some (.int a7), some (.int (nI 0))] [] (Run false d 165 0 [some (.ref 85), some (.int (nI 0)), some (.int (nI 1))] [] σ) else (bif obl ((nI 100) < (((a3 + a4) + a5) + a6)) then aft false (d + 1) 245 104 [some (.ref 85), some (.int a1), some (.int a2), some (.int a3), some (.int a4), some (.int a5), some (.int a6), some (.int a7), some (.int (nI 0))] [] (Run false d 165 0 [some (.ref 85), some (.int (nI 0)), some (.int (nI 1))] [] σ) else aft false (d + 1) 245 92 [some (.ref 85), some (.int a1), some (.int a2), some (.int a3), some (.int a4), some (.int a5), some (.int a6), some (.int a7), some (.int (nI 0))] [.ref 85] (Run false d 166 0 [some (.int a7), some (.int (nI 0)), some (.int (nI 50))] [] σ))) else aft false (d + 1) 245 53 [some (.ref 85), some (.int a1), some (.int a2), some (.int a3), some (.int a4), some (.int a5), some (.int a6), some (.int a7), z8] [] (Run false d 244 0 [some (.int a6)] [] σ)) := by
  rw [Run_go [11, 22, 29, 37, 45, 53, 92, 104] 20]
  rfl
set_option maxRecDepth 100000 in
theorem s245_53 {d : Nat} {a1 : Int32} {a2 : Int32} {a3 : Int32} {a4 : Int32} {a5 : Int32} {a6 : Int32} {a7 : Int32} {z8 : Option Value} {r0 : Int32} {σ : PS} : Run false (d + 1) 245 53 [some (.ref 85), some (.int a1), some (.int a2), some (.int a3), some (.int a4), some (.int a5), some (.int a6), some (.int a7), z8] [.int r0] σ =
    (bif obl (r0 = (nI 0)) then (bif obl ((nI 0) = (nI 0)) then aft false (d + 1) 245 104 [some (.ref 85), some (.int a1), some (.int a2), some (.int a3), some (.int a4), some (.int a5), some (.int a6), some (.int a7), some (.int (nI 0))] [] (Run false d 165 0 [some (.ref 85), some (.int (nI 0)), some (.int (nI 1))] [] σ) else (bif obl ((nI 100) < (((a3 + a4) + a5) + a6)) then aft false (d + 1) 245 104 [some (.ref 85), some (.int a1), some (.int a2), some (.int a3), some (.int a4), some (.int a5), some (.int a6), some (.int a7), some (.int (nI 0))] [] (Run false d 165 0 [some (.ref 85), some (.int (nI 0)), some (.int (nI 1))] [] σ) else aft false (d + 1) 245 92 [some (.ref 85), some (.int a1), some (.int a2), some (.int a3), some (.int a4), some (.int a5), some (.int a6), some (.int a7), some (.int (nI 0))] [.ref 85] (Run false d 166 0 [some (.int a7), some (.int (nI 0)), some (.int (nI 50))] [] σ))) else (bif obl ((nI 1) = (nI 0)) then aft false (d + 1) 245 104 [some (.ref 85), some (.int a1), some (.int a2), some (.int a3), some (.int a4), some (.int a5), some (.int a6), some (.int a7), some (.int (nI 1))] [] (Run false d 165 0 [some (.ref 85), some (.int (nI 0)), some (.int (nI 1))] [] σ) else (bif obl ((nI 100) < (((a3 + a4) + a5) + a6)) then aft false (d + 1) 245 104 [some (.ref 85), some (.int a1), some (.int a2), some (.int a3), some (.int a4), some (.int a5), some (.int a6), some (.int a7), some (.int (nI 1))] [] (Run false d 165 0 [some (.ref 85), some (.int (nI 0)), some (.int (nI 1))] [] σ) else aft false (d + 1) 245 92 [some (.ref 85), some (.int a1), some (.int a2), some (.int a3), some (.int a4), some (.int a5), some (.int a6), some (.int a7), some (.int (nI 1))] [.ref 85] (Run false d 166 0 [some (.int a7), some (.int (nI 0)), some (.int (nI 50))] [] σ)))) := by
  rw [Run_go [11, 22, 29, 37, 45, 53, 92, 104] 21]
  rfl
theorem s245_92 {d : Nat} {a1 : Int32} {a2 : Int32} {a3 : Int32} {a4 : Int32} {a5 : Int32} {a6 : Int32} {a7 : Int32} {a8 : Int32} {r1 : Int32} {σ : PS} : Run false (d + 1) 245 92 [some (.ref 85), some (.int a1), some (.int a2), some (.int a3), some (.int a4), some (.int a5), some (.int a6), some (.int a7), some (.int a8)] [.int r1, .ref 85] σ =
    (bif obl (r1 = (nI 0)) then aft false (d + 1) 245 104 [some (.ref 85), some (.int a1), some (.int a2), some (.int a3), some (.int a4), some (.int a5), some (.int a6), some (.int a7), some (.int a8)] [] (Run false d 165 0 [some (.ref 85), some (.int (nI 0)), some (.int (nI 1))] [] σ) else aft false (d + 1) 245 104 [some (.ref 85), some (.int a1), some (.int a2), some (.int a3), some (.int a4), some (.int a5), some (.int a6), some (.int a7), some (.int a8)] [] (Run false d 165 0 [some (.ref 85), some (.int (nI 1)), some (.int (nI 1))] [] σ)) := by
  rw [Run_go [11, 22, 29, 37, 45, 53, 92, 104] 6]
  rfl
set_option maxRecDepth 100000 in
theorem s245_104 {d : Nat} {a1 : Int32} {a2 : Int32} {a3 : Int32} {a4 : Int32} {a5 : Int32} {a6 : Int32} {a7 : Int32} {a8 : Int32} {r0 : Int32} {σ : PS} : Run false (d + 1) 245 104 [some (.ref 85), some (.int a1), some (.int a2), some (.int a3), some (.int a4), some (.int a5), some (.int a6), some (.int a7), some (.int a8)] [.int r0] σ =
    (bif obl (r0 = (nI 0)) then some (.inl (some (.int (nI 0)), σ)) else (bif obl ((FI σ 85 62) = (nI 60)) then some (.inl (some (.int (-1 : Int32)), σ)) else (bif inb (FI σ 85 62) 60 then (bif inb (FI σ 85 62) 60 then (bif inb (FI σ 85 62) 60 then (bif inb ((nI 5) * (FI σ 85 62)) 300 then (bif inb (((nI 5) * (FI σ 85 62)) + (nI 1)) 300 then (bif inb (((nI 5) * (FI σ 85 62)) + (nI 2)) 300 then (bif inb (((nI 5) * (FI σ 85 62)) + (nI 3)) 300 then (bif inb (((nI 5) * (FI σ 85 62)) + (nI 4)) 300 then (bif inb (FI σ 85 62) 60 then some (.inl (some (.int (((FI σ 85 62) + (nI 1)) - (nI 1))), (wFI (wAI (wAI (wAI (wAI (wAI (wAI (wAI (wAI (wAI σ 122 (FI σ 85 62).toNatClampNeg a1) 123 (FI σ 85 62).toNatClampNeg (FI σ 85 1)) 124 (FI σ 85 62).toNatClampNeg a2) 125 ((nI 5) * (FI σ 85 62)).toNatClampNeg a3) 125 (((nI 5) * (FI σ 85 62)) + (nI 1)).toNatClampNeg a4) 125 (((nI 5) * (FI σ 85 62)) + (nI 2)).toNatClampNeg a5) 125 (((nI 5) * (FI σ 85 62)) + (nI 3)).toNatClampNeg a6) 125 (((nI 5) * (FI σ 85 62)) + (nI 4)).toNatClampNeg (((((nI 100) - a3) - a4) - a5) - a6)) 126 (FI σ 85 62).toNatClampNeg a7) 85 62 ((FI σ 85 62) + (nI 1))))) else none) else none) else none) else none) else none) else none) else none) else none) else none))) := by
  rw [Run_go [11, 22, 29, 37, 45, 53, 92, 104] 98]
  rfl
set_option maxRecDepth 100000 in
theorem s246_0 {d : Nat} {a1 : Int32} {a2 : Int32} {σ : PS} : Run false (d + 1) 246 0 [some (.ref 85), some (.int a1), some (.int a2)] [] σ =
    (bif inb a1 60 then (bif inb (((nI 5) * a1) + a2) 300 then (bif obl ((nI 100) = nI 0) then none else (bif inb a1 60 then (bif obl ((nI 100) = nI 0) then none else some (.inl (some (.int (((((AI σ 124 a1.toNatClampNeg) * (AI σ 125 (((nI 5) * a1) + a2).toNatClampNeg)) / (nI 100)) * ((nI 100) - (AI σ 126 a1.toNatClampNeg))) / (nI 100))), σ))) else none)) else none) else none) := by
  rw [Run_go [] 26]
  rfl
set_option maxRecDepth 100000 in
theorem s247_0 {d : Nat} {a1 : Int32} {σ : PS} : Run false (d + 1) 247 0 [some (.ref 85), some (.int a1), none] [] σ =
    (bif inb (((nI 5) * a1) + (nI 4)) 300 then (bif obl ((nI 5) < (AI σ 125 (((nI 5) * a1) + (nI 4)).toNatClampNeg)) then (bif obl ((nI 15) < (AI σ 125 (((nI 5) * a1) + (nI 4)).toNatClampNeg)) then (bif obl ((nI 40) < (AI σ 125 (((nI 5) * a1) + (nI 4)).toNatClampNeg)) then some (.inl (some (.int (nI 3)), σ)) else some (.inl (some (.int (nI 2)), σ))) else some (.inl (some (.int (nI 1)), σ))) else some (.inl (some (.int (nI 0)), σ))) else none) := by
  rw [Run_go [] 22]
  rfl
set_option maxRecDepth 100000 in
theorem s248_0 {d : Nat} {a1 : Int32} {a2 : Int32} {σ : PS} : Run false (d + 1) 248 0 [some (.ref 85), some (.int a1), some (.int a2)] [] σ =
    aft false (d + 1) 248 17 [some (.ref 85), some (.int a1), some (.int a2)] [.ref 85] (Run false d 166 0 [some (.int a1), some (.int (nI 0)), some (.int ((FI σ 85 62) - (nI 1)))] [] (wFI σ 85 0 (nI 0))) := by
  rw [Run_go [17, 21, 32, 36, 52, 65] 12]
  rfl
theorem s248_17 {d : Nat} {a1 : Int32} {a2 : Int32} {r1 : Int32} {σ : PS} : Run false (d + 1) 248 17 [some (.ref 85), some (.int a1), some (.int a2)] [.int r1, .ref 85] σ =
    aft false (d + 1) 248 21 [some (.ref 85), some (.int a1), some (.int a2)] [] (Run false d 165 0 [some (.ref 85), some (.int r1), some (.int (nI 1))] [] σ) := by
  rw [Run_go [17, 21, 32, 36, 52, 65] 3]
  rfl
theorem s248_21 {d : Nat} {a1 : Int32} {a2 : Int32} {r0 : Int32} {σ : PS} : Run false (d + 1) 248 21 [some (.ref 85), some (.int a1), some (.int a2)] [.int r0] σ =
    (bif obl (r0 = (nI 0)) then some (.inl (some (.int (nI 0)), σ)) else aft false (d + 1) 248 32 [some (.ref 85), some (.int a1), some (.int a2)] [.ref 85] (Run false d 166 0 [some (.int a2), some (.int (nI 0)), some (.int (nI 6))] [] σ)) := by
  rw [Run_go [17, 21, 32, 36, 52, 65] 7]
  rfl
theorem s248_32 {d : Nat} {a1 : Int32} {a2 : Int32} {r1 : Int32} {σ : PS} : Run false (d + 1) 248 32 [some (.ref 85), some (.int a1), some (.int a2)] [.int r1, .ref 85] σ =
    aft false (d + 1) 248 36 [some (.ref 85), some (.int a1), some (.int a2)] [] (Run false d 165 0 [some (.ref 85), some (.int r1), some (.int (nI 2))] [] σ) := by
  rw [Run_go [17, 21, 32, 36, 52, 65] 3]
  rfl
set_option maxRecDepth 100000 in
theorem s248_36 {d : Nat} {a1 : Int32} {a2 : Int32} {r0 : Int32} {σ : PS} : Run false (d + 1) 248 36 [some (.ref 85), some (.int a1), some (.int a2)] [.int r0] σ =
    (bif obl (r0 = (nI 0)) then some (.inl (some (.int (nI 0)), σ)) else (bif obl ((nI 5) ≤ a2) then (bif obl (a2 = (nI 5)) then aft false (d + 1) 248 65 [some (.ref 85), some (.int a1), some (.int a2)] [] (Run false d 247 0 [some (.ref 85), some (.int a1), none] [] σ) else (bif inb a1 60 then some (.inl (some (.int (AI σ 123 a1.toNatClampNeg)), σ)) else none)) else aft false (d + 1) 248 52 [some (.ref 85), some (.int a1), some (.int a2)] [] (Run false d 246 0 [some (.ref 85), some (.int a1), some (.int a2)] [] σ))) := by
  rw [Run_go [17, 21, 32, 36, 52, 65] 13]
  rfl
theorem s248_52 {d : Nat} {a1 : Int32} {a2 : Int32} {r0 : Int32} {σ : PS} : Run false (d + 1) 248 52 [some (.ref 85), some (.int a1), some (.int a2)] [.int r0] σ =
    some (.inl (some (.int r0), σ)) := by
  rw [Run_go [17, 21, 32, 36, 52, 65] 3]
  rfl
theorem s248_65 {d : Nat} {a1 : Int32} {a2 : Int32} {r0 : Int32} {σ : PS} : Run false (d + 1) 248 65 [some (.ref 85), some (.int a1), some (.int a2)] [.int r0] σ =
    some (.inl (some (.int r0), σ)) := by
  rw [Run_go [17, 21, 32, 36, 52, 65] 3]
  rfl
set_option maxRecDepth 100000 in
theorem s249_0 {d : Nat} {a1 : Int32} {a2 : Int32} {a3 : Int32} {a4 : Int32} {σ : PS} : Run false (d + 1) 249 0 [some (.ref 85), some (.int a1), some (.int a2), some (.int a3), some (.int a4), none, none] [] σ =
    aft false (d + 1) 249 17 [some (.ref 85), some (.int a1), some (.int a2), some (.int a3), some (.int a4), none, none] [.ref 85] (Run false d 166 0 [some (.int a1), some (.int (nI 0)), some (.int ((FI σ 85 62) - (nI 1)))] [] (wFI σ 85 0 (nI 0))) := by
  rw [Run_go [17, 21, 31, 39, 50, 62, 84, 217] 12]
  rfl
theorem s249_17 {d : Nat} {a1 : Int32} {a2 : Int32} {a3 : Int32} {a4 : Int32} {z5 : Option Value} {z6 : Option Value} {r1 : Int32} {σ : PS} : Run false (d + 1) 249 17 [some (.ref 85), some (.int a1), some (.int a2), some (.int a3), some (.int a4), z5, z6] [.int r1, .ref 85] σ =
    aft false (d + 1) 249 21 [some (.ref 85), some (.int a1), some (.int a2), some (.int a3), some (.int a4), z5, z6] [] (Run false d 165 0 [some (.ref 85), some (.int r1), some (.int (nI 1))] [] σ) := by
  rw [Run_go [17, 21, 31, 39, 50, 62, 84, 217] 3]
  rfl
theorem s249_21 {d : Nat} {a1 : Int32} {a2 : Int32} {a3 : Int32} {a4 : Int32} {z5 : Option Value} {z6 : Option Value} {r0 : Int32} {σ : PS} : Run false (d + 1) 249 21 [some (.ref 85), some (.int a1), some (.int a2), some (.int a3), some (.int a4), z5, z6] [.int r0] σ =
    (bif obl (r0 = (nI 0)) then some (.inl (some (.int (nI 0)), σ)) else aft false (d + 1) 249 31 [some (.ref 85), some (.int a1), some (.int a2), some (.int a3), some (.int a4), z5, z6] [] (Run false d 241 0 [some (.ref 85), some (.int a4), some (.int (nI 1))] [] σ)) := by
  rw [Run_go [17, 21, 31, 39, 50, 62, 84, 217] 6]
  rfl
theorem s249_31 {d : Nat} {a1 : Int32} {a2 : Int32} {a3 : Int32} {a4 : Int32} {z5 : Option Value} {z6 : Option Value} {r0 : Int32} {σ : PS} : Run false (d + 1) 249 31 [some (.ref 85), some (.int a1), some (.int a2), some (.int a3), some (.int a4), z5, z6] [.int r0] σ =
    (bif obl (r0 = (nI 0)) then some (.inl (some (.int (nI 0)), σ)) else aft false (d + 1) 249 39 [some (.ref 85), some (.int a1), some (.int a2), some (.int a3), some (.int a4), z5, z6] [.ref 85] (Run false d 169 0 [some (.int a2)] [] σ)) := by
  rw [Run_go [17, 21, 31, 39, 50, 62, 84, 217] 5]
  rfl
theorem s249_39 {d : Nat} {a1 : Int32} {a2 : Int32} {a3 : Int32} {a4 : Int32} {z5 : Option Value} {z6 : Option Value} {r1 : Int32} {σ : PS} : Run false (d + 1) 249 39 [some (.ref 85), some (.int a1), some (.int a2), some (.int a3), some (.int a4), z5, z6] [.int r1, .ref 85] σ =
    (bif obl (r1 = (nI 0)) then aft false (d + 1) 249 62 [some (.ref 85), some (.int a1), some (.int a2), some (.int a3), some (.int a4), z5, z6] [] (Run false d 165 0 [some (.ref 85), some (.int (nI 0)), some (.int (nI 2))] [] σ) else aft false (d + 1) 249 50 [some (.ref 85), some (.int a1), some (.int a2), some (.int a3), some (.int a4), z5, z6] [.ref 85] (Run false d 166 0 [some (.int a3), some (.int (nI 1)), some (.int (nI 20000))] [] σ)) := by
  rw [Run_go [17, 21, 31, 39, 50, 62, 84, 217] 6]
  rfl
theorem s249_50 {d : Nat} {a1 : Int32} {a2 : Int32} {a3 : Int32} {a4 : Int32} {z5 : Option Value} {z6 : Option Value} {r1 : Int32} {σ : PS} : Run false (d + 1) 249 50 [some (.ref 85), some (.int a1), some (.int a2), some (.int a3), some (.int a4), z5, z6] [.int r1, .ref 85] σ =
    (bif obl (r1 = (nI 0)) then aft false (d + 1) 249 62 [some (.ref 85), some (.int a1), some (.int a2), some (.int a3), some (.int a4), z5, z6] [] (Run false d 165 0 [some (.ref 85), some (.int (nI 0)), some (.int (nI 2))] [] σ) else aft false (d + 1) 249 62 [some (.ref 85), some (.int a1), some (.int a2), some (.int a3), some (.int a4), z5, z6] [] (Run false d 165 0 [some (.ref 85), some (.int (nI 1)), some (.int (nI 2))] [] σ)) := by
  rw [Run_go [17, 21, 31, 39, 50, 62, 84, 217] 6]
  rfl
set_option maxRecDepth 100000 in
theorem s249_62 {d : Nat} {a1 : Int32} {a2 : Int32} {a3 : Int32} {a4 : Int32} {z5 : Option Value} {z6 : Option Value} {r0 : Int32} {σ : PS} : Run false (d + 1) 249 62 [some (.ref 85), some (.int a1), some (.int a2), some (.int a3), some (.int a4), z5, z6] [.int r0] σ =
    (bif obl (r0 = (nI 0)) then some (.inl (some (.int (nI 0)), σ)) else (bif obl ((FI σ 85 63) = (nI 100)) then some (.inl (some (.int (-1 : Int32)), σ)) else Run false (d + 1) 249 84 [some (.ref 85), some (.int a1), some (.int a2), some (.int a3), some (.int a4), some (.int a3), some (.int (nI 0))] [] σ)) := by
  rw [Run_go [17, 21, 31, 39, 50, 62, 84, 217] 10]
  rfl
set_option maxRecDepth 100000 in
theorem s249_84 {d : Nat} {a1 : Int32} {a2 : Int32} {a3 : Int32} {a4 : Int32} {a5 : Int32} {a6 : Int32} {σ : PS} : Run false (d + 1) 249 84 [some (.ref 85), some (.int a1), some (.int a2), some (.int a3), some (.int a4), some (.int a5), some (.int a6)] [] σ =
    (bif obl ((FI σ 85 63) ≤ a6) then (bif inb (FI σ 85 63) 100 then (bif inb (FI σ 85 63) 100 then (bif inb (FI σ 85 63) 100 then (bif inb (FI σ 85 63) 100 then (bif inb (FI σ 85 63) 100 then aft false (d + 1) 249 217 [some (.ref 85), some (.int a1), some (.int a2), some (.int a3), some (.int a4), some (.int a5), some (.int a6)] [.int a5, .int (FI σ 85 63), .ref 132] (Run false d 246 0 [some (.ref 85), some (.int a1), some (.int a2)] [] (wAI (wAI (wAI (wAI (wAI σ 127 (FI σ 85 63).toNatClampNeg a1) 128 (FI σ 85 63).toNatClampNeg a2) 129 (FI σ 85 63).toNatClampNeg a3) 130 (FI σ 85 63).toNatClampNeg a4) 131 (FI σ 85 63).toNatClampNeg (FI σ 85 1))) else none) else none) else none) else none) else none) else (bif inb a6 100 then (bif obl ((AI σ 127 a6.toNatClampNeg) = a1) then (bif inb a6 100 then (bif obl ((AI σ 128 a6.toNatClampNeg) = a2) then (bif inb a6 100 then (bif obl ((AI σ 132 a6.toNatClampNeg) = (nI 0)) then (bif inb a6 100 then Run false (d + 1) 249 84 [some (.ref 85), some (.int a1), some (.int a2), some (.int a3), some (.int a4), some (.int (a5 + (AI σ 129 a6.toNatClampNeg))), some (.int (a6 + (nI 1)))] [] σ else none) else Run false (d + 1) 249 84 [some (.ref 85), some (.int a1), some (.int a2), some (.int a3), some (.int a4), some (.int (a5 + (nI 0))), some (.int (a6 + (nI 1)))] [] σ) else none) else Run false (d + 1) 249 84 [some (.ref 85), some (.int a1), some (.int a2), some (.int a3), some (.int a4), some (.int (a5 + (nI 0))), some (.int (a6 + (nI 1)))] [] σ) else none) else Run false (d + 1) 249 84 [some (.ref 85), some (.int a1), some (.int a2), some (.int a3), some (.int a4), some (.int (a5 + (nI 0))), some (.int (a6 + (nI 1)))] [] σ) else none)) := by
  rw [Run_go [17, 21, 31, 39, 50, 62, 84, 217] 45]
  rfl
set_option maxRecDepth 100000 in
theorem s249_217 {d : Nat} {a1 : Int32} {a2 : Int32} {a3 : Int32} {a4 : Int32} {a5 : Int32} {a6 : Int32} {r1 : Int32} {r2 : Int32} {r3 : Int32} {σ : PS} : Run false (d + 1) 249 217 [some (.ref 85), some (.int a1), some (.int a2), some (.int a3), some (.int a4), some (.int a5), some (.int a6)] [.int r3, .int r2, .int r1, .ref 132] σ =
    (bif obl (r2 ≤ r3) then (bif inb r1 100 then (bif is01 (nI 0) then some (.inl (some (.int (((FI σ 85 63) + (nI 1)) - (nI 1))), (wFI (wAI σ 132 r1.toNatClampNeg (nI 0)) 85 63 ((FI σ 85 63) + (nI 1))))) else none) else none) else (bif inb r1 100 then (bif is01 (nI 1) then some (.inl (some (.int (((FI σ 85 63) + (nI 1)) - (nI 1))), (wFI (wAI σ 132 r1.toNatClampNeg (nI 1)) 85 63 ((FI σ 85 63) + (nI 1))))) else none) else none)) := by
  rw [Run_go [17, 21, 31, 39, 50, 62, 84, 217] 16]
  rfl
set_option maxRecDepth 100000 in
theorem s250_0 {d : Nat} {a1 : Int32} {σ : PS} : Run false (d + 1) 250 0 [some (.ref 85), some (.int a1)] [] σ =
    aft false (d + 1) 250 17 [some (.ref 85), some (.int a1)] [.ref 85] (Run false d 166 0 [some (.int a1), some (.int (nI 0)), some (.int ((FI σ 85 63) - (nI 1)))] [] (wFI σ 85 0 (nI 0))) := by
  rw [Run_go [17, 21] 12]
  rfl
theorem s250_17 {d : Nat} {a1 : Int32} {r1 : Int32} {σ : PS} : Run false (d + 1) 250 17 [some (.ref 85), some (.int a1)] [.int r1, .ref 85] σ =
    aft false (d + 1) 250 21 [some (.ref 85), some (.int a1)] [] (Run false d 165 0 [some (.ref 85), some (.int r1), some (.int (nI 1))] [] σ) := by
  rw [Run_go [17, 21] 3]
  rfl
theorem s250_21 {d : Nat} {a1 : Int32} {r0 : Int32} {σ : PS} : Run false (d + 1) 250 21 [some (.ref 85), some (.int a1)] [.int r0] σ =
    (bif obl (r0 = (nI 0)) then (bif is01 (nI 0) then some (.inl (some (.int (nI 0)), σ)) else none) else (bif inb a1 100 then (bif is01 (AI σ 132 a1.toNatClampNeg) then some (.inl (some (.int (AI σ 132 a1.toNatClampNeg)), σ)) else none) else none)) := by
  rw [Run_go [17, 21] 7]
  rfl
theorem s251_0 {d : Nat} {a1 : Int32} {a2 : Int32} {a3 : Int32} {a4 : Int32} {σ : PS} : Run false (d + 1) 251 0 [some (.ref 85), some (.int a1), some (.int a2), some (.int a3), some (.int a4), none, none, none] [] σ =
    Run false (d + 1) 251 6 [some (.ref 85), some (.int a1), some (.int a2), some (.int a3), some (.int a4), some (.long (lN 0)), none, some (.int (nI 0))] [] σ := by
  rw [Run_go [6, 97] 5]
  rfl
set_option maxRecDepth 100000 in
theorem s251_6 {d : Nat} {a1 : Int32} {a2 : Int32} {a3 : Int32} {a4 : Int32} {b5 : Int64} {a7 : Int32} {σ : PS} : Run false (d + 1) 251 6 [some (.ref 85), some (.int a1), some (.int a2), some (.int a3), some (.int a4), some (.long b5), none, some (.int a7)] [] σ =
    (bif obl ((FI σ 85 63) ≤ a7) then Run false (d + 1) 251 97 [some (.ref 85), some (.int a1), some (.int a2), some (.int a3), some (.int a4), some (.long b5), none, some (.int (nI 0))] [] σ else (bif inb a7 100 then (bif obl ((AI σ 130 a7.toNatClampNeg) = a1) then (bif inb a7 100 then (bif obl ((AI σ 128 a7.toNatClampNeg) = a2) then (bif inb a7 100 then (bif obl ((AI σ 132 a7.toNatClampNeg) = (nI 0)) then (bif inb a7 100 then (bif inb (AI σ 127 a7.toNatClampNeg) 60 then (bif obl ((AI σ 123 (AI σ 127 a7.toNatClampNeg).toNatClampNeg) = a3) then (bif inb a7 100 then (bif obl (a4 < (AI σ 131 a7.toNatClampNeg)) then Run false (d + 1) 251 6 [some (.ref 85), some (.int a1), some (.int a2), some (.int a3), some (.int a4), some (.long b5), none, some (.int (a7 + (nI 1)))] [] σ else (bif inb a7 100 then Run false (d + 1) 251 6 [some (.ref 85), some (.int a1), some (.int a2), some (.int a3), some (.int a4), some (.long (b5 + ((AI σ 129 a7.toNatClampNeg).toInt64))), none, some (.int (a7 + (nI 1)))] [] σ else none)) else none) else Run false (d + 1) 251 6 [some (.ref 85), some (.int a1), some (.int a2), some (.int a3), some (.int a4), some (.long b5), none, some (.int (a7 + (nI 1)))] [] σ) else none) else none) else Run false (d + 1) 251 6 [some (.ref 85), some (.int a1), some (.int a2), some (.int a3), some (.int a4), some (.long b5), none, some (.int (a7 + (nI 1)))] [] σ) else none) else Run false (d + 1) 251 6 [some (.ref 85), some (.int a1), some (.int a2), some (.int a3), some (.int a4), some (.long b5), none, some (.int (a7 + (nI 1)))] [] σ) else none) else Run false (d + 1) 251 6 [some (.ref 85), some (.int a1), some (.int a2), some (.int a3), some (.int a4), some (.long b5), none, some (.int (a7 + (nI 1)))] [] σ) else none)) := by
  rw [Run_go [6, 97] 47]
  rfl
set_option maxRecDepth 100000 in
theorem s251_97 {d : Nat} {a1 : Int32} {a2 : Int32} {a3 : Int32} {a4 : Int32} {b5 : Int64} {a7 : Int32} {σ : PS} : Run false (d + 1) 251 97 [some (.ref 85), some (.int a1), some (.int a2), some (.int a3), some (.int a4), some (.long b5), none, some (.int a7)] [] σ =
    (bif obl ((FI σ 85 75) ≤ a7) then some (.inl (some (.long b5), σ)) else (bif inb a7 12 then (bif obl ((AI σ 139 a7.toNatClampNeg) = (nI 0)) then Run false (d + 1) 251 97 [some (.ref 85), some (.int a1), some (.int a2), some (.int a3), some (.int a4), some (.long b5), none, some (.int (a7 + (nI 1)))] [] σ else (bif inb a7 12 then (bif obl ((AI σ 136 a7.toNatClampNeg) = a1) then (bif inb a7 12 then (bif obl ((AI σ 133 a7.toNatClampNeg) = a2) then (bif inb a7 12 then (bif obl ((AI σ 137 a7.toNatClampNeg) = a3) then (bif inb a7 12 then (bif obl (a4 < (AI σ 138 a7.toNatClampNeg)) then Run false (d + 1) 251 97 [some (.ref 85), some (.int a1), some (.int a2), some (.int a3), some (.int a4), some (.long b5), none, some (.int (a7 + (nI 1)))] [] σ else (bif inb a7 12 then Run false (d + 1) 251 97 [some (.ref 85), some (.int a1), some (.int a2), some (.int a3), some (.int a4), some (.long (b5 + ((AI σ 134 a7.toNatClampNeg).toInt64))), none, some (.int (a7 + (nI 1)))] [] σ else none)) else none) else Run false (d + 1) 251 97 [some (.ref 85), some (.int a1), some (.int a2), some (.int a3), some (.int a4), some (.long b5), none, some (.int (a7 + (nI 1)))] [] σ) else none) else Run false (d + 1) 251 97 [some (.ref 85), some (.int a1), some (.int a2), some (.int a3), some (.int a4), some (.long b5), none, some (.int (a7 + (nI 1)))] [] σ) else none) else Run false (d + 1) 251 97 [some (.ref 85), some (.int a1), some (.int a2), some (.int a3), some (.int a4), some (.long b5), none, some (.int (a7 + (nI 1)))] [] σ) else none)) else none)) := by
  rw [Run_go [6, 97] 44]
  rfl
set_option maxRecDepth 100000 in
theorem s252_0 {d : Nat} {a1 : Int32} {a2 : Int32} {a3 : Int32} {σ : PS} : Run false (d + 1) 252 0 [some (.ref 85), some (.int a1), some (.int a2), some (.int a3), none, none, none, none] [] σ =
    aft false (d + 1) 252 17 [some (.ref 85), some (.int a1), some (.int a2), some (.int a3), none, none, none, none] [.ref 85] (Run false d 166 0 [some (.int a3), some (.int (-1 : Int32)), some (.int ((FI σ 85 52) - (nI 1)))] [] (wFI σ 85 0 (nI 0))) := by
  rw [Run_go [17, 21, 31, 38, 50, 61, 98, 114, 123, 136, 165, 185, 212, 236] 12]
  rfl
theorem s252_17 {d : Nat} {a1 : Int32} {a2 : Int32} {a3 : Int32} {z4 : Option Value} {z5 : Option Value} {z6 : Option Value} {z7 : Option Value} {r1 : Int32} {σ : PS} : Run false (d + 1) 252 17 [some (.ref 85), some (.int a1), some (.int a2), some (.int a3), z4, z5, z6, z7] [.int r1, .ref 85] σ =
    aft false (d + 1) 252 21 [some (.ref 85), some (.int a1), some (.int a2), some (.int a3), z4, z5, z6, z7] [] (Run false d 165 0 [some (.ref 85), some (.int r1), some (.int (nI 1))] [] σ) := by
  rw [Run_go [17, 21, 31, 38, 50, 61, 98, 114, 123, 136, 165, 185, 212, 236] 3]
  rfl
theorem s252_21 {d : Nat} {a1 : Int32} {a2 : Int32} {a3 : Int32} {z4 : Option Value} {z5 : Option Value} {z6 : Option Value} {z7 : Option Value} {r0 : Int32} {σ : PS} : Run false (d + 1) 252 21 [some (.ref 85), some (.int a1), some (.int a2), some (.int a3), z4, z5, z6, z7] [.int r0] σ =
    (bif obl (r0 = (nI 0)) then some (.inl (some (.long (lN 0)), σ)) else aft false (d + 1) 252 31 [some (.ref 85), some (.int a1), some (.int a2), some (.int a3), z4, z5, z6, z7] [.ref 85] (Run false d 166 0 [some (.int a1), some (.int (nI 0)), some (.int (nI 5))] [] σ)) := by
  rw [Run_go [17, 21, 31, 38, 50, 61, 98, 114, 123, 136, 165, 185, 212, 236] 7]
  rfl
theorem s252_31 {d : Nat} {a1 : Int32} {a2 : Int32} {a3 : Int32} {z4 : Option Value} {z5 : Option Value} {z6 : Option Value} {z7 : Option Value} {r1 : Int32} {σ : PS} : Run false (d + 1) 252 31 [some (.ref 85), some (.int a1), some (.int a2), some (.int a3), z4, z5, z6, z7] [.int r1, .ref 85] σ =
    (bif obl (r1 = (nI 0)) then aft false (d + 1) 252 50 [some (.ref 85), some (.int a1), some (.int a2), some (.int a3), z4, z5, z6, z7] [] (Run false d 165 0 [some (.ref 85), some (.int (nI 0)), some (.int (nI 2))] [] σ) else aft false (d + 1) 252 38 [some (.ref 85), some (.int a1), some (.int a2), some (.int a3), z4, z5, z6, z7] [.ref 85] (Run false d 170 0 [some (.int a2)] [] σ)) := by
  rw [Run_go [17, 21, 31, 38, 50, 61, 98, 114, 123, 136, 165, 185, 212, 236] 5]
  rfl
theorem s252_38 {d : Nat} {a1 : Int32} {a2 : Int32} {a3 : Int32} {z4 : Option Value} {z5 : Option Value} {z6 : Option Value} {z7 : Option Value} {r1 : Int32} {σ : PS} : Run false (d + 1) 252 38 [some (.ref 85), some (.int a1), some (.int a2), some (.int a3), z4, z5, z6, z7] [.int r1, .ref 85] σ =
    (bif obl (r1 = (nI 0)) then aft false (d + 1) 252 50 [some (.ref 85), some (.int a1), some (.int a2), some (.int a3), z4, z5, z6, z7] [] (Run false d 165 0 [some (.ref 85), some (.int (nI 0)), some (.int (nI 2))] [] σ) else aft false (d + 1) 252 50 [some (.ref 85), some (.int a1), some (.int a2), some (.int a3), z4, z5, z6, z7] [] (Run false d 165 0 [some (.ref 85), some (.int (nI 1)), some (.int (nI 2))] [] σ)) := by
  rw [Run_go [17, 21, 31, 38, 50, 61, 98, 114, 123, 136, 165, 185, 212, 236] 6]
  rfl
theorem s252_50 {d : Nat} {a1 : Int32} {a2 : Int32} {a3 : Int32} {z4 : Option Value} {z5 : Option Value} {z6 : Option Value} {z7 : Option Value} {r0 : Int32} {σ : PS} : Run false (d + 1) 252 50 [some (.ref 85), some (.int a1), some (.int a2), some (.int a3), z4, z5, z6, z7] [.int r0] σ =
    (bif obl (r0 = (nI 0)) then some (.inl (some (.long (lN 0)), σ)) else Run false (d + 1) 252 61 [some (.ref 85), some (.int a1), some (.int a2), some (.int a3), some (.long (lN 0)), none, some (.int (nI 0)), z7] [] σ) := by
  rw [Run_go [17, 21, 31, 38, 50, 61, 98, 114, 123, 136, 165, 185, 212, 236] 6]
  rfl
set_option maxRecDepth 100000 in
theorem s252_61 {d : Nat} {a1 : Int32} {a2 : Int32} {a3 : Int32} {b4 : Int64} {a6 : Int32} {z7 : Option Value} {σ : PS} : Run false (d + 1) 252 61 [some (.ref 85), some (.int a1), some (.int a2), some (.int a3), some (.long b4), none, some (.int a6), z7] [] σ =
    (bif obl ((FI σ 85 62) ≤ a6) then (bif obl (a3 = (-1 : Int32)) then some (.inl (some (.long b4), σ)) else Run false (d + 1) 252 165 [some (.ref 85), some (.int a1), some (.int a2), some (.int a3), some (.long b4), none, some (.int (nI 0)), z7] [] σ) else (bif inb a6 60 then (bif obl ((AI σ 122 a6.toNatClampNeg) = a1) then (bif inb a6 60 then (bif obl ((AI σ 123 a6.toNatClampNeg) = a2) then Run false (d + 1) 252 98 [some (.ref 85), some (.int a1), some (.int a2), some (.int a3), some (.long b4), none, some (.int a6), some (.int (nI 0))] [] σ else Run false (d + 1) 252 61 [some (.ref 85), some (.int a1), some (.int a2), some (.int a3), some (.long b4), none, some (.int (a6 + (nI 1))), z7] [] σ) else none) else Run false (d + 1) 252 61 [some (.ref 85), some (.int a1), some (.int a2), some (.int a3), some (.long b4), none, some (.int (a6 + (nI 1))), z7] [] σ) else none)) := by
  rw [Run_go [17, 21, 31, 38, 50, 61, 98, 114, 123, 136, 165, 185, 212, 236] 20]
  rfl
set_option maxRecDepth 100000 in
theorem s252_98 {d : Nat} {a1 : Int32} {a2 : Int32} {a3 : Int32} {b4 : Int64} {a6 : Int32} {a7 : Int32} {σ : PS} : Run false (d + 1) 252 98 [some (.ref 85), some (.int a1), some (.int a2), some (.int a3), some (.long b4), none, some (.int a6), some (.int a7)] [] σ =
    (bif obl ((nI 5) ≤ a7) then Run false (d + 1) 252 61 [some (.ref 85), some (.int a1), some (.int a2), some (.int a3), some (.long b4), none, some (.int (a6 + (nI 1))), some (.int a7)] [] σ else aft false (d + 1) 252 114 [some (.ref 85), some (.int a1), some (.int a2), some (.int a3), some (.long b4), none, some (.int a6), some (.int a7)] [.long b4] (Run false d 246 0 [some (.ref 85), some (.int a6), some (.int a7)] [] σ)) := by
  rw [Run_go [17, 21, 31, 38, 50, 61, 98, 114, 123, 136, 165, 185, 212, 236] 9]
  rfl
theorem s252_114 {d : Nat} {a1 : Int32} {a2 : Int32} {a3 : Int32} {b4 : Int64} {a6 : Int32} {a7 : Int32} {q0 : Int64} {r1 : Int32} {σ : PS} : Run false (d + 1) 252 114 [some (.ref 85), some (.int a1), some (.int a2), some (.int a3), some (.long b4), none, some (.int a6), some (.int a7)] [.int r1, .long q0] σ =
    aft false (d + 1) 252 123 [some (.ref 85), some (.int a1), some (.int a2), some (.int a3), some (.long b4), none, some (.int a6), some (.int a7)] [.long (r1.toInt64), .long q0] (Run false d 200 0 [some (.ref 85), some (.int (nI 3)), some (.int a7), some (.int a2), none] [] σ) := by
  rw [Run_go [17, 21, 31, 38, 50, 61, 98, 114, 123, 136, 165, 185, 212, 236] 7]
  rfl
set_option maxRecDepth 100000 in
theorem s252_123 {d : Nat} {a1 : Int32} {a2 : Int32} {a3 : Int32} {b4 : Int64} {a6 : Int32} {a7 : Int32} {q0 : Int64} {q1 : Int64} {r2 : Int32} {σ : PS} : Run false (d + 1) 252 123 [some (.ref 85), some (.int a1), some (.int a2), some (.int a3), some (.long b4), none, some (.int a6), some (.int a7)] [.int r2, .long q1, .long q0] σ =
    (bif obl ((lN 1000) = lN 0) then none else aft false (d + 1) 252 136 [some (.ref 85), some (.int a1), some (.int a2), some (.int a3), some (.long b4), none, some (.int a6), some (.int a7)] [.int (nI 1), .long ((q1 * (r2.toInt64)) / (lN 1000)), .long q0] (Run false d 247 0 [some (.ref 85), some (.int a6), none] [] σ)) := by
  rw [Run_go [17, 21, 31, 38, 50, 61, 98, 114, 123, 136, 165, 185, 212, 236] 9]
  rfl
set_option maxRecDepth 100000 in
theorem s252_136 {d : Nat} {a1 : Int32} {a2 : Int32} {a3 : Int32} {b4 : Int64} {a6 : Int32} {a7 : Int32} {q0 : Int64} {q1 : Int64} {r2 : Int32} {r3 : Int32} {σ : PS} : Run false (d + 1) 252 136 [some (.ref 85), some (.int a1), some (.int a2), some (.int a3), some (.long b4), none, some (.int a6), some (.int a7)] [.int r3, .int r2, .long q1, .long q0] σ =
    (bif obl (((r2 + r3).toInt64) = lN 0) then none else Run false (d + 1) 252 98 [some (.ref 85), some (.int a1), some (.int a2), some (.int a3), some (.long (q0 + (q1 / ((r2 + r3).toInt64)))), none, some (.int a6), some (.int (a7 + (nI 1)))] [] σ) := by
  rw [Run_go [17, 21, 31, 38, 50, 61, 98, 114, 123, 136, 165, 185, 212, 236] 8]
  rfl
set_option maxRecDepth 100000 in
theorem s252_165 {d : Nat} {a1 : Int32} {a2 : Int32} {a3 : Int32} {b4 : Int64} {a6 : Int32} {z7 : Option Value} {σ : PS} : Run false (d + 1) 252 165 [some (.ref 85), some (.int a1), some (.int a2), some (.int a3), some (.long b4), none, some (.int a6), z7] [] σ =
    (bif obl ((FI σ 85 52) ≤ a6) then aft false (d + 1) 252 236 [some (.ref 85), some (.int a1), some (.int a2), some (.int a3), some (.long b4), none, some (.int a6), z7] [] (Run false d 237 0 [some (.ref 85), some (.long b4), none, some (.int (FI σ 85 52)), none, none, none, none, none, none] [] σ) else (bif inb a6 10 then Run false (d + 1) 252 185 [some (.ref 85), some (.int a1), some (.int a2), some (.int a3), some (.long b4), none, some (.int a6), some (.int (nI 0))] [] (wAL σ 119 a6.toNatClampNeg (lN 0)) else none)) := by
  rw [Run_go [17, 21, 31, 38, 50, 61, 98, 114, 123, 136, 165, 185, 212, 236] 12]
  rfl
set_option maxRecDepth 100000 in
theorem s252_185 {d : Nat} {a1 : Int32} {a2 : Int32} {a3 : Int32} {b4 : Int64} {a6 : Int32} {a7 : Int32} {σ : PS} : Run false (d + 1) 252 185 [some (.ref 85), some (.int a1), some (.int a2), some (.int a3), some (.long b4), none, some (.int a6), some (.int a7)] [] σ =
    (bif obl ((nI 5) ≤ a7) then Run false (d + 1) 252 165 [some (.ref 85), some (.int a1), some (.int a2), some (.int a3), some (.long b4), none, some (.int (a6 + (nI 1))), some (.int a7)] [] σ else (bif inb a6 10 then aft false (d + 1) 252 212 [some (.ref 85), some (.int a1), some (.int a2), some (.int a3), some (.long b4), none, some (.int a6), some (.int a7)] [.long (AL σ 119 a6.toNatClampNeg), .int a6, .ref 119] (Run false d 236 0 [some (.ref 85), some (.int a6), some (.int a7), some (.int a2), some (.int (FI σ 85 1)), none, none, none] [] σ) else none)) := by
  rw [Run_go [17, 21, 31, 38, 50, 61, 98, 114, 123, 136, 165, 185, 212, 236] 16]
  rfl
theorem s252_212 {d : Nat} {a1 : Int32} {a2 : Int32} {a3 : Int32} {b4 : Int64} {a6 : Int32} {a7 : Int32} {r1 : Int32} {q2 : Int64} {q3 : Int64} {σ : PS} : Run false (d + 1) 252 212 [some (.ref 85), some (.int a1), some (.int a2), some (.int a3), some (.long b4), none, some (.int a6), some (.int a7)] [.long q3, .long q2, .int r1, .ref 119] σ =
    (bif inb r1 10 then Run false (d + 1) 252 185 [some (.ref 85), some (.int a1), some (.int a2), some (.int a3), some (.long b4), none, some (.int a6), some (.int (a7 + (nI 1)))] [] (wAL σ 119 r1.toNatClampNeg (q2 + q3)) else none) := by
  rw [Run_go [17, 21, 31, 38, 50, 61, 98, 114, 123, 136, 165, 185, 212, 236] 5]
  rfl
theorem s252_236 {d : Nat} {a1 : Int32} {a2 : Int32} {a3 : Int32} {b4 : Int64} {a6 : Int32} {z7 : Option Value} {σ : PS} : Run false (d + 1) 252 236 [some (.ref 85), some (.int a1), some (.int a2), some (.int a3), some (.long b4), none, some (.int a6), z7] [] σ =
    (bif inb a3 10 then some (.inl (some (.long (AL σ 120 a3.toNatClampNeg)), σ)) else none) := by
  rw [Run_go [17, 21, 31, 38, 50, 61, 98, 114, 123, 136, 165, 185, 212, 236] 6]
  rfl
theorem s253_0 {d : Nat} {a1 : Int32} {a2 : Int32} {a3 : Int32} {σ : PS} : Run false (d + 1) 253 0 [some (.ref 85), some (.int a1), some (.int a2), some (.int a3)] [] σ =
    aft false (d + 1) 253 10 [some (.ref 85), some (.int a1), some (.int a2), some (.int a3)] [.ref 85] (Run false d 169 0 [some (.int a1)] [] (wFI σ 85 0 (nI 0))) := by
  rw [Run_go [10, 20, 30, 42] 7]
  rfl
theorem s253_10 {d : Nat} {a1 : Int32} {a2 : Int32} {a3 : Int32} {r1 : Int32} {σ : PS} : Run false (d + 1) 253 10 [some (.ref 85), some (.int a1), some (.int a2), some (.int a3)] [.int r1, .ref 85] σ =
    (bif obl (r1 = (nI 0)) then aft false (d + 1) 253 42 [some (.ref 85), some (.int a1), some (.int a2), some (.int a3)] [] (Run false d 165 0 [some (.ref 85), some (.int (nI 0)), some (.int (nI 1))] [] σ) else aft false (d + 1) 253 20 [some (.ref 85), some (.int a1), some (.int a2), some (.int a3)] [.ref 85] (Run false d 166 0 [some (.int a2), some (.int (nI 1)), some (.int (nI 100000))] [] σ)) := by
  rw [Run_go [10, 20, 30, 42] 6]
  rfl
theorem s253_20 {d : Nat} {a1 : Int32} {a2 : Int32} {a3 : Int32} {r1 : Int32} {σ : PS} : Run false (d + 1) 253 20 [some (.ref 85), some (.int a1), some (.int a2), some (.int a3)] [.int r1, .ref 85] σ =
    (bif obl (r1 = (nI 0)) then aft false (d + 1) 253 42 [some (.ref 85), some (.int a1), some (.int a2), some (.int a3)] [] (Run false d 165 0 [some (.ref 85), some (.int (nI 0)), some (.int (nI 1))] [] σ) else aft false (d + 1) 253 30 [some (.ref 85), some (.int a1), some (.int a2), some (.int a3)] [.ref 85] (Run false d 166 0 [some (.int a3), some (.int (nI 0)), some (.int (nI 100000))] [] σ)) := by
  rw [Run_go [10, 20, 30, 42] 6]
  rfl
theorem s253_30 {d : Nat} {a1 : Int32} {a2 : Int32} {a3 : Int32} {r1 : Int32} {σ : PS} : Run false (d + 1) 253 30 [some (.ref 85), some (.int a1), some (.int a2), some (.int a3)] [.int r1, .ref 85] σ =
    (bif obl (r1 = (nI 0)) then aft false (d + 1) 253 42 [some (.ref 85), some (.int a1), some (.int a2), some (.int a3)] [] (Run false d 165 0 [some (.ref 85), some (.int (nI 0)), some (.int (nI 1))] [] σ) else aft false (d + 1) 253 42 [some (.ref 85), some (.int a1), some (.int a2), some (.int a3)] [] (Run false d 165 0 [some (.ref 85), some (.int (nI 1)), some (.int (nI 1))] [] σ)) := by
  rw [Run_go [10, 20, 30, 42] 6]
  rfl
set_option maxRecDepth 100000 in
theorem s253_42 {d : Nat} {a1 : Int32} {a2 : Int32} {a3 : Int32} {r0 : Int32} {σ : PS} : Run false (d + 1) 253 42 [some (.ref 85), some (.int a1), some (.int a2), some (.int a3)] [.int r0] σ =
    (bif obl (r0 = (nI 0)) then some (.inl (some (.int (nI 0)), σ)) else (bif obl ((FI σ 85 75) = (nI 12)) then some (.inl (some (.int (-1 : Int32)), σ)) else (bif inb (FI σ 85 75) 12 then (bif inb (FI σ 85 75) 12 then (bif inb (FI σ 85 75) 12 then some (.inl (some (.int (((FI σ 85 75) + (nI 1)) - (nI 1))), (wFI (wAI (wAI (wAI σ 133 (FI σ 85 75).toNatClampNeg a1) 134 (FI σ 85 75).toNatClampNeg a2) 135 (FI σ 85 75).toNatClampNeg a3) 85 75 ((FI σ 85 75) + (nI 1))))) else none) else none) else none))) := by
  rw [Run_go [10, 20, 30, 42] 35]
  rfl
set_option maxRecDepth 100000 in
theorem s254_0 {d : Nat} {a1 : Int32} {a2 : Int32} {a3 : Int32} {σ : PS} : Run false (d + 1) 254 0 [some (.ref 85), some (.int a1), some (.int a2), some (.int a3), none, none, none, none, none, none, none, none, none] [] σ =
    aft false (d + 1) 254 11 [some (.ref 85), some (.int a1), some (.int a2), some (.int a3), none, none, none, none, none, none, none, none, none] [] (Run false d 240 0 [some (.ref 85), some (.int a1), some (.int a2), some (.int a3), some (.int (FI σ 85 1)), none, none] [] σ) := by
  rw [Run_go [11, 41, 64, 212] 8]
  rfl
set_option maxRecDepth 100000 in
theorem s254_11 {d : Nat} {a1 : Int32} {a2 : Int32} {a3 : Int32} {z4 : Option Value} {z5 : Option Value} {z6 : Option Value} {z7 : Option Value} {z8 : Option Value} {z9 : Option Value} {z10 : Option Value} {z11 : Option Value} {z12 : Option Value} {q0 : Int64} {σ : PS} : Run false (d + 1) 254 11 [some (.ref 85), some (.int a1), some (.int a2), some (.int a3), z4, z5, z6, z7, z8, z9, z10, z11, z12] [.long q0] σ =
    (bif obl ((lg_cmp q0 (lN 0)) = (nI 0)) then (bif is01 (nI 1) then some (.inl (some (.int (nI 1)), (wFI (wFI σ 85 83 (nI 0)) 85 84 (nI 0)))) else none) else Run false (d + 1) 254 41 [some (.ref 85), some (.int a1), some (.int a2), some (.int a3), some (.long q0), none, some (.int (nI 0)), some (.int (nI 0)), some (.int (nI 1)), z9, z10, z11, z12] [] (wFI (wFI σ 85 83 (nI 0)) 85 84 (nI 0))) := by
  rw [Run_go [11, 41, 64, 212] 18]
  rfl
set_option maxRecDepth 100000 in
theorem s254_41 {d : Nat} {a1 : Int32} {a2 : Int32} {a3 : Int32} {b4 : Int64} {a6 : Int32} {a7 : Int32} {a8 : Int32} {z9 : Option Value} {z10 : Option Value} {z11 : Option Value} {z12 : Option Value} {σ : PS} : Run false (d + 1) 254 41 [some (.ref 85), some (.int a1), some (.int a2), some (.int a3), some (.long b4), none, some (.int a6), some (.int a7), some (.int a8), z9, z10, z11, z12] [] σ =
    (bif obl (((nI 1) <<< ((FI σ 85 75) &&& (31 : Int32))) ≤ a8) then (bif is01 a6 then some (.inl (some (.int a6), σ)) else none) else Run false (d + 1) 254 64 [some (.ref 85), some (.int a1), some (.int a2), some (.int a3), some (.long b4), none, some (.int a6), some (.int a7), some (.int a8), some (.int (nI 0)), some (.int (nI 0)), some (.int (nI 1)), some (.int (nI 0))] [] σ) := by
  rw [Run_go [11, 41, 64, 212] 15]
  rfl
set_option maxRecDepth 100000 in
theorem s254_64 {d : Nat} {a1 : Int32} {a2 : Int32} {a3 : Int32} {b4 : Int64} {a6 : Int32} {a7 : Int32} {a8 : Int32} {a9 : Int32} {a10 : Int32} {a11 : Int32} {a12 : Int32} {σ : PS} : Run false (d + 1) 254 64 [some (.ref 85), some (.int a1), some (.int a2), some (.int a3), some (.long b4), none, some (.int a6), some (.int a7), some (.int a8), some (.int a9), some (.int a10), some (.int a11), some (.int a12)] [] σ =
    (bif obl ((FI σ 85 75) ≤ a12) then (bif obl (a11 = (nI 0)) then Run false (d + 1) 254 41 [some (.ref 85), some (.int a1), some (.int a2), some (.int a3), some (.long b4), none, some (.int a6), some (.int a7), some (.int (a8 + (nI 1))), some (.int a9), some (.int a10), some (.int a11), some (.int a12)] [] σ else (bif obl ((nI 0) ≤ (lg_cmp (a9.toInt64) b4)) then (bif obl (a6 = (nI 0)) then (bif obl ((nI 1) = (nI 0)) then Run false (d + 1) 254 41 [some (.ref 85), some (.int a1), some (.int a2), some (.int a3), some (.long b4), none, some (.int a6), some (.int a7), some (.int (a8 + (nI 1))), some (.int a9), some (.int a10), some (.int a11), some (.int (nI 1))] [] σ else Run false (d + 1) 254 41 [some (.ref 85), some (.int a1), some (.int a2), some (.int a3), some (.long b4), none, some (.int (nI 1)), some (.int a9), some (.int (a8 + (nI 1))), some (.int a9), some (.int a10), some (.int a11), some (.int (nI 1))] [] (wFI (wFI σ 85 83 a8) 85 84 a10)) else (bif obl (a10 < (FI σ 85 84)) then (bif obl ((nI 1) = (nI 0)) then Run false (d + 1) 254 41 [some (.ref 85), some (.int a1), some (.int a2), some (.int a3), some (.long b4), none, some (.int a6), some (.int a7), some (.int (a8 + (nI 1))), some (.int a9), some (.int a10), some (.int a11), some (.int (nI 1))] [] σ else Run false (d + 1) 254 41 [some (.ref 85), some (.int a1), some (.int a2), some (.int a3), some (.long b4), none, some (.int (nI 1)), some (.int a9), some (.int (a8 + (nI 1))), some (.int a9), some (.int a10), some (.int a11), some (.int (nI 1))] [] (wFI (wFI σ 85 83 a8) 85 84 a10)) else (bif obl (a10 = (FI σ 85 84)) then (bif obl (a9 < a7) then (bif obl ((nI 1) = (nI 0)) then Run false (d + 1) 254 41 [some (.ref 85), some (.int a1), some (.int a2), some (.int a3), some (.long b4), none, some (.int a6), some (.int a7), some (.int (a8 + (nI 1))), some (.int a9), some (.int a10), some (.int a11), some (.int (nI 1))] [] σ else Run false (d + 1) 254 41 [some (.ref 85), some (.int a1), some (.int a2), some (.int a3), some (.long b4), none, some (.int (nI 1)), some (.int a9), some (.int (a8 + (nI 1))), some (.int a9), some (.int a10), some (.int a11), some (.int (nI 1))] [] (wFI (wFI σ 85 83 a8) 85 84 a10)) else (bif obl (a9 = a7) then aft false (d + 1) 254 212 [some (.ref 85), some (.int a1), some (.int a2), some (.int a3), some (.long b4), none, some (.int a6), some (.int a7), some (.int a8), some (.int a9), some (.int a10), some (.int a11), some (.int a12)] [] (Run false d 255 0 [some (.int a8), some (.int (FI σ 85 83)), none, none] [] σ) else (bif obl ((nI 0) = (nI 0)) then Run false (d + 1) 254 41 [some (.ref 85), some (.int a1), some (.int a2), some (.int a3), some (.long b4), none, some (.int a6), some (.int a7), some (.int (a8 + (nI 1))), some (.int a9), some (.int a10), some (.int a11), some (.int (nI 0))] [] σ else Run false (d + 1) 254 41 [some (.ref 85), some (.int a1), some (.int a2), some (.int a3), some (.long b4), none, some (.int (nI 1)), some (.int a9), some (.int (a8 + (nI 1))), some (.int a9), some (.int a10), some (.int a11), some (.int (nI 0))] [] (wFI (wFI σ 85 83 a8) 85 84 a10)))) else (bif obl ((nI 0) = (nI 0)) then Run false (d + 1) 254 41 [some (.ref 85), some (.int a1), some (.int a2), some (.int a3), some (.long b4), none, some (.int a6), some (.int a7), some (.int (a8 + (nI 1))), some (.int a9), some (.int a10), some (.int a11), some (.int (nI 0))] [] σ else Run false (d + 1) 254 41 [some (.ref 85), some (.int a1), some (.int a2), some (.int a3), some (.long b4), none, some (.int (nI 1)), some (.int a9), some (.int (a8 + (nI 1))), some (.int a9), some (.int a10), some (.int a11), some (.int (nI 0))] [] (wFI (wFI σ 85 83 a8) 85 84 a10))))) else Run false (d + 1) 254 41 [some (.ref 85), some (.int a1), some (.int a2), some (.int a3), some (.long b4), none, some (.int a6), some (.int a7), some (.int (a8 + (nI 1))), some (.int a9), some (.int a10), some (.int a11), some (.int a12)] [] σ)) else (bif obl (((a8 >>> (a12 &&& (31 : Int32))) &&& (nI 1)) = (nI 0)) then Run false (d + 1) 254 64 [some (.ref 85), some (.int a1), some (.int a2), some (.int a3), some (.long b4), none, some (.int a6), some (.int a7), some (.int a8), some (.int a9), some (.int a10), some (.int a11), some (.int (a12 + (nI 1)))] [] σ else (bif obl (a11 = (nI 0)) then (bif inb a12 12 then (bif inb a12 12 then Run false (d + 1) 254 64 [some (.ref 85), some (.int a1), some (.int a2), some (.int a3), some (.long b4), none, some (.int a6), some (.int a7), some (.int a8), some (.int (a9 + (AI σ 134 a12.toNatClampNeg))), some (.int (a10 + (AI σ 135 a12.toNatClampNeg))), some (.int (nI 0)), some (.int (a12 + (nI 1)))] [] σ else none) else none) else (bif inb a12 12 then (bif obl ((AI σ 139 a12.toNatClampNeg) = (nI 0)) then (bif inb a12 12 then (bif obl ((AI σ 133 a12.toNatClampNeg) = a2) then (bif inb a12 12 then (bif inb a12 12 then Run false (d + 1) 254 64 [some (.ref 85), some (.int a1), some (.int a2), some (.int a3), some (.long b4), none, some (.int a6), some (.int a7), some (.int a8), some (.int (a9 + (AI σ 134 a12.toNatClampNeg))), some (.int (a10 + (AI σ 135 a12.toNatClampNeg))), some (.int (nI 1)), some (.int (a12 + (nI 1)))] [] σ else none) else none) else (bif inb a12 12 then (bif inb a12 12 then Run false (d + 1) 254 64 [some (.ref 85), some (.int a1), some (.int a2), some (.int a3), some (.long b4), none, some (.int a6), some (.int a7), some (.int a8), some (.int (a9 + (AI σ 134 a12.toNatClampNeg))), some (.int (a10 + (AI σ 135 a12.toNatClampNeg))), some (.int (nI 0)), some (.int (a12 + (nI 1)))] [] σ else none) else none)) else none) else (bif inb a12 12 then (bif inb a12 12 then Run false (d + 1) 254 64 [some (.ref 85), some (.int a1), some (.int a2), some (.int a3), some (.long b4), none, some (.int a6), some (.int a7), some (.int a8), some (.int (a9 + (AI σ 134 a12.toNatClampNeg))), some (.int (a10 + (AI σ 135 a12.toNatClampNeg))), some (.int (nI 0)), some (.int (a12 + (nI 1)))] [] σ else none) else none)) else none)))) := by
  rw [Run_go [11, 41, 64, 212] 44]
  rfl
set_option maxRecDepth 100000 in
theorem s254_212 {d : Nat} {a1 : Int32} {a2 : Int32} {a3 : Int32} {b4 : Int64} {a6 : Int32} {a7 : Int32} {a8 : Int32} {a9 : Int32} {a10 : Int32} {a11 : Int32} {a12 : Int32} {r0 : Int32} {σ : PS} : Run false (d + 1) 254 212 [some (.ref 85), some (.int a1), some (.int a2), some (.int a3), some (.long b4), none, some (.int a6), some (.int a7), some (.int a8), some (.int a9), some (.int a10), some (.int a11), some (.int a12)] [.int r0] σ =
    (bif obl (r0 = (nI 0)) then (bif obl ((nI 0) = (nI 0)) then Run false (d + 1) 254 41 [some (.ref 85), some (.int a1), some (.int a2), some (.int a3), some (.long b4), none, some (.int a6), some (.int a7), some (.int (a8 + (nI 1))), some (.int a9), some (.int a10), some (.int a11), some (.int (nI 0))] [] σ else Run false (d + 1) 254 41 [some (.ref 85), some (.int a1), some (.int a2), some (.int a3), some (.long b4), none, some (.int (nI 1)), some (.int a9), some (.int (a8 + (nI 1))), some (.int a9), some (.int a10), some (.int a11), some (.int (nI 0))] [] (wFI (wFI σ 85 83 a8) 85 84 a10)) else (bif obl ((nI 1) = (nI 0)) then Run false (d + 1) 254 41 [some (.ref 85), some (.int a1), some (.int a2), some (.int a3), some (.long b4), none, some (.int a6), some (.int a7), some (.int (a8 + (nI 1))), some (.int a9), some (.int a10), some (.int a11), some (.int (nI 1))] [] σ else Run false (d + 1) 254 41 [some (.ref 85), some (.int a1), some (.int a2), some (.int a3), some (.long b4), none, some (.int (nI 1)), some (.int a9), some (.int (a8 + (nI 1))), some (.int a9), some (.int a10), some (.int a11), some (.int (nI 1))] [] (wFI (wFI σ 85 83 a8) 85 84 a10))) := by
  rw [Run_go [11, 41, 64, 212] 19]
  rfl
set_option maxRecDepth 100000 in
theorem s255_0 {d : Nat} {a0 : Int32} {a1 : Int32} {σ : PS} : Run false (d + 1) 255 0 [some (.int a0), some (.int a1), none, none] [] σ =
    (bif obl ((a0 &&& ((a0 ^^^ a1) &&& (-(a0 ^^^ a1)))) = (nI 0)) then (bif is01 (nI 0) then some (.inl (some (.int (nI 0)), σ)) else none) else (bif is01 (nI 1) then some (.inl (some (.int (nI 1)), σ)) else none)) := by
  rw [Run_go [] 17]
  rfl
set_option maxRecDepth 100000 in
theorem s256_0 {d : Nat} {a1 : Int32} {a2 : Int32} {a3 : Int32} {a4 : Int32} {σ : PS} : Run false (d + 1) 256 0 [some (.ref 85), some (.int a1), some (.int a2), some (.int a3), some (.int a4)] [] σ =
    aft false (d + 1) 256 11 [some (.ref 85), some (.int a1), some (.int a2), some (.int a3), some (.int a4)] [] (Run false d 241 0 [some (.ref 85), some (.int a1), some (.int (nI 1))] [] (wFI σ 85 0 (nI 0))) := by
  rw [Run_go [11, 19, 26, 36, 48, 60] 8]
  rfl
theorem s256_11 {d : Nat} {a1 : Int32} {a2 : Int32} {a3 : Int32} {a4 : Int32} {r0 : Int32} {σ : PS} : Run false (d + 1) 256 11 [some (.ref 85), some (.int a1), some (.int a2), some (.int a3), some (.int a4)] [.int r0] σ =
    (bif obl (r0 = (nI 0)) then some (.inl (some (.int (nI 0)), σ)) else aft false (d + 1) 256 19 [some (.ref 85), some (.int a1), some (.int a2), some (.int a3), some (.int a4)] [.ref 85] (Run false d 169 0 [some (.int a2)] [] σ)) := by
  rw [Run_go [11, 19, 26, 36, 48, 60] 5]
  rfl
theorem s256_19 {d : Nat} {a1 : Int32} {a2 : Int32} {a3 : Int32} {a4 : Int32} {r1 : Int32} {σ : PS} : Run false (d + 1) 256 19 [some (.ref 85), some (.int a1), some (.int a2), some (.int a3), some (.int a4)] [.int r1, .ref 85] σ =
    (bif obl (r1 = (nI 0)) then aft false (d + 1) 256 48 [some (.ref 85), some (.int a1), some (.int a2), some (.int a3), some (.int a4)] [] (Run false d 165 0 [some (.ref 85), some (.int (nI 0)), some (.int (nI 2))] [] σ) else aft false (d + 1) 256 26 [some (.ref 85), some (.int a1), some (.int a2), some (.int a3), some (.int a4)] [.ref 85] (Run false d 170 0 [some (.int a3)] [] σ)) := by
  rw [Run_go [11, 19, 26, 36, 48, 60] 5]
  rfl
theorem s256_26 {d : Nat} {a1 : Int32} {a2 : Int32} {a3 : Int32} {a4 : Int32} {r1 : Int32} {σ : PS} : Run false (d + 1) 256 26 [some (.ref 85), some (.int a1), some (.int a2), some (.int a3), some (.int a4)] [.int r1, .ref 85] σ =
    (bif obl (r1 = (nI 0)) then aft false (d + 1) 256 48 [some (.ref 85), some (.int a1), some (.int a2), some (.int a3), some (.int a4)] [] (Run false d 165 0 [some (.ref 85), some (.int (nI 0)), some (.int (nI 2))] [] σ) else aft false (d + 1) 256 36 [some (.ref 85), some (.int a1), some (.int a2), some (.int a3), some (.int a4)] [.ref 85] (Run false d 166 0 [some (.int a4), some (.int (nI 0)), some (.int (nI 1))] [] σ)) := by
  rw [Run_go [11, 19, 26, 36, 48, 60] 6]
  rfl
theorem s256_36 {d : Nat} {a1 : Int32} {a2 : Int32} {a3 : Int32} {a4 : Int32} {r1 : Int32} {σ : PS} : Run false (d + 1) 256 36 [some (.ref 85), some (.int a1), some (.int a2), some (.int a3), some (.int a4)] [.int r1, .ref 85] σ =
    (bif obl (r1 = (nI 0)) then aft false (d + 1) 256 48 [some (.ref 85), some (.int a1), some (.int a2), some (.int a3), some (.int a4)] [] (Run false d 165 0 [some (.ref 85), some (.int (nI 0)), some (.int (nI 2))] [] σ) else aft false (d + 1) 256 48 [some (.ref 85), some (.int a1), some (.int a2), some (.int a3), some (.int a4)] [] (Run false d 165 0 [some (.ref 85), some (.int (nI 1)), some (.int (nI 2))] [] σ)) := by
  rw [Run_go [11, 19, 26, 36, 48, 60] 6]
  rfl
theorem s256_48 {d : Nat} {a1 : Int32} {a2 : Int32} {a3 : Int32} {a4 : Int32} {r0 : Int32} {σ : PS} : Run false (d + 1) 256 48 [some (.ref 85), some (.int a1), some (.int a2), some (.int a3), some (.int a4)] [.int r0] σ =
    (bif obl (r0 = (nI 0)) then some (.inl (some (.int (nI 0)), σ)) else aft false (d + 1) 256 60 [some (.ref 85), some (.int a1), some (.int a2), some (.int a3), some (.int a4)] [] (Run false d 254 0 [some (.ref 85), some (.int a1), some (.int a2), some (.int a3), none, none, none, none, none, none, none, none, none] [] σ)) := by
  rw [Run_go [11, 19, 26, 36, 48, 60] 7]
  rfl
set_option maxRecDepth 100000 in
theorem s256_60 {d : Nat} {a1 : Int32} {a2 : Int32} {a3 : Int32} {a4 : Int32} {r0 : Int32} {σ : PS} : Run false (d + 1) 256 60 [some (.ref 85), some (.int a1), some (.int a2), some (.int a3), some (.int a4)] [.int r0] σ =
    (bif obl (r0 = (nI 0)) then some (.inl (some (.int (-1 : Int32)), σ)) else (bif obl (a4 = (nI 0)) then some (.inl (some (.int (FI σ 85 84)), σ)) else some (.inl (some (.int (FI σ 85 83)), σ)))) := by
  rw [Run_go [11, 19, 26, 36, 48, 60] 8]
  rfl
set_option maxRecDepth 100000 in
theorem s257_0 {d : Nat} {a1 : Int32} {a2 : Int32} {a3 : Int32} {σ : PS} : Run false (d + 1) 257 0 [some (.ref 85), some (.int a1), some (.int a2), some (.int a3), none] [] σ =
    aft false (d + 1) 257 11 [some (.ref 85), some (.int a1), some (.int a2), some (.int a3), none] [] (Run false d 241 0 [some (.ref 85), some (.int a1), some (.int (nI 1))] [] (wFI σ 85 0 (nI 0))) := by
  rw [Run_go [11, 19, 26, 38, 50, 58] 8]
  rfl
theorem s257_11 {d : Nat} {a1 : Int32} {a2 : Int32} {a3 : Int32} {z4 : Option Value} {r0 : Int32} {σ : PS} : Run false (d + 1) 257 11 [some (.ref 85), some (.int a1), some (.int a2), some (.int a3), z4] [.int r0] σ =
    (bif obl (r0 = (nI 0)) then some (.inl (some (.int (nI 0)), σ)) else aft false (d + 1) 257 19 [some (.ref 85), some (.int a1), some (.int a2), some (.int a3), z4] [.ref 85] (Run false d 169 0 [some (.int a2)] [] σ)) := by
  rw [Run_go [11, 19, 26, 38, 50, 58] 5]
  rfl
theorem s257_19 {d : Nat} {a1 : Int32} {a2 : Int32} {a3 : Int32} {z4 : Option Value} {r1 : Int32} {σ : PS} : Run false (d + 1) 257 19 [some (.ref 85), some (.int a1), some (.int a2), some (.int a3), z4] [.int r1, .ref 85] σ =
    (bif obl (r1 = (nI 0)) then aft false (d + 1) 257 38 [some (.ref 85), some (.int a1), some (.int a2), some (.int a3), z4] [] (Run false d 165 0 [some (.ref 85), some (.int (nI 0)), some (.int (nI 2))] [] σ) else aft false (d + 1) 257 26 [some (.ref 85), some (.int a1), some (.int a2), some (.int a3), z4] [.ref 85] (Run false d 170 0 [some (.int a3)] [] σ)) := by
  rw [Run_go [11, 19, 26, 38, 50, 58] 5]
  rfl
theorem s257_26 {d : Nat} {a1 : Int32} {a2 : Int32} {a3 : Int32} {z4 : Option Value} {r1 : Int32} {σ : PS} : Run false (d + 1) 257 26 [some (.ref 85), some (.int a1), some (.int a2), some (.int a3), z4] [.int r1, .ref 85] σ =
    (bif obl (r1 = (nI 0)) then aft false (d + 1) 257 38 [some (.ref 85), some (.int a1), some (.int a2), some (.int a3), z4] [] (Run false d 165 0 [some (.ref 85), some (.int (nI 0)), some (.int (nI 2))] [] σ) else aft false (d + 1) 257 38 [some (.ref 85), some (.int a1), some (.int a2), some (.int a3), z4] [] (Run false d 165 0 [some (.ref 85), some (.int (nI 1)), some (.int (nI 2))] [] σ)) := by
  rw [Run_go [11, 19, 26, 38, 50, 58] 6]
  rfl
theorem s257_38 {d : Nat} {a1 : Int32} {a2 : Int32} {a3 : Int32} {z4 : Option Value} {r0 : Int32} {σ : PS} : Run false (d + 1) 257 38 [some (.ref 85), some (.int a1), some (.int a2), some (.int a3), z4] [.int r0] σ =
    (bif obl (r0 = (nI 0)) then some (.inl (some (.int (nI 0)), σ)) else aft false (d + 1) 257 50 [some (.ref 85), some (.int a1), some (.int a2), some (.int a3), z4] [] (Run false d 254 0 [some (.ref 85), some (.int a1), some (.int a2), some (.int a3), none, none, none, none, none, none, none, none, none] [] σ)) := by
  rw [Run_go [11, 19, 26, 38, 50, 58] 7]
  rfl
theorem s257_50 {d : Nat} {a1 : Int32} {a2 : Int32} {a3 : Int32} {z4 : Option Value} {r0 : Int32} {σ : PS} : Run false (d + 1) 257 50 [some (.ref 85), some (.int a1), some (.int a2), some (.int a3), z4] [.int r0] σ =
    (bif obl (r0 = (nI 0)) then some (.inl (some (.int (-1 : Int32)), σ)) else Run false (d + 1) 257 58 [some (.ref 85), some (.int a1), some (.int a2), some (.int a3), some (.int (nI 0))] [] σ) := by
  rw [Run_go [11, 19, 26, 38, 50, 58] 4]
  rfl
set_option maxRecDepth 100000 in
theorem s257_58 {d : Nat} {a1 : Int32} {a2 : Int32} {a3 : Int32} {a4 : Int32} {σ : PS} : Run false (d + 1) 257 58 [some (.ref 85), some (.int a1), some (.int a2), some (.int a3), some (.int a4)] [] σ =
    (bif obl ((FI σ 85 75) ≤ a4) then (bif inb a1 4 then (bif inb a1 4 then some (.inl (some (.int (FI σ 85 84)), (wAI σ 118 a1.toNatClampNeg ((AI σ 118 a1.toNatClampNeg) + (FI σ 85 84))))) else none) else none) else (bif obl ((((FI σ 85 83) >>> (a4 &&& (31 : Int32))) &&& (nI 1)) = (nI 0)) then Run false (d + 1) 257 58 [some (.ref 85), some (.int a1), some (.int a2), some (.int a3), some (.int (a4 + (nI 1)))] [] σ else (bif inb a4 12 then (bif is01 (nI 1) then (bif inb a4 12 then (bif inb a4 12 then (bif inb a4 12 then Run false (d + 1) 257 58 [some (.ref 85), some (.int a1), some (.int a2), some (.int a3), some (.int (a4 + (nI 1)))] [] (wAI (wAI (wAI (wAI σ 139 a4.toNatClampNeg (nI 1)) 136 a4.toNatClampNeg a1) 137 a4.toNatClampNeg a3) 138 a4.toNatClampNeg (FI σ 85 1)) else none) else none) else none) else none) else none))) := by
  rw [Run_go [11, 19, 26, 38, 50, 58] 35]
  rfl
set_option maxRecDepth 100000 in
theorem s258_0 {d : Nat} {a1 : Int32} {σ : PS} : Run false (d + 1) 258 0 [some (.ref 85), some (.int a1)] [] σ =
    aft false (d + 1) 258 11 [some (.ref 85), some (.int a1)] [] (Run false d 241 0 [some (.ref 85), some (.int a1), some (.int (nI 1))] [] (wFI σ 85 0 (nI 0))) := by
  rw [Run_go [11] 8]
  rfl
theorem s258_11 {d : Nat} {a1 : Int32} {r0 : Int32} {σ : PS} : Run false (d + 1) 258 11 [some (.ref 85), some (.int a1)] [.int r0] σ =
    (bif obl (r0 = (nI 0)) then some (.inl (some (.int (nI 0)), σ)) else (bif inb a1 4 then some (.inl (some (.int (AI σ 118 a1.toNatClampNeg)), σ)) else none)) := by
  rw [Run_go [11] 7]
  rfl
theorem s259_0 {d : Nat} {a1 : Int32} {a2 : Int32} {a3 : Int32} {a4 : Int32} {a5 : Int32} {σ : PS} : Run false (d + 1) 259 0 [some (.ref 85), some (.int a1), some (.int a2), some (.int a3), some (.int a4), some (.int a5)] [] σ =
    aft false (d + 1) 259 10 [some (.ref 85), some (.int a1), some (.int a2), some (.int a3), some (.int a4), some (.int a5)] [] (Run false d 206 0 [some (.ref 85), some (.int a1)] [] (wFI σ 85 0 (nI 0))) := by
  rw [Run_go [10, 18, 30, 42, 53, 65] 7]
  rfl
theorem s259_10 {d : Nat} {a1 : Int32} {a2 : Int32} {a3 : Int32} {a4 : Int32} {a5 : Int32} {r0 : Int32} {σ : PS} : Run false (d + 1) 259 10 [some (.ref 85), some (.int a1), some (.int a2), some (.int a3), some (.int a4), some (.int a5)] [.int r0] σ =
    (bif obl (r0 = (nI 0)) then some (.inl (some (.int (nI 0)), σ)) else aft false (d + 1) 259 18 [some (.ref 85), some (.int a1), some (.int a2), some (.int a3), some (.int a4), some (.int a5)] [.ref 85] (Run false d 169 0 [some (.int a2)] [] σ)) := by
  rw [Run_go [10, 18, 30, 42, 53, 65] 5]
  rfl
theorem s259_18 {d : Nat} {a1 : Int32} {a2 : Int32} {a3 : Int32} {a4 : Int32} {a5 : Int32} {r1 : Int32} {σ : PS} : Run false (d + 1) 259 18 [some (.ref 85), some (.int a1), some (.int a2), some (.int a3), some (.int a4), some (.int a5)] [.int r1, .ref 85] σ =
    (bif obl (r1 = (nI 0)) then aft false (d + 1) 259 65 [some (.ref 85), some (.int a1), some (.int a2), some (.int a3), some (.int a4), some (.int a5)] [] (Run false d 165 0 [some (.ref 85), some (.int (nI 0)), some (.int (nI 2))] [] σ) else aft false (d + 1) 259 30 [some (.ref 85), some (.int a1), some (.int a2), some (.int a3), some (.int a4), some (.int a5)] [.ref 85] (Run false d 166 0 [some (.int a3), some (.int (nI 0)), some (.int (FI σ 85 1))] [] σ)) := by
  rw [Run_go [10, 18, 30, 42, 53, 65] 7]
  rfl
theorem s259_30 {d : Nat} {a1 : Int32} {a2 : Int32} {a3 : Int32} {a4 : Int32} {a5 : Int32} {r1 : Int32} {σ : PS} : Run false (d + 1) 259 30 [some (.ref 85), some (.int a1), some (.int a2), some (.int a3), some (.int a4), some (.int a5)] [.int r1, .ref 85] σ =
    (bif obl (r1 = (nI 0)) then aft false (d + 1) 259 65 [some (.ref 85), some (.int a1), some (.int a2), some (.int a3), some (.int a4), some (.int a5)] [] (Run false d 165 0 [some (.ref 85), some (.int (nI 0)), some (.int (nI 2))] [] σ) else aft false (d + 1) 259 42 [some (.ref 85), some (.int a1), some (.int a2), some (.int a3), some (.int a4), some (.int a5)] [.ref 85] (Run false d 166 0 [some (.int a4), some (.int (nI 1)), some (.int (nI 1000))] [] σ)) := by
  rw [Run_go [10, 18, 30, 42, 53, 65] 6]
  rfl
theorem s259_42 {d : Nat} {a1 : Int32} {a2 : Int32} {a3 : Int32} {a4 : Int32} {a5 : Int32} {r1 : Int32} {σ : PS} : Run false (d + 1) 259 42 [some (.ref 85), some (.int a1), some (.int a2), some (.int a3), some (.int a4), some (.int a5)] [.int r1, .ref 85] σ =
    (bif obl (r1 = (nI 0)) then aft false (d + 1) 259 65 [some (.ref 85), some (.int a1), some (.int a2), some (.int a3), some (.int a4), some (.int a5)] [] (Run false d 165 0 [some (.ref 85), some (.int (nI 0)), some (.int (nI 2))] [] σ) else aft false (d + 1) 259 53 [some (.ref 85), some (.int a1), some (.int a2), some (.int a3), some (.int a4), some (.int a5)] [.ref 85] (Run false d 166 0 [some (.int a5), some (.int (nI 0)), some (.int a4)] [] σ)) := by
  rw [Run_go [10, 18, 30, 42, 53, 65] 6]
  rfl
theorem s259_53 {d : Nat} {a1 : Int32} {a2 : Int32} {a3 : Int32} {a4 : Int32} {a5 : Int32} {r1 : Int32} {σ : PS} : Run false (d + 1) 259 53 [some (.ref 85), some (.int a1), some (.int a2), some (.int a3), some (.int a4), some (.int a5)] [.int r1, .ref 85] σ =
    (bif obl (r1 = (nI 0)) then aft false (d + 1) 259 65 [some (.ref 85), some (.int a1), some (.int a2), some (.int a3), some (.int a4), some (.int a5)] [] (Run false d 165 0 [some (.ref 85), some (.int (nI 0)), some (.int (nI 2))] [] σ) else aft false (d + 1) 259 65 [some (.ref 85), some (.int a1), some (.int a2), some (.int a3), some (.int a4), some (.int a5)] [] (Run false d 165 0 [some (.ref 85), some (.int (nI 1)), some (.int (nI 2))] [] σ)) := by
  rw [Run_go [10, 18, 30, 42, 53, 65] 6]
  rfl
set_option maxRecDepth 100000 in
theorem s259_65 {d : Nat} {a1 : Int32} {a2 : Int32} {a3 : Int32} {a4 : Int32} {a5 : Int32} {r0 : Int32} {σ : PS} : Run false (d + 1) 259 65 [some (.ref 85), some (.int a1), some (.int a2), some (.int a3), some (.int a4), some (.int a5)] [.int r0] σ =
    (bif obl (r0 = (nI 0)) then some (.inl (some (.int (nI 0)), σ)) else (bif obl ((FI σ 85 85) = (nI 60)) then some (.inl (some (.int (-1 : Int32)), σ)) else (bif inb (FI σ 85 85) 60 then (bif inb (FI σ 85 85) 60 then (bif inb (FI σ 85 85) 60 then (bif inb (FI σ 85 85) 60 then (bif inb (FI σ 85 85) 60 then some (.inl (some (.int ((FI σ 85 85) + (nI 1))), (wFI (wAI (wAI (wAI (wAI (wAI σ 140 (FI σ 85 85).toNatClampNeg a1) 141 (FI σ 85 85).toNatClampNeg a2) 142 (FI σ 85 85).toNatClampNeg a3) 143 (FI σ 85 85).toNatClampNeg a4) 144 (FI σ 85 85).toNatClampNeg a5) 85 85 ((FI σ 85 85) + (nI 1))))) else none) else none) else none) else none) else none))) := by
  rw [Run_go [10, 18, 30, 42, 53, 65] 45]
  rfl
theorem s260_0 {d : Nat} {a1 : Int32} {a2 : Int32} {σ : PS} : Run false (d + 1) 260 0 [some (.ref 85), some (.int a1), some (.int a2), none, none, none] [] σ =
    Run false (d + 1) 260 5 [some (.ref 85), some (.int a1), some (.int a2), some (.long (lN 0)), none, some (.int (nI 0))] [] σ := by
  rw [Run_go [5, 33] 5]
  rfl
set_option maxRecDepth 100000 in
theorem s260_5 {d : Nat} {a1 : Int32} {a2 : Int32} {b3 : Int64} {a5 : Int32} {σ : PS} : Run false (d + 1) 260 5 [some (.ref 85), some (.int a1), some (.int a2), some (.long b3), none, some (.int a5)] [] σ =
    (bif obl ((FI σ 85 62) ≤ a5) then some (.inl (some (.long b3), σ)) else (bif inb a5 60 then (bif obl ((AI σ 123 a5.toNatClampNeg) = a2) then aft false (d + 1) 260 33 [some (.ref 85), some (.int a1), some (.int a2), some (.long b3), none, some (.int a5)] [.long b3] (Run false d 246 0 [some (.ref 85), some (.int a5), some (.int a1)] [] σ) else Run false (d + 1) 260 5 [some (.ref 85), some (.int a1), some (.int a2), some (.long (b3 + (lN 0))), none, some (.int (a5 + (nI 1)))] [] σ) else none)) := by
  rw [Run_go [5, 33] 17]
  rfl
theorem s260_33 {d : Nat} {a1 : Int32} {a2 : Int32} {b3 : Int64} {a5 : Int32} {q0 : Int64} {r1 : Int32} {σ : PS} : Run false (d + 1) 260 33 [some (.ref 85), some (.int a1), some (.int a2), some (.long b3), none, some (.int a5)] [.int r1, .long q0] σ =
    Run false (d + 1) 260 5 [some (.ref 85), some (.int a1), some (.int a2), some (.long (q0 + (r1.toInt64))), none, some (.int (a5 + (nI 1)))] [] σ := by
  rw [Run_go [5, 33] 7]
  rfl
theorem s261_0 {d : Nat} {a1 : Int32} {a2 : Int32} {a3 : Int32} {σ : PS} : Run false (d + 1) 261 0 [some (.ref 85), some (.int a1), some (.int a2), some (.int a3), none, none, none, none, none] [] σ =
    Run false (d + 1) 261 9 [some (.ref 85), some (.int a1), some (.int a2), some (.int a3), some (.int (nI 0)), some (.int (nI 0)), some (.int (nI 0)), none, none] [] σ := by
  rw [Run_go [9, 94, 125] 7]
  rfl
set_option maxRecDepth 100000 in
theorem s261_9 {d : Nat} {a1 : Int32} {a2 : Int32} {a3 : Int32} {a4 : Int32} {a5 : Int32} {a6 : Int32} {z7 : Option Value} {z8 : Option Value} {σ : PS} : Run false (d + 1) 261 9 [some (.ref 85), some (.int a1), some (.int a2), some (.int a3), some (.int a4), some (.int a5), some (.int a6), z7, z8] [] σ =
    (bif obl ((FI σ 85 85) ≤ a6) then (bif obl (a4 = (nI 0)) then (bif is01 (nI 0) then some (.inl (some (.int (nI 0)), σ)) else none) else Run false (d + 1) 261 94 [some (.ref 85), some (.int a1), some (.int a2), some (.int a3), some (.int a4), some (.int a5), some (.int (nI 0)), z7, z8] [] σ) else (bif inb a6 60 then (bif obl ((AI σ 140 a6.toNatClampNeg) = a1) then (bif inb a6 60 then (bif obl ((AI σ 141 a6.toNatClampNeg) = a2) then (bif inb a6 60 then (bif obl ((AI σ 142 a6.toNatClampNeg) = a3) then (bif inb a6 60 then (bif inb a6 60 then Run false (d + 1) 261 9 [some (.ref 85), some (.int a1), some (.int a2), some (.int a3), some (.int (a4 + (AI σ 143 a6.toNatClampNeg))), some (.int (a5 + (AI σ 144 a6.toNatClampNeg))), some (.int (a6 + (nI 1))), z7, z8] [] σ else none) else none) else Run false (d + 1) 261 9 [some (.ref 85), some (.int a1), some (.int a2), some (.int a3), some (.int a4), some (.int a5), some (.int (a6 + (nI 1))), z7, z8] [] σ) else none) else Run false (d + 1) 261 9 [some (.ref 85), some (.int a1), some (.int a2), some (.int a3), some (.int a4), some (.int a5), some (.int (a6 + (nI 1))), z7, z8] [] σ) else none) else Run false (d + 1) 261 9 [some (.ref 85), some (.int a1), some (.int a2), some (.int a3), some (.int a4), some (.int a5), some (.int (a6 + (nI 1))), z7, z8] [] σ) else none)) := by
  rw [Run_go [9, 94, 125] 39]
  rfl
set_option maxRecDepth 100000 in
theorem s261_94 {d : Nat} {a1 : Int32} {a2 : Int32} {a3 : Int32} {a4 : Int32} {a5 : Int32} {a6 : Int32} {z7 : Option Value} {z8 : Option Value} {σ : PS} : Run false (d + 1) 261 94 [some (.ref 85), some (.int a1), some (.int a2), some (.int a3), some (.int a4), some (.int a5), some (.int a6), z7, z8] [] σ =
    (bif obl (((nI 4) * a5) < ((a6 + (nI 1)) * (a6 + (nI 1)))) then aft false (d + 1) 261 125 [some (.ref 85), some (.int a1), some (.int a2), some (.int a3), some (.int a4), some (.int a5), some (.int (a6 + (nI 1))), z7, z8] [] (Run false d 260 0 [some (.ref 85), some (.int a2), some (.int a3), none, none, none] [] σ) else Run false (d + 1) 261 94 [some (.ref 85), some (.int a1), some (.int a2), some (.int a3), some (.int a4), some (.int a5), some (.int (a6 + (nI 1))), z7, z8] [] σ) := by
  rw [Run_go [9, 94, 125] 17]
  rfl
set_option maxRecDepth 100000 in
theorem s261_125 {d : Nat} {a1 : Int32} {a2 : Int32} {a3 : Int32} {a4 : Int32} {a5 : Int32} {a6 : Int32} {z7 : Option Value} {z8 : Option Value} {q0 : Int64} {σ : PS} : Run false (d + 1) 261 125 [some (.ref 85), some (.int a1), some (.int a2), some (.int a3), some (.int a4), some (.int a5), some (.int a6), z7, z8] [.long q0] σ =
    (bif obl (a5 ≤ a6) then (bif obl ((a4.toInt64) = lN 0) then none else (bif obl ((a4.toInt64) = lN 0) then none else (bif is01 (nI 1) then some (.inl (some (.int (nI 1)), (wFL (wFL σ 85 91 ((q0 * ((nI 0).toInt64)) / (a4.toInt64))) 85 92 ((q0 * ((a5 + a6).toInt64)) / (a4.toInt64))))) else none))) else (bif obl ((a4.toInt64) = lN 0) then none else (bif obl ((a4.toInt64) = lN 0) then none else (bif is01 (nI 1) then some (.inl (some (.int (nI 1)), (wFL (wFL σ 85 91 ((q0 * ((a5 - a6).toInt64)) / (a4.toInt64))) 85 92 ((q0 * ((a5 + a6).toInt64)) / (a4.toInt64))))) else none)))) := by
  rw [Run_go [9, 94, 125] 30]
  rfl
theorem s262_0 {d : Nat} {a1 : Int32} {a2 : Int32} {a3 : Int32} {a4 : Int32} {σ : PS} : Run false (d + 1) 262 0 [some (.ref 85), some (.int a1), some (.int a2), some (.int a3), some (.int a4)] [] σ =
    aft false (d + 1) 262 10 [some (.ref 85), some (.int a1), some (.int a2), some (.int a3), some (.int a4)] [] (Run false d 206 0 [some (.ref 85), some (.int a1)] [] (wFI σ 85 0 (nI 0))) := by
  rw [Run_go [10, 18, 25, 35, 47, 59] 7]
  rfl
theorem s262_10 {d : Nat} {a1 : Int32} {a2 : Int32} {a3 : Int32} {a4 : Int32} {r0 : Int32} {σ : PS} : Run false (d + 1) 262 10 [some (.ref 85), some (.int a1), some (.int a2), some (.int a3), some (.int a4)] [.int r0] σ =
    (bif obl (r0 = (nI 0)) then some (.inl (some (.int (nI 0)), σ)) else aft false (d + 1) 262 18 [some (.ref 85), some (.int a1), some (.int a2), some (.int a3), some (.int a4)] [.ref 85] (Run false d 169 0 [some (.int a2)] [] σ)) := by
  rw [Run_go [10, 18, 25, 35, 47, 59] 5]
  rfl
theorem s262_18 {d : Nat} {a1 : Int32} {a2 : Int32} {a3 : Int32} {a4 : Int32} {r1 : Int32} {σ : PS} : Run false (d + 1) 262 18 [some (.ref 85), some (.int a1), some (.int a2), some (.int a3), some (.int a4)] [.int r1, .ref 85] σ =
    (bif obl (r1 = (nI 0)) then aft false (d + 1) 262 47 [some (.ref 85), some (.int a1), some (.int a2), some (.int a3), some (.int a4)] [] (Run false d 165 0 [some (.ref 85), some (.int (nI 0)), some (.int (nI 2))] [] σ) else aft false (d + 1) 262 25 [some (.ref 85), some (.int a1), some (.int a2), some (.int a3), some (.int a4)] [.ref 85] (Run false d 170 0 [some (.int a3)] [] σ)) := by
  rw [Run_go [10, 18, 25, 35, 47, 59] 5]
  rfl
theorem s262_25 {d : Nat} {a1 : Int32} {a2 : Int32} {a3 : Int32} {a4 : Int32} {r1 : Int32} {σ : PS} : Run false (d + 1) 262 25 [some (.ref 85), some (.int a1), some (.int a2), some (.int a3), some (.int a4)] [.int r1, .ref 85] σ =
    (bif obl (r1 = (nI 0)) then aft false (d + 1) 262 47 [some (.ref 85), some (.int a1), some (.int a2), some (.int a3), some (.int a4)] [] (Run false d 165 0 [some (.ref 85), some (.int (nI 0)), some (.int (nI 2))] [] σ) else aft false (d + 1) 262 35 [some (.ref 85), some (.int a1), some (.int a2), some (.int a3), some (.int a4)] [.ref 85] (Run false d 166 0 [some (.int a4), some (.int (nI 0)), some (.int (nI 1))] [] σ)) := by
  rw [Run_go [10, 18, 25, 35, 47, 59] 6]
  rfl
theorem s262_35 {d : Nat} {a1 : Int32} {a2 : Int32} {a3 : Int32} {a4 : Int32} {r1 : Int32} {σ : PS} : Run false (d + 1) 262 35 [some (.ref 85), some (.int a1), some (.int a2), some (.int a3), some (.int a4)] [.int r1, .ref 85] σ =
    (bif obl (r1 = (nI 0)) then aft false (d + 1) 262 47 [some (.ref 85), some (.int a1), some (.int a2), some (.int a3), some (.int a4)] [] (Run false d 165 0 [some (.ref 85), some (.int (nI 0)), some (.int (nI 2))] [] σ) else aft false (d + 1) 262 47 [some (.ref 85), some (.int a1), some (.int a2), some (.int a3), some (.int a4)] [] (Run false d 165 0 [some (.ref 85), some (.int (nI 1)), some (.int (nI 2))] [] σ)) := by
  rw [Run_go [10, 18, 25, 35, 47, 59] 6]
  rfl
theorem s262_47 {d : Nat} {a1 : Int32} {a2 : Int32} {a3 : Int32} {a4 : Int32} {r0 : Int32} {σ : PS} : Run false (d + 1) 262 47 [some (.ref 85), some (.int a1), some (.int a2), some (.int a3), some (.int a4)] [.int r0] σ =
    (bif obl (r0 = (nI 0)) then some (.inl (some (.int (nI 0)), σ)) else aft false (d + 1) 262 59 [some (.ref 85), some (.int a1), some (.int a2), some (.int a3), some (.int a4)] [] (Run false d 261 0 [some (.ref 85), some (.int a1), some (.int a2), some (.int a3), none, none, none, none, none] [] σ)) := by
  rw [Run_go [10, 18, 25, 35, 47, 59] 7]
  rfl
set_option maxRecDepth 100000 in
theorem s262_59 {d : Nat} {a1 : Int32} {a2 : Int32} {a3 : Int32} {a4 : Int32} {r0 : Int32} {σ : PS} : Run false (d + 1) 262 59 [some (.ref 85), some (.int a1), some (.int a2), some (.int a3), some (.int a4)] [.int r0] σ =
    (bif obl (r0 = (nI 0)) then some (.inl (some (.int (-1 : Int32)), σ)) else (bif obl (a4 = (nI 0)) then some (.inl (some (.int ((FL σ 85 91).toInt32)), σ)) else some (.inl (some (.int ((FL σ 85 92).toInt32)), σ)))) := by
  rw [Run_go [10, 18, 25, 35, 47, 59] 9]
  rfl
theorem s263_0 {d : Nat} {a1 : Int32} {a2 : Int32} {a3 : Int32} {σ : PS} : Run false (d + 1) 263 0 [some (.ref 85), some (.int a1), some (.int a2), some (.int a3), none, none] [] σ =
    aft false (d + 1) 263 7 [some (.ref 85), some (.int a1), some (.int a2), some (.int a3), none, none] [] (Run false d 261 0 [some (.ref 85), some (.int a1), some (.int a2), some (.int a3), none, none, none, none, none] [] σ) := by
  rw [Run_go [7, 27] 6]
  rfl
set_option maxRecDepth 100000 in
theorem s263_7 {d : Nat} {a1 : Int32} {a2 : Int32} {a3 : Int32} {z4 : Option Value} {z5 : Option Value} {r0 : Int32} {σ : PS} : Run false (d + 1) 263 7 [some (.ref 85), some (.int a1), some (.int a2), some (.int a3), z4, z5] [.int r0] σ =
    (bif obl (r0 = (nI 0)) then some (.inl (some (.int (nI 0)), σ)) else aft false (d + 1) 263 27 [some (.ref 85), some (.int a1), some (.int a2), some (.int a3), z4, z5] [.long (FL σ 85 91)] (Run false d 219 0 [some (.ref 85), some (.int a1), some (.int a2), some (.int a3), some (.int (FI σ 85 1)), none, none] [] σ)) := by
  rw [Run_go [7, 27] 11]
  rfl
set_option maxRecDepth 100000 in
theorem s263_27 {d : Nat} {a1 : Int32} {a2 : Int32} {a3 : Int32} {z4 : Option Value} {z5 : Option Value} {q0 : Int64} {r1 : Int32} {σ : PS} : Run false (d + 1) 263 27 [some (.ref 85), some (.int a1), some (.int a2), some (.int a3), z4, z5] [.int r1, .long q0] σ =
    (bif obl ((nI 0) ≤ (lg_cmp (q0 - (r1.toInt64)) (lN 0))) then some (.inl (some (.int ((q0 - (r1.toInt64)).toInt32)), σ)) else some (.inl (some (.int (nI 0)), σ))) := by
  rw [Run_go [7, 27] 11]
  rfl
theorem s264_0 {d : Nat} {a1 : Int32} {a2 : Int32} {a3 : Int32} {σ : PS} : Run false (d + 1) 264 0 [some (.ref 85), some (.int a1), some (.int a2), some (.int a3)] [] σ =
    aft false (d + 1) 264 10 [some (.ref 85), some (.int a1), some (.int a2), some (.int a3)] [] (Run false d 206 0 [some (.ref 85), some (.int a1)] [] (wFI σ 85 0 (nI 0))) := by
  rw [Run_go [10, 18, 25, 37, 49] 7]
  rfl
theorem s264_10 {d : Nat} {a1 : Int32} {a2 : Int32} {a3 : Int32} {r0 : Int32} {σ : PS} : Run false (d + 1) 264 10 [some (.ref 85), some (.int a1), some (.int a2), some (.int a3)] [.int r0] σ =
    (bif obl (r0 = (nI 0)) then some (.inl (some (.int (nI 0)), σ)) else aft false (d + 1) 264 18 [some (.ref 85), some (.int a1), some (.int a2), some (.int a3)] [.ref 85] (Run false d 169 0 [some (.int a2)] [] σ)) := by
  rw [Run_go [10, 18, 25, 37, 49] 5]
  rfl
theorem s264_18 {d : Nat} {a1 : Int32} {a2 : Int32} {a3 : Int32} {r1 : Int32} {σ : PS} : Run false (d + 1) 264 18 [some (.ref 85), some (.int a1), some (.int a2), some (.int a3)] [.int r1, .ref 85] σ =
    (bif obl (r1 = (nI 0)) then aft false (d + 1) 264 37 [some (.ref 85), some (.int a1), some (.int a2), some (.int a3)] [] (Run false d 165 0 [some (.ref 85), some (.int (nI 0)), some (.int (nI 2))] [] σ) else aft false (d + 1) 264 25 [some (.ref 85), some (.int a1), some (.int a2), some (.int a3)] [.ref 85] (Run false d 170 0 [some (.int a3)] [] σ)) := by
  rw [Run_go [10, 18, 25, 37, 49] 5]
  rfl
theorem s264_25 {d : Nat} {a1 : Int32} {a2 : Int32} {a3 : Int32} {r1 : Int32} {σ : PS} : Run false (d + 1) 264 25 [some (.ref 85), some (.int a1), some (.int a2), some (.int a3)] [.int r1, .ref 85] σ =
    (bif obl (r1 = (nI 0)) then aft false (d + 1) 264 37 [some (.ref 85), some (.int a1), some (.int a2), some (.int a3)] [] (Run false d 165 0 [some (.ref 85), some (.int (nI 0)), some (.int (nI 2))] [] σ) else aft false (d + 1) 264 37 [some (.ref 85), some (.int a1), some (.int a2), some (.int a3)] [] (Run false d 165 0 [some (.ref 85), some (.int (nI 1)), some (.int (nI 2))] [] σ)) := by
  rw [Run_go [10, 18, 25, 37, 49] 6]
  rfl
theorem s264_37 {d : Nat} {a1 : Int32} {a2 : Int32} {a3 : Int32} {r0 : Int32} {σ : PS} : Run false (d + 1) 264 37 [some (.ref 85), some (.int a1), some (.int a2), some (.int a3)] [.int r0] σ =
    (bif obl (r0 = (nI 0)) then some (.inl (some (.int (nI 0)), σ)) else aft false (d + 1) 264 49 [some (.ref 85), some (.int a1), some (.int a2), some (.int a3)] [] (Run false d 263 0 [some (.ref 85), some (.int a1), some (.int a2), some (.int a3), none, none] [] σ)) := by
  rw [Run_go [10, 18, 25, 37, 49] 7]
  rfl
theorem s264_49 {d : Nat} {a1 : Int32} {a2 : Int32} {a3 : Int32} {r0 : Int32} {σ : PS} : Run false (d + 1) 264 49 [some (.ref 85), some (.int a1), some (.int a2), some (.int a3)] [.int r0] σ =
    some (.inl (some (.int r0), σ)) := by
  rw [Run_go [10, 18, 25, 37, 49] 2]
  rfl
theorem s265_0 {d : Nat} {a1 : Int32} {σ : PS} : Run false (d + 1) 265 0 [some (.ref 85), some (.int a1), none, none, none, none, none] [] σ =
    aft false (d + 1) 265 10 [some (.ref 85), some (.int a1), none, none, none, none, none] [.ref 85] (Run false d 170 0 [some (.int a1)] [] (wFI σ 85 0 (nI 0))) := by
  rw [Run_go [10, 14, 26, 38, 53] 7]
  rfl
theorem s265_10 {d : Nat} {a1 : Int32} {z2 : Option Value} {z3 : Option Value} {z4 : Option Value} {z5 : Option Value} {z6 : Option Value} {r1 : Int32} {σ : PS} : Run false (d + 1) 265 10 [some (.ref 85), some (.int a1), z2, z3, z4, z5, z6] [.int r1, .ref 85] σ =
    aft false (d + 1) 265 14 [some (.ref 85), some (.int a1), z2, z3, z4, z5, z6] [] (Run false d 165 0 [some (.ref 85), some (.int r1), some (.int (nI 1))] [] σ) := by
  rw [Run_go [10, 14, 26, 38, 53] 3]
  rfl
set_option maxRecDepth 100000 in
theorem s265_14 {d : Nat} {a1 : Int32} {z2 : Option Value} {z3 : Option Value} {z4 : Option Value} {z5 : Option Value} {z6 : Option Value} {r0 : Int32} {σ : PS} : Run false (d + 1) 265 14 [some (.ref 85), some (.int a1), z2, z3, z4, z5, z6] [.int r0] σ =
    (bif obl (r0 = (nI 0)) then some (.inl (some (.int (nI 0)), σ)) else Run false (d + 1) 265 26 [some (.ref 85), some (.int a1), some (.int (-1 : Int32)), some (.int (nI 0)), some (.int (nI 0)), z5, z6] [] σ) := by
  rw [Run_go [10, 14, 26, 38, 53] 8]
  rfl
theorem s265_26 {d : Nat} {a1 : Int32} {a2 : Int32} {a3 : Int32} {a4 : Int32} {z5 : Option Value} {z6 : Option Value} {σ : PS} : Run false (d + 1) 265 26 [some (.ref 85), some (.int a1), some (.int a2), some (.int a3), some (.int a4), z5, z6] [] σ =
    (bif obl ((FI σ 85 29) ≤ a4) then some (.inl (some (.int a2), σ)) else Run false (d + 1) 265 38 [some (.ref 85), some (.int a1), some (.int a2), some (.int a3), some (.int a4), some (.int (nI 0)), z6] [] σ) := by
  rw [Run_go [10, 14, 26, 38, 53] 7]
  rfl
set_option maxRecDepth 100000 in
theorem s265_38 {d : Nat} {a1 : Int32} {a2 : Int32} {a3 : Int32} {a4 : Int32} {a5 : Int32} {z6 : Option Value} {σ : PS} : Run false (d + 1) 265 38 [some (.ref 85), some (.int a1), some (.int a2), some (.int a3), some (.int a4), some (.int a5), z6] [] σ =
    (bif obl ((nI 5) ≤ a5) then Run false (d + 1) 265 26 [some (.ref 85), some (.int a1), some (.int a2), some (.int a3), some (.int (a4 + (nI 1))), some (.int a5), z6] [] σ else aft false (d + 1) 265 53 [some (.ref 85), some (.int a1), some (.int a2), some (.int a3), some (.int a4), some (.int a5), z6] [] (Run false d 263 0 [some (.ref 85), some (.int a4), some (.int a5), some (.int a1), none, none] [] σ)) := by
  rw [Run_go [10, 14, 26, 38, 53] 9]
  rfl
set_option maxRecDepth 100000 in
theorem s265_53 {d : Nat} {a1 : Int32} {a2 : Int32} {a3 : Int32} {a4 : Int32} {a5 : Int32} {z6 : Option Value} {r0 : Int32} {σ : PS} : Run false (d + 1) 265 53 [some (.ref 85), some (.int a1), some (.int a2), some (.int a3), some (.int a4), some (.int a5), z6] [.int r0] σ =
    (bif obl (a3 < r0) then Run false (d + 1) 265 38 [some (.ref 85), some (.int a1), some (.int (((nI 10) * a4) + a5)), some (.int r0), some (.int a4), some (.int (a5 + (nI 1))), some (.int r0)] [] σ else Run false (d + 1) 265 38 [some (.ref 85), some (.int a1), some (.int a2), some (.int a3), some (.int a4), some (.int (a5 + (nI 1))), some (.int r0)] [] σ) := by
  rw [Run_go [10, 14, 26, 38, 53] 15]
  rfl
theorem s266_0 {d : Nat} {a1 : Int32} {a2 : Int32} {σ : PS} : Run false (d + 1) 266 0 [some (.ref 85), some (.int a1), some (.int a2), none, none, none, none, none, none] [] σ =
    aft false (d + 1) 266 10 [some (.ref 85), some (.int a1), some (.int a2), none, none, none, none, none, none] [] (Run false d 206 0 [some (.ref 85), some (.int a1)] [] (wFI σ 85 0 (nI 0))) := by
  rw [Run_go [10, 18, 22, 37, 51, 73] 7]
  rfl
theorem s266_10 {d : Nat} {a1 : Int32} {a2 : Int32} {z3 : Option Value} {z4 : Option Value} {z5 : Option Value} {z6 : Option Value} {z7 : Option Value} {z8 : Option Value} {r0 : Int32} {σ : PS} : Run false (d + 1) 266 10 [some (.ref 85), some (.int a1), some (.int a2), z3, z4, z5, z6, z7, z8] [.int r0] σ =
    (bif obl (r0 = (nI 0)) then some (.inl (some (.int (nI 0)), σ)) else aft false (d + 1) 266 18 [some (.ref 85), some (.int a1), some (.int a2), z3, z4, z5, z6, z7, z8] [.ref 85] (Run false d 170 0 [some (.int a2)] [] σ)) := by
  rw [Run_go [10, 18, 22, 37, 51, 73] 5]
  rfl
theorem s266_18 {d : Nat} {a1 : Int32} {a2 : Int32} {z3 : Option Value} {z4 : Option Value} {z5 : Option Value} {z6 : Option Value} {z7 : Option Value} {z8 : Option Value} {r1 : Int32} {σ : PS} : Run false (d + 1) 266 18 [some (.ref 85), some (.int a1), some (.int a2), z3, z4, z5, z6, z7, z8] [.int r1, .ref 85] σ =
    aft false (d + 1) 266 22 [some (.ref 85), some (.int a1), some (.int a2), z3, z4, z5, z6, z7, z8] [] (Run false d 165 0 [some (.ref 85), some (.int r1), some (.int (nI 2))] [] σ) := by
  rw [Run_go [10, 18, 22, 37, 51, 73] 3]
  rfl
set_option maxRecDepth 100000 in
theorem s266_22 {d : Nat} {a1 : Int32} {a2 : Int32} {z3 : Option Value} {z4 : Option Value} {z5 : Option Value} {z6 : Option Value} {z7 : Option Value} {z8 : Option Value} {r0 : Int32} {σ : PS} : Run false (d + 1) 266 22 [some (.ref 85), some (.int a1), some (.int a2), z3, z4, z5, z6, z7, z8] [.int r0] σ =
    (bif obl (r0 = (nI 0)) then some (.inl (some (.int (nI 0)), σ)) else Run false (d + 1) 266 37 [some (.ref 85), some (.int a1), some (.int a2), some (.int (nI 0)), some (.long (-1 : Int64)), none, some (.int (nI 0)), z7, z8] [] σ) := by
  rw [Run_go [10, 18, 22, 37, 51, 73] 8]
  rfl
set_option maxRecDepth 100000 in
theorem s266_37 {d : Nat} {a1 : Int32} {a2 : Int32} {a3 : Int32} {b4 : Int64} {a6 : Int32} {z7 : Option Value} {z8 : Option Value} {σ : PS} : Run false (d + 1) 266 37 [some (.ref 85), some (.int a1), some (.int a2), some (.int a3), some (.long b4), none, some (.int a6), z7, z8] [] σ =
    (bif obl ((nI 5) ≤ a6) then some (.inl (some (.int a3), σ)) else aft false (d + 1) 266 51 [some (.ref 85), some (.int a1), some (.int a2), some (.int a3), some (.long b4), none, some (.int a6), z7, z8] [] (Run false d 261 0 [some (.ref 85), some (.int a1), some (.int a6), some (.int a2), none, none, none, none, none] [] σ)) := by
  rw [Run_go [10, 18, 22, 37, 51, 73] 9]
  rfl
set_option maxRecDepth 100000 in
theorem s266_51 {d : Nat} {a1 : Int32} {a2 : Int32} {a3 : Int32} {b4 : Int64} {a6 : Int32} {z7 : Option Value} {z8 : Option Value} {r0 : Int32} {σ : PS} : Run false (d + 1) 266 51 [some (.ref 85), some (.int a1), some (.int a2), some (.int a3), some (.long b4), none, some (.int a6), z7, z8] [.int r0] σ =
    (bif obl (r0 = (nI 0)) then aft false (d + 1) 266 73 [some (.ref 85), some (.int a1), some (.int a2), some (.int a3), some (.long b4), none, some (.int a6), z7, z8] [] (Run false d 260 0 [some (.ref 85), some (.int a6), some (.int a2), none, none, none] [] σ) else Run false (d + 1) 266 73 [some (.ref 85), some (.int a1), some (.int a2), some (.int a3), some (.long b4), none, some (.int a6), z7, z8] [.long ((FL σ 85 92) - (FL σ 85 91))] σ) := by
  rw [Run_go [10, 18, 22, 37, 51, 73] 8]
  rfl
set_option maxRecDepth 100000 in
theorem s266_73 {d : Nat} {a1 : Int32} {a2 : Int32} {a3 : Int32} {b4 : Int64} {a6 : Int32} {z7 : Option Value} {z8 : Option Value} {q0 : Int64} {σ : PS} : Run false (d + 1) 266 73 [some (.ref 85), some (.int a1), some (.int a2), some (.int a3), some (.long b4), none, some (.int a6), z7, z8] [.long q0] σ =
    (bif obl ((nI 0) < (lg_cmp q0 b4)) then Run false (d + 1) 266 37 [some (.ref 85), some (.int a1), some (.int a2), some (.int a6), some (.long q0), none, some (.int (a6 + (nI 1))), some (.long q0), none] [] σ else Run false (d + 1) 266 37 [some (.ref 85), some (.int a1), some (.int a2), some (.int a3), some (.long b4), none, some (.int (a6 + (nI 1))), some (.long q0), none] [] σ) := by
  rw [Run_go [10, 18, 22, 37, 51, 73] 12]
  rfl
set_option maxRecDepth 100000 in
theorem s267_0 {d : Nat} {a1 : Int32} {σ : PS} : Run false (d + 1) 267 0 [some (.ref 85), some (.int a1), none, none] [] σ =
    Run false (d + 1) 267 (tswF 8 193 0 12 #[68, 73, 78, 83, 88, 93, 98, 103, 108, 143, 178, 183, 188] a1) [some (.ref 85), some (.int a1), some (.int (nI 0)), none] [] (wFI σ 85 0 (nI 0)) := by
  rw [Run_go [76, 81, 86, 91, 96, 101, 106, 111, 116, 118, 151, 153, 186, 191, 196, 201] 8]
  rfl
theorem s267_76 {d : Nat} {a1 : Int32} {a2 : Int32} {z3 : Option Value} {σ : PS} : Run false (d + 1) 267 76 [some (.ref 85), some (.int a1), some (.int a2), z3] [] σ =
    some (.inl (some (.int (FI σ 85 1)), σ)) := by
  rw [Run_go [76, 81, 86, 91, 96, 101, 106, 111, 116, 118, 151, 153, 186, 191, 196, 201] 4]
  rfl
theorem s267_81 {d : Nat} {a1 : Int32} {a2 : Int32} {z3 : Option Value} {σ : PS} : Run false (d + 1) 267 81 [some (.ref 85), some (.int a1), some (.int a2), z3] [] σ =
    some (.inl (some (.int (FI σ 85 10)), σ)) := by
  rw [Run_go [76, 81, 86, 91, 96, 101, 106, 111, 116, 118, 151, 153, 186, 191, 196, 201] 4]
  rfl
theorem s267_86 {d : Nat} {a1 : Int32} {a2 : Int32} {z3 : Option Value} {σ : PS} : Run false (d + 1) 267 86 [some (.ref 85), some (.int a1), some (.int a2), z3] [] σ =
    some (.inl (some (.int (FI σ 85 29)), σ)) := by
  rw [Run_go [76, 81, 86, 91, 96, 101, 106, 111, 116, 118, 151, 153, 186, 191, 196, 201] 4]
  rfl
theorem s267_91 {d : Nat} {a1 : Int32} {a2 : Int32} {z3 : Option Value} {σ : PS} : Run false (d + 1) 267 91 [some (.ref 85), some (.int a1), some (.int a2), z3] [] σ =
    some (.inl (some (.int (FI σ 85 30)), σ)) := by
  rw [Run_go [76, 81, 86, 91, 96, 101, 106, 111, 116, 118, 151, 153, 186, 191, 196, 201] 4]
  rfl
theorem s267_96 {d : Nat} {a1 : Int32} {a2 : Int32} {z3 : Option Value} {σ : PS} : Run false (d + 1) 267 96 [some (.ref 85), some (.int a1), some (.int a2), z3] [] σ =
    some (.inl (some (.int (FI σ 85 39)), σ)) := by
  rw [Run_go [76, 81, 86, 91, 96, 101, 106, 111, 116, 118, 151, 153, 186, 191, 196, 201] 4]
  rfl
theorem s267_101 {d : Nat} {a1 : Int32} {a2 : Int32} {z3 : Option Value} {σ : PS} : Run false (d + 1) 267 101 [some (.ref 85), some (.int a1), some (.int a2), z3] [] σ =
    some (.inl (some (.int (FI σ 85 52)), σ)) := by
  rw [Run_go [76, 81, 86, 91, 96, 101, 106, 111, 116, 118, 151, 153, 186, 191, 196, 201] 4]
  rfl
theorem s267_106 {d : Nat} {a1 : Int32} {a2 : Int32} {z3 : Option Value} {σ : PS} : Run false (d + 1) 267 106 [some (.ref 85), some (.int a1), some (.int a2), z3] [] σ =
    some (.inl (some (.int (FI σ 85 62)), σ)) := by
  rw [Run_go [76, 81, 86, 91, 96, 101, 106, 111, 116, 118, 151, 153, 186, 191, 196, 201] 4]
  rfl
theorem s267_111 {d : Nat} {a1 : Int32} {a2 : Int32} {z3 : Option Value} {σ : PS} : Run false (d + 1) 267 111 [some (.ref 85), some (.int a1), some (.int a2), z3] [] σ =
    some (.inl (some (.int (FI σ 85 63)), σ)) := by
  rw [Run_go [76, 81, 86, 91, 96, 101, 106, 111, 116, 118, 151, 153, 186, 191, 196, 201] 4]
  rfl
theorem s267_116 {d : Nat} {a1 : Int32} {a2 : Int32} {z3 : Option Value} {σ : PS} : Run false (d + 1) 267 116 [some (.ref 85), some (.int a1), some (.int a2), z3] [] σ =
    Run false (d + 1) 267 118 [some (.ref 85), some (.int a1), some (.int a2), some (.int (nI 0))] [] σ := by
  rw [Run_go [76, 81, 86, 91, 96, 101, 106, 111, 116, 118, 151, 153, 186, 191, 196, 201] 3]
  rfl
set_option maxRecDepth 100000 in
theorem s267_118 {d : Nat} {a1 : Int32} {a2 : Int32} {a3 : Int32} {σ : PS} : Run false (d + 1) 267 118 [some (.ref 85), some (.int a1), some (.int a2), some (.int a3)] [] σ =
    (bif obl ((FI σ 85 63) ≤ a3) then some (.inl (some (.int a2), σ)) else (bif inb a3 100 then (bif obl ((AI σ 132 a3.toNatClampNeg) = (nI 0)) then Run false (d + 1) 267 118 [some (.ref 85), some (.int a1), some (.int (a2 + (nI 0))), some (.int (a3 + (nI 1)))] [] σ else Run false (d + 1) 267 118 [some (.ref 85), some (.int a1), some (.int (a2 + (nI 1))), some (.int (a3 + (nI 1)))] [] σ) else none)) := by
  rw [Run_go [76, 81, 86, 91, 96, 101, 106, 111, 116, 118, 151, 153, 186, 191, 196, 201] 17]
  rfl
theorem s267_151 {d : Nat} {a1 : Int32} {a2 : Int32} {z3 : Option Value} {σ : PS} : Run false (d + 1) 267 151 [some (.ref 85), some (.int a1), some (.int a2), z3] [] σ =
    Run false (d + 1) 267 153 [some (.ref 85), some (.int a1), some (.int a2), some (.int (nI 0))] [] σ := by
  rw [Run_go [76, 81, 86, 91, 96, 101, 106, 111, 116, 118, 151, 153, 186, 191, 196, 201] 3]
  rfl
set_option maxRecDepth 100000 in
theorem s267_153 {d : Nat} {a1 : Int32} {a2 : Int32} {a3 : Int32} {σ : PS} : Run false (d + 1) 267 153 [some (.ref 85), some (.int a1), some (.int a2), some (.int a3)] [] σ =
    (bif obl ((FI σ 85 75) ≤ a3) then some (.inl (some (.int a2), σ)) else (bif inb a3 12 then (bif obl ((AI σ 139 a3.toNatClampNeg) = (nI 0)) then Run false (d + 1) 267 153 [some (.ref 85), some (.int a1), some (.int (a2 + (nI 1))), some (.int (a3 + (nI 1)))] [] σ else Run false (d + 1) 267 153 [some (.ref 85), some (.int a1), some (.int (a2 + (nI 0))), some (.int (a3 + (nI 1)))] [] σ) else none)) := by
  rw [Run_go [76, 81, 86, 91, 96, 101, 106, 111, 116, 118, 151, 153, 186, 191, 196, 201] 17]
  rfl
theorem s267_186 {d : Nat} {a1 : Int32} {a2 : Int32} {z3 : Option Value} {σ : PS} : Run false (d + 1) 267 186 [some (.ref 85), some (.int a1), some (.int a2), z3] [] σ =
    some (.inl (some (.int (FI σ 85 85)), σ)) := by
  rw [Run_go [76, 81, 86, 91, 96, 101, 106, 111, 116, 118, 151, 153, 186, 191, 196, 201] 4]
  rfl
theorem s267_191 {d : Nat} {a1 : Int32} {a2 : Int32} {z3 : Option Value} {σ : PS} : Run false (d + 1) 267 191 [some (.ref 85), some (.int a1), some (.int a2), z3] [] σ =
    some (.inl (some (.int (FI σ 85 2)), σ)) := by
  rw [Run_go [76, 81, 86, 91, 96, 101, 106, 111, 116, 118, 151, 153, 186, 191, 196, 201] 4]
  rfl
theorem s267_196 {d : Nat} {a1 : Int32} {a2 : Int32} {z3 : Option Value} {σ : PS} : Run false (d + 1) 267 196 [some (.ref 85), some (.int a1), some (.int a2), z3] [] σ =
    some (.inl (some (.int (FI σ 85 53)), σ)) := by
  rw [Run_go [76, 81, 86, 91, 96, 101, 106, 111, 116, 118, 151, 153, 186, 191, 196, 201] 4]
  rfl
theorem s267_201 {d : Nat} {a1 : Int32} {a2 : Int32} {z3 : Option Value} {σ : PS} : Run false (d + 1) 267 201 [some (.ref 85), some (.int a1), some (.int a2), z3] [] σ =
    some (.inl (some (.int (-1 : Int32)), σ)) := by
  rw [Run_go [76, 81, 86, 91, 96, 101, 106, 111, 116, 118, 151, 153, 186, 191, 196, 201] 3]
  rfl
